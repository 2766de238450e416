/-! open: all that is on the way is forgotten -/
theorem fg_loop {own : Nat → Nat} {P : List (Nat × Nat)} {S : List Nat} {c1 c2 K : Nat} {σ : CS} {ρ : RS} (N : NB own P [] S c1 c2 K σ ρ) : ∀ (rest done : List Nat) (n : Nat) (v : Int32) (σi : CS) (owi : Nat → Nat) (ci : Nat), done ++ rest = P.map Prod.fst → rest.length < n → v.toInt = (done.length : Int) → AL owi σi 5 (P.map Prod.fst) c1 → AL owi σi 6 (S ++ done) ci → fr (fun x => own x ≠ 51 ∧ own x ≠ 99) σ σi → Ow owi σi → (∀ x, own x ≠ 99 → owi x = own x) → cU σi + 4 * c2 ≤ cU σ + 4 * ci → 3 * cX σi + cU σ ≤ 3 * cX σ + cU σi →
    ∃ σ' own' c2', lq2 F_N_forgetAll_2 n v σi = some σ' ∧ AL own' σ' 5 [] c1 ∧ AL own' σ' 6 (S ++ P.map Prod.fst) c2' ∧ fr (fun x => own x ≠ 50 ∧ own x ≠ 51 ∧ own x ≠ 99) σ σ' ∧ Ow own' σ' ∧ (∀ x, own x ≠ 99 → own' x = own x) ∧ cU σ' + 4 * c2 ≤ cU σ + 4 * c2' ∧ 3 * cX σ' + cU σ ≤ 3 * cX σ + cU σ' := by
  have NN := N
  obtain ⟨⟨n1, n2, n3, n4, n5, n6, n7, n8, n9, n10, n11, n12, n13⟩, hc, O, ⟨B1, B2, B3⟩, hb⟩ := N
  have hbud := NN.1.bud NN.2.2.2.1
  have e5 : own 5 = 50 := O.2.2 5 (by decide)
  have e6 : own 6 = 51 := O.2.2 6 (by decide)
  have hPl : (P.map Prod.fst).length ≤ 512 := by rw [List.length_map]; exact n11
  have hSP : (P.map Prod.fst).length + S.length ≤ 513 := by rw [List.length_map]; simp only [List.length_nil] at n13; omega
  have hin : ∀ g ∈ P.map Prod.fst, own g = 60 ∧ kd σ g = 11 := fun g hg => by
    obtain ⟨p1, p2, l, M, p3, _⟩ := n4 g (by unfold ag; exact List.mem_append_left _ hg)
    exact ⟨p1, p3.1⟩
  generalize P.map Prod.fst = L at *
  intro rest
  induction rest with
  | nil =>
    intro done n v σi owi ci hd hn hv a5 a6 F Oi ho hU hX
    obtain ⟨n, rfl⟩ : ∃ m, n = m + 1 := ⟨n - 1, by simp only [List.length_nil] at hn; omega⟩
    rw [List.append_nil] at hd
    subst hd
    obtain ⟨σ', r1, r2, r3, r4, r5⟩ := al_clear a5 (Or.inl rfl) (by rw [ho 5 (by omega)]; omega)
    refine ⟨σ', owi, ci, ?_, r2, a6.fr (by rw [ho 6 (by omega)]; omega) (r3.sub fun x (hx : owi x = 45 + 6) => by omega) (fun x hx => hx), fr.tr (F.sub fun x hx => hx.2) r3 (fun x hx => by rw [ho x hx.2.2]; exact hx.1), ⟨by rw [r4]; exact Oi.1, fun x hx => Oi.2.1 x (by rw [← r4]; exact hx), Oi.2.2⟩, ho, by omega, by omega⟩
    show F_N_forgetAll_2 (lq2 F_N_forgetAll_2 n) v σi = _
    rw [F_N_forgetAll_2, al_size a5 (Or.inl rfl), bc2_e, if_pos (x32_le' (nI_t (by omega)) hv (by omega)), r1, bc_e]
  | cons g rest ih =>
    intro done n v σi owi ci hd hn hv a5 a6 F Oi ho hU hX
    simp only [List.length_cons] at hn
    obtain ⟨n, rfl⟩ : ∃ m, n = m + 1 := ⟨n - 1, by omega⟩
    have hlen : done.length + (rest.length + 1) = L.length := by rw [← hd, List.length_append, List.length_cons]
    have hg : g ∈ L := by rw [← hd]; exact List.mem_append_right _ (List.mem_cons_self)
    obtain ⟨og, kg⟩ := hin g hg
    have hgi : kd σi g = 11 := by rw [(F g ⟨by omega, by omega⟩).2.2.2.2]; exact kg
    have ci9 : ci ≤ 769 := by
      obtain ⟨_, _, ⟨_, z⟩ | ⟨a, _, _, _, _, _, z, _⟩⟩ := a6
      · omega
      · omega
    obtain ⟨σ', own', c', r1, r2, r3, r4, r5, r6, r7, r8⟩ := al_add a6 (Or.inr rfl) Oi hgi (by rw [ho g (by omega)]; omega) (by rw [ho g (by omega)]; omega) (by rw [List.length_append]; omega) (by omega) (by omega)
    have ko := keepO r5
    have ho' : ∀ x, own x ≠ 99 → own' x = own x := fun x hx => by rw [ko x (by rw [ho x hx]; exact hx)]; exact ho x hx
    have hget : m_A_get 5 v σi = some (g, σi) := by
      rw [al_get a5 (Or.inl rfl) hv (by omega)]
      congr 2
      subst hd
      simp
    have hv1 : (v + 1).toInt = ((done ++ [g]).length : Int) := by
      rw [x32_add hv z32_1 (by omega) (by omega), List.length_append]; simp
    obtain ⟨σ2, own2, c2', y1, y2⟩ := ih (done ++ [g]) n (v + 1) σ' own' c' (by rw [← hd]; simp) (by omega) hv1 (a5.fr (by rw [ho 5 (by omega)]; omega) (r3.sub fun x (hx : owi x = 45 + 5) => by omega) (fun x hx => by rw [ko x (by omega)]; exact hx)) (by rw [← List.append_assoc]; exact r2) (fr.tr F r3 (fun x hx => by rw [ho x hx.2]; omega)) r4 ho' (by omega) (by omega)
    refine ⟨σ2, own2, c2', ?_, y2⟩
    show F_N_forgetAll_2 (lq2 F_N_forgetAll_2 n) v σi = _
    rw [F_N_forgetAll_2, al_size a5 (Or.inl rfl), bc2_e, if_neg (x32_nle (nI_t (by omega)) hv (by omega)), hget, bc2_e, gd_t hgi, r1, bc2_e, bd_e, y1]
theorem rg_loop {v1 v2 : Int32} : ∀ (P : List (Nat × Nat)) (n : Nat) (ρ : RS), P.length ≤ 512 → P.length < n → ρ.1 0 10 = nI P.length → (∀ i (h : i < P.length), ρ.1 5 i = nI (P[i]).2) → (∀ p ∈ P, p.2 < 513) →
    ∃ ρ' m, lq3 F_open_15 n v1 v2 ρ = lq3 F_open_15 (m + 1) v1 v2 ρ' ∧ NFr ρ ρ' ∧ ρ'.1 0 10 = 0 ∧ (∀ k, ρ'.1 6 k = if k ∈ P.map Prod.snd then 0 else ρ.1 6 k) ∧ (∀ r, 2 ≤ r → r ≤ 4 → ρ'.1 r = ρ.1 r) ∧ ρ'.1 0 5 = ρ.1 0 5 := by
  intro P
  induction P with
  | nil =>
    intro n ρ _ hn h10 _ _
    obtain ⟨n, rfl⟩ : ∃ m, n = m + 1 := ⟨n - 1, by simp only [List.length_nil] at hn; omega⟩
    exact ⟨ρ, n, rfl, ⟨rfl, fun _ _ => rfl, fun _ _ _ => rfl⟩, h10, fun k => by simp, fun _ _ _ => rfl, rfl⟩
  | cons p P ih =>
    intro n ρ hP hn h10 h5 hs
    obtain ⟨n, rfl⟩ : ∃ m, n = m + 1 := ⟨n - 1, by omega⟩
    simp only [List.length_cons] at hP hn
    obtain ⟨ρ1, t1, t2, t3, t4, t5, t6, t7, t8, t9⟩ := rrem (k := 0) (N := P.length + 1) (s := p.2) (v := 0) z32_0 (by omega) (by omega) (by rw [h10, List.length_cons]) (h5 0 (by simp)) (hs p List.mem_cons_self)
    obtain ⟨ρ', m, y1, y2, y3, y4, y5, y6⟩ := ih n ρ1 (by omega) (by omega) (by rw [t5]; rfl) (fun i hi => by
      rw [t7 i (by omega) (by omega), h5 (i + 1) (by rw [List.length_cons]; omega)]; simp) (fun x hx => hs x (List.mem_cons_of_mem _ hx))
    refine ⟨ρ', m, ?_, ⟨by rw [y2.1, t2], fun r hr => by rw [y2.2.1 r hr, t3 r (by omega) (by omega) (by omega)], fun j a b => by rw [y2.2.2 j a b, t4 j b]⟩, y3, fun k => ?_, fun r a b => by rw [y5 r a b, t3 r (by omega) (by omega) (by omega)], by rw [y6, t4 5 (by omega)]⟩
    · show F_open_15 (lq3 F_open_15 n) v1 v2 ρ = _
      rw [F_open_15, bd_e, h10, if_neg (x32_nle (nI_t (by rw [List.length_cons]; omega)) z32_0 (by rw [List.length_cons]; omega)), t1, bc_e, y1]
    · rw [y4 k]
      by_cases hk : k = p.2
      · rw [hk]
        rw [t8, if_pos (show p.2 ∈ (p :: P).map Prod.snd by simp)]
        exact ite_self 0
      · rw [t9 k hk]
        by_cases h2 : k ∈ P.map Prod.snd
        · rw [if_pos h2, if_pos (by rw [List.map_cons]; exact List.mem_cons_of_mem _ h2)]
        · rw [if_neg h2, if_neg (by rw [List.map_cons, List.mem_cons]; exact fun h => h.elim hk h2)]
theorem forget_sim {own : Nat → Nat} {P : List (Nat × Nat)} {S : List Nat} {c1 c2 K : Nat} {σ : CS} {ρ : RS} (N : NB own P [] S c1 c2 K σ ρ) {v1 v2 : Int32} :
    ∃ σ' ρ' own' S' c2' m, m_N_forgetAll σ = some σ' ∧ lq3 F_open_15 fuel v1 v2 ρ = lq3 F_open_15 (m + 1) v1 v2 ρ' ∧ ρ'.1 0 10 = 0 ∧ NB own' [] [] S' c1 c2' K σ' ρ' ∧ fr (fun x => own x < 50) σ σ' ∧ (∀ x, own x ≠ 99 → own' x = own x) ∧ NFr ρ ρ' := by
  have NN := N
  obtain ⟨⟨n1, n2, n3, n4, n5, n6, n7, n8, n9, n10, n11, n12, n13⟩, hc, O, ⟨B1, B2, B3⟩, hb⟩ := N
  obtain ⟨σ', own', c2', r1, r2, r3, r4, r5, r6, r7, r8⟩ := fg_loop NN (P.map Prod.fst) [] fuel 0 σ own c2 rfl (by rw [List.length_map]; unfold fuel; omega) z32_0 n1 (by rw [List.append_nil]; exact n2) fr.rf O (fun _ _ => rfl) (by omega) (by omega)
  obtain ⟨ρ', m, t1, t2, t3, t4, t5, t6⟩ := rg_loop (v1 := v1) (v2 := v2) P fuel ρ n11 (by unfold fuel; omega) n9 n8 (fun p hp => by
    obtain ⟨l, N0, q1, q2, q3, q4, q5⟩ := n3 p (List.mem_append_left _ hp)
    exact q5)
  refine ⟨σ', ρ', own', S ++ P.map Prod.fst, c2', m, r1, t1, t3, NN.re (P' := []) (C' := []) r2 r3 r4 r6 r5 ?_ (fun p hp => by simp at hp) (by simp) (fun k hk => ?_) (fun i hi => by simp at hi) (by rw [t3]; rfl) t5 t6 (by simp) (by simp) (by omega) (by omega), r4.sub (fun x hx => by omega), r6, t2⟩
  · unfold ag
    simp only [List.map_nil, List.nil_append]
    exact List.perm_append_comm
  · rw [t4 k, n7 k hk, List.append_nil]
    by_cases h2 : k ∈ P.map Prod.snd
    · rw [if_pos h2]; simp
    · rw [if_neg h2, if_neg h2]; simp
