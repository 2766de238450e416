/-! segments change hands -/
theorem NB.re {own own' : Nat → Nat} {P C P' C' : List (Nat × Nat)} {S S' : List Nat} {c1 c2 c1' c2' K : Nat} {σ σ' : CS} {ρ ρ' : RS} (h : NB own P C S c1 c2 K σ ρ) (a5 : AL own' σ' 5 (P'.map Prod.fst) c1') (a6 : AL own' σ' 6 S' c2') (F : fr (fun x => own x ≠ 50 ∧ own x ≠ 51 ∧ own x ≠ 99) σ σ') (ho : ∀ x, own x ≠ 99 → own' x = own x) (O' : Ow own' σ') (hag : (ag P' C' S').Perm (ag P C S)) (hpc : ∀ p ∈ P' ++ C', p ∈ P ++ C) (hnd : ((P' ++ C').map Prod.snd).Nodup) (h6 : ∀ k, k < 513 → ρ'.1 6 k = if k ∈ (P' ++ C').map Prod.snd then 1 else 0) (h5 : ∀ i (h : i < P'.length), ρ'.1 5 i = nI (P'[i]).2) (h10 : ρ'.1 0 10 = nI P'.length) (hr : ∀ r, 2 ≤ r → r ≤ 4 → ρ'.1 r = ρ.1 r) (h05 : ρ'.1 0 5 = ρ.1 0 5) (hP : P'.length ≤ 512) (hC : C'.length ≤ 1) (hU : cU σ' + 4 * (c1 + c2) ≤ cU σ + 4 * (c1' + c2')) (hX : 3 * cX σ' + cU σ ≤ 3 * cX σ + cU σ') : NB own' P' C' S' c1' c2' K σ' ρ' := by
  obtain ⟨⟨n1, n2, n3, n4, n5, n6, n7, n8, n9, n10, n11, n12, n13⟩, hc, O, ⟨B1, B2, B3⟩, hb⟩ := h
  have e4 : own 4 = 52 := O.2.2 4 (by decide)
  have old : ∀ x ∈ ag P C S, fr (fun y => y = x ∨ y = ar σ x) σ σ' := fun x hx => by
    obtain ⟨p1, p2, _⟩ := n4 x hx
    refine F.sub fun y hy => ?_
    rcases hy with rfl | rfl
    · omega
    · omega
  have sp : ∀ x ∈ ag P C S, _ := fun x hx => (n4 x hx).fr (old x hx) ho
  have nbe : nb σ' (ag P' C' S') = nb σ (ag P C S) := by
    rw [← nb_congr (fun x hx => (sp x hx).2.2.1)]
    unfold nb
    exact (hag.map _).sum_nat
  refine ⟨⟨a5, a6, ?_, fun x hx => (sp x (hag.mem_iff.mp hx)).1, hag.nodup_iff.mpr n5, hnd, h6, h5, h10, ?_, hP, hC, ?_⟩, ?_, O', ⟨?_, ?_, B3⟩, fun i => by rw [hr 2 (by omega) (by omega)]; exact hb i⟩
  · intro p hp
    have hp := hpc p hp
    obtain ⟨l, N0, q1, q2, q3, q4, q5⟩ := n3 p hp
    obtain ⟨s1, s2, s3, s4, s5, s6, s7⟩ := q1
    have fo := old p.1 (ag_mem S hp)
    obtain ⟨a1, a2, a3, a4, a5⟩ := fo p.1 (Or.inl rfl)
    obtain ⟨b1, b2, b3, b4, b5⟩ := fo (ar σ p.1) (Or.inr rfl)
    have e : ar σ' p.1 = ar σ p.1 := by unfold ar; rw [a3]
    refine ⟨l, N0, ?_, by rw [hr 3 (by omega) (by omega)]; exact q2, by rw [hr 4 (by omega) (by omega), a1]; exact q3, by rw [hr 4 (by omega) (by omega)]; exact q4, q5⟩
    rw [e]
    exact ⟨by rw [a5]; exact s1, by rw [a3]; exact s2, by rw [b5]; exact s3, by rw [a1]; exact s4, by rw [b4]; exact s5, s6, s7⟩
  · rw [h05, (F 4 (by omega)).1]; exact n10
  · rw [← ag_len, hag.length_eq, ag_len]; exact n13
  · intro p hp i hi
    have hp := hpc p hp
    have fo := old p.1 (ag_mem S hp)
    obtain ⟨a1, a2, a3, a4, a5⟩ := fo p.1 (Or.inl rfl)
    obtain ⟨b1, b2, b3, b4, b5⟩ := fo (ar σ p.1) (Or.inr rfl)
    have e : ar σ' p.1 = ar σ p.1 := by unfold ar; rw [a3]
    rw [e, b1]
    rw [a1] at hi
    unfold Sk
    rw [hr 2 (by omega) (by omega)]
    exact hc p hp i hi
  · rw [nbe]; omega
  · omega
theorem era_map {α β : Type} (f : α → β) : ∀ (l : List α) (k : Nat), (l.eraseIdx k).map f = (l.map f).eraseIdx k
  | [], _ => rfl
  | _ :: _, 0 => rfl
  | a :: l, k + 1 => by
    show f a :: (l.eraseIdx k).map f = f a :: (l.map f).eraseIdx k
    rw [era_map f l k]
theorem era_perm {α : Type} : ∀ (l : List α) (k : Nat) (h : k < l.length), (l.eraseIdx k ++ [l[k]]).Perm l
  | [], k, h => absurd h (by simp)
  | a :: l, 0, _ => by
    show (l ++ [a]).Perm (a :: l)
    exact List.perm_append_comm
  | a :: l, k + 1, h => by
    have hl : k < l.length := by simpa using h
    exact (era_perm l k hl).cons a
/-- the reference's shifting -/
theorem rrem_loop : ∀ (r k n : Nat) (N : Nat) (v : Int32) (ρ : RS), k + 1 + r = N → N ≤ 512 → r < n → v.toInt = (k : Int) → ρ.1 0 10 = nI N →
    ∃ ρ', lq2 F_removed_14 n v ρ = some ρ' ∧ ρ'.2 = ρ.2 ∧ (∀ r, r ≠ 5 → r ≠ 0 → ρ'.1 r = ρ.1 r) ∧ (∀ j, j ≠ 10 → ρ'.1 0 j = ρ.1 0 j) ∧ ρ'.1 0 10 = nI (N - 1) ∧ (∀ i, i < k → ρ'.1 5 i = ρ.1 5 i) ∧ ∀ i, k ≤ i → i + 1 < N → ρ'.1 5 i = ρ.1 5 (i + 1) := by
  intro r
  induction r with
  | zero =>
    intro k n N v ρ hN hN5 hn hv h10
    obtain ⟨n, rfl⟩ : ∃ m, n = m + 1 := ⟨n - 1, by omega⟩
    have hNt : (nI N).toInt = (N : Int) := nI_t (by omega)
    refine ⟨si ρ 0 10 (nI (N - 1)), ?_, rfl, fun r _ h0 => funext fun j => si_ne _ _ _ _ (Or.inl h0), fun j hj => si_ne _ _ _ _ (Or.inr hj), si_eq _ _ _ _, fun i _ => si_ne _ _ _ _ (by omega), fun i h1 h2 => by omega⟩
    show F_removed_14 (lq2 F_removed_14 n) v ρ = _
    unfold F_removed_14
    have e1 : nI N - 1 = nI (N - 1) := x32_of (by omega) (by rw [x32_sub hNt z32_1 (by omega) (by omega)]; omega)
    rw [bd_e, h10, if_pos (x32_le' hNt (x32_add hv z32_1 (by omega) (by omega)) (by omega)), bd_e, bd_e, e1]
  | succ r ih =>
    intro k n N v ρ hN hN5 hn hv h10
    obtain ⟨n, rfl⟩ : ∃ m, n = m + 1 := ⟨n - 1, by omega⟩
    have hNt : (nI N).toInt = (N : Int) := nI_t (by omega)
    have hv1 : (v + 1).toInt = ((k + 1 : Nat) : Int) := by rw [x32_add hv z32_1 (by omega) (by omega)]; omega
    obtain ⟨ρ', i1, i2, i3, i4, i5, i6, i7⟩ := ih (k + 1) n N (v + 1) (si ρ 5 k (ρ.1 5 (k + 1))) (by omega) hN5 (by omega) hv1 (by rw [si_ne _ _ _ _ (by omega)]; exact h10)
    refine ⟨ρ', ?_, i2, fun r h5 h0 => by rw [i3 r h5 h0]; exact funext fun j => si_ne _ _ _ _ (Or.inl h5), fun j hj => by rw [i4 j hj]; exact si_ne _ _ _ _ (by omega), i5, fun i hi => by rw [i6 i (by omega)]; exact si_ne _ _ _ _ (by omega), fun i h1 h2 => ?_⟩
    · show F_removed_14 (lq2 F_removed_14 n) v ρ = _
      generalize hg : lq2 F_removed_14 n = rc
      unfold F_removed_14
      rw [bd_e, h10, if_neg (x32_nle hNt (x32_add hv z32_1 (by omega) (by omega)) (by omega)), gd_t (x32_in hv1 (by omega)), bd_e, gd_t (x32_in hv (by omega)), bd_e, bd_e, x32_n hv1, x32_n hv, ← hg, i1]
    · by_cases e : i = k
      · subst e
        rw [i6 i (by omega), si_eq]
      · rw [i7 i (by omega) h2]; exact si_ne _ _ _ _ (by omega)
theorem rrem {ρ : RS} {k N s : Nat} {v : Int32} (hv : v.toInt = (k : Int)) (hk : k < N) (hN : N ≤ 512) (h10 : ρ.1 0 10 = nI N) (h5 : ρ.1 5 k = nI s) (hs : s < 513) :
    ∃ ρ', m_removed v ρ = some ρ' ∧ ρ'.2 = ρ.2 ∧ (∀ r, r ≠ 5 → r ≠ 6 → r ≠ 0 → ρ'.1 r = ρ.1 r) ∧ (∀ j, j ≠ 10 → ρ'.1 0 j = ρ.1 0 j) ∧ ρ'.1 0 10 = nI (N - 1) ∧ (∀ i, i < k → ρ'.1 5 i = ρ.1 5 i) ∧ (∀ i, k ≤ i → i + 1 < N → ρ'.1 5 i = ρ.1 5 (i + 1)) ∧ ρ'.1 6 s = 0 ∧ ∀ j, j ≠ s → ρ'.1 6 j = ρ.1 6 j := by
  have hst : (nI s).toInt = (s : Int) := nI_t (by omega)
  obtain ⟨ρ', i1, i2, i3, i4, i5, i6, i7⟩ := rrem_loop (N - 1 - k) k fuel N v (si ρ 6 s 0) (by omega) hN (by unfold fuel; omega) hv (by rw [si_ne _ _ _ _ (by omega)]; exact h10)
  refine ⟨ρ', ?_, i2, fun r h5 h6 h0 => by rw [i3 r h5 h0]; exact funext fun j => si_ne _ _ _ _ (Or.inl h6), fun j hj => by rw [i4 j hj]; exact si_ne _ _ _ _ (by omega), i5, fun i hi => by rw [i6 i hi]; exact si_ne _ _ _ _ (by omega), fun i h1 h2 => by rw [i7 i h1 h2]; exact si_ne _ _ _ _ (by omega), by rw [i3 6 (by omega) (by omega), si_eq], fun j hj => by rw [i3 6 (by omega) (by omega)]; exact si_ne _ _ _ _ (Or.inr hj)⟩
  unfold m_removed
  rw [gd_t (x32_in hv (by omega)), bd_e, x32_n hv, h5, gd_t (x32_in hst hs), bd_e, nar_b0, x32_n hst, i1]
/-- a segment is taken off the way -/
theorem take_sim {own : Nat → Nat} {P : List (Nat × Nat)} {S : List Nat} {c1 c2 K : Nat} {σ : CS} {ρ : RS} (N : NB own P [] S c1 c2 K σ ρ) {k : Nat} (hk : k < P.length) {v : Int32} (hv : v.toInt = (k : Int)) :
    ∃ σ' ρ', m_N_takeOut v σ = some σ' ∧ m_removed v ρ = some ρ' ∧ NB own (P.eraseIdx k) [P[k]] S c1 c2 K σ' (si ρ' 6 (P[k]).2 1) ∧ fr (fun x => own x ≠ 50) σ σ' ∧ NFr ρ ρ' ∧ ρ'.1 6 (P[k]).2 = 0 := by
  have NN := N
  obtain ⟨⟨n1, n2, n3, n4, n5, n6, n7, n8, n9, n10, n11, n12, n13⟩, hc, O, ⟨B1, B2, B3⟩, hb⟩ := N
  have e5 : own 5 = 50 := O.2.2 5 (by decide)
  obtain ⟨l, N0, q1, q2, q3, q4, q5⟩ := n3 P[k] (List.mem_append_left _ (List.getElem_mem _))
  obtain ⟨σ', r1, r2, r3, r4, r5⟩ := al_remove n1 (Or.inl rfl) e5 hv (by rw [List.length_map]; exact hk)
  obtain ⟨ρ', t1, t2, t3, t4, t5, t6, t7, t8, t9⟩ := rrem hv hk n11 n9 (n8 k hk) q5
  have hpm := era_perm P k hk
  have hlen : (P.eraseIdx k).length = P.length - 1 := List.length_eraseIdx_of_lt hk
  have hpl : (nI P.length).toInt = (P.length : Int) := nI_t (by omega)
  refine ⟨σ', ρ', ?_, t1, NN.re (by rw [era_map]; exact r2) (n2.fr (O.2.2 6 (by decide)) (r3.sub fun x (hx : own x = 45 + 6) => by omega) (fun x hx => hx)) (r3.sub fun x hx => hx.1) (fun _ _ => rfl) ⟨by rw [r4]; exact O.1, fun x hx => O.2.1 x (by rw [← r4]; exact hx), O.2.2⟩ ?_ ?_ ?_ ?_ ?_ ?_ ?_ ?_ (by omega) (by simp) (by omega) (by omega), r3, ⟨t2, fun r hr => t3 r (by omega) (by omega) (by omega), fun j _ h => t4 j h⟩, t8⟩
  · unfold m_N_takeOut b_N_takeOut_24
    rw [if_neg (x32_nlt hv z32_0 (by omega)), al_size n1 (Or.inl rfl), bc2_e, List.length_map, if_neg (x32_nle hpl hv (by omega)), r1, bc2_e]
  · unfold ag
    rw [List.map_nil, List.nil_append, ← List.append_assoc]
    refine List.Perm.append_right S ?_
    have := hpm.map Prod.fst
    rw [List.map_append] at this
    exact this
  · intro p hp
    rw [List.append_nil]
    exact hpm.mem_iff.mp hp
  · rw [List.append_nil] at n6
    exact (hpm.map Prod.snd).nodup_iff.mpr n6
  · intro j hj
    have hm : (j ∈ (P.eraseIdx k ++ [P[k]]).map Prod.snd) ↔ j ∈ (P ++ []).map Prod.snd := by
      rw [List.append_nil]; exact (hpm.map Prod.snd).mem_iff
    by_cases e : j = (P[k]).2
    · rw [e, si_eq, if_pos]
      rw [← e, hm, e, List.append_nil]
      exact List.mem_map_of_mem (List.getElem_mem _)
    · rw [si_ne _ _ _ _ (Or.inr e), t9 j e, n7 j hj]
      by_cases h2 : j ∈ (P ++ []).map Prod.snd
      · rw [if_pos h2, if_pos (hm.mpr h2)]
      · rw [if_neg h2, if_neg (fun h => h2 (hm.mp h))]
  · intro i hi
    rw [si_ne _ _ _ _ (by omega), List.getElem_eraseIdx]
    by_cases h : i < k
    · rw [dif_pos h, t6 i h]; exact n8 i (by omega)
    · rw [dif_neg h, t7 i (by omega) (by omega)]; exact n8 (i + 1) (by omega)
  · rw [si_ne _ _ _ _ (by omega), t5, hlen]
  · intro r h1 h2
    rw [← t3 r (by omega) (by omega) (by omega)]
    exact funext fun j => si_ne _ _ _ _ (by omega)
  · rw [si_ne _ _ _ _ (by omega)]; exact t4 5 (by omega)
/-- it is kept for later use -/
theorem give_sim {own : Nat → Nat} {P : List (Nat × Nat)} {S : List Nat} {c1 c2 K g s : Nat} {σ : CS} {ρ : RS} (N : NB own P [(g, s)] S c1 c2 K σ ρ) :
    ∃ σ' own' c2', m_A_add_Lo 6 g σ = some (1, σ') ∧ NB own' P [] (S ++ [g]) c1 c2' K σ' (si ρ 6 s 0) ∧ fr (fun x => own x < 50) σ σ' ∧ (∀ x, own x ≠ 99 → own' x = own x) := by
  have NN := N
  obtain ⟨⟨n1, n2, n3, n4, n5, n6, n7, n8, n9, n10, n11, n12, n13⟩, hc, O, ⟨B1, B2, B3⟩, hb⟩ := N
  have hbud := NN.1.bud NN.2.2.2.1
  obtain ⟨p1, p2, l, M, p3, _⟩ := n4 g (by unfold ag; simp)
  have hS : S.length ≤ 512 := by simp only [List.length_singleton] at n13; omega
  obtain ⟨σ', own', c2', r1, r2, r3, r4, r5, r6, r7, r8⟩ := al_add n2 (Or.inr rfl) O p3.1 (by omega) (by omega) hS (by omega) (by omega)
  have ko := keepO r5
  have hagp : (ag P [] (S ++ [g])).Perm (ag P [(g, s)] S) := by
    unfold ag
    refine List.Perm.append_left _ ?_
    rw [List.map_nil, List.nil_append]
    exact List.perm_append_comm
  refine ⟨σ', own', c2', r1, NN.re (n1.fr (O.2.2 5 (by decide)) (r3.sub fun x (hx : own x = 45 + 5) => by omega) (fun x hx => by rw [ko x (by omega)]; exact hx)) r2 (r3.sub fun x hx => by omega) ko r4 hagp (fun p hp => ?_) ?_ ?_ (fun i hi => ?_) ?_ (fun r h1 h2 => funext fun j => si_ne _ _ _ _ (by omega)) (si_ne _ _ _ _ (by omega)) n11 (by simp) (by omega) (by omega), r3.sub (fun x hx => by omega), ko⟩
  · rw [List.append_nil] at hp
    exact List.mem_append_left _ hp
  · rw [List.append_nil]
    rw [List.map_append] at n6
    exact (List.nodup_append.mp n6).1
  · intro j hj
    rw [List.append_nil]
    rw [List.map_append] at n6
    have hd := (List.nodup_append.mp n6).2.2
    have hm : j ∈ (P ++ [(g, s)]).map Prod.snd ↔ j ∈ P.map Prod.snd ∨ j = s := by
      rw [List.map_append, List.mem_append]; simp
    by_cases e : j = s
    · rw [e, si_eq, if_neg]
      intro h
      exact hd s h s (by simp) rfl
    · rw [si_ne _ _ _ _ (Or.inr e), n7 j hj]
      by_cases h2 : j ∈ P.map Prod.snd
      · rw [if_pos h2, if_pos (hm.mpr (Or.inl h2))]
      · rw [if_neg h2, if_neg (fun h => (hm.mp h).elim h2 e)]
  · rw [si_ne _ _ _ _ (by omega)]; exact n8 i hi
  · rw [si_ne _ _ _ _ (by omega)]; exact n9
