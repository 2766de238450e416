/-! placing a segment, both sides: the simulation -/
theorem keepO {own own' : Nat → Nat} {Q : Nat → Prop} (h : ∀ x, own' x ≠ own x → own x = 99 ∧ Q x) : ∀ x, own x ≠ 99 → own' x = own x := fun x hx => Decidable.byContradiction fun e => hx (h x e).1
theorem nb_new (σ : CS) (P C : List (Nat × Nat)) (S : List Nat) (g s : Nat) : nb σ (ag (P ++ [(g, s)]) C S) = gsz σ g + nb σ (ag P C S) := by
  unfold ag
  simp only [List.map_append, nb_app, List.map_cons, List.map_nil, nb_cons]
  simp only [nb, List.map_nil, List.sum_nil]
  omega
theorem place_sim {own : Nat → Nat} {P C : List (Nat × Nat)} {S : List Nat} {c1 c2 K len : Nat} {σ : CS} {ρ : RS} (h : NR own P C S c1 c2 σ ρ) (hc : ∀ p ∈ P ++ C, Cq σ ρ p) (O : Ow own σ) (B : BU K (nb σ (ag P C S) + 4 * (c1 + c2)) σ) (t v : Int32) (ht : t = 0 ∨ t = 1) (hv : v.toInt = (len : Int)) (hlen : len ≤ 1484) :
    (P.length = 512 ∧ m_N_place t v σ = some (none, wi σ 4 2 (cI σ 4 2 + 1)) ∧ m_launched t v ρ = some (-1, si ρ 0 5 (ρ.1 0 5 + 1))) ∨
    (P.length < 512 ∧ ∃ σ' own' ρ' g s S' c1' N, m_N_place t v σ = some (some g, σ') ∧ m_launched t v ρ = some (nI s, ρ') ∧ NR own' (P ++ [(g, s)]) C S' c1' c2 σ' ρ' ∧ (∀ p ∈ P ++ C, Cq σ' ρ' p) ∧ SG σ' g (ar σ' g) len N ∧ s < 513 ∧ ρ'.1 3 s = Int32.ofNat len ∧ (ρ'.1 4 s = 0 ∨ ρ'.1 4 s = 1) ∧ BU K (nb σ' (ag (P ++ [(g, s)]) C S') + 4 * (c1' + c2)) σ' ∧ fr (fun x => own x < 50) σ σ' ∧ Ow own' σ' ∧ (∀ x, own' x ≠ own x → own x = 99 ∧ 50 ≤ own' x) ∧ NFr ρ ρ' ∧ ρ'.1 2 = ρ.1 2 ∧ ∀ p ∈ P ++ C, fr (fun y => y = p.1 ∨ y = ar σ p.1) σ σ') := by
  have h' := h
  obtain ⟨h1, h2, h3, h4, h5, h6, h7, h8, h9, h10, h11, h12, h13⟩ := h
  rcases Nat.lt_or_ge P.length 512 with hP | hP
  · right
    refine ⟨hP, ?_⟩
    obtain ⟨B1, B2, B3⟩ := B
    obtain ⟨σ1, o1, g, S', w1, w2, w3, w4, w5, w6, w7, w8, w9, w10, w11, w12⟩ := place_get h' O ⟨B1, B2, B3⟩ hP t v
    have k1 := keepO w10
    have nle := nb_le (own := own) (σ := σ) (ag P C S') (fun x hx => h4 x (w6 x hx))
    rw [ag_len] at nle
    have g1 := w4.hi
    have q1 := h1.cap
    have q2 := h2.cap
    obtain ⟨σ2, o2, u1, u2, ⟨N, u3⟩, u4, u5, u6, u7, u8, u9⟩ := g_begin w4 w9 t v hv hlen (by omega) (by omega)
    have k2 := keepO u7
    have g2 := u2.hi
    have hg1 : o1 g = 60 := w4.1
    have hg2 : o2 g = 60 := u2.1
    have A5 : AL o2 σ2 5 (P.map Prod.fst) c1 := w2.fr (w9.2.2 5 (by decide)) (u5.sub fun x (hx : o1 x = 45 + 5) => ⟨fun e => by rw [e] at hx; omega, by omega⟩) (fun x hx => by rw [k2 x (by omega)]; exact hx)
    have A6 : AL o2 σ2 6 S' c2 := w3.fr (w9.2.2 6 (by decide)) (u5.sub fun x (hx : o1 x = 45 + 6) => ⟨fun e => by rw [e] at hx; omega, by omega⟩) (fun x hx => by rw [k2 x (by omega)]; exact hx)
    have kg2 : kd σ2 g = 11 := by obtain ⟨_, _, _, _, S0, _⟩ := u2; exact S0.1
    obtain ⟨σ3, o3, c1', y1, y2, y3, y4, y5, y6, y7, y8⟩ := al_add A5 (Or.inl rfl) u6 kg2 (by omega) (by omega) (by rw [List.length_map]; omega) (by omega) (by omega)
    have k3 := keepO y5
    have kAll : ∀ x, own x ≠ 99 → o3 x = own x := fun x hx => by
      have e1 := k1 x hx
      have e2 := k2 x (by rw [e1]; exact hx)
      rw [k3 x (by rw [e2, e1]; exact hx), e2, e1]
    -- an old segment is left alone
    have old : ∀ x ∈ ag P C S', fr (fun y => y = x ∨ y = ar σ x) σ σ3 := fun x hx => by
      obtain ⟨p1, p2, _⟩ := h4 x (w6 x hx)
      have hxg : x ≠ g := fun e => (List.nodup_cons.mp w5).1 (by rw [← e]; exact hx)
      have r1 := k1 x (by omega)
      have r2 := k1 (ar σ x) (by omega)
      have r3 := k2 x (by omega)
      have r4 := k2 (ar σ x) (by omega)
      refine fr.tr (fr.tr (w8.sub fun y hy => ?_) u5 (fun y hy => ?_)) y3 (fun y hy => ?_)
      · rcases hy with rfl | rfl
        · omega
        · omega
      · rcases hy with rfl | rfl
        · exact ⟨hxg, by omega⟩
        · refine ⟨fun e => ?_, by omega⟩
          rw [← e] at hg1; omega
      · rcases hy with rfl | rfl
        · omega
        · omega
    obtain ⟨z1, z2, z3, z4, z5⟩ := u2.fr (own' := o3) (σ' := σ3) (y3.sub fun y hy => by
      have := u2.2.1
      rcases hy with rfl | rfl
      · omega
      · omega) k3
    have hgS : ∃ k, k ≤ 512 ∧ ρ.1 6 k = 0 := by
      refine Decidable.byContradiction fun hne => ?_
      have hall : ∀ k, k < 513 → k ∈ (P ++ C).map Prod.snd := fun k hk => by
        refine Decidable.byContradiction fun hk2 => hne ⟨k, by omega, ?_⟩
        rw [h7 k hk, if_neg hk2]
      have := hole 513 _ hall
      rw [List.length_map, List.length_append] at this
      omega
    obtain ⟨s, v1, v2, v3⟩ := rlaunch t v h9 hP hgS
    have hsn : s ∉ (P ++ C).map Prod.snd := fun hm => by
      have := h7 s v1
      rw [if_pos hm, v2] at this
      exact absurd this (by decide)
    obtain ⟨ρ', hρ⟩ : ∃ ρ', ρ' = si (si (si (si (si ρ 6 s 1) 4 s t) 3 s v) 5 P.length (nI s)) 0 10 (nI (P.length + 1)) := ⟨_, rfl⟩
    rw [← hρ] at v3
    have f3 : ∀ j, ρ'.1 3 j = if j = s then v else ρ.1 3 j := fun j => by rw [hρ]; simp [si_1]
    have f4 : ∀ j, ρ'.1 4 j = if j = s then t else ρ.1 4 j := fun j => by rw [hρ]; simp [si_1]
    have f5 : ∀ j, ρ'.1 5 j = if j = P.length then nI s else ρ.1 5 j := fun j => by rw [hρ]; simp [si_1]
    have f6 : ∀ j, ρ'.1 6 j = if j = s then 1 else ρ.1 6 j := fun j => by rw [hρ]; simp [si_1]
    have f2 : ∀ j, ρ'.1 2 j = ρ.1 2 j := fun j => by rw [hρ]; simp [si_1]
    have f0 : ρ'.1 0 10 = nI (P.length + 1) := by rw [hρ]; simp [si_1]
    have f05 : ρ'.1 0 5 = ρ.1 0 5 := by rw [hρ]; simp [si_1]
    have SG3 : SG σ3 g (ar σ3 g) len N := by
      obtain ⟨s1, s2, s3, s4, s5, s6, s7⟩ := u3
      obtain ⟨a1, a2, a3, a4, a5⟩ := y3 g ⟨by omega, by omega⟩
      obtain ⟨b1, b2, b3, b4, b5⟩ := y3 (ar σ2 g) ⟨by have := u2.2.1; omega, by have := u2.2.1; omega⟩
      rw [z2]
      exact ⟨by rw [a5]; exact s1, by rw [a3]; exact s2, by rw [b5]; exact s3, by rw [a1]; exact s4, by rw [b4]; exact s5, s6, s7⟩
    have hvl : v = Int32.ofNat len := x32_of (by omega) hv
    have hpm := ag_perm P C S' g s
    have mem1 : ∀ p ∈ P ++ C, p.1 ∈ ag P C S' := fun p hp => by
      unfold ag
      rw [← List.append_assoc, ← List.map_append]
      exact List.mem_append_left _ (List.mem_map_of_mem hp)
    have ps : ∀ p ∈ P ++ C, p.2 ≠ s := fun p hp e => hsn (by rw [← e]; exact List.mem_map_of_mem hp)
    refine ⟨σ3, o3, ρ', g, s, S', c1', N, ?_, v3, ⟨?_, ?_, ?_, ?_, ?_, ?_, ?_, ?_, ?_, ?_, ?_, h12, ?_⟩, ?_, SG3, v1, ?_, ?_, ⟨?_, ?_, B3⟩, ?_, y4, ?_, ?_, funext f2, fun p hp => old p.1 (mem1 p hp)⟩
    · rw [w1]
      unfold b_N_place_64
      rw [gd_t (by obtain ⟨_, _, _, _, S0, _⟩ := w4; exact S0.1), u1, bc_e, y1, bc2_e]
    · rw [List.map_append]; exact y2
    · exact A6.fr (u6.2.2 6 (by decide)) (y3.sub fun x (hx : o2 x = 45 + 6) => ⟨by omega, by omega⟩) (fun x hx => by rw [k3 x (by omega)]; exact hx)
    · intro p hp
      rw [List.append_assoc] at hp
      by_cases hpe : p = (g, s)
      · subst hpe
        refine ⟨len, N, SG3, by rw [f3, if_pos rfl, hvl], ?_, ?_, v1⟩
        · rw [f4, if_pos rfl]
          have := (y3 g ⟨by omega, by omega⟩).1
          rw [this]; exact u4
        · rw [f4, if_pos rfl]; exact ht
      · have hp' : p ∈ P ++ C := by
          rcases List.mem_append.mp hp with h | h
          · exact List.mem_append_left _ h
          · rcases List.mem_append.mp h with h | h
            · exact absurd (List.mem_singleton.mp h) hpe
            · exact List.mem_append_right _ h
        obtain ⟨l, N0, q1, q2, q3, q4, q5⟩ := h3 p hp'
        obtain ⟨s1, s2, s3, s4, s5, s6, s7⟩ := q1
        have fo := old p.1 (mem1 p hp')
        obtain ⟨a1, a2, a3, a4, a5⟩ := fo p.1 (Or.inl rfl)
        obtain ⟨b1, b2, b3, b4, b5⟩ := fo (ar σ p.1) (Or.inr rfl)
        have e : ar σ3 p.1 = ar σ p.1 := by unfold ar; rw [a3]
        refine ⟨l, N0, ?_, by rw [f3, if_neg (ps p hp')]; exact q2, by rw [f4, if_neg (ps p hp'), a1]; exact q3, by rw [f4, if_neg (ps p hp')]; exact q4, q5⟩
        rw [e]
        exact ⟨by rw [a5]; exact s1, by rw [a3]; exact s2, by rw [b5]; exact s3, by rw [a1]; exact s4, by rw [b4]; exact s5, s6, s7⟩
    · intro x hx
      rcases List.mem_cons.mp (hpm.subset hx) with e | e
      · rw [e]; exact z1
      · exact ((h4 x (w6 x e)).fr (old x e) kAll).1
    · exact hpm.nodup_iff.mpr w5
    · rw [List.append_assoc, List.map_append, List.map_append]
      simp only [List.map_cons, List.map_nil, List.singleton_append]
      rw [List.perm_middle.nodup_iff, List.nodup_cons, ← List.map_append]
      exact ⟨hsn, h6⟩
    · intro k hk
      rw [f6]
      have hiff : k ∈ (P ++ [(g, s)] ++ C).map Prod.snd ↔ k = s ∨ k ∈ (P ++ C).map Prod.snd := by
        simp only [List.map_append, List.mem_append, List.map_cons, List.map_nil, List.mem_singleton]
        constructor
        · rintro ((h | h) | h)
          · exact Or.inr (Or.inl h)
          · exact Or.inl h
          · exact Or.inr (Or.inr h)
        · rintro (h | h | h)
          · exact Or.inl (Or.inr h)
          · exact Or.inl (Or.inl h)
          · exact Or.inr h
      by_cases e : k = s
      · rw [if_pos e, if_pos (hiff.mpr (Or.inl e))]
      · rw [if_neg e, h7 k hk]
        by_cases e2 : k ∈ (P ++ C).map Prod.snd
        · rw [if_pos e2, if_pos (hiff.mpr (Or.inr e2))]
        · rw [if_neg e2, if_neg (fun h => (hiff.mp h).elim e e2)]
    · intro i hi
      rw [List.length_append, List.length_singleton] at hi
      rw [f5]
      by_cases e : i = P.length
      · subst e
        rw [if_pos rfl, List.getElem_append_right (Nat.le_refl _)]
        simp
      · rw [if_neg e, List.getElem_append_left (by omega)]
        exact h8 i (by omega)
    · rw [f0, List.length_append, List.length_singleton]
    · rw [f05, ← h10]
      have e52 : own 4 = 52 := O.2.2 4 (by decide)
      have r1 := k1 4 (by omega)
      have r2 := k2 4 (by omega)
      have hne : (4 : Nat) ≠ g := fun e => by rw [← e] at hg1; omega
      have t1 := (w8 4 ⟨by omega, by omega⟩).1
      have t2 := (u5 4 ⟨hne, by omega⟩).1
      have t3 := (y3 4 ⟨by omega, by omega⟩).1
      rw [t3, t2, t1]
    · rw [List.length_append, List.length_singleton]; omega
    · rw [List.length_append, List.length_singleton]; omega
    · intro p hp i hi
      have fo := old p.1 (mem1 p hp)
      obtain ⟨a1, a2, a3, a4, a5⟩ := fo p.1 (Or.inl rfl)
      obtain ⟨b1, b2, b3, b4, b5⟩ := fo (ar σ p.1) (Or.inr rfl)
      have e : ar σ3 p.1 = ar σ p.1 := by unfold ar; rw [a3]
      rw [e, b1]
      rw [a1] at hi
      unfold Sk
      rw [f2]
      exact hc p hp i hi
    · rw [f3, if_pos rfl, hvl]
    · rw [f4, if_pos rfl]; exact ht
    · have e1 : gsz σ3 g = gsz σ2 g := z3
      have e2 : nb σ3 (ag P C S') = nb σ (ag P C S') := nb_congr fun x hx => ((h4 x (w6 x hx)).fr (old x hx) kAll).2.2.1
      rw [nb_new, e1, e2]
      omega
    · omega
    · refine fr.tr (fr.tr (w8.sub fun x (hx : own x < 50) => ⟨by omega, by omega⟩) u5 (fun x hx => ?_)) y3 (fun x hx => ?_)
      · have := k1 x (by omega)
        exact ⟨fun e => by rw [e] at this; rw [e] at hx; omega, by omega⟩
      · have r1 := k1 x (by omega)
        have r2 := k2 x (by omega)
        exact ⟨by omega, by omega⟩
    · intro x hx
      have e99 : own x = 99 := Decidable.byContradiction fun e => hx (kAll x e)
      refine ⟨e99, ?_⟩
      by_cases e1 : o1 x = own x
      · by_cases e2 : o2 x = o1 x
        · by_cases e3 : o3 x = o2 x
          · omega
          · have := (y5 x e3).2; omega
        · have a := (u7 x e2).2
          by_cases e3 : o3 x = o2 x
          · omega
          · have := (y5 x e3).2; omega
      · have a := (w10 x e1).2.1
        have b := (w10 x e1).2.2
        have e2 : o2 x = o1 x := k2 x (by omega)
        have e3 : o3 x = o2 x := k3 x (by omega)
        omega
    · rw [hρ]
      refine ⟨rfl, fun r hr => funext fun j => ?_, fun j hj hj2 => ?_⟩
      · have : r ≠ 0 ∧ r ≠ 5 ∧ r ≠ 3 ∧ r ≠ 4 ∧ r ≠ 6 := by omega
        simp [si_1, this]
      · simp [si_1, hj2]
  · left
    have hP2 : P.length = 512 := by omega
    refine ⟨hP2, ?_, ?_⟩
    · unfold m_N_place
      rw [al_size h1 (Or.inl rfl), bc2_e, List.length_map, if_neg (x32_nlt (nI_t (by omega)) (show (512 : Int32).toInt = 512 by decide) (by omega)), bd_e, bd_e]
    · unfold m_launched
      rw [bd_e, h9, hP2, if_pos (by decide), bd_e, bd_e]
