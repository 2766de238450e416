/-! copy, inject, flip -/
theorem NB.lost {own : Nat → Nat} {P C : List (Nat × Nat)} {S : List Nat} {c1 c2 K : Nat} {σ : CS} {ρ : RS} (N : NB own P C S c1 c2 K σ ρ) : NB own P C S c1 c2 K (wi σ 4 2 (cI σ 4 2 + 1)) (si ρ 0 5 (ρ.1 0 5 + 1)) := by
  obtain ⟨⟨n1, n2, n3, n4, n5, n6, n7, n8, n9, n10, n11, n12, n13⟩, hc, O, B, hb⟩ := N
  have e4 : own 4 = 52 := O.2.2 4 (by decide)
  have hn5 : ∀ p ∈ P ++ C, p.1 ≠ 4 ∧ ar σ p.1 ≠ 4 := fun p hp => by
    obtain ⟨u1, u2, _⟩ := n4 p.1 (ag_mem S hp)
    exact ⟨fun e => by rw [e] at u1; omega, fun e => by rw [e] at u2; omega⟩
  have F := fr_wi σ 4 2 (cI σ 4 2 + 1)
  refine ⟨⟨n1.fr (O.2.2 5 (by decide)) (F.sub fun x (hx : own x = 45 + 5) e => by rw [e] at hx; omega) (fun _ hx => hx), n2.fr (O.2.2 6 (by decide)) (F.sub fun x (hx : own x = 45 + 6) e => by rw [e] at hx; omega) (fun _ hx => hx), ?_, ?_, n5, n6, ?_, ?_, ?_, ?_, n11, n12, n13⟩, ?_, O, B, fun i => by rw [si_ne _ _ _ _ (by omega)]; exact hb i⟩
  · intro p hp
    obtain ⟨l, N0, ⟨s1, s2, s3, s4, s5, s6, s7⟩, q2, q3, q4, q5⟩ := n3 p hp
    refine ⟨l, N0, ⟨s1, s2, s3, ?_, s5, s6, s7⟩, q2, ?_, q4, q5⟩
    · rw [wi_I, if_neg (fun e => (hn5 p hp).1 e.1)]; exact s4
    · rw [wi_I, if_neg (fun e => (hn5 p hp).1 e.1)]; exact q3
  · intro x hx
    obtain ⟨r1, r2, l, N0, ⟨s1, s2, s3, s4, s5, s6, s7⟩, r4⟩ := n4 x hx
    refine ⟨r1, r2, l, N0, ⟨s1, s2, s3, ?_, s5, s6, s7⟩, r4⟩
    rw [wi_I, if_neg (fun e => by have := e.1; rw [this] at r1; omega)]; exact s4
  · exact n7
  · exact n8
  · exact n9
  · rw [wi_I, if_pos ⟨rfl, rfl⟩, si_1, if_pos ⟨rfl, rfl⟩, n10]
  · intro p hp i hi
    rw [wi_I, if_neg (fun e => (hn5 p hp).1 e.1)] at hi
    show cI (wi σ 4 2 (cI σ 4 2 + 1)) (ar σ p.1) i = _
    rw [wi_I, if_neg (fun e => (hn5 p hp).2 e.1)]
    exact hc p hp i hi
theorem bytes_sim {own : Nat → Nat} {P : List (Nat × Nat)} {S : List Nat} {c1 c2 K len a : Nat} {σ : CS} {ρ : RS} (N : NB own P [] S c1 c2 K σ ρ) {t v : Int32} (ht : t = 0 ∨ t = 1) (hv : v.toInt = (len : Int)) (hlen : len ≤ 1484) (ha : own a < 50 ∨ ∃ p ∈ P, a = ar σ p.1) (hk : kd σ a = 21) (hN : len ≤ cN σ a) :
    (m_N_placeBytes t a v σ = some (wi σ 4 2 (cI σ 4 2 + 1)) ∧ m_launched t v ρ = some (-1, si ρ 0 5 (ρ.1 0 5 + 1)) ∧ NB own P [] S c1 c2 K (wi σ 4 2 (cI σ 4 2 + 1)) (si ρ 0 5 (ρ.1 0 5 + 1)) ∧ fr (fun x => own x < 50) σ (wi σ 4 2 (cI σ 4 2 + 1)) ∧ NFr ρ (si ρ 0 5 (ρ.1 0 5 + 1))) ∨
    ∃ σ' own' ρ1 s P' S' c1', m_N_placeBytes t a v σ = some σ' ∧ m_launched t v ρ = some (nI s, ρ1) ∧ s < 513 ∧ (∀ Y : Nat → Int32, (∀ i, i < len → cI σ a i = Y i) → (∀ i, isB (Y i)) → NB own' P' [] S' c1' c2 K σ' (sS ρ1 s Y)) ∧ fr (fun x => own x < 50) σ σ' ∧ (∀ x, own x ≠ 99 → own' x = own x) ∧ NFr ρ ρ1 ∧ ρ1.1 2 = ρ.1 2 ∧ (∀ p ∈ P, p.2 ≠ s ∧ ρ1.1 3 p.2 = ρ.1 3 p.2) ∧ (∀ i, isB (ρ1.1 2 i)) := by
  obtain ⟨NR0, hc, O, B, hb⟩ := N
  have e4 : own 4 = 52 := O.2.2 4 (by decide)
  rcases place_sim NR0 hc O B t v ht hv hlen with ⟨p1, p2, p3⟩ | ⟨p0, σ1, o1, ρ1, g, s, S', c1', M, p1, p2, p3, p4, p5, p6, p7, p8, p9, p10, p11, p12, p13, p15, p14⟩
  · left
    refine ⟨?_, p3, NB.lost ⟨NR0, hc, O, B, hb⟩, (fr_wi σ 4 2 _).sub fun x (hx : own x < 50) e => by rw [e] at hx; omega, ⟨rfl, fun r hr => funext fun j => si_ne _ _ _ _ (by omega), fun j hj _ => si_ne _ _ _ _ (by omega)⟩⟩
    unfold m_N_placeBytes
    rw [p2, bc2_e]
    rfl
  · right
    have fa : cI σ1 a = cI σ a ∧ cN σ1 a = cN σ a ∧ kd σ1 a = kd σ a := by
      rcases ha with h | ⟨p, hp, rfl⟩
      · have := p10 a h
        exact ⟨this.1, this.2.2.2.1, this.2.2.2.2⟩
      · have := p14 p (List.mem_append_left _ hp) (ar σ p.1) (Or.inr rfl)
        exact ⟨this.1, this.2.2.2.1, this.2.2.2.2⟩
    have hgm : (g, s) ∈ P ++ [(g, s)] ++ [] := by simp
    have spg := p3.2.2.2.1 g (ag_mem S' hgm)
    have hnd := p3.2.2.2.2.2.1
    have hsne : ∀ p ∈ P, p.2 ≠ s := fun p hp e => by
      rw [List.append_nil, List.map_append] at hnd
      exact (List.nodup_append.mp hnd).2.2 p.2 (List.mem_map_of_mem hp) s (by simp) e
    have ho := keepO p12
    have hM : len ≤ M := p5.2.2.2.2.2.1
    have hv0 : v.toNatClampNeg = len := x32_n hv
    refine ⟨wA σ1 (ar σ1 g) (va_cpy (cI σ1 a) (cI σ1 (ar σ1 g)) 0 0 len), o1, ρ1, s, P ++ [(g, s)], S', c1', ?_, p2, p6, fun Y hY hYB => ?_, fr.tr p10 (fr_wA _ _ _) (fun x hx e => ?_), ho, p13, p15, fun p hp => ⟨hsne p hp, ?_⟩, fun i => by rw [p15]; exact hb i⟩
    · unfold m_N_placeBytes b_N_placeBytes_25
      rw [p1, bc2_e]
      show (gd (kd σ1 g = 11) <| bc (cR σ1 g 0) fun a4 => gd (kd σ1 a = 21 ∧ kd σ1 a4 = 21 ∧ ¬ (0 : Int32) < 0 ∧ ¬ (0 : Int32) < 0 ∧ ¬ v < 0 ∧ (0 : Int32).toNatClampNeg + v.toNatClampNeg ≤ cN σ1 a ∧ (0 : Int32).toNatClampNeg + v.toNatClampNeg ≤ cN σ1 a4) <| bd (wcp σ1 a a4 (0 : Int32).toNatClampNeg (0 : Int32).toNatClampNeg v.toNatClampNeg) fun r5 => some r5) = _
      have c0 : (0 : Int32).toNatClampNeg = 0 := by decide
      rw [gd_t p5.1, p5.2.1, bc_e, gd_t ⟨by rw [fa.2.2]; exact hk, p5.2.2.1, by decide, by decide, x32_nlt hv z32_0 (by omega), by rw [c0, hv0, fa.2.1]; omega, by rw [c0, hv0, p5.2.2.2.2.1]; omega⟩, bd_e, c0, hv0]
      rfl
    · refine NB.fill p3 p11 p9 (fun i => by rw [p15]; exact hb i) hgm (fun p hp hne => p4 p ?_) p5 _ Y (fun i hi => ?_) hYB
      · rcases List.mem_append.mp hp with h | h
        · rcases List.mem_append.mp h with h | h
          · exact List.mem_append_left _ h
          · exact absurd (List.mem_singleton.mp h) hne
        · exact List.mem_append_right _ h
      · unfold va_cpy
        rw [if_pos ⟨by omega, by omega⟩, Nat.zero_add, Nat.sub_zero, fa.1]
        exact hY i hi
    · have h1 := ho x (by omega)
      have h2 := spg.2.1
      rw [← e] at h2
      omega
    · obtain ⟨l0, N0, q1, q2, _⟩ := NR0.2.2.1 p (List.mem_append_left _ hp)
      obtain ⟨l1, N1, r1, r2, _⟩ := p3.2.2.1 p (by simp [hp])
      rw [r2, q2, ← r1.2.2.2.1, ← q1.2.2.2.1, (p14 p (List.mem_append_left _ hp) p.1 (Or.inl rfl)).1]
theorem copy_loop {ρ : RS} {s0 s len : Nat} {v2 v3 : Int32} (h2 : v2.toInt = (s0 : Int)) (h3 : v3.toInt = (s : Int)) (hs0 : s0 < 513) (hs : s < 513) (hne : s0 ≠ s) (hlen : ρ.1 3 s0 = Int32.ofNat len) (hl : len ≤ 1484) (hB : ∀ i, isB (ρ.1 2 i)) :
    ∀ (r i n : Nat) (v4 : Int32), i + r = len → r < n → v4.toInt = (i : Int) → lq4 F_copy_46 n v2 v3 v4 (sS ρ s (va_cpy (Sk ρ s0) (Sk ρ s) 0 0 i)) = some (ρ.1 0 10, sS ρ s (va_cpy (Sk ρ s0) (Sk ρ s) 0 0 len)) := by
  intro r
  have hL : (Int32.ofNat len).toInt = (len : Int) := x32_nat (by omega)
  induction r with
  | zero =>
    intro i n v4 hi hn h4
    obtain ⟨n, rfl⟩ : ∃ m, n = m + 1 := ⟨n - 1, by omega⟩
    have : i = len := by omega
    subst this
    show F_copy_46 (lq4 F_copy_46 n) v2 v3 v4 _ = _
    unfold F_copy_46 b_copy_93
    rw [if_neg (x32_nlt h3 z32_0 (by omega)), gd_t (x32_in h2 hs0), bd_e, x32_n h2, sS_o ρ s _ (show (3 : Nat) ≠ 2 by omega), hlen, if_pos (x32_le' hL h4 (by omega)), bd_e, sS_o ρ s _ (show (0 : Nat) ≠ 2 by omega)]
  | succ r ih =>
    intro i n v4 hi hn h4
    obtain ⟨n, rfl⟩ : ∃ m, n = m + 1 := ⟨n - 1, by omega⟩
    have y1 := x_slot h2 h4 hs0 (by omega)
    have y2 := x_slot h3 h4 hs (by omega)
    have e : lq4 F_copy_46 (n + 1) v2 v3 v4 (sS ρ s (va_cpy (Sk ρ s0) (Sk ρ s) 0 0 i)) = lq4 F_copy_46 n v2 v3 (v4 + 1) (sS ρ s (va_cpy (Sk ρ s0) (Sk ρ s) 0 0 (i + 1))) := by
      show F_copy_46 (lq4 F_copy_46 n) v2 v3 v4 _ = _
      rw [F_copy_46, if_neg (x32_nlt h3 z32_0 (by omega)), gd_t (x32_in h2 hs0), bd_e, x32_n h2, sS_o ρ s _ (show (3 : Nat) ≠ 2 by omega), hlen, if_neg (x32_nle hL h4 (by omega)), gd_t (x32_in y1 (by omega)), bd_e, gd_t (x32_in y2 (by omega)), bd_e, bd_e, x32_n y1, x32_n y2]
      have er : (sS ρ s (va_cpy (Sk ρ s0) (Sk ρ s) 0 0 i)).1 2 (1484 * s0 + i) = Sk ρ s0 i := sS_ne ρ s _ hne (by omega)
      rw [er, show vp_nar .byte (Sk ρ s0 i) = Sk ρ s0 i from hB _, si_sS ρ s _ i _ (by omega)]
      congr 1
      refine sS_congr ρ s fun j hj => ?_
      unfold va_cpy
      by_cases hj1 : j = i
      · rw [if_pos hj1, if_pos (by omega), hj1, Nat.zero_add, Nat.sub_zero]
      · rw [if_neg hj1]
        by_cases hj2 : 0 ≤ j ∧ j < 0 + i
        · rw [if_pos hj2, if_pos (by omega)]
        · rw [if_neg hj2, if_neg (by omega)]
    rw [e]
    exact ih (i + 1) n (v4 + 1) (by omega) (by omega) (by rw [x32_add h4 z32_1 (by omega) (by omega)]; omega)
theorem inj_loop {ρ : RS} {s len : Nat} {v2 : Int32} (h2 : v2.toInt = (s : Int)) (hs : s < 513) (hlen : ρ.1 0 2 = Int32.ofNat len) (hl : len ≤ 1484) (hB : ∀ i, isB (ρ.1 1 i)) :
    ∀ (r i n : Nat) (v4 : Int32), i + r = len → r < n → v4.toInt = (i : Int) → lq3 F_inject_46 n v2 v4 (sS ρ s (va_cpy (ρ.1 1) (Sk ρ s) 0 0 i)) = some (ρ.1 0 10, si (sS ρ s (va_cpy (ρ.1 1) (Sk ρ s) 0 0 len)) 0 2 0) := by
  intro r
  have hL : (Int32.ofNat len).toInt = (len : Int) := x32_nat (by omega)
  induction r with
  | zero =>
    intro i n v4 hi hn h4
    obtain ⟨n, rfl⟩ : ∃ m, n = m + 1 := ⟨n - 1, by omega⟩
    have : i = len := by omega
    subst this
    show F_inject_46 (lq3 F_inject_46 n) v2 v4 _ = _
    unfold F_inject_46 b_inject_82
    rw [if_neg (x32_nlt h2 z32_0 (by omega)), bd_e, sS_o ρ s _ (show (0 : Nat) ≠ 2 by omega), hlen, if_pos (x32_le' hL h4 (by omega)), bd_e, bd_e, si_ne _ _ _ _ (by omega), sS_o ρ s _ (show (0 : Nat) ≠ 2 by omega)]
  | succ r ih =>
    intro i n v4 hi hn h4
    obtain ⟨n, rfl⟩ : ∃ m, n = m + 1 := ⟨n - 1, by omega⟩
    have y2 := x_slot h2 h4 hs (by omega)
    have e : lq3 F_inject_46 (n + 1) v2 v4 (sS ρ s (va_cpy (ρ.1 1) (Sk ρ s) 0 0 i)) = lq3 F_inject_46 n v2 (v4 + 1) (sS ρ s (va_cpy (ρ.1 1) (Sk ρ s) 0 0 (i + 1))) := by
      show F_inject_46 (lq3 F_inject_46 n) v2 v4 _ = _
      rw [F_inject_46, if_neg (x32_nlt h2 z32_0 (by omega)), bd_e, sS_o ρ s _ (show (0 : Nat) ≠ 2 by omega), hlen, if_neg (x32_nle hL h4 (by omega)), gd_t (x32_in h4 (by omega)), bd_e, gd_t (x32_in y2 (by omega)), bd_e, bd_e, x32_n h4, x32_n y2, sS_o ρ s _ (show (1 : Nat) ≠ 2 by omega), show vp_nar .byte (ρ.1 1 i) = ρ.1 1 i from hB _, si_sS ρ s _ i _ (by omega)]
      congr 1
      refine sS_congr ρ s fun j hj => ?_
      unfold va_cpy
      by_cases hj1 : j = i
      · rw [if_pos hj1, if_pos (by omega), hj1, Nat.zero_add, Nat.sub_zero]
      · rw [if_neg hj1]
        by_cases hj2 : 0 ≤ j ∧ j < 0 + i
        · rw [if_pos hj2, if_pos (by omega)]
        · rw [if_neg hj2, if_neg (by omega)]
    rw [e]
    exact ih (i + 1) n (v4 + 1) (by omega) (by omega) (by rw [x32_add h4 z32_1 (by omega) (by omega)]; omega)
