/-! about -/
theorem kept_loop (ρ : RS) {e : Nat} (he : e < 2) {v1 : Int32} (h1 : v1.toInt = (e : Int)) (W : Nat) (hW : W ≤ 65536) : ∀ (r i n : Nat) (v2 v3 : Int32), i + r = 65536 → r < n → v2 = Int32.ofNat (kc (ρ.1 40) e i) → v3.toInt = (i : Int) → lq4 F_keptBytes_4 n v1 v2 v3 ρ = some (Int32.ofNat (kc (ρ.1 40) e (i + r)), ρ) := by
  intro r
  induction r with
  | zero =>
    intro i n v2 v3 hi hn h2 h3
    obtain ⟨n, rfl⟩ : ∃ m, n = m + 1 := ⟨n - 1, by omega⟩
    show F_keptBytes_4 (lq4 F_keptBytes_4 n) v1 v2 v3 ρ = _
    unfold F_keptBytes_4
    rw [if_pos (x32_le' (show (65536 : Int32).toInt = 65536 by decide) h3 (by omega)), h2]
    rfl
  | succ r ih =>
    intro i n v2 v3 hi hn h2 h3
    obtain ⟨n, rfl⟩ : ∃ m, n = m + 1 := ⟨n - 1, by omega⟩
    show F_keptBytes_4 (lq4 F_keptBytes_4 n) v1 v2 v3 ρ = _
    generalize hg : lq4 F_keptBytes_4 n = rc
    unfold F_keptBytes_4 b_keptBytes_27
    have hx : (((65536 : Int32) * v1) + v3).toInt = ((65536 * e + i : Nat) : Int) := by
      have := x32_mul (show (65536 : Int32).toInt = 65536 by decide) h1 (by omega) (by omega)
      rw [x32_add this h3 (by omega) (by omega)]
      omega
    have h3' : (v3 + 1).toInt = ((i + 1 : Nat) : Int) := by rw [x32_add h3 z32_1 (by omega) (by omega)]; omega
    rw [if_neg (x32_nle (show (65536 : Int32).toInt = 65536 by decide) h3 (by omega)), gd_t (x32_in hx (by omega)), bd_e, x32_n hx]
    have ek : kc (ρ.1 40) e (i + 1) = kc (ρ.1 40) e i + if ρ.1 40 (65536 * e + i) = 0 then 0 else 1 := rfl
    by_cases hz : ρ.1 40 (65536 * e + i) = 0
    · rw [if_pos hz, bd_e, ← hg, ih (i + 1) n v2 (v3 + 1) (by omega) (by omega) (by rw [ek, if_pos hz]; exact h2) h3']
      rw [show i + 1 + r = i + (r + 1) by omega]
    · rw [if_neg hz, bd_e, bd_e, ← hg, ih (i + 1) n (v2 + 1) (v3 + 1) (by omega) (by omega) (by rw [ek, if_neg hz, h2]; exact (nI_succ _).symm) h3']
      rw [show i + 1 + r = i + (r + 1) by omega]
theorem kept_sim (ρ : RS) {e : Nat} (he : e < 2) {v1 : Int32} (h1 : v1.toInt = (e : Int)) : m_keptBytes v1 ρ = some (Int32.ofNat (kc (ρ.1 40) e 65536), ρ) := by
  have h := kept_loop ρ he h1 0 (by omega) 65536 0 fuel 0 0 (by omega) (by unfold fuel; omega) rfl z32_0
  rw [Nat.zero_add] at h
  exact h
theorem waiting_sim {own : Nat → Nat} {q e : Nat} {σ : CS} {ρ : RS} {u n m g : Nat} (G : G2 own q e σ ρ u n m g) {v1 : Int32} (hi : inb v1 2) (hcl : v1.toNatClampNeg = e) : m_waiting v1 ρ = some (cI σ (q + 1) 2, ρ) := by
  obtain ⟨a1, ⟨a2, a3⟩, a4, a5, ⟨a6, a7⟩, _, _, _, _, ⟨b1, b2, b3, b4⟩, s, ab, k1, k2, _⟩ := G
  have hg : (Int32.ofNat g).toInt = (g : Int) := x32_nat (by omega)
  have hu : (Int32.ofNat u).toInt = (u : Int) := x32_nat (by omega)
  have hd : (ρ.1 11 e - ρ.1 10 e - 1).toInt = (u : Int) - 1 := by
    have : ρ.1 11 e - ρ.1 10 e = Int32.ofNat u := by rw [a1, a2, a3]; grind
    rw [this, x32_sub hu z32_1 (by omega) (by omega)]
  unfold m_waiting b_waiting_44
  rw [gd_t hi, bd_e, gd_t hi, bd_e, bd_e, gd_t hi, bd_e, gd_t hi, bd_e, gd_t hi, bd_e, gd_t hi, bd_e, gd_t hi, bd_e, hcl, a6, k2]
  by_cases h0 : 1 ≤ u
  · rw [if_pos (x32_le' z32_0 hd (by omega))]
    by_cases h1 : u - 1 ≤ g
    · rw [if_pos (x32_le' hd hg (by omega))]
      have : ρ.1 11 e - ρ.1 10 e - 1 = Int32.ofNat (u - 1) := x32_of (by omega) (by rw [hd]; omega)
      have e2 : Int32.ofNat g - Int32.ofNat (u - 1) = Int32.ofNat (g - (u - 1)) := x32_of (by omega) (by rw [x32_sub hg (x32_nat (show u - 1 < 2147483648 by omega)) (by omega) (by omega)]; omega)
      rw [this, e2]
    · rw [if_neg (x32_nle hd hg (by omega)), show g - (u - 1) = 0 by omega]
      rw [Int32.sub_self]
      rfl
  · rw [if_neg (x32_nle z32_0 hd (by omega)), show g - (u - 1) = g by omega]
    rw [Int32.sub_zero]
theorem about_sim {c : Nat} {σ : CS} {ρ : RS} (h : RL c σ ρ) (hc : c < 512) (v1 v2 : Int32) {code : Nat → Option Int32} (hc3 : code 3 = some 1) (hc2 : code 2 = some 2) : An c code σ ρ (m_P_about v1 v2 σ) (m_about v1 v2 ρ) := by
  have hr := h.room hc
  have hh := h
  by_cases hs : v1 = 0 ∨ v1 = 1
  · obtain ⟨q, e, hqe, hv, hvn, hvi, hs1, he, hq⟩ := side_ok hs σ
    obtain ⟨own, τ, g0, g1, T, K, h⟩ := h
    obtain ⟨st, u, n, m, U, rn, tr, E⟩ := h.ee hqe
    obtain ⟨_, _, _, _, ⟨l1, l2, l3, l4, l7, l8⟩, _, _⟩ := h
    have hq3 : q + 3 = 10 ∨ q + 3 = 17 := by omega
    have hq1 : q + 1 = 8 ∨ q + 1 = 15 := by omega
    obtain ⟨⟨x1, x2, x3, x4, x5, x6, x7, x8, x9, x10, x11⟩, G2h, ⟨y1, y2, y3, y4, ⟨y5, y5'⟩, y6, _⟩, ⟨⟨z1, z1'⟩, ⟨z2, z2'⟩, z3, z4, ⟨z5, z5'⟩, _⟩, ⟨w1, w2, w3, w4, w5⟩⟩ := E.1
    have G2k := G2h
    obtain ⟨a1, ⟨a2, a3⟩, ⟨a4, a4'⟩, a5, _, _, ⟨b1, _⟩, _⟩ := G2h
    by_cases i0 : v2 = 0
    · subst i0
      refine An.same (x := cI σ q 8) hh ?_ ?_
      · unfold m_P_about; rw [hs1, bcn_r, gd_t hq, if_neg (by decide), if_pos (by decide)]; unfold m_E_fact; rw [gd_t hq]; rfl
      · unfold m_about; rw [bd_e, none_0 _ hs, bc2_e, if_pos rfl]
        show gd (inb v1 2) (some ((si ρ 0 0 0).1 9 v1.toNatClampNeg, si ρ 0 0 0)) = _
        rw [gd_t hvi, hvn, si_ne _ _ _ _ (by omega), x4]
    by_cases i1 : v2 = 1
    · subst i1
      refine An.same (x := cI σ q 9) hh ?_ ?_
      · unfold m_P_about; rw [hs1, bcn_r, gd_t hq, if_neg (by decide), if_pos (by decide)]; unfold m_E_fact; rw [gd_t hq]; rfl
      · unfold m_about; rw [bd_e, none_0 _ hs, bc2_e, if_pos rfl]
        show gd (inb v1 2) (some ((si ρ 0 0 0).1 30 v1.toNatClampNeg, si ρ 0 0 0)) = _
        rw [gd_t hvi, hvn, si_ne _ _ _ _ (by omega), x7]
    by_cases i2 : v2 = 2
    · subst i2
      refine An.same (x := cI σ (q + 3) 4) hh ?_ ?_
      · unfold m_P_about; rw [hs1, bcn_r, gd_t hq, if_neg (by decide), if_pos (by decide)]; unfold m_E_fact; rw [gd_t hq]; rfl
      · unfold m_about; rw [bd_e, none_0 _ hs, bc2_e, if_pos rfl]
        show gd (inb v1 2) (some ((si ρ 0 0 0).1 31 v1.toNatClampNeg, si ρ 0 0 0)) = _
        rw [gd_t hvi, hvn, si_ne _ _ _ _ (by omega), y5]
    by_cases i3 : v2 = 3
    · subst i3
      refine An.same (x := cI σ (q + 1) 2) hh ?_ ?_
      · unfold m_P_about; rw [hs1, bcn_r, gd_t hq, if_neg (by decide), if_pos (by decide)]; unfold m_E_fact; rw [gd_t hq]; rfl
      · unfold m_about; rw [bd_e, none_0 _ hs, bc2_e, if_pos rfl]
        show bc2 (m_waiting v1 (si ρ 0 0 0)) (fun x8 r7 => some (x8, r7)) = _
        rw [waiting_sim (G2x.cg G2k fr.rf (fun _ h => h) (fun r _ => si_ne _ _ _ _ (by omega)) (fun i _ => si_ne _ _ _ _ (by omega))) hvi hvn, bc2_e]
    by_cases i4 : v2 = 4
    · subst i4
      refine An.same (x := cI σ (q + 6) 1) hh ?_ ?_
      · unfold m_P_about; rw [hs1, bcn_r, gd_t hq, if_neg (by decide), if_pos (by decide)]; unfold m_E_fact; rw [gd_t hq]; rfl
      · unfold m_about; rw [bd_e, none_0 _ hs, bc2_e, if_pos rfl]
        show gd (inb v1 2) (some ((si ρ 0 0 0).1 20 v1.toNatClampNeg, si ρ 0 0 0)) = _
        rw [gd_t hvi, hvn, si_ne _ _ _ _ (by omega), w2]
    by_cases i5 : v2 = 5
    · subst i5
      refine An.same (x := cI σ (q + 6) 2) hh ?_ ?_
      · unfold m_P_about; rw [hs1, bcn_r, gd_t hq, if_neg (by decide), if_pos (by decide)]; unfold m_E_fact; rw [gd_t hq]; rfl
      · unfold m_about; rw [bd_e, none_0 _ hs, bc2_e, if_pos rfl]
        show gd (inb v1 2) (some ((si ρ 0 0 0).1 21 v1.toNatClampNeg, si ρ 0 0 0)) = _
        rw [gd_t hvi, hvn, si_ne _ _ _ _ (by omega), w3]
    by_cases i6 : v2 = 6
    · subst i6
      refine An.same (x := cI σ (q + 5) 0) hh ?_ ?_
      · unfold m_P_about; rw [hs1, bcn_r, gd_t hq, if_neg (by decide), if_pos (by decide)]; unfold m_E_fact; rw [gd_t hq]; rfl
      · unfold m_about; rw [bd_e, none_0 _ hs, bc2_e, if_pos rfl]
        show gd (inb v1 2) (some ((si ρ 0 0 0).1 23 v1.toNatClampNeg, si ρ 0 0 0)) = _
        rw [gd_t hvi, hvn, si_ne _ _ _ _ (by omega), z1]
    by_cases i7 : v2 = 7
    · subst i7
      refine An.same (x := cI σ (q + 5) 1) hh ?_ ?_
      · unfold m_P_about; rw [hs1, bcn_r, gd_t hq, if_neg (by decide), if_pos (by decide)]; unfold m_E_fact; rw [gd_t hq]; rfl
      · unfold m_about; rw [bd_e, none_0 _ hs, bc2_e, if_pos rfl]
        show gd (inb v1 2) (some ((si ρ 0 0 0).1 24 v1.toNatClampNeg, si ρ 0 0 0)) = _
        rw [gd_t hvi, hvn, si_ne _ _ _ _ (by omega), z2]
    by_cases i8 : v2 = 8
    · subst i8
      refine An.same (x := cI σ (q + 1) 9) hh ?_ ?_
      · unfold m_P_about; rw [hs1, bcn_r, gd_t hq, if_neg (by decide), if_pos (by decide)]; unfold m_E_fact; rw [gd_t hq]; rfl
      · unfold m_about; rw [bd_e, none_0 _ hs, bc2_e, if_pos rfl]
        show gd (inb v1 2) (some ((si ρ 0 0 0).1 14 v1.toNatClampNeg, si ρ 0 0 0)) = _
        rw [gd_t hvi, hvn, si_ne _ _ _ _ (by omega), b1]
    by_cases i9 : v2 = 9
    · subst i9
      refine An.same (x := cI σ (q + 3) 2 - cI σ (q + 3) 1) hh ?_ ?_
      · unfold m_P_about; rw [hs1, bcn_r, gd_t hq, if_neg (by decide), if_pos (by decide)]; unfold m_E_fact; rw [gd_t hq]
        show bc2 (bc2 (m_V_window (q + 3) σ) fun x11 r10 => some (x11, r10)) _ = _
        unfold m_V_window; rw [gd_t hq3]; rfl
      · unfold m_about; rw [bd_e, none_0 _ hs, bc2_e, if_pos rfl]
        show gd (inb v1 2) (gd (inb v1 2) (some ((si ρ 0 0 0).1 19 v1.toNatClampNeg - (si ρ 0 0 0).1 18 v1.toNatClampNeg, si ρ 0 0 0))) = _
        rw [gd_t hvi, gd_t hvi, hvn, si_ne _ _ _ _ (by omega), si_ne _ _ _ _ (by omega), y2, y3]
    by_cases i10 : v2 = 10
    · subst i10
      refine An.same (x := cI σ q 10) hh ?_ ?_
      · unfold m_P_about; rw [hs1, bcn_r, gd_t hq, if_neg (by decide), if_pos (by decide)]; unfold m_E_fact; rw [gd_t hq]; rfl
      · unfold m_about; rw [bd_e, none_0 _ hs, bc2_e, if_pos rfl]
        show gd (inb v1 2) (some ((si ρ 0 0 0).1 28 v1.toNatClampNeg, si ρ 0 0 0)) = _
        rw [gd_t hvi, hvn, si_ne _ _ _ _ (by omega), x9]
    by_cases i11 : v2 = 11
    · subst i11
      rcases z4 with ⟨r1, r2⟩ | ⟨r1, r2, D, r3, r4, r5⟩
      · refine An.same (x := -1) hh ?_ ?_
        · unfold m_P_about; rw [hs1, bcn_r, gd_t hq, if_neg (by decide), if_pos (by decide)]; unfold m_E_fact; rw [gd_t hq]
          show bc2 (if cI σ (q + 5) 2 = 0 then _ else _) _ = _
          rw [if_pos (z3.trans r1)]; rfl
        · unfold m_about; rw [bd_e, none_0 _ hs, bc2_e, if_pos rfl]
          show gd (inb v1 2) (if 0 ≤ (lg_cmp ((si ρ 0 0 0).2 33 v1.toNatClampNeg) (0 : Int64)) then (gd (inb v1 2) <| bd ((si ρ 0 0 0).2 33 v1.toNatClampNeg) fun x18 => bd ((si ρ 0 0 0).2 0 3) fun x19 => b_about_210 ((x18 - x19).toInt32) (si ρ 0 0 0)) else b_about_210 (-1 : Int32) (si ρ 0 0 0)) = _
          have e33 : (si ρ 0 0 0).2 33 v1.toNatClampNeg = -1 := by rw [si_2, hvn]; exact r2
          rw [gd_t hvi, e33, if_neg (by rw [lg_cmp_ge, x64_le z64_0 m1_64]; omega)]; rfl
      · refine An.same (x := (cJ σ (q + 5) 3 - cJ σ 3 0).toInt32) hh ?_ ?_
        · unfold m_P_about; rw [hs1, bcn_r, gd_t hq, if_neg (by decide), if_pos (by decide)]; unfold m_E_fact; rw [gd_t hq]
          show bc2 (if cI σ (q + 5) 2 = 0 then _ else _) _ = _
          rw [if_neg (by rw [z3, r1]; decide)]; rfl
        · unfold m_about; rw [bd_e, none_0 _ hs, bc2_e, if_pos rfl]
          show gd (inb v1 2) (if 0 ≤ (lg_cmp ((si ρ 0 0 0).2 33 v1.toNatClampNeg) (0 : Int64)) then (gd (inb v1 2) <| bd ((si ρ 0 0 0).2 33 v1.toNatClampNeg) fun x18 => bd ((si ρ 0 0 0).2 0 3) fun x19 => b_about_210 ((x18 - x19).toInt32) (si ρ 0 0 0)) else b_about_210 (-1 : Int32) (si ρ 0 0 0)) = _
          have e33 : (si ρ 0 0 0).2 33 v1.toNatClampNeg = cJ σ (q + 5) 3 := by rw [si_2, hvn]; exact r2
          rw [gd_t hvi, e33, if_pos (by rw [lg_cmp_ge, x64_le z64_0 r3]; omega), gd_t hvi, bd_e, bd_e, si_2, ← l1]; rfl
    by_cases i12 : v2 = 12
    · subst i12
      refine An.same (x := cI σ (q + 6) 3) hh ?_ ?_
      · unfold m_P_about; rw [hs1, bcn_r, gd_t hq, if_neg (by decide), if_pos (by decide)]; unfold m_E_fact; rw [gd_t hq]; rfl
      · unfold m_about; rw [bd_e, none_0 _ hs, bc2_e, if_pos rfl]
        show gd (inb v1 2) (some ((si ρ 0 0 0).1 22 v1.toNatClampNeg, si ρ 0 0 0)) = _
        rw [gd_t hvi, hvn, si_ne _ _ _ _ (by omega), w4]
    by_cases i13 : v2 = 13
    · subst i13
      refine An.same (x := (cJ σ (q + 5) 4).toInt32) hh ?_ ?_
      · unfold m_P_about; rw [hs1, bcn_r, gd_t hq, if_neg (by decide), if_pos (by decide)]; unfold m_E_fact; rw [gd_t hq]; rfl
      · unfold m_about; rw [bd_e, none_0 _ hs, bc2_e, if_pos rfl]
        show gd (inb v1 2) (some ((si ρ 0 0 0).1 25 v1.toNatClampNeg, si ρ 0 0 0)) = _
        rw [gd_t hvi, hvn, si_ne _ _ _ _ (by omega), z5, Int32.toInt32_toInt64]
    by_cases i14 : v2 = 14
    · subst i14
      refine An.same (x := cI σ (q + 1) 5 - cI σ (q + 1) 4) hh ?_ ?_
      · unfold m_P_about; rw [hs1, bcn_r, gd_t hq, if_neg (by decide), if_pos (by decide)]; unfold m_E_fact; rw [gd_t hq]
        show bc2 (bc2 (m_U_flight (q + 1) σ) fun x11 r10 => some (x11, r10)) _ = _
        unfold m_U_flight; rw [gd_t hq1]; rfl
      · unfold m_about; rw [bd_e, none_0 _ hs, bc2_e, if_pos rfl]
        show gd (inb v1 2) (gd (inb v1 2) (some ((si ρ 0 0 0).1 12 v1.toNatClampNeg - (si ρ 0 0 0).1 11 v1.toNatClampNeg, si ρ 0 0 0))) = _
        rw [gd_t hvi, gd_t hvi, hvn, si_ne _ _ _ _ (by omega), si_ne _ _ _ _ (by omega), a4, a2, a4']
    by_cases i15 : v2 = 15
    · subst i15
      refine An.same (x := cI σ (q + 3) 5) hh ?_ ?_
      · unfold m_P_about; rw [hs1, bcn_r, gd_t hq, if_neg (by decide), if_pos (by decide)]; unfold m_E_fact; rw [gd_t hq]; rfl
      · unfold m_about; rw [bd_e, none_0 _ hs, bc2_e, if_pos rfl]
        show bc2 (m_keptBytes v1 (si ρ 0 0 0)) (fun x8 r7 => some (x8, r7)) = _
        rw [kept_sim _ he hv, bc2_e, y6, show (si ρ 0 0 0).1 40 = ρ.1 40 from funext fun j => si_ne _ _ _ _ (by omega)]
    by_cases i16 : v2 = 16
    · subst i16
      refine An.same (x := cI σ q 11) hh ?_ ?_
      · unfold m_P_about; rw [hs1, bcn_r, gd_t hq, if_neg (by decide), if_pos (by decide)]; unfold m_E_fact; rw [gd_t hq]; rfl
      · unfold m_about; rw [bd_e, none_0 _ hs, bc2_e, if_pos rfl]
        show gd (inb v1 2) (some ((si ρ 0 0 0).1 29 v1.toNatClampNeg, si ρ 0 0 0)) = _
        rw [gd_t hvi, hvn, si_ne _ _ _ _ (by omega), x10]
    have out : v2.toInt < 0 ∨ 16 < v2.toInt := Decidable.byContradiction fun hn => by
      obtain ⟨k, hk⟩ := Int.eq_ofNat_of_zero_le (show 0 ≤ v2.toInt by omega)
      have hv2 := x32_of (show k < 2147483648 by omega) hk
      have hk17 : k < 17 := by omega
      have key : ∀ k : Fin 17, (Int32.ofNat k.val = 0 ∨ Int32.ofNat k.val = 1 ∨ Int32.ofNat k.val = 2 ∨ Int32.ofNat k.val = 3 ∨ Int32.ofNat k.val = 4 ∨ Int32.ofNat k.val = 5 ∨ Int32.ofNat k.val = 6 ∨ Int32.ofNat k.val = 7 ∨ Int32.ofNat k.val = 8 ∨ Int32.ofNat k.val = 9 ∨ Int32.ofNat k.val = 10 ∨ Int32.ofNat k.val = 11 ∨ Int32.ofNat k.val = 12 ∨ Int32.ofNat k.val = 13 ∨ Int32.ofNat k.val = 14 ∨ Int32.ofNat k.val = 15 ∨ Int32.ofNat k.val = 16) := by decide
      have := key ⟨k, hk17⟩
      rw [show (⟨k, hk17⟩ : Fin 17).val = k from rfl, ← hv2] at this
      rcases this with a | a | a | a | a | a | a | a | a | a | a | a | a | a | a | a | a
      · exact i0 a
      · exact i1 a
      · exact i2 a
      · exact i3 a
      · exact i4 a
      · exact i5 a
      · exact i6 a
      · exact i7 a
      · exact i8 a
      · exact i9 a
      · exact i10 a
      · exact i11 a
      · exact i12 a
      · exact i13 a
      · exact i14 a
      · exact i15 a
      · exact i16 a
    refine An.no (σ' := wa σ 0 0 6) (y := 0) (j := 2) (k := 2) ?_ ?_ hc2 (by decide)
    · unfold m_P_about b_P_about_16
      rw [hs1, bcn_r, gd_t hq, gd_t hr]
      by_cases h0 : v2 < 0
      · rw [if_pos h0]
      · have : ¬ v2.toInt < 0 := fun q => h0 (x32_lt' rfl z32_0 q)
        rw [if_neg h0, if_neg (x32_nle rfl (show (16 : Int32).toInt = 16 by decide) (by omega))]
    · unfold m_about
      rw [bd_e, none_0 _ hs, bc2_e, if_pos rfl, if_neg i0, if_neg i1, if_neg i2, if_neg i3, if_neg i4, if_neg i5, if_neg i6, if_neg i7, if_neg i8, if_neg i9, if_neg i10, if_neg i11, if_neg i12, if_neg i13, if_neg i14, if_neg i15, if_neg i16, mfail, bc2_e]
  · refine An.no (σ' := wa σ 0 0 6) (y := 0) (j := 3) (k := 1) ?_ ?_ hc3 (by decide)
    · unfold m_P_about; rw [side_no hs hr]
    · unfold m_about; rw [bd_e, none_1 _ hs, bc2_e, if_neg (by decide), mfail, bc2_e]
