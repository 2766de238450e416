/-! writing a segment's bytes, both sides -/
def isB (x : Int32) : Prop := vp_nar .byte x = x
theorem isB_nar (x : Int32) : isB (vp_nar .byte x) := by
  unfold isB
  show (x.toInt8.toInt32).toInt8.toInt32 = x.toInt8.toInt32
  rw [Int8.toInt8_toInt32]
theorem isB_bt (v : Int32) (s : Nat) : isB (bt v s) := isB_nar _
theorem isB_pu {C : Nat → Int32} (h : ∀ i, isB (C i)) (a n : Nat) (v : Int32) : ∀ i, isB (pu C a n v i) := fun i => by
  unfold pu
  split
  · exact isB_bt _ _
  · exact h i
theorem gP1 {σ : CS} {g a len N : Nat} (S : SG σ g a len N) (C : Nat → Int32) {v : Int32} (x : Int32) {at_ : Nat} (h1 : v.toInt = (at_ : Int)) (hle : at_ + 1 ≤ len) : m_G_put g v 1 x (wA σ a C) = some (wA σ a (pu C at_ 1 x)) := by
  rw [gput1 (S.wA C) x h1 hle, wA_self, wA_wA]
theorem gP2 {σ : CS} {g a len N : Nat} (S : SG σ g a len N) (C : Nat → Int32) {v : Int32} (x : Int32) {at_ : Nat} (h1 : v.toInt = (at_ : Int)) (hle : at_ + 2 ≤ len) : m_G_put g v 2 x (wA σ a C) = some (wA σ a (pu C at_ 2 x)) := by
  rw [gput2 (S.wA C) x h1 hle, wA_self, wA_wA]
theorem gP4 {σ : CS} {g a len N : Nat} (S : SG σ g a len N) (C : Nat → Int32) {v : Int32} (x : Int32) {at_ : Nat} (h1 : v.toInt = (at_ : Int)) (hle : at_ + 4 ≤ len) : m_G_put g v 4 x (wA σ a C) = some (wA σ a (pu C at_ 4 x)) := by
  rw [gput4 (S.wA C) x h1 hle, wA_self, wA_wA]
theorem pu_cg {C D : Nat → Int32} {m : Nat} (h : ∀ i, i < m → C i = D i) (a n : Nat) (v : Int32) : ∀ i, i < m → pu C a n v i = pu D a n v i := fun i hi => by
  unfold pu
  rw [h i hi]
theorem rP1 (ρ : RS) {k at_ : Nat} {v1 v2 : Int32} (C : Nat → Int32) (x : Int32) (h1 : v1.toInt = (k : Int)) (h2 : v2.toInt = (at_ : Int)) (hk : k < 513) (hle : at_ + 1 ≤ 1484) : m_put v1 v2 1 x (sS ρ k C) = some (sS ρ k (pu C at_ 1 x)) := by
  rw [rput1 _ x h1 h2 hk hle, sS_sS, sS_congr ρ k (pu_cg (fun i hi => sS_self ρ k C hi) at_ 1 x)]
theorem rP2 (ρ : RS) {k at_ : Nat} {v1 v2 : Int32} (C : Nat → Int32) (x : Int32) (h1 : v1.toInt = (k : Int)) (h2 : v2.toInt = (at_ : Int)) (hk : k < 513) (hle : at_ + 2 ≤ 1484) : m_put v1 v2 2 x (sS ρ k C) = some (sS ρ k (pu C at_ 2 x)) := by
  rw [rput2 _ x h1 h2 hk hle, sS_sS, sS_congr ρ k (pu_cg (fun i hi => sS_self ρ k C hi) at_ 2 x)]
theorem rP4 (ρ : RS) {k at_ : Nat} {v1 v2 : Int32} (C : Nat → Int32) (x : Int32) (h1 : v1.toInt = (k : Int)) (h2 : v2.toInt = (at_ : Int)) (hk : k < 513) (hle : at_ + 4 ≤ 1484) : m_put v1 v2 4 x (sS ρ k C) = some (sS ρ k (pu C at_ 4 x)) := by
  rw [rput4 _ x h1 h2 hk hle, sS_sS, sS_congr ρ k (pu_cg (fun i hi => sS_self ρ k C hi) at_ 4 x)]
def pt (e : Nat) (c : Int32) : Int32 := if e = 1 then 443 else (40000 : Int32) + ((c - (1 : Int32)) - (c - (1 : Int32)) / (20000 : Int32) * (20000 : Int32))
theorem rport (ρ : RS) {v : Int32} {e : Nat} (hv : v.toInt = (e : Int)) : m_port v ρ = some (pt e (ρ.1 0 4), ρ) := by
  unfold m_port pt b_port_24
  by_cases he : e = 1
  · rw [if_pos (x32_eq' hv z32_1 (by omega)), if_pos he]
  · rw [if_neg (x32_ne hv z32_1 (by omega)), bd_e, gd_t (by decide), if_neg he]
def hdC (C : Nat → Int32) (p1 p2 sq ak h fl wn : Int32) : Nat → Int32 := pu (pu (pu (pu (pu (pu (pu (pu C 0 2 p1) 2 2 p2) 4 4 sq) 8 4 ak) 12 1 h) 13 1 fl) 14 2 wn) 18 2 0
def hdR (C : Nat → Int32) (p1 p2 sq ak h fl wn : Int32) : Nat → Int32 := pu (pu (pu (pu (pu (pu (pu (pu C 0 2 p1) 2 2 p2) 4 4 sq) 8 4 ak) 12 1 h) 13 1 fl) 14 2 wn) 16 4 0
theorem bt0 (s : Nat) (t : Nat) (hs : s < 4) (ht : t < 4) : bt 0 s = bt 0 t := by
  have : ∀ s : Fin 4, bt 0 s.val = 0 := by decide
  rw [this ⟨s, hs⟩, this ⟨t, ht⟩]
theorem hd_eq (C D : Nat → Int32) (p1 p2 sq ak h fl wn : Int32) (i : Nat) (hi : i < 20) (h16 : i ≠ 16) (h17 : i ≠ 17) : hdC C p1 p2 sq ak h fl wn i = hdR D p1 p2 sq ak h fl wn i := by
  unfold hdC hdR
  have hr : i < 2 ∨ (2 ≤ i ∧ i < 4) ∨ (4 ≤ i ∧ i < 8) ∨ (8 ≤ i ∧ i < 12) ∨ (12 ≤ i ∧ i < 13) ∨ (13 ≤ i ∧ i < 14) ∨ (14 ≤ i ∧ i < 16) ∨ (18 ≤ i ∧ i < 20) := by omega
  rcases hr with hr | hr | hr | hr | hr | hr | hr | hr
  · simp (disch := omega) only [pu_in, pu_out]
  · simp (disch := omega) only [pu_in, pu_out]
  · simp (disch := omega) only [pu_in, pu_out]
  · simp (disch := omega) only [pu_in, pu_out]
  · simp (disch := omega) only [pu_in, pu_out]
  · simp (disch := omega) only [pu_in, pu_out]
  · simp (disch := omega) only [pu_in, pu_out]
  · rw [pu_in (by omega) (by omega), pu_in (by omega) (by omega)]
    exact bt0 _ _ (by omega) (by omega)
theorem mssb : ∀ m : Fin 1461, bt ((33816576 : Int32) ||| Int32.ofNat m.val) 3 = bt 516 1 ∧ bt ((33816576 : Int32) ||| Int32.ofNat m.val) 2 = bt 516 0 ∧ bt ((33816576 : Int32) ||| Int32.ofNat m.val) 1 = bt (Int32.ofNat m.val) 1 ∧ bt ((33816576 : Int32) ||| Int32.ofNat m.val) 0 = bt (Int32.ofNat m.val) 0 := by decide +kernel
theorem opt_eq (C D : Nat → Int32) {x : Int32} {m : Nat} (hx : x = Int32.ofNat m) (hm : m ≤ 1460) (h : ∀ i, i < 20 → i ≠ 16 → i ≠ 17 → C i = D i) (i : Nat) (hi : i < 24) (h16 : i ≠ 16) (h17 : i ≠ 17) : pu C 20 4 ((33816576 : Int32) ||| x) i = pu (pu D 20 2 516) 22 2 x i := by
  obtain ⟨b3, b2, b1, b0⟩ := mssb ⟨m, by omega⟩
  rw [← hx] at b3 b2 b1 b0
  have hr : i < 20 ∨ i = 20 ∨ i = 21 ∨ i = 22 ∨ i = 23 := by omega
  rcases hr with hr | rfl | rfl | rfl | rfl
  · simp (disch := omega) only [pu_out]
    exact h i hr h16 h17
  · simp (disch := omega) only [pu_in, pu_out]
    exact b3
  · simp (disch := omega) only [pu_in, pu_out]
    exact b2
  · simp (disch := omega) only [pu_in, pu_out]
    exact b1
  · simp (disch := omega) only [pu_in, pu_out]
    exact b0
