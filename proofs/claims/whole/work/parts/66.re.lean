/-! what binds an end to its reference -/
def ps (x : Int32) : Nat := (x &&& 65535).toNatClampNeg
def kc (f : Nat → Int32) (e : Nat) : Nat → Nat
  | 0 => 0
  | i + 1 => kc f e i + if f (65536 * e + i) = 0 then 0 else 1
def up (fu : Int32) (U p : Nat) : Prop := (p + 65536 - ps fu) % 65536 < U
def G1 (q e : Nat) (σ : CS) (ρ : RS) (st : Nat) : Prop :=
  cI σ q 0 = Int32.ofNat e ∧ ρ.1 8 e = cI σ q 7 ∧ (∃ m, 64 ≤ m ∧ m ≤ 1460 ∧ cI σ q 7 = Int32.ofNat m) ∧ ρ.1 9 e = cI σ q 8 ∧ cI σ q 8 = Int32.ofNat st ∧ st ≤ 10 ∧ ρ.1 30 e = cI σ q 9 ∧ (cI σ q 9 = 0 ∨ st = 0 ∧ (cI σ q 9 = 1 ∨ cI σ q 9 = 2)) ∧ ρ.1 28 e = cI σ q 10 ∧ ρ.1 29 e = cI σ q 11 ∧
  ((ρ.1 0 4 = 0 ∧ cI σ q 12 = 0 ∧ st = 0) ∨ (ρ.1 0 4 ≠ 0 ∧ cI σ q 12 ≠ 0 ∧ cI σ q 12 = pt e (ρ.1 0 4) ∧ cI σ q 13 = pt (1 - e) (ρ.1 0 4)))
def G2x (own : Nat → Nat) (q e : Nat) (σ : CS) (ρ : RS) (u nr n m g : Nat) : Prop :=
  ρ.1 10 e = cI σ (q + 1) 3 ∧ (ρ.1 11 e = cI σ (q + 1) 4 ∧ cI σ (q + 1) 4 = cI σ (q + 1) 3 + Int32.ofNat u) ∧ (ρ.1 12 e = cI σ (q + 1) 3 + Int32.ofNat nr ∧ cI σ (q + 1) 5 = cI σ (q + 1) 3 + Int32.ofNat n) ∧ (ρ.1 13 e = cI σ (q + 1) 6 ∧ cI σ (q + 1) 6 = cI σ (q + 1) 3 + Int32.ofNat m) ∧
  (ρ.1 32 e = Int32.ofNat g ∧ (ρ.1 0 4 ≠ 0 → cI σ (q + 1) 7 = cI σ (q + 1) 3 + 1 + Int32.ofNat g)) ∧ (ρ.1 36 e = cI σ (q + 1) 8 ∧ (cI σ (q + 1) 8 = 0 ∧ m ≤ g + 1 ∨ cI σ (q + 1) 8 = 1)) ∧ (ρ.1 14 e = cI σ (q + 1) 9 ∧ ∃ F, F ≤ 65535 ∧ cI σ (q + 1) 9 = Int32.ofNat F) ∧ ρ.1 15 e = cI σ (q + 1) 10 ∧ ρ.1 16 e = cI σ (q + 1) 11 ∧
  (u ≤ n ∧ n ≤ m ∧ m ≤ g + 2 ∧ g ≤ 10240) ∧
  ∃ s ab, cI σ (q + 1) 1 = Int32.ofNat s ∧ cI σ (q + 1) 2 = Int32.ofNat (g - (u - 1)) ∧ cR σ (q + 1) 0 = some ab ∧ kd σ ab = 21 ∧ own ab = 2 + e ∧ s + (g - (u - 1)) ≤ cN σ ab ∧ 64 ≤ cN σ ab ∧ cN σ ab ≤ 20500 ∧ ∀ i, i < g - (u - 1) → cI σ ab (s + i) = ρ.1 38 (81920 * e + (u - 1) + i)
abbrev G2 (own : Nat → Nat) (q e : Nat) (σ : CS) (ρ : RS) (u n m g : Nat) : Prop := G2x own q e σ ρ u n n m g
def G3x (own : Nat → Nat) (q e : Nat) (σ : CS) (ρ : RS) (U z : Nat) : Prop :=
  (ρ.1 7 e = cI σ (q + 3) 0 ∧ ∃ R, R ≤ 65535 ∧ cI σ (q + 3) 0 = Int32.ofNat R) ∧ ρ.1 18 e = cI σ (q + 3) 1 ∧ ρ.1 19 e = cI σ (q + 3) 2 ∧ (ρ.1 37 e = cI σ (q + 3) 3 ∧ (cI σ (q + 3) 3 = 0 ∨ cI σ (q + 3) 3 = 1)) ∧ (ρ.1 31 e = cI σ (q + 3) 4 ∧ cI σ (q + 3) 4 = Int32.ofNat U ∧ U ≤ 65535) ∧
  cI σ (q + 3) 5 = Int32.ofNat (kc (ρ.1 40) e 65536) ∧ cI σ (q + 3) 7 = cI σ (q + 3) 1 - cI σ (q + 3) 3 - cI σ (q + 3) 4 ∧
  (cI σ (q + 3) 3 = 0 → ∃ d, cI σ (q + 3) 2 = cI σ (q + 3) 1 + Int32.ofNat d ∧ d + U ≤ 65535 ∧ ∀ p, p < 65536 → ρ.1 40 (65536 * e + p) ≠ 0 → z ≤ (p + 65536 - ps (cI σ (q + 3) 1)) % 65536 ∧ (p + 65536 - ps (cI σ (q + 3) 1)) % 65536 < d) ∧
  (∀ p, p < 65536 → (ρ.1 40 (65536 * e + p) = 0 ∨ ρ.1 40 (65536 * e + p) = 1) ∧ (up (cI σ (q + 3) 7) U p → ρ.1 40 (65536 * e + p) = 0)) ∧
  ∃ ra, cR σ (q + 3) 6 = some ra ∧ kd σ ra = 24 ∧ own ra = 4 + e ∧ (cN σ ra = 0 ∧ U = 0 ∧ (∀ p, p < 65536 → ρ.1 40 (65536 * e + p) = 0) ∨ cN σ ra = 65536 ∧ ∀ p, p < 65536 → ((up (cI σ (q + 3) 7) U p ∨ ρ.1 40 (65536 * e + p) ≠ 0) → cI σ ra p ≠ 0 ∧ cI σ ra p &&& 255 = ρ.1 39 (65536 * e + p) &&& 255) ∧ (¬ up (cI σ (q + 3) 7) U p → ρ.1 40 (65536 * e + p) = 0 → cI σ ra p = 0))
abbrev G3 (own : Nat → Nat) (q e : Nat) (σ : CS) (ρ : RS) (U : Nat) : Prop := G3x own q e σ ρ U 1
def G4 (q e : Nat) (σ : CS) (ρ : RS) (τ : Nat) (rn : Int32) (tr : Nat) : Prop :=
  (ρ.1 23 e = cI σ (q + 5) 0 ∧ ∃ r, 1 ≤ r ∧ r ≤ 60000 ∧ cI σ (q + 5) 0 = Int32.ofNat r) ∧ (ρ.1 24 e = cI σ (q + 5) 1 ∧ cI σ (q + 5) 1 = Int32.ofNat tr ∧ tr ≤ 8) ∧ cI σ (q + 5) 2 = rn ∧ (rn = 0 ∧ ρ.2 33 e = -1 ∨ rn = 1 ∧ ρ.2 33 e = cJ σ (q + 5) 3 ∧ ∃ D : Nat, (cJ σ (q + 5) 3).toInt = (D : Int) ∧ τ ≤ D ∧ D ≤ τ + 60000) ∧
  (cJ σ (q + 5) 4 = (ρ.1 25 e).toInt64 ∧ -1 ≤ (ρ.1 25 e).toInt ∧ (ρ.1 25 e).toInt ≤ 600000000) ∧ (cJ σ (q + 5) 5 = (ρ.1 26 e).toInt64 ∧ 0 ≤ (ρ.1 26 e).toInt ∧ (ρ.1 26 e).toInt ≤ 600000000) ∧ (ρ.1 35 e = cI σ (q + 5) 6 ∧ (cI σ (q + 5) 6 = 0 ∨ cI σ (q + 5) 6 = 1)) ∧ ρ.1 27 e = cI σ (q + 5) 7 ∧ (ρ.2 34 e = cJ σ (q + 5) 8 ∧ ∃ A : Nat, A ≤ τ ∧ (cJ σ (q + 5) 8).toInt = (A : Int))
def G5 (q e : Nat) (σ : CS) (ρ : RS) (st : Nat) : Prop :=
  ρ.1 17 e = cI σ (q + 6) 0 ∧ ρ.1 20 e = cI σ (q + 6) 1 ∧ ρ.1 21 e = cI σ (q + 6) 2 ∧ ρ.1 22 e = cI σ (q + 6) 3 ∧ (3 ≤ st → ∃ sg cw, 64 ≤ sg ∧ sg ≤ 1460 ∧ cI σ (q + 6) 0 = Int32.ofNat sg ∧ 64 ≤ cw ∧ cw ≤ 1000000 ∧ cI σ (q + 6) 1 = Int32.ofNat cw)
/-- what the state goes with: cl closed, ft the FIN taken, rn the timer runs -/
def XX (e : Nat) (st u n m g U : Nat) (cl ft rn : Int32) (kp : Nat) : Prop :=
  (st ≤ 1 → rn = 0) ∧ (st = 1 → u = 0 ∧ n = 0 ∧ m = 0 ∧ g = 0 ∧ cl = 0) ∧ (st = 2 ∨ st = 3 → u = 0 ∧ n = 1 ∧ m = 1 ∧ g = 0 ∧ cl = 0) ∧ (4 ≤ st → 1 ≤ u) ∧ (st = 4 ∨ st = 7 → cl = 0) ∧ (1 ≤ st ∧ st ≤ 6 → ft = 0) ∧ (st = 1 ∨ st = 2 → U = 0 ∧ kp = 0) ∧ (e = 0 → st ≠ 1 ∧ st ≠ 3) ∧ (e = 1 → st ≠ 2)
def EGx (own : Nat → Nat) (q e : Nat) (σ : CS) (ρ : RS) (τ st u nr n m g U : Nat) (rn : Int32) (tr : Nat) : Prop :=
  G1 q e σ ρ st ∧ G2x own q e σ ρ u nr n m g ∧ G3 own q e σ ρ U ∧ G4 q e σ ρ τ rn tr ∧ G5 q e σ ρ st
abbrev EG (own : Nat → Nat) (q e : Nat) (σ : CS) (ρ : RS) (τ st u n m g U : Nat) (rn : Int32) (tr : Nat) : Prop := EGx own q e σ ρ τ st u n n m g U rn tr
def XQ (q e : Nat) (σ : CS) (ρ : RS) (st u n m g U : Nat) (rn : Int32) : Prop := XX e st u n m g U (cI σ (q + 1) 8) (cI σ (q + 3) 3) rn (kc (ρ.1 40) e 65536)
def EE (own : Nat → Nat) (q e : Nat) (σ : CS) (ρ : RS) (τ st u n m g U : Nat) (rn : Int32) (tr : Nat) : Prop := EG own q e σ ρ τ st u n m g U rn tr ∧ XQ q e σ ρ st u n m g U rn
theorem G1.cg {q e : Nat} {σ σ' : CS} {ρ ρ' : RS} {st : Nat} (h : G1 q e σ ρ st) (F : cI σ' q = cI σ q) (hr : ∀ r, (r = 8 ∨ r = 9 ∨ (28 ≤ r ∧ r ≤ 30)) → ρ'.1 r e = ρ.1 r e) (h4 : ρ'.1 0 4 = ρ.1 0 4) : G1 q e σ' ρ' st := by
  unfold G1 at h ⊢
  rw [F, hr 8 (by omega), hr 9 (by omega), hr 30 (by omega), hr 28 (by omega), hr 29 (by omega), h4]
  exact h
theorem G2x.cg {own own' : Nat → Nat} {q e : Nat} {σ σ' : CS} {ρ ρ' : RS} {u nr n m g : Nat} (h : G2x own q e σ ρ u nr n m g) (F : fr (fun x => x = q + 1 ∨ own x = 2 + e) σ σ') (ho : ∀ x, own x = 2 + e → own' x = 2 + e) (hr : ∀ r, ((10 ≤ r ∧ r ≤ 16) ∨ r = 32 ∨ r = 36) → ρ'.1 r e = ρ.1 r e) (h38 : ∀ i, i < 81920 → ρ'.1 38 (81920 * e + i) = ρ.1 38 (81920 * e + i)) (h04 : ρ'.1 0 4 = ρ.1 0 4 := by first | rfl | assumption) : G2x own' q e σ' ρ' u nr n m g := by
  unfold G2x at h ⊢
  obtain ⟨a1, a2, a3, a4, a5⟩ := F (q + 1) (Or.inl rfl)
  rw [a1, a3, hr 10 (by omega), hr 11 (by omega), hr 12 (by omega), hr 13 (by omega), hr 14 (by omega), hr 15 (by omega), hr 16 (by omega), hr 32 (by omega), hr 36 (by omega), h04]
  obtain ⟨h1, h2, h3, h4, h5, h6, h7, h8, h9, h10, s, ab, k1, k2, k3, k4, k5, k6, k7, k8, k9⟩ := h
  obtain ⟨b1, b2, b3, b4, b5⟩ := F ab (Or.inr k5)
  exact ⟨h1, h2, h3, h4, h5, h6, h7, h8, h9, h10, s, ab, k1, k2, k3, by rw [b5]; exact k4, ho ab k5, by rw [b4]; exact k6, by rw [b4]; exact k7, by rw [b4]; exact k8, fun i hi => by rw [b1, show 81920 * e + (u - 1) + i = 81920 * e + (u - 1 + i) by omega, h38 _ (by omega), ← show 81920 * e + (u - 1) + i = 81920 * e + (u - 1 + i) by omega]; exact k9 i hi⟩
theorem kc_cg {f f' : Nat → Int32} {e : Nat} : ∀ n, (∀ i, i < n → f' (65536 * e + i) = f (65536 * e + i)) → kc f' e n = kc f e n
  | 0, _ => rfl
  | n + 1, h => by
    show kc f' e n + _ = kc f e n + _
    rw [kc_cg n (fun i hi => h i (by omega)), h n (by omega)]
theorem G3x.cg {own own' : Nat → Nat} {q e : Nat} {σ σ' : CS} {ρ ρ' : RS} {U z : Nat} (h : G3x own q e σ ρ U z) (F : fr (fun x => x = q + 3 ∨ own x = 4 + e) σ σ') (ho : ∀ x, own x = 4 + e → own' x = 4 + e) (hr : ∀ r, (r = 7 ∨ r = 18 ∨ r = 19 ∨ r = 31 ∨ r = 37) → ρ'.1 r e = ρ.1 r e) (h39 : ∀ i, i < 65536 → ρ'.1 39 (65536 * e + i) = ρ.1 39 (65536 * e + i)) (h40 : ∀ i, i < 65536 → ρ'.1 40 (65536 * e + i) = ρ.1 40 (65536 * e + i)) : G3x own' q e σ' ρ' U z := by
  unfold G3x at h ⊢
  obtain ⟨a1, a2, a3, a4, a5⟩ := F (q + 3) (Or.inl rfl)
  rw [a1, a3, hr 7 (by omega), hr 18 (by omega), hr 19 (by omega), hr 31 (by omega), hr 37 (by omega), kc_cg 65536 h40]
  obtain ⟨h1, h2, h3, h4, h5, h6, h7, h8, h9, ra, k1, k2, k3, k4⟩ := h
  obtain ⟨b1, b2, b3, b4, b5⟩ := F ra (Or.inr k3)
  refine ⟨h1, h2, h3, h4, h5, h6, h7, fun q0 => ?_, fun p hp => by rw [h40 p hp]; exact h9 p hp, ra, k1, by rw [b5]; exact k2, ho ra k3, ?_⟩
  · obtain ⟨d, d1, d2, d3⟩ := h8 q0
    exact ⟨d, d1, d2, fun p hp hk => d3 p hp (by rw [← h40 p hp]; exact hk)⟩
  · rw [b4, b1]
    rcases k4 with ⟨k4, k5, k6⟩ | ⟨k4, k5⟩
    · exact Or.inl ⟨k4, k5, fun p hp => by rw [h40 p hp]; exact k6 p hp⟩
    · exact Or.inr ⟨k4, fun p hp => by rw [h40 p hp, h39 p hp]; exact k5 p hp⟩
theorem G4.cg {q e : Nat} {σ σ' : CS} {ρ ρ' : RS} {τ : Nat} {rn : Int32} {tr : Nat} (h : G4 q e σ ρ τ rn tr) (F : cI σ' (q + 5) = cI σ (q + 5)) (F' : cJ σ' (q + 5) = cJ σ (q + 5)) (hr : ∀ r, (23 ≤ r ∧ r ≤ 27 ∨ r = 35) → ρ'.1 r e = ρ.1 r e) (hl : ∀ r, r = 33 ∨ r = 34 → ρ'.2 r e = ρ.2 r e) : G4 q e σ' ρ' τ rn tr := by
  unfold G4 at h ⊢
  rw [F, F', hr 23 (by omega), hr 24 (by omega), hr 25 (by omega), hr 26 (by omega), hr 27 (by omega), hr 35 (by omega), hl 33 (by omega), hl 34 (by omega)]
  exact h
theorem G5.cg {q e : Nat} {σ σ' : CS} {ρ ρ' : RS} {st : Nat} (h : G5 q e σ ρ st) (F : cI σ' (q + 6) = cI σ (q + 6)) (hr : ∀ r, (r = 17 ∨ (20 ≤ r ∧ r ≤ 22)) → ρ'.1 r e = ρ.1 r e) : G5 q e σ' ρ' st := by
  unfold G5 at h ⊢
  rw [F, hr 17 (by omega), hr 20 (by omega), hr 21 (by omega), hr 22 (by omega)]
  exact h
/-- all of an end is left as it is -/
theorem EGx.cg {own own' : Nat → Nat} {q e : Nat} {σ σ' : CS} {ρ ρ' : RS} {τ st u nr n m g U : Nat} {rn : Int32} {tr : Nat} (h : EGx own q e σ ρ τ st u nr n m g U rn tr) (hqe : q = 7 ∧ e = 0 ∨ q = 14 ∧ e = 1) (O : Ow own σ) (F : fr (fun x => own x = 10 + e ∨ own x = 2 + e ∨ own x = 4 + e) σ σ') (ho : ∀ x, own x ≠ 99 → own' x = own x) (hr : ∀ r, 7 ≤ r → r ≤ 37 → ρ'.1 r e = ρ.1 r e) (hl : ∀ r, r = 33 ∨ r = 34 → ρ'.2 r e = ρ.2 r e) (h4 : ρ'.1 0 4 = ρ.1 0 4) (h38 : ∀ i, i < 81920 → ρ'.1 38 (81920 * e + i) = ρ.1 38 (81920 * e + i)) (h39 : ∀ i, i < 65536 → ρ'.1 39 (65536 * e + i) = ρ.1 39 (65536 * e + i)) (h40 : ∀ i, i < 65536 → ρ'.1 40 (65536 * e + i) = ρ.1 40 (65536 * e + i)) : EGx own' q e σ' ρ' τ st u nr n m g U rn tr := by
  obtain ⟨g1, g2, g3, g4, g5⟩ := h
  have o0 : own q = 10 + e ∧ own (q + 1) = 10 + e ∧ own (q + 3) = 10 + e ∧ own (q + 5) = 10 + e ∧ own (q + 6) = 10 + e := by
    rcases hqe with ⟨rfl, rfl⟩ | ⟨rfl, rfl⟩
    · exact ⟨O.2.2 7 (by decide), O.2.2 8 (by decide), O.2.2 10 (by decide), O.2.2 12 (by decide), O.2.2 13 (by decide)⟩
    · exact ⟨O.2.2 14 (by decide), O.2.2 15 (by decide), O.2.2 17 (by decide), O.2.2 19 (by decide), O.2.2 20 (by decide)⟩
  have f0 := F q (Or.inl o0.1)
  have f1 := F (q + 1) (Or.inl o0.2.1)
  have f3 := F (q + 3) (Or.inl o0.2.2.1)
  have f5 := F (q + 5) (Or.inl o0.2.2.2.1)
  have f6 := F (q + 6) (Or.inl o0.2.2.2.2)
  refine ⟨g1.cg f0.1 (fun r h => hr r (by omega) (by omega)) h4, g2.cg (F.sub fun x hx => ?_) (fun x hx => by rw [ho x (by omega)]; exact hx) (fun r h => hr r (by omega) (by omega)) h38, g3.cg (F.sub fun x hx => ?_) (fun x hx => by rw [ho x (by omega)]; exact hx) (fun r h => hr r (by omega) (by omega)) h39 h40, g4.cg f5.1 f5.2.1 (fun r h => hr r (by omega) (by omega)) hl, g5.cg f6.1 (fun r h => hr r (by omega) (by omega))⟩
  · rcases hx with rfl | hx
    · exact Or.inl o0.2.1
    · exact Or.inr (Or.inl hx)
  · rcases hx with rfl | hx
    · exact Or.inl o0.2.2.1
    · exact Or.inr (Or.inr hx)
theorem EE.cg {own own' : Nat → Nat} {q e : Nat} {σ σ' : CS} {ρ ρ' : RS} {τ st u n m g U : Nat} {rn : Int32} {tr : Nat} (h : EE own q e σ ρ τ st u n m g U rn tr) (hqe : q = 7 ∧ e = 0 ∨ q = 14 ∧ e = 1) (O : Ow own σ) (F : fr (fun x => own x = 10 + e ∨ own x = 2 + e ∨ own x = 4 + e) σ σ') (ho : ∀ x, own x ≠ 99 → own' x = own x) (hr : ∀ r, 7 ≤ r → r ≤ 37 → ρ'.1 r e = ρ.1 r e) (hl : ∀ r, r = 33 ∨ r = 34 → ρ'.2 r e = ρ.2 r e) (h4 : ρ'.1 0 4 = ρ.1 0 4) (h38 : ∀ i, i < 81920 → ρ'.1 38 (81920 * e + i) = ρ.1 38 (81920 * e + i)) (h39 : ∀ i, i < 65536 → ρ'.1 39 (65536 * e + i) = ρ.1 39 (65536 * e + i)) (h40 : ∀ i, i < 65536 → ρ'.1 40 (65536 * e + i) = ρ.1 40 (65536 * e + i)) : EE own' q e σ' ρ' τ st u n m g U rn tr := by
  have o0 : own (q + 1) = 10 + e ∧ own (q + 3) = 10 + e := by
    rcases hqe with ⟨rfl, rfl⟩ | ⟨rfl, rfl⟩
    · exact ⟨O.2.2 8 (by decide), O.2.2 10 (by decide)⟩
    · exact ⟨O.2.2 15 (by decide), O.2.2 17 (by decide)⟩
  refine ⟨h.1.cg hqe O F ho hr hl h4 h38 h39 h40, ?_⟩
  unfold XQ
  rw [(F (q + 1) (Or.inl o0.1)).1, (F (q + 3) (Or.inl o0.2)).1, kc_cg 65536 h40]
  exact h.2
