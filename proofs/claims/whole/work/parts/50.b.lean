/-! L2: THE PURE PART. Reads of written states; ints; the relation's words -/
section L2A
variable {σ : CS} {ρ : RS} {q j a i : Nat} {x : Int32} {y : Int64}
theorem si_1 (ρ : RS) (r k : Nat) (x : Int32) (a j : Nat) : (si ρ r k x).1 a j = if a = r ∧ j = k then x else ρ.1 a j := rfl
theorem si_2 (ρ : RS) (r k : Nat) (x : Int32) : (si ρ r k x).2 = ρ.2 := rfl
theorem sl_1 (ρ : RS) (r k : Nat) (x : Int64) : (sl ρ r k x).1 = ρ.1 := rfl
theorem sl_2 (ρ : RS) (r k : Nat) (x : Int64) (a j : Nat) : (sl ρ r k x).2 a j = if a = r ∧ j = k then x else ρ.2 a j := rfl
theorem wi_I (σ : CS) (q j : Nat) (x : Int32) (a i : Nat) : cI (wi σ q j x) a i = if a = q ∧ i = j then x else cI σ a i := rfl
theorem wi_J (σ : CS) (q j : Nat) (x : Int32) : cJ (wi σ q j x) = cJ σ := rfl
theorem wi_R (σ : CS) (q j : Nat) (x : Int32) : cR (wi σ q j x) = cR σ := rfl
theorem wi_T (σ : CS) (q j : Nat) (x : Int32) : cT (wi σ q j x) = cT σ := rfl
theorem wi_N (σ : CS) (q j : Nat) (x : Int32) : cN (wi σ q j x) = cN σ := rfl
theorem wi_X (σ : CS) (q j : Nat) (x : Int32) : cX (wi σ q j x) = cX σ := rfl
theorem wi_U (σ : CS) (q j : Nat) (x : Int32) : cU (wi σ q j x) = cU σ := rfl
theorem wi_k (σ : CS) (q j : Nat) (x : Int32) : kd (wi σ q j x) = kd σ := rfl
theorem wl_I (σ : CS) (q j : Nat) (x : Int64) : cI (wl σ q j x) = cI σ := rfl
theorem wl_J (σ : CS) (q j : Nat) (x : Int64) (a i : Nat) : cJ (wl σ q j x) a i = if a = q ∧ i = j then x else cJ σ a i := rfl
theorem wl_R (σ : CS) (q j : Nat) (x : Int64) : cR (wl σ q j x) = cR σ := rfl
theorem wl_T (σ : CS) (q j : Nat) (x : Int64) : cT (wl σ q j x) = cT σ := rfl
theorem wl_N (σ : CS) (q j : Nat) (x : Int64) : cN (wl σ q j x) = cN σ := rfl
theorem wl_X (σ : CS) (q j : Nat) (x : Int64) : cX (wl σ q j x) = cX σ := rfl
theorem wl_U (σ : CS) (q j : Nat) (x : Int64) : cU (wl σ q j x) = cU σ := rfl
theorem wl_k (σ : CS) (q j : Nat) (x : Int64) : kd (wl σ q j x) = kd σ := rfl
theorem wr_I (σ : CS) (q j : Nat) (x : Option Nat) : cI (wr σ q j x) = cI σ := rfl
theorem wr_J (σ : CS) (q j : Nat) (x : Option Nat) : cJ (wr σ q j x) = cJ σ := rfl
theorem wr_R (σ : CS) (q j : Nat) (x : Option Nat) (a i : Nat) : cR (wr σ q j x) a i = if a = q ∧ i = j then x else cR σ a i := rfl
theorem wr_T (σ : CS) (q j : Nat) (x : Option Nat) : cT (wr σ q j x) = cT σ := rfl
theorem wr_N (σ : CS) (q j : Nat) (x : Option Nat) : cN (wr σ q j x) = cN σ := rfl
theorem wr_X (σ : CS) (q j : Nat) (x : Option Nat) : cX (wr σ q j x) = cX σ := rfl
theorem wr_U (σ : CS) (q j : Nat) (x : Option Nat) : cU (wr σ q j x) = cU σ := rfl
theorem wr_k (σ : CS) (q j : Nat) (x : Option Nat) : kd (wr σ q j x) = kd σ := rfl
theorem wa_I (σ : CS) (k n w a i : Nat) : cI (wa σ k n w) a i = if a = cX σ then 0 else cI σ a i := rfl
theorem wa_J (σ : CS) (k n w a i : Nat) : cJ (wa σ k n w) a i = if a = cX σ then 0 else cJ σ a i := rfl
theorem wa_R (σ : CS) (k n w a i : Nat) : cR (wa σ k n w) a i = if a = cX σ then none else cR σ a i := rfl
theorem wa_T (σ : CS) (k n w a : Nat) : cT (wa σ k n w) a = if a = cX σ then k else cT σ a := rfl
theorem wa_N (σ : CS) (k n w a : Nat) : cN (wa σ k n w) a = if a = cX σ then n else cN σ a := rfl
theorem wa_X (σ : CS) (k n w : Nat) : cX (wa σ k n w) = cX σ + 1 := rfl
theorem wa_U (σ : CS) (k n w : Nat) : cU (wa σ k n w) = cU σ + w := rfl
theorem wa_k (σ : CS) (k n w a : Nat) (h : 63 ≤ cX σ) : kd (wa σ k n w) a = if a = cX σ then k else kd σ a := by
  unfold kd
  by_cases ha : a = cX σ
  · subst ha
    rw [fxk_hi (by omega), if_pos rfl, if_pos rfl]
    exact if_pos rfl
  · rw [if_neg ha, show cT (wa σ k n w) a = cT σ a from if_neg ha]
theorem wcp_I (σ : CS) (s d sp dp n a i : Nat) : cI (wcp σ s d sp dp n) a i = if a = d then va_cpy (cI σ s) (cI σ d) sp dp n i else cI σ a i := rfl
theorem wcp_o (σ : CS) (s d sp dp n : Nat) : (wcp σ s d sp dp n).2 = σ.2 := rfl
theorem wcq_R (σ : CS) (s d sp dp n a i : Nat) : cR (wcq σ s d sp dp n) a i = if a = d then va_cpy (cR σ s) (cR σ d) sp dp n i else cR σ a i := rfl
theorem i0_in2 : inb (0 : Int32) 2 := by decide
theorem i1_in2 : inb (1 : Int32) 2 := by decide
theorem i0_n : Int32.toNatClampNeg 0 = 0 := by decide
theorem i1_n : Int32.toNatClampNeg 1 = 1 := by decide
theorem gd_t {β : Type} {c : Prop} [Decidable c] {x : Option β} (h : c) : gd c x = x := if_pos h
theorem bd_e {α β : Type} (v : α) (k : α → Option β) : bd v k = k v := rfl
theorem bd2_e {α γ β : Type} (a : α) (s : γ) (k : α → γ → Option β) : bd2 a s k = k a s := rfl
theorem bc_e {α β : Type} (v : α) (k : α → Option β) : bc (some v) k = k v := rfl
theorem bc2_e {α γ β : Type} (a : α) (s : γ) (k : α → γ → Option β) : bc2 (some (a, s)) k = k a s := rfl
theorem z01_0 : ((0 : Int32) = 0 ∨ (0 : Int32) = 1) := Or.inl rfl
theorem z01_1 : ((1 : Int32) = 0 ∨ (1 : Int32) = 1) := Or.inr rfl
theorem nar_b0 : vp_nar .boolean (0 : Int32) = 0 := by decide
theorem nar_b1 : vp_nar .boolean (1 : Int32) = 1 := by decide
theorem x32_add {a b : Int32} {m n : Int} (ha : a.toInt = m) (hb : b.toInt = n) (h1 : -2147483648 ≤ m + n) (h2 : m + n < 2147483648) : (a + b).toInt = m + n := by
  rw [Int32.toInt_add, ha, hb]
  exact Int.bmod_eq_of_le (by omega) (by omega)
theorem x32_sub {a b : Int32} {m n : Int} (ha : a.toInt = m) (hb : b.toInt = n) (h1 : -2147483648 ≤ m - n) (h2 : m - n < 2147483648) : (a - b).toInt = m - n := by
  rw [Int32.toInt_sub, ha, hb]
  exact Int.bmod_eq_of_le (by omega) (by omega)
theorem x32_mul {a b : Int32} {m n : Int} (ha : a.toInt = m) (hb : b.toInt = n) (h1 : -2147483648 ≤ m * n) (h2 : m * n < 2147483648) : (a * b).toInt = m * n := by
  rw [Int32.toInt_mul, ha, hb]
  exact Int.bmod_eq_of_le (by omega) (by omega)
theorem x32_n {a : Int32} {n : Nat} (ha : a.toInt = (n : Int)) : a.toNatClampNeg = n := by
  show a.toInt.toNat = n
  rw [ha]; omega
theorem x32_in {a : Int32} {n k : Nat} (ha : a.toInt = (n : Int)) (h : n < k) : inb a k := by
  intro q
  rcases q with q | q
  · have := Int32.lt_iff_toInt_lt.mp q
    have h0 : (0 : Int32).toInt = 0 := by decide
    omega
  · rw [x32_n ha] at q
    omega
theorem x32_lt {a b : Int32} {m n : Int} (ha : a.toInt = m) (hb : b.toInt = n) : a < b ↔ m < n := by
  rw [Int32.lt_iff_toInt_lt, ha, hb]
theorem x32_le {a b : Int32} {m n : Int} (ha : a.toInt = m) (hb : b.toInt = n) : a ≤ b ↔ m ≤ n := by
  rw [Int32.le_iff_toInt_le, ha, hb]
theorem x32_eq {a b : Int32} {m n : Int} (ha : a.toInt = m) (hb : b.toInt = n) : a = b ↔ m = n := by
  rw [← Int32.toInt_inj, ha, hb]
theorem x32_nat {n : Nat} (h : n < 2147483648) : (Int32.ofNat n).toInt = (n : Int) := i32_toInt h
theorem x32_of {a : Int32} {n : Nat} (h : n < 2147483648) (ha : a.toInt = (n : Int)) : a = Int32.ofNat n := Int32.toInt_inj.mp (by rw [ha, x32_nat h])
end L2A
theorem tst1 (a b c : Int32) : a + 1 + c - b = c - (b - a - 1) := by grind
theorem tst2 (iss fin nxt g : Int32) (h : fin = iss + 1 + g) : fin - nxt = g - (nxt - iss - 1) := by grind
theorem tst3 (a b c : Int32) (h : a = b + c) : a - b = c := by grind
