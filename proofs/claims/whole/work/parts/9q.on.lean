/-! open, both sides -/
def BF (own : Nat → Nat) (q e : Nat) (σ : CS) : Prop := ∃ ab, cR σ (q + 1) 0 = some ab ∧ kd σ ab = 21 ∧ own ab = 2 + e ∧ 64 ≤ cN σ ab ∧ cN σ ab ≤ 20500
theorem fresh_sim {own : Nat → Nat} {q e : Nat} {σ : CS} {ρ : RS} {τ U : Nat} {rn : Int32} {tr : Nat} (hqe : q = 7 ∧ e = 0 ∨ q = 14 ∧ e = 1) (O : Ow own σ) (a0 : cI σ q 0 = Int32.ofNat e) (a7 : ρ.1 8 e = cI σ q 7) (a7m : ∃ m, 64 ≤ m ∧ m ≤ 1460 ∧ cI σ q 7 = Int32.ofNat m) (g2 : BF own q e σ) (g3 : G3 own q e σ ρ U) (g4 : G4 q e σ ρ τ rn tr) {v1 v p1 p2 : Int32} {st : Nat} (hst : st < 3) (hv : v1.toInt = (e : Int)) (hc : ρ.1 0 4 ≠ 0) (hp : p1 ≠ 0) (h1 : p1 = pt e (ρ.1 0 4)) (h2 : p2 = pt (1 - e) (ρ.1 0 4)) :
    ∃ σ' ρ', m_E_begin q (Int32.ofNat st) v p1 p2 σ = some σ' ∧ m_fresh v1 v ρ = some ρ' ∧ BG own q e (Int32.ofNat st) v p1 p2 σ σ' ∧ FS e v ρ ρ' ∧ EG own q e σ' (si ρ' 9 e (Int32.ofNat st)) τ st 0 0 0 0 0 0 0 ∧ kc (ρ'.1 40) e 65536 = 0 := by
  have he : e < 2 := by omega
  obtain ⟨σ', x1, B⟩ := e_begin hqe O g3 (Int32.ofNat st) v p1 p2
  obtain ⟨ρ', y1, R⟩ := fresh_ref (ρ := ρ) he hv v
  have s9 : ∀ r, r ≠ 9 → (si ρ' 9 e (Int32.ofNat st)).1 r = ρ'.1 r := fun r hr => funext fun j => si_ne _ _ _ _ (Or.inl hr)
  have B' := B
  have R' := R
  obtain ⟨F, s22, ⟨b0, b7, b8, b9, b10, b11, b12, b13⟩, ⟨u1, u2, u3, u4, u5, u6, u7, u8, u9, u10, u11⟩, ⟨⟨w0, w1, w2, w3, w4, w5, w7⟩, wr0⟩, ⟨z0, z1, z2, z6, z7, zJ4, zJ5, zJ8⟩, ⟨c0, c1, c2, c3⟩⟩ := B'
  obtain ⟨⟨r10, r11, r12, r13, r14, r15, r16, r17, r18, r19, r20, r21, r22, r23, r24, r25, r26, r35, r28, r29, r30, r31, r32, r36, r37⟩, l33, k40, ro, ro2, lo, k40o⟩ := R'
  have eR : cR σ' = cR σ := by unfold cR; rw [s22]
  have eN : cN σ' = cN σ := by unfold cN; rw [s22]
  have eK : ∀ x, kd σ' x = kd σ x := fun x => by unfold kd cT; rw [s22]
  have z00 : Int32.ofNat 0 = (0 : Int32) := rfl
  have kc0 : kc (ρ'.1 40) e 65536 = 0 := kc_all0 65536 k40
  refine ⟨σ', ρ', x1, y1, B, R, ⟨?_, ?_, ?_, ?_, ?_⟩, kc0⟩
  · obtain ⟨mm, m1, m2, m3⟩ := a7m
    exact ⟨by rw [b0, a0], by rw [s9 8 (by omega), ro 8 (by omega), a7, b7], ⟨mm, m1, m2, by rw [b7, m3]⟩, by rw [si_eq, b8], b8, by omega, by rw [s9 30 (by omega), r30, b9], Or.inl b9, by rw [s9 28 (by omega), r28, b10], by rw [s9 29 (by omega), r29, b11], Or.inr ⟨by rw [s9 0 (by omega), ro 0 (by omega)]; exact hc, by rw [b12]; exact hp, by rw [b12, s9 0 (by omega), ro 0 (by omega)]; exact h1, by rw [b13, s9 0 (by omega), ro 0 (by omega)]; exact h2⟩⟩
  · obtain ⟨ab, k3, k4, k5, k7, k8⟩ := g2
    unfold G2x
    rw [u1, u2, u3, u4, u5, u6, u7, u8, u9, u10, u11, s9 10 (by omega), s9 11 (by omega), s9 12 (by omega), s9 13 (by omega), s9 32 (by omega), s9 36 (by omega), s9 14 (by omega), s9 15 (by omega), s9 16 (by omega), r10, r11, r12, r13, r32, r36, r14, r15, r16, z00]
    exact ⟨rfl, ⟨rfl, by grind⟩, ⟨by grind, by grind⟩, ⟨rfl, by grind⟩, ⟨rfl, fun _ => by grind⟩, ⟨rfl, Or.inl ⟨rfl, by omega⟩⟩, ⟨rfl, 0, by omega, rfl⟩, rfl, rfl, ⟨by omega, by omega, by omega, by omega⟩, 0, ab, rfl, rfl, by rw [eR]; exact k3, by rw [eK]; exact k4, k5, by rw [eN]; omega, by rw [eN]; exact k7, by rw [eN]; exact k8, fun i hi => by omega⟩
  · unfold G3 G3x at g3 ⊢
    obtain ⟨⟨h1, RR, hR, h1a⟩, h2, h3, h4, ⟨h5, h5a, h5b⟩, h6, h7, h8, h9, ra, k1, k2, k3, k4⟩ := g3
    rw [w0, w1, w2, w3, w4, w5, w7, s9 7 (by omega), s9 18 (by omega), s9 19 (by omega), s9 37 (by omega), s9 31 (by omega), s9 40 (by omega), s9 39 (by omega), r18, r19, r37, r31, kc0, eR, eN, ro 7 (by omega)]
    refine ⟨⟨h1, RR, hR, h1a⟩, rfl, rfl, ⟨rfl, Or.inl rfl⟩, ⟨rfl, rfl, by omega⟩, rfl, by grind, fun _ => ⟨0, by rw [z00]; grind, by omega, fun p hp hne => absurd (k40 p hp) hne⟩, fun p hp => ⟨Or.inl (k40 p hp), fun _ => k40 p hp⟩, ra, k1, by rw [eK]; exact k2, k3, ?_⟩
    rcases k4 with ⟨k4, k5, k6⟩ | ⟨k4, k5⟩
    · exact Or.inl ⟨k4, rfl, k40⟩
    · exact Or.inr ⟨k4, fun p hp => ⟨fun hh => hh.elim (fun hh => by unfold up at hh; omega) (fun hh => absurd (k40 p hp) hh), fun _ _ => wr0 ra k1 k4 p hp⟩⟩
  · obtain ⟨f1, f2, f3, f4, f5, f6, f7, f8, f9, A, hA, hA2⟩ := g4
    unfold G4
    rw [z0, z1, z2, z6, z7, zJ4, zJ5, zJ8, s9 23 (by omega), s9 24 (by omega), s9 25 (by omega), s9 26 (by omega), s9 35 (by omega), s9 27 (by omega), r23, r24, r25, r26, r35, ro 27 (by omega), si_2, l33, lo 34 e (by omega)]
    exact ⟨⟨rfl, 1000, by omega, by omega, by decide⟩, ⟨rfl, rfl, by omega⟩, rfl, Or.inl ⟨rfl, rfl⟩, ⟨by decide, by decide, by decide⟩, ⟨by decide, by decide, by decide⟩, ⟨rfl, Or.inl rfl⟩, f8, f9, A, hA, hA2⟩
  · unfold G5
    rw [c0, c1, c2, c3, s9 17 (by omega), s9 20 (by omega), s9 21 (by omega), s9 22 (by omega), r17, r20, r21, r22]
    exact ⟨rfl, rfl, rfl, rfl, fun hh => by omega⟩
theorem syn_sim2 {own : Nat → Nat} {P C : List (Nat × Nat)} {S : List Nat} {c1 c2 K q e : Nat} {σ : CS} {ρ : RS} {τ st U : Nat} {rn : Int32} {tr : Nat} (hqe : q = 7 ∧ e = 0 ∨ q = 14 ∧ e = 1) (N : NB own P C S c1 c2 K σ ρ) (E : EG own q e σ ρ τ st 0 0 0 0 U rn tr) (T : CT σ ρ τ) {v1 v : Int32} (hv : v1.toInt = (e : Int)) (hse : e = 0 ↔ st = 2) (h10 : ρ.1 10 e = v) :
    ∃ σ' ρ1 ρ' own', m_E_sendFirstSyn q σ = some σ' ∧ m_send v1 2 v 0 0 ρ = some ρ1 ∧ ρ' = sl (si ρ1 12 e (v + 1)) 33 e (ρ1.2 0 3 + (ρ1.1 23 e).toInt64) ∧ EG own' q e σ' ρ' τ st 0 1 1 0 U 1 tr ∧ EP K C own own' e σ σ' ρ ρ' ∧ cI σ' (q + 1) 8 = cI σ (q + 1) 8 ∧ cI σ' (q + 3) 3 = cI σ (q + 3) 3 := by
  have hq : q = 7 ∨ q = 14 := by omega
  have he : e < 2 := by omega
  have o3 : own 3 = 14 := N.2.2.1.2.2 3 (by decide)
  have i2 : inc 2 = 1 := by decide
  obtain ⟨σ1, ρ1, o1, y1, y2, y3, y4, y5⟩ := sendNext_sim (f := 2) (nn := 0) (v4 := 0) (k := 0) (b := 1) hqe N E T.1 T.2.1 T.2.2.1 T.2.2.2.1 hv (by decide) (by omega) (Or.inl rfl) (Or.inr (Or.inr ⟨rfl, rfl, hse⟩)) (by omega) (by omega) (fun _ => by omega)
  obtain ⟨σ', ρ1', ρ', own', x1, x2, x3, x4, x5, x6, x7⟩ := syn_sim hqe N E T hv hse
  have e10 : ρ.1 12 e = ρ.1 10 e := by
    rw [E.2.1.2.2.1.1, E.2.1.1]; show cI σ (q + 1) 3 + 0 = _; grind
  rw [e10, x2] at y2
  have e1 : ρ1' = ρ1 := by injection y2
  have f10 : ρ1'.1 10 e = v := by
    rw [e1, y5.2.2.2.2.2.2.2.1 10 (by omega) (by omega) (by omega) (by omega) (by omega) (by omega), h10]
  rw [f10] at x3
  rw [h10] at x2
  exact ⟨σ', ρ1', ρ', own', x1, x2, x3, x4, x5, x6, x7⟩
theorem xor_nn {a b : Int32} (ha : 0 ≤ a.toInt) (hb : 0 ≤ b.toInt) : 0 ≤ a ^^^ b := by
  have h1 : a.toBitVec.msb = false := by rw [BitVec.msb_eq_toInt]; exact decide_eq_false (by show ¬ a.toInt < 0; omega)
  have h2 : b.toBitVec.msb = false := by rw [BitVec.msb_eq_toInt]; exact decide_eq_false (by show ¬ b.toInt < 0; omega)
  have h3 : (a ^^^ b).toBitVec.msb = false := by rw [Int32.toBitVec_xor, BitVec.msb_xor, h1, h2]; rfl
  rw [BitVec.msb_eq_toInt] at h3
  have h4 := of_decide_eq_false h3
  refine Int32.le_iff_toInt_le.mpr ?_
  show (0 : Int) ≤ (a ^^^ b).toBitVec.toInt
  omega
/-- the ports of a connection -/
theorem port_ok {cn : Nat} (hcn : cn ≤ 512) (σ : CS) : ∃ x4, m_J_floorMod_II (nI cn) 20000 σ = some (x4, σ) ∧ (40000 : Int32) + x4 = pt 0 (nI cn + 1) ∧ (40000 : Int32) + x4 ≠ 0 := by
  have tc : (nI cn).toInt = (cn : Int) := nI_t (by omega)
  have t2 : (20000 : Int32).toInt = ((20000 : Nat) : Int) := by decide
  have t4 : (40000 : Int32).toInt = 40000 := by decide
  refine ⟨nI cn - nI cn / 20000 * 20000, ?_, ?_, ?_⟩
  · unfold m_J_floorMod_II b_J_floorMod_II_18
    rw [gd_t (by decide), bd_e, if_pos (xor_nn (by omega) (by omega))]
  · unfold pt
    rw [if_neg (by decide), show nI cn + 1 - 1 = nI cn by grind]
  · have hd : (nI cn / 20000).toInt = ((cn / 20000 : Nat) : Int) := x32_div tc t2 (by omega) (by omega)
    have h0 : cn / 20000 = 0 := Nat.div_eq_of_lt (by omega)
    rw [h0] at hd
    have hm : (nI cn / 20000 * 20000).toInt = 0 := by rw [x32_mul hd t2 (by omega) (by omega)]; omega
    have hs : (nI cn - nI cn / 20000 * 20000).toInt = (cn : Int) := by rw [x32_sub tc hm (by omega) (by omega)]; omega
    exact x32_ne (x32_add t4 hs (by omega) (by omega)) z32_0 (by omega)
theorem open_ok {c : Nat} {σ : CS} {ρ : RS} (h : RL c σ ρ) (hc : c < 512) (v1 v2 : Int32) : ∃ x σ' ρ', m_P_open v1 v2 σ = some (x, σ') ∧ m_open v1 v2 ρ = some (x, ρ') ∧ RL (c + 1) σ' ρ' := by
  obtain ⟨own, τ, g0, g1, T, K, h⟩ := h
  have tp := h.2.2.2.1
  obtain ⟨⟨P, S, c1, c2, N⟩, ⟨st0, u0, n0, m0, U0, rn0, tr0, E0⟩, ⟨st1, u1, n1, m1, U1, rn1, tr1, E1⟩, _, ⟨l1, l2, l3, ⟨cn, l4, l5, l6⟩, l7, l8⟩, k1, k2⟩ := h
  have O := N.2.2.1
  have o0 : own 0 = 12 := O.2.2 0 (by decide)
  have l5 : cI σ 0 5 = nI cn := l5
  have l6 : ρ.1 0 4 = nI cn := l6
  -- one connection more
  obtain ⟨σ1, hσ1⟩ : ∃ y, y = wi σ 0 5 (nI cn + 1) := ⟨_, rfl⟩
  obtain ⟨ρ1, hρ1⟩ : ∃ y, y = si (si ρ 0 0 0) 0 4 (nI cn + 1) := ⟨_, rfl⟩
  have F1 : fr (fun x => x ≠ 0) σ σ1 := by rw [hσ1]; exact fr_wi σ 0 5 _
  have q1 : ∀ r, r ≠ 0 → ρ1.1 r = ρ.1 r := fun r hr => by
    rw [hρ1]; exact funext fun j => by rw [si_ne _ _ _ _ (Or.inl hr), si_ne _ _ _ _ (Or.inl hr)]
  have q10 : ∀ j, j ≠ 0 → j ≠ 4 → ρ1.1 0 j = ρ.1 0 j := fun j a b => by
    rw [hρ1, si_ne _ _ _ _ (Or.inr b), si_ne _ _ _ _ (Or.inr a)]
  have q14 : ρ1.1 0 4 = nI cn + 1 := by rw [hρ1, si_eq]
  have q12 : ρ1.2 = ρ.2 := by rw [hρ1]; rfl
  have s1 : σ1.2 = σ.2 := by rw [hσ1]; rfl
  have N1 : NB own P [] S c1 c2 K σ1 ρ1 := N.f (F1.sub fun x (hx : 50 ≤ own x ∧ own x ≠ 99) e1 => by rw [e1] at hx; omega) (fun _ _ => rfl) (by rw [hσ1]; exact O) (fun r a b => q1 r (by omega)) (q10 5 (by omega) (by omega)) (q10 10 (by omega) (by omega)) (by rw [hσ1]; exact Nat.le_refl _) (by rw [hσ1]; exact Nat.le_refl _) N.2.2.2.1.2.2
  -- the network is emptied
  obtain ⟨σ2, ρ2, ow2, S2, c2', mm, f1, f2, f3, N2, F2, ho2, R2⟩ := forget_sim N1 (v1 := v1) (v2 := v2)
  have O2 := N2.2.2.1
  have F02 : fr (fun x => own x < 50 ∧ x ≠ 0) σ σ2 := fr.tr (F1.sub fun x hx => hx.2) F2 (fun x hx => hx.1)
  have p2 : ∀ r, r = 1 ∨ 7 ≤ r → ρ2.1 r = ρ.1 r := fun r hr => by rw [R2.2.1 r hr, q1 r (by omega)]
  have p24 : ρ2.1 0 4 = nI cn + 1 := by rw [R2.2.2 4 (by omega) (by omega), q14]
  have p22 : ρ2.2 = ρ.2 := by rw [R2.1, q12]
  have hcn1 : nI cn + 1 = nI (cn + 1) := (nI_succ cn).symm
  have hcne : ρ2.1 0 4 ≠ 0 := by rw [p24, hcn1]; exact x32_ne (nI_t (by omega)) z32_0 (by omega)
  obtain ⟨x4, j1, j2, j3⟩ := port_ok (by omega : cn ≤ 512) σ1
  have w7 : own 7 = 10 := O.2.2 7 (by decide)
  have w8 : own 8 = 10 := O.2.2 8 (by decide)
  have w10 : own 10 = 10 := O.2.2 10 (by decide)
  have w12 : own 12 = 10 := O.2.2 12 (by decide)
  have w13 : own 13 = 10 := O.2.2 13 (by decide)
  have w14 : own 14 = 11 := O.2.2 14 (by decide)
  have w15 : own 15 = 11 := O.2.2 15 (by decide)
  have w17 : own 17 = 11 := O.2.2 17 (by decide)
  have w19 : own 19 = 11 := O.2.2 19 (by decide)
  have w20 : own 20 = 11 := O.2.2 20 (by decide)
  -- end 0 begins
  have a0 := F02 7 ⟨by omega, by omega⟩
  have g20 : BF ow2 7 0 σ2 := by
    obtain ⟨_, _, _, _, _, _, _, _, _, _, s, ab, k1, k2, k3, k4, k5, k6, k7, k8, k9⟩ := E0.1.2.1
    have f8 := F02 8 ⟨by omega, by omega⟩
    have fa := F02 ab ⟨by omega, fun e1 => by rw [e1] at k5; omega⟩
    exact ⟨ab, by rw [f8.2.2.1]; exact k3, by rw [fa.2.2.2.2]; exact k4, by rw [ho2 ab (by omega)]; exact k5, by rw [fa.2.2.2.1]; exact k7, by rw [fa.2.2.2.1]; exact k8⟩
  have g30 : G3 ow2 7 0 σ2 ρ2 U0 := E0.1.2.2.1.cg (F02.sub fun x (hx : x = 7 + 3 ∨ own x = 4 + 0) => ⟨hx.elim (fun h => by rw [h]; show own 10 < 50; omega) (fun h => by omega), fun e1 => by rw [e1] at hx; omega⟩) (fun x hx => by rw [ho2 x (by omega)]; exact hx) (fun r hr => by rw [p2 r (by omega)]) (fun i _ => by rw [p2 39 (by omega)]) (fun i _ => by rw [p2 40 (by omega)])
  have g40 : G4 7 0 σ2 ρ2 τ rn0 tr0 := E0.1.2.2.2.1.cg (F02 12 ⟨by omega, by omega⟩).1 (F02 12 ⟨by omega, by omega⟩).2.1 (fun r hr => by rw [p2 r (by omega)]) (fun r _ => by rw [p22])
  obtain ⟨σ3, ρ3, b1, b2, B, R, EG0, kc0⟩ := fresh_sim (v := v1) (p1 := (40000 : Int32) + x4) (p2 := 443) (st := 2) (Or.inl ⟨rfl, rfl⟩) O2 (by rw [a0.1]; exact E0.1.1.1) (by rw [a0.1, p2 8 (by omega)]; exact E0.1.1.2.1) (by rw [a0.1]; exact E0.1.1.2.2.1) g20 g30 g40 (by omega) z32_0 hcne j3 (by rw [p24]; exact j2) rfl
  -- end 1 begins
  have O3 : Ow ow2 σ3 := ⟨by have : cX σ3 = cX σ2 := by { unfold cX; rw [B.2.1] }
                             rw [this]; exact O2.1, fun x hx => O2.2.1 x (by have : cX σ3 = cX σ2 := by { unfold cX; rw [B.2.1] }
                                                                             omega), O2.2.2⟩
  have F03 : fr (fun x => own x < 50 ∧ x ≠ 0 ∧ own x ≠ 10 ∧ own x ≠ 4) σ σ3 := fr.tr (F02.sub fun x hx => ⟨hx.1, hx.2.1⟩) B.1 (fun x hx => by rw [ho2 x (by omega)]; omega)
  have p3 : ∀ r, 7 ≤ r → r ≤ 37 → ρ3.1 r 1 = ρ.1 r 1 := fun r a b => by rw [R.2.2.2.2.1 r 1 a b (by omega), p2 r (by omega)]
  have p338 : ρ3.1 38 = ρ.1 38 := by rw [R.2.2.2.1 38 (by omega), p2 38 (by omega)]
  have p339 : ρ3.1 39 = ρ.1 39 := by rw [R.2.2.2.1 39 (by omega), p2 39 (by omega)]
  have p31 : ρ3.1 1 = ρ.1 1 := by rw [R.2.2.2.1 1 (by omega), p2 1 (by omega)]
  have p340 : ∀ i, i < 65536 → ρ3.1 40 (65536 * 1 + i) = ρ.1 40 (65536 * 1 + i) := fun i hi => by rw [R.2.2.2.2.2.2 _ (by omega), p2 40 (by omega)]
  have p30 : ∀ j, ρ3.1 0 j = ρ2.1 0 j := fun j => by rw [R.2.2.2.1 0 (by omega)]
  have p3l : ∀ r j, r ≠ 33 ∨ j ≠ 0 → ρ3.2 r j = ρ.2 r j := fun r j hj => by rw [R.2.2.2.2.2.1 r j hj, p22]
  have a1 := F03 14 ⟨by omega, by omega, by omega, by omega⟩
  have g21 : BF ow2 14 1 σ3 := by
    obtain ⟨_, _, _, _, _, _, _, _, _, _, s, ab, k1, k2, k3, k4, k5, k6, k7, k8, k9⟩ := E1.1.2.1
    have f8 := F03 15 ⟨by omega, by omega, by omega, by omega⟩
    have fa := F03 ab ⟨by omega, fun e1 => by rw [e1] at k5; omega, by omega, by omega⟩
    exact ⟨ab, by rw [f8.2.2.1]; exact k3, by rw [fa.2.2.2.2]; exact k4, by rw [ho2 ab (by omega)]; exact k5, by rw [fa.2.2.2.1]; exact k7, by rw [fa.2.2.2.1]; exact k8⟩
  have g31 : G3 ow2 14 1 σ3 ρ3 U1 := E1.1.2.2.1.cg (F03.sub fun x (hx : x = 14 + 3 ∨ own x = 4 + 1) => by
    rcases hx with rfl | hx
    · exact ⟨show own 17 < 50 by omega, by omega, show own 17 ≠ 10 by omega, show own 17 ≠ 4 by omega⟩
    · exact ⟨by omega, fun e1 => by rw [e1] at hx; omega, by omega, by omega⟩) (fun x hx => by rw [ho2 x (by omega)]; exact hx) (fun r hr => p3 r (by omega) (by omega)) (fun i _ => by rw [p339]) p340
  have g41 : G4 14 1 σ3 ρ3 τ rn1 tr1 := E1.1.2.2.2.1.cg (F03 19 ⟨by omega, by omega, by omega, by omega⟩).1 (F03 19 ⟨by omega, by omega, by omega, by omega⟩).2.1 (fun r hr => p3 r (by omega) (by omega)) (fun r _ => p3l r 1 (by omega))
  have hc3 : ρ3.1 0 4 = nI cn + 1 := by rw [p30, p24]
  obtain ⟨σ4, ρ4, d1, d2, B1, R1, EG1, kc1⟩ := fresh_sim (v := v2) (p1 := 443) (p2 := (40000 : Int32) + x4) (st := 1) (Or.inr ⟨rfl, rfl⟩) O3 (by rw [a1.1]; exact E1.1.1.1) (by rw [a1.1, p3 8 (by omega) (by omega)]; exact E1.1.1.2.1) (by rw [a1.1]; exact E1.1.1.2.2.1) g21 g31 g41 (by omega) z32_1 (by rw [p30]; exact hcne) (by decide) rfl (by rw [hc3]; exact j2)
  have eX4 : cX σ4 = cX σ2 := by unfold cX; rw [B1.2.1, B.2.1]
  have eU4 : cU σ4 = cU σ2 := by unfold cU; rw [B1.2.1, B.2.1]
  have eR4 : cR σ4 = cR σ2 := by unfold cR; rw [B1.2.1, B.2.1]
  have eN4 : cN σ4 = cN σ2 := by unfold cN; rw [B1.2.1, B.2.1]
  have O4 : Ow ow2 σ4 := ⟨by rw [eX4]; exact O2.1, fun x hx => O2.2.1 x (by omega), O2.2.2⟩
  -- the states
  obtain ⟨ρ5, hρ5⟩ : ∃ y, y = si (si ρ4 9 1 1) 9 0 2 := ⟨_, rfl⟩
  have v5 : ∀ r, r ≠ 9 → ρ5.1 r = ρ4.1 r := fun r hr => by
    rw [hρ5]; exact funext fun j => by rw [si_ne _ _ _ _ (Or.inl hr), si_ne _ _ _ _ (Or.inl hr)]
  have v52 : ρ5.2 = ρ4.2 := by rw [hρ5]; rfl
  have v50 : ∀ j, ρ5.1 0 j = ρ2.1 0 j := fun j => by rw [v5 0 (by omega), R1.2.2.2.1 0 (by omega), p30]
  have F24 : fr (fun x => ow2 x ≠ 10 ∧ ow2 x ≠ 4 ∧ ow2 x ≠ 11 ∧ ow2 x ≠ 5) σ2 σ4 := fr.tr (B.1.sub fun x hx => ⟨hx.1, hx.2.1⟩) B1.1 (fun x hx => ⟨hx.2.2.1, hx.2.2.2⟩)
  have EG0' : EG ow2 7 0 σ4 ρ5 τ 2 0 0 0 0 0 0 0 := by
    refine EGx.cg EG0 (Or.inl ⟨rfl, rfl⟩) O3 (B1.1.sub fun x hx => by omega) (fun _ _ => rfl) (fun r a b => ?_) (fun r hr => ?_) ?_ (fun i _ => ?_) (fun i _ => ?_) (fun i hi => ?_)
    · by_cases h9 : r = 9
      · rw [h9, hρ5, si_eq, si_eq]; rfl
      · rw [v5 r h9, R1.2.2.2.2.1 r 0 a b (by omega), si_ne _ _ _ _ (Or.inl h9)]
    · rw [v52, R1.2.2.2.2.2.1 r 0 (by omega), si_2]
    · rw [v50, si_ne _ _ _ _ (by omega), p30]
    · rw [v5 38 (by omega), R1.2.2.2.1 38 (by omega), si_ne _ _ _ _ (by omega)]
    · rw [v5 39 (by omega), R1.2.2.2.1 39 (by omega), si_ne _ _ _ _ (by omega)]
    · rw [v5 40 (by omega), R1.2.2.2.2.2.2 _ (by omega), si_ne _ _ _ _ (by omega)]
  have EG1' : EG ow2 14 1 σ4 ρ5 τ 1 0 0 0 0 0 0 0 := by
    refine EGx.cg EG1 (Or.inr ⟨rfl, rfl⟩) O4 fr.rf (fun _ _ => rfl) (fun r a b => ?_) (fun r hr => ?_) ?_ (fun i _ => ?_) (fun i _ => ?_) (fun i hi => ?_)
    · by_cases h9 : r = 9
      · rw [h9, hρ5, si_ne _ _ _ _ (by omega)]; rfl
      · rw [v5 r h9, si_ne _ _ _ _ (Or.inl h9)]
    · rw [v52, si_2]
    · rw [v5 0 (by omega), si_ne _ _ _ _ (by omega)]
    · rw [v5 38 (by omega), si_ne _ _ _ _ (by omega)]
    · rw [v5 39 (by omega), si_ne _ _ _ _ (by omega)]
    · rw [v5 40 (by omega), si_ne _ _ _ _ (by omega)]
  have w38 : ρ5.1 38 = ρ.1 38 := by rw [v5 38 (by omega), R1.2.2.2.1 38 (by omega), p338]
  have w1 : ρ5.1 1 = ρ.1 1 := by rw [v5 1 (by omega), R1.2.2.2.1 1 (by omega), p31]
  have wl3 : ρ5.2 0 3 = ρ.2 0 3 := by rw [v52, R1.2.2.2.2.2.1 0 3 (by omega), p3l 0 3 (by omega)]
  have N4 : NB ow2 [] [] S2 c1 c2' K σ4 ρ5 := N2.f (F24.sub fun x hx => by omega) (fun _ _ => rfl) O4 (fun r a b => by rw [v5 r (by omega), R1.2.2.2.1 r (by omega), R.2.2.2.1 r (by omega)]) (v50 5) (v50 10) (by omega) (by omega) N2.2.2.2.1.2.2
  have f0 := F02 3
  have o3 : own 3 = 14 := O.2.2 3 (by decide)
  have o32 : ow2 3 = 14 := O2.2.2 3 (by decide)
  have J4 : cJ σ4 3 = cJ σ 3 := by rw [(F24 3 ⟨by omega, by omega, by omega, by omega⟩).2.1, (F02 3 ⟨by omega, by omega⟩).2.1]
  have T4 : CT σ4 ρ5 τ := ⟨by rw [w38]; exact l7, by rw [v50]; exact hcne, by rw [J4, wl3]; exact l1, by rw [J4]; exact l2, by omega⟩
  have v10 : ρ5.1 10 0 = v1 := by rw [v5 10 (by omega), R1.2.2.2.2.1 10 0 (by omega) (by omega) (by omega)]; exact R.1.1
  obtain ⟨σ5, ρ6, ρ7, ow5, y1, y2, y3, y4, y5, y6, y7⟩ := syn_sim2 (v := v1) (v1 := 0) (Or.inl ⟨rfl, rfl⟩) N4 EG0' T4 z32_0 ⟨fun _ => rfl, fun _ => rfl⟩ v10
  have ER5 := y5.ER (by omega : 0 < 2)
  have ka : kc (ρ5.1 40) 0 65536 = 0 := kc_all0 65536 fun i hi => by rw [v5 40 (by omega), R1.2.2.2.2.2.2 _ (by omega)]; exact R.2.2.1 i hi
  have kb : kc (ρ5.1 40) 1 65536 = 0 := kc_all0 65536 fun i hi => by rw [v5 40 (by omega)]; exact R1.2.2.1 i hi
  have v0' : ow2 0 = 12 := by rw [ho2 0 (by omega)]; exact o0
  have v8' : ow2 8 = 10 := by rw [ho2 8 (by omega)]; exact w8
  have v10' : ow2 10 = 10 := by rw [ho2 10 (by omega)]; exact w10
  have X0 : XQ 7 0 σ5 ρ7 2 0 1 1 0 0 1 := by
    unfold XQ
    rw [y6, y7, y5.2.2.2.1.1 40 (by omega), ka, (B1.1 8 ⟨by omega, by omega⟩).1, (B1.1 10 ⟨by omega, by omega⟩).1, B.2.2.2.1.2.2.2.2.2.2.2.1, B.2.2.2.2.1.1.2.2.2.1]
    exact ⟨fun hh => by omega, fun hh => by omega, fun _ => ⟨rfl, rfl, rfl, rfl, rfl⟩, fun hh => by omega, fun _ => rfl, fun _ => rfl, fun _ => ⟨rfl, rfl⟩, fun _ => ⟨by omega, by omega⟩, fun hh => by omega⟩
  have X1 : XQ 14 1 σ4 ρ5 1 0 0 0 0 0 0 := by
    unfold XQ
    rw [kb, B1.2.2.2.1.2.2.2.2.2.2.2.1, B1.2.2.2.2.1.1.2.2.2.1]
    exact ⟨fun _ => rfl, fun _ => ⟨rfl, rfl, rfl, rfl, rfl⟩, fun hh => by omega, fun hh => by omega, fun _ => rfl, fun _ => rfl, fun _ => ⟨rfl, rfl⟩, fun hh => by omega, fun _ => by omega⟩
  have EE1 : EE ow5 14 1 σ5 ρ7 τ 1 0 0 0 0 0 0 0 := EE.keep (Or.inr ⟨rfl, rfl⟩) (by decide) (by decide) O4 ⟨EG1', X1⟩ ER5
  -- what else there is
  have ho5 : ∀ x, own x ≠ 99 → ow5 x = own x := fun x hx => by rw [ER5.1 x (by rw [ho2 x hx]; exact hx), ho2 x hx]
  have F05 : fr (fun x => own x < 50 ∧ x ≠ 0 ∧ own x ≠ 10 ∧ own x ≠ 11 ∧ own x ≠ 2 ∧ own x ≠ 3 ∧ own x ≠ 4 ∧ own x ≠ 5) σ σ5 := fr.tr (fr.tr (F02.sub fun x hx => ⟨hx.1, hx.2.1⟩) F24 (fun x hx => by rw [ho2 x (by omega)]; omega)) ER5.2.1 (fun x hx => by rw [ho2 x (by omega)]; omega)
  have rr : ∀ r, r = 1 ∨ r = 38 → ρ7.1 r = ρ.1 r := fun r hr => by
    rw [y5.2.2.2.1.1 r (by omega)]
    rcases hr with rfl | rfl
    · exact w1
    · exact w38
  have r7 : ∀ j, j ≠ 5 → j ≠ 10 → ρ7.1 0 j = ρ1.1 0 j := fun j a b => by rw [y5.2.2.2.1.2.2.2 j a b, v50, R2.2.2 j a b]
  have o1 : own 1 = 13 := O.2.2 1 (by decide)
  obtain ⟨tp', tl⟩ := tp.cg O (F05.sub fun x hx => ⟨by omega, fun e1 => by rw [e1] at hx; omega, by omega, by omega, by omega, by omega, by omega, by omega⟩) ho5 (ρ' := ρ7) (by rw [r7 2 (by omega) (by omega), q10 2 (by omega) (by omega)]) (rr 1 (by omega))
  have I0 : cI σ5 0 5 = nI cn + 1 := by
    rw [(ER5.2.1 0 ⟨by omega, by omega, by omega, by omega⟩).1, (F24 0 ⟨by omega, by omega, by omega, by omega⟩).1, (F2 0 (by omega)).1, hσ1, wi_eq]
  have J5 : cJ σ5 3 = cJ σ 3 := by rw [(ER5.2.1 3 (by omega)).2.1, J4]
  have L5 : ρ7.2 0 3 = ρ.2 0 3 := by rw [y5.2.2.2.1.2.2.1 0 3 (by omega), wl3]
  have hR5 : ∀ x, own x < 50 → x ≠ 0 → cR σ5 x = cR σ x := fun x hx h0 => by rw [y5.2.2.2.2.2 x (by rw [ho2 x (by omega)]; exact hx), eR4, (F02 x ⟨hx, h0⟩).2.2.1]
  have hN5 : ∀ x, 2 ≤ own x → own x ≤ 5 → cN σ5 x = cN σ x := fun x hx h5 => by
    have e2 : ow2 x = own x := ho2 x (by omega)
    have a1 := y5.2.2.1 x ⟨by omega, by omega⟩
    have hx0 : x ≠ 0 := fun e1 => by rw [e1, o0] at h5; omega
    rw [a1.2.2.2.1, eN4, (F02 x ⟨by omega, hx0⟩).2.2.2.1]
  have sl0 : sln σ5 7 = sln σ 7 := by
    obtain ⟨_, _, _, _, _, _, _, _, _, _, s, ab, k1, k2, k3, k4, k5, k6, k7, k8, k9⟩ := E0.1.2.1
    unfold sln; rw [hR5 8 (by omega) (by omega), k3]; exact hN5 ab (by omega) (by omega)
  have sl1 : sln σ5 14 = sln σ 14 := by
    obtain ⟨_, _, _, _, _, _, _, _, _, _, s, ab, k1, k2, k3, k4, k5, k6, k7, k8, k9⟩ := E1.1.2.1
    unfold sln; rw [hR5 15 (by omega) (by omega), k3]; exact hN5 ab (by omega) (by omega)
  have rl0 : rl σ5 7 = rl σ 7 := by
    obtain ⟨_, _, _, _, _, _, _, _, _, ra, k1, k2, k3, k4⟩ := E0.1.2.2.1
    unfold rl; rw [hR5 10 (by omega) (by omega), k1]; exact hN5 ra (by omega) (by omega)
  have rl1 : rl σ5 14 = rl σ 14 := by
    obtain ⟨_, _, _, _, _, _, _, _, _, ra, k1, k2, k3, k4⟩ := E1.1.2.2.1
    unfold rl; rw [hR5 17 (by omega) (by omega), k1]; exact hN5 ra (by omega) (by omega)
  have fin : RLo (c + 1) σ5 ρ7 ow5 τ 0 0 T K := by
    refine ⟨y5.1, ⟨2, 0, 1, 1, 0, 1, 0, y4, X0⟩, ⟨1, 0, 0, 0, 0, 0, 0, EE1⟩, tp', ⟨by rw [J5, L5]; exact l1, by rw [J5]; exact l2, by omega, ⟨cn + 1, by omega, by rw [I0]; exact hcn1, by rw [r7 4 (by omega) (by omega), q14]; exact hcn1⟩, by rw [rr 38 (by omega)]; exact l7, by rw [rr 1 (by omega)]; exact l8⟩, by rw [tl, sl0, sl1, rl0, rl1]; omega, by omega⟩
  refine ⟨nI cn, σ5, ρ7, ?_, ?_, RL.lo fin⟩
  · unfold m_P_open
    rw [bd_e, bd_e, l5, ← hσ1, j1, bc2_e, bd_e, f1, bc_e]
    rw [show (2 : Int32) = Int32.ofNat 2 from rfl, b1, bc_e, show (1 : Int32) = Int32.ofNat 1 from rfl, d1, bc_e, y1, bc_e]
  · have e4 : (si ρ 0 0 0).1 0 4 = nI cn := by rw [si_ne _ _ _ _ (by omega), l6]
    have i0 : inb (0 : Int32) 2 := x32_in (show (0 : Int32).toInt = ((0 : Nat) : Int) by decide) (by decide)
    have i1 : inb (1 : Int32) 2 := x32_in (show (1 : Int32).toInt = ((1 : Nat) : Int) by decide) (by decide)
    have n0' : (0 : Int32).toNatClampNeg = 0 := by decide
    have n1' : (1 : Int32).toNatClampNeg = 1 := by decide
    have e6 : (si ρ6 12 0 (v1 + 1)).2 0 3 = ρ6.2 0 3 := rfl
    have e7 : (si ρ6 12 0 (v1 + 1)).1 23 0 = ρ6.1 23 0 := si_ne _ _ _ _ (by omega)
    have e8 : ρ7.1 0 4 - 1 = nI cn := by rw [r7 4 (by omega) (by omega), q14]; grind
    have e9 : si (si ρ4 9 (1 : Int32).toNatClampNeg 1) 9 (0 : Int32).toNatClampNeg 2 = ρ5 := by rw [n0', n1', hρ5]
    have e10 : sl (si ρ6 12 (0 : Int32).toNatClampNeg (v1 + 1)) 33 (0 : Int32).toNatClampNeg ((si ρ6 12 (0 : Int32).toNatClampNeg (v1 + 1)).2 0 3 + ((si ρ6 12 (0 : Int32).toNatClampNeg (v1 + 1)).1 23 (0 : Int32).toNatClampNeg).toInt64) = ρ7 := by rw [n0', e6, e7, ← y3]
    unfold m_open
    rw [bd_e, bd_e, e4, bd_e, ← hρ1, f2]
    show F_open_15 (lq3 F_open_15 mm) v1 v2 ρ2 = _
    rw [F_open_15, bd_e, f3, if_pos (by decide), b2, bc_e, d2, bc_e, gd_t i1, bd_e, gd_t i0, bd_e, e9, y2, bc_e, gd_t i0, bd_e, bd_e, gd_t i0, bd_e, gd_t i0, bd_e, e10, bd_e, e8]
