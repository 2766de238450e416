/-! sending, both sides -/
def RF (e : Nat) (ρ ρ' : RS) : Prop := (∀ r, r = 1 ∨ 38 ≤ r → ρ'.1 r = ρ.1 r) ∧ (∀ r j, 7 ≤ r → r ≤ 37 → j ≠ e → ρ'.1 r j = ρ.1 r j) ∧ (∀ r j, j ≠ e → ρ'.2 r j = ρ.2 r j) ∧ ∀ j, j ≠ 5 → j ≠ 10 → ρ'.1 0 j = ρ.1 0 j
theorem RF.rf (e : Nat) (ρ : RS) : RF e ρ ρ := ⟨fun _ _ => rfl, fun _ _ _ _ _ => rfl, fun _ _ _ => rfl, fun _ _ _ => rfl⟩
theorem RF.tr {e : Nat} {a b c : RS} (h1 : RF e a b) (h2 : RF e b c) : RF e a c := ⟨fun r h => by rw [h2.1 r h, h1.1 r h], fun r j h h' h'' => by rw [h2.2.1 r j h h' h'', h1.2.1 r j h h' h''], fun r j h => by rw [h2.2.2.1 r j h, h1.2.2.1 r j h], fun j h h' => by rw [h2.2.2.2 j h h', h1.2.2.2 j h h']⟩
theorem RF.si {e r : Nat} (ρ : RS) (v : Int32) (h : 7 ≤ r) (h' : r ≤ 37) : RF e ρ (si ρ r e v) := ⟨fun r' hr => funext fun j => by rw [si_1, if_neg (by omega)], fun r' j h h' h'' => by rw [si_1, if_neg (by omega)], fun _ _ _ => rfl, fun j _ _ => by rw [si_1, if_neg (by omega)]⟩
theorem RF.sl {e r : Nat} (ρ : RS) (v : Int64) : RF e ρ (sl ρ r e v) := ⟨fun r' hr => rfl, fun r' j h h' h'' => rfl, fun r j hj => by rw [sl_2, if_neg (by omega)], fun j _ _ => rfl⟩
theorem NFr.RF {e : Nat} {ρ ρ' : RS} (h : NFr ρ ρ') : RF e ρ ρ' := ⟨fun r hr => h.2.1 r (by omega), fun r j h1 h2 _ => by rw [h.2.1 r (by omega)], fun r j _ => by rw [h.1], h.2.2⟩
def EP (K : Nat) (C : List (Nat × Nat)) (own own' : Nat → Nat) (e : Nat) (σ σ' : CS) (ρ ρ' : RS) : Prop :=
  (∃ P S c1 c2, NB own' P C S c1 c2 K σ' ρ') ∧ (∀ x, own' x ≠ own x → own x = 99 ∧ 50 ≤ own' x) ∧ fr (fun x => own x < 50 ∧ own x ≠ 10 + e) σ σ' ∧ RF e ρ ρ' ∧ (∀ p ∈ C, fr (fun y => y = p.1 ∨ y = ar σ p.1) σ σ') ∧ ∀ x, own x < 50 → cR σ' x = cR σ x
theorem EP.tr {K : Nat} {C : List (Nat × Nat)} {o1 o2 o3 : Nat → Nat} {e : Nat} {a b c : CS} {x y z : RS} (h1 : EP K C o1 o2 e a b x y) (h2 : EP K C o2 o3 e b c y z) : EP K C o1 o3 e a c x z := by
  obtain ⟨p1, p2, p3, p4, p5, p6⟩ := h1
  obtain ⟨q1, q2, q3, q4, q5, q6⟩ := h2
  have k1 := keepO p2
  have k2 := keepO q2
  refine ⟨q1, fun w hw => ?_, fr.tr p3 q3 (fun w hw => ?_), p4.tr q4, fun p hp => ?_, fun x hx => ?_⟩
  · by_cases e1 : o2 w = o1 w
    · have := q2 w (by omega); omega
    · have h1 := p2 w e1
      refine ⟨h1.1, ?_⟩
      by_cases e2 : o3 w = o2 w
      · omega
      · exact (q2 w e2).2
  · have := k1 w (by omega); omega
  · refine fr.tr (p5 p hp) (q5 p hp) (fun w hw => ?_)
    have e1 := (p5 p hp p.1 (Or.inl rfl)).2.2.1
    have e2 : ar b p.1 = ar a p.1 := by unfold ar; rw [e1]
    rw [e2]; exact hw
  · have := k1 x (by omega)
    rw [q6 x (by omega), p6 x hx]
theorem EP.PO {K : Nat} {C : List (Nat × Nat)} {own : Nat → Nat} {e : Nat} {σ σ0 σ' : CS} {ρ ρ0 ρ' : RS} (h : PO K C own σ0 σ' ρ0 ρ') (F : fr (fun x => own x ≠ 10 + e) σ σ0) (R : RF e ρ ρ0) (hR : cR σ0 = cR σ) (he : e < 2) (hC : ∀ p ∈ C, own p.1 = 60 ∧ own (ar σ p.1) = 100 + p.1) : ∃ own', EP K C own own' e σ σ' ρ ρ' ∧ fr (fun x => own x < 50) σ0 σ' ∧ NFr ρ0 ρ' ∧ Ow own' σ' ∧ (∀ x, own x ≠ 99 → own' x = own x) := by
  obtain ⟨own', P, S, c1, c2, h1, h2, h3, h4, h5⟩ := h
  refine ⟨own', ⟨⟨P, S, c1, c2, h1⟩, h2, fr.tr (F.sub fun x hx => hx.2) h3 (fun x hx => hx.1), R.tr h4.RF, fun p hp => ?_, fun x hx => by rw [(h3 x hx).2.2.1, hR]⟩, h3, h4, h1.2.2.1, keepO h2⟩
  obtain ⟨u1, u2⟩ := hC p hp
  have e1 := F p.1 (by omega)
  have e2 : ar σ0 p.1 = ar σ p.1 := by unfold ar; rw [e1.2.2.1]
  refine fr.tr (F.sub fun y hy => ?_) (h5 p hp) (fun y hy => by rw [e2]; exact hy)
  rcases hy with rfl | rfl
  · omega
  · omega
/-- scalars of an end are written -/
theorem EP.wr {K : Nat} {C : List (Nat × Nat)} {own : Nat → Nat} {P : List (Nat × Nat)} {S : List Nat} {c1 c2 e : Nat} {σ σ' : CS} {ρ ρ' : RS} (h : NB own P C S c1 c2 K σ ρ) (F : fr (fun x => own x ≠ 10 + e) σ σ') (he : e < 2) (hs : σ'.2.2 = σ.2.2) (R : RF e ρ ρ') (h26 : ∀ r, 2 ≤ r → r ≤ 6 → ρ'.1 r = ρ.1 r) (h5 : ρ'.1 0 5 = ρ.1 0 5) (h10 : ρ'.1 0 10 = ρ.1 0 10) : EP K C own own e σ σ' ρ ρ' ∧ NB own P C S c1 c2 K σ' ρ' := by
  have eX : cX σ' = cX σ := by unfold cX; rw [hs]
  have eU : cU σ' = cU σ := by unfold cU; rw [hs]
  have N : NB own P C S c1 c2 K σ' ρ' := h.f (F.sub fun x hx => by omega) (fun _ _ => rfl) ⟨by rw [eX]; exact h.2.2.1.1, fun x hx => h.2.2.1.2.1 x (by omega), h.2.2.1.2.2⟩ h26 h5 h10 (by omega) (by omega) h.2.2.2.1.2.2
  refine ⟨⟨⟨P, S, c1, c2, N⟩, fun x hx => absurd rfl hx, F.sub fun x hx => hx.2, R, fun p hp => F.sub fun y hy => ?_, fun x _ => by unfold cR; rw [hs]⟩, N⟩
  obtain ⟨u1, u2, _⟩ := h.1.2.2.2.1 p.1 (ag_mem S (List.mem_append_right _ hp))
  rcases hy with rfl | rfl
  · omega
  · omega
def fre (σ : CS) (q : Nat) : Int32 := if cI σ (q + 3) 0 - cI σ (q + 3) 4 < 0 then 0 else cI σ (q + 3) 0 - cI σ (q + 3) 4
def ned (σ : CS) (q : Nat) : Int32 := if cI σ (q + 3) 1 + fre σ q - cI σ (q + 3) 2 ≤ 0 then cI σ (q + 3) 2 else cI σ (q + 3) 1 + fre σ q
theorem wi_id (σ : CS) (q j : Nat) : wi σ q j (cI σ q j) = σ := by
  refine Prod.ext (funext fun a => funext fun i => ?_) rfl
  show (if a = q ∧ i = j then cI σ q j else cI σ a i) = cI σ a i
  by_cases h : a = q ∧ i = j
  · rw [if_pos h, h.1, h.2]
  · rw [if_neg h]
theorem si_id (ρ : RS) (q j : Nat) : si ρ q j (ρ.1 q j) = ρ := by
  refine Prod.ext (funext fun a => funext fun i => ?_) rfl
  show (if a = q ∧ i = j then ρ.1 q j else ρ.1 a i) = ρ.1 a i
  by_cases h : a = q ∧ i = j
  · rw [if_pos h, h.1, h.2]
  · rw [if_neg h]
theorem openW {σ : CS} {q : Nat} (hq : q = 7 ∨ q = 14) : m_V_openWindow (q + 3) σ = some (ned σ q - cI σ (q + 3) 1, wi σ (q + 3) 2 (ned σ q)) := by
  have h3 : q + 3 = 10 ∨ q + 3 = 17 := by omega
  unfold m_V_openWindow m_V_free b_V_openWindow_24 m_V_window
  rw [gd_t h3, bd_e, gd_t h3, bd_e, bd_e, bd_e, bc2_e, bd_e, bd_e]
  have hf : (if cI σ (q + 3) 0 - cI σ (q + 3) 4 < 0 then 0 else cI σ (q + 3) 0 - cI σ (q + 3) 4) = fre σ q := rfl
  rw [hf]
  by_cases h : cI σ (q + 3) 1 + fre σ q - cI σ (q + 3) 2 ≤ 0
  · have e : ned σ q = cI σ (q + 3) 2 := if_pos h
    rw [if_pos h, gd_t h3, bd_e, bd_e, bc2_e, e, wi_id]
  · have e : ned σ q = cI σ (q + 3) 1 + fre σ q := if_neg h
    have e1 : cI (wi σ (q + 3) 2 (cI σ (q + 3) 1 + fre σ q)) (q + 3) 1 = cI σ (q + 3) 1 := if_neg (by omega)
    have e2 : cI (wi σ (q + 3) 2 (cI σ (q + 3) 1 + fre σ q)) (q + 3) 2 = cI σ (q + 3) 1 + fre σ q := if_pos ⟨rfl, rfl⟩
    rw [if_neg h, bd_e, gd_t h3, bd_e, bd_e, bc2_e, e, e1, e2]
theorem openR {ρ : RS} {σ : CS} {q e R U : Nat} {v1 v2 v3 v4 v5 v6 v7 : Int32} (hv : v1.toInt = (e : Int)) (he : e < 2) (h7 : ρ.1 7 e = cI σ (q + 3) 0) (h18 : ρ.1 18 e = cI σ (q + 3) 1) (h19 : ρ.1 19 e = cI σ (q + 3) 2) (h31 : ρ.1 31 e = cI σ (q + 3) 4) (hR : cI σ (q + 3) 0 = Int32.ofNat R) (hU : cI σ (q + 3) 4 = Int32.ofNat U) (hR2 : R ≤ 65535) (hU2 : U ≤ 65535) :
    b_send_64 v1 v2 v3 v4 v5 v6 v7 ρ = b_send_100 v1 v2 v3 v4 v5 v6 v7 (si ρ 19 e (ned σ q)) := by
  unfold b_send_64 m_freeRoom m_above b_freeRoom_32 b_above_11
  have hi := x32_in hv he
  have hc := x32_n hv
  have hx : (cI σ (q + 3) 0 - cI σ (q + 3) 4).toInt = (R : Int) - U := by rw [hR, hU]; exact x32_sub (x32_nat (by omega)) (x32_nat (by omega)) (by omega) (by omega)
  have hff : (if cI σ (q + 3) 0 ≤ cI σ (q + 3) 4 then (some ((0 : Int32), ρ)) else some (cI σ (q + 3) 0 - cI σ (q + 3) 4, ρ)) = some (fre σ q, ρ) := by
    unfold fre
    by_cases hle : R < U
    · rw [if_pos (by rw [hR, hU]; exact x32_le' (x32_nat (by omega)) (x32_nat (by omega)) (by omega)), if_pos (x32_lt' hx z32_0 (by omega))]
    · rw [if_neg (x32_nlt hx z32_0 (by omega))]
      by_cases heq : R = U
      · rw [if_pos (by rw [hR, hU, heq]; exact x32_le' (x32_nat (by omega)) (x32_nat (by omega)) (by omega))]
        congr 2
        rw [hR, hU, heq]; grind
      · rw [if_neg (by rw [hR, hU]; exact x32_nle (x32_nat (by omega)) (x32_nat (by omega)) (by omega))]
  rw [gd_t hi, bd_e, gd_t hi, bd_e, gd_t hi, bd_e]
  simp only [gd_t hi, bd_e]
  rw [hc, h7, h31, hff, bc2_e, h18, h19]
  unfold ned
  by_cases h : cI σ (q + 3) 1 + fre σ q - cI σ (q + 3) 2 ≤ 0
  · rw [if_pos h, if_pos h, gd_t (Or.inl trivial), bc2_e, if_pos rfl, ← h19, si_id]
  · rw [if_neg h, if_neg h, gd_t (Or.inr trivial), bc2_e, if_neg (by decide)]
