/-! the relation between calls: frames -/
theorem TP.cg {own own' : Nat → Nat} {σ σ' : CS} {ρ ρ' : RS} {T : Nat} (h : TP own σ ρ T) (O : Ow own σ) (F : fr (fun x => own x = 13 ∨ own x = 1) σ σ') (ho : ∀ x, own x ≠ 99 → own' x = own x) (h2 : ρ'.1 0 2 = ρ.1 0 2) (h1 : ρ'.1 1 = ρ.1 1) : TP own' σ' ρ' T ∧ tln σ' = tln σ := by
  obtain ⟨t1, t2, at_, t3, t4, t5, t6, t7, t8, t9⟩ := h
  have o1 : own 1 = 13 := O.2.2 1 (by decide)
  have f1 := F 1 (by omega)
  have fat := F at_ (by omega)
  refine ⟨⟨by rw [f1.1]; exact t1, by rw [h2]; exact t2, at_, by rw [f1.2.2.1]; exact t3, by rw [fat.2.2.2.2]; exact t4, by rw [ho at_ (by omega)]; exact t5, by rw [fat.2.2.2.1]; exact t6, by rw [fat.2.2.2.1]; exact t7, by rw [fat.2.2.2.1]; exact t8, fun i hi => by rw [fat.1, h1]; exact t9 i hi⟩, ?_⟩
  unfold tln; rw [f1.2.2.1, t3]; exact fat.2.2.2.1
theorem GL.cg {own : Nat → Nat} {σ σ' : CS} {ρ ρ' : RS} {τ c : Nat} (h : GL σ ρ τ c) (O : Ow own σ) (F : fr (fun x => own x = 12 ∨ own x = 14) σ σ') (h3 : ρ'.2 0 3 = ρ.2 0 3) (h4 : ρ'.1 0 4 = ρ.1 0 4) (h1 : ρ'.1 1 = ρ.1 1) (h38 : ρ'.1 38 = ρ.1 38) : GL σ' ρ' τ c := by
  obtain ⟨l1, l2, l3, ⟨cn, l4, l5, l6⟩, l7, l8⟩ := h
  have f0 := F 0 (Or.inl (O.2.2 0 (by decide)))
  have f3 := F 3 (Or.inr (O.2.2 3 (by decide)))
  exact ⟨by rw [f3.2.1, h3]; exact l1, by rw [f3.2.1]; exact l2, l3, ⟨cn, l4, by rw [f0.1]; exact l5, by rw [h4]; exact l6⟩, by rw [h38]; exact l7, by rw [h1]; exact l8⟩
theorem slk {own : Nat → Nat} {q e : Nat} {σ σ' : CS} {ρ : RS} {u n m g : Nat} (G : G2 own q e σ ρ u n m g) (hq : own (q + 1) = 10 + e) (F : fr (fun x => own x = 10 + e ∨ own x = 2 + e) σ σ') : sln σ' q = sln σ q := by
  obtain ⟨_, _, _, _, _, _, _, _, _, _, s, ab, k1, k2, k3, k4, k5, k6, k7, k8, k9⟩ := G
  unfold sln; rw [(F _ (Or.inl hq)).2.2.1, k3]; exact (F ab (Or.inr k5)).2.2.2.1
theorem rlk {own : Nat → Nat} {q e : Nat} {σ σ' : CS} {ρ : RS} {U : Nat} (G : G3 own q e σ ρ U) (hq : own (q + 3) = 10 + e) (F : fr (fun x => own x = 10 + e ∨ own x = 4 + e) σ σ') : rl σ' q = rl σ q := by
  obtain ⟨_, _, _, _, _, _, _, _, _, ra, k1, k2, k3, k4⟩ := G
  unfold rl; rw [(F _ (Or.inl hq)).2.2.1, k1]; exact (F ra (Or.inr k3)).2.2.2.1
/-- the end that a step leaves alone -/
theorem EX.keep {own own' : Nat → Nat} {q e e1 : Nat} {σ σ' : CS} {ρ ρ' : RS} {τ g : Nat} (hqe : q = 7 ∧ e = 0 ∨ q = 14 ∧ e = 1) (hne : e1 ≠ e) (he1 : e1 < 2) (O : Ow own σ) (h : EX own q e σ ρ τ g) (R : ER own own' e1 σ σ' ρ ρ') : EX own' q e σ' ρ' τ g ∧ sln σ' q = sln σ q ∧ rl σ' q = rl σ q := by
  obtain ⟨st, u, n, m, U, rn, tr, E⟩ := h
  obtain ⟨r1, r2, ⟨q1, q2, q3, q4, q5, q6⟩, r4, r5⟩ := R
  have hoq := own_q hqe O
  have F : fr (fun x => own x = 10 + e ∨ own x = 2 + e ∨ own x = 4 + e) σ σ' := r2.sub fun x hx => by omega
  refine ⟨⟨st, u, n, m, U, rn, tr, E.cg hqe O F r1 (fun r h1 h2 => q2 r e h1 h2 (by omega)) (fun r _ => q3 r e (by omega)) (q4 4 (by omega) (by omega)) (fun i _ => by rw [q5]) (fun i hi => q6 39 _ (Or.inl rfl) (by omega)) (fun i hi => q6 40 _ (Or.inr rfl) (by omega))⟩, ?_, ?_⟩
  · exact slk E.1.2.1 hoq.2.1 (F.sub fun x hx => by omega)
  · exact rlk E.1.2.2.1 hoq.2.2.1 (F.sub fun x hx => by omega)
/-- an end has done something -/
theorem RLo.end_ {c : Nat} {σ σ' : CS} {ρ ρ' : RS} {own own' : Nat → Nat} {τ g0 g1 T K K' q e : Nat} (h : RLo c σ ρ own τ g0 g1 T K) (hqe : q = 7 ∧ e = 0 ∨ q = 14 ∧ e = 1) (E' : EX own' q e σ' ρ' τ (if e = 0 then g0 else g1)) (N' : ∃ P' S' c1' c2', NB own' P' [] S' c1' c2' K' σ' ρ') (hK : K' + rl σ q = K + rl σ' q) (R : ER own own' e σ σ' ρ ρ') : RLo c σ' ρ' own' τ g0 g1 T K' := by
  obtain ⟨⟨P, S, c1, c2, N⟩, E0, E1, tp, gl, k1, k2⟩ := h
  have O := N.2.2.1
  have tp' := tp.cg O (R.2.1.sub fun x hx => by rcases hqe with h | h <;> omega) R.1 (R.2.2.1.2.2.2.1 2 (by omega) (by omega)) R.2.2.1.1
  have gl' := gl.cg O (R.2.1.sub fun x hx => by rcases hqe with h | h <;> omega) (R.2.2.1.2.2.1 0 3 (by rcases hqe with h | h <;> omega)) (R.2.2.1.2.2.2.1 4 (by omega) (by omega)) R.2.2.1.1 R.2.2.1.2.2.2.2.1
  have hoq := own_q hqe O
  have he : e < 2 := by rcases hqe with h | h <;> omega
  have sl' : EX own q e σ ρ τ (if e = 0 then g0 else g1) → sln σ' q = sln σ q := fun ⟨st, u, n, m, U, rn, tr, E⟩ => by
    obtain ⟨_, _, _, _, _, _, _, _, _, _, s, ab, k1, k2, k3, k4, k5, k6, k7, k8, k9⟩ := E.1.2.1
    unfold sln
    rw [R.2.2.2.1 (q + 1) (by omega) (by omega) (by rcases hqe with ⟨rfl, rfl⟩ | ⟨rfl, rfl⟩ <;> decide), k3]
    exact R.2.2.2.2 ab k5
  rcases hqe with ⟨rfl, rfl⟩ | ⟨rfl, rfl⟩
  · obtain ⟨e1, s1, r1⟩ := E1.keep (Or.inr ⟨rfl, rfl⟩) (by decide) (by decide) O R
    have s0 := sl' E0
    exact ⟨N', E', e1, tp'.1, gl', by rw [tp'.2, s0, s1, r1]; omega, k2⟩
  · obtain ⟨e1, s1, r1⟩ := E0.keep (Or.inl ⟨rfl, rfl⟩) (by decide) (by decide) O R
    have s0 := sl' E1
    exact ⟨N', e1, E', tp'.1, gl', by rw [tp'.2, s0, s1, r1]; omega, k2⟩
/-- the network alone has changed -/
theorem RLo.net {c : Nat} {σ σ' : CS} {ρ ρ' : RS} {own own' : Nat → Nat} {τ g0 g1 T K : Nat} (h : RLo c σ ρ own τ g0 g1 T K) (ho : ∀ x, own x ≠ 99 → own' x = own x) (F : fr (fun x => own x < 50) σ σ') (R : NFr ρ ρ') (N' : ∃ P' S' c1' c2', NB own' P' [] S' c1' c2' K σ' ρ') : RLo c σ' ρ' own' τ g0 g1 T K := by
  obtain ⟨⟨P, S, c1, c2, N⟩, E0, E1, tp, gl, k1, k2⟩ := h
  have O := N.2.2.1
  have qf : ∀ e, QF e ρ ρ' := fun e => ⟨R.2.1 1 (by omega), fun r j h1 h2 _ => by rw [R.2.1 r (by omega)], fun r j _ => by rw [R.1], R.2.2, R.2.1 38 (by omega), fun r j hr _ => by rw [R.2.1 r (by omega)]⟩
  have er : ∀ e, e < 2 → ER own own' e σ σ' ρ ρ' := fun e he => ⟨ho, F.sub fun x hx => hx.1, qf e, fun x h _ _ => (F x h).2.2.1, fun x hx => by
    by_cases hh : own x < 50
    · exact (F x hh).2.2.2.1
    · exact absurd hx (by omega)⟩
  obtain ⟨e0, s0, r0⟩ := E0.keep (Or.inl ⟨rfl, rfl⟩) (by decide) (by decide) O (er 1 (by decide))
  obtain ⟨e1, s1, r1⟩ := E1.keep (Or.inr ⟨rfl, rfl⟩) (by decide) (by decide) O (er 0 (by decide))
  have tp' := tp.cg O (F.sub fun x hx => by omega) ho (R.2.2 2 (by omega) (by omega)) (R.2.1 1 (by omega))
  have gl' := gl.cg O (F.sub fun x hx => by omega) (by rw [R.1]) (R.2.2 4 (by omega) (by omega)) (R.2.1 1 (by omega)) (R.2.1 38 (by omega))
  exact ⟨N', e0, e1, tp'.1, gl', by rw [tp'.2, s0, s1, r0, r1]; exact k1, k2⟩
/-- the end that is asked for -/
theorem RLo.ee {c : Nat} {σ : CS} {ρ : RS} {own : Nat → Nat} {τ g0 g1 T K q e : Nat} (h : RLo c σ ρ own τ g0 g1 T K) (hqe : q = 7 ∧ e = 0 ∨ q = 14 ∧ e = 1) : EX own q e σ ρ τ (if e = 0 then g0 else g1) := by
  rcases hqe with ⟨rfl, rfl⟩ | ⟨rfl, rfl⟩
  · exact h.2.1
  · exact h.2.2.1
/-! what a call answers on both sides -/
def An {α : Type} (c : Nat) (code : Nat → Option Int32) (σ : CS) (ρ : RS) (mp : Option ((Nat ⊕ α) × CS)) (mr : Option (α × RS)) : Prop :=
  (∃ x σ' ρ', mp = some (.inr x, σ') ∧ mr = some (x, ρ') ∧ ρ'.1 0 0 = 0 ∧ RL (c + 1) σ' ρ') ∨ ∃ j k y σ', mp = some (.inl j, σ') ∧ mr = some (y, si ρ 0 0 k) ∧ code j = some k ∧ k ≠ 0
theorem si00 (ρ : RS) (x y : Int32) : si (si ρ 0 0 x) 0 0 y = si ρ 0 0 y := si_si _ _ _ _ _
theorem mfail (ρ : RS) (k : Int32) : m_fail k (si ρ 0 0 0) = some (0, si ρ 0 0 k) := by
  unfold m_fail; rw [bd_e, si00]
theorem An.same {α : Type} {c : Nat} {code : Nat → Option Int32} {σ : CS} {ρ : RS} {x : α} {mp : Option ((Nat ⊕ α) × CS)} {mr : Option (α × RS)} (h : RL c σ ρ) (h1 : mp = some (.inr x, σ)) (h2 : mr = some (x, si ρ 0 0 0)) : An c code σ ρ mp mr := Or.inl ⟨x, σ, _, h1, h2, si_eq _ _ _ _, (h.sz (SZ.si ρ 0)).up⟩
theorem RL.room {c : Nat} {σ : CS} {ρ : RS} (h : RL c σ ρ) (hc : c < 512) : cX σ + 1 ≤ 601024 ∧ cU σ + 6 ≤ 7293034 := (h.exc hc).1
