/-! what binds the two sides between calls -/
def sln (σ : CS) (q : Nat) : Nat := cN σ ((cR σ (q + 1) 0).getD 0)
def tln (σ : CS) : Nat := cN σ ((cR σ 1 0).getD 0)
def TP (own : Nat → Nat) (σ : CS) (ρ : RS) (T : Nat) : Prop := cI σ 1 1 = Int32.ofNat T ∧ ρ.1 0 2 = Int32.ofNat T ∧ ∃ at_, cR σ 1 0 = some at_ ∧ kd σ at_ = 21 ∧ own at_ = 1 ∧ T ≤ cN σ at_ ∧ 64 ≤ cN σ at_ ∧ cN σ at_ ≤ 20500 ∧ ∀ i, i < T → cI σ at_ i = ρ.1 1 i
def GL (σ : CS) (ρ : RS) (τ c : Nat) : Prop := cJ σ 3 0 = ρ.2 0 3 ∧ (cJ σ 3 0).toInt = (τ : Int) ∧ τ ≤ 1000000 * c ∧ (∃ cn, cn ≤ c ∧ cI σ 0 5 = Int32.ofNat cn ∧ ρ.1 0 4 = Int32.ofNat cn) ∧ (∀ i, isB (ρ.1 38 i)) ∧ ∀ i, isB (ρ.1 1 i)
def EX (own : Nat → Nat) (q e : Nat) (σ : CS) (ρ : RS) (τ g : Nat) : Prop := ∃ st u n m U rn tr, EE own q e σ ρ τ st u n m g U rn tr
def RLo (c : Nat) (σ : CS) (ρ : RS) (own : Nat → Nat) (τ g0 g1 T K : Nat) : Prop := (∃ P S c1 c2, NB own P [] S c1 c2 K σ ρ) ∧ EX own 7 0 σ ρ τ g0 ∧ EX own 14 1 σ ρ τ g1 ∧ TP own σ ρ T ∧ GL σ ρ τ c ∧ K ≤ 2 * (tln σ + sln σ 7 + sln σ 14) + rl σ 7 + rl σ 14 + 6 * c ∧ T + g0 + g1 ≤ 20 * c
def RL (c : Nat) (σ : CS) (ρ : RS) : Prop := ∃ own τ g0 g1 T K, RLo c σ ρ own τ g0 g1 T K
/-- the reference's other fields may be anything -/
def SZ (ρ ρ' : RS) : Prop := ρ'.2 = ρ.2 ∧ (∀ r, r ≠ 0 → ρ'.1 r = ρ.1 r) ∧ ρ'.1 0 2 = ρ.1 0 2 ∧ ρ'.1 0 4 = ρ.1 0 4 ∧ ρ'.1 0 5 = ρ.1 0 5 ∧ ρ'.1 0 10 = ρ.1 0 10
theorem SR.SZ {ρ ρ' : RS} (h : SR ρ ρ') : SZ ρ ρ' := ⟨h.1, h.2.1, h.2.2 2 (by omega), h.2.2 4 (by omega), h.2.2 5 (by omega), h.2.2 10 (by omega)⟩
theorem SZ.si (ρ : RS) (x : Int32) : SZ ρ (si ρ 0 0 x) := ⟨rfl, fun r hr => funext fun j => si_ne _ _ _ _ (by omega), si_ne _ _ _ _ (by omega), si_ne _ _ _ _ (by omega), si_ne _ _ _ _ (by omega), si_ne _ _ _ _ (by omega)⟩
theorem EE.sz {own : Nat → Nat} {q e : Nat} {σ : CS} {ρ ρ' : RS} {τ st u n m g U : Nat} {rn : Int32} {tr : Nat} (hqe : q = 7 ∧ e = 0 ∨ q = 14 ∧ e = 1) (O : Ow own σ) (E : EE own q e σ ρ τ st u n m g U rn tr) (h : SZ ρ ρ') : EE own q e σ ρ' τ st u n m g U rn tr :=
  E.cg hqe O fr.rf (fun _ _ => rfl) (fun r a _ => by rw [h.2.1 r (by omega)]) (fun r _ => by rw [h.1]) h.2.2.2.1 (fun i _ => by rw [h.2.1 38 (by omega)]) (fun i _ => by rw [h.2.1 39 (by omega)]) (fun i _ => by rw [h.2.1 40 (by omega)])
theorem NB.sz {own : Nat → Nat} {P C : List (Nat × Nat)} {S : List Nat} {c1 c2 K : Nat} {σ : CS} {ρ ρ' : RS} (N : NB own P C S c1 c2 K σ ρ) (h : SZ ρ ρ') : NB own P C S c1 c2 K σ ρ' :=
  N.f fr.rf (fun _ _ => rfl) N.2.2.1 (fun r a _ => h.2.1 r (by omega)) h.2.2.2.2.1 h.2.2.2.2.2 (Nat.le_refl _) (Nat.le_refl _) N.2.2.2.1.2.2
theorem RLo.sz {c : Nat} {σ : CS} {ρ ρ' : RS} {own : Nat → Nat} {τ g0 g1 T K : Nat} (h : RLo c σ ρ own τ g0 g1 T K) (z : SZ ρ ρ') : RLo c σ ρ' own τ g0 g1 T K := by
  obtain ⟨⟨P, S, c1, c2, N⟩, ⟨s, u, n, m, U, rn, tr, E0⟩, ⟨s', u', n', m', U', rn', tr', E1⟩, ⟨t1, t2, at_, t3, t4, t5, t6, t7, t8, t9⟩, ⟨l1, l2, l3, ⟨cn, l4, l5, l6⟩, l7, l8⟩, k1, k2⟩ := h
  refine ⟨⟨P, S, c1, c2, N.sz z⟩, ⟨s, u, n, m, U, rn, tr, E0.sz (Or.inl ⟨rfl, rfl⟩) N.2.2.1 z⟩, ⟨s', u', n', m', U', rn', tr', E1.sz (Or.inr ⟨rfl, rfl⟩) N.2.2.1 z⟩, ⟨t1, by rw [z.2.2.1]; exact t2, at_, t3, t4, t5, t6, t7, t8, fun i hi => by rw [z.2.1 1 (by omega)]; exact t9 i hi⟩, ⟨by rw [z.1]; exact l1, l2, l3, ⟨cn, l4, l5, by rw [z.2.2.2.1]; exact l6⟩, fun i => by rw [z.2.1 38 (by omega)]; exact l7 i, fun i => by rw [z.2.1 1 (by omega)]; exact l8 i⟩, k1, k2⟩
theorem RL.sz {c : Nat} {σ : CS} {ρ ρ' : RS} (h : RL c σ ρ) (z : SZ ρ ρ') : RL c σ ρ' := by
  obtain ⟨own, τ, g0, g1, T, K, h⟩ := h
  exact ⟨own, τ, g0, g1, T, K, h.sz z⟩
theorem RL.up {c : Nat} {σ : CS} {ρ : RS} (h : RL c σ ρ) : RL (c + 1) σ ρ := by
  obtain ⟨own, τ, g0, g1, T, K, a1, a2, a3, a4, ⟨l1, l2, l3, ⟨cn, l4, l5, l6⟩, l7⟩, k1, k2⟩ := h
  exact ⟨own, τ, g0, g1, T, K, a1, a2, a3, a4, ⟨l1, l2, by omega, ⟨cn, by omega, l5, l6⟩, l7⟩, by omega, by omega⟩
/-- the bounds that the room comes from -/
theorem RLo.kb {c : Nat} {σ : CS} {ρ : RS} {own : Nat → Nat} {τ g0 g1 T K : Nat} (h : RLo c σ ρ own τ g0 g1 T K) (hc : c ≤ 512) : tln σ ≤ 20500 ∧ sln σ 7 ≤ 20500 ∧ sln σ 14 ≤ 20500 ∧ (rl σ 7 = 0 ∨ rl σ 7 = 65536) ∧ (rl σ 14 = 0 ∨ rl σ 14 = 65536) ∧ K ≤ 257144 ∧ K + 65536 ≤ 260000 + rl σ 7 ∧ K + 65536 ≤ 260000 + rl σ 14 := by
  obtain ⟨_, ⟨s, u, n, m, U, rn, tr, E0⟩, ⟨s', u', n', m', U', rn', tr', E1⟩, ⟨t1, t2, at_, t3, t4, t5, t6, t7, t8, t9⟩, _, k1, k2⟩ := h
  have a1 : tln σ ≤ 20500 := by unfold tln; rw [t3]; exact t8
  have sl : ∀ {own : Nat → Nat} {q e u n m g : Nat}, G2 own q e σ ρ u n m g → sln σ q ≤ 20500 := fun G => by
    obtain ⟨_, _, _, _, _, _, _, _, _, _, s, ab, k1, k2, k3, k4, k5, k6, k7, k8, k9⟩ := G
    unfold sln; rw [k3]; exact k8
  have rr : ∀ {own : Nat → Nat} {q e U : Nat}, G3 own q e σ ρ U → rl σ q = 0 ∨ rl σ q = 65536 := fun G => by
    obtain ⟨_, _, _, _, _, _, _, _, _, ra, k1, k2, k3, k4⟩ := G
    unfold rl; rw [k1]
    rcases k4 with h | h
    · exact Or.inl h.1
    · exact Or.inr h.1
  have a2 := sl E0.1.2.1
  have a3 := sl E1.1.2.1
  have a4 := rr E0.1.2.2.1
  have a5 := rr E1.1.2.2.1
  exact ⟨a1, a2, a3, a4, a5, by omega, by omega, by omega⟩
/-- an exception is made -/
theorem RL.exc {c : Nat} {σ : CS} {ρ : RS} (h : RL c σ ρ) (hc : c < 512) : (cX σ + 1 ≤ 601024 ∧ cU σ + 6 ≤ 7293034) ∧ RL (c + 1) (wa σ 0 0 6) ρ := by
  obtain ⟨own, τ, g0, g1, T, K, h⟩ := h
  have hb := h.kb (by omega)
  obtain ⟨⟨P, S, c1, c2, N⟩, ⟨s, u, n, m, U, rn, tr, E0⟩, ⟨s', u', n', m', U', rn', tr', E1⟩, ⟨t1, t2, at_, t3, t4, t5, t6, t7, t8, t9⟩, ⟨l1, l2, l3, ⟨cn, l4, l5, l6⟩, l7⟩, k1, k2⟩ := h
  have hbud := N.1.bud N.2.2.2.1
  have O := N.2.2.1
  have nX : ∀ x, own x ≠ 99 → x ≠ cX σ := fun x hx e => hx (by rw [e]; exact O.2.1 _ (Nat.le_refl _))
  have F : fr (fun x => own x ≠ 99) σ (wa σ 0 0 6) := (fr_wa σ 0 0 6 O.1).sub fun x hx => nX x hx
  have O' : Ow own (wa σ 0 0 6) := ⟨by show 63 ≤ cX σ + 1; have := O.1; omega, fun x hx => O.2.1 x (by have : cX (wa σ 0 0 6) = cX σ + 1 := rfl; omega), O.2.2⟩
  have N' : NB own P [] S c1 c2 (K + 6) (wa σ 0 0 6) ρ := N.f (F.sub fun x hx => hx.2) (fun _ _ => rfl) O' (fun _ _ _ => rfl) rfl rfl (by show cU σ + 6 + K ≤ cU σ + (K + 6); omega) (by show 3 * (cX σ + 1) + cU σ ≤ 3 * cX σ + (cU σ + 6); omega) (by omega)
  have o1 : own 1 = 13 := O.2.2 1 (by decide)
  have o3 : own 3 = 14 := O.2.2 3 (by decide)
  have o0 : own 0 = 12 := O.2.2 0 (by decide)
  have q7 := own_q (Or.inl ⟨rfl, rfl⟩) O
  have q14 := own_q (Or.inr ⟨rfl, rfl⟩) O
  have f1 := F 1 (by omega)
  have fat := F at_ (by omega)
  have tl' : tln (wa σ 0 0 6) = tln σ := by unfold tln; rw [f1.2.2.1, t3]; exact fat.2.2.2.1
  have sl' : ∀ {q e u n m g : Nat}, e < 2 → own (q + 1) = 10 + e → G2 own q e σ ρ u n m g → sln (wa σ 0 0 6) q = sln σ q := fun he hq G => by
    obtain ⟨_, _, _, _, _, _, _, _, _, _, s, ab, k1, k2, k3, k4, k5, k6, k7, k8, k9⟩ := G
    unfold sln; rw [(F _ (by omega)).2.2.1, k3]; exact (F ab (by omega)).2.2.2.1
  have rl' : ∀ {q e U : Nat}, e < 2 → own (q + 3) = 10 + e → G3 own q e σ ρ U → rl (wa σ 0 0 6) q = rl σ q := fun he hq G => by
    obtain ⟨_, _, _, _, _, _, _, _, _, ra, k1, k2, k3, k4⟩ := G
    unfold rl; rw [(F _ (by omega)).2.2.1, k1]; exact (F ra (by omega)).2.2.2.1
  refine ⟨⟨by omega, by omega⟩, own, τ, g0, g1, T, K + 6, ⟨P, S, c1, c2, N'⟩, ⟨s, u, n, m, U, rn, tr, E0.cg (Or.inl ⟨rfl, rfl⟩) O (F.sub fun x hx => by omega) (fun _ _ => rfl) (fun _ _ _ => rfl) (fun _ _ => rfl) rfl (fun _ _ => rfl) (fun _ _ => rfl) (fun _ _ => rfl)⟩, ⟨s', u', n', m', U', rn', tr', E1.cg (Or.inr ⟨rfl, rfl⟩) O (F.sub fun x hx => by omega) (fun _ _ => rfl) (fun _ _ _ => rfl) (fun _ _ => rfl) rfl (fun _ _ => rfl) (fun _ _ => rfl) (fun _ _ => rfl)⟩, ⟨by rw [f1.1]; exact t1, t2, at_, by rw [f1.2.2.1]; exact t3, by rw [fat.2.2.2.2]; exact t4, t5, by rw [fat.2.2.2.1]; exact t6, by rw [fat.2.2.2.1]; exact t7, by rw [fat.2.2.2.1]; exact t8, fun i hi => by rw [fat.1]; exact t9 i hi⟩, ⟨by rw [(F 3 (by omega)).2.1]; exact l1, by rw [(F 3 (by omega)).2.1]; exact l2, by omega, ⟨cn, by omega, by rw [(F 0 (by omega)).1]; exact l5, l6⟩, l7⟩, ?_, by omega⟩
  rw [tl', sl' (by omega) q7.2.1 E0.1.2.1, sl' (by omega) q14.2.1 E1.1.2.1, rl' (by omega) q7.2.2.1 E0.1.2.2.1, rl' (by omega) q14.2.2.1 E1.1.2.2.1]
  omega
