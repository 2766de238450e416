/-! a segment is sent, both sides -/
def NB (own : Nat → Nat) (P C : List (Nat × Nat)) (S : List Nat) (c1 c2 K : Nat) (σ : CS) (ρ : RS) : Prop :=
  NR own P C S c1 c2 σ ρ ∧ (∀ p ∈ P ++ C, Cq σ ρ p) ∧ Ow own σ ∧ BU K (nb σ (ag P C S) + 4 * (c1 + c2)) σ ∧ ∀ i, isB (ρ.1 2 i)
theorem inj_map {α β : Type} (f : α → β) : ∀ (l : List α), (l.map f).Nodup → ∀ {a b : α}, a ∈ l → b ∈ l → f a = f b → a = b
  | [], _, _, _, h, _, _ => by simp at h
  | x :: l, hn, a, b, ha, hb, e => by
    rw [List.map_cons, List.nodup_cons] at hn
    rcases List.mem_cons.mp ha with rfl | ha'
    · rcases List.mem_cons.mp hb with rfl | hb'
      · rfl
      · exact absurd (by rw [e]; exact List.mem_map_of_mem hb') hn.1
    · rcases List.mem_cons.mp hb with rfl | hb'
      · exact absurd (by rw [← e]; exact List.mem_map_of_mem ha') hn.1
      · exact inj_map f l hn.2 ha' hb' e
theorem ag_mem {P C : List (Nat × Nat)} (S : List Nat) {p : Nat × Nat} (hp : p ∈ P ++ C) : p.1 ∈ ag P C S := by
  unfold ag
  rw [← List.append_assoc, ← List.map_append]
  exact List.mem_append_left _ (List.mem_map_of_mem hp)
theorem NB.f {own own' : Nat → Nat} {P C : List (Nat × Nat)} {S : List Nat} {c1 c2 K K' : Nat} {σ σ' : CS} {ρ ρ' : RS} (h : NB own P C S c1 c2 K σ ρ) (F : fr (fun x => 50 ≤ own x ∧ own x ≠ 99) σ σ') (ho : ∀ x, own x ≠ 99 → own' x = own x) (O' : Ow own' σ') (hr : ∀ r, 2 ≤ r → r ≤ 6 → ρ'.1 r = ρ.1 r) (h5 : ρ'.1 0 5 = ρ.1 0 5) (h10 : ρ'.1 0 10 = ρ.1 0 10) (hU : cU σ' + K ≤ cU σ + K') (hX : 3 * cX σ' + cU σ ≤ 3 * cX σ + cU σ') (hK : K' ≤ 260000) : NB own' P C S c1 c2 K' σ' ρ' := by
  obtain ⟨⟨n1, n2, n3, n4, n5, n6, n7, n8, n9, n10, n11, n12, n13⟩, hc, O, ⟨B1, B2, B3⟩, hb⟩ := h
  have e5 : own 5 = 50 := O.2.2 5 (by decide)
  have e6 : own 6 = 51 := O.2.2 6 (by decide)
  have e4 : own 4 = 52 := O.2.2 4 (by decide)
  have old : ∀ x ∈ ag P C S, fr (fun y => y = x ∨ y = ar σ x) σ σ' := fun x hx => by
    obtain ⟨p1, p2, _⟩ := n4 x hx
    refine F.sub fun y hy => ?_
    rcases hy with rfl | rfl
    · omega
    · omega
  have sp : ∀ x ∈ ag P C S, _ := fun x hx => (n4 x hx).fr (old x hx) ho
  have nbe : nb σ' (ag P C S) = nb σ (ag P C S) := nb_congr fun x hx => (sp x hx).2.2.1
  refine ⟨⟨n1.fr e5 (F.sub fun x (hx : own x = 45 + 5) => ⟨by omega, by omega⟩) (fun x hx => by rw [ho x (by omega)]; exact hx), n2.fr e6 (F.sub fun x (hx : own x = 45 + 6) => ⟨by omega, by omega⟩) (fun x hx => by rw [ho x (by omega)]; exact hx), ?_, fun x hx => (sp x hx).1, n5, n6, ?_, ?_, by rw [h10]; exact n9, ?_, n11, n12, n13⟩, ?_, O', ⟨?_, ?_, hK⟩, fun i => by rw [hr 2 (by omega) (by omega)]; exact hb i⟩
  · intro p hp
    obtain ⟨l, N0, q1, q2, q3, q4, q5⟩ := n3 p hp
    obtain ⟨s1, s2, s3, s4, s5, s6, s7⟩ := q1
    have fo := old p.1 (ag_mem S hp)
    obtain ⟨a1, a2, a3, a4, a5⟩ := fo p.1 (Or.inl rfl)
    obtain ⟨b1, b2, b3, b4, b5⟩ := fo (ar σ p.1) (Or.inr rfl)
    have e : ar σ' p.1 = ar σ p.1 := by unfold ar; rw [a3]
    refine ⟨l, N0, ?_, by rw [hr 3 (by omega) (by omega)]; exact q2, by rw [hr 4 (by omega) (by omega), a1]; exact q3, by rw [hr 4 (by omega) (by omega)]; exact q4, q5⟩
    rw [e]
    exact ⟨by rw [a5]; exact s1, by rw [a3]; exact s2, by rw [b5]; exact s3, by rw [a1]; exact s4, by rw [b4]; exact s5, s6, s7⟩
  · intro k hk
    rw [hr 6 (by omega) (by omega)]
    exact n7 k hk
  · intro i hi
    rw [hr 5 (by omega) (by omega)]
    exact n8 i hi
  · rw [h5, (F 4 ⟨by omega, by omega⟩).1]; exact n10
  · intro p hp i hi
    have fo := old p.1 (ag_mem S hp)
    obtain ⟨a1, a2, a3, a4, a5⟩ := fo p.1 (Or.inl rfl)
    obtain ⟨b1, b2, b3, b4, b5⟩ := fo (ar σ p.1) (Or.inr rfl)
    have e : ar σ' p.1 = ar σ p.1 := by unfold ar; rw [a3]
    rw [e, b1]
    rw [a1] at hi
    unfold Sk
    rw [hr 2 (by omega) (by omega)]
    exact hc p hp i hi
  · rw [nbe]; omega
  · omega
/-- the bytes of one segment are set -/
theorem NB.fill {own : Nat → Nat} {P C : List (Nat × Nat)} {S : List Nat} {c1 c2 K g s len : Nat} {σ : CS} {ρ : RS} (h : NR own P C S c1 c2 σ ρ) (O : Ow own σ) (B : BU K (nb σ (ag P C S) + 4 * (c1 + c2)) σ) (hb : ∀ i, isB (ρ.1 2 i)) (hgs : (g, s) ∈ P ++ C) (hc : ∀ p ∈ P ++ C, p ≠ (g, s) → Cq σ ρ p) {N : Nat} (S0 : SG σ g (ar σ g) len N) (X Y : Nat → Int32) (hXY : ∀ i, i < len → X i = Y i) (hY : ∀ i, isB (Y i)) :
    NB own P C S c1 c2 K (wA σ (ar σ g) X) (sS ρ s Y) := by
  obtain ⟨n1, n2, n3, n4, n5, n6, n7, n8, n9, n10, n11, n12, n13⟩ := h
  have e5 : own 5 = 50 := O.2.2 5 (by decide)
  have e6 : own 6 = 51 := O.2.2 6 (by decide)
  have e4 : own 4 = 52 := O.2.2 4 (by decide)
  have hg := n4 g (ag_mem S hgs)
  have ha : own (ar σ g) = 100 + g := hg.2.1
  have F := fr_wA σ (ar σ g) X
  have hlen : len ≤ 1484 := by obtain ⟨_, _, _, _, _, s6, s7⟩ := S0; omega
  have nea : ∀ x ∈ ag P C S, x ≠ ar σ g := fun x hx e => by have := (n4 x hx).1; rw [e] at this; omega
  have wS : ∀ x ∈ ag P C S, ∀ l N0, SG σ x (ar σ x) l N0 → SG (wA σ (ar σ g) X) x (ar σ x) l N0 := fun x hx l N0 ⟨s1, s2, s3, s4, s5, s6, s7⟩ => ⟨s1, s2, s3, by rw [wA_ne σ _ X (nea x hx)]; exact s4, s5, s6, s7⟩
  have gl : (cI σ g 1).toNatClampNeg = len := by rw [S0.2.2.2.1]; exact x32_n (x32_nat (by omega))
  refine ⟨⟨n1.fr e5 (F.sub fun x (hx : own x = 45 + 5) e => by rw [e] at hx; omega) (fun x hx => hx), n2.fr e6 (F.sub fun x (hx : own x = 45 + 6) e => by rw [e] at hx; omega) (fun x hx => hx), ?_, ?_, n5, n6, ?_, ?_, ?_, ?_, n11, n12, n13⟩, ?_, O, B, ?_⟩
  · intro p hp
    obtain ⟨l, N0, q1, q2, q3, q4, q5⟩ := n3 p hp
    refine ⟨l, N0, wS p.1 (ag_mem S hp) l N0 q1, ?_, ?_, ?_, q5⟩
    · rw [sS_o ρ s Y (by omega)]; exact q2
    · rw [sS_o ρ s Y (by omega), wA_ne σ _ X (nea p.1 (ag_mem S hp))]; exact q3
    · rw [sS_o ρ s Y (by omega)]; exact q4
  · intro x hx
    obtain ⟨p1, p2, l, N0, p3, p4⟩ := n4 x hx
    exact ⟨p1, p2, l, N0, wS x hx l N0 p3, p4⟩
  · intro k hk
    rw [sS_o ρ s Y (by omega)]; exact n7 k hk
  · intro i hi
    rw [sS_o ρ s Y (by omega)]; exact n8 i hi
  · rw [sS_o ρ s Y (by omega)]; exact n9
  · rw [sS_o ρ s Y (by omega), wA_ne σ _ X (fun e => by rw [e] at e4; omega)]; exact n10
  · intro p hp i hi
    rw [wA_ne σ _ X (nea p.1 (ag_mem S hp))] at hi
    have hl1484 : (cI σ p.1 1).toNatClampNeg ≤ 1484 := by
      obtain ⟨l, N0, q1, _⟩ := n3 p hp
      rw [q1.2.2.2.1, x32_n (x32_nat (by have := q1.2.2.2.2.2; omega))]
      have := q1.2.2.2.2.2; omega
    by_cases e : p = (g, s)
    · subst e
      show cI (wA σ (ar σ g) X) (ar σ g) i = _
      rw [wA_self, sS_self ρ s Y (by omega)]
      exact hXY i (by rw [← gl]; exact hi)
    · have hpg : p.1 ≠ g := fun e1 => by
        -- the first parts are all different
        have hnd : (P ++ C).map Prod.fst |>.Nodup := by
          have := n5
          unfold ag at this
          rw [← List.append_assoc, ← List.map_append] at this
          exact (List.nodup_append.mp this).1
        have := inj_map Prod.fst _ hnd hp hgs e1
        exact e this
      have hps : p.2 ≠ s := fun e1 => e (inj_map Prod.snd _ n6 hp hgs e1)
      have hane : ar σ p.1 ≠ ar σ g := fun e1 => by
        have := (n4 p.1 (ag_mem S hp)).2.1
        rw [e1] at this; omega
      show cI (wA σ (ar σ g) X) (ar σ p.1) i = _
      rw [wA_ne σ _ X hane, sS_ne ρ s Y hps (by omega)]
      exact hc p hp e i hi
  · intro i
    show isB (if 2 = 2 ∧ 1484 * s ≤ i ∧ i < 1484 * s + 1484 then Y (i - 1484 * s) else ρ.1 2 i)
    split
    · exact hY _
    · exact hb i
