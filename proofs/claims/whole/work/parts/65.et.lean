/-! a segment is emitted: the simulation -/
def PO (K : Nat) (C : List (Nat × Nat)) (own : Nat → Nat) (σ σ' : CS) (ρ ρ' : RS) : Prop := ∃ own' P S c1 c2, NB own' P C S c1 c2 K σ' ρ' ∧ (∀ x, own' x ≠ own x → own x = 99 ∧ 50 ≤ own' x) ∧ fr (fun x => own x < 50) σ σ' ∧ NFr ρ ρ' ∧ ∀ p ∈ C, fr (fun y => y = p.1 ∨ y = ar σ p.1) σ σ'
def yC (ρ1 : RS) (e k n from_ len : Nat) (sq ak fl wn v9 : Int32) : Nat → Int32 := sld (va_cpy (ρ1.1 38) (opR (hdR (Sk ρ1 k) (pt e (ρ1.1 0 4)) (pt (1 - e) (ρ1.1 0 4)) sq ak ((((20 : Int32) + v9) / (4 : Int32)) <<< ((4 : Int32) &&& 31)) fl wn) v9 (ρ1.1 8 e)) (81920 * e + from_) 20 n) len
theorem isB_hdR {C : Nat → Int32} (h : ∀ i, isB (C i)) (a b c d f g k : Int32) : ∀ i, isB (hdR C a b c d f g k i) := by
  unfold hdR
  exact isB_pu (isB_pu (isB_pu (isB_pu (isB_pu (isB_pu (isB_pu (isB_pu h _ _ _) _ _ _) _ _ _) _ _ _) _ _ _) _ _ _) _ _ _) _ _ _
theorem isB_yC {ρ1 : RS} (h2 : ∀ i, isB (ρ1.1 2 i)) (h38 : ∀ i, isB (ρ1.1 38 i)) (e k n from_ len : Nat) (sq ak fl wn v9 : Int32) : ∀ i, isB (yC ρ1 e k n from_ len sq ak fl wn v9 i) := by
  unfold yC sld
  refine isB_pu (fun i => ?_) _ _ _
  unfold va_cpy
  split
  · exact h38 _
  · unfold opR
    split
    · exact isB_hdR (fun i => h2 _) _ _ _ _ _ _ _ i
    · exact isB_pu (isB_pu (isB_hdR (fun i => h2 _) _ _ _ _ _ _ _) _ _ _) _ _ _ i
theorem emit_core {own : Nat → Nat} {P C : List (Nat × Nat)} {S : List Nat} {c1 c2 K q e n ab f from_ m : Nat} {σ : CS} {ρ : RS} {v1 v9 fl sq ak wn nn : Int32} (hqe : q = 7 ∧ e = 0 ∨ q = 14 ∧ e = 1) (h : NB own P C S c1 c2 K σ ρ) (hv : v1.toInt = (e : Int)) (hix : cI σ q 0 = v1) (hp1 : cI σ q 12 = pt e (ρ.1 0 4)) (hp2 : cI σ q 13 = pt (1 - e) (ρ.1 0 4)) (hms : cI σ q 7 = ρ.1 8 e) (hm : cI σ q 7 = Int32.ofNat m) (hm2 : m ≤ 1460) (hB : ∀ i, isB (ρ.1 38 i)) (hn : nn.toInt = (n : Int)) (hn2 : n ≤ 1460) (D : Dt σ q sq n ab f) (hab : own ab < 50) (hct : ∀ i, i < n → cI σ ab (f + i) = ρ.1 38 (81920 * e + from_ + i)) (hfl : fl &&& 2 = 0 ∧ v9 = 0 ∨ ¬ (fl &&& 2 = 0) ∧ v9 = 4 ∧ n = 0) :
    ∃ σ', m_E_emit q fl sq ak wn nn σ = some σ' ∧
      ((∃ ρ1, m_launched ((1 : Int32) - v1) (((20 : Int32) + v9) + nn) (si ρ 28 e (ρ.1 28 e + 1)) = some (-1, ρ1) ∧ PO K C own (wi σ q 10 (cI σ q 10 + 1)) σ' (si ρ 28 e (ρ.1 28 e + 1)) ρ1) ∨
       (∃ k ρ1 len, m_launched ((1 : Int32) - v1) (((20 : Int32) + v9) + nn) (si ρ 28 e (ρ.1 28 e + 1)) = some (nI k, ρ1) ∧ k < 513 ∧ ρ1.1 3 k = Int32.ofNat len ∧ 20 ≤ len ∧ len ≤ 1484 ∧ (ρ1.1 4 k = 0 ∨ ρ1.1 4 k = 1) ∧ (∀ i, isB (ρ1.1 38 i)) ∧ PO K C own (wi σ q 10 (cI σ q 10 + 1)) σ' (si ρ 28 e (ρ.1 28 e + 1)) (sS ρ1 k (yC ρ1 e k n from_ len sq ak fl wn v9)))) := by
  have hq : q = 7 ∨ q = 14 := by omega
  have he : e < 2 := by omega
  have h' := h
  obtain ⟨_, _, O, B, hb⟩ := h
  have B3 : K ≤ 260000 := B.2.2
  have oq : own q = 10 ∨ own q = 11 := by
    rcases hq with rfl | rfl
    · exact Or.inl (O.2.2 7 (by decide))
    · exact Or.inr (O.2.2 14 (by decide))
  have oq1 : own (q + 1) = 10 ∨ own (q + 1) = 11 := by
    rcases hq with rfl | rfl
    · exact Or.inl (O.2.2 8 (by decide))
    · exact Or.inr (O.2.2 15 (by decide))
  obtain ⟨σ0, hσ0⟩ : ∃ x, x = wi σ q 10 (cI σ q 10 + 1) := ⟨_, rfl⟩
  obtain ⟨ρ0, hρ0⟩ : ∃ x, x = si ρ 28 e (ρ.1 28 e + 1) := ⟨_, rfl⟩
  have f28 : ∀ r, r ≠ 28 → ρ0.1 r = ρ.1 r := fun r hr => funext fun j => by rw [hρ0, si_1, if_neg (fun e => hr e.1)]
  have h0 : NB own P C S c1 c2 K σ0 ρ0 := by
    rw [hσ0]
    refine h'.f ((fr_wi σ q 10 _).sub fun x (hx : 50 ≤ own x ∧ own x ≠ 99) e => by rw [e] at hx; omega) (fun _ _ => rfl) O (fun r h2 h6 => f28 r (by omega)) ?_ ?_ (Nat.le_refl _) (Nat.le_refl _) B3
    · rw [f28 0 (by omega)]
    · rw [f28 0 (by omega)]
  obtain ⟨NR0, Cq0, O0, BU0, hb0⟩ := h0
  -- the two lengths
  obtain ⟨len, v6, w0, hlen, hlv, hw0, hem, hw⟩ : ∃ (len : Nat) (v6 w0 : Int32), len ≤ 1484 ∧ (((20 : Int32) + v9) + nn).toInt = (len : Int) ∧ (20 : Int32) + v9 = w0 ∧ m_E_emit q fl sq ak wn nn σ = b_E_emit_25 q fl sq ak wn nn v6 w0 σ ∧ (v6 = 0 ∧ v9 = 0 ∧ 20 + n = len ∨ v6 = 1 ∧ v9 = 4 ∧ n = 0 ∧ 24 = len) := by
    rcases hfl with ⟨a1, a2⟩ | ⟨a1, a2, a3⟩
    · subst a2
      refine ⟨20 + n, 0, 20, by omega, ?_, by decide, ?_, Or.inl ⟨rfl, rfl, rfl⟩⟩
      · rw [x32_add (show ((20 : Int32) + 0).toInt = 20 by decide) hn (by omega) (by omega)]; omega
      · unfold m_E_emit b_E_emit_11
        rw [gd_t hq, if_pos a1, if_pos rfl]
    · subst a2
      refine ⟨24, 1, 24, by omega, ?_, by decide, ?_, Or.inr ⟨rfl, rfl, a3, rfl⟩⟩
      · rw [x32_add (show ((20 : Int32) + 4).toInt = 24 by decide) hn (by omega) (by omega)]; omega
      · unfold m_E_emit b_E_emit_11
        rw [gd_t hq, if_neg a1, if_neg (by decide)]
  rw [hem]
  have h1e : ((1 : Int32) - v1).toInt = ((1 - e : Nat) : Int) := by rw [x32_sub z32_1 hv (by omega) (by omega)]; omega
  have ht : (1 : Int32) - v1 = 0 ∨ (1 : Int32) - v1 = 1 := by
    rcases hqe with ⟨_, rfl⟩ | ⟨_, rfl⟩
    · exact Or.inr (x32_eq' h1e z32_1 (by omega))
    · exact Or.inl (x32_eq' h1e z32_0 (by omega))
  rcases place_sim NR0 Cq0 O0 BU0 ((1 : Int32) - v1) (((20 : Int32) + v9) + nn) ht hlv hlen with ⟨p1, p2, p3⟩ | ⟨p0, σ1, o1, ρ1, g, s, S', c1', N, p1, p2, p3, p4, p5, p6, p7, p8, p9, p10, p11, p12, p13, p15, p14⟩
  · refine ⟨wi σ0 4 2 (cI σ0 4 2 + 1), ?_, Or.inl ⟨si ρ0 0 5 (ρ0.1 0 5 + 1), by rw [← hρ0]; exact p3, ?_⟩⟩
    · unfold b_E_emit_25
      have e0 : cI (wi σ q 10 (cI σ q 10 + 1)) q 0 = cI σ q 0 := by rw [wi_I, if_neg (by omega)]
      rw [bd_e, bd_e, bd_e, e0, hix, ← hw0, ← hσ0, p2, bc2_e]
      rfl
    · rw [← hσ0, ← hρ0]
      have e4 : own 4 = 52 := O.2.2 4 (by decide)
      have hn5 : ∀ p ∈ P ++ C, p.1 ≠ 4 ∧ ar σ0 p.1 ≠ 4 := fun p hp => by
        obtain ⟨u1, u2, _⟩ := NR0.2.2.2.1 p.1 (ag_mem S hp)
        exact ⟨fun e => by rw [e] at u1; omega, fun e => by rw [e] at u2; omega⟩
      refine ⟨own, P, S, c1, c2, ?_, fun x hx => absurd rfl hx, (fr_wi σ0 4 2 _).sub fun x (hx : own x < 50) e => by rw [e] at hx; omega, ⟨rfl, fun r hr => funext fun j => ?_, fun j hj _ => ?_⟩, fun p hp => (fr_wi σ0 4 2 _).sub fun y hy => ?_⟩
      · obtain ⟨n1, n2, n3, n4, n5, n6, n7, n8, n9, n10, n11, n12, n13⟩ := NR0
        have F := fr_wi σ0 4 2 (cI σ0 4 2 + 1)
        refine ⟨⟨n1.fr (O.2.2 5 (by decide)) (F.sub fun x (hx : own x = 45 + 5) e => by rw [e] at hx; omega) (fun _ hx => hx), n2.fr (O.2.2 6 (by decide)) (F.sub fun x (hx : own x = 45 + 6) e => by rw [e] at hx; omega) (fun _ hx => hx), ?_, ?_, n5, n6, ?_, ?_, ?_, ?_, n11, n12, n13⟩, ?_, O0, BU0, hb0⟩
        · intro p hp
          obtain ⟨l, N0, ⟨s1, s2, s3, s4, s5, s6, s7⟩, q2, q3, q4, q5⟩ := n3 p hp
          refine ⟨l, N0, ⟨s1, s2, s3, ?_, s5, s6, s7⟩, q2, ?_, q4, q5⟩
          · rw [wi_I, if_neg (fun e => (hn5 p hp).1 e.1)]; exact s4
          · rw [wi_I, if_neg (fun e => (hn5 p hp).1 e.1)]; exact q3
        · intro x hx
          obtain ⟨r1, r2, l, N0, ⟨s1, s2, s3, s4, s5, s6, s7⟩, r4⟩ := n4 x hx
          refine ⟨r1, r2, l, N0, ⟨s1, s2, s3, ?_, s5, s6, s7⟩, r4⟩
          rw [wi_I, if_neg (fun e => by have := e.1; rw [this] at r1; omega)]; exact s4
        · exact n7
        · exact n8
        · exact n9
        · rw [wi_I, if_pos ⟨rfl, rfl⟩, si_1, if_pos ⟨rfl, rfl⟩, n10]
        · intro p hp i hi
          rw [wi_I, if_neg (fun e => (hn5 p hp).1 e.1)] at hi
          show cI (wi σ0 4 2 (cI σ0 4 2 + 1)) (ar σ0 p.1) i = _
          rw [wi_I, if_neg (fun e => (hn5 p hp).2 e.1)]
          exact Cq0 p hp i hi
      · rw [si_1, if_neg (by omega)]
      · rw [si_1, if_neg (by omega)]
      · have := hn5 p (List.mem_append_right _ hp)
        rcases hy with rfl | rfl
        · exact this.1
        · exact this.2
  · have kO := keepO p12
    have oa : o1 (ar σ1 g) = 100 + g := (p3.2.2.2.1 g (ag_mem S' (List.mem_append_left _ (List.mem_append_right _ (List.mem_singleton.mpr rfl))))).2.1
    have oab : o1 ab = own ab := kO ab (by omega)
    have oqq : o1 q = own q := kO q (by omega)
    have oqq1 : o1 (q + 1) = own (q + 1) := kO (q + 1) (by omega)
    obtain ⟨F1, F2, F3, F4, F5⟩ := p10 (q + 1) (by omega)
    obtain ⟨G1, G2, G3, G4, G5⟩ := p10 q (by omega)
    obtain ⟨A1, A2, A3, A4, A5⟩ := p10 ab hab
    have s0q1 : cI σ0 (q + 1) = cI σ (q + 1) := funext fun j => by rw [hσ0, wi_I, if_neg (by omega)]
    have s0q : ∀ j, j ≠ 10 → cI σ0 q j = cI σ q j := fun j hj => by rw [hσ0, wi_I, if_neg (by omega)]
    have abq : n ≠ 0 → ab ≠ q := fun hn0 e => by
      rcases D with hd | ⟨_, _, _, _, _, _, _, _, _, _, hk, _⟩
      · exact hn0 hd
      · rw [e] at hk
        rcases hq with rfl | rfl
        · exact absurd hk (show ¬ kd σ 7 = 21 from (by decide : ¬ (6 : Nat) = 21))
        · exact absurd hk (show ¬ kd σ 14 = 21 from (by decide : ¬ (6 : Nat) = 21))
    have D1 : Dt σ1 q sq n ab f := by
      rcases D with hd | ⟨st, w, d, d1, d2, d3, d4, d5, d6, d7, d8, d9, d10⟩
      · exact Or.inl hd
      · refine Or.inr ⟨st, w, d, by rw [F1, s0q1]; exact d1, by rw [F1, s0q1]; exact d2, by rw [F1, s0q1]; exact d3, d4, d5, by rw [A4, hσ0]; exact d6, by rw [F3, hσ0]; exact d7, by rw [A5, hσ0]; exact d8, d9, d10⟩
    have hcl := emitC (σ := σ) (σ1 := σ1) (v1 := fl) (v3 := ak) (v4 := wn) (v6 := v6) (w0 := w0) hq (by rw [hix, ← hw0, ← hσ0]; exact p1) p5 (fun e => by rw [← e] at oa; omega) (fun e => by rw [← e] at oa; omega) (fun e => by rw [← e] at oa; omega) hn D1 (hw.elim (fun a => Or.inl ⟨a.1, by have := a.2.2; omega⟩) (fun a => Or.inr ⟨a.1, a.2.2.1, by have := a.2.2.2; omega⟩))
    refine ⟨_, hcl, Or.inr ⟨s, ρ1, len, by rw [← hρ0]; exact p2, p6, p7, by omega, hlen, p8, ?_, ?_⟩⟩
    · intro i
      rw [p13.2.1 38 (by omega), f28 38 (by omega)]; exact hB i
    · rw [← hσ0, ← hρ0]
      have e04 : ρ1.1 0 4 = ρ.1 0 4 := by rw [p13.2.2 4 (by omega) (by omega), f28 0 (by omega)]
      have e8 : ρ1.1 8 e = ρ.1 8 e := by rw [p13.2.1 8 (by omega), f28 8 (by omega)]
      have e38 : ρ1.1 38 = ρ.1 38 := by rw [p13.2.1 38 (by omega), f28 38 (by omega)]
      have b2 : ∀ i, isB (ρ1.1 2 i) := fun i => by
        rw [p15]; exact hb0 i
      refine ⟨o1, P ++ [(g, s)], S', c1', c2, NB.fill p3 p11 p9 b2 (List.mem_append_left _ (List.mem_append_right _ (List.mem_singleton.mpr rfl))) ?_ p5 _ _ ?_ (isB_yC b2 (by rw [e38]; exact hB) _ _ _ _ _ _ _ _ _ _), p12, ?_, ?_, ?_⟩
      · intro p hp hne
        refine p4 p ?_
        rcases List.mem_append.mp hp with h | h
        · rcases List.mem_append.mp h with h | h
          · exact List.mem_append_left _ h
          · exact absurd (List.mem_singleton.mp h) hne
        · exact List.mem_append_right _ h
      · intro i hi
        unfold yC
        refine sld_congr (fun j hj j16 j17 => ?_) hi
        have q12 : cI σ1 q 12 = pt e (ρ1.1 0 4) := by rw [G1, s0q 12 (by omega), e04]; exact hp1
        have q13 : cI σ1 q 13 = pt (1 - e) (ρ1.1 0 4) := by rw [G1, s0q 13 (by omega), e04]; exact hp2
        have q7 : cI σ1 q 7 = ρ1.1 8 e := by rw [G1, s0q 7 (by omega), e8]; exact hms
        have q7m : ρ1.1 8 e = Int32.ofNat m := by rw [e8, ← hms]; exact hm
        rw [q12, q13, q7, hw0]
        rcases hw with ⟨w1, w2, w3⟩ | ⟨w1, w2, w3, w4⟩
        · unfold opC opR va_cpy
          rw [if_pos w1, if_pos (show v9 ≤ 0 by rw [w2]; decide)]
          by_cases hj2 : j < 20
          · rw [if_neg (by omega), if_neg (by omega)]
            exact hd_eq _ _ _ _ _ _ _ _ _ j hj2 j16 j17
          · rw [if_pos (by omega), if_pos (by omega), A1, e38, ← hct (j - 20) (by omega), hσ0, wi_I, if_neg (fun e => abq (by omega) e.1)]
        · subst w3
          rw [cpy0, cpy0]
          unfold opC opR
          rw [if_neg (by rw [w1]; decide), if_neg (by rw [w2]; decide)]
          exact opt_eq _ _ q7m hm2 (fun i hi a b => hd_eq _ _ _ _ _ _ _ _ _ i hi a b) j (by omega) j16 j17
      · refine fr.tr p10 (fr_wA _ _ _) (fun x hx e => ?_)
        have := kO x (by omega)
        rw [e] at this hx; omega
      · refine p13.tr ⟨rfl, fun r hr => ?_, fun j _ _ => ?_⟩
        · exact sS_o ρ1 s _ (by omega)
        · rw [sS_o ρ1 s _ (by omega)]
      · intro p hp
        have hpc := p14 p (List.mem_append_right _ hp)
        refine fr.tr hpc (fr_wA _ _ _) (fun y hy e => ?_)
        obtain ⟨u1, u2, _⟩ := NR0.2.2.2.1 p.1 (ag_mem S (List.mem_append_right _ hp))
        have k1 := kO p.1 (by omega)
        have k2 := kO (ar σ0 p.1) (by omega)
        have hpg : p.1 ≠ g := fun e2 => by
          have := (List.nodup_cons.mp ((ag_perm P C S' g s).nodup_iff.mp p3.2.2.2.2.1)).1
          exact this (by rw [← e2]; exact ag_mem S' (List.mem_append_right _ hp))
        rcases hy with hy | hy
        · rw [← hy, e] at k1; rw [← hy, e] at u1; omega
        · rw [← hy, e] at k2; rw [← hy, e] at u2; omega
