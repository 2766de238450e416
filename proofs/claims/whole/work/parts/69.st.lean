theorem own_q {own : Nat → Nat} {σ : CS} {q e : Nat} (hqe : q = 7 ∧ e = 0 ∨ q = 14 ∧ e = 1) (O : Ow own σ) : own q = 10 + e ∧ own (q + 1) = 10 + e ∧ own (q + 3) = 10 + e ∧ own (q + 5) = 10 + e ∧ own (q + 6) = 10 + e := by
  rcases hqe with ⟨rfl, rfl⟩ | ⟨rfl, rfl⟩
  · exact ⟨O.2.2 7 (by decide), O.2.2 8 (by decide), O.2.2 10 (by decide), O.2.2 12 (by decide), O.2.2 13 (by decide)⟩
  · exact ⟨O.2.2 14 (by decide), O.2.2 15 (by decide), O.2.2 17 (by decide), O.2.2 19 (by decide), O.2.2 20 (by decide)⟩
theorem fr_end {own : Nat → Nat} {t : Nat} {σ σ' : CS} {x : Nat} (F : fr (fun a => a ≠ x) σ σ') (hx : own x = t) : fr (fun a => own a ≠ t) σ σ' := F.sub fun y hy e => hy (by rw [e]; exact hx)
theorem send_core {own : Nat → Nat} {P C : List (Nat × Nat)} {S : List Nat} {c1 c2 K q e : Nat} {σ : CS} {ρ : RS} {st u nr n m g U : Nat} (hqe : q = 7 ∧ e = 0 ∨ q = 14 ∧ e = 1) (N : NB own P C S c1 c2 K σ ρ) (g1 : G1 q e σ ρ st) (g2 : G2x own q e σ ρ u nr n m g) (g3 : G3 own q e σ ρ U) (g5 : G5 q e σ ρ st) (hB : ∀ i, isB (ρ.1 38 i)) (hc0 : ρ.1 0 4 ≠ 0) {v1 f num nn v4 : Int32} (hv : v1.toInt = (e : Int)) {k a : Nat} (hn : nn.toInt = (k : Int)) (hk : k ≤ 1460) (ha : a ≤ 20000) (hd : k = 0 ∨ (num = cI σ (q + 1) 3 + Int32.ofNat a ∧ 1 ≤ a ∧ v4 = Int32.ofNat (a - 1) ∧ u ≤ a ∧ a - 1 + k ≤ g)) (hf : (f = 0 ∨ f = 1 ∨ f = 4) ∨ (f = 2 ∧ k = 0 ∧ (e = 0 ↔ st = 2))) :
    ∃ σ' ρ' own', m_E_send q f num nn σ = some σ' ∧ m_send v1 f num v4 nn ρ = b_send_246 v1 f num nn ρ' ∧ (G1 q e σ' ρ' st ∧ G2x own' q e σ' ρ' u nr n m g ∧ G3 own' q e σ' ρ' U ∧ G5 q e σ' ρ' st) ∧ EP K C own own' e σ σ' ρ ρ' ∧ SE q e σ σ' ρ ρ' := by
  have hq : q = 7 ∨ q = 14 := by omega
  have he : e < 2 := by omega
  obtain ⟨fl, ak, v9, z1, z2, z3⟩ := toEmit (k := k) (a := a) hqe g1 g2 g3 hc0 hv hn (hd.elim Or.inl fun h => Or.inr ⟨h.1, h.2.1, h.2.2.1⟩) hf
  rw [z1, z2]
  clear z1 z2
  have O := N.2.2.1
  have hoq := own_q hqe O
  obtain ⟨σo, hσo⟩ : ∃ x, x = wi σ (q + 3) 2 (ned σ q) := ⟨_, rfl⟩
  obtain ⟨ρo, hρo⟩ : ∃ x, x = si ρ 19 e (ned σ q) := ⟨_, rfl⟩
  have so : ∀ x j, (x ≠ q + 3 ∨ j ≠ 2) → cI σo x j = cI σ x j := fun x j hx => by rw [hσo, wi_I, if_neg (by omega)]
  have so2 : cI σo (q + 3) 2 = ned σ q := by rw [hσo, wi_I, if_pos ⟨rfl, rfl⟩]
  have ro : ∀ r j, r ≠ 19 → ρo.1 r j = ρ.1 r j := fun r j hr => by rw [hρo, si_1, if_neg (by omega)]
  have Fo : fr (fun x => own x ≠ 10 + e) σ σo := by rw [hσo]; exact fr_end (fr_wi σ (q + 3) 2 _) hoq.2.2.1
  have Ro : RF e ρ ρo := by rw [hρo]; exact RF.si ρ _ (by omega) (by omega)
  obtain ⟨EPo, NBo⟩ := EP.wr N Fo he (by rw [hσo]; rfl) Ro (fun r h1 h2 => funext fun j => ro r j (by omega)) (ro 0 5 (by omega)) (ro 0 10 (by omega))
  -- the emit
  obtain ⟨mm, m1, m2, m3⟩ := g1.2.2.1
  have hports : cI σ q 12 = pt e (ρ.1 0 4) ∧ cI σ q 13 = pt (1 - e) (ρ.1 0 4) := by
    rcases g1.2.2.2.2.2.2.2.2.2.2 with h | h
    · exact absurd h.1 hc0
    · exact ⟨h.2.2.1, h.2.2.2⟩
  obtain ⟨s, ab, k1, k2, k3, k4, k5, k6, k7, k8, k9⟩ := g2.2.2.2.2.2.2.2.2.2.2
  have gle : g ≤ 10240 := g2.2.2.2.2.2.2.2.2.2.1.2.2.2
  have hfin : cI σ (q + 1) 7 = cI σ (q + 1) 3 + 1 + Int32.ofNat g := g2.2.2.2.2.1.2 hc0
  have hwn : ned σ q - cI σ (q + 3) 1 = ρo.1 19 e - ρo.1 18 e := by
    rw [ro 18 e (by omega), g3.2.1, hρo, si_1, if_pos ⟨rfl, rfl⟩]
  have hDt : ∃ f0, Dt σo q num k ab f0 ∧ ∀ i, i < k → cI σo ab (f0 + i) = ρo.1 38 (81920 * e + (a - 1) + i) := by
    rcases hd with hd | ⟨d1, d2, d3, d4, d5⟩
    · exact ⟨0, Or.inl hd, fun i hi => by omega⟩
    · by_cases hk0 : k = 0
      · exact ⟨0, Or.inl hk0, fun i hi => by omega⟩
      have hw : g - (u - 1) = g - (u - 1) := rfl
      refine ⟨s + (g - (u - 1)) - (g + 1 - a), Or.inr ⟨s, g - (u - 1), g + 1 - a, by rw [so _ _ (by omega)]; exact k1, by rw [so _ _ (by omega)]; exact k2, ?_, by omega, by omega, by rw [hσo]; exact k6, by rw [hσo]; exact k3, by rw [hσo]; exact k4, by omega, rfl⟩, fun i hi => ?_⟩
      · rw [so _ _ (by omega), d1, hfin]
        have hb : Int32.ofNat g + 1 = Int32.ofNat (g + 1 - a) + Int32.ofNat a := by
          rw [← show Int32.ofNat (g + 1) = Int32.ofNat g + 1 from nI_succ g]
          refine (x32_of (by omega) ?_).symm
          rw [x32_add (x32_nat (by omega)) (x32_nat (by omega)) (by omega) (by omega)]; omega
        grind
      · have hab3 : ab ≠ q + 3 := fun e => by have := (qkd hq σ).2.2.1; rw [← e] at this; omega
        rw [so ab _ (Or.inl hab3), ro 38 _ (by omega)]
        have := k9 (s + (g - (u - 1)) - (g + 1 - a) + i - s) (by omega)
        rw [show s + (s + (g - (u - 1)) - (g + 1 - a) + i - s) = s + (g - (u - 1)) - (g + 1 - a) + i by omega] at this
        rw [this]
        refine congrArg (ρ.1 38) ?_
        omega
  obtain ⟨f0, D0, D1⟩ := hDt
  rw [hwn, ← hσo, ← hρo]
  obtain ⟨σ', y1, y2⟩ := emit_core (σ := σo) (ρ := ρo) (fl := fl) (ak := ak) (wn := ρo.1 19 e - ρo.1 18 e) (from_ := a - 1) hqe NBo hv (by rw [so q 0 (by omega), g1.1]; exact Int32.toInt_inj.mp (by rw [hv, x32_nat (by omega)])) (by rw [so q 12 (by omega), ro 0 4 (by omega)]; exact hports.1) (by rw [so q 13 (by omega), ro 0 4 (by omega)]; exact hports.2) (by rw [so q 7 (by omega), ro 8 e (by omega)]; exact g1.2.1.symm) (by rw [so q 7 (by omega)]; exact m3) m2 (fun i => by rw [ro 38 i (by omega)]; exact hB i) hn hk D0 (by rw [k5]; omega) D1 z3
  have hCC : ∀ p ∈ C, own p.1 = 60 ∧ own (ar σ p.1) = 100 + p.1 := fun p hp => by
    obtain ⟨u1, u2, _⟩ := N.1.2.2.2.1 p.1 (ag_mem S (List.mem_append_right _ hp))
    exact ⟨u1, u2⟩
  -- what holds when the emit is done
  have fin : ∀ ρ', PO K C own (wi σo q 10 (cI σo q 10 + 1)) σ' (si ρo 28 e (ρo.1 28 e + 1)) ρ' → ∃ own', (G1 q e σ' ρ' st ∧ G2x own' q e σ' ρ' u nr n m g ∧ G3 own' q e σ' ρ' U ∧ G5 q e σ' ρ' st) ∧ EP K C own own' e σ σ' ρ ρ' ∧ SE q e σ σ' ρ ρ' := by
    intro ρ' hpo
    obtain ⟨σ1, hσ1⟩ : ∃ x, x = wi σo q 10 (cI σo q 10 + 1) := ⟨_, rfl⟩
    obtain ⟨ρ1, hρ1⟩ : ∃ x, x = si ρo 28 e (ρo.1 28 e + 1) := ⟨_, rfl⟩
    rw [← hσ1, ← hρ1] at hpo
    have F1 : fr (fun x => own x ≠ 10 + e) σ σ1 := fr.tr Fo (by rw [hσ1]; exact fr_end (fr_wi σo q 10 _) hoq.1) (fun _ h => h)
    have R1 : RF e ρ ρ1 := Ro.tr (by rw [hρ1]; exact RF.si ρo _ (by omega) (by omega))
    obtain ⟨own', w1, w2, w3, w4, w5⟩ := EP.PO hpo F1 R1 (by rw [hσ1, hσo]; rfl) he hCC
    have t1 : ∀ x j, (x ≠ q ∨ j ≠ 10) → cI σ1 x j = cI σo x j := fun x j hx => by rw [hσ1, wi_I, if_neg (by omega)]
    have t2 : cI σ1 q 10 = cI σ q 10 + 1 := by rw [hσ1, wi_I, if_pos ⟨rfl, rfl⟩, so q 10 (by omega)]
    have v1 : ∀ r j, r ≠ 28 → ρ1.1 r j = ρo.1 r j := fun r j hr => by rw [hρ1, si_1, if_neg (by omega)]
    have v2 : ρ1.1 28 e = ρ.1 28 e + 1 := by rw [hρ1, si_1, if_pos ⟨rfl, rfl⟩, ro 28 e (by omega)]
    have G3o := g3.edge hq
    rw [← hσo, ← hρo] at G3o
    have O1 : Ow own σ1 := by rw [hσ1, hσo]; exact O
    have E1 : G1 q e σ1 ρ1 st ∧ G2x own q e σ1 ρ1 u nr n m g ∧ G3 own q e σ1 ρ1 U ∧ G5 q e σ1 ρ1 st := by
      refine ⟨?_, g2.cg (F := ?_) (ho := fun _ h => h) (hr := fun r h => ?_) (h38 := fun i _ => ?_) (h04 := by rw [v1 0 4 (by omega), ro 0 4 (by omega)]), G3o.cg (F := ?_) (ho := fun _ h => h) (hr := fun r h => v1 r e (by omega)) (h39 := fun i _ => v1 39 _ (by omega)) (h40 := fun i _ => v1 40 _ (by omega)), g5.cg (F := ?_) (hr := fun r h => ?_)⟩
      · unfold G1
        rw [t1 q 0 (by omega), t1 q 7 (by omega), t1 q 8 (by omega), t1 q 9 (by omega), t2, t1 q 11 (by omega), t1 q 12 (by omega), t1 q 13 (by omega), so q 0 (by omega), so q 7 (by omega), so q 8 (by omega), so q 9 (by omega), so q 11 (by omega), so q 12 (by omega), so q 13 (by omega), v1 8 e (by omega), v1 9 e (by omega), v1 30 e (by omega), v2, v1 29 e (by omega), v1 0 4 (by omega), ro 8 e (by omega), ro 9 e (by omega), ro 30 e (by omega), ro 29 e (by omega), ro 0 4 (by omega)]
        obtain ⟨a1, a2, a3, a4, a5, a6, a7, a8, a9, a10, a11⟩ := g1
        exact ⟨a1, a2, a3, a4, a5, a6, a7, a8, by rw [a9], a10, a11⟩
      · rw [hσ1, hσo]
        refine fr.tr ((fr_wi σ (q + 3) 2 _).sub fun x hx e => ?_) (fr_wi _ q 10 _) (fun x hx e => ?_)
        · rcases hx with hx | hx
          · omega
          · rw [e] at hx; omega
        · rcases hx with hx | hx
          · omega
          · rw [e] at hx; omega
      · rw [v1 r e (by omega), ro r e (by omega)]
      · rw [v1 38 _ (by omega), ro 38 _ (by omega)]
      · rw [hσ1]
        refine (fr_wi σo q 10 _).sub fun x hx e => ?_
        rcases hx with hx | hx
        · omega
        · rw [e] at hx; omega
      · funext j; rw [t1 _ _ (by omega), so _ _ (by omega)]
      · rw [v1 r e (by omega), ro r e (by omega)]
    have E2 : G1 q e σ' ρ' st ∧ G2x own' q e σ' ρ' u nr n m g ∧ G3 own' q e σ' ρ' U ∧ G5 q e σ' ρ' st := by
      obtain ⟨h1, h2, h3, h5⟩ := E1
      refine ⟨h1.cg (w2 q (by omega)).1 (fun r h => by rw [w3.2.1 r (by omega)]) (w3.2.2 4 (by omega) (by omega)), h2.cg (w2.sub fun x hx => ?_) (fun x hx => by rw [w5 x (by omega)]; exact hx) (fun r h => by rw [w3.2.1 r (by omega)]) (fun i _ => by rw [w3.2.1 38 (by omega)]) (w3.2.2 4 (by omega) (by omega)), h3.cg (w2.sub fun x hx => ?_) (fun x hx => by rw [w5 x (by omega)]; exact hx) (fun r h => by rw [w3.2.1 r (by omega)]) (fun i _ => by rw [w3.2.1 39 (by omega)]) (fun i _ => by rw [w3.2.1 40 (by omega)]), h5.cg (w2 (q + 6) (by omega)).1 (fun r h => by rw [w3.2.1 r (by omega)])⟩
      · rcases hx with hx | hx
        · rw [hx]; omega
        · omega
      · rcases hx with hx | hx
        · rw [hx]; omega
        · omega
    refine ⟨own', E2, w1, fun x hx => ?_, fun j hj => ?_, ?_, fun j hj => ?_, fun r h1 h2 h3 => funext fun j => ?_, ?_, ?_⟩
    · have ox : own x < 50 := by rcases hx with rfl | rfl | rfl <;> omega
      obtain ⟨f1, f2, f3, _, _⟩ := w2 x ox
      refine ⟨?_, ?_, ?_⟩
      · rw [f1]; funext j; rw [t1 _ _ (by omega), so _ _ (by omega)]
      · rw [f2, hσ1, hσo]; rfl
      · rw [f3, hσ1, hσo]; rfl
    · rw [(w2 q (by omega)).1, t1 _ _ (by omega), so _ _ (by omega)]
    · rw [(w2 q (by omega)).1, t2]
    · rw [(w2 (q + 3) (by omega)).1, t1 _ _ (by omega), so _ _ (by omega)]
    · rw [w3.2.1 r (by omega), v1 _ _ h3, ro _ _ h2]
    · rw [w3.1, hρ1, hρo]; rfl
    · rw [w3.2.1 28 (by omega), v2]
  rcases y2 with ⟨ρ1, l1, l2⟩ | ⟨kk, ρ1, len, l1, l2, l3, l4, l5, l6, l7, l8⟩
  · obtain ⟨own', r1, r2, r3⟩ := fin ρ1 l2
    exact ⟨σ', ρ1, own', by rw [y1]; rfl, sendF hv he l1, r1, r2, r3⟩
  · obtain ⟨own', r1, r2, r3⟩ := fin _ l8
    refine ⟨σ', _, own', by rw [y1]; rfl, ?_, r1, r2, r3⟩
    refine sendR hv he l1 l2 hn ?_ hk ?_ l7 l3 l5 l6
    · rcases hd with hd | hd
      · exact Or.inl hd
      · right; rw [hd.2.2.1]; exact x32_nat (by omega)
    · rcases hd with hd | hd
      · omega
      · omega
theorem send_sim {own : Nat → Nat} {P C : List (Nat × Nat)} {S : List Nat} {c1 c2 K q e : Nat} {σ : CS} {ρ : RS} {τ st u nr n m g U : Nat} {rn : Int32} {tr : Nat} (hqe : q = 7 ∧ e = 0 ∨ q = 14 ∧ e = 1) (N : NB own P C S c1 c2 K σ ρ) (E : EGx own q e σ ρ τ st u nr n m g U rn tr) (hB : ∀ i, isB (ρ.1 38 i)) (hc0 : ρ.1 0 4 ≠ 0) {v1 f num nn v4 : Int32} (hv : v1.toInt = (e : Int)) {k a : Nat} (hn : nn.toInt = (k : Int)) (hk : k ≤ 1460) (ha : a ≤ 20000) (hd : k = 0 ∨ (num = cI σ (q + 1) 3 + Int32.ofNat a ∧ 1 ≤ a ∧ v4 = Int32.ofNat (a - 1) ∧ u ≤ a ∧ a - 1 + k ≤ g)) (hf : (f = 0 ∨ f = 1 ∨ f = 4) ∨ (f = 2 ∧ k = 0 ∧ (e = 0 ↔ st = 2))) :
    ∃ σ' ρ' own', m_E_send q f num nn σ = some σ' ∧ m_send v1 f num v4 nn ρ = b_send_246 v1 f num nn ρ' ∧ EGx own' q e σ' ρ' τ st u nr n m g U rn tr ∧ EP K C own own' e σ σ' ρ ρ' ∧ SE q e σ σ' ρ ρ' := by
  obtain ⟨σ', ρ', own', h1, h2, ⟨h3, h4, h5, h6⟩, h7, h8⟩ := send_core hqe N E.1 E.2.1 E.2.2.1 E.2.2.2.2 hB hc0 hv hn hk ha hd hf
  refine ⟨σ', ρ', own', h1, h2, ⟨h3, h4, h5, E.2.2.2.1.cg (h8.1 (q + 5) (Or.inr (Or.inl rfl))).1 (h8.1 (q + 5) (Or.inr (Or.inl rfl))).2.1 (fun r h => by rw [h8.2.2.2.2.1 r (by omega) (by omega) (by omega)]) (fun r h => by rw [h8.2.2.2.2.2.1]), h6⟩, h7, h8⟩
