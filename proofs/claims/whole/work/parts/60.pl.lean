/-! placing a segment, both sides -/
theorem Ow.up {own : Nat → Nat} {σ σ' : CS} {t : Nat} (O : Ow own σ) (hX : cX σ' = cX σ + 1) : Ow (fun x => if x = cX σ then t else own x) σ' ∧ (∀ x, own x ≠ 99 → (if x = cX σ then t else own x) = own x) := by
  obtain ⟨O1, O2, O3⟩ := O
  have hn : ∀ x, own x ≠ 99 → ¬ x = cX σ := fun x hx e => hx (by rw [e]; exact O2 _ (Nat.le_refl _))
  refine ⟨⟨by omega, ?_, ?_⟩, fun x hx => if_neg (hn x hx)⟩
  · intro x hx
    show (if x = cX σ then t else own x) = 99
    rw [if_neg (by omega)]
    exact O2 x (by omega)
  · intro x hx
    show (if x = cX σ then t else own x) = fo x
    have h3 := O3 x hx
    rw [if_neg (hn x (by rw [h3]; exact hx))]
    exact h3
theorem g_begin {own : Nat → Nat} {σ : CS} {g len : Nat} (h : Sp own σ g) (O : Ow own σ) (t v : Int32) (hv : v.toInt = (len : Int)) (hlen : len ≤ 1484) (hX : cX σ + 1 ≤ 601024) (hU : cU σ + 1484 ≤ 7293034) :
    ∃ σ' own', m_G_begin g t v σ = some σ' ∧ Sp own' σ' g ∧ (∃ N, SG σ' g (ar σ' g) len N) ∧ cI σ' g 2 = t ∧ fr (fun x => x ≠ g ∧ own x ≠ 99) σ σ' ∧ Ow own' σ' ∧ (∀ x, own' x ≠ own x → own x = 99 ∧ own' x = 100 + g) ∧ cU σ' + gsz σ g ≤ cU σ + gsz σ' g ∧ 3 * cX σ' + cU σ ≤ 3 * cX σ + cU σ' := by
  obtain ⟨h1, h2, l0, N, ⟨s1, s2, s3, s4, s5, s6, s7⟩, h3⟩ := h
  obtain ⟨a, ha⟩ : ∃ a, a = ar σ g := ⟨_, rfl⟩
  rw [← ha] at h2 s2 s3 s5
  have hga : ¬ a = g := fun e => by rw [e] at s3; omega
  unfold m_G_begin
  rw [gd_t s1, s2, bc_e, gd_t (Or.inl s3), bd_e, s5]
  by_cases hle : len ≤ N
  · rw [if_pos (x32_le' hv (nI_t (by omega)) (by omega))]
    unfold b_G_begin_18
    rw [gd_t s1, bd_e, gd_t (show kd (wi σ g 2 t) g = 11 from s1), bd_e]
    have e : ar (wi (wi σ g 2 t) g 1 v) g = a := by rw [ha]; rfl
    have S' : SG (wi (wi σ g 2 t) g 1 v) g a len N := ⟨s1, s2, s3, by rw [wi_I, if_pos ⟨rfl, rfl⟩]; exact x32_of (by omega) hv, s5, hle, s7⟩
    refine ⟨_, own, rfl, ⟨h1, by rw [e]; exact h2, len, N, by rw [e]; exact S', h3⟩, ⟨N, by rw [e]; exact S'⟩, ?_, fr.tr ((fr_wi σ g 2 t).sub fun x hx => hx.1) (fr_wi _ g 1 v) (fun x hx => hx.1), O, fun x hx => absurd rfl hx, ?_, Nat.le_refl _⟩
    · rw [wi_I, if_neg (by omega), wi_I, if_pos ⟨rfl, rfl⟩]
    · unfold gsz; rw [e, ← ha]; exact Nat.le_refl _
  · have hN : N = 64 := by omega
    have c14 : (1484 : Int32).toNatClampNeg = 1484 := by decide
    rw [if_neg (x32_nle hv (nI_t (by omega)) (by omega)), c14, gd_t ⟨by decide, hX, hU⟩, bd2_e]
    have hO1 : 63 ≤ cX σ := O.1
    have hgX : ¬ g = cX σ := fun e => by have := O.2.1 (cX σ) (Nat.le_refl _); rw [← e] at this; omega
    have kg : kd (wa σ 21 1484 1484) g = 11 := by rw [wa_k _ _ _ _ _ hO1, if_neg hgX]; exact s1
    have kx : kd (wa σ 21 1484 1484) (cX σ) = 21 := by rw [wa_k _ _ _ _ _ hO1, if_pos rfl]
    rw [gd_t kg, bd_e]
    unfold b_G_begin_18
    rw [gd_t (show kd (wr (wa σ 21 1484 1484) g 0 (some (cX σ))) g = 11 from kg), bd_e, gd_t (show kd (wi (wr (wa σ 21 1484 1484) g 0 (some (cX σ))) g 2 t) g = 11 from kg), bd_e]
    have e : ar (wi (wi (wr (wa σ 21 1484 1484) g 0 (some (cX σ))) g 2 t) g 1 v) g = cX σ := by
      unfold ar; rw [wi_R, wi_R, wr_R, if_pos ⟨rfl, rfl⟩]; rfl
    obtain ⟨O', On⟩ := Ow.up (t := 100 + g) (σ' := wi (wi (wr (wa σ 21 1484 1484) g 0 (some (cX σ))) g 2 t) g 1 v) O rfl
    have nX : cN (wi (wi (wr (wa σ 21 1484 1484) g 0 (some (cX σ))) g 2 t) g 1 v) (cX σ) = 1484 := by
      show (if cX σ = cX σ then 1484 else _) = _
      rw [if_pos rfl]
    have S' : SG (wi (wi (wr (wa σ 21 1484 1484) g 0 (some (cX σ))) g 2 t) g 1 v) g (cX σ) len 1484 := ⟨kg, by rw [wi_R, wi_R, wr_R, if_pos ⟨rfl, rfl⟩], kx, by rw [wi_I, if_pos ⟨rfl, rfl⟩]; exact x32_of (by omega) hv, nX, hlen, Nat.le_refl _⟩
    refine ⟨_, _, rfl, ⟨by show (if g = cX σ then _ else own g) = _; rw [if_neg hgX]; exact h1, by rw [e]; exact if_pos rfl, len, 1484, by rw [e]; exact S', Or.inr rfl⟩, ⟨1484, by rw [e]; exact S'⟩, ?_, ?_, O', ?_, ?_, ?_⟩
    · rw [wi_I, if_neg (by omega), wi_I, if_pos ⟨rfl, rfl⟩]
    · refine fr.tr (fr.tr (fr.tr ((fr_wa σ 21 1484 1484 hO1).sub (fun x (hx : x ≠ g ∧ own x ≠ 99) e => hx.2 (by rw [e]; exact O.2.1 _ (Nat.le_refl _)))) (fr_wr _ g 0 _) (fun x hx => hx.1)) (fr_wi _ g 2 t) (fun x hx => hx.1)) (fr_wi _ g 1 v) (fun x hx => hx.1)
    · intro x hx
      by_cases ex : x = cX σ
      · rw [ex]; exact ⟨O.2.1 _ (Nat.le_refl _), if_pos rfl⟩
      · exact absurd (if_neg ex) hx
    · unfold gsz; rw [e, nX, ← ha, s5]
      show cU σ + 1484 + _ ≤ _
      omega
    · show 3 * (cX σ + 1) + cU σ ≤ 3 * cX σ + (cU σ + 1484)
      omega
theorem ag_perm (P C : List (Nat × Nat)) (S : List Nat) (g s : Nat) : (ag (P ++ [(g, s)]) C S).Perm (g :: ag P C S) := by
  unfold ag
  rw [List.map_append]
  simp only [List.map_cons, List.map_nil, List.append_assoc, List.singleton_append]
  exact List.perm_middle
theorem place_get {own : Nat → Nat} {P C : List (Nat × Nat)} {S : List Nat} {c1 c2 K : Nat} {σ : CS} {ρ : RS} (h : NR own P C S c1 c2 σ ρ) (O : Ow own σ) (B : BU K (nb σ (ag P C S) + 4 * (c1 + c2)) σ) (hP : P.length < 512) (t v : Int32) :
    ∃ σ' own' g S', m_N_place t v σ = b_N_place_64 t v g σ' ∧ AL own' σ' 5 (P.map Prod.fst) c1 ∧ AL own' σ' 6 S' c2 ∧ Sp own' σ' g ∧ (g :: ag P C S').Nodup ∧ (∀ x ∈ ag P C S', x ∈ ag P C S) ∧ P.length + C.length + S'.length + 1 ≤ 513 ∧
      fr (fun x => own x ≠ 51 ∧ own x ≠ 99) σ σ' ∧ Ow own' σ' ∧ (∀ x, own' x ≠ own x → own x = 99 ∧ 60 ≤ own' x ∧ (own' x = 60 ∧ x = g ∨ own' x = 100 + g)) ∧ cU σ' + nb σ (ag P C S) ≤ cU σ + gsz σ' g + nb σ (ag P C S') ∧ 3 * cX σ' + cU σ ≤ 3 * cX σ + cU σ' := by
  obtain ⟨bX, bU⟩ := h.bud B
  obtain ⟨h1, h2, h3, h4, h5, h6, h7, h8, h9, h10, h11, h12, h13⟩ := h
  have hw5 : own 5 = 50 := O.2.2 5 (by decide)
  have hw6 : own 6 = 51 := O.2.2 6 (by decide)
  unfold m_N_place
  rw [al_size h1 (Or.inl rfl), bc2_e, List.length_map, if_pos (x32_lt' (nI_t (by omega)) (show (512 : Int32).toInt = 512 by decide) (by omega))]
  unfold m_A_isEmpty
  rw [gd_t (Or.inr rfl), bd_e, h2.1]
  by_cases hS : S.length = 0
  · have hS0 : S = [] := List.length_eq_zero_iff.mp hS
    subst hS0
    unfold b_A_isEmpty_12
    rw [if_pos (by decide), gd_t z01_1, bc2_e, if_neg (by decide), gd_t ⟨by omega, by omega⟩, bd2_e]
    unfold m_G_init
    have c64 : (64 : Int32).toNatClampNeg = 64 := by decide
    have x1 : cX (wa σ 11 0 3) = cX σ + 1 := rfl
    have u1 : cU (wa σ 11 0 3) = cU σ + 3 := rfl
    rw [c64, gd_t ⟨by decide, by omega, by omega⟩, bd2_e]
    have kg : kd (wa (wa σ 11 0 3) 21 64 64) (cX σ) = 11 := by rw [wa_k _ _ _ _ _ (by have := O.1; omega), if_neg (by omega), wa_k _ _ _ _ _ O.1, if_pos rfl]
    have ka : kd (wa (wa σ 11 0 3) 21 64 64) (cX σ + 1) = 21 := by rw [wa_k _ _ _ _ _ (by have := O.1; omega), if_pos x1.symm]
    rw [gd_t kg, bd_e, bc_e, x1]
    obtain ⟨O1, On1⟩ := Ow.up (t := 60) (σ' := wa σ 11 0 3) O rfl
    obtain ⟨O2, On2⟩ := Ow.up (t := 100 + cX σ) (σ' := wr (wa (wa σ 11 0 3) 21 64 64) (cX σ) 0 (some (cX σ + 1))) O1 rfl
    rw [x1] at O2 On2
    have e : ar (wr (wa (wa σ 11 0 3) 21 64 64) (cX σ) 0 (some (cX σ + 1))) (cX σ) = cX σ + 1 := by unfold ar; rw [wr_R, if_pos ⟨rfl, rfl⟩]; rfl
    have hn : ∀ x, own x ≠ 99 → x ≠ cX σ ∧ x ≠ cX σ + 1 := fun x hx => ⟨fun e => hx (by rw [e]; exact O.2.1 _ (Nat.le_refl _)), fun e => hx (by rw [e]; exact O.2.1 _ (by omega))⟩
    have hoo : ∀ x, own x ≠ 99 → (if x = cX σ + 1 then 100 + cX σ else if x = cX σ then 60 else own x) = own x := fun x hx => by rw [if_neg (hn x hx).2, if_neg (hn x hx).1]
    have nX : cN (wr (wa (wa σ 11 0 3) 21 64 64) (cX σ) 0 (some (cX σ + 1))) (cX σ + 1) = 64 := by
      show (if cX σ + 1 = cX (wa σ 11 0 3) then 64 else _) = _
      rw [x1, if_pos rfl]
    have F : fr (fun x => own x ≠ 51 ∧ own x ≠ 99) σ (wr (wa (wa σ 11 0 3) 21 64 64) (cX σ) 0 (some (cX σ + 1))) := by
      refine fr.tr (fr.tr ((fr_wa σ 11 0 3 O.1).sub (fun x hx => (hn x hx.2).1)) (fr_wa _ 21 64 64 (by have := O.1; omega)) (fun x hx => (hn x hx.2).2)) (fr_wr _ _ 0 _) (fun x hx => (hn x hx.2).1)
    have F6 : fr (fun x => own x ≠ 99) σ (wr (wa (wa σ 11 0 3) 21 64 64) (cX σ) 0 (some (cX σ + 1))) := by
      refine fr.tr (fr.tr ((fr_wa σ 11 0 3 O.1).sub (fun x hx => (hn x hx).1)) (fr_wa _ 21 64 64 (by have := O.1; omega)) (fun x hx => (hn x hx).2)) (fr_wr _ _ 0 _) (fun x hx => (hn x hx).1)
    refine ⟨_, _, cX σ, [], rfl, ?_, ?_, ?_, ?_, fun x hx => hx, ?_, F, O2, ?_, ?_, ?_⟩
    · exact h1.fr hw5 (F.sub fun x (hx : own x = 45 + 5) => ⟨by omega, by omega⟩) (fun x hx => by rw [hoo x (by omega)]; exact hx)
    · exact h2.fr hw6 (F6.sub fun x (hx : own x = 45 + 6) => by omega) (fun x hx => by rw [hoo x (by omega)]; exact hx)
    · refine ⟨by show (if cX σ = cX σ + 1 then _ else if cX σ = cX σ then 60 else _) = 60; rw [if_neg (by omega), if_pos rfl], by rw [e]; exact if_pos rfl, 0, 64, ?_, Or.inl rfl⟩
      rw [e]
      refine ⟨kg, by rw [wr_R, if_pos ⟨rfl, rfl⟩], ka, ?_, nX, by omega, by omega⟩
      show (if cX σ = cX (wa σ 11 0 3) then (0 : Int32) else (if cX σ = cX σ then 0 else _)) = _
      rw [x1, if_neg (by omega), if_pos rfl]; rfl
    · rw [List.nodup_cons]
      refine ⟨fun hm => ?_, h5⟩
      have := (h4 _ hm).1
      have := O.2.1 (cX σ) (Nat.le_refl _)
      omega
    · simp at h13 ⊢; omega
    · intro x hx
      by_cases e1 : x = cX σ + 1
      · rw [e1]
        refine ⟨O.2.1 _ (by omega), ?_, Or.inr (if_pos rfl)⟩
        rw [if_pos rfl]; omega
      · by_cases e2 : x = cX σ
        · rw [e2]
          refine ⟨O.2.1 _ (by omega), ?_, Or.inl ⟨?_, rfl⟩⟩
          · rw [if_neg (by omega), if_pos rfl]; omega
          · rw [if_neg (by omega), if_pos rfl]
        · exact absurd (by rw [if_neg e1, if_neg e2]) hx
    · unfold gsz; rw [e, nX]
      show cU σ + 3 + 64 + _ ≤ _
      omega
    · show 3 * (cX σ + 1 + 1) + cU σ ≤ 3 * cX σ + (cU σ + 3 + 64)
      omega
  · have hpos : 0 < S.length := by omega
    have hm1 : (nI S.length - 1).toInt = ((S.length - 1 : Nat) : Int) := by rw [x32_sub (nI_t (by omega)) z32_1 (by omega) (by omega)]; omega
    unfold b_A_isEmpty_12
    rw [if_neg (x32_ne (nI_t (by omega)) z32_0 (by omega)), gd_t z01_0, bc2_e, if_pos rfl, al_size h2 (Or.inr rfl), bc2_e]
    obtain ⟨σ', w1, w2, w3, w4, w5⟩ := al_remove h2 (Or.inr rfl) hw6 hm1 (show S.length - 1 < S.length by omega)
    have hSd : S = S.eraseIdx (S.length - 1) ++ [S[S.length - 1]] := by
      conv => lhs; rw [← List.take_append_drop (S.length - 1) S]
      rw [List.drop_eq_getElem_cons (by omega), show S.length - 1 + 1 = S.length by omega, List.drop_length, List.eraseIdx_eq_take_drop_succ, show S.length - 1 + 1 = S.length by omega, List.drop_length, List.append_nil]
    generalize hg : S[S.length - 1] = g at w1 hSd
    generalize S.eraseIdx (S.length - 1) = S' at w2 hSd
    have hpm : (ag P C S).Perm (g :: ag P C S') := by
      unfold ag
      rw [hSd, ← List.append_assoc, ← List.append_assoc, ← List.append_assoc]
      refine List.perm_append_comm.trans ?_
      exact List.Perm.refl _
    have hgm : g ∈ ag P C S := hpm.symm.subset List.mem_cons_self
    have hSg := h4 g hgm
    have hF : ∀ x, x ∈ ag P C S → fr (fun y => y = x ∨ y = ar σ x) σ σ' := fun x hx => w3.sub fun y hy => by
      obtain ⟨q1, q2, _⟩ := h4 x hx
      rcases hy with rfl | rfl
      · omega
      · omega
    obtain ⟨hSg', eg, egs, _, _⟩ := hSg.fr (hF g hgm) (own' := own) (fun _ _ => rfl)
    have kg : kd σ' g = 11 := by obtain ⟨_, _, _, _, S0, _⟩ := hSg'; exact S0.1
    rw [w1, bc2_e, gd_t kg]
    refine ⟨σ', own, g, S', rfl, h1.fr hw5 (w3.sub fun x (hx : own x = 45 + 5) => by omega) (fun x hx => hx), w2, hSg', hpm.nodup_iff.mp h5, fun x hx => hpm.symm.subset (List.mem_cons_of_mem _ hx), ?_, w3.sub fun x hx => by have := hx.1; omega, ?_, fun x hx => absurd rfl hx, ?_, ?_⟩
    · have := congrArg List.length hSd
      rw [List.length_append, List.length_singleton] at this
      omega
    · exact ⟨by rw [w4]; exact O.1, fun x hx => O.2.1 x (by omega), O.2.2⟩
    · have : nb σ (ag P C S) = gsz σ g + nb σ (ag P C S') := by
        unfold ag
        rw [hSd]
        simp only [nb_app, nb_cons]
        simp only [nb, List.map_nil, List.sum_nil]
        omega
      omega
    · omega
