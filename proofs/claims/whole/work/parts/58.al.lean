/-! owners, frames; the lists of the network -/
def fo : Nat → Nat := fun x => match x with
  | 0 => 12 | 1 => 13 | 3 => 14 | 4 => 52 | 5 => 50 | 6 => 51 | 7 => 10 | 8 => 10 | 10 => 10 | 12 => 10 | 13 => 10 | 14 => 11 | 15 => 11 | 17 => 11 | 19 => 11 | 20 => 11 | _ => 99
def Ow (own : Nat → Nat) (σ : CS) : Prop := 63 ≤ cX σ ∧ (∀ x, cX σ ≤ x → own x = 99) ∧ ∀ x, fo x ≠ 99 → own x = fo x
def fr (P : Nat → Prop) (σ σ' : CS) : Prop := ∀ a, P a → cI σ' a = cI σ a ∧ cJ σ' a = cJ σ a ∧ cR σ' a = cR σ a ∧ cN σ' a = cN σ a ∧ kd σ' a = kd σ a
theorem fr.tr {P Q : Nat → Prop} {a b c : CS} (h1 : fr P a b) (h2 : fr Q b c) (h : ∀ x, P x → Q x) : fr P a c := fun x hx => by
  obtain ⟨a1, a2, a3, a4, a5⟩ := h1 x hx
  obtain ⟨b1, b2, b3, b4, b5⟩ := h2 x (h x hx)
  exact ⟨by rw [b1, a1], by rw [b2, a2], by rw [b3, a3], by rw [b4, a4], by rw [b5, a5]⟩
theorem fr.sub {P Q : Nat → Prop} {a b : CS} (h1 : fr P a b) (h : ∀ x, Q x → P x) : fr Q a b := fun x hx => h1 x (h x hx)
theorem fr.rf {P : Nat → Prop} {a : CS} : fr P a a := fun _ _ => ⟨rfl, rfl, rfl, rfl, rfl⟩
theorem fr_wi (σ : CS) (q j : Nat) (x : Int32) : fr (fun a => a ≠ q) σ (wi σ q j x) := fun a ha => by
  refine ⟨funext fun i => ?_, rfl, rfl, rfl, rfl⟩
  rw [wi_I, if_neg (fun h => ha h.1)]
theorem fr_wl (σ : CS) (q j : Nat) (x : Int64) : fr (fun a => a ≠ q) σ (wl σ q j x) := fun a ha => by
  refine ⟨rfl, funext fun i => ?_, rfl, rfl, rfl⟩
  rw [wl_J, if_neg (fun h => ha h.1)]
theorem fr_wr (σ : CS) (q j : Nat) (x : Option Nat) : fr (fun a => a ≠ q) σ (wr σ q j x) := fun a ha => by
  refine ⟨rfl, rfl, funext fun i => ?_, rfl, rfl⟩
  rw [wr_R, if_neg (fun h => ha h.1)]
theorem fr_wA (σ : CS) (q : Nat) (C : Nat → Int32) : fr (fun a => a ≠ q) σ (wA σ q C) := fun a ha =>
  ⟨wA_ne σ q C ha, rfl, rfl, rfl, rfl⟩
theorem fr_wcp (σ : CS) (s q sp dp n : Nat) : fr (fun a => a ≠ q) σ (wcp σ s q sp dp n) := fun a ha => by
  refine ⟨funext fun i => ?_, rfl, rfl, rfl, rfl⟩
  rw [wcp_I, if_neg ha]
theorem fr_wcq (σ : CS) (s q sp dp n : Nat) : fr (fun a => a ≠ q) σ (wcq σ s q sp dp n) := fun a ha => by
  refine ⟨rfl, rfl, funext fun i => ?_, rfl, rfl⟩
  rw [wcq_R, if_neg ha]
theorem fr_wa (σ : CS) (k n z : Nat) (h : 63 ≤ cX σ) : fr (fun a => a ≠ cX σ) σ (wa σ k n z) := fun a ha => by
  refine ⟨funext fun i => ?_, funext fun i => ?_, funext fun i => ?_, ?_, ?_⟩
  · rw [wa_I, if_neg ha]
  · rw [wa_J, if_neg ha]
  · rw [wa_R, if_neg ha]
  · rw [wa_N, if_neg ha]
  · rw [wa_k σ k n z a h, if_neg ha]
theorem kd_wcq (σ : CS) (s d sp dp n : Nat) : kd (wcq σ s d sp dp n) = kd σ := rfl
theorem kd_wcp (σ : CS) (s d sp dp n : Nat) : kd (wcp σ s d sp dp n) = kd σ := rfl
theorem kd5 (σ : CS) : kd σ 5 = 5 := rfl
theorem kd6 (σ : CS) : kd σ 6 = 5 := rfl
def AL (own : Nat → Nat) (σ : CS) (q : Nat) (L : List Nat) (cap : Nat) : Prop := cI σ q 1 = nI L.length ∧ L.length ≤ cap ∧ ((cR σ q 0 = none ∧ cap = 0) ∨ ∃ a, cR σ q 0 = some a ∧ kd σ a = 25 ∧ own a = 45 + q ∧ cN σ a = cap ∧ 10 ≤ cap ∧ cap ≤ 769 ∧ ∀ i (h : i < L.length), cR σ a i = some L[i])
theorem AL.cap {own : Nat → Nat} {σ : CS} {q : Nat} {L : List Nat} {cap : Nat} (h : AL own σ q L cap) : cap ≤ 769 := by
  obtain ⟨_, _, h | ⟨a, _, _, _, _, _, h, _⟩⟩ := h
  · omega
  · exact h
theorem AL.fr {own own' : Nat → Nat} {σ σ' : CS} {q : Nat} {L : List Nat} {cap : Nat} (h : AL own σ q L cap) (hq : own q = 45 + q) (hf : fr (fun x => own x = 45 + q) σ σ') (ho : ∀ x, own x = 45 + q → own' x = 45 + q) : AL own' σ' q L cap := by
  obtain ⟨h1, h2, h3⟩ := h
  obtain ⟨f1, f2, f3, f4, f5⟩ := hf q hq
  refine ⟨by rw [f1]; exact h1, h2, ?_⟩
  rcases h3 with ⟨h3, h4⟩ | ⟨a, a1, a2, a3, a4, a5, a6, a7⟩
  · exact Or.inl ⟨by rw [f3]; exact h3, h4⟩
  · obtain ⟨g1, g2, g3, g4, g5⟩ := hf a a3
    exact Or.inr ⟨a, by rw [f3]; exact a1, by rw [g5]; exact a2, ho a a3, by rw [g4]; exact a4, a5, a6, fun i hi => by rw [g3]; exact a7 i hi⟩
theorem al_size {own : Nat → Nat} {σ : CS} {q : Nat} {L : List Nat} {cap : Nat} (h : AL own σ q L cap) (hq : q = 5 ∨ q = 6) : m_A_size q σ = some (nI L.length, σ) := by
  unfold m_A_size
  rw [gd_t hq, bd_e, h.1]
theorem nI_t {n : Nat} (h : n < 2147483648) : (nI n).toInt = (n : Int) := x32_nat h
theorem chk {v x : Int32} {k n : Nat} (hv : v.toInt = (k : Int)) (hx : x.toInt = (n : Int)) (h : k < n) (σ : CS) : m_H_checkIndex v x σ = some (v, σ) := by
  unfold m_H_checkIndex m_X_checkIndex
  rw [if_neg (x32_nlt hv z32_0 (by omega)), if_pos (x32_lt' hv hx (by omega)), bc2_e]
theorem al_get {own : Nat → Nat} {σ : CS} {q : Nat} {L : List Nat} {cap : Nat} (h : AL own σ q L cap) (hq : q = 5 ∨ q = 6) {v : Int32} {k : Nat} (hv : v.toInt = (k : Int)) (hk : k < L.length) : m_A_get q v σ = some (L[k], σ) := by
  obtain ⟨h1, h2, ⟨h3, h4⟩ | ⟨a, a1, a2, a3, a4, a5, a6, a7⟩⟩ := h
  · omega
  unfold m_A_get m_A_elementData
  rw [gd_t hq, bd_e, h1, chk hv (nI_t (by omega)) hk, bc2_e, gd_t hq, bd_e, a1, bc_e, gd_t ⟨a2, by rw [a4]; exact x32_in hv (by omega)⟩, x32_n hv, a7 k hk, bc_e, bc2_e]
theorem al_remove {own : Nat → Nat} {σ : CS} {q : Nat} {L : List Nat} {cap : Nat} (h : AL own σ q L cap) (hq : q = 5 ∨ q = 6) (hw : own q = 45 + q) {v : Int32} {k : Nat} (hv : v.toInt = (k : Int)) (hk : k < L.length) :
    ∃ σ', m_A_remove q v σ = some (L[k], σ') ∧ AL own σ' q (L.eraseIdx k) cap ∧ fr (fun x => own x ≠ 45 + q) σ σ' ∧ cX σ' = cX σ ∧ cU σ' = cU σ := by
  obtain ⟨h1, h2, ⟨h3, h4⟩ | ⟨a, a1, a2, a3, a4, a5, a6, a7⟩⟩ := h
  · omega
  have hqa : ¬ q = a := fun e => by
    rw [← e] at a2
    rcases hq with rfl | rfl
    · rw [kd5] at a2; omega
    · rw [kd6] at a2; omega
  have hlen : (L.eraseIdx k).length = L.length - 1 := List.length_eraseIdx_of_lt hk
  have hn1 : (nI L.length - 1).toInt = ((L.length - 1 : Nat) : Int) := by rw [x32_sub (nI_t (by omega)) z32_1 (by omega) (by omega)]; omega
  have hv1 : (v + 1).toInt = ((k + 1 : Nat) : Int) := by rw [x32_add hv z32_1 (by omega) (by omega)]; omega
  have hf0 : ∀ j x, fr (fun x => own x ≠ 45 + q) σ (wi σ q j x) := fun j x => (fr_wi σ q j x).sub (fun y hy e => hy (by rw [e]; exact hw))
  have eL : nI L.length - 1 = nI (L.length - 1) := Int32.toInt_inj.mp (by rw [hn1, nI_t (by omega)])
  unfold m_A_remove m_A_fastRemove
  rw [gd_t hq, bd_e, h1, chk hv (nI_t (by omega)) hk, bc2_e, bd_e, a1, bc_e, gd_t ⟨a2, by rw [a4]; exact x32_in hv (by omega)⟩, x32_n hv, a7 k hk, bc_e, bc_e, gd_t hq, bd_e, bd_e, bd_e, bd_e]
  have e1 : cI (wi σ q 2 (cI σ q 2 + 1)) q 1 = nI L.length := by rw [wi_I, if_neg (by omega)]; exact h1
  rw [e1]
  by_cases hl : k = L.length - 1
  · rw [if_pos (x32_le' hn1 hv (by omega))]
    unfold b_A_fastRemove_34
    rw [bc_e, bd_e, gd_t ⟨a2, by rw [show cN (wi (wi σ q 2 (cI σ q 2 + 1)) q 1 (nI L.length - 1)) a = cap from a4]; exact x32_in hn1 (by omega)⟩, bd_e, bc_e]
    refine ⟨_, rfl, ⟨?_, by omega, Or.inr ⟨a, ?_, a2, a3, a4, a5, a6, ?_⟩⟩, ?_, rfl, rfl⟩
    · rw [hlen]
      show (if q = q ∧ (1 : Nat) = 1 then nI L.length - 1 else _) = _
      rw [if_pos ⟨rfl, rfl⟩]; exact eL
    · rw [wr_R, if_neg (fun e => hqa e.1)]; exact a1
    · intro i hi
      rw [hlen] at hi
      rw [wr_R, x32_n hn1, if_neg (by omega), wi_R, wi_R, a7 i (by omega), List.getElem_eraseIdx, dif_pos (by omega)]
    · refine fr.tr (fr.tr (hf0 2 (cI σ q 2 + 1)) (fr_wi _ q 1 (nI L.length - 1)) (fun y hy e => hy (by rw [e]; exact hw))) (fr_wr _ a _ none) (fun y hy e => hy (by rw [e]; exact a3))
  · have hd : ((nI L.length - 1) - v).toInt = ((L.length - 1 - k : Nat) : Int) := by rw [x32_sub hn1 hv (by omega) (by omega)]; omega
    rw [if_neg (x32_nle hn1 hv (by omega)), bc_e, bc_e, gd_t ⟨a2, a2, x32_nlt hv1 z32_0 (by omega), x32_nlt hv z32_0 (by omega), x32_nlt hd z32_0 (by omega), by rw [x32_n hv1, x32_n hd, show cN (wi σ q 2 (cI σ q 2 + 1)) a = cap from a4]; omega, by rw [x32_n hd, show cN (wi σ q 2 (cI σ q 2 + 1)) a = cap from a4]; omega⟩, bd_e]
    unfold b_A_fastRemove_34
    rw [bc_e, bd_e, gd_t ⟨a2, by show inb (nI L.length - 1) (cN σ a); rw [a4]; exact x32_in hn1 (by omega)⟩, bd_e, bc_e]
    refine ⟨_, rfl, ⟨?_, by omega, Or.inr ⟨a, ?_, a2, a3, a4, a5, a6, ?_⟩⟩, ?_, rfl, rfl⟩
    · rw [hlen]
      show (if q = q ∧ (1 : Nat) = 1 then nI L.length - 1 else _) = _
      rw [if_pos ⟨rfl, rfl⟩]; exact eL
    · rw [wr_R, if_neg (fun e => hqa e.1), wi_R, wcq_R, if_neg hqa]; exact a1
    · intro i hi
      rw [hlen] at hi
      rw [wr_R, x32_n hn1, if_neg (by omega), wi_R, wcq_R, if_pos rfl, x32_n hv1, x32_n hd]
      unfold va_cpy
      rw [List.getElem_eraseIdx]
      by_cases hik : i < k
      · rw [if_neg (by omega), dif_pos hik, wi_R]
        exact a7 i (by omega)
      · rw [if_pos (by omega), dif_neg hik, wi_R, show k + 1 + (i - k) = i + 1 by omega]
        exact a7 (i + 1) (by omega)
    · refine fr.tr (fr.tr (fr.tr (hf0 2 (cI σ q 2 + 1)) (fr_wcq _ a a _ _ _) (fun y hy e => hy (by rw [e]; exact a3))) (fr_wi _ q 1 (nI L.length - 1)) (fun y hy e => hy (by rw [e]; exact hw))) (fr_wr _ a _ none) (fun y hy e => hy (by rw [e]; exact a3))
theorem al_put {own : Nat → Nat} {σ : CS} {q : Nat} {L : List Nat} {cap g a : Nat} (hq : q = 5 ∨ q = 6) (hw : own q = 45 + q) (a1 : cR σ q 0 = some a) (a2 : kd σ a = 25) (a3 : own a = 45 + q) (a4 : cN σ a = cap) (a5 : 10 ≤ cap) (a6 : cap ≤ 769) (a7 : ∀ i (h : i < L.length), cR σ a i = some L[i]) (hl : L.length < cap) (hg : kd σ g = 11) :
    ∃ σ', b_A_add_LoLoI_11 q g (some a) (nI L.length) σ = some σ' ∧ AL own σ' q (L ++ [g]) cap ∧ fr (fun x => own x ≠ 45 + q) σ σ' ∧ cX σ' = cX σ ∧ cU σ' = cU σ := by
  have hqa : ¬ q = a := fun e => by
    rw [← e] at a2
    rcases hq with rfl | rfl
    · rw [kd5] at a2; omega
    · rw [kd6] at a2; omega
  unfold b_A_add_LoLoI_11
  rw [bc_e, gd_t ⟨a2, by rw [a4]; exact x32_in (nI_t (by omega)) hl, hg⟩, bd_e, bd_e, x32_n (nI_t (by omega))]
  refine ⟨_, rfl, ⟨?_, ?_, Or.inr ⟨a, ?_, a2, a3, a4, a5, a6, ?_⟩⟩, ?_, rfl, rfl⟩
  · rw [wi_I, if_pos ⟨rfl, rfl⟩, List.length_append, List.length_singleton, nI_succ]
  · rw [List.length_append, List.length_singleton]; omega
  · rw [wi_R, wr_R, if_neg (fun e => hqa e.1)]; exact a1
  · intro i hi
    rw [List.length_append, List.length_singleton] at hi
    rw [wi_R, wr_R]
    by_cases e : i = L.length
    · subst e
      rw [if_pos ⟨rfl, rfl⟩, List.getElem_append_right (Nat.le_refl _)]
      simp
    · rw [if_neg (fun h => e h.2), a7 i (by omega), List.getElem_append_left (by omega)]
  · exact fr.tr ((fr_wr σ a _ (some g)).sub (fun y (hy : own y ≠ 45 + q) e => hy (by rw [e]; exact a3))) (fr_wi _ q 1 _) (fun y hy e => hy (by rw [e]; exact hw))
theorem al_fit {own : Nat → Nat} {σ σ1 : CS} {q cap' : Nat} {L : List Nat} {g : Nat} (hq : q = 5 ∨ q = 6) (O : Ow own σ) (hw : own q = 45 + q) (F0 : fr (fun x => own x ≠ 45 + q) σ σ1) (hX1 : cX σ1 = cX σ) (hU1 : cU σ1 = cU σ) (hg : kd σ g = 11) (hgo : own g ≠ 99) (hgq : own g ≠ 45 + q) (σ2 : CS) (F1 : fr (fun x => x ≠ cX σ) (wr (wa σ1 25 cap' cap') q 0 (some (cX σ1))) σ2) (hs : σ2.2.2.2 = (wr (wa σ1 25 cap' cap') q 0 (some (cX σ1))).2.2.2) (hc : ∀ i (h : i < L.length), cR σ2 (cX σ) i = some L[i]) (hl : L.length < cap') (h10 : 10 ≤ cap') (h769 : cap' ≤ 769) :
    ∃ σ' own', b_A_add_LoLoI_11 q g (some (cX σ1)) (nI L.length) σ2 = some σ' ∧ AL own' σ' q (L ++ [g]) cap' ∧ fr (fun x => own x ≠ 45 + q ∧ own x ≠ 99) σ σ' ∧ Ow own' σ' ∧ (∀ x, own' x ≠ own x → own x = 99 ∧ own' x = 45 + q) ∧ cU σ' = cU σ + cap' ∧ cX σ' = cX σ + 1 := by
  obtain ⟨O1, O2, O3⟩ := O
  have hn : ∀ x, own x ≠ 99 → ¬ x = cX σ := fun x hx e => hx (by rw [e]; exact O2 _ (Nat.le_refl _))
  have hq63 : ¬ q = cX σ := by omega
  have hk : kd σ2 = kd (wr (wa σ1 25 cap' cap') q 0 (some (cX σ1))) := by unfold kd cT; rw [hs]
  have kk : ∀ x, kd σ2 x = if x = cX σ1 then 25 else kd σ1 x := fun x => by rw [hk, wr_k, wa_k _ _ _ _ _ (by rw [hX1]; exact O1)]
  have F2 : fr (fun x => own x ≠ 45 + q ∧ own x ≠ 99) σ σ2 := by
    refine fr.tr (fr.tr (fr.tr (F0.sub fun x (hx : own x ≠ 45 + q ∧ own x ≠ 99) => hx.1) (fr_wa σ1 25 cap' cap' (by rw [hX1]; exact O1)) (fun x hx => by rw [hX1]; exact hn x hx.2)) (fr_wr _ q 0 _) (fun x hx e => hx.1 (by rw [e]; exact hw))) F1 (fun x hx => hn x hx.2)
  have hRq : cR σ2 q 0 = some (cX σ1) := by
    obtain ⟨_, _, f, _, _⟩ := F1 q hq63
    rw [f, wr_R, if_pos ⟨rfl, rfl⟩]
  obtain ⟨own', ho⟩ : ∃ own' : Nat → Nat, own' = fun x => if x = cX σ then 45 + q else own x := ⟨_, rfl⟩
  have hoX : own' (cX σ) = 45 + q := by rw [ho]; exact if_pos rfl
  have hon : ∀ x, ¬ x = cX σ → own' x = own x := fun x hx => by rw [ho]; exact if_neg hx
  have hX2 : cX σ2 = cX σ + 1 := by
    have : cX σ2 = cX (wr (wa σ1 25 cap' cap') q 0 (some (cX σ1))) := by unfold cX; rw [hs]
    rw [this]; show cX σ1 + 1 = _; rw [hX1]
  have hU2 : cU σ2 = cU σ + cap' := by
    have : cU σ2 = cU (wr (wa σ1 25 cap' cap') q 0 (some (cX σ1))) := by unfold cU; rw [hs]
    rw [this]; show cU σ1 + cap' = _; rw [hU1]
  have hN2 : cN σ2 (cX σ1) = cap' := by
    have : cN σ2 = cN (wr (wa σ1 25 cap' cap') q 0 (some (cX σ1))) := by unfold cN; rw [hs]
    rw [this]; show (if cX σ1 = cX σ1 then cap' else _) = _; rw [if_pos rfl]
  have hgk : kd σ2 g = 11 := by
    rw [(F2 g ⟨hgq, hgo⟩).2.2.2.2]; exact hg
  obtain ⟨σ', e1, e2, e3, e4, e5⟩ := al_put (own := own') (L := L) hq (by rw [hon q hq63]; exact hw) hRq (by rw [kk, if_pos rfl]) (by rw [hX1]; exact hoX) hN2 h10 h769 (by rw [hX1]; exact hc) hl hgk
  refine ⟨σ', own', e1, e2, fr.tr F2 e3 (fun x hx => by rw [hon x (hn x hx.2)]; exact hx.1), ⟨by omega, ?_, ?_⟩, ?_, by omega, by omega⟩
  · intro x hx
    rw [hon x (by omega)]
    exact O2 x (by omega)
  · intro x hx
    have : x < 63 := by
      rcases Nat.lt_or_ge x 63 with h | h
      · exact h
      · exact absurd (show fo x = 99 by unfold fo; split <;> first | omega | rfl) hx
    rw [hon x (by omega)]
    exact O3 x hx
  · intro x hx
    by_cases e : x = cX σ
    · rw [e]; exact ⟨O2 _ (Nat.le_refl _), hoX⟩
    · exact absurd (hon x e) hx
theorem al_add {own : Nat → Nat} {σ : CS} {q : Nat} {L : List Nat} {cap g : Nat} (h : AL own σ q L cap) (hq : q = 5 ∨ q = 6) (O : Ow own σ) (hg : kd σ g = 11) (hgo : own g ≠ 99) (hgq : own g ≠ 45 + q) (hL : L.length ≤ 512) (hX : cX σ + 1 ≤ 601024) (hU : cU σ + 769 ≤ 7293034) :
    ∃ σ' own' cap', m_A_add_Lo q g σ = some (1, σ') ∧ AL own' σ' q (L ++ [g]) cap' ∧ fr (fun x => own x ≠ 45 + q ∧ own x ≠ 99) σ σ' ∧ Ow own' σ' ∧ (∀ x, own' x ≠ own x → own x = 99 ∧ own' x = 45 + q) ∧ cU σ' + 4 * cap ≤ cU σ + 4 * cap' ∧ 3 * cX σ' + cU σ ≤ 3 * cX σ + cU σ' ∧ cap ≤ cap' := by
  have O' := O
  obtain ⟨O1, O2, O3⟩ := O
  have hw : own q = 45 + q := by
    rcases hq with rfl | rfl
    · exact O3 5 (by decide)
    · exact O3 6 (by decide)
  obtain ⟨h1, h2, h3⟩ := h
  have hq63 : ¬ q = cX σ := by omega
  unfold m_A_add_Lo
  rw [gd_t hq, bd_e, bd_e, bd_e, bd_e]
  have e1 : cI (wi σ q 2 (cI σ q 2 + 1)) q 1 = nI L.length := by rw [wi_I, if_neg (by omega)]; exact h1
  rw [e1]
  have F0 : fr (fun x => own x ≠ 45 + q) σ (wi σ q 2 (cI σ q 2 + 1)) := (fr_wi σ q 2 _).sub (fun y hy e => hy (by rw [e]; exact hw))
  generalize hσ1 : wi σ q 2 (cI σ q 2 + 1) = σ1 at F0 e1
  have hX1 : cX σ1 = cX σ := by rw [← hσ1]; rfl
  have hU1 : cU σ1 = cU σ := by rw [← hσ1]; rfl
  have hk1 : kd σ1 = kd σ := by rw [← hσ1]; rfl
  have hR1 : cR σ1 = cR σ := by rw [← hσ1]; rfl
  have hN1 : cN σ1 = cN σ := by rw [← hσ1]; rfl
  unfold m_A_add_LoLoI
  rw [gd_t hq, hR1]
  have hF : ∀ x, own x ≠ 99 → ¬ x = cX σ := fun x hx e => hx (by rw [e]; exact O2 _ (Nat.le_refl _))
  rcases h3 with ⟨h3, h4⟩ | ⟨a, a1, a2, a3, a4, a5, a6, a7⟩
  · have hL0 : L = [] := List.length_eq_zero_iff.mp (by omega)
    subst hL0
    have t10 : (if (10 : Int32) < nI ([] : List Nat).length + 1 then nI ([] : List Nat).length + 1 else 10) = 10 := by decide
    have c10 : (10 : Int32).toNatClampNeg = 10 := by decide
    rw [h3, gd_t (show Option.elim none 25 (kd σ1) = 25 from rfl), bd_e, if_pos (show nI ([] : List Nat).length = nI (Option.elim none 0 (cN σ1)) from rfl)]
    unfold m_A_grow_ m_A_grow_I
    rw [gd_t hq, bd_e, gd_t hq, bd_e, hR1, h3, gd_t (show Option.elim none 25 (kd σ1) = 25 from rfl), bd_e, if_neg (show ¬ (0 : Int32) < nI (Option.elim none 0 (cN σ1)) from (by decide : ¬ (0 : Int32) < nI 0)), bd_e, if_pos rfl, e1, bd_e, t10, c10, gd_t ⟨by decide, by omega, by omega⟩, bd2_e, bd_e, bc2_e, bc2_e]
    obtain ⟨σ', own', w1, w2, w3, w4, w5, w6, w7⟩ := al_fit (L := []) (cap' := 10) hq O' hw F0 hX1 hU1 hg hgo hgq (wr (wa σ1 25 10 10) q 0 (some (cX σ1))) fr.rf rfl (fun i h => by simp at h) (by simp) (by omega) (by omega)
    rw [w1, bc_e, gd_t z01_1]
    exact ⟨σ', own', 10, rfl, w2, w3, w4, w5, by omega, by omega, by omega⟩
  · have hna : ¬ a = cX σ := hF a (by rw [a3]; omega)
    have hqa : ¬ q = a := fun e => by
      rw [← e] at a2
      rcases hq with rfl | rfl
      · rw [kd5] at a2; omega
      · rw [kd6] at a2; omega
    rw [a1, gd_t (show Option.elim (some a) 25 (kd σ1) = 25 by rw [hk1]; exact a2), bd_e, show Option.elim (some a) 0 (cN σ1) = cap by rw [hN1]; exact a4]
    by_cases hfull : L.length = cap
    · rw [if_pos (by rw [hfull])]
      unfold m_A_grow_ m_A_grow_I
      rw [gd_t hq, bd_e, gd_t hq, bd_e, hR1, a1, gd_t (show Option.elim (some a) 25 (kd σ1) = 25 by rw [hk1]; exact a2), bd_e, show Option.elim (some a) 0 (cN σ1) = cap by rw [hN1]; exact a4, if_pos (x32_lt' z32_0 (nI_t (by omega)) (by omega)), e1]
      unfold b_A_grow_I_20 m_Q_newLength
      have hsh : (nI cap >>> ((1 : Int32) &&& 31)).toInt = ((cap / 2 : Nat) : Int) := by
        show (nI cap >>> ((1 : Int32) &&& 31)).toBitVec.toInt = _
        rw [Int32.toBitVec_shiftRight, show ((1 : Int32) &&& 31).toBitVec.smod 32 = 1#32 by decide, BitVec.sshiftRight_eq', BitVec.toInt_sshiftRight]
        show (nI cap).toInt >>> 1 = _
        rw [nI_t (by omega), Int.shiftRight_eq_div_pow]
        rfl
      have hg1 : (nI L.length + 1 - nI cap).toInt = 1 := by
        rw [hfull, x32_sub (x32_add (nI_t (by omega)) z32_1 (by omega) (by omega)) (nI_t (by omega)) (by omega) (by omega)]; omega
      have hnl : (nI cap + nI cap >>> ((1 : Int32) &&& 31)).toInt = ((cap + cap / 2 : Nat) : Int) := by
        rw [x32_add (nI_t (by omega)) hsh (by omega) (by omega)]; omega
      rw [bd_e, bd_e, if_pos (x32_lt' hg1 hsh (by omega)), if_neg (x32_nle hnl z32_0 (by omega)), if_neg (x32_nlt (show (2147483639 : Int32).toInt = 2147483639 by decide) hnl (by omega)), bc2_e, bd_e, hR1, a1, bc_e]
      unfold m_K_copyOf_oI m_K3
      have ek2 : kd (wa σ1 25 (cap + cap / 2) (cap + cap / 2)) a = 25 := by rw [wa_k _ _ _ _ _ (by omega), if_neg (by rw [hX1]; exact hna), hk1]; exact a2
      have ek3 : kd (wa σ1 25 (cap + cap / 2) (cap + cap / 2)) (cX σ1) = 25 := by rw [wa_k _ _ _ _ _ (by omega), if_pos rfl]
      have en2 : cN (wa σ1 25 (cap + cap / 2) (cap + cap / 2)) a = cap := by rw [wa_N, if_neg (by rw [hX1]; exact hna), hN1]; exact a4
      have en3 : cN (wa σ1 25 (cap + cap / 2) (cap + cap / 2)) (cX σ1) = cap + cap / 2 := by rw [wa_N, if_pos rfl]
      rw [gd_t (show kd σ1 a = 25 by rw [hk1]; exact a2), x32_n hnl, gd_t ⟨x32_nlt hnl z32_0 (by omega), by omega, by omega⟩, bd2_e, gd_t (Or.inr (Or.inr ek2)), bd_e, en2, bd_e, if_neg (x32_nlt hnl (nI_t (by omega)) (by omega)), gd_t ⟨ek2, ek3, by decide, by decide, x32_nlt (nI_t (by omega)) z32_0 (by omega), by rw [i0_n, x32_n (nI_t (by omega))]; omega, by rw [i0_n, x32_n (nI_t (by omega)), en3]; omega⟩, bd_e, bc2_e, bd_e, bc2_e, bc2_e, i0_n, x32_n (nI_t (by omega))]
      have hqX : ¬ q = cX σ1 := by rw [hX1]; exact hq63
      obtain ⟨σ', own', w1, w2, w3, w4, w5, w6, w7⟩ := al_fit (L := L) (cap' := cap + cap / 2) hq O' hw F0 hX1 hU1 hg hgo hgq (wr (wcq (wa σ1 25 (cap + cap / 2) (cap + cap / 2)) a (cX σ1) 0 0 cap) q 0 (some (cX σ1)))
        (fun x hx => ⟨rfl, rfl, funext fun i => by
          rw [wr_R, wr_R, wcq_R, if_neg (show ¬ x = cX σ1 by rw [hX1]; exact hx)], rfl, rfl⟩) rfl
        (fun i h => by
          rw [wr_R, if_neg (fun e => hq63 e.1.symm), wcq_R, if_pos hX1.symm]
          unfold va_cpy
          rw [if_pos (by omega), wa_R, if_neg (by rw [hX1]; exact hna), hR1, show 0 + (i - 0) = i by omega]
          exact a7 i h) (by omega) (by omega) (by omega)
      rw [w1, bc_e, gd_t z01_1]
      exact ⟨σ', own', cap + cap / 2, rfl, w2, w3, w4, w5, by omega, by omega, by omega⟩
    · have hlt : L.length < cap := by omega
      rw [if_neg (x32_ne (nI_t (by omega)) (nI_t (by omega)) (by omega))]
      obtain ⟨σ', w1, w2, w3, w4, w5⟩ := al_put (own := own) (σ := σ1) (L := L) (g := g) hq hw (by rw [hR1]; exact a1) (by rw [hk1]; exact a2) a3 (by rw [hN1]; exact a4) a5 a6 (by rw [hR1]; exact a7) hlt (by rw [hk1]; exact hg)
      rw [w1, bc_e, gd_t z01_1]
      refine ⟨σ', own, cap, rfl, w2, fr.tr (F0.sub fun x (hx : own x ≠ 45 + q ∧ own x ≠ 99) => hx.1) w3 (fun x hx => hx.1), ⟨by omega, fun x hx => O2 x (by omega), O3⟩, fun x hx => absurd rfl hx, by omega, by omega, Nat.le_refl _⟩
theorem clear_loop {σ : CS} {q a n : Nat} (hk : kd σ a = 25) (hn : n ≤ cN σ a) (hn2 : n < 2147483647) : ∀ (r i m : Nat) (v : Int32) (τ : CS), i + r = n → r < m → v.toInt = (i : Int) → τ.1 = σ.1 → τ.2.1 = σ.2.1 → τ.2.2.2 = σ.2.2.2 → (∀ x, x ≠ a → cR τ x = cR σ x) →
    ∃ τ', lq4 (F_A_clear_27 q) m (some a) (nI n) v τ = some τ' ∧ τ'.1 = σ.1 ∧ τ'.2.1 = σ.2.1 ∧ τ'.2.2.2 = σ.2.2.2 ∧ (∀ x, x ≠ a → cR τ' x = cR σ x) := by
  intro r
  induction r with
  | zero =>
    intro i m v τ h1 h2 h3 h4 h5 h6 h7
    obtain ⟨m, rfl⟩ : ∃ k, m = k + 1 := ⟨m - 1, by omega⟩
    refine ⟨τ, ?_, h4, h5, h6, h7⟩
    show F_A_clear_27 q (lq4 (F_A_clear_27 q) m) (some a) (nI n) v τ = _
    unfold F_A_clear_27
    rw [if_pos (x32_le' (nI_t (by omega)) h3 (by omega))]
  | succ r ih =>
    intro i m v τ h1 h2 h3 h4 h5 h6 h7
    obtain ⟨m, rfl⟩ : ∃ k, m = k + 1 := ⟨m - 1, by omega⟩
    have hkd : kd τ a = 25 := by unfold kd cT; rw [h6]; exact hk
    have hN : cN τ a = cN σ a := by unfold cN; rw [h6]
    have e : lq4 (F_A_clear_27 q) (m + 1) (some a) (nI n) v τ = lq4 (F_A_clear_27 q) m (some a) (nI n) (v + 1) (wr τ a i none) := by
      show F_A_clear_27 q (lq4 (F_A_clear_27 q) m) (some a) (nI n) v τ = _
      rw [F_A_clear_27, if_neg (x32_nle (nI_t (by omega)) h3 (by omega)), bc_e, gd_t ⟨hkd, by rw [hN]; exact x32_in h3 (by omega)⟩, bd_e, bd_e, x32_n h3]
    rw [e]
    refine ih (i + 1) m (v + 1) (wr τ a i none) (by omega) (by omega) (by rw [x32_add h3 z32_1 (by omega) (by omega)]; omega) h4 h5 h6 ?_
    intro x hx
    rw [← h7 x hx]
    funext j
    rw [wr_R, if_neg (fun e => hx e.1)]
theorem al_clear {own : Nat → Nat} {σ : CS} {q : Nat} {L : List Nat} {cap : Nat} (h : AL own σ q L cap) (hq : q = 5 ∨ q = 6) (hw : own q = 45 + q) :
    ∃ σ', m_A_clear q σ = some σ' ∧ AL own σ' q [] cap ∧ fr (fun x => own x ≠ 45 + q) σ σ' ∧ cX σ' = cX σ ∧ cU σ' = cU σ := by
  obtain ⟨h1, h2, h3⟩ := h
  have e1 : cI (wi σ q 2 (cI σ q 2 + 1)) q 1 = nI L.length := by rw [wi_I, if_neg (by omega)]; exact h1
  unfold m_A_clear
  rw [gd_t hq, bd_e, bd_e, bd_e, bd_e, bd_e, e1]
  generalize hσ1 : wi (wi σ q 2 (cI σ q 2 + 1)) q 1 0 = σ1
  have F0 : fr (fun x => own x ≠ 45 + q) σ σ1 := by
    rw [← hσ1]
    exact fr.tr ((fr_wi σ q 2 (cI σ q 2 + 1)).sub (fun y (hy : own y ≠ 45 + q) e => hy (by rw [e]; exact hw))) (fr_wi _ q 1 0) (fun y hy e => hy (by rw [e]; exact hw))
  have f2 : σ1.2 = σ.2 := by rw [← hσ1]; rfl
  have f1 : cI σ1 q 1 = 0 := by rw [← hσ1, wi_I, if_pos ⟨rfl, rfl⟩]
  have hR : cR (wi σ q 2 (cI σ q 2 + 1)) = cR σ := rfl
  rw [hR]
  rcases h3 with ⟨h3, h4⟩ | ⟨a, a1, a2, a3, a4, a5, a6, a7⟩
  · have hL0 : L = [] := List.length_eq_zero_iff.mp (by omega)
    subst hL0
    refine ⟨σ1, ?_, ⟨f1, by simp, Or.inl ⟨?_, h4⟩⟩, F0, by unfold cX; rw [f2], by unfold cU; rw [f2]⟩
    · rw [show fuel = 9999999 + 1 from rfl]
      show F_A_clear_27 q (lq4 (F_A_clear_27 q) 9999999) _ _ _ σ1 = _
      rw [F_A_clear_27, if_pos (by decide)]
    · unfold cR; rw [f2]; exact h3
  · have hqa : ¬ q = a := fun e => by
      rw [← e] at a2
      rcases hq with rfl | rfl
      · rw [kd5] at a2; omega
      · rw [kd6] at a2; omega
    rw [a1]
    have k1 : kd σ1 a = 25 := by unfold kd cT; rw [f2]; exact a2
    have n1 : cN σ1 a = cap := by unfold cN; rw [f2]; exact a4
    obtain ⟨τ, w1, w2, w3, w4, w5⟩ := clear_loop (σ := σ1) (q := q) (a := a) (n := L.length) k1 (by omega) (by omega) L.length 0 fuel 0 σ1 (by omega) (by unfold fuel; omega) (by decide) rfl rfl rfl (fun _ _ => rfl)
    have kk : kd τ = kd σ1 := by unfold kd cT; rw [w4]
    have nn : cN τ = cN σ1 := by unfold cN; rw [w4]
    refine ⟨τ, w1, ⟨?_, by simp, Or.inr ⟨a, ?_, ?_, a3, ?_, a5, a6, fun i hi => by simp at hi⟩⟩, fr.tr F0 (Q := fun x => x ≠ a) (fun x hx => ⟨?_, ?_, w5 x hx, ?_, ?_⟩) (fun x hx e => hx (by rw [e]; exact a3)), ?_, ?_⟩
    · unfold cI; rw [w2]; exact f1
    · rw [w5 q hqa]; unfold cR; rw [f2]; exact a1
    · rw [kk]; exact k1
    · rw [nn]; exact n1
    · unfold cI; rw [w2]
    · unfold cJ; rw [w3]
    · rw [nn]
    · rw [kk]
    · unfold cX; rw [w4, f2]
    · unfold cU; rw [w4, f2]
theorem hole : ∀ (n : Nat) (l : List Nat), (∀ k, k < n → k ∈ l) → n ≤ l.length
  | 0, _, _ => Nat.zero_le _
  | n + 1, l, h => by
    have hm : n ∈ l := h n (by omega)
    have h1 := hole n (l.erase n) (fun k hk => (List.mem_erase_of_ne (by omega)).mpr (h k (by omega)))
    rw [List.length_erase_of_mem hm] at h1
    have : 0 < l.length := List.length_pos_of_mem hm
    omega
