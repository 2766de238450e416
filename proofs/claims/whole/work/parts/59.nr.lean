/-! the network: what binds the two sides; placing a segment -/
def ar (σ : CS) (g : Nat) : Nat := (cR σ g 0).getD 0
def gsz (σ : CS) (g : Nat) : Nat := 2 * cN σ (ar σ g) + 3
def nb (σ : CS) (L : List Nat) : Nat := (L.map (gsz σ)).sum
def Sp (own : Nat → Nat) (σ : CS) (g : Nat) : Prop := own g = 60 ∧ own (ar σ g) = 100 + g ∧ ∃ len N, SG σ g (ar σ g) len N ∧ (N = 64 ∨ N = 1484)
def Sh (σ : CS) (ρ : RS) (p : Nat × Nat) : Prop := ∃ len N, SG σ p.1 (ar σ p.1) len N ∧ ρ.1 3 p.2 = Int32.ofNat len ∧ cI σ p.1 2 = ρ.1 4 p.2 ∧ (ρ.1 4 p.2 = 0 ∨ ρ.1 4 p.2 = 1) ∧ p.2 < 513
def Cq (σ : CS) (ρ : RS) (p : Nat × Nat) : Prop := ∀ i, i < (cI σ p.1 1).toNatClampNeg → cI σ (ar σ p.1) i = Sk ρ p.2 i
def ag (P C : List (Nat × Nat)) (S : List Nat) : List Nat := P.map Prod.fst ++ (C.map Prod.fst ++ S)
def NR (own : Nat → Nat) (P C : List (Nat × Nat)) (S : List Nat) (c1 c2 : Nat) (σ : CS) (ρ : RS) : Prop :=
  AL own σ 5 (P.map Prod.fst) c1 ∧ AL own σ 6 S c2 ∧ (∀ p ∈ P ++ C, Sh σ ρ p) ∧ (∀ g ∈ ag P C S, Sp own σ g) ∧ (ag P C S).Nodup ∧ ((P ++ C).map Prod.snd).Nodup ∧
  (∀ k, k < 513 → ρ.1 6 k = if k ∈ (P ++ C).map Prod.snd then 1 else 0) ∧ (∀ i (h : i < P.length), ρ.1 5 i = nI (P[i]).2) ∧ ρ.1 0 10 = nI P.length ∧ cI σ 4 2 = ρ.1 0 5 ∧ P.length ≤ 512 ∧ C.length ≤ 1 ∧ P.length + C.length + S.length ≤ 513
def BU (K n : Nat) (σ : CS) : Prop := cU σ ≤ 1255284 + K + n ∧ 3 * cX σ + 1255095 ≤ cU σ ∧ K ≤ 260000
def NFr (ρ ρ' : RS) : Prop := ρ'.2 = ρ.2 ∧ (∀ r, r = 1 ∨ 7 ≤ r → ρ'.1 r = ρ.1 r) ∧ ∀ j, j ≠ 5 → j ≠ 10 → ρ'.1 0 j = ρ.1 0 j
theorem NFr.rf (ρ : RS) : NFr ρ ρ := ⟨rfl, fun _ _ => rfl, fun _ _ _ => rfl⟩
theorem NFr.tr {a b c : RS} (h1 : NFr a b) (h2 : NFr b c) : NFr a c := ⟨by rw [h2.1, h1.1], fun r hr => by rw [h2.2.1 r hr, h1.2.1 r hr], fun j h h' => by rw [h2.2.2 j h h', h1.2.2 j h h']⟩
theorem Sp.fr {own own' : Nat → Nat} {σ σ' : CS} {g : Nat} (h : Sp own σ g) (f1 : fr (fun x => x = g ∨ x = ar σ g) σ σ') (ho : ∀ x, own x ≠ 99 → own' x = own x) : Sp own' σ' g ∧ ar σ' g = ar σ g ∧ gsz σ' g = gsz σ g ∧ (∀ i, cI σ' g i = cI σ g i) ∧ (∀ i, cI σ' (ar σ g) i = cI σ (ar σ g) i) := by
  obtain ⟨h1, h2, len, N, ⟨s1, s2, s3, s4, s5, s6, s7⟩, h3⟩ := h
  obtain ⟨a1, a2, a3, a4, a5⟩ := f1 g (Or.inl rfl)
  obtain ⟨b1, b2, b3, b4, b5⟩ := f1 (ar σ g) (Or.inr rfl)
  have e : ar σ' g = ar σ g := by unfold ar; rw [a3]
  refine ⟨⟨by rw [ho g (by omega)]; exact h1, by rw [e, ho _ (by omega)]; exact h2, len, N, ?_, h3⟩, e, by unfold gsz; rw [e, b4], fun i => by rw [a1], fun i => by rw [b1]⟩
  rw [e]
  exact ⟨by rw [a5]; exact s1, by rw [a3]; exact s2, by rw [b5]; exact s3, by rw [a1]; exact s4, by rw [b4]; exact s5, s6, s7⟩
theorem Sp.hi {own : Nat → Nat} {σ : CS} {g : Nat} (h : Sp own σ g) : gsz σ g ≤ 2971 := by
  obtain ⟨_, _, len, N, ⟨s1, s2, s3, s4, s5, s6, s7⟩, h3⟩ := h
  unfold gsz; omega
theorem nb_le {own : Nat → Nat} {σ : CS} : ∀ (L : List Nat), (∀ g ∈ L, Sp own σ g) → nb σ L ≤ 2971 * L.length
  | [], _ => by simp [nb]
  | g :: L, h => by
    have h1 := nb_le L (fun x hx => h x (List.mem_cons_of_mem _ hx))
    have h2 := (h g List.mem_cons_self).hi
    simp only [nb, List.map_cons, List.sum_cons, List.length_cons] at h1 ⊢
    omega
theorem nb_congr {σ σ' : CS} {L : List Nat} (h : ∀ g ∈ L, gsz σ' g = gsz σ g) : nb σ' L = nb σ L := by
  unfold nb
  rw [List.map_congr_left h]
theorem nb_app (σ : CS) (L M : List Nat) : nb σ (L ++ M) = nb σ L + nb σ M := by simp [nb]
theorem nb_cons (σ : CS) (g : Nat) (M : List Nat) : nb σ (g :: M) = gsz σ g + nb σ M := by simp [nb]
theorem ag_len (P C : List (Nat × Nat)) (S : List Nat) : (ag P C S).length = P.length + C.length + S.length := by
  unfold ag; simp only [List.length_append, List.length_map]; omega
theorem NR.bud {own : Nat → Nat} {P C : List (Nat × Nat)} {S : List Nat} {c1 c2 K : Nat} {σ : CS} {ρ : RS} (h : NR own P C S c1 c2 σ ρ) (B : BU K (nb σ (ag P C S) + 4 * (c1 + c2)) σ) : cX σ ≤ 597000 ∧ cU σ ≤ 3100000 := by
  obtain ⟨h1, h2, h3, h4, _, _, _, _, _, _, _, _, h5⟩ := h
  have := nb_le _ h4
  rw [ag_len] at this
  have := h1.cap
  have := h2.cap
  obtain ⟨b1, b2, b3⟩ := B
  omega
theorem rfree_loop (ρ : RS) : ∀ (r i n : Nat) (v : Int32), i + r = 512 → r < n → v.toInt = (i : Int) → (∃ k, i ≤ k ∧ k ≤ 512 ∧ ρ.1 6 k = 0) → ∃ s, s < 513 ∧ ρ.1 6 s = 0 ∧ lq2 F_free_2 n v ρ = some (nI s, ρ) := by
  intro r
  induction r with
  | zero =>
    intro i n v h1 h2 h3 ⟨k, k1, k2, k3⟩
    obtain ⟨n, rfl⟩ : ∃ k, n = k + 1 := ⟨n - 1, by omega⟩
    have hk : k = i := by omega
    subst hk
    refine ⟨k, by omega, k3, ?_⟩
    show F_free_2 (lq2 F_free_2 n) v ρ = _
    rw [F_free_2, if_neg (x32_nlt (show (512 : Int32).toInt = 512 by decide) h3 (by omega)), gd_t (x32_in h3 (by omega)), bd_e, x32_n h3, if_pos k3, x32_of (by omega) h3]; rfl
  | succ r ih =>
    intro i n v h1 h2 h3 ⟨k, k1, k2, k3⟩
    obtain ⟨n, rfl⟩ : ∃ k, n = k + 1 := ⟨n - 1, by omega⟩
    have e : lq2 F_free_2 (n + 1) v ρ = F_free_2 (lq2 F_free_2 n) v ρ := rfl
    rw [e, F_free_2, if_neg (x32_nlt (show (512 : Int32).toInt = 512 by decide) h3 (by omega)), gd_t (x32_in h3 (by omega)), bd_e, x32_n h3]
    by_cases h0 : ρ.1 6 i = 0
    · rw [if_pos h0]
      exact ⟨i, by omega, h0, by rw [x32_of (by omega) h3]; rfl⟩
    · rw [if_neg h0, bd_e]
      refine ih (i + 1) n (v + 1) (by omega) (by omega) (by rw [x32_add h3 z32_1 (by omega) (by omega)]; omega) ⟨k, ?_, k2, k3⟩
      rcases Nat.lt_or_ge i k with h | h
      · exact h
      · have : k = i := by omega
        subst this
        exact absurd k3 h0
theorem nar_b {v : Int32} (h : v = 0 ∨ v = 1) : vp_nar .boolean v = v := by
  rcases h with rfl | rfl
  · exact nar_b0
  · exact nar_b1
theorem rlaunch {ρ : RS} {n : Nat} (t v : Int32) (h1 : ρ.1 0 10 = nI n) (hn : n < 512) (hf : ∃ k, k ≤ 512 ∧ ρ.1 6 k = 0) : ∃ s, s < 513 ∧ ρ.1 6 s = 0 ∧ m_launched t v ρ = some (nI s, si (si (si (si (si ρ 6 s 1) 4 s t) 3 s v) 5 n (nI s)) 0 10 (nI (n + 1))) := by
  obtain ⟨k, k1, k2⟩ := hf
  obtain ⟨s, s1, s2, s3⟩ := rfree_loop ρ 512 0 fuel 0 (by omega) (by unfold fuel; omega) (by decide) ⟨k, by omega, k1, k2⟩
  refine ⟨s, s1, s2, ?_⟩
  have hs : (nI s).toInt = (s : Int) := nI_t (by omega)
  have hN : (nI n).toInt = (n : Int) := nI_t (by omega)
  have e10 : (si (si (si ρ 6 s 1) 4 s t) 3 s v).1 0 10 = nI n := by simp [si_1, h1]
  have e10' : (si (si (si (si ρ 6 s 1) 4 s t) 3 s v) 5 n (nI s)).1 0 10 = nI n := by simp [si_1, h1]
  unfold m_launched m_free
  rw [bd_e, h1, if_neg (x32_ne hN (show (512 : Int32).toInt = 512 by decide) (by omega)), s3, bc2_e, gd_t (x32_in hs s1), bd_e, gd_t (x32_in hs s1), bd_e, gd_t (x32_in hs s1), bd_e, bd_e, x32_n hs, nar_b1, e10, gd_t (x32_in hN hn), bd_e, bd_e, bd_e, x32_n hN, e10', nI_succ]
