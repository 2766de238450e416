/-! a step of the law keeps the relation -/
theorem thr (ρ : RS) : m_thrown ρ = some (ρ.1 0 0, ρ) := by unfold m_thrown; rw [bd_e]
theorem step_ok {α : Type} {c : Nat} {code : Nat → Option Int32} {σ : CS} {ρ : RS} {mp : Option ((Nat ⊕ α) × CS)} {mr : Option (α × RS)} (h : RL c σ ρ) (hc : c < 512) (A : An c code σ ρ mp mr) (f : α → Int64) (v : Int64) {mL : Option (Int32 × CS × Int64)} (h1 : ∀ x σ', mp = some (.inr x, σ') → mL = some (0, σ', f x)) (h2 : ∀ j k σ', mp = some (.inl j, σ') → code j = some k → mL = some (k, wa σ 0 0 6, v)) :
    ∃ B, (bc mL fun q => bc2 mr fun r ρ2 => bc2 (m_thrown ρ2) fun th ρ3 => gd (th = q.1) <| gd (q.1 = 0 → q.2.2 = f r) <| some (q.2.1, ρ3, q.2.2)) = some B ∧ RL (c + 1) B.1 B.2.1 := by
  rcases A with ⟨x, σ', ρ', a1, a2, a3, a4⟩ | ⟨j, k, y, σ', a1, a2, a3, a4⟩
  · refine ⟨(σ', ρ', f x), ?_, a4⟩
    rw [h1 x σ' a1, bc_e, a2, bc2_e, thr, bc2_e, gd_t a3, gd_t (fun _ => rfl)]
  · refine ⟨(wa σ 0 0 6, si ρ 0 0 k, v), ?_, ((h.exc hc).2).sz (SZ.si ρ k)⟩
    rw [h2 j k σ' a1 a3, bc_e, a2, bc2_e, thr, bc2_e, gd_t (si_eq _ _ _ _), gd_t (fun e => absurd e a4)]
theorem feed_st {c : Nat} {σ : CS} {ρ : RS} (h : RL c σ ρ) (hc : c < 512) (xs : Nat → Int32) (i : Nat) (v : Int64) : ∃ B, s_feed xs i σ ρ v = some B ∧ RL (c + 1) B.1 B.2.1 := by
  unfold s_feed
  refine step_ok h hc (feed_sim h hc _ _ _ _ _ (code := fun j => if j = 1 then some 1 else none) ) Int32.toInt64 v (fun x σ' e => by unfold m_L_feed; simp only [e]) (fun j k σ' e ek => ?_)
  · unfold m_L_feed
    simp only [e]
    rw [gd_t (h.room hc)]
    have ek : (if j = 1 then some 1 else none : Option Int32) = some k := ek
    by_cases c0 : j = 1
    · rw [if_pos c0] at ek ⊢
      cases ek; rfl
    · rw [if_neg c0] at ek ⊢
      cases ek
theorem end_st {c : Nat} {σ : CS} {ρ : RS} (h : RL c σ ρ) (hc : c < 512) (xs : Nat → Int32) (i : Nat) (v : Int64) : ∃ B, s_end xs i σ ρ v = some B ∧ RL (c + 1) B.1 B.2.1 := by
  unfold s_end
  refine step_ok h hc (end_sim h hc _ (code := fun j => if j = 2 then some 1 else none) rfl) Int32.toInt64 v (fun x σ' e => by unfold m_L_end; simp only [e]) (fun j k σ' e ek => ?_)
  · unfold m_L_end
    simp only [e]
    rw [gd_t (h.room hc)]
    have ek : (if j = 2 then some 1 else none : Option Int32) = some k := ek
    by_cases c0 : j = 2
    · rw [if_pos c0] at ek ⊢
      cases ek; rfl
    · rw [if_neg c0] at ek ⊢
      cases ek
theorem set_st {c : Nat} {σ : CS} {ρ : RS} (h : RL c σ ρ) (hc : c < 512) (xs : Nat → Int32) (i : Nat) (v : Int64) : ∃ B, s_set xs i σ ρ v = some B ∧ RL (c + 1) B.1 B.2.1 := by
  unfold s_set
  refine step_ok h hc (set_sim h hc _ _ _ (code := fun j => if j = 3 then some 1 else if j = 2 then some 2 else none) rfl rfl) Int32.toInt64 v (fun x σ' e => by unfold m_L_set; simp only [e]) (fun j k σ' e ek => ?_)
  · unfold m_L_set
    simp only [e]
    rw [gd_t (h.room hc)]
    have ek : (if j = 3 then some 1 else if j = 2 then some 2 else none : Option Int32) = some k := ek
    by_cases c0 : j = 3
    · rw [if_pos c0] at ek ⊢
      cases ek; rfl
    · rw [if_neg c0] at ek ⊢
      by_cases c1 : j = 2
      · rw [if_pos c1] at ek ⊢
        cases ek; rfl
      · rw [if_neg c1] at ek ⊢
        cases ek
theorem write_st {c : Nat} {σ : CS} {ρ : RS} (h : RL c σ ρ) (hc : c < 512) (xs : Nat → Int32) (i : Nat) (v : Int64) : ∃ B, s_write xs i σ ρ v = some B ∧ RL (c + 1) B.1 B.2.1 := by
  unfold s_write
  refine step_ok h hc (write_sim h hc _ (code := fun j => if j = 3 then some 1 else if j = 1 then some 2 else if j = 4 then some 3 else none) rfl rfl) Int32.toInt64 v (fun x σ' e => by unfold m_L_write; simp only [e]) (fun j k σ' e ek => ?_)
  · unfold m_L_write
    simp only [e]
    rw [gd_t (h.room hc)]
    have ek : (if j = 3 then some 1 else if j = 1 then some 2 else if j = 4 then some 3 else none : Option Int32) = some k := ek
    by_cases c0 : j = 3
    · rw [if_pos c0] at ek ⊢
      cases ek; rfl
    · rw [if_neg c0] at ek ⊢
      by_cases c1 : j = 1
      · rw [if_pos c1] at ek ⊢
        cases ek; rfl
      · rw [if_neg c1] at ek ⊢
        by_cases c2 : j = 4
        · rw [if_pos c2] at ek ⊢
          cases ek; rfl
        · rw [if_neg c2] at ek ⊢
          cases ek
theorem read_st {c : Nat} {σ : CS} {ρ : RS} (h : RL c σ ρ) (hc : c < 512) (xs : Nat → Int32) (i : Nat) (v : Int64) : ∃ B, s_read xs i σ ρ v = some B ∧ RL (c + 1) B.1 B.2.1 := by
  unfold s_read
  refine step_ok h hc (read_sim h hc _ _ (code := fun j => if j = 3 then some 1 else if j = 2 then some 2 else if j = 1 then some 3 else if j = 4 then some 4 else none) rfl rfl rfl rfl) (fun x => x) v (fun x σ' e => by unfold m_L_read; simp only [e]) (fun j k σ' e ek => ?_)
  · unfold m_L_read
    simp only [e]
    rw [gd_t (h.room hc)]
    have ek : (if j = 3 then some 1 else if j = 2 then some 2 else if j = 1 then some 3 else if j = 4 then some 4 else none : Option Int32) = some k := ek
    by_cases c0 : j = 3
    · rw [if_pos c0] at ek ⊢
      cases ek; rfl
    · rw [if_neg c0] at ek ⊢
      by_cases c1 : j = 2
      · rw [if_pos c1] at ek ⊢
        cases ek; rfl
      · rw [if_neg c1] at ek ⊢
        by_cases c2 : j = 1
        · rw [if_pos c2] at ek ⊢
          cases ek; rfl
        · rw [if_neg c2] at ek ⊢
          by_cases c3 : j = 4
          · rw [if_pos c3] at ek ⊢
            cases ek; rfl
          · rw [if_neg c3] at ek ⊢
            cases ek
theorem close_st {c : Nat} {σ : CS} {ρ : RS} (h : RL c σ ρ) (hc : c < 512) (xs : Nat → Int32) (i : Nat) (v : Int64) : ∃ B, s_close xs i σ ρ v = some B ∧ RL (c + 1) B.1 B.2.1 := by
  unfold s_close
  refine step_ok h hc (close_sim h hc _ (code := fun j => if j = 3 then some 1 else if j = 1 then some 2 else none) rfl rfl) Int32.toInt64 v (fun x σ' e => by unfold m_L_close; simp only [e]) (fun j k σ' e ek => ?_)
  · unfold m_L_close
    simp only [e]
    rw [gd_t (h.room hc)]
    have ek : (if j = 3 then some 1 else if j = 1 then some 2 else none : Option Int32) = some k := ek
    by_cases c0 : j = 3
    · rw [if_pos c0] at ek ⊢
      cases ek; rfl
    · rw [if_neg c0] at ek ⊢
      by_cases c1 : j = 1
      · rw [if_pos c1] at ek ⊢
        cases ek; rfl
      · rw [if_neg c1] at ek ⊢
        cases ek
theorem abort_st {c : Nat} {σ : CS} {ρ : RS} (h : RL c σ ρ) (hc : c < 512) (xs : Nat → Int32) (i : Nat) (v : Int64) : ∃ B, s_abort xs i σ ρ v = some B ∧ RL (c + 1) B.1 B.2.1 := by
  unfold s_abort
  refine step_ok h hc (abort_sim h hc _ (code := fun j => if j = 3 then some 1 else none) rfl) Int32.toInt64 v (fun x σ' e => by unfold m_L_abort; simp only [e]) (fun j k σ' e ek => ?_)
  · unfold m_L_abort
    simp only [e]
    rw [gd_t (h.room hc)]
    have ek : (if j = 3 then some 1 else none : Option Int32) = some k := ek
    by_cases c0 : j = 3
    · rw [if_pos c0] at ek ⊢
      cases ek; rfl
    · rw [if_neg c0] at ek ⊢
      cases ek
theorem tick_st {c : Nat} {σ : CS} {ρ : RS} (h : RL c σ ρ) (hc : c < 512) (xs : Nat → Int32) (i : Nat) (v : Int64) : ∃ B, s_tick xs i σ ρ v = some B ∧ RL (c + 1) B.1 B.2.1 := by
  unfold s_tick
  refine step_ok h hc (tick_sim h hc _ (code := fun j => if j = 2 then some 1 else none) rfl) (fun x => x) v (fun x σ' e => by unfold m_L_tick; simp only [e]) (fun j k σ' e ek => ?_)
  · unfold m_L_tick
    simp only [e]
    rw [gd_t (h.room hc)]
    have ek : (if j = 2 then some 1 else none : Option Int32) = some k := ek
    by_cases c0 : j = 2
    · rw [if_pos c0] at ek ⊢
      cases ek; rfl
    · rw [if_neg c0] at ek ⊢
      cases ek
theorem deliver_st {c : Nat} {σ : CS} {ρ : RS} (h : RL c σ ρ) (hc : c < 512) (xs : Nat → Int32) (i : Nat) (v : Int64) : ∃ B, s_deliver xs i σ ρ v = some B ∧ RL (c + 1) B.1 B.2.1 := by
  unfold s_deliver
  refine step_ok h hc (deliver_sim h hc _ (code := fun j => if j = 3 then some 1 else none) rfl) Int32.toInt64 v (fun x σ' e => by unfold m_L_deliver; simp only [e]) (fun j k σ' e ek => ?_)
  · unfold m_L_deliver
    simp only [e]
    rw [gd_t (h.room hc)]
    have ek : (if j = 3 then some 1 else none : Option Int32) = some k := ek
    by_cases c0 : j = 3
    · rw [if_pos c0] at ek ⊢
      cases ek; rfl
    · rw [if_neg c0] at ek ⊢
      cases ek
theorem drop_st {c : Nat} {σ : CS} {ρ : RS} (h : RL c σ ρ) (hc : c < 512) (xs : Nat → Int32) (i : Nat) (v : Int64) : ∃ B, s_drop xs i σ ρ v = some B ∧ RL (c + 1) B.1 B.2.1 := by
  unfold s_drop
  refine step_ok h hc (drop_sim h hc _ (code := fun j => if j = 3 then some 1 else none) rfl) Int32.toInt64 v (fun x σ' e => by unfold m_L_drop; simp only [e]) (fun j k σ' e ek => ?_)
  · unfold m_L_drop
    simp only [e]
    rw [gd_t (h.room hc)]
    have ek : (if j = 3 then some 1 else none : Option Int32) = some k := ek
    by_cases c0 : j = 3
    · rw [if_pos c0] at ek ⊢
      cases ek; rfl
    · rw [if_neg c0] at ek ⊢
      cases ek
theorem copy_st {c : Nat} {σ : CS} {ρ : RS} (h : RL c σ ρ) (hc : c < 512) (xs : Nat → Int32) (i : Nat) (v : Int64) : ∃ B, s_copy xs i σ ρ v = some B ∧ RL (c + 1) B.1 B.2.1 := by
  unfold s_copy
  refine step_ok h hc (copy_sim h hc _ (code := fun j => if j = 3 then some 1 else none) rfl) Int32.toInt64 v (fun x σ' e => by unfold m_L_copy; simp only [e]) (fun j k σ' e ek => ?_)
  · unfold m_L_copy
    simp only [e]
    rw [gd_t (h.room hc)]
    have ek : (if j = 3 then some 1 else none : Option Int32) = some k := ek
    by_cases c0 : j = 3
    · rw [if_pos c0] at ek ⊢
      cases ek; rfl
    · rw [if_neg c0] at ek ⊢
      cases ek
theorem flip_st {c : Nat} {σ : CS} {ρ : RS} (h : RL c σ ρ) (hc : c < 512) (xs : Nat → Int32) (i : Nat) (v : Int64) : ∃ B, s_flip xs i σ ρ v = some B ∧ RL (c + 1) B.1 B.2.1 := by
  unfold s_flip
  refine step_ok h hc (flip_sim h hc _ _ _ _ (code := fun j => if j = 3 then some 1 else if j = 5 then some 2 else none) rfl rfl) Int32.toInt64 v (fun x σ' e => by unfold m_L_flip; simp only [e]) (fun j k σ' e ek => ?_)
  · unfold m_L_flip
    simp only [e]
    rw [gd_t (h.room hc)]
    have ek : (if j = 3 then some 1 else if j = 5 then some 2 else none : Option Int32) = some k := ek
    by_cases c0 : j = 3
    · rw [if_pos c0] at ek ⊢
      cases ek; rfl
    · rw [if_neg c0] at ek ⊢
      by_cases c1 : j = 5
      · rw [if_pos c1] at ek ⊢
        cases ek; rfl
      · rw [if_neg c1] at ek ⊢
        cases ek
theorem inject_st {c : Nat} {σ : CS} {ρ : RS} (h : RL c σ ρ) (hc : c < 512) (xs : Nat → Int32) (i : Nat) (v : Int64) : ∃ B, s_inject xs i σ ρ v = some B ∧ RL (c + 1) B.1 B.2.1 := by
  unfold s_inject
  refine step_ok h hc (inject_sim h hc _ (code := fun j => if j = 3 then some 1 else if j = 2 then some 2 else none) rfl rfl) Int32.toInt64 v (fun x σ' e => by unfold m_L_inject; simp only [e]) (fun j k σ' e ek => ?_)
  · unfold m_L_inject
    simp only [e]
    rw [gd_t (h.room hc)]
    have ek : (if j = 3 then some 1 else if j = 2 then some 2 else none : Option Int32) = some k := ek
    by_cases c0 : j = 3
    · rw [if_pos c0] at ek ⊢
      cases ek; rfl
    · rw [if_neg c0] at ek ⊢
      by_cases c1 : j = 2
      · rw [if_pos c1] at ek ⊢
        cases ek; rfl
      · rw [if_neg c1] at ek ⊢
        cases ek
theorem seen_st {c : Nat} {σ : CS} {ρ : RS} (h : RL c σ ρ) (hc : c < 512) (xs : Nat → Int32) (i : Nat) (v : Int64) : ∃ B, s_seen xs i σ ρ v = some B ∧ RL (c + 1) B.1 B.2.1 := by
  unfold s_seen
  refine step_ok h hc (seen_sim h hc _ _ (code := fun j => if j = 3 then some 1 else if j = 5 then some 2 else none) rfl rfl) Int32.toInt64 v (fun x σ' e => by unfold m_L_seen; simp only [e]) (fun j k σ' e ek => ?_)
  · unfold m_L_seen
    simp only [e]
    rw [gd_t (h.room hc)]
    have ek : (if j = 3 then some 1 else if j = 5 then some 2 else none : Option Int32) = some k := ek
    by_cases c0 : j = 3
    · rw [if_pos c0] at ek ⊢
      cases ek; rfl
    · rw [if_neg c0] at ek ⊢
      by_cases c1 : j = 5
      · rw [if_pos c1] at ek ⊢
        cases ek; rfl
      · rw [if_neg c1] at ek ⊢
        cases ek
theorem about_st {c : Nat} {σ : CS} {ρ : RS} (h : RL c σ ρ) (hc : c < 512) (xs : Nat → Int32) (i : Nat) (v : Int64) : ∃ B, s_about xs i σ ρ v = some B ∧ RL (c + 1) B.1 B.2.1 := by
  unfold s_about
  refine step_ok h hc (about_sim h hc _ _ (code := fun j => if j = 3 then some 1 else if j = 2 then some 2 else none) rfl rfl) Int32.toInt64 v (fun x σ' e => by unfold m_L_about; simp only [e]) (fun j k σ' e ek => ?_)
  · unfold m_L_about
    simp only [e]
    rw [gd_t (h.room hc)]
    have ek : (if j = 3 then some 1 else if j = 2 then some 2 else none : Option Int32) = some k := ek
    by_cases c0 : j = 3
    · rw [if_pos c0] at ek ⊢
      cases ek; rfl
    · rw [if_neg c0] at ek ⊢
      by_cases c1 : j = 2
      · rw [if_pos c1] at ek ⊢
        cases ek; rfl
      · rw [if_neg c1] at ek ⊢
        cases ek
theorem open_st {c : Nat} {σ : CS} {ρ : RS} (h : RL c σ ρ) (hc : c < 512) (xs : Nat → Int32) (i : Nat) (v : Int64) : ∃ B, s_open xs i σ ρ v = some B ∧ RL (c + 1) B.1 B.2.1 := by
  obtain ⟨x, σ', ρ', e1, e2, e3⟩ := open_ok h hc (xs (i + 1)) (xs (i + 2))
  refine ⟨(σ', ρ', v), ?_, e3⟩
  unfold s_open
  rw [e1, bc2_e, e2, bc2_e, gd_t rfl]
theorem lawstep_st {c : Nat} {σ : CS} {ρ : RS} (h : RL c σ ρ) (hc : c < 512) (xs : Nat → Int32) (i : Nat) (v : Int64) : ∃ B, lawstep xs i σ ρ v = some B ∧ RL (c + 1) B.1 B.2.1 := by
  unfold lawstep
  by_cases c0 : (xs i &&& 31) = 0
  · rw [if_pos c0]; exact feed_st h hc xs i v
  · rw [if_neg c0]
    by_cases c1 : (xs i &&& 31) = 1
    · rw [if_pos c1]; exact end_st h hc xs i v
    · rw [if_neg c1]
      by_cases c2 : (xs i &&& 31) = 2
      · rw [if_pos c2]; exact open_st h hc xs i v
      · rw [if_neg c2]
        by_cases c3 : (xs i &&& 31) = 3
        · rw [if_pos c3]; exact set_st h hc xs i v
        · rw [if_neg c3]
          by_cases c4 : (xs i &&& 31) = 4
          · rw [if_pos c4]; exact write_st h hc xs i v
          · rw [if_neg c4]
            by_cases c5 : (xs i &&& 31) = 5
            · rw [if_pos c5]; exact read_st h hc xs i v
            · rw [if_neg c5]
              by_cases c6 : (xs i &&& 31) = 6
              · rw [if_pos c6]; exact close_st h hc xs i v
              · rw [if_neg c6]
                by_cases c7 : (xs i &&& 31) = 7
                · rw [if_pos c7]; exact abort_st h hc xs i v
                · rw [if_neg c7]
                  by_cases c8 : (xs i &&& 31) = 8
                  · rw [if_pos c8]; exact tick_st h hc xs i v
                  · rw [if_neg c8]
                    by_cases c9 : (xs i &&& 31) = 9
                    · rw [if_pos c9]; exact deliver_st h hc xs i v
                    · rw [if_neg c9]
                      by_cases c10 : (xs i &&& 31) = 10
                      · rw [if_pos c10]; exact drop_st h hc xs i v
                      · rw [if_neg c10]
                        by_cases c11 : (xs i &&& 31) = 11
                        · rw [if_pos c11]; exact copy_st h hc xs i v
                        · rw [if_neg c11]
                          by_cases c12 : (xs i &&& 31) = 12
                          · rw [if_pos c12]; exact flip_st h hc xs i v
                          · rw [if_neg c12]
                            by_cases c13 : (xs i &&& 31) = 13
                            · rw [if_pos c13]; exact inject_st h hc xs i v
                            · rw [if_neg c13]
                              by_cases c14 : (xs i &&& 31) = 14
                              · rw [if_pos c14]; exact seen_st h hc xs i v
                              · rw [if_neg c14]
                                by_cases c15 : (xs i &&& 31) = 15
                                · rw [if_pos c15]; exact about_st h hc xs i v
                                · rw [if_neg c15]
                                  by_cases c16 : (xs i &&& 31) = 16
                                  · rw [if_pos c16]; exact count_ok h xs i v
                                  · rw [if_neg c16]; exact ⟨(σ, ρ, v), rfl, h.up⟩
theorem lawloop_ok (xs : Nat → Int32) : ∀ (n i c : Nat) (σ : CS) (ρ : RS) (v : Int64), c + n ≤ 512 → RL c σ ρ → ∃ B, lawloop xs n i σ ρ v = some B := by
  intro n
  induction n with
  | zero => intro i c σ ρ v _ _; exact ⟨_, rfl⟩
  | succ n ih =>
    intro i c σ ρ v hn h
    obtain ⟨B, b1, b2⟩ := lawstep_st h (by omega) xs i v
    obtain ⟨B', b3⟩ := ih (i + 6) (c + 1) B.1 B.2.1 B.2.2 (by omega) b2
    refine ⟨B', ?_⟩
    show bc (lawstep xs i σ ρ v) (fun q => lawloop xs n (i + 6) q.1 q.2.1 q.2.2) = _
    rw [b1, bc_e, b3]
