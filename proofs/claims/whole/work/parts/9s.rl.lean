/-! the start -/
def ow0 (x : Nat) : Nat := if x = 2 then 1 else if x = 9 then 2 else if x = 16 then 3 else if x = 11 then 4 else if x = 18 then 5 else fo x
theorem ow0_ok : Ow ow0 sg0 := by
  refine ⟨Nat.le_refl 63, fun x hx => ?_, fun x hx => ?_⟩
  · have hx : 63 ≤ x := hx
    obtain ⟨k, rfl⟩ : ∃ k, x = k + 63 := ⟨x - 63, by omega⟩
    unfold ow0
    rw [if_neg (by omega), if_neg (by omega), if_neg (by omega), if_neg (by omega), if_neg (by omega)]
    rfl
  · unfold ow0
    by_cases h1 : x = 2
    · exact absurd (by rw [h1]; rfl) hx
    · rw [if_neg h1]
      by_cases h2 : x = 9
      · exact absurd (by rw [h2]; rfl) hx
      · rw [if_neg h2]
        by_cases h3 : x = 16
        · exact absurd (by rw [h3]; rfl) hx
        · rw [if_neg h3]
          by_cases h4 : x = 11
          · exact absurd (by rw [h4]; rfl) hx
          · rw [if_neg h4]
            by_cases h5 : x = 18
            · exact absurd (by rw [h5]; rfl) hx
            · rw [if_neg h5]
theorem nb0 : NB ow0 [] [] [] 0 0 0 sg0 rh0 := by
  refine ⟨⟨⟨rfl, Nat.le_refl _, Or.inl ⟨rfl, rfl⟩⟩, ⟨rfl, Nat.le_refl _, Or.inl ⟨rfl, rfl⟩⟩, fun p hp => by simp at hp, fun g hg => by simp [ag] at hg, by simp [ag], by simp, fun k hk => ?_, fun i hi => by simp at hi, rfl, rfl, by simp, by simp, by simp⟩, fun p hp => by simp at hp, ow0_ok, ⟨?_, by decide, by omega⟩, fun i => ?_⟩
  · rw [if_neg (by simp)]; rfl
  · show 1255284 ≤ 1255284 + 0 + (nb sg0 (ag [] [] []) + 4 * (0 + 0))
    omega
  · show vp_nar .byte (0 : Int32) = 0
    decide
theorem ex0_0 : EX ow0 7 0 sg0 rh0 0 0 := by
  have hk : kc (rh0.1 40) 0 65536 = 0 := kc_all0 65536 fun i _ => rfl
  refine ⟨0, 0, 0, 0, 0, 0, 0, ⟨⟨rfl, by decide, ⟨1460, by omega, by omega, rfl⟩, rfl, rfl, by omega, rfl, Or.inl rfl, rfl, rfl, Or.inl ⟨rfl, rfl, rfl⟩⟩, ⟨rfl, ⟨rfl, by decide⟩, ⟨by decide, by decide⟩, ⟨rfl, by decide⟩, ⟨rfl, fun h => absurd rfl h⟩, ⟨rfl, Or.inl ⟨rfl, by omega⟩⟩, ⟨rfl, 0, by omega, rfl⟩, rfl, rfl, ⟨by omega, by omega, by omega, by omega⟩, 0, 9, rfl, rfl, rfl, rfl, rfl, by decide, by decide, by decide, fun i hi => by omega⟩, ?_, ⟨⟨by decide, 1000, by omega, by omega, rfl⟩, ⟨rfl, rfl, by omega⟩, rfl, Or.inl ⟨rfl, by decide⟩, ⟨by decide, by decide, by decide⟩, ⟨by decide, by decide, by decide⟩, ⟨rfl, Or.inl rfl⟩, rfl, ⟨rfl, 0, by omega, by decide⟩⟩, ⟨rfl, rfl, by decide, rfl, fun h => by omega⟩⟩, ?_⟩
  · unfold G3 G3x
    rw [hk]
    exact ⟨⟨by decide, 65535, by omega, rfl⟩, rfl, rfl, ⟨rfl, Or.inl rfl⟩, ⟨rfl, rfl, by omega⟩, rfl, by decide, fun _ => ⟨0, by decide, by omega, fun p _ h => absurd rfl h⟩, fun p _ => ⟨Or.inl rfl, fun _ => rfl⟩, 11, rfl, rfl, rfl, Or.inl ⟨rfl, rfl, fun p _ => rfl⟩⟩
  · unfold XQ
    rw [hk]
    exact ⟨fun _ => rfl, fun h => absurd h (by omega), fun h => absurd h (by omega), fun h => absurd h (by omega), fun h => absurd h (by omega), fun h => absurd h (by omega), fun h => absurd h (by omega), fun _ => ⟨by omega, by omega⟩, fun _ => by omega⟩
theorem ex0_1 : EX ow0 14 1 sg0 rh0 0 0 := by
  have hk : kc (rh0.1 40) 1 65536 = 0 := kc_all0 65536 fun i _ => rfl
  refine ⟨0, 0, 0, 0, 0, 0, 0, ⟨⟨rfl, by decide, ⟨1460, by omega, by omega, rfl⟩, rfl, rfl, by omega, rfl, Or.inl rfl, rfl, rfl, Or.inl ⟨rfl, rfl, rfl⟩⟩, ⟨rfl, ⟨rfl, by decide⟩, ⟨by decide, by decide⟩, ⟨rfl, by decide⟩, ⟨rfl, fun h => absurd rfl h⟩, ⟨rfl, Or.inl ⟨rfl, by omega⟩⟩, ⟨rfl, 0, by omega, rfl⟩, rfl, rfl, ⟨by omega, by omega, by omega, by omega⟩, 0, 16, rfl, rfl, rfl, rfl, rfl, by decide, by decide, by decide, fun i hi => by omega⟩, ?_, ⟨⟨by decide, 1000, by omega, by omega, rfl⟩, ⟨rfl, rfl, by omega⟩, rfl, Or.inl ⟨rfl, by decide⟩, ⟨by decide, by decide, by decide⟩, ⟨by decide, by decide, by decide⟩, ⟨rfl, Or.inl rfl⟩, rfl, ⟨rfl, 0, by omega, by decide⟩⟩, ⟨rfl, rfl, by decide, rfl, fun h => by omega⟩⟩, ?_⟩
  · unfold G3 G3x
    rw [hk]
    exact ⟨⟨by decide, 65535, by omega, rfl⟩, rfl, rfl, ⟨rfl, Or.inl rfl⟩, ⟨rfl, rfl, by omega⟩, rfl, by decide, fun _ => ⟨0, by decide, by omega, fun p _ h => absurd rfl h⟩, fun p _ => ⟨Or.inl rfl, fun _ => rfl⟩, 18, rfl, rfl, rfl, Or.inl ⟨rfl, rfl, fun p _ => rfl⟩⟩
  · unfold XQ
    rw [hk]
    exact ⟨fun _ => rfl, fun h => absurd h (by omega), fun h => absurd h (by omega), fun h => absurd h (by omega), fun h => absurd h (by omega), fun h => absurd h (by omega), fun h => absurd h (by omega), fun _ => ⟨by omega, by omega⟩, fun _ => by omega⟩
theorem rl0 : RL 0 sg0 rh0 := by
  have hb : ∀ i : Nat, isB ((fun _ : Nat => (0 : Int32)) i) := fun i => by
    show vp_nar .byte (0 : Int32) = 0
    decide
  exact ⟨ow0, 0, 0, 0, 0, 0, ⟨[], [], 0, 0, nb0⟩, ex0_0, ex0_1, ⟨rfl, rfl, 2, rfl, rfl, rfl, by decide, by decide, by decide, fun i hi => by omega⟩, ⟨rfl, by decide, by omega, ⟨0, by omega, rfl, rfl⟩, hb, hb⟩, Nat.zero_le _, by omega⟩
/-- the whole run of the law, for every script -/
theorem pure_ok (xs : Nat → Int32) {L : Nat} (hL : L ≤ 3072) : ∃ B, lawloop xs (L / 6) 0 sg0 rh0 0 = some B := lawloop_ok xs (L / 6) 0 0 sg0 rh0 0 (by omega) rl0
