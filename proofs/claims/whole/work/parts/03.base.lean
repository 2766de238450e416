/-! the words that hold in every method, and the combinators of the decompiled methods -/
def gt : List Cond := lw_tbl.filter goodWord
theorem gi {w : Cond} (h : w ∈ lw_tbl) (hg : goodWord w = true) : w ∈ gt := List.mem_filter.mpr ⟨h, hg⟩
theorem gt_good {c0 : Cond} {y : MethodName} {b : ByteArray} {n : Nat} {r : Option FieldType} (h : Cond.code y b n r ∈ lw_tbl) : GoodIn (c0 :: gt) (Cond.code y b n r :: gt) := by
  intro w hw
  rcases List.mem_cons.mp hw with rfl | hw
  · exact ⟨List.mem_cons_of_mem _ (gi h rfl), Or.inl rfl⟩
  · exact ⟨List.mem_cons_of_mem _ hw, good_of_word (List.mem_filter.mp hw).2⟩
/-- a check that the walk needs: the method is only described where it holds -/
def gd {β : Type} (c : Prop) [Decidable c] (x : Option β) : Option β := if c then x else none
/-- a value gets a name -/
def bd {α β : Type} (v : α) (k : α → Option β) : Option β := k v
/-- a call -/
def bc {α β : Type} (c : Option α) (k : α → Option β) : Option β := match c with
  | none => none
  | some x => k x
/-- a loop, by fuel -/
def lp {α β : Type} (F : (α → Option β) → α → Option β) : Nat → α → Option β
  | 0, _ => none
  | n + 1, a => F (lp F n) a
def fuel : Nat := 10000000
theorem gd_s {β : Type} {c : Prop} [Decidable c] {x : Option β} {R : β} (h : gd c x = some R) : c ∧ x = some R := by
  unfold gd at h
  split at h
  · exact ⟨by assumption, h⟩
  · cases h
theorem bc_s {α β : Type} {c : Option α} {k : α → Option β} {R : β} (h : bc c k = some R) : ∃ x, c = some x ∧ k x = some R := by
  cases c with
  | none => cases h
  | some x => exact ⟨x, rfl, h⟩
theorem lp_s {α β : Type} {F : (α → Option β) → α → Option β} {P : α → β → Prop} (hF : ∀ rec : α → Option β, (∀ a R, rec a = some R → P a R) → ∀ a R, F rec a = some R → P a R) : ∀ (n : Nat) (a : α) (R : β), lp F n a = some R → P a R
  | 0, _, _, h => by cases h
  | n + 1, a, R, h => hF (lp F n) (lp_s hF n) a R h
abbrev inb (i : Int32) (n : Nat) : Prop := ¬ (i < 0 ∨ n ≤ i.toNatClampNeg)
