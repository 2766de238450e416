/-! rows of the law's own walk -/
theorem i32_add {i j : Nat} (h : i + j < 2147483648) : Int32.ofNat i + Int32.ofNat j = Int32.ofNat (i + j) := by
  rw [← Int32.ofNat_add]
theorem i32_toInt {k : Nat} (h : k < 2147483648) : (Int32.ofNat k).toInt = (k : Int) := by
  rw [Int32.toInt_ofNat_of_lt (by omega)]
theorem i32_clamp {k : Nat} (h : k < 2147483648) : (Int32.ofNat k).toNatClampNeg = k := by
  show (Int32.ofNat k).toInt.toNat = k
  rw [i32_toInt h]
  omega
theorem i32_in {k L : Nat} (h : k < L) (hL : L < 2147483648) : vp_in (Int32.ofNat k) L := by
  intro q
  rcases q with q | q
  · have := Int32.lt_iff_toInt_lt.mp q
    rw [i32_toInt (by omega)] at this
    have h0 : (0 : Int32).toInt = 0 := by decide
    omega
  · rw [i32_clamp (by omega)] at q
    omega
def zb (w : Int32) : Int32 := if w = 0 then 0 else 1
abbrev lvs (a b i : Nat) : List (Nat × Value) := [(0, .ref a), (1, .ref (b + 0)), (2, .ref (b + 21)), (3, .ref (b + 62)), (4, .int (Int32.ofNat i))]
section LRW
variable {p : Program} {l : Launch} {e : Env} {R : Room} {s : State} {m : MethodId} {args : Array Value} {below : List Frame} {meth : Method} {c : Code} {H : Heap} {locs : List Loc} {cells slots : Nat} {Q : State → Prop}
variable {cc : ByteArray} {pc nL : Nat} {ls : Array Slot} {rest st0 : List Value} {D : va_G} {tc : Nat → ClassId} {b z c0 u0 : Nat} {σ : CS} {ρ : RS} {v : Int64} {own : String} {β : Type} {B : β} {ret : Option FieldType}
variable {a L : Nat} {xs : Nat → Int32}
theorem lm_arg (S : LC p m c cc nL s args own meth ret D tc b z) (hX : va_X a L xs s s.heap) (ha : a < b) (hW : LWS D tc b z s c0 u0 σ ρ v H locs cells slots) {i j : Nat} (hi : i + j < L) (hL : L ≤ 3072) (h0 : ls[0]? = some (.val (.ref a))) (h4 : ls[4]? = some (.val (.int (Int32.ofNat i)))) {n : Int} (hn : Int32.ofInt n = Int32.ofNat j)
    (d0 : decode cc pc = .ok (.aload_n 0, 1)) (d1 : decode cc (pc + 1) = .ok (.iload 4, 2)) (d2 : decode cc (pc + 3) = .ok (.iconst n, 1)) (d3 : decode cc (pc + 4) = .ok (.iadd, 1)) (d4 : decode cc (pc + 5) = .ok (.iaload, 1))
    (kk : W p l e R s m args below meth c H locs cells slots Q (F0 m (pc + 6) ls (.int (xs (i + j)) :: rest))) : W p l e R s m args below meth c H locs cells slots Q (F0 m pc ls rest) := by
  refine lv_aload_n S.1.1 S.1.2.1 d0 rfl h0 ?_
  refine lv_iload S.1.1 S.1.2.1 d1 h4 ?_
  refine lv_iconst S.1.1 S.1.2.1 d2 hn ?_
  refine lv_iadd S.1.1 S.1.2.1 d3 ?_
  rw [i32_add (by omega)]
  refine va_sld S.1.1 S.1.2.1 hX (Nat.lt_of_lt_of_le ha S.2.1.2.2.2.2.2.2.2.2.2.1) (A := lreg b) (Nat.not_le.mpr ha) hW.2.1 (i32_in hi (by omega)) d4 ?_
  rw [i32_clamp (by omega)]
  exact kk
theorem lm_arg0 (S : LC p m c cc nL s args own meth ret D tc b z) (hX : va_X a L xs s s.heap) (ha : a < b) (hW : LWS D tc b z s c0 u0 σ ρ v H locs cells slots) {i : Nat} (hi : i < L) (hL : L ≤ 3072) (h0 : ls[0]? = some (.val (.ref a))) (h4 : ls[4]? = some (.val (.int (Int32.ofNat i))))
    (d0 : decode cc pc = .ok (.aload_n 0, 1)) (d1 : decode cc (pc + 1) = .ok (.iload 4, 2)) (d4 : decode cc (pc + 3) = .ok (.iaload, 1))
    (kk : W p l e R s m args below meth c H locs cells slots Q (F0 m (pc + 4) ls (.int (xs i) :: rest))) : W p l e R s m args below meth c H locs cells slots Q (F0 m pc ls rest) := by
  refine lv_aload_n S.1.1 S.1.2.1 d0 rfl h0 ?_
  refine lv_iload S.1.1 S.1.2.1 d1 h4 ?_
  refine va_sld S.1.1 S.1.2.1 hX (Nat.lt_of_lt_of_le ha S.2.1.2.2.2.2.2.2.2.2.2.1) (A := lreg b) (Nat.not_le.mpr ha) hW.2.1 (i32_in hi (by omega)) d4 ?_
  rw [i32_clamp (by omega)]
  exact kk
theorem lm_bool (hx : p.tables.exec = Jvm.exec) (hb : c.code = cc) {w : Int32} (d0 : decode cc pc = .ok (.ifCond .eq 7, 3)) (d1 : decode cc (pc + 3) = .ok (.iconst 1, 1)) (d2 : decode cc (pc + 4) = .ok (.goto 4, 3)) (d3 : decode cc (pc + 7) = .ok (.iconst 0, 1))
    (kk : W p l e R s m args below meth c H locs cells slots Q (F0 m (pc + 8) ls (.int (zb w) :: rest))) : W p l e R s m args below meth c H locs cells slots Q (F0 m pc ls (.int w :: rest)) := by
  refine lv_if_eq (tgt := pc + 7) hx hb d0 (by omega) (fun h => ?_) (fun h => ?_)
  · refine lv_iconst hx hb d3 rfl ?_
    rw [show zb w = Int32.ofInt 0 by unfold zb; rw [if_pos h]; rfl] at kk
    exact kk
  · refine lv_iconst hx hb d1 rfl ?_
    refine lv_goto (tgt := pc + 8) hx hb d2 (by omega) ?_
    rw [show zb w = Int32.ofInt 1 by unfold zb; rw [if_neg h]; rfl] at kk
    exact kk
/-- the comparison of an int's answer: k and r lie in 5 and 6 -/
theorem lm_chk (S : LC p m c cc nL s args own meth ret D tc b z) (hW : LWS D tc b z s c0 u0 σ ρ v H locs cells slots) {k r th : Int32} (h3 : ls[3]? = some (.val (.ref (b + 62)))) (h5 : ls[5]? = some (.val (.int k))) (h6 : ls[6]? = some (.val (.int r))) (ht : th = k) (hv : k = 0 → v = r.toInt64) {off : Int} (hgo : ((pc + 24 : Nat) : Int) + off = 1184)
    (d0 : decode cc pc = .ok (.iload 5, 2)) (d1 : decode cc (pc + 2) = .ok (.if_icmp .eq 5, 3)) (d2 : decode cc (pc + 7) = .ok (.iload 5, 2)) (d3 : decode cc (pc + 9) = .ok (.ifCond .ne 15, 3)) (d4 : decode cc (pc + 12) = .ok (.aload_n 3, 1)) (d5 : decode cc (pc + 13) = .ok (.iconst 0, 1)) (d6 : decode cc (pc + 14) = .ok (.laload, 1)) (d7 : decode cc (pc + 15) = .ok (.iload 6, 2)) (d8 : decode cc (pc + 17) = .ok (.i2l, 1)) (d9 : decode cc (pc + 18) = .ok (.lcmp, 1)) (d10 : decode cc (pc + 19) = .ok (.ifCond .eq 5, 3)) (d11 : decode cc (pc + 24) = .ok (.goto off, 3))
    (kk : W p l e R s m args below meth c H locs cells slots Q (F0 m 1184 ls [])) : W p l e R s m args below meth c H locs cells slots Q (F0 m pc ls [.int th]) := by
  have hx := S.1.1
  have hb := S.1.2.1
  have hend : W p l e R s m args below meth c H locs cells slots Q (F0 m (pc + 24) ls []) := lv_goto (tgt := 1184) hx hb d11 hgo kk
  refine lv_iload hx hb d0 h5 ?_
  refine lv_icmp_eq (tgt := pc + 7) hx hb d1 (by omega) (fun _ => ?_) (fun h => absurd ht h)
  refine lv_iload hx hb d2 h5 ?_
  refine lv_if_ne (tgt := pc + 24) hx hb d3 (by omega) (fun _ => hend) (fun h => ?_)
  have hk : k = 0 := h
  refine lv_aload_n hx hb d4 rfl h3 ?_
  refine lv_iconst hx hb d5 rfl ?_
  refine lm_outr S hW d6 ?_
  refine lv_iload hx hb d7 h6 ?_
  refine lv_i2l hx hb d8 rfl ?_
  refine W.lcmp hx hb d9 ?_
  refine lv_if_eq (tgt := pc + 24) hx hb d10 (by omega) (fun _ => hend) (fun h => absurd ?_ h)
  rw [hv hk]
  simp [lg_cmp]
theorem lm_chkL (S : LC p m c cc nL s args own meth ret D tc b z) (hW : LWS D tc b z s c0 u0 σ ρ v H locs cells slots) {k th : Int32} {r : Int64} (h3 : ls[3]? = some (.val (.ref (b + 62)))) (h5 : ls[5]? = some (.val (.int k))) (h6 : ls[6]? = some (.val (.long r))) (ht : th = k) (hv : k = 0 → v = r) {off : Int} (hgo : ((pc + 23 : Nat) : Int) + off = 1184)
    (d0 : decode cc pc = .ok (.iload 5, 2)) (d1 : decode cc (pc + 2) = .ok (.if_icmp .eq 5, 3)) (d2 : decode cc (pc + 7) = .ok (.iload 5, 2)) (d3 : decode cc (pc + 9) = .ok (.ifCond .ne 14, 3)) (d4 : decode cc (pc + 12) = .ok (.aload_n 3, 1)) (d5 : decode cc (pc + 13) = .ok (.iconst 0, 1)) (d6 : decode cc (pc + 14) = .ok (.laload, 1)) (d7 : decode cc (pc + 15) = .ok (.lload 6, 2)) (d9 : decode cc (pc + 17) = .ok (.lcmp, 1)) (d10 : decode cc (pc + 18) = .ok (.ifCond .eq 5, 3)) (d11 : decode cc (pc + 23) = .ok (.goto off, 3))
    (kk : W p l e R s m args below meth c H locs cells slots Q (F0 m 1184 ls [])) : W p l e R s m args below meth c H locs cells slots Q (F0 m pc ls [.int th]) := by
  have hx := S.1.1
  have hb := S.1.2.1
  have hend : W p l e R s m args below meth c H locs cells slots Q (F0 m (pc + 23) ls []) := lv_goto (tgt := 1184) hx hb d11 hgo kk
  refine lv_iload hx hb d0 h5 ?_
  refine lv_icmp_eq (tgt := pc + 7) hx hb d1 (by omega) (fun _ => ?_) (fun h => absurd ht h)
  refine lv_iload hx hb d2 h5 ?_
  refine lv_if_ne (tgt := pc + 23) hx hb d3 (by omega) (fun _ => hend) (fun h => ?_)
  have hk : k = 0 := h
  refine lv_aload_n hx hb d4 rfl h3 ?_
  refine lv_iconst hx hb d5 rfl ?_
  refine lm_outr S hW d6 ?_
  refine lv_lload hx hb d7 h6 ?_
  refine W.lcmp hx hb d9 ?_
  refine lv_if_eq (tgt := pc + 23) hx hb d10 (by omega) (fun _ => hend) (fun h => absurd ?_ h)
  rw [hv hk]
  simp [lg_cmp]
end LRW
