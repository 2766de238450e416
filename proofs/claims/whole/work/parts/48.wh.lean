/-! from the entry to the loop (printed by gen_whole.py) -/
abbrev gsP (b z : Nat) (tc : Nat → ClassId) : List va_E := [.inr (1, [.ref (b + 1), .ref (b + 3), .ref (b + 4), .ref (b + 7), .ref (b + 14), .int 0]), .inr (2, [.ref (b + 2), .int 0]), .inl (tc 1, 64, .inl fun _ => 0), .inr (3, [.long 0]), .inr (4, [.ref (b + 5), .ref (b + 6), .int 0]), .inr (5, [.ref z, .int 0, .int 0]), .inr (5, [.ref z, .int 0, .int 0]), .inr (6, [.int (0 : Int32), .ref (b + 3), .ref (b + 4), .ref (b + 8), .ref (b + 10), .ref (b + 12), .ref (b + 13), .int (1460 : Int32), .int 0, .int 0, .int 0, .int 0, .int 0, .int 0]), .inr (7, [.ref (b + 9), .int 0, .int 0, .int 0, .int 0, .int 0, .int 0, .int 0, .int 0, .int 0, .int 0, .int 0]), .inl (tc 1, 64, .inl fun _ => 0), .inr (8, [.int (65535 : Int32), .int 0, .int 0, .int 0, .int 0, .int 0, .ref (b + 11), .int 0]), .inl (tc 4, 0, .inl fun _ => 0), .inr (9, [.int (1000 : Int32), .int 0, .int 0, .long 0, .long (-1 : Int64), .long 0, .int 0, .int 0, .long 0]), .inr (10, [.int 0, .int 0, .int (65535 : Int32), .int 0]), .inr (6, [.int (1 : Int32), .ref (b + 3), .ref (b + 4), .ref (b + 15), .ref (b + 17), .ref (b + 19), .ref (b + 20), .int (1460 : Int32), .int 0, .int 0, .int 0, .int 0, .int 0, .int 0]), .inr (7, [.ref (b + 16), .int 0, .int 0, .int 0, .int 0, .int 0, .int 0, .int 0, .int 0, .int 0, .int 0, .int 0]), .inl (tc 1, 64, .inl fun _ => 0), .inr (8, [.int (65535 : Int32), .int 0, .int 0, .int 0, .int 0, .int 0, .ref (b + 18), .int 0]), .inl (tc 4, 0, .inl fun _ => 0), .inr (9, [.int (1000 : Int32), .int 0, .int 0, .long 0, .long (-1 : Int64), .long 0, .int 0, .int 0, .long 0]), .inr (10, [.int 0, .int 0, .int (65535 : Int32), .int 0])]
abbrev gsM (b : Nat) (tc : Nat → ClassId) : List va_E := [.inr (0, [.int 0, .ref (b + (21 + 1)), .int 0, .long 0, .int 0, .int 0, .ref (b + (21 + 2)), .ref (b + (21 + 3)), .ref (b + (21 + 4)), .ref (b + (21 + 5)), .int 0, .ref (b + (21 + 6)), .ref (b + (21 + 7)), .ref (b + (21 + 8)), .ref (b + (21 + 9)), .ref (b + (21 + 10)), .ref (b + (21 + 11)), .ref (b + (21 + 12)), .ref (b + (21 + 13)), .ref (b + (21 + 14)), .ref (b + (21 + 15)), .ref (b + (21 + 16)), .ref (b + (21 + 17)), .ref (b + (21 + 18)), .ref (b + (21 + 19)), .ref (b + (21 + 20)), .ref (b + (21 + 21)), .ref (b + (21 + 22)), .ref (b + (21 + 23)), .ref (b + (21 + 24)), .ref (b + (21 + 25)), .ref (b + (21 + 26)), .ref (b + (21 + 27)), .ref (b + (21 + 28)), .ref (b + (21 + 29)), .ref (b + (21 + 30)), .ref (b + (21 + 31)), .ref (b + (21 + 32)), .ref (b + (21 + 33)), .ref (b + (21 + 34)), .ref (b + (21 + 35)), .ref (b + (21 + 36)), .ref (b + (21 + 37)), .ref (b + (21 + 38)), .ref (b + (21 + 39)), .ref (b + (21 + 40)), .int 0, .int 0, .int 0, .int 0, .int 0, .int 0, .int 0, .int 0]), .inl (tc 1, 65536, .inl fun _ => 0), .inl (tc 1, 761292, .inl fun _ => 0), .inl (tc 0, 513, .inl fun _ => 0), .inl (tc 0, 513, .inl fun _ => 0), .inl (tc 0, 512, .inl fun _ => 0), .inl (tc 2, 513, .inl fun _ => 0), .inl (tc 0, 2, .inl (uu (65535 : Int32))), .inl (tc 0, 2, .inl (uu (1460 : Int32))), .inl (tc 0, 2, .inl fun _ => 0), .inl (tc 0, 2, .inl fun _ => 0), .inl (tc 0, 2, .inl fun _ => 0), .inl (tc 0, 2, .inl fun _ => 0), .inl (tc 0, 2, .inl fun _ => 0), .inl (tc 0, 2, .inl fun _ => 0), .inl (tc 0, 2, .inl fun _ => 0), .inl (tc 0, 2, .inl fun _ => 0), .inl (tc 0, 2, .inl fun _ => 0), .inl (tc 0, 2, .inl fun _ => 0), .inl (tc 0, 2, .inl fun _ => 0), .inl (tc 0, 2, .inl fun _ => 0), .inl (tc 0, 2, .inl (uu (65535 : Int32))), .inl (tc 0, 2, .inl fun _ => 0), .inl (tc 0, 2, .inl (uu (1000 : Int32))), .inl (tc 0, 2, .inl fun _ => 0), .inl (tc 0, 2, .inl (uu (-1 : Int32))), .inl (tc 0, 2, .inl fun _ => 0), .inl (tc 0, 2, .inl fun _ => 0), .inl (tc 0, 2, .inl fun _ => 0), .inl (tc 0, 2, .inl fun _ => 0), .inl (tc 0, 2, .inl fun _ => 0), .inl (tc 0, 2, .inl fun _ => 0), .inl (tc 0, 2, .inl fun _ => 0), .inl (tc 3, 2, .inr (.inl (ull (-1 : Int64)))), .inl (tc 3, 2, .inr (.inl fun _ => 0)), .inl (tc 2, 2, .inl fun _ => 0), .inl (tc 2, 2, .inl fun _ => 0), .inl (tc 2, 2, .inl fun _ => 0), .inl (tc 1, 163840, .inl fun _ => 0), .inl (tc 1, 131072, .inl fun _ => 0), .inl (tc 2, 131072, .inl fun _ => 0)]
def sg0 : CS := (fun q => match q with | 7 => (fun j => match j with | 7 => (1460) | _ => 0) | 10 => (fun j => match j with | 0 => (65535) | _ => 0) | 12 => (fun j => match j with | 0 => (1000) | _ => 0) | 13 => (fun j => match j with | 2 => (65535) | _ => 0) | 14 => (fun j => match j with | 0 => (1) | 7 => (1460) | _ => 0) | 17 => (fun j => match j with | 0 => (65535) | _ => 0) | 19 => (fun j => match j with | 0 => (1000) | _ => 0) | 20 => (fun j => match j with | 2 => (65535) | _ => 0) | _ => (fun _ => 0), fun q => match q with | 12 => (fun j => match j with | 4 => (-1) | _ => 0) | 19 => (fun j => match j with | 4 => (-1) | _ => 0) | _ => (fun _ => 0), fun q => match q with | 1 => (fun j => match j with | 0 => some 2 | _ => none) | 8 => (fun j => match j with | 0 => some 9 | _ => none) | 10 => (fun j => match j with | 6 => some 11 | _ => none) | 15 => (fun j => match j with | 0 => some 16 | _ => none) | 17 => (fun j => match j with | 6 => some 18 | _ => none) | _ => (fun _ => none), fun q => match q with | 2 => 21 | 9 => 21 | 11 => 24 | 16 => 21 | 18 => 24 | _ => 0, fun q => match q with | 2 => 64 | 9 => 64 | 11 => 0 | 16 => 64 | 18 => 0 | _ => 0, 63, 1255284)
def rh0 : RS := (fun r => match r with | 7 => uu (65535 : Int32) | 8 => uu (1460 : Int32) | 21 => uu (65535 : Int32) | 23 => uu (1000 : Int32) | 25 => uu (-1 : Int32) | _ => (fun _ => 0), fun r => match r with | 33 => ull (-1 : Int64) | _ => (fun _ => 0))
abbrev gsL (b z : Nat) (tc : Nat → ClassId) : List va_E := gsP b z tc ++ gsM b tc ++ [oa tc 0]
theorem gs_P (b z : Nat) (tc : Nat → ClassId) (q : Nat) (h : kd sg0 q ≠ 0) : (gsL b z tc)[q]? = some (ent b z tc sg0 q (kd sg0 q)) := by
  match q, h with
  | 0, _ => rfl
  | 1, _ => rfl
  | 2, _ => rfl
  | 3, _ => rfl
  | 4, _ => rfl
  | 5, _ => rfl
  | 6, _ => rfl
  | 7, _ => rfl
  | 8, _ => rfl
  | 9, _ => rfl
  | 10, _ => rfl
  | 11, _ => rfl
  | 12, _ => rfl
  | 13, _ => rfl
  | 14, _ => rfl
  | 15, _ => rfl
  | 16, _ => rfl
  | 17, _ => rfl
  | 18, _ => rfl
  | 19, _ => rfl
  | 20, _ => rfl
  | q + 21, h =>
    exfalso
    apply h
    unfold kd
    rw [fxk_hi (by omega), if_pos rfl]
    rfl
theorem gs_M (b z : Nat) (tc : Nat → ClassId) (r : Nat) (h1 : 1 ≤ r) (h2 : r < 41) : (gsL b z tc)[21 + r]? = some (ra tc rh0 r) := by
  match r, h1, h2 with
  | 1, _, _ => rfl
  | 2, _, _ => rfl
  | 3, _, _ => rfl
  | 4, _, _ => rfl
  | 5, _, _ => rfl
  | 6, _, _ => rfl
  | 7, _, _ => rfl
  | 8, _, _ => rfl
  | 9, _, _ => rfl
  | 10, _, _ => rfl
  | 11, _, _ => rfl
  | 12, _, _ => rfl
  | 13, _, _ => rfl
  | 14, _, _ => rfl
  | 15, _, _ => rfl
  | 16, _, _ => rfl
  | 17, _, _ => rfl
  | 18, _, _ => rfl
  | 19, _, _ => rfl
  | 20, _, _ => rfl
  | 21, _, _ => rfl
  | 22, _, _ => rfl
  | 23, _, _ => rfl
  | 24, _, _ => rfl
  | 25, _, _ => rfl
  | 26, _, _ => rfl
  | 27, _, _ => rfl
  | 28, _, _ => rfl
  | 29, _, _ => rfl
  | 30, _, _ => rfl
  | 31, _, _ => rfl
  | 32, _, _ => rfl
  | 33, _, _ => rfl
  | 34, _, _ => rfl
  | 35, _, _ => rfl
  | 36, _, _ => rfl
  | 37, _, _ => rfl
  | 38, _, _ => rfl
  | 39, _, _ => rfl
  | 40, _, _ => rfl
  | r + 41, _, h => omega
theorem kd_bytes (q : Nat) (h : kd sg0 q = 21) : cI sg0 q = fun _ => 0 := by
  match q, h with
  | 0, h => exact absurd h (by decide)
  | 1, h => exact absurd h (by decide)
  | 2, _ => rfl
  | 3, h => exact absurd h (by decide)
  | 4, h => exact absurd h (by decide)
  | 5, h => exact absurd h (by decide)
  | 6, h => exact absurd h (by decide)
  | 7, h => exact absurd h (by decide)
  | 8, h => exact absurd h (by decide)
  | 9, _ => rfl
  | 10, h => exact absurd h (by decide)
  | 11, h => exact absurd h (by decide)
  | 12, h => exact absurd h (by decide)
  | 13, h => exact absurd h (by decide)
  | 14, h => exact absurd h (by decide)
  | 15, h => exact absurd h (by decide)
  | 16, _ => rfl
  | 17, h => exact absurd h (by decide)
  | 18, h => exact absurd h (by decide)
  | 19, h => exact absurd h (by decide)
  | 20, h => exact absurd h (by decide)
  | q + 21, h =>
    exfalso
    have : kd sg0 (q + 21) = 0 := by
      unfold kd
      rw [fxk_hi (by omega), if_pos rfl]
      rfl
    omega
theorem kd_obj (q : Nat) : kd sg0 q ≠ 25 := by
  match q with
  | 0 => decide
  | 1 => decide
  | 2 => decide
  | 3 => decide
  | 4 => decide
  | 5 => decide
  | 6 => decide
  | 7 => decide
  | 8 => decide
  | 9 => decide
  | 10 => decide
  | 11 => decide
  | 12 => decide
  | 13 => decide
  | 14 => decide
  | 15 => decide
  | 16 => decide
  | 17 => decide
  | 18 => decide
  | 19 => decide
  | 20 => decide
  | q + 21 =>
    have : kd sg0 (q + 21) = 0 := by
      unfold kd
      rw [fxk_hi (by omega), if_pos rfl]
      rfl
    omega
theorem lw_of {D : va_G} {tc : Nat → ClassId} {b z : Nat} {H : Heap} (hG : GW D b (gsL b z tc) H) : LW D tc b z sg0 rh0 0 H := by
  refine ⟨⟨fun q hq => hG.1 q _ (gs_P b z tc q hq), fun q h1 h2 => ?_, by decide, hG.2, by decide, by decide, fun q i hq => ?_, fun q i a hq => absurd hq (kd_obj q)⟩, ⟨?_, fun r h1 h2 => ?_⟩, hG.1 62 _ rfl⟩
  · obtain ⟨k, rfl⟩ : ∃ k, q = k + 21 := ⟨q - 21, by omega⟩
    rfl
  · rw [kd_bytes q hq]; show fits .byte (.int 0) = true; decide
  · exact hG.1 21 (.inr (0, rf (b + 21) rh0)) rfl
  · have h := hG.1 (21 + r) _ (gs_M b z tc r h1 h2)
    rw [show b + (21 + r) = b + 21 + r by omega] at h
    exact h
set_option maxRecDepth 20000 in
set_option maxHeartbeats 4000000 in
theorem law_whole {p : Program} {e : Env} {s : State} {m : MethodId} {below : List Frame} {meth : Method} {c : Code} (l : Launch) (hfl : l.flags = flags0) {a L : Nat} {xs : Nat → Int32} (hL : L ≤ 3072) (C0 : lw_At p s m meth c a L xs) (hpure : ∃ B, lawloop xs (L / 6) 0 sg0 rh0 0 = some B) : W p l e room_1 s m #[Value.ref a] below meth c s.heap [] 0 0 (lw_Z below #[Value.ref a] s) (entryFrame m ([Value.ref a] : List Value).toArray 8) := by
  obtain ⟨D, tc, z, hLK, hGK⟩ := lk_start C0
  obtain ⟨hx, hb, hr, hml, hown, hts, hX, hbl, hlocks, hgv⟩ := C0
  obtain ⟨B, hpure⟩ := hpure
  have htg : ∀ w ∈ gt, w.before #[Value.ref a] s = true := fun w hw => hts w (List.mem_filter.mp hw).1
  have S : CallFix p m c code 8 s #[Value.ref a] gt "StreamPairLaw" := ⟨hx, hb, hml, hown, htg⟩
  have S2 : LC p m c code 8 s #[Value.ref a] "StreamPairLaw" meth ret D tc s.heap.size z := ⟨S, hLK, hr, hlocks⟩
  have hl := lv_entry ([.ref a]) (n := 8) (Nat.le_of_ble_eq_true rfl)
  rw [lg_entry_eq]
  generalize (lg_sl ([.ref a]) ++ List.replicate (8 - (lg_sl ([.ref a])).length) Slot.unset).toArray = ls at hl ⊢
  have hl : lv_has ls 8 [(0, .ref a)] := hl
  have hW0 : GWS D s.heap.size s [] s.heap [] := ⟨⟨fun j e h => by simp at h, rfl⟩, va_S.rf⟩
  refine gm_new (R := LR 17 692 0 0) kx_P.y S hGK.1 hW0 wd_106 wd_107 wd_78 (fs := [.null, .null, .null, .null, .null, .int 0]) (by decide) (by decide) (by decide) d_law_0 fun H1 hW1 => ?_
  refine lv_dup hx hb d_law_3 rfl ?_
  refine gm_callI (gs' := gsP s.heap.size z tc) (a := s.heap.size + 0) (As := []) (rest := [.ref (s.heap.size + 0)]) S hGK hW1 (c_PI []) q_PI rfl wd_109 wd_108 (by decide) hl.1 rfl rfl (Nat.le_of_ble_eq_true rfl) (by decide) d_law_4 fun H2 locs2 hW2 => ?_
  refine lv_astore_n hx hb d_law_7 rfl hl (Nat.le_of_ble_eq_true rfl) rfl fun ls1 hl1 => ?_
  refine gm_new ky_M S hGK.1 hW2 wd_1240 wd_1241 wd_90 (fs := [.int 0, .null, .int 0, .long 0, .int 0, .int 0, .null, .null, .null, .null, .int 0, .null, .null, .null, .null, .null, .null, .null, .null, .null, .null, .null, .null, .null, .null, .null, .null, .null, .null, .null, .null, .null, .null, .null, .null, .null, .null, .null, .null, .null, .null, .null, .null, .null, .null, .null, .int 0, .int 0, .int 0, .int 0, .int 0, .int 0, .int 0, .int 0]) (by decide) (by decide) (by decide) d_law_8 fun H3 hW3 => ?_
  refine lv_dup hx hb d_law_11 rfl ?_
  refine gm_callI (gs' := gsP s.heap.size z tc ++ gsM s.heap.size tc) (a := s.heap.size + 21) (As := []) (rest := [.ref (s.heap.size + 21)]) S hGK hW3 (c_MI (gsP s.heap.size z tc)) q_MI rfl wd_1243 wd_1242 (by decide) hl1.1 rfl rfl (Nat.le_of_ble_eq_true rfl) (by decide) d_law_12 fun H4 locs4 hW4 => ?_
  refine lv_astore_n hx hb d_law_15 rfl hl1 (Nat.le_of_ble_eq_true rfl) rfl fun ls2 hl2 => ?_
  refine lv_iconst (v := 1) hx hb d_law_16 (by decide) ?_
  refine gm_newa (atype := .long) (ety := .long) (t := 3) (a0 := (1, .inr (.inl fun _ => 0))) S hGK.1 hW4 rfl rfl (fun U h => h) wd_1417 rfl (by decide) (by decide) (by decide) (by decide) (by decide) d_law_17 fun H5 hW5 => ?_
  refine lv_astore_n hx hb d_law_19 rfl hl2 (Nat.le_of_ble_eq_true rfl) rfl fun ls3 hl3 => ?_
  refine lv_iconst (v := 0) hx hb d_law_20 (by decide) ?_
  refine lv_istore hx hb d_law_21 hl3 (Nat.le_of_ble_eq_true rfl) rfl fun ls4 hl4 => ?_
  refine law_loop hfl S2 hX hbl hL (fun σ ρ v ls1 H1 locs1 cells1 slots1 hW1 => ?_) (L / 6) 0 sg0 rh0 0 B hpure (by omega) (by omega) ls4 H5 locs4 _ _ (lv_sub hl4 [4, 3, 2, 1, 0] rfl) ⟨lw_of hW5.1, hW5.2, rfl, rfl⟩
  refine lv_iconst (v := 1) hx hb d_law_1190 (by decide) ?_
  refine va_forget (fun q hq => hW1.2.1.2.2 q hq) ?_
  refine W.widen (k := 601024) (n := 7293034) ?_ ?_ ?_
  · have h1 := hW1.2.2.1
    have h2 := hW1.1.1.2.2.2.2.1
    omega
  · have h1 := hW1.2.2.2
    have h2 := hW1.1.1.2.2.2.2.2.1
    omega
  · exact lw_ret hx hb hr hlocks d_law_1191
