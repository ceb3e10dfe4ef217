abbrev rm_X6_draw : Room := { frames := 4, cells := 0, slots := 0, locals := 87 }
theorem yd_X6_draw : yX6_draw.cls ≠ "java/lang/invoke/MethodHandle" ∧ yX6_draw.cls ≠ "java/lang/invoke/VarHandle" ∧ (parseMethodDescriptor yX6_draw.desc).map (fun d => d.parameters.length) = some 4 := by decide +kernel
set_option maxHeartbeats 4000000 in
set_option maxRecDepth 100000 in
theorem m_X6_draw (l : Launch) (D : va_G) (ty : Nat → ClassId) (base sz : Nat) (a : Nat) (tk : Nat) (xs : Nat) (ys : Nat) (pa : Nat) (sa : Nat) (sh : Nat) (p : Int32) (tl : Int32) (f : Int32) (r : Int32) (d : Int32) (n0 : Int32) (d0 : Int32) (T : Nat → Int32) (X : Nat → Int32) (Y : Nat → Int32) (sb : Int32) (sx : Int32) (sy : Int32) (su0 : Int64) (su1 : Int64) (su2 : Int64) (su3 : Int64) (up : Int64) (so : Int64) (we : Int64)   (hr9 : 0 ≤ r.toInt) : Met l yX6_draw [.code yX6_draw cX6_draw 6 none] rm_X6_draw (yPc D ty base sz ([(a, .inr (6, [.ref tk, .ref xs, .ref ys, .int n0, .int d0])), (tk, .inl (ty 0, 360, .inl T)), (xs, .inl (ty 0, 360, .inl X)), (ys, .inl (ty 0, 360, .inl Y)), (pa, .inr (3, [.int p, .int r, .long (gSin tl).toInt64, .long (gCos tl).toInt64, .long (gSin f).toInt64, .long (gCos f).toInt64])), (sa, .inr (5, [.long su0, .long su1, .long su2, .long su3, .long up, .long so, .long we])), (sh, .inr (4, [.int sb, .int sx, .int sy]))]) [.ref a, .ref pa, .int d, .ref sa, .ref sh]) (va_Qv (fun u : (Nat → Int32) × (Nat → Int32) × (Nat → Int32) × Int64 × Int64 × Int64 × Int32 × Int32 × Int32 => trk (rG p d tl f r) (rX p d tl f r) (rY p d tl f r) u.1 u.2.1 u.2.2.1 360) (yB D (va_A ([(a, .inr (6, [.ref tk, .ref xs, .ref ys, .int n0, .int d0])), (tk, .inl (ty 0, 360, .inl T)), (xs, .inl (ty 0, 360, .inl X)), (ys, .inl (ty 0, 360, .inl Y)), (pa, .inr (3, [.int p, .int r, .long (gSin tl).toInt64, .long (gCos tl).toInt64, .long (gSin f).toInt64, .long (gCos f).toInt64])), (sa, .inr (5, [.long su0, .long su1, .long su2, .long su3, .long up, .long so, .long we])), (sh, .inr (4, [.int sb, .int sx, .int sy]))]) sz) (fun u : (Nat → Int32) × (Nat → Int32) × (Nat → Int32) × Int64 × Int64 × Int64 × Int32 × Int32 × Int32 => [(a, .inr (6, [.ref tk, .ref xs, .ref ys, .int (nI (kAll (rG p d tl f r))), .int d])), (tk, .inl (ty 0, 360, .inl u.1)), (xs, .inl (ty 0, 360, .inl u.2.1)), (ys, .inl (ty 0, 360, .inl u.2.2.1)), (pa, .inr (3, [.int p, .int r, .long (gSin tl).toInt64, .long (gCos tl).toInt64, .long (gSin f).toInt64, .long (gCos f).toInt64])), (sa, .inr (5, [.long (gSin p).toInt64, .long (gCos p).toInt64, .long (gSin (gSl d)).toInt64, .long (gCos (gSl d)).toInt64, .long u.2.2.2.1, .long u.2.2.2.2.1, .long u.2.2.2.2.2.1])), (sh, .inr (4, [.int u.2.2.2.2.2.2.1, .int u.2.2.2.2.2.2.2.1, .int u.2.2.2.2.2.2.2.2]))])) (va_A ([(a, .inr (6, [.ref tk, .ref xs, .ref ys, .int n0, .int d0])), (tk, .inl (ty 0, 360, .inl T)), (xs, .inl (ty 0, 360, .inl X)), (ys, .inl (ty 0, 360, .inl Y)), (pa, .inr (3, [.int p, .int r, .long (gSin tl).toInt64, .long (gCos tl).toInt64, .long (gSin f).toInt64, .long (gCos f).toInt64])), (sa, .inr (5, [.long su0, .long su1, .long su2, .long su3, .long up, .long so, .long we])), (sh, .inr (4, [.int sb, .int sx, .int sy]))]) sz)) rm_X6_draw.cells rm_X6_draw.slots (va_A ([(a, .inr (6, [.ref tk, .ref xs, .ref ys, .int n0, .int d0])), (tk, .inl (ty 0, 360, .inl T)), (xs, .inl (ty 0, 360, .inl X)), (ys, .inl (ty 0, 360, .inl Y)), (pa, .inr (3, [.int p, .int r, .long (gSin tl).toInt64, .long (gCos tl).toInt64, .long (gSin f).toInt64, .long (gCos f).toInt64])), (sa, .inr (5, [.long su0, .long su1, .long su2, .long su3, .long up, .long so, .long we])), (sh, .inr (4, [.int sb, .int sx, .int sy]))]) sz) := by
  refine y_start_v (cc := cX6_draw) (maxL := 6) (own := RX6) (by decide +kernel) rfl (Nat.le_of_ble_eq_true rfl) (fun pZ eZ sZ mZ aZ bZ tZ cZ AZ ls QZ hx hb hml hown hnm hG hA hAb hsz h hl hret => ?_)
  have h : yH D AZ sZ.heap [(a, .inr (6, [.ref tk, .ref xs, .ref ys, .int n0, .int d0])), (tk, .inl (ty 0, 360, .inl T)), (xs, .inl (ty 0, 360, .inl X)), (ys, .inl (ty 0, 360, .inl Y)), (pa, .inr (3, [.int p, .int r, .long (gSin tl).toInt64, .long (gCos tl).toInt64, .long (gSin f).toInt64, .long (gCos f).toInt64])), (sa, .inr (5, [.long su0, .long su1, .long su2, .long su3, .long up, .long so, .long we])), (sh, .inr (4, [.int sb, .int sx, .int sy]))] [] sZ.heap [] := h
  have hl : lv_has ls 6 [(0, .ref a), (1, .ref pa), (2, .int d), (3, .ref sa), (4, .ref sh)] := hl
  refine lv_aload_n hx hb dX6_draw_0 rfl (lv_at hl 0 rfl) ?_
  refine lv_iload_n hx hb dX6_draw_1 rfl (lv_at hl 2 rfl) ?_
  refine y_put (own := RX6) (tf := tyX6) (X' := [(a, .inr (6, [.ref tk, .ref xs, .ref ys, .int n0, .int d])), (tk, .inl (ty 0, 360, .inl T)), (xs, .inl (ty 0, 360, .inl X)), (ys, .inl (ty 0, 360, .inl Y)), (pa, .inr (3, [.int p, .int r, .long (gSin tl).toInt64, .long (gCos tl).toInt64, .long (gSin f).toInt64, .long (gCos f).toInt64])), (sa, .inr (5, [.long su0, .long su1, .long su2, .long su3, .long up, .long so, .long we])), (sh, .inr (4, [.int sb, .int sx, .int sy]))]) hx hb hown hG h 0 6 4 (T := TX6) (N := 5) rfl rfl (by decide) (yl_6 hG) ycl_6 (kw_1_155 hG) rfl rfl rfl rfl (Nat.le_of_ble_eq_true rfl) rfl dX6_draw_2 (fun H locs h => ?_)
  refine lv_aload_n hx hb dX6_draw_5 rfl (lv_at hl 0 rfl) ?_
  refine lv_iconst (v := 0) hx hb dX6_draw_6 (by decide) ?_
  refine y_put (own := RX6) (tf := tyX6) (X' := [(a, .inr (6, [.ref tk, .ref xs, .ref ys, .int 0, .int d])), (tk, .inl (ty 0, 360, .inl T)), (xs, .inl (ty 0, 360, .inl X)), (ys, .inl (ty 0, 360, .inl Y)), (pa, .inr (3, [.int p, .int r, .long (gSin tl).toInt64, .long (gCos tl).toInt64, .long (gSin f).toInt64, .long (gCos f).toInt64])), (sa, .inr (5, [.long su0, .long su1, .long su2, .long su3, .long up, .long so, .long we])), (sh, .inr (4, [.int sb, .int sx, .int sy]))]) hx hb hown hG h 0 6 3 (T := TX6) (N := 5) rfl rfl (by decide) (yl_6 hG) ycl_6 (kw_1_154 hG) rfl rfl rfl rfl (Nat.le_of_ble_eq_true rfl) rfl dX6_draw_7 (fun H locs h => ?_)
  refine lv_aload_n hx hb dX6_draw_10 rfl (lv_at hl 3 rfl) ?_
  refine lv_aload_n hx hb dX6_draw_11 rfl (lv_at hl 1 rfl) ?_
  refine y_getN hx hb hown hG h 4 3 0 (T := TX3) (N := 6) rfl rfl (by decide) (yl_3 hG) (kw_1_118 hG) rfl rfl dX6_draw_12 ?_
  refine lv_aload_n hx hb dX6_draw_15 rfl (lv_at hl 0 rfl) ?_
  refine y_get (own := RX6) hx hb hown hG h 0 6 4 (T := TX6) (N := 5) rfl rfl (by decide) (yl_6 hG) (kw_1_155 hG) rfl rfl dX6_draw_16 ?_
  refine y_callv (X' := fun _ : Unit => [(a, .inr (6, [.ref tk, .ref xs, .ref ys, .int 0, .int d])), (tk, .inl (ty 0, 360, .inl T)), (xs, .inl (ty 0, 360, .inl X)), (ys, .inl (ty 0, 360, .inl Y)), (pa, .inr (3, [.int p, .int r, .long (gSin tl).toInt64, .long (gCos tl).toInt64, .long (gSin f).toInt64, .long (gCos f).toInt64])), (sa, .inr (5, [.long (gSin p).toInt64, .long (gCos p).toInt64, .long (gSin (gSl d)).toInt64, .long (gCos (gSl d)).toInt64, .long up, .long so, .long we])), (sh, .inr (4, [.int sb, .int sx, .int sy]))]) (wc := [(sa, .inr (5, [.long su0, .long su1, .long su2, .long su3, .long up, .long so, .long we]))]) (wr := [(a, .inr (6, [.ref tk, .ref xs, .ref ys, .int 0, .int d])), (tk, .inl (ty 0, 360, .inl T)), (xs, .inl (ty 0, 360, .inl X)), (ys, .inl (ty 0, 360, .inl Y)), (pa, .inr (3, [.int p, .int r, .long (gSin tl).toInt64, .long (gCos tl).toInt64, .long (gSin f).toInt64, .long (gCos f).toInt64])), (sh, .inr (4, [.int sb, .int sx, .int sy]))]) h hA [5] [0, 1, 2, 3, 4, 6] [0, 1, 2, 3, 4, 6, 5] rfl rfl (by decide) (by decide) (by decide) (fun _ => rfl) (va_runV (own := RX6) (As := [.int p, .int d]) (rest := []) ⟨hx, hb, hml, hown, y_nil⟩ (m_X5_startDay l D ty base _ sa su0 su1 su2 su3 up so we p d   ) (y_cwV (C := RX5) 2 (kw_2_227 hG) (kw_1_3 hG) (kw_3_151 hG) (kw_2_225 hG) (kw_2_226 hG) yd_X5_startDay ⟨Nat.le_of_ble_eq_true rfl, Nat.le_of_ble_eq_true rfl⟩) (y_preV hG h hAb [5] rfl (by decide) 5 rfl rfl) rfl rfl hl.1 rfl (lv_room (Nat.le_of_ble_eq_true rfl)) dX6_draw_19 ⟨Nat.le_of_ble_eq_true rfl, Nat.le_of_ble_eq_true rfl⟩) (fun _ H locs hp_19 h => ?_)
  have h : yH D AZ sZ.heap [(a, .inr (6, [.ref tk, .ref xs, .ref ys, .int 0, .int d])), (tk, .inl (ty 0, 360, .inl T)), (xs, .inl (ty 0, 360, .inl X)), (ys, .inl (ty 0, 360, .inl Y)), (pa, .inr (3, [.int p, .int r, .long (gSin tl).toInt64, .long (gCos tl).toInt64, .long (gSin f).toInt64, .long (gCos f).toInt64])), (sa, .inr (5, [.long (gSin p).toInt64, .long (gCos p).toInt64, .long (gSin (gSl d)).toInt64, .long (gCos (gSl d)).toInt64, .long up, .long so, .long we])), (sh, .inr (4, [.int sb, .int sx, .int sy]))] [] _ _ := h
  refine lv_iconst (v := 0) hx hb dX6_draw_22 (by decide) ?_
  refine lv_istore (lv' := [(5, .int 0), (0, .ref a), (1, .ref pa), (2, .int d), (3, .ref sa), (4, .ref sh)]) hx hb dX6_draw_23 hl (by decide) rfl (fun ls hl => ?_)
  have loop_25 : ∀ (n25 : Nat) (i : Nat) (c : Nat) (T1 : Nat → Int32) (X1 : Nat → Int32) (Y1 : Nat → Int32) (u1 : Int64) (s1 : Int64) (w1 : Int64) (b1 : Int32) (x1 : Int32) (y1 : Int32), 360 - i < n25 → i ≤ 360 → c = kc (rG p d tl f r) i → trk (rG p d tl f r) (rX p d tl f r) (rY p d tl f r) T1 X1 Y1 i → ∀ (H : Heap) (locs : List Loc) (ls : Array Slot), yH D AZ sZ.heap [(a, .inr (6, [.ref tk, .ref xs, .ref ys, .int (nI c), .int d])), (tk, .inl (ty 0, 360, .inl T1)), (xs, .inl (ty 0, 360, .inl X1)), (ys, .inl (ty 0, 360, .inl Y1)), (pa, .inr (3, [.int p, .int r, .long (gSin tl).toInt64, .long (gCos tl).toInt64, .long (gSin f).toInt64, .long (gCos f).toInt64])), (sa, .inr (5, [.long (gSin p).toInt64, .long (gCos p).toInt64, .long (gSin (gSl d)).toInt64, .long (gCos (gSl d)).toInt64, .long u1, .long s1, .long w1])), (sh, .inr (4, [.int b1, .int x1, .int y1]))] [] H locs → lv_has ls 6 [(5, .int (nI i)), (0, .ref a), (1, .ref pa), (2, .int d), (3, .ref sa), (4, .ref sh)] → W pZ l eZ rm_X6_draw sZ mZ aZ bZ tZ cZ H locs (0) (0) QZ (F0 mZ 25 ls []) := by
    intro n25
    induction n25 with
    | zero => intro i c T1 X1 Y1 u1 s1 w1 b1 x1 y1 hn25; exact absurd hn25 (Nat.not_lt_zero _)
    | succ n25 ih_25 =>
      intro i c T1 X1 Y1 u1 s1 w1 b1 x1 y1 hn25 hi hc ht H locs ls h hl
      refine lv_iload hx hb dX6_draw_25 (lv_at hl 0 rfl) ?_
      refine lv_sipush (v := 360) hx hb dX6_draw_27 (by decide) ?_
      refine lv_icmp_ge (tgt := 68) hx hb dX6_draw_30 (by decide) (fun c_30 => ?_) (fun c_30 => ?_)
      · skip
        have hik : i = 360 := by
          rcases Nat.lt_or_ge i 360 with q | q
          · exact absurd c_30 (nI_ge q (by decide))
          · omega
        obtain rfl : c = kAll (rG p d tl f r) := kAll_of hc hik
        exact hret (T1, X1, Y1, u1, s1, w1, b1, x1, y1) _ _ _ _ _ _ _ _ (trk_of ht hik) h rfl (Nat.le_of_ble_eq_true rfl) (Nat.le_of_ble_eq_true rfl) dX6_draw_68
      · skip
        have hik : i < 360 := by
          rcases Nat.lt_or_ge i 360 with q | q
          · exact q
          · exact absurd (nI_le q (by omega)) c_30
        refine lv_aload_n hx hb dX6_draw_33 rfl (lv_at hl 4 rfl) ?_
        refine lv_iload hx hb dX6_draw_34 (lv_at hl 0 rfl) ?_
        refine y_callv (X' := fun u : Int64 × Int64 × Int64 => [(a, .inr (6, [.ref tk, .ref xs, .ref ys, .int (nI c), .int d])), (tk, .inl (ty 0, 360, .inl T1)), (xs, .inl (ty 0, 360, .inl X1)), (ys, .inl (ty 0, 360, .inl Y1)), (pa, .inr (3, [.int p, .int r, .long (gSin tl).toInt64, .long (gCos tl).toInt64, .long (gSin f).toInt64, .long (gCos f).toInt64])), (sa, .inr (5, [.long (gSin p).toInt64, .long (gCos p).toInt64, .long (gSin (gSl d)).toInt64, .long (gCos (gSl d)).toInt64, .long u.1, .long u.2.1, .long u.2.2])), (sh, .inr (4, [.int b1, .int x1, .int y1]))]) (wc := [(sa, .inr (5, [.long (gSin p).toInt64, .long (gCos p).toInt64, .long (gSin (gSl d)).toInt64, .long (gCos (gSl d)).toInt64, .long u1, .long s1, .long w1]))]) (wr := [(a, .inr (6, [.ref tk, .ref xs, .ref ys, .int (nI c), .int d])), (tk, .inl (ty 0, 360, .inl T1)), (xs, .inl (ty 0, 360, .inl X1)), (ys, .inl (ty 0, 360, .inl Y1)), (pa, .inr (3, [.int p, .int r, .long (gSin tl).toInt64, .long (gCos tl).toInt64, .long (gSin f).toInt64, .long (gCos f).toInt64])), (sh, .inr (4, [.int b1, .int x1, .int y1]))]) h hA [5] [0, 1, 2, 3, 4, 6] [0, 1, 2, 3, 4, 6, 5] rfl rfl (by decide) (by decide) (by decide) (fun _ => rfl) (va_runV (own := RX6) (As := [.int (nI i)]) (rest := []) ⟨hx, hb, hml, hown, y_nil⟩ (m_X5_moveTo l D ty base _ sa u1 s1 w1 p d (nI i)   ) (y_cwV (C := RX5) 1 (kw_2_234 hG) (kw_1_3 hG) (kw_3_152 hG) (kw_2_232 hG) (kw_2_233 hG) yd_X5_moveTo ⟨Nat.le_of_ble_eq_true rfl, Nat.le_of_ble_eq_true rfl⟩) (y_preV hG h hAb [5] rfl (by decide) 5 rfl rfl) rfl rfl hl.1 rfl (lv_room (Nat.le_of_ble_eq_true rfl)) dX6_draw_36 ⟨Nat.le_of_ble_eq_true rfl, Nat.le_of_ble_eq_true rfl⟩) (fun u H locs hp_36 h => ?_)
        obtain ⟨up9_36, so9_36, we9_36⟩ := u
        have hp_36 : up9_36 = gUp p d (nI i) ∧ so9_36 = gSo p d (nI i) ∧ we9_36 = gWe d (nI i) := hp_36
        obtain ⟨rfl, rfl, rfl⟩ := hp_36
        have h : yH D AZ sZ.heap [(a, .inr (6, [.ref tk, .ref xs, .ref ys, .int (nI c), .int d])), (tk, .inl (ty 0, 360, .inl T1)), (xs, .inl (ty 0, 360, .inl X1)), (ys, .inl (ty 0, 360, .inl Y1)), (pa, .inr (3, [.int p, .int r, .long (gSin tl).toInt64, .long (gCos tl).toInt64, .long (gSin f).toInt64, .long (gCos f).toInt64])), (sa, .inr (5, [.long (gSin p).toInt64, .long (gCos p).toInt64, .long (gSin (gSl d)).toInt64, .long (gCos (gSl d)).toInt64, .long (gUp p d (nI i)), .long (gSo p d (nI i)), .long (gWe d (nI i))])), (sh, .inr (4, [.int b1, .int x1, .int y1]))] [] _ _ := h
        refine lv_aload hx hb dX6_draw_39 (lv_at hl 5 rfl) ?_
        refine lv_aload_n hx hb dX6_draw_41 rfl (lv_at hl 2 rfl) ?_
        refine lv_aload_n hx hb dX6_draw_42 rfl (lv_at hl 4 rfl) ?_
        refine y_callv (X' := fun u : Int32 × Int32 × Int32 => [(a, .inr (6, [.ref tk, .ref xs, .ref ys, .int (nI c), .int d])), (tk, .inl (ty 0, 360, .inl T1)), (xs, .inl (ty 0, 360, .inl X1)), (ys, .inl (ty 0, 360, .inl Y1)), (pa, .inr (3, [.int p, .int r, .long (gSin tl).toInt64, .long (gCos tl).toInt64, .long (gSin f).toInt64, .long (gCos f).toInt64])), (sa, .inr (5, [.long ((gSin p).toInt64), .long ((gCos p).toInt64), .long ((gSin (gSl d)).toInt64), .long ((gCos (gSl d)).toInt64), .long (gUp p d (nI i)), .long (gSo p d (nI i)), .long (gWe d (nI i))])), (sh, .inr (4, [.int u.1, .int u.2.1, .int u.2.2]))]) (wc := [(sh, .inr (4, [.int b1, .int x1, .int y1])), (pa, .inr (3, [.int p, .int r, .long (gSin tl).toInt64, .long (gCos tl).toInt64, .long (gSin f).toInt64, .long (gCos f).toInt64])), (sa, .inr (5, [.long (gSin p).toInt64, .long (gCos p).toInt64, .long (gSin (gSl d)).toInt64, .long (gCos (gSl d)).toInt64, .long (gUp p d (nI i)), .long (gSo p d (nI i)), .long (gWe d (nI i))]))]) (wr := [(a, .inr (6, [.ref tk, .ref xs, .ref ys, .int (nI c), .int d])), (tk, .inl (ty 0, 360, .inl T1)), (xs, .inl (ty 0, 360, .inl X1)), (ys, .inl (ty 0, 360, .inl Y1))]) h hA [6, 4, 5] [0, 1, 2, 3] [0, 1, 2, 3, 5, 6, 4] rfl rfl (by decide) (by decide) (by decide) (fun _ => rfl) (va_runV (own := RX6) (As := [.ref pa, .ref sa]) (rest := []) ⟨hx, hb, hml, hown, y_nil⟩ (m_X4_fall l D ty base _ sh pa sa b1 x1 y1 p tl f r ((gSin p).toInt64) ((gCos p).toInt64) ((gSin (gSl d)).toInt64) ((gCos (gSl d)).toInt64) (gUp p d (nI i)) (gSo p d (nI i)) (gWe d (nI i))   hr9) (y_cwV (C := RX4) 2 (kw_3_99 hG) (kw_1_4 hG) (kw_3_153 hG) (kw_3_97 hG) (kw_3_98 hG) yd_X4_fall ⟨Nat.le_of_ble_eq_true rfl, Nat.le_of_ble_eq_true rfl⟩) (y_preV hG h hAb [6, 4, 5] rfl (by decide) 6 rfl rfl) rfl rfl hl.1 rfl (lv_room (Nat.le_of_ble_eq_true rfl)) dX6_draw_43 ⟨Nat.le_of_ble_eq_true rfl, Nat.le_of_ble_eq_true rfl⟩) (fun u H locs hp_43 h => ?_)
        obtain ⟨b9_43, x9_43, y9_43⟩ := u
        have hp_43 : b9_43 = bI (gIs (gUp p d (nI i)) (gSo p d (nI i)) (gWe d (nI i)) tl f r) ∧ (gIs (gUp p d (nI i)) (gSo p d (nI i)) (gWe d (nI i)) tl f r = true → x9_43 = gPx (gUp p d (nI i)) (gSo p d (nI i)) (gWe d (nI i)) tl f r ∧ y9_43 = gPy (gUp p d (nI i)) (gSo p d (nI i)) (gWe d (nI i)) tl f r) := hp_43
        have h : yH D AZ sZ.heap [(a, .inr (6, [.ref tk, .ref xs, .ref ys, .int (nI c), .int d])), (tk, .inl (ty 0, 360, .inl T1)), (xs, .inl (ty 0, 360, .inl X1)), (ys, .inl (ty 0, 360, .inl Y1)), (pa, .inr (3, [.int p, .int r, .long (gSin tl).toInt64, .long (gCos tl).toInt64, .long (gSin f).toInt64, .long (gCos f).toInt64])), (sa, .inr (5, [.long ((gSin p).toInt64), .long ((gCos p).toInt64), .long ((gSin (gSl d)).toInt64), .long ((gCos (gSl d)).toInt64), .long (gUp p d (nI i)), .long (gSo p d (nI i)), .long (gWe d (nI i))])), (sh, .inr (4, [.int b9_43, .int x9_43, .int y9_43]))] [] _ _ := h
        refine lv_aload hx hb dX6_draw_46 (lv_at hl 5 rfl) ?_
        refine y_getN hx hb hown hG h 6 4 0 (T := TX4) (N := 3) rfl rfl (by decide) (yl_4 hG) (kw_1_93 hG) rfl rfl dX6_draw_48 ?_
        refine lv_if_eq (tgt := 62) hx hb dX6_draw_51 (by decide) (fun c_51 => ?_) (fun c_51 => ?_)
        · skip
          have hg : (rG p d tl f r) i = false := bI_f (b := (rG p d tl f r) i) (hp_43.1.symm.trans c_51)
          refine lv_iinc (v := nI (i + 1)) (lv' := [(5, .int (nI (i + 1))), (0, .ref a), (1, .ref pa), (2, .int d), (3, .ref sa), (4, .ref sh)]) hx hb dX6_draw_62 hl (k := 0) rfl (y_inc i) (by decide) rfl (fun ls hl => ?_)
          refine lv_goto (tgt := 25) hx hb dX6_draw_65 (by decide) ?_
          exact ih_25 (i + 1) c T1 X1 Y1 (gUp p d (nI i)) (gSo p d (nI i)) (gWe d (nI i)) b9_43 x9_43 y9_43 (by omega) (by omega) (by rw [kc_no hg]; exact hc) (trk_no ht hg) _ _ _ h (lv_sub hl [0, 1, 2, 3, 4, 5] rfl)
        · skip
          have hg : (rG p d tl f r) i = true := bI_t (b := (rG p d tl f r) i) (fun q => c_51 (hp_43.1.trans q))
          have hxy := hp_43.2 hg
          have hcl : c < 360 := by have := kc_le (rG p d tl f r) i; omega
          refine lv_aload_n hx hb dX6_draw_54 rfl (lv_at hl 1 rfl) ?_
          refine lv_iload hx hb dX6_draw_55 (lv_at hl 0 rfl) ?_
          refine lv_aload hx hb dX6_draw_57 (lv_at hl 5 rfl) ?_
          refine y_callv (X' := fun _ : Unit => [(a, .inr (6, [.ref tk, .ref xs, .ref ys, .int (nI (c + 1)), .int d])), (tk, .inl (ty 0, 360, .inl (upd T1 c (nI i)))), (xs, .inl (ty 0, 360, .inl (upd X1 c x9_43))), (ys, .inl (ty 0, 360, .inl (upd Y1 c y9_43))), (pa, .inr (3, [.int p, .int r, .long (gSin tl).toInt64, .long (gCos tl).toInt64, .long (gSin f).toInt64, .long (gCos f).toInt64])), (sa, .inr (5, [.long ((gSin p).toInt64), .long ((gCos p).toInt64), .long ((gSin (gSl d)).toInt64), .long ((gCos (gSl d)).toInt64), .long (gUp p d (nI i)), .long (gSo p d (nI i)), .long (gWe d (nI i))])), (sh, .inr (4, [.int b9_43, .int x9_43, .int y9_43]))]) (wc := [(a, .inr (6, [.ref tk, .ref xs, .ref ys, .int (nI c), .int d])), (tk, .inl (ty 0, 360, .inl T1)), (xs, .inl (ty 0, 360, .inl X1)), (ys, .inl (ty 0, 360, .inl Y1)), (sh, .inr (4, [.int b9_43, .int x9_43, .int y9_43]))]) (wr := [(pa, .inr (3, [.int p, .int r, .long (gSin tl).toInt64, .long (gCos tl).toInt64, .long (gSin f).toInt64, .long (gCos f).toInt64])), (sa, .inr (5, [.long ((gSin p).toInt64), .long ((gCos p).toInt64), .long ((gSin (gSl d)).toInt64), .long ((gCos (gSl d)).toInt64), .long (gUp p d (nI i)), .long (gSo p d (nI i)), .long (gWe d (nI i))]))]) h hA [0, 1, 2, 3, 6] [4, 5] [2, 3, 4, 5, 0, 1, 6] rfl rfl (by decide) (by decide) (by decide) (fun _ => rfl) (va_runV (own := RX6) (As := [.int (nI i), .ref sh]) (rest := []) ⟨hx, hb, hml, hown, y_nil⟩ (m_X6_add l D ty base _ a tk xs ys sh c d (nI i) T1 X1 Y1 b9_43 x9_43 y9_43   hcl) (y_cwV (C := RX6) 2 (kw_3_157 hG) (kw_1_6 hG) (kw_3_154 hG) (kw_3_156 hG) (kw_0_14 hG) yd_X6_add ⟨Nat.le_of_ble_eq_true rfl, Nat.le_of_ble_eq_true rfl⟩) (y_preV hG h hAb [0, 1, 2, 3, 6] rfl (by decide) 0 rfl rfl) rfl rfl hl.1 rfl (lv_room (Nat.le_of_ble_eq_true rfl)) dX6_draw_59 ⟨Nat.le_of_ble_eq_true rfl, Nat.le_of_ble_eq_true rfl⟩) (fun _ H locs hp_59 h => ?_)
          have h : yH D AZ sZ.heap [(a, .inr (6, [.ref tk, .ref xs, .ref ys, .int (nI (c + 1)), .int d])), (tk, .inl (ty 0, 360, .inl (upd T1 c (nI i)))), (xs, .inl (ty 0, 360, .inl (upd X1 c x9_43))), (ys, .inl (ty 0, 360, .inl (upd Y1 c y9_43))), (pa, .inr (3, [.int p, .int r, .long (gSin tl).toInt64, .long (gCos tl).toInt64, .long (gSin f).toInt64, .long (gCos f).toInt64])), (sa, .inr (5, [.long ((gSin p).toInt64), .long ((gCos p).toInt64), .long ((gSin (gSl d)).toInt64), .long ((gCos (gSl d)).toInt64), .long (gUp p d (nI i)), .long (gSo p d (nI i)), .long (gWe d (nI i))])), (sh, .inr (4, [.int b9_43, .int x9_43, .int y9_43]))] [] _ _ := h
          refine lv_iinc (v := nI (i + 1)) (lv' := [(5, .int (nI (i + 1))), (0, .ref a), (1, .ref pa), (2, .int d), (3, .ref sa), (4, .ref sh)]) hx hb dX6_draw_62 hl (k := 0) rfl (y_inc i) (by decide) rfl (fun ls hl => ?_)
          refine lv_goto (tgt := 25) hx hb dX6_draw_65 (by decide) ?_
          exact ih_25 (i + 1) (c + 1) (upd T1 c (nI i)) (upd X1 c x9_43) (upd Y1 c y9_43) (gUp p d (nI i)) (gSo p d (nI i)) (gWe d (nI i)) b9_43 x9_43 y9_43 (by omega) (by omega) (by rw [kc_yes hg, ← hc]) (by rw [hc]; exact trk_yes ht hxy.1 hxy.2) _ _ _ h (lv_sub hl [0, 1, 2, 3, 4, 5] rfl)
  exact loop_25 361 0 0 T X Y up so we sb sx sy (by omega) (Nat.zero_le _) rfl trk_0 _ _ _ h (lv_sub hl [0, 1, 2, 3, 4, 5] rfl)

abbrev rm_X1_init : Room := { frames := 1, cells := 4, slots := 24, locals := 20 }
theorem yd_X1_init : yX1_init.cls ≠ "java/lang/invoke/MethodHandle" ∧ yX1_init.cls ≠ "java/lang/invoke/VarHandle" ∧ (parseMethodDescriptor yX1_init.desc).map (fun d => d.parameters.length) = some 0 := by decide +kernel
set_option maxHeartbeats 4000000 in
set_option maxRecDepth 100000 in
theorem m_X1_init (l : Launch) (D : va_G) (ty : Nat → ClassId) (base sz : Nat) (a : Nat) (n0 : Int32)    : Met l yX1_init [.code yX1_init cX1_init 1 none] rm_X1_init (yPc D ty base sz ([(a, .inr (1, [.null, .null, .null, .null, .int n0]))]) [.ref a]) (va_Qv (fun u : Nat × Nat × Nat × Nat => True) (yB D (va_A ([(a, .inr (1, [.null, .null, .null, .null, .int n0]))]) sz) (fun u : Nat × Nat × Nat × Nat => [(a, .inr (1, [.ref u.1, .ref u.2.1, .ref u.2.2.1, .ref u.2.2.2, .int n0])), (u.1, .inl (ty 0, 6, .inl (fun _ => 0))), (u.2.1, .inl (ty 0, 6, .inl (fun _ => 0))), (u.2.2.1, .inl (ty 0, 6, .inl (fun _ => 0))), (u.2.2.2, .inl (ty 0, 6, .inl (fun _ => 0)))])) (va_A ([(a, .inr (1, [.null, .null, .null, .null, .int n0]))]) sz)) rm_X1_init.cells rm_X1_init.slots (va_A ([(a, .inr (1, [.null, .null, .null, .null, .int n0]))]) sz) := by
  refine y_start_v (cc := cX1_init) (maxL := 1) (own := RX1) (by decide +kernel) rfl (Nat.le_of_ble_eq_true rfl) (fun pZ eZ sZ mZ aZ bZ tZ cZ AZ ls QZ hx hb hml hown hnm hG hA hAb hsz h hl hret => ?_)
  have h : yH D AZ sZ.heap [(a, .inr (1, [.null, .null, .null, .null, .int n0]))] [] sZ.heap [] := h
  have hl : lv_has ls 1 [(0, .ref a)] := hl
  refine lv_aload_n hx hb dX1_init_0 rfl (lv_at hl 0 rfl) ?_
  refine W.objInit hx hb hown (kw_1_33 hG).b (kw_1_22 hG).b (kw_1_23 hG).b rfl (by rw [hml]; exact hl.1) rfl dX1_init_1 (Nat.le_of_ble_eq_true rfl) (Nat.le_of_ble_eq_true rfl) ?_
  refine W.eq (g2 := F0 mZ 4 ls []) rfl ?_
  refine lv_aload_n hx hb dX1_init_4 rfl (lv_at hl 0 rfl) ?_
  refine lv_bipush (v := 6) hx hb dX1_init_5 (by decide) ?_
  refine y_newa (atype := .int) (ft := .int) (a0 := (6, .inl (fun _ => 0))) hx hb hG h hA 0 (kw_1_51 hG) rfl (fun C hC => by cases hC) rfl (fun _ => rfl) (by decide) (by decide) (by decide) (Nat.le_of_ble_eq_true rfl) (Nat.le_of_ble_eq_true rfl) dX1_init_7 (fun q1 H h => ?_)
  have h : yH D AZ sZ.heap [(a, .inr (1, [.null, .null, .null, .null, .int n0])), (q1, .inl (ty 0, 6, .inl (fun _ => 0)))] [] _ _ := h
  refine y_putF (own := RX1) (tf := tyX1) (X' := [(a, .inr (1, [.ref q1, .null, .null, .null, .int n0])), (q1, .inl (ty 0, 6, .inl (fun _ => 0)))]) hx hb hown hG h 0 1 0 (T := TX1) (N := 5) rfl rfl (by decide) (yl_1 hG) ycl_1 (kw_1_34 hG) rfl rfl hnm rfl rfl (Nat.le_of_ble_eq_true rfl) rfl dX1_init_9 (fun H locs h => ?_)
  refine lv_aload_n hx hb dX1_init_12 rfl (lv_at hl 0 rfl) ?_
  refine lv_bipush (v := 6) hx hb dX1_init_13 (by decide) ?_
  refine y_newa (atype := .int) (ft := .int) (a0 := (6, .inl (fun _ => 0))) hx hb hG h hA 0 (kw_1_51 hG) rfl (fun C hC => by cases hC) rfl (fun _ => rfl) (by decide) (by decide) (by decide) (Nat.le_of_ble_eq_true rfl) (Nat.le_of_ble_eq_true rfl) dX1_init_15 (fun q2 H h => ?_)
  have h : yH D AZ sZ.heap [(a, .inr (1, [.ref q1, .null, .null, .null, .int n0])), (q1, .inl (ty 0, 6, .inl (fun _ => 0))), (q2, .inl (ty 0, 6, .inl (fun _ => 0)))] [] _ _ := h
  refine y_putF (own := RX1) (tf := tyX1) (X' := [(a, .inr (1, [.ref q1, .ref q2, .null, .null, .int n0])), (q1, .inl (ty 0, 6, .inl (fun _ => 0))), (q2, .inl (ty 0, 6, .inl (fun _ => 0)))]) hx hb hown hG h 0 1 1 (T := TX1) (N := 5) rfl rfl (by decide) (yl_1 hG) ycl_1 (kw_1_35 hG) rfl rfl hnm rfl rfl (Nat.le_of_ble_eq_true rfl) rfl dX1_init_17 (fun H locs h => ?_)
  refine lv_aload_n hx hb dX1_init_20 rfl (lv_at hl 0 rfl) ?_
  refine lv_bipush (v := 6) hx hb dX1_init_21 (by decide) ?_
  refine y_newa (atype := .int) (ft := .int) (a0 := (6, .inl (fun _ => 0))) hx hb hG h hA 0 (kw_1_51 hG) rfl (fun C hC => by cases hC) rfl (fun _ => rfl) (by decide) (by decide) (by decide) (Nat.le_of_ble_eq_true rfl) (Nat.le_of_ble_eq_true rfl) dX1_init_23 (fun q3 H h => ?_)
  have h : yH D AZ sZ.heap [(a, .inr (1, [.ref q1, .ref q2, .null, .null, .int n0])), (q1, .inl (ty 0, 6, .inl (fun _ => 0))), (q2, .inl (ty 0, 6, .inl (fun _ => 0))), (q3, .inl (ty 0, 6, .inl (fun _ => 0)))] [] _ _ := h
  refine y_putF (own := RX1) (tf := tyX1) (X' := [(a, .inr (1, [.ref q1, .ref q2, .ref q3, .null, .int n0])), (q1, .inl (ty 0, 6, .inl (fun _ => 0))), (q2, .inl (ty 0, 6, .inl (fun _ => 0))), (q3, .inl (ty 0, 6, .inl (fun _ => 0)))]) hx hb hown hG h 0 1 2 (T := TX1) (N := 5) rfl rfl (by decide) (yl_1 hG) ycl_1 (kw_1_36 hG) rfl rfl hnm rfl rfl (Nat.le_of_ble_eq_true rfl) rfl dX1_init_25 (fun H locs h => ?_)
  refine lv_aload_n hx hb dX1_init_28 rfl (lv_at hl 0 rfl) ?_
  refine lv_bipush (v := 6) hx hb dX1_init_29 (by decide) ?_
  refine y_newa (atype := .int) (ft := .int) (a0 := (6, .inl (fun _ => 0))) hx hb hG h hA 0 (kw_1_51 hG) rfl (fun C hC => by cases hC) rfl (fun _ => rfl) (by decide) (by decide) (by decide) (Nat.le_of_ble_eq_true rfl) (Nat.le_of_ble_eq_true rfl) dX1_init_31 (fun q4 H h => ?_)
  have h : yH D AZ sZ.heap [(a, .inr (1, [.ref q1, .ref q2, .ref q3, .null, .int n0])), (q1, .inl (ty 0, 6, .inl (fun _ => 0))), (q2, .inl (ty 0, 6, .inl (fun _ => 0))), (q3, .inl (ty 0, 6, .inl (fun _ => 0))), (q4, .inl (ty 0, 6, .inl (fun _ => 0)))] [] _ _ := h
  refine y_putF (own := RX1) (tf := tyX1) (X' := [(a, .inr (1, [.ref q1, .ref q2, .ref q3, .ref q4, .int n0])), (q1, .inl (ty 0, 6, .inl (fun _ => 0))), (q2, .inl (ty 0, 6, .inl (fun _ => 0))), (q3, .inl (ty 0, 6, .inl (fun _ => 0))), (q4, .inl (ty 0, 6, .inl (fun _ => 0)))]) hx hb hown hG h 0 1 3 (T := TX1) (N := 5) rfl rfl (by decide) (yl_1 hG) ycl_1 (kw_1_37 hG) rfl rfl hnm rfl rfl (Nat.le_of_ble_eq_true rfl) rfl dX1_init_33 (fun H locs h => ?_)
  exact hret (q1, q2, q3, q4) _ _ _ _ _ _ _ _ trivial h rfl (Nat.le_of_ble_eq_true rfl) (Nat.le_of_ble_eq_true rfl) dX1_init_36

abbrev rm_X1_add : Room := { frames := 0, cells := 0, slots := 0, locals := 0 }
theorem yd_X1_add : yX1_add.cls ≠ "java/lang/invoke/MethodHandle" ∧ yX1_add.cls ≠ "java/lang/invoke/VarHandle" ∧ (parseMethodDescriptor yX1_add.desc).map (fun d => d.parameters.length) = some 4 := by decide +kernel
set_option maxHeartbeats 4000000 in
set_option maxRecDepth 100000 in
theorem m_X1_add (l : Launch) (D : va_G) (ty : Nat → ClassId) (base sz : Nat) (a : Nat) (q1 : Nat) (q2 : Nat) (q3 : Nat) (q4 : Nat) (c : Nat) (d : Int32) (t : Int32) (x : Int32) (y : Int32) (fd : Nat → Int32) (ft : Nat → Int32) (fx : Nat → Int32) (fy : Nat → Int32)   (hc : c < 6) : Met l yX1_add [.code yX1_add cX1_add 5 none] rm_X1_add (yPc D ty base sz ([(a, .inr (1, [.ref q1, .ref q2, .ref q3, .ref q4, .int (nI c)])), (q1, .inl (ty 0, 6, .inl fd)), (q2, .inl (ty 0, 6, .inl ft)), (q3, .inl (ty 0, 6, .inl fx)), (q4, .inl (ty 0, 6, .inl fy))]) [.ref a, .int d, .int t, .int x, .int y]) (va_Qv (fun _ : Unit => True) (yB D (va_A ([(a, .inr (1, [.ref q1, .ref q2, .ref q3, .ref q4, .int (nI c)])), (q1, .inl (ty 0, 6, .inl fd)), (q2, .inl (ty 0, 6, .inl ft)), (q3, .inl (ty 0, 6, .inl fx)), (q4, .inl (ty 0, 6, .inl fy))]) sz) (fun _ : Unit => [(a, .inr (1, [.ref q1, .ref q2, .ref q3, .ref q4, .int (nI (c + 1))])), (q1, .inl (ty 0, 6, .inl (upd fd c d))), (q2, .inl (ty 0, 6, .inl (upd ft c t))), (q3, .inl (ty 0, 6, .inl (upd fx c x))), (q4, .inl (ty 0, 6, .inl (upd fy c y)))])) (va_A ([(a, .inr (1, [.ref q1, .ref q2, .ref q3, .ref q4, .int (nI c)])), (q1, .inl (ty 0, 6, .inl fd)), (q2, .inl (ty 0, 6, .inl ft)), (q3, .inl (ty 0, 6, .inl fx)), (q4, .inl (ty 0, 6, .inl fy))]) sz)) rm_X1_add.cells rm_X1_add.slots (va_A ([(a, .inr (1, [.ref q1, .ref q2, .ref q3, .ref q4, .int (nI c)])), (q1, .inl (ty 0, 6, .inl fd)), (q2, .inl (ty 0, 6, .inl ft)), (q3, .inl (ty 0, 6, .inl fx)), (q4, .inl (ty 0, 6, .inl fy))]) sz) := by
  refine y_start_v (cc := cX1_add) (maxL := 5) (own := RX1) (by decide +kernel) rfl (Nat.le_of_ble_eq_true rfl) (fun pZ eZ sZ mZ aZ bZ tZ cZ AZ ls QZ hx hb hml hown hnm hG hA hAb hsz h hl hret => ?_)
  have h : yH D AZ sZ.heap [(a, .inr (1, [.ref q1, .ref q2, .ref q3, .ref q4, .int (nI c)])), (q1, .inl (ty 0, 6, .inl fd)), (q2, .inl (ty 0, 6, .inl ft)), (q3, .inl (ty 0, 6, .inl fx)), (q4, .inl (ty 0, 6, .inl fy))] [] sZ.heap [] := h
  have hl : lv_has ls 5 [(0, .ref a), (1, .int d), (2, .int t), (3, .int x), (4, .int y)] := hl
  refine lv_aload_n hx hb dX1_add_0 rfl (lv_at hl 0 rfl) ?_
  refine y_get (own := RX1) hx hb hown hG h 0 1 4 (T := TX1) (N := 5) rfl rfl (by decide) (yl_1 hG) (kw_1_38 hG) rfl rfl dX1_add_1 ?_
  refine lv_if_lt (tgt := 67) hx hb dX1_add_4 (by decide) (fun c_4 => ?_) (fun c_4 => ?_)
  · exact absurd c_4 (nI_pos (by omega))
  · skip
    refine lv_aload_n hx hb dX1_add_7 rfl (lv_at hl 0 rfl) ?_
    refine y_get (own := RX1) hx hb hown hG h 0 1 4 (T := TX1) (N := 5) rfl rfl (by decide) (yl_1 hG) (kw_1_38 hG) rfl rfl dX1_add_8 ?_
    refine lv_bipush (v := 6) hx hb dX1_add_11 (by decide) ?_
    refine lv_icmp_ge (tgt := 67) hx hb dX1_add_13 (by decide) (fun c_13 => ?_) (fun c_13 => ?_)
    · exact absurd c_13 (nI_ge hc (by decide))
    · skip
      refine lv_aload_n hx hb dX1_add_16 rfl (lv_at hl 0 rfl) ?_
      refine y_get (own := RX1) hx hb hown hG h 0 1 0 (T := TX1) (N := 5) rfl rfl (by decide) (yl_1 hG) (kw_1_34 hG) rfl rfl dX1_add_17 ?_
      refine lv_aload_n hx hb dX1_add_20 rfl (lv_at hl 0 rfl) ?_
      refine y_get (own := RX1) hx hb hown hG h 0 1 4 (T := TX1) (N := 5) rfl rfl (by decide) (yl_1 hG) (kw_1_38 hG) rfl rfl dX1_add_21 ?_
      refine lv_iload_n hx hb dX1_add_24 rfl (lv_at hl 1 rfl) ?_
      refine y_iast (X' := [(a, .inr (1, [.ref q1, .ref q2, .ref q3, .ref q4, .int (nI c)])), (q1, .inl (ty 0, 6, .inl (upd fd c d))), (q2, .inl (ty 0, 6, .inl ft)), (q3, .inl (ty 0, 6, .inl fx)), (q4, .inl (ty 0, 6, .inl fy))]) hx hb hG h 1 rfl (vp_in_nI hc (by decide)) (by rw [y_clamp _ (by omega)] <;> rfl) dX1_add_25 (fun H locs h => ?_)
      refine lv_aload_n hx hb dX1_add_26 rfl (lv_at hl 0 rfl) ?_
      refine y_get (own := RX1) hx hb hown hG h 0 1 1 (T := TX1) (N := 5) rfl rfl (by decide) (yl_1 hG) (kw_1_35 hG) rfl rfl dX1_add_27 ?_
      refine lv_aload_n hx hb dX1_add_30 rfl (lv_at hl 0 rfl) ?_
      refine y_get (own := RX1) hx hb hown hG h 0 1 4 (T := TX1) (N := 5) rfl rfl (by decide) (yl_1 hG) (kw_1_38 hG) rfl rfl dX1_add_31 ?_
      refine lv_iload_n hx hb dX1_add_34 rfl (lv_at hl 2 rfl) ?_
      refine y_iast (X' := [(a, .inr (1, [.ref q1, .ref q2, .ref q3, .ref q4, .int (nI c)])), (q1, .inl (ty 0, 6, .inl (upd fd c d))), (q2, .inl (ty 0, 6, .inl (upd ft c t))), (q3, .inl (ty 0, 6, .inl fx)), (q4, .inl (ty 0, 6, .inl fy))]) hx hb hG h 2 rfl (vp_in_nI hc (by decide)) (by rw [y_clamp _ (by omega)] <;> rfl) dX1_add_35 (fun H locs h => ?_)
      refine lv_aload_n hx hb dX1_add_36 rfl (lv_at hl 0 rfl) ?_
      refine y_get (own := RX1) hx hb hown hG h 0 1 2 (T := TX1) (N := 5) rfl rfl (by decide) (yl_1 hG) (kw_1_36 hG) rfl rfl dX1_add_37 ?_
      refine lv_aload_n hx hb dX1_add_40 rfl (lv_at hl 0 rfl) ?_
      refine y_get (own := RX1) hx hb hown hG h 0 1 4 (T := TX1) (N := 5) rfl rfl (by decide) (yl_1 hG) (kw_1_38 hG) rfl rfl dX1_add_41 ?_
      refine lv_iload_n hx hb dX1_add_44 rfl (lv_at hl 3 rfl) ?_
      refine y_iast (X' := [(a, .inr (1, [.ref q1, .ref q2, .ref q3, .ref q4, .int (nI c)])), (q1, .inl (ty 0, 6, .inl (upd fd c d))), (q2, .inl (ty 0, 6, .inl (upd ft c t))), (q3, .inl (ty 0, 6, .inl (upd fx c x))), (q4, .inl (ty 0, 6, .inl fy))]) hx hb hG h 3 rfl (vp_in_nI hc (by decide)) (by rw [y_clamp _ (by omega)] <;> rfl) dX1_add_45 (fun H locs h => ?_)
      refine lv_aload_n hx hb dX1_add_46 rfl (lv_at hl 0 rfl) ?_
      refine y_get (own := RX1) hx hb hown hG h 0 1 3 (T := TX1) (N := 5) rfl rfl (by decide) (yl_1 hG) (kw_1_37 hG) rfl rfl dX1_add_47 ?_
      refine lv_aload_n hx hb dX1_add_50 rfl (lv_at hl 0 rfl) ?_
      refine y_get (own := RX1) hx hb hown hG h 0 1 4 (T := TX1) (N := 5) rfl rfl (by decide) (yl_1 hG) (kw_1_38 hG) rfl rfl dX1_add_51 ?_
      refine lv_iload hx hb dX1_add_54 (lv_at hl 4 rfl) ?_
      refine y_iast (X' := [(a, .inr (1, [.ref q1, .ref q2, .ref q3, .ref q4, .int (nI c)])), (q1, .inl (ty 0, 6, .inl (upd fd c d))), (q2, .inl (ty 0, 6, .inl (upd ft c t))), (q3, .inl (ty 0, 6, .inl (upd fx c x))), (q4, .inl (ty 0, 6, .inl (upd fy c y)))]) hx hb hG h 4 rfl (vp_in_nI hc (by decide)) (by rw [y_clamp _ (by omega)] <;> rfl) dX1_add_56 (fun H locs h => ?_)
      refine lv_aload_n hx hb dX1_add_57 rfl (lv_at hl 0 rfl) ?_
      refine lv_dup hx hb dX1_add_58 rfl ?_
      refine y_get (own := RX1) hx hb hown hG h 0 1 4 (T := TX1) (N := 5) rfl rfl (by decide) (yl_1 hG) (kw_1_38 hG) rfl rfl dX1_add_59 ?_
      refine lv_iconst (v := 1) hx hb dX1_add_62 (by decide) ?_
      refine lv_iadd hx hb dX1_add_63 ?_
      refine lv_topi (fun v1 e_v1 => ?_)
      obtain rfl : v1 = nI (c + 1) := by rw [e_v1]; exact (nI_1 c)
      clear e_v1
      refine y_put (own := RX1) (tf := tyX1) (X' := [(a, .inr (1, [.ref q1, .ref q2, .ref q3, .ref q4, .int (nI (c + 1))])), (q1, .inl (ty 0, 6, .inl (upd fd c d))), (q2, .inl (ty 0, 6, .inl (upd ft c t))), (q3, .inl (ty 0, 6, .inl (upd fx c x))), (q4, .inl (ty 0, 6, .inl (upd fy c y)))]) hx hb hown hG h 0 1 4 (T := TX1) (N := 5) rfl rfl (by decide) (yl_1 hG) ycl_1 (kw_1_38 hG) rfl rfl rfl rfl (Nat.le_of_ble_eq_true rfl) rfl dX1_add_64 (fun H locs h => ?_)
      exact hret () _ _ _ _ _ _ _ _ trivial h rfl (Nat.le_of_ble_eq_true rfl) (Nat.le_of_ble_eq_true rfl) dX1_add_67

abbrev rm_X1_areAllOf : Room := { frames := 4, cells := 0, slots := 0, locals := 87 }
theorem yd_X1_areAllOf : yX1_areAllOf.cls ≠ "java/lang/invoke/MethodHandle" ∧ yX1_areAllOf.cls ≠ "java/lang/invoke/VarHandle" ∧ (parseMethodDescriptor yX1_areAllOf.desc).map (fun d => d.parameters.length) = some 3 := by decide +kernel
set_option maxHeartbeats 4000000 in
set_option maxRecDepth 100000 in
theorem m_X1_areAllOf (l : Launch) (D : va_G) (ty : Nat → ClassId) (base sz : Nat) (a : Nat) (q1 : Nat) (q2 : Nat) (q3 : Nat) (q4 : Nat) (pa : Nat) (sa : Nat) (sh : Nat) (k : Nat) (p : Int32) (tl : Int32) (f : Int32) (ro : Int32) (fd : Nat → Int32) (ft : Nat → Int32) (fx : Nat → Int32) (fy : Nat → Int32) (sb : Int32) (sx : Int32) (sy : Int32) (su0 : Int64) (su1 : Int64) (su2 : Int64) (su3 : Int64) (up : Int64) (so : Int64) (we : Int64)   (hr9 : 0 ≤ ro.toInt) (hk : k ≤ 6) : Met l yX1_areAllOf [.code yX1_areAllOf cX1_areAllOf 5 (some (.boolean))] rm_X1_areAllOf (yPc D ty base sz ([(a, .inr (1, [.ref q1, .ref q2, .ref q3, .ref q4, .int (nI k)])), (q1, .inl (ty 0, 6, .inl fd)), (q2, .inl (ty 0, 6, .inl ft)), (q3, .inl (ty 0, 6, .inl fx)), (q4, .inl (ty 0, 6, .inl fy)), (pa, .inr (3, [.int p, .int ro, .long (gSin tl).toInt64, .long (gCos tl).toInt64, .long (gSin f).toInt64, .long (gCos f).toInt64])), (sa, .inr (5, [.long su0, .long su1, .long su2, .long su3, .long up, .long so, .long we])), (sh, .inr (4, [.int sb, .int sx, .int sy]))]) [.ref a, .ref pa, .ref sa, .ref sh]) (va_Qi (fun (r : Int32) (u : Int64 × Int64 × Int64 × Int64 × Int64 × Int64 × Int64 × Int32 × Int32 × Int32) => r = bI (aF (fM p tl f ro fd ft fx fy) k)) (yB D (va_A ([(a, .inr (1, [.ref q1, .ref q2, .ref q3, .ref q4, .int (nI k)])), (q1, .inl (ty 0, 6, .inl fd)), (q2, .inl (ty 0, 6, .inl ft)), (q3, .inl (ty 0, 6, .inl fx)), (q4, .inl (ty 0, 6, .inl fy)), (pa, .inr (3, [.int p, .int ro, .long (gSin tl).toInt64, .long (gCos tl).toInt64, .long (gSin f).toInt64, .long (gCos f).toInt64])), (sa, .inr (5, [.long su0, .long su1, .long su2, .long su3, .long up, .long so, .long we])), (sh, .inr (4, [.int sb, .int sx, .int sy]))]) sz) (fun u : Int64 × Int64 × Int64 × Int64 × Int64 × Int64 × Int64 × Int32 × Int32 × Int32 => [(a, .inr (1, [.ref q1, .ref q2, .ref q3, .ref q4, .int (nI k)])), (q1, .inl (ty 0, 6, .inl fd)), (q2, .inl (ty 0, 6, .inl ft)), (q3, .inl (ty 0, 6, .inl fx)), (q4, .inl (ty 0, 6, .inl fy)), (pa, .inr (3, [.int p, .int ro, .long (gSin tl).toInt64, .long (gCos tl).toInt64, .long (gSin f).toInt64, .long (gCos f).toInt64])), (sa, .inr (5, [.long u.1, .long u.2.1, .long u.2.2.1, .long u.2.2.2.1, .long u.2.2.2.2.1, .long u.2.2.2.2.2.1, .long u.2.2.2.2.2.2.1])), (sh, .inr (4, [.int u.2.2.2.2.2.2.2.1, .int u.2.2.2.2.2.2.2.2.1, .int u.2.2.2.2.2.2.2.2.2]))])) (va_A ([(a, .inr (1, [.ref q1, .ref q2, .ref q3, .ref q4, .int (nI k)])), (q1, .inl (ty 0, 6, .inl fd)), (q2, .inl (ty 0, 6, .inl ft)), (q3, .inl (ty 0, 6, .inl fx)), (q4, .inl (ty 0, 6, .inl fy)), (pa, .inr (3, [.int p, .int ro, .long (gSin tl).toInt64, .long (gCos tl).toInt64, .long (gSin f).toInt64, .long (gCos f).toInt64])), (sa, .inr (5, [.long su0, .long su1, .long su2, .long su3, .long up, .long so, .long we])), (sh, .inr (4, [.int sb, .int sx, .int sy]))]) sz)) rm_X1_areAllOf.cells rm_X1_areAllOf.slots (va_A ([(a, .inr (1, [.ref q1, .ref q2, .ref q3, .ref q4, .int (nI k)])), (q1, .inl (ty 0, 6, .inl fd)), (q2, .inl (ty 0, 6, .inl ft)), (q3, .inl (ty 0, 6, .inl fx)), (q4, .inl (ty 0, 6, .inl fy)), (pa, .inr (3, [.int p, .int ro, .long (gSin tl).toInt64, .long (gCos tl).toInt64, .long (gSin f).toInt64, .long (gCos f).toInt64])), (sa, .inr (5, [.long su0, .long su1, .long su2, .long su3, .long up, .long so, .long we])), (sh, .inr (4, [.int sb, .int sx, .int sy]))]) sz) := by
  refine y_start_z (cc := cX1_areAllOf) (maxL := 5) (own := RX1) (by decide +kernel) rfl (Nat.le_of_ble_eq_true rfl) (fun pZ eZ sZ mZ aZ bZ tZ cZ AZ ls QZ hx hb hml hown hnm hG hA hAb hsz h hl hret => ?_)
  have h : yH D AZ sZ.heap [(a, .inr (1, [.ref q1, .ref q2, .ref q3, .ref q4, .int (nI k)])), (q1, .inl (ty 0, 6, .inl fd)), (q2, .inl (ty 0, 6, .inl ft)), (q3, .inl (ty 0, 6, .inl fx)), (q4, .inl (ty 0, 6, .inl fy)), (pa, .inr (3, [.int p, .int ro, .long (gSin tl).toInt64, .long (gCos tl).toInt64, .long (gSin f).toInt64, .long (gCos f).toInt64])), (sa, .inr (5, [.long su0, .long su1, .long su2, .long su3, .long up, .long so, .long we])), (sh, .inr (4, [.int sb, .int sx, .int sy]))] [] sZ.heap [] := h
  have hl : lv_has ls 5 [(0, .ref a), (1, .ref pa), (2, .ref sa), (3, .ref sh)] := hl
  refine lv_iconst (v := 0) hx hb dX1_areAllOf_0 (by decide) ?_
  refine lv_istore (lv' := [(4, .int 0), (0, .ref a), (1, .ref pa), (2, .ref sa), (3, .ref sh)]) hx hb dX1_areAllOf_1 hl (by decide) rfl (fun ls hl => ?_)
  have loop_3 : ∀ (n3 : Nat) (i : Nat) (v0 : Int64) (v1 : Int64) (v2 : Int64) (v3 : Int64) (v4 : Int64) (v5 : Int64) (v6 : Int64) (b1 : Int32) (x1 : Int32) (y1 : Int32), k - i < n3 → i ≤ k → aF (fM p tl f ro fd ft fx fy) i = true → ∀ (H : Heap) (locs : List Loc) (ls : Array Slot), yH D AZ sZ.heap [(a, .inr (1, [.ref q1, .ref q2, .ref q3, .ref q4, .int (nI k)])), (q1, .inl (ty 0, 6, .inl fd)), (q2, .inl (ty 0, 6, .inl ft)), (q3, .inl (ty 0, 6, .inl fx)), (q4, .inl (ty 0, 6, .inl fy)), (pa, .inr (3, [.int p, .int ro, .long (gSin tl).toInt64, .long (gCos tl).toInt64, .long (gSin f).toInt64, .long (gCos f).toInt64])), (sa, .inr (5, [.long v0, .long v1, .long v2, .long v3, .long v4, .long v5, .long v6])), (sh, .inr (4, [.int b1, .int x1, .int y1]))] [] H locs → lv_has ls 5 [(4, .int (nI i)), (0, .ref a), (1, .ref pa), (2, .ref sa), (3, .ref sh)] → W pZ l eZ rm_X1_areAllOf sZ mZ aZ bZ tZ cZ H locs (0) (0) QZ (F0 mZ 3 ls []) := by
    intro n3
    induction n3 with
    | zero => intro i v0 v1 v2 v3 v4 v5 v6 b1 x1 y1 hn3; exact absurd hn3 (Nat.not_lt_zero _)
    | succ n3 ih_3 =>
      intro i v0 v1 v2 v3 v4 v5 v6 b1 x1 y1 hn3 hi ha H locs ls h hl
      refine lv_iload hx hb dX1_areAllOf_3 (lv_at hl 0 rfl) ?_
      refine lv_aload_n hx hb dX1_areAllOf_5 rfl (lv_at hl 1 rfl) ?_
      refine y_get (own := RX1) hx hb hown hG h 0 1 4 (T := TX1) (N := 5) rfl rfl (by decide) (yl_1 hG) (kw_1_38 hG) rfl rfl dX1_areAllOf_6 ?_
      refine lv_icmp_ge (tgt := 94) hx hb dX1_areAllOf_9 (by decide) (fun c_9 => ?_) (fun c_9 => ?_)
      · skip
        have hik : i = k := by
          rcases Nat.lt_or_ge i k with q | q
          · exact absurd c_9 (nI_ge q (by omega))
          · omega
        refine lv_iconst (v := 1) hx hb dX1_areAllOf_94 (by decide) ?_
        exact hret 1 (v0, v1, v2, v3, v4, v5, v6, b1, x1, y1) _ _ _ _ _ _ _ _ (Or.inr rfl) (by rw [← hik, ha]; rfl) h rfl (Nat.le_of_ble_eq_true rfl) (Nat.le_of_ble_eq_true rfl) dX1_areAllOf_95
      · skip
        have hik : i < k := by
          rcases Nat.lt_or_ge i k with q | q
          · exact q
          · exact absurd (nI_le q (by omega)) c_9
        refine lv_iload hx hb dX1_areAllOf_12 (lv_at hl 0 rfl) ?_
        refine lv_bipush (v := 6) hx hb dX1_areAllOf_14 (by decide) ?_
        refine lv_icmp_ge (tgt := 94) hx hb dX1_areAllOf_16 (by decide) (fun c_16 => ?_) (fun c_16 => ?_)
        · exact absurd c_16 (nI_ge (show i < 6 by omega) (by decide))
        · skip
          refine lv_aload_n hx hb dX1_areAllOf_19 rfl (lv_at hl 3 rfl) ?_
          refine lv_aload_n hx hb dX1_areAllOf_20 rfl (lv_at hl 2 rfl) ?_
          refine y_getN hx hb hown hG h 5 3 0 (T := TX3) (N := 6) rfl rfl (by decide) (yl_3 hG) (kw_1_119 hG) rfl rfl dX1_areAllOf_21 ?_
          refine lv_aload_n hx hb dX1_areAllOf_24 rfl (lv_at hl 1 rfl) ?_
          refine y_get (own := RX1) hx hb hown hG h 0 1 0 (T := TX1) (N := 5) rfl rfl (by decide) (yl_1 hG) (kw_1_34 hG) rfl rfl dX1_areAllOf_25 ?_
          refine lv_iload hx hb dX1_areAllOf_28 (lv_at hl 0 rfl) ?_
          refine y_iald (v := fd i) hx hb hG h 1 rfl (vp_in_nI (show i < 6 by omega) (by decide)) (y_at _ (by omega)) dX1_areAllOf_30 ?_
          refine y_callv (X' := fun _ : Unit => [(a, .inr (1, [.ref q1, .ref q2, .ref q3, .ref q4, .int (nI k)])), (q1, .inl (ty 0, 6, .inl fd)), (q2, .inl (ty 0, 6, .inl ft)), (q3, .inl (ty 0, 6, .inl fx)), (q4, .inl (ty 0, 6, .inl fy)), (pa, .inr (3, [.int p, .int ro, .long (gSin tl).toInt64, .long (gCos tl).toInt64, .long (gSin f).toInt64, .long (gCos f).toInt64])), (sa, .inr (5, [.long (gSin p).toInt64, .long (gCos p).toInt64, .long (gSin (gSl (fd i))).toInt64, .long (gCos (gSl (fd i))).toInt64, .long v4, .long v5, .long v6])), (sh, .inr (4, [.int b1, .int x1, .int y1]))]) (wc := [(sa, .inr (5, [.long v0, .long v1, .long v2, .long v3, .long v4, .long v5, .long v6]))]) (wr := [(a, .inr (1, [.ref q1, .ref q2, .ref q3, .ref q4, .int (nI k)])), (q1, .inl (ty 0, 6, .inl fd)), (q2, .inl (ty 0, 6, .inl ft)), (q3, .inl (ty 0, 6, .inl fx)), (q4, .inl (ty 0, 6, .inl fy)), (pa, .inr (3, [.int p, .int ro, .long (gSin tl).toInt64, .long (gCos tl).toInt64, .long (gSin f).toInt64, .long (gCos f).toInt64])), (sh, .inr (4, [.int b1, .int x1, .int y1]))]) h hA [6] [0, 1, 2, 3, 4, 5, 7] [0, 1, 2, 3, 4, 5, 7, 6] rfl rfl (by decide) (by decide) (by decide) (fun _ => rfl) (va_runV (own := RX1) (As := [.int p, .int (fd i)]) (rest := []) ⟨hx, hb, hml, hown, y_nil⟩ (m_X5_startDay l D ty base _ sa v0 v1 v2 v3 v4 v5 v6 p (fd i)   ) (y_cwV (C := RX5) 2 (kw_2_227 hG) (kw_1_3 hG) (kw_4_19 hG) (kw_2_225 hG) (kw_2_226 hG) yd_X5_startDay ⟨Nat.le_of_ble_eq_true rfl, Nat.le_of_ble_eq_true rfl⟩) (y_preV hG h hAb [6] rfl (by decide) 6 rfl rfl) rfl rfl hl.1 rfl (lv_room (Nat.le_of_ble_eq_true rfl)) dX1_areAllOf_31 ⟨Nat.le_of_ble_eq_true rfl, Nat.le_of_ble_eq_true rfl⟩) (fun _ H locs hp_31 h => ?_)
          have h : yH D AZ sZ.heap [(a, .inr (1, [.ref q1, .ref q2, .ref q3, .ref q4, .int (nI k)])), (q1, .inl (ty 0, 6, .inl fd)), (q2, .inl (ty 0, 6, .inl ft)), (q3, .inl (ty 0, 6, .inl fx)), (q4, .inl (ty 0, 6, .inl fy)), (pa, .inr (3, [.int p, .int ro, .long (gSin tl).toInt64, .long (gCos tl).toInt64, .long (gSin f).toInt64, .long (gCos f).toInt64])), (sa, .inr (5, [.long (gSin p).toInt64, .long (gCos p).toInt64, .long (gSin (gSl (fd i))).toInt64, .long (gCos (gSl (fd i))).toInt64, .long v4, .long v5, .long v6])), (sh, .inr (4, [.int b1, .int x1, .int y1]))] [] _ _ := h
          refine lv_aload_n hx hb dX1_areAllOf_34 rfl (lv_at hl 3 rfl) ?_
          refine lv_aload_n hx hb dX1_areAllOf_35 rfl (lv_at hl 1 rfl) ?_
          refine y_get (own := RX1) hx hb hown hG h 0 1 1 (T := TX1) (N := 5) rfl rfl (by decide) (yl_1 hG) (kw_1_35 hG) rfl rfl dX1_areAllOf_36 ?_
          refine lv_iload hx hb dX1_areAllOf_39 (lv_at hl 0 rfl) ?_
          refine y_iald (v := ft i) hx hb hG h 2 rfl (vp_in_nI (show i < 6 by omega) (by decide)) (y_at _ (by omega)) dX1_areAllOf_41 ?_
          refine y_callv (X' := fun u : Int64 × Int64 × Int64 => [(a, .inr (1, [.ref q1, .ref q2, .ref q3, .ref q4, .int (nI k)])), (q1, .inl (ty 0, 6, .inl fd)), (q2, .inl (ty 0, 6, .inl ft)), (q3, .inl (ty 0, 6, .inl fx)), (q4, .inl (ty 0, 6, .inl fy)), (pa, .inr (3, [.int p, .int ro, .long (gSin tl).toInt64, .long (gCos tl).toInt64, .long (gSin f).toInt64, .long (gCos f).toInt64])), (sa, .inr (5, [.long (gSin p).toInt64, .long (gCos p).toInt64, .long (gSin (gSl (fd i))).toInt64, .long (gCos (gSl (fd i))).toInt64, .long u.1, .long u.2.1, .long u.2.2])), (sh, .inr (4, [.int b1, .int x1, .int y1]))]) (wc := [(sa, .inr (5, [.long (gSin p).toInt64, .long (gCos p).toInt64, .long (gSin (gSl (fd i))).toInt64, .long (gCos (gSl (fd i))).toInt64, .long v4, .long v5, .long v6]))]) (wr := [(a, .inr (1, [.ref q1, .ref q2, .ref q3, .ref q4, .int (nI k)])), (q1, .inl (ty 0, 6, .inl fd)), (q2, .inl (ty 0, 6, .inl ft)), (q3, .inl (ty 0, 6, .inl fx)), (q4, .inl (ty 0, 6, .inl fy)), (pa, .inr (3, [.int p, .int ro, .long (gSin tl).toInt64, .long (gCos tl).toInt64, .long (gSin f).toInt64, .long (gCos f).toInt64])), (sh, .inr (4, [.int b1, .int x1, .int y1]))]) h hA [6] [0, 1, 2, 3, 4, 5, 7] [0, 1, 2, 3, 4, 5, 7, 6] rfl rfl (by decide) (by decide) (by decide) (fun _ => rfl) (va_runV (own := RX1) (As := [.int (ft i)]) (rest := []) ⟨hx, hb, hml, hown, y_nil⟩ (m_X5_moveTo l D ty base _ sa v4 v5 v6 p (fd i) (ft i)   ) (y_cwV (C := RX5) 1 (kw_2_234 hG) (kw_1_3 hG) (kw_4_20 hG) (kw_2_232 hG) (kw_2_233 hG) yd_X5_moveTo ⟨Nat.le_of_ble_eq_true rfl, Nat.le_of_ble_eq_true rfl⟩) (y_preV hG h hAb [6] rfl (by decide) 6 rfl rfl) rfl rfl hl.1 rfl (lv_room (Nat.le_of_ble_eq_true rfl)) dX1_areAllOf_42 ⟨Nat.le_of_ble_eq_true rfl, Nat.le_of_ble_eq_true rfl⟩) (fun u H locs hp_42 h => ?_)
          obtain ⟨up9_42, so9_42, we9_42⟩ := u
          have hp_42 : up9_42 = gUp p (fd i) (ft i) ∧ so9_42 = gSo p (fd i) (ft i) ∧ we9_42 = gWe (fd i) (ft i) := hp_42
          obtain ⟨rfl, rfl, rfl⟩ := hp_42
          have h : yH D AZ sZ.heap [(a, .inr (1, [.ref q1, .ref q2, .ref q3, .ref q4, .int (nI k)])), (q1, .inl (ty 0, 6, .inl fd)), (q2, .inl (ty 0, 6, .inl ft)), (q3, .inl (ty 0, 6, .inl fx)), (q4, .inl (ty 0, 6, .inl fy)), (pa, .inr (3, [.int p, .int ro, .long (gSin tl).toInt64, .long (gCos tl).toInt64, .long (gSin f).toInt64, .long (gCos f).toInt64])), (sa, .inr (5, [.long (gSin p).toInt64, .long (gCos p).toInt64, .long (gSin (gSl (fd i))).toInt64, .long (gCos (gSl (fd i))).toInt64, .long (gUp p (fd i) (ft i)), .long (gSo p (fd i) (ft i)), .long (gWe (fd i) (ft i))])), (sh, .inr (4, [.int b1, .int x1, .int y1]))] [] _ _ := h
          refine lv_aload_n hx hb dX1_areAllOf_45 rfl (lv_at hl 4 rfl) ?_
          refine lv_aload_n hx hb dX1_areAllOf_46 rfl (lv_at hl 2 rfl) ?_
          refine lv_aload_n hx hb dX1_areAllOf_47 rfl (lv_at hl 3 rfl) ?_
          refine y_callv (X' := fun u : Int32 × Int32 × Int32 => [(a, .inr (1, [.ref q1, .ref q2, .ref q3, .ref q4, .int (nI k)])), (q1, .inl (ty 0, 6, .inl fd)), (q2, .inl (ty 0, 6, .inl ft)), (q3, .inl (ty 0, 6, .inl fx)), (q4, .inl (ty 0, 6, .inl fy)), (pa, .inr (3, [.int p, .int ro, .long (gSin tl).toInt64, .long (gCos tl).toInt64, .long (gSin f).toInt64, .long (gCos f).toInt64])), (sa, .inr (5, [.long ((gSin p).toInt64), .long ((gCos p).toInt64), .long ((gSin (gSl (fd i))).toInt64), .long ((gCos (gSl (fd i))).toInt64), .long (gUp p (fd i) (ft i)), .long (gSo p (fd i) (ft i)), .long (gWe (fd i) (ft i))])), (sh, .inr (4, [.int u.1, .int u.2.1, .int u.2.2]))]) (wc := [(sh, .inr (4, [.int b1, .int x1, .int y1])), (pa, .inr (3, [.int p, .int ro, .long (gSin tl).toInt64, .long (gCos tl).toInt64, .long (gSin f).toInt64, .long (gCos f).toInt64])), (sa, .inr (5, [.long (gSin p).toInt64, .long (gCos p).toInt64, .long (gSin (gSl (fd i))).toInt64, .long (gCos (gSl (fd i))).toInt64, .long (gUp p (fd i) (ft i)), .long (gSo p (fd i) (ft i)), .long (gWe (fd i) (ft i))]))]) (wr := [(a, .inr (1, [.ref q1, .ref q2, .ref q3, .ref q4, .int (nI k)])), (q1, .inl (ty 0, 6, .inl fd)), (q2, .inl (ty 0, 6, .inl ft)), (q3, .inl (ty 0, 6, .inl fx)), (q4, .inl (ty 0, 6, .inl fy))]) h hA [7, 5, 6] [0, 1, 2, 3, 4] [0, 1, 2, 3, 4, 6, 7, 5] rfl rfl (by decide) (by decide) (by decide) (fun _ => rfl) (va_runV (own := RX1) (As := [.ref pa, .ref sa]) (rest := []) ⟨hx, hb, hml, hown, y_nil⟩ (m_X4_fall l D ty base _ sh pa sa b1 x1 y1 p tl f ro ((gSin p).toInt64) ((gCos p).toInt64) ((gSin (gSl (fd i))).toInt64) ((gCos (gSl (fd i))).toInt64) (gUp p (fd i) (ft i)) (gSo p (fd i) (ft i)) (gWe (fd i) (ft i))   hr9) (y_cwV (C := RX4) 2 (kw_3_99 hG) (kw_1_4 hG) (kw_4_21 hG) (kw_3_97 hG) (kw_3_98 hG) yd_X4_fall ⟨Nat.le_of_ble_eq_true rfl, Nat.le_of_ble_eq_true rfl⟩) (y_preV hG h hAb [7, 5, 6] rfl (by decide) 7 rfl rfl) rfl rfl hl.1 rfl (lv_room (Nat.le_of_ble_eq_true rfl)) dX1_areAllOf_48 ⟨Nat.le_of_ble_eq_true rfl, Nat.le_of_ble_eq_true rfl⟩) (fun u H locs hp_48 h => ?_)
          obtain ⟨b9_48, x9_48, y9_48⟩ := u
          have hp_48 : b9_48 = bI (gIs (gUp p (fd i) (ft i)) (gSo p (fd i) (ft i)) (gWe (fd i) (ft i)) tl f ro) ∧ (gIs (gUp p (fd i) (ft i)) (gSo p (fd i) (ft i)) (gWe (fd i) (ft i)) tl f ro = true → x9_48 = gPx (gUp p (fd i) (ft i)) (gSo p (fd i) (ft i)) (gWe (fd i) (ft i)) tl f ro ∧ y9_48 = gPy (gUp p (fd i) (ft i)) (gSo p (fd i) (ft i)) (gWe (fd i) (ft i)) tl f ro) := hp_48
          have h : yH D AZ sZ.heap [(a, .inr (1, [.ref q1, .ref q2, .ref q3, .ref q4, .int (nI k)])), (q1, .inl (ty 0, 6, .inl fd)), (q2, .inl (ty 0, 6, .inl ft)), (q3, .inl (ty 0, 6, .inl fx)), (q4, .inl (ty 0, 6, .inl fy)), (pa, .inr (3, [.int p, .int ro, .long (gSin tl).toInt64, .long (gCos tl).toInt64, .long (gSin f).toInt64, .long (gCos f).toInt64])), (sa, .inr (5, [.long ((gSin p).toInt64), .long ((gCos p).toInt64), .long ((gSin (gSl (fd i))).toInt64), .long ((gCos (gSl (fd i))).toInt64), .long (gUp p (fd i) (ft i)), .long (gSo p (fd i) (ft i)), .long (gWe (fd i) (ft i))])), (sh, .inr (4, [.int b9_48, .int x9_48, .int y9_48]))] [] _ _ := h
          refine lv_aload_n hx hb dX1_areAllOf_51 rfl (lv_at hl 4 rfl) ?_
          refine y_getN hx hb hown hG h 7 4 0 (T := TX4) (N := 3) rfl rfl (by decide) (yl_4 hG) (kw_1_94 hG) rfl rfl dX1_areAllOf_52 ?_
          refine lv_if_eq (tgt := 86) hx hb dX1_areAllOf_55 (by decide) (fun c_55 => ?_) (fun c_55 => ?_)
          · skip
            have hg : sIs p (fd i) (ft i) tl f ro = false := bI_f (b := sIs p (fd i) (ft i) tl f ro) (hp_48.1.symm.trans c_55)
            have hm : (fM p tl f ro fd ft fx fy) i = false := by simp [fM, hg]
            refine lv_iconst (v := 0) hx hb dX1_areAllOf_86 (by decide) ?_
            exact hret 0 ((gSin p).toInt64, (gCos p).toInt64, (gSin (gSl (fd i))).toInt64, (gCos (gSl (fd i))).toInt64, gUp p (fd i) (ft i), gSo p (fd i) (ft i), gWe (fd i) (ft i), b9_48, x9_48, y9_48) _ _ _ _ _ _ _ _ (Or.inl rfl) (by rw [aF_f hm k hik]; rfl) h rfl (Nat.le_of_ble_eq_true rfl) (Nat.le_of_ble_eq_true rfl) dX1_areAllOf_87
          · skip
            have hg : sIs p (fd i) (ft i) tl f ro = true := bI_t (b := sIs p (fd i) (ft i) tl f ro) (fun q => c_55 (hp_48.1.trans q))
            have hxy := hp_48.2 hg
            refine lv_aload_n hx hb dX1_areAllOf_58 rfl (lv_at hl 4 rfl) ?_
            refine y_getN hx hb hown hG h 7 4 1 (T := TX4) (N := 3) rfl rfl (by decide) (yl_4 hG) (kw_1_98 hG) rfl rfl dX1_areAllOf_59 ?_
            refine lv_aload_n hx hb dX1_areAllOf_62 rfl (lv_at hl 1 rfl) ?_
            refine y_get (own := RX1) hx hb hown hG h 0 1 2 (T := TX1) (N := 5) rfl rfl (by decide) (yl_1 hG) (kw_1_36 hG) rfl rfl dX1_areAllOf_63 ?_
            refine lv_iload hx hb dX1_areAllOf_66 (lv_at hl 0 rfl) ?_
            refine y_iald (v := fx i) hx hb hG h 3 rfl (vp_in_nI (show i < 6 by omega) (by decide)) (y_at _ (by omega)) dX1_areAllOf_68 ?_
            refine lv_icmp_ne (tgt := 86) hx hb dX1_areAllOf_69 (by decide) (fun c_69 => ?_) (fun c_69 => ?_)
            · skip
              have hx2 : sX p (fd i) (ft i) tl f ro ≠ fx i := fun q => c_69 (hxy.1.trans q)
              have hm : (fM p tl f ro fd ft fx fy) i = false := by simp [fM, hx2]
              refine lv_iconst (v := 0) hx hb dX1_areAllOf_86 (by decide) ?_
              exact hret 0 ((gSin p).toInt64, (gCos p).toInt64, (gSin (gSl (fd i))).toInt64, (gCos (gSl (fd i))).toInt64, gUp p (fd i) (ft i), gSo p (fd i) (ft i), gWe (fd i) (ft i), b9_48, x9_48, y9_48) _ _ _ _ _ _ _ _ (Or.inl rfl) (by rw [aF_f hm k hik]; rfl) h rfl (Nat.le_of_ble_eq_true rfl) (Nat.le_of_ble_eq_true rfl) dX1_areAllOf_87
            · skip
              refine lv_aload_n hx hb dX1_areAllOf_72 rfl (lv_at hl 4 rfl) ?_
              refine y_getN hx hb hown hG h 7 4 2 (T := TX4) (N := 3) rfl rfl (by decide) (yl_4 hG) (kw_1_102 hG) rfl rfl dX1_areAllOf_73 ?_
              refine lv_aload_n hx hb dX1_areAllOf_76 rfl (lv_at hl 1 rfl) ?_
              refine y_get (own := RX1) hx hb hown hG h 0 1 3 (T := TX1) (N := 5) rfl rfl (by decide) (yl_1 hG) (kw_1_37 hG) rfl rfl dX1_areAllOf_77 ?_
              refine lv_iload hx hb dX1_areAllOf_80 (lv_at hl 0 rfl) ?_
              refine y_iald (v := fy i) hx hb hG h 4 rfl (vp_in_nI (show i < 6 by omega) (by decide)) (y_at _ (by omega)) dX1_areAllOf_82 ?_
              refine lv_icmp_eq (tgt := 88) hx hb dX1_areAllOf_83 (by decide) (fun c_83 => ?_) (fun c_83 => ?_)
              · skip
                have hx2 : sX p (fd i) (ft i) tl f ro = fx i := hxy.1.symm.trans c_69
                have hy2 : sY p (fd i) (ft i) tl f ro = fy i := hxy.2.symm.trans c_83
                have hm : (fM p tl f ro fd ft fx fy) i = true := by simp [fM, hg, hx2, hy2]
                refine lv_iinc (v := nI (i + 1)) (lv' := [(4, .int (nI (i + 1))), (0, .ref a), (1, .ref pa), (2, .ref sa), (3, .ref sh)]) hx hb dX1_areAllOf_88 hl (k := 0) rfl (y_inc i) (by decide) rfl (fun ls hl => ?_)
                refine lv_goto (tgt := 3) hx hb dX1_areAllOf_91 (by decide) ?_
                exact ih_3 (i + 1) ((gSin p).toInt64) ((gCos p).toInt64) ((gSin (gSl (fd i))).toInt64) ((gCos (gSl (fd i))).toInt64) (gUp p (fd i) (ft i)) (gSo p (fd i) (ft i)) (gWe (fd i) (ft i)) b9_48 x9_48 y9_48 (by omega) (by omega) (aF_t ha hm) _ _ _ h (lv_sub hl [0, 1, 2, 3, 4] rfl)
              · skip
                have hy2 : sY p (fd i) (ft i) tl f ro ≠ fy i := fun q => c_83 (hxy.2.trans q)
                have hm : (fM p tl f ro fd ft fx fy) i = false := by simp [fM, hy2]
                refine lv_iconst (v := 0) hx hb dX1_areAllOf_86 (by decide) ?_
                exact hret 0 ((gSin p).toInt64, (gCos p).toInt64, (gSin (gSl (fd i))).toInt64, (gCos (gSl (fd i))).toInt64, gUp p (fd i) (ft i), gSo p (fd i) (ft i), gWe (fd i) (ft i), b9_48, x9_48, y9_48) _ _ _ _ _ _ _ _ (Or.inl rfl) (by rw [aF_f hm k hik]; rfl) h rfl (Nat.le_of_ble_eq_true rfl) (Nat.le_of_ble_eq_true rfl) dX1_areAllOf_87
  exact loop_3 (k + 1) 0 su0 su1 su2 su3 up so we sb sx sy (by omega) (Nat.zero_le _) rfl _ _ _ h (lv_sub hl [0, 1, 2, 3, 4] rfl)

abbrev rm_X0_init : Room := { frames := 2, cells := 3, slots := 36, locals := 40 }
theorem yd_X0_init : yX0_init.cls ≠ "java/lang/invoke/MethodHandle" ∧ yX0_init.cls ≠ "java/lang/invoke/VarHandle" ∧ (parseMethodDescriptor yX0_init.desc).map (fun d => d.parameters.length) = some 1 := by decide +kernel
set_option maxHeartbeats 4000000 in
set_option maxRecDepth 100000 in
theorem m_X0_init (l : Launch) (D : va_G) (ty : Nat → ClassId) (base sz : Nat) (a : Nat) (k : Int32) (k0 : Int32) (gs : Int32)    : Met l yX0_init [.code yX0_init cX0_init 2 none] rm_X0_init (yPc D ty base sz ([(a, .inr (0, [.null, .null, .int k0, .null, .int gs]))]) [.ref a, .int k]) (va_Qv (fun u : Nat × Nat × Nat => True) (yB D (va_A ([(a, .inr (0, [.null, .null, .int k0, .null, .int gs]))]) sz) (fun u : Nat × Nat × Nat => [(a, .inr (0, [.ref u.1, .ref u.2.1, .int k, .ref u.2.2, .int gs])), (u.1, .inr (3, [.int 0, .int 0, .long 0, .long 0, .long 0, .long 0])), (u.2.1, .inr (3, [.int 0, .int 0, .long 0, .long 0, .long 0, .long 0])), (u.2.2, .inl (ty 1, 24, .inl (fun _ => 0)))])) (va_A ([(a, .inr (0, [.null, .null, .int k0, .null, .int gs]))]) sz)) rm_X0_init.cells rm_X0_init.slots (va_A ([(a, .inr (0, [.null, .null, .int k0, .null, .int gs]))]) sz) := by
  refine y_start_v (cc := cX0_init) (maxL := 2) (own := RX0) (by decide +kernel) rfl (Nat.le_of_ble_eq_true rfl) (fun pZ eZ sZ mZ aZ bZ tZ cZ AZ ls QZ hx hb hml hown hnm hG hA hAb hsz h hl hret => ?_)
  have h : yH D AZ sZ.heap [(a, .inr (0, [.null, .null, .int k0, .null, .int gs]))] [] sZ.heap [] := h
  have hl : lv_has ls 2 [(0, .ref a), (1, .int k)] := hl
  refine lv_aload_n hx hb dX0_init_0 rfl (lv_at hl 0 rfl) ?_
  refine W.objInit hx hb hown (kw_2_141 hG).b (kw_1_22 hG).b (kw_1_23 hG).b rfl (by rw [hml]; exact hl.1) rfl dX0_init_1 (Nat.le_of_ble_eq_true rfl) (Nat.le_of_ble_eq_true rfl) ?_
  refine W.eq (g2 := F0 mZ 4 ls []) rfl ?_
  refine lv_aload_n hx hb dX0_init_4 rfl (lv_at hl 0 rfl) ?_
  refine y_new (own := RX0) (tf := tyX3) (fs := [.int 0, .int 0, .long 0, .long 0, .long 0, .long 0]) hx hb hown hG h hA 3 (C := RX3) (T := TX3) (N := 6) rfl (yl_3 hG) ycl_3 (kw_2_142 hG) (kw_1_112 hG) (kw_1_5 hG) (fun j hj => by rcases (show j = 0 ∨ j = 1 ∨ j = 2 ∨ j = 3 ∨ j = 4 ∨ j = 5 by omega) with rfl | rfl | rfl | rfl | rfl | rfl <;> rfl) (Nat.le_of_ble_eq_true rfl) (Nat.le_of_ble_eq_true rfl) dX0_init_5 (fun q1 H h => ?_)
  have h : yH D AZ sZ.heap [(a, .inr (0, [.null, .null, .int k0, .null, .int gs])), (q1, .inr (3, [.int 0, .int 0, .long 0, .long 0, .long 0, .long 0]))] [] _ _ := h
  refine lv_dup hx hb dX0_init_8 rfl ?_
  refine y_callv (X' := fun _ : Unit => [(a, .inr (0, [.null, .null, .int k0, .null, .int gs])), (q1, .inr (3, [.int 0, .int 0, .long 0, .long 0, .long 0, .long 0]))]) (wc := [(q1, .inr (3, [.int 0, .int 0, .long 0, .long 0, .long 0, .long 0]))]) (wr := [(a, .inr (0, [.null, .null, .int k0, .null, .int gs]))]) h hA [1] [0] [0, 1] rfl rfl (by decide) (by decide) (by decide) (fun _ => rfl) (va_runIN (own := RX0) (As := []) (rest := [.ref q1, .ref a]) ⟨hx, hb, hml, hown, y_nil⟩ (m_X3_init l D ty base _ q1 0 0 0 0 0 0   ) (y_cnI 0 (kw_1_115 hG) (kw_1_5 hG) (kw_2_143 hG) (kw_1_114 hG) rfl yd_X3_init ⟨Nat.le_of_ble_eq_true rfl, Nat.le_of_ble_eq_true rfl⟩) (y_preS hG h hAb [1] rfl (by decide)) rfl rfl hl.1 rfl (lv_room (Nat.le_of_ble_eq_true rfl)) dX0_init_9 ⟨Nat.le_of_ble_eq_true rfl, Nat.le_of_ble_eq_true rfl⟩) (fun _ H locs hp_9 h => ?_)
  have h : yH D AZ sZ.heap [(a, .inr (0, [.null, .null, .int k0, .null, .int gs])), (q1, .inr (3, [.int 0, .int 0, .long 0, .long 0, .long 0, .long 0]))] [] _ _ := h
  refine y_putF (own := RX0) (tf := tyX0) (X' := [(a, .inr (0, [.ref q1, .null, .int k0, .null, .int gs])), (q1, .inr (3, [.int 0, .int 0, .long 0, .long 0, .long 0, .long 0]))]) hx hb hown hG h 0 0 0 (T := TX0) (N := 5) rfl rfl (by decide) (yl_0 hG) ycl_0 (kw_2_144 hG) rfl rfl hnm rfl rfl (Nat.le_of_ble_eq_true rfl) rfl dX0_init_12 (fun H locs h => ?_)
  refine lv_aload_n hx hb dX0_init_15 rfl (lv_at hl 0 rfl) ?_
  refine y_new (own := RX0) (tf := tyX3) (fs := [.int 0, .int 0, .long 0, .long 0, .long 0, .long 0]) hx hb hown hG h hA 3 (C := RX3) (T := TX3) (N := 6) rfl (yl_3 hG) ycl_3 (kw_2_142 hG) (kw_1_112 hG) (kw_1_5 hG) (fun j hj => by rcases (show j = 0 ∨ j = 1 ∨ j = 2 ∨ j = 3 ∨ j = 4 ∨ j = 5 by omega) with rfl | rfl | rfl | rfl | rfl | rfl <;> rfl) (Nat.le_of_ble_eq_true rfl) (Nat.le_of_ble_eq_true rfl) dX0_init_16 (fun q2 H h => ?_)
  have h : yH D AZ sZ.heap [(a, .inr (0, [.ref q1, .null, .int k0, .null, .int gs])), (q1, .inr (3, [.int 0, .int 0, .long 0, .long 0, .long 0, .long 0])), (q2, .inr (3, [.int 0, .int 0, .long 0, .long 0, .long 0, .long 0]))] [] _ _ := h
  refine lv_dup hx hb dX0_init_19 rfl ?_
  refine y_callv (X' := fun _ : Unit => [(a, .inr (0, [.ref q1, .null, .int k0, .null, .int gs])), (q1, .inr (3, [.int 0, .int 0, .long 0, .long 0, .long 0, .long 0])), (q2, .inr (3, [.int 0, .int 0, .long 0, .long 0, .long 0, .long 0]))]) (wc := [(q2, .inr (3, [.int 0, .int 0, .long 0, .long 0, .long 0, .long 0]))]) (wr := [(a, .inr (0, [.ref q1, .null, .int k0, .null, .int gs])), (q1, .inr (3, [.int 0, .int 0, .long 0, .long 0, .long 0, .long 0]))]) h hA [2] [0, 1] [0, 1, 2] rfl rfl (by decide) (by decide) (by decide) (fun _ => rfl) (va_runIN (own := RX0) (As := []) (rest := [.ref q2, .ref a]) ⟨hx, hb, hml, hown, y_nil⟩ (m_X3_init l D ty base _ q2 0 0 0 0 0 0   ) (y_cnI 0 (kw_1_115 hG) (kw_1_5 hG) (kw_2_143 hG) (kw_1_114 hG) rfl yd_X3_init ⟨Nat.le_of_ble_eq_true rfl, Nat.le_of_ble_eq_true rfl⟩) (y_preS hG h hAb [2] rfl (by decide)) rfl rfl hl.1 rfl (lv_room (Nat.le_of_ble_eq_true rfl)) dX0_init_20 ⟨Nat.le_of_ble_eq_true rfl, Nat.le_of_ble_eq_true rfl⟩) (fun _ H locs hp_20 h => ?_)
  have h : yH D AZ sZ.heap [(a, .inr (0, [.ref q1, .null, .int k0, .null, .int gs])), (q1, .inr (3, [.int 0, .int 0, .long 0, .long 0, .long 0, .long 0])), (q2, .inr (3, [.int 0, .int 0, .long 0, .long 0, .long 0, .long 0]))] [] _ _ := h
  refine y_putF (own := RX0) (tf := tyX0) (X' := [(a, .inr (0, [.ref q1, .ref q2, .int k0, .null, .int gs])), (q1, .inr (3, [.int 0, .int 0, .long 0, .long 0, .long 0, .long 0])), (q2, .inr (3, [.int 0, .int 0, .long 0, .long 0, .long 0, .long 0]))]) hx hb hown hG h 0 0 1 (T := TX0) (N := 5) rfl rfl (by decide) (yl_0 hG) ycl_0 (kw_2_146 hG) rfl rfl hnm rfl rfl (Nat.le_of_ble_eq_true rfl) rfl dX0_init_23 (fun H locs h => ?_)
  refine lv_aload_n hx hb dX0_init_26 rfl (lv_at hl 0 rfl) ?_
  refine lv_bipush (v := 24) hx hb dX0_init_27 (by decide) ?_
  refine y_newa (atype := .boolean) (ft := .boolean) (a0 := (24, .inl (fun _ => 0))) hx hb hG h hA 1 (kw_2_164 hG) rfl (fun C hC => by cases hC) rfl (fun _ => rfl) (by decide) (by decide) (by decide) (Nat.le_of_ble_eq_true rfl) (Nat.le_of_ble_eq_true rfl) dX0_init_29 (fun q3 H h => ?_)
  have h : yH D AZ sZ.heap [(a, .inr (0, [.ref q1, .ref q2, .int k0, .null, .int gs])), (q1, .inr (3, [.int 0, .int 0, .long 0, .long 0, .long 0, .long 0])), (q2, .inr (3, [.int 0, .int 0, .long 0, .long 0, .long 0, .long 0])), (q3, .inl (ty 1, 24, .inl (fun _ => 0)))] [] _ _ := h
  refine y_putF (own := RX0) (tf := tyX0) (X' := [(a, .inr (0, [.ref q1, .ref q2, .int k0, .ref q3, .int gs])), (q1, .inr (3, [.int 0, .int 0, .long 0, .long 0, .long 0, .long 0])), (q2, .inr (3, [.int 0, .int 0, .long 0, .long 0, .long 0, .long 0])), (q3, .inl (ty 1, 24, .inl (fun _ => 0)))]) hx hb hown hG h 0 0 3 (T := TX0) (N := 5) rfl rfl (by decide) (yl_0 hG) ycl_0 (kw_2_150 hG) rfl rfl hnm rfl rfl (Nat.le_of_ble_eq_true rfl) rfl dX0_init_31 (fun H locs h => ?_)
  refine lv_aload_n hx hb dX0_init_34 rfl (lv_at hl 0 rfl) ?_
  refine lv_iload_n hx hb dX0_init_35 rfl (lv_at hl 1 rfl) ?_
  refine y_put (own := RX0) (tf := tyX0) (X' := [(a, .inr (0, [.ref q1, .ref q2, .int k, .ref q3, .int gs])), (q1, .inr (3, [.int 0, .int 0, .long 0, .long 0, .long 0, .long 0])), (q2, .inr (3, [.int 0, .int 0, .long 0, .long 0, .long 0, .long 0])), (q3, .inl (ty 1, 24, .inl (fun _ => 0)))]) hx hb hown hG h 0 0 2 (T := TX0) (N := 5) rfl rfl (by decide) (yl_0 hG) ycl_0 (kw_2_148 hG) rfl rfl rfl rfl (Nat.le_of_ble_eq_true rfl) rfl dX0_init_36 (fun H locs h => ?_)
  exact hret (q1, q2, q3) _ _ _ _ _ _ _ _ trivial h rfl (Nat.le_of_ble_eq_true rfl) (Nat.le_of_ble_eq_true rfl) dX0_init_39

abbrev rm_X0_isCut : Room := { frames := 0, cells := 0, slots := 0, locals := 0 }
theorem yd_X0_isCut : yX0_isCut.cls ≠ "java/lang/invoke/MethodHandle" ∧ yX0_isCut.cls ≠ "java/lang/invoke/VarHandle" ∧ (parseMethodDescriptor yX0_isCut.desc).map (fun d => d.parameters.length) = some 1 := by decide +kernel
set_option maxHeartbeats 4000000 in
set_option maxRecDepth 100000 in
theorem m_X0_isCut (l : Launch) (D : va_G) (ty : Nat → ClassId) (base sz : Nat) (a : Nat) (dm : Nat) (ds : Nat) (sp : Int32) (dc : Nat) (gs : Int32) (ho : Nat) (C : Nat → Int32)   (hh : ho < 24) : Met l yX0_isCut [.code yX0_isCut cX0_isCut 2 (some (.boolean))] rm_X0_isCut (yPc D ty base sz ([(a, .inr (0, [.ref dm, .ref ds, .int sp, .ref dc, .int gs])), (dc, .inl (ty 1, 24, .inl C))]) [.ref a, .int (nI ho)]) (va_Qi (fun (r : Int32) (_ : Unit) => r = bI (decide (¬ C ho = 0))) (yB D (va_A ([(a, .inr (0, [.ref dm, .ref ds, .int sp, .ref dc, .int gs])), (dc, .inl (ty 1, 24, .inl C))]) sz) (fun _ : Unit => [(a, .inr (0, [.ref dm, .ref ds, .int sp, .ref dc, .int gs])), (dc, .inl (ty 1, 24, .inl C))])) (va_A ([(a, .inr (0, [.ref dm, .ref ds, .int sp, .ref dc, .int gs])), (dc, .inl (ty 1, 24, .inl C))]) sz)) rm_X0_isCut.cells rm_X0_isCut.slots (va_A ([(a, .inr (0, [.ref dm, .ref ds, .int sp, .ref dc, .int gs])), (dc, .inl (ty 1, 24, .inl C))]) sz) := by
  refine y_start_z (cc := cX0_isCut) (maxL := 2) (own := RX0) (by decide +kernel) rfl (Nat.le_of_ble_eq_true rfl) (fun pZ eZ sZ mZ aZ bZ tZ cZ AZ ls QZ hx hb hml hown hnm hG hA hAb hsz h hl hret => ?_)
  have h : yH D AZ sZ.heap [(a, .inr (0, [.ref dm, .ref ds, .int sp, .ref dc, .int gs])), (dc, .inl (ty 1, 24, .inl C))] [] sZ.heap [] := h
  have hl : lv_has ls 2 [(0, .ref a), (1, .int (nI ho))] := hl
  refine lv_iload_n hx hb dX0_isCut_0 rfl (lv_at hl 1 rfl) ?_
  refine lv_if_lt (tgt := 26) hx hb dX0_isCut_1 (by decide) (fun c_1 => ?_) (fun c_1 => ?_)
  · exact absurd c_1 (nI_pos (by omega))
  · skip
    refine lv_iload_n hx hb dX0_isCut_4 rfl (lv_at hl 1 rfl) ?_
    refine lv_aload_n hx hb dX0_isCut_5 rfl (lv_at hl 0 rfl) ?_
    refine y_get (own := RX0) hx hb hown hG h 0 0 3 (T := TX0) (N := 5) rfl rfl (by decide) (yl_0 hG) (kw_2_150 hG) rfl rfl dX0_isCut_6 ?_
    refine y_alen (v := 24) hx hb hG h 1 1 rfl rfl (show Int32.ofNat 24 = 24 from by decide) dX0_isCut_9 ?_
    refine lv_icmp_ge (tgt := 26) hx hb dX0_isCut_10 (by decide) (fun c_10 => ?_) (fun c_10 => ?_)
    · exact absurd c_10 (nI_ge hh (by decide))
    · skip
      refine lv_aload_n hx hb dX0_isCut_13 rfl (lv_at hl 0 rfl) ?_
      refine y_get (own := RX0) hx hb hown hG h 0 0 3 (T := TX0) (N := 5) rfl rfl (by decide) (yl_0 hG) (kw_2_150 hG) rfl rfl dX0_isCut_14 ?_
      refine lv_iload_n hx hb dX0_isCut_17 rfl (lv_at hl 1 rfl) ?_
      refine y_zald (v := C ho) hx hb hG h 1 rfl (vp_in_nI hh (by decide)) (y_at _ (by omega)) dX0_isCut_18 ?_
      refine lv_if_eq (tgt := 26) hx hb dX0_isCut_19 (by decide) (fun c_19 => ?_) (fun c_19 => ?_)
      · skip
        refine lv_iconst (v := 0) hx hb dX0_isCut_26 (by decide) ?_
        exact hret 0 () _ _ _ _ _ _ _ _ (Or.inl rfl) (bI_0 (fun q => q c_19)) h rfl (Nat.le_of_ble_eq_true rfl) (Nat.le_of_ble_eq_true rfl) dX0_isCut_27
      · skip
        refine lv_iconst (v := 1) hx hb dX0_isCut_22 (by decide) ?_
        refine lv_goto (tgt := 27) hx hb dX0_isCut_23 (by decide) ?_
        exact hret 1 () _ _ _ _ _ _ _ _ (Or.inr rfl) (bI_1 c_19) h rfl (Nat.le_of_ble_eq_true rfl) (Nat.le_of_ble_eq_true rfl) dX0_isCut_27

abbrev rm_X0_markCut : Room := { frames := 1, cells := 0, slots := 0, locals := 21 }
theorem yd_X0_markCut : yX0_markCut.cls ≠ "java/lang/invoke/MethodHandle" ∧ yX0_markCut.cls ≠ "java/lang/invoke/VarHandle" ∧ (parseMethodDescriptor yX0_markCut.desc).map (fun d => d.parameters.length) = some 2 := by decide +kernel
set_option maxHeartbeats 4000000 in
set_option maxRecDepth 100000 in
theorem m_X0_markCut (l : Launch) (D : va_G) (ty : Nat → ClassId) (base sz : Nat) (a : Nat) (dm : Nat) (ds : Nat) (sp : Int32) (dc : Nat) (gs : Int32) (ho : Nat) (k : Int32) (C : Nat → Int32)   (hh : ho < 24) : Met l yX0_markCut [.code yX0_markCut cX0_markCut 3 none] rm_X0_markCut (yPc D ty base sz ([(a, .inr (0, [.ref dm, .ref ds, .int sp, .ref dc, .int gs])), (dc, .inl (ty 1, 24, .inl C))]) [.ref a, .int (nI ho), .int k]) (va_Qv (fun _ : Unit => True) (yB D (va_A ([(a, .inr (0, [.ref dm, .ref ds, .int sp, .ref dc, .int gs])), (dc, .inl (ty 1, 24, .inl C))]) sz) (fun _ : Unit => [(a, .inr (0, [.ref dm, .ref ds, .int sp, .ref dc, .int (jMax gs (jAbs k))])), (dc, .inl (ty 1, 24, .inl (upd C ho 1)))])) (va_A ([(a, .inr (0, [.ref dm, .ref ds, .int sp, .ref dc, .int gs])), (dc, .inl (ty 1, 24, .inl C))]) sz)) rm_X0_markCut.cells rm_X0_markCut.slots (va_A ([(a, .inr (0, [.ref dm, .ref ds, .int sp, .ref dc, .int gs])), (dc, .inl (ty 1, 24, .inl C))]) sz) := by
  refine y_start_v (cc := cX0_markCut) (maxL := 3) (own := RX0) (by decide +kernel) rfl (Nat.le_of_ble_eq_true rfl) (fun pZ eZ sZ mZ aZ bZ tZ cZ AZ ls QZ hx hb hml hown hnm hG hA hAb hsz h hl hret => ?_)
  have h : yH D AZ sZ.heap [(a, .inr (0, [.ref dm, .ref ds, .int sp, .ref dc, .int gs])), (dc, .inl (ty 1, 24, .inl C))] [] sZ.heap [] := h
  have hl : lv_has ls 3 [(0, .ref a), (1, .int (nI ho)), (2, .int k)] := hl
  refine lv_iload_n hx hb dX0_markCut_0 rfl (lv_at hl 1 rfl) ?_
  refine lv_if_lt (tgt := 35) hx hb dX0_markCut_1 (by decide) (fun c_1 => ?_) (fun c_1 => ?_)
  · exact absurd c_1 (nI_pos (by omega))
  · skip
    refine lv_iload_n hx hb dX0_markCut_4 rfl (lv_at hl 1 rfl) ?_
    refine lv_aload_n hx hb dX0_markCut_5 rfl (lv_at hl 0 rfl) ?_
    refine y_get (own := RX0) hx hb hown hG h 0 0 3 (T := TX0) (N := 5) rfl rfl (by decide) (yl_0 hG) (kw_2_150 hG) rfl rfl dX0_markCut_6 ?_
    refine y_alen (v := 24) hx hb hG h 1 1 rfl rfl (show Int32.ofNat 24 = 24 from by decide) dX0_markCut_9 ?_
    refine lv_icmp_ge (tgt := 35) hx hb dX0_markCut_10 (by decide) (fun c_10 => ?_) (fun c_10 => ?_)
    · exact absurd c_10 (nI_ge hh (by decide))
    · skip
      refine lv_aload_n hx hb dX0_markCut_13 rfl (lv_at hl 0 rfl) ?_
      refine y_get (own := RX0) hx hb hown hG h 0 0 3 (T := TX0) (N := 5) rfl rfl (by decide) (yl_0 hG) (kw_2_150 hG) rfl rfl dX0_markCut_14 ?_
      refine lv_iload_n hx hb dX0_markCut_17 rfl (lv_at hl 1 rfl) ?_
      refine lv_iconst (v := 1) hx hb dX0_markCut_18 (by decide) ?_
      refine y_zast (X' := [(a, .inr (0, [.ref dm, .ref ds, .int sp, .ref dc, .int gs])), (dc, .inl (ty 1, 24, .inl (upd C ho 1)))]) hx hb hG h 1 rfl (vp_in_nI hh (by decide)) (by rw [y_clamp _ (by omega)] <;> rfl) dX0_markCut_19 (fun H locs h => ?_)
      refine lv_aload_n hx hb dX0_markCut_20 rfl (lv_at hl 0 rfl) ?_
      refine lv_aload_n hx hb dX0_markCut_21 rfl (lv_at hl 0 rfl) ?_
      refine y_get (own := RX0) hx hb hown hG h 0 0 4 (T := TX0) (N := 5) rfl rfl (by decide) (yl_0 hG) (kw_2_151 hG) rfl rfl dX0_markCut_22 ?_
      refine lv_iload_n hx hb dX0_markCut_25 rfl (lv_at hl 2 rfl) ?_
      refine y_calli (X' := fun _ : Unit => [(a, .inr (0, [.ref dm, .ref ds, .int sp, .ref dc, .int gs])), (dc, .inl (ty 1, 24, .inl (upd C ho 1)))]) (wc := []) (wr := [(a, .inr (0, [.ref dm, .ref ds, .int sp, .ref dc, .int gs])), (dc, .inl (ty 1, 24, .inl (upd C ho 1)))]) h hA [] [0, 1] [0, 1] rfl rfl (by decide) (by decide) (by decide) (fun _ => rfl) (va_runS (own := RX0) (As := [.int k]) (rest := [.int gs, .ref a]) ⟨hx, hb, hml, hown, y_nil⟩ (m_J9_abs_0f7a4 l D ty base _ k   ) (y_cwS 1 (kw_3_121 hG) (kw_1_15 hG) (kw_3_217 hG) (kw_3_120 hG) yd_J9_abs_0f7a4 ⟨Nat.le_of_ble_eq_true rfl, Nat.le_of_ble_eq_true rfl⟩) (y_preS hG h hAb [] rfl (by decide)) rfl rfl hl.1 rfl (lv_room (Nat.le_of_ble_eq_true rfl)) dX0_markCut_26 ⟨Nat.le_of_ble_eq_true rfl, Nat.le_of_ble_eq_true rfl⟩) (fun r_26 _ H locs hp_26 h => ?_)
      have hp_26 : r_26 = jAbs k := hp_26
      have h : yH D AZ sZ.heap [(a, .inr (0, [.ref dm, .ref ds, .int sp, .ref dc, .int gs])), (dc, .inl (ty 1, 24, .inl (upd C ho 1)))] [] _ _ := h
      rw [hp_26]
      refine y_calli (X' := fun _ : Unit => [(a, .inr (0, [.ref dm, .ref ds, .int sp, .ref dc, .int gs])), (dc, .inl (ty 1, 24, .inl (upd C ho 1)))]) (wc := []) (wr := [(a, .inr (0, [.ref dm, .ref ds, .int sp, .ref dc, .int gs])), (dc, .inl (ty 1, 24, .inl (upd C ho 1)))]) h hA [] [0, 1] [0, 1] rfl rfl (by decide) (by decide) (by decide) (fun _ => rfl) (va_runS (own := RX0) (As := [.int gs, .int (jAbs k)]) (rest := [.ref a]) ⟨hx, hb, hml, hown, y_nil⟩ (m_J9_max_7cf53 l D ty base _ gs (jAbs k)   ) (y_cwS 2 (kw_3_220 hG) (kw_1_15 hG) (kw_3_218 hG) (kw_3_219 hG) yd_J9_max_7cf53 ⟨Nat.le_of_ble_eq_true rfl, Nat.le_of_ble_eq_true rfl⟩) (y_preS hG h hAb [] rfl (by decide)) rfl rfl hl.1 rfl (lv_room (Nat.le_of_ble_eq_true rfl)) dX0_markCut_29 ⟨Nat.le_of_ble_eq_true rfl, Nat.le_of_ble_eq_true rfl⟩) (fun r_29 _ H locs hp_29 h => ?_)
      have hp_29 : r_29 = jMax gs (jAbs k) := hp_29
      have h : yH D AZ sZ.heap [(a, .inr (0, [.ref dm, .ref ds, .int sp, .ref dc, .int gs])), (dc, .inl (ty 1, 24, .inl (upd C ho 1)))] [] _ _ := h
      rw [hp_29]
      refine y_put (own := RX0) (tf := tyX0) (X' := [(a, .inr (0, [.ref dm, .ref ds, .int sp, .ref dc, .int (jMax gs (jAbs k))])), (dc, .inl (ty 1, 24, .inl (upd C ho 1)))]) hx hb hown hG h 0 0 4 (T := TX0) (N := 5) rfl rfl (by decide) (yl_0 hG) ycl_0 (kw_2_151 hG) rfl rfl rfl rfl (Nat.le_of_ble_eq_true rfl) rfl dX0_markCut_32 (fun H locs h => ?_)
      exact hret () _ _ _ _ _ _ _ _ trivial h rfl (Nat.le_of_ble_eq_true rfl) (Nat.le_of_ble_eq_true rfl) dX0_markCut_35

