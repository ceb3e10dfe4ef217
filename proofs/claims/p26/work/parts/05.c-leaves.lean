abbrev rm_X2_init : Room := { frames := 1, cells := 0, slots := 0, locals := 20 }
theorem yd_X2_init : yX2_init.cls ≠ "java/lang/invoke/MethodHandle" ∧ yX2_init.cls ≠ "java/lang/invoke/VarHandle" ∧ (parseMethodDescriptor yX2_init.desc).map (fun d => d.parameters.length) = some 2 := by decide +kernel
set_option maxHeartbeats 4000000 in
set_option maxRecDepth 100000 in
theorem m_X2_init (l : Launch) (D : va_G) (ty : Nat → ClassId) (base sz : Nat) (a : Nat) (f0 : Int32) (f1 : Int32) (p : Int32) (q : Int32)    : Met l yX2_init [.code yX2_init cX2_init 3 none] rm_X2_init (yPc D ty base sz ([(a, .inr (2, [.int f0, .int f1]))]) [.ref a, .int p, .int q]) (va_Qv (fun _ : Unit => True) (yB D (va_A ([(a, .inr (2, [.int f0, .int f1]))]) sz) (fun _ : Unit => [(a, .inr (2, [.int p, .int q]))])) (va_A ([(a, .inr (2, [.int f0, .int f1]))]) sz)) rm_X2_init.cells rm_X2_init.slots (va_A ([(a, .inr (2, [.int f0, .int f1]))]) sz) := by
  refine y_start_v (cc := cX2_init) (maxL := 3) (own := RX2) (by decide +kernel) rfl (Nat.le_of_ble_eq_true rfl) (fun pZ eZ sZ mZ aZ bZ tZ cZ AZ ls QZ hx hb hml hown hnm hG hA hAb hsz h hl hret => ?_)
  have h : yH D AZ sZ.heap [(a, .inr (2, [.int f0, .int f1]))] [] sZ.heap [] := h
  have hl : lv_has ls 3 [(0, .ref a), (1, .int p), (2, .int q)] := hl
  refine lv_aload_n hx hb dX2_init_0 rfl (lv_at hl 0 rfl) ?_
  refine W.objInit hx hb hown (kw_2_88 hG).b (kw_1_22 hG).b (kw_1_23 hG).b rfl (by rw [hml]; exact hl.1) rfl dX2_init_1 (Nat.le_of_ble_eq_true rfl) (Nat.le_of_ble_eq_true rfl) ?_
  refine W.eq (g2 := F0 mZ 4 ls []) rfl ?_
  refine lv_aload_n hx hb dX2_init_4 rfl (lv_at hl 0 rfl) ?_
  refine lv_iload_n hx hb dX2_init_5 rfl (lv_at hl 1 rfl) ?_
  refine y_putF (own := RX2) (tf := tyX2) (X' := [(a, .inr (2, [.int p, .int f1]))]) hx hb hown hG h 0 2 0 (T := TX2) (N := 2) rfl rfl (by decide) (yl_2 hG) ycl_2 (kw_2_89 hG) rfl rfl hnm rfl rfl (Nat.le_of_ble_eq_true rfl) rfl dX2_init_6 (fun H locs h => ?_)
  refine lv_aload_n hx hb dX2_init_9 rfl (lv_at hl 0 rfl) ?_
  refine lv_iload_n hx hb dX2_init_10 rfl (lv_at hl 2 rfl) ?_
  refine y_putF (own := RX2) (tf := tyX2) (X' := [(a, .inr (2, [.int p, .int q]))]) hx hb hown hG h 0 2 1 (T := TX2) (N := 2) rfl rfl (by decide) (yl_2 hG) ycl_2 (kw_2_91 hG) rfl rfl hnm rfl rfl (Nat.le_of_ble_eq_true rfl) rfl dX2_init_11 (fun H locs h => ?_)
  exact hret () _ _ _ _ _ _ _ _ trivial h rfl (Nat.le_of_ble_eq_true rfl) (Nat.le_of_ble_eq_true rfl) dX2_init_14

abbrev rm_X3_init : Room := { frames := 1, cells := 0, slots := 0, locals := 20 }
theorem yd_X3_init : yX3_init.cls ≠ "java/lang/invoke/MethodHandle" ∧ yX3_init.cls ≠ "java/lang/invoke/VarHandle" ∧ (parseMethodDescriptor yX3_init.desc).map (fun d => d.parameters.length) = some 0 := by decide +kernel
set_option maxHeartbeats 4000000 in
set_option maxRecDepth 100000 in
theorem m_X3_init (l : Launch) (D : va_G) (ty : Nat → ClassId) (base sz : Nat) (a : Nat) (pl0 : Int32) (pl1 : Int32) (pl2 : Int64) (pl3 : Int64) (pl4 : Int64) (pl5 : Int64)    : Met l yX3_init [.code yX3_init cX3_init 1 none] rm_X3_init (yPc D ty base sz ([(a, .inr (3, [.int pl0, .int pl1, .long pl2, .long pl3, .long pl4, .long pl5]))]) [.ref a]) (va_Qv (fun _ : Unit => True) (yB D (va_A ([(a, .inr (3, [.int pl0, .int pl1, .long pl2, .long pl3, .long pl4, .long pl5]))]) sz) (fun _ : Unit => [(a, .inr (3, [.int pl0, .int pl1, .long pl2, .long pl3, .long pl4, .long pl5]))])) (va_A ([(a, .inr (3, [.int pl0, .int pl1, .long pl2, .long pl3, .long pl4, .long pl5]))]) sz)) rm_X3_init.cells rm_X3_init.slots (va_A ([(a, .inr (3, [.int pl0, .int pl1, .long pl2, .long pl3, .long pl4, .long pl5]))]) sz) := by
  refine y_start_v (cc := cX3_init) (maxL := 1) (own := RX3) (by decide +kernel) rfl (Nat.le_of_ble_eq_true rfl) (fun pZ eZ sZ mZ aZ bZ tZ cZ AZ ls QZ hx hb hml hown hnm hG hA hAb hsz h hl hret => ?_)
  have h : yH D AZ sZ.heap [(a, .inr (3, [.int pl0, .int pl1, .long pl2, .long pl3, .long pl4, .long pl5]))] [] sZ.heap [] := h
  have hl : lv_has ls 1 [(0, .ref a)] := hl
  refine lv_aload_n hx hb dX3_init_0 rfl (lv_at hl 0 rfl) ?_
  refine W.objInit hx hb hown (kw_1_116 hG).b (kw_1_22 hG).b (kw_1_23 hG).b rfl (by rw [hml]; exact hl.1) rfl dX3_init_1 (Nat.le_of_ble_eq_true rfl) (Nat.le_of_ble_eq_true rfl) ?_
  refine W.eq (g2 := F0 mZ 4 ls []) rfl ?_
  exact hret () _ _ _ _ _ _ _ _ trivial h rfl (Nat.le_of_ble_eq_true rfl) (Nat.le_of_ble_eq_true rfl) dX3_init_4

abbrev rm_X3_set : Room := { frames := 3, cells := 0, slots := 0, locals := 63 }
theorem yd_X3_set : yX3_set.cls ≠ "java/lang/invoke/MethodHandle" ∧ yX3_set.cls ≠ "java/lang/invoke/VarHandle" ∧ (parseMethodDescriptor yX3_set.desc).map (fun d => d.parameters.length) = some 4 := by decide +kernel
set_option maxHeartbeats 4000000 in
set_option maxRecDepth 100000 in
theorem m_X3_set (l : Launch) (D : va_G) (ty : Nat → ClassId) (base sz : Nat) (a : Nat) (pl0 : Int32) (pl1 : Int32) (pl2 : Int64) (pl3 : Int64) (pl4 : Int64) (pl5 : Int64) (p : Int32) (tl : Int32) (f : Int32) (r : Int32)    : Met l yX3_set [.code yX3_set cX3_set 5 none] rm_X3_set (yPc D ty base sz ([(a, .inr (3, [.int pl0, .int pl1, .long pl2, .long pl3, .long pl4, .long pl5]))]) [.ref a, .int p, .int tl, .int f, .int r]) (va_Qv (fun _ : Unit => True) (yB D (va_A ([(a, .inr (3, [.int pl0, .int pl1, .long pl2, .long pl3, .long pl4, .long pl5]))]) sz) (fun _ : Unit => [(a, .inr (3, [.int p, .int r, .long (gSin tl).toInt64, .long (gCos tl).toInt64, .long (gSin f).toInt64, .long (gCos f).toInt64]))])) (va_A ([(a, .inr (3, [.int pl0, .int pl1, .long pl2, .long pl3, .long pl4, .long pl5]))]) sz)) rm_X3_set.cells rm_X3_set.slots (va_A ([(a, .inr (3, [.int pl0, .int pl1, .long pl2, .long pl3, .long pl4, .long pl5]))]) sz) := by
  refine y_start_v (cc := cX3_set) (maxL := 5) (own := RX3) (by decide +kernel) rfl (Nat.le_of_ble_eq_true rfl) (fun pZ eZ sZ mZ aZ bZ tZ cZ AZ ls QZ hx hb hml hown hnm hG hA hAb hsz h hl hret => ?_)
  have h : yH D AZ sZ.heap [(a, .inr (3, [.int pl0, .int pl1, .long pl2, .long pl3, .long pl4, .long pl5]))] [] sZ.heap [] := h
  have hl : lv_has ls 5 [(0, .ref a), (1, .int p), (2, .int tl), (3, .int f), (4, .int r)] := hl
  refine lv_aload_n hx hb dX3_set_0 rfl (lv_at hl 0 rfl) ?_
  refine lv_iload_n hx hb dX3_set_1 rfl (lv_at hl 1 rfl) ?_
  refine y_put (own := RX3) (tf := tyX3) (X' := [(a, .inr (3, [.int p, .int pl1, .long pl2, .long pl3, .long pl4, .long pl5]))]) hx hb hown hG h 0 3 0 (T := TX3) (N := 6) rfl rfl (by decide) (yl_3 hG) ycl_3 (kw_1_117 hG) rfl rfl rfl rfl (Nat.le_of_ble_eq_true rfl) rfl dX3_set_2 (fun H locs h => ?_)
  refine lv_aload_n hx hb dX3_set_5 rfl (lv_at hl 0 rfl) ?_
  refine lv_iload hx hb dX3_set_6 (lv_at hl 4 rfl) ?_
  refine y_put (own := RX3) (tf := tyX3) (X' := [(a, .inr (3, [.int p, .int r, .long pl2, .long pl3, .long pl4, .long pl5]))]) hx hb hown hG h 0 3 1 (T := TX3) (N := 6) rfl rfl (by decide) (yl_3 hG) ycl_3 (kw_1_121 hG) rfl rfl rfl rfl (Nat.le_of_ble_eq_true rfl) rfl dX3_set_8 (fun H locs h => ?_)
  refine lv_aload_n hx hb dX3_set_11 rfl (lv_at hl 0 rfl) ?_
  refine lv_iload_n hx hb dX3_set_12 rfl (lv_at hl 2 rfl) ?_
  refine y_calli (X' := fun _ : Unit => [(a, .inr (3, [.int p, .int r, .long pl2, .long pl3, .long pl4, .long pl5]))]) (wc := []) (wr := [(a, .inr (3, [.int p, .int r, .long pl2, .long pl3, .long pl4, .long pl5]))]) h hA [] [0] [0] rfl rfl (by decide) (by decide) (by decide) (fun _ => rfl) (va_runSN (own := RX3) (As := [.int tl]) (rest := [.ref a]) ⟨hx, hb, hml, hown, y_nil⟩ (m_X7_sineOf l D ty base _ tl   ) (y_cnS 1 (kw_2_171 hG) (kw_1_1 hG) (kw_2_169 hG) (kw_2_170 hG) yd_X7_sineOf ⟨Nat.le_of_ble_eq_true rfl, Nat.le_of_ble_eq_true rfl⟩) (y_preS hG h hAb [] rfl (by decide)) rfl rfl hl.1 rfl (lv_room (Nat.le_of_ble_eq_true rfl)) dX3_set_13 ⟨Nat.le_of_ble_eq_true rfl, Nat.le_of_ble_eq_true rfl⟩) (fun r_13 _ H locs hp_13 h => ?_)
  have hp_13 : r_13 = gSin tl := hp_13
  have h : yH D AZ sZ.heap [(a, .inr (3, [.int p, .int r, .long pl2, .long pl3, .long pl4, .long pl5]))] [] _ _ := h
  rw [hp_13]
  refine lv_i2l hx hb dX3_set_16 rfl ?_
  refine y_put (own := RX3) (tf := tyX3) (X' := [(a, .inr (3, [.int p, .int r, .long (gSin tl).toInt64, .long pl3, .long pl4, .long pl5]))]) hx hb hown hG h 0 3 2 (T := TX3) (N := 6) rfl rfl (by decide) (yl_3 hG) ycl_3 (kw_1_124 hG) rfl rfl rfl rfl (Nat.le_of_ble_eq_true rfl) rfl dX3_set_17 (fun H locs h => ?_)
  refine lv_aload_n hx hb dX3_set_20 rfl (lv_at hl 0 rfl) ?_
  refine lv_iload_n hx hb dX3_set_21 rfl (lv_at hl 2 rfl) ?_
  refine y_calli (X' := fun _ : Unit => [(a, .inr (3, [.int p, .int r, .long (gSin tl).toInt64, .long pl3, .long pl4, .long pl5]))]) (wc := []) (wr := [(a, .inr (3, [.int p, .int r, .long (gSin tl).toInt64, .long pl3, .long pl4, .long pl5]))]) h hA [] [0] [0] rfl rfl (by decide) (by decide) (by decide) (fun _ => rfl) (va_runSN (own := RX3) (As := [.int tl]) (rest := [.ref a]) ⟨hx, hb, hml, hown, y_nil⟩ (m_X7_cosineOf l D ty base _ tl   ) (y_cnS 1 (kw_2_181 hG) (kw_1_1 hG) (kw_2_179 hG) (kw_2_180 hG) yd_X7_cosineOf ⟨Nat.le_of_ble_eq_true rfl, Nat.le_of_ble_eq_true rfl⟩) (y_preS hG h hAb [] rfl (by decide)) rfl rfl hl.1 rfl (lv_room (Nat.le_of_ble_eq_true rfl)) dX3_set_22 ⟨Nat.le_of_ble_eq_true rfl, Nat.le_of_ble_eq_true rfl⟩) (fun r_22 _ H locs hp_22 h => ?_)
  have hp_22 : r_22 = gCos tl := hp_22
  have h : yH D AZ sZ.heap [(a, .inr (3, [.int p, .int r, .long (gSin tl).toInt64, .long pl3, .long pl4, .long pl5]))] [] _ _ := h
  rw [hp_22]
  refine lv_i2l hx hb dX3_set_25 rfl ?_
  refine y_put (own := RX3) (tf := tyX3) (X' := [(a, .inr (3, [.int p, .int r, .long (gSin tl).toInt64, .long (gCos tl).toInt64, .long pl4, .long pl5]))]) hx hb hown hG h 0 3 3 (T := TX3) (N := 6) rfl rfl (by decide) (yl_3 hG) ycl_3 (kw_1_126 hG) rfl rfl rfl rfl (Nat.le_of_ble_eq_true rfl) rfl dX3_set_26 (fun H locs h => ?_)
  refine lv_aload_n hx hb dX3_set_29 rfl (lv_at hl 0 rfl) ?_
  refine lv_iload_n hx hb dX3_set_30 rfl (lv_at hl 3 rfl) ?_
  refine y_calli (X' := fun _ : Unit => [(a, .inr (3, [.int p, .int r, .long (gSin tl).toInt64, .long (gCos tl).toInt64, .long pl4, .long pl5]))]) (wc := []) (wr := [(a, .inr (3, [.int p, .int r, .long (gSin tl).toInt64, .long (gCos tl).toInt64, .long pl4, .long pl5]))]) h hA [] [0] [0] rfl rfl (by decide) (by decide) (by decide) (fun _ => rfl) (va_runSN (own := RX3) (As := [.int f]) (rest := [.ref a]) ⟨hx, hb, hml, hown, y_nil⟩ (m_X7_sineOf l D ty base _ f   ) (y_cnS 1 (kw_2_171 hG) (kw_1_1 hG) (kw_2_169 hG) (kw_2_170 hG) yd_X7_sineOf ⟨Nat.le_of_ble_eq_true rfl, Nat.le_of_ble_eq_true rfl⟩) (y_preS hG h hAb [] rfl (by decide)) rfl rfl hl.1 rfl (lv_room (Nat.le_of_ble_eq_true rfl)) dX3_set_31 ⟨Nat.le_of_ble_eq_true rfl, Nat.le_of_ble_eq_true rfl⟩) (fun r_31 _ H locs hp_31 h => ?_)
  have hp_31 : r_31 = gSin f := hp_31
  have h : yH D AZ sZ.heap [(a, .inr (3, [.int p, .int r, .long (gSin tl).toInt64, .long (gCos tl).toInt64, .long pl4, .long pl5]))] [] _ _ := h
  rw [hp_31]
  refine lv_i2l hx hb dX3_set_34 rfl ?_
  refine y_put (own := RX3) (tf := tyX3) (X' := [(a, .inr (3, [.int p, .int r, .long (gSin tl).toInt64, .long (gCos tl).toInt64, .long (gSin f).toInt64, .long pl5]))]) hx hb hown hG h 0 3 4 (T := TX3) (N := 6) rfl rfl (by decide) (yl_3 hG) ycl_3 (kw_1_129 hG) rfl rfl rfl rfl (Nat.le_of_ble_eq_true rfl) rfl dX3_set_35 (fun H locs h => ?_)
  refine lv_aload_n hx hb dX3_set_38 rfl (lv_at hl 0 rfl) ?_
  refine lv_iload_n hx hb dX3_set_39 rfl (lv_at hl 3 rfl) ?_
  refine y_calli (X' := fun _ : Unit => [(a, .inr (3, [.int p, .int r, .long (gSin tl).toInt64, .long (gCos tl).toInt64, .long (gSin f).toInt64, .long pl5]))]) (wc := []) (wr := [(a, .inr (3, [.int p, .int r, .long (gSin tl).toInt64, .long (gCos tl).toInt64, .long (gSin f).toInt64, .long pl5]))]) h hA [] [0] [0] rfl rfl (by decide) (by decide) (by decide) (fun _ => rfl) (va_runSN (own := RX3) (As := [.int f]) (rest := [.ref a]) ⟨hx, hb, hml, hown, y_nil⟩ (m_X7_cosineOf l D ty base _ f   ) (y_cnS 1 (kw_2_181 hG) (kw_1_1 hG) (kw_2_179 hG) (kw_2_180 hG) yd_X7_cosineOf ⟨Nat.le_of_ble_eq_true rfl, Nat.le_of_ble_eq_true rfl⟩) (y_preS hG h hAb [] rfl (by decide)) rfl rfl hl.1 rfl (lv_room (Nat.le_of_ble_eq_true rfl)) dX3_set_40 ⟨Nat.le_of_ble_eq_true rfl, Nat.le_of_ble_eq_true rfl⟩) (fun r_40 _ H locs hp_40 h => ?_)
  have hp_40 : r_40 = gCos f := hp_40
  have h : yH D AZ sZ.heap [(a, .inr (3, [.int p, .int r, .long (gSin tl).toInt64, .long (gCos tl).toInt64, .long (gSin f).toInt64, .long pl5]))] [] _ _ := h
  rw [hp_40]
  refine lv_i2l hx hb dX3_set_43 rfl ?_
  refine y_put (own := RX3) (tf := tyX3) (X' := [(a, .inr (3, [.int p, .int r, .long (gSin tl).toInt64, .long (gCos tl).toInt64, .long (gSin f).toInt64, .long (gCos f).toInt64]))]) hx hb hown hG h 0 3 5 (T := TX3) (N := 6) rfl rfl (by decide) (yl_3 hG) ycl_3 (kw_1_131 hG) rfl rfl rfl rfl (Nat.le_of_ble_eq_true rfl) rfl dX3_set_44 (fun H locs h => ?_)
  exact hret () _ _ _ _ _ _ _ _ trivial h rfl (Nat.le_of_ble_eq_true rfl) (Nat.le_of_ble_eq_true rfl) dX3_set_47

abbrev rm_X4_init : Room := { frames := 1, cells := 0, slots := 0, locals := 20 }
theorem yd_X4_init : yX4_init.cls ≠ "java/lang/invoke/MethodHandle" ∧ yX4_init.cls ≠ "java/lang/invoke/VarHandle" ∧ (parseMethodDescriptor yX4_init.desc).map (fun d => d.parameters.length) = some 0 := by decide +kernel
set_option maxHeartbeats 4000000 in
set_option maxRecDepth 100000 in
theorem m_X4_init (l : Launch) (D : va_G) (ty : Nat → ClassId) (base sz : Nat) (a : Nat) (sb : Int32) (sx : Int32) (sy : Int32)    : Met l yX4_init [.code yX4_init cX4_init 1 none] rm_X4_init (yPc D ty base sz ([(a, .inr (4, [.int sb, .int sx, .int sy]))]) [.ref a]) (va_Qv (fun _ : Unit => True) (yB D (va_A ([(a, .inr (4, [.int sb, .int sx, .int sy]))]) sz) (fun _ : Unit => [(a, .inr (4, [.int sb, .int sx, .int sy]))])) (va_A ([(a, .inr (4, [.int sb, .int sx, .int sy]))]) sz)) rm_X4_init.cells rm_X4_init.slots (va_A ([(a, .inr (4, [.int sb, .int sx, .int sy]))]) sz) := by
  refine y_start_v (cc := cX4_init) (maxL := 1) (own := RX4) (by decide +kernel) rfl (Nat.le_of_ble_eq_true rfl) (fun pZ eZ sZ mZ aZ bZ tZ cZ AZ ls QZ hx hb hml hown hnm hG hA hAb hsz h hl hret => ?_)
  have h : yH D AZ sZ.heap [(a, .inr (4, [.int sb, .int sx, .int sy]))] [] sZ.heap [] := h
  have hl : lv_has ls 1 [(0, .ref a)] := hl
  refine lv_aload_n hx hb dX4_init_0 rfl (lv_at hl 0 rfl) ?_
  refine W.objInit hx hb hown (kw_1_91 hG).b (kw_1_22 hG).b (kw_1_23 hG).b rfl (by rw [hml]; exact hl.1) rfl dX4_init_1 (Nat.le_of_ble_eq_true rfl) (Nat.le_of_ble_eq_true rfl) ?_
  refine W.eq (g2 := F0 mZ 4 ls []) rfl ?_
  exact hret () _ _ _ _ _ _ _ _ trivial h rfl (Nat.le_of_ble_eq_true rfl) (Nat.le_of_ble_eq_true rfl) dX4_init_4

abbrev rm_X5_init : Room := { frames := 1, cells := 0, slots := 0, locals := 20 }
theorem yd_X5_init : yX5_init.cls ≠ "java/lang/invoke/MethodHandle" ∧ yX5_init.cls ≠ "java/lang/invoke/VarHandle" ∧ (parseMethodDescriptor yX5_init.desc).map (fun d => d.parameters.length) = some 0 := by decide +kernel
set_option maxHeartbeats 4000000 in
set_option maxRecDepth 100000 in
theorem m_X5_init (l : Launch) (D : va_G) (ty : Nat → ClassId) (base sz : Nat) (a : Nat) (su0 : Int64) (su1 : Int64) (su2 : Int64) (su3 : Int64) (up : Int64) (so : Int64) (we : Int64)    : Met l yX5_init [.code yX5_init cX5_init 1 none] rm_X5_init (yPc D ty base sz ([(a, .inr (5, [.long su0, .long su1, .long su2, .long su3, .long up, .long so, .long we]))]) [.ref a]) (va_Qv (fun _ : Unit => True) (yB D (va_A ([(a, .inr (5, [.long su0, .long su1, .long su2, .long su3, .long up, .long so, .long we]))]) sz) (fun _ : Unit => [(a, .inr (5, [.long su0, .long su1, .long su2, .long su3, .long up, .long so, .long we]))])) (va_A ([(a, .inr (5, [.long su0, .long su1, .long su2, .long su3, .long up, .long so, .long we]))]) sz)) rm_X5_init.cells rm_X5_init.slots (va_A ([(a, .inr (5, [.long su0, .long su1, .long su2, .long su3, .long up, .long so, .long we]))]) sz) := by
  refine y_start_v (cc := cX5_init) (maxL := 1) (own := RX5) (by decide +kernel) rfl (Nat.le_of_ble_eq_true rfl) (fun pZ eZ sZ mZ aZ bZ tZ cZ AZ ls QZ hx hb hml hown hnm hG hA hAb hsz h hl hret => ?_)
  have h : yH D AZ sZ.heap [(a, .inr (5, [.long su0, .long su1, .long su2, .long su3, .long up, .long so, .long we]))] [] sZ.heap [] := h
  have hl : lv_has ls 1 [(0, .ref a)] := hl
  refine lv_aload_n hx hb dX5_init_0 rfl (lv_at hl 0 rfl) ?_
  refine W.objInit hx hb hown (kw_1_57 hG).b (kw_1_22 hG).b (kw_1_23 hG).b rfl (by rw [hml]; exact hl.1) rfl dX5_init_1 (Nat.le_of_ble_eq_true rfl) (Nat.le_of_ble_eq_true rfl) ?_
  refine W.eq (g2 := F0 mZ 4 ls []) rfl ?_
  exact hret () _ _ _ _ _ _ _ _ trivial h rfl (Nat.le_of_ble_eq_true rfl) (Nat.le_of_ble_eq_true rfl) dX5_init_4

abbrev rm_X5_startDay : Room := { frames := 3, cells := 0, slots := 0, locals := 63 }
theorem yd_X5_startDay : yX5_startDay.cls ≠ "java/lang/invoke/MethodHandle" ∧ yX5_startDay.cls ≠ "java/lang/invoke/VarHandle" ∧ (parseMethodDescriptor yX5_startDay.desc).map (fun d => d.parameters.length) = some 2 := by decide +kernel
set_option maxHeartbeats 4000000 in
set_option maxRecDepth 100000 in
theorem m_X5_startDay (l : Launch) (D : va_G) (ty : Nat → ClassId) (base sz : Nat) (a : Nat) (su0 : Int64) (su1 : Int64) (su2 : Int64) (su3 : Int64) (up : Int64) (so : Int64) (we : Int64) (p : Int32) (d : Int32)    : Met l yX5_startDay [.code yX5_startDay cX5_startDay 4 none] rm_X5_startDay (yPc D ty base sz ([(a, .inr (5, [.long su0, .long su1, .long su2, .long su3, .long up, .long so, .long we]))]) [.ref a, .int p, .int d]) (va_Qv (fun _ : Unit => True) (yB D (va_A ([(a, .inr (5, [.long su0, .long su1, .long su2, .long su3, .long up, .long so, .long we]))]) sz) (fun _ : Unit => [(a, .inr (5, [.long (gSin p).toInt64, .long (gCos p).toInt64, .long (gSin (gSl d)).toInt64, .long (gCos (gSl d)).toInt64, .long up, .long so, .long we]))])) (va_A ([(a, .inr (5, [.long su0, .long su1, .long su2, .long su3, .long up, .long so, .long we]))]) sz)) rm_X5_startDay.cells rm_X5_startDay.slots (va_A ([(a, .inr (5, [.long su0, .long su1, .long su2, .long su3, .long up, .long so, .long we]))]) sz) := by
  refine y_start_v (cc := cX5_startDay) (maxL := 4) (own := RX5) (by decide +kernel) rfl (Nat.le_of_ble_eq_true rfl) (fun pZ eZ sZ mZ aZ bZ tZ cZ AZ ls QZ hx hb hml hown hnm hG hA hAb hsz h hl hret => ?_)
  have h : yH D AZ sZ.heap [(a, .inr (5, [.long su0, .long su1, .long su2, .long su3, .long up, .long so, .long we]))] [] sZ.heap [] := h
  have hl : lv_has ls 4 [(0, .ref a), (1, .int p), (2, .int d)] := hl
  refine lv_iload_n hx hb dX5_startDay_0 rfl (lv_at hl 2 rfl) ?_
  refine y_calli (X' := fun _ : Unit => [(a, .inr (5, [.long su0, .long su1, .long su2, .long su3, .long up, .long so, .long we]))]) (wc := []) (wr := [(a, .inr (5, [.long su0, .long su1, .long su2, .long su3, .long up, .long so, .long we]))]) h hA [] [0] [0] rfl rfl (by decide) (by decide) (by decide) (fun _ => rfl) (va_runSN (own := RX5) (As := [.int d]) (rest := []) ⟨hx, hb, hml, hown, y_nil⟩ (m_X7_slantOf l D ty base _ d   ) (y_cnS 1 (kw_2_207 hG) (kw_1_1 hG) (kw_2_228 hG) (kw_2_206 hG) yd_X7_slantOf ⟨Nat.le_of_ble_eq_true rfl, Nat.le_of_ble_eq_true rfl⟩) (y_preS hG h hAb [] rfl (by decide)) rfl rfl hl.1 rfl (lv_room (Nat.le_of_ble_eq_true rfl)) dX5_startDay_1 ⟨Nat.le_of_ble_eq_true rfl, Nat.le_of_ble_eq_true rfl⟩) (fun r_1 _ H locs hp_1 h => ?_)
  have hp_1 : r_1 = gSl d := hp_1
  have h : yH D AZ sZ.heap [(a, .inr (5, [.long su0, .long su1, .long su2, .long su3, .long up, .long so, .long we]))] [] _ _ := h
  rw [hp_1]
  refine lv_istore_n (lv' := [(3, .int (gSl d)), (0, .ref a), (1, .int p), (2, .int d)]) hx hb dX5_startDay_4 rfl hl (by decide) rfl (fun ls hl => ?_)
  refine lv_aload_n hx hb dX5_startDay_5 rfl (lv_at hl 1 rfl) ?_
  refine lv_iload_n hx hb dX5_startDay_6 rfl (lv_at hl 2 rfl) ?_
  refine y_calli (X' := fun _ : Unit => [(a, .inr (5, [.long su0, .long su1, .long su2, .long su3, .long up, .long so, .long we]))]) (wc := []) (wr := [(a, .inr (5, [.long su0, .long su1, .long su2, .long su3, .long up, .long so, .long we]))]) h hA [] [0] [0] rfl rfl (by decide) (by decide) (by decide) (fun _ => rfl) (va_runSN (own := RX5) (As := [.int p]) (rest := [.ref a]) ⟨hx, hb, hml, hown, y_nil⟩ (m_X7_sineOf l D ty base _ p   ) (y_cnS 1 (kw_2_171 hG) (kw_1_1 hG) (kw_2_229 hG) (kw_2_170 hG) yd_X7_sineOf ⟨Nat.le_of_ble_eq_true rfl, Nat.le_of_ble_eq_true rfl⟩) (y_preS hG h hAb [] rfl (by decide)) rfl rfl hl.1 rfl (lv_room (Nat.le_of_ble_eq_true rfl)) dX5_startDay_7 ⟨Nat.le_of_ble_eq_true rfl, Nat.le_of_ble_eq_true rfl⟩) (fun r_7 _ H locs hp_7 h => ?_)
  have hp_7 : r_7 = gSin p := hp_7
  have h : yH D AZ sZ.heap [(a, .inr (5, [.long su0, .long su1, .long su2, .long su3, .long up, .long so, .long we]))] [] _ _ := h
  rw [hp_7]
  refine lv_i2l hx hb dX5_startDay_10 rfl ?_
  refine y_put (own := RX5) (tf := tyX5) (X' := [(a, .inr (5, [.long (gSin p).toInt64, .long su1, .long su2, .long su3, .long up, .long so, .long we]))]) hx hb hown hG h 0 5 0 (T := TX5) (N := 7) rfl rfl (by decide) (yl_5 hG) ycl_5 (kw_1_58 hG) rfl rfl rfl rfl (Nat.le_of_ble_eq_true rfl) rfl dX5_startDay_11 (fun H locs h => ?_)
  refine lv_aload_n hx hb dX5_startDay_14 rfl (lv_at hl 1 rfl) ?_
  refine lv_iload_n hx hb dX5_startDay_15 rfl (lv_at hl 2 rfl) ?_
  refine y_calli (X' := fun _ : Unit => [(a, .inr (5, [.long (gSin p).toInt64, .long su1, .long su2, .long su3, .long up, .long so, .long we]))]) (wc := []) (wr := [(a, .inr (5, [.long (gSin p).toInt64, .long su1, .long su2, .long su3, .long up, .long so, .long we]))]) h hA [] [0] [0] rfl rfl (by decide) (by decide) (by decide) (fun _ => rfl) (va_runSN (own := RX5) (As := [.int p]) (rest := [.ref a]) ⟨hx, hb, hml, hown, y_nil⟩ (m_X7_cosineOf l D ty base _ p   ) (y_cnS 1 (kw_2_181 hG) (kw_1_1 hG) (kw_2_230 hG) (kw_2_180 hG) yd_X7_cosineOf ⟨Nat.le_of_ble_eq_true rfl, Nat.le_of_ble_eq_true rfl⟩) (y_preS hG h hAb [] rfl (by decide)) rfl rfl hl.1 rfl (lv_room (Nat.le_of_ble_eq_true rfl)) dX5_startDay_16 ⟨Nat.le_of_ble_eq_true rfl, Nat.le_of_ble_eq_true rfl⟩) (fun r_16 _ H locs hp_16 h => ?_)
  have hp_16 : r_16 = gCos p := hp_16
  have h : yH D AZ sZ.heap [(a, .inr (5, [.long (gSin p).toInt64, .long su1, .long su2, .long su3, .long up, .long so, .long we]))] [] _ _ := h
  rw [hp_16]
  refine lv_i2l hx hb dX5_startDay_19 rfl ?_
  refine y_put (own := RX5) (tf := tyX5) (X' := [(a, .inr (5, [.long (gSin p).toInt64, .long (gCos p).toInt64, .long su2, .long su3, .long up, .long so, .long we]))]) hx hb hown hG h 0 5 1 (T := TX5) (N := 7) rfl rfl (by decide) (yl_5 hG) ycl_5 (kw_1_59 hG) rfl rfl rfl rfl (Nat.le_of_ble_eq_true rfl) rfl dX5_startDay_20 (fun H locs h => ?_)
  refine lv_aload_n hx hb dX5_startDay_23 rfl (lv_at hl 1 rfl) ?_
  refine lv_iload_n hx hb dX5_startDay_24 rfl (lv_at hl 0 rfl) ?_
  refine y_calli (X' := fun _ : Unit => [(a, .inr (5, [.long (gSin p).toInt64, .long (gCos p).toInt64, .long su2, .long su3, .long up, .long so, .long we]))]) (wc := []) (wr := [(a, .inr (5, [.long (gSin p).toInt64, .long (gCos p).toInt64, .long su2, .long su3, .long up, .long so, .long we]))]) h hA [] [0] [0] rfl rfl (by decide) (by decide) (by decide) (fun _ => rfl) (va_runSN (own := RX5) (As := [.int (gSl d)]) (rest := [.ref a]) ⟨hx, hb, hml, hown, y_nil⟩ (m_X7_sineOf l D ty base _ (gSl d)   ) (y_cnS 1 (kw_2_171 hG) (kw_1_1 hG) (kw_2_229 hG) (kw_2_170 hG) yd_X7_sineOf ⟨Nat.le_of_ble_eq_true rfl, Nat.le_of_ble_eq_true rfl⟩) (y_preS hG h hAb [] rfl (by decide)) rfl rfl hl.1 rfl (lv_room (Nat.le_of_ble_eq_true rfl)) dX5_startDay_25 ⟨Nat.le_of_ble_eq_true rfl, Nat.le_of_ble_eq_true rfl⟩) (fun r_25 _ H locs hp_25 h => ?_)
  have hp_25 : r_25 = gSin (gSl d) := hp_25
  have h : yH D AZ sZ.heap [(a, .inr (5, [.long (gSin p).toInt64, .long (gCos p).toInt64, .long su2, .long su3, .long up, .long so, .long we]))] [] _ _ := h
  rw [hp_25]
  refine lv_i2l hx hb dX5_startDay_28 rfl ?_
  refine y_put (own := RX5) (tf := tyX5) (X' := [(a, .inr (5, [.long (gSin p).toInt64, .long (gCos p).toInt64, .long (gSin (gSl d)).toInt64, .long su3, .long up, .long so, .long we]))]) hx hb hown hG h 0 5 2 (T := TX5) (N := 7) rfl rfl (by decide) (yl_5 hG) ycl_5 (kw_1_60 hG) rfl rfl rfl rfl (Nat.le_of_ble_eq_true rfl) rfl dX5_startDay_29 (fun H locs h => ?_)
  refine lv_aload_n hx hb dX5_startDay_32 rfl (lv_at hl 1 rfl) ?_
  refine lv_iload_n hx hb dX5_startDay_33 rfl (lv_at hl 0 rfl) ?_
  refine y_calli (X' := fun _ : Unit => [(a, .inr (5, [.long (gSin p).toInt64, .long (gCos p).toInt64, .long (gSin (gSl d)).toInt64, .long su3, .long up, .long so, .long we]))]) (wc := []) (wr := [(a, .inr (5, [.long (gSin p).toInt64, .long (gCos p).toInt64, .long (gSin (gSl d)).toInt64, .long su3, .long up, .long so, .long we]))]) h hA [] [0] [0] rfl rfl (by decide) (by decide) (by decide) (fun _ => rfl) (va_runSN (own := RX5) (As := [.int (gSl d)]) (rest := [.ref a]) ⟨hx, hb, hml, hown, y_nil⟩ (m_X7_cosineOf l D ty base _ (gSl d)   ) (y_cnS 1 (kw_2_181 hG) (kw_1_1 hG) (kw_2_230 hG) (kw_2_180 hG) yd_X7_cosineOf ⟨Nat.le_of_ble_eq_true rfl, Nat.le_of_ble_eq_true rfl⟩) (y_preS hG h hAb [] rfl (by decide)) rfl rfl hl.1 rfl (lv_room (Nat.le_of_ble_eq_true rfl)) dX5_startDay_34 ⟨Nat.le_of_ble_eq_true rfl, Nat.le_of_ble_eq_true rfl⟩) (fun r_34 _ H locs hp_34 h => ?_)
  have hp_34 : r_34 = gCos (gSl d) := hp_34
  have h : yH D AZ sZ.heap [(a, .inr (5, [.long (gSin p).toInt64, .long (gCos p).toInt64, .long (gSin (gSl d)).toInt64, .long su3, .long up, .long so, .long we]))] [] _ _ := h
  rw [hp_34]
  refine lv_i2l hx hb dX5_startDay_37 rfl ?_
  refine y_put (own := RX5) (tf := tyX5) (X' := [(a, .inr (5, [.long (gSin p).toInt64, .long (gCos p).toInt64, .long (gSin (gSl d)).toInt64, .long (gCos (gSl d)).toInt64, .long up, .long so, .long we]))]) hx hb hown hG h 0 5 3 (T := TX5) (N := 7) rfl rfl (by decide) (yl_5 hG) ycl_5 (kw_1_61 hG) rfl rfl rfl rfl (Nat.le_of_ble_eq_true rfl) rfl dX5_startDay_38 (fun H locs h => ?_)
  exact hret () _ _ _ _ _ _ _ _ trivial h rfl (Nat.le_of_ble_eq_true rfl) (Nat.le_of_ble_eq_true rfl) dX5_startDay_41

abbrev rm_X5_moveTo : Room := { frames := 3, cells := 0, slots := 0, locals := 63 }
theorem yd_X5_moveTo : yX5_moveTo.cls ≠ "java/lang/invoke/MethodHandle" ∧ yX5_moveTo.cls ≠ "java/lang/invoke/VarHandle" ∧ (parseMethodDescriptor yX5_moveTo.desc).map (fun d => d.parameters.length) = some 1 := by decide +kernel
set_option maxHeartbeats 4000000 in
set_option maxRecDepth 100000 in
theorem m_X5_moveTo (l : Launch) (D : va_G) (ty : Nat → ClassId) (base sz : Nat) (a : Nat) (up : Int64) (so : Int64) (we : Int64) (p : Int32) (d : Int32) (t : Int32)    : Met l yX5_moveTo [.code yX5_moveTo cX5_moveTo 5 none] rm_X5_moveTo (yPc D ty base sz ([(a, .inr (5, [.long (gSin p).toInt64, .long (gCos p).toInt64, .long (gSin (gSl d)).toInt64, .long (gCos (gSl d)).toInt64, .long up, .long so, .long we]))]) [.ref a, .int t]) (va_Qv (fun u : Int64 × Int64 × Int64 => u.1 = gUp p d t ∧ u.2.1 = gSo p d t ∧ u.2.2 = gWe d t) (yB D (va_A ([(a, .inr (5, [.long (gSin p).toInt64, .long (gCos p).toInt64, .long (gSin (gSl d)).toInt64, .long (gCos (gSl d)).toInt64, .long up, .long so, .long we]))]) sz) (fun u : Int64 × Int64 × Int64 => [(a, .inr (5, [.long (gSin p).toInt64, .long (gCos p).toInt64, .long (gSin (gSl d)).toInt64, .long (gCos (gSl d)).toInt64, .long u.1, .long u.2.1, .long u.2.2]))])) (va_A ([(a, .inr (5, [.long (gSin p).toInt64, .long (gCos p).toInt64, .long (gSin (gSl d)).toInt64, .long (gCos (gSl d)).toInt64, .long up, .long so, .long we]))]) sz)) rm_X5_moveTo.cells rm_X5_moveTo.slots (va_A ([(a, .inr (5, [.long (gSin p).toInt64, .long (gCos p).toInt64, .long (gSin (gSl d)).toInt64, .long (gCos (gSl d)).toInt64, .long up, .long so, .long we]))]) sz) := by
  refine y_start_v (cc := cX5_moveTo) (maxL := 5) (own := RX5) (by decide +kernel) rfl (Nat.le_of_ble_eq_true rfl) (fun pZ eZ sZ mZ aZ bZ tZ cZ AZ ls QZ hx hb hml hown hnm hG hA hAb hsz h hl hret => ?_)
  have h : yH D AZ sZ.heap [(a, .inr (5, [.long (gSin p).toInt64, .long (gCos p).toInt64, .long (gSin (gSl d)).toInt64, .long (gCos (gSl d)).toInt64, .long up, .long so, .long we]))] [] sZ.heap [] := h
  have hl : lv_has ls 5 [(0, .ref a), (1, .int t)] := hl
  refine lv_iload_n hx hb dX5_moveTo_0 rfl (lv_at hl 1 rfl) ?_
  refine lv_sipush (v := 180) hx hb dX5_moveTo_1 (by decide) ?_
  refine lv_isub hx hb dX5_moveTo_4 ?_
  refine lv_istore_n (lv' := [(2, .int (t - 180)), (0, .ref a), (1, .int t)]) hx hb dX5_moveTo_5 rfl hl (by decide) rfl (fun ls hl => ?_)
  refine lv_aload_n hx hb dX5_moveTo_6 rfl (lv_at hl 1 rfl) ?_
  refine y_get (own := RX5) hx hb hown hG h 0 5 3 (T := TX5) (N := 7) rfl rfl (by decide) (yl_5 hG) (kw_1_61 hG) rfl rfl dX5_moveTo_7 ?_
  refine lv_iload_n hx hb dX5_moveTo_10 rfl (lv_at hl 0 rfl) ?_
  refine y_calli (X' := fun _ : Unit => [(a, .inr (5, [.long (gSin p).toInt64, .long (gCos p).toInt64, .long (gSin (gSl d)).toInt64, .long (gCos (gSl d)).toInt64, .long up, .long so, .long we]))]) (wc := []) (wr := [(a, .inr (5, [.long (gSin p).toInt64, .long (gCos p).toInt64, .long (gSin (gSl d)).toInt64, .long (gCos (gSl d)).toInt64, .long up, .long so, .long we]))]) h hA [] [0] [0] rfl rfl (by decide) (by decide) (by decide) (fun _ => rfl) (va_runSN (own := RX5) (As := [.int (t - 180)]) (rest := [.long (gCos (gSl d)).toInt64]) ⟨hx, hb, hml, hown, y_nil⟩ (m_X7_cosineOf l D ty base _ (t - 180)   ) (y_cnS 1 (kw_2_181 hG) (kw_1_1 hG) (kw_2_230 hG) (kw_2_180 hG) yd_X7_cosineOf ⟨Nat.le_of_ble_eq_true rfl, Nat.le_of_ble_eq_true rfl⟩) (y_preS hG h hAb [] rfl (by decide)) rfl rfl hl.1 rfl (lv_room (Nat.le_of_ble_eq_true rfl)) dX5_moveTo_11 ⟨Nat.le_of_ble_eq_true rfl, Nat.le_of_ble_eq_true rfl⟩) (fun r_11 _ H locs hp_11 h => ?_)
  have hp_11 : r_11 = gCos (t - 180) := hp_11
  have h : yH D AZ sZ.heap [(a, .inr (5, [.long (gSin p).toInt64, .long (gCos p).toInt64, .long (gSin (gSl d)).toInt64, .long (gCos (gSl d)).toInt64, .long up, .long so, .long we]))] [] _ _ := h
  rw [hp_11]
  refine lv_i2l hx hb dX5_moveTo_14 rfl ?_
  refine lv_lmul hx hb dX5_moveTo_15 ?_
  refine lv_lstore_n (lv' := [(3, .long (((gCos (gSl d)).toInt64) * ((gCos (t - 180)).toInt64))), (2, .int (t - 180)), (0, .ref a), (1, .int t)]) hx hb dX5_moveTo_16 rfl hl (by decide) rfl (fun ls hl => ?_)
  refine lv_aload_n hx hb dX5_moveTo_17 rfl (lv_at hl 2 rfl) ?_
  refine lv_aload_n hx hb dX5_moveTo_18 rfl (lv_at hl 2 rfl) ?_
  refine y_get (own := RX5) hx hb hown hG h 0 5 0 (T := TX5) (N := 7) rfl rfl (by decide) (yl_5 hG) (kw_1_58 hG) rfl rfl dX5_moveTo_19 ?_
  refine lv_aload_n hx hb dX5_moveTo_22 rfl (lv_at hl 2 rfl) ?_
  refine y_get (own := RX5) hx hb hown hG h 0 5 2 (T := TX5) (N := 7) rfl rfl (by decide) (yl_5 hG) (kw_1_60 hG) rfl rfl dX5_moveTo_23 ?_
  refine lv_lmul hx hb dX5_moveTo_26 ?_
  refine lv_ldc2 (own := RX5) (v := 1000) hx hb hown (kw_2_235 hG).b dX5_moveTo_27 ?_
  refine lv_lmul hx hb dX5_moveTo_30 ?_
  refine lv_aload_n hx hb dX5_moveTo_31 rfl (lv_at hl 2 rfl) ?_
  refine y_get (own := RX5) hx hb hown hG h 0 5 1 (T := TX5) (N := 7) rfl rfl (by decide) (yl_5 hG) (kw_1_59 hG) rfl rfl dX5_moveTo_32 ?_
  refine lv_lload_n hx hb dX5_moveTo_35 rfl (lv_at hl 0 rfl) ?_
  refine lv_lmul hx hb dX5_moveTo_36 ?_
  refine lv_ladd hx hb dX5_moveTo_37 ?_
  refine lv_topl (fun v1 e_v1 => ?_)
  obtain rfl : v1 = gUp p d t := by rw [e_v1]; exact up_eq
  clear e_v1
  refine y_put (own := RX5) (tf := tyX5) (X' := [(a, .inr (5, [.long (gSin p).toInt64, .long (gCos p).toInt64, .long (gSin (gSl d)).toInt64, .long (gCos (gSl d)).toInt64, .long (gUp p d t), .long so, .long we]))]) hx hb hown hG h 0 5 4 (T := TX5) (N := 7) rfl rfl (by decide) (yl_5 hG) ycl_5 (kw_1_63 hG) rfl rfl rfl rfl (Nat.le_of_ble_eq_true rfl) rfl dX5_moveTo_38 (fun H locs h => ?_)
  refine lv_aload_n hx hb dX5_moveTo_41 rfl (lv_at hl 2 rfl) ?_
  refine lv_aload_n hx hb dX5_moveTo_42 rfl (lv_at hl 2 rfl) ?_
  refine y_get (own := RX5) hx hb hown hG h 0 5 0 (T := TX5) (N := 7) rfl rfl (by decide) (yl_5 hG) (kw_1_58 hG) rfl rfl dX5_moveTo_43 ?_
  refine lv_lload_n hx hb dX5_moveTo_46 rfl (lv_at hl 0 rfl) ?_
  refine lv_lmul hx hb dX5_moveTo_47 ?_
  refine lv_aload_n hx hb dX5_moveTo_48 rfl (lv_at hl 2 rfl) ?_
  refine y_get (own := RX5) hx hb hown hG h 0 5 1 (T := TX5) (N := 7) rfl rfl (by decide) (yl_5 hG) (kw_1_59 hG) rfl rfl dX5_moveTo_49 ?_
  refine lv_aload_n hx hb dX5_moveTo_52 rfl (lv_at hl 2 rfl) ?_
  refine y_get (own := RX5) hx hb hown hG h 0 5 2 (T := TX5) (N := 7) rfl rfl (by decide) (yl_5 hG) (kw_1_60 hG) rfl rfl dX5_moveTo_53 ?_
  refine lv_lmul hx hb dX5_moveTo_56 ?_
  refine lv_ldc2 (own := RX5) (v := 1000) hx hb hown (kw_2_235 hG).b dX5_moveTo_57 ?_
  refine lv_lmul hx hb dX5_moveTo_60 ?_
  refine lv_lsub hx hb dX5_moveTo_61 ?_
  refine lv_topl (fun v2 e_v2 => ?_)
  obtain rfl : v2 = gSo p d t := by rw [e_v2]; exact so_eq
  clear e_v2
  refine y_put (own := RX5) (tf := tyX5) (X' := [(a, .inr (5, [.long (gSin p).toInt64, .long (gCos p).toInt64, .long (gSin (gSl d)).toInt64, .long (gCos (gSl d)).toInt64, .long (gUp p d t), .long (gSo p d t), .long we]))]) hx hb hown hG h 0 5 5 (T := TX5) (N := 7) rfl rfl (by decide) (yl_5 hG) ycl_5 (kw_1_66 hG) rfl rfl rfl rfl (Nat.le_of_ble_eq_true rfl) rfl dX5_moveTo_62 (fun H locs h => ?_)
  refine lv_aload_n hx hb dX5_moveTo_65 rfl (lv_at hl 2 rfl) ?_
  refine lv_aload_n hx hb dX5_moveTo_66 rfl (lv_at hl 2 rfl) ?_
  refine y_get (own := RX5) hx hb hown hG h 0 5 3 (T := TX5) (N := 7) rfl rfl (by decide) (yl_5 hG) (kw_1_61 hG) rfl rfl dX5_moveTo_67 ?_
  refine lv_iload_n hx hb dX5_moveTo_70 rfl (lv_at hl 1 rfl) ?_
  refine y_calli (X' := fun _ : Unit => [(a, .inr (5, [.long (gSin p).toInt64, .long (gCos p).toInt64, .long (gSin (gSl d)).toInt64, .long (gCos (gSl d)).toInt64, .long (gUp p d t), .long (gSo p d t), .long we]))]) (wc := []) (wr := [(a, .inr (5, [.long (gSin p).toInt64, .long (gCos p).toInt64, .long (gSin (gSl d)).toInt64, .long (gCos (gSl d)).toInt64, .long (gUp p d t), .long (gSo p d t), .long we]))]) h hA [] [0] [0] rfl rfl (by decide) (by decide) (by decide) (fun _ => rfl) (va_runSN (own := RX5) (As := [.int (t - 180)]) (rest := [.long (gCos (gSl d)).toInt64, .ref a]) ⟨hx, hb, hml, hown, y_nil⟩ (m_X7_sineOf l D ty base _ (t - 180)   ) (y_cnS 1 (kw_2_171 hG) (kw_1_1 hG) (kw_2_229 hG) (kw_2_170 hG) yd_X7_sineOf ⟨Nat.le_of_ble_eq_true rfl, Nat.le_of_ble_eq_true rfl⟩) (y_preS hG h hAb [] rfl (by decide)) rfl rfl hl.1 rfl (lv_room (Nat.le_of_ble_eq_true rfl)) dX5_moveTo_71 ⟨Nat.le_of_ble_eq_true rfl, Nat.le_of_ble_eq_true rfl⟩) (fun r_71 _ H locs hp_71 h => ?_)
  have hp_71 : r_71 = gSin (t - 180) := hp_71
  have h : yH D AZ sZ.heap [(a, .inr (5, [.long (gSin p).toInt64, .long (gCos p).toInt64, .long (gSin (gSl d)).toInt64, .long (gCos (gSl d)).toInt64, .long (gUp p d t), .long (gSo p d t), .long we]))] [] _ _ := h
  rw [hp_71]
  refine lv_i2l hx hb dX5_moveTo_74 rfl ?_
  refine lv_lmul hx hb dX5_moveTo_75 ?_
  refine lv_ldc2 (own := RX5) (v := 1000) hx hb hown (kw_2_235 hG).b dX5_moveTo_76 ?_
  refine lv_lmul hx hb dX5_moveTo_79 ?_
  refine lv_topl (fun v3 e_v3 => ?_)
  obtain rfl : v3 = gWe d t := by rw [e_v3]; exact we_eq
  clear e_v3
  refine y_put (own := RX5) (tf := tyX5) (X' := [(a, .inr (5, [.long (gSin p).toInt64, .long (gCos p).toInt64, .long (gSin (gSl d)).toInt64, .long (gCos (gSl d)).toInt64, .long (gUp p d t), .long (gSo p d t), .long (gWe d t)]))]) hx hb hown hG h 0 5 6 (T := TX5) (N := 7) rfl rfl (by decide) (yl_5 hG) ycl_5 (kw_1_69 hG) rfl rfl rfl rfl (Nat.le_of_ble_eq_true rfl) rfl dX5_moveTo_80 (fun H locs h => ?_)
  exact hret (gUp p d t, gSo p d t, gWe d t) _ _ _ _ _ _ _ _ ⟨rfl, rfl, rfl⟩ h rfl (Nat.le_of_ble_eq_true rfl) (Nat.le_of_ble_eq_true rfl) dX5_moveTo_83

abbrev rm_X5_shines : Room := { frames := 0, cells := 0, slots := 0, locals := 0 }
theorem yd_X5_shines : yX5_shines.cls ≠ "java/lang/invoke/MethodHandle" ∧ yX5_shines.cls ≠ "java/lang/invoke/VarHandle" ∧ (parseMethodDescriptor yX5_shines.desc).map (fun d => d.parameters.length) = some 0 := by decide +kernel
set_option maxHeartbeats 4000000 in
set_option maxRecDepth 100000 in
theorem m_X5_shines (l : Launch) (D : va_G) (ty : Nat → ClassId) (base sz : Nat) (a : Nat) (su0 : Int64) (su1 : Int64) (su2 : Int64) (su3 : Int64) (up : Int64) (so : Int64) (we : Int64)    : Met l yX5_shines [.code yX5_shines cX5_shines 1 (some (.boolean))] rm_X5_shines (yPc D ty base sz ([(a, .inr (5, [.long su0, .long su1, .long su2, .long su3, .long up, .long so, .long we]))]) [.ref a]) (va_Qi (fun (r : Int32) (_ : Unit) => r = bI (decide (0 < up))) (yB D (va_A ([(a, .inr (5, [.long su0, .long su1, .long su2, .long su3, .long up, .long so, .long we]))]) sz) (fun _ : Unit => [(a, .inr (5, [.long su0, .long su1, .long su2, .long su3, .long up, .long so, .long we]))])) (va_A ([(a, .inr (5, [.long su0, .long su1, .long su2, .long su3, .long up, .long so, .long we]))]) sz)) rm_X5_shines.cells rm_X5_shines.slots (va_A ([(a, .inr (5, [.long su0, .long su1, .long su2, .long su3, .long up, .long so, .long we]))]) sz) := by
  refine y_start_z (cc := cX5_shines) (maxL := 1) (own := RX5) (by decide +kernel) rfl (Nat.le_of_ble_eq_true rfl) (fun pZ eZ sZ mZ aZ bZ tZ cZ AZ ls QZ hx hb hml hown hnm hG hA hAb hsz h hl hret => ?_)
  have h : yH D AZ sZ.heap [(a, .inr (5, [.long su0, .long su1, .long su2, .long su3, .long up, .long so, .long we]))] [] sZ.heap [] := h
  have hl : lv_has ls 1 [(0, .ref a)] := hl
  refine lv_aload_n hx hb dX5_shines_0 rfl (lv_at hl 0 rfl) ?_
  refine y_get (own := RX5) hx hb hown hG h 0 5 4 (T := TX5) (N := 7) rfl rfl (by decide) (yl_5 hG) (kw_1_63 hG) rfl rfl dX5_shines_1 ?_
  refine lv_lconst (v := 0) hx hb dX5_shines_4 (by decide) ?_
  refine W.lcmp hx hb dX5_shines_5 ?_
  refine lv_if_le (tgt := 13) hx hb dX5_shines_6 (by decide) (fun c_6 => ?_) (fun c_6 => ?_)
  · skip
    have c_6 := (lg_cmp_le up 0).mp c_6
    refine lv_iconst (v := 0) hx hb dX5_shines_13 (by decide) ?_
    exact hret 0 () _ _ _ _ _ _ _ _ (Or.inl rfl) (bI_0 (Int64.not_lt.mpr c_6)) h rfl (Nat.le_of_ble_eq_true rfl) (Nat.le_of_ble_eq_true rfl) dX5_shines_14
  · skip
    have c_6 := fun q => c_6 ((lg_cmp_le up 0).mpr q)
    refine lv_iconst (v := 1) hx hb dX5_shines_9 (by decide) ?_
    refine lv_goto (tgt := 14) hx hb dX5_shines_10 (by decide) ?_
    exact hret 1 () _ _ _ _ _ _ _ _ (Or.inr rfl) (bI_1 (Int64.not_le.mp c_6)) h rfl (Nat.le_of_ble_eq_true rfl) (Nat.le_of_ble_eq_true rfl) dX5_shines_14

abbrev rm_X5_shinesIn : Room := { frames := 4, cells := 0, slots := 0, locals := 87 }
theorem yd_X5_shinesIn : yX5_shinesIn.cls ≠ "java/lang/invoke/MethodHandle" ∧ yX5_shinesIn.cls ≠ "java/lang/invoke/VarHandle" ∧ (parseMethodDescriptor yX5_shinesIn.desc).map (fun d => d.parameters.length) = some 1 := by decide +kernel
set_option maxHeartbeats 4000000 in
set_option maxRecDepth 100000 in
theorem m_X5_shinesIn (l : Launch) (D : va_G) (ty : Nat → ClassId) (base sz : Nat) (a : Nat) (up : Int64) (so : Int64) (we : Int64) (p : Int32) (d : Int32) (t : Int32)    : Met l yX5_shinesIn [.code yX5_shinesIn cX5_shinesIn 2 (some (.boolean))] rm_X5_shinesIn (yPc D ty base sz ([(a, .inr (5, [.long (gSin p).toInt64, .long (gCos p).toInt64, .long (gSin (gSl d)).toInt64, .long (gCos (gSl d)).toInt64, .long up, .long so, .long we]))]) [.ref a, .int t]) (va_Qi (fun (r : Int32) (_ : Unit) => r = bI (gLit p d t)) (yB D (va_A ([(a, .inr (5, [.long (gSin p).toInt64, .long (gCos p).toInt64, .long (gSin (gSl d)).toInt64, .long (gCos (gSl d)).toInt64, .long up, .long so, .long we]))]) sz) (fun _ : Unit => [(a, .inr (5, [.long (gSin p).toInt64, .long (gCos p).toInt64, .long (gSin (gSl d)).toInt64, .long (gCos (gSl d)).toInt64, .long (gUp p d t), .long (gSo p d t), .long (gWe d t)]))])) (va_A ([(a, .inr (5, [.long (gSin p).toInt64, .long (gCos p).toInt64, .long (gSin (gSl d)).toInt64, .long (gCos (gSl d)).toInt64, .long up, .long so, .long we]))]) sz)) rm_X5_shinesIn.cells rm_X5_shinesIn.slots (va_A ([(a, .inr (5, [.long (gSin p).toInt64, .long (gCos p).toInt64, .long (gSin (gSl d)).toInt64, .long (gCos (gSl d)).toInt64, .long up, .long so, .long we]))]) sz) := by
  refine y_start_z (cc := cX5_shinesIn) (maxL := 2) (own := RX5) (by decide +kernel) rfl (Nat.le_of_ble_eq_true rfl) (fun pZ eZ sZ mZ aZ bZ tZ cZ AZ ls QZ hx hb hml hown hnm hG hA hAb hsz h hl hret => ?_)
  have h : yH D AZ sZ.heap [(a, .inr (5, [.long (gSin p).toInt64, .long (gCos p).toInt64, .long (gSin (gSl d)).toInt64, .long (gCos (gSl d)).toInt64, .long up, .long so, .long we]))] [] sZ.heap [] := h
  have hl : lv_has ls 2 [(0, .ref a), (1, .int t)] := hl
  refine lv_aload_n hx hb dX5_shinesIn_0 rfl (lv_at hl 0 rfl) ?_
  refine lv_iload_n hx hb dX5_shinesIn_1 rfl (lv_at hl 1 rfl) ?_
  refine y_callv (X' := fun u : Int64 × Int64 × Int64 => [(a, .inr (5, [.long (gSin p).toInt64, .long (gCos p).toInt64, .long (gSin (gSl d)).toInt64, .long (gCos (gSl d)).toInt64, .long u.1, .long u.2.1, .long u.2.2]))]) (wc := [(a, .inr (5, [.long (gSin p).toInt64, .long (gCos p).toInt64, .long (gSin (gSl d)).toInt64, .long (gCos (gSl d)).toInt64, .long up, .long so, .long we]))]) (wr := []) h hA [0] [] [0] rfl rfl (by decide) (by decide) (by decide) (fun _ => rfl) (va_runV (own := RX5) (As := [.int t]) (rest := []) ⟨hx, hb, hml, hown, y_nil⟩ (m_X5_moveTo l D ty base _ a up so we p d t   ) (y_cwV (C := RX5) 1 (kw_2_234 hG) (kw_1_3 hG) (kw_3_12 hG) (kw_2_232 hG) (kw_2_233 hG) yd_X5_moveTo ⟨Nat.le_of_ble_eq_true rfl, Nat.le_of_ble_eq_true rfl⟩) (y_preV hG h hAb [0] rfl (by decide) 0 rfl rfl) rfl rfl hl.1 rfl (lv_room (Nat.le_of_ble_eq_true rfl)) dX5_shinesIn_2 ⟨Nat.le_of_ble_eq_true rfl, Nat.le_of_ble_eq_true rfl⟩) (fun u H locs hp_2 h => ?_)
  obtain ⟨up9_2, so9_2, we9_2⟩ := u
  have hp_2 : up9_2 = gUp p d t ∧ so9_2 = gSo p d t ∧ we9_2 = gWe d t := hp_2
  obtain ⟨rfl, rfl, rfl⟩ := hp_2
  have h : yH D AZ sZ.heap [(a, .inr (5, [.long (gSin p).toInt64, .long (gCos p).toInt64, .long (gSin (gSl d)).toInt64, .long (gCos (gSl d)).toInt64, .long (gUp p d t), .long (gSo p d t), .long (gWe d t)]))] [] _ _ := h
  refine lv_aload_n hx hb dX5_shinesIn_5 rfl (lv_at hl 0 rfl) ?_
  refine y_calli (X' := fun _ : Unit => [(a, .inr (5, [.long ((gSin p).toInt64), .long ((gCos p).toInt64), .long ((gSin (gSl d)).toInt64), .long ((gCos (gSl d)).toInt64), .long (gUp p d t), .long (gSo p d t), .long (gWe d t)]))]) (wc := [(a, .inr (5, [.long (gSin p).toInt64, .long (gCos p).toInt64, .long (gSin (gSl d)).toInt64, .long (gCos (gSl d)).toInt64, .long (gUp p d t), .long (gSo p d t), .long (gWe d t)]))]) (wr := []) h hA [0] [] [0] rfl rfl (by decide) (by decide) (by decide) (fun _ => rfl) (va_runV (own := RX5) (As := []) (rest := []) ⟨hx, hb, hml, hown, y_nil⟩ (m_X5_shines l D ty base _ a ((gSin p).toInt64) ((gCos p).toInt64) ((gSin (gSl d)).toInt64) ((gCos (gSl d)).toInt64) (gUp p d t) (gSo p d t) (gWe d t)   ) (y_cwV (C := RX5) 0 (kw_3_16 hG) (kw_1_3 hG) (kw_3_13 hG) (kw_3_14 hG) (kw_3_15 hG) yd_X5_shines ⟨Nat.le_of_ble_eq_true rfl, Nat.le_of_ble_eq_true rfl⟩) (y_preV hG h hAb [0] rfl (by decide) 0 rfl rfl) rfl rfl hl.1 rfl (lv_room (Nat.le_of_ble_eq_true rfl)) dX5_shinesIn_6 ⟨Nat.le_of_ble_eq_true rfl, Nat.le_of_ble_eq_true rfl⟩) (fun r_6 _ H locs hp_6 h => ?_)
  have hp_6 : r_6 = bI (decide (0 < (gUp p d t))) := hp_6
  have h : yH D AZ sZ.heap [(a, .inr (5, [.long ((gSin p).toInt64), .long ((gCos p).toInt64), .long ((gSin (gSl d)).toInt64), .long ((gCos (gSl d)).toInt64), .long (gUp p d t), .long (gSo p d t), .long (gWe d t)]))] [] _ _ := h
  rw [hp_6]
  exact hret (bI (decide (0 < (gUp p d t)))) () _ _ _ _ _ _ _ _ (y_bz _) rfl h rfl (Nat.le_of_ble_eq_true rfl) (Nat.le_of_ble_eq_true rfl) dX5_shinesIn_9

abbrev rm_X4_fall : Room := { frames := 1, cells := 0, slots := 0, locals := 25 }
theorem yd_X4_fall : yX4_fall.cls ≠ "java/lang/invoke/MethodHandle" ∧ yX4_fall.cls ≠ "java/lang/invoke/VarHandle" ∧ (parseMethodDescriptor yX4_fall.desc).map (fun d => d.parameters.length) = some 2 := by decide +kernel
set_option maxHeartbeats 4000000 in
set_option maxRecDepth 100000 in
theorem m_X4_fall (l : Launch) (D : va_G) (ty : Nat → ClassId) (base sz : Nat) (a : Nat) (pa : Nat) (sa : Nat) (sb : Int32) (sx : Int32) (sy : Int32) (p : Int32) (tl : Int32) (f : Int32) (r : Int32) (su0 : Int64) (su1 : Int64) (su2 : Int64) (su3 : Int64) (up : Int64) (so : Int64) (we : Int64)   (hr9 : 0 ≤ r.toInt) : Met l yX4_fall [.code yX4_fall cX4_fall 15 none] rm_X4_fall (yPc D ty base sz ([(a, .inr (4, [.int sb, .int sx, .int sy])), (pa, .inr (3, [.int p, .int r, .long (gSin tl).toInt64, .long (gCos tl).toInt64, .long (gSin f).toInt64, .long (gCos f).toInt64])), (sa, .inr (5, [.long su0, .long su1, .long su2, .long su3, .long up, .long so, .long we]))]) [.ref a, .ref pa, .ref sa]) (va_Qv (fun u : Int32 × Int32 × Int32 => u.1 = bI (gIs up so we tl f r) ∧ (gIs up so we tl f r = true → u.2.1 = gPx up so we tl f r ∧ u.2.2 = gPy up so we tl f r)) (yB D (va_A ([(a, .inr (4, [.int sb, .int sx, .int sy])), (pa, .inr (3, [.int p, .int r, .long (gSin tl).toInt64, .long (gCos tl).toInt64, .long (gSin f).toInt64, .long (gCos f).toInt64])), (sa, .inr (5, [.long su0, .long su1, .long su2, .long su3, .long up, .long so, .long we]))]) sz) (fun u : Int32 × Int32 × Int32 => [(a, .inr (4, [.int u.1, .int u.2.1, .int u.2.2])), (pa, .inr (3, [.int p, .int r, .long (gSin tl).toInt64, .long (gCos tl).toInt64, .long (gSin f).toInt64, .long (gCos f).toInt64])), (sa, .inr (5, [.long su0, .long su1, .long su2, .long su3, .long up, .long so, .long we]))])) (va_A ([(a, .inr (4, [.int sb, .int sx, .int sy])), (pa, .inr (3, [.int p, .int r, .long (gSin tl).toInt64, .long (gCos tl).toInt64, .long (gSin f).toInt64, .long (gCos f).toInt64])), (sa, .inr (5, [.long su0, .long su1, .long su2, .long su3, .long up, .long so, .long we]))]) sz)) rm_X4_fall.cells rm_X4_fall.slots (va_A ([(a, .inr (4, [.int sb, .int sx, .int sy])), (pa, .inr (3, [.int p, .int r, .long (gSin tl).toInt64, .long (gCos tl).toInt64, .long (gSin f).toInt64, .long (gCos f).toInt64])), (sa, .inr (5, [.long su0, .long su1, .long su2, .long su3, .long up, .long so, .long we]))]) sz) := by
  refine y_start_v (cc := cX4_fall) (maxL := 15) (own := RX4) (by decide +kernel) rfl (Nat.le_of_ble_eq_true rfl) (fun pZ eZ sZ mZ aZ bZ tZ cZ AZ ls QZ hx hb hml hown hnm hG hA hAb hsz h hl hret => ?_)
  have h : yH D AZ sZ.heap [(a, .inr (4, [.int sb, .int sx, .int sy])), (pa, .inr (3, [.int p, .int r, .long (gSin tl).toInt64, .long (gCos tl).toInt64, .long (gSin f).toInt64, .long (gCos f).toInt64])), (sa, .inr (5, [.long su0, .long su1, .long su2, .long su3, .long up, .long so, .long we]))] [] sZ.heap [] := h
  have hl : lv_has ls 15 [(0, .ref a), (1, .ref pa), (2, .ref sa)] := hl
  refine lv_aload_n hx hb dX4_fall_0 rfl (lv_at hl 0 rfl) ?_
  refine lv_iconst (v := 0) hx hb dX4_fall_1 (by decide) ?_
  refine y_put (own := RX4) (tf := tyX4) (X' := [(a, .inr (4, [.int 0, .int sx, .int sy])), (pa, .inr (3, [.int p, .int r, .long (gSin tl).toInt64, .long (gCos tl).toInt64, .long (gSin f).toInt64, .long (gCos f).toInt64])), (sa, .inr (5, [.long su0, .long su1, .long su2, .long su3, .long up, .long so, .long we]))]) hx hb hown hG h 0 4 0 (T := TX4) (N := 3) rfl rfl (by decide) (yl_4 hG) ycl_4 (kw_1_92 hG) rfl rfl rfl rfl (Nat.le_of_ble_eq_true rfl) rfl dX4_fall_2 (fun H locs h => ?_)
  refine lv_aload_n hx hb dX4_fall_5 rfl (lv_at hl 2 rfl) ?_
  refine y_calli (X' := fun _ : Unit => [(a, .inr (4, [.int 0, .int sx, .int sy])), (pa, .inr (3, [.int p, .int r, .long (gSin tl).toInt64, .long (gCos tl).toInt64, .long (gSin f).toInt64, .long (gCos f).toInt64])), (sa, .inr (5, [.long su0, .long su1, .long su2, .long su3, .long up, .long so, .long we]))]) (wc := [(sa, .inr (5, [.long su0, .long su1, .long su2, .long su3, .long up, .long so, .long we]))]) (wr := [(a, .inr (4, [.int 0, .int sx, .int sy])), (pa, .inr (3, [.int p, .int r, .long (gSin tl).toInt64, .long (gCos tl).toInt64, .long (gSin f).toInt64, .long (gCos f).toInt64]))]) h hA [2] [0, 1] [0, 1, 2] rfl rfl (by decide) (by decide) (by decide) (fun _ => rfl) (va_runV (own := RX4) (As := []) (rest := []) ⟨hx, hb, hml, hown, y_nil⟩ (m_X5_shines l D ty base _ sa su0 su1 su2 su3 up so we   ) (y_cwV (C := RX5) 0 (kw_3_16 hG) (kw_1_3 hG) (kw_3_100 hG) (kw_3_14 hG) (kw_3_15 hG) yd_X5_shines ⟨Nat.le_of_ble_eq_true rfl, Nat.le_of_ble_eq_true rfl⟩) (y_preV hG h hAb [2] rfl (by decide) 2 rfl rfl) rfl rfl hl.1 rfl (lv_room (Nat.le_of_ble_eq_true rfl)) dX4_fall_6 ⟨Nat.le_of_ble_eq_true rfl, Nat.le_of_ble_eq_true rfl⟩) (fun r_6 _ H locs hp_6 h => ?_)
  have hp_6 : r_6 = bI (decide (0 < up)) := hp_6
  have h : yH D AZ sZ.heap [(a, .inr (4, [.int 0, .int sx, .int sy])), (pa, .inr (3, [.int p, .int r, .long (gSin tl).toInt64, .long (gCos tl).toInt64, .long (gSin f).toInt64, .long (gCos f).toInt64])), (sa, .inr (5, [.long su0, .long su1, .long su2, .long su3, .long up, .long so, .long we]))] [] _ _ := h
  rw [hp_6]
  refine lv_if_ne (tgt := 13) hx hb dX4_fall_9 (by decide) (fun c_9 => ?_) (fun c_9 => ?_)
  · skip
    refine lv_aload_n hx hb dX4_fall_13 rfl (lv_at hl 2 rfl) ?_
    refine y_getN hx hb hown hG h 2 5 5 (T := TX5) (N := 7) rfl rfl (by decide) (yl_5 hG) (kw_1_65 hG) rfl rfl dX4_fall_14 ?_
    refine lv_aload_n hx hb dX4_fall_17 rfl (lv_at hl 1 rfl) ?_
    refine y_getN hx hb hown hG h 1 3 5 (T := TX3) (N := 6) rfl rfl (by decide) (yl_3 hG) (kw_1_130 hG) rfl rfl dX4_fall_18 ?_
    refine lv_lmul hx hb dX4_fall_21 ?_
    refine lv_aload_n hx hb dX4_fall_22 rfl (lv_at hl 2 rfl) ?_
    refine y_getN hx hb hown hG h 2 5 6 (T := TX5) (N := 7) rfl rfl (by decide) (yl_5 hG) (kw_1_68 hG) rfl rfl dX4_fall_23 ?_
    refine lv_aload_n hx hb dX4_fall_26 rfl (lv_at hl 1 rfl) ?_
    refine y_getN hx hb hown hG h 1 3 4 (T := TX3) (N := 6) rfl rfl (by decide) (yl_3 hG) (kw_1_128 hG) rfl rfl dX4_fall_27 ?_
    refine lv_lmul hx hb dX4_fall_30 ?_
    refine lv_ladd hx hb dX4_fall_31 ?_
    refine lv_lstore_n (lv' := [(3, .long (gQ so we f)), (0, .ref a), (1, .ref pa), (2, .ref sa)]) hx hb dX4_fall_32 rfl hl (by decide) rfl (fun ls hl => ?_)
    refine lv_aload_n hx hb dX4_fall_33 rfl (lv_at hl 3 rfl) ?_
    refine y_getN hx hb hown hG h 2 5 4 (T := TX5) (N := 7) rfl rfl (by decide) (yl_5 hG) (kw_1_62 hG) rfl rfl dX4_fall_34 ?_
    refine lv_aload_n hx hb dX4_fall_37 rfl (lv_at hl 2 rfl) ?_
    refine y_getN hx hb hown hG h 1 3 3 (T := TX3) (N := 6) rfl rfl (by decide) (yl_3 hG) (kw_1_127 hG) rfl rfl dX4_fall_38 ?_
    refine lv_lmul hx hb dX4_fall_41 ?_
    refine lv_ldc2 (own := RX4) (v := 1000) hx hb hown (kw_3_101 hG).b dX4_fall_42 ?_
    refine lv_lmul hx hb dX4_fall_45 ?_
    refine lv_lload_n hx hb dX4_fall_46 rfl (lv_at hl 0 rfl) ?_
    refine lv_aload_n hx hb dX4_fall_47 rfl (lv_at hl 2 rfl) ?_
    refine y_getN hx hb hown hG h 1 3 2 (T := TX3) (N := 6) rfl rfl (by decide) (yl_3 hG) (kw_1_125 hG) rfl rfl dX4_fall_48 ?_
    refine lv_lmul hx hb dX4_fall_51 ?_
    refine lv_ladd hx hb dX4_fall_52 ?_
    refine lv_topl (fun v1 e_v1 => ?_)
    obtain rfl : v1 = gN up so we tl f := by rw [e_v1]; exact n_eq
    clear e_v1
    refine lv_lstore (lv' := [(5, .long (gN up so we tl f)), (3, .long (gQ so we f)), (0, .ref a), (1, .ref pa), (2, .ref sa)]) hx hb dX4_fall_53 hl (by decide) rfl (fun ls hl => ?_)
    refine lv_lload hx hb dX4_fall_55 (lv_at hl 0 rfl) ?_
    refine lv_lconst (v := 0) hx hb dX4_fall_57 (by decide) ?_
    refine W.lcmp hx hb dX4_fall_58 ?_
    refine lv_if_gt (tgt := 63) hx hb dX4_fall_59 (by decide) (fun c_59 => ?_) (fun c_59 => ?_)
    · skip
      have c_59 := (lg_cmp_gt (gN up so we tl f) 0).mp c_59
      refine lv_ldc2 (own := RX4) (v := 1000) hx hb hown (kw_3_101 hG).b dX4_fall_63 ?_
      refine lv_aload_n hx hb dX4_fall_66 rfl (lv_at hl 4 rfl) ?_
      refine y_getN hx hb hown hG h 2 5 6 (T := TX5) (N := 7) rfl rfl (by decide) (yl_5 hG) (kw_1_68 hG) rfl rfl dX4_fall_67 ?_
      refine lv_aload_n hx hb dX4_fall_70 rfl (lv_at hl 3 rfl) ?_
      refine y_getN hx hb hown hG h 1 3 5 (T := TX3) (N := 6) rfl rfl (by decide) (yl_3 hG) (kw_1_130 hG) rfl rfl dX4_fall_71 ?_
      refine lv_lmul hx hb dX4_fall_74 ?_
      refine lv_aload_n hx hb dX4_fall_75 rfl (lv_at hl 4 rfl) ?_
      refine y_getN hx hb hown hG h 2 5 5 (T := TX5) (N := 7) rfl rfl (by decide) (yl_5 hG) (kw_1_65 hG) rfl rfl dX4_fall_76 ?_
      refine lv_aload_n hx hb dX4_fall_79 rfl (lv_at hl 3 rfl) ?_
      refine y_getN hx hb hown hG h 1 3 4 (T := TX3) (N := 6) rfl rfl (by decide) (yl_3 hG) (kw_1_128 hG) rfl rfl dX4_fall_80 ?_
      refine lv_lmul hx hb dX4_fall_83 ?_
      refine lv_lsub hx hb dX4_fall_84 ?_
      refine lv_lmul hx hb dX4_fall_85 ?_
      refine lv_lstore (lv' := [(7, .long (gA so we f)), (5, .long (gN up so we tl f)), (3, .long (gQ so we f)), (0, .ref a), (1, .ref pa), (2, .ref sa)]) hx hb dX4_fall_86 hl (by decide) rfl (fun ls hl => ?_)
      refine lv_aload_n hx hb dX4_fall_88 rfl (lv_at hl 5 rfl) ?_
      refine y_getN hx hb hown hG h 2 5 4 (T := TX5) (N := 7) rfl rfl (by decide) (yl_5 hG) (kw_1_62 hG) rfl rfl dX4_fall_89 ?_
      refine lv_aload_n hx hb dX4_fall_92 rfl (lv_at hl 4 rfl) ?_
      refine y_getN hx hb hown hG h 1 3 2 (T := TX3) (N := 6) rfl rfl (by decide) (yl_3 hG) (kw_1_125 hG) rfl rfl dX4_fall_93 ?_
      refine lv_lmul hx hb dX4_fall_96 ?_
      refine lv_ldc2 (own := RX4) (v := 1000) hx hb hown (kw_3_101 hG).b dX4_fall_97 ?_
      refine lv_lmul hx hb dX4_fall_100 ?_
      refine lv_lload_n hx hb dX4_fall_101 rfl (lv_at hl 2 rfl) ?_
      refine lv_aload_n hx hb dX4_fall_102 rfl (lv_at hl 4 rfl) ?_
      refine y_getN hx hb hown hG h 1 3 3 (T := TX3) (N := 6) rfl rfl (by decide) (yl_3 hG) (kw_1_127 hG) rfl rfl dX4_fall_103 ?_
      refine lv_lmul hx hb dX4_fall_106 ?_
      refine lv_lsub hx hb dX4_fall_107 ?_
      refine lv_topl (fun v2 e_v2 => ?_)
      obtain rfl : v2 = gB up so we tl f := by rw [e_v2]; exact b_eq
      clear e_v2
      refine lv_lstore (lv' := [(9, .long (gB up so we tl f)), (7, .long (gA so we f)), (5, .long (gN up so we tl f)), (3, .long (gQ so we f)), (0, .ref a), (1, .ref pa), (2, .ref sa)]) hx hb dX4_fall_108 hl (by decide) rfl (fun ls hl => ?_)
      refine lv_aload_n hx hb dX4_fall_110 rfl (lv_at hl 5 rfl) ?_
      refine y_getN hx hb hown hG h 1 3 1 (T := TX3) (N := 6) rfl rfl (by decide) (yl_3 hG) (kw_1_122 hG) rfl rfl dX4_fall_111 ?_
      refine lv_ineg hx hb dX4_fall_114 ?_
      refine lv_i2l hx hb dX4_fall_115 rfl ?_
      refine lv_lload hx hb dX4_fall_116 (lv_at hl 1 rfl) ?_
      refine lv_lmul hx hb dX4_fall_118 ?_
      refine lv_lload hx hb dX4_fall_119 (lv_at hl 2 rfl) ?_
      refine y_calll (X' := fun _ : Unit => [(a, .inr (4, [.int 0, .int sx, .int sy])), (pa, .inr (3, [.int p, .int r, .long (gSin tl).toInt64, .long (gCos tl).toInt64, .long (gSin f).toInt64, .long (gCos f).toInt64])), (sa, .inr (5, [.long su0, .long su1, .long su2, .long su3, .long up, .long so, .long we]))]) (wc := []) (wr := [(a, .inr (4, [.int 0, .int sx, .int sy])), (pa, .inr (3, [.int p, .int r, .long (gSin tl).toInt64, .long (gCos tl).toInt64, .long (gSin f).toInt64, .long (gCos f).toInt64])), (sa, .inr (5, [.long su0, .long su1, .long su2, .long su3, .long up, .long so, .long we]))]) h hA [] [0, 1, 2] [0, 1, 2] rfl rfl (by decide) (by decide) (by decide) (fun _ => rfl) (va_runS (own := RX4) (As := [.long (((-r).toInt64) * (gA so we f)), .long (gN up so we tl f)]) (rest := []) ⟨hx, hb, hml, hown, y_nil⟩ (m_J9_floorDiv_f86c9 l D ty base _ ((- r).toInt64 * (gA so we f)) (gN up so we tl f)   (fun q => by rw [q] at c_59; exact absurd c_59 (by decide))) (y_cwS 2 (kw_3_104 hG) (kw_1_15 hG) (kw_3_102 hG) (kw_3_103 hG) yd_J9_floorDiv_f86c9 ⟨Nat.le_of_ble_eq_true rfl, Nat.le_of_ble_eq_true rfl⟩) (y_preS hG h hAb [] rfl (by decide)) rfl rfl hl.1 rfl (lv_room (Nat.le_of_ble_eq_true rfl)) dX4_fall_121 ⟨Nat.le_of_ble_eq_true rfl, Nat.le_of_ble_eq_true rfl⟩) (fun r_121 _ H locs hp_121 h => ?_)
      have hp_121 : r_121 = jFL ((- r).toInt64 * (gA so we f)) (gN up so we tl f) := hp_121
      have h : yH D AZ sZ.heap [(a, .inr (4, [.int 0, .int sx, .int sy])), (pa, .inr (3, [.int p, .int r, .long (gSin tl).toInt64, .long (gCos tl).toInt64, .long (gSin f).toInt64, .long (gCos f).toInt64])), (sa, .inr (5, [.long su0, .long su1, .long su2, .long su3, .long up, .long so, .long we]))] [] _ _ := h
      rw [hp_121]
      refine lv_topl (fun v3 e_v3 => ?_)
      obtain rfl : v3 = gX so we (gN up so we tl f) f r := by rw [e_v3]; exact (x_eq hr9 (Int64.not_le.mpr c_59))
      clear e_v3
      refine lv_lstore (lv' := [(11, .long (gX so we (gN up so we tl f) f r)), (9, .long (gB up so we tl f)), (7, .long (gA so we f)), (5, .long (gN up so we tl f)), (3, .long (gQ so we f)), (0, .ref a), (1, .ref pa), (2, .ref sa)]) hx hb dX4_fall_124 hl (by decide) rfl (fun ls hl => ?_)
      refine lv_aload_n hx hb dX4_fall_126 rfl (lv_at hl 6 rfl) ?_
      refine y_getN hx hb hown hG h 1 3 1 (T := TX3) (N := 6) rfl rfl (by decide) (yl_3 hG) (kw_1_122 hG) rfl rfl dX4_fall_127 ?_
      refine lv_ineg hx hb dX4_fall_130 ?_
      refine lv_i2l hx hb dX4_fall_131 rfl ?_
      refine lv_lload hx hb dX4_fall_132 (lv_at hl 1 rfl) ?_
      refine lv_lmul hx hb dX4_fall_134 ?_
      refine lv_lload hx hb dX4_fall_135 (lv_at hl 3 rfl) ?_
      refine y_calll (X' := fun _ : Unit => [(a, .inr (4, [.int 0, .int sx, .int sy])), (pa, .inr (3, [.int p, .int r, .long (gSin tl).toInt64, .long (gCos tl).toInt64, .long (gSin f).toInt64, .long (gCos f).toInt64])), (sa, .inr (5, [.long su0, .long su1, .long su2, .long su3, .long up, .long so, .long we]))]) (wc := []) (wr := [(a, .inr (4, [.int 0, .int sx, .int sy])), (pa, .inr (3, [.int p, .int r, .long (gSin tl).toInt64, .long (gCos tl).toInt64, .long (gSin f).toInt64, .long (gCos f).toInt64])), (sa, .inr (5, [.long su0, .long su1, .long su2, .long su3, .long up, .long so, .long we]))]) h hA [] [0, 1, 2] [0, 1, 2] rfl rfl (by decide) (by decide) (by decide) (fun _ => rfl) (va_runS (own := RX4) (As := [.long (((-r).toInt64) * (gB up so we tl f)), .long (gN up so we tl f)]) (rest := []) ⟨hx, hb, hml, hown, y_nil⟩ (m_J9_floorDiv_f86c9 l D ty base _ ((- r).toInt64 * (gB up so we tl f)) (gN up so we tl f)   (fun q => by rw [q] at c_59; exact absurd c_59 (by decide))) (y_cwS 2 (kw_3_104 hG) (kw_1_15 hG) (kw_3_102 hG) (kw_3_103 hG) yd_J9_floorDiv_f86c9 ⟨Nat.le_of_ble_eq_true rfl, Nat.le_of_ble_eq_true rfl⟩) (y_preS hG h hAb [] rfl (by decide)) rfl rfl hl.1 rfl (lv_room (Nat.le_of_ble_eq_true rfl)) dX4_fall_137 ⟨Nat.le_of_ble_eq_true rfl, Nat.le_of_ble_eq_true rfl⟩) (fun r_137 _ H locs hp_137 h => ?_)
      have hp_137 : r_137 = jFL ((- r).toInt64 * (gB up so we tl f)) (gN up so we tl f) := hp_137
      have h : yH D AZ sZ.heap [(a, .inr (4, [.int 0, .int sx, .int sy])), (pa, .inr (3, [.int p, .int r, .long (gSin tl).toInt64, .long (gCos tl).toInt64, .long (gSin f).toInt64, .long (gCos f).toInt64])), (sa, .inr (5, [.long su0, .long su1, .long su2, .long su3, .long up, .long so, .long we]))] [] _ _ := h
      rw [hp_137]
      refine lv_topl (fun v4 e_v4 => ?_)
      obtain rfl : v4 = gY up so we (gN up so we tl f) tl f r := by rw [e_v4]; exact (x_eq hr9 (Int64.not_le.mpr c_59))
      clear e_v4
      refine lv_lstore (lv' := [(13, .long (gY up so we (gN up so we tl f) tl f r)), (11, .long (gX so we (gN up so we tl f) f r)), (9, .long (gB up so we tl f)), (7, .long (gA so we f)), (5, .long (gN up so we tl f)), (3, .long (gQ so we f)), (0, .ref a), (1, .ref pa), (2, .ref sa)]) hx hb dX4_fall_140 hl (by decide) rfl (fun ls hl => ?_)
      refine lv_lload hx hb dX4_fall_142 (lv_at hl 1 rfl) ?_
      refine y_calli (X' := fun _ : Unit => [(a, .inr (4, [.int 0, .int sx, .int sy])), (pa, .inr (3, [.int p, .int r, .long (gSin tl).toInt64, .long (gCos tl).toInt64, .long (gSin f).toInt64, .long (gCos f).toInt64])), (sa, .inr (5, [.long su0, .long su1, .long su2, .long su3, .long up, .long so, .long we]))]) (wc := []) (wr := [(a, .inr (4, [.int 0, .int sx, .int sy])), (pa, .inr (3, [.int p, .int r, .long (gSin tl).toInt64, .long (gCos tl).toInt64, .long (gSin f).toInt64, .long (gCos f).toInt64])), (sa, .inr (5, [.long su0, .long su1, .long su2, .long su3, .long up, .long so, .long we]))]) h hA [] [0, 1, 2] [0, 1, 2] rfl rfl (by decide) (by decide) (by decide) (fun _ => rfl) (va_runSN (own := RX4) (As := [.long (gX so we (gN up so we tl f) f r)]) (rest := []) ⟨hx, hb, hml, hown, y_nil⟩ (m_X7_isOnPlate l D ty base _ (gX so we (gN up so we tl f) f r)   ) (y_cnS 1 (kw_3_107 hG) (kw_1_1 hG) (kw_3_105 hG) (kw_3_106 hG) yd_X7_isOnPlate ⟨Nat.le_of_ble_eq_true rfl, Nat.le_of_ble_eq_true rfl⟩) (y_preS hG h hAb [] rfl (by decide)) rfl rfl hl.1 rfl (lv_room (Nat.le_of_ble_eq_true rfl)) dX4_fall_144 ⟨Nat.le_of_ble_eq_true rfl, Nat.le_of_ble_eq_true rfl⟩) (fun r_144 _ H locs hp_144 h => ?_)
      have hp_144 : r_144 = bI (wL (gX so we (gN up so we tl f) f r)) := hp_144
      have h : yH D AZ sZ.heap [(a, .inr (4, [.int 0, .int sx, .int sy])), (pa, .inr (3, [.int p, .int r, .long (gSin tl).toInt64, .long (gCos tl).toInt64, .long (gSin f).toInt64, .long (gCos f).toInt64])), (sa, .inr (5, [.long su0, .long su1, .long su2, .long su3, .long up, .long so, .long we]))] [] _ _ := h
      rw [hp_144]
      refine lv_if_eq (tgt := 177) hx hb dX4_fall_147 (by decide) (fun c_147 => ?_) (fun c_147 => ?_)
      · skip
        exact hret (0, sx, sy) _ _ _ _ _ _ _ _ (fall_no (is_f3 (bI_f c_147))) h rfl (Nat.le_of_ble_eq_true rfl) (Nat.le_of_ble_eq_true rfl) dX4_fall_177
      · skip
        refine lv_lload hx hb dX4_fall_150 (lv_at hl 0 rfl) ?_
        refine y_calli (X' := fun _ : Unit => [(a, .inr (4, [.int 0, .int sx, .int sy])), (pa, .inr (3, [.int p, .int r, .long (gSin tl).toInt64, .long (gCos tl).toInt64, .long (gSin f).toInt64, .long (gCos f).toInt64])), (sa, .inr (5, [.long su0, .long su1, .long su2, .long su3, .long up, .long so, .long we]))]) (wc := []) (wr := [(a, .inr (4, [.int 0, .int sx, .int sy])), (pa, .inr (3, [.int p, .int r, .long (gSin tl).toInt64, .long (gCos tl).toInt64, .long (gSin f).toInt64, .long (gCos f).toInt64])), (sa, .inr (5, [.long su0, .long su1, .long su2, .long su3, .long up, .long so, .long we]))]) h hA [] [0, 1, 2] [0, 1, 2] rfl rfl (by decide) (by decide) (by decide) (fun _ => rfl) (va_runSN (own := RX4) (As := [.long (gY up so we (gN up so we tl f) tl f r)]) (rest := []) ⟨hx, hb, hml, hown, y_nil⟩ (m_X7_isOnPlate l D ty base _ (gY up so we (gN up so we tl f) tl f r)   ) (y_cnS 1 (kw_3_107 hG) (kw_1_1 hG) (kw_3_105 hG) (kw_3_106 hG) yd_X7_isOnPlate ⟨Nat.le_of_ble_eq_true rfl, Nat.le_of_ble_eq_true rfl⟩) (y_preS hG h hAb [] rfl (by decide)) rfl rfl hl.1 rfl (lv_room (Nat.le_of_ble_eq_true rfl)) dX4_fall_152 ⟨Nat.le_of_ble_eq_true rfl, Nat.le_of_ble_eq_true rfl⟩) (fun r_152 _ H locs hp_152 h => ?_)
        have hp_152 : r_152 = bI (wL (gY up so we (gN up so we tl f) tl f r)) := hp_152
        have h : yH D AZ sZ.heap [(a, .inr (4, [.int 0, .int sx, .int sy])), (pa, .inr (3, [.int p, .int r, .long (gSin tl).toInt64, .long (gCos tl).toInt64, .long (gSin f).toInt64, .long (gCos f).toInt64])), (sa, .inr (5, [.long su0, .long su1, .long su2, .long su3, .long up, .long so, .long we]))] [] _ _ := h
        rw [hp_152]
        refine lv_if_eq (tgt := 177) hx hb dX4_fall_155 (by decide) (fun c_155 => ?_) (fun c_155 => ?_)
        · skip
          exact hret (0, sx, sy) _ _ _ _ _ _ _ _ (fall_no (is_f4 (bI_f c_155))) h rfl (Nat.le_of_ble_eq_true rfl) (Nat.le_of_ble_eq_true rfl) dX4_fall_177
        · skip
          refine lv_aload_n hx hb dX4_fall_158 rfl (lv_at hl 6 rfl) ?_
          refine lv_lload hx hb dX4_fall_159 (lv_at hl 1 rfl) ?_
          refine lv_l2i hx hb dX4_fall_161 rfl ?_
          refine y_put (own := RX4) (tf := tyX4) (X' := [(a, .inr (4, [.int 0, .int (gPx up so we tl f r), .int sy])), (pa, .inr (3, [.int p, .int r, .long (gSin tl).toInt64, .long (gCos tl).toInt64, .long (gSin f).toInt64, .long (gCos f).toInt64])), (sa, .inr (5, [.long su0, .long su1, .long su2, .long su3, .long up, .long so, .long we]))]) hx hb hown hG h 0 4 1 (T := TX4) (N := 3) rfl rfl (by decide) (yl_4 hG) ycl_4 (kw_1_96 hG) rfl rfl rfl rfl (Nat.le_of_ble_eq_true rfl) rfl dX4_fall_162 (fun H locs h => ?_)
          refine lv_aload_n hx hb dX4_fall_165 rfl (lv_at hl 6 rfl) ?_
          refine lv_lload hx hb dX4_fall_166 (lv_at hl 0 rfl) ?_
          refine lv_l2i hx hb dX4_fall_168 rfl ?_
          refine y_put (own := RX4) (tf := tyX4) (X' := [(a, .inr (4, [.int 0, .int (gPx up so we tl f r), .int (gPy up so we tl f r)])), (pa, .inr (3, [.int p, .int r, .long (gSin tl).toInt64, .long (gCos tl).toInt64, .long (gSin f).toInt64, .long (gCos f).toInt64])), (sa, .inr (5, [.long su0, .long su1, .long su2, .long su3, .long up, .long so, .long we]))]) hx hb hown hG h 0 4 2 (T := TX4) (N := 3) rfl rfl (by decide) (yl_4 hG) ycl_4 (kw_1_100 hG) rfl rfl rfl rfl (Nat.le_of_ble_eq_true rfl) rfl dX4_fall_169 (fun H locs h => ?_)
          refine lv_aload_n hx hb dX4_fall_172 rfl (lv_at hl 6 rfl) ?_
          refine lv_iconst (v := 1) hx hb dX4_fall_173 (by decide) ?_
          refine y_put (own := RX4) (tf := tyX4) (X' := [(a, .inr (4, [.int 1, .int (gPx up so we tl f r), .int (gPy up so we tl f r)])), (pa, .inr (3, [.int p, .int r, .long (gSin tl).toInt64, .long (gCos tl).toInt64, .long (gSin f).toInt64, .long (gCos f).toInt64])), (sa, .inr (5, [.long su0, .long su1, .long su2, .long su3, .long up, .long so, .long we]))]) hx hb hown hG h 0 4 0 (T := TX4) (N := 3) rfl rfl (by decide) (yl_4 hG) ycl_4 (kw_1_92 hG) rfl rfl rfl rfl (Nat.le_of_ble_eq_true rfl) rfl dX4_fall_174 (fun H locs h => ?_)
          exact hret (1, gPx up so we tl f r, gPy up so we tl f r) _ _ _ _ _ _ _ _ (fall_yes (is_t (bI_dec c_9) (Int64.not_le.mpr c_59) (bI_t c_147) (bI_t c_155)) ⟨rfl, rfl⟩) h rfl (Nat.le_of_ble_eq_true rfl) (Nat.le_of_ble_eq_true rfl) dX4_fall_177
    · skip
      have c_59 := fun q => c_59 ((lg_cmp_gt (gN up so we tl f) 0).mpr q)
      exact hret (0, sx, sy) _ _ _ _ _ _ _ _ (fall_no (is_f2 (Int64.not_lt.mp c_59))) h rfl (Nat.le_of_ble_eq_true rfl) (Nat.le_of_ble_eq_true rfl) dX4_fall_62
  · skip
    exact hret (0, sx, sy) _ _ _ _ _ _ _ _ (fall_no (is_f1 (bI_decf c_9))) h rfl (Nat.le_of_ble_eq_true rfl) (Nat.le_of_ble_eq_true rfl) dX4_fall_12

abbrev rm_X6_init : Room := { frames := 1, cells := 3, slots := 1080, locals := 20 }
theorem yd_X6_init : yX6_init.cls ≠ "java/lang/invoke/MethodHandle" ∧ yX6_init.cls ≠ "java/lang/invoke/VarHandle" ∧ (parseMethodDescriptor yX6_init.desc).map (fun d => d.parameters.length) = some 0 := by decide +kernel
set_option maxHeartbeats 4000000 in
set_option maxRecDepth 100000 in
theorem m_X6_init (l : Launch) (D : va_G) (ty : Nat → ClassId) (base sz : Nat) (a : Nat) (n0 : Int32) (d0 : Int32)    : Met l yX6_init [.code yX6_init cX6_init 1 none] rm_X6_init (yPc D ty base sz ([(a, .inr (6, [.null, .null, .null, .int n0, .int d0]))]) [.ref a]) (va_Qv (fun u : Nat × Nat × Nat => True) (yB D (va_A ([(a, .inr (6, [.null, .null, .null, .int n0, .int d0]))]) sz) (fun u : Nat × Nat × Nat => [(a, .inr (6, [.ref u.1, .ref u.2.1, .ref u.2.2, .int n0, .int d0])), (u.1, .inl (ty 0, 360, .inl (fun _ => 0))), (u.2.1, .inl (ty 0, 360, .inl (fun _ => 0))), (u.2.2, .inl (ty 0, 360, .inl (fun _ => 0)))])) (va_A ([(a, .inr (6, [.null, .null, .null, .int n0, .int d0]))]) sz)) rm_X6_init.cells rm_X6_init.slots (va_A ([(a, .inr (6, [.null, .null, .null, .int n0, .int d0]))]) sz) := by
  refine y_start_v (cc := cX6_init) (maxL := 1) (own := RX6) (by decide +kernel) rfl (Nat.le_of_ble_eq_true rfl) (fun pZ eZ sZ mZ aZ bZ tZ cZ AZ ls QZ hx hb hml hown hnm hG hA hAb hsz h hl hret => ?_)
  have h : yH D AZ sZ.heap [(a, .inr (6, [.null, .null, .null, .int n0, .int d0]))] [] sZ.heap [] := h
  have hl : lv_has ls 1 [(0, .ref a)] := hl
  refine lv_aload_n hx hb dX6_init_0 rfl (lv_at hl 0 rfl) ?_
  refine W.objInit hx hb hown (kw_1_150 hG).b (kw_1_22 hG).b (kw_1_23 hG).b rfl (by rw [hml]; exact hl.1) rfl dX6_init_1 (Nat.le_of_ble_eq_true rfl) (Nat.le_of_ble_eq_true rfl) ?_
  refine W.eq (g2 := F0 mZ 4 ls []) rfl ?_
  refine lv_aload_n hx hb dX6_init_4 rfl (lv_at hl 0 rfl) ?_
  refine lv_sipush (v := 360) hx hb dX6_init_5 (by decide) ?_
  refine y_newa (atype := .int) (ft := .int) (a0 := (360, .inl (fun _ => 0))) hx hb hG h hA 0 (kw_1_51 hG) rfl (fun C hC => by cases hC) rfl (fun _ => rfl) (by decide) (by decide) (by decide) (Nat.le_of_ble_eq_true rfl) (Nat.le_of_ble_eq_true rfl) dX6_init_8 (fun q1 H h => ?_)
  have h : yH D AZ sZ.heap [(a, .inr (6, [.null, .null, .null, .int n0, .int d0])), (q1, .inl (ty 0, 360, .inl (fun _ => 0)))] [] _ _ := h
  refine y_putF (own := RX6) (tf := tyX6) (X' := [(a, .inr (6, [.ref q1, .null, .null, .int n0, .int d0])), (q1, .inl (ty 0, 360, .inl (fun _ => 0)))]) hx hb hown hG h 0 6 0 (T := TX6) (N := 5) rfl rfl (by decide) (yl_6 hG) ycl_6 (kw_1_151 hG) rfl rfl hnm rfl rfl (Nat.le_of_ble_eq_true rfl) rfl dX6_init_10 (fun H locs h => ?_)
  refine lv_aload_n hx hb dX6_init_13 rfl (lv_at hl 0 rfl) ?_
  refine lv_sipush (v := 360) hx hb dX6_init_14 (by decide) ?_
  refine y_newa (atype := .int) (ft := .int) (a0 := (360, .inl (fun _ => 0))) hx hb hG h hA 0 (kw_1_51 hG) rfl (fun C hC => by cases hC) rfl (fun _ => rfl) (by decide) (by decide) (by decide) (Nat.le_of_ble_eq_true rfl) (Nat.le_of_ble_eq_true rfl) dX6_init_17 (fun q2 H h => ?_)
  have h : yH D AZ sZ.heap [(a, .inr (6, [.ref q1, .null, .null, .int n0, .int d0])), (q1, .inl (ty 0, 360, .inl (fun _ => 0))), (q2, .inl (ty 0, 360, .inl (fun _ => 0)))] [] _ _ := h
  refine y_putF (own := RX6) (tf := tyX6) (X' := [(a, .inr (6, [.ref q1, .ref q2, .null, .int n0, .int d0])), (q1, .inl (ty 0, 360, .inl (fun _ => 0))), (q2, .inl (ty 0, 360, .inl (fun _ => 0)))]) hx hb hown hG h 0 6 1 (T := TX6) (N := 5) rfl rfl (by decide) (yl_6 hG) ycl_6 (kw_1_152 hG) rfl rfl hnm rfl rfl (Nat.le_of_ble_eq_true rfl) rfl dX6_init_19 (fun H locs h => ?_)
  refine lv_aload_n hx hb dX6_init_22 rfl (lv_at hl 0 rfl) ?_
  refine lv_sipush (v := 360) hx hb dX6_init_23 (by decide) ?_
  refine y_newa (atype := .int) (ft := .int) (a0 := (360, .inl (fun _ => 0))) hx hb hG h hA 0 (kw_1_51 hG) rfl (fun C hC => by cases hC) rfl (fun _ => rfl) (by decide) (by decide) (by decide) (Nat.le_of_ble_eq_true rfl) (Nat.le_of_ble_eq_true rfl) dX6_init_26 (fun q3 H h => ?_)
  have h : yH D AZ sZ.heap [(a, .inr (6, [.ref q1, .ref q2, .null, .int n0, .int d0])), (q1, .inl (ty 0, 360, .inl (fun _ => 0))), (q2, .inl (ty 0, 360, .inl (fun _ => 0))), (q3, .inl (ty 0, 360, .inl (fun _ => 0)))] [] _ _ := h
  refine y_putF (own := RX6) (tf := tyX6) (X' := [(a, .inr (6, [.ref q1, .ref q2, .ref q3, .int n0, .int d0])), (q1, .inl (ty 0, 360, .inl (fun _ => 0))), (q2, .inl (ty 0, 360, .inl (fun _ => 0))), (q3, .inl (ty 0, 360, .inl (fun _ => 0)))]) hx hb hown hG h 0 6 2 (T := TX6) (N := 5) rfl rfl (by decide) (yl_6 hG) ycl_6 (kw_1_153 hG) rfl rfl hnm rfl rfl (Nat.le_of_ble_eq_true rfl) rfl dX6_init_28 (fun H locs h => ?_)
  exact hret (q1, q2, q3) _ _ _ _ _ _ _ _ trivial h rfl (Nat.le_of_ble_eq_true rfl) (Nat.le_of_ble_eq_true rfl) dX6_init_31

abbrev rm_X6_add : Room := { frames := 0, cells := 0, slots := 0, locals := 0 }
theorem yd_X6_add : yX6_add.cls ≠ "java/lang/invoke/MethodHandle" ∧ yX6_add.cls ≠ "java/lang/invoke/VarHandle" ∧ (parseMethodDescriptor yX6_add.desc).map (fun d => d.parameters.length) = some 2 := by decide +kernel
set_option maxHeartbeats 4000000 in
set_option maxRecDepth 100000 in
theorem m_X6_add (l : Launch) (D : va_G) (ty : Nat → ClassId) (base sz : Nat) (a : Nat) (tk : Nat) (xs : Nat) (ys : Nat) (sa : Nat) (c : Nat) (d : Int32) (t : Int32) (T : Nat → Int32) (X : Nat → Int32) (Y : Nat → Int32) (sb : Int32) (sx : Int32) (sy : Int32)   (hc : c < 360) : Met l yX6_add [.code yX6_add cX6_add 3 none] rm_X6_add (yPc D ty base sz ([(a, .inr (6, [.ref tk, .ref xs, .ref ys, .int (nI c), .int d])), (tk, .inl (ty 0, 360, .inl T)), (xs, .inl (ty 0, 360, .inl X)), (ys, .inl (ty 0, 360, .inl Y)), (sa, .inr (4, [.int sb, .int sx, .int sy]))]) [.ref a, .int t, .ref sa]) (va_Qv (fun _ : Unit => True) (yB D (va_A ([(a, .inr (6, [.ref tk, .ref xs, .ref ys, .int (nI c), .int d])), (tk, .inl (ty 0, 360, .inl T)), (xs, .inl (ty 0, 360, .inl X)), (ys, .inl (ty 0, 360, .inl Y)), (sa, .inr (4, [.int sb, .int sx, .int sy]))]) sz) (fun _ : Unit => [(a, .inr (6, [.ref tk, .ref xs, .ref ys, .int (nI (c + 1)), .int d])), (tk, .inl (ty 0, 360, .inl (upd T c t))), (xs, .inl (ty 0, 360, .inl (upd X c sx))), (ys, .inl (ty 0, 360, .inl (upd Y c sy))), (sa, .inr (4, [.int sb, .int sx, .int sy]))])) (va_A ([(a, .inr (6, [.ref tk, .ref xs, .ref ys, .int (nI c), .int d])), (tk, .inl (ty 0, 360, .inl T)), (xs, .inl (ty 0, 360, .inl X)), (ys, .inl (ty 0, 360, .inl Y)), (sa, .inr (4, [.int sb, .int sx, .int sy]))]) sz)) rm_X6_add.cells rm_X6_add.slots (va_A ([(a, .inr (6, [.ref tk, .ref xs, .ref ys, .int (nI c), .int d])), (tk, .inl (ty 0, 360, .inl T)), (xs, .inl (ty 0, 360, .inl X)), (ys, .inl (ty 0, 360, .inl Y)), (sa, .inr (4, [.int sb, .int sx, .int sy]))]) sz) := by
  refine y_start_v (cc := cX6_add) (maxL := 3) (own := RX6) (by decide +kernel) rfl (Nat.le_of_ble_eq_true rfl) (fun pZ eZ sZ mZ aZ bZ tZ cZ AZ ls QZ hx hb hml hown hnm hG hA hAb hsz h hl hret => ?_)
  have h : yH D AZ sZ.heap [(a, .inr (6, [.ref tk, .ref xs, .ref ys, .int (nI c), .int d])), (tk, .inl (ty 0, 360, .inl T)), (xs, .inl (ty 0, 360, .inl X)), (ys, .inl (ty 0, 360, .inl Y)), (sa, .inr (4, [.int sb, .int sx, .int sy]))] [] sZ.heap [] := h
  have hl : lv_has ls 3 [(0, .ref a), (1, .int t), (2, .ref sa)] := hl
  refine lv_aload_n hx hb dX6_add_0 rfl (lv_at hl 0 rfl) ?_
  refine y_get (own := RX6) hx hb hown hG h 0 6 3 (T := TX6) (N := 5) rfl rfl (by decide) (yl_6 hG) (kw_1_154 hG) rfl rfl dX6_add_1 ?_
  refine lv_sipush (v := 360) hx hb dX6_add_4 (by decide) ?_
  refine lv_icmp_ge (tgt := 56) hx hb dX6_add_7 (by decide) (fun c_7 => ?_) (fun c_7 => ?_)
  · exact absurd c_7 (nI_ge hc (by decide))
  · skip
    refine lv_aload_n hx hb dX6_add_10 rfl (lv_at hl 0 rfl) ?_
    refine y_get (own := RX6) hx hb hown hG h 0 6 0 (T := TX6) (N := 5) rfl rfl (by decide) (yl_6 hG) (kw_1_151 hG) rfl rfl dX6_add_11 ?_
    refine lv_aload_n hx hb dX6_add_14 rfl (lv_at hl 0 rfl) ?_
    refine y_get (own := RX6) hx hb hown hG h 0 6 3 (T := TX6) (N := 5) rfl rfl (by decide) (yl_6 hG) (kw_1_154 hG) rfl rfl dX6_add_15 ?_
    refine lv_iload_n hx hb dX6_add_18 rfl (lv_at hl 1 rfl) ?_
    refine y_iast (X' := [(a, .inr (6, [.ref tk, .ref xs, .ref ys, .int (nI c), .int d])), (tk, .inl (ty 0, 360, .inl (upd T c t))), (xs, .inl (ty 0, 360, .inl X)), (ys, .inl (ty 0, 360, .inl Y)), (sa, .inr (4, [.int sb, .int sx, .int sy]))]) hx hb hG h 1 rfl (vp_in_nI hc (by decide)) (by rw [y_clamp _ (by omega)] <;> rfl) dX6_add_19 (fun H locs h => ?_)
    refine lv_aload_n hx hb dX6_add_20 rfl (lv_at hl 0 rfl) ?_
    refine y_get (own := RX6) hx hb hown hG h 0 6 1 (T := TX6) (N := 5) rfl rfl (by decide) (yl_6 hG) (kw_1_152 hG) rfl rfl dX6_add_21 ?_
    refine lv_aload_n hx hb dX6_add_24 rfl (lv_at hl 0 rfl) ?_
    refine y_get (own := RX6) hx hb hown hG h 0 6 3 (T := TX6) (N := 5) rfl rfl (by decide) (yl_6 hG) (kw_1_154 hG) rfl rfl dX6_add_25 ?_
    refine lv_aload_n hx hb dX6_add_28 rfl (lv_at hl 2 rfl) ?_
    refine y_getN hx hb hown hG h 4 4 1 (T := TX4) (N := 3) rfl rfl (by decide) (yl_4 hG) (kw_1_97 hG) rfl rfl dX6_add_29 ?_
    refine y_iast (X' := [(a, .inr (6, [.ref tk, .ref xs, .ref ys, .int (nI c), .int d])), (tk, .inl (ty 0, 360, .inl (upd T c t))), (xs, .inl (ty 0, 360, .inl (upd X c sx))), (ys, .inl (ty 0, 360, .inl Y)), (sa, .inr (4, [.int sb, .int sx, .int sy]))]) hx hb hG h 2 rfl (vp_in_nI hc (by decide)) (by rw [y_clamp _ (by omega)] <;> rfl) dX6_add_32 (fun H locs h => ?_)
    refine lv_aload_n hx hb dX6_add_33 rfl (lv_at hl 0 rfl) ?_
    refine y_get (own := RX6) hx hb hown hG h 0 6 2 (T := TX6) (N := 5) rfl rfl (by decide) (yl_6 hG) (kw_1_153 hG) rfl rfl dX6_add_34 ?_
    refine lv_aload_n hx hb dX6_add_37 rfl (lv_at hl 0 rfl) ?_
    refine y_get (own := RX6) hx hb hown hG h 0 6 3 (T := TX6) (N := 5) rfl rfl (by decide) (yl_6 hG) (kw_1_154 hG) rfl rfl dX6_add_38 ?_
    refine lv_aload_n hx hb dX6_add_41 rfl (lv_at hl 2 rfl) ?_
    refine y_getN hx hb hown hG h 4 4 2 (T := TX4) (N := 3) rfl rfl (by decide) (yl_4 hG) (kw_1_101 hG) rfl rfl dX6_add_42 ?_
    refine y_iast (X' := [(a, .inr (6, [.ref tk, .ref xs, .ref ys, .int (nI c), .int d])), (tk, .inl (ty 0, 360, .inl (upd T c t))), (xs, .inl (ty 0, 360, .inl (upd X c sx))), (ys, .inl (ty 0, 360, .inl (upd Y c sy))), (sa, .inr (4, [.int sb, .int sx, .int sy]))]) hx hb hG h 3 rfl (vp_in_nI hc (by decide)) (by rw [y_clamp _ (by omega)] <;> rfl) dX6_add_45 (fun H locs h => ?_)
    refine lv_aload_n hx hb dX6_add_46 rfl (lv_at hl 0 rfl) ?_
    refine lv_dup hx hb dX6_add_47 rfl ?_
    refine y_get (own := RX6) hx hb hown hG h 0 6 3 (T := TX6) (N := 5) rfl rfl (by decide) (yl_6 hG) (kw_1_154 hG) rfl rfl dX6_add_48 ?_
    refine lv_iconst (v := 1) hx hb dX6_add_51 (by decide) ?_
    refine lv_iadd hx hb dX6_add_52 ?_
    refine lv_topi (fun v1 e_v1 => ?_)
    obtain rfl : v1 = nI (c + 1) := by rw [e_v1]; exact (nI_1 c)
    clear e_v1
    refine y_put (own := RX6) (tf := tyX6) (X' := [(a, .inr (6, [.ref tk, .ref xs, .ref ys, .int (nI (c + 1)), .int d])), (tk, .inl (ty 0, 360, .inl (upd T c t))), (xs, .inl (ty 0, 360, .inl (upd X c sx))), (ys, .inl (ty 0, 360, .inl (upd Y c sy))), (sa, .inr (4, [.int sb, .int sx, .int sy]))]) hx hb hown hG h 0 6 3 (T := TX6) (N := 5) rfl rfl (by decide) (yl_6 hG) ycl_6 (kw_1_154 hG) rfl rfl rfl rfl (Nat.le_of_ble_eq_true rfl) rfl dX6_add_53 (fun H locs h => ?_)
    exact hret () _ _ _ _ _ _ _ _ trivial h rfl (Nat.le_of_ble_eq_true rfl) (Nat.le_of_ble_eq_true rfl) dX6_add_56

abbrev rm_X6_nearest : Room := { frames := 1, cells := 0, slots := 0, locals := 20 }
theorem yd_X6_nearest : yX6_nearest.cls ≠ "java/lang/invoke/MethodHandle" ∧ yX6_nearest.cls ≠ "java/lang/invoke/VarHandle" ∧ (parseMethodDescriptor yX6_nearest.desc).map (fun d => d.parameters.length) = some 2 := by decide +kernel
set_option maxHeartbeats 4000000 in
set_option maxRecDepth 100000 in
theorem m_X6_nearest (l : Launch) (D : va_G) (ty : Nat → ClassId) (base sz : Nat) (a : Nat) (tk : Nat) (xs : Nat) (ys : Nat) (k : Nat) (d : Int32) (T : Nat → Int32) (X : Nat → Int32) (Y : Nat → Int32) (x : Int32) (y : Int32)   (hk : k ≤ 360) : Met l yX6_nearest [.code yX6_nearest cX6_nearest 7 (some (.int))] rm_X6_nearest (yPc D ty base sz ([(a, .inr (6, [.ref tk, .ref xs, .ref ys, .int (nI k), .int d])), (tk, .inl (ty 0, 360, .inl T)), (xs, .inl (ty 0, 360, .inl X)), (ys, .inl (ty 0, 360, .inl Y))]) [.ref a, .int x, .int y]) (va_Qi (fun (r : Int32) (_ : Unit) => r = (nA T X Y x y k).2) (yB D (va_A ([(a, .inr (6, [.ref tk, .ref xs, .ref ys, .int (nI k), .int d])), (tk, .inl (ty 0, 360, .inl T)), (xs, .inl (ty 0, 360, .inl X)), (ys, .inl (ty 0, 360, .inl Y))]) sz) (fun _ : Unit => [(a, .inr (6, [.ref tk, .ref xs, .ref ys, .int (nI k), .int d])), (tk, .inl (ty 0, 360, .inl T)), (xs, .inl (ty 0, 360, .inl X)), (ys, .inl (ty 0, 360, .inl Y))])) (va_A ([(a, .inr (6, [.ref tk, .ref xs, .ref ys, .int (nI k), .int d])), (tk, .inl (ty 0, 360, .inl T)), (xs, .inl (ty 0, 360, .inl X)), (ys, .inl (ty 0, 360, .inl Y))]) sz)) rm_X6_nearest.cells rm_X6_nearest.slots (va_A ([(a, .inr (6, [.ref tk, .ref xs, .ref ys, .int (nI k), .int d])), (tk, .inl (ty 0, 360, .inl T)), (xs, .inl (ty 0, 360, .inl X)), (ys, .inl (ty 0, 360, .inl Y))]) sz) := by
  refine y_start_i (cc := cX6_nearest) (maxL := 7) (own := RX6) (by decide +kernel) rfl (Nat.le_of_ble_eq_true rfl) (fun pZ eZ sZ mZ aZ bZ tZ cZ AZ ls QZ hx hb hml hown hnm hG hA hAb hsz h hl hret => ?_)
  have h : yH D AZ sZ.heap [(a, .inr (6, [.ref tk, .ref xs, .ref ys, .int (nI k), .int d])), (tk, .inl (ty 0, 360, .inl T)), (xs, .inl (ty 0, 360, .inl X)), (ys, .inl (ty 0, 360, .inl Y))] [] sZ.heap [] := h
  have hl : lv_has ls 7 [(0, .ref a), (1, .int x), (2, .int y)] := hl
  refine lv_ldc (own := RX6) (v := 1000000) hx hb hown (kw_3_162 hG).b dX6_nearest_0 ?_
  refine lv_istore_n (lv' := [(3, .int 1000000), (0, .ref a), (1, .int x), (2, .int y)]) hx hb dX6_nearest_2 rfl hl (by decide) rfl (fun ls hl => ?_)
  refine lv_iconst (v := (-1)) hx hb dX6_nearest_3 (by decide) ?_
  refine lv_istore (lv' := [(4, .int (-1)), (3, .int 1000000), (0, .ref a), (1, .int x), (2, .int y)]) hx hb dX6_nearest_4 hl (by decide) rfl (fun ls hl => ?_)
  refine lv_iconst (v := 0) hx hb dX6_nearest_6 (by decide) ?_
  refine lv_istore (lv' := [(5, .int 0), (4, .int (-1)), (3, .int 1000000), (0, .ref a), (1, .int x), (2, .int y)]) hx hb dX6_nearest_7 hl (by decide) rfl (fun ls hl => ?_)
  have loop_9 : ∀ (n9 : Nat) (i : Nat) (lo : Int32) (fo : Int32), k - i < n9 → i ≤ k → nA T X Y x y i = (lo, fo) → ∀ (H : Heap) (locs : List Loc) (ls : Array Slot), yH D AZ sZ.heap [(a, .inr (6, [.ref tk, .ref xs, .ref ys, .int (nI k), .int d])), (tk, .inl (ty 0, 360, .inl T)), (xs, .inl (ty 0, 360, .inl X)), (ys, .inl (ty 0, 360, .inl Y))] [] H locs → lv_has ls 7 [(5, .int (nI i)), (4, .int fo), (3, .int lo), (0, .ref a), (1, .int x), (2, .int y)] → W pZ l eZ rm_X6_nearest sZ mZ aZ bZ tZ cZ H locs (0) (0) QZ (F0 mZ 9 ls []) := by
    intro n9
    induction n9 with
    | zero => intro i lo fo hn9; exact absurd hn9 (Nat.not_lt_zero _)
    | succ n9 ih_9 =>
      intro i lo fo hn9 hi hv H locs ls h hl
      refine lv_iload hx hb dX6_nearest_9 (lv_at hl 0 rfl) ?_
      refine lv_aload_n hx hb dX6_nearest_11 rfl (lv_at hl 3 rfl) ?_
      refine y_get (own := RX6) hx hb hown hG h 0 6 3 (T := TX6) (N := 5) rfl rfl (by decide) (yl_6 hG) (kw_1_154 hG) rfl rfl dX6_nearest_12 ?_
      refine lv_icmp_ge (tgt := 77) hx hb dX6_nearest_15 (by decide) (fun c_15 => ?_) (fun c_15 => ?_)
      · skip
        have hik : i = k := by
          rcases Nat.lt_or_ge i k with q | q
          · exact absurd c_15 (nI_ge q (by omega))
          · omega
        subst hik
        refine lv_iload hx hb dX6_nearest_77 (lv_at hl 1 rfl) ?_
        exact hret fo () _ _ _ _ _ _ _ _ (by rw [hv]) h rfl (Nat.le_of_ble_eq_true rfl) (Nat.le_of_ble_eq_true rfl) dX6_nearest_79
      · skip
        have hik : i < k := by
          rcases Nat.lt_or_ge i k with q | q
          · exact q
          · exact absurd (nI_le q (by omega)) c_15
        refine lv_iload hx hb dX6_nearest_18 (lv_at hl 0 rfl) ?_
        refine lv_sipush (v := 360) hx hb dX6_nearest_20 (by decide) ?_
        refine lv_icmp_ge (tgt := 77) hx hb dX6_nearest_23 (by decide) (fun c_23 => ?_) (fun c_23 => ?_)
        · exact absurd c_23 (nI_ge (show i < 360 by omega) (by decide))
        · skip
          refine lv_aload_n hx hb dX6_nearest_26 rfl (lv_at hl 3 rfl) ?_
          refine y_get (own := RX6) hx hb hown hG h 0 6 1 (T := TX6) (N := 5) rfl rfl (by decide) (yl_6 hG) (kw_1_152 hG) rfl rfl dX6_nearest_27 ?_
          refine lv_iload hx hb dX6_nearest_30 (lv_at hl 0 rfl) ?_
          refine y_iald (v := X i) hx hb hG h 2 rfl (vp_in_nI (show i < 360 by omega) (by decide)) (y_at _ (by omega)) dX6_nearest_32 ?_
          refine lv_iload_n hx hb dX6_nearest_33 rfl (lv_at hl 4 rfl) ?_
          refine lv_isub hx hb dX6_nearest_34 ?_
          refine y_calli (X' := fun _ : Unit => [(a, .inr (6, [.ref tk, .ref xs, .ref ys, .int (nI k), .int d])), (tk, .inl (ty 0, 360, .inl T)), (xs, .inl (ty 0, 360, .inl X)), (ys, .inl (ty 0, 360, .inl Y))]) (wc := []) (wr := [(a, .inr (6, [.ref tk, .ref xs, .ref ys, .int (nI k), .int d])), (tk, .inl (ty 0, 360, .inl T)), (xs, .inl (ty 0, 360, .inl X)), (ys, .inl (ty 0, 360, .inl Y))]) h hA [] [0, 1, 2, 3] [0, 1, 2, 3] rfl rfl (by decide) (by decide) (by decide) (fun _ => rfl) (va_runS (own := RX6) (As := [.int ((X i) - x)]) (rest := []) ⟨hx, hb, hml, hown, y_nil⟩ (m_J9_abs_0f7a4 l D ty base _ ((X i) - x)   ) (y_cwS 1 (kw_3_121 hG) (kw_1_15 hG) (kw_3_163 hG) (kw_3_120 hG) yd_J9_abs_0f7a4 ⟨Nat.le_of_ble_eq_true rfl, Nat.le_of_ble_eq_true rfl⟩) (y_preS hG h hAb [] rfl (by decide)) rfl rfl hl.1 rfl (lv_room (Nat.le_of_ble_eq_true rfl)) dX6_nearest_35 ⟨Nat.le_of_ble_eq_true rfl, Nat.le_of_ble_eq_true rfl⟩) (fun r_35 _ H locs hp_35 h => ?_)
          have hp_35 : r_35 = jAbs ((X i) - x) := hp_35
          have h : yH D AZ sZ.heap [(a, .inr (6, [.ref tk, .ref xs, .ref ys, .int (nI k), .int d])), (tk, .inl (ty 0, 360, .inl T)), (xs, .inl (ty 0, 360, .inl X)), (ys, .inl (ty 0, 360, .inl Y))] [] _ _ := h
          rw [hp_35]
          refine lv_aload_n hx hb dX6_nearest_38 rfl (lv_at hl 3 rfl) ?_
          refine y_get (own := RX6) hx hb hown hG h 0 6 2 (T := TX6) (N := 5) rfl rfl (by decide) (yl_6 hG) (kw_1_153 hG) rfl rfl dX6_nearest_39 ?_
          refine lv_iload hx hb dX6_nearest_42 (lv_at hl 0 rfl) ?_
          refine y_iald (v := Y i) hx hb hG h 3 rfl (vp_in_nI (show i < 360 by omega) (by decide)) (y_at _ (by omega)) dX6_nearest_44 ?_
          refine lv_iload_n hx hb dX6_nearest_45 rfl (lv_at hl 5 rfl) ?_
          refine lv_isub hx hb dX6_nearest_46 ?_
          refine y_calli (X' := fun _ : Unit => [(a, .inr (6, [.ref tk, .ref xs, .ref ys, .int (nI k), .int d])), (tk, .inl (ty 0, 360, .inl T)), (xs, .inl (ty 0, 360, .inl X)), (ys, .inl (ty 0, 360, .inl Y))]) (wc := []) (wr := [(a, .inr (6, [.ref tk, .ref xs, .ref ys, .int (nI k), .int d])), (tk, .inl (ty 0, 360, .inl T)), (xs, .inl (ty 0, 360, .inl X)), (ys, .inl (ty 0, 360, .inl Y))]) h hA [] [0, 1, 2, 3] [0, 1, 2, 3] rfl rfl (by decide) (by decide) (by decide) (fun _ => rfl) (va_runS (own := RX6) (As := [.int ((Y i) - y)]) (rest := [.int (jAbs ((X i) - x))]) ⟨hx, hb, hml, hown, y_nil⟩ (m_J9_abs_0f7a4 l D ty base _ ((Y i) - y)   ) (y_cwS 1 (kw_3_121 hG) (kw_1_15 hG) (kw_3_163 hG) (kw_3_120 hG) yd_J9_abs_0f7a4 ⟨Nat.le_of_ble_eq_true rfl, Nat.le_of_ble_eq_true rfl⟩) (y_preS hG h hAb [] rfl (by decide)) rfl rfl hl.1 rfl (lv_room (Nat.le_of_ble_eq_true rfl)) dX6_nearest_47 ⟨Nat.le_of_ble_eq_true rfl, Nat.le_of_ble_eq_true rfl⟩) (fun r_47 _ H locs hp_47 h => ?_)
          have hp_47 : r_47 = jAbs ((Y i) - y) := hp_47
          have h : yH D AZ sZ.heap [(a, .inr (6, [.ref tk, .ref xs, .ref ys, .int (nI k), .int d])), (tk, .inl (ty 0, 360, .inl T)), (xs, .inl (ty 0, 360, .inl X)), (ys, .inl (ty 0, 360, .inl Y))] [] _ _ := h
          rw [hp_47]
          refine lv_iadd hx hb dX6_nearest_50 ?_
          refine lv_istore (lv' := [(6, .int ((jAbs ((X i) - x)) + (jAbs ((Y i) - y)))), (5, .int (nI i)), (4, .int fo), (3, .int lo), (0, .ref a), (1, .int x), (2, .int y)]) hx hb dX6_nearest_51 hl (by decide) rfl (fun ls hl => ?_)
          refine lv_iload hx hb dX6_nearest_53 (lv_at hl 0 rfl) ?_
          refine lv_iload_n hx hb dX6_nearest_55 rfl (lv_at hl 3 rfl) ?_
          refine lv_icmp_ge (tgt := 71) hx hb dX6_nearest_56 (by decide) (fun c_56 => ?_) (fun c_56 => ?_)
          · skip
            refine lv_iinc (v := nI (i + 1)) (lv' := [(5, .int (nI (i + 1))), (6, .int ((jAbs ((X i) - x)) + (jAbs ((Y i) - y)))), (4, .int fo), (3, .int lo), (0, .ref a), (1, .int x), (2, .int y)]) hx hb dX6_nearest_71 hl (k := 1) rfl (y_inc i) (by decide) rfl (fun ls hl => ?_)
            refine lv_goto (tgt := 9) hx hb dX6_nearest_74 (by decide) ?_
            exact ih_9 (i + 1) lo fo (by omega) (by omega) ((nA_f (by rw [hv]; exact c_56)).trans hv) _ _ _ h (lv_sub hl [0, 2, 3, 4, 5, 6] rfl)
          · skip
            refine lv_iload hx hb dX6_nearest_59 (lv_at hl 0 rfl) ?_
            refine lv_istore_n (lv' := [(3, .int ((jAbs ((X i) - x)) + (jAbs ((Y i) - y)))), (6, .int ((jAbs ((X i) - x)) + (jAbs ((Y i) - y)))), (5, .int (nI i)), (4, .int fo), (0, .ref a), (1, .int x), (2, .int y)]) hx hb dX6_nearest_61 rfl hl (by decide) rfl (fun ls hl => ?_)
            refine lv_aload_n hx hb dX6_nearest_62 rfl (lv_at hl 4 rfl) ?_
            refine y_get (own := RX6) hx hb hown hG h 0 6 0 (T := TX6) (N := 5) rfl rfl (by decide) (yl_6 hG) (kw_1_151 hG) rfl rfl dX6_nearest_63 ?_
            refine lv_iload hx hb dX6_nearest_66 (lv_at hl 2 rfl) ?_
            refine y_iald (v := T i) hx hb hG h 1 rfl (vp_in_nI (show i < 360 by omega) (by decide)) (y_at _ (by omega)) dX6_nearest_68 ?_
            refine lv_istore (lv' := [(4, .int (T i)), (3, .int ((jAbs ((X i) - x)) + (jAbs ((Y i) - y)))), (6, .int ((jAbs ((X i) - x)) + (jAbs ((Y i) - y)))), (5, .int (nI i)), (0, .ref a), (1, .int x), (2, .int y)]) hx hb dX6_nearest_69 hl (by decide) rfl (fun ls hl => ?_)
            refine lv_iinc (v := nI (i + 1)) (lv' := [(5, .int (nI (i + 1))), (4, .int (T i)), (3, .int ((jAbs ((X i) - x)) + (jAbs ((Y i) - y)))), (6, .int ((jAbs ((X i) - x)) + (jAbs ((Y i) - y)))), (0, .ref a), (1, .int x), (2, .int y)]) hx hb dX6_nearest_71 hl (k := 3) rfl (y_inc i) (by decide) rfl (fun ls hl => ?_)
            refine lv_goto (tgt := 9) hx hb dX6_nearest_74 (by decide) ?_
            exact ih_9 (i + 1) ((jAbs ((X i) - x)) + (jAbs ((Y i) - y))) (T i) (by omega) (by omega) (nA_t (by rw [hv]; exact Int32.not_le.mp c_56)) _ _ _ h (lv_sub hl [0, 1, 2, 4, 5, 6] rfl)
  exact loop_9 (k + 1) 0 1000000 (-1) (by omega) (Nat.zero_le _) rfl _ _ _ h (lv_sub hl [0, 1, 2, 3, 4, 5] rfl)

