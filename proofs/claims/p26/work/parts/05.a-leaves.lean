abbrev rm_J9_floorMod_7cf53 : Room := { frames := 0, cells := 0, slots := 0, locals := 0 }
theorem yd_J9_floorMod_7cf53 : yJ9_floorMod_7cf53.cls ≠ "java/lang/invoke/MethodHandle" ∧ yJ9_floorMod_7cf53.cls ≠ "java/lang/invoke/VarHandle" ∧ (parseMethodDescriptor yJ9_floorMod_7cf53.desc).map (fun d => d.parameters.length) = some 2 := by decide +kernel
set_option maxHeartbeats 4000000 in
set_option maxRecDepth 100000 in
theorem m_J9_floorMod_7cf53 (l : Launch) (D : va_G) (ty : Nat → ClassId) (base sz : Nat) (x : Int32) (y : Int32)   (hy : ¬ y = 0) : Met l yJ9_floorMod_7cf53 [.code yJ9_floorMod_7cf53 cJ9_floorMod_7cf53 3 (some (.int))] rm_J9_floorMod_7cf53 (yPc D ty base sz ([]) [.int x, .int y]) (va_Qi (fun (r : Int32) (_ : Unit) => r = jFM x y) (yB D (va_A ([]) sz) (fun _ : Unit => [])) (va_A ([]) sz)) rm_J9_floorMod_7cf53.cells rm_J9_floorMod_7cf53.slots (va_A ([]) sz) := by
  refine y_start_i (cc := cJ9_floorMod_7cf53) (maxL := 3) (own := RJ9) (by decide +kernel) rfl (Nat.le_of_ble_eq_true rfl) (fun pZ eZ sZ mZ aZ bZ tZ cZ AZ ls QZ hx hb hml hown hnm hG hA hAb hsz h hl hret => ?_)
  have h : yH D AZ sZ.heap [] [] sZ.heap [] := h
  have hl : lv_has ls 3 [(0, .int x), (1, .int y)] := hl
  refine lv_iload_n hx hb dJ9_floorMod_7cf53_0 rfl (lv_at hl 0 rfl) ?_
  refine lv_iload_n hx hb dJ9_floorMod_7cf53_1 rfl (lv_at hl 1 rfl) ?_
  refine lv_irem hx hb dJ9_floorMod_7cf53_2 hy ?_
  refine lv_istore_n (lv' := [(2, .int (x - x / y * y)), (0, .int x), (1, .int y)]) hx hb dJ9_floorMod_7cf53_3 rfl hl (by decide) rfl (fun ls hl => ?_)
  refine lv_iload_n hx hb dJ9_floorMod_7cf53_4 rfl (lv_at hl 1 rfl) ?_
  refine lv_iload_n hx hb dJ9_floorMod_7cf53_5 rfl (lv_at hl 2 rfl) ?_
  refine lv_ixor hx hb dJ9_floorMod_7cf53_6 ?_
  refine lv_if_ge (tgt := 18) hx hb dJ9_floorMod_7cf53_7 (by decide) (fun c_7 => ?_) (fun c_7 => ?_)
  · skip
    refine lv_iload_n hx hb dJ9_floorMod_7cf53_18 rfl (lv_at hl 0 rfl) ?_
    exact hret (x - x / y * y) () _ _ _ _ _ _ _ _ (if_neg (fun q => absurd c_7 (Int32.not_le.mpr q.1))).symm h rfl (Nat.le_of_ble_eq_true rfl) (Nat.le_of_ble_eq_true rfl) dJ9_floorMod_7cf53_19
  · skip
    refine lv_iload_n hx hb dJ9_floorMod_7cf53_10 rfl (lv_at hl 0 rfl) ?_
    refine lv_if_eq (tgt := 18) hx hb dJ9_floorMod_7cf53_11 (by decide) (fun c_11 => ?_) (fun c_11 => ?_)
    · skip
      refine lv_iload_n hx hb dJ9_floorMod_7cf53_18 rfl (lv_at hl 0 rfl) ?_
      exact hret (x - x / y * y) () _ _ _ _ _ _ _ _ (if_neg (fun q => q.2 c_11)).symm h rfl (Nat.le_of_ble_eq_true rfl) (Nat.le_of_ble_eq_true rfl) dJ9_floorMod_7cf53_19
    · skip
      refine lv_iload_n hx hb dJ9_floorMod_7cf53_14 rfl (lv_at hl 0 rfl) ?_
      refine lv_iload_n hx hb dJ9_floorMod_7cf53_15 rfl (lv_at hl 2 rfl) ?_
      refine lv_iadd hx hb dJ9_floorMod_7cf53_16 ?_
      exact hret ((x - x / y * y) + y) () _ _ _ _ _ _ _ _ (if_pos ⟨Int32.not_le.mp c_7, c_11⟩).symm h rfl (Nat.le_of_ble_eq_true rfl) (Nat.le_of_ble_eq_true rfl) dJ9_floorMod_7cf53_17

abbrev rm_J9_floorDiv_7cf53 : Room := { frames := 0, cells := 0, slots := 0, locals := 0 }
theorem yd_J9_floorDiv_7cf53 : yJ9_floorDiv_7cf53.cls ≠ "java/lang/invoke/MethodHandle" ∧ yJ9_floorDiv_7cf53.cls ≠ "java/lang/invoke/VarHandle" ∧ (parseMethodDescriptor yJ9_floorDiv_7cf53.desc).map (fun d => d.parameters.length) = some 2 := by decide +kernel
set_option maxHeartbeats 4000000 in
set_option maxRecDepth 100000 in
theorem m_J9_floorDiv_7cf53 (l : Launch) (D : va_G) (ty : Nat → ClassId) (base sz : Nat) (x : Int32) (y : Int32)   (hy : ¬ y = 0) : Met l yJ9_floorDiv_7cf53 [.code yJ9_floorDiv_7cf53 cJ9_floorDiv_7cf53 3 (some (.int))] rm_J9_floorDiv_7cf53 (yPc D ty base sz ([]) [.int x, .int y]) (va_Qi (fun (r : Int32) (_ : Unit) => r = jFD x y) (yB D (va_A ([]) sz) (fun _ : Unit => [])) (va_A ([]) sz)) rm_J9_floorDiv_7cf53.cells rm_J9_floorDiv_7cf53.slots (va_A ([]) sz) := by
  refine y_start_i (cc := cJ9_floorDiv_7cf53) (maxL := 3) (own := RJ9) (by decide +kernel) rfl (Nat.le_of_ble_eq_true rfl) (fun pZ eZ sZ mZ aZ bZ tZ cZ AZ ls QZ hx hb hml hown hnm hG hA hAb hsz h hl hret => ?_)
  have h : yH D AZ sZ.heap [] [] sZ.heap [] := h
  have hl : lv_has ls 3 [(0, .int x), (1, .int y)] := hl
  refine lv_iload_n hx hb dJ9_floorDiv_7cf53_0 rfl (lv_at hl 0 rfl) ?_
  refine lv_iload_n hx hb dJ9_floorDiv_7cf53_1 rfl (lv_at hl 1 rfl) ?_
  refine lv_idiv hx hb dJ9_floorDiv_7cf53_2 hy ?_
  refine lv_istore_n (lv' := [(2, .int (x / y)), (0, .int x), (1, .int y)]) hx hb dJ9_floorDiv_7cf53_3 rfl hl (by decide) rfl (fun ls hl => ?_)
  refine lv_iload_n hx hb dJ9_floorDiv_7cf53_4 rfl (lv_at hl 1 rfl) ?_
  refine lv_iload_n hx hb dJ9_floorDiv_7cf53_5 rfl (lv_at hl 2 rfl) ?_
  refine lv_ixor hx hb dJ9_floorDiv_7cf53_6 ?_
  refine lv_if_ge (tgt := 21) hx hb dJ9_floorDiv_7cf53_7 (by decide) (fun c_7 => ?_) (fun c_7 => ?_)
  · skip
    refine lv_iload_n hx hb dJ9_floorDiv_7cf53_21 rfl (lv_at hl 0 rfl) ?_
    exact hret (x / y) () _ _ _ _ _ _ _ _ (if_neg (fun q => absurd c_7 (Int32.not_le.mpr q.1))).symm h rfl (Nat.le_of_ble_eq_true rfl) (Nat.le_of_ble_eq_true rfl) dJ9_floorDiv_7cf53_22
  · skip
    refine lv_iload_n hx hb dJ9_floorDiv_7cf53_10 rfl (lv_at hl 0 rfl) ?_
    refine lv_iload_n hx hb dJ9_floorDiv_7cf53_11 rfl (lv_at hl 2 rfl) ?_
    refine lv_imul hx hb dJ9_floorDiv_7cf53_12 ?_
    refine lv_iload_n hx hb dJ9_floorDiv_7cf53_13 rfl (lv_at hl 1 rfl) ?_
    refine lv_icmp_eq (tgt := 21) hx hb dJ9_floorDiv_7cf53_14 (by decide) (fun c_14 => ?_) (fun c_14 => ?_)
    · skip
      refine lv_iload_n hx hb dJ9_floorDiv_7cf53_21 rfl (lv_at hl 0 rfl) ?_
      exact hret (x / y) () _ _ _ _ _ _ _ _ (if_neg (fun q => q.2 c_14)).symm h rfl (Nat.le_of_ble_eq_true rfl) (Nat.le_of_ble_eq_true rfl) dJ9_floorDiv_7cf53_22
    · skip
      refine lv_iload_n hx hb dJ9_floorDiv_7cf53_17 rfl (lv_at hl 0 rfl) ?_
      refine lv_iconst (v := 1) hx hb dJ9_floorDiv_7cf53_18 (by decide) ?_
      refine lv_isub hx hb dJ9_floorDiv_7cf53_19 ?_
      exact hret ((x / y) - 1) () _ _ _ _ _ _ _ _ (if_pos ⟨Int32.not_le.mp c_7, c_14⟩).symm h rfl (Nat.le_of_ble_eq_true rfl) (Nat.le_of_ble_eq_true rfl) dJ9_floorDiv_7cf53_20

abbrev rm_J9_floorDiv_f86c9 : Room := { frames := 0, cells := 0, slots := 0, locals := 0 }
theorem yd_J9_floorDiv_f86c9 : yJ9_floorDiv_f86c9.cls ≠ "java/lang/invoke/MethodHandle" ∧ yJ9_floorDiv_f86c9.cls ≠ "java/lang/invoke/VarHandle" ∧ (parseMethodDescriptor yJ9_floorDiv_f86c9.desc).map (fun d => d.parameters.length) = some 2 := by decide +kernel
set_option maxHeartbeats 4000000 in
set_option maxRecDepth 100000 in
theorem m_J9_floorDiv_f86c9 (l : Launch) (D : va_G) (ty : Nat → ClassId) (base sz : Nat) (x : Int64) (y : Int64)   (hy : ¬ y = 0) : Met l yJ9_floorDiv_f86c9 [.code yJ9_floorDiv_f86c9 cJ9_floorDiv_f86c9 6 (some (.long))] rm_J9_floorDiv_f86c9 (yPc D ty base sz ([]) [.long x, .long y]) (va_Ql (fun (r : Int64) (_ : Unit) => r = jFL x y) (yB D (va_A ([]) sz) (fun _ : Unit => [])) (va_A ([]) sz)) rm_J9_floorDiv_f86c9.cells rm_J9_floorDiv_f86c9.slots (va_A ([]) sz) := by
  refine y_start_l (cc := cJ9_floorDiv_f86c9) (maxL := 6) (own := RJ9) (by decide +kernel) rfl (Nat.le_of_ble_eq_true rfl) (fun pZ eZ sZ mZ aZ bZ tZ cZ AZ ls QZ hx hb hml hown hnm hG hA hAb hsz h hl hret => ?_)
  have h : yH D AZ sZ.heap [] [] sZ.heap [] := h
  have hl : lv_has ls 6 [(0, .long x), (2, .long y)] := hl
  refine lv_lload_n hx hb dJ9_floorDiv_f86c9_0 rfl (lv_at hl 0 rfl) ?_
  refine lv_lload_n hx hb dJ9_floorDiv_f86c9_1 rfl (lv_at hl 1 rfl) ?_
  refine lv_ldiv hx hb dJ9_floorDiv_f86c9_2 hy ?_
  refine lv_lstore (lv' := [(4, .long (x / y)), (0, .long x), (2, .long y)]) hx hb dJ9_floorDiv_f86c9_3 hl (by decide) rfl (fun ls hl => ?_)
  refine lv_lload_n hx hb dJ9_floorDiv_f86c9_5 rfl (lv_at hl 1 rfl) ?_
  refine lv_lload_n hx hb dJ9_floorDiv_f86c9_6 rfl (lv_at hl 2 rfl) ?_
  refine lv_lxor hx hb dJ9_floorDiv_f86c9_7 ?_
  refine lv_lconst (v := 0) hx hb dJ9_floorDiv_f86c9_8 (by decide) ?_
  refine W.lcmp hx hb dJ9_floorDiv_f86c9_9 ?_
  refine lv_if_ge (tgt := 27) hx hb dJ9_floorDiv_f86c9_10 (by decide) (fun c_10 => ?_) (fun c_10 => ?_)
  · skip
    have c_10 := (lg_cmp_ge (x ^^^ y) 0).mp c_10
    refine lv_lload hx hb dJ9_floorDiv_f86c9_27 (lv_at hl 0 rfl) ?_
    exact hret (x / y) () _ _ _ _ _ _ _ _ (if_neg (fun q => absurd c_10 (Int64.not_le.mpr q.1))).symm h rfl (Nat.le_of_ble_eq_true rfl) (Nat.le_of_ble_eq_true rfl) dJ9_floorDiv_f86c9_29
  · skip
    have c_10 := fun q => c_10 ((lg_cmp_ge (x ^^^ y) 0).mpr q)
    refine lv_lload hx hb dJ9_floorDiv_f86c9_13 (lv_at hl 0 rfl) ?_
    refine lv_lload_n hx hb dJ9_floorDiv_f86c9_15 rfl (lv_at hl 2 rfl) ?_
    refine lv_lmul hx hb dJ9_floorDiv_f86c9_16 ?_
    refine lv_lload_n hx hb dJ9_floorDiv_f86c9_17 rfl (lv_at hl 1 rfl) ?_
    refine W.lcmp hx hb dJ9_floorDiv_f86c9_18 ?_
    refine lv_if_eq (tgt := 27) hx hb dJ9_floorDiv_f86c9_19 (by decide) (fun c_19 => ?_) (fun c_19 => ?_)
    · skip
      have c_19 := (lg_cmp_eq ((x / y) * y) x).mp c_19
      refine lv_lload hx hb dJ9_floorDiv_f86c9_27 (lv_at hl 0 rfl) ?_
      exact hret (x / y) () _ _ _ _ _ _ _ _ (if_neg (fun q => q.2 c_19)).symm h rfl (Nat.le_of_ble_eq_true rfl) (Nat.le_of_ble_eq_true rfl) dJ9_floorDiv_f86c9_29
    · skip
      have c_19 := fun q => c_19 ((lg_cmp_eq ((x / y) * y) x).mpr q)
      refine lv_lload hx hb dJ9_floorDiv_f86c9_22 (lv_at hl 0 rfl) ?_
      refine lv_lconst (v := 1) hx hb dJ9_floorDiv_f86c9_24 (by decide) ?_
      refine lv_lsub hx hb dJ9_floorDiv_f86c9_25 ?_
      exact hret ((x / y) - 1) () _ _ _ _ _ _ _ _ (if_pos ⟨Int64.not_le.mp c_10, c_19⟩).symm h rfl (Nat.le_of_ble_eq_true rfl) (Nat.le_of_ble_eq_true rfl) dJ9_floorDiv_f86c9_26

abbrev rm_J9_abs_0f7a4 : Room := { frames := 0, cells := 0, slots := 0, locals := 0 }
theorem yd_J9_abs_0f7a4 : yJ9_abs_0f7a4.cls ≠ "java/lang/invoke/MethodHandle" ∧ yJ9_abs_0f7a4.cls ≠ "java/lang/invoke/VarHandle" ∧ (parseMethodDescriptor yJ9_abs_0f7a4.desc).map (fun d => d.parameters.length) = some 1 := by decide +kernel
set_option maxHeartbeats 4000000 in
set_option maxRecDepth 100000 in
theorem m_J9_abs_0f7a4 (l : Launch) (D : va_G) (ty : Nat → ClassId) (base sz : Nat) (x : Int32)    : Met l yJ9_abs_0f7a4 [.code yJ9_abs_0f7a4 cJ9_abs_0f7a4 1 (some (.int))] rm_J9_abs_0f7a4 (yPc D ty base sz ([]) [.int x]) (va_Qi (fun (r : Int32) (_ : Unit) => r = jAbs x) (yB D (va_A ([]) sz) (fun _ : Unit => [])) (va_A ([]) sz)) rm_J9_abs_0f7a4.cells rm_J9_abs_0f7a4.slots (va_A ([]) sz) := by
  refine y_start_i (cc := cJ9_abs_0f7a4) (maxL := 1) (own := RJ9) (by decide +kernel) rfl (Nat.le_of_ble_eq_true rfl) (fun pZ eZ sZ mZ aZ bZ tZ cZ AZ ls QZ hx hb hml hown hnm hG hA hAb hsz h hl hret => ?_)
  have h : yH D AZ sZ.heap [] [] sZ.heap [] := h
  have hl : lv_has ls 1 [(0, .int x)] := hl
  refine lv_iload_n hx hb dJ9_abs_0f7a4_0 rfl (lv_at hl 0 rfl) ?_
  refine lv_if_ge (tgt := 9) hx hb dJ9_abs_0f7a4_1 (by decide) (fun c_1 => ?_) (fun c_1 => ?_)
  · skip
    refine lv_iload_n hx hb dJ9_abs_0f7a4_9 rfl (lv_at hl 0 rfl) ?_
    exact hret x () _ _ _ _ _ _ _ _ (if_pos c_1).symm h rfl (Nat.le_of_ble_eq_true rfl) (Nat.le_of_ble_eq_true rfl) dJ9_abs_0f7a4_10
  · skip
    refine lv_iload_n hx hb dJ9_abs_0f7a4_4 rfl (lv_at hl 0 rfl) ?_
    refine lv_ineg hx hb dJ9_abs_0f7a4_5 ?_
    refine lv_goto (tgt := 10) hx hb dJ9_abs_0f7a4_6 (by decide) ?_
    exact hret (-x) () _ _ _ _ _ _ _ _ (if_neg c_1).symm h rfl (Nat.le_of_ble_eq_true rfl) (Nat.le_of_ble_eq_true rfl) dJ9_abs_0f7a4_10

abbrev rm_J9_max_7cf53 : Room := { frames := 0, cells := 0, slots := 0, locals := 0 }
theorem yd_J9_max_7cf53 : yJ9_max_7cf53.cls ≠ "java/lang/invoke/MethodHandle" ∧ yJ9_max_7cf53.cls ≠ "java/lang/invoke/VarHandle" ∧ (parseMethodDescriptor yJ9_max_7cf53.desc).map (fun d => d.parameters.length) = some 2 := by decide +kernel
set_option maxHeartbeats 4000000 in
set_option maxRecDepth 100000 in
theorem m_J9_max_7cf53 (l : Launch) (D : va_G) (ty : Nat → ClassId) (base sz : Nat) (x : Int32) (y : Int32)    : Met l yJ9_max_7cf53 [.code yJ9_max_7cf53 cJ9_max_7cf53 2 (some (.int))] rm_J9_max_7cf53 (yPc D ty base sz ([]) [.int x, .int y]) (va_Qi (fun (r : Int32) (_ : Unit) => r = jMax x y) (yB D (va_A ([]) sz) (fun _ : Unit => [])) (va_A ([]) sz)) rm_J9_max_7cf53.cells rm_J9_max_7cf53.slots (va_A ([]) sz) := by
  refine y_start_i (cc := cJ9_max_7cf53) (maxL := 2) (own := RJ9) (by decide +kernel) rfl (Nat.le_of_ble_eq_true rfl) (fun pZ eZ sZ mZ aZ bZ tZ cZ AZ ls QZ hx hb hml hown hnm hG hA hAb hsz h hl hret => ?_)
  have h : yH D AZ sZ.heap [] [] sZ.heap [] := h
  have hl : lv_has ls 2 [(0, .int x), (1, .int y)] := hl
  refine lv_iload_n hx hb dJ9_max_7cf53_0 rfl (lv_at hl 0 rfl) ?_
  refine lv_iload_n hx hb dJ9_max_7cf53_1 rfl (lv_at hl 1 rfl) ?_
  refine lv_icmp_lt (tgt := 9) hx hb dJ9_max_7cf53_2 (by decide) (fun c_2 => ?_) (fun c_2 => ?_)
  · skip
    refine lv_iload_n hx hb dJ9_max_7cf53_9 rfl (lv_at hl 1 rfl) ?_
    exact hret y () _ _ _ _ _ _ _ _ (if_pos c_2).symm h rfl (Nat.le_of_ble_eq_true rfl) (Nat.le_of_ble_eq_true rfl) dJ9_max_7cf53_10
  · skip
    refine lv_iload_n hx hb dJ9_max_7cf53_5 rfl (lv_at hl 0 rfl) ?_
    refine lv_goto (tgt := 10) hx hb dJ9_max_7cf53_6 (by decide) ?_
    exact hret x () _ _ _ _ _ _ _ _ (if_neg c_2).symm h rfl (Nat.le_of_ble_eq_true rfl) (Nat.le_of_ble_eq_true rfl) dJ9_max_7cf53_10

abbrev rm_J9_min_7cf53 : Room := { frames := 0, cells := 0, slots := 0, locals := 0 }
theorem yd_J9_min_7cf53 : yJ9_min_7cf53.cls ≠ "java/lang/invoke/MethodHandle" ∧ yJ9_min_7cf53.cls ≠ "java/lang/invoke/VarHandle" ∧ (parseMethodDescriptor yJ9_min_7cf53.desc).map (fun d => d.parameters.length) = some 2 := by decide +kernel
set_option maxHeartbeats 4000000 in
set_option maxRecDepth 100000 in
theorem m_J9_min_7cf53 (l : Launch) (D : va_G) (ty : Nat → ClassId) (base sz : Nat) (x : Int32) (y : Int32)    : Met l yJ9_min_7cf53 [.code yJ9_min_7cf53 cJ9_min_7cf53 2 (some (.int))] rm_J9_min_7cf53 (yPc D ty base sz ([]) [.int x, .int y]) (va_Qi (fun (r : Int32) (_ : Unit) => r = jMin x y) (yB D (va_A ([]) sz) (fun _ : Unit => [])) (va_A ([]) sz)) rm_J9_min_7cf53.cells rm_J9_min_7cf53.slots (va_A ([]) sz) := by
  refine y_start_i (cc := cJ9_min_7cf53) (maxL := 2) (own := RJ9) (by decide +kernel) rfl (Nat.le_of_ble_eq_true rfl) (fun pZ eZ sZ mZ aZ bZ tZ cZ AZ ls QZ hx hb hml hown hnm hG hA hAb hsz h hl hret => ?_)
  have h : yH D AZ sZ.heap [] [] sZ.heap [] := h
  have hl : lv_has ls 2 [(0, .int x), (1, .int y)] := hl
  refine lv_iload_n hx hb dJ9_min_7cf53_0 rfl (lv_at hl 0 rfl) ?_
  refine lv_iload_n hx hb dJ9_min_7cf53_1 rfl (lv_at hl 1 rfl) ?_
  refine lv_icmp_gt (tgt := 9) hx hb dJ9_min_7cf53_2 (by decide) (fun c_2 => ?_) (fun c_2 => ?_)
  · skip
    refine lv_iload_n hx hb dJ9_min_7cf53_9 rfl (lv_at hl 1 rfl) ?_
    exact hret y () _ _ _ _ _ _ _ _ (if_pos c_2).symm h rfl (Nat.le_of_ble_eq_true rfl) (Nat.le_of_ble_eq_true rfl) dJ9_min_7cf53_10
  · skip
    refine lv_iload_n hx hb dJ9_min_7cf53_5 rfl (lv_at hl 0 rfl) ?_
    refine lv_goto (tgt := 10) hx hb dJ9_min_7cf53_6 (by decide) ?_
    exact hret x () _ _ _ _ _ _ _ _ (if_neg c_2).symm h rfl (Nat.le_of_ble_eq_true rfl) (Nat.le_of_ble_eq_true rfl) dJ9_min_7cf53_10

abbrev rm_X7_isWithin : Room := { frames := 0, cells := 0, slots := 0, locals := 0 }
theorem yd_X7_isWithin : yX7_isWithin.cls ≠ "java/lang/invoke/MethodHandle" ∧ yX7_isWithin.cls ≠ "java/lang/invoke/VarHandle" ∧ (parseMethodDescriptor yX7_isWithin.desc).map (fun d => d.parameters.length) = some 3 := by decide +kernel
set_option maxHeartbeats 4000000 in
set_option maxRecDepth 100000 in
theorem m_X7_isWithin (l : Launch) (D : va_G) (ty : Nat → ClassId) (base sz : Nat) (n : Int32) (lo : Int32) (hi : Int32)    : Met l yX7_isWithin [.code yX7_isWithin cX7_isWithin 3 (some (.boolean))] rm_X7_isWithin (yPc D ty base sz ([]) [.int n, .int lo, .int hi]) (va_Qi (fun (r : Int32) (_ : Unit) => r = bI (wI n lo hi)) (yB D (va_A ([]) sz) (fun _ : Unit => [])) (va_A ([]) sz)) rm_X7_isWithin.cells rm_X7_isWithin.slots (va_A ([]) sz) := by
  refine y_start_z (cc := cX7_isWithin) (maxL := 3) (own := RX7) (by decide +kernel) rfl (Nat.le_of_ble_eq_true rfl) (fun pZ eZ sZ mZ aZ bZ tZ cZ AZ ls QZ hx hb hml hown hnm hG hA hAb hsz h hl hret => ?_)
  have h : yH D AZ sZ.heap [] [] sZ.heap [] := h
  have hl : lv_has ls 3 [(0, .int n), (1, .int lo), (2, .int hi)] := hl
  refine lv_iload_n hx hb dX7_isWithin_0 rfl (lv_at hl 0 rfl) ?_
  refine lv_iload_n hx hb dX7_isWithin_1 rfl (lv_at hl 1 rfl) ?_
  refine lv_icmp_lt (tgt := 14) hx hb dX7_isWithin_2 (by decide) (fun c_2 => ?_) (fun c_2 => ?_)
  · skip
    refine lv_iconst (v := 0) hx hb dX7_isWithin_14 (by decide) ?_
    exact hret 0 () _ _ _ _ _ _ _ _ (Or.inl rfl) (wI_f1 c_2) h rfl (Nat.le_of_ble_eq_true rfl) (Nat.le_of_ble_eq_true rfl) dX7_isWithin_15
  · skip
    refine lv_iload_n hx hb dX7_isWithin_5 rfl (lv_at hl 0 rfl) ?_
    refine lv_iload_n hx hb dX7_isWithin_6 rfl (lv_at hl 2 rfl) ?_
    refine lv_icmp_gt (tgt := 14) hx hb dX7_isWithin_7 (by decide) (fun c_7 => ?_) (fun c_7 => ?_)
    · skip
      refine lv_iconst (v := 0) hx hb dX7_isWithin_14 (by decide) ?_
      exact hret 0 () _ _ _ _ _ _ _ _ (Or.inl rfl) (wI_f2 c_7) h rfl (Nat.le_of_ble_eq_true rfl) (Nat.le_of_ble_eq_true rfl) dX7_isWithin_15
    · skip
      refine lv_iconst (v := 1) hx hb dX7_isWithin_10 (by decide) ?_
      refine lv_goto (tgt := 15) hx hb dX7_isWithin_11 (by decide) ?_
      exact hret 1 () _ _ _ _ _ _ _ _ (Or.inr rfl) (wI_t c_2 c_7) h rfl (Nat.le_of_ble_eq_true rfl) (Nat.le_of_ble_eq_true rfl) dX7_isWithin_15

abbrev rm_X7_isDay : Room := { frames := 1, cells := 0, slots := 0, locals := 22 }
theorem yd_X7_isDay : yX7_isDay.cls ≠ "java/lang/invoke/MethodHandle" ∧ yX7_isDay.cls ≠ "java/lang/invoke/VarHandle" ∧ (parseMethodDescriptor yX7_isDay.desc).map (fun d => d.parameters.length) = some 1 := by decide +kernel
set_option maxHeartbeats 4000000 in
set_option maxRecDepth 100000 in
theorem m_X7_isDay (l : Launch) (D : va_G) (ty : Nat → ClassId) (base sz : Nat) (n : Int32)    : Met l yX7_isDay [.code yX7_isDay cX7_isDay 1 (some (.boolean))] rm_X7_isDay (yPc D ty base sz ([]) [.int n]) (va_Qi (fun (r : Int32) (_ : Unit) => r = bI (wI n 0 359)) (yB D (va_A ([]) sz) (fun _ : Unit => [])) (va_A ([]) sz)) rm_X7_isDay.cells rm_X7_isDay.slots (va_A ([]) sz) := by
  refine y_start_z (cc := cX7_isDay) (maxL := 1) (own := RX7) (by decide +kernel) rfl (Nat.le_of_ble_eq_true rfl) (fun pZ eZ sZ mZ aZ bZ tZ cZ AZ ls QZ hx hb hml hown hnm hG hA hAb hsz h hl hret => ?_)
  have h : yH D AZ sZ.heap [] [] sZ.heap [] := h
  have hl : lv_has ls 1 [(0, .int n)] := hl
  refine lv_iload_n hx hb dX7_isDay_0 rfl (lv_at hl 0 rfl) ?_
  refine lv_iconst (v := 0) hx hb dX7_isDay_1 (by decide) ?_
  refine lv_sipush (v := 359) hx hb dX7_isDay_2 (by decide) ?_
  refine y_calli (X' := fun _ : Unit => []) (wc := []) (wr := []) h hA [] [] [] rfl rfl (by decide) (by decide) (by decide) (fun _ => rfl) (va_runS (own := RX7) (As := [.int n, .int 0, .int 359]) (rest := []) ⟨hx, hb, hml, hown, y_nil⟩ (m_X7_isWithin l D ty base _ n 0 359   ) (y_cwS 3 (kw_1_236 hG) (kw_1_1 hG) (kw_1_234 hG) (kw_1_235 hG) yd_X7_isWithin ⟨Nat.le_of_ble_eq_true rfl, Nat.le_of_ble_eq_true rfl⟩) (y_preS hG h hAb [] rfl (by decide)) rfl rfl hl.1 rfl (lv_room (Nat.le_of_ble_eq_true rfl)) dX7_isDay_5 ⟨Nat.le_of_ble_eq_true rfl, Nat.le_of_ble_eq_true rfl⟩) (fun r_5 _ H locs hp_5 h => ?_)
  have hp_5 : r_5 = bI (wI n 0 359) := hp_5
  have h : yH D AZ sZ.heap [] [] _ _ := h
  rw [hp_5]
  exact hret (bI (wI n 0 359)) () _ _ _ _ _ _ _ _ (y_bz _) rfl h rfl (Nat.le_of_ble_eq_true rfl) (Nat.le_of_ble_eq_true rfl) dX7_isDay_8

abbrev rm_X7_isTick : Room := { frames := 1, cells := 0, slots := 0, locals := 22 }
theorem yd_X7_isTick : yX7_isTick.cls ≠ "java/lang/invoke/MethodHandle" ∧ yX7_isTick.cls ≠ "java/lang/invoke/VarHandle" ∧ (parseMethodDescriptor yX7_isTick.desc).map (fun d => d.parameters.length) = some 1 := by decide +kernel
set_option maxHeartbeats 4000000 in
set_option maxRecDepth 100000 in
theorem m_X7_isTick (l : Launch) (D : va_G) (ty : Nat → ClassId) (base sz : Nat) (n : Int32)    : Met l yX7_isTick [.code yX7_isTick cX7_isTick 1 (some (.boolean))] rm_X7_isTick (yPc D ty base sz ([]) [.int n]) (va_Qi (fun (r : Int32) (_ : Unit) => r = bI (wI n 0 359)) (yB D (va_A ([]) sz) (fun _ : Unit => [])) (va_A ([]) sz)) rm_X7_isTick.cells rm_X7_isTick.slots (va_A ([]) sz) := by
  refine y_start_z (cc := cX7_isTick) (maxL := 1) (own := RX7) (by decide +kernel) rfl (Nat.le_of_ble_eq_true rfl) (fun pZ eZ sZ mZ aZ bZ tZ cZ AZ ls QZ hx hb hml hown hnm hG hA hAb hsz h hl hret => ?_)
  have h : yH D AZ sZ.heap [] [] sZ.heap [] := h
  have hl : lv_has ls 1 [(0, .int n)] := hl
  refine lv_iload_n hx hb dX7_isTick_0 rfl (lv_at hl 0 rfl) ?_
  refine lv_iconst (v := 0) hx hb dX7_isTick_1 (by decide) ?_
  refine lv_sipush (v := 359) hx hb dX7_isTick_2 (by decide) ?_
  refine y_calli (X' := fun _ : Unit => []) (wc := []) (wr := []) h hA [] [] [] rfl rfl (by decide) (by decide) (by decide) (fun _ => rfl) (va_runS (own := RX7) (As := [.int n, .int 0, .int 359]) (rest := []) ⟨hx, hb, hml, hown, y_nil⟩ (m_X7_isWithin l D ty base _ n 0 359   ) (y_cwS 3 (kw_1_236 hG) (kw_1_1 hG) (kw_1_234 hG) (kw_1_235 hG) yd_X7_isWithin ⟨Nat.le_of_ble_eq_true rfl, Nat.le_of_ble_eq_true rfl⟩) (y_preS hG h hAb [] rfl (by decide)) rfl rfl hl.1 rfl (lv_room (Nat.le_of_ble_eq_true rfl)) dX7_isTick_5 ⟨Nat.le_of_ble_eq_true rfl, Nat.le_of_ble_eq_true rfl⟩) (fun r_5 _ H locs hp_5 h => ?_)
  have hp_5 : r_5 = bI (wI n 0 359) := hp_5
  have h : yH D AZ sZ.heap [] [] _ _ := h
  rw [hp_5]
  exact hret (bI (wI n 0 359)) () _ _ _ _ _ _ _ _ (y_bz _) rfl h rfl (Nat.le_of_ble_eq_true rfl) (Nat.le_of_ble_eq_true rfl) dX7_isTick_8

abbrev rm_X7_isHour : Room := { frames := 1, cells := 0, slots := 0, locals := 22 }
theorem yd_X7_isHour : yX7_isHour.cls ≠ "java/lang/invoke/MethodHandle" ∧ yX7_isHour.cls ≠ "java/lang/invoke/VarHandle" ∧ (parseMethodDescriptor yX7_isHour.desc).map (fun d => d.parameters.length) = some 1 := by decide +kernel
set_option maxHeartbeats 4000000 in
set_option maxRecDepth 100000 in
theorem m_X7_isHour (l : Launch) (D : va_G) (ty : Nat → ClassId) (base sz : Nat) (n : Int32)    : Met l yX7_isHour [.code yX7_isHour cX7_isHour 1 (some (.boolean))] rm_X7_isHour (yPc D ty base sz ([]) [.int n]) (va_Qi (fun (r : Int32) (_ : Unit) => r = bI (wI n 1 23)) (yB D (va_A ([]) sz) (fun _ : Unit => [])) (va_A ([]) sz)) rm_X7_isHour.cells rm_X7_isHour.slots (va_A ([]) sz) := by
  refine y_start_z (cc := cX7_isHour) (maxL := 1) (own := RX7) (by decide +kernel) rfl (Nat.le_of_ble_eq_true rfl) (fun pZ eZ sZ mZ aZ bZ tZ cZ AZ ls QZ hx hb hml hown hnm hG hA hAb hsz h hl hret => ?_)
  have h : yH D AZ sZ.heap [] [] sZ.heap [] := h
  have hl : lv_has ls 1 [(0, .int n)] := hl
  refine lv_iload_n hx hb dX7_isHour_0 rfl (lv_at hl 0 rfl) ?_
  refine lv_iconst (v := 1) hx hb dX7_isHour_1 (by decide) ?_
  refine lv_bipush (v := 23) hx hb dX7_isHour_2 (by decide) ?_
  refine y_calli (X' := fun _ : Unit => []) (wc := []) (wr := []) h hA [] [] [] rfl rfl (by decide) (by decide) (by decide) (fun _ => rfl) (va_runS (own := RX7) (As := [.int n, .int 1, .int 23]) (rest := []) ⟨hx, hb, hml, hown, y_nil⟩ (m_X7_isWithin l D ty base _ n 1 23   ) (y_cwS 3 (kw_1_236 hG) (kw_1_1 hG) (kw_1_234 hG) (kw_1_235 hG) yd_X7_isWithin ⟨Nat.le_of_ble_eq_true rfl, Nat.le_of_ble_eq_true rfl⟩) (y_preS hG h hAb [] rfl (by decide)) rfl rfl hl.1 rfl (lv_room (Nat.le_of_ble_eq_true rfl)) dX7_isHour_4 ⟨Nat.le_of_ble_eq_true rfl, Nat.le_of_ble_eq_true rfl⟩) (fun r_4 _ H locs hp_4 h => ?_)
  have hp_4 : r_4 = bI (wI n 1 23) := hp_4
  have h : yH D AZ sZ.heap [] [] _ _ := h
  rw [hp_4]
  exact hret (bI (wI n 1 23)) () _ _ _ _ _ _ _ _ (y_bz _) rfl h rfl (Nat.le_of_ble_eq_true rfl) (Nat.le_of_ble_eq_true rfl) dX7_isHour_7

abbrev rm_X7_isLatitude : Room := { frames := 1, cells := 0, slots := 0, locals := 22 }
theorem yd_X7_isLatitude : yX7_isLatitude.cls ≠ "java/lang/invoke/MethodHandle" ∧ yX7_isLatitude.cls ≠ "java/lang/invoke/VarHandle" ∧ (parseMethodDescriptor yX7_isLatitude.desc).map (fun d => d.parameters.length) = some 1 := by decide +kernel
set_option maxHeartbeats 4000000 in
set_option maxRecDepth 100000 in
theorem m_X7_isLatitude (l : Launch) (D : va_G) (ty : Nat → ClassId) (base sz : Nat) (n : Int32)    : Met l yX7_isLatitude [.code yX7_isLatitude cX7_isLatitude 1 (some (.boolean))] rm_X7_isLatitude (yPc D ty base sz ([]) [.int n]) (va_Qi (fun (r : Int32) (_ : Unit) => r = bI (wI n (-66) 66)) (yB D (va_A ([]) sz) (fun _ : Unit => [])) (va_A ([]) sz)) rm_X7_isLatitude.cells rm_X7_isLatitude.slots (va_A ([]) sz) := by
  refine y_start_z (cc := cX7_isLatitude) (maxL := 1) (own := RX7) (by decide +kernel) rfl (Nat.le_of_ble_eq_true rfl) (fun pZ eZ sZ mZ aZ bZ tZ cZ AZ ls QZ hx hb hml hown hnm hG hA hAb hsz h hl hret => ?_)
  have h : yH D AZ sZ.heap [] [] sZ.heap [] := h
  have hl : lv_has ls 1 [(0, .int n)] := hl
  refine lv_iload_n hx hb dX7_isLatitude_0 rfl (lv_at hl 0 rfl) ?_
  refine lv_bipush (v := (-66)) hx hb dX7_isLatitude_1 (by decide) ?_
  refine lv_bipush (v := 66) hx hb dX7_isLatitude_3 (by decide) ?_
  refine y_calli (X' := fun _ : Unit => []) (wc := []) (wr := []) h hA [] [] [] rfl rfl (by decide) (by decide) (by decide) (fun _ => rfl) (va_runS (own := RX7) (As := [.int n, .int (-66), .int 66]) (rest := []) ⟨hx, hb, hml, hown, y_nil⟩ (m_X7_isWithin l D ty base _ n (- 66) 66   ) (y_cwS 3 (kw_1_236 hG) (kw_1_1 hG) (kw_1_234 hG) (kw_1_235 hG) yd_X7_isWithin ⟨Nat.le_of_ble_eq_true rfl, Nat.le_of_ble_eq_true rfl⟩) (y_preS hG h hAb [] rfl (by decide)) rfl rfl hl.1 rfl (lv_room (Nat.le_of_ble_eq_true rfl)) dX7_isLatitude_5 ⟨Nat.le_of_ble_eq_true rfl, Nat.le_of_ble_eq_true rfl⟩) (fun r_5 _ H locs hp_5 h => ?_)
  have hp_5 : r_5 = bI (wI n (- 66) 66) := hp_5
  have h : yH D AZ sZ.heap [] [] _ _ := h
  rw [hp_5]
  exact hret (bI (wI n (- 66) 66)) () _ _ _ _ _ _ _ _ (y_bz _) rfl h rfl (Nat.le_of_ble_eq_true rfl) (Nat.le_of_ble_eq_true rfl) dX7_isLatitude_8

abbrev rm_X7_isTilt : Room := { frames := 1, cells := 0, slots := 0, locals := 22 }
theorem yd_X7_isTilt : yX7_isTilt.cls ≠ "java/lang/invoke/MethodHandle" ∧ yX7_isTilt.cls ≠ "java/lang/invoke/VarHandle" ∧ (parseMethodDescriptor yX7_isTilt.desc).map (fun d => d.parameters.length) = some 1 := by decide +kernel
set_option maxHeartbeats 4000000 in
set_option maxRecDepth 100000 in
theorem m_X7_isTilt (l : Launch) (D : va_G) (ty : Nat → ClassId) (base sz : Nat) (n : Int32)    : Met l yX7_isTilt [.code yX7_isTilt cX7_isTilt 1 (some (.boolean))] rm_X7_isTilt (yPc D ty base sz ([]) [.int n]) (va_Qi (fun (r : Int32) (_ : Unit) => r = bI (wI n 0 90)) (yB D (va_A ([]) sz) (fun _ : Unit => [])) (va_A ([]) sz)) rm_X7_isTilt.cells rm_X7_isTilt.slots (va_A ([]) sz) := by
  refine y_start_z (cc := cX7_isTilt) (maxL := 1) (own := RX7) (by decide +kernel) rfl (Nat.le_of_ble_eq_true rfl) (fun pZ eZ sZ mZ aZ bZ tZ cZ AZ ls QZ hx hb hml hown hnm hG hA hAb hsz h hl hret => ?_)
  have h : yH D AZ sZ.heap [] [] sZ.heap [] := h
  have hl : lv_has ls 1 [(0, .int n)] := hl
  refine lv_iload_n hx hb dX7_isTilt_0 rfl (lv_at hl 0 rfl) ?_
  refine lv_iconst (v := 0) hx hb dX7_isTilt_1 (by decide) ?_
  refine lv_bipush (v := 90) hx hb dX7_isTilt_2 (by decide) ?_
  refine y_calli (X' := fun _ : Unit => []) (wc := []) (wr := []) h hA [] [] [] rfl rfl (by decide) (by decide) (by decide) (fun _ => rfl) (va_runS (own := RX7) (As := [.int n, .int 0, .int 90]) (rest := []) ⟨hx, hb, hml, hown, y_nil⟩ (m_X7_isWithin l D ty base _ n 0 90   ) (y_cwS 3 (kw_1_236 hG) (kw_1_1 hG) (kw_1_234 hG) (kw_1_235 hG) yd_X7_isWithin ⟨Nat.le_of_ble_eq_true rfl, Nat.le_of_ble_eq_true rfl⟩) (y_preS hG h hAb [] rfl (by decide)) rfl rfl hl.1 rfl (lv_room (Nat.le_of_ble_eq_true rfl)) dX7_isTilt_4 ⟨Nat.le_of_ble_eq_true rfl, Nat.le_of_ble_eq_true rfl⟩) (fun r_4 _ H locs hp_4 h => ?_)
  have hp_4 : r_4 = bI (wI n 0 90) := hp_4
  have h : yH D AZ sZ.heap [] [] _ _ := h
  rw [hp_4]
  exact hret (bI (wI n 0 90)) () _ _ _ _ _ _ _ _ (y_bz _) rfl h rfl (Nat.le_of_ble_eq_true rfl) (Nat.le_of_ble_eq_true rfl) dX7_isTilt_7

abbrev rm_X7_isFacing : Room := { frames := 1, cells := 0, slots := 0, locals := 22 }
theorem yd_X7_isFacing : yX7_isFacing.cls ≠ "java/lang/invoke/MethodHandle" ∧ yX7_isFacing.cls ≠ "java/lang/invoke/VarHandle" ∧ (parseMethodDescriptor yX7_isFacing.desc).map (fun d => d.parameters.length) = some 1 := by decide +kernel
set_option maxHeartbeats 4000000 in
set_option maxRecDepth 100000 in
theorem m_X7_isFacing (l : Launch) (D : va_G) (ty : Nat → ClassId) (base sz : Nat) (n : Int32)    : Met l yX7_isFacing [.code yX7_isFacing cX7_isFacing 1 (some (.boolean))] rm_X7_isFacing (yPc D ty base sz ([]) [.int n]) (va_Qi (fun (r : Int32) (_ : Unit) => r = bI (wI n (-180) 180)) (yB D (va_A ([]) sz) (fun _ : Unit => [])) (va_A ([]) sz)) rm_X7_isFacing.cells rm_X7_isFacing.slots (va_A ([]) sz) := by
  refine y_start_z (cc := cX7_isFacing) (maxL := 1) (own := RX7) (by decide +kernel) rfl (Nat.le_of_ble_eq_true rfl) (fun pZ eZ sZ mZ aZ bZ tZ cZ AZ ls QZ hx hb hml hown hnm hG hA hAb hsz h hl hret => ?_)
  have h : yH D AZ sZ.heap [] [] sZ.heap [] := h
  have hl : lv_has ls 1 [(0, .int n)] := hl
  refine lv_iload_n hx hb dX7_isFacing_0 rfl (lv_at hl 0 rfl) ?_
  refine lv_sipush (v := (-180)) hx hb dX7_isFacing_1 (by decide) ?_
  refine lv_sipush (v := 180) hx hb dX7_isFacing_4 (by decide) ?_
  refine y_calli (X' := fun _ : Unit => []) (wc := []) (wr := []) h hA [] [] [] rfl rfl (by decide) (by decide) (by decide) (fun _ => rfl) (va_runS (own := RX7) (As := [.int n, .int (-180), .int 180]) (rest := []) ⟨hx, hb, hml, hown, y_nil⟩ (m_X7_isWithin l D ty base _ n (- 180) 180   ) (y_cwS 3 (kw_1_236 hG) (kw_1_1 hG) (kw_1_234 hG) (kw_1_235 hG) yd_X7_isWithin ⟨Nat.le_of_ble_eq_true rfl, Nat.le_of_ble_eq_true rfl⟩) (y_preS hG h hAb [] rfl (by decide)) rfl rfl hl.1 rfl (lv_room (Nat.le_of_ble_eq_true rfl)) dX7_isFacing_7 ⟨Nat.le_of_ble_eq_true rfl, Nat.le_of_ble_eq_true rfl⟩) (fun r_7 _ H locs hp_7 h => ?_)
  have hp_7 : r_7 = bI (wI n (- 180) 180) := hp_7
  have h : yH D AZ sZ.heap [] [] _ _ := h
  rw [hp_7]
  exact hret (bI (wI n (- 180) 180)) () _ _ _ _ _ _ _ _ (y_bz _) rfl h rfl (Nat.le_of_ble_eq_true rfl) (Nat.le_of_ble_eq_true rfl) dX7_isFacing_10

abbrev rm_X7_isRod : Room := { frames := 1, cells := 0, slots := 0, locals := 22 }
theorem yd_X7_isRod : yX7_isRod.cls ≠ "java/lang/invoke/MethodHandle" ∧ yX7_isRod.cls ≠ "java/lang/invoke/VarHandle" ∧ (parseMethodDescriptor yX7_isRod.desc).map (fun d => d.parameters.length) = some 1 := by decide +kernel
set_option maxHeartbeats 4000000 in
set_option maxRecDepth 100000 in
theorem m_X7_isRod (l : Launch) (D : va_G) (ty : Nat → ClassId) (base sz : Nat) (n : Int32)    : Met l yX7_isRod [.code yX7_isRod cX7_isRod 1 (some (.boolean))] rm_X7_isRod (yPc D ty base sz ([]) [.int n]) (va_Qi (fun (r : Int32) (_ : Unit) => r = bI (wI n 1 500)) (yB D (va_A ([]) sz) (fun _ : Unit => [])) (va_A ([]) sz)) rm_X7_isRod.cells rm_X7_isRod.slots (va_A ([]) sz) := by
  refine y_start_z (cc := cX7_isRod) (maxL := 1) (own := RX7) (by decide +kernel) rfl (Nat.le_of_ble_eq_true rfl) (fun pZ eZ sZ mZ aZ bZ tZ cZ AZ ls QZ hx hb hml hown hnm hG hA hAb hsz h hl hret => ?_)
  have h : yH D AZ sZ.heap [] [] sZ.heap [] := h
  have hl : lv_has ls 1 [(0, .int n)] := hl
  refine lv_iload_n hx hb dX7_isRod_0 rfl (lv_at hl 0 rfl) ?_
  refine lv_iconst (v := 1) hx hb dX7_isRod_1 (by decide) ?_
  refine lv_sipush (v := 500) hx hb dX7_isRod_2 (by decide) ?_
  refine y_calli (X' := fun _ : Unit => []) (wc := []) (wr := []) h hA [] [] [] rfl rfl (by decide) (by decide) (by decide) (fun _ => rfl) (va_runS (own := RX7) (As := [.int n, .int 1, .int 500]) (rest := []) ⟨hx, hb, hml, hown, y_nil⟩ (m_X7_isWithin l D ty base _ n 1 500   ) (y_cwS 3 (kw_1_236 hG) (kw_1_1 hG) (kw_1_234 hG) (kw_1_235 hG) yd_X7_isWithin ⟨Nat.le_of_ble_eq_true rfl, Nat.le_of_ble_eq_true rfl⟩) (y_preS hG h hAb [] rfl (by decide)) rfl rfl hl.1 rfl (lv_room (Nat.le_of_ble_eq_true rfl)) dX7_isRod_5 ⟨Nat.le_of_ble_eq_true rfl, Nat.le_of_ble_eq_true rfl⟩) (fun r_5 _ H locs hp_5 h => ?_)
  have hp_5 : r_5 = bI (wI n 1 500) := hp_5
  have h : yH D AZ sZ.heap [] [] _ _ := h
  rw [hp_5]
  exact hret (bI (wI n 1 500)) () _ _ _ _ _ _ _ _ (y_bz _) rfl h rfl (Nat.le_of_ble_eq_true rfl) (Nat.le_of_ble_eq_true rfl) dX7_isRod_8

abbrev rm_X7_isOnPlate : Room := { frames := 0, cells := 0, slots := 0, locals := 0 }
theorem yd_X7_isOnPlate : yX7_isOnPlate.cls ≠ "java/lang/invoke/MethodHandle" ∧ yX7_isOnPlate.cls ≠ "java/lang/invoke/VarHandle" ∧ (parseMethodDescriptor yX7_isOnPlate.desc).map (fun d => d.parameters.length) = some 1 := by decide +kernel
set_option maxHeartbeats 4000000 in
set_option maxRecDepth 100000 in
theorem m_X7_isOnPlate (l : Launch) (D : va_G) (ty : Nat → ClassId) (base sz : Nat) (n : Int64)    : Met l yX7_isOnPlate [.code yX7_isOnPlate cX7_isOnPlate 2 (some (.boolean))] rm_X7_isOnPlate (yPc D ty base sz ([]) [.long n]) (va_Qi (fun (r : Int32) (_ : Unit) => r = bI (wL n)) (yB D (va_A ([]) sz) (fun _ : Unit => [])) (va_A ([]) sz)) rm_X7_isOnPlate.cells rm_X7_isOnPlate.slots (va_A ([]) sz) := by
  refine y_start_z (cc := cX7_isOnPlate) (maxL := 2) (own := RX7) (by decide +kernel) rfl (Nat.le_of_ble_eq_true rfl) (fun pZ eZ sZ mZ aZ bZ tZ cZ AZ ls QZ hx hb hml hown hnm hG hA hAb hsz h hl hret => ?_)
  have h : yH D AZ sZ.heap [] [] sZ.heap [] := h
  have hl : lv_has ls 2 [(0, .long n)] := hl
  refine lv_lload_n hx hb dX7_isOnPlate_0 rfl (lv_at hl 0 rfl) ?_
  refine lv_ldc2 (own := RX7) (v := (-9999)) hx hb hown (kw_3_108 hG).b dX7_isOnPlate_1 ?_
  refine W.lcmp hx hb dX7_isOnPlate_4 ?_
  refine lv_if_lt (tgt := 20) hx hb dX7_isOnPlate_5 (by decide) (fun c_5 => ?_) (fun c_5 => ?_)
  · skip
    have c_5 := (lg_cmp_lt n (-9999)).mp c_5
    refine lv_iconst (v := 0) hx hb dX7_isOnPlate_20 (by decide) ?_
    exact hret 0 () _ _ _ _ _ _ _ _ (Or.inl rfl) (wL_f1 c_5) h rfl (Nat.le_of_ble_eq_true rfl) (Nat.le_of_ble_eq_true rfl) dX7_isOnPlate_21
  · skip
    have c_5 := fun q => c_5 ((lg_cmp_lt n (-9999)).mpr q)
    refine lv_lload_n hx hb dX7_isOnPlate_8 rfl (lv_at hl 0 rfl) ?_
    refine lv_ldc2 (own := RX7) (v := 9999) hx hb hown (kw_3_109 hG).b dX7_isOnPlate_9 ?_
    refine W.lcmp hx hb dX7_isOnPlate_12 ?_
    refine lv_if_gt (tgt := 20) hx hb dX7_isOnPlate_13 (by decide) (fun c_13 => ?_) (fun c_13 => ?_)
    · skip
      have c_13 := (lg_cmp_gt n 9999).mp c_13
      refine lv_iconst (v := 0) hx hb dX7_isOnPlate_20 (by decide) ?_
      exact hret 0 () _ _ _ _ _ _ _ _ (Or.inl rfl) (wL_f2 c_13) h rfl (Nat.le_of_ble_eq_true rfl) (Nat.le_of_ble_eq_true rfl) dX7_isOnPlate_21
    · skip
      have c_13 := fun q => c_13 ((lg_cmp_gt n 9999).mpr q)
      refine lv_iconst (v := 1) hx hb dX7_isOnPlate_16 (by decide) ?_
      refine lv_goto (tgt := 21) hx hb dX7_isOnPlate_17 (by decide) ?_
      exact hret 1 () _ _ _ _ _ _ _ _ (Or.inr rfl) (wL_t c_5 c_13) h rfl (Nat.le_of_ble_eq_true rfl) (Nat.le_of_ble_eq_true rfl) dX7_isOnPlate_21

abbrev rm_X7_arcOf : Room := { frames := 0, cells := 0, slots := 0, locals := 0 }
theorem yd_X7_arcOf : yX7_arcOf.cls ≠ "java/lang/invoke/MethodHandle" ∧ yX7_arcOf.cls ≠ "java/lang/invoke/VarHandle" ∧ (parseMethodDescriptor yX7_arcOf.desc).map (fun d => d.parameters.length) = some 1 := by decide +kernel
set_option maxHeartbeats 4000000 in
set_option maxRecDepth 100000 in
theorem m_X7_arcOf (l : Launch) (D : va_G) (ty : Nat → ClassId) (base sz : Nat) (x : Int32)    : Met l yX7_arcOf [.code yX7_arcOf cX7_arcOf 3 (some (.int))] rm_X7_arcOf (yPc D ty base sz ([]) [.int x]) (va_Qi (fun (r : Int32) (_ : Unit) => r = jArc x) (yB D (va_A ([]) sz) (fun _ : Unit => [])) (va_A ([]) sz)) rm_X7_arcOf.cells rm_X7_arcOf.slots (va_A ([]) sz) := by
  refine y_start_i (cc := cX7_arcOf) (maxL := 3) (own := RX7) (by decide +kernel) rfl (Nat.le_of_ble_eq_true rfl) (fun pZ eZ sZ mZ aZ bZ tZ cZ AZ ls QZ hx hb hml hown hnm hG hA hAb hsz h hl hret => ?_)
  have h : yH D AZ sZ.heap [] [] sZ.heap [] := h
  have hl : lv_has ls 3 [(0, .int x)] := hl
  refine lv_iload_n hx hb dX7_arcOf_0 rfl (lv_at hl 0 rfl) ?_
  refine lv_sipush (v := 180) hx hb dX7_arcOf_1 (by decide) ?_
  refine lv_iload_n hx hb dX7_arcOf_4 rfl (lv_at hl 0 rfl) ?_
  refine lv_isub hx hb dX7_arcOf_5 ?_
  refine lv_imul hx hb dX7_arcOf_6 ?_
  refine lv_istore_n (lv' := [(1, .int (x * (180 - x))), (0, .int x)]) hx hb dX7_arcOf_7 rfl hl (by decide) rfl (fun ls hl => ?_)
  refine lv_ldcw (own := RX7) (v := 40500) hx hb hown (kw_2_178 hG).b dX7_arcOf_8 ?_
  refine lv_iload_n hx hb dX7_arcOf_11 rfl (lv_at hl 0 rfl) ?_
  refine lv_isub hx hb dX7_arcOf_12 ?_
  refine lv_istore_n (lv' := [(2, .int (40500 - (x * (180 - x)))), (1, .int (x * (180 - x))), (0, .int x)]) hx hb dX7_arcOf_13 rfl hl (by decide) rfl (fun ls hl => ?_)
  refine lv_iload_n hx hb dX7_arcOf_14 rfl (lv_at hl 0 rfl) ?_
  refine lv_if_le (tgt := 28) hx hb dX7_arcOf_15 (by decide) (fun c_15 => ?_) (fun c_15 => ?_)
  · skip
    refine lv_iconst (v := 0) hx hb dX7_arcOf_28 (by decide) ?_
    exact hret 0 () _ _ _ _ _ _ _ _ (if_neg (Int32.not_lt.mpr c_15)).symm h rfl (Nat.le_of_ble_eq_true rfl) (Nat.le_of_ble_eq_true rfl) dX7_arcOf_29
  · skip
    refine lv_sipush (v := 4000) hx hb dX7_arcOf_18 (by decide) ?_
    refine lv_iload_n hx hb dX7_arcOf_21 rfl (lv_at hl 1 rfl) ?_
    refine lv_imul hx hb dX7_arcOf_22 ?_
    refine lv_iload_n hx hb dX7_arcOf_23 rfl (lv_at hl 0 rfl) ?_
    refine lv_idiv hx hb dX7_arcOf_24 (fun q => c_15 (by rw [q]; decide)) ?_
    refine lv_goto (tgt := 29) hx hb dX7_arcOf_25 (by decide) ?_
    exact hret ((4000 * (x * (180 - x))) / (40500 - (x * (180 - x)))) () _ _ _ _ _ _ _ _ (if_pos (Int32.not_le.mp c_15)).symm h rfl (Nat.le_of_ble_eq_true rfl) (Nat.le_of_ble_eq_true rfl) dX7_arcOf_29

abbrev rm_X7_sineOf : Room := { frames := 1, cells := 0, slots := 0, locals := 22 }
theorem yd_X7_sineOf : yX7_sineOf.cls ≠ "java/lang/invoke/MethodHandle" ∧ yX7_sineOf.cls ≠ "java/lang/invoke/VarHandle" ∧ (parseMethodDescriptor yX7_sineOf.desc).map (fun d => d.parameters.length) = some 1 := by decide +kernel
set_option maxHeartbeats 4000000 in
set_option maxRecDepth 100000 in
theorem m_X7_sineOf (l : Launch) (D : va_G) (ty : Nat → ClassId) (base sz : Nat) (x : Int32)    : Met l yX7_sineOf [.code yX7_sineOf cX7_sineOf 2 (some (.int))] rm_X7_sineOf (yPc D ty base sz ([]) [.int x]) (va_Qi (fun (r : Int32) (_ : Unit) => r = gSin x) (yB D (va_A ([]) sz) (fun _ : Unit => [])) (va_A ([]) sz)) rm_X7_sineOf.cells rm_X7_sineOf.slots (va_A ([]) sz) := by
  refine y_start_i (cc := cX7_sineOf) (maxL := 2) (own := RX7) (by decide +kernel) rfl (Nat.le_of_ble_eq_true rfl) (fun pZ eZ sZ mZ aZ bZ tZ cZ AZ ls QZ hx hb hml hown hnm hG hA hAb hsz h hl hret => ?_)
  have h : yH D AZ sZ.heap [] [] sZ.heap [] := h
  have hl : lv_has ls 2 [(0, .int x)] := hl
  refine lv_iload_n hx hb dX7_sineOf_0 rfl (lv_at hl 0 rfl) ?_
  refine lv_sipush (v := 360) hx hb dX7_sineOf_1 (by decide) ?_
  refine y_calli (X' := fun _ : Unit => []) (wc := []) (wr := []) h hA [] [] [] rfl rfl (by decide) (by decide) (by decide) (fun _ => rfl) (va_runS (own := RX7) (As := [.int x, .int 360]) (rest := []) ⟨hx, hb, hml, hown, y_nil⟩ (m_J9_floorMod_7cf53 l D ty base _ x 360   (by decide)) (y_cwS 2 (kw_2_174 hG) (kw_1_15 hG) (kw_2_172 hG) (kw_2_173 hG) yd_J9_floorMod_7cf53 ⟨Nat.le_of_ble_eq_true rfl, Nat.le_of_ble_eq_true rfl⟩) (y_preS hG h hAb [] rfl (by decide)) rfl rfl hl.1 rfl (lv_room (Nat.le_of_ble_eq_true rfl)) dX7_sineOf_4 ⟨Nat.le_of_ble_eq_true rfl, Nat.le_of_ble_eq_true rfl⟩) (fun r_4 _ H locs hp_4 h => ?_)
  have hp_4 : r_4 = jFM x 360 := hp_4
  have h : yH D AZ sZ.heap [] [] _ _ := h
  rw [hp_4]
  refine lv_istore_n (lv' := [(1, .int (jFM x 360)), (0, .int x)]) hx hb dX7_sineOf_7 rfl hl (by decide) rfl (fun ls hl => ?_)
  refine lv_iload_n hx hb dX7_sineOf_8 rfl (lv_at hl 0 rfl) ?_
  refine lv_sipush (v := 180) hx hb dX7_sineOf_9 (by decide) ?_
  refine lv_icmp_gt (tgt := 22) hx hb dX7_sineOf_12 (by decide) (fun c_12 => ?_) (fun c_12 => ?_)
  · skip
    refine lv_iload_n hx hb dX7_sineOf_22 rfl (lv_at hl 0 rfl) ?_
    refine lv_sipush (v := 180) hx hb dX7_sineOf_23 (by decide) ?_
    refine lv_isub hx hb dX7_sineOf_26 ?_
    refine y_calli (X' := fun _ : Unit => []) (wc := []) (wr := []) h hA [] [] [] rfl rfl (by decide) (by decide) (by decide) (fun _ => rfl) (va_runS (own := RX7) (As := [.int ((jFM x 360) - 180)]) (rest := []) ⟨hx, hb, hml, hown, y_nil⟩ (m_X7_arcOf l D ty base _ ((jFM x 360) - 180)   ) (y_cwS 1 (kw_2_177 hG) (kw_1_1 hG) (kw_2_175 hG) (kw_2_176 hG) yd_X7_arcOf ⟨Nat.le_of_ble_eq_true rfl, Nat.le_of_ble_eq_true rfl⟩) (y_preS hG h hAb [] rfl (by decide)) rfl rfl hl.1 rfl (lv_room (Nat.le_of_ble_eq_true rfl)) dX7_sineOf_27 ⟨Nat.le_of_ble_eq_true rfl, Nat.le_of_ble_eq_true rfl⟩) (fun r_27 _ H locs hp_27 h => ?_)
    have hp_27 : r_27 = jArc ((jFM x 360) - 180) := hp_27
    have h : yH D AZ sZ.heap [] [] _ _ := h
    rw [hp_27]
    refine lv_ineg hx hb dX7_sineOf_30 ?_
    exact hret (-(jArc ((jFM x 360) - 180))) () _ _ _ _ _ _ _ _ (by rw [← jSin_eq]; exact (if_neg (Int32.not_le.mpr c_12)).symm) h rfl (Nat.le_of_ble_eq_true rfl) (Nat.le_of_ble_eq_true rfl) dX7_sineOf_31
  · skip
    refine lv_iload_n hx hb dX7_sineOf_15 rfl (lv_at hl 0 rfl) ?_
    refine y_calli (X' := fun _ : Unit => []) (wc := []) (wr := []) h hA [] [] [] rfl rfl (by decide) (by decide) (by decide) (fun _ => rfl) (va_runS (own := RX7) (As := [.int (jFM x 360)]) (rest := []) ⟨hx, hb, hml, hown, y_nil⟩ (m_X7_arcOf l D ty base _ (jFM x 360)   ) (y_cwS 1 (kw_2_177 hG) (kw_1_1 hG) (kw_2_175 hG) (kw_2_176 hG) yd_X7_arcOf ⟨Nat.le_of_ble_eq_true rfl, Nat.le_of_ble_eq_true rfl⟩) (y_preS hG h hAb [] rfl (by decide)) rfl rfl hl.1 rfl (lv_room (Nat.le_of_ble_eq_true rfl)) dX7_sineOf_16 ⟨Nat.le_of_ble_eq_true rfl, Nat.le_of_ble_eq_true rfl⟩) (fun r_16 _ H locs hp_16 h => ?_)
    have hp_16 : r_16 = jArc (jFM x 360) := hp_16
    have h : yH D AZ sZ.heap [] [] _ _ := h
    rw [hp_16]
    refine lv_goto (tgt := 31) hx hb dX7_sineOf_19 (by decide) ?_
    exact hret (jArc (jFM x 360)) () _ _ _ _ _ _ _ _ (by rw [← jSin_eq]; exact (if_pos (Int32.not_lt.mp c_12)).symm) h rfl (Nat.le_of_ble_eq_true rfl) (Nat.le_of_ble_eq_true rfl) dX7_sineOf_31

abbrev rm_X7_cosineOf : Room := { frames := 2, cells := 0, slots := 0, locals := 43 }
theorem yd_X7_cosineOf : yX7_cosineOf.cls ≠ "java/lang/invoke/MethodHandle" ∧ yX7_cosineOf.cls ≠ "java/lang/invoke/VarHandle" ∧ (parseMethodDescriptor yX7_cosineOf.desc).map (fun d => d.parameters.length) = some 1 := by decide +kernel
set_option maxHeartbeats 4000000 in
set_option maxRecDepth 100000 in
theorem m_X7_cosineOf (l : Launch) (D : va_G) (ty : Nat → ClassId) (base sz : Nat) (x : Int32)    : Met l yX7_cosineOf [.code yX7_cosineOf cX7_cosineOf 1 (some (.int))] rm_X7_cosineOf (yPc D ty base sz ([]) [.int x]) (va_Qi (fun (r : Int32) (_ : Unit) => r = gCos x) (yB D (va_A ([]) sz) (fun _ : Unit => [])) (va_A ([]) sz)) rm_X7_cosineOf.cells rm_X7_cosineOf.slots (va_A ([]) sz) := by
  refine y_start_i (cc := cX7_cosineOf) (maxL := 1) (own := RX7) (by decide +kernel) rfl (Nat.le_of_ble_eq_true rfl) (fun pZ eZ sZ mZ aZ bZ tZ cZ AZ ls QZ hx hb hml hown hnm hG hA hAb hsz h hl hret => ?_)
  have h : yH D AZ sZ.heap [] [] sZ.heap [] := h
  have hl : lv_has ls 1 [(0, .int x)] := hl
  refine lv_bipush (v := 90) hx hb dX7_cosineOf_0 (by decide) ?_
  refine lv_iload_n hx hb dX7_cosineOf_2 rfl (lv_at hl 0 rfl) ?_
  refine lv_isub hx hb dX7_cosineOf_3 ?_
  refine y_calli (X' := fun _ : Unit => []) (wc := []) (wr := []) h hA [] [] [] rfl rfl (by decide) (by decide) (by decide) (fun _ => rfl) (va_runS (own := RX7) (As := [.int (90 - x)]) (rest := []) ⟨hx, hb, hml, hown, y_nil⟩ (m_X7_sineOf l D ty base _ (90 - x)   ) (y_cwS 1 (kw_2_171 hG) (kw_1_1 hG) (kw_2_182 hG) (kw_2_170 hG) yd_X7_sineOf ⟨Nat.le_of_ble_eq_true rfl, Nat.le_of_ble_eq_true rfl⟩) (y_preS hG h hAb [] rfl (by decide)) rfl rfl hl.1 rfl (lv_room (Nat.le_of_ble_eq_true rfl)) dX7_cosineOf_4 ⟨Nat.le_of_ble_eq_true rfl, Nat.le_of_ble_eq_true rfl⟩) (fun r_4 _ H locs hp_4 h => ?_)
  have hp_4 : r_4 = gSin (90 - x) := hp_4
  have h : yH D AZ sZ.heap [] [] _ _ := h
  rw [hp_4]
  exact hret (gSin (90 - x)) () _ _ _ _ _ _ _ _ rfl h rfl (Nat.le_of_ble_eq_true rfl) (Nat.le_of_ble_eq_true rfl) dX7_cosineOf_7

abbrev rm_X7_slantOf : Room := { frames := 2, cells := 0, slots := 0, locals := 43 }
theorem yd_X7_slantOf : yX7_slantOf.cls ≠ "java/lang/invoke/MethodHandle" ∧ yX7_slantOf.cls ≠ "java/lang/invoke/VarHandle" ∧ (parseMethodDescriptor yX7_slantOf.desc).map (fun d => d.parameters.length) = some 1 := by decide +kernel
set_option maxHeartbeats 4000000 in
set_option maxRecDepth 100000 in
theorem m_X7_slantOf (l : Launch) (D : va_G) (ty : Nat → ClassId) (base sz : Nat) (x : Int32)    : Met l yX7_slantOf [.code yX7_slantOf cX7_slantOf 1 (some (.int))] rm_X7_slantOf (yPc D ty base sz ([]) [.int x]) (va_Qi (fun (r : Int32) (_ : Unit) => r = gSl x) (yB D (va_A ([]) sz) (fun _ : Unit => [])) (va_A ([]) sz)) rm_X7_slantOf.cells rm_X7_slantOf.slots (va_A ([]) sz) := by
  refine y_start_i (cc := cX7_slantOf) (maxL := 1) (own := RX7) (by decide +kernel) rfl (Nat.le_of_ble_eq_true rfl) (fun pZ eZ sZ mZ aZ bZ tZ cZ AZ ls QZ hx hb hml hown hnm hG hA hAb hsz h hl hret => ?_)
  have h : yH D AZ sZ.heap [] [] sZ.heap [] := h
  have hl : lv_has ls 1 [(0, .int x)] := hl
  refine lv_bipush (v := 23) hx hb dX7_slantOf_0 (by decide) ?_
  refine lv_iload_n hx hb dX7_slantOf_2 rfl (lv_at hl 0 rfl) ?_
  refine y_calli (X' := fun _ : Unit => []) (wc := []) (wr := []) h hA [] [] [] rfl rfl (by decide) (by decide) (by decide) (fun _ => rfl) (va_runS (own := RX7) (As := [.int x]) (rest := [.int 23]) ⟨hx, hb, hml, hown, y_nil⟩ (m_X7_sineOf l D ty base _ x   ) (y_cwS 1 (kw_2_171 hG) (kw_1_1 hG) (kw_2_182 hG) (kw_2_170 hG) yd_X7_sineOf ⟨Nat.le_of_ble_eq_true rfl, Nat.le_of_ble_eq_true rfl⟩) (y_preS hG h hAb [] rfl (by decide)) rfl rfl hl.1 rfl (lv_room (Nat.le_of_ble_eq_true rfl)) dX7_slantOf_3 ⟨Nat.le_of_ble_eq_true rfl, Nat.le_of_ble_eq_true rfl⟩) (fun r_3 _ H locs hp_3 h => ?_)
  have hp_3 : r_3 = gSin x := hp_3
  have h : yH D AZ sZ.heap [] [] _ _ := h
  rw [hp_3]
  refine lv_imul hx hb dX7_slantOf_6 ?_
  refine lv_sipush (v := 1000) hx hb dX7_slantOf_7 (by decide) ?_
  refine lv_idiv hx hb dX7_slantOf_10 (by decide) ?_
  exact hret ((23 * (gSin x)) / 1000) () _ _ _ _ _ _ _ _ rfl h rfl (Nat.le_of_ble_eq_true rfl) (Nat.le_of_ble_eq_true rfl) dX7_slantOf_11

abbrev rm_X7_lateOf : Room := { frames := 2, cells := 0, slots := 0, locals := 43 }
theorem yd_X7_lateOf : yX7_lateOf.cls ≠ "java/lang/invoke/MethodHandle" ∧ yX7_lateOf.cls ≠ "java/lang/invoke/VarHandle" ∧ (parseMethodDescriptor yX7_lateOf.desc).map (fun d => d.parameters.length) = some 1 := by decide +kernel
set_option maxHeartbeats 4000000 in
set_option maxRecDepth 100000 in
theorem m_X7_lateOf (l : Launch) (D : va_G) (ty : Nat → ClassId) (base sz : Nat) (x : Int32)   (h1 : 0 ≤ x.toInt) (h2 : x.toInt < 360) : Met l yX7_lateOf [.code yX7_lateOf cX7_lateOf 1 (some (.int))] rm_X7_lateOf (yPc D ty base sz ([]) [.int x]) (va_Qi (fun (r : Int32) (_ : Unit) => r = gLate x) (yB D (va_A ([]) sz) (fun _ : Unit => [])) (va_A ([]) sz)) rm_X7_lateOf.cells rm_X7_lateOf.slots (va_A ([]) sz) := by
  refine y_start_i (cc := cX7_lateOf) (maxL := 1) (own := RX7) (by decide +kernel) rfl (Nat.le_of_ble_eq_true rfl) (fun pZ eZ sZ mZ aZ bZ tZ cZ AZ ls QZ hx hb hml hown hnm hG hA hAb hsz h hl hret => ?_)
  have h : yH D AZ sZ.heap [] [] sZ.heap [] := h
  have hl : lv_has ls 1 [(0, .int x)] := hl
  refine lv_bipush (v := 10) hx hb dX7_lateOf_0 (by decide) ?_
  refine lv_iconst (v := 2) hx hb dX7_lateOf_2 (by decide) ?_
  refine lv_iload_n hx hb dX7_lateOf_3 rfl (lv_at hl 0 rfl) ?_
  refine lv_imul hx hb dX7_lateOf_4 ?_
  refine y_calli (X' := fun _ : Unit => []) (wc := []) (wr := []) h hA [] [] [] rfl rfl (by decide) (by decide) (by decide) (fun _ => rfl) (va_runS (own := RX7) (As := [.int (2 * x)]) (rest := [.int 10]) ⟨hx, hb, hml, hown, y_nil⟩ (m_X7_sineOf l D ty base _ (2 * x)   ) (y_cwS 1 (kw_2_171 hG) (kw_1_1 hG) (kw_2_182 hG) (kw_2_170 hG) yd_X7_sineOf ⟨Nat.le_of_ble_eq_true rfl, Nat.le_of_ble_eq_true rfl⟩) (y_preS hG h hAb [] rfl (by decide)) rfl rfl hl.1 rfl (lv_room (Nat.le_of_ble_eq_true rfl)) dX7_lateOf_5 ⟨Nat.le_of_ble_eq_true rfl, Nat.le_of_ble_eq_true rfl⟩) (fun r_5 _ H locs hp_5 h => ?_)
  have hp_5 : r_5 = gSin (2 * x) := hp_5
  have h : yH D AZ sZ.heap [] [] _ _ := h
  rw [hp_5]
  refine lv_imul hx hb dX7_lateOf_8 ?_
  refine lv_bipush (v := 8) hx hb dX7_lateOf_9 (by decide) ?_
  refine lv_iload_n hx hb dX7_lateOf_11 rfl (lv_at hl 0 rfl) ?_
  refine lv_bipush (v := 80) hx hb dX7_lateOf_12 (by decide) ?_
  refine lv_iadd hx hb dX7_lateOf_14 ?_
  refine y_calli (X' := fun _ : Unit => []) (wc := []) (wr := []) h hA [] [] [] rfl rfl (by decide) (by decide) (by decide) (fun _ => rfl) (va_runS (own := RX7) (As := [.int (x + 80)]) (rest := [.int 8, .int (10 * (gSin (2 * x)))]) ⟨hx, hb, hml, hown, y_nil⟩ (m_X7_sineOf l D ty base _ (x + 80)   ) (y_cwS 1 (kw_2_171 hG) (kw_1_1 hG) (kw_2_182 hG) (kw_2_170 hG) yd_X7_sineOf ⟨Nat.le_of_ble_eq_true rfl, Nat.le_of_ble_eq_true rfl⟩) (y_preS hG h hAb [] rfl (by decide)) rfl rfl hl.1 rfl (lv_room (Nat.le_of_ble_eq_true rfl)) dX7_lateOf_15 ⟨Nat.le_of_ble_eq_true rfl, Nat.le_of_ble_eq_true rfl⟩) (fun r_15 _ H locs hp_15 h => ?_)
  have hp_15 : r_15 = gSin (x + 80) := hp_15
  have h : yH D AZ sZ.heap [] [] _ _ := h
  rw [hp_15]
  refine lv_imul hx hb dX7_lateOf_18 ?_
  refine lv_isub hx hb dX7_lateOf_19 ?_
  refine lv_sipush (v := 1000) hx hb dX7_lateOf_20 (by decide) ?_
  refine y_calli (X' := fun _ : Unit => []) (wc := []) (wr := []) h hA [] [] [] rfl rfl (by decide) (by decide) (by decide) (fun _ => rfl) (va_runS (own := RX7) (As := [.int ((10 * (gSin (2 * x))) - (8 * (gSin (x + 80)))), .int 1000]) (rest := []) ⟨hx, hb, hml, hown, y_nil⟩ (m_J9_floorDiv_7cf53 l D ty base _ ((10 * (gSin (2 * x))) - (8 * (gSin (x + 80)))) 1000   (by decide)) (y_cwS 2 (kw_2_213 hG) (kw_1_15 hG) (kw_2_211 hG) (kw_2_212 hG) yd_J9_floorDiv_7cf53 ⟨Nat.le_of_ble_eq_true rfl, Nat.le_of_ble_eq_true rfl⟩) (y_preS hG h hAb [] rfl (by decide)) rfl rfl hl.1 rfl (lv_room (Nat.le_of_ble_eq_true rfl)) dX7_lateOf_23 ⟨Nat.le_of_ble_eq_true rfl, Nat.le_of_ble_eq_true rfl⟩) (fun r_23 _ H locs hp_23 h => ?_)
  have hp_23 : r_23 = jFD ((10 * (gSin (2 * x))) - (8 * (gSin (x + 80)))) 1000 := hp_23
  have h : yH D AZ sZ.heap [] [] _ _ := h
  rw [hp_23]
  exact hret (jFD ((10 * (gSin (2 * x))) - (8 * (gSin (x + 80)))) 1000) () _ _ _ _ _ _ _ _ (late_eq x h1 h2) h rfl (Nat.le_of_ble_eq_true rfl) (Nat.le_of_ble_eq_true rfl) dX7_lateOf_26

