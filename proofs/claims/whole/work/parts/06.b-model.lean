abbrev rm_X8_thrown : Room := { frames := 0, cells := 0, slots := 0, locals := 0 }
theorem yd_X8_thrown : yX8_thrown.cls ≠ "java/lang/invoke/MethodHandle" ∧ yX8_thrown.cls ≠ "java/lang/invoke/VarHandle" ∧ (parseMethodDescriptor yX8_thrown.desc).map (fun d => d.parameters.length) = some 0 := by decide +kernel
set_option maxHeartbeats 4000000 in
set_option maxRecDepth 100000 in
theorem m_X8_thrown (l : Launch) (D : va_G) (ty : Nat → ClassId) (base sz : Nat) (md : Nat) (th : Int32) (np : Int32) (m2 : Nat) (m3 : Nat) (sF : Int32) (sT : Int32) (nd : Int32) (m7 : Nat) (m8 : Nat) (m9 : Nat) (m10 : Nat) (m11 : Nat) (m12 : Nat) (m13 : Nat) (m14 : Nat) (m15 : Nat) (mco : Int64) (nf : Int32) (m18 : Nat) (m19 : Nat) (m20 : Nat) (m21 : Nat) (mU : Int64) (mS : Int64) (mW : Int64) (mX : Int32) (mY : Int32) (m27 : Nat) (m28 : Nat) (m29 : Nat) (m30 : Nat)    : Met l yX8_thrown [.code yX8_thrown cX8_thrown 1 (some (.int))] rm_X8_thrown (yPc D ty base sz ([(md, .inr (8, [.int th, .int np, .ref m2, .ref m3, .int sF, .int sT, .int nd, .ref m7, .ref m8, .ref m9, .ref m10, .ref m11, .ref m12, .ref m13, .ref m14, .ref m15, .long mco, .int nf, .ref m18, .ref m19, .ref m20, .ref m21, .long mU, .long mS, .long mW, .int mX, .int mY, .ref m27, .ref m28, .ref m29, .ref m30]))]) [.ref md]) (va_Qi (fun (r : Int32) (_ : Unit) => r = th) (yB D (va_A ([(md, .inr (8, [.int th, .int np, .ref m2, .ref m3, .int sF, .int sT, .int nd, .ref m7, .ref m8, .ref m9, .ref m10, .ref m11, .ref m12, .ref m13, .ref m14, .ref m15, .long mco, .int nf, .ref m18, .ref m19, .ref m20, .ref m21, .long mU, .long mS, .long mW, .int mX, .int mY, .ref m27, .ref m28, .ref m29, .ref m30]))]) sz) (fun _ : Unit => [(md, .inr (8, [.int th, .int np, .ref m2, .ref m3, .int sF, .int sT, .int nd, .ref m7, .ref m8, .ref m9, .ref m10, .ref m11, .ref m12, .ref m13, .ref m14, .ref m15, .long mco, .int nf, .ref m18, .ref m19, .ref m20, .ref m21, .long mU, .long mS, .long mW, .int mX, .int mY, .ref m27, .ref m28, .ref m29, .ref m30]))])) (va_A ([(md, .inr (8, [.int th, .int np, .ref m2, .ref m3, .int sF, .int sT, .int nd, .ref m7, .ref m8, .ref m9, .ref m10, .ref m11, .ref m12, .ref m13, .ref m14, .ref m15, .long mco, .int nf, .ref m18, .ref m19, .ref m20, .ref m21, .long mU, .long mS, .long mW, .int mX, .int mY, .ref m27, .ref m28, .ref m29, .ref m30]))]) sz)) rm_X8_thrown.cells rm_X8_thrown.slots (va_A ([(md, .inr (8, [.int th, .int np, .ref m2, .ref m3, .int sF, .int sT, .int nd, .ref m7, .ref m8, .ref m9, .ref m10, .ref m11, .ref m12, .ref m13, .ref m14, .ref m15, .long mco, .int nf, .ref m18, .ref m19, .ref m20, .ref m21, .long mU, .long mS, .long mW, .int mX, .int mY, .ref m27, .ref m28, .ref m29, .ref m30]))]) sz) := by
  refine y_start_i (cc := cX8_thrown) (maxL := 1) (own := RX8) (by decide +kernel) rfl (Nat.le_of_ble_eq_true rfl) (fun pZ eZ sZ mZ aZ bZ tZ cZ AZ ls QZ hx hb hml hown hnm hG hA hAb hsz h hl hret => ?_)
  have h : yH D AZ sZ.heap [(md, .inr (8, [.int th, .int np, .ref m2, .ref m3, .int sF, .int sT, .int nd, .ref m7, .ref m8, .ref m9, .ref m10, .ref m11, .ref m12, .ref m13, .ref m14, .ref m15, .long mco, .int nf, .ref m18, .ref m19, .ref m20, .ref m21, .long mU, .long mS, .long mW, .int mX, .int mY, .ref m27, .ref m28, .ref m29, .ref m30]))] [] sZ.heap [] := h
  have hl : lv_has ls 1 [(0, .ref md)] := hl
  refine lv_aload_n hx hb dX8_thrown_0 rfl (lv_at hl 0 rfl) ?_
  refine y_get (own := RX8) hx hb hown hG h 0 8 0 (T := TX8) (N := 31) rfl rfl (by decide) (yl_8 hG) (kw_4_16 hG) rfl rfl dX8_thrown_1 ?_
  exact hret th () _ _ _ _ _ _ _ _ rfl h rfl (Nat.le_of_ble_eq_true rfl) (Nat.le_of_ble_eq_true rfl) dX8_thrown_4

abbrev rm_X8_goesWell : Room := { frames := 0, cells := 0, slots := 0, locals := 0 }
theorem yd_X8_goesWell : yX8_goesWell.cls ≠ "java/lang/invoke/MethodHandle" ∧ yX8_goesWell.cls ≠ "java/lang/invoke/VarHandle" ∧ (parseMethodDescriptor yX8_goesWell.desc).map (fun d => d.parameters.length) = some 1 := by decide +kernel
set_option maxHeartbeats 4000000 in
set_option maxRecDepth 100000 in
theorem m_X8_goesWell (l : Launch) (D : va_G) (ty : Nat → ClassId) (base sz : Nat) (md : Nat) (th : Int32) (np : Int32) (m2 : Nat) (m3 : Nat) (sF : Int32) (sT : Int32) (nd : Int32) (m7 : Nat) (m8 : Nat) (m9 : Nat) (m10 : Nat) (m11 : Nat) (m12 : Nat) (m13 : Nat) (m14 : Nat) (m15 : Nat) (mco : Int64) (nf : Int32) (m18 : Nat) (m19 : Nat) (m20 : Nat) (m21 : Nat) (mU : Int64) (mS : Int64) (mW : Int64) (mX : Int32) (mY : Int32) (m27 : Nat) (m28 : Nat) (m29 : Nat) (m30 : Nat)    : Met l yX8_goesWell [.code yX8_goesWell cX8_goesWell 2 (some (.boolean))] rm_X8_goesWell (yPc D ty base sz ([(md, .inr (8, [.int th, .int np, .ref m2, .ref m3, .int sF, .int sT, .int nd, .ref m7, .ref m8, .ref m9, .ref m10, .ref m11, .ref m12, .ref m13, .ref m14, .ref m15, .long mco, .int nf, .ref m18, .ref m19, .ref m20, .ref m21, .long mU, .long mS, .long mW, .int mX, .int mY, .ref m27, .ref m28, .ref m29, .ref m30]))]) [.ref md, .int 0]) (va_Qi (fun (r : Int32) (_ : Unit) => r = 1) (yB D (va_A ([(md, .inr (8, [.int th, .int np, .ref m2, .ref m3, .int sF, .int sT, .int nd, .ref m7, .ref m8, .ref m9, .ref m10, .ref m11, .ref m12, .ref m13, .ref m14, .ref m15, .long mco, .int nf, .ref m18, .ref m19, .ref m20, .ref m21, .long mU, .long mS, .long mW, .int mX, .int mY, .ref m27, .ref m28, .ref m29, .ref m30]))]) sz) (fun _ : Unit => [(md, .inr (8, [.int 0, .int np, .ref m2, .ref m3, .int sF, .int sT, .int nd, .ref m7, .ref m8, .ref m9, .ref m10, .ref m11, .ref m12, .ref m13, .ref m14, .ref m15, .long mco, .int nf, .ref m18, .ref m19, .ref m20, .ref m21, .long mU, .long mS, .long mW, .int mX, .int mY, .ref m27, .ref m28, .ref m29, .ref m30]))])) (va_A ([(md, .inr (8, [.int th, .int np, .ref m2, .ref m3, .int sF, .int sT, .int nd, .ref m7, .ref m8, .ref m9, .ref m10, .ref m11, .ref m12, .ref m13, .ref m14, .ref m15, .long mco, .int nf, .ref m18, .ref m19, .ref m20, .ref m21, .long mU, .long mS, .long mW, .int mX, .int mY, .ref m27, .ref m28, .ref m29, .ref m30]))]) sz)) rm_X8_goesWell.cells rm_X8_goesWell.slots (va_A ([(md, .inr (8, [.int th, .int np, .ref m2, .ref m3, .int sF, .int sT, .int nd, .ref m7, .ref m8, .ref m9, .ref m10, .ref m11, .ref m12, .ref m13, .ref m14, .ref m15, .long mco, .int nf, .ref m18, .ref m19, .ref m20, .ref m21, .long mU, .long mS, .long mW, .int mX, .int mY, .ref m27, .ref m28, .ref m29, .ref m30]))]) sz) := by
  refine y_start_z (cc := cX8_goesWell) (maxL := 2) (own := RX8) (by decide +kernel) rfl (Nat.le_of_ble_eq_true rfl) (fun pZ eZ sZ mZ aZ bZ tZ cZ AZ ls QZ hx hb hml hown hnm hG hA hAb hsz h hl hret => ?_)
  have h : yH D AZ sZ.heap [(md, .inr (8, [.int th, .int np, .ref m2, .ref m3, .int sF, .int sT, .int nd, .ref m7, .ref m8, .ref m9, .ref m10, .ref m11, .ref m12, .ref m13, .ref m14, .ref m15, .long mco, .int nf, .ref m18, .ref m19, .ref m20, .ref m21, .long mU, .long mS, .long mW, .int mX, .int mY, .ref m27, .ref m28, .ref m29, .ref m30]))] [] sZ.heap [] := h
  have hl : lv_has ls 2 [(0, .ref md), (1, .int 0)] := hl
  refine lv_aload_n hx hb dX8_goesWell_0 rfl (lv_at hl 0 rfl) ?_
  refine lv_iload_n hx hb dX8_goesWell_1 rfl (lv_at hl 1 rfl) ?_
  refine y_put (own := RX8) (tf := tyX8) (X' := [(md, .inr (8, [.int 0, .int np, .ref m2, .ref m3, .int sF, .int sT, .int nd, .ref m7, .ref m8, .ref m9, .ref m10, .ref m11, .ref m12, .ref m13, .ref m14, .ref m15, .long mco, .int nf, .ref m18, .ref m19, .ref m20, .ref m21, .long mU, .long mS, .long mW, .int mX, .int mY, .ref m27, .ref m28, .ref m29, .ref m30]))]) hx hb hown hG h 0 8 0 (T := TX8) (N := 31) rfl rfl (by decide) (yl_8 hG) ycl_8 (kw_4_16 hG) rfl rfl rfl rfl (Nat.le_of_ble_eq_true rfl) rfl dX8_goesWell_2 (fun H locs h => ?_)
  refine lv_iload_n hx hb dX8_goesWell_5 rfl (lv_at hl 1 rfl) ?_
  refine lv_if_ne (tgt := 13) hx hb dX8_goesWell_6 (by decide) (fun c_6 => ?_) (fun c_6 => ?_)
  · exact absurd (by decide) c_6
  · skip
    refine lv_iconst (v := 1) hx hb dX8_goesWell_9 (by decide) ?_
    refine lv_goto (tgt := 14) hx hb dX8_goesWell_10 (by decide) ?_
    exact hret 1 () _ _ _ _ _ _ _ _ (Or.inr rfl) rfl h rfl (Nat.le_of_ble_eq_true rfl) (Nat.le_of_ble_eq_true rfl) dX8_goesWell_14

abbrev rm_X8_goesWellT : Room := { frames := 0, cells := 0, slots := 0, locals := 0 }
theorem yd_X8_goesWellT : yX8_goesWell.cls ≠ "java/lang/invoke/MethodHandle" ∧ yX8_goesWell.cls ≠ "java/lang/invoke/VarHandle" ∧ (parseMethodDescriptor yX8_goesWell.desc).map (fun d => d.parameters.length) = some 1 := by decide +kernel
set_option maxHeartbeats 4000000 in
set_option maxRecDepth 100000 in
theorem m_X8_goesWellT (l : Launch) (D : va_G) (ty : Nat → ClassId) (base sz : Nat) (md : Nat) (th : Int32) (np : Int32) (m2 : Nat) (m3 : Nat) (sF : Int32) (sT : Int32) (nd : Int32) (m7 : Nat) (m8 : Nat) (m9 : Nat) (m10 : Nat) (m11 : Nat) (m12 : Nat) (m13 : Nat) (m14 : Nat) (m15 : Nat) (mco : Int64) (nf : Int32) (m18 : Nat) (m19 : Nat) (m20 : Nat) (m21 : Nat) (mU : Int64) (mS : Int64) (mW : Int64) (mX : Int32) (mY : Int32) (m27 : Nat) (m28 : Nat) (m29 : Nat) (m30 : Nat) (tw : Int32)   (ht : ¬ tw = 0) : Met l yX8_goesWell [.code yX8_goesWell cX8_goesWell 2 (some (.boolean))] rm_X8_goesWellT (yPc D ty base sz ([(md, .inr (8, [.int th, .int np, .ref m2, .ref m3, .int sF, .int sT, .int nd, .ref m7, .ref m8, .ref m9, .ref m10, .ref m11, .ref m12, .ref m13, .ref m14, .ref m15, .long mco, .int nf, .ref m18, .ref m19, .ref m20, .ref m21, .long mU, .long mS, .long mW, .int mX, .int mY, .ref m27, .ref m28, .ref m29, .ref m30]))]) [.ref md, .int tw]) (va_Qi (fun (r : Int32) (_ : Unit) => r = 0) (yB D (va_A ([(md, .inr (8, [.int th, .int np, .ref m2, .ref m3, .int sF, .int sT, .int nd, .ref m7, .ref m8, .ref m9, .ref m10, .ref m11, .ref m12, .ref m13, .ref m14, .ref m15, .long mco, .int nf, .ref m18, .ref m19, .ref m20, .ref m21, .long mU, .long mS, .long mW, .int mX, .int mY, .ref m27, .ref m28, .ref m29, .ref m30]))]) sz) (fun _ : Unit => [(md, .inr (8, [.int tw, .int np, .ref m2, .ref m3, .int sF, .int sT, .int nd, .ref m7, .ref m8, .ref m9, .ref m10, .ref m11, .ref m12, .ref m13, .ref m14, .ref m15, .long mco, .int nf, .ref m18, .ref m19, .ref m20, .ref m21, .long mU, .long mS, .long mW, .int mX, .int mY, .ref m27, .ref m28, .ref m29, .ref m30]))])) (va_A ([(md, .inr (8, [.int th, .int np, .ref m2, .ref m3, .int sF, .int sT, .int nd, .ref m7, .ref m8, .ref m9, .ref m10, .ref m11, .ref m12, .ref m13, .ref m14, .ref m15, .long mco, .int nf, .ref m18, .ref m19, .ref m20, .ref m21, .long mU, .long mS, .long mW, .int mX, .int mY, .ref m27, .ref m28, .ref m29, .ref m30]))]) sz)) rm_X8_goesWellT.cells rm_X8_goesWellT.slots (va_A ([(md, .inr (8, [.int th, .int np, .ref m2, .ref m3, .int sF, .int sT, .int nd, .ref m7, .ref m8, .ref m9, .ref m10, .ref m11, .ref m12, .ref m13, .ref m14, .ref m15, .long mco, .int nf, .ref m18, .ref m19, .ref m20, .ref m21, .long mU, .long mS, .long mW, .int mX, .int mY, .ref m27, .ref m28, .ref m29, .ref m30]))]) sz) := by
  refine y_start_z (cc := cX8_goesWell) (maxL := 2) (own := RX8) (by decide +kernel) rfl (Nat.le_of_ble_eq_true rfl) (fun pZ eZ sZ mZ aZ bZ tZ cZ AZ ls QZ hx hb hml hown hnm hG hA hAb hsz h hl hret => ?_)
  have h : yH D AZ sZ.heap [(md, .inr (8, [.int th, .int np, .ref m2, .ref m3, .int sF, .int sT, .int nd, .ref m7, .ref m8, .ref m9, .ref m10, .ref m11, .ref m12, .ref m13, .ref m14, .ref m15, .long mco, .int nf, .ref m18, .ref m19, .ref m20, .ref m21, .long mU, .long mS, .long mW, .int mX, .int mY, .ref m27, .ref m28, .ref m29, .ref m30]))] [] sZ.heap [] := h
  have hl : lv_has ls 2 [(0, .ref md), (1, .int tw)] := hl
  refine lv_aload_n hx hb dX8_goesWell_0 rfl (lv_at hl 0 rfl) ?_
  refine lv_iload_n hx hb dX8_goesWell_1 rfl (lv_at hl 1 rfl) ?_
  refine y_put (own := RX8) (tf := tyX8) (X' := [(md, .inr (8, [.int tw, .int np, .ref m2, .ref m3, .int sF, .int sT, .int nd, .ref m7, .ref m8, .ref m9, .ref m10, .ref m11, .ref m12, .ref m13, .ref m14, .ref m15, .long mco, .int nf, .ref m18, .ref m19, .ref m20, .ref m21, .long mU, .long mS, .long mW, .int mX, .int mY, .ref m27, .ref m28, .ref m29, .ref m30]))]) hx hb hown hG h 0 8 0 (T := TX8) (N := 31) rfl rfl (by decide) (yl_8 hG) ycl_8 (kw_4_16 hG) rfl rfl rfl rfl (Nat.le_of_ble_eq_true rfl) rfl dX8_goesWell_2 (fun H locs h => ?_)
  refine lv_iload_n hx hb dX8_goesWell_5 rfl (lv_at hl 1 rfl) ?_
  refine lv_if_ne (tgt := 13) hx hb dX8_goesWell_6 (by decide) (fun c_6 => ?_) (fun c_6 => ?_)
  · skip
    refine lv_iconst (v := 0) hx hb dX8_goesWell_13 (by decide) ?_
    exact hret 0 () _ _ _ _ _ _ _ _ (Or.inl rfl) rfl h rfl (Nat.le_of_ble_eq_true rfl) (Nat.le_of_ble_eq_true rfl) dX8_goesWell_14
  · exact absurd c_6 ht

abbrev rm_X8_in : Room := { frames := 0, cells := 0, slots := 0, locals := 0 }
theorem yd_X8_in : yX8_in.cls ≠ "java/lang/invoke/MethodHandle" ∧ yX8_in.cls ≠ "java/lang/invoke/VarHandle" ∧ (parseMethodDescriptor yX8_in.desc).map (fun d => d.parameters.length) = some 3 := by decide +kernel
set_option maxHeartbeats 4000000 in
set_option maxRecDepth 100000 in
theorem m_X8_in (l : Launch) (D : va_G) (ty : Nat → ClassId) (base sz : Nat) (n : Int32) (lo : Int32) (hi : Int32)    : Met l yX8_in [.code yX8_in cX8_in 3 (some (.boolean))] rm_X8_in (yPc D ty base sz ([]) [.int n, .int lo, .int hi]) (va_Qi (fun (r : Int32) (_ : Unit) => r = bI (wI n lo hi)) (yB D (va_A ([]) sz) (fun _ : Unit => [])) (va_A ([]) sz)) rm_X8_in.cells rm_X8_in.slots (va_A ([]) sz) := by
  refine y_start_z (cc := cX8_in) (maxL := 3) (own := RX8) (by decide +kernel) rfl (Nat.le_of_ble_eq_true rfl) (fun pZ eZ sZ mZ aZ bZ tZ cZ AZ ls QZ hx hb hml hown hnm hG hA hAb hsz h hl hret => ?_)
  have h : yH D AZ sZ.heap [] [] sZ.heap [] := h
  have hl : lv_has ls 3 [(0, .int n), (1, .int lo), (2, .int hi)] := hl
  refine lv_iload_n hx hb dX8_in_0 rfl (lv_at hl 0 rfl) ?_
  refine lv_iload_n hx hb dX8_in_1 rfl (lv_at hl 1 rfl) ?_
  refine lv_icmp_lt (tgt := 14) hx hb dX8_in_2 (by decide) (fun c_2 => ?_) (fun c_2 => ?_)
  · skip
    refine lv_iconst (v := 0) hx hb dX8_in_14 (by decide) ?_
    exact hret 0 () _ _ _ _ _ _ _ _ (Or.inl rfl) (wI_f1 c_2) h rfl (Nat.le_of_ble_eq_true rfl) (Nat.le_of_ble_eq_true rfl) dX8_in_15
  · skip
    refine lv_iload_n hx hb dX8_in_5 rfl (lv_at hl 0 rfl) ?_
    refine lv_iload_n hx hb dX8_in_6 rfl (lv_at hl 2 rfl) ?_
    refine lv_icmp_gt (tgt := 14) hx hb dX8_in_7 (by decide) (fun c_7 => ?_) (fun c_7 => ?_)
    · skip
      refine lv_iconst (v := 0) hx hb dX8_in_14 (by decide) ?_
      exact hret 0 () _ _ _ _ _ _ _ _ (Or.inl rfl) (wI_f2 c_7) h rfl (Nat.le_of_ble_eq_true rfl) (Nat.le_of_ble_eq_true rfl) dX8_in_15
    · skip
      refine lv_iconst (v := 1) hx hb dX8_in_10 (by decide) ?_
      refine lv_goto (tgt := 15) hx hb dX8_in_11 (by decide) ?_
      exact hret 1 () _ _ _ _ _ _ _ _ (Or.inr rfl) (wI_t c_2 c_7) h rfl (Nat.le_of_ble_eq_true rfl) (Nat.le_of_ble_eq_true rfl) dX8_in_15

abbrev rm_X8_isDay : Room := { frames := 1, cells := 0, slots := 0, locals := 22 }
theorem yd_X8_isDay : yX8_isDay.cls ≠ "java/lang/invoke/MethodHandle" ∧ yX8_isDay.cls ≠ "java/lang/invoke/VarHandle" ∧ (parseMethodDescriptor yX8_isDay.desc).map (fun d => d.parameters.length) = some 1 := by decide +kernel
set_option maxHeartbeats 4000000 in
set_option maxRecDepth 100000 in
theorem m_X8_isDay (l : Launch) (D : va_G) (ty : Nat → ClassId) (base sz : Nat) (n : Int32)    : Met l yX8_isDay [.code yX8_isDay cX8_isDay 1 (some (.boolean))] rm_X8_isDay (yPc D ty base sz ([]) [.int n]) (va_Qi (fun (r : Int32) (_ : Unit) => r = bI (wI n 0 359)) (yB D (va_A ([]) sz) (fun _ : Unit => [])) (va_A ([]) sz)) rm_X8_isDay.cells rm_X8_isDay.slots (va_A ([]) sz) := by
  refine y_start_z (cc := cX8_isDay) (maxL := 1) (own := RX8) (by decide +kernel) rfl (Nat.le_of_ble_eq_true rfl) (fun pZ eZ sZ mZ aZ bZ tZ cZ AZ ls QZ hx hb hml hown hnm hG hA hAb hsz h hl hret => ?_)
  have h : yH D AZ sZ.heap [] [] sZ.heap [] := h
  have hl : lv_has ls 1 [(0, .int n)] := hl
  refine lv_iload_n hx hb dX8_isDay_0 rfl (lv_at hl 0 rfl) ?_
  refine lv_iconst (v := 0) hx hb dX8_isDay_1 (by decide) ?_
  refine lv_sipush (v := 359) hx hb dX8_isDay_2 (by decide) ?_
  refine y_calli (X' := fun _ : Unit => []) (wc := []) (wr := []) h hA [] [] [] rfl rfl (by decide) (by decide) (by decide) (fun _ => rfl) (va_runS (own := RX8) (As := [.int n, .int 0, .int 359]) (rest := []) ⟨hx, hb, hml, hown, y_nil⟩ (m_X8_in l D ty base _ n 0 359   ) (y_cwS 3 (kw_4_122 hG) (kw_1_7 hG) (kw_4_120 hG) (kw_4_121 hG) yd_X8_in ⟨Nat.le_of_ble_eq_true rfl, Nat.le_of_ble_eq_true rfl⟩) (y_preS hG h hAb [] rfl (by decide)) rfl rfl hl.1 rfl (lv_room (Nat.le_of_ble_eq_true rfl)) dX8_isDay_5 ⟨Nat.le_of_ble_eq_true rfl, Nat.le_of_ble_eq_true rfl⟩) (fun r_5 _ H locs hp_5 h => ?_)
  have hp_5 : r_5 = bI (wI n 0 359) := hp_5
  have h : yH D AZ sZ.heap [] [] _ _ := h
  rw [hp_5]
  exact hret (bI (wI n 0 359)) () _ _ _ _ _ _ _ _ (y_bz _) rfl h rfl (Nat.le_of_ble_eq_true rfl) (Nat.le_of_ble_eq_true rfl) dX8_isDay_8

abbrev rm_X8_isTick : Room := { frames := 1, cells := 0, slots := 0, locals := 22 }
theorem yd_X8_isTick : yX8_isTick.cls ≠ "java/lang/invoke/MethodHandle" ∧ yX8_isTick.cls ≠ "java/lang/invoke/VarHandle" ∧ (parseMethodDescriptor yX8_isTick.desc).map (fun d => d.parameters.length) = some 1 := by decide +kernel
set_option maxHeartbeats 4000000 in
set_option maxRecDepth 100000 in
theorem m_X8_isTick (l : Launch) (D : va_G) (ty : Nat → ClassId) (base sz : Nat) (n : Int32)    : Met l yX8_isTick [.code yX8_isTick cX8_isTick 1 (some (.boolean))] rm_X8_isTick (yPc D ty base sz ([]) [.int n]) (va_Qi (fun (r : Int32) (_ : Unit) => r = bI (wI n 0 359)) (yB D (va_A ([]) sz) (fun _ : Unit => [])) (va_A ([]) sz)) rm_X8_isTick.cells rm_X8_isTick.slots (va_A ([]) sz) := by
  refine y_start_z (cc := cX8_isTick) (maxL := 1) (own := RX8) (by decide +kernel) rfl (Nat.le_of_ble_eq_true rfl) (fun pZ eZ sZ mZ aZ bZ tZ cZ AZ ls QZ hx hb hml hown hnm hG hA hAb hsz h hl hret => ?_)
  have h : yH D AZ sZ.heap [] [] sZ.heap [] := h
  have hl : lv_has ls 1 [(0, .int n)] := hl
  refine lv_iload_n hx hb dX8_isTick_0 rfl (lv_at hl 0 rfl) ?_
  refine lv_iconst (v := 0) hx hb dX8_isTick_1 (by decide) ?_
  refine lv_sipush (v := 359) hx hb dX8_isTick_2 (by decide) ?_
  refine y_calli (X' := fun _ : Unit => []) (wc := []) (wr := []) h hA [] [] [] rfl rfl (by decide) (by decide) (by decide) (fun _ => rfl) (va_runS (own := RX8) (As := [.int n, .int 0, .int 359]) (rest := []) ⟨hx, hb, hml, hown, y_nil⟩ (m_X8_in l D ty base _ n 0 359   ) (y_cwS 3 (kw_4_122 hG) (kw_1_7 hG) (kw_4_120 hG) (kw_4_121 hG) yd_X8_in ⟨Nat.le_of_ble_eq_true rfl, Nat.le_of_ble_eq_true rfl⟩) (y_preS hG h hAb [] rfl (by decide)) rfl rfl hl.1 rfl (lv_room (Nat.le_of_ble_eq_true rfl)) dX8_isTick_5 ⟨Nat.le_of_ble_eq_true rfl, Nat.le_of_ble_eq_true rfl⟩) (fun r_5 _ H locs hp_5 h => ?_)
  have hp_5 : r_5 = bI (wI n 0 359) := hp_5
  have h : yH D AZ sZ.heap [] [] _ _ := h
  rw [hp_5]
  exact hret (bI (wI n 0 359)) () _ _ _ _ _ _ _ _ (y_bz _) rfl h rfl (Nat.le_of_ble_eq_true rfl) (Nat.le_of_ble_eq_true rfl) dX8_isTick_8

abbrev rm_X8_isLay : Room := { frames := 1, cells := 0, slots := 0, locals := 22 }
theorem yd_X8_isLay : yX8_isLay.cls ≠ "java/lang/invoke/MethodHandle" ∧ yX8_isLay.cls ≠ "java/lang/invoke/VarHandle" ∧ (parseMethodDescriptor yX8_isLay.desc).map (fun d => d.parameters.length) = some 2 := by decide +kernel
set_option maxHeartbeats 4000000 in
set_option maxRecDepth 100000 in
theorem m_X8_isLay (l : Launch) (D : va_G) (ty : Nat → ClassId) (base sz : Nat) (ti : Int32) (fa : Int32)    : Met l yX8_isLay [.code yX8_isLay cX8_isLay 2 (some (.boolean))] rm_X8_isLay (yPc D ty base sz ([]) [.int ti, .int fa]) (va_Qi (fun (r : Int32) (_ : Unit) => r = bI (wI ti 0 90 && wI fa (-180) 180)) (yB D (va_A ([]) sz) (fun _ : Unit => [])) (va_A ([]) sz)) rm_X8_isLay.cells rm_X8_isLay.slots (va_A ([]) sz) := by
  refine y_start_z (cc := cX8_isLay) (maxL := 2) (own := RX8) (by decide +kernel) rfl (Nat.le_of_ble_eq_true rfl) (fun pZ eZ sZ mZ aZ bZ tZ cZ AZ ls QZ hx hb hml hown hnm hG hA hAb hsz h hl hret => ?_)
  have h : yH D AZ sZ.heap [] [] sZ.heap [] := h
  have hl : lv_has ls 2 [(0, .int ti), (1, .int fa)] := hl
  refine lv_iload_n hx hb dX8_isLay_0 rfl (lv_at hl 0 rfl) ?_
  refine lv_iconst (v := 0) hx hb dX8_isLay_1 (by decide) ?_
  refine lv_bipush (v := 90) hx hb dX8_isLay_2 (by decide) ?_
  refine y_calli (X' := fun _ : Unit => []) (wc := []) (wr := []) h hA [] [] [] rfl rfl (by decide) (by decide) (by decide) (fun _ => rfl) (va_runS (own := RX8) (As := [.int ti, .int 0, .int 90]) (rest := []) ⟨hx, hb, hml, hown, y_nil⟩ (m_X8_in l D ty base _ ti 0 90   ) (y_cwS 3 (kw_4_122 hG) (kw_1_7 hG) (kw_4_120 hG) (kw_4_121 hG) yd_X8_in ⟨Nat.le_of_ble_eq_true rfl, Nat.le_of_ble_eq_true rfl⟩) (y_preS hG h hAb [] rfl (by decide)) rfl rfl hl.1 rfl (lv_room (Nat.le_of_ble_eq_true rfl)) dX8_isLay_4 ⟨Nat.le_of_ble_eq_true rfl, Nat.le_of_ble_eq_true rfl⟩) (fun r_4 _ H locs hp_4 h => ?_)
  have hp_4 : r_4 = bI (wI ti 0 90) := hp_4
  have h : yH D AZ sZ.heap [] [] _ _ := h
  rw [hp_4]
  refine lv_if_eq (tgt := 27) hx hb dX8_isLay_7 (by decide) (fun c_7 => ?_) (fun c_7 => ?_)
  · skip
    refine lv_iconst (v := 0) hx hb dX8_isLay_27 (by decide) ?_
    exact hret 0 () _ _ _ _ _ _ _ _ (Or.inl rfl) (bI_0f (and_f1 (bI_f c_7))) h rfl (Nat.le_of_ble_eq_true rfl) (Nat.le_of_ble_eq_true rfl) dX8_isLay_28
  · skip
    refine lv_iload_n hx hb dX8_isLay_10 rfl (lv_at hl 1 rfl) ?_
    refine lv_sipush (v := (-180)) hx hb dX8_isLay_11 (by decide) ?_
    refine lv_sipush (v := 180) hx hb dX8_isLay_14 (by decide) ?_
    refine y_calli (X' := fun _ : Unit => []) (wc := []) (wr := []) h hA [] [] [] rfl rfl (by decide) (by decide) (by decide) (fun _ => rfl) (va_runS (own := RX8) (As := [.int fa, .int (-180), .int 180]) (rest := []) ⟨hx, hb, hml, hown, y_nil⟩ (m_X8_in l D ty base _ fa (- 180) 180   ) (y_cwS 3 (kw_4_122 hG) (kw_1_7 hG) (kw_4_120 hG) (kw_4_121 hG) yd_X8_in ⟨Nat.le_of_ble_eq_true rfl, Nat.le_of_ble_eq_true rfl⟩) (y_preS hG h hAb [] rfl (by decide)) rfl rfl hl.1 rfl (lv_room (Nat.le_of_ble_eq_true rfl)) dX8_isLay_17 ⟨Nat.le_of_ble_eq_true rfl, Nat.le_of_ble_eq_true rfl⟩) (fun r_17 _ H locs hp_17 h => ?_)
    have hp_17 : r_17 = bI (wI fa (- 180) 180) := hp_17
    have h : yH D AZ sZ.heap [] [] _ _ := h
    rw [hp_17]
    refine lv_if_eq (tgt := 27) hx hb dX8_isLay_20 (by decide) (fun c_20 => ?_) (fun c_20 => ?_)
    · skip
      refine lv_iconst (v := 0) hx hb dX8_isLay_27 (by decide) ?_
      exact hret 0 () _ _ _ _ _ _ _ _ (Or.inl rfl) (bI_0f (and_f2 (bI_f c_20))) h rfl (Nat.le_of_ble_eq_true rfl) (Nat.le_of_ble_eq_true rfl) dX8_isLay_28
    · skip
      refine lv_iconst (v := 1) hx hb dX8_isLay_23 (by decide) ?_
      refine lv_goto (tgt := 28) hx hb dX8_isLay_24 (by decide) ?_
      exact hret 1 () _ _ _ _ _ _ _ _ (Or.inr rfl) (bI_1t (and_t (bI_t c_7) (bI_t c_20))) h rfl (Nat.le_of_ble_eq_true rfl) (Nat.le_of_ble_eq_true rfl) dX8_isLay_28

abbrev rm_X8_isPlace : Room := { frames := 1, cells := 0, slots := 0, locals := 22 }
theorem yd_X8_isPlace : yX8_isPlace.cls ≠ "java/lang/invoke/MethodHandle" ∧ yX8_isPlace.cls ≠ "java/lang/invoke/VarHandle" ∧ (parseMethodDescriptor yX8_isPlace.desc).map (fun d => d.parameters.length) = some 1 := by decide +kernel
set_option maxHeartbeats 4000000 in
set_option maxRecDepth 100000 in
theorem m_X8_isPlace (l : Launch) (D : va_G) (ty : Nat → ClassId) (base sz : Nat) (md : Nat) (th : Int32) (m2 : Nat) (m3 : Nat) (sF : Int32) (sT : Int32) (nd : Int32) (m7 : Nat) (m8 : Nat) (m9 : Nat) (m10 : Nat) (m11 : Nat) (m12 : Nat) (m13 : Nat) (m14 : Nat) (m15 : Nat) (mco : Int64) (nf : Int32) (m18 : Nat) (m19 : Nat) (m20 : Nat) (m21 : Nat) (mU : Int64) (mS : Int64) (mW : Int64) (mX : Int32) (mY : Int32) (m27 : Nat) (m28 : Nat) (m29 : Nat) (m30 : Nat) (k : Nat) (j : Nat)   (hj : j < k) (hk : k ≤ 8) : Met l yX8_isPlace [.code yX8_isPlace cX8_isPlace 2 (some (.boolean))] rm_X8_isPlace (yPc D ty base sz ([(md, .inr (8, [.int th, .int (nI k), .ref m2, .ref m3, .int sF, .int sT, .int nd, .ref m7, .ref m8, .ref m9, .ref m10, .ref m11, .ref m12, .ref m13, .ref m14, .ref m15, .long mco, .int nf, .ref m18, .ref m19, .ref m20, .ref m21, .long mU, .long mS, .long mW, .int mX, .int mY, .ref m27, .ref m28, .ref m29, .ref m30]))]) [.ref md, .int (nI j)]) (va_Qi (fun (r : Int32) (_ : Unit) => r = 1) (yB D (va_A ([(md, .inr (8, [.int th, .int (nI k), .ref m2, .ref m3, .int sF, .int sT, .int nd, .ref m7, .ref m8, .ref m9, .ref m10, .ref m11, .ref m12, .ref m13, .ref m14, .ref m15, .long mco, .int nf, .ref m18, .ref m19, .ref m20, .ref m21, .long mU, .long mS, .long mW, .int mX, .int mY, .ref m27, .ref m28, .ref m29, .ref m30]))]) sz) (fun _ : Unit => [(md, .inr (8, [.int th, .int (nI k), .ref m2, .ref m3, .int sF, .int sT, .int nd, .ref m7, .ref m8, .ref m9, .ref m10, .ref m11, .ref m12, .ref m13, .ref m14, .ref m15, .long mco, .int nf, .ref m18, .ref m19, .ref m20, .ref m21, .long mU, .long mS, .long mW, .int mX, .int mY, .ref m27, .ref m28, .ref m29, .ref m30]))])) (va_A ([(md, .inr (8, [.int th, .int (nI k), .ref m2, .ref m3, .int sF, .int sT, .int nd, .ref m7, .ref m8, .ref m9, .ref m10, .ref m11, .ref m12, .ref m13, .ref m14, .ref m15, .long mco, .int nf, .ref m18, .ref m19, .ref m20, .ref m21, .long mU, .long mS, .long mW, .int mX, .int mY, .ref m27, .ref m28, .ref m29, .ref m30]))]) sz)) rm_X8_isPlace.cells rm_X8_isPlace.slots (va_A ([(md, .inr (8, [.int th, .int (nI k), .ref m2, .ref m3, .int sF, .int sT, .int nd, .ref m7, .ref m8, .ref m9, .ref m10, .ref m11, .ref m12, .ref m13, .ref m14, .ref m15, .long mco, .int nf, .ref m18, .ref m19, .ref m20, .ref m21, .long mU, .long mS, .long mW, .int mX, .int mY, .ref m27, .ref m28, .ref m29, .ref m30]))]) sz) := by
  refine y_start_z (cc := cX8_isPlace) (maxL := 2) (own := RX8) (by decide +kernel) rfl (Nat.le_of_ble_eq_true rfl) (fun pZ eZ sZ mZ aZ bZ tZ cZ AZ ls QZ hx hb hml hown hnm hG hA hAb hsz h hl hret => ?_)
  have h : yH D AZ sZ.heap [(md, .inr (8, [.int th, .int (nI k), .ref m2, .ref m3, .int sF, .int sT, .int nd, .ref m7, .ref m8, .ref m9, .ref m10, .ref m11, .ref m12, .ref m13, .ref m14, .ref m15, .long mco, .int nf, .ref m18, .ref m19, .ref m20, .ref m21, .long mU, .long mS, .long mW, .int mX, .int mY, .ref m27, .ref m28, .ref m29, .ref m30]))] [] sZ.heap [] := h
  have hl : lv_has ls 2 [(0, .ref md), (1, .int (nI j))] := hl
  refine lv_iload_n hx hb dX8_isPlace_0 rfl (lv_at hl 1 rfl) ?_
  refine lv_iconst (v := 0) hx hb dX8_isPlace_1 (by decide) ?_
  refine lv_aload_n hx hb dX8_isPlace_2 rfl (lv_at hl 0 rfl) ?_
  refine y_get (own := RX8) hx hb hown hG h 0 8 1 (T := TX8) (N := 31) rfl rfl (by decide) (yl_8 hG) (kw_4_17 hG) rfl rfl dX8_isPlace_3 ?_
  refine lv_iconst (v := 1) hx hb dX8_isPlace_6 (by decide) ?_
  refine lv_isub hx hb dX8_isPlace_7 ?_
  refine y_calli (X' := fun _ : Unit => [(md, .inr (8, [.int th, .int (nI k), .ref m2, .ref m3, .int sF, .int sT, .int nd, .ref m7, .ref m8, .ref m9, .ref m10, .ref m11, .ref m12, .ref m13, .ref m14, .ref m15, .long mco, .int nf, .ref m18, .ref m19, .ref m20, .ref m21, .long mU, .long mS, .long mW, .int mX, .int mY, .ref m27, .ref m28, .ref m29, .ref m30]))]) (wc := []) (wr := [(md, .inr (8, [.int th, .int (nI k), .ref m2, .ref m3, .int sF, .int sT, .int nd, .ref m7, .ref m8, .ref m9, .ref m10, .ref m11, .ref m12, .ref m13, .ref m14, .ref m15, .long mco, .int nf, .ref m18, .ref m19, .ref m20, .ref m21, .long mU, .long mS, .long mW, .int mX, .int mY, .ref m27, .ref m28, .ref m29, .ref m30]))]) h hA [] [0] [0] rfl rfl (by decide) (by decide) (by decide) (fun _ => rfl) (va_runS (own := RX8) (As := [.int (nI j), .int 0, .int ((nI k) - 1)]) (rest := []) ⟨hx, hb, hml, hown, y_nil⟩ (m_X8_in l D ty base _ (nI j) 0 ((nI k) - 1)   ) (y_cwS 3 (kw_4_122 hG) (kw_1_7 hG) (kw_4_120 hG) (kw_4_121 hG) yd_X8_in ⟨Nat.le_of_ble_eq_true rfl, Nat.le_of_ble_eq_true rfl⟩) (y_preS hG h hAb [] rfl (by decide)) rfl rfl hl.1 rfl (lv_room (Nat.le_of_ble_eq_true rfl)) dX8_isPlace_8 ⟨Nat.le_of_ble_eq_true rfl, Nat.le_of_ble_eq_true rfl⟩) (fun r_8 _ H locs hp_8 h => ?_)
  have hp_8 : r_8 = bI (wI (nI j) 0 ((nI k) - 1)) := hp_8
  have h : yH D AZ sZ.heap [(md, .inr (8, [.int th, .int (nI k), .ref m2, .ref m3, .int sF, .int sT, .int nd, .ref m7, .ref m8, .ref m9, .ref m10, .ref m11, .ref m12, .ref m13, .ref m14, .ref m15, .long mco, .int nf, .ref m18, .ref m19, .ref m20, .ref m21, .long mU, .long mS, .long mW, .int mX, .int mY, .ref m27, .ref m28, .ref m29, .ref m30]))] [] _ _ := h
  rw [hp_8]
  exact hret (bI (wI (nI j) 0 ((nI k) - 1))) () _ _ _ _ _ _ _ _ (y_bz _) (inP hj (by omega)) h rfl (Nat.le_of_ble_eq_true rfl) (Nat.le_of_ble_eq_true rfl) dX8_isPlace_11

abbrev rm_X8_isPlaceB : Room := { frames := 1, cells := 0, slots := 0, locals := 22 }
theorem yd_X8_isPlaceB : yX8_isPlace.cls ≠ "java/lang/invoke/MethodHandle" ∧ yX8_isPlace.cls ≠ "java/lang/invoke/VarHandle" ∧ (parseMethodDescriptor yX8_isPlace.desc).map (fun d => d.parameters.length) = some 1 := by decide +kernel
set_option maxHeartbeats 4000000 in
set_option maxRecDepth 100000 in
theorem m_X8_isPlaceB (l : Launch) (D : va_G) (ty : Nat → ClassId) (base sz : Nat) (md : Nat) (th : Int32) (m2 : Nat) (m3 : Nat) (sF : Int32) (sT : Int32) (nd : Int32) (m7 : Nat) (m8 : Nat) (m9 : Nat) (m10 : Nat) (m11 : Nat) (m12 : Nat) (m13 : Nat) (m14 : Nat) (m15 : Nat) (mco : Int64) (nf : Int32) (m18 : Nat) (m19 : Nat) (m20 : Nat) (m21 : Nat) (mU : Int64) (mS : Int64) (mW : Int64) (mX : Int32) (mY : Int32) (m27 : Nat) (m28 : Nat) (m29 : Nat) (m30 : Nat) (k : Nat) (x : Int32)   (hk : k ≤ 8) (hn : ¬ (0 ≤ x.toInt ∧ x.toInt < k)) : Met l yX8_isPlace [.code yX8_isPlace cX8_isPlace 2 (some (.boolean))] rm_X8_isPlaceB (yPc D ty base sz ([(md, .inr (8, [.int th, .int (nI k), .ref m2, .ref m3, .int sF, .int sT, .int nd, .ref m7, .ref m8, .ref m9, .ref m10, .ref m11, .ref m12, .ref m13, .ref m14, .ref m15, .long mco, .int nf, .ref m18, .ref m19, .ref m20, .ref m21, .long mU, .long mS, .long mW, .int mX, .int mY, .ref m27, .ref m28, .ref m29, .ref m30]))]) [.ref md, .int x]) (va_Qi (fun (r : Int32) (_ : Unit) => r = 0) (yB D (va_A ([(md, .inr (8, [.int th, .int (nI k), .ref m2, .ref m3, .int sF, .int sT, .int nd, .ref m7, .ref m8, .ref m9, .ref m10, .ref m11, .ref m12, .ref m13, .ref m14, .ref m15, .long mco, .int nf, .ref m18, .ref m19, .ref m20, .ref m21, .long mU, .long mS, .long mW, .int mX, .int mY, .ref m27, .ref m28, .ref m29, .ref m30]))]) sz) (fun _ : Unit => [(md, .inr (8, [.int th, .int (nI k), .ref m2, .ref m3, .int sF, .int sT, .int nd, .ref m7, .ref m8, .ref m9, .ref m10, .ref m11, .ref m12, .ref m13, .ref m14, .ref m15, .long mco, .int nf, .ref m18, .ref m19, .ref m20, .ref m21, .long mU, .long mS, .long mW, .int mX, .int mY, .ref m27, .ref m28, .ref m29, .ref m30]))])) (va_A ([(md, .inr (8, [.int th, .int (nI k), .ref m2, .ref m3, .int sF, .int sT, .int nd, .ref m7, .ref m8, .ref m9, .ref m10, .ref m11, .ref m12, .ref m13, .ref m14, .ref m15, .long mco, .int nf, .ref m18, .ref m19, .ref m20, .ref m21, .long mU, .long mS, .long mW, .int mX, .int mY, .ref m27, .ref m28, .ref m29, .ref m30]))]) sz)) rm_X8_isPlaceB.cells rm_X8_isPlaceB.slots (va_A ([(md, .inr (8, [.int th, .int (nI k), .ref m2, .ref m3, .int sF, .int sT, .int nd, .ref m7, .ref m8, .ref m9, .ref m10, .ref m11, .ref m12, .ref m13, .ref m14, .ref m15, .long mco, .int nf, .ref m18, .ref m19, .ref m20, .ref m21, .long mU, .long mS, .long mW, .int mX, .int mY, .ref m27, .ref m28, .ref m29, .ref m30]))]) sz) := by
  refine y_start_z (cc := cX8_isPlace) (maxL := 2) (own := RX8) (by decide +kernel) rfl (Nat.le_of_ble_eq_true rfl) (fun pZ eZ sZ mZ aZ bZ tZ cZ AZ ls QZ hx hb hml hown hnm hG hA hAb hsz h hl hret => ?_)
  have h : yH D AZ sZ.heap [(md, .inr (8, [.int th, .int (nI k), .ref m2, .ref m3, .int sF, .int sT, .int nd, .ref m7, .ref m8, .ref m9, .ref m10, .ref m11, .ref m12, .ref m13, .ref m14, .ref m15, .long mco, .int nf, .ref m18, .ref m19, .ref m20, .ref m21, .long mU, .long mS, .long mW, .int mX, .int mY, .ref m27, .ref m28, .ref m29, .ref m30]))] [] sZ.heap [] := h
  have hl : lv_has ls 2 [(0, .ref md), (1, .int x)] := hl
  refine lv_iload_n hx hb dX8_isPlace_0 rfl (lv_at hl 1 rfl) ?_
  refine lv_iconst (v := 0) hx hb dX8_isPlace_1 (by decide) ?_
  refine lv_aload_n hx hb dX8_isPlace_2 rfl (lv_at hl 0 rfl) ?_
  refine y_get (own := RX8) hx hb hown hG h 0 8 1 (T := TX8) (N := 31) rfl rfl (by decide) (yl_8 hG) (kw_4_17 hG) rfl rfl dX8_isPlace_3 ?_
  refine lv_iconst (v := 1) hx hb dX8_isPlace_6 (by decide) ?_
  refine lv_isub hx hb dX8_isPlace_7 ?_
  refine y_calli (X' := fun _ : Unit => [(md, .inr (8, [.int th, .int (nI k), .ref m2, .ref m3, .int sF, .int sT, .int nd, .ref m7, .ref m8, .ref m9, .ref m10, .ref m11, .ref m12, .ref m13, .ref m14, .ref m15, .long mco, .int nf, .ref m18, .ref m19, .ref m20, .ref m21, .long mU, .long mS, .long mW, .int mX, .int mY, .ref m27, .ref m28, .ref m29, .ref m30]))]) (wc := []) (wr := [(md, .inr (8, [.int th, .int (nI k), .ref m2, .ref m3, .int sF, .int sT, .int nd, .ref m7, .ref m8, .ref m9, .ref m10, .ref m11, .ref m12, .ref m13, .ref m14, .ref m15, .long mco, .int nf, .ref m18, .ref m19, .ref m20, .ref m21, .long mU, .long mS, .long mW, .int mX, .int mY, .ref m27, .ref m28, .ref m29, .ref m30]))]) h hA [] [0] [0] rfl rfl (by decide) (by decide) (by decide) (fun _ => rfl) (va_runS (own := RX8) (As := [.int x, .int 0, .int ((nI k) - 1)]) (rest := []) ⟨hx, hb, hml, hown, y_nil⟩ (m_X8_in l D ty base _ x 0 ((nI k) - 1)   ) (y_cwS 3 (kw_4_122 hG) (kw_1_7 hG) (kw_4_120 hG) (kw_4_121 hG) yd_X8_in ⟨Nat.le_of_ble_eq_true rfl, Nat.le_of_ble_eq_true rfl⟩) (y_preS hG h hAb [] rfl (by decide)) rfl rfl hl.1 rfl (lv_room (Nat.le_of_ble_eq_true rfl)) dX8_isPlace_8 ⟨Nat.le_of_ble_eq_true rfl, Nat.le_of_ble_eq_true rfl⟩) (fun r_8 _ H locs hp_8 h => ?_)
  have hp_8 : r_8 = bI (wI x 0 ((nI k) - 1)) := hp_8
  have h : yH D AZ sZ.heap [(md, .inr (8, [.int th, .int (nI k), .ref m2, .ref m3, .int sF, .int sT, .int nd, .ref m7, .ref m8, .ref m9, .ref m10, .ref m11, .ref m12, .ref m13, .ref m14, .ref m15, .long mco, .int nf, .ref m18, .ref m19, .ref m20, .ref m21, .long mU, .long mS, .long mW, .int mX, .int mY, .ref m27, .ref m28, .ref m29, .ref m30]))] [] _ _ := h
  rw [hp_8]
  exact hret (bI (wI x 0 ((nI k) - 1))) () _ _ _ _ _ _ _ _ (y_bz _) (inPB (by omega) hn) h rfl (Nat.le_of_ble_eq_true rfl) (Nat.le_of_ble_eq_true rfl) dX8_isPlace_11

abbrev rm_X8_isDial : Room := { frames := 1, cells := 0, slots := 0, locals := 22 }
theorem yd_X8_isDial : yX8_isDial.cls ≠ "java/lang/invoke/MethodHandle" ∧ yX8_isDial.cls ≠ "java/lang/invoke/VarHandle" ∧ (parseMethodDescriptor yX8_isDial.desc).map (fun d => d.parameters.length) = some 1 := by decide +kernel
set_option maxHeartbeats 4000000 in
set_option maxRecDepth 100000 in
theorem m_X8_isDial (l : Launch) (D : va_G) (ty : Nat → ClassId) (base sz : Nat) (md : Nat) (th : Int32) (np : Int32) (m2 : Nat) (m3 : Nat) (sF : Int32) (sT : Int32) (m7 : Nat) (m8 : Nat) (m9 : Nat) (m10 : Nat) (m11 : Nat) (m12 : Nat) (m13 : Nat) (m14 : Nat) (m15 : Nat) (mco : Int64) (nf : Int32) (m18 : Nat) (m19 : Nat) (m20 : Nat) (m21 : Nat) (mU : Int64) (mS : Int64) (mW : Int64) (mX : Int32) (mY : Int32) (m27 : Nat) (m28 : Nat) (m29 : Nat) (m30 : Nat) (k : Nat) (j : Nat)   (hj : j < k) (hk : k ≤ 10) : Met l yX8_isDial [.code yX8_isDial cX8_isDial 2 (some (.boolean))] rm_X8_isDial (yPc D ty base sz ([(md, .inr (8, [.int th, .int np, .ref m2, .ref m3, .int sF, .int sT, .int (nI k), .ref m7, .ref m8, .ref m9, .ref m10, .ref m11, .ref m12, .ref m13, .ref m14, .ref m15, .long mco, .int nf, .ref m18, .ref m19, .ref m20, .ref m21, .long mU, .long mS, .long mW, .int mX, .int mY, .ref m27, .ref m28, .ref m29, .ref m30]))]) [.ref md, .int (nI j)]) (va_Qi (fun (r : Int32) (_ : Unit) => r = 1) (yB D (va_A ([(md, .inr (8, [.int th, .int np, .ref m2, .ref m3, .int sF, .int sT, .int (nI k), .ref m7, .ref m8, .ref m9, .ref m10, .ref m11, .ref m12, .ref m13, .ref m14, .ref m15, .long mco, .int nf, .ref m18, .ref m19, .ref m20, .ref m21, .long mU, .long mS, .long mW, .int mX, .int mY, .ref m27, .ref m28, .ref m29, .ref m30]))]) sz) (fun _ : Unit => [(md, .inr (8, [.int th, .int np, .ref m2, .ref m3, .int sF, .int sT, .int (nI k), .ref m7, .ref m8, .ref m9, .ref m10, .ref m11, .ref m12, .ref m13, .ref m14, .ref m15, .long mco, .int nf, .ref m18, .ref m19, .ref m20, .ref m21, .long mU, .long mS, .long mW, .int mX, .int mY, .ref m27, .ref m28, .ref m29, .ref m30]))])) (va_A ([(md, .inr (8, [.int th, .int np, .ref m2, .ref m3, .int sF, .int sT, .int (nI k), .ref m7, .ref m8, .ref m9, .ref m10, .ref m11, .ref m12, .ref m13, .ref m14, .ref m15, .long mco, .int nf, .ref m18, .ref m19, .ref m20, .ref m21, .long mU, .long mS, .long mW, .int mX, .int mY, .ref m27, .ref m28, .ref m29, .ref m30]))]) sz)) rm_X8_isDial.cells rm_X8_isDial.slots (va_A ([(md, .inr (8, [.int th, .int np, .ref m2, .ref m3, .int sF, .int sT, .int (nI k), .ref m7, .ref m8, .ref m9, .ref m10, .ref m11, .ref m12, .ref m13, .ref m14, .ref m15, .long mco, .int nf, .ref m18, .ref m19, .ref m20, .ref m21, .long mU, .long mS, .long mW, .int mX, .int mY, .ref m27, .ref m28, .ref m29, .ref m30]))]) sz) := by
  refine y_start_z (cc := cX8_isDial) (maxL := 2) (own := RX8) (by decide +kernel) rfl (Nat.le_of_ble_eq_true rfl) (fun pZ eZ sZ mZ aZ bZ tZ cZ AZ ls QZ hx hb hml hown hnm hG hA hAb hsz h hl hret => ?_)
  have h : yH D AZ sZ.heap [(md, .inr (8, [.int th, .int np, .ref m2, .ref m3, .int sF, .int sT, .int (nI k), .ref m7, .ref m8, .ref m9, .ref m10, .ref m11, .ref m12, .ref m13, .ref m14, .ref m15, .long mco, .int nf, .ref m18, .ref m19, .ref m20, .ref m21, .long mU, .long mS, .long mW, .int mX, .int mY, .ref m27, .ref m28, .ref m29, .ref m30]))] [] sZ.heap [] := h
  have hl : lv_has ls 2 [(0, .ref md), (1, .int (nI j))] := hl
  refine lv_iload_n hx hb dX8_isDial_0 rfl (lv_at hl 1 rfl) ?_
  refine lv_iconst (v := 0) hx hb dX8_isDial_1 (by decide) ?_
  refine lv_aload_n hx hb dX8_isDial_2 rfl (lv_at hl 0 rfl) ?_
  refine y_get (own := RX8) hx hb hown hG h 0 8 6 (T := TX8) (N := 31) rfl rfl (by decide) (yl_8 hG) (kw_4_22 hG) rfl rfl dX8_isDial_3 ?_
  refine lv_iconst (v := 1) hx hb dX8_isDial_6 (by decide) ?_
  refine lv_isub hx hb dX8_isDial_7 ?_
  refine y_calli (X' := fun _ : Unit => [(md, .inr (8, [.int th, .int np, .ref m2, .ref m3, .int sF, .int sT, .int (nI k), .ref m7, .ref m8, .ref m9, .ref m10, .ref m11, .ref m12, .ref m13, .ref m14, .ref m15, .long mco, .int nf, .ref m18, .ref m19, .ref m20, .ref m21, .long mU, .long mS, .long mW, .int mX, .int mY, .ref m27, .ref m28, .ref m29, .ref m30]))]) (wc := []) (wr := [(md, .inr (8, [.int th, .int np, .ref m2, .ref m3, .int sF, .int sT, .int (nI k), .ref m7, .ref m8, .ref m9, .ref m10, .ref m11, .ref m12, .ref m13, .ref m14, .ref m15, .long mco, .int nf, .ref m18, .ref m19, .ref m20, .ref m21, .long mU, .long mS, .long mW, .int mX, .int mY, .ref m27, .ref m28, .ref m29, .ref m30]))]) h hA [] [0] [0] rfl rfl (by decide) (by decide) (by decide) (fun _ => rfl) (va_runS (own := RX8) (As := [.int (nI j), .int 0, .int ((nI k) - 1)]) (rest := []) ⟨hx, hb, hml, hown, y_nil⟩ (m_X8_in l D ty base _ (nI j) 0 ((nI k) - 1)   ) (y_cwS 3 (kw_4_122 hG) (kw_1_7 hG) (kw_4_120 hG) (kw_4_121 hG) yd_X8_in ⟨Nat.le_of_ble_eq_true rfl, Nat.le_of_ble_eq_true rfl⟩) (y_preS hG h hAb [] rfl (by decide)) rfl rfl hl.1 rfl (lv_room (Nat.le_of_ble_eq_true rfl)) dX8_isDial_8 ⟨Nat.le_of_ble_eq_true rfl, Nat.le_of_ble_eq_true rfl⟩) (fun r_8 _ H locs hp_8 h => ?_)
  have hp_8 : r_8 = bI (wI (nI j) 0 ((nI k) - 1)) := hp_8
  have h : yH D AZ sZ.heap [(md, .inr (8, [.int th, .int np, .ref m2, .ref m3, .int sF, .int sT, .int (nI k), .ref m7, .ref m8, .ref m9, .ref m10, .ref m11, .ref m12, .ref m13, .ref m14, .ref m15, .long mco, .int nf, .ref m18, .ref m19, .ref m20, .ref m21, .long mU, .long mS, .long mW, .int mX, .int mY, .ref m27, .ref m28, .ref m29, .ref m30]))] [] _ _ := h
  rw [hp_8]
  exact hret (bI (wI (nI j) 0 ((nI k) - 1))) () _ _ _ _ _ _ _ _ (y_bz _) (inP hj (by omega)) h rfl (Nat.le_of_ble_eq_true rfl) (Nat.le_of_ble_eq_true rfl) dX8_isDial_11

abbrev rm_X8_isDialB : Room := { frames := 1, cells := 0, slots := 0, locals := 22 }
theorem yd_X8_isDialB : yX8_isDial.cls ≠ "java/lang/invoke/MethodHandle" ∧ yX8_isDial.cls ≠ "java/lang/invoke/VarHandle" ∧ (parseMethodDescriptor yX8_isDial.desc).map (fun d => d.parameters.length) = some 1 := by decide +kernel
set_option maxHeartbeats 4000000 in
set_option maxRecDepth 100000 in
theorem m_X8_isDialB (l : Launch) (D : va_G) (ty : Nat → ClassId) (base sz : Nat) (md : Nat) (th : Int32) (np : Int32) (m2 : Nat) (m3 : Nat) (sF : Int32) (sT : Int32) (m7 : Nat) (m8 : Nat) (m9 : Nat) (m10 : Nat) (m11 : Nat) (m12 : Nat) (m13 : Nat) (m14 : Nat) (m15 : Nat) (mco : Int64) (nf : Int32) (m18 : Nat) (m19 : Nat) (m20 : Nat) (m21 : Nat) (mU : Int64) (mS : Int64) (mW : Int64) (mX : Int32) (mY : Int32) (m27 : Nat) (m28 : Nat) (m29 : Nat) (m30 : Nat) (k : Nat) (x : Int32)   (hk : k ≤ 10) (hn : ¬ (0 ≤ x.toInt ∧ x.toInt < k)) : Met l yX8_isDial [.code yX8_isDial cX8_isDial 2 (some (.boolean))] rm_X8_isDialB (yPc D ty base sz ([(md, .inr (8, [.int th, .int np, .ref m2, .ref m3, .int sF, .int sT, .int (nI k), .ref m7, .ref m8, .ref m9, .ref m10, .ref m11, .ref m12, .ref m13, .ref m14, .ref m15, .long mco, .int nf, .ref m18, .ref m19, .ref m20, .ref m21, .long mU, .long mS, .long mW, .int mX, .int mY, .ref m27, .ref m28, .ref m29, .ref m30]))]) [.ref md, .int x]) (va_Qi (fun (r : Int32) (_ : Unit) => r = 0) (yB D (va_A ([(md, .inr (8, [.int th, .int np, .ref m2, .ref m3, .int sF, .int sT, .int (nI k), .ref m7, .ref m8, .ref m9, .ref m10, .ref m11, .ref m12, .ref m13, .ref m14, .ref m15, .long mco, .int nf, .ref m18, .ref m19, .ref m20, .ref m21, .long mU, .long mS, .long mW, .int mX, .int mY, .ref m27, .ref m28, .ref m29, .ref m30]))]) sz) (fun _ : Unit => [(md, .inr (8, [.int th, .int np, .ref m2, .ref m3, .int sF, .int sT, .int (nI k), .ref m7, .ref m8, .ref m9, .ref m10, .ref m11, .ref m12, .ref m13, .ref m14, .ref m15, .long mco, .int nf, .ref m18, .ref m19, .ref m20, .ref m21, .long mU, .long mS, .long mW, .int mX, .int mY, .ref m27, .ref m28, .ref m29, .ref m30]))])) (va_A ([(md, .inr (8, [.int th, .int np, .ref m2, .ref m3, .int sF, .int sT, .int (nI k), .ref m7, .ref m8, .ref m9, .ref m10, .ref m11, .ref m12, .ref m13, .ref m14, .ref m15, .long mco, .int nf, .ref m18, .ref m19, .ref m20, .ref m21, .long mU, .long mS, .long mW, .int mX, .int mY, .ref m27, .ref m28, .ref m29, .ref m30]))]) sz)) rm_X8_isDialB.cells rm_X8_isDialB.slots (va_A ([(md, .inr (8, [.int th, .int np, .ref m2, .ref m3, .int sF, .int sT, .int (nI k), .ref m7, .ref m8, .ref m9, .ref m10, .ref m11, .ref m12, .ref m13, .ref m14, .ref m15, .long mco, .int nf, .ref m18, .ref m19, .ref m20, .ref m21, .long mU, .long mS, .long mW, .int mX, .int mY, .ref m27, .ref m28, .ref m29, .ref m30]))]) sz) := by
  refine y_start_z (cc := cX8_isDial) (maxL := 2) (own := RX8) (by decide +kernel) rfl (Nat.le_of_ble_eq_true rfl) (fun pZ eZ sZ mZ aZ bZ tZ cZ AZ ls QZ hx hb hml hown hnm hG hA hAb hsz h hl hret => ?_)
  have h : yH D AZ sZ.heap [(md, .inr (8, [.int th, .int np, .ref m2, .ref m3, .int sF, .int sT, .int (nI k), .ref m7, .ref m8, .ref m9, .ref m10, .ref m11, .ref m12, .ref m13, .ref m14, .ref m15, .long mco, .int nf, .ref m18, .ref m19, .ref m20, .ref m21, .long mU, .long mS, .long mW, .int mX, .int mY, .ref m27, .ref m28, .ref m29, .ref m30]))] [] sZ.heap [] := h
  have hl : lv_has ls 2 [(0, .ref md), (1, .int x)] := hl
  refine lv_iload_n hx hb dX8_isDial_0 rfl (lv_at hl 1 rfl) ?_
  refine lv_iconst (v := 0) hx hb dX8_isDial_1 (by decide) ?_
  refine lv_aload_n hx hb dX8_isDial_2 rfl (lv_at hl 0 rfl) ?_
  refine y_get (own := RX8) hx hb hown hG h 0 8 6 (T := TX8) (N := 31) rfl rfl (by decide) (yl_8 hG) (kw_4_22 hG) rfl rfl dX8_isDial_3 ?_
  refine lv_iconst (v := 1) hx hb dX8_isDial_6 (by decide) ?_
  refine lv_isub hx hb dX8_isDial_7 ?_
  refine y_calli (X' := fun _ : Unit => [(md, .inr (8, [.int th, .int np, .ref m2, .ref m3, .int sF, .int sT, .int (nI k), .ref m7, .ref m8, .ref m9, .ref m10, .ref m11, .ref m12, .ref m13, .ref m14, .ref m15, .long mco, .int nf, .ref m18, .ref m19, .ref m20, .ref m21, .long mU, .long mS, .long mW, .int mX, .int mY, .ref m27, .ref m28, .ref m29, .ref m30]))]) (wc := []) (wr := [(md, .inr (8, [.int th, .int np, .ref m2, .ref m3, .int sF, .int sT, .int (nI k), .ref m7, .ref m8, .ref m9, .ref m10, .ref m11, .ref m12, .ref m13, .ref m14, .ref m15, .long mco, .int nf, .ref m18, .ref m19, .ref m20, .ref m21, .long mU, .long mS, .long mW, .int mX, .int mY, .ref m27, .ref m28, .ref m29, .ref m30]))]) h hA [] [0] [0] rfl rfl (by decide) (by decide) (by decide) (fun _ => rfl) (va_runS (own := RX8) (As := [.int x, .int 0, .int ((nI k) - 1)]) (rest := []) ⟨hx, hb, hml, hown, y_nil⟩ (m_X8_in l D ty base _ x 0 ((nI k) - 1)   ) (y_cwS 3 (kw_4_122 hG) (kw_1_7 hG) (kw_4_120 hG) (kw_4_121 hG) yd_X8_in ⟨Nat.le_of_ble_eq_true rfl, Nat.le_of_ble_eq_true rfl⟩) (y_preS hG h hAb [] rfl (by decide)) rfl rfl hl.1 rfl (lv_room (Nat.le_of_ble_eq_true rfl)) dX8_isDial_8 ⟨Nat.le_of_ble_eq_true rfl, Nat.le_of_ble_eq_true rfl⟩) (fun r_8 _ H locs hp_8 h => ?_)
  have hp_8 : r_8 = bI (wI x 0 ((nI k) - 1)) := hp_8
  have h : yH D AZ sZ.heap [(md, .inr (8, [.int th, .int np, .ref m2, .ref m3, .int sF, .int sT, .int (nI k), .ref m7, .ref m8, .ref m9, .ref m10, .ref m11, .ref m12, .ref m13, .ref m14, .ref m15, .long mco, .int nf, .ref m18, .ref m19, .ref m20, .ref m21, .long mU, .long mS, .long mW, .int mX, .int mY, .ref m27, .ref m28, .ref m29, .ref m30]))] [] _ _ := h
  rw [hp_8]
  exact hret (bI (wI x 0 ((nI k) - 1))) () _ _ _ _ _ _ _ _ (y_bz _) (inPB (by omega) hn) h rfl (Nat.le_of_ble_eq_true rfl) (Nat.le_of_ble_eq_true rfl) dX8_isDial_11

abbrev rm_X8_size : Room := { frames := 0, cells := 0, slots := 0, locals := 0 }
theorem yd_X8_size : yX8_size.cls ≠ "java/lang/invoke/MethodHandle" ∧ yX8_size.cls ≠ "java/lang/invoke/VarHandle" ∧ (parseMethodDescriptor yX8_size.desc).map (fun d => d.parameters.length) = some 1 := by decide +kernel
set_option maxHeartbeats 4000000 in
set_option maxRecDepth 100000 in
theorem m_X8_size (l : Launch) (D : va_G) (ty : Nat → ClassId) (base sz : Nat) (x : Int32)    : Met l yX8_size [.code yX8_size cX8_size 1 (some (.int))] rm_X8_size (yPc D ty base sz ([]) [.int x]) (va_Qi (fun (r : Int32) (_ : Unit) => r = jAbs x) (yB D (va_A ([]) sz) (fun _ : Unit => [])) (va_A ([]) sz)) rm_X8_size.cells rm_X8_size.slots (va_A ([]) sz) := by
  refine y_start_i (cc := cX8_size) (maxL := 1) (own := RX8) (by decide +kernel) rfl (Nat.le_of_ble_eq_true rfl) (fun pZ eZ sZ mZ aZ bZ tZ cZ AZ ls QZ hx hb hml hown hnm hG hA hAb hsz h hl hret => ?_)
  have h : yH D AZ sZ.heap [] [] sZ.heap [] := h
  have hl : lv_has ls 1 [(0, .int x)] := hl
  refine lv_iload_n hx hb dX8_size_0 rfl (lv_at hl 0 rfl) ?_
  refine lv_if_ge (tgt := 9) hx hb dX8_size_1 (by decide) (fun c_1 => ?_) (fun c_1 => ?_)
  · skip
    refine lv_iload_n hx hb dX8_size_9 rfl (lv_at hl 0 rfl) ?_
    exact hret x () _ _ _ _ _ _ _ _ (if_pos c_1).symm h rfl (Nat.le_of_ble_eq_true rfl) (Nat.le_of_ble_eq_true rfl) dX8_size_10
  · skip
    refine lv_iload_n hx hb dX8_size_4 rfl (lv_at hl 0 rfl) ?_
    refine lv_ineg hx hb dX8_size_5 ?_
    refine lv_goto (tgt := 10) hx hb dX8_size_6 (by decide) ?_
    exact hret (-x) () _ _ _ _ _ _ _ _ (if_neg c_1).symm h rfl (Nat.le_of_ble_eq_true rfl) (Nat.le_of_ble_eq_true rfl) dX8_size_10

abbrev rm_X8_down : Room := { frames := 0, cells := 0, slots := 0, locals := 0 }
theorem yd_X8_down : yX8_down.cls ≠ "java/lang/invoke/MethodHandle" ∧ yX8_down.cls ≠ "java/lang/invoke/VarHandle" ∧ (parseMethodDescriptor yX8_down.desc).map (fun d => d.parameters.length) = some 2 := by decide +kernel
set_option maxHeartbeats 4000000 in
set_option maxRecDepth 100000 in
theorem m_X8_down (l : Launch) (D : va_G) (ty : Nat → ClassId) (base sz : Nat) (a : Int64) (b : Int64)   (hb0 : ¬ b = 0) : Met l yX8_down [.code yX8_down cX8_down 4 (some (.long))] rm_X8_down (yPc D ty base sz ([]) [.long a, .long b]) (va_Ql (fun (r : Int64) (_ : Unit) => r = mDn a b) (yB D (va_A ([]) sz) (fun _ : Unit => [])) (va_A ([]) sz)) rm_X8_down.cells rm_X8_down.slots (va_A ([]) sz) := by
  refine y_start_l (cc := cX8_down) (maxL := 4) (own := RX8) (by decide +kernel) rfl (Nat.le_of_ble_eq_true rfl) (fun pZ eZ sZ mZ aZ bZ tZ cZ AZ ls QZ hx hb hml hown hnm hG hA hAb hsz h hl hret => ?_)
  have h : yH D AZ sZ.heap [] [] sZ.heap [] := h
  have hl : lv_has ls 4 [(0, .long a), (2, .long b)] := hl
  refine lv_lload_n hx hb dX8_down_0 rfl (lv_at hl 0 rfl) ?_
  refine lv_lload_n hx hb dX8_down_1 rfl (lv_at hl 1 rfl) ?_
  refine lv_ldiv hx hb dX8_down_2 hb0 ?_
  refine lv_lload_n hx hb dX8_down_3 rfl (lv_at hl 0 rfl) ?_
  refine lv_lload_n hx hb dX8_down_4 rfl (lv_at hl 1 rfl) ?_
  refine lv_lrem hx hb dX8_down_5 hb0 ?_
  refine lv_lconst (v := 0) hx hb dX8_down_6 (by decide) ?_
  refine W.lcmp hx hb dX8_down_7 ?_
  refine lv_if_eq (tgt := 40) hx hb dX8_down_8 (by decide) (fun c_8 => ?_) (fun c_8 => ?_)
  · skip
    have c_8 := (lg_cmp_eq (a - a / b * b) 0).mp c_8
    refine lv_lconst (v := 0) hx hb dX8_down_40 (by decide) ?_
    refine lv_lsub hx hb dX8_down_41 ?_
    exact hret ((a / b) - 0) () _ _ _ _ _ _ _ _ (dn_z c_8) h rfl (Nat.le_of_ble_eq_true rfl) (Nat.le_of_ble_eq_true rfl) dX8_down_42
  · skip
    have c_8 := fun q => c_8 ((lg_cmp_eq (a - a / b * b) 0).mpr q)
    refine lv_lload_n hx hb dX8_down_11 rfl (lv_at hl 0 rfl) ?_
    refine lv_lconst (v := 0) hx hb dX8_down_12 (by decide) ?_
    refine W.lcmp hx hb dX8_down_13 ?_
    refine lv_if_ge (tgt := 21) hx hb dX8_down_14 (by decide) (fun c_14 => ?_) (fun c_14 => ?_)
    · skip
      have c_14 := (lg_cmp_ge a 0).mp c_14
      refine lv_iconst (v := 0) hx hb dX8_down_21 (by decide) ?_
      refine lv_lload_n hx hb dX8_down_22 rfl (lv_at hl 1 rfl) ?_
      refine lv_lconst (v := 0) hx hb dX8_down_23 (by decide) ?_
      refine W.lcmp hx hb dX8_down_24 ?_
      refine lv_if_ge (tgt := 32) hx hb dX8_down_25 (by decide) (fun c_25 => ?_) (fun c_25 => ?_)
      · skip
        have c_25 := (lg_cmp_ge b 0).mp c_25
        refine lv_iconst (v := 0) hx hb dX8_down_32 (by decide) ?_
        refine lv_icmp_eq (tgt := 40) hx hb dX8_down_33 (by decide) (fun c_33 => ?_) (fun c_33 => ?_)
        · skip
          refine lv_lconst (v := 0) hx hb dX8_down_40 (by decide) ?_
          refine lv_lsub hx hb dX8_down_41 ?_
          exact hret ((a / b) - 0) () _ _ _ _ _ _ _ _ (dn_e ((dn_p c_14).trans (dn_p c_25).symm)) h rfl (Nat.le_of_ble_eq_true rfl) (Nat.le_of_ble_eq_true rfl) dX8_down_42
        · exact absurd (by decide) c_33
      · skip
        have c_25 := fun q => c_25 ((lg_cmp_ge b 0).mpr q)
        refine lv_iconst (v := 1) hx hb dX8_down_28 (by decide) ?_
        refine lv_goto (tgt := 33) hx hb dX8_down_29 (by decide) ?_
        refine lv_icmp_eq (tgt := 40) hx hb dX8_down_33 (by decide) (fun c_33 => ?_) (fun c_33 => ?_)
        · exact absurd c_33 (by decide)
        · skip
          refine lv_lconst (v := 1) hx hb dX8_down_36 (by decide) ?_
          refine lv_goto (tgt := 41) hx hb dX8_down_37 (by decide) ?_
          refine lv_lsub hx hb dX8_down_41 ?_
          exact hret ((a / b) - 1) () _ _ _ _ _ _ _ _ (dn_n c_8 (by rw [(dn_p c_14), (dn_m c_25)]; decide)) h rfl (Nat.le_of_ble_eq_true rfl) (Nat.le_of_ble_eq_true rfl) dX8_down_42
    · skip
      have c_14 := fun q => c_14 ((lg_cmp_ge a 0).mpr q)
      refine lv_iconst (v := 1) hx hb dX8_down_17 (by decide) ?_
      refine lv_goto (tgt := 22) hx hb dX8_down_18 (by decide) ?_
      refine lv_lload_n hx hb dX8_down_22 rfl (lv_at hl 1 rfl) ?_
      refine lv_lconst (v := 0) hx hb dX8_down_23 (by decide) ?_
      refine W.lcmp hx hb dX8_down_24 ?_
      refine lv_if_ge (tgt := 32) hx hb dX8_down_25 (by decide) (fun c_25 => ?_) (fun c_25 => ?_)
      · skip
        have c_25 := (lg_cmp_ge b 0).mp c_25
        refine lv_iconst (v := 0) hx hb dX8_down_32 (by decide) ?_
        refine lv_icmp_eq (tgt := 40) hx hb dX8_down_33 (by decide) (fun c_33 => ?_) (fun c_33 => ?_)
        · exact absurd c_33 (by decide)
        · skip
          refine lv_lconst (v := 1) hx hb dX8_down_36 (by decide) ?_
          refine lv_goto (tgt := 41) hx hb dX8_down_37 (by decide) ?_
          refine lv_lsub hx hb dX8_down_41 ?_
          exact hret ((a / b) - 1) () _ _ _ _ _ _ _ _ (dn_n c_8 (by rw [(dn_m c_14), (dn_p c_25)]; decide)) h rfl (Nat.le_of_ble_eq_true rfl) (Nat.le_of_ble_eq_true rfl) dX8_down_42
      · skip
        have c_25 := fun q => c_25 ((lg_cmp_ge b 0).mpr q)
        refine lv_iconst (v := 1) hx hb dX8_down_28 (by decide) ?_
        refine lv_goto (tgt := 33) hx hb dX8_down_29 (by decide) ?_
        refine lv_icmp_eq (tgt := 40) hx hb dX8_down_33 (by decide) (fun c_33 => ?_) (fun c_33 => ?_)
        · skip
          refine lv_lconst (v := 0) hx hb dX8_down_40 (by decide) ?_
          refine lv_lsub hx hb dX8_down_41 ?_
          exact hret ((a / b) - 0) () _ _ _ _ _ _ _ _ (dn_e ((dn_m c_14).trans (dn_m c_25).symm)) h rfl (Nat.le_of_ble_eq_true rfl) (Nat.le_of_ble_eq_true rfl) dX8_down_42
        · exact absurd (by decide) c_33

abbrev rm_X8_rest : Room := { frames := 0, cells := 0, slots := 0, locals := 0 }
theorem yd_X8_rest : yX8_rest.cls ≠ "java/lang/invoke/MethodHandle" ∧ yX8_rest.cls ≠ "java/lang/invoke/VarHandle" ∧ (parseMethodDescriptor yX8_rest.desc).map (fun d => d.parameters.length) = some 2 := by decide +kernel
set_option maxHeartbeats 4000000 in
set_option maxRecDepth 100000 in
theorem m_X8_rest (l : Launch) (D : va_G) (ty : Nat → ClassId) (base sz : Nat) (a : Int32) (b : Int32)   (hb0 : ¬ b = 0) : Met l yX8_rest [.code yX8_rest cX8_rest 2 (some (.int))] rm_X8_rest (yPc D ty base sz ([]) [.int a, .int b]) (va_Qi (fun (r : Int32) (_ : Unit) => r = mRest a b) (yB D (va_A ([]) sz) (fun _ : Unit => [])) (va_A ([]) sz)) rm_X8_rest.cells rm_X8_rest.slots (va_A ([]) sz) := by
  refine y_start_i (cc := cX8_rest) (maxL := 2) (own := RX8) (by decide +kernel) rfl (Nat.le_of_ble_eq_true rfl) (fun pZ eZ sZ mZ aZ bZ tZ cZ AZ ls QZ hx hb hml hown hnm hG hA hAb hsz h hl hret => ?_)
  have h : yH D AZ sZ.heap [] [] sZ.heap [] := h
  have hl : lv_has ls 2 [(0, .int a), (1, .int b)] := hl
  refine lv_iload_n hx hb dX8_rest_0 rfl (lv_at hl 0 rfl) ?_
  refine lv_iload_n hx hb dX8_rest_1 rfl (lv_at hl 1 rfl) ?_
  refine lv_irem hx hb dX8_rest_2 hb0 ?_
  refine lv_if_ge (tgt := 14) hx hb dX8_rest_3 (by decide) (fun c_3 => ?_) (fun c_3 => ?_)
  · skip
    refine lv_iload_n hx hb dX8_rest_14 rfl (lv_at hl 0 rfl) ?_
    refine lv_iload_n hx hb dX8_rest_15 rfl (lv_at hl 1 rfl) ?_
    refine lv_irem hx hb dX8_rest_16 hb0 ?_
    exact hret (a - a / b * b) () _ _ _ _ _ _ _ _ (if_neg (Int32.not_lt.mpr c_3)).symm h rfl (Nat.le_of_ble_eq_true rfl) (Nat.le_of_ble_eq_true rfl) dX8_rest_17
  · skip
    refine lv_iload_n hx hb dX8_rest_6 rfl (lv_at hl 0 rfl) ?_
    refine lv_iload_n hx hb dX8_rest_7 rfl (lv_at hl 1 rfl) ?_
    refine lv_irem hx hb dX8_rest_8 hb0 ?_
    refine lv_iload_n hx hb dX8_rest_9 rfl (lv_at hl 1 rfl) ?_
    refine lv_iadd hx hb dX8_rest_10 ?_
    refine lv_goto (tgt := 17) hx hb dX8_rest_11 (by decide) ?_
    exact hret ((a - a / b * b) + b) () _ _ _ _ _ _ _ _ (if_pos (Int32.not_le.mp c_3)).symm h rfl (Nat.le_of_ble_eq_true rfl) (Nat.le_of_ble_eq_true rfl) dX8_rest_17

abbrev rm_X8_arc : Room := { frames := 0, cells := 0, slots := 0, locals := 0 }
theorem yd_X8_arc : yX8_arc.cls ≠ "java/lang/invoke/MethodHandle" ∧ yX8_arc.cls ≠ "java/lang/invoke/VarHandle" ∧ (parseMethodDescriptor yX8_arc.desc).map (fun d => d.parameters.length) = some 1 := by decide +kernel
set_option maxHeartbeats 4000000 in
set_option maxRecDepth 100000 in
theorem m_X8_arc (l : Launch) (D : va_G) (ty : Nat → ClassId) (base sz : Nat) (a : Int32)   (ha0 : ¬ 40500 - a * (180 - a) = 0) : Met l yX8_arc [.code yX8_arc cX8_arc 2 (some (.int))] rm_X8_arc (yPc D ty base sz ([]) [.int a]) (va_Qi (fun (r : Int32) (_ : Unit) => r = gArc a) (yB D (va_A ([]) sz) (fun _ : Unit => [])) (va_A ([]) sz)) rm_X8_arc.cells rm_X8_arc.slots (va_A ([]) sz) := by
  refine y_start_i (cc := cX8_arc) (maxL := 2) (own := RX8) (by decide +kernel) rfl (Nat.le_of_ble_eq_true rfl) (fun pZ eZ sZ mZ aZ bZ tZ cZ AZ ls QZ hx hb hml hown hnm hG hA hAb hsz h hl hret => ?_)
  have h : yH D AZ sZ.heap [] [] sZ.heap [] := h
  have hl : lv_has ls 2 [(0, .int a)] := hl
  refine lv_iload_n hx hb dX8_arc_0 rfl (lv_at hl 0 rfl) ?_
  refine lv_sipush (v := 180) hx hb dX8_arc_1 (by decide) ?_
  refine lv_iload_n hx hb dX8_arc_4 rfl (lv_at hl 0 rfl) ?_
  refine lv_isub hx hb dX8_arc_5 ?_
  refine lv_imul hx hb dX8_arc_6 ?_
  refine lv_istore_n (lv' := [(1, .int (a * (180 - a))), (0, .int a)]) hx hb dX8_arc_7 rfl hl (by decide) rfl (fun ls hl => ?_)
  refine lv_sipush (v := 4000) hx hb dX8_arc_8 (by decide) ?_
  refine lv_iload_n hx hb dX8_arc_11 rfl (lv_at hl 0 rfl) ?_
  refine lv_imul hx hb dX8_arc_12 ?_
  refine lv_ldc (own := RX8) (v := 40500) hx hb hown (kw_4_136 hG).b dX8_arc_13 ?_
  refine lv_iload_n hx hb dX8_arc_15 rfl (lv_at hl 0 rfl) ?_
  refine lv_isub hx hb dX8_arc_16 ?_
  refine lv_idiv hx hb dX8_arc_17 ha0 ?_
  exact hret ((4000 * (a * (180 - a))) / (40500 - (a * (180 - a)))) () _ _ _ _ _ _ _ _ rfl h rfl (Nat.le_of_ble_eq_true rfl) (Nat.le_of_ble_eq_true rfl) dX8_arc_18

abbrev rm_X8_sin : Room := { frames := 1, cells := 0, slots := 0, locals := 21 }
theorem yd_X8_sin : yX8_sin.cls ≠ "java/lang/invoke/MethodHandle" ∧ yX8_sin.cls ≠ "java/lang/invoke/VarHandle" ∧ (parseMethodDescriptor yX8_sin.desc).map (fun d => d.parameters.length) = some 1 := by decide +kernel
set_option maxHeartbeats 4000000 in
set_option maxRecDepth 100000 in
theorem m_X8_sin (l : Launch) (D : va_G) (ty : Nat → ClassId) (base sz : Nat) (a : Int32)    : Met l yX8_sin [.code yX8_sin cX8_sin 2 (some (.int))] rm_X8_sin (yPc D ty base sz ([]) [.int a]) (va_Qi (fun (r : Int32) (_ : Unit) => r = gSin a) (yB D (va_A ([]) sz) (fun _ : Unit => [])) (va_A ([]) sz)) rm_X8_sin.cells rm_X8_sin.slots (va_A ([]) sz) := by
  refine y_start_i (cc := cX8_sin) (maxL := 2) (own := RX8) (by decide +kernel) rfl (Nat.le_of_ble_eq_true rfl) (fun pZ eZ sZ mZ aZ bZ tZ cZ AZ ls QZ hx hb hml hown hnm hG hA hAb hsz h hl hret => ?_)
  have h : yH D AZ sZ.heap [] [] sZ.heap [] := h
  have hl : lv_has ls 2 [(0, .int a)] := hl
  refine lv_iload_n hx hb dX8_sin_0 rfl (lv_at hl 0 rfl) ?_
  refine lv_sipush (v := 360) hx hb dX8_sin_1 (by decide) ?_
  refine y_calli (X' := fun _ : Unit => []) (wc := []) (wr := []) h hA [] [] [] rfl rfl (by decide) (by decide) (by decide) (fun _ => rfl) (va_runS (own := RX8) (As := [.int a, .int 360]) (rest := []) ⟨hx, hb, hml, hown, y_nil⟩ (m_X8_rest l D ty base _ a 360   (by decide)) (y_cwS 2 (kw_4_132 hG) (kw_1_7 hG) (kw_4_130 hG) (kw_4_131 hG) yd_X8_rest ⟨Nat.le_of_ble_eq_true rfl, Nat.le_of_ble_eq_true rfl⟩) (y_preS hG h hAb [] rfl (by decide)) rfl rfl hl.1 rfl (lv_room (Nat.le_of_ble_eq_true rfl)) dX8_sin_4 ⟨Nat.le_of_ble_eq_true rfl, Nat.le_of_ble_eq_true rfl⟩) (fun r_4 _ H locs hp_4 h => ?_)
  have hp_4 : r_4 = mRest a 360 := hp_4
  have h : yH D AZ sZ.heap [] [] _ _ := h
  rw [hp_4]
  refine lv_istore_n (lv' := [(1, .int (mRest a 360)), (0, .int a)]) hx hb dX8_sin_7 rfl hl (by decide) rfl (fun ls hl => ?_)
  refine lv_iload_n hx hb dX8_sin_8 rfl (lv_at hl 0 rfl) ?_
  refine lv_sipush (v := 180) hx hb dX8_sin_9 (by decide) ?_
  refine lv_icmp_gt (tgt := 22) hx hb dX8_sin_12 (by decide) (fun c_12 => ?_) (fun c_12 => ?_)
  · skip
    refine lv_iload_n hx hb dX8_sin_22 rfl (lv_at hl 0 rfl) ?_
    refine lv_sipush (v := 180) hx hb dX8_sin_23 (by decide) ?_
    refine lv_isub hx hb dX8_sin_26 ?_
    refine y_calli (X' := fun _ : Unit => []) (wc := []) (wr := []) h hA [] [] [] rfl rfl (by decide) (by decide) (by decide) (fun _ => rfl) (va_runS (own := RX8) (As := [.int ((mRest a 360) - 180)]) (rest := []) ⟨hx, hb, hml, hown, y_nil⟩ (m_X8_arc l D ty base _ ((mRest a 360) - 180)   (arc_nz2 c_12)) (y_cwS 1 (kw_4_135 hG) (kw_1_7 hG) (kw_4_133 hG) (kw_4_134 hG) yd_X8_arc ⟨Nat.le_of_ble_eq_true rfl, Nat.le_of_ble_eq_true rfl⟩) (y_preS hG h hAb [] rfl (by decide)) rfl rfl hl.1 rfl (lv_room (Nat.le_of_ble_eq_true rfl)) dX8_sin_27 ⟨Nat.le_of_ble_eq_true rfl, Nat.le_of_ble_eq_true rfl⟩) (fun r_27 _ H locs hp_27 h => ?_)
    have hp_27 : r_27 = gArc ((mRest a 360) - 180) := hp_27
    have h : yH D AZ sZ.heap [] [] _ _ := h
    rw [hp_27]
    refine lv_ineg hx hb dX8_sin_30 ?_
    exact hret (-(gArc ((mRest a 360) - 180))) () _ _ _ _ _ _ _ _ (if_neg (Int32.not_le.mpr c_12)).symm h rfl (Nat.le_of_ble_eq_true rfl) (Nat.le_of_ble_eq_true rfl) dX8_sin_31
  · skip
    refine lv_iload_n hx hb dX8_sin_15 rfl (lv_at hl 0 rfl) ?_
    refine y_calli (X' := fun _ : Unit => []) (wc := []) (wr := []) h hA [] [] [] rfl rfl (by decide) (by decide) (by decide) (fun _ => rfl) (va_runS (own := RX8) (As := [.int (mRest a 360)]) (rest := []) ⟨hx, hb, hml, hown, y_nil⟩ (m_X8_arc l D ty base _ (mRest a 360)   (arc_nz1 c_12)) (y_cwS 1 (kw_4_135 hG) (kw_1_7 hG) (kw_4_133 hG) (kw_4_134 hG) yd_X8_arc ⟨Nat.le_of_ble_eq_true rfl, Nat.le_of_ble_eq_true rfl⟩) (y_preS hG h hAb [] rfl (by decide)) rfl rfl hl.1 rfl (lv_room (Nat.le_of_ble_eq_true rfl)) dX8_sin_16 ⟨Nat.le_of_ble_eq_true rfl, Nat.le_of_ble_eq_true rfl⟩) (fun r_16 _ H locs hp_16 h => ?_)
    have hp_16 : r_16 = gArc (mRest a 360) := hp_16
    have h : yH D AZ sZ.heap [] [] _ _ := h
    rw [hp_16]
    refine lv_goto (tgt := 31) hx hb dX8_sin_19 (by decide) ?_
    exact hret (gArc (mRest a 360)) () _ _ _ _ _ _ _ _ (if_pos (Int32.not_lt.mp c_12)).symm h rfl (Nat.le_of_ble_eq_true rfl) (Nat.le_of_ble_eq_true rfl) dX8_sin_31

abbrev rm_X8_cos : Room := { frames := 2, cells := 0, slots := 0, locals := 42 }
theorem yd_X8_cos : yX8_cos.cls ≠ "java/lang/invoke/MethodHandle" ∧ yX8_cos.cls ≠ "java/lang/invoke/VarHandle" ∧ (parseMethodDescriptor yX8_cos.desc).map (fun d => d.parameters.length) = some 1 := by decide +kernel
set_option maxHeartbeats 4000000 in
set_option maxRecDepth 100000 in
theorem m_X8_cos (l : Launch) (D : va_G) (ty : Nat → ClassId) (base sz : Nat) (a : Int32)    : Met l yX8_cos [.code yX8_cos cX8_cos 1 (some (.int))] rm_X8_cos (yPc D ty base sz ([]) [.int a]) (va_Qi (fun (r : Int32) (_ : Unit) => r = gCos a) (yB D (va_A ([]) sz) (fun _ : Unit => [])) (va_A ([]) sz)) rm_X8_cos.cells rm_X8_cos.slots (va_A ([]) sz) := by
  refine y_start_i (cc := cX8_cos) (maxL := 1) (own := RX8) (by decide +kernel) rfl (Nat.le_of_ble_eq_true rfl) (fun pZ eZ sZ mZ aZ bZ tZ cZ AZ ls QZ hx hb hml hown hnm hG hA hAb hsz h hl hret => ?_)
  have h : yH D AZ sZ.heap [] [] sZ.heap [] := h
  have hl : lv_has ls 1 [(0, .int a)] := hl
  refine lv_bipush (v := 90) hx hb dX8_cos_0 (by decide) ?_
  refine lv_iload_n hx hb dX8_cos_2 rfl (lv_at hl 0 rfl) ?_
  refine lv_isub hx hb dX8_cos_3 ?_
  refine y_calli (X' := fun _ : Unit => []) (wc := []) (wr := []) h hA [] [] [] rfl rfl (by decide) (by decide) (by decide) (fun _ => rfl) (va_runS (own := RX8) (As := [.int (90 - a)]) (rest := []) ⟨hx, hb, hml, hown, y_nil⟩ (m_X8_sin l D ty base _ (90 - a)   ) (y_cwS 1 (kw_4_129 hG) (kw_1_7 hG) (kw_4_127 hG) (kw_4_128 hG) yd_X8_sin ⟨Nat.le_of_ble_eq_true rfl, Nat.le_of_ble_eq_true rfl⟩) (y_preS hG h hAb [] rfl (by decide)) rfl rfl hl.1 rfl (lv_room (Nat.le_of_ble_eq_true rfl)) dX8_cos_4 ⟨Nat.le_of_ble_eq_true rfl, Nat.le_of_ble_eq_true rfl⟩) (fun r_4 _ H locs hp_4 h => ?_)
  have hp_4 : r_4 = gSin (90 - a) := hp_4
  have h : yH D AZ sZ.heap [] [] _ _ := h
  rw [hp_4]
  exact hret (gSin (90 - a)) () _ _ _ _ _ _ _ _ rfl h rfl (Nat.le_of_ble_eq_true rfl) (Nat.le_of_ble_eq_true rfl) dX8_cos_7

abbrev rm_X8_slant : Room := { frames := 2, cells := 0, slots := 0, locals := 42 }
theorem yd_X8_slant : yX8_slant.cls ≠ "java/lang/invoke/MethodHandle" ∧ yX8_slant.cls ≠ "java/lang/invoke/VarHandle" ∧ (parseMethodDescriptor yX8_slant.desc).map (fun d => d.parameters.length) = some 1 := by decide +kernel
set_option maxHeartbeats 4000000 in
set_option maxRecDepth 100000 in
theorem m_X8_slant (l : Launch) (D : va_G) (ty : Nat → ClassId) (base sz : Nat) (a : Int32)    : Met l yX8_slant [.code yX8_slant cX8_slant 1 (some (.int))] rm_X8_slant (yPc D ty base sz ([]) [.int a]) (va_Qi (fun (r : Int32) (_ : Unit) => r = gSl a) (yB D (va_A ([]) sz) (fun _ : Unit => [])) (va_A ([]) sz)) rm_X8_slant.cells rm_X8_slant.slots (va_A ([]) sz) := by
  refine y_start_i (cc := cX8_slant) (maxL := 1) (own := RX8) (by decide +kernel) rfl (Nat.le_of_ble_eq_true rfl) (fun pZ eZ sZ mZ aZ bZ tZ cZ AZ ls QZ hx hb hml hown hnm hG hA hAb hsz h hl hret => ?_)
  have h : yH D AZ sZ.heap [] [] sZ.heap [] := h
  have hl : lv_has ls 1 [(0, .int a)] := hl
  refine lv_bipush (v := 23) hx hb dX8_slant_0 (by decide) ?_
  refine lv_iload_n hx hb dX8_slant_2 rfl (lv_at hl 0 rfl) ?_
  refine y_calli (X' := fun _ : Unit => []) (wc := []) (wr := []) h hA [] [] [] rfl rfl (by decide) (by decide) (by decide) (fun _ => rfl) (va_runS (own := RX8) (As := [.int a]) (rest := [.int 23]) ⟨hx, hb, hml, hown, y_nil⟩ (m_X8_sin l D ty base _ a   ) (y_cwS 1 (kw_4_129 hG) (kw_1_7 hG) (kw_4_127 hG) (kw_4_128 hG) yd_X8_sin ⟨Nat.le_of_ble_eq_true rfl, Nat.le_of_ble_eq_true rfl⟩) (y_preS hG h hAb [] rfl (by decide)) rfl rfl hl.1 rfl (lv_room (Nat.le_of_ble_eq_true rfl)) dX8_slant_3 ⟨Nat.le_of_ble_eq_true rfl, Nat.le_of_ble_eq_true rfl⟩) (fun r_3 _ H locs hp_3 h => ?_)
  have hp_3 : r_3 = gSin a := hp_3
  have h : yH D AZ sZ.heap [] [] _ _ := h
  rw [hp_3]
  refine lv_imul hx hb dX8_slant_6 ?_
  refine lv_sipush (v := 1000) hx hb dX8_slant_7 (by decide) ?_
  refine lv_idiv hx hb dX8_slant_10 (by decide) ?_
  exact hret ((23 * (gSin a)) / 1000) () _ _ _ _ _ _ _ _ rfl h rfl (Nat.le_of_ble_eq_true rfl) (Nat.le_of_ble_eq_true rfl) dX8_slant_11

abbrev rm_X8_late : Room := { frames := 2, cells := 0, slots := 0, locals := 42 }
theorem yd_X8_late : yX8_late.cls ≠ "java/lang/invoke/MethodHandle" ∧ yX8_late.cls ≠ "java/lang/invoke/VarHandle" ∧ (parseMethodDescriptor yX8_late.desc).map (fun d => d.parameters.length) = some 1 := by decide +kernel
set_option maxHeartbeats 4000000 in
set_option maxRecDepth 100000 in
theorem m_X8_late (l : Launch) (D : va_G) (ty : Nat → ClassId) (base sz : Nat) (a : Int32)    : Met l yX8_late [.code yX8_late cX8_late 1 (some (.int))] rm_X8_late (yPc D ty base sz ([]) [.int a]) (va_Qi (fun (r : Int32) (_ : Unit) => r = gLate a) (yB D (va_A ([]) sz) (fun _ : Unit => [])) (va_A ([]) sz)) rm_X8_late.cells rm_X8_late.slots (va_A ([]) sz) := by
  refine y_start_i (cc := cX8_late) (maxL := 1) (own := RX8) (by decide +kernel) rfl (Nat.le_of_ble_eq_true rfl) (fun pZ eZ sZ mZ aZ bZ tZ cZ AZ ls QZ hx hb hml hown hnm hG hA hAb hsz h hl hret => ?_)
  have h : yH D AZ sZ.heap [] [] sZ.heap [] := h
  have hl : lv_has ls 1 [(0, .int a)] := hl
  refine lv_ldc2 (own := RX8) (v := 10) hx hb hown (kw_4_150 hG).b dX8_late_0 ?_
  refine lv_iconst (v := 2) hx hb dX8_late_3 (by decide) ?_
  refine lv_iload_n hx hb dX8_late_4 rfl (lv_at hl 0 rfl) ?_
  refine lv_imul hx hb dX8_late_5 ?_
  refine y_calli (X' := fun _ : Unit => []) (wc := []) (wr := []) h hA [] [] [] rfl rfl (by decide) (by decide) (by decide) (fun _ => rfl) (va_runS (own := RX8) (As := [.int (2 * a)]) (rest := [.long 10]) ⟨hx, hb, hml, hown, y_nil⟩ (m_X8_sin l D ty base _ (2 * a)   ) (y_cwS 1 (kw_4_129 hG) (kw_1_7 hG) (kw_4_127 hG) (kw_4_128 hG) yd_X8_sin ⟨Nat.le_of_ble_eq_true rfl, Nat.le_of_ble_eq_true rfl⟩) (y_preS hG h hAb [] rfl (by decide)) rfl rfl hl.1 rfl (lv_room (Nat.le_of_ble_eq_true rfl)) dX8_late_6 ⟨Nat.le_of_ble_eq_true rfl, Nat.le_of_ble_eq_true rfl⟩) (fun r_6 _ H locs hp_6 h => ?_)
  have hp_6 : r_6 = gSin (2 * a) := hp_6
  have h : yH D AZ sZ.heap [] [] _ _ := h
  rw [hp_6]
  refine lv_i2l hx hb dX8_late_9 rfl ?_
  refine lv_lmul hx hb dX8_late_10 ?_
  refine lv_ldc2 (own := RX8) (v := 8) hx hb hown (kw_4_151 hG).b dX8_late_11 ?_
  refine lv_iload_n hx hb dX8_late_14 rfl (lv_at hl 0 rfl) ?_
  refine lv_bipush (v := 80) hx hb dX8_late_15 (by decide) ?_
  refine lv_iadd hx hb dX8_late_17 ?_
  refine y_calli (X' := fun _ : Unit => []) (wc := []) (wr := []) h hA [] [] [] rfl rfl (by decide) (by decide) (by decide) (fun _ => rfl) (va_runS (own := RX8) (As := [.int (a + 80)]) (rest := [.long 8, .long (10 * ((gSin (2 * a)).toInt64))]) ⟨hx, hb, hml, hown, y_nil⟩ (m_X8_sin l D ty base _ (a + 80)   ) (y_cwS 1 (kw_4_129 hG) (kw_1_7 hG) (kw_4_127 hG) (kw_4_128 hG) yd_X8_sin ⟨Nat.le_of_ble_eq_true rfl, Nat.le_of_ble_eq_true rfl⟩) (y_preS hG h hAb [] rfl (by decide)) rfl rfl hl.1 rfl (lv_room (Nat.le_of_ble_eq_true rfl)) dX8_late_18 ⟨Nat.le_of_ble_eq_true rfl, Nat.le_of_ble_eq_true rfl⟩) (fun r_18 _ H locs hp_18 h => ?_)
  have hp_18 : r_18 = gSin (a + 80) := hp_18
  have h : yH D AZ sZ.heap [] [] _ _ := h
  rw [hp_18]
  refine lv_i2l hx hb dX8_late_21 rfl ?_
  refine lv_lmul hx hb dX8_late_22 ?_
  refine lv_lsub hx hb dX8_late_23 ?_
  refine lv_ldc2 (own := RX8) (v := 1000) hx hb hown (kw_4_152 hG).b dX8_late_24 ?_
  refine y_calll (X' := fun _ : Unit => []) (wc := []) (wr := []) h hA [] [] [] rfl rfl (by decide) (by decide) (by decide) (fun _ => rfl) (va_runS (own := RX8) (As := [.long ((10 * ((gSin (2 * a)).toInt64)) - (8 * ((gSin (a + 80)).toInt64))), .long 1000]) (rest := []) ⟨hx, hb, hml, hown, y_nil⟩ (m_X8_down l D ty base _ ((10 * (gSin (2 * a)).toInt64) - (8 * (gSin (a + 80)).toInt64)) 1000   (by decide)) (y_cwS 2 (kw_4_155 hG) (kw_1_7 hG) (kw_4_153 hG) (kw_4_154 hG) yd_X8_down ⟨Nat.le_of_ble_eq_true rfl, Nat.le_of_ble_eq_true rfl⟩) (y_preS hG h hAb [] rfl (by decide)) rfl rfl hl.1 rfl (lv_room (Nat.le_of_ble_eq_true rfl)) dX8_late_27 ⟨Nat.le_of_ble_eq_true rfl, Nat.le_of_ble_eq_true rfl⟩) (fun r_27 _ H locs hp_27 h => ?_)
  have hp_27 : r_27 = mDn ((10 * (gSin (2 * a)).toInt64) - (8 * (gSin (a + 80)).toInt64)) 1000 := hp_27
  have h : yH D AZ sZ.heap [] [] _ _ := h
  rw [hp_27]
  refine lv_l2i hx hb dX8_late_30 rfl ?_
  exact hret ((mDn ((10 * (gSin (2 * a)).toInt64) - (8 * (gSin (a + 80)).toInt64)) 1000).toInt32) () _ _ _ _ _ _ _ _ rfl h rfl (Nat.le_of_ble_eq_true rfl) (Nat.le_of_ble_eq_true rfl) dX8_late_31

abbrev rm_X8_sine : Room := { frames := 2, cells := 0, slots := 0, locals := 42 }
theorem yd_X8_sine : yX8_sine.cls ≠ "java/lang/invoke/MethodHandle" ∧ yX8_sine.cls ≠ "java/lang/invoke/VarHandle" ∧ (parseMethodDescriptor yX8_sine.desc).map (fun d => d.parameters.length) = some 1 := by decide +kernel
set_option maxHeartbeats 4000000 in
set_option maxRecDepth 100000 in
theorem m_X8_sine (l : Launch) (D : va_G) (ty : Nat → ClassId) (base sz : Nat) (md : Nat) (th : Int32) (np : Int32) (m2 : Nat) (m3 : Nat) (sF : Int32) (sT : Int32) (nd : Int32) (m7 : Nat) (m8 : Nat) (m9 : Nat) (m10 : Nat) (m11 : Nat) (m12 : Nat) (m13 : Nat) (m14 : Nat) (m15 : Nat) (mco : Int64) (nf : Int32) (m18 : Nat) (m19 : Nat) (m20 : Nat) (m21 : Nat) (mU : Int64) (mS : Int64) (mW : Int64) (mX : Int32) (mY : Int32) (m27 : Nat) (m28 : Nat) (m29 : Nat) (m30 : Nat) (x : Int32)    : Met l yX8_sine [.code yX8_sine cX8_sine 2 (some (.int))] rm_X8_sine (yPc D ty base sz ([(md, .inr (8, [.int th, .int np, .ref m2, .ref m3, .int sF, .int sT, .int nd, .ref m7, .ref m8, .ref m9, .ref m10, .ref m11, .ref m12, .ref m13, .ref m14, .ref m15, .long mco, .int nf, .ref m18, .ref m19, .ref m20, .ref m21, .long mU, .long mS, .long mW, .int mX, .int mY, .ref m27, .ref m28, .ref m29, .ref m30]))]) [.ref md, .int x]) (va_Qi (fun (r : Int32) (u : Int32) => u = kO (wI x (-100000) 100000) 1 0 ∧ (u = 0 → r = gSin x)) (yB D (va_A ([(md, .inr (8, [.int th, .int np, .ref m2, .ref m3, .int sF, .int sT, .int nd, .ref m7, .ref m8, .ref m9, .ref m10, .ref m11, .ref m12, .ref m13, .ref m14, .ref m15, .long mco, .int nf, .ref m18, .ref m19, .ref m20, .ref m21, .long mU, .long mS, .long mW, .int mX, .int mY, .ref m27, .ref m28, .ref m29, .ref m30]))]) sz) (fun u : Int32 => [(md, .inr (8, [.int u, .int np, .ref m2, .ref m3, .int sF, .int sT, .int nd, .ref m7, .ref m8, .ref m9, .ref m10, .ref m11, .ref m12, .ref m13, .ref m14, .ref m15, .long mco, .int nf, .ref m18, .ref m19, .ref m20, .ref m21, .long mU, .long mS, .long mW, .int mX, .int mY, .ref m27, .ref m28, .ref m29, .ref m30]))])) (va_A ([(md, .inr (8, [.int th, .int np, .ref m2, .ref m3, .int sF, .int sT, .int nd, .ref m7, .ref m8, .ref m9, .ref m10, .ref m11, .ref m12, .ref m13, .ref m14, .ref m15, .long mco, .int nf, .ref m18, .ref m19, .ref m20, .ref m21, .long mU, .long mS, .long mW, .int mX, .int mY, .ref m27, .ref m28, .ref m29, .ref m30]))]) sz)) rm_X8_sine.cells rm_X8_sine.slots (va_A ([(md, .inr (8, [.int th, .int np, .ref m2, .ref m3, .int sF, .int sT, .int nd, .ref m7, .ref m8, .ref m9, .ref m10, .ref m11, .ref m12, .ref m13, .ref m14, .ref m15, .long mco, .int nf, .ref m18, .ref m19, .ref m20, .ref m21, .long mU, .long mS, .long mW, .int mX, .int mY, .ref m27, .ref m28, .ref m29, .ref m30]))]) sz) := by
  refine y_start_i (cc := cX8_sine) (maxL := 2) (own := RX8) (by decide +kernel) rfl (Nat.le_of_ble_eq_true rfl) (fun pZ eZ sZ mZ aZ bZ tZ cZ AZ ls QZ hx hb hml hown hnm hG hA hAb hsz h hl hret => ?_)
  have h : yH D AZ sZ.heap [(md, .inr (8, [.int th, .int np, .ref m2, .ref m3, .int sF, .int sT, .int nd, .ref m7, .ref m8, .ref m9, .ref m10, .ref m11, .ref m12, .ref m13, .ref m14, .ref m15, .long mco, .int nf, .ref m18, .ref m19, .ref m20, .ref m21, .long mU, .long mS, .long mW, .int mX, .int mY, .ref m27, .ref m28, .ref m29, .ref m30]))] [] sZ.heap [] := h
  have hl : lv_has ls 2 [(0, .ref md), (1, .int x)] := hl
  refine lv_aload_n hx hb dX8_sine_0 rfl (lv_at hl 0 rfl) ?_
  refine lv_iload_n hx hb dX8_sine_1 rfl (lv_at hl 1 rfl) ?_
  refine lv_ldc (own := RX8) (v := (-100000)) hx hb hown (kw_4_118 hG).b dX8_sine_2 ?_
  refine lv_ldc (own := RX8) (v := 100000) hx hb hown (kw_4_119 hG).b dX8_sine_4 ?_
  refine y_calli (X' := fun _ : Unit => [(md, .inr (8, [.int th, .int np, .ref m2, .ref m3, .int sF, .int sT, .int nd, .ref m7, .ref m8, .ref m9, .ref m10, .ref m11, .ref m12, .ref m13, .ref m14, .ref m15, .long mco, .int nf, .ref m18, .ref m19, .ref m20, .ref m21, .long mU, .long mS, .long mW, .int mX, .int mY, .ref m27, .ref m28, .ref m29, .ref m30]))]) (wc := []) (wr := [(md, .inr (8, [.int th, .int np, .ref m2, .ref m3, .int sF, .int sT, .int nd, .ref m7, .ref m8, .ref m9, .ref m10, .ref m11, .ref m12, .ref m13, .ref m14, .ref m15, .long mco, .int nf, .ref m18, .ref m19, .ref m20, .ref m21, .long mU, .long mS, .long mW, .int mX, .int mY, .ref m27, .ref m28, .ref m29, .ref m30]))]) h hA [] [0] [0] rfl rfl (by decide) (by decide) (by decide) (fun _ => rfl) (va_runS (own := RX8) (As := [.int x, .int (-100000), .int 100000]) (rest := [.ref md]) ⟨hx, hb, hml, hown, y_nil⟩ (m_X8_in l D ty base _ x (- 100000) 100000   ) (y_cwS 3 (kw_4_122 hG) (kw_1_7 hG) (kw_4_120 hG) (kw_4_121 hG) yd_X8_in ⟨Nat.le_of_ble_eq_true rfl, Nat.le_of_ble_eq_true rfl⟩) (y_preS hG h hAb [] rfl (by decide)) rfl rfl hl.1 rfl (lv_room (Nat.le_of_ble_eq_true rfl)) dX8_sine_6 ⟨Nat.le_of_ble_eq_true rfl, Nat.le_of_ble_eq_true rfl⟩) (fun r_6 _ H locs hp_6 h => ?_)
  have hp_6 : r_6 = bI (wI x (- 100000) 100000) := hp_6
  have h : yH D AZ sZ.heap [(md, .inr (8, [.int th, .int np, .ref m2, .ref m3, .int sF, .int sT, .int nd, .ref m7, .ref m8, .ref m9, .ref m10, .ref m11, .ref m12, .ref m13, .ref m14, .ref m15, .long mco, .int nf, .ref m18, .ref m19, .ref m20, .ref m21, .long mU, .long mS, .long mW, .int mX, .int mY, .ref m27, .ref m28, .ref m29, .ref m30]))] [] _ _ := h
  rw [hp_6]
  refine lv_if_eq (tgt := 16) hx hb dX8_sine_9 (by decide) (fun c_9 => ?_) (fun c_9 => ?_)
  · skip
    refine lv_iconst (v := 1) hx hb dX8_sine_16 (by decide) ?_
    refine y_calli (X' := fun _ : Unit => [(md, .inr (8, [.int 1, .int np, .ref m2, .ref m3, .int sF, .int sT, .int nd, .ref m7, .ref m8, .ref m9, .ref m10, .ref m11, .ref m12, .ref m13, .ref m14, .ref m15, .long mco, .int nf, .ref m18, .ref m19, .ref m20, .ref m21, .long mU, .long mS, .long mW, .int mX, .int mY, .ref m27, .ref m28, .ref m29, .ref m30]))]) (wc := [(md, .inr (8, [.int th, .int np, .ref m2, .ref m3, .int sF, .int sT, .int nd, .ref m7, .ref m8, .ref m9, .ref m10, .ref m11, .ref m12, .ref m13, .ref m14, .ref m15, .long mco, .int nf, .ref m18, .ref m19, .ref m20, .ref m21, .long mU, .long mS, .long mW, .int mX, .int mY, .ref m27, .ref m28, .ref m29, .ref m30]))]) (wr := []) h hA [0] [] [0] rfl rfl (by decide) (by decide) (by decide) (fun _ => rfl) (va_runV (own := RX8) (As := [.int 1]) (rest := []) ⟨hx, hb, hml, hown, y_nil⟩ (m_X8_goesWellT l D ty base _ md th np m2 m3 sF sT nd m7 m8 m9 m10 m11 m12 m13 m14 m15 mco nf m18 m19 m20 m21 mU mS mW mX mY m27 m28 m29 m30 1   (by decide)) (y_cwV (C := RX8) 1 (kw_4_126 hG) (kw_1_7 hG) (kw_4_123 hG) (kw_4_125 hG) (kw_0_18 hG) yd_X8_goesWellT ⟨Nat.le_of_ble_eq_true rfl, Nat.le_of_ble_eq_true rfl⟩) (y_preV hG h hAb [0] rfl (by decide) 0 rfl rfl) rfl rfl hl.1 rfl (lv_room (Nat.le_of_ble_eq_true rfl)) dX8_sine_17 ⟨Nat.le_of_ble_eq_true rfl, Nat.le_of_ble_eq_true rfl⟩) (fun r_17 _ H locs hp_17 h => ?_)
    have hp_17 : r_17 = 0 := hp_17
    have h : yH D AZ sZ.heap [(md, .inr (8, [.int 1, .int np, .ref m2, .ref m3, .int sF, .int sT, .int nd, .ref m7, .ref m8, .ref m9, .ref m10, .ref m11, .ref m12, .ref m13, .ref m14, .ref m15, .long mco, .int nf, .ref m18, .ref m19, .ref m20, .ref m21, .long mU, .long mS, .long mW, .int mX, .int mY, .ref m27, .ref m28, .ref m29, .ref m30]))] [] _ _ := h
    rw [hp_17]
    refine lv_if_eq (tgt := 30) hx hb dX8_sine_20 (by decide) (fun c_20 => ?_) (fun c_20 => ?_)
    · skip
      refine lv_iconst (v := 0) hx hb dX8_sine_30 (by decide) ?_
      exact hret 0 1 _ _ _ _ _ _ _ _ ⟨kO_f (bI_f c_9), (by first | exact q10 | exact q20 | exact q30)⟩ h rfl (Nat.le_of_ble_eq_true rfl) (Nat.le_of_ble_eq_true rfl) dX8_sine_31
    · exact absurd (by decide) c_20
  · skip
    refine lv_iconst (v := 0) hx hb dX8_sine_12 (by decide) ?_
    refine lv_goto (tgt := 17) hx hb dX8_sine_13 (by decide) ?_
    refine y_calli (X' := fun _ : Unit => [(md, .inr (8, [.int 0, .int np, .ref m2, .ref m3, .int sF, .int sT, .int nd, .ref m7, .ref m8, .ref m9, .ref m10, .ref m11, .ref m12, .ref m13, .ref m14, .ref m15, .long mco, .int nf, .ref m18, .ref m19, .ref m20, .ref m21, .long mU, .long mS, .long mW, .int mX, .int mY, .ref m27, .ref m28, .ref m29, .ref m30]))]) (wc := [(md, .inr (8, [.int th, .int np, .ref m2, .ref m3, .int sF, .int sT, .int nd, .ref m7, .ref m8, .ref m9, .ref m10, .ref m11, .ref m12, .ref m13, .ref m14, .ref m15, .long mco, .int nf, .ref m18, .ref m19, .ref m20, .ref m21, .long mU, .long mS, .long mW, .int mX, .int mY, .ref m27, .ref m28, .ref m29, .ref m30]))]) (wr := []) h hA [0] [] [0] rfl rfl (by decide) (by decide) (by decide) (fun _ => rfl) (va_runV (own := RX8) (As := [.int 0]) (rest := []) ⟨hx, hb, hml, hown, y_nil⟩ (m_X8_goesWell l D ty base _ md th np m2 m3 sF sT nd m7 m8 m9 m10 m11 m12 m13 m14 m15 mco nf m18 m19 m20 m21 mU mS mW mX mY m27 m28 m29 m30   ) (y_cwV (C := RX8) 1 (kw_4_126 hG) (kw_1_7 hG) (kw_4_123 hG) (kw_4_125 hG) (kw_0_18 hG) yd_X8_goesWell ⟨Nat.le_of_ble_eq_true rfl, Nat.le_of_ble_eq_true rfl⟩) (y_preV hG h hAb [0] rfl (by decide) 0 rfl rfl) rfl rfl hl.1 rfl (lv_room (Nat.le_of_ble_eq_true rfl)) dX8_sine_17 ⟨Nat.le_of_ble_eq_true rfl, Nat.le_of_ble_eq_true rfl⟩) (fun r_17 _ H locs hp_17 h => ?_)
    have hp_17 : r_17 = 1 := hp_17
    have h : yH D AZ sZ.heap [(md, .inr (8, [.int 0, .int np, .ref m2, .ref m3, .int sF, .int sT, .int nd, .ref m7, .ref m8, .ref m9, .ref m10, .ref m11, .ref m12, .ref m13, .ref m14, .ref m15, .long mco, .int nf, .ref m18, .ref m19, .ref m20, .ref m21, .long mU, .long mS, .long mW, .int mX, .int mY, .ref m27, .ref m28, .ref m29, .ref m30]))] [] _ _ := h
    rw [hp_17]
    refine lv_if_eq (tgt := 30) hx hb dX8_sine_20 (by decide) (fun c_20 => ?_) (fun c_20 => ?_)
    · exact absurd c_20 (by decide)
    · skip
      refine lv_iload_n hx hb dX8_sine_23 rfl (lv_at hl 1 rfl) ?_
      refine y_calli (X' := fun _ : Unit => [(md, .inr (8, [.int 0, .int np, .ref m2, .ref m3, .int sF, .int sT, .int nd, .ref m7, .ref m8, .ref m9, .ref m10, .ref m11, .ref m12, .ref m13, .ref m14, .ref m15, .long mco, .int nf, .ref m18, .ref m19, .ref m20, .ref m21, .long mU, .long mS, .long mW, .int mX, .int mY, .ref m27, .ref m28, .ref m29, .ref m30]))]) (wc := []) (wr := [(md, .inr (8, [.int 0, .int np, .ref m2, .ref m3, .int sF, .int sT, .int nd, .ref m7, .ref m8, .ref m9, .ref m10, .ref m11, .ref m12, .ref m13, .ref m14, .ref m15, .long mco, .int nf, .ref m18, .ref m19, .ref m20, .ref m21, .long mU, .long mS, .long mW, .int mX, .int mY, .ref m27, .ref m28, .ref m29, .ref m30]))]) h hA [] [0] [0] rfl rfl (by decide) (by decide) (by decide) (fun _ => rfl) (va_runS (own := RX8) (As := [.int x]) (rest := []) ⟨hx, hb, hml, hown, y_nil⟩ (m_X8_sin l D ty base _ x   ) (y_cwS 1 (kw_4_129 hG) (kw_1_7 hG) (kw_4_127 hG) (kw_4_128 hG) yd_X8_sin ⟨Nat.le_of_ble_eq_true rfl, Nat.le_of_ble_eq_true rfl⟩) (y_preS hG h hAb [] rfl (by decide)) rfl rfl hl.1 rfl (lv_room (Nat.le_of_ble_eq_true rfl)) dX8_sine_24 ⟨Nat.le_of_ble_eq_true rfl, Nat.le_of_ble_eq_true rfl⟩) (fun r_24 _ H locs hp_24 h => ?_)
      have hp_24 : r_24 = gSin x := hp_24
      have h : yH D AZ sZ.heap [(md, .inr (8, [.int 0, .int np, .ref m2, .ref m3, .int sF, .int sT, .int nd, .ref m7, .ref m8, .ref m9, .ref m10, .ref m11, .ref m12, .ref m13, .ref m14, .ref m15, .long mco, .int nf, .ref m18, .ref m19, .ref m20, .ref m21, .long mU, .long mS, .long mW, .int mX, .int mY, .ref m27, .ref m28, .ref m29, .ref m30]))] [] _ _ := h
      rw [hp_24]
      refine lv_goto (tgt := 31) hx hb dX8_sine_27 (by decide) ?_
      exact hret (gSin x) 0 _ _ _ _ _ _ _ _ ⟨kO_t (bI_t c_9), fun _ => rfl⟩ h rfl (Nat.le_of_ble_eq_true rfl) (Nat.le_of_ble_eq_true rfl) dX8_sine_31

abbrev rm_X8_day : Room := { frames := 3, cells := 0, slots := 0, locals := 62 }
theorem yd_X8_day : yX8_day.cls ≠ "java/lang/invoke/MethodHandle" ∧ yX8_day.cls ≠ "java/lang/invoke/VarHandle" ∧ (parseMethodDescriptor yX8_day.desc).map (fun d => d.parameters.length) = some 2 := by decide +kernel
set_option maxHeartbeats 4000000 in
set_option maxRecDepth 100000 in
theorem m_X8_day (l : Launch) (D : va_G) (ty : Nat → ClassId) (base sz : Nat) (md : Nat) (th : Int32) (np : Int32) (m2 : Nat) (m3 : Nat) (sF : Int32) (sT : Int32) (nd : Int32) (m7 : Nat) (m8 : Nat) (m9 : Nat) (m10 : Nat) (m11 : Nat) (m12 : Nat) (m13 : Nat) (m14 : Nat) (m15 : Nat) (mco : Int64) (nf : Int32) (m18 : Nat) (m19 : Nat) (m20 : Nat) (m21 : Nat) (mU : Int64) (mS : Int64) (mW : Int64) (mX : Int32) (mY : Int32) (m27 : Nat) (m28 : Nat) (m29 : Nat) (m30 : Nat) (d : Int32) (w : Int32)    : Met l yX8_day [.code yX8_day cX8_day 3 (some (.int))] rm_X8_day (yPc D ty base sz ([(md, .inr (8, [.int th, .int np, .ref m2, .ref m3, .int sF, .int sT, .int nd, .ref m7, .ref m8, .ref m9, .ref m10, .ref m11, .ref m12, .ref m13, .ref m14, .ref m15, .long mco, .int nf, .ref m18, .ref m19, .ref m20, .ref m21, .long mU, .long mS, .long mW, .int mX, .int mY, .ref m27, .ref m28, .ref m29, .ref m30]))]) [.ref md, .int d, .int w]) (va_Qi (fun (r : Int32) (u : Int32) => u = kO ((wI d 0 359 && wI w 0 1)) 1 0 ∧ (u = 0 → r = (if w = 0 then gSl d else gLate d))) (yB D (va_A ([(md, .inr (8, [.int th, .int np, .ref m2, .ref m3, .int sF, .int sT, .int nd, .ref m7, .ref m8, .ref m9, .ref m10, .ref m11, .ref m12, .ref m13, .ref m14, .ref m15, .long mco, .int nf, .ref m18, .ref m19, .ref m20, .ref m21, .long mU, .long mS, .long mW, .int mX, .int mY, .ref m27, .ref m28, .ref m29, .ref m30]))]) sz) (fun u : Int32 => [(md, .inr (8, [.int u, .int np, .ref m2, .ref m3, .int sF, .int sT, .int nd, .ref m7, .ref m8, .ref m9, .ref m10, .ref m11, .ref m12, .ref m13, .ref m14, .ref m15, .long mco, .int nf, .ref m18, .ref m19, .ref m20, .ref m21, .long mU, .long mS, .long mW, .int mX, .int mY, .ref m27, .ref m28, .ref m29, .ref m30]))])) (va_A ([(md, .inr (8, [.int th, .int np, .ref m2, .ref m3, .int sF, .int sT, .int nd, .ref m7, .ref m8, .ref m9, .ref m10, .ref m11, .ref m12, .ref m13, .ref m14, .ref m15, .long mco, .int nf, .ref m18, .ref m19, .ref m20, .ref m21, .long mU, .long mS, .long mW, .int mX, .int mY, .ref m27, .ref m28, .ref m29, .ref m30]))]) sz)) rm_X8_day.cells rm_X8_day.slots (va_A ([(md, .inr (8, [.int th, .int np, .ref m2, .ref m3, .int sF, .int sT, .int nd, .ref m7, .ref m8, .ref m9, .ref m10, .ref m11, .ref m12, .ref m13, .ref m14, .ref m15, .long mco, .int nf, .ref m18, .ref m19, .ref m20, .ref m21, .long mU, .long mS, .long mW, .int mX, .int mY, .ref m27, .ref m28, .ref m29, .ref m30]))]) sz) := by
  refine y_start_i (cc := cX8_day) (maxL := 3) (own := RX8) (by decide +kernel) rfl (Nat.le_of_ble_eq_true rfl) (fun pZ eZ sZ mZ aZ bZ tZ cZ AZ ls QZ hx hb hml hown hnm hG hA hAb hsz h hl hret => ?_)
  have h : yH D AZ sZ.heap [(md, .inr (8, [.int th, .int np, .ref m2, .ref m3, .int sF, .int sT, .int nd, .ref m7, .ref m8, .ref m9, .ref m10, .ref m11, .ref m12, .ref m13, .ref m14, .ref m15, .long mco, .int nf, .ref m18, .ref m19, .ref m20, .ref m21, .long mU, .long mS, .long mW, .int mX, .int mY, .ref m27, .ref m28, .ref m29, .ref m30]))] [] sZ.heap [] := h
  have hl : lv_has ls 3 [(0, .ref md), (1, .int d), (2, .int w)] := hl
  refine lv_aload_n hx hb dX8_day_0 rfl (lv_at hl 0 rfl) ?_
  refine lv_iload_n hx hb dX8_day_1 rfl (lv_at hl 1 rfl) ?_
  refine y_calli (X' := fun _ : Unit => [(md, .inr (8, [.int th, .int np, .ref m2, .ref m3, .int sF, .int sT, .int nd, .ref m7, .ref m8, .ref m9, .ref m10, .ref m11, .ref m12, .ref m13, .ref m14, .ref m15, .long mco, .int nf, .ref m18, .ref m19, .ref m20, .ref m21, .long mU, .long mS, .long mW, .int mX, .int mY, .ref m27, .ref m28, .ref m29, .ref m30]))]) (wc := []) (wr := [(md, .inr (8, [.int th, .int np, .ref m2, .ref m3, .int sF, .int sT, .int nd, .ref m7, .ref m8, .ref m9, .ref m10, .ref m11, .ref m12, .ref m13, .ref m14, .ref m15, .long mco, .int nf, .ref m18, .ref m19, .ref m20, .ref m21, .long mU, .long mS, .long mW, .int mX, .int mY, .ref m27, .ref m28, .ref m29, .ref m30]))]) h hA [] [0] [0] rfl rfl (by decide) (by decide) (by decide) (fun _ => rfl) (va_runS (own := RX8) (As := [.int d]) (rest := [.ref md]) ⟨hx, hb, hml, hown, y_nil⟩ (m_X8_isDay l D ty base _ d   ) (y_cwS 1 (kw_4_143 hG) (kw_1_7 hG) (kw_4_141 hG) (kw_4_142 hG) yd_X8_isDay ⟨Nat.le_of_ble_eq_true rfl, Nat.le_of_ble_eq_true rfl⟩) (y_preS hG h hAb [] rfl (by decide)) rfl rfl hl.1 rfl (lv_room (Nat.le_of_ble_eq_true rfl)) dX8_day_2 ⟨Nat.le_of_ble_eq_true rfl, Nat.le_of_ble_eq_true rfl⟩) (fun r_2 _ H locs hp_2 h => ?_)
  have hp_2 : r_2 = bI (wI d 0 359) := hp_2
  have h : yH D AZ sZ.heap [(md, .inr (8, [.int th, .int np, .ref m2, .ref m3, .int sF, .int sT, .int nd, .ref m7, .ref m8, .ref m9, .ref m10, .ref m11, .ref m12, .ref m13, .ref m14, .ref m15, .long mco, .int nf, .ref m18, .ref m19, .ref m20, .ref m21, .long mU, .long mS, .long mW, .int mX, .int mY, .ref m27, .ref m28, .ref m29, .ref m30]))] [] _ _ := h
  rw [hp_2]
  refine lv_if_eq (tgt := 21) hx hb dX8_day_5 (by decide) (fun c_5 => ?_) (fun c_5 => ?_)
  · skip
    refine lv_iconst (v := 1) hx hb dX8_day_21 (by decide) ?_
    refine y_calli (X' := fun _ : Unit => [(md, .inr (8, [.int 1, .int np, .ref m2, .ref m3, .int sF, .int sT, .int nd, .ref m7, .ref m8, .ref m9, .ref m10, .ref m11, .ref m12, .ref m13, .ref m14, .ref m15, .long mco, .int nf, .ref m18, .ref m19, .ref m20, .ref m21, .long mU, .long mS, .long mW, .int mX, .int mY, .ref m27, .ref m28, .ref m29, .ref m30]))]) (wc := [(md, .inr (8, [.int th, .int np, .ref m2, .ref m3, .int sF, .int sT, .int nd, .ref m7, .ref m8, .ref m9, .ref m10, .ref m11, .ref m12, .ref m13, .ref m14, .ref m15, .long mco, .int nf, .ref m18, .ref m19, .ref m20, .ref m21, .long mU, .long mS, .long mW, .int mX, .int mY, .ref m27, .ref m28, .ref m29, .ref m30]))]) (wr := []) h hA [0] [] [0] rfl rfl (by decide) (by decide) (by decide) (fun _ => rfl) (va_runV (own := RX8) (As := [.int 1]) (rest := []) ⟨hx, hb, hml, hown, y_nil⟩ (m_X8_goesWellT l D ty base _ md th np m2 m3 sF sT nd m7 m8 m9 m10 m11 m12 m13 m14 m15 mco nf m18 m19 m20 m21 mU mS mW mX mY m27 m28 m29 m30 1   (by decide)) (y_cwV (C := RX8) 1 (kw_4_126 hG) (kw_1_7 hG) (kw_4_123 hG) (kw_4_125 hG) (kw_0_18 hG) yd_X8_goesWellT ⟨Nat.le_of_ble_eq_true rfl, Nat.le_of_ble_eq_true rfl⟩) (y_preV hG h hAb [0] rfl (by decide) 0 rfl rfl) rfl rfl hl.1 rfl (lv_room (Nat.le_of_ble_eq_true rfl)) dX8_day_22 ⟨Nat.le_of_ble_eq_true rfl, Nat.le_of_ble_eq_true rfl⟩) (fun r_22 _ H locs hp_22 h => ?_)
    have hp_22 : r_22 = 0 := hp_22
    have h : yH D AZ sZ.heap [(md, .inr (8, [.int 1, .int np, .ref m2, .ref m3, .int sF, .int sT, .int nd, .ref m7, .ref m8, .ref m9, .ref m10, .ref m11, .ref m12, .ref m13, .ref m14, .ref m15, .long mco, .int nf, .ref m18, .ref m19, .ref m20, .ref m21, .long mU, .long mS, .long mW, .int mX, .int mY, .ref m27, .ref m28, .ref m29, .ref m30]))] [] _ _ := h
    rw [hp_22]
    refine lv_if_ne (tgt := 30) hx hb dX8_day_25 (by decide) (fun c_25 => ?_) (fun c_25 => ?_)
    · exact absurd (by decide) c_25
    · skip
      refine lv_iconst (v := 0) hx hb dX8_day_28 (by decide) ?_
      exact hret 0 1 _ _ _ _ _ _ _ _ ⟨kO_f (and_f1 (bI_f c_5)), (by first | exact q10 | exact q20 | exact q30)⟩ h rfl (Nat.le_of_ble_eq_true rfl) (Nat.le_of_ble_eq_true rfl) dX8_day_29
  · skip
    refine lv_iload_n hx hb dX8_day_8 rfl (lv_at hl 2 rfl) ?_
    refine lv_iconst (v := 0) hx hb dX8_day_9 (by decide) ?_
    refine lv_iconst (v := 1) hx hb dX8_day_10 (by decide) ?_
    refine y_calli (X' := fun _ : Unit => [(md, .inr (8, [.int th, .int np, .ref m2, .ref m3, .int sF, .int sT, .int nd, .ref m7, .ref m8, .ref m9, .ref m10, .ref m11, .ref m12, .ref m13, .ref m14, .ref m15, .long mco, .int nf, .ref m18, .ref m19, .ref m20, .ref m21, .long mU, .long mS, .long mW, .int mX, .int mY, .ref m27, .ref m28, .ref m29, .ref m30]))]) (wc := []) (wr := [(md, .inr (8, [.int th, .int np, .ref m2, .ref m3, .int sF, .int sT, .int nd, .ref m7, .ref m8, .ref m9, .ref m10, .ref m11, .ref m12, .ref m13, .ref m14, .ref m15, .long mco, .int nf, .ref m18, .ref m19, .ref m20, .ref m21, .long mU, .long mS, .long mW, .int mX, .int mY, .ref m27, .ref m28, .ref m29, .ref m30]))]) h hA [] [0] [0] rfl rfl (by decide) (by decide) (by decide) (fun _ => rfl) (va_runS (own := RX8) (As := [.int w, .int 0, .int 1]) (rest := [.ref md]) ⟨hx, hb, hml, hown, y_nil⟩ (m_X8_in l D ty base _ w 0 1   ) (y_cwS 3 (kw_4_122 hG) (kw_1_7 hG) (kw_4_120 hG) (kw_4_121 hG) yd_X8_in ⟨Nat.le_of_ble_eq_true rfl, Nat.le_of_ble_eq_true rfl⟩) (y_preS hG h hAb [] rfl (by decide)) rfl rfl hl.1 rfl (lv_room (Nat.le_of_ble_eq_true rfl)) dX8_day_11 ⟨Nat.le_of_ble_eq_true rfl, Nat.le_of_ble_eq_true rfl⟩) (fun r_11 _ H locs hp_11 h => ?_)
    have hp_11 : r_11 = bI (wI w 0 1) := hp_11
    have h : yH D AZ sZ.heap [(md, .inr (8, [.int th, .int np, .ref m2, .ref m3, .int sF, .int sT, .int nd, .ref m7, .ref m8, .ref m9, .ref m10, .ref m11, .ref m12, .ref m13, .ref m14, .ref m15, .long mco, .int nf, .ref m18, .ref m19, .ref m20, .ref m21, .long mU, .long mS, .long mW, .int mX, .int mY, .ref m27, .ref m28, .ref m29, .ref m30]))] [] _ _ := h
    rw [hp_11]
    refine lv_if_eq (tgt := 21) hx hb dX8_day_14 (by decide) (fun c_14 => ?_) (fun c_14 => ?_)
    · skip
      refine lv_iconst (v := 1) hx hb dX8_day_21 (by decide) ?_
      refine y_calli (X' := fun _ : Unit => [(md, .inr (8, [.int 1, .int np, .ref m2, .ref m3, .int sF, .int sT, .int nd, .ref m7, .ref m8, .ref m9, .ref m10, .ref m11, .ref m12, .ref m13, .ref m14, .ref m15, .long mco, .int nf, .ref m18, .ref m19, .ref m20, .ref m21, .long mU, .long mS, .long mW, .int mX, .int mY, .ref m27, .ref m28, .ref m29, .ref m30]))]) (wc := [(md, .inr (8, [.int th, .int np, .ref m2, .ref m3, .int sF, .int sT, .int nd, .ref m7, .ref m8, .ref m9, .ref m10, .ref m11, .ref m12, .ref m13, .ref m14, .ref m15, .long mco, .int nf, .ref m18, .ref m19, .ref m20, .ref m21, .long mU, .long mS, .long mW, .int mX, .int mY, .ref m27, .ref m28, .ref m29, .ref m30]))]) (wr := []) h hA [0] [] [0] rfl rfl (by decide) (by decide) (by decide) (fun _ => rfl) (va_runV (own := RX8) (As := [.int 1]) (rest := []) ⟨hx, hb, hml, hown, y_nil⟩ (m_X8_goesWellT l D ty base _ md th np m2 m3 sF sT nd m7 m8 m9 m10 m11 m12 m13 m14 m15 mco nf m18 m19 m20 m21 mU mS mW mX mY m27 m28 m29 m30 1   (by decide)) (y_cwV (C := RX8) 1 (kw_4_126 hG) (kw_1_7 hG) (kw_4_123 hG) (kw_4_125 hG) (kw_0_18 hG) yd_X8_goesWellT ⟨Nat.le_of_ble_eq_true rfl, Nat.le_of_ble_eq_true rfl⟩) (y_preV hG h hAb [0] rfl (by decide) 0 rfl rfl) rfl rfl hl.1 rfl (lv_room (Nat.le_of_ble_eq_true rfl)) dX8_day_22 ⟨Nat.le_of_ble_eq_true rfl, Nat.le_of_ble_eq_true rfl⟩) (fun r_22 _ H locs hp_22 h => ?_)
      have hp_22 : r_22 = 0 := hp_22
      have h : yH D AZ sZ.heap [(md, .inr (8, [.int 1, .int np, .ref m2, .ref m3, .int sF, .int sT, .int nd, .ref m7, .ref m8, .ref m9, .ref m10, .ref m11, .ref m12, .ref m13, .ref m14, .ref m15, .long mco, .int nf, .ref m18, .ref m19, .ref m20, .ref m21, .long mU, .long mS, .long mW, .int mX, .int mY, .ref m27, .ref m28, .ref m29, .ref m30]))] [] _ _ := h
      rw [hp_22]
      refine lv_if_ne (tgt := 30) hx hb dX8_day_25 (by decide) (fun c_25 => ?_) (fun c_25 => ?_)
      · exact absurd (by decide) c_25
      · skip
        refine lv_iconst (v := 0) hx hb dX8_day_28 (by decide) ?_
        exact hret 0 1 _ _ _ _ _ _ _ _ ⟨kO_f (and_f2 (bI_f c_14)), (by first | exact q10 | exact q20 | exact q30)⟩ h rfl (Nat.le_of_ble_eq_true rfl) (Nat.le_of_ble_eq_true rfl) dX8_day_29
    · skip
      refine lv_iconst (v := 0) hx hb dX8_day_17 (by decide) ?_
      refine lv_goto (tgt := 22) hx hb dX8_day_18 (by decide) ?_
      refine y_calli (X' := fun _ : Unit => [(md, .inr (8, [.int 0, .int np, .ref m2, .ref m3, .int sF, .int sT, .int nd, .ref m7, .ref m8, .ref m9, .ref m10, .ref m11, .ref m12, .ref m13, .ref m14, .ref m15, .long mco, .int nf, .ref m18, .ref m19, .ref m20, .ref m21, .long mU, .long mS, .long mW, .int mX, .int mY, .ref m27, .ref m28, .ref m29, .ref m30]))]) (wc := [(md, .inr (8, [.int th, .int np, .ref m2, .ref m3, .int sF, .int sT, .int nd, .ref m7, .ref m8, .ref m9, .ref m10, .ref m11, .ref m12, .ref m13, .ref m14, .ref m15, .long mco, .int nf, .ref m18, .ref m19, .ref m20, .ref m21, .long mU, .long mS, .long mW, .int mX, .int mY, .ref m27, .ref m28, .ref m29, .ref m30]))]) (wr := []) h hA [0] [] [0] rfl rfl (by decide) (by decide) (by decide) (fun _ => rfl) (va_runV (own := RX8) (As := [.int 0]) (rest := []) ⟨hx, hb, hml, hown, y_nil⟩ (m_X8_goesWell l D ty base _ md th np m2 m3 sF sT nd m7 m8 m9 m10 m11 m12 m13 m14 m15 mco nf m18 m19 m20 m21 mU mS mW mX mY m27 m28 m29 m30   ) (y_cwV (C := RX8) 1 (kw_4_126 hG) (kw_1_7 hG) (kw_4_123 hG) (kw_4_125 hG) (kw_0_18 hG) yd_X8_goesWell ⟨Nat.le_of_ble_eq_true rfl, Nat.le_of_ble_eq_true rfl⟩) (y_preV hG h hAb [0] rfl (by decide) 0 rfl rfl) rfl rfl hl.1 rfl (lv_room (Nat.le_of_ble_eq_true rfl)) dX8_day_22 ⟨Nat.le_of_ble_eq_true rfl, Nat.le_of_ble_eq_true rfl⟩) (fun r_22 _ H locs hp_22 h => ?_)
      have hp_22 : r_22 = 1 := hp_22
      have h : yH D AZ sZ.heap [(md, .inr (8, [.int 0, .int np, .ref m2, .ref m3, .int sF, .int sT, .int nd, .ref m7, .ref m8, .ref m9, .ref m10, .ref m11, .ref m12, .ref m13, .ref m14, .ref m15, .long mco, .int nf, .ref m18, .ref m19, .ref m20, .ref m21, .long mU, .long mS, .long mW, .int mX, .int mY, .ref m27, .ref m28, .ref m29, .ref m30]))] [] _ _ := h
      rw [hp_22]
      refine lv_if_ne (tgt := 30) hx hb dX8_day_25 (by decide) (fun c_25 => ?_) (fun c_25 => ?_)
      · skip
        refine lv_iload_n hx hb dX8_day_30 rfl (lv_at hl 2 rfl) ?_
        refine lv_if_ne (tgt := 41) hx hb dX8_day_31 (by decide) (fun c_31 => ?_) (fun c_31 => ?_)
        · skip
          refine lv_iload_n hx hb dX8_day_41 rfl (lv_at hl 1 rfl) ?_
          refine y_calli (X' := fun _ : Unit => [(md, .inr (8, [.int 0, .int np, .ref m2, .ref m3, .int sF, .int sT, .int nd, .ref m7, .ref m8, .ref m9, .ref m10, .ref m11, .ref m12, .ref m13, .ref m14, .ref m15, .long mco, .int nf, .ref m18, .ref m19, .ref m20, .ref m21, .long mU, .long mS, .long mW, .int mX, .int mY, .ref m27, .ref m28, .ref m29, .ref m30]))]) (wc := []) (wr := [(md, .inr (8, [.int 0, .int np, .ref m2, .ref m3, .int sF, .int sT, .int nd, .ref m7, .ref m8, .ref m9, .ref m10, .ref m11, .ref m12, .ref m13, .ref m14, .ref m15, .long mco, .int nf, .ref m18, .ref m19, .ref m20, .ref m21, .long mU, .long mS, .long mW, .int mX, .int mY, .ref m27, .ref m28, .ref m29, .ref m30]))]) h hA [] [0] [0] rfl rfl (by decide) (by decide) (by decide) (fun _ => rfl) (va_runS (own := RX8) (As := [.int d]) (rest := []) ⟨hx, hb, hml, hown, y_nil⟩ (m_X8_late l D ty base _ d   ) (y_cwS 1 (kw_4_149 hG) (kw_1_7 hG) (kw_4_147 hG) (kw_4_148 hG) yd_X8_late ⟨Nat.le_of_ble_eq_true rfl, Nat.le_of_ble_eq_true rfl⟩) (y_preS hG h hAb [] rfl (by decide)) rfl rfl hl.1 rfl (lv_room (Nat.le_of_ble_eq_true rfl)) dX8_day_42 ⟨Nat.le_of_ble_eq_true rfl, Nat.le_of_ble_eq_true rfl⟩) (fun r_42 _ H locs hp_42 h => ?_)
          have hp_42 : r_42 = gLate d := hp_42
          have h : yH D AZ sZ.heap [(md, .inr (8, [.int 0, .int np, .ref m2, .ref m3, .int sF, .int sT, .int nd, .ref m7, .ref m8, .ref m9, .ref m10, .ref m11, .ref m12, .ref m13, .ref m14, .ref m15, .long mco, .int nf, .ref m18, .ref m19, .ref m20, .ref m21, .long mU, .long mS, .long mW, .int mX, .int mY, .ref m27, .ref m28, .ref m29, .ref m30]))] [] _ _ := h
          rw [hp_42]
          exact hret (gLate d) 0 _ _ _ _ _ _ _ _ ⟨kO_t (and_t (bI_t c_5) (bI_t c_14)), fun _ => (if_neg c_31).symm⟩ h rfl (Nat.le_of_ble_eq_true rfl) (Nat.le_of_ble_eq_true rfl) dX8_day_45
        · skip
          refine lv_iload_n hx hb dX8_day_34 rfl (lv_at hl 1 rfl) ?_
          refine y_calli (X' := fun _ : Unit => [(md, .inr (8, [.int 0, .int np, .ref m2, .ref m3, .int sF, .int sT, .int nd, .ref m7, .ref m8, .ref m9, .ref m10, .ref m11, .ref m12, .ref m13, .ref m14, .ref m15, .long mco, .int nf, .ref m18, .ref m19, .ref m20, .ref m21, .long mU, .long mS, .long mW, .int mX, .int mY, .ref m27, .ref m28, .ref m29, .ref m30]))]) (wc := []) (wr := [(md, .inr (8, [.int 0, .int np, .ref m2, .ref m3, .int sF, .int sT, .int nd, .ref m7, .ref m8, .ref m9, .ref m10, .ref m11, .ref m12, .ref m13, .ref m14, .ref m15, .long mco, .int nf, .ref m18, .ref m19, .ref m20, .ref m21, .long mU, .long mS, .long mW, .int mX, .int mY, .ref m27, .ref m28, .ref m29, .ref m30]))]) h hA [] [0] [0] rfl rfl (by decide) (by decide) (by decide) (fun _ => rfl) (va_runS (own := RX8) (As := [.int d]) (rest := []) ⟨hx, hb, hml, hown, y_nil⟩ (m_X8_slant l D ty base _ d   ) (y_cwS 1 (kw_4_146 hG) (kw_1_7 hG) (kw_4_144 hG) (kw_4_145 hG) yd_X8_slant ⟨Nat.le_of_ble_eq_true rfl, Nat.le_of_ble_eq_true rfl⟩) (y_preS hG h hAb [] rfl (by decide)) rfl rfl hl.1 rfl (lv_room (Nat.le_of_ble_eq_true rfl)) dX8_day_35 ⟨Nat.le_of_ble_eq_true rfl, Nat.le_of_ble_eq_true rfl⟩) (fun r_35 _ H locs hp_35 h => ?_)
          have hp_35 : r_35 = gSl d := hp_35
          have h : yH D AZ sZ.heap [(md, .inr (8, [.int 0, .int np, .ref m2, .ref m3, .int sF, .int sT, .int nd, .ref m7, .ref m8, .ref m9, .ref m10, .ref m11, .ref m12, .ref m13, .ref m14, .ref m15, .long mco, .int nf, .ref m18, .ref m19, .ref m20, .ref m21, .long mU, .long mS, .long mW, .int mX, .int mY, .ref m27, .ref m28, .ref m29, .ref m30]))] [] _ _ := h
          rw [hp_35]
          refine lv_goto (tgt := 45) hx hb dX8_day_38 (by decide) ?_
          exact hret (gSl d) 0 _ _ _ _ _ _ _ _ ⟨kO_t (and_t (bI_t c_5) (bI_t c_14)), fun _ => (if_pos c_31).symm⟩ h rfl (Nat.le_of_ble_eq_true rfl) (Nat.le_of_ble_eq_true rfl) dX8_day_45
      · exact absurd c_25 (by decide)

abbrev rm_X8_shines : Room := { frames := 3, cells := 0, slots := 0, locals := 62 }
theorem yd_X8_shines : yX8_shines.cls ≠ "java/lang/invoke/MethodHandle" ∧ yX8_shines.cls ≠ "java/lang/invoke/VarHandle" ∧ (parseMethodDescriptor yX8_shines.desc).map (fun d => d.parameters.length) = some 3 := by decide +kernel
set_option maxHeartbeats 4000000 in
set_option maxRecDepth 100000 in
theorem m_X8_shines (l : Launch) (D : va_G) (ty : Nat → ClassId) (base sz : Nat) (md : Nat) (th : Int32) (np : Int32) (m2 : Nat) (m3 : Nat) (sF : Int32) (sT : Int32) (nd : Int32) (m7 : Nat) (m8 : Nat) (m9 : Nat) (m10 : Nat) (m11 : Nat) (m12 : Nat) (m13 : Nat) (m14 : Nat) (m15 : Nat) (mco : Int64) (nf : Int32) (m18 : Nat) (m19 : Nat) (m20 : Nat) (m21 : Nat) (mU : Int64) (mS : Int64) (mW : Int64) (mX : Int32) (mY : Int32) (m27 : Nat) (m28 : Nat) (m29 : Nat) (m30 : Nat) (p : Int32) (d : Int32) (t : Int32)    : Met l yX8_shines [.code yX8_shines cX8_shines 8 (some (.boolean))] rm_X8_shines (yPc D ty base sz ([(md, .inr (8, [.int th, .int np, .ref m2, .ref m3, .int sF, .int sT, .int nd, .ref m7, .ref m8, .ref m9, .ref m10, .ref m11, .ref m12, .ref m13, .ref m14, .ref m15, .long mco, .int nf, .ref m18, .ref m19, .ref m20, .ref m21, .long mU, .long mS, .long mW, .int mX, .int mY, .ref m27, .ref m28, .ref m29, .ref m30]))]) [.ref md, .int p, .int d, .int t]) (va_Qi (fun (r : Int32) (_ : Unit) => r = bI (gLit p d t)) (yB D (va_A ([(md, .inr (8, [.int th, .int np, .ref m2, .ref m3, .int sF, .int sT, .int nd, .ref m7, .ref m8, .ref m9, .ref m10, .ref m11, .ref m12, .ref m13, .ref m14, .ref m15, .long mco, .int nf, .ref m18, .ref m19, .ref m20, .ref m21, .long mU, .long mS, .long mW, .int mX, .int mY, .ref m27, .ref m28, .ref m29, .ref m30]))]) sz) (fun _ : Unit => [(md, .inr (8, [.int th, .int np, .ref m2, .ref m3, .int sF, .int sT, .int nd, .ref m7, .ref m8, .ref m9, .ref m10, .ref m11, .ref m12, .ref m13, .ref m14, .ref m15, .long mco, .int nf, .ref m18, .ref m19, .ref m20, .ref m21, .long (gUp p d t), .long (gSo p d t), .long (gWe d t), .int mX, .int mY, .ref m27, .ref m28, .ref m29, .ref m30]))])) (va_A ([(md, .inr (8, [.int th, .int np, .ref m2, .ref m3, .int sF, .int sT, .int nd, .ref m7, .ref m8, .ref m9, .ref m10, .ref m11, .ref m12, .ref m13, .ref m14, .ref m15, .long mco, .int nf, .ref m18, .ref m19, .ref m20, .ref m21, .long mU, .long mS, .long mW, .int mX, .int mY, .ref m27, .ref m28, .ref m29, .ref m30]))]) sz)) rm_X8_shines.cells rm_X8_shines.slots (va_A ([(md, .inr (8, [.int th, .int np, .ref m2, .ref m3, .int sF, .int sT, .int nd, .ref m7, .ref m8, .ref m9, .ref m10, .ref m11, .ref m12, .ref m13, .ref m14, .ref m15, .long mco, .int nf, .ref m18, .ref m19, .ref m20, .ref m21, .long mU, .long mS, .long mW, .int mX, .int mY, .ref m27, .ref m28, .ref m29, .ref m30]))]) sz) := by
  refine y_start_z (cc := cX8_shines) (maxL := 8) (own := RX8) (by decide +kernel) rfl (Nat.le_of_ble_eq_true rfl) (fun pZ eZ sZ mZ aZ bZ tZ cZ AZ ls QZ hx hb hml hown hnm hG hA hAb hsz h hl hret => ?_)
  have h : yH D AZ sZ.heap [(md, .inr (8, [.int th, .int np, .ref m2, .ref m3, .int sF, .int sT, .int nd, .ref m7, .ref m8, .ref m9, .ref m10, .ref m11, .ref m12, .ref m13, .ref m14, .ref m15, .long mco, .int nf, .ref m18, .ref m19, .ref m20, .ref m21, .long mU, .long mS, .long mW, .int mX, .int mY, .ref m27, .ref m28, .ref m29, .ref m30]))] [] sZ.heap [] := h
  have hl : lv_has ls 8 [(0, .ref md), (1, .int p), (2, .int d), (3, .int t)] := hl
  refine lv_iload_n hx hb dX8_shines_0 rfl (lv_at hl 2 rfl) ?_
  refine y_calli (X' := fun _ : Unit => [(md, .inr (8, [.int th, .int np, .ref m2, .ref m3, .int sF, .int sT, .int nd, .ref m7, .ref m8, .ref m9, .ref m10, .ref m11, .ref m12, .ref m13, .ref m14, .ref m15, .long mco, .int nf, .ref m18, .ref m19, .ref m20, .ref m21, .long mU, .long mS, .long mW, .int mX, .int mY, .ref m27, .ref m28, .ref m29, .ref m30]))]) (wc := []) (wr := [(md, .inr (8, [.int th, .int np, .ref m2, .ref m3, .int sF, .int sT, .int nd, .ref m7, .ref m8, .ref m9, .ref m10, .ref m11, .ref m12, .ref m13, .ref m14, .ref m15, .long mco, .int nf, .ref m18, .ref m19, .ref m20, .ref m21, .long mU, .long mS, .long mW, .int mX, .int mY, .ref m27, .ref m28, .ref m29, .ref m30]))]) h hA [] [0] [0] rfl rfl (by decide) (by decide) (by decide) (fun _ => rfl) (va_runS (own := RX8) (As := [.int d]) (rest := []) ⟨hx, hb, hml, hown, y_nil⟩ (m_X8_slant l D ty base _ d   ) (y_cwS 1 (kw_4_146 hG) (kw_1_7 hG) (kw_4_144 hG) (kw_4_145 hG) yd_X8_slant ⟨Nat.le_of_ble_eq_true rfl, Nat.le_of_ble_eq_true rfl⟩) (y_preS hG h hAb [] rfl (by decide)) rfl rfl hl.1 rfl (lv_room (Nat.le_of_ble_eq_true rfl)) dX8_shines_1 ⟨Nat.le_of_ble_eq_true rfl, Nat.le_of_ble_eq_true rfl⟩) (fun r_1 _ H locs hp_1 h => ?_)
  have hp_1 : r_1 = gSl d := hp_1
  have h : yH D AZ sZ.heap [(md, .inr (8, [.int th, .int np, .ref m2, .ref m3, .int sF, .int sT, .int nd, .ref m7, .ref m8, .ref m9, .ref m10, .ref m11, .ref m12, .ref m13, .ref m14, .ref m15, .long mco, .int nf, .ref m18, .ref m19, .ref m20, .ref m21, .long mU, .long mS, .long mW, .int mX, .int mY, .ref m27, .ref m28, .ref m29, .ref m30]))] [] _ _ := h
  rw [hp_1]
  refine lv_istore (lv' := [(4, .int (gSl d)), (0, .ref md), (1, .int p), (2, .int d), (3, .int t)]) hx hb dX8_shines_4 hl (by decide) rfl (fun ls hl => ?_)
  refine lv_iload_n hx hb dX8_shines_6 rfl (lv_at hl 4 rfl) ?_
  refine lv_sipush (v := 180) hx hb dX8_shines_7 (by decide) ?_
  refine lv_isub hx hb dX8_shines_10 ?_
  refine lv_istore (lv' := [(5, .int (t - 180)), (4, .int (gSl d)), (0, .ref md), (1, .int p), (2, .int d), (3, .int t)]) hx hb dX8_shines_11 hl (by decide) rfl (fun ls hl => ?_)
  refine lv_iload hx hb dX8_shines_13 (lv_at hl 1 rfl) ?_
  refine y_calli (X' := fun _ : Unit => [(md, .inr (8, [.int th, .int np, .ref m2, .ref m3, .int sF, .int sT, .int nd, .ref m7, .ref m8, .ref m9, .ref m10, .ref m11, .ref m12, .ref m13, .ref m14, .ref m15, .long mco, .int nf, .ref m18, .ref m19, .ref m20, .ref m21, .long mU, .long mS, .long mW, .int mX, .int mY, .ref m27, .ref m28, .ref m29, .ref m30]))]) (wc := []) (wr := [(md, .inr (8, [.int th, .int np, .ref m2, .ref m3, .int sF, .int sT, .int nd, .ref m7, .ref m8, .ref m9, .ref m10, .ref m11, .ref m12, .ref m13, .ref m14, .ref m15, .long mco, .int nf, .ref m18, .ref m19, .ref m20, .ref m21, .long mU, .long mS, .long mW, .int mX, .int mY, .ref m27, .ref m28, .ref m29, .ref m30]))]) h hA [] [0] [0] rfl rfl (by decide) (by decide) (by decide) (fun _ => rfl) (va_runS (own := RX8) (As := [.int (gSl d)]) (rest := []) ⟨hx, hb, hml, hown, y_nil⟩ (m_X8_cos l D ty base _ (gSl d)   ) (y_cwS 1 (kw_4_169 hG) (kw_1_7 hG) (kw_4_167 hG) (kw_4_168 hG) yd_X8_cos ⟨Nat.le_of_ble_eq_true rfl, Nat.le_of_ble_eq_true rfl⟩) (y_preS hG h hAb [] rfl (by decide)) rfl rfl hl.1 rfl (lv_room (Nat.le_of_ble_eq_true rfl)) dX8_shines_15 ⟨Nat.le_of_ble_eq_true rfl, Nat.le_of_ble_eq_true rfl⟩) (fun r_15 _ H locs hp_15 h => ?_)
  have hp_15 : r_15 = gCos (gSl d) := hp_15
  have h : yH D AZ sZ.heap [(md, .inr (8, [.int th, .int np, .ref m2, .ref m3, .int sF, .int sT, .int nd, .ref m7, .ref m8, .ref m9, .ref m10, .ref m11, .ref m12, .ref m13, .ref m14, .ref m15, .long mco, .int nf, .ref m18, .ref m19, .ref m20, .ref m21, .long mU, .long mS, .long mW, .int mX, .int mY, .ref m27, .ref m28, .ref m29, .ref m30]))] [] _ _ := h
  rw [hp_15]
  refine lv_i2l hx hb dX8_shines_18 rfl ?_
  refine lv_iload hx hb dX8_shines_19 (lv_at hl 0 rfl) ?_
  refine y_calli (X' := fun _ : Unit => [(md, .inr (8, [.int th, .int np, .ref m2, .ref m3, .int sF, .int sT, .int nd, .ref m7, .ref m8, .ref m9, .ref m10, .ref m11, .ref m12, .ref m13, .ref m14, .ref m15, .long mco, .int nf, .ref m18, .ref m19, .ref m20, .ref m21, .long mU, .long mS, .long mW, .int mX, .int mY, .ref m27, .ref m28, .ref m29, .ref m30]))]) (wc := []) (wr := [(md, .inr (8, [.int th, .int np, .ref m2, .ref m3, .int sF, .int sT, .int nd, .ref m7, .ref m8, .ref m9, .ref m10, .ref m11, .ref m12, .ref m13, .ref m14, .ref m15, .long mco, .int nf, .ref m18, .ref m19, .ref m20, .ref m21, .long mU, .long mS, .long mW, .int mX, .int mY, .ref m27, .ref m28, .ref m29, .ref m30]))]) h hA [] [0] [0] rfl rfl (by decide) (by decide) (by decide) (fun _ => rfl) (va_runS (own := RX8) (As := [.int (t - 180)]) (rest := [.long (gCos (gSl d)).toInt64]) ⟨hx, hb, hml, hown, y_nil⟩ (m_X8_cos l D ty base _ (t - 180)   ) (y_cwS 1 (kw_4_169 hG) (kw_1_7 hG) (kw_4_167 hG) (kw_4_168 hG) yd_X8_cos ⟨Nat.le_of_ble_eq_true rfl, Nat.le_of_ble_eq_true rfl⟩) (y_preS hG h hAb [] rfl (by decide)) rfl rfl hl.1 rfl (lv_room (Nat.le_of_ble_eq_true rfl)) dX8_shines_21 ⟨Nat.le_of_ble_eq_true rfl, Nat.le_of_ble_eq_true rfl⟩) (fun r_21 _ H locs hp_21 h => ?_)
  have hp_21 : r_21 = gCos (t - 180) := hp_21
  have h : yH D AZ sZ.heap [(md, .inr (8, [.int th, .int np, .ref m2, .ref m3, .int sF, .int sT, .int nd, .ref m7, .ref m8, .ref m9, .ref m10, .ref m11, .ref m12, .ref m13, .ref m14, .ref m15, .long mco, .int nf, .ref m18, .ref m19, .ref m20, .ref m21, .long mU, .long mS, .long mW, .int mX, .int mY, .ref m27, .ref m28, .ref m29, .ref m30]))] [] _ _ := h
  rw [hp_21]
  refine lv_i2l hx hb dX8_shines_24 rfl ?_
  refine lv_lmul hx hb dX8_shines_25 ?_
  refine lv_lstore (lv' := [(6, .long (((gCos (gSl d)).toInt64) * ((gCos (t - 180)).toInt64))), (5, .int (t - 180)), (4, .int (gSl d)), (0, .ref md), (1, .int p), (2, .int d), (3, .int t)]) hx hb dX8_shines_26 hl (by decide) rfl (fun ls hl => ?_)
  refine lv_aload_n hx hb dX8_shines_28 rfl (lv_at hl 3 rfl) ?_
  refine lv_ldc2 (own := RX8) (v := 1000) hx hb hown (kw_4_152 hG).b dX8_shines_29 ?_
  refine lv_iload_n hx hb dX8_shines_32 rfl (lv_at hl 4 rfl) ?_
  refine y_calli (X' := fun _ : Unit => [(md, .inr (8, [.int th, .int np, .ref m2, .ref m3, .int sF, .int sT, .int nd, .ref m7, .ref m8, .ref m9, .ref m10, .ref m11, .ref m12, .ref m13, .ref m14, .ref m15, .long mco, .int nf, .ref m18, .ref m19, .ref m20, .ref m21, .long mU, .long mS, .long mW, .int mX, .int mY, .ref m27, .ref m28, .ref m29, .ref m30]))]) (wc := []) (wr := [(md, .inr (8, [.int th, .int np, .ref m2, .ref m3, .int sF, .int sT, .int nd, .ref m7, .ref m8, .ref m9, .ref m10, .ref m11, .ref m12, .ref m13, .ref m14, .ref m15, .long mco, .int nf, .ref m18, .ref m19, .ref m20, .ref m21, .long mU, .long mS, .long mW, .int mX, .int mY, .ref m27, .ref m28, .ref m29, .ref m30]))]) h hA [] [0] [0] rfl rfl (by decide) (by decide) (by decide) (fun _ => rfl) (va_runS (own := RX8) (As := [.int p]) (rest := [.long 1000, .ref md]) ⟨hx, hb, hml, hown, y_nil⟩ (m_X8_sin l D ty base _ p   ) (y_cwS 1 (kw_4_129 hG) (kw_1_7 hG) (kw_4_127 hG) (kw_4_128 hG) yd_X8_sin ⟨Nat.le_of_ble_eq_true rfl, Nat.le_of_ble_eq_true rfl⟩) (y_preS hG h hAb [] rfl (by decide)) rfl rfl hl.1 rfl (lv_room (Nat.le_of_ble_eq_true rfl)) dX8_shines_33 ⟨Nat.le_of_ble_eq_true rfl, Nat.le_of_ble_eq_true rfl⟩) (fun r_33 _ H locs hp_33 h => ?_)
  have hp_33 : r_33 = gSin p := hp_33
  have h : yH D AZ sZ.heap [(md, .inr (8, [.int th, .int np, .ref m2, .ref m3, .int sF, .int sT, .int nd, .ref m7, .ref m8, .ref m9, .ref m10, .ref m11, .ref m12, .ref m13, .ref m14, .ref m15, .long mco, .int nf, .ref m18, .ref m19, .ref m20, .ref m21, .long mU, .long mS, .long mW, .int mX, .int mY, .ref m27, .ref m28, .ref m29, .ref m30]))] [] _ _ := h
  rw [hp_33]
  refine lv_i2l hx hb dX8_shines_36 rfl ?_
  refine lv_lmul hx hb dX8_shines_37 ?_
  refine lv_iload hx hb dX8_shines_38 (lv_at hl 2 rfl) ?_
  refine y_calli (X' := fun _ : Unit => [(md, .inr (8, [.int th, .int np, .ref m2, .ref m3, .int sF, .int sT, .int nd, .ref m7, .ref m8, .ref m9, .ref m10, .ref m11, .ref m12, .ref m13, .ref m14, .ref m15, .long mco, .int nf, .ref m18, .ref m19, .ref m20, .ref m21, .long mU, .long mS, .long mW, .int mX, .int mY, .ref m27, .ref m28, .ref m29, .ref m30]))]) (wc := []) (wr := [(md, .inr (8, [.int th, .int np, .ref m2, .ref m3, .int sF, .int sT, .int nd, .ref m7, .ref m8, .ref m9, .ref m10, .ref m11, .ref m12, .ref m13, .ref m14, .ref m15, .long mco, .int nf, .ref m18, .ref m19, .ref m20, .ref m21, .long mU, .long mS, .long mW, .int mX, .int mY, .ref m27, .ref m28, .ref m29, .ref m30]))]) h hA [] [0] [0] rfl rfl (by decide) (by decide) (by decide) (fun _ => rfl) (va_runS (own := RX8) (As := [.int (gSl d)]) (rest := [.long (1000 * ((gSin p).toInt64)), .ref md]) ⟨hx, hb, hml, hown, y_nil⟩ (m_X8_sin l D ty base _ (gSl d)   ) (y_cwS 1 (kw_4_129 hG) (kw_1_7 hG) (kw_4_127 hG) (kw_4_128 hG) yd_X8_sin ⟨Nat.le_of_ble_eq_true rfl, Nat.le_of_ble_eq_true rfl⟩) (y_preS hG h hAb [] rfl (by decide)) rfl rfl hl.1 rfl (lv_room (Nat.le_of_ble_eq_true rfl)) dX8_shines_40 ⟨Nat.le_of_ble_eq_true rfl, Nat.le_of_ble_eq_true rfl⟩) (fun r_40 _ H locs hp_40 h => ?_)
  have hp_40 : r_40 = gSin (gSl d) := hp_40
  have h : yH D AZ sZ.heap [(md, .inr (8, [.int th, .int np, .ref m2, .ref m3, .int sF, .int sT, .int nd, .ref m7, .ref m8, .ref m9, .ref m10, .ref m11, .ref m12, .ref m13, .ref m14, .ref m15, .long mco, .int nf, .ref m18, .ref m19, .ref m20, .ref m21, .long mU, .long mS, .long mW, .int mX, .int mY, .ref m27, .ref m28, .ref m29, .ref m30]))] [] _ _ := h
  rw [hp_40]
  refine lv_i2l hx hb dX8_shines_43 rfl ?_
  refine lv_lmul hx hb dX8_shines_44 ?_
  refine lv_iload_n hx hb dX8_shines_45 rfl (lv_at hl 4 rfl) ?_
  refine y_calli (X' := fun _ : Unit => [(md, .inr (8, [.int th, .int np, .ref m2, .ref m3, .int sF, .int sT, .int nd, .ref m7, .ref m8, .ref m9, .ref m10, .ref m11, .ref m12, .ref m13, .ref m14, .ref m15, .long mco, .int nf, .ref m18, .ref m19, .ref m20, .ref m21, .long mU, .long mS, .long mW, .int mX, .int mY, .ref m27, .ref m28, .ref m29, .ref m30]))]) (wc := []) (wr := [(md, .inr (8, [.int th, .int np, .ref m2, .ref m3, .int sF, .int sT, .int nd, .ref m7, .ref m8, .ref m9, .ref m10, .ref m11, .ref m12, .ref m13, .ref m14, .ref m15, .long mco, .int nf, .ref m18, .ref m19, .ref m20, .ref m21, .long mU, .long mS, .long mW, .int mX, .int mY, .ref m27, .ref m28, .ref m29, .ref m30]))]) h hA [] [0] [0] rfl rfl (by decide) (by decide) (by decide) (fun _ => rfl) (va_runS (own := RX8) (As := [.int p]) (rest := [.long ((1000 * ((gSin p).toInt64)) * ((gSin (gSl d)).toInt64)), .ref md]) ⟨hx, hb, hml, hown, y_nil⟩ (m_X8_cos l D ty base _ p   ) (y_cwS 1 (kw_4_169 hG) (kw_1_7 hG) (kw_4_167 hG) (kw_4_168 hG) yd_X8_cos ⟨Nat.le_of_ble_eq_true rfl, Nat.le_of_ble_eq_true rfl⟩) (y_preS hG h hAb [] rfl (by decide)) rfl rfl hl.1 rfl (lv_room (Nat.le_of_ble_eq_true rfl)) dX8_shines_46 ⟨Nat.le_of_ble_eq_true rfl, Nat.le_of_ble_eq_true rfl⟩) (fun r_46 _ H locs hp_46 h => ?_)
  have hp_46 : r_46 = gCos p := hp_46
  have h : yH D AZ sZ.heap [(md, .inr (8, [.int th, .int np, .ref m2, .ref m3, .int sF, .int sT, .int nd, .ref m7, .ref m8, .ref m9, .ref m10, .ref m11, .ref m12, .ref m13, .ref m14, .ref m15, .long mco, .int nf, .ref m18, .ref m19, .ref m20, .ref m21, .long mU, .long mS, .long mW, .int mX, .int mY, .ref m27, .ref m28, .ref m29, .ref m30]))] [] _ _ := h
  rw [hp_46]
  refine lv_i2l hx hb dX8_shines_49 rfl ?_
  refine lv_lload hx hb dX8_shines_50 (lv_at hl 0 rfl) ?_
  refine lv_lmul hx hb dX8_shines_52 ?_
  refine lv_ladd hx hb dX8_shines_53 ?_
  refine y_put (own := RX8) (tf := tyX8) (X' := [(md, .inr (8, [.int th, .int np, .ref m2, .ref m3, .int sF, .int sT, .int nd, .ref m7, .ref m8, .ref m9, .ref m10, .ref m11, .ref m12, .ref m13, .ref m14, .ref m15, .long mco, .int nf, .ref m18, .ref m19, .ref m20, .ref m21, .long (gUp p d t), .long mS, .long mW, .int mX, .int mY, .ref m27, .ref m28, .ref m29, .ref m30]))]) hx hb hown hG h 0 8 22 (T := TX8) (N := 31) rfl rfl (by decide) (yl_8 hG) ycl_8 (kw_4_38 hG) rfl rfl rfl rfl (Nat.le_of_ble_eq_true rfl) rfl dX8_shines_54 (fun H locs h => ?_)
  refine lv_aload_n hx hb dX8_shines_57 rfl (lv_at hl 3 rfl) ?_
  refine lv_iload_n hx hb dX8_shines_58 rfl (lv_at hl 4 rfl) ?_
  refine y_calli (X' := fun _ : Unit => [(md, .inr (8, [.int th, .int np, .ref m2, .ref m3, .int sF, .int sT, .int nd, .ref m7, .ref m8, .ref m9, .ref m10, .ref m11, .ref m12, .ref m13, .ref m14, .ref m15, .long mco, .int nf, .ref m18, .ref m19, .ref m20, .ref m21, .long (gUp p d t), .long mS, .long mW, .int mX, .int mY, .ref m27, .ref m28, .ref m29, .ref m30]))]) (wc := []) (wr := [(md, .inr (8, [.int th, .int np, .ref m2, .ref m3, .int sF, .int sT, .int nd, .ref m7, .ref m8, .ref m9, .ref m10, .ref m11, .ref m12, .ref m13, .ref m14, .ref m15, .long mco, .int nf, .ref m18, .ref m19, .ref m20, .ref m21, .long (gUp p d t), .long mS, .long mW, .int mX, .int mY, .ref m27, .ref m28, .ref m29, .ref m30]))]) h hA [] [0] [0] rfl rfl (by decide) (by decide) (by decide) (fun _ => rfl) (va_runS (own := RX8) (As := [.int p]) (rest := [.ref md]) ⟨hx, hb, hml, hown, y_nil⟩ (m_X8_sin l D ty base _ p   ) (y_cwS 1 (kw_4_129 hG) (kw_1_7 hG) (kw_4_127 hG) (kw_4_128 hG) yd_X8_sin ⟨Nat.le_of_ble_eq_true rfl, Nat.le_of_ble_eq_true rfl⟩) (y_preS hG h hAb [] rfl (by decide)) rfl rfl hl.1 rfl (lv_room (Nat.le_of_ble_eq_true rfl)) dX8_shines_59 ⟨Nat.le_of_ble_eq_true rfl, Nat.le_of_ble_eq_true rfl⟩) (fun r_59 _ H locs hp_59 h => ?_)
  have hp_59 : r_59 = gSin p := hp_59
  have h : yH D AZ sZ.heap [(md, .inr (8, [.int th, .int np, .ref m2, .ref m3, .int sF, .int sT, .int nd, .ref m7, .ref m8, .ref m9, .ref m10, .ref m11, .ref m12, .ref m13, .ref m14, .ref m15, .long mco, .int nf, .ref m18, .ref m19, .ref m20, .ref m21, .long (gUp p d t), .long mS, .long mW, .int mX, .int mY, .ref m27, .ref m28, .ref m29, .ref m30]))] [] _ _ := h
  rw [hp_59]
  refine lv_i2l hx hb dX8_shines_62 rfl ?_
  refine lv_lload hx hb dX8_shines_63 (lv_at hl 0 rfl) ?_
  refine lv_lmul hx hb dX8_shines_65 ?_
  refine lv_ldc2 (own := RX8) (v := 1000) hx hb hown (kw_4_152 hG).b dX8_shines_66 ?_
  refine lv_iload_n hx hb dX8_shines_69 rfl (lv_at hl 4 rfl) ?_
  refine y_calli (X' := fun _ : Unit => [(md, .inr (8, [.int th, .int np, .ref m2, .ref m3, .int sF, .int sT, .int nd, .ref m7, .ref m8, .ref m9, .ref m10, .ref m11, .ref m12, .ref m13, .ref m14, .ref m15, .long mco, .int nf, .ref m18, .ref m19, .ref m20, .ref m21, .long (gUp p d t), .long mS, .long mW, .int mX, .int mY, .ref m27, .ref m28, .ref m29, .ref m30]))]) (wc := []) (wr := [(md, .inr (8, [.int th, .int np, .ref m2, .ref m3, .int sF, .int sT, .int nd, .ref m7, .ref m8, .ref m9, .ref m10, .ref m11, .ref m12, .ref m13, .ref m14, .ref m15, .long mco, .int nf, .ref m18, .ref m19, .ref m20, .ref m21, .long (gUp p d t), .long mS, .long mW, .int mX, .int mY, .ref m27, .ref m28, .ref m29, .ref m30]))]) h hA [] [0] [0] rfl rfl (by decide) (by decide) (by decide) (fun _ => rfl) (va_runS (own := RX8) (As := [.int p]) (rest := [.long 1000, .long (((gSin p).toInt64) * (((gCos (gSl d)).toInt64) * ((gCos (t - 180)).toInt64))), .ref md]) ⟨hx, hb, hml, hown, y_nil⟩ (m_X8_cos l D ty base _ p   ) (y_cwS 1 (kw_4_169 hG) (kw_1_7 hG) (kw_4_167 hG) (kw_4_168 hG) yd_X8_cos ⟨Nat.le_of_ble_eq_true rfl, Nat.le_of_ble_eq_true rfl⟩) (y_preS hG h hAb [] rfl (by decide)) rfl rfl hl.1 rfl (lv_room (Nat.le_of_ble_eq_true rfl)) dX8_shines_70 ⟨Nat.le_of_ble_eq_true rfl, Nat.le_of_ble_eq_true rfl⟩) (fun r_70 _ H locs hp_70 h => ?_)
  have hp_70 : r_70 = gCos p := hp_70
  have h : yH D AZ sZ.heap [(md, .inr (8, [.int th, .int np, .ref m2, .ref m3, .int sF, .int sT, .int nd, .ref m7, .ref m8, .ref m9, .ref m10, .ref m11, .ref m12, .ref m13, .ref m14, .ref m15, .long mco, .int nf, .ref m18, .ref m19, .ref m20, .ref m21, .long (gUp p d t), .long mS, .long mW, .int mX, .int mY, .ref m27, .ref m28, .ref m29, .ref m30]))] [] _ _ := h
  rw [hp_70]
  refine lv_i2l hx hb dX8_shines_73 rfl ?_
  refine lv_lmul hx hb dX8_shines_74 ?_
  refine lv_iload hx hb dX8_shines_75 (lv_at hl 2 rfl) ?_
  refine y_calli (X' := fun _ : Unit => [(md, .inr (8, [.int th, .int np, .ref m2, .ref m3, .int sF, .int sT, .int nd, .ref m7, .ref m8, .ref m9, .ref m10, .ref m11, .ref m12, .ref m13, .ref m14, .ref m15, .long mco, .int nf, .ref m18, .ref m19, .ref m20, .ref m21, .long (gUp p d t), .long mS, .long mW, .int mX, .int mY, .ref m27, .ref m28, .ref m29, .ref m30]))]) (wc := []) (wr := [(md, .inr (8, [.int th, .int np, .ref m2, .ref m3, .int sF, .int sT, .int nd, .ref m7, .ref m8, .ref m9, .ref m10, .ref m11, .ref m12, .ref m13, .ref m14, .ref m15, .long mco, .int nf, .ref m18, .ref m19, .ref m20, .ref m21, .long (gUp p d t), .long mS, .long mW, .int mX, .int mY, .ref m27, .ref m28, .ref m29, .ref m30]))]) h hA [] [0] [0] rfl rfl (by decide) (by decide) (by decide) (fun _ => rfl) (va_runS (own := RX8) (As := [.int (gSl d)]) (rest := [.long (1000 * ((gCos p).toInt64)), .long (((gSin p).toInt64) * (((gCos (gSl d)).toInt64) * ((gCos (t - 180)).toInt64))), .ref md]) ⟨hx, hb, hml, hown, y_nil⟩ (m_X8_sin l D ty base _ (gSl d)   ) (y_cwS 1 (kw_4_129 hG) (kw_1_7 hG) (kw_4_127 hG) (kw_4_128 hG) yd_X8_sin ⟨Nat.le_of_ble_eq_true rfl, Nat.le_of_ble_eq_true rfl⟩) (y_preS hG h hAb [] rfl (by decide)) rfl rfl hl.1 rfl (lv_room (Nat.le_of_ble_eq_true rfl)) dX8_shines_77 ⟨Nat.le_of_ble_eq_true rfl, Nat.le_of_ble_eq_true rfl⟩) (fun r_77 _ H locs hp_77 h => ?_)
  have hp_77 : r_77 = gSin (gSl d) := hp_77
  have h : yH D AZ sZ.heap [(md, .inr (8, [.int th, .int np, .ref m2, .ref m3, .int sF, .int sT, .int nd, .ref m7, .ref m8, .ref m9, .ref m10, .ref m11, .ref m12, .ref m13, .ref m14, .ref m15, .long mco, .int nf, .ref m18, .ref m19, .ref m20, .ref m21, .long (gUp p d t), .long mS, .long mW, .int mX, .int mY, .ref m27, .ref m28, .ref m29, .ref m30]))] [] _ _ := h
  rw [hp_77]
  refine lv_i2l hx hb dX8_shines_80 rfl ?_
  refine lv_lmul hx hb dX8_shines_81 ?_
  refine lv_lsub hx hb dX8_shines_82 ?_
  refine y_put (own := RX8) (tf := tyX8) (X' := [(md, .inr (8, [.int th, .int np, .ref m2, .ref m3, .int sF, .int sT, .int nd, .ref m7, .ref m8, .ref m9, .ref m10, .ref m11, .ref m12, .ref m13, .ref m14, .ref m15, .long mco, .int nf, .ref m18, .ref m19, .ref m20, .ref m21, .long (gUp p d t), .long (gSo p d t), .long mW, .int mX, .int mY, .ref m27, .ref m28, .ref m29, .ref m30]))]) hx hb hown hG h 0 8 23 (T := TX8) (N := 31) rfl rfl (by decide) (yl_8 hG) ycl_8 (kw_4_39 hG) rfl rfl rfl rfl (Nat.le_of_ble_eq_true rfl) rfl dX8_shines_83 (fun H locs h => ?_)
  refine lv_aload_n hx hb dX8_shines_86 rfl (lv_at hl 3 rfl) ?_
  refine lv_ldc2 (own := RX8) (v := 1000) hx hb hown (kw_4_152 hG).b dX8_shines_87 ?_
  refine lv_iload hx hb dX8_shines_90 (lv_at hl 2 rfl) ?_
  refine y_calli (X' := fun _ : Unit => [(md, .inr (8, [.int th, .int np, .ref m2, .ref m3, .int sF, .int sT, .int nd, .ref m7, .ref m8, .ref m9, .ref m10, .ref m11, .ref m12, .ref m13, .ref m14, .ref m15, .long mco, .int nf, .ref m18, .ref m19, .ref m20, .ref m21, .long (gUp p d t), .long (gSo p d t), .long mW, .int mX, .int mY, .ref m27, .ref m28, .ref m29, .ref m30]))]) (wc := []) (wr := [(md, .inr (8, [.int th, .int np, .ref m2, .ref m3, .int sF, .int sT, .int nd, .ref m7, .ref m8, .ref m9, .ref m10, .ref m11, .ref m12, .ref m13, .ref m14, .ref m15, .long mco, .int nf, .ref m18, .ref m19, .ref m20, .ref m21, .long (gUp p d t), .long (gSo p d t), .long mW, .int mX, .int mY, .ref m27, .ref m28, .ref m29, .ref m30]))]) h hA [] [0] [0] rfl rfl (by decide) (by decide) (by decide) (fun _ => rfl) (va_runS (own := RX8) (As := [.int (gSl d)]) (rest := [.long 1000, .ref md]) ⟨hx, hb, hml, hown, y_nil⟩ (m_X8_cos l D ty base _ (gSl d)   ) (y_cwS 1 (kw_4_169 hG) (kw_1_7 hG) (kw_4_167 hG) (kw_4_168 hG) yd_X8_cos ⟨Nat.le_of_ble_eq_true rfl, Nat.le_of_ble_eq_true rfl⟩) (y_preS hG h hAb [] rfl (by decide)) rfl rfl hl.1 rfl (lv_room (Nat.le_of_ble_eq_true rfl)) dX8_shines_92 ⟨Nat.le_of_ble_eq_true rfl, Nat.le_of_ble_eq_true rfl⟩) (fun r_92 _ H locs hp_92 h => ?_)
  have hp_92 : r_92 = gCos (gSl d) := hp_92
  have h : yH D AZ sZ.heap [(md, .inr (8, [.int th, .int np, .ref m2, .ref m3, .int sF, .int sT, .int nd, .ref m7, .ref m8, .ref m9, .ref m10, .ref m11, .ref m12, .ref m13, .ref m14, .ref m15, .long mco, .int nf, .ref m18, .ref m19, .ref m20, .ref m21, .long (gUp p d t), .long (gSo p d t), .long mW, .int mX, .int mY, .ref m27, .ref m28, .ref m29, .ref m30]))] [] _ _ := h
  rw [hp_92]
  refine lv_i2l hx hb dX8_shines_95 rfl ?_
  refine lv_lmul hx hb dX8_shines_96 ?_
  refine lv_iload hx hb dX8_shines_97 (lv_at hl 1 rfl) ?_
  refine y_calli (X' := fun _ : Unit => [(md, .inr (8, [.int th, .int np, .ref m2, .ref m3, .int sF, .int sT, .int nd, .ref m7, .ref m8, .ref m9, .ref m10, .ref m11, .ref m12, .ref m13, .ref m14, .ref m15, .long mco, .int nf, .ref m18, .ref m19, .ref m20, .ref m21, .long (gUp p d t), .long (gSo p d t), .long mW, .int mX, .int mY, .ref m27, .ref m28, .ref m29, .ref m30]))]) (wc := []) (wr := [(md, .inr (8, [.int th, .int np, .ref m2, .ref m3, .int sF, .int sT, .int nd, .ref m7, .ref m8, .ref m9, .ref m10, .ref m11, .ref m12, .ref m13, .ref m14, .ref m15, .long mco, .int nf, .ref m18, .ref m19, .ref m20, .ref m21, .long (gUp p d t), .long (gSo p d t), .long mW, .int mX, .int mY, .ref m27, .ref m28, .ref m29, .ref m30]))]) h hA [] [0] [0] rfl rfl (by decide) (by decide) (by decide) (fun _ => rfl) (va_runS (own := RX8) (As := [.int (t - 180)]) (rest := [.long (1000 * ((gCos (gSl d)).toInt64)), .ref md]) ⟨hx, hb, hml, hown, y_nil⟩ (m_X8_sin l D ty base _ (t - 180)   ) (y_cwS 1 (kw_4_129 hG) (kw_1_7 hG) (kw_4_127 hG) (kw_4_128 hG) yd_X8_sin ⟨Nat.le_of_ble_eq_true rfl, Nat.le_of_ble_eq_true rfl⟩) (y_preS hG h hAb [] rfl (by decide)) rfl rfl hl.1 rfl (lv_room (Nat.le_of_ble_eq_true rfl)) dX8_shines_99 ⟨Nat.le_of_ble_eq_true rfl, Nat.le_of_ble_eq_true rfl⟩) (fun r_99 _ H locs hp_99 h => ?_)
  have hp_99 : r_99 = gSin (t - 180) := hp_99
  have h : yH D AZ sZ.heap [(md, .inr (8, [.int th, .int np, .ref m2, .ref m3, .int sF, .int sT, .int nd, .ref m7, .ref m8, .ref m9, .ref m10, .ref m11, .ref m12, .ref m13, .ref m14, .ref m15, .long mco, .int nf, .ref m18, .ref m19, .ref m20, .ref m21, .long (gUp p d t), .long (gSo p d t), .long mW, .int mX, .int mY, .ref m27, .ref m28, .ref m29, .ref m30]))] [] _ _ := h
  rw [hp_99]
  refine lv_i2l hx hb dX8_shines_102 rfl ?_
  refine lv_lmul hx hb dX8_shines_103 ?_
  refine y_put (own := RX8) (tf := tyX8) (X' := [(md, .inr (8, [.int th, .int np, .ref m2, .ref m3, .int sF, .int sT, .int nd, .ref m7, .ref m8, .ref m9, .ref m10, .ref m11, .ref m12, .ref m13, .ref m14, .ref m15, .long mco, .int nf, .ref m18, .ref m19, .ref m20, .ref m21, .long (gUp p d t), .long (gSo p d t), .long (gWe d t), .int mX, .int mY, .ref m27, .ref m28, .ref m29, .ref m30]))]) hx hb hown hG h 0 8 24 (T := TX8) (N := 31) rfl rfl (by decide) (yl_8 hG) ycl_8 (kw_4_40 hG) rfl rfl rfl rfl (Nat.le_of_ble_eq_true rfl) rfl dX8_shines_104 (fun H locs h => ?_)
  refine lv_aload_n hx hb dX8_shines_107 rfl (lv_at hl 3 rfl) ?_
  refine y_get (own := RX8) hx hb hown hG h 0 8 22 (T := TX8) (N := 31) rfl rfl (by decide) (yl_8 hG) (kw_4_38 hG) rfl rfl dX8_shines_108 ?_
  refine lv_lconst (v := 0) hx hb dX8_shines_111 (by decide) ?_
  refine W.lcmp hx hb dX8_shines_112 ?_
  refine lv_if_le (tgt := 120) hx hb dX8_shines_113 (by decide) (fun c_113 => ?_) (fun c_113 => ?_)
  · skip
    have c_113 := (lg_cmp_le (gUp p d t) 0).mp c_113
    refine lv_iconst (v := 0) hx hb dX8_shines_120 (by decide) ?_
    exact hret 0 () _ _ _ _ _ _ _ _ (Or.inl rfl) (bI_0 (Int64.not_lt.mpr c_113)) h rfl (Nat.le_of_ble_eq_true rfl) (Nat.le_of_ble_eq_true rfl) dX8_shines_121
  · skip
    have c_113 := fun q => c_113 ((lg_cmp_le (gUp p d t) 0).mpr q)
    refine lv_iconst (v := 1) hx hb dX8_shines_116 (by decide) ?_
    refine lv_goto (tgt := 121) hx hb dX8_shines_117 (by decide) ?_
    exact hret 1 () _ _ _ _ _ _ _ _ (Or.inr rfl) (bI_1 (Int64.not_le.mp c_113)) h rfl (Nat.le_of_ble_eq_true rfl) (Nat.le_of_ble_eq_true rfl) dX8_shines_121

abbrev rm_X8_sun : Room := { frames := 4, cells := 0, slots := 0, locals := 89 }
theorem yd_X8_sun : yX8_sun.cls ≠ "java/lang/invoke/MethodHandle" ∧ yX8_sun.cls ≠ "java/lang/invoke/VarHandle" ∧ (parseMethodDescriptor yX8_sun.desc).map (fun d => d.parameters.length) = some 4 := by decide +kernel
set_option maxHeartbeats 4000000 in
set_option maxRecDepth 100000 in
theorem m_X8_sun (l : Launch) (D : va_G) (ty : Nat → ClassId) (base sz : Nat) (md : Nat) (th : Int32) (np : Int32) (m2 : Nat) (m3 : Nat) (sF : Int32) (sT : Int32) (nd : Int32) (m7 : Nat) (m8 : Nat) (m9 : Nat) (m10 : Nat) (m11 : Nat) (m12 : Nat) (m13 : Nat) (m14 : Nat) (m15 : Nat) (mco : Int64) (nf : Int32) (m18 : Nat) (m19 : Nat) (m20 : Nat) (m21 : Nat) (mU : Int64) (mS : Int64) (mW : Int64) (mX : Int32) (mY : Int32) (m27 : Nat) (m28 : Nat) (m29 : Nat) (m30 : Nat) (p : Int32) (d : Int32) (t : Int32) (w : Int32)    : Met l yX8_sun [.code yX8_sun cX8_sun 6 (some (.long))] rm_X8_sun (yPc D ty base sz ([(md, .inr (8, [.int th, .int np, .ref m2, .ref m3, .int sF, .int sT, .int nd, .ref m7, .ref m8, .ref m9, .ref m10, .ref m11, .ref m12, .ref m13, .ref m14, .ref m15, .long mco, .int nf, .ref m18, .ref m19, .ref m20, .ref m21, .long mU, .long mS, .long mW, .int mX, .int mY, .ref m27, .ref m28, .ref m29, .ref m30]))]) [.ref md, .int p, .int d, .int t, .int w]) (va_Ql (fun (r : Int64) (u : Int32 × Int64 × Int64 × Int64) => u.1 = kO ((wI p (-66) 66 && (wI d 0 359 && (wI t 0 359 && wI w 0 2)))) 1 0 ∧ (u.1 = 0 → r = (if w = 0 then gUp p d t else if w = 1 then gSo p d t else gWe d t))) (yB D (va_A ([(md, .inr (8, [.int th, .int np, .ref m2, .ref m3, .int sF, .int sT, .int nd, .ref m7, .ref m8, .ref m9, .ref m10, .ref m11, .ref m12, .ref m13, .ref m14, .ref m15, .long mco, .int nf, .ref m18, .ref m19, .ref m20, .ref m21, .long mU, .long mS, .long mW, .int mX, .int mY, .ref m27, .ref m28, .ref m29, .ref m30]))]) sz) (fun u : Int32 × Int64 × Int64 × Int64 => [(md, .inr (8, [.int u.1, .int np, .ref m2, .ref m3, .int sF, .int sT, .int nd, .ref m7, .ref m8, .ref m9, .ref m10, .ref m11, .ref m12, .ref m13, .ref m14, .ref m15, .long mco, .int nf, .ref m18, .ref m19, .ref m20, .ref m21, .long u.2.1, .long u.2.2.1, .long u.2.2.2, .int mX, .int mY, .ref m27, .ref m28, .ref m29, .ref m30]))])) (va_A ([(md, .inr (8, [.int th, .int np, .ref m2, .ref m3, .int sF, .int sT, .int nd, .ref m7, .ref m8, .ref m9, .ref m10, .ref m11, .ref m12, .ref m13, .ref m14, .ref m15, .long mco, .int nf, .ref m18, .ref m19, .ref m20, .ref m21, .long mU, .long mS, .long mW, .int mX, .int mY, .ref m27, .ref m28, .ref m29, .ref m30]))]) sz)) rm_X8_sun.cells rm_X8_sun.slots (va_A ([(md, .inr (8, [.int th, .int np, .ref m2, .ref m3, .int sF, .int sT, .int nd, .ref m7, .ref m8, .ref m9, .ref m10, .ref m11, .ref m12, .ref m13, .ref m14, .ref m15, .long mco, .int nf, .ref m18, .ref m19, .ref m20, .ref m21, .long mU, .long mS, .long mW, .int mX, .int mY, .ref m27, .ref m28, .ref m29, .ref m30]))]) sz) := by
  refine y_start_l (cc := cX8_sun) (maxL := 6) (own := RX8) (by decide +kernel) rfl (Nat.le_of_ble_eq_true rfl) (fun pZ eZ sZ mZ aZ bZ tZ cZ AZ ls QZ hx hb hml hown hnm hG hA hAb hsz h hl hret => ?_)
  have h : yH D AZ sZ.heap [(md, .inr (8, [.int th, .int np, .ref m2, .ref m3, .int sF, .int sT, .int nd, .ref m7, .ref m8, .ref m9, .ref m10, .ref m11, .ref m12, .ref m13, .ref m14, .ref m15, .long mco, .int nf, .ref m18, .ref m19, .ref m20, .ref m21, .long mU, .long mS, .long mW, .int mX, .int mY, .ref m27, .ref m28, .ref m29, .ref m30]))] [] sZ.heap [] := h
  have hl : lv_has ls 6 [(0, .ref md), (1, .int p), (2, .int d), (3, .int t), (4, .int w)] := hl
  refine lv_aload_n hx hb dX8_sun_0 rfl (lv_at hl 0 rfl) ?_
  refine lv_iload_n hx hb dX8_sun_1 rfl (lv_at hl 1 rfl) ?_
  refine lv_bipush (v := (-66)) hx hb dX8_sun_2 (by decide) ?_
  refine lv_bipush (v := 66) hx hb dX8_sun_4 (by decide) ?_
  refine y_calli (X' := fun _ : Unit => [(md, .inr (8, [.int th, .int np, .ref m2, .ref m3, .int sF, .int sT, .int nd, .ref m7, .ref m8, .ref m9, .ref m10, .ref m11, .ref m12, .ref m13, .ref m14, .ref m15, .long mco, .int nf, .ref m18, .ref m19, .ref m20, .ref m21, .long mU, .long mS, .long mW, .int mX, .int mY, .ref m27, .ref m28, .ref m29, .ref m30]))]) (wc := []) (wr := [(md, .inr (8, [.int th, .int np, .ref m2, .ref m3, .int sF, .int sT, .int nd, .ref m7, .ref m8, .ref m9, .ref m10, .ref m11, .ref m12, .ref m13, .ref m14, .ref m15, .long mco, .int nf, .ref m18, .ref m19, .ref m20, .ref m21, .long mU, .long mS, .long mW, .int mX, .int mY, .ref m27, .ref m28, .ref m29, .ref m30]))]) h hA [] [0] [0] rfl rfl (by decide) (by decide) (by decide) (fun _ => rfl) (va_runS (own := RX8) (As := [.int p, .int (-66), .int 66]) (rest := [.ref md]) ⟨hx, hb, hml, hown, y_nil⟩ (m_X8_in l D ty base _ p (- 66) 66   ) (y_cwS 3 (kw_4_122 hG) (kw_1_7 hG) (kw_4_120 hG) (kw_4_121 hG) yd_X8_in ⟨Nat.le_of_ble_eq_true rfl, Nat.le_of_ble_eq_true rfl⟩) (y_preS hG h hAb [] rfl (by decide)) rfl rfl hl.1 rfl (lv_room (Nat.le_of_ble_eq_true rfl)) dX8_sun_6 ⟨Nat.le_of_ble_eq_true rfl, Nat.le_of_ble_eq_true rfl⟩) (fun r_6 _ H locs hp_6 h => ?_)
  have hp_6 : r_6 = bI (wI p (- 66) 66) := hp_6
  have h : yH D AZ sZ.heap [(md, .inr (8, [.int th, .int np, .ref m2, .ref m3, .int sF, .int sT, .int nd, .ref m7, .ref m8, .ref m9, .ref m10, .ref m11, .ref m12, .ref m13, .ref m14, .ref m15, .long mco, .int nf, .ref m18, .ref m19, .ref m20, .ref m21, .long mU, .long mS, .long mW, .int mX, .int mY, .ref m27, .ref m28, .ref m29, .ref m30]))] [] _ _ := h
  rw [hp_6]
  refine lv_if_eq (tgt := 40) hx hb dX8_sun_9 (by decide) (fun c_9 => ?_) (fun c_9 => ?_)
  · skip
    refine lv_iconst (v := 1) hx hb dX8_sun_40 (by decide) ?_
    refine y_calli (X' := fun _ : Unit => [(md, .inr (8, [.int 1, .int np, .ref m2, .ref m3, .int sF, .int sT, .int nd, .ref m7, .ref m8, .ref m9, .ref m10, .ref m11, .ref m12, .ref m13, .ref m14, .ref m15, .long mco, .int nf, .ref m18, .ref m19, .ref m20, .ref m21, .long mU, .long mS, .long mW, .int mX, .int mY, .ref m27, .ref m28, .ref m29, .ref m30]))]) (wc := [(md, .inr (8, [.int th, .int np, .ref m2, .ref m3, .int sF, .int sT, .int nd, .ref m7, .ref m8, .ref m9, .ref m10, .ref m11, .ref m12, .ref m13, .ref m14, .ref m15, .long mco, .int nf, .ref m18, .ref m19, .ref m20, .ref m21, .long mU, .long mS, .long mW, .int mX, .int mY, .ref m27, .ref m28, .ref m29, .ref m30]))]) (wr := []) h hA [0] [] [0] rfl rfl (by decide) (by decide) (by decide) (fun _ => rfl) (va_runV (own := RX8) (As := [.int 1]) (rest := []) ⟨hx, hb, hml, hown, y_nil⟩ (m_X8_goesWellT l D ty base _ md th np m2 m3 sF sT nd m7 m8 m9 m10 m11 m12 m13 m14 m15 mco nf m18 m19 m20 m21 mU mS mW mX mY m27 m28 m29 m30 1   (by decide)) (y_cwV (C := RX8) 1 (kw_4_126 hG) (kw_1_7 hG) (kw_4_123 hG) (kw_4_125 hG) (kw_0_18 hG) yd_X8_goesWellT ⟨Nat.le_of_ble_eq_true rfl, Nat.le_of_ble_eq_true rfl⟩) (y_preV hG h hAb [0] rfl (by decide) 0 rfl rfl) rfl rfl hl.1 rfl (lv_room (Nat.le_of_ble_eq_true rfl)) dX8_sun_41 ⟨Nat.le_of_ble_eq_true rfl, Nat.le_of_ble_eq_true rfl⟩) (fun r_41 _ H locs hp_41 h => ?_)
    have hp_41 : r_41 = 0 := hp_41
    have h : yH D AZ sZ.heap [(md, .inr (8, [.int 1, .int np, .ref m2, .ref m3, .int sF, .int sT, .int nd, .ref m7, .ref m8, .ref m9, .ref m10, .ref m11, .ref m12, .ref m13, .ref m14, .ref m15, .long mco, .int nf, .ref m18, .ref m19, .ref m20, .ref m21, .long mU, .long mS, .long mW, .int mX, .int mY, .ref m27, .ref m28, .ref m29, .ref m30]))] [] _ _ := h
    rw [hp_41]
    refine lv_if_ne (tgt := 49) hx hb dX8_sun_44 (by decide) (fun c_44 => ?_) (fun c_44 => ?_)
    · exact absurd (by decide) c_44
    · skip
      refine lv_lconst (v := 0) hx hb dX8_sun_47 (by decide) ?_
      exact hret 0 (1, mU, mS, mW) _ _ _ _ _ _ _ _ ⟨kO_f (and_f1 (bI_f c_9)), (by first | exact q10 | exact q20 | exact q30)⟩ h rfl (Nat.le_of_ble_eq_true rfl) (Nat.le_of_ble_eq_true rfl) dX8_sun_48
  · skip
    refine lv_iload_n hx hb dX8_sun_12 rfl (lv_at hl 2 rfl) ?_
    refine y_calli (X' := fun _ : Unit => [(md, .inr (8, [.int th, .int np, .ref m2, .ref m3, .int sF, .int sT, .int nd, .ref m7, .ref m8, .ref m9, .ref m10, .ref m11, .ref m12, .ref m13, .ref m14, .ref m15, .long mco, .int nf, .ref m18, .ref m19, .ref m20, .ref m21, .long mU, .long mS, .long mW, .int mX, .int mY, .ref m27, .ref m28, .ref m29, .ref m30]))]) (wc := []) (wr := [(md, .inr (8, [.int th, .int np, .ref m2, .ref m3, .int sF, .int sT, .int nd, .ref m7, .ref m8, .ref m9, .ref m10, .ref m11, .ref m12, .ref m13, .ref m14, .ref m15, .long mco, .int nf, .ref m18, .ref m19, .ref m20, .ref m21, .long mU, .long mS, .long mW, .int mX, .int mY, .ref m27, .ref m28, .ref m29, .ref m30]))]) h hA [] [0] [0] rfl rfl (by decide) (by decide) (by decide) (fun _ => rfl) (va_runS (own := RX8) (As := [.int d]) (rest := [.ref md]) ⟨hx, hb, hml, hown, y_nil⟩ (m_X8_isDay l D ty base _ d   ) (y_cwS 1 (kw_4_143 hG) (kw_1_7 hG) (kw_4_141 hG) (kw_4_142 hG) yd_X8_isDay ⟨Nat.le_of_ble_eq_true rfl, Nat.le_of_ble_eq_true rfl⟩) (y_preS hG h hAb [] rfl (by decide)) rfl rfl hl.1 rfl (lv_room (Nat.le_of_ble_eq_true rfl)) dX8_sun_13 ⟨Nat.le_of_ble_eq_true rfl, Nat.le_of_ble_eq_true rfl⟩) (fun r_13 _ H locs hp_13 h => ?_)
    have hp_13 : r_13 = bI (wI d 0 359) := hp_13
    have h : yH D AZ sZ.heap [(md, .inr (8, [.int th, .int np, .ref m2, .ref m3, .int sF, .int sT, .int nd, .ref m7, .ref m8, .ref m9, .ref m10, .ref m11, .ref m12, .ref m13, .ref m14, .ref m15, .long mco, .int nf, .ref m18, .ref m19, .ref m20, .ref m21, .long mU, .long mS, .long mW, .int mX, .int mY, .ref m27, .ref m28, .ref m29, .ref m30]))] [] _ _ := h
    rw [hp_13]
    refine lv_if_eq (tgt := 40) hx hb dX8_sun_16 (by decide) (fun c_16 => ?_) (fun c_16 => ?_)
    · skip
      refine lv_iconst (v := 1) hx hb dX8_sun_40 (by decide) ?_
      refine y_calli (X' := fun _ : Unit => [(md, .inr (8, [.int 1, .int np, .ref m2, .ref m3, .int sF, .int sT, .int nd, .ref m7, .ref m8, .ref m9, .ref m10, .ref m11, .ref m12, .ref m13, .ref m14, .ref m15, .long mco, .int nf, .ref m18, .ref m19, .ref m20, .ref m21, .long mU, .long mS, .long mW, .int mX, .int mY, .ref m27, .ref m28, .ref m29, .ref m30]))]) (wc := [(md, .inr (8, [.int th, .int np, .ref m2, .ref m3, .int sF, .int sT, .int nd, .ref m7, .ref m8, .ref m9, .ref m10, .ref m11, .ref m12, .ref m13, .ref m14, .ref m15, .long mco, .int nf, .ref m18, .ref m19, .ref m20, .ref m21, .long mU, .long mS, .long mW, .int mX, .int mY, .ref m27, .ref m28, .ref m29, .ref m30]))]) (wr := []) h hA [0] [] [0] rfl rfl (by decide) (by decide) (by decide) (fun _ => rfl) (va_runV (own := RX8) (As := [.int 1]) (rest := []) ⟨hx, hb, hml, hown, y_nil⟩ (m_X8_goesWellT l D ty base _ md th np m2 m3 sF sT nd m7 m8 m9 m10 m11 m12 m13 m14 m15 mco nf m18 m19 m20 m21 mU mS mW mX mY m27 m28 m29 m30 1   (by decide)) (y_cwV (C := RX8) 1 (kw_4_126 hG) (kw_1_7 hG) (kw_4_123 hG) (kw_4_125 hG) (kw_0_18 hG) yd_X8_goesWellT ⟨Nat.le_of_ble_eq_true rfl, Nat.le_of_ble_eq_true rfl⟩) (y_preV hG h hAb [0] rfl (by decide) 0 rfl rfl) rfl rfl hl.1 rfl (lv_room (Nat.le_of_ble_eq_true rfl)) dX8_sun_41 ⟨Nat.le_of_ble_eq_true rfl, Nat.le_of_ble_eq_true rfl⟩) (fun r_41 _ H locs hp_41 h => ?_)
      have hp_41 : r_41 = 0 := hp_41
      have h : yH D AZ sZ.heap [(md, .inr (8, [.int 1, .int np, .ref m2, .ref m3, .int sF, .int sT, .int nd, .ref m7, .ref m8, .ref m9, .ref m10, .ref m11, .ref m12, .ref m13, .ref m14, .ref m15, .long mco, .int nf, .ref m18, .ref m19, .ref m20, .ref m21, .long mU, .long mS, .long mW, .int mX, .int mY, .ref m27, .ref m28, .ref m29, .ref m30]))] [] _ _ := h
      rw [hp_41]
      refine lv_if_ne (tgt := 49) hx hb dX8_sun_44 (by decide) (fun c_44 => ?_) (fun c_44 => ?_)
      · exact absurd (by decide) c_44
      · skip
        refine lv_lconst (v := 0) hx hb dX8_sun_47 (by decide) ?_
        exact hret 0 (1, mU, mS, mW) _ _ _ _ _ _ _ _ ⟨kO_f (and_f2 (and_f1 (bI_f c_16))), (by first | exact q10 | exact q20 | exact q30)⟩ h rfl (Nat.le_of_ble_eq_true rfl) (Nat.le_of_ble_eq_true rfl) dX8_sun_48
    · skip
      refine lv_iload_n hx hb dX8_sun_19 rfl (lv_at hl 3 rfl) ?_
      refine y_calli (X' := fun _ : Unit => [(md, .inr (8, [.int th, .int np, .ref m2, .ref m3, .int sF, .int sT, .int nd, .ref m7, .ref m8, .ref m9, .ref m10, .ref m11, .ref m12, .ref m13, .ref m14, .ref m15, .long mco, .int nf, .ref m18, .ref m19, .ref m20, .ref m21, .long mU, .long mS, .long mW, .int mX, .int mY, .ref m27, .ref m28, .ref m29, .ref m30]))]) (wc := []) (wr := [(md, .inr (8, [.int th, .int np, .ref m2, .ref m3, .int sF, .int sT, .int nd, .ref m7, .ref m8, .ref m9, .ref m10, .ref m11, .ref m12, .ref m13, .ref m14, .ref m15, .long mco, .int nf, .ref m18, .ref m19, .ref m20, .ref m21, .long mU, .long mS, .long mW, .int mX, .int mY, .ref m27, .ref m28, .ref m29, .ref m30]))]) h hA [] [0] [0] rfl rfl (by decide) (by decide) (by decide) (fun _ => rfl) (va_runS (own := RX8) (As := [.int t]) (rest := [.ref md]) ⟨hx, hb, hml, hown, y_nil⟩ (m_X8_isTick l D ty base _ t   ) (y_cwS 1 (kw_4_162 hG) (kw_1_7 hG) (kw_4_160 hG) (kw_4_161 hG) yd_X8_isTick ⟨Nat.le_of_ble_eq_true rfl, Nat.le_of_ble_eq_true rfl⟩) (y_preS hG h hAb [] rfl (by decide)) rfl rfl hl.1 rfl (lv_room (Nat.le_of_ble_eq_true rfl)) dX8_sun_20 ⟨Nat.le_of_ble_eq_true rfl, Nat.le_of_ble_eq_true rfl⟩) (fun r_20 _ H locs hp_20 h => ?_)
      have hp_20 : r_20 = bI (wI t 0 359) := hp_20
      have h : yH D AZ sZ.heap [(md, .inr (8, [.int th, .int np, .ref m2, .ref m3, .int sF, .int sT, .int nd, .ref m7, .ref m8, .ref m9, .ref m10, .ref m11, .ref m12, .ref m13, .ref m14, .ref m15, .long mco, .int nf, .ref m18, .ref m19, .ref m20, .ref m21, .long mU, .long mS, .long mW, .int mX, .int mY, .ref m27, .ref m28, .ref m29, .ref m30]))] [] _ _ := h
      rw [hp_20]
      refine lv_if_eq (tgt := 40) hx hb dX8_sun_23 (by decide) (fun c_23 => ?_) (fun c_23 => ?_)
      · skip
        refine lv_iconst (v := 1) hx hb dX8_sun_40 (by decide) ?_
        refine y_calli (X' := fun _ : Unit => [(md, .inr (8, [.int 1, .int np, .ref m2, .ref m3, .int sF, .int sT, .int nd, .ref m7, .ref m8, .ref m9, .ref m10, .ref m11, .ref m12, .ref m13, .ref m14, .ref m15, .long mco, .int nf, .ref m18, .ref m19, .ref m20, .ref m21, .long mU, .long mS, .long mW, .int mX, .int mY, .ref m27, .ref m28, .ref m29, .ref m30]))]) (wc := [(md, .inr (8, [.int th, .int np, .ref m2, .ref m3, .int sF, .int sT, .int nd, .ref m7, .ref m8, .ref m9, .ref m10, .ref m11, .ref m12, .ref m13, .ref m14, .ref m15, .long mco, .int nf, .ref m18, .ref m19, .ref m20, .ref m21, .long mU, .long mS, .long mW, .int mX, .int mY, .ref m27, .ref m28, .ref m29, .ref m30]))]) (wr := []) h hA [0] [] [0] rfl rfl (by decide) (by decide) (by decide) (fun _ => rfl) (va_runV (own := RX8) (As := [.int 1]) (rest := []) ⟨hx, hb, hml, hown, y_nil⟩ (m_X8_goesWellT l D ty base _ md th np m2 m3 sF sT nd m7 m8 m9 m10 m11 m12 m13 m14 m15 mco nf m18 m19 m20 m21 mU mS mW mX mY m27 m28 m29 m30 1   (by decide)) (y_cwV (C := RX8) 1 (kw_4_126 hG) (kw_1_7 hG) (kw_4_123 hG) (kw_4_125 hG) (kw_0_18 hG) yd_X8_goesWellT ⟨Nat.le_of_ble_eq_true rfl, Nat.le_of_ble_eq_true rfl⟩) (y_preV hG h hAb [0] rfl (by decide) 0 rfl rfl) rfl rfl hl.1 rfl (lv_room (Nat.le_of_ble_eq_true rfl)) dX8_sun_41 ⟨Nat.le_of_ble_eq_true rfl, Nat.le_of_ble_eq_true rfl⟩) (fun r_41 _ H locs hp_41 h => ?_)
        have hp_41 : r_41 = 0 := hp_41
        have h : yH D AZ sZ.heap [(md, .inr (8, [.int 1, .int np, .ref m2, .ref m3, .int sF, .int sT, .int nd, .ref m7, .ref m8, .ref m9, .ref m10, .ref m11, .ref m12, .ref m13, .ref m14, .ref m15, .long mco, .int nf, .ref m18, .ref m19, .ref m20, .ref m21, .long mU, .long mS, .long mW, .int mX, .int mY, .ref m27, .ref m28, .ref m29, .ref m30]))] [] _ _ := h
        rw [hp_41]
        refine lv_if_ne (tgt := 49) hx hb dX8_sun_44 (by decide) (fun c_44 => ?_) (fun c_44 => ?_)
        · exact absurd (by decide) c_44
        · skip
          refine lv_lconst (v := 0) hx hb dX8_sun_47 (by decide) ?_
          exact hret 0 (1, mU, mS, mW) _ _ _ _ _ _ _ _ ⟨kO_f (and_f2 (and_f2 (and_f1 (bI_f c_23)))), (by first | exact q10 | exact q20 | exact q30)⟩ h rfl (Nat.le_of_ble_eq_true rfl) (Nat.le_of_ble_eq_true rfl) dX8_sun_48
      · skip
        refine lv_iload hx hb dX8_sun_26 (lv_at hl 4 rfl) ?_
        refine lv_iconst (v := 0) hx hb dX8_sun_28 (by decide) ?_
        refine lv_iconst (v := 2) hx hb dX8_sun_29 (by decide) ?_
        refine y_calli (X' := fun _ : Unit => [(md, .inr (8, [.int th, .int np, .ref m2, .ref m3, .int sF, .int sT, .int nd, .ref m7, .ref m8, .ref m9, .ref m10, .ref m11, .ref m12, .ref m13, .ref m14, .ref m15, .long mco, .int nf, .ref m18, .ref m19, .ref m20, .ref m21, .long mU, .long mS, .long mW, .int mX, .int mY, .ref m27, .ref m28, .ref m29, .ref m30]))]) (wc := []) (wr := [(md, .inr (8, [.int th, .int np, .ref m2, .ref m3, .int sF, .int sT, .int nd, .ref m7, .ref m8, .ref m9, .ref m10, .ref m11, .ref m12, .ref m13, .ref m14, .ref m15, .long mco, .int nf, .ref m18, .ref m19, .ref m20, .ref m21, .long mU, .long mS, .long mW, .int mX, .int mY, .ref m27, .ref m28, .ref m29, .ref m30]))]) h hA [] [0] [0] rfl rfl (by decide) (by decide) (by decide) (fun _ => rfl) (va_runS (own := RX8) (As := [.int w, .int 0, .int 2]) (rest := [.ref md]) ⟨hx, hb, hml, hown, y_nil⟩ (m_X8_in l D ty base _ w 0 2   ) (y_cwS 3 (kw_4_122 hG) (kw_1_7 hG) (kw_4_120 hG) (kw_4_121 hG) yd_X8_in ⟨Nat.le_of_ble_eq_true rfl, Nat.le_of_ble_eq_true rfl⟩) (y_preS hG h hAb [] rfl (by decide)) rfl rfl hl.1 rfl (lv_room (Nat.le_of_ble_eq_true rfl)) dX8_sun_30 ⟨Nat.le_of_ble_eq_true rfl, Nat.le_of_ble_eq_true rfl⟩) (fun r_30 _ H locs hp_30 h => ?_)
        have hp_30 : r_30 = bI (wI w 0 2) := hp_30
        have h : yH D AZ sZ.heap [(md, .inr (8, [.int th, .int np, .ref m2, .ref m3, .int sF, .int sT, .int nd, .ref m7, .ref m8, .ref m9, .ref m10, .ref m11, .ref m12, .ref m13, .ref m14, .ref m15, .long mco, .int nf, .ref m18, .ref m19, .ref m20, .ref m21, .long mU, .long mS, .long mW, .int mX, .int mY, .ref m27, .ref m28, .ref m29, .ref m30]))] [] _ _ := h
        rw [hp_30]
        refine lv_if_eq (tgt := 40) hx hb dX8_sun_33 (by decide) (fun c_33 => ?_) (fun c_33 => ?_)
        · skip
          refine lv_iconst (v := 1) hx hb dX8_sun_40 (by decide) ?_
          refine y_calli (X' := fun _ : Unit => [(md, .inr (8, [.int 1, .int np, .ref m2, .ref m3, .int sF, .int sT, .int nd, .ref m7, .ref m8, .ref m9, .ref m10, .ref m11, .ref m12, .ref m13, .ref m14, .ref m15, .long mco, .int nf, .ref m18, .ref m19, .ref m20, .ref m21, .long mU, .long mS, .long mW, .int mX, .int mY, .ref m27, .ref m28, .ref m29, .ref m30]))]) (wc := [(md, .inr (8, [.int th, .int np, .ref m2, .ref m3, .int sF, .int sT, .int nd, .ref m7, .ref m8, .ref m9, .ref m10, .ref m11, .ref m12, .ref m13, .ref m14, .ref m15, .long mco, .int nf, .ref m18, .ref m19, .ref m20, .ref m21, .long mU, .long mS, .long mW, .int mX, .int mY, .ref m27, .ref m28, .ref m29, .ref m30]))]) (wr := []) h hA [0] [] [0] rfl rfl (by decide) (by decide) (by decide) (fun _ => rfl) (va_runV (own := RX8) (As := [.int 1]) (rest := []) ⟨hx, hb, hml, hown, y_nil⟩ (m_X8_goesWellT l D ty base _ md th np m2 m3 sF sT nd m7 m8 m9 m10 m11 m12 m13 m14 m15 mco nf m18 m19 m20 m21 mU mS mW mX mY m27 m28 m29 m30 1   (by decide)) (y_cwV (C := RX8) 1 (kw_4_126 hG) (kw_1_7 hG) (kw_4_123 hG) (kw_4_125 hG) (kw_0_18 hG) yd_X8_goesWellT ⟨Nat.le_of_ble_eq_true rfl, Nat.le_of_ble_eq_true rfl⟩) (y_preV hG h hAb [0] rfl (by decide) 0 rfl rfl) rfl rfl hl.1 rfl (lv_room (Nat.le_of_ble_eq_true rfl)) dX8_sun_41 ⟨Nat.le_of_ble_eq_true rfl, Nat.le_of_ble_eq_true rfl⟩) (fun r_41 _ H locs hp_41 h => ?_)
          have hp_41 : r_41 = 0 := hp_41
          have h : yH D AZ sZ.heap [(md, .inr (8, [.int 1, .int np, .ref m2, .ref m3, .int sF, .int sT, .int nd, .ref m7, .ref m8, .ref m9, .ref m10, .ref m11, .ref m12, .ref m13, .ref m14, .ref m15, .long mco, .int nf, .ref m18, .ref m19, .ref m20, .ref m21, .long mU, .long mS, .long mW, .int mX, .int mY, .ref m27, .ref m28, .ref m29, .ref m30]))] [] _ _ := h
          rw [hp_41]
          refine lv_if_ne (tgt := 49) hx hb dX8_sun_44 (by decide) (fun c_44 => ?_) (fun c_44 => ?_)
          · exact absurd (by decide) c_44
          · skip
            refine lv_lconst (v := 0) hx hb dX8_sun_47 (by decide) ?_
            exact hret 0 (1, mU, mS, mW) _ _ _ _ _ _ _ _ ⟨kO_f (and_f2 (and_f2 (and_f2 (bI_f c_33)))), (by first | exact q10 | exact q20 | exact q30)⟩ h rfl (Nat.le_of_ble_eq_true rfl) (Nat.le_of_ble_eq_true rfl) dX8_sun_48
        · skip
          refine lv_iconst (v := 0) hx hb dX8_sun_36 (by decide) ?_
          refine lv_goto (tgt := 41) hx hb dX8_sun_37 (by decide) ?_
          refine y_calli (X' := fun _ : Unit => [(md, .inr (8, [.int 0, .int np, .ref m2, .ref m3, .int sF, .int sT, .int nd, .ref m7, .ref m8, .ref m9, .ref m10, .ref m11, .ref m12, .ref m13, .ref m14, .ref m15, .long mco, .int nf, .ref m18, .ref m19, .ref m20, .ref m21, .long mU, .long mS, .long mW, .int mX, .int mY, .ref m27, .ref m28, .ref m29, .ref m30]))]) (wc := [(md, .inr (8, [.int th, .int np, .ref m2, .ref m3, .int sF, .int sT, .int nd, .ref m7, .ref m8, .ref m9, .ref m10, .ref m11, .ref m12, .ref m13, .ref m14, .ref m15, .long mco, .int nf, .ref m18, .ref m19, .ref m20, .ref m21, .long mU, .long mS, .long mW, .int mX, .int mY, .ref m27, .ref m28, .ref m29, .ref m30]))]) (wr := []) h hA [0] [] [0] rfl rfl (by decide) (by decide) (by decide) (fun _ => rfl) (va_runV (own := RX8) (As := [.int 0]) (rest := []) ⟨hx, hb, hml, hown, y_nil⟩ (m_X8_goesWell l D ty base _ md th np m2 m3 sF sT nd m7 m8 m9 m10 m11 m12 m13 m14 m15 mco nf m18 m19 m20 m21 mU mS mW mX mY m27 m28 m29 m30   ) (y_cwV (C := RX8) 1 (kw_4_126 hG) (kw_1_7 hG) (kw_4_123 hG) (kw_4_125 hG) (kw_0_18 hG) yd_X8_goesWell ⟨Nat.le_of_ble_eq_true rfl, Nat.le_of_ble_eq_true rfl⟩) (y_preV hG h hAb [0] rfl (by decide) 0 rfl rfl) rfl rfl hl.1 rfl (lv_room (Nat.le_of_ble_eq_true rfl)) dX8_sun_41 ⟨Nat.le_of_ble_eq_true rfl, Nat.le_of_ble_eq_true rfl⟩) (fun r_41 _ H locs hp_41 h => ?_)
          have hp_41 : r_41 = 1 := hp_41
          have h : yH D AZ sZ.heap [(md, .inr (8, [.int 0, .int np, .ref m2, .ref m3, .int sF, .int sT, .int nd, .ref m7, .ref m8, .ref m9, .ref m10, .ref m11, .ref m12, .ref m13, .ref m14, .ref m15, .long mco, .int nf, .ref m18, .ref m19, .ref m20, .ref m21, .long mU, .long mS, .long mW, .int mX, .int mY, .ref m27, .ref m28, .ref m29, .ref m30]))] [] _ _ := h
          rw [hp_41]
          refine lv_if_ne (tgt := 49) hx hb dX8_sun_44 (by decide) (fun c_44 => ?_) (fun c_44 => ?_)
          · skip
            refine lv_aload_n hx hb dX8_sun_49 rfl (lv_at hl 0 rfl) ?_
            refine lv_iload_n hx hb dX8_sun_50 rfl (lv_at hl 1 rfl) ?_
            refine lv_iload_n hx hb dX8_sun_51 rfl (lv_at hl 2 rfl) ?_
            refine lv_iload_n hx hb dX8_sun_52 rfl (lv_at hl 3 rfl) ?_
            refine y_calli (X' := fun _ : Unit => [(md, .inr (8, [.int 0, .int np, .ref m2, .ref m3, .int sF, .int sT, .int nd, .ref m7, .ref m8, .ref m9, .ref m10, .ref m11, .ref m12, .ref m13, .ref m14, .ref m15, .long mco, .int nf, .ref m18, .ref m19, .ref m20, .ref m21, .long (gUp p d t), .long (gSo p d t), .long (gWe d t), .int mX, .int mY, .ref m27, .ref m28, .ref m29, .ref m30]))]) (wc := [(md, .inr (8, [.int 0, .int np, .ref m2, .ref m3, .int sF, .int sT, .int nd, .ref m7, .ref m8, .ref m9, .ref m10, .ref m11, .ref m12, .ref m13, .ref m14, .ref m15, .long mco, .int nf, .ref m18, .ref m19, .ref m20, .ref m21, .long mU, .long mS, .long mW, .int mX, .int mY, .ref m27, .ref m28, .ref m29, .ref m30]))]) (wr := []) h hA [0] [] [0] rfl rfl (by decide) (by decide) (by decide) (fun _ => rfl) (va_runV (own := RX8) (As := [.int p, .int d, .int t]) (rest := []) ⟨hx, hb, hml, hown, y_nil⟩ (m_X8_shines l D ty base _ md 0 np m2 m3 sF sT nd m7 m8 m9 m10 m11 m12 m13 m14 m15 mco nf m18 m19 m20 m21 mU mS mW mX mY m27 m28 m29 m30 p d t   ) (y_cwV (C := RX8) 3 (kw_4_166 hG) (kw_1_7 hG) (kw_4_163 hG) (kw_4_165 hG) (kw_0_19 hG) yd_X8_shines ⟨Nat.le_of_ble_eq_true rfl, Nat.le_of_ble_eq_true rfl⟩) (y_preV hG h hAb [0] rfl (by decide) 0 rfl rfl) rfl rfl hl.1 rfl (lv_room (Nat.le_of_ble_eq_true rfl)) dX8_sun_53 ⟨Nat.le_of_ble_eq_true rfl, Nat.le_of_ble_eq_true rfl⟩) (fun r_53 _ H locs hp_53 h => ?_)
            have hp_53 : r_53 = bI (gLit p d t) := hp_53
            have h : yH D AZ sZ.heap [(md, .inr (8, [.int 0, .int np, .ref m2, .ref m3, .int sF, .int sT, .int nd, .ref m7, .ref m8, .ref m9, .ref m10, .ref m11, .ref m12, .ref m13, .ref m14, .ref m15, .long mco, .int nf, .ref m18, .ref m19, .ref m20, .ref m21, .long (gUp p d t), .long (gSo p d t), .long (gWe d t), .int mX, .int mY, .ref m27, .ref m28, .ref m29, .ref m30]))] [] _ _ := h
            rw [hp_53]
            refine lv_istore (lv' := [(5, .int (bI (gLit p d t))), (0, .ref md), (1, .int p), (2, .int d), (3, .int t), (4, .int w)]) hx hb dX8_sun_56 hl (by decide) rfl (fun ls hl => ?_)
            refine lv_iload hx hb dX8_sun_58 (lv_at hl 5 rfl) ?_
            refine lv_if_ne (tgt := 70) hx hb dX8_sun_60 (by decide) (fun c_60 => ?_) (fun c_60 => ?_)
            · skip
              refine lv_iload hx hb dX8_sun_70 (lv_at hl 5 rfl) ?_
              refine lv_iconst (v := 1) hx hb dX8_sun_72 (by decide) ?_
              refine lv_icmp_ne (tgt := 83) hx hb dX8_sun_73 (by decide) (fun c_73 => ?_) (fun c_73 => ?_)
              · skip
                refine lv_aload_n hx hb dX8_sun_83 rfl (lv_at hl 1 rfl) ?_
                refine y_get (own := RX8) hx hb hown hG h 0 8 24 (T := TX8) (N := 31) rfl rfl (by decide) (yl_8 hG) (kw_4_40 hG) rfl rfl dX8_sun_84 ?_
                exact hret (gWe d t) (0, gUp p d t, gSo p d t, gWe d t) _ _ _ _ _ _ _ _ ⟨kO_t (and_t (bI_t c_9) (and_t (bI_t c_16) (and_t (bI_t c_23) (bI_t c_33)))), fun _ => ((if_neg c_60).trans (if_neg c_73)).symm⟩ h rfl (Nat.le_of_ble_eq_true rfl) (Nat.le_of_ble_eq_true rfl) dX8_sun_87
              · skip
                refine lv_aload_n hx hb dX8_sun_76 rfl (lv_at hl 1 rfl) ?_
                refine y_get (own := RX8) hx hb hown hG h 0 8 23 (T := TX8) (N := 31) rfl rfl (by decide) (yl_8 hG) (kw_4_39 hG) rfl rfl dX8_sun_77 ?_
                refine lv_goto (tgt := 87) hx hb dX8_sun_80 (by decide) ?_
                exact hret (gSo p d t) (0, gUp p d t, gSo p d t, gWe d t) _ _ _ _ _ _ _ _ ⟨kO_t (and_t (bI_t c_9) (and_t (bI_t c_16) (and_t (bI_t c_23) (bI_t c_33)))), fun _ => ((if_neg c_60).trans (if_pos c_73)).symm⟩ h rfl (Nat.le_of_ble_eq_true rfl) (Nat.le_of_ble_eq_true rfl) dX8_sun_87
            · skip
              refine lv_aload_n hx hb dX8_sun_63 rfl (lv_at hl 1 rfl) ?_
              refine y_get (own := RX8) hx hb hown hG h 0 8 22 (T := TX8) (N := 31) rfl rfl (by decide) (yl_8 hG) (kw_4_38 hG) rfl rfl dX8_sun_64 ?_
              refine lv_goto (tgt := 87) hx hb dX8_sun_67 (by decide) ?_
              exact hret (gUp p d t) (0, gUp p d t, gSo p d t, gWe d t) _ _ _ _ _ _ _ _ ⟨kO_t (and_t (bI_t c_9) (and_t (bI_t c_16) (and_t (bI_t c_23) (bI_t c_33)))), fun _ => (if_pos c_60).symm⟩ h rfl (Nat.le_of_ble_eq_true rfl) (Nat.le_of_ble_eq_true rfl) dX8_sun_87
          · exact absurd c_44 (by decide)

abbrev rm_X8_falls : Room := { frames := 4, cells := 0, slots := 0, locals := 89 }
theorem yd_X8_falls : yX8_falls.cls ≠ "java/lang/invoke/MethodHandle" ∧ yX8_falls.cls ≠ "java/lang/invoke/VarHandle" ∧ (parseMethodDescriptor yX8_falls.desc).map (fun d => d.parameters.length) = some 6 := by decide +kernel
set_option maxHeartbeats 4000000 in
set_option maxRecDepth 100000 in
theorem m_X8_falls (l : Launch) (D : va_G) (ty : Nat → ClassId) (base sz : Nat) (md : Nat) (th : Int32) (np : Int32) (m2 : Nat) (m3 : Nat) (sF : Int32) (sT : Int32) (nd : Int32) (m7 : Nat) (m8 : Nat) (m9 : Nat) (m10 : Nat) (m11 : Nat) (m12 : Nat) (m13 : Nat) (m14 : Nat) (m15 : Nat) (mco : Int64) (nf : Int32) (m18 : Nat) (m19 : Nat) (m20 : Nat) (m21 : Nat) (mU : Int64) (mS : Int64) (mW : Int64) (mX : Int32) (mY : Int32) (m27 : Nat) (m28 : Nat) (m29 : Nat) (m30 : Nat) (p : Int32) (d : Int32) (t : Int32) (tl : Int32) (f : Int32) (ro : Int32)    : Met l yX8_falls [.code yX8_falls cX8_falls 20 (some (.boolean))] rm_X8_falls (yPc D ty base sz ([(md, .inr (8, [.int th, .int np, .ref m2, .ref m3, .int sF, .int sT, .int nd, .ref m7, .ref m8, .ref m9, .ref m10, .ref m11, .ref m12, .ref m13, .ref m14, .ref m15, .long mco, .int nf, .ref m18, .ref m19, .ref m20, .ref m21, .long mU, .long mS, .long mW, .int mX, .int mY, .ref m27, .ref m28, .ref m29, .ref m30]))]) [.ref md, .int p, .int d, .int t, .int tl, .int f, .int ro]) (va_Qi (fun (r : Int32) (u : Int64 × Int64 × Int64 × Int32 × Int32) => r = bI (sIs p d t tl f ro) ∧ (sIs p d t tl f ro = true → u.2.2.2.1 = sX p d t tl f ro ∧ u.2.2.2.2 = sY p d t tl f ro)) (yB D (va_A ([(md, .inr (8, [.int th, .int np, .ref m2, .ref m3, .int sF, .int sT, .int nd, .ref m7, .ref m8, .ref m9, .ref m10, .ref m11, .ref m12, .ref m13, .ref m14, .ref m15, .long mco, .int nf, .ref m18, .ref m19, .ref m20, .ref m21, .long mU, .long mS, .long mW, .int mX, .int mY, .ref m27, .ref m28, .ref m29, .ref m30]))]) sz) (fun u : Int64 × Int64 × Int64 × Int32 × Int32 => [(md, .inr (8, [.int th, .int np, .ref m2, .ref m3, .int sF, .int sT, .int nd, .ref m7, .ref m8, .ref m9, .ref m10, .ref m11, .ref m12, .ref m13, .ref m14, .ref m15, .long mco, .int nf, .ref m18, .ref m19, .ref m20, .ref m21, .long u.1, .long u.2.1, .long u.2.2.1, .int u.2.2.2.1, .int u.2.2.2.2, .ref m27, .ref m28, .ref m29, .ref m30]))])) (va_A ([(md, .inr (8, [.int th, .int np, .ref m2, .ref m3, .int sF, .int sT, .int nd, .ref m7, .ref m8, .ref m9, .ref m10, .ref m11, .ref m12, .ref m13, .ref m14, .ref m15, .long mco, .int nf, .ref m18, .ref m19, .ref m20, .ref m21, .long mU, .long mS, .long mW, .int mX, .int mY, .ref m27, .ref m28, .ref m29, .ref m30]))]) sz)) rm_X8_falls.cells rm_X8_falls.slots (va_A ([(md, .inr (8, [.int th, .int np, .ref m2, .ref m3, .int sF, .int sT, .int nd, .ref m7, .ref m8, .ref m9, .ref m10, .ref m11, .ref m12, .ref m13, .ref m14, .ref m15, .long mco, .int nf, .ref m18, .ref m19, .ref m20, .ref m21, .long mU, .long mS, .long mW, .int mX, .int mY, .ref m27, .ref m28, .ref m29, .ref m30]))]) sz) := by
  refine y_start_z (cc := cX8_falls) (maxL := 20) (own := RX8) (by decide +kernel) rfl (Nat.le_of_ble_eq_true rfl) (fun pZ eZ sZ mZ aZ bZ tZ cZ AZ ls QZ hx hb hml hown hnm hG hA hAb hsz h hl hret => ?_)
  have h : yH D AZ sZ.heap [(md, .inr (8, [.int th, .int np, .ref m2, .ref m3, .int sF, .int sT, .int nd, .ref m7, .ref m8, .ref m9, .ref m10, .ref m11, .ref m12, .ref m13, .ref m14, .ref m15, .long mco, .int nf, .ref m18, .ref m19, .ref m20, .ref m21, .long mU, .long mS, .long mW, .int mX, .int mY, .ref m27, .ref m28, .ref m29, .ref m30]))] [] sZ.heap [] := h
  have hl : lv_has ls 20 [(0, .ref md), (1, .int p), (2, .int d), (3, .int t), (4, .int tl), (5, .int f), (6, .int ro)] := hl
  refine lv_aload_n hx hb dX8_falls_0 rfl (lv_at hl 0 rfl) ?_
  refine lv_iload_n hx hb dX8_falls_1 rfl (lv_at hl 1 rfl) ?_
  refine lv_iload_n hx hb dX8_falls_2 rfl (lv_at hl 2 rfl) ?_
  refine lv_iload_n hx hb dX8_falls_3 rfl (lv_at hl 3 rfl) ?_
  refine y_calli (X' := fun _ : Unit => [(md, .inr (8, [.int th, .int np, .ref m2, .ref m3, .int sF, .int sT, .int nd, .ref m7, .ref m8, .ref m9, .ref m10, .ref m11, .ref m12, .ref m13, .ref m14, .ref m15, .long mco, .int nf, .ref m18, .ref m19, .ref m20, .ref m21, .long (gUp p d t), .long (gSo p d t), .long (gWe d t), .int mX, .int mY, .ref m27, .ref m28, .ref m29, .ref m30]))]) (wc := [(md, .inr (8, [.int th, .int np, .ref m2, .ref m3, .int sF, .int sT, .int nd, .ref m7, .ref m8, .ref m9, .ref m10, .ref m11, .ref m12, .ref m13, .ref m14, .ref m15, .long mco, .int nf, .ref m18, .ref m19, .ref m20, .ref m21, .long mU, .long mS, .long mW, .int mX, .int mY, .ref m27, .ref m28, .ref m29, .ref m30]))]) (wr := []) h hA [0] [] [0] rfl rfl (by decide) (by decide) (by decide) (fun _ => rfl) (va_runV (own := RX8) (As := [.int p, .int d, .int t]) (rest := []) ⟨hx, hb, hml, hown, y_nil⟩ (m_X8_shines l D ty base _ md th np m2 m3 sF sT nd m7 m8 m9 m10 m11 m12 m13 m14 m15 mco nf m18 m19 m20 m21 mU mS mW mX mY m27 m28 m29 m30 p d t   ) (y_cwV (C := RX8) 3 (kw_4_166 hG) (kw_1_7 hG) (kw_4_163 hG) (kw_4_165 hG) (kw_0_19 hG) yd_X8_shines ⟨Nat.le_of_ble_eq_true rfl, Nat.le_of_ble_eq_true rfl⟩) (y_preV hG h hAb [0] rfl (by decide) 0 rfl rfl) rfl rfl hl.1 rfl (lv_room (Nat.le_of_ble_eq_true rfl)) dX8_falls_4 ⟨Nat.le_of_ble_eq_true rfl, Nat.le_of_ble_eq_true rfl⟩) (fun r_4 _ H locs hp_4 h => ?_)
  have hp_4 : r_4 = bI (gLit p d t) := hp_4
  have h : yH D AZ sZ.heap [(md, .inr (8, [.int th, .int np, .ref m2, .ref m3, .int sF, .int sT, .int nd, .ref m7, .ref m8, .ref m9, .ref m10, .ref m11, .ref m12, .ref m13, .ref m14, .ref m15, .long mco, .int nf, .ref m18, .ref m19, .ref m20, .ref m21, .long (gUp p d t), .long (gSo p d t), .long (gWe d t), .int mX, .int mY, .ref m27, .ref m28, .ref m29, .ref m30]))] [] _ _ := h
  rw [hp_4]
  refine lv_if_ne (tgt := 12) hx hb dX8_falls_7 (by decide) (fun c_7 => ?_) (fun c_7 => ?_)
  · skip
    refine lv_aload_n hx hb dX8_falls_12 rfl (lv_at hl 0 rfl) ?_
    refine y_get (own := RX8) hx hb hown hG h 0 8 23 (T := TX8) (N := 31) rfl rfl (by decide) (yl_8 hG) (kw_4_39 hG) rfl rfl dX8_falls_13 ?_
    refine lv_iload hx hb dX8_falls_16 (lv_at hl 5 rfl) ?_
    refine y_calli (X' := fun _ : Unit => [(md, .inr (8, [.int th, .int np, .ref m2, .ref m3, .int sF, .int sT, .int nd, .ref m7, .ref m8, .ref m9, .ref m10, .ref m11, .ref m12, .ref m13, .ref m14, .ref m15, .long mco, .int nf, .ref m18, .ref m19, .ref m20, .ref m21, .long (gUp p d t), .long (gSo p d t), .long (gWe d t), .int mX, .int mY, .ref m27, .ref m28, .ref m29, .ref m30]))]) (wc := []) (wr := [(md, .inr (8, [.int th, .int np, .ref m2, .ref m3, .int sF, .int sT, .int nd, .ref m7, .ref m8, .ref m9, .ref m10, .ref m11, .ref m12, .ref m13, .ref m14, .ref m15, .long mco, .int nf, .ref m18, .ref m19, .ref m20, .ref m21, .long (gUp p d t), .long (gSo p d t), .long (gWe d t), .int mX, .int mY, .ref m27, .ref m28, .ref m29, .ref m30]))]) h hA [] [0] [0] rfl rfl (by decide) (by decide) (by decide) (fun _ => rfl) (va_runS (own := RX8) (As := [.int f]) (rest := [.long (gSo p d t)]) ⟨hx, hb, hml, hown, y_nil⟩ (m_X8_cos l D ty base _ f   ) (y_cwS 1 (kw_4_169 hG) (kw_1_7 hG) (kw_4_167 hG) (kw_4_168 hG) yd_X8_cos ⟨Nat.le_of_ble_eq_true rfl, Nat.le_of_ble_eq_true rfl⟩) (y_preS hG h hAb [] rfl (by decide)) rfl rfl hl.1 rfl (lv_room (Nat.le_of_ble_eq_true rfl)) dX8_falls_18 ⟨Nat.le_of_ble_eq_true rfl, Nat.le_of_ble_eq_true rfl⟩) (fun r_18 _ H locs hp_18 h => ?_)
    have hp_18 : r_18 = gCos f := hp_18
    have h : yH D AZ sZ.heap [(md, .inr (8, [.int th, .int np, .ref m2, .ref m3, .int sF, .int sT, .int nd, .ref m7, .ref m8, .ref m9, .ref m10, .ref m11, .ref m12, .ref m13, .ref m14, .ref m15, .long mco, .int nf, .ref m18, .ref m19, .ref m20, .ref m21, .long (gUp p d t), .long (gSo p d t), .long (gWe d t), .int mX, .int mY, .ref m27, .ref m28, .ref m29, .ref m30]))] [] _ _ := h
    rw [hp_18]
    refine lv_i2l hx hb dX8_falls_21 rfl ?_
    refine lv_lmul hx hb dX8_falls_22 ?_
    refine lv_aload_n hx hb dX8_falls_23 rfl (lv_at hl 0 rfl) ?_
    refine y_get (own := RX8) hx hb hown hG h 0 8 24 (T := TX8) (N := 31) rfl rfl (by decide) (yl_8 hG) (kw_4_40 hG) rfl rfl dX8_falls_24 ?_
    refine lv_iload hx hb dX8_falls_27 (lv_at hl 5 rfl) ?_
    refine y_calli (X' := fun _ : Unit => [(md, .inr (8, [.int th, .int np, .ref m2, .ref m3, .int sF, .int sT, .int nd, .ref m7, .ref m8, .ref m9, .ref m10, .ref m11, .ref m12, .ref m13, .ref m14, .ref m15, .long mco, .int nf, .ref m18, .ref m19, .ref m20, .ref m21, .long (gUp p d t), .long (gSo p d t), .long (gWe d t), .int mX, .int mY, .ref m27, .ref m28, .ref m29, .ref m30]))]) (wc := []) (wr := [(md, .inr (8, [.int th, .int np, .ref m2, .ref m3, .int sF, .int sT, .int nd, .ref m7, .ref m8, .ref m9, .ref m10, .ref m11, .ref m12, .ref m13, .ref m14, .ref m15, .long mco, .int nf, .ref m18, .ref m19, .ref m20, .ref m21, .long (gUp p d t), .long (gSo p d t), .long (gWe d t), .int mX, .int mY, .ref m27, .ref m28, .ref m29, .ref m30]))]) h hA [] [0] [0] rfl rfl (by decide) (by decide) (by decide) (fun _ => rfl) (va_runS (own := RX8) (As := [.int f]) (rest := [.long (gWe d t), .long ((gSo p d t) * ((gCos f).toInt64))]) ⟨hx, hb, hml, hown, y_nil⟩ (m_X8_sin l D ty base _ f   ) (y_cwS 1 (kw_4_129 hG) (kw_1_7 hG) (kw_4_127 hG) (kw_4_128 hG) yd_X8_sin ⟨Nat.le_of_ble_eq_true rfl, Nat.le_of_ble_eq_true rfl⟩) (y_preS hG h hAb [] rfl (by decide)) rfl rfl hl.1 rfl (lv_room (Nat.le_of_ble_eq_true rfl)) dX8_falls_29 ⟨Nat.le_of_ble_eq_true rfl, Nat.le_of_ble_eq_true rfl⟩) (fun r_29 _ H locs hp_29 h => ?_)
    have hp_29 : r_29 = gSin f := hp_29
    have h : yH D AZ sZ.heap [(md, .inr (8, [.int th, .int np, .ref m2, .ref m3, .int sF, .int sT, .int nd, .ref m7, .ref m8, .ref m9, .ref m10, .ref m11, .ref m12, .ref m13, .ref m14, .ref m15, .long mco, .int nf, .ref m18, .ref m19, .ref m20, .ref m21, .long (gUp p d t), .long (gSo p d t), .long (gWe d t), .int mX, .int mY, .ref m27, .ref m28, .ref m29, .ref m30]))] [] _ _ := h
    rw [hp_29]
    refine lv_i2l hx hb dX8_falls_32 rfl ?_
    refine lv_lmul hx hb dX8_falls_33 ?_
    refine lv_ladd hx hb dX8_falls_34 ?_
    refine lv_lstore (lv' := [(7, .long (gQ (gSo p d t) (gWe d t) f)), (0, .ref md), (1, .int p), (2, .int d), (3, .int t), (4, .int tl), (5, .int f), (6, .int ro)]) hx hb dX8_falls_35 hl (by decide) rfl (fun ls hl => ?_)
    refine lv_ldc2 (own := RX8) (v := 1000) hx hb hown (kw_4_152 hG).b dX8_falls_37 ?_
    refine lv_aload_n hx hb dX8_falls_40 rfl (lv_at hl 1 rfl) ?_
    refine y_get (own := RX8) hx hb hown hG h 0 8 22 (T := TX8) (N := 31) rfl rfl (by decide) (yl_8 hG) (kw_4_38 hG) rfl rfl dX8_falls_41 ?_
    refine lv_lmul hx hb dX8_falls_44 ?_
    refine lv_iload hx hb dX8_falls_45 (lv_at hl 5 rfl) ?_
    refine y_calli (X' := fun _ : Unit => [(md, .inr (8, [.int th, .int np, .ref m2, .ref m3, .int sF, .int sT, .int nd, .ref m7, .ref m8, .ref m9, .ref m10, .ref m11, .ref m12, .ref m13, .ref m14, .ref m15, .long mco, .int nf, .ref m18, .ref m19, .ref m20, .ref m21, .long (gUp p d t), .long (gSo p d t), .long (gWe d t), .int mX, .int mY, .ref m27, .ref m28, .ref m29, .ref m30]))]) (wc := []) (wr := [(md, .inr (8, [.int th, .int np, .ref m2, .ref m3, .int sF, .int sT, .int nd, .ref m7, .ref m8, .ref m9, .ref m10, .ref m11, .ref m12, .ref m13, .ref m14, .ref m15, .long mco, .int nf, .ref m18, .ref m19, .ref m20, .ref m21, .long (gUp p d t), .long (gSo p d t), .long (gWe d t), .int mX, .int mY, .ref m27, .ref m28, .ref m29, .ref m30]))]) h hA [] [0] [0] rfl rfl (by decide) (by decide) (by decide) (fun _ => rfl) (va_runS (own := RX8) (As := [.int tl]) (rest := [.long (1000 * (gUp p d t))]) ⟨hx, hb, hml, hown, y_nil⟩ (m_X8_cos l D ty base _ tl   ) (y_cwS 1 (kw_4_169 hG) (kw_1_7 hG) (kw_4_167 hG) (kw_4_168 hG) yd_X8_cos ⟨Nat.le_of_ble_eq_true rfl, Nat.le_of_ble_eq_true rfl⟩) (y_preS hG h hAb [] rfl (by decide)) rfl rfl hl.1 rfl (lv_room (Nat.le_of_ble_eq_true rfl)) dX8_falls_47 ⟨Nat.le_of_ble_eq_true rfl, Nat.le_of_ble_eq_true rfl⟩) (fun r_47 _ H locs hp_47 h => ?_)
    have hp_47 : r_47 = gCos tl := hp_47
    have h : yH D AZ sZ.heap [(md, .inr (8, [.int th, .int np, .ref m2, .ref m3, .int sF, .int sT, .int nd, .ref m7, .ref m8, .ref m9, .ref m10, .ref m11, .ref m12, .ref m13, .ref m14, .ref m15, .long mco, .int nf, .ref m18, .ref m19, .ref m20, .ref m21, .long (gUp p d t), .long (gSo p d t), .long (gWe d t), .int mX, .int mY, .ref m27, .ref m28, .ref m29, .ref m30]))] [] _ _ := h
    rw [hp_47]
    refine lv_i2l hx hb dX8_falls_50 rfl ?_
    refine lv_lmul hx hb dX8_falls_51 ?_
    refine lv_lload hx hb dX8_falls_52 (lv_at hl 0 rfl) ?_
    refine lv_iload hx hb dX8_falls_54 (lv_at hl 5 rfl) ?_
    refine y_calli (X' := fun _ : Unit => [(md, .inr (8, [.int th, .int np, .ref m2, .ref m3, .int sF, .int sT, .int nd, .ref m7, .ref m8, .ref m9, .ref m10, .ref m11, .ref m12, .ref m13, .ref m14, .ref m15, .long mco, .int nf, .ref m18, .ref m19, .ref m20, .ref m21, .long (gUp p d t), .long (gSo p d t), .long (gWe d t), .int mX, .int mY, .ref m27, .ref m28, .ref m29, .ref m30]))]) (wc := []) (wr := [(md, .inr (8, [.int th, .int np, .ref m2, .ref m3, .int sF, .int sT, .int nd, .ref m7, .ref m8, .ref m9, .ref m10, .ref m11, .ref m12, .ref m13, .ref m14, .ref m15, .long mco, .int nf, .ref m18, .ref m19, .ref m20, .ref m21, .long (gUp p d t), .long (gSo p d t), .long (gWe d t), .int mX, .int mY, .ref m27, .ref m28, .ref m29, .ref m30]))]) h hA [] [0] [0] rfl rfl (by decide) (by decide) (by decide) (fun _ => rfl) (va_runS (own := RX8) (As := [.int tl]) (rest := [.long (gQ (gSo p d t) (gWe d t) f), .long ((1000 * (gUp p d t)) * ((gCos tl).toInt64))]) ⟨hx, hb, hml, hown, y_nil⟩ (m_X8_sin l D ty base _ tl   ) (y_cwS 1 (kw_4_129 hG) (kw_1_7 hG) (kw_4_127 hG) (kw_4_128 hG) yd_X8_sin ⟨Nat.le_of_ble_eq_true rfl, Nat.le_of_ble_eq_true rfl⟩) (y_preS hG h hAb [] rfl (by decide)) rfl rfl hl.1 rfl (lv_room (Nat.le_of_ble_eq_true rfl)) dX8_falls_56 ⟨Nat.le_of_ble_eq_true rfl, Nat.le_of_ble_eq_true rfl⟩) (fun r_56 _ H locs hp_56 h => ?_)
    have hp_56 : r_56 = gSin tl := hp_56
    have h : yH D AZ sZ.heap [(md, .inr (8, [.int th, .int np, .ref m2, .ref m3, .int sF, .int sT, .int nd, .ref m7, .ref m8, .ref m9, .ref m10, .ref m11, .ref m12, .ref m13, .ref m14, .ref m15, .long mco, .int nf, .ref m18, .ref m19, .ref m20, .ref m21, .long (gUp p d t), .long (gSo p d t), .long (gWe d t), .int mX, .int mY, .ref m27, .ref m28, .ref m29, .ref m30]))] [] _ _ := h
    rw [hp_56]
    refine lv_i2l hx hb dX8_falls_59 rfl ?_
    refine lv_lmul hx hb dX8_falls_60 ?_
    refine lv_ladd hx hb dX8_falls_61 ?_
    refine lv_lstore (lv' := [(9, .long (gN (gUp p d t) (gSo p d t) (gWe d t) tl f)), (7, .long (gQ (gSo p d t) (gWe d t) f)), (0, .ref md), (1, .int p), (2, .int d), (3, .int t), (4, .int tl), (5, .int f), (6, .int ro)]) hx hb dX8_falls_62 hl (by decide) rfl (fun ls hl => ?_)
    refine lv_lload hx hb dX8_falls_64 (lv_at hl 0 rfl) ?_
    refine lv_lconst (v := 0) hx hb dX8_falls_66 (by decide) ?_
    refine W.lcmp hx hb dX8_falls_67 ?_
    refine lv_if_gt (tgt := 73) hx hb dX8_falls_68 (by decide) (fun c_68 => ?_) (fun c_68 => ?_)
    · skip
      have c_68 := (lg_cmp_gt (gN (gUp p d t) (gSo p d t) (gWe d t) tl f) 0).mp c_68
      refine lv_ldc2 (own := RX8) (v := 1000) hx hb hown (kw_4_152 hG).b dX8_falls_73 ?_
      refine lv_aload_n hx hb dX8_falls_76 rfl (lv_at hl 2 rfl) ?_
      refine y_get (own := RX8) hx hb hown hG h 0 8 24 (T := TX8) (N := 31) rfl rfl (by decide) (yl_8 hG) (kw_4_40 hG) rfl rfl dX8_falls_77 ?_
      refine lv_iload hx hb dX8_falls_80 (lv_at hl 7 rfl) ?_
      refine y_calli (X' := fun _ : Unit => [(md, .inr (8, [.int th, .int np, .ref m2, .ref m3, .int sF, .int sT, .int nd, .ref m7, .ref m8, .ref m9, .ref m10, .ref m11, .ref m12, .ref m13, .ref m14, .ref m15, .long mco, .int nf, .ref m18, .ref m19, .ref m20, .ref m21, .long (gUp p d t), .long (gSo p d t), .long (gWe d t), .int mX, .int mY, .ref m27, .ref m28, .ref m29, .ref m30]))]) (wc := []) (wr := [(md, .inr (8, [.int th, .int np, .ref m2, .ref m3, .int sF, .int sT, .int nd, .ref m7, .ref m8, .ref m9, .ref m10, .ref m11, .ref m12, .ref m13, .ref m14, .ref m15, .long mco, .int nf, .ref m18, .ref m19, .ref m20, .ref m21, .long (gUp p d t), .long (gSo p d t), .long (gWe d t), .int mX, .int mY, .ref m27, .ref m28, .ref m29, .ref m30]))]) h hA [] [0] [0] rfl rfl (by decide) (by decide) (by decide) (fun _ => rfl) (va_runS (own := RX8) (As := [.int f]) (rest := [.long (gWe d t), .long 1000]) ⟨hx, hb, hml, hown, y_nil⟩ (m_X8_cos l D ty base _ f   ) (y_cwS 1 (kw_4_169 hG) (kw_1_7 hG) (kw_4_167 hG) (kw_4_168 hG) yd_X8_cos ⟨Nat.le_of_ble_eq_true rfl, Nat.le_of_ble_eq_true rfl⟩) (y_preS hG h hAb [] rfl (by decide)) rfl rfl hl.1 rfl (lv_room (Nat.le_of_ble_eq_true rfl)) dX8_falls_82 ⟨Nat.le_of_ble_eq_true rfl, Nat.le_of_ble_eq_true rfl⟩) (fun r_82 _ H locs hp_82 h => ?_)
      have hp_82 : r_82 = gCos f := hp_82
      have h : yH D AZ sZ.heap [(md, .inr (8, [.int th, .int np, .ref m2, .ref m3, .int sF, .int sT, .int nd, .ref m7, .ref m8, .ref m9, .ref m10, .ref m11, .ref m12, .ref m13, .ref m14, .ref m15, .long mco, .int nf, .ref m18, .ref m19, .ref m20, .ref m21, .long (gUp p d t), .long (gSo p d t), .long (gWe d t), .int mX, .int mY, .ref m27, .ref m28, .ref m29, .ref m30]))] [] _ _ := h
      rw [hp_82]
      refine lv_i2l hx hb dX8_falls_85 rfl ?_
      refine lv_lmul hx hb dX8_falls_86 ?_
      refine lv_aload_n hx hb dX8_falls_87 rfl (lv_at hl 2 rfl) ?_
      refine y_get (own := RX8) hx hb hown hG h 0 8 23 (T := TX8) (N := 31) rfl rfl (by decide) (yl_8 hG) (kw_4_39 hG) rfl rfl dX8_falls_88 ?_
      refine lv_iload hx hb dX8_falls_91 (lv_at hl 7 rfl) ?_
      refine y_calli (X' := fun _ : Unit => [(md, .inr (8, [.int th, .int np, .ref m2, .ref m3, .int sF, .int sT, .int nd, .ref m7, .ref m8, .ref m9, .ref m10, .ref m11, .ref m12, .ref m13, .ref m14, .ref m15, .long mco, .int nf, .ref m18, .ref m19, .ref m20, .ref m21, .long (gUp p d t), .long (gSo p d t), .long (gWe d t), .int mX, .int mY, .ref m27, .ref m28, .ref m29, .ref m30]))]) (wc := []) (wr := [(md, .inr (8, [.int th, .int np, .ref m2, .ref m3, .int sF, .int sT, .int nd, .ref m7, .ref m8, .ref m9, .ref m10, .ref m11, .ref m12, .ref m13, .ref m14, .ref m15, .long mco, .int nf, .ref m18, .ref m19, .ref m20, .ref m21, .long (gUp p d t), .long (gSo p d t), .long (gWe d t), .int mX, .int mY, .ref m27, .ref m28, .ref m29, .ref m30]))]) h hA [] [0] [0] rfl rfl (by decide) (by decide) (by decide) (fun _ => rfl) (va_runS (own := RX8) (As := [.int f]) (rest := [.long (gSo p d t), .long ((gWe d t) * ((gCos f).toInt64)), .long 1000]) ⟨hx, hb, hml, hown, y_nil⟩ (m_X8_sin l D ty base _ f   ) (y_cwS 1 (kw_4_129 hG) (kw_1_7 hG) (kw_4_127 hG) (kw_4_128 hG) yd_X8_sin ⟨Nat.le_of_ble_eq_true rfl, Nat.le_of_ble_eq_true rfl⟩) (y_preS hG h hAb [] rfl (by decide)) rfl rfl hl.1 rfl (lv_room (Nat.le_of_ble_eq_true rfl)) dX8_falls_93 ⟨Nat.le_of_ble_eq_true rfl, Nat.le_of_ble_eq_true rfl⟩) (fun r_93 _ H locs hp_93 h => ?_)
      have hp_93 : r_93 = gSin f := hp_93
      have h : yH D AZ sZ.heap [(md, .inr (8, [.int th, .int np, .ref m2, .ref m3, .int sF, .int sT, .int nd, .ref m7, .ref m8, .ref m9, .ref m10, .ref m11, .ref m12, .ref m13, .ref m14, .ref m15, .long mco, .int nf, .ref m18, .ref m19, .ref m20, .ref m21, .long (gUp p d t), .long (gSo p d t), .long (gWe d t), .int mX, .int mY, .ref m27, .ref m28, .ref m29, .ref m30]))] [] _ _ := h
      rw [hp_93]
      refine lv_i2l hx hb dX8_falls_96 rfl ?_
      refine lv_lmul hx hb dX8_falls_97 ?_
      refine lv_lsub hx hb dX8_falls_98 ?_
      refine lv_lmul hx hb dX8_falls_99 ?_
      refine lv_lstore (lv' := [(11, .long (gA (gSo p d t) (gWe d t) f)), (9, .long (gN (gUp p d t) (gSo p d t) (gWe d t) tl f)), (7, .long (gQ (gSo p d t) (gWe d t) f)), (0, .ref md), (1, .int p), (2, .int d), (3, .int t), (4, .int tl), (5, .int f), (6, .int ro)]) hx hb dX8_falls_100 hl (by decide) rfl (fun ls hl => ?_)
      refine lv_ldc2 (own := RX8) (v := 1000) hx hb hown (kw_4_152 hG).b dX8_falls_102 ?_
      refine lv_aload_n hx hb dX8_falls_105 rfl (lv_at hl 3 rfl) ?_
      refine y_get (own := RX8) hx hb hown hG h 0 8 22 (T := TX8) (N := 31) rfl rfl (by decide) (yl_8 hG) (kw_4_38 hG) rfl rfl dX8_falls_106 ?_
      refine lv_lmul hx hb dX8_falls_109 ?_
      refine lv_iload hx hb dX8_falls_110 (lv_at hl 7 rfl) ?_
      refine y_calli (X' := fun _ : Unit => [(md, .inr (8, [.int th, .int np, .ref m2, .ref m3, .int sF, .int sT, .int nd, .ref m7, .ref m8, .ref m9, .ref m10, .ref m11, .ref m12, .ref m13, .ref m14, .ref m15, .long mco, .int nf, .ref m18, .ref m19, .ref m20, .ref m21, .long (gUp p d t), .long (gSo p d t), .long (gWe d t), .int mX, .int mY, .ref m27, .ref m28, .ref m29, .ref m30]))]) (wc := []) (wr := [(md, .inr (8, [.int th, .int np, .ref m2, .ref m3, .int sF, .int sT, .int nd, .ref m7, .ref m8, .ref m9, .ref m10, .ref m11, .ref m12, .ref m13, .ref m14, .ref m15, .long mco, .int nf, .ref m18, .ref m19, .ref m20, .ref m21, .long (gUp p d t), .long (gSo p d t), .long (gWe d t), .int mX, .int mY, .ref m27, .ref m28, .ref m29, .ref m30]))]) h hA [] [0] [0] rfl rfl (by decide) (by decide) (by decide) (fun _ => rfl) (va_runS (own := RX8) (As := [.int tl]) (rest := [.long (1000 * (gUp p d t))]) ⟨hx, hb, hml, hown, y_nil⟩ (m_X8_sin l D ty base _ tl   ) (y_cwS 1 (kw_4_129 hG) (kw_1_7 hG) (kw_4_127 hG) (kw_4_128 hG) yd_X8_sin ⟨Nat.le_of_ble_eq_true rfl, Nat.le_of_ble_eq_true rfl⟩) (y_preS hG h hAb [] rfl (by decide)) rfl rfl hl.1 rfl (lv_room (Nat.le_of_ble_eq_true rfl)) dX8_falls_112 ⟨Nat.le_of_ble_eq_true rfl, Nat.le_of_ble_eq_true rfl⟩) (fun r_112 _ H locs hp_112 h => ?_)
      have hp_112 : r_112 = gSin tl := hp_112
      have h : yH D AZ sZ.heap [(md, .inr (8, [.int th, .int np, .ref m2, .ref m3, .int sF, .int sT, .int nd, .ref m7, .ref m8, .ref m9, .ref m10, .ref m11, .ref m12, .ref m13, .ref m14, .ref m15, .long mco, .int nf, .ref m18, .ref m19, .ref m20, .ref m21, .long (gUp p d t), .long (gSo p d t), .long (gWe d t), .int mX, .int mY, .ref m27, .ref m28, .ref m29, .ref m30]))] [] _ _ := h
      rw [hp_112]
      refine lv_i2l hx hb dX8_falls_115 rfl ?_
      refine lv_lmul hx hb dX8_falls_116 ?_
      refine lv_lload hx hb dX8_falls_117 (lv_at hl 2 rfl) ?_
      refine lv_iload hx hb dX8_falls_119 (lv_at hl 7 rfl) ?_
      refine y_calli (X' := fun _ : Unit => [(md, .inr (8, [.int th, .int np, .ref m2, .ref m3, .int sF, .int sT, .int nd, .ref m7, .ref m8, .ref m9, .ref m10, .ref m11, .ref m12, .ref m13, .ref m14, .ref m15, .long mco, .int nf, .ref m18, .ref m19, .ref m20, .ref m21, .long (gUp p d t), .long (gSo p d t), .long (gWe d t), .int mX, .int mY, .ref m27, .ref m28, .ref m29, .ref m30]))]) (wc := []) (wr := [(md, .inr (8, [.int th, .int np, .ref m2, .ref m3, .int sF, .int sT, .int nd, .ref m7, .ref m8, .ref m9, .ref m10, .ref m11, .ref m12, .ref m13, .ref m14, .ref m15, .long mco, .int nf, .ref m18, .ref m19, .ref m20, .ref m21, .long (gUp p d t), .long (gSo p d t), .long (gWe d t), .int mX, .int mY, .ref m27, .ref m28, .ref m29, .ref m30]))]) h hA [] [0] [0] rfl rfl (by decide) (by decide) (by decide) (fun _ => rfl) (va_runS (own := RX8) (As := [.int tl]) (rest := [.long (gQ (gSo p d t) (gWe d t) f), .long ((1000 * (gUp p d t)) * ((gSin tl).toInt64))]) ⟨hx, hb, hml, hown, y_nil⟩ (m_X8_cos l D ty base _ tl   ) (y_cwS 1 (kw_4_169 hG) (kw_1_7 hG) (kw_4_167 hG) (kw_4_168 hG) yd_X8_cos ⟨Nat.le_of_ble_eq_true rfl, Nat.le_of_ble_eq_true rfl⟩) (y_preS hG h hAb [] rfl (by decide)) rfl rfl hl.1 rfl (lv_room (Nat.le_of_ble_eq_true rfl)) dX8_falls_121 ⟨Nat.le_of_ble_eq_true rfl, Nat.le_of_ble_eq_true rfl⟩) (fun r_121 _ H locs hp_121 h => ?_)
      have hp_121 : r_121 = gCos tl := hp_121
      have h : yH D AZ sZ.heap [(md, .inr (8, [.int th, .int np, .ref m2, .ref m3, .int sF, .int sT, .int nd, .ref m7, .ref m8, .ref m9, .ref m10, .ref m11, .ref m12, .ref m13, .ref m14, .ref m15, .long mco, .int nf, .ref m18, .ref m19, .ref m20, .ref m21, .long (gUp p d t), .long (gSo p d t), .long (gWe d t), .int mX, .int mY, .ref m27, .ref m28, .ref m29, .ref m30]))] [] _ _ := h
      rw [hp_121]
      refine lv_i2l hx hb dX8_falls_124 rfl ?_
      refine lv_lmul hx hb dX8_falls_125 ?_
      refine lv_lsub hx hb dX8_falls_126 ?_
      refine lv_lstore (lv' := [(13, .long (gB (gUp p d t) (gSo p d t) (gWe d t) tl f)), (11, .long (gA (gSo p d t) (gWe d t) f)), (9, .long (gN (gUp p d t) (gSo p d t) (gWe d t) tl f)), (7, .long (gQ (gSo p d t) (gWe d t) f)), (0, .ref md), (1, .int p), (2, .int d), (3, .int t), (4, .int tl), (5, .int f), (6, .int ro)]) hx hb dX8_falls_127 hl (by decide) rfl (fun ls hl => ?_)
      refine lv_iload hx hb dX8_falls_129 (lv_at hl 10 rfl) ?_
      refine lv_i2l hx hb dX8_falls_131 rfl ?_
      refine lv_lload hx hb dX8_falls_132 (lv_at hl 1 rfl) ?_
      refine lv_lmul hx hb dX8_falls_134 ?_
      refine lv_lneg hx hb dX8_falls_135 ?_
      refine lv_lload hx hb dX8_falls_136 (lv_at hl 2 rfl) ?_
      refine y_calll (X' := fun _ : Unit => [(md, .inr (8, [.int th, .int np, .ref m2, .ref m3, .int sF, .int sT, .int nd, .ref m7, .ref m8, .ref m9, .ref m10, .ref m11, .ref m12, .ref m13, .ref m14, .ref m15, .long mco, .int nf, .ref m18, .ref m19, .ref m20, .ref m21, .long (gUp p d t), .long (gSo p d t), .long (gWe d t), .int mX, .int mY, .ref m27, .ref m28, .ref m29, .ref m30]))]) (wc := []) (wr := [(md, .inr (8, [.int th, .int np, .ref m2, .ref m3, .int sF, .int sT, .int nd, .ref m7, .ref m8, .ref m9, .ref m10, .ref m11, .ref m12, .ref m13, .ref m14, .ref m15, .long mco, .int nf, .ref m18, .ref m19, .ref m20, .ref m21, .long (gUp p d t), .long (gSo p d t), .long (gWe d t), .int mX, .int mY, .ref m27, .ref m28, .ref m29, .ref m30]))]) h hA [] [0] [0] rfl rfl (by decide) (by decide) (by decide) (fun _ => rfl) (va_runS (own := RX8) (As := [.long (-(ro.toInt64 * (gA (gSo p d t) (gWe d t) f))), .long (gN (gUp p d t) (gSo p d t) (gWe d t) tl f)]) (rest := []) ⟨hx, hb, hml, hown, y_nil⟩ (m_X8_down l D ty base _ (- (ro.toInt64 * (gA (gSo p d t) (gWe d t) f))) (gN (gUp p d t) (gSo p d t) (gWe d t) tl f)   (n_pos c_68)) (y_cwS 2 (kw_4_155 hG) (kw_1_7 hG) (kw_4_153 hG) (kw_4_154 hG) yd_X8_down ⟨Nat.le_of_ble_eq_true rfl, Nat.le_of_ble_eq_true rfl⟩) (y_preS hG h hAb [] rfl (by decide)) rfl rfl hl.1 rfl (lv_room (Nat.le_of_ble_eq_true rfl)) dX8_falls_138 ⟨Nat.le_of_ble_eq_true rfl, Nat.le_of_ble_eq_true rfl⟩) (fun r_138 _ H locs hp_138 h => ?_)
      have hp_138 : r_138 = mDn (- (ro.toInt64 * (gA (gSo p d t) (gWe d t) f))) (gN (gUp p d t) (gSo p d t) (gWe d t) tl f) := hp_138
      have h : yH D AZ sZ.heap [(md, .inr (8, [.int th, .int np, .ref m2, .ref m3, .int sF, .int sT, .int nd, .ref m7, .ref m8, .ref m9, .ref m10, .ref m11, .ref m12, .ref m13, .ref m14, .ref m15, .long mco, .int nf, .ref m18, .ref m19, .ref m20, .ref m21, .long (gUp p d t), .long (gSo p d t), .long (gWe d t), .int mX, .int mY, .ref m27, .ref m28, .ref m29, .ref m30]))] [] _ _ := h
      rw [hp_138]
      refine lv_lstore (lv' := [(15, .long (gX (gSo p d t) (gWe d t) (gN (gUp p d t) (gSo p d t) (gWe d t) tl f) f ro)), (13, .long (gB (gUp p d t) (gSo p d t) (gWe d t) tl f)), (11, .long (gA (gSo p d t) (gWe d t) f)), (9, .long (gN (gUp p d t) (gSo p d t) (gWe d t) tl f)), (7, .long (gQ (gSo p d t) (gWe d t) f)), (0, .ref md), (1, .int p), (2, .int d), (3, .int t), (4, .int tl), (5, .int f), (6, .int ro)]) hx hb dX8_falls_141 hl (by decide) rfl (fun ls hl => ?_)
      refine lv_iload hx hb dX8_falls_143 (lv_at hl 11 rfl) ?_
      refine lv_i2l hx hb dX8_falls_145 rfl ?_
      refine lv_lload hx hb dX8_falls_146 (lv_at hl 1 rfl) ?_
      refine lv_lmul hx hb dX8_falls_148 ?_
      refine lv_lneg hx hb dX8_falls_149 ?_
      refine lv_lload hx hb dX8_falls_150 (lv_at hl 3 rfl) ?_
      refine y_calll (X' := fun _ : Unit => [(md, .inr (8, [.int th, .int np, .ref m2, .ref m3, .int sF, .int sT, .int nd, .ref m7, .ref m8, .ref m9, .ref m10, .ref m11, .ref m12, .ref m13, .ref m14, .ref m15, .long mco, .int nf, .ref m18, .ref m19, .ref m20, .ref m21, .long (gUp p d t), .long (gSo p d t), .long (gWe d t), .int mX, .int mY, .ref m27, .ref m28, .ref m29, .ref m30]))]) (wc := []) (wr := [(md, .inr (8, [.int th, .int np, .ref m2, .ref m3, .int sF, .int sT, .int nd, .ref m7, .ref m8, .ref m9, .ref m10, .ref m11, .ref m12, .ref m13, .ref m14, .ref m15, .long mco, .int nf, .ref m18, .ref m19, .ref m20, .ref m21, .long (gUp p d t), .long (gSo p d t), .long (gWe d t), .int mX, .int mY, .ref m27, .ref m28, .ref m29, .ref m30]))]) h hA [] [0] [0] rfl rfl (by decide) (by decide) (by decide) (fun _ => rfl) (va_runS (own := RX8) (As := [.long (-(ro.toInt64 * (gB (gUp p d t) (gSo p d t) (gWe d t) tl f))), .long (gN (gUp p d t) (gSo p d t) (gWe d t) tl f)]) (rest := []) ⟨hx, hb, hml, hown, y_nil⟩ (m_X8_down l D ty base _ (- (ro.toInt64 * (gB (gUp p d t) (gSo p d t) (gWe d t) tl f))) (gN (gUp p d t) (gSo p d t) (gWe d t) tl f)   (n_pos c_68)) (y_cwS 2 (kw_4_155 hG) (kw_1_7 hG) (kw_4_153 hG) (kw_4_154 hG) yd_X8_down ⟨Nat.le_of_ble_eq_true rfl, Nat.le_of_ble_eq_true rfl⟩) (y_preS hG h hAb [] rfl (by decide)) rfl rfl hl.1 rfl (lv_room (Nat.le_of_ble_eq_true rfl)) dX8_falls_152 ⟨Nat.le_of_ble_eq_true rfl, Nat.le_of_ble_eq_true rfl⟩) (fun r_152 _ H locs hp_152 h => ?_)
      have hp_152 : r_152 = mDn (- (ro.toInt64 * (gB (gUp p d t) (gSo p d t) (gWe d t) tl f))) (gN (gUp p d t) (gSo p d t) (gWe d t) tl f) := hp_152
      have h : yH D AZ sZ.heap [(md, .inr (8, [.int th, .int np, .ref m2, .ref m3, .int sF, .int sT, .int nd, .ref m7, .ref m8, .ref m9, .ref m10, .ref m11, .ref m12, .ref m13, .ref m14, .ref m15, .long mco, .int nf, .ref m18, .ref m19, .ref m20, .ref m21, .long (gUp p d t), .long (gSo p d t), .long (gWe d t), .int mX, .int mY, .ref m27, .ref m28, .ref m29, .ref m30]))] [] _ _ := h
      rw [hp_152]
      refine lv_lstore (lv' := [(17, .long (gY (gUp p d t) (gSo p d t) (gWe d t) (gN (gUp p d t) (gSo p d t) (gWe d t) tl f) tl f ro)), (15, .long (gX (gSo p d t) (gWe d t) (gN (gUp p d t) (gSo p d t) (gWe d t) tl f) f ro)), (13, .long (gB (gUp p d t) (gSo p d t) (gWe d t) tl f)), (11, .long (gA (gSo p d t) (gWe d t) f)), (9, .long (gN (gUp p d t) (gSo p d t) (gWe d t) tl f)), (7, .long (gQ (gSo p d t) (gWe d t) f)), (0, .ref md), (1, .int p), (2, .int d), (3, .int t), (4, .int tl), (5, .int f), (6, .int ro)]) hx hb dX8_falls_155 hl (by decide) rfl (fun ls hl => ?_)
      refine lv_lload hx hb dX8_falls_157 (lv_at hl 1 rfl) ?_
      refine lv_ldc2 (own := RX8) (v := (-9999)) hx hb hown (kw_4_233 hG).b dX8_falls_159 ?_
      refine W.lcmp hx hb dX8_falls_162 ?_
      refine lv_if_lt (tgt := 197) hx hb dX8_falls_163 (by decide) (fun c_163 => ?_) (fun c_163 => ?_)
      · skip
        have c_163 := (lg_cmp_lt (gX (gSo p d t) (gWe d t) (gN (gUp p d t) (gSo p d t) (gWe d t) tl f) f ro) (-9999)).mp c_163
        refine lv_iconst (v := 0) hx hb dX8_falls_197 (by decide) ?_
        refine lv_istore (lv' := [(19, .int 0), (17, .long (gY (gUp p d t) (gSo p d t) (gWe d t) (gN (gUp p d t) (gSo p d t) (gWe d t) tl f) tl f ro)), (15, .long (gX (gSo p d t) (gWe d t) (gN (gUp p d t) (gSo p d t) (gWe d t) tl f) f ro)), (13, .long (gB (gUp p d t) (gSo p d t) (gWe d t) tl f)), (11, .long (gA (gSo p d t) (gWe d t) f)), (9, .long (gN (gUp p d t) (gSo p d t) (gWe d t) tl f)), (7, .long (gQ (gSo p d t) (gWe d t) f)), (0, .ref md), (1, .int p), (2, .int d), (3, .int t), (4, .int tl), (5, .int f), (6, .int ro)]) hx hb dX8_falls_198 hl (by decide) rfl (fun ls hl => ?_)
        refine lv_aload_n hx hb dX8_falls_200 rfl (lv_at hl 7 rfl) ?_
        refine lv_iload hx hb dX8_falls_201 (lv_at hl 0 rfl) ?_
        refine lv_if_eq (tgt := 212) hx hb dX8_falls_203 (by decide) (fun c_203 => ?_) (fun c_203 => ?_)
        · skip
          refine lv_iconst (v := 0) hx hb dX8_falls_212 (by decide) ?_
          refine y_put (own := RX8) (tf := tyX8) (X' := [(md, .inr (8, [.int th, .int np, .ref m2, .ref m3, .int sF, .int sT, .int nd, .ref m7, .ref m8, .ref m9, .ref m10, .ref m11, .ref m12, .ref m13, .ref m14, .ref m15, .long mco, .int nf, .ref m18, .ref m19, .ref m20, .ref m21, .long (gUp p d t), .long (gSo p d t), .long (gWe d t), .int 0, .int mY, .ref m27, .ref m28, .ref m29, .ref m30]))]) hx hb hown hG h 0 8 25 (T := TX8) (N := 31) rfl rfl (by decide) (yl_8 hG) ycl_8 (kw_4_41 hG) rfl rfl rfl rfl (Nat.le_of_ble_eq_true rfl) rfl dX8_falls_213 (fun H locs h => ?_)
          refine lv_aload_n hx hb dX8_falls_216 rfl (lv_at hl 7 rfl) ?_
          refine lv_iload hx hb dX8_falls_217 (lv_at hl 0 rfl) ?_
          refine lv_if_eq (tgt := 228) hx hb dX8_falls_219 (by decide) (fun c_219 => ?_) (fun c_219 => ?_)
          · skip
            refine lv_iconst (v := 0) hx hb dX8_falls_228 (by decide) ?_
            refine y_put (own := RX8) (tf := tyX8) (X' := [(md, .inr (8, [.int th, .int np, .ref m2, .ref m3, .int sF, .int sT, .int nd, .ref m7, .ref m8, .ref m9, .ref m10, .ref m11, .ref m12, .ref m13, .ref m14, .ref m15, .long mco, .int nf, .ref m18, .ref m19, .ref m20, .ref m21, .long (gUp p d t), .long (gSo p d t), .long (gWe d t), .int 0, .int 0, .ref m27, .ref m28, .ref m29, .ref m30]))]) hx hb hown hG h 0 8 26 (T := TX8) (N := 31) rfl rfl (by decide) (yl_8 hG) ycl_8 (kw_4_42 hG) rfl rfl rfl rfl (Nat.le_of_ble_eq_true rfl) rfl dX8_falls_229 (fun H locs h => ?_)
            refine lv_iload hx hb dX8_falls_232 (lv_at hl 0 rfl) ?_
            exact hret 0 (gUp p d t, gSo p d t, gWe d t, 0, 0) _ _ _ _ _ _ _ _ (Or.inl rfl) (fall_no (is_f3 (wL_x1 c_163))) h rfl (Nat.le_of_ble_eq_true rfl) (Nat.le_of_ble_eq_true rfl) dX8_falls_234
          · exact absurd (by decide) c_219
        · exact absurd (by decide) c_203
      · skip
        have c_163 := fun q => c_163 ((lg_cmp_lt (gX (gSo p d t) (gWe d t) (gN (gUp p d t) (gSo p d t) (gWe d t) tl f) f ro) (-9999)).mpr q)
        refine lv_lload hx hb dX8_falls_166 (lv_at hl 1 rfl) ?_
        refine lv_ldc2 (own := RX8) (v := 9999) hx hb hown (kw_4_234 hG).b dX8_falls_168 ?_
        refine W.lcmp hx hb dX8_falls_171 ?_
        refine lv_if_gt (tgt := 197) hx hb dX8_falls_172 (by decide) (fun c_172 => ?_) (fun c_172 => ?_)
        · skip
          have c_172 := (lg_cmp_gt (gX (gSo p d t) (gWe d t) (gN (gUp p d t) (gSo p d t) (gWe d t) tl f) f ro) 9999).mp c_172
          refine lv_iconst (v := 0) hx hb dX8_falls_197 (by decide) ?_
          refine lv_istore (lv' := [(19, .int 0), (17, .long (gY (gUp p d t) (gSo p d t) (gWe d t) (gN (gUp p d t) (gSo p d t) (gWe d t) tl f) tl f ro)), (15, .long (gX (gSo p d t) (gWe d t) (gN (gUp p d t) (gSo p d t) (gWe d t) tl f) f ro)), (13, .long (gB (gUp p d t) (gSo p d t) (gWe d t) tl f)), (11, .long (gA (gSo p d t) (gWe d t) f)), (9, .long (gN (gUp p d t) (gSo p d t) (gWe d t) tl f)), (7, .long (gQ (gSo p d t) (gWe d t) f)), (0, .ref md), (1, .int p), (2, .int d), (3, .int t), (4, .int tl), (5, .int f), (6, .int ro)]) hx hb dX8_falls_198 hl (by decide) rfl (fun ls hl => ?_)
          refine lv_aload_n hx hb dX8_falls_200 rfl (lv_at hl 7 rfl) ?_
          refine lv_iload hx hb dX8_falls_201 (lv_at hl 0 rfl) ?_
          refine lv_if_eq (tgt := 212) hx hb dX8_falls_203 (by decide) (fun c_203 => ?_) (fun c_203 => ?_)
          · skip
            refine lv_iconst (v := 0) hx hb dX8_falls_212 (by decide) ?_
            refine y_put (own := RX8) (tf := tyX8) (X' := [(md, .inr (8, [.int th, .int np, .ref m2, .ref m3, .int sF, .int sT, .int nd, .ref m7, .ref m8, .ref m9, .ref m10, .ref m11, .ref m12, .ref m13, .ref m14, .ref m15, .long mco, .int nf, .ref m18, .ref m19, .ref m20, .ref m21, .long (gUp p d t), .long (gSo p d t), .long (gWe d t), .int 0, .int mY, .ref m27, .ref m28, .ref m29, .ref m30]))]) hx hb hown hG h 0 8 25 (T := TX8) (N := 31) rfl rfl (by decide) (yl_8 hG) ycl_8 (kw_4_41 hG) rfl rfl rfl rfl (Nat.le_of_ble_eq_true rfl) rfl dX8_falls_213 (fun H locs h => ?_)
            refine lv_aload_n hx hb dX8_falls_216 rfl (lv_at hl 7 rfl) ?_
            refine lv_iload hx hb dX8_falls_217 (lv_at hl 0 rfl) ?_
            refine lv_if_eq (tgt := 228) hx hb dX8_falls_219 (by decide) (fun c_219 => ?_) (fun c_219 => ?_)
            · skip
              refine lv_iconst (v := 0) hx hb dX8_falls_228 (by decide) ?_
              refine y_put (own := RX8) (tf := tyX8) (X' := [(md, .inr (8, [.int th, .int np, .ref m2, .ref m3, .int sF, .int sT, .int nd, .ref m7, .ref m8, .ref m9, .ref m10, .ref m11, .ref m12, .ref m13, .ref m14, .ref m15, .long mco, .int nf, .ref m18, .ref m19, .ref m20, .ref m21, .long (gUp p d t), .long (gSo p d t), .long (gWe d t), .int 0, .int 0, .ref m27, .ref m28, .ref m29, .ref m30]))]) hx hb hown hG h 0 8 26 (T := TX8) (N := 31) rfl rfl (by decide) (yl_8 hG) ycl_8 (kw_4_42 hG) rfl rfl rfl rfl (Nat.le_of_ble_eq_true rfl) rfl dX8_falls_229 (fun H locs h => ?_)
              refine lv_iload hx hb dX8_falls_232 (lv_at hl 0 rfl) ?_
              exact hret 0 (gUp p d t, gSo p d t, gWe d t, 0, 0) _ _ _ _ _ _ _ _ (Or.inl rfl) (fall_no (is_f3 (wL_x2 c_172))) h rfl (Nat.le_of_ble_eq_true rfl) (Nat.le_of_ble_eq_true rfl) dX8_falls_234
            · exact absurd (by decide) c_219
          · exact absurd (by decide) c_203
        · skip
          have c_172 := fun q => c_172 ((lg_cmp_gt (gX (gSo p d t) (gWe d t) (gN (gUp p d t) (gSo p d t) (gWe d t) tl f) f ro) 9999).mpr q)
          refine lv_lload hx hb dX8_falls_175 (lv_at hl 0 rfl) ?_
          refine lv_ldc2 (own := RX8) (v := (-9999)) hx hb hown (kw_4_233 hG).b dX8_falls_177 ?_
          refine W.lcmp hx hb dX8_falls_180 ?_
          refine lv_if_lt (tgt := 197) hx hb dX8_falls_181 (by decide) (fun c_181 => ?_) (fun c_181 => ?_)
          · skip
            have c_181 := (lg_cmp_lt (gY (gUp p d t) (gSo p d t) (gWe d t) (gN (gUp p d t) (gSo p d t) (gWe d t) tl f) tl f ro) (-9999)).mp c_181
            refine lv_iconst (v := 0) hx hb dX8_falls_197 (by decide) ?_
            refine lv_istore (lv' := [(19, .int 0), (17, .long (gY (gUp p d t) (gSo p d t) (gWe d t) (gN (gUp p d t) (gSo p d t) (gWe d t) tl f) tl f ro)), (15, .long (gX (gSo p d t) (gWe d t) (gN (gUp p d t) (gSo p d t) (gWe d t) tl f) f ro)), (13, .long (gB (gUp p d t) (gSo p d t) (gWe d t) tl f)), (11, .long (gA (gSo p d t) (gWe d t) f)), (9, .long (gN (gUp p d t) (gSo p d t) (gWe d t) tl f)), (7, .long (gQ (gSo p d t) (gWe d t) f)), (0, .ref md), (1, .int p), (2, .int d), (3, .int t), (4, .int tl), (5, .int f), (6, .int ro)]) hx hb dX8_falls_198 hl (by decide) rfl (fun ls hl => ?_)
            refine lv_aload_n hx hb dX8_falls_200 rfl (lv_at hl 7 rfl) ?_
            refine lv_iload hx hb dX8_falls_201 (lv_at hl 0 rfl) ?_
            refine lv_if_eq (tgt := 212) hx hb dX8_falls_203 (by decide) (fun c_203 => ?_) (fun c_203 => ?_)
            · skip
              refine lv_iconst (v := 0) hx hb dX8_falls_212 (by decide) ?_
              refine y_put (own := RX8) (tf := tyX8) (X' := [(md, .inr (8, [.int th, .int np, .ref m2, .ref m3, .int sF, .int sT, .int nd, .ref m7, .ref m8, .ref m9, .ref m10, .ref m11, .ref m12, .ref m13, .ref m14, .ref m15, .long mco, .int nf, .ref m18, .ref m19, .ref m20, .ref m21, .long (gUp p d t), .long (gSo p d t), .long (gWe d t), .int 0, .int mY, .ref m27, .ref m28, .ref m29, .ref m30]))]) hx hb hown hG h 0 8 25 (T := TX8) (N := 31) rfl rfl (by decide) (yl_8 hG) ycl_8 (kw_4_41 hG) rfl rfl rfl rfl (Nat.le_of_ble_eq_true rfl) rfl dX8_falls_213 (fun H locs h => ?_)
              refine lv_aload_n hx hb dX8_falls_216 rfl (lv_at hl 7 rfl) ?_
              refine lv_iload hx hb dX8_falls_217 (lv_at hl 0 rfl) ?_
              refine lv_if_eq (tgt := 228) hx hb dX8_falls_219 (by decide) (fun c_219 => ?_) (fun c_219 => ?_)
              · skip
                refine lv_iconst (v := 0) hx hb dX8_falls_228 (by decide) ?_
                refine y_put (own := RX8) (tf := tyX8) (X' := [(md, .inr (8, [.int th, .int np, .ref m2, .ref m3, .int sF, .int sT, .int nd, .ref m7, .ref m8, .ref m9, .ref m10, .ref m11, .ref m12, .ref m13, .ref m14, .ref m15, .long mco, .int nf, .ref m18, .ref m19, .ref m20, .ref m21, .long (gUp p d t), .long (gSo p d t), .long (gWe d t), .int 0, .int 0, .ref m27, .ref m28, .ref m29, .ref m30]))]) hx hb hown hG h 0 8 26 (T := TX8) (N := 31) rfl rfl (by decide) (yl_8 hG) ycl_8 (kw_4_42 hG) rfl rfl rfl rfl (Nat.le_of_ble_eq_true rfl) rfl dX8_falls_229 (fun H locs h => ?_)
                refine lv_iload hx hb dX8_falls_232 (lv_at hl 0 rfl) ?_
                exact hret 0 (gUp p d t, gSo p d t, gWe d t, 0, 0) _ _ _ _ _ _ _ _ (Or.inl rfl) (fall_no (is_f4 (wL_x1 c_181))) h rfl (Nat.le_of_ble_eq_true rfl) (Nat.le_of_ble_eq_true rfl) dX8_falls_234
              · exact absurd (by decide) c_219
            · exact absurd (by decide) c_203
          · skip
            have c_181 := fun q => c_181 ((lg_cmp_lt (gY (gUp p d t) (gSo p d t) (gWe d t) (gN (gUp p d t) (gSo p d t) (gWe d t) tl f) tl f ro) (-9999)).mpr q)
            refine lv_lload hx hb dX8_falls_184 (lv_at hl 0 rfl) ?_
            refine lv_ldc2 (own := RX8) (v := 9999) hx hb hown (kw_4_234 hG).b dX8_falls_186 ?_
            refine W.lcmp hx hb dX8_falls_189 ?_
            refine lv_if_gt (tgt := 197) hx hb dX8_falls_190 (by decide) (fun c_190 => ?_) (fun c_190 => ?_)
            · skip
              have c_190 := (lg_cmp_gt (gY (gUp p d t) (gSo p d t) (gWe d t) (gN (gUp p d t) (gSo p d t) (gWe d t) tl f) tl f ro) 9999).mp c_190
              refine lv_iconst (v := 0) hx hb dX8_falls_197 (by decide) ?_
              refine lv_istore (lv' := [(19, .int 0), (17, .long (gY (gUp p d t) (gSo p d t) (gWe d t) (gN (gUp p d t) (gSo p d t) (gWe d t) tl f) tl f ro)), (15, .long (gX (gSo p d t) (gWe d t) (gN (gUp p d t) (gSo p d t) (gWe d t) tl f) f ro)), (13, .long (gB (gUp p d t) (gSo p d t) (gWe d t) tl f)), (11, .long (gA (gSo p d t) (gWe d t) f)), (9, .long (gN (gUp p d t) (gSo p d t) (gWe d t) tl f)), (7, .long (gQ (gSo p d t) (gWe d t) f)), (0, .ref md), (1, .int p), (2, .int d), (3, .int t), (4, .int tl), (5, .int f), (6, .int ro)]) hx hb dX8_falls_198 hl (by decide) rfl (fun ls hl => ?_)
              refine lv_aload_n hx hb dX8_falls_200 rfl (lv_at hl 7 rfl) ?_
              refine lv_iload hx hb dX8_falls_201 (lv_at hl 0 rfl) ?_
              refine lv_if_eq (tgt := 212) hx hb dX8_falls_203 (by decide) (fun c_203 => ?_) (fun c_203 => ?_)
              · skip
                refine lv_iconst (v := 0) hx hb dX8_falls_212 (by decide) ?_
                refine y_put (own := RX8) (tf := tyX8) (X' := [(md, .inr (8, [.int th, .int np, .ref m2, .ref m3, .int sF, .int sT, .int nd, .ref m7, .ref m8, .ref m9, .ref m10, .ref m11, .ref m12, .ref m13, .ref m14, .ref m15, .long mco, .int nf, .ref m18, .ref m19, .ref m20, .ref m21, .long (gUp p d t), .long (gSo p d t), .long (gWe d t), .int 0, .int mY, .ref m27, .ref m28, .ref m29, .ref m30]))]) hx hb hown hG h 0 8 25 (T := TX8) (N := 31) rfl rfl (by decide) (yl_8 hG) ycl_8 (kw_4_41 hG) rfl rfl rfl rfl (Nat.le_of_ble_eq_true rfl) rfl dX8_falls_213 (fun H locs h => ?_)
                refine lv_aload_n hx hb dX8_falls_216 rfl (lv_at hl 7 rfl) ?_
                refine lv_iload hx hb dX8_falls_217 (lv_at hl 0 rfl) ?_
                refine lv_if_eq (tgt := 228) hx hb dX8_falls_219 (by decide) (fun c_219 => ?_) (fun c_219 => ?_)
                · skip
                  refine lv_iconst (v := 0) hx hb dX8_falls_228 (by decide) ?_
                  refine y_put (own := RX8) (tf := tyX8) (X' := [(md, .inr (8, [.int th, .int np, .ref m2, .ref m3, .int sF, .int sT, .int nd, .ref m7, .ref m8, .ref m9, .ref m10, .ref m11, .ref m12, .ref m13, .ref m14, .ref m15, .long mco, .int nf, .ref m18, .ref m19, .ref m20, .ref m21, .long (gUp p d t), .long (gSo p d t), .long (gWe d t), .int 0, .int 0, .ref m27, .ref m28, .ref m29, .ref m30]))]) hx hb hown hG h 0 8 26 (T := TX8) (N := 31) rfl rfl (by decide) (yl_8 hG) ycl_8 (kw_4_42 hG) rfl rfl rfl rfl (Nat.le_of_ble_eq_true rfl) rfl dX8_falls_229 (fun H locs h => ?_)
                  refine lv_iload hx hb dX8_falls_232 (lv_at hl 0 rfl) ?_
                  exact hret 0 (gUp p d t, gSo p d t, gWe d t, 0, 0) _ _ _ _ _ _ _ _ (Or.inl rfl) (fall_no (is_f4 (wL_x2 c_190))) h rfl (Nat.le_of_ble_eq_true rfl) (Nat.le_of_ble_eq_true rfl) dX8_falls_234
                · exact absurd (by decide) c_219
              · exact absurd (by decide) c_203
            · skip
              have c_190 := fun q => c_190 ((lg_cmp_gt (gY (gUp p d t) (gSo p d t) (gWe d t) (gN (gUp p d t) (gSo p d t) (gWe d t) tl f) tl f ro) 9999).mpr q)
              refine lv_iconst (v := 1) hx hb dX8_falls_193 (by decide) ?_
              refine lv_goto (tgt := 198) hx hb dX8_falls_194 (by decide) ?_
              refine lv_istore (lv' := [(19, .int 1), (17, .long (gY (gUp p d t) (gSo p d t) (gWe d t) (gN (gUp p d t) (gSo p d t) (gWe d t) tl f) tl f ro)), (15, .long (gX (gSo p d t) (gWe d t) (gN (gUp p d t) (gSo p d t) (gWe d t) tl f) f ro)), (13, .long (gB (gUp p d t) (gSo p d t) (gWe d t) tl f)), (11, .long (gA (gSo p d t) (gWe d t) f)), (9, .long (gN (gUp p d t) (gSo p d t) (gWe d t) tl f)), (7, .long (gQ (gSo p d t) (gWe d t) f)), (0, .ref md), (1, .int p), (2, .int d), (3, .int t), (4, .int tl), (5, .int f), (6, .int ro)]) hx hb dX8_falls_198 hl (by decide) rfl (fun ls hl => ?_)
              refine lv_aload_n hx hb dX8_falls_200 rfl (lv_at hl 7 rfl) ?_
              refine lv_iload hx hb dX8_falls_201 (lv_at hl 0 rfl) ?_
              refine lv_if_eq (tgt := 212) hx hb dX8_falls_203 (by decide) (fun c_203 => ?_) (fun c_203 => ?_)
              · exact absurd c_203 (by decide)
              · skip
                refine lv_lload hx hb dX8_falls_206 (lv_at hl 2 rfl) ?_
                refine lv_l2i hx hb dX8_falls_208 rfl ?_
                refine lv_goto (tgt := 213) hx hb dX8_falls_209 (by decide) ?_
                refine y_put (own := RX8) (tf := tyX8) (X' := [(md, .inr (8, [.int th, .int np, .ref m2, .ref m3, .int sF, .int sT, .int nd, .ref m7, .ref m8, .ref m9, .ref m10, .ref m11, .ref m12, .ref m13, .ref m14, .ref m15, .long mco, .int nf, .ref m18, .ref m19, .ref m20, .ref m21, .long (gUp p d t), .long (gSo p d t), .long (gWe d t), .int (sX p d t tl f ro), .int mY, .ref m27, .ref m28, .ref m29, .ref m30]))]) hx hb hown hG h 0 8 25 (T := TX8) (N := 31) rfl rfl (by decide) (yl_8 hG) ycl_8 (kw_4_41 hG) rfl rfl rfl rfl (Nat.le_of_ble_eq_true rfl) rfl dX8_falls_213 (fun H locs h => ?_)
                refine lv_aload_n hx hb dX8_falls_216 rfl (lv_at hl 7 rfl) ?_
                refine lv_iload hx hb dX8_falls_217 (lv_at hl 0 rfl) ?_
                refine lv_if_eq (tgt := 228) hx hb dX8_falls_219 (by decide) (fun c_219 => ?_) (fun c_219 => ?_)
                · exact absurd c_219 (by decide)
                · skip
                  refine lv_lload hx hb dX8_falls_222 (lv_at hl 1 rfl) ?_
                  refine lv_l2i hx hb dX8_falls_224 rfl ?_
                  refine lv_goto (tgt := 229) hx hb dX8_falls_225 (by decide) ?_
                  refine y_put (own := RX8) (tf := tyX8) (X' := [(md, .inr (8, [.int th, .int np, .ref m2, .ref m3, .int sF, .int sT, .int nd, .ref m7, .ref m8, .ref m9, .ref m10, .ref m11, .ref m12, .ref m13, .ref m14, .ref m15, .long mco, .int nf, .ref m18, .ref m19, .ref m20, .ref m21, .long (gUp p d t), .long (gSo p d t), .long (gWe d t), .int (sX p d t tl f ro), .int (sY p d t tl f ro), .ref m27, .ref m28, .ref m29, .ref m30]))]) hx hb hown hG h 0 8 26 (T := TX8) (N := 31) rfl rfl (by decide) (yl_8 hG) ycl_8 (kw_4_42 hG) rfl rfl rfl rfl (Nat.le_of_ble_eq_true rfl) rfl dX8_falls_229 (fun H locs h => ?_)
                  refine lv_iload hx hb dX8_falls_232 (lv_at hl 0 rfl) ?_
                  exact hret 1 (gUp p d t, gSo p d t, gWe d t, sX p d t tl f ro, sY p d t tl f ro) _ _ _ _ _ _ _ _ (Or.inr rfl) (fall_yes (is_t (bI_dec c_7) (Int64.not_le.mpr c_68) (wL_xt c_163 c_172) (wL_xt c_181 c_190)) ⟨rfl, rfl⟩) h rfl (Nat.le_of_ble_eq_true rfl) (Nat.le_of_ble_eq_true rfl) dX8_falls_234
    · skip
      have c_68 := fun q => c_68 ((lg_cmp_gt (gN (gUp p d t) (gSo p d t) (gWe d t) tl f) 0).mpr q)
      refine lv_iconst (v := 0) hx hb dX8_falls_71 (by decide) ?_
      exact hret 0 (gUp p d t, gSo p d t, gWe d t, mX, mY) _ _ _ _ _ _ _ _ (Or.inl rfl) (fall_no (is_f2 (Int64.not_lt.mp c_68))) h rfl (Nat.le_of_ble_eq_true rfl) (Nat.le_of_ble_eq_true rfl) dX8_falls_72
  · skip
    refine lv_iconst (v := 0) hx hb dX8_falls_10 (by decide) ?_
    exact hret 0 (gUp p d t, gSo p d t, gWe d t, mX, mY) _ _ _ _ _ _ _ _ (Or.inl rfl) (fall_no (is_f1 (bI_decf c_7))) h rfl (Nat.le_of_ble_eq_true rfl) (Nat.le_of_ble_eq_true rfl) dX8_falls_11

abbrev rm_X8_fallsAsMade : Room := { frames := 5, cells := 0, slots := 0, locals := 128 }
theorem yd_X8_fallsAsMade : yX8_fallsAsMade.cls ≠ "java/lang/invoke/MethodHandle" ∧ yX8_fallsAsMade.cls ≠ "java/lang/invoke/VarHandle" ∧ (parseMethodDescriptor yX8_fallsAsMade.desc).map (fun d => d.parameters.length) = some 3 := by decide +kernel
set_option maxHeartbeats 4000000 in
set_option maxRecDepth 100000 in
theorem m_X8_fallsAsMade (l : Launch) (D : va_G) (ty : Nat → ClassId) (base sz : Nat) (md : Nat) (th : Int32) (np : Int32) (m2 : Nat) (m3 : Nat) (sF : Int32) (sT : Int32) (nd : Int32) (m7 : Nat) (m8 : Nat) (m9 : Nat) (m10 : Nat) (m11 : Nat) (m12 : Nat) (m13 : Nat) (m14 : Nat) (m15 : Nat) (mco : Int64) (nf : Int32) (m18 : Nat) (m19 : Nat) (m20 : Nat) (m21 : Nat) (mU : Int64) (mS : Int64) (mW : Int64) (mX : Int32) (mY : Int32) (m27 : Nat) (m28 : Nat) (m29 : Nat) (m30 : Nat) (La : Nat → Int32) (Ma : Nat → Int32) (Mt : Nat → Int32) (Mf : Nat → Int32) (Ro : Nat → Int32) (dd : Nat) (j : Nat) (d : Int32) (t : Int32)   (hdd : dd < 10) (hj8 : j < 8) (hAi : Ma dd = nI j) : Met l yX8_fallsAsMade [.code yX8_fallsAsMade cX8_fallsAsMade 4 (some (.boolean))] rm_X8_fallsAsMade (yPc D ty base sz ([(md, .inr (8, [.int th, .int np, .ref m2, .ref m3, .int sF, .int sT, .int nd, .ref m7, .ref m8, .ref m9, .ref m10, .ref m11, .ref m12, .ref m13, .ref m14, .ref m15, .long mco, .int nf, .ref m18, .ref m19, .ref m20, .ref m21, .long mU, .long mS, .long mW, .int mX, .int mY, .ref m27, .ref m28, .ref m29, .ref m30])), (m2, .inl (ty 0, 8, .inl La)), (m8, .inl (ty 0, 10, .inl Ma)), (m9, .inl (ty 0, 10, .inl Mt)), (m10, .inl (ty 0, 10, .inl Mf)), (m7, .inl (ty 0, 10, .inl Ro))]) [.ref md, .int (nI dd), .int d, .int t]) (va_Qi (fun (r : Int32) (u : Int64 × Int64 × Int64 × Int32 × Int32) => r = bI (sIs (La j) d t (Mt dd) (Mf dd) (Ro dd)) ∧ (sIs (La j) d t (Mt dd) (Mf dd) (Ro dd) = true → u.2.2.2.1 = sX (La j) d t (Mt dd) (Mf dd) (Ro dd) ∧ u.2.2.2.2 = sY (La j) d t (Mt dd) (Mf dd) (Ro dd))) (yB D (va_A ([(md, .inr (8, [.int th, .int np, .ref m2, .ref m3, .int sF, .int sT, .int nd, .ref m7, .ref m8, .ref m9, .ref m10, .ref m11, .ref m12, .ref m13, .ref m14, .ref m15, .long mco, .int nf, .ref m18, .ref m19, .ref m20, .ref m21, .long mU, .long mS, .long mW, .int mX, .int mY, .ref m27, .ref m28, .ref m29, .ref m30])), (m2, .inl (ty 0, 8, .inl La)), (m8, .inl (ty 0, 10, .inl Ma)), (m9, .inl (ty 0, 10, .inl Mt)), (m10, .inl (ty 0, 10, .inl Mf)), (m7, .inl (ty 0, 10, .inl Ro))]) sz) (fun u : Int64 × Int64 × Int64 × Int32 × Int32 => [(md, .inr (8, [.int th, .int np, .ref m2, .ref m3, .int sF, .int sT, .int nd, .ref m7, .ref m8, .ref m9, .ref m10, .ref m11, .ref m12, .ref m13, .ref m14, .ref m15, .long mco, .int nf, .ref m18, .ref m19, .ref m20, .ref m21, .long u.1, .long u.2.1, .long u.2.2.1, .int u.2.2.2.1, .int u.2.2.2.2, .ref m27, .ref m28, .ref m29, .ref m30])), (m2, .inl (ty 0, 8, .inl La)), (m8, .inl (ty 0, 10, .inl Ma)), (m9, .inl (ty 0, 10, .inl Mt)), (m10, .inl (ty 0, 10, .inl Mf)), (m7, .inl (ty 0, 10, .inl Ro))])) (va_A ([(md, .inr (8, [.int th, .int np, .ref m2, .ref m3, .int sF, .int sT, .int nd, .ref m7, .ref m8, .ref m9, .ref m10, .ref m11, .ref m12, .ref m13, .ref m14, .ref m15, .long mco, .int nf, .ref m18, .ref m19, .ref m20, .ref m21, .long mU, .long mS, .long mW, .int mX, .int mY, .ref m27, .ref m28, .ref m29, .ref m30])), (m2, .inl (ty 0, 8, .inl La)), (m8, .inl (ty 0, 10, .inl Ma)), (m9, .inl (ty 0, 10, .inl Mt)), (m10, .inl (ty 0, 10, .inl Mf)), (m7, .inl (ty 0, 10, .inl Ro))]) sz)) rm_X8_fallsAsMade.cells rm_X8_fallsAsMade.slots (va_A ([(md, .inr (8, [.int th, .int np, .ref m2, .ref m3, .int sF, .int sT, .int nd, .ref m7, .ref m8, .ref m9, .ref m10, .ref m11, .ref m12, .ref m13, .ref m14, .ref m15, .long mco, .int nf, .ref m18, .ref m19, .ref m20, .ref m21, .long mU, .long mS, .long mW, .int mX, .int mY, .ref m27, .ref m28, .ref m29, .ref m30])), (m2, .inl (ty 0, 8, .inl La)), (m8, .inl (ty 0, 10, .inl Ma)), (m9, .inl (ty 0, 10, .inl Mt)), (m10, .inl (ty 0, 10, .inl Mf)), (m7, .inl (ty 0, 10, .inl Ro))]) sz) := by
  refine y_start_z (cc := cX8_fallsAsMade) (maxL := 4) (own := RX8) (by decide +kernel) rfl (Nat.le_of_ble_eq_true rfl) (fun pZ eZ sZ mZ aZ bZ tZ cZ AZ ls QZ hx hb hml hown hnm hG hA hAb hsz h hl hret => ?_)
  have h : yH D AZ sZ.heap [(md, .inr (8, [.int th, .int np, .ref m2, .ref m3, .int sF, .int sT, .int nd, .ref m7, .ref m8, .ref m9, .ref m10, .ref m11, .ref m12, .ref m13, .ref m14, .ref m15, .long mco, .int nf, .ref m18, .ref m19, .ref m20, .ref m21, .long mU, .long mS, .long mW, .int mX, .int mY, .ref m27, .ref m28, .ref m29, .ref m30])), (m2, .inl (ty 0, 8, .inl La)), (m8, .inl (ty 0, 10, .inl Ma)), (m9, .inl (ty 0, 10, .inl Mt)), (m10, .inl (ty 0, 10, .inl Mf)), (m7, .inl (ty 0, 10, .inl Ro))] [] sZ.heap [] := h
  have hl : lv_has ls 4 [(0, .ref md), (1, .int (nI dd)), (2, .int d), (3, .int t)] := hl
  refine lv_aload_n hx hb dX8_fallsAsMade_0 rfl (lv_at hl 0 rfl) ?_
  refine lv_aload_n hx hb dX8_fallsAsMade_1 rfl (lv_at hl 0 rfl) ?_
  refine y_get (own := RX8) hx hb hown hG h 0 8 2 (T := TX8) (N := 31) rfl rfl (by decide) (yl_8 hG) (kw_4_18 hG) rfl rfl dX8_fallsAsMade_2 ?_
  refine lv_aload_n hx hb dX8_fallsAsMade_5 rfl (lv_at hl 0 rfl) ?_
  refine y_get (own := RX8) hx hb hown hG h 0 8 8 (T := TX8) (N := 31) rfl rfl (by decide) (yl_8 hG) (kw_4_24 hG) rfl rfl dX8_fallsAsMade_6 ?_
  refine lv_iload_n hx hb dX8_fallsAsMade_9 rfl (lv_at hl 1 rfl) ?_
  refine y_iald (v := Ma dd) hx hb hG h 2 rfl (vp_in_nI hdd (by decide)) (y_at _ (by omega)) dX8_fallsAsMade_10 ?_
  refine y_iald (v := (La j)) hx hb hG h 1 rfl (by rw [hAi]; exact vp_in_nI hj8 (by decide)) (by rw [hAi, nI_clamp (by omega)]) dX8_fallsAsMade_11 ?_
  refine lv_iload_n hx hb dX8_fallsAsMade_12 rfl (lv_at hl 2 rfl) ?_
  refine lv_iload_n hx hb dX8_fallsAsMade_13 rfl (lv_at hl 3 rfl) ?_
  refine lv_aload_n hx hb dX8_fallsAsMade_14 rfl (lv_at hl 0 rfl) ?_
  refine y_get (own := RX8) hx hb hown hG h 0 8 9 (T := TX8) (N := 31) rfl rfl (by decide) (yl_8 hG) (kw_4_25 hG) rfl rfl dX8_fallsAsMade_15 ?_
  refine lv_iload_n hx hb dX8_fallsAsMade_18 rfl (lv_at hl 1 rfl) ?_
  refine y_iald (v := Mt dd) hx hb hG h 3 rfl (vp_in_nI hdd (by decide)) (y_at _ (by omega)) dX8_fallsAsMade_19 ?_
  refine lv_aload_n hx hb dX8_fallsAsMade_20 rfl (lv_at hl 0 rfl) ?_
  refine y_get (own := RX8) hx hb hown hG h 0 8 10 (T := TX8) (N := 31) rfl rfl (by decide) (yl_8 hG) (kw_4_26 hG) rfl rfl dX8_fallsAsMade_21 ?_
  refine lv_iload_n hx hb dX8_fallsAsMade_24 rfl (lv_at hl 1 rfl) ?_
  refine y_iald (v := Mf dd) hx hb hG h 4 rfl (vp_in_nI hdd (by decide)) (y_at _ (by omega)) dX8_fallsAsMade_25 ?_
  refine lv_aload_n hx hb dX8_fallsAsMade_26 rfl (lv_at hl 0 rfl) ?_
  refine y_get (own := RX8) hx hb hown hG h 0 8 7 (T := TX8) (N := 31) rfl rfl (by decide) (yl_8 hG) (kw_4_23 hG) rfl rfl dX8_fallsAsMade_27 ?_
  refine lv_iload_n hx hb dX8_fallsAsMade_30 rfl (lv_at hl 1 rfl) ?_
  refine y_iald (v := Ro dd) hx hb hG h 5 rfl (vp_in_nI hdd (by decide)) (y_at _ (by omega)) dX8_fallsAsMade_31 ?_
  refine y_calli (X' := fun u : Int64 × Int64 × Int64 × Int32 × Int32 => [(md, .inr (8, [.int th, .int np, .ref m2, .ref m3, .int sF, .int sT, .int nd, .ref m7, .ref m8, .ref m9, .ref m10, .ref m11, .ref m12, .ref m13, .ref m14, .ref m15, .long mco, .int nf, .ref m18, .ref m19, .ref m20, .ref m21, .long u.1, .long u.2.1, .long u.2.2.1, .int u.2.2.2.1, .int u.2.2.2.2, .ref m27, .ref m28, .ref m29, .ref m30])), (m2, .inl (ty 0, 8, .inl La)), (m8, .inl (ty 0, 10, .inl Ma)), (m9, .inl (ty 0, 10, .inl Mt)), (m10, .inl (ty 0, 10, .inl Mf)), (m7, .inl (ty 0, 10, .inl Ro))]) (wc := [(md, .inr (8, [.int th, .int np, .ref m2, .ref m3, .int sF, .int sT, .int nd, .ref m7, .ref m8, .ref m9, .ref m10, .ref m11, .ref m12, .ref m13, .ref m14, .ref m15, .long mco, .int nf, .ref m18, .ref m19, .ref m20, .ref m21, .long mU, .long mS, .long mW, .int mX, .int mY, .ref m27, .ref m28, .ref m29, .ref m30]))]) (wr := [(m2, .inl (ty 0, 8, .inl La)), (m8, .inl (ty 0, 10, .inl Ma)), (m9, .inl (ty 0, 10, .inl Mt)), (m10, .inl (ty 0, 10, .inl Mf)), (m7, .inl (ty 0, 10, .inl Ro))]) h hA [0] [1, 2, 3, 4, 5] [5, 0, 1, 2, 3, 4] rfl rfl (by decide) (by decide) (by decide) (fun _ => rfl) (va_runV (own := RX8) (As := [.int (La j), .int d, .int t, .int (Mt dd), .int (Mf dd), .int (Ro dd)]) (rest := []) ⟨hx, hb, hml, hown, y_nil⟩ (m_X8_falls l D ty base _ md th np m2 m3 sF sT nd m7 m8 m9 m10 m11 m12 m13 m14 m15 mco nf m18 m19 m20 m21 mU mS mW mX mY m27 m28 m29 m30 (La j) d t (Mt dd) (Mf dd) (Ro dd)   ) (y_cwV (C := RX8) 6 (kw_4_232 hG) (kw_1_7 hG) (kw_4_229 hG) (kw_4_231 hG) (kw_0_26 hG) yd_X8_falls ⟨Nat.le_of_ble_eq_true rfl, Nat.le_of_ble_eq_true rfl⟩) (y_preV hG h hAb [0] rfl (by decide) 0 rfl rfl) rfl rfl hl.1 rfl (lv_room (Nat.le_of_ble_eq_true rfl)) dX8_fallsAsMade_32 ⟨Nat.le_of_ble_eq_true rfl, Nat.le_of_ble_eq_true rfl⟩) (fun r_32 u H locs hp_32 h => ?_)
  obtain ⟨U9_32, S9_32, W9_32, x9_32, y9_32⟩ := u
  have hp_32 : r_32 = bI (sIs (La j) d t (Mt dd) (Mf dd) (Ro dd)) ∧ (sIs (La j) d t (Mt dd) (Mf dd) (Ro dd) = true → x9_32 = sX (La j) d t (Mt dd) (Mf dd) (Ro dd) ∧ y9_32 = sY (La j) d t (Mt dd) (Mf dd) (Ro dd)) := hp_32
  have h : yH D AZ sZ.heap [(md, .inr (8, [.int th, .int np, .ref m2, .ref m3, .int sF, .int sT, .int nd, .ref m7, .ref m8, .ref m9, .ref m10, .ref m11, .ref m12, .ref m13, .ref m14, .ref m15, .long mco, .int nf, .ref m18, .ref m19, .ref m20, .ref m21, .long U9_32, .long S9_32, .long W9_32, .int x9_32, .int y9_32, .ref m27, .ref m28, .ref m29, .ref m30])), (m2, .inl (ty 0, 8, .inl La)), (m8, .inl (ty 0, 10, .inl Ma)), (m9, .inl (ty 0, 10, .inl Mt)), (m10, .inl (ty 0, 10, .inl Mf)), (m7, .inl (ty 0, 10, .inl Ro))] [] _ _ := h
  exact hret r_32 (U9_32, S9_32, W9_32, x9_32, y9_32) _ _ _ _ _ _ _ _ (by rw [hp_32.1]; exact y_bz _) hp_32 h rfl (Nat.le_of_ble_eq_true rfl) (Nat.le_of_ble_eq_true rfl) dX8_fallsAsMade_35

abbrev rm_X8_fallsAsItStands : Room := { frames := 5, cells := 0, slots := 0, locals := 128 }
theorem yd_X8_fallsAsItStands : yX8_fallsAsItStands.cls ≠ "java/lang/invoke/MethodHandle" ∧ yX8_fallsAsItStands.cls ≠ "java/lang/invoke/VarHandle" ∧ (parseMethodDescriptor yX8_fallsAsItStands.desc).map (fun d => d.parameters.length) = some 3 := by decide +kernel
set_option maxHeartbeats 4000000 in
set_option maxRecDepth 100000 in
theorem m_X8_fallsAsItStands (l : Launch) (D : va_G) (ty : Nat → ClassId) (base sz : Nat) (md : Nat) (th : Int32) (np : Int32) (m2 : Nat) (m3 : Nat) (sF : Int32) (sT : Int32) (nd : Int32) (m7 : Nat) (m8 : Nat) (m9 : Nat) (m10 : Nat) (m11 : Nat) (m12 : Nat) (m13 : Nat) (m14 : Nat) (m15 : Nat) (mco : Int64) (nf : Int32) (m18 : Nat) (m19 : Nat) (m20 : Nat) (m21 : Nat) (mU : Int64) (mS : Int64) (mW : Int64) (mX : Int32) (mY : Int32) (m27 : Nat) (m28 : Nat) (m29 : Nat) (m30 : Nat) (La : Nat → Int32) (Sa : Nat → Int32) (St : Nat → Int32) (Sf : Nat → Int32) (Ro : Nat → Int32) (dd : Nat) (j : Nat) (d : Int32) (t : Int32)   (hdd : dd < 10) (hj8 : j < 8) (hAi : Sa dd = nI j) : Met l yX8_fallsAsItStands [.code yX8_fallsAsItStands cX8_fallsAsItStands 4 (some (.boolean))] rm_X8_fallsAsItStands (yPc D ty base sz ([(md, .inr (8, [.int th, .int np, .ref m2, .ref m3, .int sF, .int sT, .int nd, .ref m7, .ref m8, .ref m9, .ref m10, .ref m11, .ref m12, .ref m13, .ref m14, .ref m15, .long mco, .int nf, .ref m18, .ref m19, .ref m20, .ref m21, .long mU, .long mS, .long mW, .int mX, .int mY, .ref m27, .ref m28, .ref m29, .ref m30])), (m2, .inl (ty 0, 8, .inl La)), (m11, .inl (ty 0, 10, .inl Sa)), (m12, .inl (ty 0, 10, .inl St)), (m13, .inl (ty 0, 10, .inl Sf)), (m7, .inl (ty 0, 10, .inl Ro))]) [.ref md, .int (nI dd), .int d, .int t]) (va_Qi (fun (r : Int32) (u : Int64 × Int64 × Int64 × Int32 × Int32) => r = bI (sIs (La j) d t (St dd) (Sf dd) (Ro dd)) ∧ (sIs (La j) d t (St dd) (Sf dd) (Ro dd) = true → u.2.2.2.1 = sX (La j) d t (St dd) (Sf dd) (Ro dd) ∧ u.2.2.2.2 = sY (La j) d t (St dd) (Sf dd) (Ro dd))) (yB D (va_A ([(md, .inr (8, [.int th, .int np, .ref m2, .ref m3, .int sF, .int sT, .int nd, .ref m7, .ref m8, .ref m9, .ref m10, .ref m11, .ref m12, .ref m13, .ref m14, .ref m15, .long mco, .int nf, .ref m18, .ref m19, .ref m20, .ref m21, .long mU, .long mS, .long mW, .int mX, .int mY, .ref m27, .ref m28, .ref m29, .ref m30])), (m2, .inl (ty 0, 8, .inl La)), (m11, .inl (ty 0, 10, .inl Sa)), (m12, .inl (ty 0, 10, .inl St)), (m13, .inl (ty 0, 10, .inl Sf)), (m7, .inl (ty 0, 10, .inl Ro))]) sz) (fun u : Int64 × Int64 × Int64 × Int32 × Int32 => [(md, .inr (8, [.int th, .int np, .ref m2, .ref m3, .int sF, .int sT, .int nd, .ref m7, .ref m8, .ref m9, .ref m10, .ref m11, .ref m12, .ref m13, .ref m14, .ref m15, .long mco, .int nf, .ref m18, .ref m19, .ref m20, .ref m21, .long u.1, .long u.2.1, .long u.2.2.1, .int u.2.2.2.1, .int u.2.2.2.2, .ref m27, .ref m28, .ref m29, .ref m30])), (m2, .inl (ty 0, 8, .inl La)), (m11, .inl (ty 0, 10, .inl Sa)), (m12, .inl (ty 0, 10, .inl St)), (m13, .inl (ty 0, 10, .inl Sf)), (m7, .inl (ty 0, 10, .inl Ro))])) (va_A ([(md, .inr (8, [.int th, .int np, .ref m2, .ref m3, .int sF, .int sT, .int nd, .ref m7, .ref m8, .ref m9, .ref m10, .ref m11, .ref m12, .ref m13, .ref m14, .ref m15, .long mco, .int nf, .ref m18, .ref m19, .ref m20, .ref m21, .long mU, .long mS, .long mW, .int mX, .int mY, .ref m27, .ref m28, .ref m29, .ref m30])), (m2, .inl (ty 0, 8, .inl La)), (m11, .inl (ty 0, 10, .inl Sa)), (m12, .inl (ty 0, 10, .inl St)), (m13, .inl (ty 0, 10, .inl Sf)), (m7, .inl (ty 0, 10, .inl Ro))]) sz)) rm_X8_fallsAsItStands.cells rm_X8_fallsAsItStands.slots (va_A ([(md, .inr (8, [.int th, .int np, .ref m2, .ref m3, .int sF, .int sT, .int nd, .ref m7, .ref m8, .ref m9, .ref m10, .ref m11, .ref m12, .ref m13, .ref m14, .ref m15, .long mco, .int nf, .ref m18, .ref m19, .ref m20, .ref m21, .long mU, .long mS, .long mW, .int mX, .int mY, .ref m27, .ref m28, .ref m29, .ref m30])), (m2, .inl (ty 0, 8, .inl La)), (m11, .inl (ty 0, 10, .inl Sa)), (m12, .inl (ty 0, 10, .inl St)), (m13, .inl (ty 0, 10, .inl Sf)), (m7, .inl (ty 0, 10, .inl Ro))]) sz) := by
  refine y_start_z (cc := cX8_fallsAsItStands) (maxL := 4) (own := RX8) (by decide +kernel) rfl (Nat.le_of_ble_eq_true rfl) (fun pZ eZ sZ mZ aZ bZ tZ cZ AZ ls QZ hx hb hml hown hnm hG hA hAb hsz h hl hret => ?_)
  have h : yH D AZ sZ.heap [(md, .inr (8, [.int th, .int np, .ref m2, .ref m3, .int sF, .int sT, .int nd, .ref m7, .ref m8, .ref m9, .ref m10, .ref m11, .ref m12, .ref m13, .ref m14, .ref m15, .long mco, .int nf, .ref m18, .ref m19, .ref m20, .ref m21, .long mU, .long mS, .long mW, .int mX, .int mY, .ref m27, .ref m28, .ref m29, .ref m30])), (m2, .inl (ty 0, 8, .inl La)), (m11, .inl (ty 0, 10, .inl Sa)), (m12, .inl (ty 0, 10, .inl St)), (m13, .inl (ty 0, 10, .inl Sf)), (m7, .inl (ty 0, 10, .inl Ro))] [] sZ.heap [] := h
  have hl : lv_has ls 4 [(0, .ref md), (1, .int (nI dd)), (2, .int d), (3, .int t)] := hl
  refine lv_aload_n hx hb dX8_fallsAsItStands_0 rfl (lv_at hl 0 rfl) ?_
  refine lv_aload_n hx hb dX8_fallsAsItStands_1 rfl (lv_at hl 0 rfl) ?_
  refine y_get (own := RX8) hx hb hown hG h 0 8 2 (T := TX8) (N := 31) rfl rfl (by decide) (yl_8 hG) (kw_4_18 hG) rfl rfl dX8_fallsAsItStands_2 ?_
  refine lv_aload_n hx hb dX8_fallsAsItStands_5 rfl (lv_at hl 0 rfl) ?_
  refine y_get (own := RX8) hx hb hown hG h 0 8 11 (T := TX8) (N := 31) rfl rfl (by decide) (yl_8 hG) (kw_4_27 hG) rfl rfl dX8_fallsAsItStands_6 ?_
  refine lv_iload_n hx hb dX8_fallsAsItStands_9 rfl (lv_at hl 1 rfl) ?_
  refine y_iald (v := Sa dd) hx hb hG h 2 rfl (vp_in_nI hdd (by decide)) (y_at _ (by omega)) dX8_fallsAsItStands_10 ?_
  refine y_iald (v := (La j)) hx hb hG h 1 rfl (by rw [hAi]; exact vp_in_nI hj8 (by decide)) (by rw [hAi, nI_clamp (by omega)]) dX8_fallsAsItStands_11 ?_
  refine lv_iload_n hx hb dX8_fallsAsItStands_12 rfl (lv_at hl 2 rfl) ?_
  refine lv_iload_n hx hb dX8_fallsAsItStands_13 rfl (lv_at hl 3 rfl) ?_
  refine lv_aload_n hx hb dX8_fallsAsItStands_14 rfl (lv_at hl 0 rfl) ?_
  refine y_get (own := RX8) hx hb hown hG h 0 8 12 (T := TX8) (N := 31) rfl rfl (by decide) (yl_8 hG) (kw_4_28 hG) rfl rfl dX8_fallsAsItStands_15 ?_
  refine lv_iload_n hx hb dX8_fallsAsItStands_18 rfl (lv_at hl 1 rfl) ?_
  refine y_iald (v := St dd) hx hb hG h 3 rfl (vp_in_nI hdd (by decide)) (y_at _ (by omega)) dX8_fallsAsItStands_19 ?_
  refine lv_aload_n hx hb dX8_fallsAsItStands_20 rfl (lv_at hl 0 rfl) ?_
  refine y_get (own := RX8) hx hb hown hG h 0 8 13 (T := TX8) (N := 31) rfl rfl (by decide) (yl_8 hG) (kw_4_29 hG) rfl rfl dX8_fallsAsItStands_21 ?_
  refine lv_iload_n hx hb dX8_fallsAsItStands_24 rfl (lv_at hl 1 rfl) ?_
  refine y_iald (v := Sf dd) hx hb hG h 4 rfl (vp_in_nI hdd (by decide)) (y_at _ (by omega)) dX8_fallsAsItStands_25 ?_
  refine lv_aload_n hx hb dX8_fallsAsItStands_26 rfl (lv_at hl 0 rfl) ?_
  refine y_get (own := RX8) hx hb hown hG h 0 8 7 (T := TX8) (N := 31) rfl rfl (by decide) (yl_8 hG) (kw_4_23 hG) rfl rfl dX8_fallsAsItStands_27 ?_
  refine lv_iload_n hx hb dX8_fallsAsItStands_30 rfl (lv_at hl 1 rfl) ?_
  refine y_iald (v := Ro dd) hx hb hG h 5 rfl (vp_in_nI hdd (by decide)) (y_at _ (by omega)) dX8_fallsAsItStands_31 ?_
  refine y_calli (X' := fun u : Int64 × Int64 × Int64 × Int32 × Int32 => [(md, .inr (8, [.int th, .int np, .ref m2, .ref m3, .int sF, .int sT, .int nd, .ref m7, .ref m8, .ref m9, .ref m10, .ref m11, .ref m12, .ref m13, .ref m14, .ref m15, .long mco, .int nf, .ref m18, .ref m19, .ref m20, .ref m21, .long u.1, .long u.2.1, .long u.2.2.1, .int u.2.2.2.1, .int u.2.2.2.2, .ref m27, .ref m28, .ref m29, .ref m30])), (m2, .inl (ty 0, 8, .inl La)), (m11, .inl (ty 0, 10, .inl Sa)), (m12, .inl (ty 0, 10, .inl St)), (m13, .inl (ty 0, 10, .inl Sf)), (m7, .inl (ty 0, 10, .inl Ro))]) (wc := [(md, .inr (8, [.int th, .int np, .ref m2, .ref m3, .int sF, .int sT, .int nd, .ref m7, .ref m8, .ref m9, .ref m10, .ref m11, .ref m12, .ref m13, .ref m14, .ref m15, .long mco, .int nf, .ref m18, .ref m19, .ref m20, .ref m21, .long mU, .long mS, .long mW, .int mX, .int mY, .ref m27, .ref m28, .ref m29, .ref m30]))]) (wr := [(m2, .inl (ty 0, 8, .inl La)), (m11, .inl (ty 0, 10, .inl Sa)), (m12, .inl (ty 0, 10, .inl St)), (m13, .inl (ty 0, 10, .inl Sf)), (m7, .inl (ty 0, 10, .inl Ro))]) h hA [0] [1, 2, 3, 4, 5] [5, 0, 1, 2, 3, 4] rfl rfl (by decide) (by decide) (by decide) (fun _ => rfl) (va_runV (own := RX8) (As := [.int (La j), .int d, .int t, .int (St dd), .int (Sf dd), .int (Ro dd)]) (rest := []) ⟨hx, hb, hml, hown, y_nil⟩ (m_X8_falls l D ty base _ md th np m2 m3 sF sT nd m7 m8 m9 m10 m11 m12 m13 m14 m15 mco nf m18 m19 m20 m21 mU mS mW mX mY m27 m28 m29 m30 (La j) d t (St dd) (Sf dd) (Ro dd)   ) (y_cwV (C := RX8) 6 (kw_4_232 hG) (kw_1_7 hG) (kw_4_229 hG) (kw_4_231 hG) (kw_0_26 hG) yd_X8_falls ⟨Nat.le_of_ble_eq_true rfl, Nat.le_of_ble_eq_true rfl⟩) (y_preV hG h hAb [0] rfl (by decide) 0 rfl rfl) rfl rfl hl.1 rfl (lv_room (Nat.le_of_ble_eq_true rfl)) dX8_fallsAsItStands_32 ⟨Nat.le_of_ble_eq_true rfl, Nat.le_of_ble_eq_true rfl⟩) (fun r_32 u H locs hp_32 h => ?_)
  obtain ⟨U9_32, S9_32, W9_32, x9_32, y9_32⟩ := u
  have hp_32 : r_32 = bI (sIs (La j) d t (St dd) (Sf dd) (Ro dd)) ∧ (sIs (La j) d t (St dd) (Sf dd) (Ro dd) = true → x9_32 = sX (La j) d t (St dd) (Sf dd) (Ro dd) ∧ y9_32 = sY (La j) d t (St dd) (Sf dd) (Ro dd)) := hp_32
  have h : yH D AZ sZ.heap [(md, .inr (8, [.int th, .int np, .ref m2, .ref m3, .int sF, .int sT, .int nd, .ref m7, .ref m8, .ref m9, .ref m10, .ref m11, .ref m12, .ref m13, .ref m14, .ref m15, .long mco, .int nf, .ref m18, .ref m19, .ref m20, .ref m21, .long U9_32, .long S9_32, .long W9_32, .int x9_32, .int y9_32, .ref m27, .ref m28, .ref m29, .ref m30])), (m2, .inl (ty 0, 8, .inl La)), (m11, .inl (ty 0, 10, .inl Sa)), (m12, .inl (ty 0, 10, .inl St)), (m13, .inl (ty 0, 10, .inl Sf)), (m7, .inl (ty 0, 10, .inl Ro))] [] _ _ := h
  exact hret r_32 (U9_32, S9_32, W9_32, x9_32, y9_32) _ _ _ _ _ _ _ _ (by rw [hp_32.1]; exact y_bz _) hp_32 h rfl (Nat.le_of_ble_eq_true rfl) (Nat.le_of_ble_eq_true rfl) dX8_fallsAsItStands_35

