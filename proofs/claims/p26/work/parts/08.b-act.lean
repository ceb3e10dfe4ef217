set_option maxHeartbeats 4000000 in
set_option maxRecDepth 100000 in
theorem ac_0_1 {l : Launch} {D : va_G} {ty : Nat → ClassId} {base sz : Nat} (hl9 : l.stackTraces = false) {yd : Nat} {σ : QS} {X : va_W} (hq : qY ty yd σ X) {v : Int32} (ho : qLow (v >>> (26 &&& 31)) 14 = 0) (hk : qLow v 46 = 0)  : Met l yL_act [.code yL_act cL_act 10 (some (.long))] rmA (yPc D ty base sz X [.ref yd, .int v]) (va_Ql (fun r X' => r = (aSine σ v).toInt64 ∧ qY ty yd σ X') (yB D (va_A X sz) (fun X' : va_W => X')) (va_A X sz)) rmA.cells rmA.slots (va_A X sz) := by
  refine act_pre1 ho (fun pZ eZ sZ mZ aZ bZ tZ cZ AZ ls QZ H locs E h hl hret => ?_)
  · obtain ⟨hx, hb, hml, hown, hG, hA, hAb⟩ := E
    rw [hk]
    refine lv_tableIn (tgt := 392) (off := 186) hx hb dL_act_206 (by decide) (by decide) (by decide) (by decide) ?_
    refine lv_aload_n hx hb dL_act_392 rfl (lv_at hl 8 rfl) ?_
    refine lv_iload_n hx hb dL_act_393 rfl (lv_at hl 7 rfl) ?_
    refine lv_if_eq (tgt := 401) hx hb dL_act_394 (by decide) (fun c_394 => ?_) (fun c_394 => ?_)
    · exact absurd c_394 (by decide)
    · skip
      refine lv_iload_n hx hb dL_act_397 rfl (lv_at hl 9 rfl) ?_
      refine lv_goto (tgt := 414) hx hb dL_act_398 (by decide) ?_
      have h : yH D AZ sZ.heap X [] _ _ := h.pl rfl
      refine q_calli h hA (vx_runSW (own := RL) (As := [.ref yd, .int v]) (rest := []) ⟨hx, hb, hml, hown, y_nil⟩ (q_sine (l := l) (D := D) (ty := ty) (base := _) (sz := _) hl9 hq v ) (y_cwSW 2 (kw_2_188 hG) (kw_1_0 hG) (kw_2_186 hG) (kw_2_187 hG) yd_L_sine ⟨Nat.le_of_ble_eq_true rfl, Nat.le_of_ble_eq_true rfl⟩) (q_preS hG h hAb) rfl rfl hl.1 rfl (lv_room (Nat.le_of_ble_eq_true rfl)) dL_act_414 ⟨Nat.le_of_ble_eq_true rfl, Nat.le_of_ble_eq_true rfl⟩) (fun r_414 X_414 H locs hp_414 h => ?_)
      obtain ⟨e_414, hq_414⟩ := hp_414
      have h : yH D AZ sZ.heap [] (X_414 ++ []) _ _ := h.pl rfl
      rw [e_414]
      refine lv_i2l hx hb dL_act_417 rfl ?_
      exact hret _ _ _ _ _ _ _ _ ⟨rfl, hq_414⟩ h (Nat.le_of_ble_eq_true rfl) (Nat.le_of_ble_eq_true rfl) dL_act_418

set_option maxHeartbeats 4000000 in
set_option maxRecDepth 100000 in
theorem ac_0_0 {l : Launch} {D : va_G} {ty : Nat → ClassId} {base sz : Nat} (hl9 : l.stackTraces = false) {yd : Nat} {σ : QS} {X : va_W} (hq : qY ty yd σ X) {v : Int32} (ho : ¬ qLow (v >>> (26 &&& 31)) 14 = 0) (hk : qLow v 46 = 0)  : Met l yL_act [.code yL_act cL_act 10 (some (.long))] rmA (yPc D ty base sz X [.ref yd, .int v]) (va_Ql (fun r X' => r = (aSine σ ((qLow (v >>> ((3 : Int32) &&& 31)) 2000) - (1000 : Int32))).toInt64 ∧ qY ty yd σ X') (yB D (va_A X sz) (fun X' : va_W => X')) (va_A X sz)) rmA.cells rmA.slots (va_A X sz) := by
  refine act_pre0 ho (fun pZ eZ sZ mZ aZ bZ tZ cZ AZ ls QZ H locs E h hl hret => ?_)
  · obtain ⟨hx, hb, hml, hown, hG, hA, hAb⟩ := E
    rw [hk]
    refine lv_tableIn (tgt := 392) (off := 186) hx hb dL_act_206 (by decide) (by decide) (by decide) (by decide) ?_
    refine lv_aload_n hx hb dL_act_392 rfl (lv_at hl 8 rfl) ?_
    refine lv_iload_n hx hb dL_act_393 rfl (lv_at hl 7 rfl) ?_
    refine lv_if_eq (tgt := 401) hx hb dL_act_394 (by decide) (fun c_394 => ?_) (fun c_394 => ?_)
    · skip
      refine lv_iload_n hx hb dL_act_401 rfl (lv_at hl 9 rfl) ?_
      refine lv_iconst (v := 3) hx hb dL_act_402 (by decide) ?_
      refine lv_ishr hx hb dL_act_403 ?_
      refine lv_sipush (v := 2000) hx hb dL_act_404 (by decide) ?_
      refine y_calli (X' := fun _ : Unit => []) (wc := []) (wr := []) h hA [] [] [] rfl rfl (by decide) (by decide) (by decide) (fun _ => rfl) (va_runS (own := RL) (As := [.int (v >>> ((3 : Int32) &&& 31)), .int 2000]) (rest := [.ref yd]) ⟨hx, hb, hml, hown, y_nil⟩ (m_L_low l D ty base _ (v >>> ((3 : Int32) &&& 31)) 2000   (by decide)) (y_cwS 2 (kw_1_220 hG) (kw_1_0 hG) (kw_1_218 hG) (kw_1_219 hG) yd_L_low ⟨Nat.le_of_ble_eq_true rfl, Nat.le_of_ble_eq_true rfl⟩) (y_preS hG h hAb [] rfl (by decide)) rfl rfl hl.1 rfl (lv_room (Nat.le_of_ble_eq_true rfl)) dL_act_407 ⟨Nat.le_of_ble_eq_true rfl, Nat.le_of_ble_eq_true rfl⟩) (fun r_407 _ H locs hp_407 h => ?_)
      have hp_407 : r_407 = qLow (v >>> ((3 : Int32) &&& 31)) 2000 := hp_407
      have h : yH D AZ sZ.heap [] (X ++ []) _ _ := h
      rw [hp_407]
      refine lv_sipush (v := 1000) hx hb dL_act_410 (by decide) ?_
      refine lv_isub hx hb dL_act_413 ?_
      have h : yH D AZ sZ.heap X [] _ _ := h.pl rfl
      refine q_calli h hA (vx_runSW (own := RL) (As := [.ref yd, .int ((qLow (v >>> ((3 : Int32) &&& 31)) 2000) - (1000 : Int32))]) (rest := []) ⟨hx, hb, hml, hown, y_nil⟩ (q_sine (l := l) (D := D) (ty := ty) (base := _) (sz := _) hl9 hq ((qLow (v >>> ((3 : Int32) &&& 31)) 2000) - (1000 : Int32)) ) (y_cwSW 2 (kw_2_188 hG) (kw_1_0 hG) (kw_2_186 hG) (kw_2_187 hG) yd_L_sine ⟨Nat.le_of_ble_eq_true rfl, Nat.le_of_ble_eq_true rfl⟩) (q_preS hG h hAb) rfl rfl hl.1 rfl (lv_room (Nat.le_of_ble_eq_true rfl)) dL_act_414 ⟨Nat.le_of_ble_eq_true rfl, Nat.le_of_ble_eq_true rfl⟩) (fun r_414 X_414 H locs hp_414 h => ?_)
      obtain ⟨e_414, hq_414⟩ := hp_414
      have h : yH D AZ sZ.heap [] (X_414 ++ []) _ _ := h.pl rfl
      rw [e_414]
      refine lv_i2l hx hb dL_act_417 rfl ?_
      exact hret _ _ _ _ _ _ _ _ ⟨rfl, hq_414⟩ h (Nat.le_of_ble_eq_true rfl) (Nat.le_of_ble_eq_true rfl) dL_act_418
    · exact absurd (by decide) c_394

set_option maxHeartbeats 4000000 in
set_option maxRecDepth 100000 in
theorem ac_1_1 {l : Launch} {D : va_G} {ty : Nat → ClassId} {base sz : Nat} (hl9 : l.stackTraces = false) {yd : Nat} {σ : QS} {X : va_W} (hq : qY ty yd σ X) {v : Int32} (ho : qLow (v >>> (26 &&& 31)) 14 = 0) (hk : qLow v 46 = 1)  : Met l yL_act [.code yL_act cL_act 10 (some (.long))] rmA (yPc D ty base sz X [.ref yd, .int v]) (va_Ql (fun r X' => r = (aDay σ (v >>> ((5 : Int32) &&& 31)) (((qLow (v >>> ((11 : Int32) &&& 31)) 8) - (1 : Int32)) - ((qLow (v >>> ((11 : Int32) &&& 31)) 8) - (1 : Int32)) / (2 : Int32) * (2 : Int32))).toInt64 ∧ qY ty yd σ X') (yB D (va_A X sz) (fun X' : va_W => X')) (va_A X sz)) rmA.cells rmA.slots (va_A X sz) := by
  refine act_pre1 ho (fun pZ eZ sZ mZ aZ bZ tZ cZ AZ ls QZ H locs E h hl hret => ?_)
  · obtain ⟨hx, hb, hml, hown, hG, hA, hAb⟩ := E
    rw [hk]
    refine lv_tableIn (tgt := 419) (off := 213) hx hb dL_act_206 (by decide) (by decide) (by decide) (by decide) ?_
    refine lv_aload_n hx hb dL_act_419 rfl (lv_at hl 8 rfl) ?_
    refine lv_iload hx hb dL_act_420 (lv_at hl 4 rfl) ?_
    refine lv_iload hx hb dL_act_422 (lv_at hl 0 rfl) ?_
    refine lv_iconst (v := 2) hx hb dL_act_424 (by decide) ?_
    refine lv_irem hx hb dL_act_425 (by decide) ?_
    have h : yH D AZ sZ.heap X [] _ _ := h.pl rfl
    refine q_calli h hA (vx_runSW (own := RL) (As := [.ref yd, .int (v >>> ((5 : Int32) &&& 31)), .int (((qLow (v >>> ((11 : Int32) &&& 31)) 8) - (1 : Int32)) - ((qLow (v >>> ((11 : Int32) &&& 31)) 8) - (1 : Int32)) / (2 : Int32) * (2 : Int32))]) (rest := []) ⟨hx, hb, hml, hown, y_nil⟩ (q_day (l := l) (D := D) (ty := ty) (base := _) (sz := _) hl9 hq (v >>> ((5 : Int32) &&& 31)) (((qLow (v >>> ((11 : Int32) &&& 31)) 8) - (1 : Int32)) - ((qLow (v >>> ((11 : Int32) &&& 31)) 8) - (1 : Int32)) / (2 : Int32) * (2 : Int32)) ) (y_cwSW 3 (kw_2_197 hG) (kw_1_0 hG) (kw_2_195 hG) (kw_2_196 hG) yd_L_day ⟨Nat.le_of_ble_eq_true rfl, Nat.le_of_ble_eq_true rfl⟩) (q_preS hG h hAb) rfl rfl hl.1 rfl (lv_room (Nat.le_of_ble_eq_true rfl)) dL_act_426 ⟨Nat.le_of_ble_eq_true rfl, Nat.le_of_ble_eq_true rfl⟩) (fun r_426 X_426 H locs hp_426 h => ?_)
    obtain ⟨e_426, hq_426⟩ := hp_426
    have h : yH D AZ sZ.heap [] (X_426 ++ []) _ _ := h.pl rfl
    rw [e_426]
    refine lv_i2l hx hb dL_act_429 rfl ?_
    exact hret _ _ _ _ _ _ _ _ ⟨rfl, hq_426⟩ h (Nat.le_of_ble_eq_true rfl) (Nat.le_of_ble_eq_true rfl) dL_act_430

set_option maxHeartbeats 4000000 in
set_option maxRecDepth 100000 in
theorem ac_1_0 {l : Launch} {D : va_G} {ty : Nat → ClassId} {base sz : Nat} (hl9 : l.stackTraces = false) {yd : Nat} {σ : QS} {X : va_W} (hq : qY ty yd σ X) {v : Int32} (ho : ¬ qLow (v >>> (26 &&& 31)) 14 = 0) (hk : qLow v 46 = 1)  : Met l yL_act [.code yL_act cL_act 10 (some (.long))] rmA (yPc D ty base sz X [.ref yd, .int v]) (va_Ql (fun r X' => r = (aDay σ (qLow (v >>> ((5 : Int32) &&& 31)) 360) ((qLow (v >>> ((11 : Int32) &&& 31)) 3) - (qLow (v >>> ((11 : Int32) &&& 31)) 3) / (2 : Int32) * (2 : Int32))).toInt64 ∧ qY ty yd σ X') (yB D (va_A X sz) (fun X' : va_W => X')) (va_A X sz)) rmA.cells rmA.slots (va_A X sz) := by
  refine act_pre0 ho (fun pZ eZ sZ mZ aZ bZ tZ cZ AZ ls QZ H locs E h hl hret => ?_)
  · obtain ⟨hx, hb, hml, hown, hG, hA, hAb⟩ := E
    rw [hk]
    refine lv_tableIn (tgt := 419) (off := 213) hx hb dL_act_206 (by decide) (by decide) (by decide) (by decide) ?_
    refine lv_aload_n hx hb dL_act_419 rfl (lv_at hl 8 rfl) ?_
    refine lv_iload hx hb dL_act_420 (lv_at hl 4 rfl) ?_
    refine lv_iload hx hb dL_act_422 (lv_at hl 0 rfl) ?_
    refine lv_iconst (v := 2) hx hb dL_act_424 (by decide) ?_
    refine lv_irem hx hb dL_act_425 (by decide) ?_
    have h : yH D AZ sZ.heap X [] _ _ := h.pl rfl
    refine q_calli h hA (vx_runSW (own := RL) (As := [.ref yd, .int (qLow (v >>> ((5 : Int32) &&& 31)) 360), .int ((qLow (v >>> ((11 : Int32) &&& 31)) 3) - (qLow (v >>> ((11 : Int32) &&& 31)) 3) / (2 : Int32) * (2 : Int32))]) (rest := []) ⟨hx, hb, hml, hown, y_nil⟩ (q_day (l := l) (D := D) (ty := ty) (base := _) (sz := _) hl9 hq (qLow (v >>> ((5 : Int32) &&& 31)) 360) ((qLow (v >>> ((11 : Int32) &&& 31)) 3) - (qLow (v >>> ((11 : Int32) &&& 31)) 3) / (2 : Int32) * (2 : Int32)) ) (y_cwSW 3 (kw_2_197 hG) (kw_1_0 hG) (kw_2_195 hG) (kw_2_196 hG) yd_L_day ⟨Nat.le_of_ble_eq_true rfl, Nat.le_of_ble_eq_true rfl⟩) (q_preS hG h hAb) rfl rfl hl.1 rfl (lv_room (Nat.le_of_ble_eq_true rfl)) dL_act_426 ⟨Nat.le_of_ble_eq_true rfl, Nat.le_of_ble_eq_true rfl⟩) (fun r_426 X_426 H locs hp_426 h => ?_)
    obtain ⟨e_426, hq_426⟩ := hp_426
    have h : yH D AZ sZ.heap [] (X_426 ++ []) _ _ := h.pl rfl
    rw [e_426]
    refine lv_i2l hx hb dL_act_429 rfl ?_
    exact hret _ _ _ _ _ _ _ _ ⟨rfl, hq_426⟩ h (Nat.le_of_ble_eq_true rfl) (Nat.le_of_ble_eq_true rfl) dL_act_430

set_option maxHeartbeats 4000000 in
set_option maxRecDepth 100000 in
theorem ac_2_1 {l : Launch} {D : va_G} {ty : Nat → ClassId} {base sz : Nat} (hl9 : l.stackTraces = false) {yd : Nat} {σ : QS} {X : va_W} (hq : qY ty yd σ X) {v : Int32} (ho : qLow (v >>> (26 &&& 31)) 14 = 0) (hk : qLow v 46 = 2)  : Met l yL_act [.code yL_act cL_act 10 (some (.long))] rmA (yPc D ty base sz X [.ref yd, .int v]) (va_Ql (fun r X' => r = (aSun σ (v >>> ((3 : Int32) &&& 31)) (v >>> ((5 : Int32) &&& 31)) (v >>> ((8 : Int32) &&& 31)) ((qLow (v >>> ((11 : Int32) &&& 31)) 8) - (1 : Int32))) ∧ qY ty yd σ X') (yB D (va_A X sz) (fun X' : va_W => X')) (va_A X sz)) rmA.cells rmA.slots (va_A X sz) := by
  refine act_pre1 ho (fun pZ eZ sZ mZ aZ bZ tZ cZ AZ ls QZ H locs E h hl hret => ?_)
  · obtain ⟨hx, hb, hml, hown, hG, hA, hAb⟩ := E
    rw [hk]
    refine lv_tableIn (tgt := 431) (off := 225) hx hb dL_act_206 (by decide) (by decide) (by decide) (by decide) ?_
    refine lv_aload_n hx hb dL_act_431 rfl (lv_at hl 8 rfl) ?_
    refine lv_iload_n hx hb dL_act_432 rfl (lv_at hl 7 rfl) ?_
    refine lv_if_eq (tgt := 442) hx hb dL_act_433 (by decide) (fun c_433 => ?_) (fun c_433 => ?_)
    · exact absurd c_433 (by decide)
    · skip
      refine lv_iload_n hx hb dL_act_436 rfl (lv_at hl 9 rfl) ?_
      refine lv_iconst (v := 3) hx hb dL_act_437 (by decide) ?_
      refine lv_ishr hx hb dL_act_438 ?_
      refine lv_goto (tgt := 455) hx hb dL_act_439 (by decide) ?_
      refine lv_iload hx hb dL_act_455 (lv_at hl 4 rfl) ?_
      refine lv_iload hx hb dL_act_457 (lv_at hl 3 rfl) ?_
      refine lv_iload hx hb dL_act_459 (lv_at hl 0 rfl) ?_
      have h : yH D AZ sZ.heap X [] _ _ := h.pl rfl
      refine q_calll h hA (vx_runSW (own := RL) (As := [.ref yd, .int (v >>> ((3 : Int32) &&& 31)), .int (v >>> ((5 : Int32) &&& 31)), .int (v >>> ((8 : Int32) &&& 31)), .int ((qLow (v >>> ((11 : Int32) &&& 31)) 8) - (1 : Int32))]) (rest := []) ⟨hx, hb, hml, hown, y_nil⟩ (q_sun (l := l) (D := D) (ty := ty) (base := _) (sz := _) hl9 hq (v >>> ((3 : Int32) &&& 31)) (v >>> ((5 : Int32) &&& 31)) (v >>> ((8 : Int32) &&& 31)) ((qLow (v >>> ((11 : Int32) &&& 31)) 8) - (1 : Int32)) ) (y_cwSW 5 (kw_2_216 hG) (kw_1_0 hG) (kw_2_214 hG) (kw_2_215 hG) yd_L_sun ⟨Nat.le_of_ble_eq_true rfl, Nat.le_of_ble_eq_true rfl⟩) (q_preS hG h hAb) rfl rfl hl.1 rfl (lv_room (Nat.le_of_ble_eq_true rfl)) dL_act_461 ⟨Nat.le_of_ble_eq_true rfl, Nat.le_of_ble_eq_true rfl⟩) (fun r_461 X_461 H locs hp_461 h => ?_)
      obtain ⟨e_461, hq_461⟩ := hp_461
      have h : yH D AZ sZ.heap [] (X_461 ++ []) _ _ := h.pl rfl
      rw [e_461]
      exact hret _ _ _ _ _ _ _ _ ⟨rfl, hq_461⟩ h (Nat.le_of_ble_eq_true rfl) (Nat.le_of_ble_eq_true rfl) dL_act_464

set_option maxHeartbeats 4000000 in
set_option maxRecDepth 100000 in
theorem ac_2_0 {l : Launch} {D : va_G} {ty : Nat → ClassId} {base sz : Nat} (hl9 : l.stackTraces = false) {yd : Nat} {σ : QS} {X : va_W} (hq : qY ty yd σ X) {v : Int32} (ho : ¬ qLow (v >>> (26 &&& 31)) 14 = 0) (hk : qLow v 46 = 2)  : Met l yL_act [.code yL_act cL_act 10 (some (.long))] rmA (yPc D ty base sz X [.ref yd, .int v]) (va_Ql (fun r X' => r = (aSun σ ((qLow (v >>> ((10 : Int32) &&& 31)) 133) - (66 : Int32)) (qLow (v >>> ((5 : Int32) &&& 31)) 360) ((60 : Int32) + (qLow (v >>> ((8 : Int32) &&& 31)) 240)) (qLow (v >>> ((11 : Int32) &&& 31)) 3)) ∧ qY ty yd σ X') (yB D (va_A X sz) (fun X' : va_W => X')) (va_A X sz)) rmA.cells rmA.slots (va_A X sz) := by
  refine act_pre0 ho (fun pZ eZ sZ mZ aZ bZ tZ cZ AZ ls QZ H locs E h hl hret => ?_)
  · obtain ⟨hx, hb, hml, hown, hG, hA, hAb⟩ := E
    rw [hk]
    refine lv_tableIn (tgt := 431) (off := 225) hx hb dL_act_206 (by decide) (by decide) (by decide) (by decide) ?_
    refine lv_aload_n hx hb dL_act_431 rfl (lv_at hl 8 rfl) ?_
    refine lv_iload_n hx hb dL_act_432 rfl (lv_at hl 7 rfl) ?_
    refine lv_if_eq (tgt := 442) hx hb dL_act_433 (by decide) (fun c_433 => ?_) (fun c_433 => ?_)
    · skip
      refine lv_iload_n hx hb dL_act_442 rfl (lv_at hl 9 rfl) ?_
      refine lv_bipush (v := 10) hx hb dL_act_443 (by decide) ?_
      refine lv_ishr hx hb dL_act_445 ?_
      refine lv_sipush (v := 133) hx hb dL_act_446 (by decide) ?_
      refine y_calli (X' := fun _ : Unit => []) (wc := []) (wr := []) h hA [] [] [] rfl rfl (by decide) (by decide) (by decide) (fun _ => rfl) (va_runS (own := RL) (As := [.int (v >>> ((10 : Int32) &&& 31)), .int 133]) (rest := [.ref yd]) ⟨hx, hb, hml, hown, y_nil⟩ (m_L_low l D ty base _ (v >>> ((10 : Int32) &&& 31)) 133   (by decide)) (y_cwS 2 (kw_1_220 hG) (kw_1_0 hG) (kw_1_218 hG) (kw_1_219 hG) yd_L_low ⟨Nat.le_of_ble_eq_true rfl, Nat.le_of_ble_eq_true rfl⟩) (y_preS hG h hAb [] rfl (by decide)) rfl rfl hl.1 rfl (lv_room (Nat.le_of_ble_eq_true rfl)) dL_act_449 ⟨Nat.le_of_ble_eq_true rfl, Nat.le_of_ble_eq_true rfl⟩) (fun r_449 _ H locs hp_449 h => ?_)
      have hp_449 : r_449 = qLow (v >>> ((10 : Int32) &&& 31)) 133 := hp_449
      have h : yH D AZ sZ.heap [] (X ++ []) _ _ := h
      rw [hp_449]
      refine lv_bipush (v := 66) hx hb dL_act_452 (by decide) ?_
      refine lv_isub hx hb dL_act_454 ?_
      refine lv_iload hx hb dL_act_455 (lv_at hl 4 rfl) ?_
      refine lv_iload hx hb dL_act_457 (lv_at hl 3 rfl) ?_
      refine lv_iload hx hb dL_act_459 (lv_at hl 0 rfl) ?_
      have h : yH D AZ sZ.heap X [] _ _ := h.pl rfl
      refine q_calll h hA (vx_runSW (own := RL) (As := [.ref yd, .int ((qLow (v >>> ((10 : Int32) &&& 31)) 133) - (66 : Int32)), .int (qLow (v >>> ((5 : Int32) &&& 31)) 360), .int ((60 : Int32) + (qLow (v >>> ((8 : Int32) &&& 31)) 240)), .int (qLow (v >>> ((11 : Int32) &&& 31)) 3)]) (rest := []) ⟨hx, hb, hml, hown, y_nil⟩ (q_sun (l := l) (D := D) (ty := ty) (base := _) (sz := _) hl9 hq ((qLow (v >>> ((10 : Int32) &&& 31)) 133) - (66 : Int32)) (qLow (v >>> ((5 : Int32) &&& 31)) 360) ((60 : Int32) + (qLow (v >>> ((8 : Int32) &&& 31)) 240)) (qLow (v >>> ((11 : Int32) &&& 31)) 3) ) (y_cwSW 5 (kw_2_216 hG) (kw_1_0 hG) (kw_2_214 hG) (kw_2_215 hG) yd_L_sun ⟨Nat.le_of_ble_eq_true rfl, Nat.le_of_ble_eq_true rfl⟩) (q_preS hG h hAb) rfl rfl hl.1 rfl (lv_room (Nat.le_of_ble_eq_true rfl)) dL_act_461 ⟨Nat.le_of_ble_eq_true rfl, Nat.le_of_ble_eq_true rfl⟩) (fun r_461 X_461 H locs hp_461 h => ?_)
      obtain ⟨e_461, hq_461⟩ := hp_461
      have h : yH D AZ sZ.heap [] (X_461 ++ []) _ _ := h.pl rfl
      rw [e_461]
      exact hret _ _ _ _ _ _ _ _ ⟨rfl, hq_461⟩ h (Nat.le_of_ble_eq_true rfl) (Nat.le_of_ble_eq_true rfl) dL_act_464
    · exact absurd (by decide) c_433

set_option maxHeartbeats 4000000 in
set_option maxRecDepth 100000 in
theorem ac_3_1 {l : Launch} {D : va_G} {ty : Nat → ClassId} {base sz : Nat} (hl9 : l.stackTraces = false) {yd : Nat} {σ : QS} {X : va_W} (hq : qY ty yd σ X) {v : Int32} (ho : qLow (v >>> (26 &&& 31)) 14 = 0) (hk : qLow v 46 = 3)  : Met l yL_act [.code yL_act cL_act 10 (some (.long))] rmA (yPc D ty base sz X [.ref yd, .int v]) (va_Ql (fun r X' => r = (aSun σ (v >>> ((3 : Int32) &&& 31)) (v >>> ((5 : Int32) &&& 31)) (v >>> ((8 : Int32) &&& 31)) ((qLow (v >>> ((11 : Int32) &&& 31)) 8) - (1 : Int32))) ∧ qY ty yd σ X') (yB D (va_A X sz) (fun X' : va_W => X')) (va_A X sz)) rmA.cells rmA.slots (va_A X sz) := by
  refine act_pre1 ho (fun pZ eZ sZ mZ aZ bZ tZ cZ AZ ls QZ H locs E h hl hret => ?_)
  · obtain ⟨hx, hb, hml, hown, hG, hA, hAb⟩ := E
    rw [hk]
    refine lv_tableIn (tgt := 431) (off := 225) hx hb dL_act_206 (by decide) (by decide) (by decide) (by decide) ?_
    refine lv_aload_n hx hb dL_act_431 rfl (lv_at hl 8 rfl) ?_
    refine lv_iload_n hx hb dL_act_432 rfl (lv_at hl 7 rfl) ?_
    refine lv_if_eq (tgt := 442) hx hb dL_act_433 (by decide) (fun c_433 => ?_) (fun c_433 => ?_)
    · exact absurd c_433 (by decide)
    · skip
      refine lv_iload_n hx hb dL_act_436 rfl (lv_at hl 9 rfl) ?_
      refine lv_iconst (v := 3) hx hb dL_act_437 (by decide) ?_
      refine lv_ishr hx hb dL_act_438 ?_
      refine lv_goto (tgt := 455) hx hb dL_act_439 (by decide) ?_
      refine lv_iload hx hb dL_act_455 (lv_at hl 4 rfl) ?_
      refine lv_iload hx hb dL_act_457 (lv_at hl 3 rfl) ?_
      refine lv_iload hx hb dL_act_459 (lv_at hl 0 rfl) ?_
      have h : yH D AZ sZ.heap X [] _ _ := h.pl rfl
      refine q_calll h hA (vx_runSW (own := RL) (As := [.ref yd, .int (v >>> ((3 : Int32) &&& 31)), .int (v >>> ((5 : Int32) &&& 31)), .int (v >>> ((8 : Int32) &&& 31)), .int ((qLow (v >>> ((11 : Int32) &&& 31)) 8) - (1 : Int32))]) (rest := []) ⟨hx, hb, hml, hown, y_nil⟩ (q_sun (l := l) (D := D) (ty := ty) (base := _) (sz := _) hl9 hq (v >>> ((3 : Int32) &&& 31)) (v >>> ((5 : Int32) &&& 31)) (v >>> ((8 : Int32) &&& 31)) ((qLow (v >>> ((11 : Int32) &&& 31)) 8) - (1 : Int32)) ) (y_cwSW 5 (kw_2_216 hG) (kw_1_0 hG) (kw_2_214 hG) (kw_2_215 hG) yd_L_sun ⟨Nat.le_of_ble_eq_true rfl, Nat.le_of_ble_eq_true rfl⟩) (q_preS hG h hAb) rfl rfl hl.1 rfl (lv_room (Nat.le_of_ble_eq_true rfl)) dL_act_461 ⟨Nat.le_of_ble_eq_true rfl, Nat.le_of_ble_eq_true rfl⟩) (fun r_461 X_461 H locs hp_461 h => ?_)
      obtain ⟨e_461, hq_461⟩ := hp_461
      have h : yH D AZ sZ.heap [] (X_461 ++ []) _ _ := h.pl rfl
      rw [e_461]
      exact hret _ _ _ _ _ _ _ _ ⟨rfl, hq_461⟩ h (Nat.le_of_ble_eq_true rfl) (Nat.le_of_ble_eq_true rfl) dL_act_464

set_option maxHeartbeats 4000000 in
set_option maxRecDepth 100000 in
theorem ac_3_0 {l : Launch} {D : va_G} {ty : Nat → ClassId} {base sz : Nat} (hl9 : l.stackTraces = false) {yd : Nat} {σ : QS} {X : va_W} (hq : qY ty yd σ X) {v : Int32} (ho : ¬ qLow (v >>> (26 &&& 31)) 14 = 0) (hk : qLow v 46 = 3)  : Met l yL_act [.code yL_act cL_act 10 (some (.long))] rmA (yPc D ty base sz X [.ref yd, .int v]) (va_Ql (fun r X' => r = (aSun σ ((qLow (v >>> ((10 : Int32) &&& 31)) 133) - (66 : Int32)) (qLow (v >>> ((5 : Int32) &&& 31)) 360) ((60 : Int32) + (qLow (v >>> ((8 : Int32) &&& 31)) 240)) (qLow (v >>> ((11 : Int32) &&& 31)) 3)) ∧ qY ty yd σ X') (yB D (va_A X sz) (fun X' : va_W => X')) (va_A X sz)) rmA.cells rmA.slots (va_A X sz) := by
  refine act_pre0 ho (fun pZ eZ sZ mZ aZ bZ tZ cZ AZ ls QZ H locs E h hl hret => ?_)
  · obtain ⟨hx, hb, hml, hown, hG, hA, hAb⟩ := E
    rw [hk]
    refine lv_tableIn (tgt := 431) (off := 225) hx hb dL_act_206 (by decide) (by decide) (by decide) (by decide) ?_
    refine lv_aload_n hx hb dL_act_431 rfl (lv_at hl 8 rfl) ?_
    refine lv_iload_n hx hb dL_act_432 rfl (lv_at hl 7 rfl) ?_
    refine lv_if_eq (tgt := 442) hx hb dL_act_433 (by decide) (fun c_433 => ?_) (fun c_433 => ?_)
    · skip
      refine lv_iload_n hx hb dL_act_442 rfl (lv_at hl 9 rfl) ?_
      refine lv_bipush (v := 10) hx hb dL_act_443 (by decide) ?_
      refine lv_ishr hx hb dL_act_445 ?_
      refine lv_sipush (v := 133) hx hb dL_act_446 (by decide) ?_
      refine y_calli (X' := fun _ : Unit => []) (wc := []) (wr := []) h hA [] [] [] rfl rfl (by decide) (by decide) (by decide) (fun _ => rfl) (va_runS (own := RL) (As := [.int (v >>> ((10 : Int32) &&& 31)), .int 133]) (rest := [.ref yd]) ⟨hx, hb, hml, hown, y_nil⟩ (m_L_low l D ty base _ (v >>> ((10 : Int32) &&& 31)) 133   (by decide)) (y_cwS 2 (kw_1_220 hG) (kw_1_0 hG) (kw_1_218 hG) (kw_1_219 hG) yd_L_low ⟨Nat.le_of_ble_eq_true rfl, Nat.le_of_ble_eq_true rfl⟩) (y_preS hG h hAb [] rfl (by decide)) rfl rfl hl.1 rfl (lv_room (Nat.le_of_ble_eq_true rfl)) dL_act_449 ⟨Nat.le_of_ble_eq_true rfl, Nat.le_of_ble_eq_true rfl⟩) (fun r_449 _ H locs hp_449 h => ?_)
      have hp_449 : r_449 = qLow (v >>> ((10 : Int32) &&& 31)) 133 := hp_449
      have h : yH D AZ sZ.heap [] (X ++ []) _ _ := h
      rw [hp_449]
      refine lv_bipush (v := 66) hx hb dL_act_452 (by decide) ?_
      refine lv_isub hx hb dL_act_454 ?_
      refine lv_iload hx hb dL_act_455 (lv_at hl 4 rfl) ?_
      refine lv_iload hx hb dL_act_457 (lv_at hl 3 rfl) ?_
      refine lv_iload hx hb dL_act_459 (lv_at hl 0 rfl) ?_
      have h : yH D AZ sZ.heap X [] _ _ := h.pl rfl
      refine q_calll h hA (vx_runSW (own := RL) (As := [.ref yd, .int ((qLow (v >>> ((10 : Int32) &&& 31)) 133) - (66 : Int32)), .int (qLow (v >>> ((5 : Int32) &&& 31)) 360), .int ((60 : Int32) + (qLow (v >>> ((8 : Int32) &&& 31)) 240)), .int (qLow (v >>> ((11 : Int32) &&& 31)) 3)]) (rest := []) ⟨hx, hb, hml, hown, y_nil⟩ (q_sun (l := l) (D := D) (ty := ty) (base := _) (sz := _) hl9 hq ((qLow (v >>> ((10 : Int32) &&& 31)) 133) - (66 : Int32)) (qLow (v >>> ((5 : Int32) &&& 31)) 360) ((60 : Int32) + (qLow (v >>> ((8 : Int32) &&& 31)) 240)) (qLow (v >>> ((11 : Int32) &&& 31)) 3) ) (y_cwSW 5 (kw_2_216 hG) (kw_1_0 hG) (kw_2_214 hG) (kw_2_215 hG) yd_L_sun ⟨Nat.le_of_ble_eq_true rfl, Nat.le_of_ble_eq_true rfl⟩) (q_preS hG h hAb) rfl rfl hl.1 rfl (lv_room (Nat.le_of_ble_eq_true rfl)) dL_act_461 ⟨Nat.le_of_ble_eq_true rfl, Nat.le_of_ble_eq_true rfl⟩) (fun r_461 X_461 H locs hp_461 h => ?_)
      obtain ⟨e_461, hq_461⟩ := hp_461
      have h : yH D AZ sZ.heap [] (X_461 ++ []) _ _ := h.pl rfl
      rw [e_461]
      exact hret _ _ _ _ _ _ _ _ ⟨rfl, hq_461⟩ h (Nat.le_of_ble_eq_true rfl) (Nat.le_of_ble_eq_true rfl) dL_act_464
    · exact absurd (by decide) c_433

set_option maxHeartbeats 4000000 in
set_option maxRecDepth 100000 in
theorem ac_4_1 {l : Launch} {D : va_G} {ty : Nat → ClassId} {base sz : Nat} (hl9 : l.stackTraces = false) {yd : Nat} {σ : QS} {X : va_W} (hq : qY ty yd σ X) {v : Int32} (ho : qLow (v >>> (26 &&& 31)) 14 = 0) (hk : qLow v 46 = 4)  : Met l yL_act [.code yL_act cL_act 10 (some (.long))] rmA (yPc D ty base sz X [.ref yd, .int v]) (va_Ql (fun r X' => r = (aPlace σ (v >>> ((3 : Int32) &&& 31)) (v >>> ((4 : Int32) &&& 31))).toInt64 ∧ qY ty yd (nPlace σ (v >>> ((3 : Int32) &&& 31)) (v >>> ((4 : Int32) &&& 31))) X') (yB D (va_A X sz) (fun X' : va_W => X')) (va_A X sz)) rmA.cells rmA.slots (va_A X sz) := by
  refine act_pre1 ho (fun pZ eZ sZ mZ aZ bZ tZ cZ AZ ls QZ H locs E h hl hret => ?_)
  · obtain ⟨hx, hb, hml, hown, hG, hA, hAb⟩ := E
    rw [hk]
    refine lv_tableIn (tgt := 465) (off := 259) hx hb dL_act_206 (by decide) (by decide) (by decide) (by decide) ?_
    refine lv_aload_n hx hb dL_act_465 rfl (lv_at hl 8 rfl) ?_
    refine lv_iload_n hx hb dL_act_466 rfl (lv_at hl 7 rfl) ?_
    refine lv_if_eq (tgt := 476) hx hb dL_act_467 (by decide) (fun c_467 => ?_) (fun c_467 => ?_)
    · exact absurd c_467 (by decide)
    · skip
      refine lv_iload_n hx hb dL_act_470 rfl (lv_at hl 9 rfl) ?_
      refine lv_iconst (v := 3) hx hb dL_act_471 (by decide) ?_
      refine lv_ishr hx hb dL_act_472 ?_
      refine lv_goto (tgt := 489) hx hb dL_act_473 (by decide) ?_
      refine lv_iload_n hx hb dL_act_489 rfl (lv_at hl 7 rfl) ?_
      refine lv_if_eq (tgt := 499) hx hb dL_act_490 (by decide) (fun c_490 => ?_) (fun c_490 => ?_)
      · exact absurd c_490 (by decide)
      · skip
        refine lv_iload_n hx hb dL_act_493 rfl (lv_at hl 9 rfl) ?_
        refine lv_iconst (v := 4) hx hb dL_act_494 (by decide) ?_
        refine lv_ishr hx hb dL_act_495 ?_
        refine lv_goto (tgt := 512) hx hb dL_act_496 (by decide) ?_
        have h : yH D AZ sZ.heap X [] _ _ := h.pl rfl
        refine q_calli h hA (vx_runSW (own := RL) (As := [.ref yd, .int (v >>> ((3 : Int32) &&& 31)), .int (v >>> ((4 : Int32) &&& 31))]) (rest := []) ⟨hx, hb, hml, hown, y_nil⟩ (q_place (l := l) (D := D) (ty := ty) (base := _) (sz := _) hl9 hq (v >>> ((3 : Int32) &&& 31)) (v >>> ((4 : Int32) &&& 31)) ) (y_cwSW 3 (kw_1_224 hG) (kw_1_0 hG) (kw_1_222 hG) (kw_1_223 hG) yd_L_place ⟨Nat.le_of_ble_eq_true rfl, Nat.le_of_ble_eq_true rfl⟩) (q_preS hG h hAb) rfl rfl hl.1 rfl (lv_room (Nat.le_of_ble_eq_true rfl)) dL_act_512 ⟨Nat.le_of_ble_eq_true rfl, Nat.le_of_ble_eq_true rfl⟩) (fun r_512 X_512 H locs hp_512 h => ?_)
        obtain ⟨e_512, hq_512⟩ := hp_512
        have h : yH D AZ sZ.heap [] (X_512 ++ []) _ _ := h.pl rfl
        rw [e_512]
        refine lv_i2l hx hb dL_act_515 rfl ?_
        exact hret _ _ _ _ _ _ _ _ ⟨rfl, hq_512⟩ h (Nat.le_of_ble_eq_true rfl) (Nat.le_of_ble_eq_true rfl) dL_act_516

set_option maxHeartbeats 4000000 in
set_option maxRecDepth 100000 in
theorem ac_4_0 {l : Launch} {D : va_G} {ty : Nat → ClassId} {base sz : Nat} (hl9 : l.stackTraces = false) {yd : Nat} {σ : QS} {X : va_W} (hq : qY ty yd σ X) {v : Int32} (ho : ¬ qLow (v >>> (26 &&& 31)) 14 = 0) (hk : qLow v 46 = 4)  : Met l yL_act [.code yL_act cL_act 10 (some (.long))] rmA (yPc D ty base sz X [.ref yd, .int v]) (va_Ql (fun r X' => r = (aPlace σ ((qLow (v >>> ((10 : Int32) &&& 31)) 133) - (66 : Int32)) ((qLow (v >>> ((3 : Int32) &&& 31)) 1441) - (720 : Int32))).toInt64 ∧ qY ty yd (nPlace σ ((qLow (v >>> ((10 : Int32) &&& 31)) 133) - (66 : Int32)) ((qLow (v >>> ((3 : Int32) &&& 31)) 1441) - (720 : Int32))) X') (yB D (va_A X sz) (fun X' : va_W => X')) (va_A X sz)) rmA.cells rmA.slots (va_A X sz) := by
  refine act_pre0 ho (fun pZ eZ sZ mZ aZ bZ tZ cZ AZ ls QZ H locs E h hl hret => ?_)
  · obtain ⟨hx, hb, hml, hown, hG, hA, hAb⟩ := E
    rw [hk]
    refine lv_tableIn (tgt := 465) (off := 259) hx hb dL_act_206 (by decide) (by decide) (by decide) (by decide) ?_
    refine lv_aload_n hx hb dL_act_465 rfl (lv_at hl 8 rfl) ?_
    refine lv_iload_n hx hb dL_act_466 rfl (lv_at hl 7 rfl) ?_
    refine lv_if_eq (tgt := 476) hx hb dL_act_467 (by decide) (fun c_467 => ?_) (fun c_467 => ?_)
    · skip
      refine lv_iload_n hx hb dL_act_476 rfl (lv_at hl 9 rfl) ?_
      refine lv_bipush (v := 10) hx hb dL_act_477 (by decide) ?_
      refine lv_ishr hx hb dL_act_479 ?_
      refine lv_sipush (v := 133) hx hb dL_act_480 (by decide) ?_
      refine y_calli (X' := fun _ : Unit => []) (wc := []) (wr := []) h hA [] [] [] rfl rfl (by decide) (by decide) (by decide) (fun _ => rfl) (va_runS (own := RL) (As := [.int (v >>> ((10 : Int32) &&& 31)), .int 133]) (rest := [.ref yd]) ⟨hx, hb, hml, hown, y_nil⟩ (m_L_low l D ty base _ (v >>> ((10 : Int32) &&& 31)) 133   (by decide)) (y_cwS 2 (kw_1_220 hG) (kw_1_0 hG) (kw_1_218 hG) (kw_1_219 hG) yd_L_low ⟨Nat.le_of_ble_eq_true rfl, Nat.le_of_ble_eq_true rfl⟩) (y_preS hG h hAb [] rfl (by decide)) rfl rfl hl.1 rfl (lv_room (Nat.le_of_ble_eq_true rfl)) dL_act_483 ⟨Nat.le_of_ble_eq_true rfl, Nat.le_of_ble_eq_true rfl⟩) (fun r_483 _ H locs hp_483 h => ?_)
      have hp_483 : r_483 = qLow (v >>> ((10 : Int32) &&& 31)) 133 := hp_483
      have h : yH D AZ sZ.heap [] (X ++ []) _ _ := h
      rw [hp_483]
      refine lv_bipush (v := 66) hx hb dL_act_486 (by decide) ?_
      refine lv_isub hx hb dL_act_488 ?_
      refine lv_iload_n hx hb dL_act_489 rfl (lv_at hl 7 rfl) ?_
      refine lv_if_eq (tgt := 499) hx hb dL_act_490 (by decide) (fun c_490 => ?_) (fun c_490 => ?_)
      · skip
        refine lv_iload_n hx hb dL_act_499 rfl (lv_at hl 9 rfl) ?_
        refine lv_iconst (v := 3) hx hb dL_act_500 (by decide) ?_
        refine lv_ishr hx hb dL_act_501 ?_
        refine lv_sipush (v := 1441) hx hb dL_act_502 (by decide) ?_
        refine y_calli (X' := fun _ : Unit => []) (wc := []) (wr := []) h hA [] [] [] rfl rfl (by decide) (by decide) (by decide) (fun _ => rfl) (va_runS (own := RL) (As := [.int (v >>> ((3 : Int32) &&& 31)), .int 1441]) (rest := [.int ((qLow (v >>> ((10 : Int32) &&& 31)) 133) - (66 : Int32)), .ref yd]) ⟨hx, hb, hml, hown, y_nil⟩ (m_L_low l D ty base _ (v >>> ((3 : Int32) &&& 31)) 1441   (by decide)) (y_cwS 2 (kw_1_220 hG) (kw_1_0 hG) (kw_1_218 hG) (kw_1_219 hG) yd_L_low ⟨Nat.le_of_ble_eq_true rfl, Nat.le_of_ble_eq_true rfl⟩) (y_preS hG h hAb [] rfl (by decide)) rfl rfl hl.1 rfl (lv_room (Nat.le_of_ble_eq_true rfl)) dL_act_505 ⟨Nat.le_of_ble_eq_true rfl, Nat.le_of_ble_eq_true rfl⟩) (fun r_505 _ H locs hp_505 h => ?_)
        have hp_505 : r_505 = qLow (v >>> ((3 : Int32) &&& 31)) 1441 := hp_505
        have h : yH D AZ sZ.heap [] (X ++ []) _ _ := h
        rw [hp_505]
        refine lv_sipush (v := 720) hx hb dL_act_508 (by decide) ?_
        refine lv_isub hx hb dL_act_511 ?_
        have h : yH D AZ sZ.heap X [] _ _ := h.pl rfl
        refine q_calli h hA (vx_runSW (own := RL) (As := [.ref yd, .int ((qLow (v >>> ((10 : Int32) &&& 31)) 133) - (66 : Int32)), .int ((qLow (v >>> ((3 : Int32) &&& 31)) 1441) - (720 : Int32))]) (rest := []) ⟨hx, hb, hml, hown, y_nil⟩ (q_place (l := l) (D := D) (ty := ty) (base := _) (sz := _) hl9 hq ((qLow (v >>> ((10 : Int32) &&& 31)) 133) - (66 : Int32)) ((qLow (v >>> ((3 : Int32) &&& 31)) 1441) - (720 : Int32)) ) (y_cwSW 3 (kw_1_224 hG) (kw_1_0 hG) (kw_1_222 hG) (kw_1_223 hG) yd_L_place ⟨Nat.le_of_ble_eq_true rfl, Nat.le_of_ble_eq_true rfl⟩) (q_preS hG h hAb) rfl rfl hl.1 rfl (lv_room (Nat.le_of_ble_eq_true rfl)) dL_act_512 ⟨Nat.le_of_ble_eq_true rfl, Nat.le_of_ble_eq_true rfl⟩) (fun r_512 X_512 H locs hp_512 h => ?_)
        obtain ⟨e_512, hq_512⟩ := hp_512
        have h : yH D AZ sZ.heap [] (X_512 ++ []) _ _ := h.pl rfl
        rw [e_512]
        refine lv_i2l hx hb dL_act_515 rfl ?_
        exact hret _ _ _ _ _ _ _ _ ⟨rfl, hq_512⟩ h (Nat.le_of_ble_eq_true rfl) (Nat.le_of_ble_eq_true rfl) dL_act_516
      · exact absurd (by decide) c_490
    · exact absurd (by decide) c_467

set_option maxHeartbeats 4000000 in
set_option maxRecDepth 100000 in
theorem ac_5_1 {l : Launch} {D : va_G} {ty : Nat → ClassId} {base sz : Nat} (hl9 : l.stackTraces = false) {yd : Nat} {σ : QS} {X : va_W} (hq : qY ty yd σ X) {v : Int32} (ho : qLow (v >>> (26 &&& 31)) 14 = 0) (hk : qLow v 46 = 5)  : Met l yL_act [.code yL_act cL_act 10 (some (.long))] rmA (yPc D ty base sz X [.ref yd, .int v]) (va_Ql (fun r X' => r = (aPlace σ (v >>> ((3 : Int32) &&& 31)) (v >>> ((4 : Int32) &&& 31))).toInt64 ∧ qY ty yd (nPlace σ (v >>> ((3 : Int32) &&& 31)) (v >>> ((4 : Int32) &&& 31))) X') (yB D (va_A X sz) (fun X' : va_W => X')) (va_A X sz)) rmA.cells rmA.slots (va_A X sz) := by
  refine act_pre1 ho (fun pZ eZ sZ mZ aZ bZ tZ cZ AZ ls QZ H locs E h hl hret => ?_)
  · obtain ⟨hx, hb, hml, hown, hG, hA, hAb⟩ := E
    rw [hk]
    refine lv_tableIn (tgt := 465) (off := 259) hx hb dL_act_206 (by decide) (by decide) (by decide) (by decide) ?_
    refine lv_aload_n hx hb dL_act_465 rfl (lv_at hl 8 rfl) ?_
    refine lv_iload_n hx hb dL_act_466 rfl (lv_at hl 7 rfl) ?_
    refine lv_if_eq (tgt := 476) hx hb dL_act_467 (by decide) (fun c_467 => ?_) (fun c_467 => ?_)
    · exact absurd c_467 (by decide)
    · skip
      refine lv_iload_n hx hb dL_act_470 rfl (lv_at hl 9 rfl) ?_
      refine lv_iconst (v := 3) hx hb dL_act_471 (by decide) ?_
      refine lv_ishr hx hb dL_act_472 ?_
      refine lv_goto (tgt := 489) hx hb dL_act_473 (by decide) ?_
      refine lv_iload_n hx hb dL_act_489 rfl (lv_at hl 7 rfl) ?_
      refine lv_if_eq (tgt := 499) hx hb dL_act_490 (by decide) (fun c_490 => ?_) (fun c_490 => ?_)
      · exact absurd c_490 (by decide)
      · skip
        refine lv_iload_n hx hb dL_act_493 rfl (lv_at hl 9 rfl) ?_
        refine lv_iconst (v := 4) hx hb dL_act_494 (by decide) ?_
        refine lv_ishr hx hb dL_act_495 ?_
        refine lv_goto (tgt := 512) hx hb dL_act_496 (by decide) ?_
        have h : yH D AZ sZ.heap X [] _ _ := h.pl rfl
        refine q_calli h hA (vx_runSW (own := RL) (As := [.ref yd, .int (v >>> ((3 : Int32) &&& 31)), .int (v >>> ((4 : Int32) &&& 31))]) (rest := []) ⟨hx, hb, hml, hown, y_nil⟩ (q_place (l := l) (D := D) (ty := ty) (base := _) (sz := _) hl9 hq (v >>> ((3 : Int32) &&& 31)) (v >>> ((4 : Int32) &&& 31)) ) (y_cwSW 3 (kw_1_224 hG) (kw_1_0 hG) (kw_1_222 hG) (kw_1_223 hG) yd_L_place ⟨Nat.le_of_ble_eq_true rfl, Nat.le_of_ble_eq_true rfl⟩) (q_preS hG h hAb) rfl rfl hl.1 rfl (lv_room (Nat.le_of_ble_eq_true rfl)) dL_act_512 ⟨Nat.le_of_ble_eq_true rfl, Nat.le_of_ble_eq_true rfl⟩) (fun r_512 X_512 H locs hp_512 h => ?_)
        obtain ⟨e_512, hq_512⟩ := hp_512
        have h : yH D AZ sZ.heap [] (X_512 ++ []) _ _ := h.pl rfl
        rw [e_512]
        refine lv_i2l hx hb dL_act_515 rfl ?_
        exact hret _ _ _ _ _ _ _ _ ⟨rfl, hq_512⟩ h (Nat.le_of_ble_eq_true rfl) (Nat.le_of_ble_eq_true rfl) dL_act_516

set_option maxHeartbeats 4000000 in
set_option maxRecDepth 100000 in
theorem ac_5_0 {l : Launch} {D : va_G} {ty : Nat → ClassId} {base sz : Nat} (hl9 : l.stackTraces = false) {yd : Nat} {σ : QS} {X : va_W} (hq : qY ty yd σ X) {v : Int32} (ho : ¬ qLow (v >>> (26 &&& 31)) 14 = 0) (hk : qLow v 46 = 5)  : Met l yL_act [.code yL_act cL_act 10 (some (.long))] rmA (yPc D ty base sz X [.ref yd, .int v]) (va_Ql (fun r X' => r = (aPlace σ ((qLow (v >>> ((10 : Int32) &&& 31)) 133) - (66 : Int32)) ((qLow (v >>> ((3 : Int32) &&& 31)) 1441) - (720 : Int32))).toInt64 ∧ qY ty yd (nPlace σ ((qLow (v >>> ((10 : Int32) &&& 31)) 133) - (66 : Int32)) ((qLow (v >>> ((3 : Int32) &&& 31)) 1441) - (720 : Int32))) X') (yB D (va_A X sz) (fun X' : va_W => X')) (va_A X sz)) rmA.cells rmA.slots (va_A X sz) := by
  refine act_pre0 ho (fun pZ eZ sZ mZ aZ bZ tZ cZ AZ ls QZ H locs E h hl hret => ?_)
  · obtain ⟨hx, hb, hml, hown, hG, hA, hAb⟩ := E
    rw [hk]
    refine lv_tableIn (tgt := 465) (off := 259) hx hb dL_act_206 (by decide) (by decide) (by decide) (by decide) ?_
    refine lv_aload_n hx hb dL_act_465 rfl (lv_at hl 8 rfl) ?_
    refine lv_iload_n hx hb dL_act_466 rfl (lv_at hl 7 rfl) ?_
    refine lv_if_eq (tgt := 476) hx hb dL_act_467 (by decide) (fun c_467 => ?_) (fun c_467 => ?_)
    · skip
      refine lv_iload_n hx hb dL_act_476 rfl (lv_at hl 9 rfl) ?_
      refine lv_bipush (v := 10) hx hb dL_act_477 (by decide) ?_
      refine lv_ishr hx hb dL_act_479 ?_
      refine lv_sipush (v := 133) hx hb dL_act_480 (by decide) ?_
      refine y_calli (X' := fun _ : Unit => []) (wc := []) (wr := []) h hA [] [] [] rfl rfl (by decide) (by decide) (by decide) (fun _ => rfl) (va_runS (own := RL) (As := [.int (v >>> ((10 : Int32) &&& 31)), .int 133]) (rest := [.ref yd]) ⟨hx, hb, hml, hown, y_nil⟩ (m_L_low l D ty base _ (v >>> ((10 : Int32) &&& 31)) 133   (by decide)) (y_cwS 2 (kw_1_220 hG) (kw_1_0 hG) (kw_1_218 hG) (kw_1_219 hG) yd_L_low ⟨Nat.le_of_ble_eq_true rfl, Nat.le_of_ble_eq_true rfl⟩) (y_preS hG h hAb [] rfl (by decide)) rfl rfl hl.1 rfl (lv_room (Nat.le_of_ble_eq_true rfl)) dL_act_483 ⟨Nat.le_of_ble_eq_true rfl, Nat.le_of_ble_eq_true rfl⟩) (fun r_483 _ H locs hp_483 h => ?_)
      have hp_483 : r_483 = qLow (v >>> ((10 : Int32) &&& 31)) 133 := hp_483
      have h : yH D AZ sZ.heap [] (X ++ []) _ _ := h
      rw [hp_483]
      refine lv_bipush (v := 66) hx hb dL_act_486 (by decide) ?_
      refine lv_isub hx hb dL_act_488 ?_
      refine lv_iload_n hx hb dL_act_489 rfl (lv_at hl 7 rfl) ?_
      refine lv_if_eq (tgt := 499) hx hb dL_act_490 (by decide) (fun c_490 => ?_) (fun c_490 => ?_)
      · skip
        refine lv_iload_n hx hb dL_act_499 rfl (lv_at hl 9 rfl) ?_
        refine lv_iconst (v := 3) hx hb dL_act_500 (by decide) ?_
        refine lv_ishr hx hb dL_act_501 ?_
        refine lv_sipush (v := 1441) hx hb dL_act_502 (by decide) ?_
        refine y_calli (X' := fun _ : Unit => []) (wc := []) (wr := []) h hA [] [] [] rfl rfl (by decide) (by decide) (by decide) (fun _ => rfl) (va_runS (own := RL) (As := [.int (v >>> ((3 : Int32) &&& 31)), .int 1441]) (rest := [.int ((qLow (v >>> ((10 : Int32) &&& 31)) 133) - (66 : Int32)), .ref yd]) ⟨hx, hb, hml, hown, y_nil⟩ (m_L_low l D ty base _ (v >>> ((3 : Int32) &&& 31)) 1441   (by decide)) (y_cwS 2 (kw_1_220 hG) (kw_1_0 hG) (kw_1_218 hG) (kw_1_219 hG) yd_L_low ⟨Nat.le_of_ble_eq_true rfl, Nat.le_of_ble_eq_true rfl⟩) (y_preS hG h hAb [] rfl (by decide)) rfl rfl hl.1 rfl (lv_room (Nat.le_of_ble_eq_true rfl)) dL_act_505 ⟨Nat.le_of_ble_eq_true rfl, Nat.le_of_ble_eq_true rfl⟩) (fun r_505 _ H locs hp_505 h => ?_)
        have hp_505 : r_505 = qLow (v >>> ((3 : Int32) &&& 31)) 1441 := hp_505
        have h : yH D AZ sZ.heap [] (X ++ []) _ _ := h
        rw [hp_505]
        refine lv_sipush (v := 720) hx hb dL_act_508 (by decide) ?_
        refine lv_isub hx hb dL_act_511 ?_
        have h : yH D AZ sZ.heap X [] _ _ := h.pl rfl
        refine q_calli h hA (vx_runSW (own := RL) (As := [.ref yd, .int ((qLow (v >>> ((10 : Int32) &&& 31)) 133) - (66 : Int32)), .int ((qLow (v >>> ((3 : Int32) &&& 31)) 1441) - (720 : Int32))]) (rest := []) ⟨hx, hb, hml, hown, y_nil⟩ (q_place (l := l) (D := D) (ty := ty) (base := _) (sz := _) hl9 hq ((qLow (v >>> ((10 : Int32) &&& 31)) 133) - (66 : Int32)) ((qLow (v >>> ((3 : Int32) &&& 31)) 1441) - (720 : Int32)) ) (y_cwSW 3 (kw_1_224 hG) (kw_1_0 hG) (kw_1_222 hG) (kw_1_223 hG) yd_L_place ⟨Nat.le_of_ble_eq_true rfl, Nat.le_of_ble_eq_true rfl⟩) (q_preS hG h hAb) rfl rfl hl.1 rfl (lv_room (Nat.le_of_ble_eq_true rfl)) dL_act_512 ⟨Nat.le_of_ble_eq_true rfl, Nat.le_of_ble_eq_true rfl⟩) (fun r_512 X_512 H locs hp_512 h => ?_)
        obtain ⟨e_512, hq_512⟩ := hp_512
        have h : yH D AZ sZ.heap [] (X_512 ++ []) _ _ := h.pl rfl
        rw [e_512]
        refine lv_i2l hx hb dL_act_515 rfl ?_
        exact hret _ _ _ _ _ _ _ _ ⟨rfl, hq_512⟩ h (Nat.le_of_ble_eq_true rfl) (Nat.le_of_ble_eq_true rfl) dL_act_516
      · exact absurd (by decide) c_490
    · exact absurd (by decide) c_467

set_option maxHeartbeats 4000000 in
set_option maxRecDepth 100000 in
theorem ac_6_1 {l : Launch} {D : va_G} {ty : Nat → ClassId} {base sz : Nat} (hl9 : l.stackTraces = false) {yd : Nat} {σ : QS} {X : va_W} (hq : qY ty yd σ X) {v : Int32} (ho : qLow (v >>> (26 &&& 31)) 14 = 0) (hk : qLow v 46 = 6)  : Met l yL_act [.code yL_act cL_act 10 (some (.long))] rmA (yPc D ty base sz X [.ref yd, .int v]) (va_Ql (fun r X' => r = (aLight σ ((qLow (v >>> ((4 : Int32) &&& 31)) 11) - (2 : Int32)) (v >>> ((5 : Int32) &&& 31)) ((qLow (v >>> ((11 : Int32) &&& 31)) 8) - (1 : Int32))).toInt64 ∧ qY ty yd σ X') (yB D (va_A X sz) (fun X' : va_W => X')) (va_A X sz)) rmA.cells rmA.slots (va_A X sz) := by
  refine act_pre1 ho (fun pZ eZ sZ mZ aZ bZ tZ cZ AZ ls QZ H locs E h hl hret => ?_)
  · obtain ⟨hx, hb, hml, hown, hG, hA, hAb⟩ := E
    rw [hk]
    refine lv_tableIn (tgt := 517) (off := 311) hx hb dL_act_206 (by decide) (by decide) (by decide) (by decide) ?_
    refine lv_aload_n hx hb dL_act_517 rfl (lv_at hl 8 rfl) ?_
    refine lv_iload_n hx hb dL_act_518 rfl (lv_at hl 6 rfl) ?_
    refine lv_iload hx hb dL_act_519 (lv_at hl 4 rfl) ?_
    refine lv_iload hx hb dL_act_521 (lv_at hl 0 rfl) ?_
    have h : yH D AZ sZ.heap X [] _ _ := h.pl rfl
    refine q_calli h hA (vx_runSW (own := RL) (As := [.ref yd, .int ((qLow (v >>> ((4 : Int32) &&& 31)) 11) - (2 : Int32)), .int (v >>> ((5 : Int32) &&& 31)), .int ((qLow (v >>> ((11 : Int32) &&& 31)) 8) - (1 : Int32))]) (rest := []) ⟨hx, hb, hml, hown, y_nil⟩ (q_light (l := l) (D := D) (ty := ty) (base := _) (sz := _) hl9 hq ((qLow (v >>> ((4 : Int32) &&& 31)) 11) - (2 : Int32)) (v >>> ((5 : Int32) &&& 31)) ((qLow (v >>> ((11 : Int32) &&& 31)) 8) - (1 : Int32)) ) (y_cwSW 4 (kw_2_239 hG) (kw_1_0 hG) (kw_2_237 hG) (kw_2_238 hG) yd_L_light ⟨Nat.le_of_ble_eq_true rfl, Nat.le_of_ble_eq_true rfl⟩) (q_preS hG h hAb) rfl rfl hl.1 rfl (lv_room (Nat.le_of_ble_eq_true rfl)) dL_act_523 ⟨Nat.le_of_ble_eq_true rfl, Nat.le_of_ble_eq_true rfl⟩) (fun r_523 X_523 H locs hp_523 h => ?_)
    obtain ⟨e_523, hq_523⟩ := hp_523
    have h : yH D AZ sZ.heap [] (X_523 ++ []) _ _ := h.pl rfl
    rw [e_523]
    refine lv_i2l hx hb dL_act_526 rfl ?_
    exact hret _ _ _ _ _ _ _ _ ⟨rfl, hq_523⟩ h (Nat.le_of_ble_eq_true rfl) (Nat.le_of_ble_eq_true rfl) dL_act_527

set_option maxHeartbeats 4000000 in
set_option maxRecDepth 100000 in
theorem ac_6_0 {l : Launch} {D : va_G} {ty : Nat → ClassId} {base sz : Nat} (hl9 : l.stackTraces = false) {yd : Nat} {σ : QS} {X : va_W} (hq : qY ty yd σ X) {v : Int32} (ho : ¬ qLow (v >>> (26 &&& 31)) 14 = 0) (hk : qLow v 46 = 6)  : Met l yL_act [.code yL_act cL_act 10 (some (.long))] rmA (yPc D ty base sz X [.ref yd, .int v]) (va_Ql (fun r X' => r = (aLight σ (qLow (v >>> ((4 : Int32) &&& 31)) 3) (qLow (v >>> ((5 : Int32) &&& 31)) 360) (qLow (v >>> ((11 : Int32) &&& 31)) 3)).toInt64 ∧ qY ty yd σ X') (yB D (va_A X sz) (fun X' : va_W => X')) (va_A X sz)) rmA.cells rmA.slots (va_A X sz) := by
  refine act_pre0 ho (fun pZ eZ sZ mZ aZ bZ tZ cZ AZ ls QZ H locs E h hl hret => ?_)
  · obtain ⟨hx, hb, hml, hown, hG, hA, hAb⟩ := E
    rw [hk]
    refine lv_tableIn (tgt := 517) (off := 311) hx hb dL_act_206 (by decide) (by decide) (by decide) (by decide) ?_
    refine lv_aload_n hx hb dL_act_517 rfl (lv_at hl 8 rfl) ?_
    refine lv_iload_n hx hb dL_act_518 rfl (lv_at hl 6 rfl) ?_
    refine lv_iload hx hb dL_act_519 (lv_at hl 4 rfl) ?_
    refine lv_iload hx hb dL_act_521 (lv_at hl 0 rfl) ?_
    have h : yH D AZ sZ.heap X [] _ _ := h.pl rfl
    refine q_calli h hA (vx_runSW (own := RL) (As := [.ref yd, .int (qLow (v >>> ((4 : Int32) &&& 31)) 3), .int (qLow (v >>> ((5 : Int32) &&& 31)) 360), .int (qLow (v >>> ((11 : Int32) &&& 31)) 3)]) (rest := []) ⟨hx, hb, hml, hown, y_nil⟩ (q_light (l := l) (D := D) (ty := ty) (base := _) (sz := _) hl9 hq (qLow (v >>> ((4 : Int32) &&& 31)) 3) (qLow (v >>> ((5 : Int32) &&& 31)) 360) (qLow (v >>> ((11 : Int32) &&& 31)) 3) ) (y_cwSW 4 (kw_2_239 hG) (kw_1_0 hG) (kw_2_237 hG) (kw_2_238 hG) yd_L_light ⟨Nat.le_of_ble_eq_true rfl, Nat.le_of_ble_eq_true rfl⟩) (q_preS hG h hAb) rfl rfl hl.1 rfl (lv_room (Nat.le_of_ble_eq_true rfl)) dL_act_523 ⟨Nat.le_of_ble_eq_true rfl, Nat.le_of_ble_eq_true rfl⟩) (fun r_523 X_523 H locs hp_523 h => ?_)
    obtain ⟨e_523, hq_523⟩ := hp_523
    have h : yH D AZ sZ.heap [] (X_523 ++ []) _ _ := h.pl rfl
    rw [e_523]
    refine lv_i2l hx hb dL_act_526 rfl ?_
    exact hret _ _ _ _ _ _ _ _ ⟨rfl, hq_523⟩ h (Nat.le_of_ble_eq_true rfl) (Nat.le_of_ble_eq_true rfl) dL_act_527

set_option maxHeartbeats 4000000 in
set_option maxRecDepth 100000 in
theorem ac_7_1 {l : Launch} {D : va_G} {ty : Nat → ClassId} {base sz : Nat} (hl9 : l.stackTraces = false) {yd : Nat} {σ : QS} {X : va_W} (hq : qY ty yd σ X) {v : Int32} (ho : qLow (v >>> (26 &&& 31)) 14 = 0) (hk : qLow v 46 = 7)  : Met l yL_act [.code yL_act cL_act 10 (some (.long))] rmA (yPc D ty base sz X [.ref yd, .int v]) (va_Ql (fun r X' => r = (aLight σ ((qLow (v >>> ((4 : Int32) &&& 31)) 11) - (2 : Int32)) (v >>> ((5 : Int32) &&& 31)) ((qLow (v >>> ((11 : Int32) &&& 31)) 8) - (1 : Int32))).toInt64 ∧ qY ty yd σ X') (yB D (va_A X sz) (fun X' : va_W => X')) (va_A X sz)) rmA.cells rmA.slots (va_A X sz) := by
  refine act_pre1 ho (fun pZ eZ sZ mZ aZ bZ tZ cZ AZ ls QZ H locs E h hl hret => ?_)
  · obtain ⟨hx, hb, hml, hown, hG, hA, hAb⟩ := E
    rw [hk]
    refine lv_tableIn (tgt := 517) (off := 311) hx hb dL_act_206 (by decide) (by decide) (by decide) (by decide) ?_
    refine lv_aload_n hx hb dL_act_517 rfl (lv_at hl 8 rfl) ?_
    refine lv_iload_n hx hb dL_act_518 rfl (lv_at hl 6 rfl) ?_
    refine lv_iload hx hb dL_act_519 (lv_at hl 4 rfl) ?_
    refine lv_iload hx hb dL_act_521 (lv_at hl 0 rfl) ?_
    have h : yH D AZ sZ.heap X [] _ _ := h.pl rfl
    refine q_calli h hA (vx_runSW (own := RL) (As := [.ref yd, .int ((qLow (v >>> ((4 : Int32) &&& 31)) 11) - (2 : Int32)), .int (v >>> ((5 : Int32) &&& 31)), .int ((qLow (v >>> ((11 : Int32) &&& 31)) 8) - (1 : Int32))]) (rest := []) ⟨hx, hb, hml, hown, y_nil⟩ (q_light (l := l) (D := D) (ty := ty) (base := _) (sz := _) hl9 hq ((qLow (v >>> ((4 : Int32) &&& 31)) 11) - (2 : Int32)) (v >>> ((5 : Int32) &&& 31)) ((qLow (v >>> ((11 : Int32) &&& 31)) 8) - (1 : Int32)) ) (y_cwSW 4 (kw_2_239 hG) (kw_1_0 hG) (kw_2_237 hG) (kw_2_238 hG) yd_L_light ⟨Nat.le_of_ble_eq_true rfl, Nat.le_of_ble_eq_true rfl⟩) (q_preS hG h hAb) rfl rfl hl.1 rfl (lv_room (Nat.le_of_ble_eq_true rfl)) dL_act_523 ⟨Nat.le_of_ble_eq_true rfl, Nat.le_of_ble_eq_true rfl⟩) (fun r_523 X_523 H locs hp_523 h => ?_)
    obtain ⟨e_523, hq_523⟩ := hp_523
    have h : yH D AZ sZ.heap [] (X_523 ++ []) _ _ := h.pl rfl
    rw [e_523]
    refine lv_i2l hx hb dL_act_526 rfl ?_
    exact hret _ _ _ _ _ _ _ _ ⟨rfl, hq_523⟩ h (Nat.le_of_ble_eq_true rfl) (Nat.le_of_ble_eq_true rfl) dL_act_527

set_option maxHeartbeats 4000000 in
set_option maxRecDepth 100000 in
theorem ac_7_0 {l : Launch} {D : va_G} {ty : Nat → ClassId} {base sz : Nat} (hl9 : l.stackTraces = false) {yd : Nat} {σ : QS} {X : va_W} (hq : qY ty yd σ X) {v : Int32} (ho : ¬ qLow (v >>> (26 &&& 31)) 14 = 0) (hk : qLow v 46 = 7)  : Met l yL_act [.code yL_act cL_act 10 (some (.long))] rmA (yPc D ty base sz X [.ref yd, .int v]) (va_Ql (fun r X' => r = (aLight σ (qLow (v >>> ((4 : Int32) &&& 31)) 3) (qLow (v >>> ((5 : Int32) &&& 31)) 360) (qLow (v >>> ((11 : Int32) &&& 31)) 3)).toInt64 ∧ qY ty yd σ X') (yB D (va_A X sz) (fun X' : va_W => X')) (va_A X sz)) rmA.cells rmA.slots (va_A X sz) := by
  refine act_pre0 ho (fun pZ eZ sZ mZ aZ bZ tZ cZ AZ ls QZ H locs E h hl hret => ?_)
  · obtain ⟨hx, hb, hml, hown, hG, hA, hAb⟩ := E
    rw [hk]
    refine lv_tableIn (tgt := 517) (off := 311) hx hb dL_act_206 (by decide) (by decide) (by decide) (by decide) ?_
    refine lv_aload_n hx hb dL_act_517 rfl (lv_at hl 8 rfl) ?_
    refine lv_iload_n hx hb dL_act_518 rfl (lv_at hl 6 rfl) ?_
    refine lv_iload hx hb dL_act_519 (lv_at hl 4 rfl) ?_
    refine lv_iload hx hb dL_act_521 (lv_at hl 0 rfl) ?_
    have h : yH D AZ sZ.heap X [] _ _ := h.pl rfl
    refine q_calli h hA (vx_runSW (own := RL) (As := [.ref yd, .int (qLow (v >>> ((4 : Int32) &&& 31)) 3), .int (qLow (v >>> ((5 : Int32) &&& 31)) 360), .int (qLow (v >>> ((11 : Int32) &&& 31)) 3)]) (rest := []) ⟨hx, hb, hml, hown, y_nil⟩ (q_light (l := l) (D := D) (ty := ty) (base := _) (sz := _) hl9 hq (qLow (v >>> ((4 : Int32) &&& 31)) 3) (qLow (v >>> ((5 : Int32) &&& 31)) 360) (qLow (v >>> ((11 : Int32) &&& 31)) 3) ) (y_cwSW 4 (kw_2_239 hG) (kw_1_0 hG) (kw_2_237 hG) (kw_2_238 hG) yd_L_light ⟨Nat.le_of_ble_eq_true rfl, Nat.le_of_ble_eq_true rfl⟩) (q_preS hG h hAb) rfl rfl hl.1 rfl (lv_room (Nat.le_of_ble_eq_true rfl)) dL_act_523 ⟨Nat.le_of_ble_eq_true rfl, Nat.le_of_ble_eq_true rfl⟩) (fun r_523 X_523 H locs hp_523 h => ?_)
    obtain ⟨e_523, hq_523⟩ := hp_523
    have h : yH D AZ sZ.heap [] (X_523 ++ []) _ _ := h.pl rfl
    rw [e_523]
    refine lv_i2l hx hb dL_act_526 rfl ?_
    exact hret _ _ _ _ _ _ _ _ ⟨rfl, hq_523⟩ h (Nat.le_of_ble_eq_true rfl) (Nat.le_of_ble_eq_true rfl) dL_act_527

set_option maxHeartbeats 4000000 in
set_option maxRecDepth 100000 in
theorem ac_8_1 {l : Launch} {D : va_G} {ty : Nat → ClassId} {base sz : Nat} (hl9 : l.stackTraces = false) {yd : Nat} {σ : QS} {X : va_W} (hq : qY ty yd σ X) {v : Int32} (ho : qLow (v >>> (26 &&& 31)) 14 = 0) (hk : qLow v 46 = 8)  : Met l yL_act [.code yL_act cL_act 10 (some (.long))] rmA (yPc D ty base sz X [.ref yd, .int v]) (va_Ql (fun r X' => r = (aLightAnew σ ((qLow (v >>> ((4 : Int32) &&& 31)) 11) - (2 : Int32)) (v >>> ((5 : Int32) &&& 31))).toInt64 ∧ qY ty yd σ X') (yB D (va_A X sz) (fun X' : va_W => X')) (va_A X sz)) rmA.cells rmA.slots (va_A X sz) := by
  refine act_pre1 ho (fun pZ eZ sZ mZ aZ bZ tZ cZ AZ ls QZ H locs E h hl hret => ?_)
  · obtain ⟨hx, hb, hml, hown, hG, hA, hAb⟩ := E
    rw [hk]
    refine lv_tableIn (tgt := 528) (off := 322) hx hb dL_act_206 (by decide) (by decide) (by decide) (by decide) ?_
    refine lv_aload_n hx hb dL_act_528 rfl (lv_at hl 8 rfl) ?_
    refine lv_iload_n hx hb dL_act_529 rfl (lv_at hl 6 rfl) ?_
    refine lv_iload hx hb dL_act_530 (lv_at hl 4 rfl) ?_
    have h : yH D AZ sZ.heap X [] _ _ := h.pl rfl
    refine q_calli h hA (vx_runSW (own := RL) (As := [.ref yd, .int ((qLow (v >>> ((4 : Int32) &&& 31)) 11) - (2 : Int32)), .int (v >>> ((5 : Int32) &&& 31))]) (rest := []) ⟨hx, hb, hml, hown, y_nil⟩ (q_lightAnew (l := l) (D := D) (ty := ty) (base := _) (sz := _) hl9 hq ((qLow (v >>> ((4 : Int32) &&& 31)) 11) - (2 : Int32)) (v >>> ((5 : Int32) &&& 31)) ) (y_cwSW 3 (kw_3_27 hG) (kw_1_0 hG) (kw_3_25 hG) (kw_3_26 hG) yd_L_lightAnew ⟨Nat.le_of_ble_eq_true rfl, Nat.le_of_ble_eq_true rfl⟩) (q_preS hG h hAb) rfl rfl hl.1 rfl (lv_room (Nat.le_of_ble_eq_true rfl)) dL_act_532 ⟨Nat.le_of_ble_eq_true rfl, Nat.le_of_ble_eq_true rfl⟩) (fun r_532 X_532 H locs hp_532 h => ?_)
    obtain ⟨e_532, hq_532⟩ := hp_532
    have h : yH D AZ sZ.heap [] (X_532 ++ []) _ _ := h.pl rfl
    rw [e_532]
    refine lv_i2l hx hb dL_act_535 rfl ?_
    exact hret _ _ _ _ _ _ _ _ ⟨rfl, hq_532⟩ h (Nat.le_of_ble_eq_true rfl) (Nat.le_of_ble_eq_true rfl) dL_act_536

set_option maxHeartbeats 4000000 in
set_option maxRecDepth 100000 in
theorem ac_8_0 {l : Launch} {D : va_G} {ty : Nat → ClassId} {base sz : Nat} (hl9 : l.stackTraces = false) {yd : Nat} {σ : QS} {X : va_W} (hq : qY ty yd σ X) {v : Int32} (ho : ¬ qLow (v >>> (26 &&& 31)) 14 = 0) (hk : qLow v 46 = 8)  : Met l yL_act [.code yL_act cL_act 10 (some (.long))] rmA (yPc D ty base sz X [.ref yd, .int v]) (va_Ql (fun r X' => r = (aLightAnew σ (qLow (v >>> ((4 : Int32) &&& 31)) 3) (qLow (v >>> ((5 : Int32) &&& 31)) 360)).toInt64 ∧ qY ty yd σ X') (yB D (va_A X sz) (fun X' : va_W => X')) (va_A X sz)) rmA.cells rmA.slots (va_A X sz) := by
  refine act_pre0 ho (fun pZ eZ sZ mZ aZ bZ tZ cZ AZ ls QZ H locs E h hl hret => ?_)
  · obtain ⟨hx, hb, hml, hown, hG, hA, hAb⟩ := E
    rw [hk]
    refine lv_tableIn (tgt := 528) (off := 322) hx hb dL_act_206 (by decide) (by decide) (by decide) (by decide) ?_
    refine lv_aload_n hx hb dL_act_528 rfl (lv_at hl 8 rfl) ?_
    refine lv_iload_n hx hb dL_act_529 rfl (lv_at hl 6 rfl) ?_
    refine lv_iload hx hb dL_act_530 (lv_at hl 4 rfl) ?_
    have h : yH D AZ sZ.heap X [] _ _ := h.pl rfl
    refine q_calli h hA (vx_runSW (own := RL) (As := [.ref yd, .int (qLow (v >>> ((4 : Int32) &&& 31)) 3), .int (qLow (v >>> ((5 : Int32) &&& 31)) 360)]) (rest := []) ⟨hx, hb, hml, hown, y_nil⟩ (q_lightAnew (l := l) (D := D) (ty := ty) (base := _) (sz := _) hl9 hq (qLow (v >>> ((4 : Int32) &&& 31)) 3) (qLow (v >>> ((5 : Int32) &&& 31)) 360) ) (y_cwSW 3 (kw_3_27 hG) (kw_1_0 hG) (kw_3_25 hG) (kw_3_26 hG) yd_L_lightAnew ⟨Nat.le_of_ble_eq_true rfl, Nat.le_of_ble_eq_true rfl⟩) (q_preS hG h hAb) rfl rfl hl.1 rfl (lv_room (Nat.le_of_ble_eq_true rfl)) dL_act_532 ⟨Nat.le_of_ble_eq_true rfl, Nat.le_of_ble_eq_true rfl⟩) (fun r_532 X_532 H locs hp_532 h => ?_)
    obtain ⟨e_532, hq_532⟩ := hp_532
    have h : yH D AZ sZ.heap [] (X_532 ++ []) _ _ := h.pl rfl
    rw [e_532]
    refine lv_i2l hx hb dL_act_535 rfl ?_
    exact hret _ _ _ _ _ _ _ _ ⟨rfl, hq_532⟩ h (Nat.le_of_ble_eq_true rfl) (Nat.le_of_ble_eq_true rfl) dL_act_536

set_option maxHeartbeats 4000000 in
set_option maxRecDepth 100000 in
theorem ac_9_1 {l : Launch} {D : va_G} {ty : Nat → ClassId} {base sz : Nat} (hl9 : l.stackTraces = false) {yd : Nat} {σ : QS} {X : va_W} (hq : qY ty yd σ X) {v : Int32} (ho : qLow (v >>> (26 &&& 31)) 14 = 0) (hk : qLow v 46 = 9)  : Met l yL_act [.code yL_act cL_act 10 (some (.long))] rmA (yPc D ty base sz X [.ref yd, .int v]) (va_Ql (fun r X' => r = (aHour σ ((qLow (v >>> ((4 : Int32) &&& 31)) 11) - (2 : Int32)) (v >>> ((5 : Int32) &&& 31)) (v >>> ((8 : Int32) &&& 31)) ((qLow (v >>> ((11 : Int32) &&& 31)) 8) - (1 : Int32))).toInt64 ∧ qY ty yd σ X') (yB D (va_A X sz) (fun X' : va_W => X')) (va_A X sz)) rmA.cells rmA.slots (va_A X sz) := by
  refine act_pre1 ho (fun pZ eZ sZ mZ aZ bZ tZ cZ AZ ls QZ H locs E h hl hret => ?_)
  · obtain ⟨hx, hb, hml, hown, hG, hA, hAb⟩ := E
    rw [hk]
    refine lv_tableIn (tgt := 537) (off := 331) hx hb dL_act_206 (by decide) (by decide) (by decide) (by decide) ?_
    refine lv_aload_n hx hb dL_act_537 rfl (lv_at hl 8 rfl) ?_
    refine lv_iload_n hx hb dL_act_538 rfl (lv_at hl 6 rfl) ?_
    refine lv_iload hx hb dL_act_539 (lv_at hl 4 rfl) ?_
    refine lv_iload hx hb dL_act_541 (lv_at hl 3 rfl) ?_
    refine lv_iload_n hx hb dL_act_543 rfl (lv_at hl 7 rfl) ?_
    refine lv_if_eq (tgt := 552) hx hb dL_act_544 (by decide) (fun c_544 => ?_) (fun c_544 => ?_)
    · exact absurd c_544 (by decide)
    · skip
      refine lv_iload hx hb dL_act_547 (lv_at hl 0 rfl) ?_
      refine lv_goto (tgt := 560) hx hb dL_act_549 (by decide) ?_
      have h : yH D AZ sZ.heap X [] _ _ := h.pl rfl
      refine q_calli h hA (vx_runSW (own := RL) (As := [.ref yd, .int ((qLow (v >>> ((4 : Int32) &&& 31)) 11) - (2 : Int32)), .int (v >>> ((5 : Int32) &&& 31)), .int (v >>> ((8 : Int32) &&& 31)), .int ((qLow (v >>> ((11 : Int32) &&& 31)) 8) - (1 : Int32))]) (rest := []) ⟨hx, hb, hml, hown, y_nil⟩ (q_hour (l := l) (D := D) (ty := ty) (base := _) (sz := _) hl9 hq ((qLow (v >>> ((4 : Int32) &&& 31)) 11) - (2 : Int32)) (v >>> ((5 : Int32) &&& 31)) (v >>> ((8 : Int32) &&& 31)) ((qLow (v >>> ((11 : Int32) &&& 31)) 8) - (1 : Int32)) ) (y_cwSW 5 (kw_3_37 hG) (kw_1_0 hG) (kw_3_35 hG) (kw_3_36 hG) yd_L_hour ⟨Nat.le_of_ble_eq_true rfl, Nat.le_of_ble_eq_true rfl⟩) (q_preS hG h hAb) rfl rfl hl.1 rfl (lv_room (Nat.le_of_ble_eq_true rfl)) dL_act_560 ⟨Nat.le_of_ble_eq_true rfl, Nat.le_of_ble_eq_true rfl⟩) (fun r_560 X_560 H locs hp_560 h => ?_)
      obtain ⟨e_560, hq_560⟩ := hp_560
      have h : yH D AZ sZ.heap [] (X_560 ++ []) _ _ := h.pl rfl
      rw [e_560]
      refine lv_i2l hx hb dL_act_563 rfl ?_
      exact hret _ _ _ _ _ _ _ _ ⟨rfl, hq_560⟩ h (Nat.le_of_ble_eq_true rfl) (Nat.le_of_ble_eq_true rfl) dL_act_564

set_option maxHeartbeats 4000000 in
set_option maxRecDepth 100000 in
theorem ac_9_0 {l : Launch} {D : va_G} {ty : Nat → ClassId} {base sz : Nat} (hl9 : l.stackTraces = false) {yd : Nat} {σ : QS} {X : va_W} (hq : qY ty yd σ X) {v : Int32} (ho : ¬ qLow (v >>> (26 &&& 31)) 14 = 0) (hk : qLow v 46 = 9)  : Met l yL_act [.code yL_act cL_act 10 (some (.long))] rmA (yPc D ty base sz X [.ref yd, .int v]) (va_Ql (fun r X' => r = (aHour σ (qLow (v >>> ((4 : Int32) &&& 31)) 3) (qLow (v >>> ((5 : Int32) &&& 31)) 360) ((60 : Int32) + (qLow (v >>> ((8 : Int32) &&& 31)) 240)) (qLow (v >>> ((11 : Int32) &&& 31)) 4)).toInt64 ∧ qY ty yd σ X') (yB D (va_A X sz) (fun X' : va_W => X')) (va_A X sz)) rmA.cells rmA.slots (va_A X sz) := by
  refine act_pre0 ho (fun pZ eZ sZ mZ aZ bZ tZ cZ AZ ls QZ H locs E h hl hret => ?_)
  · obtain ⟨hx, hb, hml, hown, hG, hA, hAb⟩ := E
    rw [hk]
    refine lv_tableIn (tgt := 537) (off := 331) hx hb dL_act_206 (by decide) (by decide) (by decide) (by decide) ?_
    refine lv_aload_n hx hb dL_act_537 rfl (lv_at hl 8 rfl) ?_
    refine lv_iload_n hx hb dL_act_538 rfl (lv_at hl 6 rfl) ?_
    refine lv_iload hx hb dL_act_539 (lv_at hl 4 rfl) ?_
    refine lv_iload hx hb dL_act_541 (lv_at hl 3 rfl) ?_
    refine lv_iload_n hx hb dL_act_543 rfl (lv_at hl 7 rfl) ?_
    refine lv_if_eq (tgt := 552) hx hb dL_act_544 (by decide) (fun c_544 => ?_) (fun c_544 => ?_)
    · skip
      refine lv_iload_n hx hb dL_act_552 rfl (lv_at hl 9 rfl) ?_
      refine lv_bipush (v := 11) hx hb dL_act_553 (by decide) ?_
      refine lv_ishr hx hb dL_act_555 ?_
      refine lv_iconst (v := 4) hx hb dL_act_556 (by decide) ?_
      refine y_calli (X' := fun _ : Unit => []) (wc := []) (wr := []) h hA [] [] [] rfl rfl (by decide) (by decide) (by decide) (fun _ => rfl) (va_runS (own := RL) (As := [.int (v >>> ((11 : Int32) &&& 31)), .int 4]) (rest := [.int ((60 : Int32) + (qLow (v >>> ((8 : Int32) &&& 31)) 240)), .int (qLow (v >>> ((5 : Int32) &&& 31)) 360), .int (qLow (v >>> ((4 : Int32) &&& 31)) 3), .ref yd]) ⟨hx, hb, hml, hown, y_nil⟩ (m_L_low l D ty base _ (v >>> ((11 : Int32) &&& 31)) 4   (by decide)) (y_cwS 2 (kw_1_220 hG) (kw_1_0 hG) (kw_1_218 hG) (kw_1_219 hG) yd_L_low ⟨Nat.le_of_ble_eq_true rfl, Nat.le_of_ble_eq_true rfl⟩) (y_preS hG h hAb [] rfl (by decide)) rfl rfl hl.1 rfl (lv_room (Nat.le_of_ble_eq_true rfl)) dL_act_557 ⟨Nat.le_of_ble_eq_true rfl, Nat.le_of_ble_eq_true rfl⟩) (fun r_557 _ H locs hp_557 h => ?_)
      have hp_557 : r_557 = qLow (v >>> ((11 : Int32) &&& 31)) 4 := hp_557
      have h : yH D AZ sZ.heap [] (X ++ []) _ _ := h
      rw [hp_557]
      have h : yH D AZ sZ.heap X [] _ _ := h.pl rfl
      refine q_calli h hA (vx_runSW (own := RL) (As := [.ref yd, .int (qLow (v >>> ((4 : Int32) &&& 31)) 3), .int (qLow (v >>> ((5 : Int32) &&& 31)) 360), .int ((60 : Int32) + (qLow (v >>> ((8 : Int32) &&& 31)) 240)), .int (qLow (v >>> ((11 : Int32) &&& 31)) 4)]) (rest := []) ⟨hx, hb, hml, hown, y_nil⟩ (q_hour (l := l) (D := D) (ty := ty) (base := _) (sz := _) hl9 hq (qLow (v >>> ((4 : Int32) &&& 31)) 3) (qLow (v >>> ((5 : Int32) &&& 31)) 360) ((60 : Int32) + (qLow (v >>> ((8 : Int32) &&& 31)) 240)) (qLow (v >>> ((11 : Int32) &&& 31)) 4) ) (y_cwSW 5 (kw_3_37 hG) (kw_1_0 hG) (kw_3_35 hG) (kw_3_36 hG) yd_L_hour ⟨Nat.le_of_ble_eq_true rfl, Nat.le_of_ble_eq_true rfl⟩) (q_preS hG h hAb) rfl rfl hl.1 rfl (lv_room (Nat.le_of_ble_eq_true rfl)) dL_act_560 ⟨Nat.le_of_ble_eq_true rfl, Nat.le_of_ble_eq_true rfl⟩) (fun r_560 X_560 H locs hp_560 h => ?_)
      obtain ⟨e_560, hq_560⟩ := hp_560
      have h : yH D AZ sZ.heap [] (X_560 ++ []) _ _ := h.pl rfl
      rw [e_560]
      refine lv_i2l hx hb dL_act_563 rfl ?_
      exact hret _ _ _ _ _ _ _ _ ⟨rfl, hq_560⟩ h (Nat.le_of_ble_eq_true rfl) (Nat.le_of_ble_eq_true rfl) dL_act_564
    · exact absurd (by decide) c_544

set_option maxHeartbeats 4000000 in
set_option maxRecDepth 100000 in
theorem ac_10_1 {l : Launch} {D : va_G} {ty : Nat → ClassId} {base sz : Nat} (hl9 : l.stackTraces = false) {yd : Nat} {σ : QS} {X : va_W} (hq : qY ty yd σ X) {v : Int32} (ho : qLow (v >>> (26 &&& 31)) 14 = 0) (hk : qLow v 46 = 10)  : Met l yL_act [.code yL_act cL_act 10 (some (.long))] rmA (yPc D ty base sz X [.ref yd, .int v]) (va_Ql (fun r X' => r = (aHour σ ((qLow (v >>> ((4 : Int32) &&& 31)) 11) - (2 : Int32)) (v >>> ((5 : Int32) &&& 31)) (v >>> ((8 : Int32) &&& 31)) ((qLow (v >>> ((11 : Int32) &&& 31)) 8) - (1 : Int32))).toInt64 ∧ qY ty yd σ X') (yB D (va_A X sz) (fun X' : va_W => X')) (va_A X sz)) rmA.cells rmA.slots (va_A X sz) := by
  refine act_pre1 ho (fun pZ eZ sZ mZ aZ bZ tZ cZ AZ ls QZ H locs E h hl hret => ?_)
  · obtain ⟨hx, hb, hml, hown, hG, hA, hAb⟩ := E
    rw [hk]
    refine lv_tableIn (tgt := 537) (off := 331) hx hb dL_act_206 (by decide) (by decide) (by decide) (by decide) ?_
    refine lv_aload_n hx hb dL_act_537 rfl (lv_at hl 8 rfl) ?_
    refine lv_iload_n hx hb dL_act_538 rfl (lv_at hl 6 rfl) ?_
    refine lv_iload hx hb dL_act_539 (lv_at hl 4 rfl) ?_
    refine lv_iload hx hb dL_act_541 (lv_at hl 3 rfl) ?_
    refine lv_iload_n hx hb dL_act_543 rfl (lv_at hl 7 rfl) ?_
    refine lv_if_eq (tgt := 552) hx hb dL_act_544 (by decide) (fun c_544 => ?_) (fun c_544 => ?_)
    · exact absurd c_544 (by decide)
    · skip
      refine lv_iload hx hb dL_act_547 (lv_at hl 0 rfl) ?_
      refine lv_goto (tgt := 560) hx hb dL_act_549 (by decide) ?_
      have h : yH D AZ sZ.heap X [] _ _ := h.pl rfl
      refine q_calli h hA (vx_runSW (own := RL) (As := [.ref yd, .int ((qLow (v >>> ((4 : Int32) &&& 31)) 11) - (2 : Int32)), .int (v >>> ((5 : Int32) &&& 31)), .int (v >>> ((8 : Int32) &&& 31)), .int ((qLow (v >>> ((11 : Int32) &&& 31)) 8) - (1 : Int32))]) (rest := []) ⟨hx, hb, hml, hown, y_nil⟩ (q_hour (l := l) (D := D) (ty := ty) (base := _) (sz := _) hl9 hq ((qLow (v >>> ((4 : Int32) &&& 31)) 11) - (2 : Int32)) (v >>> ((5 : Int32) &&& 31)) (v >>> ((8 : Int32) &&& 31)) ((qLow (v >>> ((11 : Int32) &&& 31)) 8) - (1 : Int32)) ) (y_cwSW 5 (kw_3_37 hG) (kw_1_0 hG) (kw_3_35 hG) (kw_3_36 hG) yd_L_hour ⟨Nat.le_of_ble_eq_true rfl, Nat.le_of_ble_eq_true rfl⟩) (q_preS hG h hAb) rfl rfl hl.1 rfl (lv_room (Nat.le_of_ble_eq_true rfl)) dL_act_560 ⟨Nat.le_of_ble_eq_true rfl, Nat.le_of_ble_eq_true rfl⟩) (fun r_560 X_560 H locs hp_560 h => ?_)
      obtain ⟨e_560, hq_560⟩ := hp_560
      have h : yH D AZ sZ.heap [] (X_560 ++ []) _ _ := h.pl rfl
      rw [e_560]
      refine lv_i2l hx hb dL_act_563 rfl ?_
      exact hret _ _ _ _ _ _ _ _ ⟨rfl, hq_560⟩ h (Nat.le_of_ble_eq_true rfl) (Nat.le_of_ble_eq_true rfl) dL_act_564

set_option maxHeartbeats 4000000 in
set_option maxRecDepth 100000 in
theorem ac_10_0 {l : Launch} {D : va_G} {ty : Nat → ClassId} {base sz : Nat} (hl9 : l.stackTraces = false) {yd : Nat} {σ : QS} {X : va_W} (hq : qY ty yd σ X) {v : Int32} (ho : ¬ qLow (v >>> (26 &&& 31)) 14 = 0) (hk : qLow v 46 = 10)  : Met l yL_act [.code yL_act cL_act 10 (some (.long))] rmA (yPc D ty base sz X [.ref yd, .int v]) (va_Ql (fun r X' => r = (aHour σ (qLow (v >>> ((4 : Int32) &&& 31)) 3) (qLow (v >>> ((5 : Int32) &&& 31)) 360) ((60 : Int32) + (qLow (v >>> ((8 : Int32) &&& 31)) 240)) (qLow (v >>> ((11 : Int32) &&& 31)) 4)).toInt64 ∧ qY ty yd σ X') (yB D (va_A X sz) (fun X' : va_W => X')) (va_A X sz)) rmA.cells rmA.slots (va_A X sz) := by
  refine act_pre0 ho (fun pZ eZ sZ mZ aZ bZ tZ cZ AZ ls QZ H locs E h hl hret => ?_)
  · obtain ⟨hx, hb, hml, hown, hG, hA, hAb⟩ := E
    rw [hk]
    refine lv_tableIn (tgt := 537) (off := 331) hx hb dL_act_206 (by decide) (by decide) (by decide) (by decide) ?_
    refine lv_aload_n hx hb dL_act_537 rfl (lv_at hl 8 rfl) ?_
    refine lv_iload_n hx hb dL_act_538 rfl (lv_at hl 6 rfl) ?_
    refine lv_iload hx hb dL_act_539 (lv_at hl 4 rfl) ?_
    refine lv_iload hx hb dL_act_541 (lv_at hl 3 rfl) ?_
    refine lv_iload_n hx hb dL_act_543 rfl (lv_at hl 7 rfl) ?_
    refine lv_if_eq (tgt := 552) hx hb dL_act_544 (by decide) (fun c_544 => ?_) (fun c_544 => ?_)
    · skip
      refine lv_iload_n hx hb dL_act_552 rfl (lv_at hl 9 rfl) ?_
      refine lv_bipush (v := 11) hx hb dL_act_553 (by decide) ?_
      refine lv_ishr hx hb dL_act_555 ?_
      refine lv_iconst (v := 4) hx hb dL_act_556 (by decide) ?_
      refine y_calli (X' := fun _ : Unit => []) (wc := []) (wr := []) h hA [] [] [] rfl rfl (by decide) (by decide) (by decide) (fun _ => rfl) (va_runS (own := RL) (As := [.int (v >>> ((11 : Int32) &&& 31)), .int 4]) (rest := [.int ((60 : Int32) + (qLow (v >>> ((8 : Int32) &&& 31)) 240)), .int (qLow (v >>> ((5 : Int32) &&& 31)) 360), .int (qLow (v >>> ((4 : Int32) &&& 31)) 3), .ref yd]) ⟨hx, hb, hml, hown, y_nil⟩ (m_L_low l D ty base _ (v >>> ((11 : Int32) &&& 31)) 4   (by decide)) (y_cwS 2 (kw_1_220 hG) (kw_1_0 hG) (kw_1_218 hG) (kw_1_219 hG) yd_L_low ⟨Nat.le_of_ble_eq_true rfl, Nat.le_of_ble_eq_true rfl⟩) (y_preS hG h hAb [] rfl (by decide)) rfl rfl hl.1 rfl (lv_room (Nat.le_of_ble_eq_true rfl)) dL_act_557 ⟨Nat.le_of_ble_eq_true rfl, Nat.le_of_ble_eq_true rfl⟩) (fun r_557 _ H locs hp_557 h => ?_)
      have hp_557 : r_557 = qLow (v >>> ((11 : Int32) &&& 31)) 4 := hp_557
      have h : yH D AZ sZ.heap [] (X ++ []) _ _ := h
      rw [hp_557]
      have h : yH D AZ sZ.heap X [] _ _ := h.pl rfl
      refine q_calli h hA (vx_runSW (own := RL) (As := [.ref yd, .int (qLow (v >>> ((4 : Int32) &&& 31)) 3), .int (qLow (v >>> ((5 : Int32) &&& 31)) 360), .int ((60 : Int32) + (qLow (v >>> ((8 : Int32) &&& 31)) 240)), .int (qLow (v >>> ((11 : Int32) &&& 31)) 4)]) (rest := []) ⟨hx, hb, hml, hown, y_nil⟩ (q_hour (l := l) (D := D) (ty := ty) (base := _) (sz := _) hl9 hq (qLow (v >>> ((4 : Int32) &&& 31)) 3) (qLow (v >>> ((5 : Int32) &&& 31)) 360) ((60 : Int32) + (qLow (v >>> ((8 : Int32) &&& 31)) 240)) (qLow (v >>> ((11 : Int32) &&& 31)) 4) ) (y_cwSW 5 (kw_3_37 hG) (kw_1_0 hG) (kw_3_35 hG) (kw_3_36 hG) yd_L_hour ⟨Nat.le_of_ble_eq_true rfl, Nat.le_of_ble_eq_true rfl⟩) (q_preS hG h hAb) rfl rfl hl.1 rfl (lv_room (Nat.le_of_ble_eq_true rfl)) dL_act_560 ⟨Nat.le_of_ble_eq_true rfl, Nat.le_of_ble_eq_true rfl⟩) (fun r_560 X_560 H locs hp_560 h => ?_)
      obtain ⟨e_560, hq_560⟩ := hp_560
      have h : yH D AZ sZ.heap [] (X_560 ++ []) _ _ := h.pl rfl
      rw [e_560]
      refine lv_i2l hx hb dL_act_563 rfl ?_
      exact hret _ _ _ _ _ _ _ _ ⟨rfl, hq_560⟩ h (Nat.le_of_ble_eq_true rfl) (Nat.le_of_ble_eq_true rfl) dL_act_564
    · exact absurd (by decide) c_544

set_option maxHeartbeats 4000000 in
set_option maxRecDepth 100000 in
theorem ac_11_1 {l : Launch} {D : va_G} {ty : Nat → ClassId} {base sz : Nat} (hl9 : l.stackTraces = false) {yd : Nat} {σ : QS} {X : va_W} (hq : qY ty yd σ X) {v : Int32} (ho : qLow (v >>> (26 &&& 31)) 14 = 0) (hk : qLow v 46 = 11)  : Met l yL_act [.code yL_act cL_act 10 (some (.long))] rmA (yPc D ty base sz X [.ref yd, .int v]) (va_Ql (fun r X' => r = (aHour σ ((qLow (v >>> ((4 : Int32) &&& 31)) 11) - (2 : Int32)) (v >>> ((5 : Int32) &&& 31)) (v >>> ((8 : Int32) &&& 31)) ((qLow (v >>> ((11 : Int32) &&& 31)) 8) - (1 : Int32))).toInt64 ∧ qY ty yd σ X') (yB D (va_A X sz) (fun X' : va_W => X')) (va_A X sz)) rmA.cells rmA.slots (va_A X sz) := by
  refine act_pre1 ho (fun pZ eZ sZ mZ aZ bZ tZ cZ AZ ls QZ H locs E h hl hret => ?_)
  · obtain ⟨hx, hb, hml, hown, hG, hA, hAb⟩ := E
    rw [hk]
    refine lv_tableIn (tgt := 537) (off := 331) hx hb dL_act_206 (by decide) (by decide) (by decide) (by decide) ?_
    refine lv_aload_n hx hb dL_act_537 rfl (lv_at hl 8 rfl) ?_
    refine lv_iload_n hx hb dL_act_538 rfl (lv_at hl 6 rfl) ?_
    refine lv_iload hx hb dL_act_539 (lv_at hl 4 rfl) ?_
    refine lv_iload hx hb dL_act_541 (lv_at hl 3 rfl) ?_
    refine lv_iload_n hx hb dL_act_543 rfl (lv_at hl 7 rfl) ?_
    refine lv_if_eq (tgt := 552) hx hb dL_act_544 (by decide) (fun c_544 => ?_) (fun c_544 => ?_)
    · exact absurd c_544 (by decide)
    · skip
      refine lv_iload hx hb dL_act_547 (lv_at hl 0 rfl) ?_
      refine lv_goto (tgt := 560) hx hb dL_act_549 (by decide) ?_
      have h : yH D AZ sZ.heap X [] _ _ := h.pl rfl
      refine q_calli h hA (vx_runSW (own := RL) (As := [.ref yd, .int ((qLow (v >>> ((4 : Int32) &&& 31)) 11) - (2 : Int32)), .int (v >>> ((5 : Int32) &&& 31)), .int (v >>> ((8 : Int32) &&& 31)), .int ((qLow (v >>> ((11 : Int32) &&& 31)) 8) - (1 : Int32))]) (rest := []) ⟨hx, hb, hml, hown, y_nil⟩ (q_hour (l := l) (D := D) (ty := ty) (base := _) (sz := _) hl9 hq ((qLow (v >>> ((4 : Int32) &&& 31)) 11) - (2 : Int32)) (v >>> ((5 : Int32) &&& 31)) (v >>> ((8 : Int32) &&& 31)) ((qLow (v >>> ((11 : Int32) &&& 31)) 8) - (1 : Int32)) ) (y_cwSW 5 (kw_3_37 hG) (kw_1_0 hG) (kw_3_35 hG) (kw_3_36 hG) yd_L_hour ⟨Nat.le_of_ble_eq_true rfl, Nat.le_of_ble_eq_true rfl⟩) (q_preS hG h hAb) rfl rfl hl.1 rfl (lv_room (Nat.le_of_ble_eq_true rfl)) dL_act_560 ⟨Nat.le_of_ble_eq_true rfl, Nat.le_of_ble_eq_true rfl⟩) (fun r_560 X_560 H locs hp_560 h => ?_)
      obtain ⟨e_560, hq_560⟩ := hp_560
      have h : yH D AZ sZ.heap [] (X_560 ++ []) _ _ := h.pl rfl
      rw [e_560]
      refine lv_i2l hx hb dL_act_563 rfl ?_
      exact hret _ _ _ _ _ _ _ _ ⟨rfl, hq_560⟩ h (Nat.le_of_ble_eq_true rfl) (Nat.le_of_ble_eq_true rfl) dL_act_564

set_option maxHeartbeats 4000000 in
set_option maxRecDepth 100000 in
theorem ac_11_0 {l : Launch} {D : va_G} {ty : Nat → ClassId} {base sz : Nat} (hl9 : l.stackTraces = false) {yd : Nat} {σ : QS} {X : va_W} (hq : qY ty yd σ X) {v : Int32} (ho : ¬ qLow (v >>> (26 &&& 31)) 14 = 0) (hk : qLow v 46 = 11)  : Met l yL_act [.code yL_act cL_act 10 (some (.long))] rmA (yPc D ty base sz X [.ref yd, .int v]) (va_Ql (fun r X' => r = (aHour σ (qLow (v >>> ((4 : Int32) &&& 31)) 3) (qLow (v >>> ((5 : Int32) &&& 31)) 360) ((60 : Int32) + (qLow (v >>> ((8 : Int32) &&& 31)) 240)) (qLow (v >>> ((11 : Int32) &&& 31)) 4)).toInt64 ∧ qY ty yd σ X') (yB D (va_A X sz) (fun X' : va_W => X')) (va_A X sz)) rmA.cells rmA.slots (va_A X sz) := by
  refine act_pre0 ho (fun pZ eZ sZ mZ aZ bZ tZ cZ AZ ls QZ H locs E h hl hret => ?_)
  · obtain ⟨hx, hb, hml, hown, hG, hA, hAb⟩ := E
    rw [hk]
    refine lv_tableIn (tgt := 537) (off := 331) hx hb dL_act_206 (by decide) (by decide) (by decide) (by decide) ?_
    refine lv_aload_n hx hb dL_act_537 rfl (lv_at hl 8 rfl) ?_
    refine lv_iload_n hx hb dL_act_538 rfl (lv_at hl 6 rfl) ?_
    refine lv_iload hx hb dL_act_539 (lv_at hl 4 rfl) ?_
    refine lv_iload hx hb dL_act_541 (lv_at hl 3 rfl) ?_
    refine lv_iload_n hx hb dL_act_543 rfl (lv_at hl 7 rfl) ?_
    refine lv_if_eq (tgt := 552) hx hb dL_act_544 (by decide) (fun c_544 => ?_) (fun c_544 => ?_)
    · skip
      refine lv_iload_n hx hb dL_act_552 rfl (lv_at hl 9 rfl) ?_
      refine lv_bipush (v := 11) hx hb dL_act_553 (by decide) ?_
      refine lv_ishr hx hb dL_act_555 ?_
      refine lv_iconst (v := 4) hx hb dL_act_556 (by decide) ?_
      refine y_calli (X' := fun _ : Unit => []) (wc := []) (wr := []) h hA [] [] [] rfl rfl (by decide) (by decide) (by decide) (fun _ => rfl) (va_runS (own := RL) (As := [.int (v >>> ((11 : Int32) &&& 31)), .int 4]) (rest := [.int ((60 : Int32) + (qLow (v >>> ((8 : Int32) &&& 31)) 240)), .int (qLow (v >>> ((5 : Int32) &&& 31)) 360), .int (qLow (v >>> ((4 : Int32) &&& 31)) 3), .ref yd]) ⟨hx, hb, hml, hown, y_nil⟩ (m_L_low l D ty base _ (v >>> ((11 : Int32) &&& 31)) 4   (by decide)) (y_cwS 2 (kw_1_220 hG) (kw_1_0 hG) (kw_1_218 hG) (kw_1_219 hG) yd_L_low ⟨Nat.le_of_ble_eq_true rfl, Nat.le_of_ble_eq_true rfl⟩) (y_preS hG h hAb [] rfl (by decide)) rfl rfl hl.1 rfl (lv_room (Nat.le_of_ble_eq_true rfl)) dL_act_557 ⟨Nat.le_of_ble_eq_true rfl, Nat.le_of_ble_eq_true rfl⟩) (fun r_557 _ H locs hp_557 h => ?_)
      have hp_557 : r_557 = qLow (v >>> ((11 : Int32) &&& 31)) 4 := hp_557
      have h : yH D AZ sZ.heap [] (X ++ []) _ _ := h
      rw [hp_557]
      have h : yH D AZ sZ.heap X [] _ _ := h.pl rfl
      refine q_calli h hA (vx_runSW (own := RL) (As := [.ref yd, .int (qLow (v >>> ((4 : Int32) &&& 31)) 3), .int (qLow (v >>> ((5 : Int32) &&& 31)) 360), .int ((60 : Int32) + (qLow (v >>> ((8 : Int32) &&& 31)) 240)), .int (qLow (v >>> ((11 : Int32) &&& 31)) 4)]) (rest := []) ⟨hx, hb, hml, hown, y_nil⟩ (q_hour (l := l) (D := D) (ty := ty) (base := _) (sz := _) hl9 hq (qLow (v >>> ((4 : Int32) &&& 31)) 3) (qLow (v >>> ((5 : Int32) &&& 31)) 360) ((60 : Int32) + (qLow (v >>> ((8 : Int32) &&& 31)) 240)) (qLow (v >>> ((11 : Int32) &&& 31)) 4) ) (y_cwSW 5 (kw_3_37 hG) (kw_1_0 hG) (kw_3_35 hG) (kw_3_36 hG) yd_L_hour ⟨Nat.le_of_ble_eq_true rfl, Nat.le_of_ble_eq_true rfl⟩) (q_preS hG h hAb) rfl rfl hl.1 rfl (lv_room (Nat.le_of_ble_eq_true rfl)) dL_act_560 ⟨Nat.le_of_ble_eq_true rfl, Nat.le_of_ble_eq_true rfl⟩) (fun r_560 X_560 H locs hp_560 h => ?_)
      obtain ⟨e_560, hq_560⟩ := hp_560
      have h : yH D AZ sZ.heap [] (X_560 ++ []) _ _ := h.pl rfl
      rw [e_560]
      refine lv_i2l hx hb dL_act_563 rfl ?_
      exact hret _ _ _ _ _ _ _ _ ⟨rfl, hq_560⟩ h (Nat.le_of_ble_eq_true rfl) (Nat.le_of_ble_eq_true rfl) dL_act_564
    · exact absurd (by decide) c_544

set_option maxHeartbeats 4000000 in
set_option maxRecDepth 100000 in
theorem ac_12_1 {l : Launch} {D : va_G} {ty : Nat → ClassId} {base sz : Nat} (hl9 : l.stackTraces = false) {yd : Nat} {σ : QS} {X : va_W} (hq : qY ty yd σ X) {v : Int32} (ho : qLow (v >>> (26 &&& 31)) 14 = 0) (hk : qLow v 46 = 12)  : Met l yL_act [.code yL_act cL_act 10 (some (.long))] rmA (yPc D ty base sz X [.ref yd, .int v]) (va_Ql (fun r X' => r = (aHour σ ((qLow (v >>> ((4 : Int32) &&& 31)) 11) - (2 : Int32)) (v >>> ((5 : Int32) &&& 31)) (v >>> ((8 : Int32) &&& 31)) ((qLow (v >>> ((11 : Int32) &&& 31)) 8) - (1 : Int32))).toInt64 ∧ qY ty yd σ X') (yB D (va_A X sz) (fun X' : va_W => X')) (va_A X sz)) rmA.cells rmA.slots (va_A X sz) := by
  refine act_pre1 ho (fun pZ eZ sZ mZ aZ bZ tZ cZ AZ ls QZ H locs E h hl hret => ?_)
  · obtain ⟨hx, hb, hml, hown, hG, hA, hAb⟩ := E
    rw [hk]
    refine lv_tableIn (tgt := 537) (off := 331) hx hb dL_act_206 (by decide) (by decide) (by decide) (by decide) ?_
    refine lv_aload_n hx hb dL_act_537 rfl (lv_at hl 8 rfl) ?_
    refine lv_iload_n hx hb dL_act_538 rfl (lv_at hl 6 rfl) ?_
    refine lv_iload hx hb dL_act_539 (lv_at hl 4 rfl) ?_
    refine lv_iload hx hb dL_act_541 (lv_at hl 3 rfl) ?_
    refine lv_iload_n hx hb dL_act_543 rfl (lv_at hl 7 rfl) ?_
    refine lv_if_eq (tgt := 552) hx hb dL_act_544 (by decide) (fun c_544 => ?_) (fun c_544 => ?_)
    · exact absurd c_544 (by decide)
    · skip
      refine lv_iload hx hb dL_act_547 (lv_at hl 0 rfl) ?_
      refine lv_goto (tgt := 560) hx hb dL_act_549 (by decide) ?_
      have h : yH D AZ sZ.heap X [] _ _ := h.pl rfl
      refine q_calli h hA (vx_runSW (own := RL) (As := [.ref yd, .int ((qLow (v >>> ((4 : Int32) &&& 31)) 11) - (2 : Int32)), .int (v >>> ((5 : Int32) &&& 31)), .int (v >>> ((8 : Int32) &&& 31)), .int ((qLow (v >>> ((11 : Int32) &&& 31)) 8) - (1 : Int32))]) (rest := []) ⟨hx, hb, hml, hown, y_nil⟩ (q_hour (l := l) (D := D) (ty := ty) (base := _) (sz := _) hl9 hq ((qLow (v >>> ((4 : Int32) &&& 31)) 11) - (2 : Int32)) (v >>> ((5 : Int32) &&& 31)) (v >>> ((8 : Int32) &&& 31)) ((qLow (v >>> ((11 : Int32) &&& 31)) 8) - (1 : Int32)) ) (y_cwSW 5 (kw_3_37 hG) (kw_1_0 hG) (kw_3_35 hG) (kw_3_36 hG) yd_L_hour ⟨Nat.le_of_ble_eq_true rfl, Nat.le_of_ble_eq_true rfl⟩) (q_preS hG h hAb) rfl rfl hl.1 rfl (lv_room (Nat.le_of_ble_eq_true rfl)) dL_act_560 ⟨Nat.le_of_ble_eq_true rfl, Nat.le_of_ble_eq_true rfl⟩) (fun r_560 X_560 H locs hp_560 h => ?_)
      obtain ⟨e_560, hq_560⟩ := hp_560
      have h : yH D AZ sZ.heap [] (X_560 ++ []) _ _ := h.pl rfl
      rw [e_560]
      refine lv_i2l hx hb dL_act_563 rfl ?_
      exact hret _ _ _ _ _ _ _ _ ⟨rfl, hq_560⟩ h (Nat.le_of_ble_eq_true rfl) (Nat.le_of_ble_eq_true rfl) dL_act_564

set_option maxHeartbeats 4000000 in
set_option maxRecDepth 100000 in
theorem ac_12_0 {l : Launch} {D : va_G} {ty : Nat → ClassId} {base sz : Nat} (hl9 : l.stackTraces = false) {yd : Nat} {σ : QS} {X : va_W} (hq : qY ty yd σ X) {v : Int32} (ho : ¬ qLow (v >>> (26 &&& 31)) 14 = 0) (hk : qLow v 46 = 12)  : Met l yL_act [.code yL_act cL_act 10 (some (.long))] rmA (yPc D ty base sz X [.ref yd, .int v]) (va_Ql (fun r X' => r = (aHour σ (qLow (v >>> ((4 : Int32) &&& 31)) 3) (qLow (v >>> ((5 : Int32) &&& 31)) 360) ((60 : Int32) + (qLow (v >>> ((8 : Int32) &&& 31)) 240)) (qLow (v >>> ((11 : Int32) &&& 31)) 4)).toInt64 ∧ qY ty yd σ X') (yB D (va_A X sz) (fun X' : va_W => X')) (va_A X sz)) rmA.cells rmA.slots (va_A X sz) := by
  refine act_pre0 ho (fun pZ eZ sZ mZ aZ bZ tZ cZ AZ ls QZ H locs E h hl hret => ?_)
  · obtain ⟨hx, hb, hml, hown, hG, hA, hAb⟩ := E
    rw [hk]
    refine lv_tableIn (tgt := 537) (off := 331) hx hb dL_act_206 (by decide) (by decide) (by decide) (by decide) ?_
    refine lv_aload_n hx hb dL_act_537 rfl (lv_at hl 8 rfl) ?_
    refine lv_iload_n hx hb dL_act_538 rfl (lv_at hl 6 rfl) ?_
    refine lv_iload hx hb dL_act_539 (lv_at hl 4 rfl) ?_
    refine lv_iload hx hb dL_act_541 (lv_at hl 3 rfl) ?_
    refine lv_iload_n hx hb dL_act_543 rfl (lv_at hl 7 rfl) ?_
    refine lv_if_eq (tgt := 552) hx hb dL_act_544 (by decide) (fun c_544 => ?_) (fun c_544 => ?_)
    · skip
      refine lv_iload_n hx hb dL_act_552 rfl (lv_at hl 9 rfl) ?_
      refine lv_bipush (v := 11) hx hb dL_act_553 (by decide) ?_
      refine lv_ishr hx hb dL_act_555 ?_
      refine lv_iconst (v := 4) hx hb dL_act_556 (by decide) ?_
      refine y_calli (X' := fun _ : Unit => []) (wc := []) (wr := []) h hA [] [] [] rfl rfl (by decide) (by decide) (by decide) (fun _ => rfl) (va_runS (own := RL) (As := [.int (v >>> ((11 : Int32) &&& 31)), .int 4]) (rest := [.int ((60 : Int32) + (qLow (v >>> ((8 : Int32) &&& 31)) 240)), .int (qLow (v >>> ((5 : Int32) &&& 31)) 360), .int (qLow (v >>> ((4 : Int32) &&& 31)) 3), .ref yd]) ⟨hx, hb, hml, hown, y_nil⟩ (m_L_low l D ty base _ (v >>> ((11 : Int32) &&& 31)) 4   (by decide)) (y_cwS 2 (kw_1_220 hG) (kw_1_0 hG) (kw_1_218 hG) (kw_1_219 hG) yd_L_low ⟨Nat.le_of_ble_eq_true rfl, Nat.le_of_ble_eq_true rfl⟩) (y_preS hG h hAb [] rfl (by decide)) rfl rfl hl.1 rfl (lv_room (Nat.le_of_ble_eq_true rfl)) dL_act_557 ⟨Nat.le_of_ble_eq_true rfl, Nat.le_of_ble_eq_true rfl⟩) (fun r_557 _ H locs hp_557 h => ?_)
      have hp_557 : r_557 = qLow (v >>> ((11 : Int32) &&& 31)) 4 := hp_557
      have h : yH D AZ sZ.heap [] (X ++ []) _ _ := h
      rw [hp_557]
      have h : yH D AZ sZ.heap X [] _ _ := h.pl rfl
      refine q_calli h hA (vx_runSW (own := RL) (As := [.ref yd, .int (qLow (v >>> ((4 : Int32) &&& 31)) 3), .int (qLow (v >>> ((5 : Int32) &&& 31)) 360), .int ((60 : Int32) + (qLow (v >>> ((8 : Int32) &&& 31)) 240)), .int (qLow (v >>> ((11 : Int32) &&& 31)) 4)]) (rest := []) ⟨hx, hb, hml, hown, y_nil⟩ (q_hour (l := l) (D := D) (ty := ty) (base := _) (sz := _) hl9 hq (qLow (v >>> ((4 : Int32) &&& 31)) 3) (qLow (v >>> ((5 : Int32) &&& 31)) 360) ((60 : Int32) + (qLow (v >>> ((8 : Int32) &&& 31)) 240)) (qLow (v >>> ((11 : Int32) &&& 31)) 4) ) (y_cwSW 5 (kw_3_37 hG) (kw_1_0 hG) (kw_3_35 hG) (kw_3_36 hG) yd_L_hour ⟨Nat.le_of_ble_eq_true rfl, Nat.le_of_ble_eq_true rfl⟩) (q_preS hG h hAb) rfl rfl hl.1 rfl (lv_room (Nat.le_of_ble_eq_true rfl)) dL_act_560 ⟨Nat.le_of_ble_eq_true rfl, Nat.le_of_ble_eq_true rfl⟩) (fun r_560 X_560 H locs hp_560 h => ?_)
      obtain ⟨e_560, hq_560⟩ := hp_560
      have h : yH D AZ sZ.heap [] (X_560 ++ []) _ _ := h.pl rfl
      rw [e_560]
      refine lv_i2l hx hb dL_act_563 rfl ?_
      exact hret _ _ _ _ _ _ _ _ ⟨rfl, hq_560⟩ h (Nat.le_of_ble_eq_true rfl) (Nat.le_of_ble_eq_true rfl) dL_act_564
    · exact absurd (by decide) c_544

set_option maxHeartbeats 4000000 in
set_option maxRecDepth 100000 in
theorem ac_13_1 {l : Launch} {D : va_G} {ty : Nat → ClassId} {base sz : Nat} (hl9 : l.stackTraces = false) {yd : Nat} {σ : QS} {X : va_W} (hq : qY ty yd σ X) {v : Int32} (ho : qLow (v >>> (26 &&& 31)) 14 = 0) (hk : qLow v 46 = 13)  : Met l yL_act [.code yL_act cL_act 10 (some (.long))] rmA (yPc D ty base sz X [.ref yd, .int v]) (va_Ql (fun r X' => r = (aSummer σ (v >>> ((5 : Int32) &&& 31)) (((qLow (v >>> ((11 : Int32) &&& 31)) 8) - (1 : Int32)) - (2 : Int32))).toInt64 ∧ qY ty yd (nSummer σ (v >>> ((5 : Int32) &&& 31)) (((qLow (v >>> ((11 : Int32) &&& 31)) 8) - (1 : Int32)) - (2 : Int32))) X') (yB D (va_A X sz) (fun X' : va_W => X')) (va_A X sz)) rmA.cells rmA.slots (va_A X sz) := by
  refine act_pre1 ho (fun pZ eZ sZ mZ aZ bZ tZ cZ AZ ls QZ H locs E h hl hret => ?_)
  · obtain ⟨hx, hb, hml, hown, hG, hA, hAb⟩ := E
    rw [hk]
    refine lv_tableIn (tgt := 565) (off := 359) hx hb dL_act_206 (by decide) (by decide) (by decide) (by decide) ?_
    refine lv_aload_n hx hb dL_act_565 rfl (lv_at hl 8 rfl) ?_
    refine lv_iload hx hb dL_act_566 (lv_at hl 4 rfl) ?_
    refine lv_iload_n hx hb dL_act_568 rfl (lv_at hl 7 rfl) ?_
    refine lv_if_eq (tgt := 579) hx hb dL_act_569 (by decide) (fun c_569 => ?_) (fun c_569 => ?_)
    · exact absurd c_569 (by decide)
    · skip
      refine lv_iload hx hb dL_act_572 (lv_at hl 0 rfl) ?_
      refine lv_iconst (v := 2) hx hb dL_act_574 (by decide) ?_
      refine lv_isub hx hb dL_act_575 ?_
      refine lv_goto (tgt := 595) hx hb dL_act_576 (by decide) ?_
      have h : yH D AZ sZ.heap X [] _ _ := h.pl rfl
      refine q_calli h hA (vx_runSW (own := RL) (As := [.ref yd, .int (v >>> ((5 : Int32) &&& 31)), .int (((qLow (v >>> ((11 : Int32) &&& 31)) 8) - (1 : Int32)) - (2 : Int32))]) (rest := []) ⟨hx, hb, hml, hown, y_nil⟩ (q_summer (l := l) (D := D) (ty := ty) (base := _) (sz := _) hl9 hq (v >>> ((5 : Int32) &&& 31)) (((qLow (v >>> ((11 : Int32) &&& 31)) 8) - (1 : Int32)) - (2 : Int32)) ) (y_cwSW 3 (kw_3_64 hG) (kw_1_0 hG) (kw_3_62 hG) (kw_3_63 hG) yd_L_summer ⟨Nat.le_of_ble_eq_true rfl, Nat.le_of_ble_eq_true rfl⟩) (q_preS hG h hAb) rfl rfl hl.1 rfl (lv_room (Nat.le_of_ble_eq_true rfl)) dL_act_595 ⟨Nat.le_of_ble_eq_true rfl, Nat.le_of_ble_eq_true rfl⟩) (fun r_595 X_595 H locs hp_595 h => ?_)
      obtain ⟨e_595, hq_595⟩ := hp_595
      have h : yH D AZ sZ.heap [] (X_595 ++ []) _ _ := h.pl rfl
      rw [e_595]
      refine lv_i2l hx hb dL_act_598 rfl ?_
      exact hret _ _ _ _ _ _ _ _ ⟨rfl, hq_595⟩ h (Nat.le_of_ble_eq_true rfl) (Nat.le_of_ble_eq_true rfl) dL_act_599

set_option maxHeartbeats 4000000 in
set_option maxRecDepth 100000 in
theorem ac_13_0 {l : Launch} {D : va_G} {ty : Nat → ClassId} {base sz : Nat} (hl9 : l.stackTraces = false) {yd : Nat} {σ : QS} {X : va_W} (hq : qY ty yd σ X) {v : Int32} (ho : ¬ qLow (v >>> (26 &&& 31)) 14 = 0) (hk : qLow v 46 = 13)  : Met l yL_act [.code yL_act cL_act 10 (some (.long))] rmA (yPc D ty base sz X [.ref yd, .int v]) (va_Ql (fun r X' => r = (aSummer σ (qLow (v >>> ((5 : Int32) &&& 31)) 360) ((qLow (v >>> ((5 : Int32) &&& 31)) 360) + (qLow (v >>> ((11 : Int32) &&& 31)) ((360 : Int32) - (qLow (v >>> ((5 : Int32) &&& 31)) 360))))).toInt64 ∧ qY ty yd (nSummer σ (qLow (v >>> ((5 : Int32) &&& 31)) 360) ((qLow (v >>> ((5 : Int32) &&& 31)) 360) + (qLow (v >>> ((11 : Int32) &&& 31)) ((360 : Int32) - (qLow (v >>> ((5 : Int32) &&& 31)) 360))))) X') (yB D (va_A X sz) (fun X' : va_W => X')) (va_A X sz)) rmA.cells rmA.slots (va_A X sz) := by
  refine act_pre0 ho (fun pZ eZ sZ mZ aZ bZ tZ cZ AZ ls QZ H locs E h hl hret => ?_)
  · obtain ⟨hx, hb, hml, hown, hG, hA, hAb⟩ := E
    rw [hk]
    refine lv_tableIn (tgt := 565) (off := 359) hx hb dL_act_206 (by decide) (by decide) (by decide) (by decide) ?_
    refine lv_aload_n hx hb dL_act_565 rfl (lv_at hl 8 rfl) ?_
    refine lv_iload hx hb dL_act_566 (lv_at hl 4 rfl) ?_
    refine lv_iload_n hx hb dL_act_568 rfl (lv_at hl 7 rfl) ?_
    refine lv_if_eq (tgt := 579) hx hb dL_act_569 (by decide) (fun c_569 => ?_) (fun c_569 => ?_)
    · skip
      refine lv_iload hx hb dL_act_579 (lv_at hl 4 rfl) ?_
      refine lv_iload_n hx hb dL_act_581 rfl (lv_at hl 9 rfl) ?_
      refine lv_bipush (v := 11) hx hb dL_act_582 (by decide) ?_
      refine lv_ishr hx hb dL_act_584 ?_
      refine lv_sipush (v := 360) hx hb dL_act_585 (by decide) ?_
      refine lv_iload hx hb dL_act_588 (lv_at hl 4 rfl) ?_
      refine lv_isub hx hb dL_act_590 ?_
      refine y_calli (X' := fun _ : Unit => []) (wc := []) (wr := []) h hA [] [] [] rfl rfl (by decide) (by decide) (by decide) (fun _ => rfl) (va_runS (own := RL) (As := [.int (v >>> ((11 : Int32) &&& 31)), .int ((360 : Int32) - (qLow (v >>> ((5 : Int32) &&& 31)) 360))]) (rest := [.int (qLow (v >>> ((5 : Int32) &&& 31)) 360), .int (qLow (v >>> ((5 : Int32) &&& 31)) 360), .ref yd]) ⟨hx, hb, hml, hown, y_nil⟩ (m_L_low l D ty base _ (v >>> ((11 : Int32) &&& 31)) ((360 : Int32) - (qLow (v >>> ((5 : Int32) &&& 31)) 360))   (q360 _)) (y_cwS 2 (kw_1_220 hG) (kw_1_0 hG) (kw_1_218 hG) (kw_1_219 hG) yd_L_low ⟨Nat.le_of_ble_eq_true rfl, Nat.le_of_ble_eq_true rfl⟩) (y_preS hG h hAb [] rfl (by decide)) rfl rfl hl.1 rfl (lv_room (Nat.le_of_ble_eq_true rfl)) dL_act_591 ⟨Nat.le_of_ble_eq_true rfl, Nat.le_of_ble_eq_true rfl⟩) (fun r_591 _ H locs hp_591 h => ?_)
      have hp_591 : r_591 = qLow (v >>> ((11 : Int32) &&& 31)) ((360 : Int32) - (qLow (v >>> ((5 : Int32) &&& 31)) 360)) := hp_591
      have h : yH D AZ sZ.heap [] (X ++ []) _ _ := h
      rw [hp_591]
      refine lv_iadd hx hb dL_act_594 ?_
      have h : yH D AZ sZ.heap X [] _ _ := h.pl rfl
      refine q_calli h hA (vx_runSW (own := RL) (As := [.ref yd, .int (qLow (v >>> ((5 : Int32) &&& 31)) 360), .int ((qLow (v >>> ((5 : Int32) &&& 31)) 360) + (qLow (v >>> ((11 : Int32) &&& 31)) ((360 : Int32) - (qLow (v >>> ((5 : Int32) &&& 31)) 360))))]) (rest := []) ⟨hx, hb, hml, hown, y_nil⟩ (q_summer (l := l) (D := D) (ty := ty) (base := _) (sz := _) hl9 hq (qLow (v >>> ((5 : Int32) &&& 31)) 360) ((qLow (v >>> ((5 : Int32) &&& 31)) 360) + (qLow (v >>> ((11 : Int32) &&& 31)) ((360 : Int32) - (qLow (v >>> ((5 : Int32) &&& 31)) 360)))) ) (y_cwSW 3 (kw_3_64 hG) (kw_1_0 hG) (kw_3_62 hG) (kw_3_63 hG) yd_L_summer ⟨Nat.le_of_ble_eq_true rfl, Nat.le_of_ble_eq_true rfl⟩) (q_preS hG h hAb) rfl rfl hl.1 rfl (lv_room (Nat.le_of_ble_eq_true rfl)) dL_act_595 ⟨Nat.le_of_ble_eq_true rfl, Nat.le_of_ble_eq_true rfl⟩) (fun r_595 X_595 H locs hp_595 h => ?_)
      obtain ⟨e_595, hq_595⟩ := hp_595
      have h : yH D AZ sZ.heap [] (X_595 ++ []) _ _ := h.pl rfl
      rw [e_595]
      refine lv_i2l hx hb dL_act_598 rfl ?_
      exact hret _ _ _ _ _ _ _ _ ⟨rfl, hq_595⟩ h (Nat.le_of_ble_eq_true rfl) (Nat.le_of_ble_eq_true rfl) dL_act_599
    · exact absurd (by decide) c_569

set_option maxHeartbeats 4000000 in
set_option maxRecDepth 100000 in
theorem ac_14_1 {l : Launch} {D : va_G} {ty : Nat → ClassId} {base sz : Nat} (hl9 : l.stackTraces = false) {yd : Nat} {σ : QS} {X : va_W} (hq : qY ty yd σ X) {v : Int32} (ho : qLow (v >>> (26 &&& 31)) 14 = 0) (hk : qLow v 46 = 14)  : Met l yL_act [.code yL_act cL_act 10 (some (.long))] rmA (yPc D ty base sz X [.ref yd, .int v]) (va_Ql (fun r X' => r = (aDial σ ((qLow (v >>> ((4 : Int32) &&& 31)) 11) - (2 : Int32)) ((qLow (v >>> ((12 : Int32) &&& 31)) 100) - (4 : Int32)) (v >>> ((9 : Int32) &&& 31)) ((qLow (v >>> ((11 : Int32) &&& 31)) 8) - (1 : Int32))).toInt64 ∧ qY ty yd (nDial σ ((qLow (v >>> ((4 : Int32) &&& 31)) 11) - (2 : Int32)) ((qLow (v >>> ((12 : Int32) &&& 31)) 100) - (4 : Int32)) (v >>> ((9 : Int32) &&& 31)) ((qLow (v >>> ((11 : Int32) &&& 31)) 8) - (1 : Int32))) X') (yB D (va_A X sz) (fun X' : va_W => X')) (va_A X sz)) rmA.cells rmA.slots (va_A X sz) := by
  refine act_pre1 ho (fun pZ eZ sZ mZ aZ bZ tZ cZ AZ ls QZ H locs E h hl hret => ?_)
  · obtain ⟨hx, hb, hml, hown, hG, hA, hAb⟩ := E
    rw [hk]
    refine lv_tableIn (tgt := 600) (off := 394) hx hb dL_act_206 (by decide) (by decide) (by decide) (by decide) ?_
    refine lv_aload_n hx hb dL_act_600 rfl (lv_at hl 8 rfl) ?_
    refine lv_iload_n hx hb dL_act_601 rfl (lv_at hl 6 rfl) ?_
    refine lv_iload hx hb dL_act_602 (lv_at hl 2 rfl) ?_
    refine lv_iload hx hb dL_act_604 (lv_at hl 1 rfl) ?_
    refine lv_iload_n hx hb dL_act_606 rfl (lv_at hl 7 rfl) ?_
    refine lv_if_eq (tgt := 615) hx hb dL_act_607 (by decide) (fun c_607 => ?_) (fun c_607 => ?_)
    · exact absurd c_607 (by decide)
    · skip
      refine lv_iload hx hb dL_act_610 (lv_at hl 0 rfl) ?_
      refine lv_goto (tgt := 626) hx hb dL_act_612 (by decide) ?_
      have h : yH D AZ sZ.heap X [] _ _ := h.pl rfl
      refine q_calli h hA (vx_runSW (own := RL) (As := [.ref yd, .int ((qLow (v >>> ((4 : Int32) &&& 31)) 11) - (2 : Int32)), .int ((qLow (v >>> ((12 : Int32) &&& 31)) 100) - (4 : Int32)), .int (v >>> ((9 : Int32) &&& 31)), .int ((qLow (v >>> ((11 : Int32) &&& 31)) 8) - (1 : Int32))]) (rest := []) ⟨hx, hb, hml, hown, y_nil⟩ (q_dial (l := l) (D := D) (ty := ty) (base := _) (sz := _) hl9 hq ((qLow (v >>> ((4 : Int32) &&& 31)) 11) - (2 : Int32)) ((qLow (v >>> ((12 : Int32) &&& 31)) 100) - (4 : Int32)) (v >>> ((9 : Int32) &&& 31)) ((qLow (v >>> ((11 : Int32) &&& 31)) 8) - (1 : Int32)) ) (y_cwSW 5 (kw_2_101 hG) (kw_1_0 hG) (kw_2_99 hG) (kw_2_100 hG) yd_L_dial ⟨Nat.le_of_ble_eq_true rfl, Nat.le_of_ble_eq_true rfl⟩) (q_preS hG h hAb) rfl rfl hl.1 rfl (lv_room (Nat.le_of_ble_eq_true rfl)) dL_act_626 ⟨Nat.le_of_ble_eq_true rfl, Nat.le_of_ble_eq_true rfl⟩) (fun r_626 X_626 H locs hp_626 h => ?_)
      obtain ⟨e_626, hq_626⟩ := hp_626
      have h : yH D AZ sZ.heap [] (X_626 ++ []) _ _ := h.pl rfl
      rw [e_626]
      refine lv_i2l hx hb dL_act_629 rfl ?_
      exact hret _ _ _ _ _ _ _ _ ⟨rfl, hq_626⟩ h (Nat.le_of_ble_eq_true rfl) (Nat.le_of_ble_eq_true rfl) dL_act_630

set_option maxHeartbeats 4000000 in
set_option maxRecDepth 100000 in
theorem ac_14_0 {l : Launch} {D : va_G} {ty : Nat → ClassId} {base sz : Nat} (hl9 : l.stackTraces = false) {yd : Nat} {σ : QS} {X : va_W} (hq : qY ty yd σ X) {v : Int32} (ho : ¬ qLow (v >>> (26 &&& 31)) 14 = 0) (hk : qLow v 46 = 14)  : Met l yL_act [.code yL_act cL_act 10 (some (.long))] rmA (yPc D ty base sz X [.ref yd, .int v]) (va_Ql (fun r X' => r = (aDial σ (qLow (v >>> ((4 : Int32) &&& 31)) 3) (qLow (v >>> ((12 : Int32) &&& 31)) 91) ((qLow (v >>> ((9 : Int32) &&& 31)) 121) - (60 : Int32)) ((1 : Int32) + (qLow (v >>> ((3 : Int32) &&& 31)) 500))).toInt64 ∧ qY ty yd (nDial σ (qLow (v >>> ((4 : Int32) &&& 31)) 3) (qLow (v >>> ((12 : Int32) &&& 31)) 91) ((qLow (v >>> ((9 : Int32) &&& 31)) 121) - (60 : Int32)) ((1 : Int32) + (qLow (v >>> ((3 : Int32) &&& 31)) 500))) X') (yB D (va_A X sz) (fun X' : va_W => X')) (va_A X sz)) rmA.cells rmA.slots (va_A X sz) := by
  refine act_pre0 ho (fun pZ eZ sZ mZ aZ bZ tZ cZ AZ ls QZ H locs E h hl hret => ?_)
  · obtain ⟨hx, hb, hml, hown, hG, hA, hAb⟩ := E
    rw [hk]
    refine lv_tableIn (tgt := 600) (off := 394) hx hb dL_act_206 (by decide) (by decide) (by decide) (by decide) ?_
    refine lv_aload_n hx hb dL_act_600 rfl (lv_at hl 8 rfl) ?_
    refine lv_iload_n hx hb dL_act_601 rfl (lv_at hl 6 rfl) ?_
    refine lv_iload hx hb dL_act_602 (lv_at hl 2 rfl) ?_
    refine lv_iload hx hb dL_act_604 (lv_at hl 1 rfl) ?_
    refine lv_iload_n hx hb dL_act_606 rfl (lv_at hl 7 rfl) ?_
    refine lv_if_eq (tgt := 615) hx hb dL_act_607 (by decide) (fun c_607 => ?_) (fun c_607 => ?_)
    · skip
      refine lv_iconst (v := 1) hx hb dL_act_615 (by decide) ?_
      refine lv_iload_n hx hb dL_act_616 rfl (lv_at hl 9 rfl) ?_
      refine lv_iconst (v := 3) hx hb dL_act_617 (by decide) ?_
      refine lv_ishr hx hb dL_act_618 ?_
      refine lv_sipush (v := 500) hx hb dL_act_619 (by decide) ?_
      refine y_calli (X' := fun _ : Unit => []) (wc := []) (wr := []) h hA [] [] [] rfl rfl (by decide) (by decide) (by decide) (fun _ => rfl) (va_runS (own := RL) (As := [.int (v >>> ((3 : Int32) &&& 31)), .int 500]) (rest := [.int 1, .int ((qLow (v >>> ((9 : Int32) &&& 31)) 121) - (60 : Int32)), .int (qLow (v >>> ((12 : Int32) &&& 31)) 91), .int (qLow (v >>> ((4 : Int32) &&& 31)) 3), .ref yd]) ⟨hx, hb, hml, hown, y_nil⟩ (m_L_low l D ty base _ (v >>> ((3 : Int32) &&& 31)) 500   (by decide)) (y_cwS 2 (kw_1_220 hG) (kw_1_0 hG) (kw_1_218 hG) (kw_1_219 hG) yd_L_low ⟨Nat.le_of_ble_eq_true rfl, Nat.le_of_ble_eq_true rfl⟩) (y_preS hG h hAb [] rfl (by decide)) rfl rfl hl.1 rfl (lv_room (Nat.le_of_ble_eq_true rfl)) dL_act_622 ⟨Nat.le_of_ble_eq_true rfl, Nat.le_of_ble_eq_true rfl⟩) (fun r_622 _ H locs hp_622 h => ?_)
      have hp_622 : r_622 = qLow (v >>> ((3 : Int32) &&& 31)) 500 := hp_622
      have h : yH D AZ sZ.heap [] (X ++ []) _ _ := h
      rw [hp_622]
      refine lv_iadd hx hb dL_act_625 ?_
      have h : yH D AZ sZ.heap X [] _ _ := h.pl rfl
      refine q_calli h hA (vx_runSW (own := RL) (As := [.ref yd, .int (qLow (v >>> ((4 : Int32) &&& 31)) 3), .int (qLow (v >>> ((12 : Int32) &&& 31)) 91), .int ((qLow (v >>> ((9 : Int32) &&& 31)) 121) - (60 : Int32)), .int ((1 : Int32) + (qLow (v >>> ((3 : Int32) &&& 31)) 500))]) (rest := []) ⟨hx, hb, hml, hown, y_nil⟩ (q_dial (l := l) (D := D) (ty := ty) (base := _) (sz := _) hl9 hq (qLow (v >>> ((4 : Int32) &&& 31)) 3) (qLow (v >>> ((12 : Int32) &&& 31)) 91) ((qLow (v >>> ((9 : Int32) &&& 31)) 121) - (60 : Int32)) ((1 : Int32) + (qLow (v >>> ((3 : Int32) &&& 31)) 500)) ) (y_cwSW 5 (kw_2_101 hG) (kw_1_0 hG) (kw_2_99 hG) (kw_2_100 hG) yd_L_dial ⟨Nat.le_of_ble_eq_true rfl, Nat.le_of_ble_eq_true rfl⟩) (q_preS hG h hAb) rfl rfl hl.1 rfl (lv_room (Nat.le_of_ble_eq_true rfl)) dL_act_626 ⟨Nat.le_of_ble_eq_true rfl, Nat.le_of_ble_eq_true rfl⟩) (fun r_626 X_626 H locs hp_626 h => ?_)
      obtain ⟨e_626, hq_626⟩ := hp_626
      have h : yH D AZ sZ.heap [] (X_626 ++ []) _ _ := h.pl rfl
      rw [e_626]
      refine lv_i2l hx hb dL_act_629 rfl ?_
      exact hret _ _ _ _ _ _ _ _ ⟨rfl, hq_626⟩ h (Nat.le_of_ble_eq_true rfl) (Nat.le_of_ble_eq_true rfl) dL_act_630
    · exact absurd (by decide) c_607

set_option maxHeartbeats 4000000 in
set_option maxRecDepth 100000 in
theorem ac_15_1 {l : Launch} {D : va_G} {ty : Nat → ClassId} {base sz : Nat} (hl9 : l.stackTraces = false) {yd : Nat} {σ : QS} {X : va_W} (hq : qY ty yd σ X) {v : Int32} (ho : qLow (v >>> (26 &&& 31)) 14 = 0) (hk : qLow v 46 = 15)  : Met l yL_act [.code yL_act cL_act 10 (some (.long))] rmA (yPc D ty base sz X [.ref yd, .int v]) (va_Ql (fun r X' => r = (aDial σ ((qLow (v >>> ((4 : Int32) &&& 31)) 11) - (2 : Int32)) ((qLow (v >>> ((12 : Int32) &&& 31)) 100) - (4 : Int32)) (v >>> ((9 : Int32) &&& 31)) ((qLow (v >>> ((11 : Int32) &&& 31)) 8) - (1 : Int32))).toInt64 ∧ qY ty yd (nDial σ ((qLow (v >>> ((4 : Int32) &&& 31)) 11) - (2 : Int32)) ((qLow (v >>> ((12 : Int32) &&& 31)) 100) - (4 : Int32)) (v >>> ((9 : Int32) &&& 31)) ((qLow (v >>> ((11 : Int32) &&& 31)) 8) - (1 : Int32))) X') (yB D (va_A X sz) (fun X' : va_W => X')) (va_A X sz)) rmA.cells rmA.slots (va_A X sz) := by
  refine act_pre1 ho (fun pZ eZ sZ mZ aZ bZ tZ cZ AZ ls QZ H locs E h hl hret => ?_)
  · obtain ⟨hx, hb, hml, hown, hG, hA, hAb⟩ := E
    rw [hk]
    refine lv_tableIn (tgt := 600) (off := 394) hx hb dL_act_206 (by decide) (by decide) (by decide) (by decide) ?_
    refine lv_aload_n hx hb dL_act_600 rfl (lv_at hl 8 rfl) ?_
    refine lv_iload_n hx hb dL_act_601 rfl (lv_at hl 6 rfl) ?_
    refine lv_iload hx hb dL_act_602 (lv_at hl 2 rfl) ?_
    refine lv_iload hx hb dL_act_604 (lv_at hl 1 rfl) ?_
    refine lv_iload_n hx hb dL_act_606 rfl (lv_at hl 7 rfl) ?_
    refine lv_if_eq (tgt := 615) hx hb dL_act_607 (by decide) (fun c_607 => ?_) (fun c_607 => ?_)
    · exact absurd c_607 (by decide)
    · skip
      refine lv_iload hx hb dL_act_610 (lv_at hl 0 rfl) ?_
      refine lv_goto (tgt := 626) hx hb dL_act_612 (by decide) ?_
      have h : yH D AZ sZ.heap X [] _ _ := h.pl rfl
      refine q_calli h hA (vx_runSW (own := RL) (As := [.ref yd, .int ((qLow (v >>> ((4 : Int32) &&& 31)) 11) - (2 : Int32)), .int ((qLow (v >>> ((12 : Int32) &&& 31)) 100) - (4 : Int32)), .int (v >>> ((9 : Int32) &&& 31)), .int ((qLow (v >>> ((11 : Int32) &&& 31)) 8) - (1 : Int32))]) (rest := []) ⟨hx, hb, hml, hown, y_nil⟩ (q_dial (l := l) (D := D) (ty := ty) (base := _) (sz := _) hl9 hq ((qLow (v >>> ((4 : Int32) &&& 31)) 11) - (2 : Int32)) ((qLow (v >>> ((12 : Int32) &&& 31)) 100) - (4 : Int32)) (v >>> ((9 : Int32) &&& 31)) ((qLow (v >>> ((11 : Int32) &&& 31)) 8) - (1 : Int32)) ) (y_cwSW 5 (kw_2_101 hG) (kw_1_0 hG) (kw_2_99 hG) (kw_2_100 hG) yd_L_dial ⟨Nat.le_of_ble_eq_true rfl, Nat.le_of_ble_eq_true rfl⟩) (q_preS hG h hAb) rfl rfl hl.1 rfl (lv_room (Nat.le_of_ble_eq_true rfl)) dL_act_626 ⟨Nat.le_of_ble_eq_true rfl, Nat.le_of_ble_eq_true rfl⟩) (fun r_626 X_626 H locs hp_626 h => ?_)
      obtain ⟨e_626, hq_626⟩ := hp_626
      have h : yH D AZ sZ.heap [] (X_626 ++ []) _ _ := h.pl rfl
      rw [e_626]
      refine lv_i2l hx hb dL_act_629 rfl ?_
      exact hret _ _ _ _ _ _ _ _ ⟨rfl, hq_626⟩ h (Nat.le_of_ble_eq_true rfl) (Nat.le_of_ble_eq_true rfl) dL_act_630

set_option maxHeartbeats 4000000 in
set_option maxRecDepth 100000 in
theorem ac_15_0 {l : Launch} {D : va_G} {ty : Nat → ClassId} {base sz : Nat} (hl9 : l.stackTraces = false) {yd : Nat} {σ : QS} {X : va_W} (hq : qY ty yd σ X) {v : Int32} (ho : ¬ qLow (v >>> (26 &&& 31)) 14 = 0) (hk : qLow v 46 = 15)  : Met l yL_act [.code yL_act cL_act 10 (some (.long))] rmA (yPc D ty base sz X [.ref yd, .int v]) (va_Ql (fun r X' => r = (aDial σ (qLow (v >>> ((4 : Int32) &&& 31)) 3) (qLow (v >>> ((12 : Int32) &&& 31)) 91) ((qLow (v >>> ((9 : Int32) &&& 31)) 121) - (60 : Int32)) ((1 : Int32) + (qLow (v >>> ((3 : Int32) &&& 31)) 500))).toInt64 ∧ qY ty yd (nDial σ (qLow (v >>> ((4 : Int32) &&& 31)) 3) (qLow (v >>> ((12 : Int32) &&& 31)) 91) ((qLow (v >>> ((9 : Int32) &&& 31)) 121) - (60 : Int32)) ((1 : Int32) + (qLow (v >>> ((3 : Int32) &&& 31)) 500))) X') (yB D (va_A X sz) (fun X' : va_W => X')) (va_A X sz)) rmA.cells rmA.slots (va_A X sz) := by
  refine act_pre0 ho (fun pZ eZ sZ mZ aZ bZ tZ cZ AZ ls QZ H locs E h hl hret => ?_)
  · obtain ⟨hx, hb, hml, hown, hG, hA, hAb⟩ := E
    rw [hk]
    refine lv_tableIn (tgt := 600) (off := 394) hx hb dL_act_206 (by decide) (by decide) (by decide) (by decide) ?_
    refine lv_aload_n hx hb dL_act_600 rfl (lv_at hl 8 rfl) ?_
    refine lv_iload_n hx hb dL_act_601 rfl (lv_at hl 6 rfl) ?_
    refine lv_iload hx hb dL_act_602 (lv_at hl 2 rfl) ?_
    refine lv_iload hx hb dL_act_604 (lv_at hl 1 rfl) ?_
    refine lv_iload_n hx hb dL_act_606 rfl (lv_at hl 7 rfl) ?_
    refine lv_if_eq (tgt := 615) hx hb dL_act_607 (by decide) (fun c_607 => ?_) (fun c_607 => ?_)
    · skip
      refine lv_iconst (v := 1) hx hb dL_act_615 (by decide) ?_
      refine lv_iload_n hx hb dL_act_616 rfl (lv_at hl 9 rfl) ?_
      refine lv_iconst (v := 3) hx hb dL_act_617 (by decide) ?_
      refine lv_ishr hx hb dL_act_618 ?_
      refine lv_sipush (v := 500) hx hb dL_act_619 (by decide) ?_
      refine y_calli (X' := fun _ : Unit => []) (wc := []) (wr := []) h hA [] [] [] rfl rfl (by decide) (by decide) (by decide) (fun _ => rfl) (va_runS (own := RL) (As := [.int (v >>> ((3 : Int32) &&& 31)), .int 500]) (rest := [.int 1, .int ((qLow (v >>> ((9 : Int32) &&& 31)) 121) - (60 : Int32)), .int (qLow (v >>> ((12 : Int32) &&& 31)) 91), .int (qLow (v >>> ((4 : Int32) &&& 31)) 3), .ref yd]) ⟨hx, hb, hml, hown, y_nil⟩ (m_L_low l D ty base _ (v >>> ((3 : Int32) &&& 31)) 500   (by decide)) (y_cwS 2 (kw_1_220 hG) (kw_1_0 hG) (kw_1_218 hG) (kw_1_219 hG) yd_L_low ⟨Nat.le_of_ble_eq_true rfl, Nat.le_of_ble_eq_true rfl⟩) (y_preS hG h hAb [] rfl (by decide)) rfl rfl hl.1 rfl (lv_room (Nat.le_of_ble_eq_true rfl)) dL_act_622 ⟨Nat.le_of_ble_eq_true rfl, Nat.le_of_ble_eq_true rfl⟩) (fun r_622 _ H locs hp_622 h => ?_)
      have hp_622 : r_622 = qLow (v >>> ((3 : Int32) &&& 31)) 500 := hp_622
      have h : yH D AZ sZ.heap [] (X ++ []) _ _ := h
      rw [hp_622]
      refine lv_iadd hx hb dL_act_625 ?_
      have h : yH D AZ sZ.heap X [] _ _ := h.pl rfl
      refine q_calli h hA (vx_runSW (own := RL) (As := [.ref yd, .int (qLow (v >>> ((4 : Int32) &&& 31)) 3), .int (qLow (v >>> ((12 : Int32) &&& 31)) 91), .int ((qLow (v >>> ((9 : Int32) &&& 31)) 121) - (60 : Int32)), .int ((1 : Int32) + (qLow (v >>> ((3 : Int32) &&& 31)) 500))]) (rest := []) ⟨hx, hb, hml, hown, y_nil⟩ (q_dial (l := l) (D := D) (ty := ty) (base := _) (sz := _) hl9 hq (qLow (v >>> ((4 : Int32) &&& 31)) 3) (qLow (v >>> ((12 : Int32) &&& 31)) 91) ((qLow (v >>> ((9 : Int32) &&& 31)) 121) - (60 : Int32)) ((1 : Int32) + (qLow (v >>> ((3 : Int32) &&& 31)) 500)) ) (y_cwSW 5 (kw_2_101 hG) (kw_1_0 hG) (kw_2_99 hG) (kw_2_100 hG) yd_L_dial ⟨Nat.le_of_ble_eq_true rfl, Nat.le_of_ble_eq_true rfl⟩) (q_preS hG h hAb) rfl rfl hl.1 rfl (lv_room (Nat.le_of_ble_eq_true rfl)) dL_act_626 ⟨Nat.le_of_ble_eq_true rfl, Nat.le_of_ble_eq_true rfl⟩) (fun r_626 X_626 H locs hp_626 h => ?_)
      obtain ⟨e_626, hq_626⟩ := hp_626
      have h : yH D AZ sZ.heap [] (X_626 ++ []) _ _ := h.pl rfl
      rw [e_626]
      refine lv_i2l hx hb dL_act_629 rfl ?_
      exact hret _ _ _ _ _ _ _ _ ⟨rfl, hq_626⟩ h (Nat.le_of_ble_eq_true rfl) (Nat.le_of_ble_eq_true rfl) dL_act_630
    · exact absurd (by decide) c_607

set_option maxHeartbeats 4000000 in
set_option maxRecDepth 100000 in
theorem ac_16_1 {l : Launch} {D : va_G} {ty : Nat → ClassId} {base sz : Nat} (hl9 : l.stackTraces = false) {yd : Nat} {σ : QS} {X : va_W} (hq : qY ty yd σ X) {v : Int32} (ho : qLow (v >>> (26 &&& 31)) 14 = 0) (hk : qLow v 46 = 16)  : Met l yL_act [.code yL_act cL_act 10 (some (.long))] rmA (yPc D ty base sz X [.ref yd, .int v]) (va_Ql (fun r X' => r = (aStand σ ((qLow (v >>> ((7 : Int32) &&& 31)) 13) - (2 : Int32)) ((qLow (v >>> ((4 : Int32) &&& 31)) 11) - (2 : Int32)) ((qLow (v >>> ((12 : Int32) &&& 31)) 100) - (4 : Int32)) (v >>> ((9 : Int32) &&& 31))).toInt64 ∧ qY ty yd (nStand σ ((qLow (v >>> ((7 : Int32) &&& 31)) 13) - (2 : Int32)) ((qLow (v >>> ((4 : Int32) &&& 31)) 11) - (2 : Int32)) ((qLow (v >>> ((12 : Int32) &&& 31)) 100) - (4 : Int32)) (v >>> ((9 : Int32) &&& 31))) X') (yB D (va_A X sz) (fun X' : va_W => X')) (va_A X sz)) rmA.cells rmA.slots (va_A X sz) := by
  refine act_pre1 ho (fun pZ eZ sZ mZ aZ bZ tZ cZ AZ ls QZ H locs E h hl hret => ?_)
  · obtain ⟨hx, hb, hml, hown, hG, hA, hAb⟩ := E
    rw [hk]
    refine lv_tableIn (tgt := 631) (off := 425) hx hb dL_act_206 (by decide) (by decide) (by decide) (by decide) ?_
    refine lv_aload_n hx hb dL_act_631 rfl (lv_at hl 8 rfl) ?_
    refine lv_iload hx hb dL_act_632 (lv_at hl 5 rfl) ?_
    refine lv_iload_n hx hb dL_act_634 rfl (lv_at hl 6 rfl) ?_
    refine lv_iload hx hb dL_act_635 (lv_at hl 2 rfl) ?_
    refine lv_iload hx hb dL_act_637 (lv_at hl 1 rfl) ?_
    have h : yH D AZ sZ.heap X [] _ _ := h.pl rfl
    refine q_calli h hA (vx_runSW (own := RL) (As := [.ref yd, .int ((qLow (v >>> ((7 : Int32) &&& 31)) 13) - (2 : Int32)), .int ((qLow (v >>> ((4 : Int32) &&& 31)) 11) - (2 : Int32)), .int ((qLow (v >>> ((12 : Int32) &&& 31)) 100) - (4 : Int32)), .int (v >>> ((9 : Int32) &&& 31))]) (rest := []) ⟨hx, hb, hml, hown, y_nil⟩ (q_stand (l := l) (D := D) (ty := ty) (base := _) (sz := _) hl9 hq ((qLow (v >>> ((7 : Int32) &&& 31)) 13) - (2 : Int32)) ((qLow (v >>> ((4 : Int32) &&& 31)) 11) - (2 : Int32)) ((qLow (v >>> ((12 : Int32) &&& 31)) 100) - (4 : Int32)) (v >>> ((9 : Int32) &&& 31)) ) (y_cwSW 5 (kw_3_71 hG) (kw_1_0 hG) (kw_3_69 hG) (kw_3_70 hG) yd_L_stand ⟨Nat.le_of_ble_eq_true rfl, Nat.le_of_ble_eq_true rfl⟩) (q_preS hG h hAb) rfl rfl hl.1 rfl (lv_room (Nat.le_of_ble_eq_true rfl)) dL_act_639 ⟨Nat.le_of_ble_eq_true rfl, Nat.le_of_ble_eq_true rfl⟩) (fun r_639 X_639 H locs hp_639 h => ?_)
    obtain ⟨e_639, hq_639⟩ := hp_639
    have h : yH D AZ sZ.heap [] (X_639 ++ []) _ _ := h.pl rfl
    rw [e_639]
    refine lv_i2l hx hb dL_act_642 rfl ?_
    exact hret _ _ _ _ _ _ _ _ ⟨rfl, hq_639⟩ h (Nat.le_of_ble_eq_true rfl) (Nat.le_of_ble_eq_true rfl) dL_act_643

set_option maxHeartbeats 4000000 in
set_option maxRecDepth 100000 in
theorem ac_16_0 {l : Launch} {D : va_G} {ty : Nat → ClassId} {base sz : Nat} (hl9 : l.stackTraces = false) {yd : Nat} {σ : QS} {X : va_W} (hq : qY ty yd σ X) {v : Int32} (ho : ¬ qLow (v >>> (26 &&& 31)) 14 = 0) (hk : qLow v 46 = 16)  : Met l yL_act [.code yL_act cL_act 10 (some (.long))] rmA (yPc D ty base sz X [.ref yd, .int v]) (va_Ql (fun r X' => r = (aStand σ (qLow (v >>> ((7 : Int32) &&& 31)) 3) (qLow (v >>> ((4 : Int32) &&& 31)) 3) (qLow (v >>> ((12 : Int32) &&& 31)) 91) ((qLow (v >>> ((9 : Int32) &&& 31)) 121) - (60 : Int32))).toInt64 ∧ qY ty yd (nStand σ (qLow (v >>> ((7 : Int32) &&& 31)) 3) (qLow (v >>> ((4 : Int32) &&& 31)) 3) (qLow (v >>> ((12 : Int32) &&& 31)) 91) ((qLow (v >>> ((9 : Int32) &&& 31)) 121) - (60 : Int32))) X') (yB D (va_A X sz) (fun X' : va_W => X')) (va_A X sz)) rmA.cells rmA.slots (va_A X sz) := by
  refine act_pre0 ho (fun pZ eZ sZ mZ aZ bZ tZ cZ AZ ls QZ H locs E h hl hret => ?_)
  · obtain ⟨hx, hb, hml, hown, hG, hA, hAb⟩ := E
    rw [hk]
    refine lv_tableIn (tgt := 631) (off := 425) hx hb dL_act_206 (by decide) (by decide) (by decide) (by decide) ?_
    refine lv_aload_n hx hb dL_act_631 rfl (lv_at hl 8 rfl) ?_
    refine lv_iload hx hb dL_act_632 (lv_at hl 5 rfl) ?_
    refine lv_iload_n hx hb dL_act_634 rfl (lv_at hl 6 rfl) ?_
    refine lv_iload hx hb dL_act_635 (lv_at hl 2 rfl) ?_
    refine lv_iload hx hb dL_act_637 (lv_at hl 1 rfl) ?_
    have h : yH D AZ sZ.heap X [] _ _ := h.pl rfl
    refine q_calli h hA (vx_runSW (own := RL) (As := [.ref yd, .int (qLow (v >>> ((7 : Int32) &&& 31)) 3), .int (qLow (v >>> ((4 : Int32) &&& 31)) 3), .int (qLow (v >>> ((12 : Int32) &&& 31)) 91), .int ((qLow (v >>> ((9 : Int32) &&& 31)) 121) - (60 : Int32))]) (rest := []) ⟨hx, hb, hml, hown, y_nil⟩ (q_stand (l := l) (D := D) (ty := ty) (base := _) (sz := _) hl9 hq (qLow (v >>> ((7 : Int32) &&& 31)) 3) (qLow (v >>> ((4 : Int32) &&& 31)) 3) (qLow (v >>> ((12 : Int32) &&& 31)) 91) ((qLow (v >>> ((9 : Int32) &&& 31)) 121) - (60 : Int32)) ) (y_cwSW 5 (kw_3_71 hG) (kw_1_0 hG) (kw_3_69 hG) (kw_3_70 hG) yd_L_stand ⟨Nat.le_of_ble_eq_true rfl, Nat.le_of_ble_eq_true rfl⟩) (q_preS hG h hAb) rfl rfl hl.1 rfl (lv_room (Nat.le_of_ble_eq_true rfl)) dL_act_639 ⟨Nat.le_of_ble_eq_true rfl, Nat.le_of_ble_eq_true rfl⟩) (fun r_639 X_639 H locs hp_639 h => ?_)
    obtain ⟨e_639, hq_639⟩ := hp_639
    have h : yH D AZ sZ.heap [] (X_639 ++ []) _ _ := h.pl rfl
    rw [e_639]
    refine lv_i2l hx hb dL_act_642 rfl ?_
    exact hret _ _ _ _ _ _ _ _ ⟨rfl, hq_639⟩ h (Nat.le_of_ble_eq_true rfl) (Nat.le_of_ble_eq_true rfl) dL_act_643

set_option maxHeartbeats 4000000 in
set_option maxRecDepth 100000 in
theorem ac_17_1 {l : Launch} {D : va_G} {ty : Nat → ClassId} {base sz : Nat} (hl9 : l.stackTraces = false) {yd : Nat} {σ : QS} {X : va_W} (hq : qY ty yd σ X) {v : Int32} (ho : qLow (v >>> (26 &&& 31)) 14 = 0) (hk : qLow v 46 = 17)  : Met l yL_act [.code yL_act cL_act 10 (some (.long))] rmA (yPc D ty base sz X [.ref yd, .int v]) (va_Ql (fun r X' => r = (aStand σ ((qLow (v >>> ((7 : Int32) &&& 31)) 13) - (2 : Int32)) ((qLow (v >>> ((4 : Int32) &&& 31)) 11) - (2 : Int32)) ((qLow (v >>> ((12 : Int32) &&& 31)) 100) - (4 : Int32)) (v >>> ((9 : Int32) &&& 31))).toInt64 ∧ qY ty yd (nStand σ ((qLow (v >>> ((7 : Int32) &&& 31)) 13) - (2 : Int32)) ((qLow (v >>> ((4 : Int32) &&& 31)) 11) - (2 : Int32)) ((qLow (v >>> ((12 : Int32) &&& 31)) 100) - (4 : Int32)) (v >>> ((9 : Int32) &&& 31))) X') (yB D (va_A X sz) (fun X' : va_W => X')) (va_A X sz)) rmA.cells rmA.slots (va_A X sz) := by
  refine act_pre1 ho (fun pZ eZ sZ mZ aZ bZ tZ cZ AZ ls QZ H locs E h hl hret => ?_)
  · obtain ⟨hx, hb, hml, hown, hG, hA, hAb⟩ := E
    rw [hk]
    refine lv_tableIn (tgt := 631) (off := 425) hx hb dL_act_206 (by decide) (by decide) (by decide) (by decide) ?_
    refine lv_aload_n hx hb dL_act_631 rfl (lv_at hl 8 rfl) ?_
    refine lv_iload hx hb dL_act_632 (lv_at hl 5 rfl) ?_
    refine lv_iload_n hx hb dL_act_634 rfl (lv_at hl 6 rfl) ?_
    refine lv_iload hx hb dL_act_635 (lv_at hl 2 rfl) ?_
    refine lv_iload hx hb dL_act_637 (lv_at hl 1 rfl) ?_
    have h : yH D AZ sZ.heap X [] _ _ := h.pl rfl
    refine q_calli h hA (vx_runSW (own := RL) (As := [.ref yd, .int ((qLow (v >>> ((7 : Int32) &&& 31)) 13) - (2 : Int32)), .int ((qLow (v >>> ((4 : Int32) &&& 31)) 11) - (2 : Int32)), .int ((qLow (v >>> ((12 : Int32) &&& 31)) 100) - (4 : Int32)), .int (v >>> ((9 : Int32) &&& 31))]) (rest := []) ⟨hx, hb, hml, hown, y_nil⟩ (q_stand (l := l) (D := D) (ty := ty) (base := _) (sz := _) hl9 hq ((qLow (v >>> ((7 : Int32) &&& 31)) 13) - (2 : Int32)) ((qLow (v >>> ((4 : Int32) &&& 31)) 11) - (2 : Int32)) ((qLow (v >>> ((12 : Int32) &&& 31)) 100) - (4 : Int32)) (v >>> ((9 : Int32) &&& 31)) ) (y_cwSW 5 (kw_3_71 hG) (kw_1_0 hG) (kw_3_69 hG) (kw_3_70 hG) yd_L_stand ⟨Nat.le_of_ble_eq_true rfl, Nat.le_of_ble_eq_true rfl⟩) (q_preS hG h hAb) rfl rfl hl.1 rfl (lv_room (Nat.le_of_ble_eq_true rfl)) dL_act_639 ⟨Nat.le_of_ble_eq_true rfl, Nat.le_of_ble_eq_true rfl⟩) (fun r_639 X_639 H locs hp_639 h => ?_)
    obtain ⟨e_639, hq_639⟩ := hp_639
    have h : yH D AZ sZ.heap [] (X_639 ++ []) _ _ := h.pl rfl
    rw [e_639]
    refine lv_i2l hx hb dL_act_642 rfl ?_
    exact hret _ _ _ _ _ _ _ _ ⟨rfl, hq_639⟩ h (Nat.le_of_ble_eq_true rfl) (Nat.le_of_ble_eq_true rfl) dL_act_643

set_option maxHeartbeats 4000000 in
set_option maxRecDepth 100000 in
theorem ac_17_0 {l : Launch} {D : va_G} {ty : Nat → ClassId} {base sz : Nat} (hl9 : l.stackTraces = false) {yd : Nat} {σ : QS} {X : va_W} (hq : qY ty yd σ X) {v : Int32} (ho : ¬ qLow (v >>> (26 &&& 31)) 14 = 0) (hk : qLow v 46 = 17)  : Met l yL_act [.code yL_act cL_act 10 (some (.long))] rmA (yPc D ty base sz X [.ref yd, .int v]) (va_Ql (fun r X' => r = (aStand σ (qLow (v >>> ((7 : Int32) &&& 31)) 3) (qLow (v >>> ((4 : Int32) &&& 31)) 3) (qLow (v >>> ((12 : Int32) &&& 31)) 91) ((qLow (v >>> ((9 : Int32) &&& 31)) 121) - (60 : Int32))).toInt64 ∧ qY ty yd (nStand σ (qLow (v >>> ((7 : Int32) &&& 31)) 3) (qLow (v >>> ((4 : Int32) &&& 31)) 3) (qLow (v >>> ((12 : Int32) &&& 31)) 91) ((qLow (v >>> ((9 : Int32) &&& 31)) 121) - (60 : Int32))) X') (yB D (va_A X sz) (fun X' : va_W => X')) (va_A X sz)) rmA.cells rmA.slots (va_A X sz) := by
  refine act_pre0 ho (fun pZ eZ sZ mZ aZ bZ tZ cZ AZ ls QZ H locs E h hl hret => ?_)
  · obtain ⟨hx, hb, hml, hown, hG, hA, hAb⟩ := E
    rw [hk]
    refine lv_tableIn (tgt := 631) (off := 425) hx hb dL_act_206 (by decide) (by decide) (by decide) (by decide) ?_
    refine lv_aload_n hx hb dL_act_631 rfl (lv_at hl 8 rfl) ?_
    refine lv_iload hx hb dL_act_632 (lv_at hl 5 rfl) ?_
    refine lv_iload_n hx hb dL_act_634 rfl (lv_at hl 6 rfl) ?_
    refine lv_iload hx hb dL_act_635 (lv_at hl 2 rfl) ?_
    refine lv_iload hx hb dL_act_637 (lv_at hl 1 rfl) ?_
    have h : yH D AZ sZ.heap X [] _ _ := h.pl rfl
    refine q_calli h hA (vx_runSW (own := RL) (As := [.ref yd, .int (qLow (v >>> ((7 : Int32) &&& 31)) 3), .int (qLow (v >>> ((4 : Int32) &&& 31)) 3), .int (qLow (v >>> ((12 : Int32) &&& 31)) 91), .int ((qLow (v >>> ((9 : Int32) &&& 31)) 121) - (60 : Int32))]) (rest := []) ⟨hx, hb, hml, hown, y_nil⟩ (q_stand (l := l) (D := D) (ty := ty) (base := _) (sz := _) hl9 hq (qLow (v >>> ((7 : Int32) &&& 31)) 3) (qLow (v >>> ((4 : Int32) &&& 31)) 3) (qLow (v >>> ((12 : Int32) &&& 31)) 91) ((qLow (v >>> ((9 : Int32) &&& 31)) 121) - (60 : Int32)) ) (y_cwSW 5 (kw_3_71 hG) (kw_1_0 hG) (kw_3_69 hG) (kw_3_70 hG) yd_L_stand ⟨Nat.le_of_ble_eq_true rfl, Nat.le_of_ble_eq_true rfl⟩) (q_preS hG h hAb) rfl rfl hl.1 rfl (lv_room (Nat.le_of_ble_eq_true rfl)) dL_act_639 ⟨Nat.le_of_ble_eq_true rfl, Nat.le_of_ble_eq_true rfl⟩) (fun r_639 X_639 H locs hp_639 h => ?_)
    obtain ⟨e_639, hq_639⟩ := hp_639
    have h : yH D AZ sZ.heap [] (X_639 ++ []) _ _ := h.pl rfl
    rw [e_639]
    refine lv_i2l hx hb dL_act_642 rfl ?_
    exact hret _ _ _ _ _ _ _ _ ⟨rfl, hq_639⟩ h (Nat.le_of_ble_eq_true rfl) (Nat.le_of_ble_eq_true rfl) dL_act_643

set_option maxHeartbeats 4000000 in
set_option maxRecDepth 100000 in
theorem ac_18_1 {l : Launch} {D : va_G} {ty : Nat → ClassId} {base sz : Nat} (hl9 : l.stackTraces = false) {yd : Nat} {σ : QS} {X : va_W} (hq : qY ty yd σ X) {v : Int32} (ho : qLow (v >>> (26 &&& 31)) 14 = 0) (hk : qLow v 46 = 18)  : Met l yL_act [.code yL_act cL_act 10 (some (.long))] rmA (yPc D ty base sz X [.ref yd, .int v]) (va_Ql (fun r X' => r = (aStand σ ((qLow (v >>> ((7 : Int32) &&& 31)) 13) - (2 : Int32)) ((qLow (v >>> ((4 : Int32) &&& 31)) 11) - (2 : Int32)) ((qLow (v >>> ((12 : Int32) &&& 31)) 100) - (4 : Int32)) (v >>> ((9 : Int32) &&& 31))).toInt64 ∧ qY ty yd (nStand σ ((qLow (v >>> ((7 : Int32) &&& 31)) 13) - (2 : Int32)) ((qLow (v >>> ((4 : Int32) &&& 31)) 11) - (2 : Int32)) ((qLow (v >>> ((12 : Int32) &&& 31)) 100) - (4 : Int32)) (v >>> ((9 : Int32) &&& 31))) X') (yB D (va_A X sz) (fun X' : va_W => X')) (va_A X sz)) rmA.cells rmA.slots (va_A X sz) := by
  refine act_pre1 ho (fun pZ eZ sZ mZ aZ bZ tZ cZ AZ ls QZ H locs E h hl hret => ?_)
  · obtain ⟨hx, hb, hml, hown, hG, hA, hAb⟩ := E
    rw [hk]
    refine lv_tableIn (tgt := 631) (off := 425) hx hb dL_act_206 (by decide) (by decide) (by decide) (by decide) ?_
    refine lv_aload_n hx hb dL_act_631 rfl (lv_at hl 8 rfl) ?_
    refine lv_iload hx hb dL_act_632 (lv_at hl 5 rfl) ?_
    refine lv_iload_n hx hb dL_act_634 rfl (lv_at hl 6 rfl) ?_
    refine lv_iload hx hb dL_act_635 (lv_at hl 2 rfl) ?_
    refine lv_iload hx hb dL_act_637 (lv_at hl 1 rfl) ?_
    have h : yH D AZ sZ.heap X [] _ _ := h.pl rfl
    refine q_calli h hA (vx_runSW (own := RL) (As := [.ref yd, .int ((qLow (v >>> ((7 : Int32) &&& 31)) 13) - (2 : Int32)), .int ((qLow (v >>> ((4 : Int32) &&& 31)) 11) - (2 : Int32)), .int ((qLow (v >>> ((12 : Int32) &&& 31)) 100) - (4 : Int32)), .int (v >>> ((9 : Int32) &&& 31))]) (rest := []) ⟨hx, hb, hml, hown, y_nil⟩ (q_stand (l := l) (D := D) (ty := ty) (base := _) (sz := _) hl9 hq ((qLow (v >>> ((7 : Int32) &&& 31)) 13) - (2 : Int32)) ((qLow (v >>> ((4 : Int32) &&& 31)) 11) - (2 : Int32)) ((qLow (v >>> ((12 : Int32) &&& 31)) 100) - (4 : Int32)) (v >>> ((9 : Int32) &&& 31)) ) (y_cwSW 5 (kw_3_71 hG) (kw_1_0 hG) (kw_3_69 hG) (kw_3_70 hG) yd_L_stand ⟨Nat.le_of_ble_eq_true rfl, Nat.le_of_ble_eq_true rfl⟩) (q_preS hG h hAb) rfl rfl hl.1 rfl (lv_room (Nat.le_of_ble_eq_true rfl)) dL_act_639 ⟨Nat.le_of_ble_eq_true rfl, Nat.le_of_ble_eq_true rfl⟩) (fun r_639 X_639 H locs hp_639 h => ?_)
    obtain ⟨e_639, hq_639⟩ := hp_639
    have h : yH D AZ sZ.heap [] (X_639 ++ []) _ _ := h.pl rfl
    rw [e_639]
    refine lv_i2l hx hb dL_act_642 rfl ?_
    exact hret _ _ _ _ _ _ _ _ ⟨rfl, hq_639⟩ h (Nat.le_of_ble_eq_true rfl) (Nat.le_of_ble_eq_true rfl) dL_act_643

set_option maxHeartbeats 4000000 in
set_option maxRecDepth 100000 in
theorem ac_18_0 {l : Launch} {D : va_G} {ty : Nat → ClassId} {base sz : Nat} (hl9 : l.stackTraces = false) {yd : Nat} {σ : QS} {X : va_W} (hq : qY ty yd σ X) {v : Int32} (ho : ¬ qLow (v >>> (26 &&& 31)) 14 = 0) (hk : qLow v 46 = 18)  : Met l yL_act [.code yL_act cL_act 10 (some (.long))] rmA (yPc D ty base sz X [.ref yd, .int v]) (va_Ql (fun r X' => r = (aStand σ (qLow (v >>> ((7 : Int32) &&& 31)) 3) (qLow (v >>> ((4 : Int32) &&& 31)) 3) (qLow (v >>> ((12 : Int32) &&& 31)) 91) ((qLow (v >>> ((9 : Int32) &&& 31)) 121) - (60 : Int32))).toInt64 ∧ qY ty yd (nStand σ (qLow (v >>> ((7 : Int32) &&& 31)) 3) (qLow (v >>> ((4 : Int32) &&& 31)) 3) (qLow (v >>> ((12 : Int32) &&& 31)) 91) ((qLow (v >>> ((9 : Int32) &&& 31)) 121) - (60 : Int32))) X') (yB D (va_A X sz) (fun X' : va_W => X')) (va_A X sz)) rmA.cells rmA.slots (va_A X sz) := by
  refine act_pre0 ho (fun pZ eZ sZ mZ aZ bZ tZ cZ AZ ls QZ H locs E h hl hret => ?_)
  · obtain ⟨hx, hb, hml, hown, hG, hA, hAb⟩ := E
    rw [hk]
    refine lv_tableIn (tgt := 631) (off := 425) hx hb dL_act_206 (by decide) (by decide) (by decide) (by decide) ?_
    refine lv_aload_n hx hb dL_act_631 rfl (lv_at hl 8 rfl) ?_
    refine lv_iload hx hb dL_act_632 (lv_at hl 5 rfl) ?_
    refine lv_iload_n hx hb dL_act_634 rfl (lv_at hl 6 rfl) ?_
    refine lv_iload hx hb dL_act_635 (lv_at hl 2 rfl) ?_
    refine lv_iload hx hb dL_act_637 (lv_at hl 1 rfl) ?_
    have h : yH D AZ sZ.heap X [] _ _ := h.pl rfl
    refine q_calli h hA (vx_runSW (own := RL) (As := [.ref yd, .int (qLow (v >>> ((7 : Int32) &&& 31)) 3), .int (qLow (v >>> ((4 : Int32) &&& 31)) 3), .int (qLow (v >>> ((12 : Int32) &&& 31)) 91), .int ((qLow (v >>> ((9 : Int32) &&& 31)) 121) - (60 : Int32))]) (rest := []) ⟨hx, hb, hml, hown, y_nil⟩ (q_stand (l := l) (D := D) (ty := ty) (base := _) (sz := _) hl9 hq (qLow (v >>> ((7 : Int32) &&& 31)) 3) (qLow (v >>> ((4 : Int32) &&& 31)) 3) (qLow (v >>> ((12 : Int32) &&& 31)) 91) ((qLow (v >>> ((9 : Int32) &&& 31)) 121) - (60 : Int32)) ) (y_cwSW 5 (kw_3_71 hG) (kw_1_0 hG) (kw_3_69 hG) (kw_3_70 hG) yd_L_stand ⟨Nat.le_of_ble_eq_true rfl, Nat.le_of_ble_eq_true rfl⟩) (q_preS hG h hAb) rfl rfl hl.1 rfl (lv_room (Nat.le_of_ble_eq_true rfl)) dL_act_639 ⟨Nat.le_of_ble_eq_true rfl, Nat.le_of_ble_eq_true rfl⟩) (fun r_639 X_639 H locs hp_639 h => ?_)
    obtain ⟨e_639, hq_639⟩ := hp_639
    have h : yH D AZ sZ.heap [] (X_639 ++ []) _ _ := h.pl rfl
    rw [e_639]
    refine lv_i2l hx hb dL_act_642 rfl ?_
    exact hret _ _ _ _ _ _ _ _ ⟨rfl, hq_639⟩ h (Nat.le_of_ble_eq_true rfl) (Nat.le_of_ble_eq_true rfl) dL_act_643

set_option maxHeartbeats 4000000 in
set_option maxRecDepth 100000 in
theorem ac_19_1 {l : Launch} {D : va_G} {ty : Nat → ClassId} {base sz : Nat} (hl9 : l.stackTraces = false) {yd : Nat} {σ : QS} {X : va_W} (hq : qY ty yd σ X) {v : Int32} (ho : qLow (v >>> (26 &&& 31)) 14 = 0) (hk : qLow v 46 = 19)  : Met l yL_act [.code yL_act cL_act 10 (some (.long))] rmA (yPc D ty base sz X [.ref yd, .int v]) (va_Ql (fun r X' => r = (aStand σ ((qLow (v >>> ((7 : Int32) &&& 31)) 13) - (2 : Int32)) ((qLow (v >>> ((4 : Int32) &&& 31)) 11) - (2 : Int32)) ((qLow (v >>> ((12 : Int32) &&& 31)) 100) - (4 : Int32)) (v >>> ((9 : Int32) &&& 31))).toInt64 ∧ qY ty yd (nStand σ ((qLow (v >>> ((7 : Int32) &&& 31)) 13) - (2 : Int32)) ((qLow (v >>> ((4 : Int32) &&& 31)) 11) - (2 : Int32)) ((qLow (v >>> ((12 : Int32) &&& 31)) 100) - (4 : Int32)) (v >>> ((9 : Int32) &&& 31))) X') (yB D (va_A X sz) (fun X' : va_W => X')) (va_A X sz)) rmA.cells rmA.slots (va_A X sz) := by
  refine act_pre1 ho (fun pZ eZ sZ mZ aZ bZ tZ cZ AZ ls QZ H locs E h hl hret => ?_)
  · obtain ⟨hx, hb, hml, hown, hG, hA, hAb⟩ := E
    rw [hk]
    refine lv_tableIn (tgt := 631) (off := 425) hx hb dL_act_206 (by decide) (by decide) (by decide) (by decide) ?_
    refine lv_aload_n hx hb dL_act_631 rfl (lv_at hl 8 rfl) ?_
    refine lv_iload hx hb dL_act_632 (lv_at hl 5 rfl) ?_
    refine lv_iload_n hx hb dL_act_634 rfl (lv_at hl 6 rfl) ?_
    refine lv_iload hx hb dL_act_635 (lv_at hl 2 rfl) ?_
    refine lv_iload hx hb dL_act_637 (lv_at hl 1 rfl) ?_
    have h : yH D AZ sZ.heap X [] _ _ := h.pl rfl
    refine q_calli h hA (vx_runSW (own := RL) (As := [.ref yd, .int ((qLow (v >>> ((7 : Int32) &&& 31)) 13) - (2 : Int32)), .int ((qLow (v >>> ((4 : Int32) &&& 31)) 11) - (2 : Int32)), .int ((qLow (v >>> ((12 : Int32) &&& 31)) 100) - (4 : Int32)), .int (v >>> ((9 : Int32) &&& 31))]) (rest := []) ⟨hx, hb, hml, hown, y_nil⟩ (q_stand (l := l) (D := D) (ty := ty) (base := _) (sz := _) hl9 hq ((qLow (v >>> ((7 : Int32) &&& 31)) 13) - (2 : Int32)) ((qLow (v >>> ((4 : Int32) &&& 31)) 11) - (2 : Int32)) ((qLow (v >>> ((12 : Int32) &&& 31)) 100) - (4 : Int32)) (v >>> ((9 : Int32) &&& 31)) ) (y_cwSW 5 (kw_3_71 hG) (kw_1_0 hG) (kw_3_69 hG) (kw_3_70 hG) yd_L_stand ⟨Nat.le_of_ble_eq_true rfl, Nat.le_of_ble_eq_true rfl⟩) (q_preS hG h hAb) rfl rfl hl.1 rfl (lv_room (Nat.le_of_ble_eq_true rfl)) dL_act_639 ⟨Nat.le_of_ble_eq_true rfl, Nat.le_of_ble_eq_true rfl⟩) (fun r_639 X_639 H locs hp_639 h => ?_)
    obtain ⟨e_639, hq_639⟩ := hp_639
    have h : yH D AZ sZ.heap [] (X_639 ++ []) _ _ := h.pl rfl
    rw [e_639]
    refine lv_i2l hx hb dL_act_642 rfl ?_
    exact hret _ _ _ _ _ _ _ _ ⟨rfl, hq_639⟩ h (Nat.le_of_ble_eq_true rfl) (Nat.le_of_ble_eq_true rfl) dL_act_643

set_option maxHeartbeats 4000000 in
set_option maxRecDepth 100000 in
theorem ac_19_0 {l : Launch} {D : va_G} {ty : Nat → ClassId} {base sz : Nat} (hl9 : l.stackTraces = false) {yd : Nat} {σ : QS} {X : va_W} (hq : qY ty yd σ X) {v : Int32} (ho : ¬ qLow (v >>> (26 &&& 31)) 14 = 0) (hk : qLow v 46 = 19)  : Met l yL_act [.code yL_act cL_act 10 (some (.long))] rmA (yPc D ty base sz X [.ref yd, .int v]) (va_Ql (fun r X' => r = (aStand σ (qLow (v >>> ((7 : Int32) &&& 31)) 3) (qLow (v >>> ((4 : Int32) &&& 31)) 3) (qLow (v >>> ((12 : Int32) &&& 31)) 91) ((qLow (v >>> ((9 : Int32) &&& 31)) 121) - (60 : Int32))).toInt64 ∧ qY ty yd (nStand σ (qLow (v >>> ((7 : Int32) &&& 31)) 3) (qLow (v >>> ((4 : Int32) &&& 31)) 3) (qLow (v >>> ((12 : Int32) &&& 31)) 91) ((qLow (v >>> ((9 : Int32) &&& 31)) 121) - (60 : Int32))) X') (yB D (va_A X sz) (fun X' : va_W => X')) (va_A X sz)) rmA.cells rmA.slots (va_A X sz) := by
  refine act_pre0 ho (fun pZ eZ sZ mZ aZ bZ tZ cZ AZ ls QZ H locs E h hl hret => ?_)
  · obtain ⟨hx, hb, hml, hown, hG, hA, hAb⟩ := E
    rw [hk]
    refine lv_tableIn (tgt := 631) (off := 425) hx hb dL_act_206 (by decide) (by decide) (by decide) (by decide) ?_
    refine lv_aload_n hx hb dL_act_631 rfl (lv_at hl 8 rfl) ?_
    refine lv_iload hx hb dL_act_632 (lv_at hl 5 rfl) ?_
    refine lv_iload_n hx hb dL_act_634 rfl (lv_at hl 6 rfl) ?_
    refine lv_iload hx hb dL_act_635 (lv_at hl 2 rfl) ?_
    refine lv_iload hx hb dL_act_637 (lv_at hl 1 rfl) ?_
    have h : yH D AZ sZ.heap X [] _ _ := h.pl rfl
    refine q_calli h hA (vx_runSW (own := RL) (As := [.ref yd, .int (qLow (v >>> ((7 : Int32) &&& 31)) 3), .int (qLow (v >>> ((4 : Int32) &&& 31)) 3), .int (qLow (v >>> ((12 : Int32) &&& 31)) 91), .int ((qLow (v >>> ((9 : Int32) &&& 31)) 121) - (60 : Int32))]) (rest := []) ⟨hx, hb, hml, hown, y_nil⟩ (q_stand (l := l) (D := D) (ty := ty) (base := _) (sz := _) hl9 hq (qLow (v >>> ((7 : Int32) &&& 31)) 3) (qLow (v >>> ((4 : Int32) &&& 31)) 3) (qLow (v >>> ((12 : Int32) &&& 31)) 91) ((qLow (v >>> ((9 : Int32) &&& 31)) 121) - (60 : Int32)) ) (y_cwSW 5 (kw_3_71 hG) (kw_1_0 hG) (kw_3_69 hG) (kw_3_70 hG) yd_L_stand ⟨Nat.le_of_ble_eq_true rfl, Nat.le_of_ble_eq_true rfl⟩) (q_preS hG h hAb) rfl rfl hl.1 rfl (lv_room (Nat.le_of_ble_eq_true rfl)) dL_act_639 ⟨Nat.le_of_ble_eq_true rfl, Nat.le_of_ble_eq_true rfl⟩) (fun r_639 X_639 H locs hp_639 h => ?_)
    obtain ⟨e_639, hq_639⟩ := hp_639
    have h : yH D AZ sZ.heap [] (X_639 ++ []) _ _ := h.pl rfl
    rw [e_639]
    refine lv_i2l hx hb dL_act_642 rfl ?_
    exact hret _ _ _ _ _ _ _ _ ⟨rfl, hq_639⟩ h (Nat.le_of_ble_eq_true rfl) (Nat.le_of_ble_eq_true rfl) dL_act_643

set_option maxHeartbeats 4000000 in
set_option maxRecDepth 100000 in
theorem ac_20_1y {l : Launch} {D : va_G} {ty : Nat → ClassId} {base sz : Nat} (hl9 : l.stackTraces = false) {yd : Nat} {σ : QS} {X : va_W} (hq : qY ty yd σ X) {v : Int32} (ho : qLow (v >>> (26 &&& 31)) 14 = 0) (hk : qLow v 46 = 20) (hs : ((v >>> (10 &&& 31)) &&& 1) = 1) : Met l yL_act [.code yL_act cL_act 10 (some (.long))] rmA (yPc D ty base sz X [.ref yd, .int v]) (va_Ql (fun r X' => r = (aShadow σ ((qLow (v >>> ((7 : Int32) &&& 31)) 13) - (2 : Int32)) (v >>> ((5 : Int32) &&& 31)) (v >>> ((8 : Int32) &&& 31)) 1).toInt64 ∧ qY ty yd σ X') (yB D (va_A X sz) (fun X' : va_W => X')) (va_A X sz)) rmA.cells rmA.slots (va_A X sz) := by
  refine act_pre1 ho (fun pZ eZ sZ mZ aZ bZ tZ cZ AZ ls QZ H locs E h hl hret => ?_)
  · obtain ⟨hx, hb, hml, hown, hG, hA, hAb⟩ := E
    rw [hk]
    refine lv_tableIn (tgt := 644) (off := 438) hx hb dL_act_206 (by decide) (by decide) (by decide) (by decide) ?_
    refine lv_aload_n hx hb dL_act_644 rfl (lv_at hl 8 rfl) ?_
    refine lv_iload hx hb dL_act_645 (lv_at hl 5 rfl) ?_
    refine lv_iload hx hb dL_act_647 (lv_at hl 4 rfl) ?_
    refine lv_iload hx hb dL_act_649 (lv_at hl 3 rfl) ?_
    refine lv_iload_n hx hb dL_act_651 rfl (lv_at hl 9 rfl) ?_
    refine lv_bipush (v := 10) hx hb dL_act_652 (by decide) ?_
    refine lv_ishr hx hb dL_act_654 ?_
    refine lv_iconst (v := 1) hx hb dL_act_655 (by decide) ?_
    refine lv_iand hx hb dL_act_656 ?_
    refine lv_iconst (v := 1) hx hb dL_act_657 (by decide) ?_
    refine lv_icmp_ne (tgt := 665) hx hb dL_act_658 (by decide) (fun c_658 => ?_) (fun c_658 => ?_)
    · exact absurd hs c_658
    · skip
      refine lv_iconst (v := 1) hx hb dL_act_661 (by decide) ?_
      refine lv_goto (tgt := 666) hx hb dL_act_662 (by decide) ?_
      have h : yH D AZ sZ.heap X [] _ _ := h.pl rfl
      refine q_calli h hA (vx_runSW (own := RL) (As := [.ref yd, .int ((qLow (v >>> ((7 : Int32) &&& 31)) 13) - (2 : Int32)), .int (v >>> ((5 : Int32) &&& 31)), .int (v >>> ((8 : Int32) &&& 31)), .int 1]) (rest := []) ⟨hx, hb, hml, hown, y_nil⟩ (q_shadow (l := l) (D := D) (ty := ty) (base := _) (sz := _) hl9 hq ((qLow (v >>> ((7 : Int32) &&& 31)) 13) - (2 : Int32)) (v >>> ((5 : Int32) &&& 31)) (v >>> ((8 : Int32) &&& 31)) 1 ) (y_cwSW 5 (kw_3_83 hG) (kw_1_0 hG) (kw_3_81 hG) (kw_3_82 hG) yd_L_shadow ⟨Nat.le_of_ble_eq_true rfl, Nat.le_of_ble_eq_true rfl⟩) (q_preS hG h hAb) rfl rfl hl.1 rfl (lv_room (Nat.le_of_ble_eq_true rfl)) dL_act_666 ⟨Nat.le_of_ble_eq_true rfl, Nat.le_of_ble_eq_true rfl⟩) (fun r_666 X_666 H locs hp_666 h => ?_)
      obtain ⟨e_666, hq_666⟩ := hp_666
      have h : yH D AZ sZ.heap [] (X_666 ++ []) _ _ := h.pl rfl
      rw [e_666]
      refine lv_i2l hx hb dL_act_669 rfl ?_
      exact hret _ _ _ _ _ _ _ _ ⟨rfl, hq_666⟩ h (Nat.le_of_ble_eq_true rfl) (Nat.le_of_ble_eq_true rfl) dL_act_670

set_option maxHeartbeats 4000000 in
set_option maxRecDepth 100000 in
theorem ac_20_1n {l : Launch} {D : va_G} {ty : Nat → ClassId} {base sz : Nat} (hl9 : l.stackTraces = false) {yd : Nat} {σ : QS} {X : va_W} (hq : qY ty yd σ X) {v : Int32} (ho : qLow (v >>> (26 &&& 31)) 14 = 0) (hk : qLow v 46 = 20) (hs : ¬ ((v >>> (10 &&& 31)) &&& 1) = 1) : Met l yL_act [.code yL_act cL_act 10 (some (.long))] rmA (yPc D ty base sz X [.ref yd, .int v]) (va_Ql (fun r X' => r = (aShadow σ ((qLow (v >>> ((7 : Int32) &&& 31)) 13) - (2 : Int32)) (v >>> ((5 : Int32) &&& 31)) (v >>> ((8 : Int32) &&& 31)) 0).toInt64 ∧ qY ty yd σ X') (yB D (va_A X sz) (fun X' : va_W => X')) (va_A X sz)) rmA.cells rmA.slots (va_A X sz) := by
  refine act_pre1 ho (fun pZ eZ sZ mZ aZ bZ tZ cZ AZ ls QZ H locs E h hl hret => ?_)
  · obtain ⟨hx, hb, hml, hown, hG, hA, hAb⟩ := E
    rw [hk]
    refine lv_tableIn (tgt := 644) (off := 438) hx hb dL_act_206 (by decide) (by decide) (by decide) (by decide) ?_
    refine lv_aload_n hx hb dL_act_644 rfl (lv_at hl 8 rfl) ?_
    refine lv_iload hx hb dL_act_645 (lv_at hl 5 rfl) ?_
    refine lv_iload hx hb dL_act_647 (lv_at hl 4 rfl) ?_
    refine lv_iload hx hb dL_act_649 (lv_at hl 3 rfl) ?_
    refine lv_iload_n hx hb dL_act_651 rfl (lv_at hl 9 rfl) ?_
    refine lv_bipush (v := 10) hx hb dL_act_652 (by decide) ?_
    refine lv_ishr hx hb dL_act_654 ?_
    refine lv_iconst (v := 1) hx hb dL_act_655 (by decide) ?_
    refine lv_iand hx hb dL_act_656 ?_
    refine lv_iconst (v := 1) hx hb dL_act_657 (by decide) ?_
    refine lv_icmp_ne (tgt := 665) hx hb dL_act_658 (by decide) (fun c_658 => ?_) (fun c_658 => ?_)
    · skip
      refine lv_iconst (v := 0) hx hb dL_act_665 (by decide) ?_
      have h : yH D AZ sZ.heap X [] _ _ := h.pl rfl
      refine q_calli h hA (vx_runSW (own := RL) (As := [.ref yd, .int ((qLow (v >>> ((7 : Int32) &&& 31)) 13) - (2 : Int32)), .int (v >>> ((5 : Int32) &&& 31)), .int (v >>> ((8 : Int32) &&& 31)), .int 0]) (rest := []) ⟨hx, hb, hml, hown, y_nil⟩ (q_shadow (l := l) (D := D) (ty := ty) (base := _) (sz := _) hl9 hq ((qLow (v >>> ((7 : Int32) &&& 31)) 13) - (2 : Int32)) (v >>> ((5 : Int32) &&& 31)) (v >>> ((8 : Int32) &&& 31)) 0 ) (y_cwSW 5 (kw_3_83 hG) (kw_1_0 hG) (kw_3_81 hG) (kw_3_82 hG) yd_L_shadow ⟨Nat.le_of_ble_eq_true rfl, Nat.le_of_ble_eq_true rfl⟩) (q_preS hG h hAb) rfl rfl hl.1 rfl (lv_room (Nat.le_of_ble_eq_true rfl)) dL_act_666 ⟨Nat.le_of_ble_eq_true rfl, Nat.le_of_ble_eq_true rfl⟩) (fun r_666 X_666 H locs hp_666 h => ?_)
      obtain ⟨e_666, hq_666⟩ := hp_666
      have h : yH D AZ sZ.heap [] (X_666 ++ []) _ _ := h.pl rfl
      rw [e_666]
      refine lv_i2l hx hb dL_act_669 rfl ?_
      exact hret _ _ _ _ _ _ _ _ ⟨rfl, hq_666⟩ h (Nat.le_of_ble_eq_true rfl) (Nat.le_of_ble_eq_true rfl) dL_act_670
    · exact absurd c_658 hs

set_option maxHeartbeats 4000000 in
set_option maxRecDepth 100000 in
theorem ac_20_0y {l : Launch} {D : va_G} {ty : Nat → ClassId} {base sz : Nat} (hl9 : l.stackTraces = false) {yd : Nat} {σ : QS} {X : va_W} (hq : qY ty yd σ X) {v : Int32} (ho : ¬ qLow (v >>> (26 &&& 31)) 14 = 0) (hk : qLow v 46 = 20) (hs : ((v >>> (10 &&& 31)) &&& 1) = 1) : Met l yL_act [.code yL_act cL_act 10 (some (.long))] rmA (yPc D ty base sz X [.ref yd, .int v]) (va_Ql (fun r X' => r = (aShadow σ (qLow (v >>> ((7 : Int32) &&& 31)) 3) (qLow (v >>> ((5 : Int32) &&& 31)) 360) ((60 : Int32) + (qLow (v >>> ((8 : Int32) &&& 31)) 240)) 1).toInt64 ∧ qY ty yd σ X') (yB D (va_A X sz) (fun X' : va_W => X')) (va_A X sz)) rmA.cells rmA.slots (va_A X sz) := by
  refine act_pre0 ho (fun pZ eZ sZ mZ aZ bZ tZ cZ AZ ls QZ H locs E h hl hret => ?_)
  · obtain ⟨hx, hb, hml, hown, hG, hA, hAb⟩ := E
    rw [hk]
    refine lv_tableIn (tgt := 644) (off := 438) hx hb dL_act_206 (by decide) (by decide) (by decide) (by decide) ?_
    refine lv_aload_n hx hb dL_act_644 rfl (lv_at hl 8 rfl) ?_
    refine lv_iload hx hb dL_act_645 (lv_at hl 5 rfl) ?_
    refine lv_iload hx hb dL_act_647 (lv_at hl 4 rfl) ?_
    refine lv_iload hx hb dL_act_649 (lv_at hl 3 rfl) ?_
    refine lv_iload_n hx hb dL_act_651 rfl (lv_at hl 9 rfl) ?_
    refine lv_bipush (v := 10) hx hb dL_act_652 (by decide) ?_
    refine lv_ishr hx hb dL_act_654 ?_
    refine lv_iconst (v := 1) hx hb dL_act_655 (by decide) ?_
    refine lv_iand hx hb dL_act_656 ?_
    refine lv_iconst (v := 1) hx hb dL_act_657 (by decide) ?_
    refine lv_icmp_ne (tgt := 665) hx hb dL_act_658 (by decide) (fun c_658 => ?_) (fun c_658 => ?_)
    · exact absurd hs c_658
    · skip
      refine lv_iconst (v := 1) hx hb dL_act_661 (by decide) ?_
      refine lv_goto (tgt := 666) hx hb dL_act_662 (by decide) ?_
      have h : yH D AZ sZ.heap X [] _ _ := h.pl rfl
      refine q_calli h hA (vx_runSW (own := RL) (As := [.ref yd, .int (qLow (v >>> ((7 : Int32) &&& 31)) 3), .int (qLow (v >>> ((5 : Int32) &&& 31)) 360), .int ((60 : Int32) + (qLow (v >>> ((8 : Int32) &&& 31)) 240)), .int 1]) (rest := []) ⟨hx, hb, hml, hown, y_nil⟩ (q_shadow (l := l) (D := D) (ty := ty) (base := _) (sz := _) hl9 hq (qLow (v >>> ((7 : Int32) &&& 31)) 3) (qLow (v >>> ((5 : Int32) &&& 31)) 360) ((60 : Int32) + (qLow (v >>> ((8 : Int32) &&& 31)) 240)) 1 ) (y_cwSW 5 (kw_3_83 hG) (kw_1_0 hG) (kw_3_81 hG) (kw_3_82 hG) yd_L_shadow ⟨Nat.le_of_ble_eq_true rfl, Nat.le_of_ble_eq_true rfl⟩) (q_preS hG h hAb) rfl rfl hl.1 rfl (lv_room (Nat.le_of_ble_eq_true rfl)) dL_act_666 ⟨Nat.le_of_ble_eq_true rfl, Nat.le_of_ble_eq_true rfl⟩) (fun r_666 X_666 H locs hp_666 h => ?_)
      obtain ⟨e_666, hq_666⟩ := hp_666
      have h : yH D AZ sZ.heap [] (X_666 ++ []) _ _ := h.pl rfl
      rw [e_666]
      refine lv_i2l hx hb dL_act_669 rfl ?_
      exact hret _ _ _ _ _ _ _ _ ⟨rfl, hq_666⟩ h (Nat.le_of_ble_eq_true rfl) (Nat.le_of_ble_eq_true rfl) dL_act_670

set_option maxHeartbeats 4000000 in
set_option maxRecDepth 100000 in
theorem ac_20_0n {l : Launch} {D : va_G} {ty : Nat → ClassId} {base sz : Nat} (hl9 : l.stackTraces = false) {yd : Nat} {σ : QS} {X : va_W} (hq : qY ty yd σ X) {v : Int32} (ho : ¬ qLow (v >>> (26 &&& 31)) 14 = 0) (hk : qLow v 46 = 20) (hs : ¬ ((v >>> (10 &&& 31)) &&& 1) = 1) : Met l yL_act [.code yL_act cL_act 10 (some (.long))] rmA (yPc D ty base sz X [.ref yd, .int v]) (va_Ql (fun r X' => r = (aShadow σ (qLow (v >>> ((7 : Int32) &&& 31)) 3) (qLow (v >>> ((5 : Int32) &&& 31)) 360) ((60 : Int32) + (qLow (v >>> ((8 : Int32) &&& 31)) 240)) 0).toInt64 ∧ qY ty yd σ X') (yB D (va_A X sz) (fun X' : va_W => X')) (va_A X sz)) rmA.cells rmA.slots (va_A X sz) := by
  refine act_pre0 ho (fun pZ eZ sZ mZ aZ bZ tZ cZ AZ ls QZ H locs E h hl hret => ?_)
  · obtain ⟨hx, hb, hml, hown, hG, hA, hAb⟩ := E
    rw [hk]
    refine lv_tableIn (tgt := 644) (off := 438) hx hb dL_act_206 (by decide) (by decide) (by decide) (by decide) ?_
    refine lv_aload_n hx hb dL_act_644 rfl (lv_at hl 8 rfl) ?_
    refine lv_iload hx hb dL_act_645 (lv_at hl 5 rfl) ?_
    refine lv_iload hx hb dL_act_647 (lv_at hl 4 rfl) ?_
    refine lv_iload hx hb dL_act_649 (lv_at hl 3 rfl) ?_
    refine lv_iload_n hx hb dL_act_651 rfl (lv_at hl 9 rfl) ?_
    refine lv_bipush (v := 10) hx hb dL_act_652 (by decide) ?_
    refine lv_ishr hx hb dL_act_654 ?_
    refine lv_iconst (v := 1) hx hb dL_act_655 (by decide) ?_
    refine lv_iand hx hb dL_act_656 ?_
    refine lv_iconst (v := 1) hx hb dL_act_657 (by decide) ?_
    refine lv_icmp_ne (tgt := 665) hx hb dL_act_658 (by decide) (fun c_658 => ?_) (fun c_658 => ?_)
    · skip
      refine lv_iconst (v := 0) hx hb dL_act_665 (by decide) ?_
      have h : yH D AZ sZ.heap X [] _ _ := h.pl rfl
      refine q_calli h hA (vx_runSW (own := RL) (As := [.ref yd, .int (qLow (v >>> ((7 : Int32) &&& 31)) 3), .int (qLow (v >>> ((5 : Int32) &&& 31)) 360), .int ((60 : Int32) + (qLow (v >>> ((8 : Int32) &&& 31)) 240)), .int 0]) (rest := []) ⟨hx, hb, hml, hown, y_nil⟩ (q_shadow (l := l) (D := D) (ty := ty) (base := _) (sz := _) hl9 hq (qLow (v >>> ((7 : Int32) &&& 31)) 3) (qLow (v >>> ((5 : Int32) &&& 31)) 360) ((60 : Int32) + (qLow (v >>> ((8 : Int32) &&& 31)) 240)) 0 ) (y_cwSW 5 (kw_3_83 hG) (kw_1_0 hG) (kw_3_81 hG) (kw_3_82 hG) yd_L_shadow ⟨Nat.le_of_ble_eq_true rfl, Nat.le_of_ble_eq_true rfl⟩) (q_preS hG h hAb) rfl rfl hl.1 rfl (lv_room (Nat.le_of_ble_eq_true rfl)) dL_act_666 ⟨Nat.le_of_ble_eq_true rfl, Nat.le_of_ble_eq_true rfl⟩) (fun r_666 X_666 H locs hp_666 h => ?_)
      obtain ⟨e_666, hq_666⟩ := hp_666
      have h : yH D AZ sZ.heap [] (X_666 ++ []) _ _ := h.pl rfl
      rw [e_666]
      refine lv_i2l hx hb dL_act_669 rfl ?_
      exact hret _ _ _ _ _ _ _ _ ⟨rfl, hq_666⟩ h (Nat.le_of_ble_eq_true rfl) (Nat.le_of_ble_eq_true rfl) dL_act_670
    · exact absurd c_658 hs

set_option maxHeartbeats 4000000 in
set_option maxRecDepth 100000 in
theorem ac_21_1y {l : Launch} {D : va_G} {ty : Nat → ClassId} {base sz : Nat} (hl9 : l.stackTraces = false) {yd : Nat} {σ : QS} {X : va_W} (hq : qY ty yd σ X) {v : Int32} (ho : qLow (v >>> (26 &&& 31)) 14 = 0) (hk : qLow v 46 = 21) (hs : ((v >>> (10 &&& 31)) &&& 1) = 1) : Met l yL_act [.code yL_act cL_act 10 (some (.long))] rmA (yPc D ty base sz X [.ref yd, .int v]) (va_Ql (fun r X' => r = (aShadow σ ((qLow (v >>> ((7 : Int32) &&& 31)) 13) - (2 : Int32)) (v >>> ((5 : Int32) &&& 31)) (v >>> ((8 : Int32) &&& 31)) 1).toInt64 ∧ qY ty yd σ X') (yB D (va_A X sz) (fun X' : va_W => X')) (va_A X sz)) rmA.cells rmA.slots (va_A X sz) := by
  refine act_pre1 ho (fun pZ eZ sZ mZ aZ bZ tZ cZ AZ ls QZ H locs E h hl hret => ?_)
  · obtain ⟨hx, hb, hml, hown, hG, hA, hAb⟩ := E
    rw [hk]
    refine lv_tableIn (tgt := 644) (off := 438) hx hb dL_act_206 (by decide) (by decide) (by decide) (by decide) ?_
    refine lv_aload_n hx hb dL_act_644 rfl (lv_at hl 8 rfl) ?_
    refine lv_iload hx hb dL_act_645 (lv_at hl 5 rfl) ?_
    refine lv_iload hx hb dL_act_647 (lv_at hl 4 rfl) ?_
    refine lv_iload hx hb dL_act_649 (lv_at hl 3 rfl) ?_
    refine lv_iload_n hx hb dL_act_651 rfl (lv_at hl 9 rfl) ?_
    refine lv_bipush (v := 10) hx hb dL_act_652 (by decide) ?_
    refine lv_ishr hx hb dL_act_654 ?_
    refine lv_iconst (v := 1) hx hb dL_act_655 (by decide) ?_
    refine lv_iand hx hb dL_act_656 ?_
    refine lv_iconst (v := 1) hx hb dL_act_657 (by decide) ?_
    refine lv_icmp_ne (tgt := 665) hx hb dL_act_658 (by decide) (fun c_658 => ?_) (fun c_658 => ?_)
    · exact absurd hs c_658
    · skip
      refine lv_iconst (v := 1) hx hb dL_act_661 (by decide) ?_
      refine lv_goto (tgt := 666) hx hb dL_act_662 (by decide) ?_
      have h : yH D AZ sZ.heap X [] _ _ := h.pl rfl
      refine q_calli h hA (vx_runSW (own := RL) (As := [.ref yd, .int ((qLow (v >>> ((7 : Int32) &&& 31)) 13) - (2 : Int32)), .int (v >>> ((5 : Int32) &&& 31)), .int (v >>> ((8 : Int32) &&& 31)), .int 1]) (rest := []) ⟨hx, hb, hml, hown, y_nil⟩ (q_shadow (l := l) (D := D) (ty := ty) (base := _) (sz := _) hl9 hq ((qLow (v >>> ((7 : Int32) &&& 31)) 13) - (2 : Int32)) (v >>> ((5 : Int32) &&& 31)) (v >>> ((8 : Int32) &&& 31)) 1 ) (y_cwSW 5 (kw_3_83 hG) (kw_1_0 hG) (kw_3_81 hG) (kw_3_82 hG) yd_L_shadow ⟨Nat.le_of_ble_eq_true rfl, Nat.le_of_ble_eq_true rfl⟩) (q_preS hG h hAb) rfl rfl hl.1 rfl (lv_room (Nat.le_of_ble_eq_true rfl)) dL_act_666 ⟨Nat.le_of_ble_eq_true rfl, Nat.le_of_ble_eq_true rfl⟩) (fun r_666 X_666 H locs hp_666 h => ?_)
      obtain ⟨e_666, hq_666⟩ := hp_666
      have h : yH D AZ sZ.heap [] (X_666 ++ []) _ _ := h.pl rfl
      rw [e_666]
      refine lv_i2l hx hb dL_act_669 rfl ?_
      exact hret _ _ _ _ _ _ _ _ ⟨rfl, hq_666⟩ h (Nat.le_of_ble_eq_true rfl) (Nat.le_of_ble_eq_true rfl) dL_act_670

set_option maxHeartbeats 4000000 in
set_option maxRecDepth 100000 in
theorem ac_21_1n {l : Launch} {D : va_G} {ty : Nat → ClassId} {base sz : Nat} (hl9 : l.stackTraces = false) {yd : Nat} {σ : QS} {X : va_W} (hq : qY ty yd σ X) {v : Int32} (ho : qLow (v >>> (26 &&& 31)) 14 = 0) (hk : qLow v 46 = 21) (hs : ¬ ((v >>> (10 &&& 31)) &&& 1) = 1) : Met l yL_act [.code yL_act cL_act 10 (some (.long))] rmA (yPc D ty base sz X [.ref yd, .int v]) (va_Ql (fun r X' => r = (aShadow σ ((qLow (v >>> ((7 : Int32) &&& 31)) 13) - (2 : Int32)) (v >>> ((5 : Int32) &&& 31)) (v >>> ((8 : Int32) &&& 31)) 0).toInt64 ∧ qY ty yd σ X') (yB D (va_A X sz) (fun X' : va_W => X')) (va_A X sz)) rmA.cells rmA.slots (va_A X sz) := by
  refine act_pre1 ho (fun pZ eZ sZ mZ aZ bZ tZ cZ AZ ls QZ H locs E h hl hret => ?_)
  · obtain ⟨hx, hb, hml, hown, hG, hA, hAb⟩ := E
    rw [hk]
    refine lv_tableIn (tgt := 644) (off := 438) hx hb dL_act_206 (by decide) (by decide) (by decide) (by decide) ?_
    refine lv_aload_n hx hb dL_act_644 rfl (lv_at hl 8 rfl) ?_
    refine lv_iload hx hb dL_act_645 (lv_at hl 5 rfl) ?_
    refine lv_iload hx hb dL_act_647 (lv_at hl 4 rfl) ?_
    refine lv_iload hx hb dL_act_649 (lv_at hl 3 rfl) ?_
    refine lv_iload_n hx hb dL_act_651 rfl (lv_at hl 9 rfl) ?_
    refine lv_bipush (v := 10) hx hb dL_act_652 (by decide) ?_
    refine lv_ishr hx hb dL_act_654 ?_
    refine lv_iconst (v := 1) hx hb dL_act_655 (by decide) ?_
    refine lv_iand hx hb dL_act_656 ?_
    refine lv_iconst (v := 1) hx hb dL_act_657 (by decide) ?_
    refine lv_icmp_ne (tgt := 665) hx hb dL_act_658 (by decide) (fun c_658 => ?_) (fun c_658 => ?_)
    · skip
      refine lv_iconst (v := 0) hx hb dL_act_665 (by decide) ?_
      have h : yH D AZ sZ.heap X [] _ _ := h.pl rfl
      refine q_calli h hA (vx_runSW (own := RL) (As := [.ref yd, .int ((qLow (v >>> ((7 : Int32) &&& 31)) 13) - (2 : Int32)), .int (v >>> ((5 : Int32) &&& 31)), .int (v >>> ((8 : Int32) &&& 31)), .int 0]) (rest := []) ⟨hx, hb, hml, hown, y_nil⟩ (q_shadow (l := l) (D := D) (ty := ty) (base := _) (sz := _) hl9 hq ((qLow (v >>> ((7 : Int32) &&& 31)) 13) - (2 : Int32)) (v >>> ((5 : Int32) &&& 31)) (v >>> ((8 : Int32) &&& 31)) 0 ) (y_cwSW 5 (kw_3_83 hG) (kw_1_0 hG) (kw_3_81 hG) (kw_3_82 hG) yd_L_shadow ⟨Nat.le_of_ble_eq_true rfl, Nat.le_of_ble_eq_true rfl⟩) (q_preS hG h hAb) rfl rfl hl.1 rfl (lv_room (Nat.le_of_ble_eq_true rfl)) dL_act_666 ⟨Nat.le_of_ble_eq_true rfl, Nat.le_of_ble_eq_true rfl⟩) (fun r_666 X_666 H locs hp_666 h => ?_)
      obtain ⟨e_666, hq_666⟩ := hp_666
      have h : yH D AZ sZ.heap [] (X_666 ++ []) _ _ := h.pl rfl
      rw [e_666]
      refine lv_i2l hx hb dL_act_669 rfl ?_
      exact hret _ _ _ _ _ _ _ _ ⟨rfl, hq_666⟩ h (Nat.le_of_ble_eq_true rfl) (Nat.le_of_ble_eq_true rfl) dL_act_670
    · exact absurd c_658 hs

set_option maxHeartbeats 4000000 in
set_option maxRecDepth 100000 in
theorem ac_21_0y {l : Launch} {D : va_G} {ty : Nat → ClassId} {base sz : Nat} (hl9 : l.stackTraces = false) {yd : Nat} {σ : QS} {X : va_W} (hq : qY ty yd σ X) {v : Int32} (ho : ¬ qLow (v >>> (26 &&& 31)) 14 = 0) (hk : qLow v 46 = 21) (hs : ((v >>> (10 &&& 31)) &&& 1) = 1) : Met l yL_act [.code yL_act cL_act 10 (some (.long))] rmA (yPc D ty base sz X [.ref yd, .int v]) (va_Ql (fun r X' => r = (aShadow σ (qLow (v >>> ((7 : Int32) &&& 31)) 3) (qLow (v >>> ((5 : Int32) &&& 31)) 360) ((60 : Int32) + (qLow (v >>> ((8 : Int32) &&& 31)) 240)) 1).toInt64 ∧ qY ty yd σ X') (yB D (va_A X sz) (fun X' : va_W => X')) (va_A X sz)) rmA.cells rmA.slots (va_A X sz) := by
  refine act_pre0 ho (fun pZ eZ sZ mZ aZ bZ tZ cZ AZ ls QZ H locs E h hl hret => ?_)
  · obtain ⟨hx, hb, hml, hown, hG, hA, hAb⟩ := E
    rw [hk]
    refine lv_tableIn (tgt := 644) (off := 438) hx hb dL_act_206 (by decide) (by decide) (by decide) (by decide) ?_
    refine lv_aload_n hx hb dL_act_644 rfl (lv_at hl 8 rfl) ?_
    refine lv_iload hx hb dL_act_645 (lv_at hl 5 rfl) ?_
    refine lv_iload hx hb dL_act_647 (lv_at hl 4 rfl) ?_
    refine lv_iload hx hb dL_act_649 (lv_at hl 3 rfl) ?_
    refine lv_iload_n hx hb dL_act_651 rfl (lv_at hl 9 rfl) ?_
    refine lv_bipush (v := 10) hx hb dL_act_652 (by decide) ?_
    refine lv_ishr hx hb dL_act_654 ?_
    refine lv_iconst (v := 1) hx hb dL_act_655 (by decide) ?_
    refine lv_iand hx hb dL_act_656 ?_
    refine lv_iconst (v := 1) hx hb dL_act_657 (by decide) ?_
    refine lv_icmp_ne (tgt := 665) hx hb dL_act_658 (by decide) (fun c_658 => ?_) (fun c_658 => ?_)
    · exact absurd hs c_658
    · skip
      refine lv_iconst (v := 1) hx hb dL_act_661 (by decide) ?_
      refine lv_goto (tgt := 666) hx hb dL_act_662 (by decide) ?_
      have h : yH D AZ sZ.heap X [] _ _ := h.pl rfl
      refine q_calli h hA (vx_runSW (own := RL) (As := [.ref yd, .int (qLow (v >>> ((7 : Int32) &&& 31)) 3), .int (qLow (v >>> ((5 : Int32) &&& 31)) 360), .int ((60 : Int32) + (qLow (v >>> ((8 : Int32) &&& 31)) 240)), .int 1]) (rest := []) ⟨hx, hb, hml, hown, y_nil⟩ (q_shadow (l := l) (D := D) (ty := ty) (base := _) (sz := _) hl9 hq (qLow (v >>> ((7 : Int32) &&& 31)) 3) (qLow (v >>> ((5 : Int32) &&& 31)) 360) ((60 : Int32) + (qLow (v >>> ((8 : Int32) &&& 31)) 240)) 1 ) (y_cwSW 5 (kw_3_83 hG) (kw_1_0 hG) (kw_3_81 hG) (kw_3_82 hG) yd_L_shadow ⟨Nat.le_of_ble_eq_true rfl, Nat.le_of_ble_eq_true rfl⟩) (q_preS hG h hAb) rfl rfl hl.1 rfl (lv_room (Nat.le_of_ble_eq_true rfl)) dL_act_666 ⟨Nat.le_of_ble_eq_true rfl, Nat.le_of_ble_eq_true rfl⟩) (fun r_666 X_666 H locs hp_666 h => ?_)
      obtain ⟨e_666, hq_666⟩ := hp_666
      have h : yH D AZ sZ.heap [] (X_666 ++ []) _ _ := h.pl rfl
      rw [e_666]
      refine lv_i2l hx hb dL_act_669 rfl ?_
      exact hret _ _ _ _ _ _ _ _ ⟨rfl, hq_666⟩ h (Nat.le_of_ble_eq_true rfl) (Nat.le_of_ble_eq_true rfl) dL_act_670

set_option maxHeartbeats 4000000 in
set_option maxRecDepth 100000 in
theorem ac_21_0n {l : Launch} {D : va_G} {ty : Nat → ClassId} {base sz : Nat} (hl9 : l.stackTraces = false) {yd : Nat} {σ : QS} {X : va_W} (hq : qY ty yd σ X) {v : Int32} (ho : ¬ qLow (v >>> (26 &&& 31)) 14 = 0) (hk : qLow v 46 = 21) (hs : ¬ ((v >>> (10 &&& 31)) &&& 1) = 1) : Met l yL_act [.code yL_act cL_act 10 (some (.long))] rmA (yPc D ty base sz X [.ref yd, .int v]) (va_Ql (fun r X' => r = (aShadow σ (qLow (v >>> ((7 : Int32) &&& 31)) 3) (qLow (v >>> ((5 : Int32) &&& 31)) 360) ((60 : Int32) + (qLow (v >>> ((8 : Int32) &&& 31)) 240)) 0).toInt64 ∧ qY ty yd σ X') (yB D (va_A X sz) (fun X' : va_W => X')) (va_A X sz)) rmA.cells rmA.slots (va_A X sz) := by
  refine act_pre0 ho (fun pZ eZ sZ mZ aZ bZ tZ cZ AZ ls QZ H locs E h hl hret => ?_)
  · obtain ⟨hx, hb, hml, hown, hG, hA, hAb⟩ := E
    rw [hk]
    refine lv_tableIn (tgt := 644) (off := 438) hx hb dL_act_206 (by decide) (by decide) (by decide) (by decide) ?_
    refine lv_aload_n hx hb dL_act_644 rfl (lv_at hl 8 rfl) ?_
    refine lv_iload hx hb dL_act_645 (lv_at hl 5 rfl) ?_
    refine lv_iload hx hb dL_act_647 (lv_at hl 4 rfl) ?_
    refine lv_iload hx hb dL_act_649 (lv_at hl 3 rfl) ?_
    refine lv_iload_n hx hb dL_act_651 rfl (lv_at hl 9 rfl) ?_
    refine lv_bipush (v := 10) hx hb dL_act_652 (by decide) ?_
    refine lv_ishr hx hb dL_act_654 ?_
    refine lv_iconst (v := 1) hx hb dL_act_655 (by decide) ?_
    refine lv_iand hx hb dL_act_656 ?_
    refine lv_iconst (v := 1) hx hb dL_act_657 (by decide) ?_
    refine lv_icmp_ne (tgt := 665) hx hb dL_act_658 (by decide) (fun c_658 => ?_) (fun c_658 => ?_)
    · skip
      refine lv_iconst (v := 0) hx hb dL_act_665 (by decide) ?_
      have h : yH D AZ sZ.heap X [] _ _ := h.pl rfl
      refine q_calli h hA (vx_runSW (own := RL) (As := [.ref yd, .int (qLow (v >>> ((7 : Int32) &&& 31)) 3), .int (qLow (v >>> ((5 : Int32) &&& 31)) 360), .int ((60 : Int32) + (qLow (v >>> ((8 : Int32) &&& 31)) 240)), .int 0]) (rest := []) ⟨hx, hb, hml, hown, y_nil⟩ (q_shadow (l := l) (D := D) (ty := ty) (base := _) (sz := _) hl9 hq (qLow (v >>> ((7 : Int32) &&& 31)) 3) (qLow (v >>> ((5 : Int32) &&& 31)) 360) ((60 : Int32) + (qLow (v >>> ((8 : Int32) &&& 31)) 240)) 0 ) (y_cwSW 5 (kw_3_83 hG) (kw_1_0 hG) (kw_3_81 hG) (kw_3_82 hG) yd_L_shadow ⟨Nat.le_of_ble_eq_true rfl, Nat.le_of_ble_eq_true rfl⟩) (q_preS hG h hAb) rfl rfl hl.1 rfl (lv_room (Nat.le_of_ble_eq_true rfl)) dL_act_666 ⟨Nat.le_of_ble_eq_true rfl, Nat.le_of_ble_eq_true rfl⟩) (fun r_666 X_666 H locs hp_666 h => ?_)
      obtain ⟨e_666, hq_666⟩ := hp_666
      have h : yH D AZ sZ.heap [] (X_666 ++ []) _ _ := h.pl rfl
      rw [e_666]
      refine lv_i2l hx hb dL_act_669 rfl ?_
      exact hret _ _ _ _ _ _ _ _ ⟨rfl, hq_666⟩ h (Nat.le_of_ble_eq_true rfl) (Nat.le_of_ble_eq_true rfl) dL_act_670
    · exact absurd c_658 hs

set_option maxHeartbeats 4000000 in
set_option maxRecDepth 100000 in
theorem ac_22_1y {l : Launch} {D : va_G} {ty : Nat → ClassId} {base sz : Nat} (hl9 : l.stackTraces = false) {yd : Nat} {σ : QS} {X : va_W} (hq : qY ty yd σ X) {v : Int32} (ho : qLow (v >>> (26 &&& 31)) 14 = 0) (hk : qLow v 46 = 22) (hs : ((v >>> (10 &&& 31)) &&& 1) = 1) : Met l yL_act [.code yL_act cL_act 10 (some (.long))] rmA (yPc D ty base sz X [.ref yd, .int v]) (va_Ql (fun r X' => r = (aShadow σ ((qLow (v >>> ((7 : Int32) &&& 31)) 13) - (2 : Int32)) (v >>> ((5 : Int32) &&& 31)) (v >>> ((8 : Int32) &&& 31)) 1).toInt64 ∧ qY ty yd σ X') (yB D (va_A X sz) (fun X' : va_W => X')) (va_A X sz)) rmA.cells rmA.slots (va_A X sz) := by
  refine act_pre1 ho (fun pZ eZ sZ mZ aZ bZ tZ cZ AZ ls QZ H locs E h hl hret => ?_)
  · obtain ⟨hx, hb, hml, hown, hG, hA, hAb⟩ := E
    rw [hk]
    refine lv_tableIn (tgt := 644) (off := 438) hx hb dL_act_206 (by decide) (by decide) (by decide) (by decide) ?_
    refine lv_aload_n hx hb dL_act_644 rfl (lv_at hl 8 rfl) ?_
    refine lv_iload hx hb dL_act_645 (lv_at hl 5 rfl) ?_
    refine lv_iload hx hb dL_act_647 (lv_at hl 4 rfl) ?_
    refine lv_iload hx hb dL_act_649 (lv_at hl 3 rfl) ?_
    refine lv_iload_n hx hb dL_act_651 rfl (lv_at hl 9 rfl) ?_
    refine lv_bipush (v := 10) hx hb dL_act_652 (by decide) ?_
    refine lv_ishr hx hb dL_act_654 ?_
    refine lv_iconst (v := 1) hx hb dL_act_655 (by decide) ?_
    refine lv_iand hx hb dL_act_656 ?_
    refine lv_iconst (v := 1) hx hb dL_act_657 (by decide) ?_
    refine lv_icmp_ne (tgt := 665) hx hb dL_act_658 (by decide) (fun c_658 => ?_) (fun c_658 => ?_)
    · exact absurd hs c_658
    · skip
      refine lv_iconst (v := 1) hx hb dL_act_661 (by decide) ?_
      refine lv_goto (tgt := 666) hx hb dL_act_662 (by decide) ?_
      have h : yH D AZ sZ.heap X [] _ _ := h.pl rfl
      refine q_calli h hA (vx_runSW (own := RL) (As := [.ref yd, .int ((qLow (v >>> ((7 : Int32) &&& 31)) 13) - (2 : Int32)), .int (v >>> ((5 : Int32) &&& 31)), .int (v >>> ((8 : Int32) &&& 31)), .int 1]) (rest := []) ⟨hx, hb, hml, hown, y_nil⟩ (q_shadow (l := l) (D := D) (ty := ty) (base := _) (sz := _) hl9 hq ((qLow (v >>> ((7 : Int32) &&& 31)) 13) - (2 : Int32)) (v >>> ((5 : Int32) &&& 31)) (v >>> ((8 : Int32) &&& 31)) 1 ) (y_cwSW 5 (kw_3_83 hG) (kw_1_0 hG) (kw_3_81 hG) (kw_3_82 hG) yd_L_shadow ⟨Nat.le_of_ble_eq_true rfl, Nat.le_of_ble_eq_true rfl⟩) (q_preS hG h hAb) rfl rfl hl.1 rfl (lv_room (Nat.le_of_ble_eq_true rfl)) dL_act_666 ⟨Nat.le_of_ble_eq_true rfl, Nat.le_of_ble_eq_true rfl⟩) (fun r_666 X_666 H locs hp_666 h => ?_)
      obtain ⟨e_666, hq_666⟩ := hp_666
      have h : yH D AZ sZ.heap [] (X_666 ++ []) _ _ := h.pl rfl
      rw [e_666]
      refine lv_i2l hx hb dL_act_669 rfl ?_
      exact hret _ _ _ _ _ _ _ _ ⟨rfl, hq_666⟩ h (Nat.le_of_ble_eq_true rfl) (Nat.le_of_ble_eq_true rfl) dL_act_670

set_option maxHeartbeats 4000000 in
set_option maxRecDepth 100000 in
theorem ac_22_1n {l : Launch} {D : va_G} {ty : Nat → ClassId} {base sz : Nat} (hl9 : l.stackTraces = false) {yd : Nat} {σ : QS} {X : va_W} (hq : qY ty yd σ X) {v : Int32} (ho : qLow (v >>> (26 &&& 31)) 14 = 0) (hk : qLow v 46 = 22) (hs : ¬ ((v >>> (10 &&& 31)) &&& 1) = 1) : Met l yL_act [.code yL_act cL_act 10 (some (.long))] rmA (yPc D ty base sz X [.ref yd, .int v]) (va_Ql (fun r X' => r = (aShadow σ ((qLow (v >>> ((7 : Int32) &&& 31)) 13) - (2 : Int32)) (v >>> ((5 : Int32) &&& 31)) (v >>> ((8 : Int32) &&& 31)) 0).toInt64 ∧ qY ty yd σ X') (yB D (va_A X sz) (fun X' : va_W => X')) (va_A X sz)) rmA.cells rmA.slots (va_A X sz) := by
  refine act_pre1 ho (fun pZ eZ sZ mZ aZ bZ tZ cZ AZ ls QZ H locs E h hl hret => ?_)
  · obtain ⟨hx, hb, hml, hown, hG, hA, hAb⟩ := E
    rw [hk]
    refine lv_tableIn (tgt := 644) (off := 438) hx hb dL_act_206 (by decide) (by decide) (by decide) (by decide) ?_
    refine lv_aload_n hx hb dL_act_644 rfl (lv_at hl 8 rfl) ?_
    refine lv_iload hx hb dL_act_645 (lv_at hl 5 rfl) ?_
    refine lv_iload hx hb dL_act_647 (lv_at hl 4 rfl) ?_
    refine lv_iload hx hb dL_act_649 (lv_at hl 3 rfl) ?_
    refine lv_iload_n hx hb dL_act_651 rfl (lv_at hl 9 rfl) ?_
    refine lv_bipush (v := 10) hx hb dL_act_652 (by decide) ?_
    refine lv_ishr hx hb dL_act_654 ?_
    refine lv_iconst (v := 1) hx hb dL_act_655 (by decide) ?_
    refine lv_iand hx hb dL_act_656 ?_
    refine lv_iconst (v := 1) hx hb dL_act_657 (by decide) ?_
    refine lv_icmp_ne (tgt := 665) hx hb dL_act_658 (by decide) (fun c_658 => ?_) (fun c_658 => ?_)
    · skip
      refine lv_iconst (v := 0) hx hb dL_act_665 (by decide) ?_
      have h : yH D AZ sZ.heap X [] _ _ := h.pl rfl
      refine q_calli h hA (vx_runSW (own := RL) (As := [.ref yd, .int ((qLow (v >>> ((7 : Int32) &&& 31)) 13) - (2 : Int32)), .int (v >>> ((5 : Int32) &&& 31)), .int (v >>> ((8 : Int32) &&& 31)), .int 0]) (rest := []) ⟨hx, hb, hml, hown, y_nil⟩ (q_shadow (l := l) (D := D) (ty := ty) (base := _) (sz := _) hl9 hq ((qLow (v >>> ((7 : Int32) &&& 31)) 13) - (2 : Int32)) (v >>> ((5 : Int32) &&& 31)) (v >>> ((8 : Int32) &&& 31)) 0 ) (y_cwSW 5 (kw_3_83 hG) (kw_1_0 hG) (kw_3_81 hG) (kw_3_82 hG) yd_L_shadow ⟨Nat.le_of_ble_eq_true rfl, Nat.le_of_ble_eq_true rfl⟩) (q_preS hG h hAb) rfl rfl hl.1 rfl (lv_room (Nat.le_of_ble_eq_true rfl)) dL_act_666 ⟨Nat.le_of_ble_eq_true rfl, Nat.le_of_ble_eq_true rfl⟩) (fun r_666 X_666 H locs hp_666 h => ?_)
      obtain ⟨e_666, hq_666⟩ := hp_666
      have h : yH D AZ sZ.heap [] (X_666 ++ []) _ _ := h.pl rfl
      rw [e_666]
      refine lv_i2l hx hb dL_act_669 rfl ?_
      exact hret _ _ _ _ _ _ _ _ ⟨rfl, hq_666⟩ h (Nat.le_of_ble_eq_true rfl) (Nat.le_of_ble_eq_true rfl) dL_act_670
    · exact absurd c_658 hs

set_option maxHeartbeats 4000000 in
set_option maxRecDepth 100000 in
theorem ac_22_0y {l : Launch} {D : va_G} {ty : Nat → ClassId} {base sz : Nat} (hl9 : l.stackTraces = false) {yd : Nat} {σ : QS} {X : va_W} (hq : qY ty yd σ X) {v : Int32} (ho : ¬ qLow (v >>> (26 &&& 31)) 14 = 0) (hk : qLow v 46 = 22) (hs : ((v >>> (10 &&& 31)) &&& 1) = 1) : Met l yL_act [.code yL_act cL_act 10 (some (.long))] rmA (yPc D ty base sz X [.ref yd, .int v]) (va_Ql (fun r X' => r = (aShadow σ (qLow (v >>> ((7 : Int32) &&& 31)) 3) (qLow (v >>> ((5 : Int32) &&& 31)) 360) ((60 : Int32) + (qLow (v >>> ((8 : Int32) &&& 31)) 240)) 1).toInt64 ∧ qY ty yd σ X') (yB D (va_A X sz) (fun X' : va_W => X')) (va_A X sz)) rmA.cells rmA.slots (va_A X sz) := by
  refine act_pre0 ho (fun pZ eZ sZ mZ aZ bZ tZ cZ AZ ls QZ H locs E h hl hret => ?_)
  · obtain ⟨hx, hb, hml, hown, hG, hA, hAb⟩ := E
    rw [hk]
    refine lv_tableIn (tgt := 644) (off := 438) hx hb dL_act_206 (by decide) (by decide) (by decide) (by decide) ?_
    refine lv_aload_n hx hb dL_act_644 rfl (lv_at hl 8 rfl) ?_
    refine lv_iload hx hb dL_act_645 (lv_at hl 5 rfl) ?_
    refine lv_iload hx hb dL_act_647 (lv_at hl 4 rfl) ?_
    refine lv_iload hx hb dL_act_649 (lv_at hl 3 rfl) ?_
    refine lv_iload_n hx hb dL_act_651 rfl (lv_at hl 9 rfl) ?_
    refine lv_bipush (v := 10) hx hb dL_act_652 (by decide) ?_
    refine lv_ishr hx hb dL_act_654 ?_
    refine lv_iconst (v := 1) hx hb dL_act_655 (by decide) ?_
    refine lv_iand hx hb dL_act_656 ?_
    refine lv_iconst (v := 1) hx hb dL_act_657 (by decide) ?_
    refine lv_icmp_ne (tgt := 665) hx hb dL_act_658 (by decide) (fun c_658 => ?_) (fun c_658 => ?_)
    · exact absurd hs c_658
    · skip
      refine lv_iconst (v := 1) hx hb dL_act_661 (by decide) ?_
      refine lv_goto (tgt := 666) hx hb dL_act_662 (by decide) ?_
      have h : yH D AZ sZ.heap X [] _ _ := h.pl rfl
      refine q_calli h hA (vx_runSW (own := RL) (As := [.ref yd, .int (qLow (v >>> ((7 : Int32) &&& 31)) 3), .int (qLow (v >>> ((5 : Int32) &&& 31)) 360), .int ((60 : Int32) + (qLow (v >>> ((8 : Int32) &&& 31)) 240)), .int 1]) (rest := []) ⟨hx, hb, hml, hown, y_nil⟩ (q_shadow (l := l) (D := D) (ty := ty) (base := _) (sz := _) hl9 hq (qLow (v >>> ((7 : Int32) &&& 31)) 3) (qLow (v >>> ((5 : Int32) &&& 31)) 360) ((60 : Int32) + (qLow (v >>> ((8 : Int32) &&& 31)) 240)) 1 ) (y_cwSW 5 (kw_3_83 hG) (kw_1_0 hG) (kw_3_81 hG) (kw_3_82 hG) yd_L_shadow ⟨Nat.le_of_ble_eq_true rfl, Nat.le_of_ble_eq_true rfl⟩) (q_preS hG h hAb) rfl rfl hl.1 rfl (lv_room (Nat.le_of_ble_eq_true rfl)) dL_act_666 ⟨Nat.le_of_ble_eq_true rfl, Nat.le_of_ble_eq_true rfl⟩) (fun r_666 X_666 H locs hp_666 h => ?_)
      obtain ⟨e_666, hq_666⟩ := hp_666
      have h : yH D AZ sZ.heap [] (X_666 ++ []) _ _ := h.pl rfl
      rw [e_666]
      refine lv_i2l hx hb dL_act_669 rfl ?_
      exact hret _ _ _ _ _ _ _ _ ⟨rfl, hq_666⟩ h (Nat.le_of_ble_eq_true rfl) (Nat.le_of_ble_eq_true rfl) dL_act_670

set_option maxHeartbeats 4000000 in
set_option maxRecDepth 100000 in
theorem ac_22_0n {l : Launch} {D : va_G} {ty : Nat → ClassId} {base sz : Nat} (hl9 : l.stackTraces = false) {yd : Nat} {σ : QS} {X : va_W} (hq : qY ty yd σ X) {v : Int32} (ho : ¬ qLow (v >>> (26 &&& 31)) 14 = 0) (hk : qLow v 46 = 22) (hs : ¬ ((v >>> (10 &&& 31)) &&& 1) = 1) : Met l yL_act [.code yL_act cL_act 10 (some (.long))] rmA (yPc D ty base sz X [.ref yd, .int v]) (va_Ql (fun r X' => r = (aShadow σ (qLow (v >>> ((7 : Int32) &&& 31)) 3) (qLow (v >>> ((5 : Int32) &&& 31)) 360) ((60 : Int32) + (qLow (v >>> ((8 : Int32) &&& 31)) 240)) 0).toInt64 ∧ qY ty yd σ X') (yB D (va_A X sz) (fun X' : va_W => X')) (va_A X sz)) rmA.cells rmA.slots (va_A X sz) := by
  refine act_pre0 ho (fun pZ eZ sZ mZ aZ bZ tZ cZ AZ ls QZ H locs E h hl hret => ?_)
  · obtain ⟨hx, hb, hml, hown, hG, hA, hAb⟩ := E
    rw [hk]
    refine lv_tableIn (tgt := 644) (off := 438) hx hb dL_act_206 (by decide) (by decide) (by decide) (by decide) ?_
    refine lv_aload_n hx hb dL_act_644 rfl (lv_at hl 8 rfl) ?_
    refine lv_iload hx hb dL_act_645 (lv_at hl 5 rfl) ?_
    refine lv_iload hx hb dL_act_647 (lv_at hl 4 rfl) ?_
    refine lv_iload hx hb dL_act_649 (lv_at hl 3 rfl) ?_
    refine lv_iload_n hx hb dL_act_651 rfl (lv_at hl 9 rfl) ?_
    refine lv_bipush (v := 10) hx hb dL_act_652 (by decide) ?_
    refine lv_ishr hx hb dL_act_654 ?_
    refine lv_iconst (v := 1) hx hb dL_act_655 (by decide) ?_
    refine lv_iand hx hb dL_act_656 ?_
    refine lv_iconst (v := 1) hx hb dL_act_657 (by decide) ?_
    refine lv_icmp_ne (tgt := 665) hx hb dL_act_658 (by decide) (fun c_658 => ?_) (fun c_658 => ?_)
    · skip
      refine lv_iconst (v := 0) hx hb dL_act_665 (by decide) ?_
      have h : yH D AZ sZ.heap X [] _ _ := h.pl rfl
      refine q_calli h hA (vx_runSW (own := RL) (As := [.ref yd, .int (qLow (v >>> ((7 : Int32) &&& 31)) 3), .int (qLow (v >>> ((5 : Int32) &&& 31)) 360), .int ((60 : Int32) + (qLow (v >>> ((8 : Int32) &&& 31)) 240)), .int 0]) (rest := []) ⟨hx, hb, hml, hown, y_nil⟩ (q_shadow (l := l) (D := D) (ty := ty) (base := _) (sz := _) hl9 hq (qLow (v >>> ((7 : Int32) &&& 31)) 3) (qLow (v >>> ((5 : Int32) &&& 31)) 360) ((60 : Int32) + (qLow (v >>> ((8 : Int32) &&& 31)) 240)) 0 ) (y_cwSW 5 (kw_3_83 hG) (kw_1_0 hG) (kw_3_81 hG) (kw_3_82 hG) yd_L_shadow ⟨Nat.le_of_ble_eq_true rfl, Nat.le_of_ble_eq_true rfl⟩) (q_preS hG h hAb) rfl rfl hl.1 rfl (lv_room (Nat.le_of_ble_eq_true rfl)) dL_act_666 ⟨Nat.le_of_ble_eq_true rfl, Nat.le_of_ble_eq_true rfl⟩) (fun r_666 X_666 H locs hp_666 h => ?_)
      obtain ⟨e_666, hq_666⟩ := hp_666
      have h : yH D AZ sZ.heap [] (X_666 ++ []) _ _ := h.pl rfl
      rw [e_666]
      refine lv_i2l hx hb dL_act_669 rfl ?_
      exact hret _ _ _ _ _ _ _ _ ⟨rfl, hq_666⟩ h (Nat.le_of_ble_eq_true rfl) (Nat.le_of_ble_eq_true rfl) dL_act_670
    · exact absurd c_658 hs

set_option maxHeartbeats 4000000 in
set_option maxRecDepth 100000 in
theorem ac_23_1y {l : Launch} {D : va_G} {ty : Nat → ClassId} {base sz : Nat} (hl9 : l.stackTraces = false) {yd : Nat} {σ : QS} {X : va_W} (hq : qY ty yd σ X) {v : Int32} (ho : qLow (v >>> (26 &&& 31)) 14 = 0) (hk : qLow v 46 = 23) (hs : ((v >>> (10 &&& 31)) &&& 1) = 1) : Met l yL_act [.code yL_act cL_act 10 (some (.long))] rmA (yPc D ty base sz X [.ref yd, .int v]) (va_Ql (fun r X' => r = (aShadow σ ((qLow (v >>> ((7 : Int32) &&& 31)) 13) - (2 : Int32)) (v >>> ((5 : Int32) &&& 31)) (v >>> ((8 : Int32) &&& 31)) 1).toInt64 ∧ qY ty yd σ X') (yB D (va_A X sz) (fun X' : va_W => X')) (va_A X sz)) rmA.cells rmA.slots (va_A X sz) := by
  refine act_pre1 ho (fun pZ eZ sZ mZ aZ bZ tZ cZ AZ ls QZ H locs E h hl hret => ?_)
  · obtain ⟨hx, hb, hml, hown, hG, hA, hAb⟩ := E
    rw [hk]
    refine lv_tableIn (tgt := 644) (off := 438) hx hb dL_act_206 (by decide) (by decide) (by decide) (by decide) ?_
    refine lv_aload_n hx hb dL_act_644 rfl (lv_at hl 8 rfl) ?_
    refine lv_iload hx hb dL_act_645 (lv_at hl 5 rfl) ?_
    refine lv_iload hx hb dL_act_647 (lv_at hl 4 rfl) ?_
    refine lv_iload hx hb dL_act_649 (lv_at hl 3 rfl) ?_
    refine lv_iload_n hx hb dL_act_651 rfl (lv_at hl 9 rfl) ?_
    refine lv_bipush (v := 10) hx hb dL_act_652 (by decide) ?_
    refine lv_ishr hx hb dL_act_654 ?_
    refine lv_iconst (v := 1) hx hb dL_act_655 (by decide) ?_
    refine lv_iand hx hb dL_act_656 ?_
    refine lv_iconst (v := 1) hx hb dL_act_657 (by decide) ?_
    refine lv_icmp_ne (tgt := 665) hx hb dL_act_658 (by decide) (fun c_658 => ?_) (fun c_658 => ?_)
    · exact absurd hs c_658
    · skip
      refine lv_iconst (v := 1) hx hb dL_act_661 (by decide) ?_
      refine lv_goto (tgt := 666) hx hb dL_act_662 (by decide) ?_
      have h : yH D AZ sZ.heap X [] _ _ := h.pl rfl
      refine q_calli h hA (vx_runSW (own := RL) (As := [.ref yd, .int ((qLow (v >>> ((7 : Int32) &&& 31)) 13) - (2 : Int32)), .int (v >>> ((5 : Int32) &&& 31)), .int (v >>> ((8 : Int32) &&& 31)), .int 1]) (rest := []) ⟨hx, hb, hml, hown, y_nil⟩ (q_shadow (l := l) (D := D) (ty := ty) (base := _) (sz := _) hl9 hq ((qLow (v >>> ((7 : Int32) &&& 31)) 13) - (2 : Int32)) (v >>> ((5 : Int32) &&& 31)) (v >>> ((8 : Int32) &&& 31)) 1 ) (y_cwSW 5 (kw_3_83 hG) (kw_1_0 hG) (kw_3_81 hG) (kw_3_82 hG) yd_L_shadow ⟨Nat.le_of_ble_eq_true rfl, Nat.le_of_ble_eq_true rfl⟩) (q_preS hG h hAb) rfl rfl hl.1 rfl (lv_room (Nat.le_of_ble_eq_true rfl)) dL_act_666 ⟨Nat.le_of_ble_eq_true rfl, Nat.le_of_ble_eq_true rfl⟩) (fun r_666 X_666 H locs hp_666 h => ?_)
      obtain ⟨e_666, hq_666⟩ := hp_666
      have h : yH D AZ sZ.heap [] (X_666 ++ []) _ _ := h.pl rfl
      rw [e_666]
      refine lv_i2l hx hb dL_act_669 rfl ?_
      exact hret _ _ _ _ _ _ _ _ ⟨rfl, hq_666⟩ h (Nat.le_of_ble_eq_true rfl) (Nat.le_of_ble_eq_true rfl) dL_act_670

set_option maxHeartbeats 4000000 in
set_option maxRecDepth 100000 in
theorem ac_23_1n {l : Launch} {D : va_G} {ty : Nat → ClassId} {base sz : Nat} (hl9 : l.stackTraces = false) {yd : Nat} {σ : QS} {X : va_W} (hq : qY ty yd σ X) {v : Int32} (ho : qLow (v >>> (26 &&& 31)) 14 = 0) (hk : qLow v 46 = 23) (hs : ¬ ((v >>> (10 &&& 31)) &&& 1) = 1) : Met l yL_act [.code yL_act cL_act 10 (some (.long))] rmA (yPc D ty base sz X [.ref yd, .int v]) (va_Ql (fun r X' => r = (aShadow σ ((qLow (v >>> ((7 : Int32) &&& 31)) 13) - (2 : Int32)) (v >>> ((5 : Int32) &&& 31)) (v >>> ((8 : Int32) &&& 31)) 0).toInt64 ∧ qY ty yd σ X') (yB D (va_A X sz) (fun X' : va_W => X')) (va_A X sz)) rmA.cells rmA.slots (va_A X sz) := by
  refine act_pre1 ho (fun pZ eZ sZ mZ aZ bZ tZ cZ AZ ls QZ H locs E h hl hret => ?_)
  · obtain ⟨hx, hb, hml, hown, hG, hA, hAb⟩ := E
    rw [hk]
    refine lv_tableIn (tgt := 644) (off := 438) hx hb dL_act_206 (by decide) (by decide) (by decide) (by decide) ?_
    refine lv_aload_n hx hb dL_act_644 rfl (lv_at hl 8 rfl) ?_
    refine lv_iload hx hb dL_act_645 (lv_at hl 5 rfl) ?_
    refine lv_iload hx hb dL_act_647 (lv_at hl 4 rfl) ?_
    refine lv_iload hx hb dL_act_649 (lv_at hl 3 rfl) ?_
    refine lv_iload_n hx hb dL_act_651 rfl (lv_at hl 9 rfl) ?_
    refine lv_bipush (v := 10) hx hb dL_act_652 (by decide) ?_
    refine lv_ishr hx hb dL_act_654 ?_
    refine lv_iconst (v := 1) hx hb dL_act_655 (by decide) ?_
    refine lv_iand hx hb dL_act_656 ?_
    refine lv_iconst (v := 1) hx hb dL_act_657 (by decide) ?_
    refine lv_icmp_ne (tgt := 665) hx hb dL_act_658 (by decide) (fun c_658 => ?_) (fun c_658 => ?_)
    · skip
      refine lv_iconst (v := 0) hx hb dL_act_665 (by decide) ?_
      have h : yH D AZ sZ.heap X [] _ _ := h.pl rfl
      refine q_calli h hA (vx_runSW (own := RL) (As := [.ref yd, .int ((qLow (v >>> ((7 : Int32) &&& 31)) 13) - (2 : Int32)), .int (v >>> ((5 : Int32) &&& 31)), .int (v >>> ((8 : Int32) &&& 31)), .int 0]) (rest := []) ⟨hx, hb, hml, hown, y_nil⟩ (q_shadow (l := l) (D := D) (ty := ty) (base := _) (sz := _) hl9 hq ((qLow (v >>> ((7 : Int32) &&& 31)) 13) - (2 : Int32)) (v >>> ((5 : Int32) &&& 31)) (v >>> ((8 : Int32) &&& 31)) 0 ) (y_cwSW 5 (kw_3_83 hG) (kw_1_0 hG) (kw_3_81 hG) (kw_3_82 hG) yd_L_shadow ⟨Nat.le_of_ble_eq_true rfl, Nat.le_of_ble_eq_true rfl⟩) (q_preS hG h hAb) rfl rfl hl.1 rfl (lv_room (Nat.le_of_ble_eq_true rfl)) dL_act_666 ⟨Nat.le_of_ble_eq_true rfl, Nat.le_of_ble_eq_true rfl⟩) (fun r_666 X_666 H locs hp_666 h => ?_)
      obtain ⟨e_666, hq_666⟩ := hp_666
      have h : yH D AZ sZ.heap [] (X_666 ++ []) _ _ := h.pl rfl
      rw [e_666]
      refine lv_i2l hx hb dL_act_669 rfl ?_
      exact hret _ _ _ _ _ _ _ _ ⟨rfl, hq_666⟩ h (Nat.le_of_ble_eq_true rfl) (Nat.le_of_ble_eq_true rfl) dL_act_670
    · exact absurd c_658 hs

set_option maxHeartbeats 4000000 in
set_option maxRecDepth 100000 in
theorem ac_23_0y {l : Launch} {D : va_G} {ty : Nat → ClassId} {base sz : Nat} (hl9 : l.stackTraces = false) {yd : Nat} {σ : QS} {X : va_W} (hq : qY ty yd σ X) {v : Int32} (ho : ¬ qLow (v >>> (26 &&& 31)) 14 = 0) (hk : qLow v 46 = 23) (hs : ((v >>> (10 &&& 31)) &&& 1) = 1) : Met l yL_act [.code yL_act cL_act 10 (some (.long))] rmA (yPc D ty base sz X [.ref yd, .int v]) (va_Ql (fun r X' => r = (aShadow σ (qLow (v >>> ((7 : Int32) &&& 31)) 3) (qLow (v >>> ((5 : Int32) &&& 31)) 360) ((60 : Int32) + (qLow (v >>> ((8 : Int32) &&& 31)) 240)) 1).toInt64 ∧ qY ty yd σ X') (yB D (va_A X sz) (fun X' : va_W => X')) (va_A X sz)) rmA.cells rmA.slots (va_A X sz) := by
  refine act_pre0 ho (fun pZ eZ sZ mZ aZ bZ tZ cZ AZ ls QZ H locs E h hl hret => ?_)
  · obtain ⟨hx, hb, hml, hown, hG, hA, hAb⟩ := E
    rw [hk]
    refine lv_tableIn (tgt := 644) (off := 438) hx hb dL_act_206 (by decide) (by decide) (by decide) (by decide) ?_
    refine lv_aload_n hx hb dL_act_644 rfl (lv_at hl 8 rfl) ?_
    refine lv_iload hx hb dL_act_645 (lv_at hl 5 rfl) ?_
    refine lv_iload hx hb dL_act_647 (lv_at hl 4 rfl) ?_
    refine lv_iload hx hb dL_act_649 (lv_at hl 3 rfl) ?_
    refine lv_iload_n hx hb dL_act_651 rfl (lv_at hl 9 rfl) ?_
    refine lv_bipush (v := 10) hx hb dL_act_652 (by decide) ?_
    refine lv_ishr hx hb dL_act_654 ?_
    refine lv_iconst (v := 1) hx hb dL_act_655 (by decide) ?_
    refine lv_iand hx hb dL_act_656 ?_
    refine lv_iconst (v := 1) hx hb dL_act_657 (by decide) ?_
    refine lv_icmp_ne (tgt := 665) hx hb dL_act_658 (by decide) (fun c_658 => ?_) (fun c_658 => ?_)
    · exact absurd hs c_658
    · skip
      refine lv_iconst (v := 1) hx hb dL_act_661 (by decide) ?_
      refine lv_goto (tgt := 666) hx hb dL_act_662 (by decide) ?_
      have h : yH D AZ sZ.heap X [] _ _ := h.pl rfl
      refine q_calli h hA (vx_runSW (own := RL) (As := [.ref yd, .int (qLow (v >>> ((7 : Int32) &&& 31)) 3), .int (qLow (v >>> ((5 : Int32) &&& 31)) 360), .int ((60 : Int32) + (qLow (v >>> ((8 : Int32) &&& 31)) 240)), .int 1]) (rest := []) ⟨hx, hb, hml, hown, y_nil⟩ (q_shadow (l := l) (D := D) (ty := ty) (base := _) (sz := _) hl9 hq (qLow (v >>> ((7 : Int32) &&& 31)) 3) (qLow (v >>> ((5 : Int32) &&& 31)) 360) ((60 : Int32) + (qLow (v >>> ((8 : Int32) &&& 31)) 240)) 1 ) (y_cwSW 5 (kw_3_83 hG) (kw_1_0 hG) (kw_3_81 hG) (kw_3_82 hG) yd_L_shadow ⟨Nat.le_of_ble_eq_true rfl, Nat.le_of_ble_eq_true rfl⟩) (q_preS hG h hAb) rfl rfl hl.1 rfl (lv_room (Nat.le_of_ble_eq_true rfl)) dL_act_666 ⟨Nat.le_of_ble_eq_true rfl, Nat.le_of_ble_eq_true rfl⟩) (fun r_666 X_666 H locs hp_666 h => ?_)
      obtain ⟨e_666, hq_666⟩ := hp_666
      have h : yH D AZ sZ.heap [] (X_666 ++ []) _ _ := h.pl rfl
      rw [e_666]
      refine lv_i2l hx hb dL_act_669 rfl ?_
      exact hret _ _ _ _ _ _ _ _ ⟨rfl, hq_666⟩ h (Nat.le_of_ble_eq_true rfl) (Nat.le_of_ble_eq_true rfl) dL_act_670
