set_option maxHeartbeats 4000000 in
set_option maxRecDepth 100000 in
theorem ac_23_0n {l : Launch} {D : va_G} {ty : Nat → ClassId} {base sz : Nat} (hl9 : l.stackTraces = false) {yd : Nat} {σ : QS} {X : va_W} (hq : qY ty yd σ X) {v : Int32} (ho : ¬ qLow (v >>> (26 &&& 31)) 14 = 0) (hk : qLow v 46 = 23) (hs : ¬ ((v >>> (10 &&& 31)) &&& 1) = 1) : Met l yL_act [.code yL_act cL_act 10 (some (.long))] rmA (yPc D ty base sz X [.ref yd, .int v]) (va_Ql (fun r X' => r = (aShadow σ (qLow (v >>> ((7 : Int32) &&& 31)) 3) (qLow (v >>> ((5 : Int32) &&& 31)) 360) ((60 : Int32) + (qLow (v >>> ((8 : Int32) &&& 31)) 240)) 0).toInt64 ∧ qY ty yd σ X') (yB D (va_A X sz) (fun X' : va_W => X')) (va_A X sz)) rmA.cells rmA.slots (va_A X sz) := by
  refine act_pre0 ho (fun pZ eZ sZ mZ aZ bZ tZ cZ AZ ls QZ H locs E h hl hret => ?_)
  · obtain ⟨hx, hb, hml, hown, hG, hA, hAb⟩ := E
    rw [hk]
    refine lv_tableIn (tgt := 644) (off := 438) hx hb dL_act_206 (by decide) (by decide) (by decide) (by decide) ?_
    refine lv_aload_n hx hb dL_act_644 rfl (lv_at hl 8 rfl) ?_
    refine lv_iload hx hb dL_act_645 (lv_at hl 5 rfl) ?_
    refine lv_iload hx hb dL_act_647 (lv_at hl 4 rfl) ?_
    refine lv_iload hx hb dL_act_649 (lv_at hl 3 rfl) ?_
    refine lv_iload_n hx hb dL_act_651 rfl (lv_at hl 9 rfl) ?_
    refine lv_bipush (v := 10) hx hb dL_act_652 (by decide) ?_
    refine lv_ishr hx hb dL_act_654 ?_
    refine lv_iconst (v := 1) hx hb dL_act_655 (by decide) ?_
    refine lv_iand hx hb dL_act_656 ?_
    refine lv_iconst (v := 1) hx hb dL_act_657 (by decide) ?_
    refine lv_icmp_ne (tgt := 665) hx hb dL_act_658 (by decide) (fun c_658 => ?_) (fun c_658 => ?_)
    · skip
      refine lv_iconst (v := 0) hx hb dL_act_665 (by decide) ?_
      have h : yH D AZ sZ.heap X [] _ _ := h.pl rfl
      refine q_calli h hA (vx_runSW (own := RL) (As := [.ref yd, .int (qLow (v >>> ((7 : Int32) &&& 31)) 3), .int (qLow (v >>> ((5 : Int32) &&& 31)) 360), .int ((60 : Int32) + (qLow (v >>> ((8 : Int32) &&& 31)) 240)), .int 0]) (rest := []) ⟨hx, hb, hml, hown, y_nil⟩ (q_shadow (l := l) (D := D) (ty := ty) (base := _) (sz := _) hl9 hq (qLow (v >>> ((7 : Int32) &&& 31)) 3) (qLow (v >>> ((5 : Int32) &&& 31)) 360) ((60 : Int32) + (qLow (v >>> ((8 : Int32) &&& 31)) 240)) 0 ) (y_cwSW 5 (kw_3_83 hG) (kw_1_0 hG) (kw_3_81 hG) (kw_3_82 hG) yd_L_shadow ⟨Nat.le_of_ble_eq_true rfl, Nat.le_of_ble_eq_true rfl⟩) (q_preS hG h hAb) rfl rfl hl.1 rfl (lv_room (Nat.le_of_ble_eq_true rfl)) dL_act_666 ⟨Nat.le_of_ble_eq_true rfl, Nat.le_of_ble_eq_true rfl⟩) (fun r_666 X_666 H locs hp_666 h => ?_)
      obtain ⟨e_666, hq_666⟩ := hp_666
      have h : yH D AZ sZ.heap [] (X_666 ++ []) _ _ := h.pl rfl
      rw [e_666]
      refine lv_i2l hx hb dL_act_669 rfl ?_
      exact hret _ _ _ _ _ _ _ _ ⟨rfl, hq_666⟩ h (Nat.le_of_ble_eq_true rfl) (Nat.le_of_ble_eq_true rfl) dL_act_670
    · exact absurd c_658 hs

set_option maxHeartbeats 4000000 in
set_option maxRecDepth 100000 in
theorem ac_24_1y {l : Launch} {D : va_G} {ty : Nat → ClassId} {base sz : Nat} (hl9 : l.stackTraces = false) {yd : Nat} {σ : QS} {X : va_W} (hq : qY ty yd σ X) {v : Int32} (ho : qLow (v >>> (26 &&& 31)) 14 = 0) (hk : qLow v 46 = 24) (hs : ((v >>> (10 &&& 31)) &&& 1) = 1) : Met l yL_act [.code yL_act cL_act 10 (some (.long))] rmA (yPc D ty base sz X [.ref yd, .int v]) (va_Ql (fun r X' => r = (aShadow σ ((qLow (v >>> ((7 : Int32) &&& 31)) 13) - (2 : Int32)) (v >>> ((5 : Int32) &&& 31)) (v >>> ((8 : Int32) &&& 31)) 1).toInt64 ∧ qY ty yd σ X') (yB D (va_A X sz) (fun X' : va_W => X')) (va_A X sz)) rmA.cells rmA.slots (va_A X sz) := by
  refine act_pre1 ho (fun pZ eZ sZ mZ aZ bZ tZ cZ AZ ls QZ H locs E h hl hret => ?_)
  · obtain ⟨hx, hb, hml, hown, hG, hA, hAb⟩ := E
    rw [hk]
    refine lv_tableIn (tgt := 644) (off := 438) hx hb dL_act_206 (by decide) (by decide) (by decide) (by decide) ?_
    refine lv_aload_n hx hb dL_act_644 rfl (lv_at hl 8 rfl) ?_
    refine lv_iload hx hb dL_act_645 (lv_at hl 5 rfl) ?_
    refine lv_iload hx hb dL_act_647 (lv_at hl 4 rfl) ?_
    refine lv_iload hx hb dL_act_649 (lv_at hl 3 rfl) ?_
    refine lv_iload_n hx hb dL_act_651 rfl (lv_at hl 9 rfl) ?_
    refine lv_bipush (v := 10) hx hb dL_act_652 (by decide) ?_
    refine lv_ishr hx hb dL_act_654 ?_
    refine lv_iconst (v := 1) hx hb dL_act_655 (by decide) ?_
    refine lv_iand hx hb dL_act_656 ?_
    refine lv_iconst (v := 1) hx hb dL_act_657 (by decide) ?_
    refine lv_icmp_ne (tgt := 665) hx hb dL_act_658 (by decide) (fun c_658 => ?_) (fun c_658 => ?_)
    · exact absurd hs c_658
    · skip
      refine lv_iconst (v := 1) hx hb dL_act_661 (by decide) ?_
      refine lv_goto (tgt := 666) hx hb dL_act_662 (by decide) ?_
      have h : yH D AZ sZ.heap X [] _ _ := h.pl rfl
      refine q_calli h hA (vx_runSW (own := RL) (As := [.ref yd, .int ((qLow (v >>> ((7 : Int32) &&& 31)) 13) - (2 : Int32)), .int (v >>> ((5 : Int32) &&& 31)), .int (v >>> ((8 : Int32) &&& 31)), .int 1]) (rest := []) ⟨hx, hb, hml, hown, y_nil⟩ (q_shadow (l := l) (D := D) (ty := ty) (base := _) (sz := _) hl9 hq ((qLow (v >>> ((7 : Int32) &&& 31)) 13) - (2 : Int32)) (v >>> ((5 : Int32) &&& 31)) (v >>> ((8 : Int32) &&& 31)) 1 ) (y_cwSW 5 (kw_3_83 hG) (kw_1_0 hG) (kw_3_81 hG) (kw_3_82 hG) yd_L_shadow ⟨Nat.le_of_ble_eq_true rfl, Nat.le_of_ble_eq_true rfl⟩) (q_preS hG h hAb) rfl rfl hl.1 rfl (lv_room (Nat.le_of_ble_eq_true rfl)) dL_act_666 ⟨Nat.le_of_ble_eq_true rfl, Nat.le_of_ble_eq_true rfl⟩) (fun r_666 X_666 H locs hp_666 h => ?_)
      obtain ⟨e_666, hq_666⟩ := hp_666
      have h : yH D AZ sZ.heap [] (X_666 ++ []) _ _ := h.pl rfl
      rw [e_666]
      refine lv_i2l hx hb dL_act_669 rfl ?_
      exact hret _ _ _ _ _ _ _ _ ⟨rfl, hq_666⟩ h (Nat.le_of_ble_eq_true rfl) (Nat.le_of_ble_eq_true rfl) dL_act_670

set_option maxHeartbeats 4000000 in
set_option maxRecDepth 100000 in
theorem ac_24_1n {l : Launch} {D : va_G} {ty : Nat → ClassId} {base sz : Nat} (hl9 : l.stackTraces = false) {yd : Nat} {σ : QS} {X : va_W} (hq : qY ty yd σ X) {v : Int32} (ho : qLow (v >>> (26 &&& 31)) 14 = 0) (hk : qLow v 46 = 24) (hs : ¬ ((v >>> (10 &&& 31)) &&& 1) = 1) : Met l yL_act [.code yL_act cL_act 10 (some (.long))] rmA (yPc D ty base sz X [.ref yd, .int v]) (va_Ql (fun r X' => r = (aShadow σ ((qLow (v >>> ((7 : Int32) &&& 31)) 13) - (2 : Int32)) (v >>> ((5 : Int32) &&& 31)) (v >>> ((8 : Int32) &&& 31)) 0).toInt64 ∧ qY ty yd σ X') (yB D (va_A X sz) (fun X' : va_W => X')) (va_A X sz)) rmA.cells rmA.slots (va_A X sz) := by
  refine act_pre1 ho (fun pZ eZ sZ mZ aZ bZ tZ cZ AZ ls QZ H locs E h hl hret => ?_)
  · obtain ⟨hx, hb, hml, hown, hG, hA, hAb⟩ := E
    rw [hk]
    refine lv_tableIn (tgt := 644) (off := 438) hx hb dL_act_206 (by decide) (by decide) (by decide) (by decide) ?_
    refine lv_aload_n hx hb dL_act_644 rfl (lv_at hl 8 rfl) ?_
    refine lv_iload hx hb dL_act_645 (lv_at hl 5 rfl) ?_
    refine lv_iload hx hb dL_act_647 (lv_at hl 4 rfl) ?_
    refine lv_iload hx hb dL_act_649 (lv_at hl 3 rfl) ?_
    refine lv_iload_n hx hb dL_act_651 rfl (lv_at hl 9 rfl) ?_
    refine lv_bipush (v := 10) hx hb dL_act_652 (by decide) ?_
    refine lv_ishr hx hb dL_act_654 ?_
    refine lv_iconst (v := 1) hx hb dL_act_655 (by decide) ?_
    refine lv_iand hx hb dL_act_656 ?_
    refine lv_iconst (v := 1) hx hb dL_act_657 (by decide) ?_
    refine lv_icmp_ne (tgt := 665) hx hb dL_act_658 (by decide) (fun c_658 => ?_) (fun c_658 => ?_)
    · skip
      refine lv_iconst (v := 0) hx hb dL_act_665 (by decide) ?_
      have h : yH D AZ sZ.heap X [] _ _ := h.pl rfl
      refine q_calli h hA (vx_runSW (own := RL) (As := [.ref yd, .int ((qLow (v >>> ((7 : Int32) &&& 31)) 13) - (2 : Int32)), .int (v >>> ((5 : Int32) &&& 31)), .int (v >>> ((8 : Int32) &&& 31)), .int 0]) (rest := []) ⟨hx, hb, hml, hown, y_nil⟩ (q_shadow (l := l) (D := D) (ty := ty) (base := _) (sz := _) hl9 hq ((qLow (v >>> ((7 : Int32) &&& 31)) 13) - (2 : Int32)) (v >>> ((5 : Int32) &&& 31)) (v >>> ((8 : Int32) &&& 31)) 0 ) (y_cwSW 5 (kw_3_83 hG) (kw_1_0 hG) (kw_3_81 hG) (kw_3_82 hG) yd_L_shadow ⟨Nat.le_of_ble_eq_true rfl, Nat.le_of_ble_eq_true rfl⟩) (q_preS hG h hAb) rfl rfl hl.1 rfl (lv_room (Nat.le_of_ble_eq_true rfl)) dL_act_666 ⟨Nat.le_of_ble_eq_true rfl, Nat.le_of_ble_eq_true rfl⟩) (fun r_666 X_666 H locs hp_666 h => ?_)
      obtain ⟨e_666, hq_666⟩ := hp_666
      have h : yH D AZ sZ.heap [] (X_666 ++ []) _ _ := h.pl rfl
      rw [e_666]
      refine lv_i2l hx hb dL_act_669 rfl ?_
      exact hret _ _ _ _ _ _ _ _ ⟨rfl, hq_666⟩ h (Nat.le_of_ble_eq_true rfl) (Nat.le_of_ble_eq_true rfl) dL_act_670
    · exact absurd c_658 hs

set_option maxHeartbeats 4000000 in
set_option maxRecDepth 100000 in
theorem ac_24_0y {l : Launch} {D : va_G} {ty : Nat → ClassId} {base sz : Nat} (hl9 : l.stackTraces = false) {yd : Nat} {σ : QS} {X : va_W} (hq : qY ty yd σ X) {v : Int32} (ho : ¬ qLow (v >>> (26 &&& 31)) 14 = 0) (hk : qLow v 46 = 24) (hs : ((v >>> (10 &&& 31)) &&& 1) = 1) : Met l yL_act [.code yL_act cL_act 10 (some (.long))] rmA (yPc D ty base sz X [.ref yd, .int v]) (va_Ql (fun r X' => r = (aShadow σ (qLow (v >>> ((7 : Int32) &&& 31)) 3) (qLow (v >>> ((5 : Int32) &&& 31)) 360) ((60 : Int32) + (qLow (v >>> ((8 : Int32) &&& 31)) 240)) 1).toInt64 ∧ qY ty yd σ X') (yB D (va_A X sz) (fun X' : va_W => X')) (va_A X sz)) rmA.cells rmA.slots (va_A X sz) := by
  refine act_pre0 ho (fun pZ eZ sZ mZ aZ bZ tZ cZ AZ ls QZ H locs E h hl hret => ?_)
  · obtain ⟨hx, hb, hml, hown, hG, hA, hAb⟩ := E
    rw [hk]
    refine lv_tableIn (tgt := 644) (off := 438) hx hb dL_act_206 (by decide) (by decide) (by decide) (by decide) ?_
    refine lv_aload_n hx hb dL_act_644 rfl (lv_at hl 8 rfl) ?_
    refine lv_iload hx hb dL_act_645 (lv_at hl 5 rfl) ?_
    refine lv_iload hx hb dL_act_647 (lv_at hl 4 rfl) ?_
    refine lv_iload hx hb dL_act_649 (lv_at hl 3 rfl) ?_
    refine lv_iload_n hx hb dL_act_651 rfl (lv_at hl 9 rfl) ?_
    refine lv_bipush (v := 10) hx hb dL_act_652 (by decide) ?_
    refine lv_ishr hx hb dL_act_654 ?_
    refine lv_iconst (v := 1) hx hb dL_act_655 (by decide) ?_
    refine lv_iand hx hb dL_act_656 ?_
    refine lv_iconst (v := 1) hx hb dL_act_657 (by decide) ?_
    refine lv_icmp_ne (tgt := 665) hx hb dL_act_658 (by decide) (fun c_658 => ?_) (fun c_658 => ?_)
    · exact absurd hs c_658
    · skip
      refine lv_iconst (v := 1) hx hb dL_act_661 (by decide) ?_
      refine lv_goto (tgt := 666) hx hb dL_act_662 (by decide) ?_
      have h : yH D AZ sZ.heap X [] _ _ := h.pl rfl
      refine q_calli h hA (vx_runSW (own := RL) (As := [.ref yd, .int (qLow (v >>> ((7 : Int32) &&& 31)) 3), .int (qLow (v >>> ((5 : Int32) &&& 31)) 360), .int ((60 : Int32) + (qLow (v >>> ((8 : Int32) &&& 31)) 240)), .int 1]) (rest := []) ⟨hx, hb, hml, hown, y_nil⟩ (q_shadow (l := l) (D := D) (ty := ty) (base := _) (sz := _) hl9 hq (qLow (v >>> ((7 : Int32) &&& 31)) 3) (qLow (v >>> ((5 : Int32) &&& 31)) 360) ((60 : Int32) + (qLow (v >>> ((8 : Int32) &&& 31)) 240)) 1 ) (y_cwSW 5 (kw_3_83 hG) (kw_1_0 hG) (kw_3_81 hG) (kw_3_82 hG) yd_L_shadow ⟨Nat.le_of_ble_eq_true rfl, Nat.le_of_ble_eq_true rfl⟩) (q_preS hG h hAb) rfl rfl hl.1 rfl (lv_room (Nat.le_of_ble_eq_true rfl)) dL_act_666 ⟨Nat.le_of_ble_eq_true rfl, Nat.le_of_ble_eq_true rfl⟩) (fun r_666 X_666 H locs hp_666 h => ?_)
      obtain ⟨e_666, hq_666⟩ := hp_666
      have h : yH D AZ sZ.heap [] (X_666 ++ []) _ _ := h.pl rfl
      rw [e_666]
      refine lv_i2l hx hb dL_act_669 rfl ?_
      exact hret _ _ _ _ _ _ _ _ ⟨rfl, hq_666⟩ h (Nat.le_of_ble_eq_true rfl) (Nat.le_of_ble_eq_true rfl) dL_act_670

set_option maxHeartbeats 4000000 in
set_option maxRecDepth 100000 in
theorem ac_24_0n {l : Launch} {D : va_G} {ty : Nat → ClassId} {base sz : Nat} (hl9 : l.stackTraces = false) {yd : Nat} {σ : QS} {X : va_W} (hq : qY ty yd σ X) {v : Int32} (ho : ¬ qLow (v >>> (26 &&& 31)) 14 = 0) (hk : qLow v 46 = 24) (hs : ¬ ((v >>> (10 &&& 31)) &&& 1) = 1) : Met l yL_act [.code yL_act cL_act 10 (some (.long))] rmA (yPc D ty base sz X [.ref yd, .int v]) (va_Ql (fun r X' => r = (aShadow σ (qLow (v >>> ((7 : Int32) &&& 31)) 3) (qLow (v >>> ((5 : Int32) &&& 31)) 360) ((60 : Int32) + (qLow (v >>> ((8 : Int32) &&& 31)) 240)) 0).toInt64 ∧ qY ty yd σ X') (yB D (va_A X sz) (fun X' : va_W => X')) (va_A X sz)) rmA.cells rmA.slots (va_A X sz) := by
  refine act_pre0 ho (fun pZ eZ sZ mZ aZ bZ tZ cZ AZ ls QZ H locs E h hl hret => ?_)
  · obtain ⟨hx, hb, hml, hown, hG, hA, hAb⟩ := E
    rw [hk]
    refine lv_tableIn (tgt := 644) (off := 438) hx hb dL_act_206 (by decide) (by decide) (by decide) (by decide) ?_
    refine lv_aload_n hx hb dL_act_644 rfl (lv_at hl 8 rfl) ?_
    refine lv_iload hx hb dL_act_645 (lv_at hl 5 rfl) ?_
    refine lv_iload hx hb dL_act_647 (lv_at hl 4 rfl) ?_
    refine lv_iload hx hb dL_act_649 (lv_at hl 3 rfl) ?_
    refine lv_iload_n hx hb dL_act_651 rfl (lv_at hl 9 rfl) ?_
    refine lv_bipush (v := 10) hx hb dL_act_652 (by decide) ?_
    refine lv_ishr hx hb dL_act_654 ?_
    refine lv_iconst (v := 1) hx hb dL_act_655 (by decide) ?_
    refine lv_iand hx hb dL_act_656 ?_
    refine lv_iconst (v := 1) hx hb dL_act_657 (by decide) ?_
    refine lv_icmp_ne (tgt := 665) hx hb dL_act_658 (by decide) (fun c_658 => ?_) (fun c_658 => ?_)
    · skip
      refine lv_iconst (v := 0) hx hb dL_act_665 (by decide) ?_
      have h : yH D AZ sZ.heap X [] _ _ := h.pl rfl
      refine q_calli h hA (vx_runSW (own := RL) (As := [.ref yd, .int (qLow (v >>> ((7 : Int32) &&& 31)) 3), .int (qLow (v >>> ((5 : Int32) &&& 31)) 360), .int ((60 : Int32) + (qLow (v >>> ((8 : Int32) &&& 31)) 240)), .int 0]) (rest := []) ⟨hx, hb, hml, hown, y_nil⟩ (q_shadow (l := l) (D := D) (ty := ty) (base := _) (sz := _) hl9 hq (qLow (v >>> ((7 : Int32) &&& 31)) 3) (qLow (v >>> ((5 : Int32) &&& 31)) 360) ((60 : Int32) + (qLow (v >>> ((8 : Int32) &&& 31)) 240)) 0 ) (y_cwSW 5 (kw_3_83 hG) (kw_1_0 hG) (kw_3_81 hG) (kw_3_82 hG) yd_L_shadow ⟨Nat.le_of_ble_eq_true rfl, Nat.le_of_ble_eq_true rfl⟩) (q_preS hG h hAb) rfl rfl hl.1 rfl (lv_room (Nat.le_of_ble_eq_true rfl)) dL_act_666 ⟨Nat.le_of_ble_eq_true rfl, Nat.le_of_ble_eq_true rfl⟩) (fun r_666 X_666 H locs hp_666 h => ?_)
      obtain ⟨e_666, hq_666⟩ := hp_666
      have h : yH D AZ sZ.heap [] (X_666 ++ []) _ _ := h.pl rfl
      rw [e_666]
      refine lv_i2l hx hb dL_act_669 rfl ?_
      exact hret _ _ _ _ _ _ _ _ ⟨rfl, hq_666⟩ h (Nat.le_of_ble_eq_true rfl) (Nat.le_of_ble_eq_true rfl) dL_act_670
    · exact absurd c_658 hs

set_option maxHeartbeats 4000000 in
set_option maxRecDepth 100000 in
theorem ac_25_1 {l : Launch} {D : va_G} {ty : Nat → ClassId} {base sz : Nat} (hl9 : l.stackTraces = false) {yd : Nat} {σ : QS} {X : va_W} (hq : qY ty yd σ X) {v : Int32} (ho : qLow (v >>> (26 &&& 31)) 14 = 0) (hk : qLow v 46 = 25)  : Met l yL_act [.code yL_act cL_act 10 (some (.long))] rmA (yPc D ty base sz X [.ref yd, .int v]) (va_Ql (fun r X' => r = (aBlur σ ((qLow (v >>> ((7 : Int32) &&& 31)) 13) - (2 : Int32)) (v >>> ((5 : Int32) &&& 31)) (v >>> ((8 : Int32) &&& 31))).toInt64 ∧ qY ty yd σ X') (yB D (va_A X sz) (fun X' : va_W => X')) (va_A X sz)) rmA.cells rmA.slots (va_A X sz) := by
  refine act_pre1 ho (fun pZ eZ sZ mZ aZ bZ tZ cZ AZ ls QZ H locs E h hl hret => ?_)
  · obtain ⟨hx, hb, hml, hown, hG, hA, hAb⟩ := E
    rw [hk]
    refine lv_tableIn (tgt := 671) (off := 465) hx hb dL_act_206 (by decide) (by decide) (by decide) (by decide) ?_
    refine lv_aload_n hx hb dL_act_671 rfl (lv_at hl 8 rfl) ?_
    refine lv_iload hx hb dL_act_672 (lv_at hl 5 rfl) ?_
    refine lv_iload hx hb dL_act_674 (lv_at hl 4 rfl) ?_
    refine lv_iload hx hb dL_act_676 (lv_at hl 3 rfl) ?_
    have h : yH D AZ sZ.heap X [] _ _ := h.pl rfl
    refine q_calli h hA (vx_runSW (own := RL) (As := [.ref yd, .int ((qLow (v >>> ((7 : Int32) &&& 31)) 13) - (2 : Int32)), .int (v >>> ((5 : Int32) &&& 31)), .int (v >>> ((8 : Int32) &&& 31))]) (rest := []) ⟨hx, hb, hml, hown, y_nil⟩ (q_blur (l := l) (D := D) (ty := ty) (base := _) (sz := _) hl9 hq ((qLow (v >>> ((7 : Int32) &&& 31)) 13) - (2 : Int32)) (v >>> ((5 : Int32) &&& 31)) (v >>> ((8 : Int32) &&& 31)) ) (y_cwSW 4 (kw_3_113 hG) (kw_1_0 hG) (kw_3_111 hG) (kw_3_112 hG) yd_L_blur ⟨Nat.le_of_ble_eq_true rfl, Nat.le_of_ble_eq_true rfl⟩) (q_preS hG h hAb) rfl rfl hl.1 rfl (lv_room (Nat.le_of_ble_eq_true rfl)) dL_act_678 ⟨Nat.le_of_ble_eq_true rfl, Nat.le_of_ble_eq_true rfl⟩) (fun r_678 X_678 H locs hp_678 h => ?_)
    obtain ⟨e_678, hq_678⟩ := hp_678
    have h : yH D AZ sZ.heap [] (X_678 ++ []) _ _ := h.pl rfl
    rw [e_678]
    refine lv_i2l hx hb dL_act_681 rfl ?_
    exact hret _ _ _ _ _ _ _ _ ⟨rfl, hq_678⟩ h (Nat.le_of_ble_eq_true rfl) (Nat.le_of_ble_eq_true rfl) dL_act_682

set_option maxHeartbeats 4000000 in
set_option maxRecDepth 100000 in
theorem ac_25_0 {l : Launch} {D : va_G} {ty : Nat → ClassId} {base sz : Nat} (hl9 : l.stackTraces = false) {yd : Nat} {σ : QS} {X : va_W} (hq : qY ty yd σ X) {v : Int32} (ho : ¬ qLow (v >>> (26 &&& 31)) 14 = 0) (hk : qLow v 46 = 25)  : Met l yL_act [.code yL_act cL_act 10 (some (.long))] rmA (yPc D ty base sz X [.ref yd, .int v]) (va_Ql (fun r X' => r = (aBlur σ (qLow (v >>> ((7 : Int32) &&& 31)) 3) (qLow (v >>> ((5 : Int32) &&& 31)) 360) ((60 : Int32) + (qLow (v >>> ((8 : Int32) &&& 31)) 240))).toInt64 ∧ qY ty yd σ X') (yB D (va_A X sz) (fun X' : va_W => X')) (va_A X sz)) rmA.cells rmA.slots (va_A X sz) := by
  refine act_pre0 ho (fun pZ eZ sZ mZ aZ bZ tZ cZ AZ ls QZ H locs E h hl hret => ?_)
  · obtain ⟨hx, hb, hml, hown, hG, hA, hAb⟩ := E
    rw [hk]
    refine lv_tableIn (tgt := 671) (off := 465) hx hb dL_act_206 (by decide) (by decide) (by decide) (by decide) ?_
    refine lv_aload_n hx hb dL_act_671 rfl (lv_at hl 8 rfl) ?_
    refine lv_iload hx hb dL_act_672 (lv_at hl 5 rfl) ?_
    refine lv_iload hx hb dL_act_674 (lv_at hl 4 rfl) ?_
    refine lv_iload hx hb dL_act_676 (lv_at hl 3 rfl) ?_
    have h : yH D AZ sZ.heap X [] _ _ := h.pl rfl
    refine q_calli h hA (vx_runSW (own := RL) (As := [.ref yd, .int (qLow (v >>> ((7 : Int32) &&& 31)) 3), .int (qLow (v >>> ((5 : Int32) &&& 31)) 360), .int ((60 : Int32) + (qLow (v >>> ((8 : Int32) &&& 31)) 240))]) (rest := []) ⟨hx, hb, hml, hown, y_nil⟩ (q_blur (l := l) (D := D) (ty := ty) (base := _) (sz := _) hl9 hq (qLow (v >>> ((7 : Int32) &&& 31)) 3) (qLow (v >>> ((5 : Int32) &&& 31)) 360) ((60 : Int32) + (qLow (v >>> ((8 : Int32) &&& 31)) 240)) ) (y_cwSW 4 (kw_3_113 hG) (kw_1_0 hG) (kw_3_111 hG) (kw_3_112 hG) yd_L_blur ⟨Nat.le_of_ble_eq_true rfl, Nat.le_of_ble_eq_true rfl⟩) (q_preS hG h hAb) rfl rfl hl.1 rfl (lv_room (Nat.le_of_ble_eq_true rfl)) dL_act_678 ⟨Nat.le_of_ble_eq_true rfl, Nat.le_of_ble_eq_true rfl⟩) (fun r_678 X_678 H locs hp_678 h => ?_)
    obtain ⟨e_678, hq_678⟩ := hp_678
    have h : yH D AZ sZ.heap [] (X_678 ++ []) _ _ := h.pl rfl
    rw [e_678]
    refine lv_i2l hx hb dL_act_681 rfl ?_
    exact hret _ _ _ _ _ _ _ _ ⟨rfl, hq_678⟩ h (Nat.le_of_ble_eq_true rfl) (Nat.le_of_ble_eq_true rfl) dL_act_682

set_option maxHeartbeats 4000000 in
set_option maxRecDepth 100000 in
theorem ac_26_1 {l : Launch} {D : va_G} {ty : Nat → ClassId} {base sz : Nat} (hl9 : l.stackTraces = false) {yd : Nat} {σ : QS} {X : va_W} (hq : qY ty yd σ X) {v : Int32} (ho : qLow (v >>> (26 &&& 31)) 14 = 0) (hk : qLow v 46 = 26)  : Met l yL_act [.code yL_act cL_act 10 (some (.long))] rmA (yPc D ty base sz X [.ref yd, .int v]) (va_Ql (fun r X' => r = (aLine σ ((qLow (v >>> ((7 : Int32) &&& 31)) 13) - (2 : Int32)) ((qLow (v >>> ((11 : Int32) &&& 31)) 8) - (1 : Int32)) (v >>> ((8 : Int32) &&& 31))).toInt64 ∧ qY ty yd σ X') (yB D (va_A X sz) (fun X' : va_W => X')) (va_A X sz)) rmA.cells rmA.slots (va_A X sz) := by
  refine act_pre1 ho (fun pZ eZ sZ mZ aZ bZ tZ cZ AZ ls QZ H locs E h hl hret => ?_)
  · obtain ⟨hx, hb, hml, hown, hG, hA, hAb⟩ := E
    rw [hk]
    refine lv_tableIn (tgt := 683) (off := 477) hx hb dL_act_206 (by decide) (by decide) (by decide) (by decide) ?_
    refine lv_aload_n hx hb dL_act_683 rfl (lv_at hl 8 rfl) ?_
    refine lv_iload hx hb dL_act_684 (lv_at hl 5 rfl) ?_
    refine lv_iload_n hx hb dL_act_686 rfl (lv_at hl 7 rfl) ?_
    refine lv_if_eq (tgt := 695) hx hb dL_act_687 (by decide) (fun c_687 => ?_) (fun c_687 => ?_)
    · exact absurd c_687 (by decide)
    · skip
      refine lv_iload hx hb dL_act_690 (lv_at hl 0 rfl) ?_
      refine lv_goto (tgt := 707) hx hb dL_act_692 (by decide) ?_
      refine lv_iload_n hx hb dL_act_707 rfl (lv_at hl 7 rfl) ?_
      refine lv_if_eq (tgt := 716) hx hb dL_act_708 (by decide) (fun c_708 => ?_) (fun c_708 => ?_)
      · exact absurd c_708 (by decide)
      · skip
        refine lv_iload hx hb dL_act_711 (lv_at hl 3 rfl) ?_
        refine lv_goto (tgt := 724) hx hb dL_act_713 (by decide) ?_
        have h : yH D AZ sZ.heap X [] _ _ := h.pl rfl
        refine q_calli h hA (vx_runSW (own := RL) (As := [.ref yd, .int ((qLow (v >>> ((7 : Int32) &&& 31)) 13) - (2 : Int32)), .int ((qLow (v >>> ((11 : Int32) &&& 31)) 8) - (1 : Int32)), .int (v >>> ((8 : Int32) &&& 31))]) (rest := []) ⟨hx, hb, hml, hown, y_nil⟩ (q_line (l := l) (D := D) (ty := ty) (base := _) (sz := _) hl9 hq ((qLow (v >>> ((7 : Int32) &&& 31)) 13) - (2 : Int32)) ((qLow (v >>> ((11 : Int32) &&& 31)) 8) - (1 : Int32)) (v >>> ((8 : Int32) &&& 31)) ) (y_cwSW 4 (kw_3_126 hG) (kw_1_0 hG) (kw_3_124 hG) (kw_3_125 hG) yd_L_line ⟨Nat.le_of_ble_eq_true rfl, Nat.le_of_ble_eq_true rfl⟩) (q_preS hG h hAb) rfl rfl hl.1 rfl (lv_room (Nat.le_of_ble_eq_true rfl)) dL_act_724 ⟨Nat.le_of_ble_eq_true rfl, Nat.le_of_ble_eq_true rfl⟩) (fun r_724 X_724 H locs hp_724 h => ?_)
        obtain ⟨e_724, hq_724⟩ := hp_724
        have h : yH D AZ sZ.heap [] (X_724 ++ []) _ _ := h.pl rfl
        rw [e_724]
        refine lv_i2l hx hb dL_act_727 rfl ?_
        exact hret _ _ _ _ _ _ _ _ ⟨rfl, hq_724⟩ h (Nat.le_of_ble_eq_true rfl) (Nat.le_of_ble_eq_true rfl) dL_act_728

set_option maxHeartbeats 4000000 in
set_option maxRecDepth 100000 in
theorem ac_26_0 {l : Launch} {D : va_G} {ty : Nat → ClassId} {base sz : Nat} (hl9 : l.stackTraces = false) {yd : Nat} {σ : QS} {X : va_W} (hq : qY ty yd σ X) {v : Int32} (ho : ¬ qLow (v >>> (26 &&& 31)) 14 = 0) (hk : qLow v 46 = 26)  : Met l yL_act [.code yL_act cL_act 10 (some (.long))] rmA (yPc D ty base sz X [.ref yd, .int v]) (va_Ql (fun r X' => r = (aLine σ (qLow (v >>> ((7 : Int32) &&& 31)) 3) ((7 : Int32) + (qLow (v >>> ((9 : Int32) &&& 31)) 11)) (qLow (v >>> ((11 : Int32) &&& 31)) 5)).toInt64 ∧ qY ty yd σ X') (yB D (va_A X sz) (fun X' : va_W => X')) (va_A X sz)) rmA.cells rmA.slots (va_A X sz) := by
  refine act_pre0 ho (fun pZ eZ sZ mZ aZ bZ tZ cZ AZ ls QZ H locs E h hl hret => ?_)
  · obtain ⟨hx, hb, hml, hown, hG, hA, hAb⟩ := E
    rw [hk]
    refine lv_tableIn (tgt := 683) (off := 477) hx hb dL_act_206 (by decide) (by decide) (by decide) (by decide) ?_
    refine lv_aload_n hx hb dL_act_683 rfl (lv_at hl 8 rfl) ?_
    refine lv_iload hx hb dL_act_684 (lv_at hl 5 rfl) ?_
    refine lv_iload_n hx hb dL_act_686 rfl (lv_at hl 7 rfl) ?_
    refine lv_if_eq (tgt := 695) hx hb dL_act_687 (by decide) (fun c_687 => ?_) (fun c_687 => ?_)
    · skip
      refine lv_bipush (v := 7) hx hb dL_act_695 (by decide) ?_
      refine lv_iload_n hx hb dL_act_697 rfl (lv_at hl 9 rfl) ?_
      refine lv_bipush (v := 9) hx hb dL_act_698 (by decide) ?_
      refine lv_ishr hx hb dL_act_700 ?_
      refine lv_bipush (v := 11) hx hb dL_act_701 (by decide) ?_
      refine y_calli (X' := fun _ : Unit => []) (wc := []) (wr := []) h hA [] [] [] rfl rfl (by decide) (by decide) (by decide) (fun _ => rfl) (va_runS (own := RL) (As := [.int (v >>> ((9 : Int32) &&& 31)), .int 11]) (rest := [.int 7, .int (qLow (v >>> ((7 : Int32) &&& 31)) 3), .ref yd]) ⟨hx, hb, hml, hown, y_nil⟩ (m_L_low l D ty base _ (v >>> ((9 : Int32) &&& 31)) 11   (by decide)) (y_cwS 2 (kw_1_220 hG) (kw_1_0 hG) (kw_1_218 hG) (kw_1_219 hG) yd_L_low ⟨Nat.le_of_ble_eq_true rfl, Nat.le_of_ble_eq_true rfl⟩) (y_preS hG h hAb [] rfl (by decide)) rfl rfl hl.1 rfl (lv_room (Nat.le_of_ble_eq_true rfl)) dL_act_703 ⟨Nat.le_of_ble_eq_true rfl, Nat.le_of_ble_eq_true rfl⟩) (fun r_703 _ H locs hp_703 h => ?_)
      have hp_703 : r_703 = qLow (v >>> ((9 : Int32) &&& 31)) 11 := hp_703
      have h : yH D AZ sZ.heap [] (X ++ []) _ _ := h
      rw [hp_703]
      refine lv_iadd hx hb dL_act_706 ?_
      refine lv_iload_n hx hb dL_act_707 rfl (lv_at hl 7 rfl) ?_
      refine lv_if_eq (tgt := 716) hx hb dL_act_708 (by decide) (fun c_708 => ?_) (fun c_708 => ?_)
      · skip
        refine lv_iload_n hx hb dL_act_716 rfl (lv_at hl 9 rfl) ?_
        refine lv_bipush (v := 11) hx hb dL_act_717 (by decide) ?_
        refine lv_ishr hx hb dL_act_719 ?_
        refine lv_iconst (v := 5) hx hb dL_act_720 (by decide) ?_
        refine y_calli (X' := fun _ : Unit => []) (wc := []) (wr := []) h hA [] [] [] rfl rfl (by decide) (by decide) (by decide) (fun _ => rfl) (va_runS (own := RL) (As := [.int (v >>> ((11 : Int32) &&& 31)), .int 5]) (rest := [.int ((7 : Int32) + (qLow (v >>> ((9 : Int32) &&& 31)) 11)), .int (qLow (v >>> ((7 : Int32) &&& 31)) 3), .ref yd]) ⟨hx, hb, hml, hown, y_nil⟩ (m_L_low l D ty base _ (v >>> ((11 : Int32) &&& 31)) 5   (by decide)) (y_cwS 2 (kw_1_220 hG) (kw_1_0 hG) (kw_1_218 hG) (kw_1_219 hG) yd_L_low ⟨Nat.le_of_ble_eq_true rfl, Nat.le_of_ble_eq_true rfl⟩) (y_preS hG h hAb [] rfl (by decide)) rfl rfl hl.1 rfl (lv_room (Nat.le_of_ble_eq_true rfl)) dL_act_721 ⟨Nat.le_of_ble_eq_true rfl, Nat.le_of_ble_eq_true rfl⟩) (fun r_721 _ H locs hp_721 h => ?_)
        have hp_721 : r_721 = qLow (v >>> ((11 : Int32) &&& 31)) 5 := hp_721
        have h : yH D AZ sZ.heap [] (X ++ []) _ _ := h
        rw [hp_721]
        have h : yH D AZ sZ.heap X [] _ _ := h.pl rfl
        refine q_calli h hA (vx_runSW (own := RL) (As := [.ref yd, .int (qLow (v >>> ((7 : Int32) &&& 31)) 3), .int ((7 : Int32) + (qLow (v >>> ((9 : Int32) &&& 31)) 11)), .int (qLow (v >>> ((11 : Int32) &&& 31)) 5)]) (rest := []) ⟨hx, hb, hml, hown, y_nil⟩ (q_line (l := l) (D := D) (ty := ty) (base := _) (sz := _) hl9 hq (qLow (v >>> ((7 : Int32) &&& 31)) 3) ((7 : Int32) + (qLow (v >>> ((9 : Int32) &&& 31)) 11)) (qLow (v >>> ((11 : Int32) &&& 31)) 5) ) (y_cwSW 4 (kw_3_126 hG) (kw_1_0 hG) (kw_3_124 hG) (kw_3_125 hG) yd_L_line ⟨Nat.le_of_ble_eq_true rfl, Nat.le_of_ble_eq_true rfl⟩) (q_preS hG h hAb) rfl rfl hl.1 rfl (lv_room (Nat.le_of_ble_eq_true rfl)) dL_act_724 ⟨Nat.le_of_ble_eq_true rfl, Nat.le_of_ble_eq_true rfl⟩) (fun r_724 X_724 H locs hp_724 h => ?_)
        obtain ⟨e_724, hq_724⟩ := hp_724
        have h : yH D AZ sZ.heap [] (X_724 ++ []) _ _ := h.pl rfl
        rw [e_724]
        refine lv_i2l hx hb dL_act_727 rfl ?_
        exact hret _ _ _ _ _ _ _ _ ⟨rfl, hq_724⟩ h (Nat.le_of_ble_eq_true rfl) (Nat.le_of_ble_eq_true rfl) dL_act_728
      · exact absurd (by decide) c_708
    · exact absurd (by decide) c_687

set_option maxHeartbeats 4000000 in
set_option maxRecDepth 100000 in
theorem ac_27_1 {l : Launch} {D : va_G} {ty : Nat → ClassId} {base sz : Nat} (hl9 : l.stackTraces = false) {yd : Nat} {σ : QS} {X : va_W} (hq : qY ty yd σ X) {v : Int32} (ho : qLow (v >>> (26 &&& 31)) 14 = 0) (hk : qLow v 46 = 27)  : Met l yL_act [.code yL_act cL_act 10 (some (.long))] rmA (yPc D ty base sz X [.ref yd, .int v]) (va_Ql (fun r X' => r = (aLine σ ((qLow (v >>> ((7 : Int32) &&& 31)) 13) - (2 : Int32)) ((qLow (v >>> ((11 : Int32) &&& 31)) 8) - (1 : Int32)) (v >>> ((8 : Int32) &&& 31))).toInt64 ∧ qY ty yd σ X') (yB D (va_A X sz) (fun X' : va_W => X')) (va_A X sz)) rmA.cells rmA.slots (va_A X sz) := by
  refine act_pre1 ho (fun pZ eZ sZ mZ aZ bZ tZ cZ AZ ls QZ H locs E h hl hret => ?_)
  · obtain ⟨hx, hb, hml, hown, hG, hA, hAb⟩ := E
    rw [hk]
    refine lv_tableIn (tgt := 683) (off := 477) hx hb dL_act_206 (by decide) (by decide) (by decide) (by decide) ?_
    refine lv_aload_n hx hb dL_act_683 rfl (lv_at hl 8 rfl) ?_
    refine lv_iload hx hb dL_act_684 (lv_at hl 5 rfl) ?_
    refine lv_iload_n hx hb dL_act_686 rfl (lv_at hl 7 rfl) ?_
    refine lv_if_eq (tgt := 695) hx hb dL_act_687 (by decide) (fun c_687 => ?_) (fun c_687 => ?_)
    · exact absurd c_687 (by decide)
    · skip
      refine lv_iload hx hb dL_act_690 (lv_at hl 0 rfl) ?_
      refine lv_goto (tgt := 707) hx hb dL_act_692 (by decide) ?_
      refine lv_iload_n hx hb dL_act_707 rfl (lv_at hl 7 rfl) ?_
      refine lv_if_eq (tgt := 716) hx hb dL_act_708 (by decide) (fun c_708 => ?_) (fun c_708 => ?_)
      · exact absurd c_708 (by decide)
      · skip
        refine lv_iload hx hb dL_act_711 (lv_at hl 3 rfl) ?_
        refine lv_goto (tgt := 724) hx hb dL_act_713 (by decide) ?_
        have h : yH D AZ sZ.heap X [] _ _ := h.pl rfl
        refine q_calli h hA (vx_runSW (own := RL) (As := [.ref yd, .int ((qLow (v >>> ((7 : Int32) &&& 31)) 13) - (2 : Int32)), .int ((qLow (v >>> ((11 : Int32) &&& 31)) 8) - (1 : Int32)), .int (v >>> ((8 : Int32) &&& 31))]) (rest := []) ⟨hx, hb, hml, hown, y_nil⟩ (q_line (l := l) (D := D) (ty := ty) (base := _) (sz := _) hl9 hq ((qLow (v >>> ((7 : Int32) &&& 31)) 13) - (2 : Int32)) ((qLow (v >>> ((11 : Int32) &&& 31)) 8) - (1 : Int32)) (v >>> ((8 : Int32) &&& 31)) ) (y_cwSW 4 (kw_3_126 hG) (kw_1_0 hG) (kw_3_124 hG) (kw_3_125 hG) yd_L_line ⟨Nat.le_of_ble_eq_true rfl, Nat.le_of_ble_eq_true rfl⟩) (q_preS hG h hAb) rfl rfl hl.1 rfl (lv_room (Nat.le_of_ble_eq_true rfl)) dL_act_724 ⟨Nat.le_of_ble_eq_true rfl, Nat.le_of_ble_eq_true rfl⟩) (fun r_724 X_724 H locs hp_724 h => ?_)
        obtain ⟨e_724, hq_724⟩ := hp_724
        have h : yH D AZ sZ.heap [] (X_724 ++ []) _ _ := h.pl rfl
        rw [e_724]
        refine lv_i2l hx hb dL_act_727 rfl ?_
        exact hret _ _ _ _ _ _ _ _ ⟨rfl, hq_724⟩ h (Nat.le_of_ble_eq_true rfl) (Nat.le_of_ble_eq_true rfl) dL_act_728

set_option maxHeartbeats 4000000 in
set_option maxRecDepth 100000 in
theorem ac_27_0 {l : Launch} {D : va_G} {ty : Nat → ClassId} {base sz : Nat} (hl9 : l.stackTraces = false) {yd : Nat} {σ : QS} {X : va_W} (hq : qY ty yd σ X) {v : Int32} (ho : ¬ qLow (v >>> (26 &&& 31)) 14 = 0) (hk : qLow v 46 = 27)  : Met l yL_act [.code yL_act cL_act 10 (some (.long))] rmA (yPc D ty base sz X [.ref yd, .int v]) (va_Ql (fun r X' => r = (aLine σ (qLow (v >>> ((7 : Int32) &&& 31)) 3) ((7 : Int32) + (qLow (v >>> ((9 : Int32) &&& 31)) 11)) (qLow (v >>> ((11 : Int32) &&& 31)) 5)).toInt64 ∧ qY ty yd σ X') (yB D (va_A X sz) (fun X' : va_W => X')) (va_A X sz)) rmA.cells rmA.slots (va_A X sz) := by
  refine act_pre0 ho (fun pZ eZ sZ mZ aZ bZ tZ cZ AZ ls QZ H locs E h hl hret => ?_)
  · obtain ⟨hx, hb, hml, hown, hG, hA, hAb⟩ := E
    rw [hk]
    refine lv_tableIn (tgt := 683) (off := 477) hx hb dL_act_206 (by decide) (by decide) (by decide) (by decide) ?_
    refine lv_aload_n hx hb dL_act_683 rfl (lv_at hl 8 rfl) ?_
    refine lv_iload hx hb dL_act_684 (lv_at hl 5 rfl) ?_
    refine lv_iload_n hx hb dL_act_686 rfl (lv_at hl 7 rfl) ?_
    refine lv_if_eq (tgt := 695) hx hb dL_act_687 (by decide) (fun c_687 => ?_) (fun c_687 => ?_)
    · skip
      refine lv_bipush (v := 7) hx hb dL_act_695 (by decide) ?_
      refine lv_iload_n hx hb dL_act_697 rfl (lv_at hl 9 rfl) ?_
      refine lv_bipush (v := 9) hx hb dL_act_698 (by decide) ?_
      refine lv_ishr hx hb dL_act_700 ?_
      refine lv_bipush (v := 11) hx hb dL_act_701 (by decide) ?_
      refine y_calli (X' := fun _ : Unit => []) (wc := []) (wr := []) h hA [] [] [] rfl rfl (by decide) (by decide) (by decide) (fun _ => rfl) (va_runS (own := RL) (As := [.int (v >>> ((9 : Int32) &&& 31)), .int 11]) (rest := [.int 7, .int (qLow (v >>> ((7 : Int32) &&& 31)) 3), .ref yd]) ⟨hx, hb, hml, hown, y_nil⟩ (m_L_low l D ty base _ (v >>> ((9 : Int32) &&& 31)) 11   (by decide)) (y_cwS 2 (kw_1_220 hG) (kw_1_0 hG) (kw_1_218 hG) (kw_1_219 hG) yd_L_low ⟨Nat.le_of_ble_eq_true rfl, Nat.le_of_ble_eq_true rfl⟩) (y_preS hG h hAb [] rfl (by decide)) rfl rfl hl.1 rfl (lv_room (Nat.le_of_ble_eq_true rfl)) dL_act_703 ⟨Nat.le_of_ble_eq_true rfl, Nat.le_of_ble_eq_true rfl⟩) (fun r_703 _ H locs hp_703 h => ?_)
      have hp_703 : r_703 = qLow (v >>> ((9 : Int32) &&& 31)) 11 := hp_703
      have h : yH D AZ sZ.heap [] (X ++ []) _ _ := h
      rw [hp_703]
      refine lv_iadd hx hb dL_act_706 ?_
      refine lv_iload_n hx hb dL_act_707 rfl (lv_at hl 7 rfl) ?_
      refine lv_if_eq (tgt := 716) hx hb dL_act_708 (by decide) (fun c_708 => ?_) (fun c_708 => ?_)
      · skip
        refine lv_iload_n hx hb dL_act_716 rfl (lv_at hl 9 rfl) ?_
        refine lv_bipush (v := 11) hx hb dL_act_717 (by decide) ?_
        refine lv_ishr hx hb dL_act_719 ?_
        refine lv_iconst (v := 5) hx hb dL_act_720 (by decide) ?_
        refine y_calli (X' := fun _ : Unit => []) (wc := []) (wr := []) h hA [] [] [] rfl rfl (by decide) (by decide) (by decide) (fun _ => rfl) (va_runS (own := RL) (As := [.int (v >>> ((11 : Int32) &&& 31)), .int 5]) (rest := [.int ((7 : Int32) + (qLow (v >>> ((9 : Int32) &&& 31)) 11)), .int (qLow (v >>> ((7 : Int32) &&& 31)) 3), .ref yd]) ⟨hx, hb, hml, hown, y_nil⟩ (m_L_low l D ty base _ (v >>> ((11 : Int32) &&& 31)) 5   (by decide)) (y_cwS 2 (kw_1_220 hG) (kw_1_0 hG) (kw_1_218 hG) (kw_1_219 hG) yd_L_low ⟨Nat.le_of_ble_eq_true rfl, Nat.le_of_ble_eq_true rfl⟩) (y_preS hG h hAb [] rfl (by decide)) rfl rfl hl.1 rfl (lv_room (Nat.le_of_ble_eq_true rfl)) dL_act_721 ⟨Nat.le_of_ble_eq_true rfl, Nat.le_of_ble_eq_true rfl⟩) (fun r_721 _ H locs hp_721 h => ?_)
        have hp_721 : r_721 = qLow (v >>> ((11 : Int32) &&& 31)) 5 := hp_721
        have h : yH D AZ sZ.heap [] (X ++ []) _ _ := h
        rw [hp_721]
        have h : yH D AZ sZ.heap X [] _ _ := h.pl rfl
        refine q_calli h hA (vx_runSW (own := RL) (As := [.ref yd, .int (qLow (v >>> ((7 : Int32) &&& 31)) 3), .int ((7 : Int32) + (qLow (v >>> ((9 : Int32) &&& 31)) 11)), .int (qLow (v >>> ((11 : Int32) &&& 31)) 5)]) (rest := []) ⟨hx, hb, hml, hown, y_nil⟩ (q_line (l := l) (D := D) (ty := ty) (base := _) (sz := _) hl9 hq (qLow (v >>> ((7 : Int32) &&& 31)) 3) ((7 : Int32) + (qLow (v >>> ((9 : Int32) &&& 31)) 11)) (qLow (v >>> ((11 : Int32) &&& 31)) 5) ) (y_cwSW 4 (kw_3_126 hG) (kw_1_0 hG) (kw_3_124 hG) (kw_3_125 hG) yd_L_line ⟨Nat.le_of_ble_eq_true rfl, Nat.le_of_ble_eq_true rfl⟩) (q_preS hG h hAb) rfl rfl hl.1 rfl (lv_room (Nat.le_of_ble_eq_true rfl)) dL_act_724 ⟨Nat.le_of_ble_eq_true rfl, Nat.le_of_ble_eq_true rfl⟩) (fun r_724 X_724 H locs hp_724 h => ?_)
        obtain ⟨e_724, hq_724⟩ := hp_724
        have h : yH D AZ sZ.heap [] (X_724 ++ []) _ _ := h.pl rfl
        rw [e_724]
        refine lv_i2l hx hb dL_act_727 rfl ?_
        exact hret _ _ _ _ _ _ _ _ ⟨rfl, hq_724⟩ h (Nat.le_of_ble_eq_true rfl) (Nat.le_of_ble_eq_true rfl) dL_act_728
      · exact absurd (by decide) c_708
    · exact absurd (by decide) c_687

set_option maxHeartbeats 4000000 in
set_option maxRecDepth 100000 in
theorem ac_28_1 {l : Launch} {D : va_G} {ty : Nat → ClassId} {base sz : Nat} (hl9 : l.stackTraces = false) {yd : Nat} {σ : QS} {X : va_W} (hq : qY ty yd σ X) {v : Int32} (ho : qLow (v >>> (26 &&& 31)) 14 = 0) (hk : qLow v 46 = 28)  : Met l yL_act [.code yL_act cL_act 10 (some (.long))] rmA (yPc D ty base sz X [.ref yd, .int v]) (va_Ql (fun r X' => r = (aLine σ ((qLow (v >>> ((7 : Int32) &&& 31)) 13) - (2 : Int32)) ((qLow (v >>> ((11 : Int32) &&& 31)) 8) - (1 : Int32)) (v >>> ((8 : Int32) &&& 31))).toInt64 ∧ qY ty yd σ X') (yB D (va_A X sz) (fun X' : va_W => X')) (va_A X sz)) rmA.cells rmA.slots (va_A X sz) := by
  refine act_pre1 ho (fun pZ eZ sZ mZ aZ bZ tZ cZ AZ ls QZ H locs E h hl hret => ?_)
  · obtain ⟨hx, hb, hml, hown, hG, hA, hAb⟩ := E
    rw [hk]
    refine lv_tableIn (tgt := 683) (off := 477) hx hb dL_act_206 (by decide) (by decide) (by decide) (by decide) ?_
    refine lv_aload_n hx hb dL_act_683 rfl (lv_at hl 8 rfl) ?_
    refine lv_iload hx hb dL_act_684 (lv_at hl 5 rfl) ?_
    refine lv_iload_n hx hb dL_act_686 rfl (lv_at hl 7 rfl) ?_
    refine lv_if_eq (tgt := 695) hx hb dL_act_687 (by decide) (fun c_687 => ?_) (fun c_687 => ?_)
    · exact absurd c_687 (by decide)
    · skip
      refine lv_iload hx hb dL_act_690 (lv_at hl 0 rfl) ?_
      refine lv_goto (tgt := 707) hx hb dL_act_692 (by decide) ?_
      refine lv_iload_n hx hb dL_act_707 rfl (lv_at hl 7 rfl) ?_
      refine lv_if_eq (tgt := 716) hx hb dL_act_708 (by decide) (fun c_708 => ?_) (fun c_708 => ?_)
      · exact absurd c_708 (by decide)
      · skip
        refine lv_iload hx hb dL_act_711 (lv_at hl 3 rfl) ?_
        refine lv_goto (tgt := 724) hx hb dL_act_713 (by decide) ?_
        have h : yH D AZ sZ.heap X [] _ _ := h.pl rfl
        refine q_calli h hA (vx_runSW (own := RL) (As := [.ref yd, .int ((qLow (v >>> ((7 : Int32) &&& 31)) 13) - (2 : Int32)), .int ((qLow (v >>> ((11 : Int32) &&& 31)) 8) - (1 : Int32)), .int (v >>> ((8 : Int32) &&& 31))]) (rest := []) ⟨hx, hb, hml, hown, y_nil⟩ (q_line (l := l) (D := D) (ty := ty) (base := _) (sz := _) hl9 hq ((qLow (v >>> ((7 : Int32) &&& 31)) 13) - (2 : Int32)) ((qLow (v >>> ((11 : Int32) &&& 31)) 8) - (1 : Int32)) (v >>> ((8 : Int32) &&& 31)) ) (y_cwSW 4 (kw_3_126 hG) (kw_1_0 hG) (kw_3_124 hG) (kw_3_125 hG) yd_L_line ⟨Nat.le_of_ble_eq_true rfl, Nat.le_of_ble_eq_true rfl⟩) (q_preS hG h hAb) rfl rfl hl.1 rfl (lv_room (Nat.le_of_ble_eq_true rfl)) dL_act_724 ⟨Nat.le_of_ble_eq_true rfl, Nat.le_of_ble_eq_true rfl⟩) (fun r_724 X_724 H locs hp_724 h => ?_)
        obtain ⟨e_724, hq_724⟩ := hp_724
        have h : yH D AZ sZ.heap [] (X_724 ++ []) _ _ := h.pl rfl
        rw [e_724]
        refine lv_i2l hx hb dL_act_727 rfl ?_
        exact hret _ _ _ _ _ _ _ _ ⟨rfl, hq_724⟩ h (Nat.le_of_ble_eq_true rfl) (Nat.le_of_ble_eq_true rfl) dL_act_728

set_option maxHeartbeats 4000000 in
set_option maxRecDepth 100000 in
theorem ac_28_0 {l : Launch} {D : va_G} {ty : Nat → ClassId} {base sz : Nat} (hl9 : l.stackTraces = false) {yd : Nat} {σ : QS} {X : va_W} (hq : qY ty yd σ X) {v : Int32} (ho : ¬ qLow (v >>> (26 &&& 31)) 14 = 0) (hk : qLow v 46 = 28)  : Met l yL_act [.code yL_act cL_act 10 (some (.long))] rmA (yPc D ty base sz X [.ref yd, .int v]) (va_Ql (fun r X' => r = (aLine σ (qLow (v >>> ((7 : Int32) &&& 31)) 3) ((7 : Int32) + (qLow (v >>> ((9 : Int32) &&& 31)) 11)) (qLow (v >>> ((11 : Int32) &&& 31)) 5)).toInt64 ∧ qY ty yd σ X') (yB D (va_A X sz) (fun X' : va_W => X')) (va_A X sz)) rmA.cells rmA.slots (va_A X sz) := by
  refine act_pre0 ho (fun pZ eZ sZ mZ aZ bZ tZ cZ AZ ls QZ H locs E h hl hret => ?_)
  · obtain ⟨hx, hb, hml, hown, hG, hA, hAb⟩ := E
    rw [hk]
    refine lv_tableIn (tgt := 683) (off := 477) hx hb dL_act_206 (by decide) (by decide) (by decide) (by decide) ?_
    refine lv_aload_n hx hb dL_act_683 rfl (lv_at hl 8 rfl) ?_
    refine lv_iload hx hb dL_act_684 (lv_at hl 5 rfl) ?_
    refine lv_iload_n hx hb dL_act_686 rfl (lv_at hl 7 rfl) ?_
    refine lv_if_eq (tgt := 695) hx hb dL_act_687 (by decide) (fun c_687 => ?_) (fun c_687 => ?_)
    · skip
      refine lv_bipush (v := 7) hx hb dL_act_695 (by decide) ?_
      refine lv_iload_n hx hb dL_act_697 rfl (lv_at hl 9 rfl) ?_
      refine lv_bipush (v := 9) hx hb dL_act_698 (by decide) ?_
      refine lv_ishr hx hb dL_act_700 ?_
      refine lv_bipush (v := 11) hx hb dL_act_701 (by decide) ?_
      refine y_calli (X' := fun _ : Unit => []) (wc := []) (wr := []) h hA [] [] [] rfl rfl (by decide) (by decide) (by decide) (fun _ => rfl) (va_runS (own := RL) (As := [.int (v >>> ((9 : Int32) &&& 31)), .int 11]) (rest := [.int 7, .int (qLow (v >>> ((7 : Int32) &&& 31)) 3), .ref yd]) ⟨hx, hb, hml, hown, y_nil⟩ (m_L_low l D ty base _ (v >>> ((9 : Int32) &&& 31)) 11   (by decide)) (y_cwS 2 (kw_1_220 hG) (kw_1_0 hG) (kw_1_218 hG) (kw_1_219 hG) yd_L_low ⟨Nat.le_of_ble_eq_true rfl, Nat.le_of_ble_eq_true rfl⟩) (y_preS hG h hAb [] rfl (by decide)) rfl rfl hl.1 rfl (lv_room (Nat.le_of_ble_eq_true rfl)) dL_act_703 ⟨Nat.le_of_ble_eq_true rfl, Nat.le_of_ble_eq_true rfl⟩) (fun r_703 _ H locs hp_703 h => ?_)
      have hp_703 : r_703 = qLow (v >>> ((9 : Int32) &&& 31)) 11 := hp_703
      have h : yH D AZ sZ.heap [] (X ++ []) _ _ := h
      rw [hp_703]
      refine lv_iadd hx hb dL_act_706 ?_
      refine lv_iload_n hx hb dL_act_707 rfl (lv_at hl 7 rfl) ?_
      refine lv_if_eq (tgt := 716) hx hb dL_act_708 (by decide) (fun c_708 => ?_) (fun c_708 => ?_)
      · skip
        refine lv_iload_n hx hb dL_act_716 rfl (lv_at hl 9 rfl) ?_
        refine lv_bipush (v := 11) hx hb dL_act_717 (by decide) ?_
        refine lv_ishr hx hb dL_act_719 ?_
        refine lv_iconst (v := 5) hx hb dL_act_720 (by decide) ?_
        refine y_calli (X' := fun _ : Unit => []) (wc := []) (wr := []) h hA [] [] [] rfl rfl (by decide) (by decide) (by decide) (fun _ => rfl) (va_runS (own := RL) (As := [.int (v >>> ((11 : Int32) &&& 31)), .int 5]) (rest := [.int ((7 : Int32) + (qLow (v >>> ((9 : Int32) &&& 31)) 11)), .int (qLow (v >>> ((7 : Int32) &&& 31)) 3), .ref yd]) ⟨hx, hb, hml, hown, y_nil⟩ (m_L_low l D ty base _ (v >>> ((11 : Int32) &&& 31)) 5   (by decide)) (y_cwS 2 (kw_1_220 hG) (kw_1_0 hG) (kw_1_218 hG) (kw_1_219 hG) yd_L_low ⟨Nat.le_of_ble_eq_true rfl, Nat.le_of_ble_eq_true rfl⟩) (y_preS hG h hAb [] rfl (by decide)) rfl rfl hl.1 rfl (lv_room (Nat.le_of_ble_eq_true rfl)) dL_act_721 ⟨Nat.le_of_ble_eq_true rfl, Nat.le_of_ble_eq_true rfl⟩) (fun r_721 _ H locs hp_721 h => ?_)
        have hp_721 : r_721 = qLow (v >>> ((11 : Int32) &&& 31)) 5 := hp_721
        have h : yH D AZ sZ.heap [] (X ++ []) _ _ := h
        rw [hp_721]
        have h : yH D AZ sZ.heap X [] _ _ := h.pl rfl
        refine q_calli h hA (vx_runSW (own := RL) (As := [.ref yd, .int (qLow (v >>> ((7 : Int32) &&& 31)) 3), .int ((7 : Int32) + (qLow (v >>> ((9 : Int32) &&& 31)) 11)), .int (qLow (v >>> ((11 : Int32) &&& 31)) 5)]) (rest := []) ⟨hx, hb, hml, hown, y_nil⟩ (q_line (l := l) (D := D) (ty := ty) (base := _) (sz := _) hl9 hq (qLow (v >>> ((7 : Int32) &&& 31)) 3) ((7 : Int32) + (qLow (v >>> ((9 : Int32) &&& 31)) 11)) (qLow (v >>> ((11 : Int32) &&& 31)) 5) ) (y_cwSW 4 (kw_3_126 hG) (kw_1_0 hG) (kw_3_124 hG) (kw_3_125 hG) yd_L_line ⟨Nat.le_of_ble_eq_true rfl, Nat.le_of_ble_eq_true rfl⟩) (q_preS hG h hAb) rfl rfl hl.1 rfl (lv_room (Nat.le_of_ble_eq_true rfl)) dL_act_724 ⟨Nat.le_of_ble_eq_true rfl, Nat.le_of_ble_eq_true rfl⟩) (fun r_724 X_724 H locs hp_724 h => ?_)
        obtain ⟨e_724, hq_724⟩ := hp_724
        have h : yH D AZ sZ.heap [] (X_724 ++ []) _ _ := h.pl rfl
        rw [e_724]
        refine lv_i2l hx hb dL_act_727 rfl ?_
        exact hret _ _ _ _ _ _ _ _ ⟨rfl, hq_724⟩ h (Nat.le_of_ble_eq_true rfl) (Nat.le_of_ble_eq_true rfl) dL_act_728
      · exact absurd (by decide) c_708
    · exact absurd (by decide) c_687

set_option maxHeartbeats 4000000 in
set_option maxRecDepth 100000 in
theorem ac_29_1 {l : Launch} {D : va_G} {ty : Nat → ClassId} {base sz : Nat} (hl9 : l.stackTraces = false) {yd : Nat} {σ : QS} {X : va_W} (hq : qY ty yd σ X) {v : Int32} (ho : qLow (v >>> (26 &&& 31)) 14 = 0) (hk : qLow v 46 = 29)  : Met l yL_act [.code yL_act cL_act 10 (some (.long))] rmA (yPc D ty base sz X [.ref yd, .int v]) (va_Ql (fun r X' => r = (aRead σ ((qLow (v >>> ((7 : Int32) &&& 31)) 13) - (2 : Int32)) v ((qLow (v >>> ((11 : Int32) &&& 31)) 2000) - (1000 : Int32)) (v >>> ((5 : Int32) &&& 31))).toInt64 ∧ qY ty yd σ X') (yB D (va_A X sz) (fun X' : va_W => X')) (va_A X sz)) rmA.cells rmA.slots (va_A X sz) := by
  refine act_pre1 ho (fun pZ eZ sZ mZ aZ bZ tZ cZ AZ ls QZ H locs E h hl hret => ?_)
  · obtain ⟨hx, hb, hml, hown, hG, hA, hAb⟩ := E
    rw [hk]
    refine lv_tableIn (tgt := 729) (off := 523) hx hb dL_act_206 (by decide) (by decide) (by decide) (by decide) ?_
    refine lv_aload_n hx hb dL_act_729 rfl (lv_at hl 8 rfl) ?_
    refine lv_iload hx hb dL_act_730 (lv_at hl 5 rfl) ?_
    refine lv_iload_n hx hb dL_act_732 rfl (lv_at hl 7 rfl) ?_
    refine lv_if_eq (tgt := 740) hx hb dL_act_733 (by decide) (fun c_733 => ?_) (fun c_733 => ?_)
    · exact absurd c_733 (by decide)
    · skip
      refine lv_iload_n hx hb dL_act_736 rfl (lv_at hl 9 rfl) ?_
      refine lv_goto (tgt := 754) hx hb dL_act_737 (by decide) ?_
      refine lv_iload_n hx hb dL_act_754 rfl (lv_at hl 9 rfl) ?_
      refine lv_bipush (v := 11) hx hb dL_act_755 (by decide) ?_
      refine lv_ishr hx hb dL_act_757 ?_
      refine lv_sipush (v := 2000) hx hb dL_act_758 (by decide) ?_
      refine y_calli (X' := fun _ : Unit => []) (wc := []) (wr := []) h hA [] [] [] rfl rfl (by decide) (by decide) (by decide) (fun _ => rfl) (va_runS (own := RL) (As := [.int (v >>> ((11 : Int32) &&& 31)), .int 2000]) (rest := [.int v, .int ((qLow (v >>> ((7 : Int32) &&& 31)) 13) - (2 : Int32)), .ref yd]) ⟨hx, hb, hml, hown, y_nil⟩ (m_L_low l D ty base _ (v >>> ((11 : Int32) &&& 31)) 2000   (by decide)) (y_cwS 2 (kw_1_220 hG) (kw_1_0 hG) (kw_1_218 hG) (kw_1_219 hG) yd_L_low ⟨Nat.le_of_ble_eq_true rfl, Nat.le_of_ble_eq_true rfl⟩) (y_preS hG h hAb [] rfl (by decide)) rfl rfl hl.1 rfl (lv_room (Nat.le_of_ble_eq_true rfl)) dL_act_761 ⟨Nat.le_of_ble_eq_true rfl, Nat.le_of_ble_eq_true rfl⟩) (fun r_761 _ H locs hp_761 h => ?_)
      have hp_761 : r_761 = qLow (v >>> ((11 : Int32) &&& 31)) 2000 := hp_761
      have h : yH D AZ sZ.heap [] (X ++ []) _ _ := h
      rw [hp_761]
      refine lv_sipush (v := 1000) hx hb dL_act_764 (by decide) ?_
      refine lv_isub hx hb dL_act_767 ?_
      refine lv_iload hx hb dL_act_768 (lv_at hl 4 rfl) ?_
      have h : yH D AZ sZ.heap X [] _ _ := h.pl rfl
      refine q_calli h hA (vx_runSW (own := RL) (As := [.ref yd, .int ((qLow (v >>> ((7 : Int32) &&& 31)) 13) - (2 : Int32)), .int v, .int ((qLow (v >>> ((11 : Int32) &&& 31)) 2000) - (1000 : Int32)), .int (v >>> ((5 : Int32) &&& 31))]) (rest := []) ⟨hx, hb, hml, hown, y_nil⟩ (q_read (l := l) (D := D) (ty := ty) (base := _) (sz := _) hl9 hq ((qLow (v >>> ((7 : Int32) &&& 31)) 13) - (2 : Int32)) v ((qLow (v >>> ((11 : Int32) &&& 31)) 2000) - (1000 : Int32)) (v >>> ((5 : Int32) &&& 31)) ) (y_cwSW 5 (kw_3_141 hG) (kw_1_0 hG) (kw_3_139 hG) (kw_3_140 hG) yd_L_read ⟨Nat.le_of_ble_eq_true rfl, Nat.le_of_ble_eq_true rfl⟩) (q_preS hG h hAb) rfl rfl hl.1 rfl (lv_room (Nat.le_of_ble_eq_true rfl)) dL_act_770 ⟨Nat.le_of_ble_eq_true rfl, Nat.le_of_ble_eq_true rfl⟩) (fun r_770 X_770 H locs hp_770 h => ?_)
      obtain ⟨e_770, hq_770⟩ := hp_770
      have h : yH D AZ sZ.heap [] (X_770 ++ []) _ _ := h.pl rfl
      rw [e_770]
      refine lv_i2l hx hb dL_act_773 rfl ?_
      exact hret _ _ _ _ _ _ _ _ ⟨rfl, hq_770⟩ h (Nat.le_of_ble_eq_true rfl) (Nat.le_of_ble_eq_true rfl) dL_act_774

set_option maxHeartbeats 4000000 in
set_option maxRecDepth 100000 in
theorem ac_29_0 {l : Launch} {D : va_G} {ty : Nat → ClassId} {base sz : Nat} (hl9 : l.stackTraces = false) {yd : Nat} {σ : QS} {X : va_W} (hq : qY ty yd σ X) {v : Int32} (ho : ¬ qLow (v >>> (26 &&& 31)) 14 = 0) (hk : qLow v 46 = 29)  : Met l yL_act [.code yL_act cL_act 10 (some (.long))] rmA (yPc D ty base sz X [.ref yd, .int v]) (va_Ql (fun r X' => r = (aRead σ (qLow (v >>> ((7 : Int32) &&& 31)) 3) ((qLow (v >>> ((9 : Int32) &&& 31)) 2000) - (1000 : Int32)) ((qLow (v >>> ((11 : Int32) &&& 31)) 2000) - (1000 : Int32)) (qLow (v >>> ((5 : Int32) &&& 31)) 360)).toInt64 ∧ qY ty yd σ X') (yB D (va_A X sz) (fun X' : va_W => X')) (va_A X sz)) rmA.cells rmA.slots (va_A X sz) := by
  refine act_pre0 ho (fun pZ eZ sZ mZ aZ bZ tZ cZ AZ ls QZ H locs E h hl hret => ?_)
  · obtain ⟨hx, hb, hml, hown, hG, hA, hAb⟩ := E
    rw [hk]
    refine lv_tableIn (tgt := 729) (off := 523) hx hb dL_act_206 (by decide) (by decide) (by decide) (by decide) ?_
    refine lv_aload_n hx hb dL_act_729 rfl (lv_at hl 8 rfl) ?_
    refine lv_iload hx hb dL_act_730 (lv_at hl 5 rfl) ?_
    refine lv_iload_n hx hb dL_act_732 rfl (lv_at hl 7 rfl) ?_
    refine lv_if_eq (tgt := 740) hx hb dL_act_733 (by decide) (fun c_733 => ?_) (fun c_733 => ?_)
    · skip
      refine lv_iload_n hx hb dL_act_740 rfl (lv_at hl 9 rfl) ?_
      refine lv_bipush (v := 9) hx hb dL_act_741 (by decide) ?_
      refine lv_ishr hx hb dL_act_743 ?_
      refine lv_sipush (v := 2000) hx hb dL_act_744 (by decide) ?_
      refine y_calli (X' := fun _ : Unit => []) (wc := []) (wr := []) h hA [] [] [] rfl rfl (by decide) (by decide) (by decide) (fun _ => rfl) (va_runS (own := RL) (As := [.int (v >>> ((9 : Int32) &&& 31)), .int 2000]) (rest := [.int (qLow (v >>> ((7 : Int32) &&& 31)) 3), .ref yd]) ⟨hx, hb, hml, hown, y_nil⟩ (m_L_low l D ty base _ (v >>> ((9 : Int32) &&& 31)) 2000   (by decide)) (y_cwS 2 (kw_1_220 hG) (kw_1_0 hG) (kw_1_218 hG) (kw_1_219 hG) yd_L_low ⟨Nat.le_of_ble_eq_true rfl, Nat.le_of_ble_eq_true rfl⟩) (y_preS hG h hAb [] rfl (by decide)) rfl rfl hl.1 rfl (lv_room (Nat.le_of_ble_eq_true rfl)) dL_act_747 ⟨Nat.le_of_ble_eq_true rfl, Nat.le_of_ble_eq_true rfl⟩) (fun r_747 _ H locs hp_747 h => ?_)
      have hp_747 : r_747 = qLow (v >>> ((9 : Int32) &&& 31)) 2000 := hp_747
      have h : yH D AZ sZ.heap [] (X ++ []) _ _ := h
      rw [hp_747]
      refine lv_sipush (v := 1000) hx hb dL_act_750 (by decide) ?_
      refine lv_isub hx hb dL_act_753 ?_
      refine lv_iload_n hx hb dL_act_754 rfl (lv_at hl 9 rfl) ?_
      refine lv_bipush (v := 11) hx hb dL_act_755 (by decide) ?_
      refine lv_ishr hx hb dL_act_757 ?_
      refine lv_sipush (v := 2000) hx hb dL_act_758 (by decide) ?_
      refine y_calli (X' := fun _ : Unit => []) (wc := []) (wr := []) h hA [] [] [] rfl rfl (by decide) (by decide) (by decide) (fun _ => rfl) (va_runS (own := RL) (As := [.int (v >>> ((11 : Int32) &&& 31)), .int 2000]) (rest := [.int ((qLow (v >>> ((9 : Int32) &&& 31)) 2000) - (1000 : Int32)), .int (qLow (v >>> ((7 : Int32) &&& 31)) 3), .ref yd]) ⟨hx, hb, hml, hown, y_nil⟩ (m_L_low l D ty base _ (v >>> ((11 : Int32) &&& 31)) 2000   (by decide)) (y_cwS 2 (kw_1_220 hG) (kw_1_0 hG) (kw_1_218 hG) (kw_1_219 hG) yd_L_low ⟨Nat.le_of_ble_eq_true rfl, Nat.le_of_ble_eq_true rfl⟩) (y_preS hG h hAb [] rfl (by decide)) rfl rfl hl.1 rfl (lv_room (Nat.le_of_ble_eq_true rfl)) dL_act_761 ⟨Nat.le_of_ble_eq_true rfl, Nat.le_of_ble_eq_true rfl⟩) (fun r_761 _ H locs hp_761 h => ?_)
      have hp_761 : r_761 = qLow (v >>> ((11 : Int32) &&& 31)) 2000 := hp_761
      have h : yH D AZ sZ.heap [] (X ++ []) _ _ := h
      rw [hp_761]
      refine lv_sipush (v := 1000) hx hb dL_act_764 (by decide) ?_
      refine lv_isub hx hb dL_act_767 ?_
      refine lv_iload hx hb dL_act_768 (lv_at hl 4 rfl) ?_
      have h : yH D AZ sZ.heap X [] _ _ := h.pl rfl
      refine q_calli h hA (vx_runSW (own := RL) (As := [.ref yd, .int (qLow (v >>> ((7 : Int32) &&& 31)) 3), .int ((qLow (v >>> ((9 : Int32) &&& 31)) 2000) - (1000 : Int32)), .int ((qLow (v >>> ((11 : Int32) &&& 31)) 2000) - (1000 : Int32)), .int (qLow (v >>> ((5 : Int32) &&& 31)) 360)]) (rest := []) ⟨hx, hb, hml, hown, y_nil⟩ (q_read (l := l) (D := D) (ty := ty) (base := _) (sz := _) hl9 hq (qLow (v >>> ((7 : Int32) &&& 31)) 3) ((qLow (v >>> ((9 : Int32) &&& 31)) 2000) - (1000 : Int32)) ((qLow (v >>> ((11 : Int32) &&& 31)) 2000) - (1000 : Int32)) (qLow (v >>> ((5 : Int32) &&& 31)) 360) ) (y_cwSW 5 (kw_3_141 hG) (kw_1_0 hG) (kw_3_139 hG) (kw_3_140 hG) yd_L_read ⟨Nat.le_of_ble_eq_true rfl, Nat.le_of_ble_eq_true rfl⟩) (q_preS hG h hAb) rfl rfl hl.1 rfl (lv_room (Nat.le_of_ble_eq_true rfl)) dL_act_770 ⟨Nat.le_of_ble_eq_true rfl, Nat.le_of_ble_eq_true rfl⟩) (fun r_770 X_770 H locs hp_770 h => ?_)
      obtain ⟨e_770, hq_770⟩ := hp_770
      have h : yH D AZ sZ.heap [] (X_770 ++ []) _ _ := h.pl rfl
      rw [e_770]
      refine lv_i2l hx hb dL_act_773 rfl ?_
      exact hret _ _ _ _ _ _ _ _ ⟨rfl, hq_770⟩ h (Nat.le_of_ble_eq_true rfl) (Nat.le_of_ble_eq_true rfl) dL_act_774
    · exact absurd (by decide) c_733

set_option maxHeartbeats 4000000 in
set_option maxRecDepth 100000 in
theorem ac_30_1 {l : Launch} {D : va_G} {ty : Nat → ClassId} {base sz : Nat} (hl9 : l.stackTraces = false) {yd : Nat} {σ : QS} {X : va_W} (hq : qY ty yd σ X) {v : Int32} (ho : qLow (v >>> (26 &&& 31)) 14 = 0) (hk : qLow v 46 = 30)  : Met l yL_act [.code yL_act cL_act 10 (some (.long))] rmA (yPc D ty base sz X [.ref yd, .int v]) (va_Ql (fun r X' => r = (aRead σ ((qLow (v >>> ((7 : Int32) &&& 31)) 13) - (2 : Int32)) v ((qLow (v >>> ((11 : Int32) &&& 31)) 2000) - (1000 : Int32)) (v >>> ((5 : Int32) &&& 31))).toInt64 ∧ qY ty yd σ X') (yB D (va_A X sz) (fun X' : va_W => X')) (va_A X sz)) rmA.cells rmA.slots (va_A X sz) := by
  refine act_pre1 ho (fun pZ eZ sZ mZ aZ bZ tZ cZ AZ ls QZ H locs E h hl hret => ?_)
  · obtain ⟨hx, hb, hml, hown, hG, hA, hAb⟩ := E
    rw [hk]
    refine lv_tableIn (tgt := 729) (off := 523) hx hb dL_act_206 (by decide) (by decide) (by decide) (by decide) ?_
    refine lv_aload_n hx hb dL_act_729 rfl (lv_at hl 8 rfl) ?_
    refine lv_iload hx hb dL_act_730 (lv_at hl 5 rfl) ?_
    refine lv_iload_n hx hb dL_act_732 rfl (lv_at hl 7 rfl) ?_
    refine lv_if_eq (tgt := 740) hx hb dL_act_733 (by decide) (fun c_733 => ?_) (fun c_733 => ?_)
    · exact absurd c_733 (by decide)
    · skip
      refine lv_iload_n hx hb dL_act_736 rfl (lv_at hl 9 rfl) ?_
      refine lv_goto (tgt := 754) hx hb dL_act_737 (by decide) ?_
      refine lv_iload_n hx hb dL_act_754 rfl (lv_at hl 9 rfl) ?_
      refine lv_bipush (v := 11) hx hb dL_act_755 (by decide) ?_
      refine lv_ishr hx hb dL_act_757 ?_
      refine lv_sipush (v := 2000) hx hb dL_act_758 (by decide) ?_
      refine y_calli (X' := fun _ : Unit => []) (wc := []) (wr := []) h hA [] [] [] rfl rfl (by decide) (by decide) (by decide) (fun _ => rfl) (va_runS (own := RL) (As := [.int (v >>> ((11 : Int32) &&& 31)), .int 2000]) (rest := [.int v, .int ((qLow (v >>> ((7 : Int32) &&& 31)) 13) - (2 : Int32)), .ref yd]) ⟨hx, hb, hml, hown, y_nil⟩ (m_L_low l D ty base _ (v >>> ((11 : Int32) &&& 31)) 2000   (by decide)) (y_cwS 2 (kw_1_220 hG) (kw_1_0 hG) (kw_1_218 hG) (kw_1_219 hG) yd_L_low ⟨Nat.le_of_ble_eq_true rfl, Nat.le_of_ble_eq_true rfl⟩) (y_preS hG h hAb [] rfl (by decide)) rfl rfl hl.1 rfl (lv_room (Nat.le_of_ble_eq_true rfl)) dL_act_761 ⟨Nat.le_of_ble_eq_true rfl, Nat.le_of_ble_eq_true rfl⟩) (fun r_761 _ H locs hp_761 h => ?_)
      have hp_761 : r_761 = qLow (v >>> ((11 : Int32) &&& 31)) 2000 := hp_761
      have h : yH D AZ sZ.heap [] (X ++ []) _ _ := h
      rw [hp_761]
      refine lv_sipush (v := 1000) hx hb dL_act_764 (by decide) ?_
      refine lv_isub hx hb dL_act_767 ?_
      refine lv_iload hx hb dL_act_768 (lv_at hl 4 rfl) ?_
      have h : yH D AZ sZ.heap X [] _ _ := h.pl rfl
      refine q_calli h hA (vx_runSW (own := RL) (As := [.ref yd, .int ((qLow (v >>> ((7 : Int32) &&& 31)) 13) - (2 : Int32)), .int v, .int ((qLow (v >>> ((11 : Int32) &&& 31)) 2000) - (1000 : Int32)), .int (v >>> ((5 : Int32) &&& 31))]) (rest := []) ⟨hx, hb, hml, hown, y_nil⟩ (q_read (l := l) (D := D) (ty := ty) (base := _) (sz := _) hl9 hq ((qLow (v >>> ((7 : Int32) &&& 31)) 13) - (2 : Int32)) v ((qLow (v >>> ((11 : Int32) &&& 31)) 2000) - (1000 : Int32)) (v >>> ((5 : Int32) &&& 31)) ) (y_cwSW 5 (kw_3_141 hG) (kw_1_0 hG) (kw_3_139 hG) (kw_3_140 hG) yd_L_read ⟨Nat.le_of_ble_eq_true rfl, Nat.le_of_ble_eq_true rfl⟩) (q_preS hG h hAb) rfl rfl hl.1 rfl (lv_room (Nat.le_of_ble_eq_true rfl)) dL_act_770 ⟨Nat.le_of_ble_eq_true rfl, Nat.le_of_ble_eq_true rfl⟩) (fun r_770 X_770 H locs hp_770 h => ?_)
      obtain ⟨e_770, hq_770⟩ := hp_770
      have h : yH D AZ sZ.heap [] (X_770 ++ []) _ _ := h.pl rfl
      rw [e_770]
      refine lv_i2l hx hb dL_act_773 rfl ?_
      exact hret _ _ _ _ _ _ _ _ ⟨rfl, hq_770⟩ h (Nat.le_of_ble_eq_true rfl) (Nat.le_of_ble_eq_true rfl) dL_act_774

set_option maxHeartbeats 4000000 in
set_option maxRecDepth 100000 in
theorem ac_30_0 {l : Launch} {D : va_G} {ty : Nat → ClassId} {base sz : Nat} (hl9 : l.stackTraces = false) {yd : Nat} {σ : QS} {X : va_W} (hq : qY ty yd σ X) {v : Int32} (ho : ¬ qLow (v >>> (26 &&& 31)) 14 = 0) (hk : qLow v 46 = 30)  : Met l yL_act [.code yL_act cL_act 10 (some (.long))] rmA (yPc D ty base sz X [.ref yd, .int v]) (va_Ql (fun r X' => r = (aRead σ (qLow (v >>> ((7 : Int32) &&& 31)) 3) ((qLow (v >>> ((9 : Int32) &&& 31)) 2000) - (1000 : Int32)) ((qLow (v >>> ((11 : Int32) &&& 31)) 2000) - (1000 : Int32)) (qLow (v >>> ((5 : Int32) &&& 31)) 360)).toInt64 ∧ qY ty yd σ X') (yB D (va_A X sz) (fun X' : va_W => X')) (va_A X sz)) rmA.cells rmA.slots (va_A X sz) := by
  refine act_pre0 ho (fun pZ eZ sZ mZ aZ bZ tZ cZ AZ ls QZ H locs E h hl hret => ?_)
  · obtain ⟨hx, hb, hml, hown, hG, hA, hAb⟩ := E
    rw [hk]
    refine lv_tableIn (tgt := 729) (off := 523) hx hb dL_act_206 (by decide) (by decide) (by decide) (by decide) ?_
    refine lv_aload_n hx hb dL_act_729 rfl (lv_at hl 8 rfl) ?_
    refine lv_iload hx hb dL_act_730 (lv_at hl 5 rfl) ?_
    refine lv_iload_n hx hb dL_act_732 rfl (lv_at hl 7 rfl) ?_
    refine lv_if_eq (tgt := 740) hx hb dL_act_733 (by decide) (fun c_733 => ?_) (fun c_733 => ?_)
    · skip
      refine lv_iload_n hx hb dL_act_740 rfl (lv_at hl 9 rfl) ?_
      refine lv_bipush (v := 9) hx hb dL_act_741 (by decide) ?_
      refine lv_ishr hx hb dL_act_743 ?_
      refine lv_sipush (v := 2000) hx hb dL_act_744 (by decide) ?_
      refine y_calli (X' := fun _ : Unit => []) (wc := []) (wr := []) h hA [] [] [] rfl rfl (by decide) (by decide) (by decide) (fun _ => rfl) (va_runS (own := RL) (As := [.int (v >>> ((9 : Int32) &&& 31)), .int 2000]) (rest := [.int (qLow (v >>> ((7 : Int32) &&& 31)) 3), .ref yd]) ⟨hx, hb, hml, hown, y_nil⟩ (m_L_low l D ty base _ (v >>> ((9 : Int32) &&& 31)) 2000   (by decide)) (y_cwS 2 (kw_1_220 hG) (kw_1_0 hG) (kw_1_218 hG) (kw_1_219 hG) yd_L_low ⟨Nat.le_of_ble_eq_true rfl, Nat.le_of_ble_eq_true rfl⟩) (y_preS hG h hAb [] rfl (by decide)) rfl rfl hl.1 rfl (lv_room (Nat.le_of_ble_eq_true rfl)) dL_act_747 ⟨Nat.le_of_ble_eq_true rfl, Nat.le_of_ble_eq_true rfl⟩) (fun r_747 _ H locs hp_747 h => ?_)
      have hp_747 : r_747 = qLow (v >>> ((9 : Int32) &&& 31)) 2000 := hp_747
      have h : yH D AZ sZ.heap [] (X ++ []) _ _ := h
      rw [hp_747]
      refine lv_sipush (v := 1000) hx hb dL_act_750 (by decide) ?_
      refine lv_isub hx hb dL_act_753 ?_
      refine lv_iload_n hx hb dL_act_754 rfl (lv_at hl 9 rfl) ?_
      refine lv_bipush (v := 11) hx hb dL_act_755 (by decide) ?_
      refine lv_ishr hx hb dL_act_757 ?_
      refine lv_sipush (v := 2000) hx hb dL_act_758 (by decide) ?_
      refine y_calli (X' := fun _ : Unit => []) (wc := []) (wr := []) h hA [] [] [] rfl rfl (by decide) (by decide) (by decide) (fun _ => rfl) (va_runS (own := RL) (As := [.int (v >>> ((11 : Int32) &&& 31)), .int 2000]) (rest := [.int ((qLow (v >>> ((9 : Int32) &&& 31)) 2000) - (1000 : Int32)), .int (qLow (v >>> ((7 : Int32) &&& 31)) 3), .ref yd]) ⟨hx, hb, hml, hown, y_nil⟩ (m_L_low l D ty base _ (v >>> ((11 : Int32) &&& 31)) 2000   (by decide)) (y_cwS 2 (kw_1_220 hG) (kw_1_0 hG) (kw_1_218 hG) (kw_1_219 hG) yd_L_low ⟨Nat.le_of_ble_eq_true rfl, Nat.le_of_ble_eq_true rfl⟩) (y_preS hG h hAb [] rfl (by decide)) rfl rfl hl.1 rfl (lv_room (Nat.le_of_ble_eq_true rfl)) dL_act_761 ⟨Nat.le_of_ble_eq_true rfl, Nat.le_of_ble_eq_true rfl⟩) (fun r_761 _ H locs hp_761 h => ?_)
      have hp_761 : r_761 = qLow (v >>> ((11 : Int32) &&& 31)) 2000 := hp_761
      have h : yH D AZ sZ.heap [] (X ++ []) _ _ := h
      rw [hp_761]
      refine lv_sipush (v := 1000) hx hb dL_act_764 (by decide) ?_
      refine lv_isub hx hb dL_act_767 ?_
      refine lv_iload hx hb dL_act_768 (lv_at hl 4 rfl) ?_
      have h : yH D AZ sZ.heap X [] _ _ := h.pl rfl
      refine q_calli h hA (vx_runSW (own := RL) (As := [.ref yd, .int (qLow (v >>> ((7 : Int32) &&& 31)) 3), .int ((qLow (v >>> ((9 : Int32) &&& 31)) 2000) - (1000 : Int32)), .int ((qLow (v >>> ((11 : Int32) &&& 31)) 2000) - (1000 : Int32)), .int (qLow (v >>> ((5 : Int32) &&& 31)) 360)]) (rest := []) ⟨hx, hb, hml, hown, y_nil⟩ (q_read (l := l) (D := D) (ty := ty) (base := _) (sz := _) hl9 hq (qLow (v >>> ((7 : Int32) &&& 31)) 3) ((qLow (v >>> ((9 : Int32) &&& 31)) 2000) - (1000 : Int32)) ((qLow (v >>> ((11 : Int32) &&& 31)) 2000) - (1000 : Int32)) (qLow (v >>> ((5 : Int32) &&& 31)) 360) ) (y_cwSW 5 (kw_3_141 hG) (kw_1_0 hG) (kw_3_139 hG) (kw_3_140 hG) yd_L_read ⟨Nat.le_of_ble_eq_true rfl, Nat.le_of_ble_eq_true rfl⟩) (q_preS hG h hAb) rfl rfl hl.1 rfl (lv_room (Nat.le_of_ble_eq_true rfl)) dL_act_770 ⟨Nat.le_of_ble_eq_true rfl, Nat.le_of_ble_eq_true rfl⟩) (fun r_770 X_770 H locs hp_770 h => ?_)
      obtain ⟨e_770, hq_770⟩ := hp_770
      have h : yH D AZ sZ.heap [] (X_770 ++ []) _ _ := h.pl rfl
      rw [e_770]
      refine lv_i2l hx hb dL_act_773 rfl ?_
      exact hret _ _ _ _ _ _ _ _ ⟨rfl, hq_770⟩ h (Nat.le_of_ble_eq_true rfl) (Nat.le_of_ble_eq_true rfl) dL_act_774
    · exact absurd (by decide) c_733

set_option maxHeartbeats 4000000 in
set_option maxRecDepth 100000 in
theorem ac_31_1 {l : Launch} {D : va_G} {ty : Nat → ClassId} {base sz : Nat} (hl9 : l.stackTraces = false) {yd : Nat} {σ : QS} {X : va_W} (hq : qY ty yd σ X) {v : Int32} (ho : qLow (v >>> (26 &&& 31)) 14 = 0) (hk : qLow v 46 = 31)  : Met l yL_act [.code yL_act cL_act 10 (some (.long))] rmA (yPc D ty base sz X [.ref yd, .int v]) (va_Ql (fun r X' => r = (aTells σ ((qLow (v >>> ((7 : Int32) &&& 31)) 13) - (2 : Int32)) (v >>> ((5 : Int32) &&& 31)) (v >>> ((8 : Int32) &&& 31))).toInt64 ∧ qY ty yd σ X') (yB D (va_A X sz) (fun X' : va_W => X')) (va_A X sz)) rmA.cells rmA.slots (va_A X sz) := by
  refine act_pre1 ho (fun pZ eZ sZ mZ aZ bZ tZ cZ AZ ls QZ H locs E h hl hret => ?_)
  · obtain ⟨hx, hb, hml, hown, hG, hA, hAb⟩ := E
    rw [hk]
    refine lv_tableIn (tgt := 775) (off := 569) hx hb dL_act_206 (by decide) (by decide) (by decide) (by decide) ?_
    refine lv_aload_n hx hb dL_act_775 rfl (lv_at hl 8 rfl) ?_
    refine lv_iload hx hb dL_act_776 (lv_at hl 5 rfl) ?_
    refine lv_iload hx hb dL_act_778 (lv_at hl 4 rfl) ?_
    refine lv_iload hx hb dL_act_780 (lv_at hl 3 rfl) ?_
    have h : yH D AZ sZ.heap X [] _ _ := h.pl rfl
    refine q_calli h hA (vx_runSW (own := RL) (As := [.ref yd, .int ((qLow (v >>> ((7 : Int32) &&& 31)) 13) - (2 : Int32)), .int (v >>> ((5 : Int32) &&& 31)), .int (v >>> ((8 : Int32) &&& 31))]) (rest := []) ⟨hx, hb, hml, hown, y_nil⟩ (q_tells (l := l) (D := D) (ty := ty) (base := _) (sz := _) hl9 hq ((qLow (v >>> ((7 : Int32) &&& 31)) 13) - (2 : Int32)) (v >>> ((5 : Int32) &&& 31)) (v >>> ((8 : Int32) &&& 31)) ) (y_cwSW 4 (kw_3_166 hG) (kw_1_0 hG) (kw_3_164 hG) (kw_3_165 hG) yd_L_tells ⟨Nat.le_of_ble_eq_true rfl, Nat.le_of_ble_eq_true rfl⟩) (q_preS hG h hAb) rfl rfl hl.1 rfl (lv_room (Nat.le_of_ble_eq_true rfl)) dL_act_782 ⟨Nat.le_of_ble_eq_true rfl, Nat.le_of_ble_eq_true rfl⟩) (fun r_782 X_782 H locs hp_782 h => ?_)
    obtain ⟨e_782, hq_782⟩ := hp_782
    have h : yH D AZ sZ.heap [] (X_782 ++ []) _ _ := h.pl rfl
    rw [e_782]
    refine lv_i2l hx hb dL_act_785 rfl ?_
    exact hret _ _ _ _ _ _ _ _ ⟨rfl, hq_782⟩ h (Nat.le_of_ble_eq_true rfl) (Nat.le_of_ble_eq_true rfl) dL_act_786

set_option maxHeartbeats 4000000 in
set_option maxRecDepth 100000 in
theorem ac_31_0 {l : Launch} {D : va_G} {ty : Nat → ClassId} {base sz : Nat} (hl9 : l.stackTraces = false) {yd : Nat} {σ : QS} {X : va_W} (hq : qY ty yd σ X) {v : Int32} (ho : ¬ qLow (v >>> (26 &&& 31)) 14 = 0) (hk : qLow v 46 = 31)  : Met l yL_act [.code yL_act cL_act 10 (some (.long))] rmA (yPc D ty base sz X [.ref yd, .int v]) (va_Ql (fun r X' => r = (aTells σ (qLow (v >>> ((7 : Int32) &&& 31)) 3) (qLow (v >>> ((5 : Int32) &&& 31)) 360) ((60 : Int32) + (qLow (v >>> ((8 : Int32) &&& 31)) 240))).toInt64 ∧ qY ty yd σ X') (yB D (va_A X sz) (fun X' : va_W => X')) (va_A X sz)) rmA.cells rmA.slots (va_A X sz) := by
  refine act_pre0 ho (fun pZ eZ sZ mZ aZ bZ tZ cZ AZ ls QZ H locs E h hl hret => ?_)
  · obtain ⟨hx, hb, hml, hown, hG, hA, hAb⟩ := E
    rw [hk]
    refine lv_tableIn (tgt := 775) (off := 569) hx hb dL_act_206 (by decide) (by decide) (by decide) (by decide) ?_
    refine lv_aload_n hx hb dL_act_775 rfl (lv_at hl 8 rfl) ?_
    refine lv_iload hx hb dL_act_776 (lv_at hl 5 rfl) ?_
    refine lv_iload hx hb dL_act_778 (lv_at hl 4 rfl) ?_
    refine lv_iload hx hb dL_act_780 (lv_at hl 3 rfl) ?_
    have h : yH D AZ sZ.heap X [] _ _ := h.pl rfl
    refine q_calli h hA (vx_runSW (own := RL) (As := [.ref yd, .int (qLow (v >>> ((7 : Int32) &&& 31)) 3), .int (qLow (v >>> ((5 : Int32) &&& 31)) 360), .int ((60 : Int32) + (qLow (v >>> ((8 : Int32) &&& 31)) 240))]) (rest := []) ⟨hx, hb, hml, hown, y_nil⟩ (q_tells (l := l) (D := D) (ty := ty) (base := _) (sz := _) hl9 hq (qLow (v >>> ((7 : Int32) &&& 31)) 3) (qLow (v >>> ((5 : Int32) &&& 31)) 360) ((60 : Int32) + (qLow (v >>> ((8 : Int32) &&& 31)) 240)) ) (y_cwSW 4 (kw_3_166 hG) (kw_1_0 hG) (kw_3_164 hG) (kw_3_165 hG) yd_L_tells ⟨Nat.le_of_ble_eq_true rfl, Nat.le_of_ble_eq_true rfl⟩) (q_preS hG h hAb) rfl rfl hl.1 rfl (lv_room (Nat.le_of_ble_eq_true rfl)) dL_act_782 ⟨Nat.le_of_ble_eq_true rfl, Nat.le_of_ble_eq_true rfl⟩) (fun r_782 X_782 H locs hp_782 h => ?_)
    obtain ⟨e_782, hq_782⟩ := hp_782
    have h : yH D AZ sZ.heap [] (X_782 ++ []) _ _ := h.pl rfl
    rw [e_782]
    refine lv_i2l hx hb dL_act_785 rfl ?_
    exact hret _ _ _ _ _ _ _ _ ⟨rfl, hq_782⟩ h (Nat.le_of_ble_eq_true rfl) (Nat.le_of_ble_eq_true rfl) dL_act_786

set_option maxHeartbeats 4000000 in
set_option maxRecDepth 100000 in
theorem ac_32_1 {l : Launch} {D : va_G} {ty : Nat → ClassId} {base sz : Nat} (hl9 : l.stackTraces = false) {yd : Nat} {σ : QS} {X : va_W} (hq : qY ty yd σ X) {v : Int32} (ho : qLow (v >>> (26 &&& 31)) 14 = 0) (hk : qLow v 46 = 32)  : Met l yL_act [.code yL_act cL_act 10 (some (.long))] rmA (yPc D ty base sz X [.ref yd, .int v]) (va_Ql (fun r X' => r = (aTells σ ((qLow (v >>> ((7 : Int32) &&& 31)) 13) - (2 : Int32)) (v >>> ((5 : Int32) &&& 31)) (v >>> ((8 : Int32) &&& 31))).toInt64 ∧ qY ty yd σ X') (yB D (va_A X sz) (fun X' : va_W => X')) (va_A X sz)) rmA.cells rmA.slots (va_A X sz) := by
  refine act_pre1 ho (fun pZ eZ sZ mZ aZ bZ tZ cZ AZ ls QZ H locs E h hl hret => ?_)
  · obtain ⟨hx, hb, hml, hown, hG, hA, hAb⟩ := E
    rw [hk]
    refine lv_tableIn (tgt := 775) (off := 569) hx hb dL_act_206 (by decide) (by decide) (by decide) (by decide) ?_
    refine lv_aload_n hx hb dL_act_775 rfl (lv_at hl 8 rfl) ?_
    refine lv_iload hx hb dL_act_776 (lv_at hl 5 rfl) ?_
    refine lv_iload hx hb dL_act_778 (lv_at hl 4 rfl) ?_
    refine lv_iload hx hb dL_act_780 (lv_at hl 3 rfl) ?_
    have h : yH D AZ sZ.heap X [] _ _ := h.pl rfl
    refine q_calli h hA (vx_runSW (own := RL) (As := [.ref yd, .int ((qLow (v >>> ((7 : Int32) &&& 31)) 13) - (2 : Int32)), .int (v >>> ((5 : Int32) &&& 31)), .int (v >>> ((8 : Int32) &&& 31))]) (rest := []) ⟨hx, hb, hml, hown, y_nil⟩ (q_tells (l := l) (D := D) (ty := ty) (base := _) (sz := _) hl9 hq ((qLow (v >>> ((7 : Int32) &&& 31)) 13) - (2 : Int32)) (v >>> ((5 : Int32) &&& 31)) (v >>> ((8 : Int32) &&& 31)) ) (y_cwSW 4 (kw_3_166 hG) (kw_1_0 hG) (kw_3_164 hG) (kw_3_165 hG) yd_L_tells ⟨Nat.le_of_ble_eq_true rfl, Nat.le_of_ble_eq_true rfl⟩) (q_preS hG h hAb) rfl rfl hl.1 rfl (lv_room (Nat.le_of_ble_eq_true rfl)) dL_act_782 ⟨Nat.le_of_ble_eq_true rfl, Nat.le_of_ble_eq_true rfl⟩) (fun r_782 X_782 H locs hp_782 h => ?_)
    obtain ⟨e_782, hq_782⟩ := hp_782
    have h : yH D AZ sZ.heap [] (X_782 ++ []) _ _ := h.pl rfl
    rw [e_782]
    refine lv_i2l hx hb dL_act_785 rfl ?_
    exact hret _ _ _ _ _ _ _ _ ⟨rfl, hq_782⟩ h (Nat.le_of_ble_eq_true rfl) (Nat.le_of_ble_eq_true rfl) dL_act_786

set_option maxHeartbeats 4000000 in
set_option maxRecDepth 100000 in
theorem ac_32_0 {l : Launch} {D : va_G} {ty : Nat → ClassId} {base sz : Nat} (hl9 : l.stackTraces = false) {yd : Nat} {σ : QS} {X : va_W} (hq : qY ty yd σ X) {v : Int32} (ho : ¬ qLow (v >>> (26 &&& 31)) 14 = 0) (hk : qLow v 46 = 32)  : Met l yL_act [.code yL_act cL_act 10 (some (.long))] rmA (yPc D ty base sz X [.ref yd, .int v]) (va_Ql (fun r X' => r = (aTells σ (qLow (v >>> ((7 : Int32) &&& 31)) 3) (qLow (v >>> ((5 : Int32) &&& 31)) 360) ((60 : Int32) + (qLow (v >>> ((8 : Int32) &&& 31)) 240))).toInt64 ∧ qY ty yd σ X') (yB D (va_A X sz) (fun X' : va_W => X')) (va_A X sz)) rmA.cells rmA.slots (va_A X sz) := by
  refine act_pre0 ho (fun pZ eZ sZ mZ aZ bZ tZ cZ AZ ls QZ H locs E h hl hret => ?_)
  · obtain ⟨hx, hb, hml, hown, hG, hA, hAb⟩ := E
    rw [hk]
    refine lv_tableIn (tgt := 775) (off := 569) hx hb dL_act_206 (by decide) (by decide) (by decide) (by decide) ?_
    refine lv_aload_n hx hb dL_act_775 rfl (lv_at hl 8 rfl) ?_
    refine lv_iload hx hb dL_act_776 (lv_at hl 5 rfl) ?_
    refine lv_iload hx hb dL_act_778 (lv_at hl 4 rfl) ?_
    refine lv_iload hx hb dL_act_780 (lv_at hl 3 rfl) ?_
    have h : yH D AZ sZ.heap X [] _ _ := h.pl rfl
    refine q_calli h hA (vx_runSW (own := RL) (As := [.ref yd, .int (qLow (v >>> ((7 : Int32) &&& 31)) 3), .int (qLow (v >>> ((5 : Int32) &&& 31)) 360), .int ((60 : Int32) + (qLow (v >>> ((8 : Int32) &&& 31)) 240))]) (rest := []) ⟨hx, hb, hml, hown, y_nil⟩ (q_tells (l := l) (D := D) (ty := ty) (base := _) (sz := _) hl9 hq (qLow (v >>> ((7 : Int32) &&& 31)) 3) (qLow (v >>> ((5 : Int32) &&& 31)) 360) ((60 : Int32) + (qLow (v >>> ((8 : Int32) &&& 31)) 240)) ) (y_cwSW 4 (kw_3_166 hG) (kw_1_0 hG) (kw_3_164 hG) (kw_3_165 hG) yd_L_tells ⟨Nat.le_of_ble_eq_true rfl, Nat.le_of_ble_eq_true rfl⟩) (q_preS hG h hAb) rfl rfl hl.1 rfl (lv_room (Nat.le_of_ble_eq_true rfl)) dL_act_782 ⟨Nat.le_of_ble_eq_true rfl, Nat.le_of_ble_eq_true rfl⟩) (fun r_782 X_782 H locs hp_782 h => ?_)
    obtain ⟨e_782, hq_782⟩ := hp_782
    have h : yH D AZ sZ.heap [] (X_782 ++ []) _ _ := h.pl rfl
    rw [e_782]
    refine lv_i2l hx hb dL_act_785 rfl ?_
    exact hret _ _ _ _ _ _ _ _ ⟨rfl, hq_782⟩ h (Nat.le_of_ble_eq_true rfl) (Nat.le_of_ble_eq_true rfl) dL_act_786

set_option maxHeartbeats 4000000 in
set_option maxRecDepth 100000 in
theorem ac_33_1 {l : Launch} {D : va_G} {ty : Nat → ClassId} {base sz : Nat} (hl9 : l.stackTraces = false) {yd : Nat} {σ : QS} {X : va_W} (hq : qY ty yd σ X) {v : Int32} (ho : qLow (v >>> (26 &&& 31)) 14 = 0) (hk : qLow v 46 = 33)  : Met l yL_act [.code yL_act cL_act 10 (some (.long))] rmA (yPc D ty base sz X [.ref yd, .int v]) (va_Ql (fun r X' => r = (aTells σ ((qLow (v >>> ((7 : Int32) &&& 31)) 13) - (2 : Int32)) (v >>> ((5 : Int32) &&& 31)) (v >>> ((8 : Int32) &&& 31))).toInt64 ∧ qY ty yd σ X') (yB D (va_A X sz) (fun X' : va_W => X')) (va_A X sz)) rmA.cells rmA.slots (va_A X sz) := by
  refine act_pre1 ho (fun pZ eZ sZ mZ aZ bZ tZ cZ AZ ls QZ H locs E h hl hret => ?_)
  · obtain ⟨hx, hb, hml, hown, hG, hA, hAb⟩ := E
    rw [hk]
    refine lv_tableIn (tgt := 775) (off := 569) hx hb dL_act_206 (by decide) (by decide) (by decide) (by decide) ?_
    refine lv_aload_n hx hb dL_act_775 rfl (lv_at hl 8 rfl) ?_
    refine lv_iload hx hb dL_act_776 (lv_at hl 5 rfl) ?_
    refine lv_iload hx hb dL_act_778 (lv_at hl 4 rfl) ?_
    refine lv_iload hx hb dL_act_780 (lv_at hl 3 rfl) ?_
    have h : yH D AZ sZ.heap X [] _ _ := h.pl rfl
    refine q_calli h hA (vx_runSW (own := RL) (As := [.ref yd, .int ((qLow (v >>> ((7 : Int32) &&& 31)) 13) - (2 : Int32)), .int (v >>> ((5 : Int32) &&& 31)), .int (v >>> ((8 : Int32) &&& 31))]) (rest := []) ⟨hx, hb, hml, hown, y_nil⟩ (q_tells (l := l) (D := D) (ty := ty) (base := _) (sz := _) hl9 hq ((qLow (v >>> ((7 : Int32) &&& 31)) 13) - (2 : Int32)) (v >>> ((5 : Int32) &&& 31)) (v >>> ((8 : Int32) &&& 31)) ) (y_cwSW 4 (kw_3_166 hG) (kw_1_0 hG) (kw_3_164 hG) (kw_3_165 hG) yd_L_tells ⟨Nat.le_of_ble_eq_true rfl, Nat.le_of_ble_eq_true rfl⟩) (q_preS hG h hAb) rfl rfl hl.1 rfl (lv_room (Nat.le_of_ble_eq_true rfl)) dL_act_782 ⟨Nat.le_of_ble_eq_true rfl, Nat.le_of_ble_eq_true rfl⟩) (fun r_782 X_782 H locs hp_782 h => ?_)
    obtain ⟨e_782, hq_782⟩ := hp_782
    have h : yH D AZ sZ.heap [] (X_782 ++ []) _ _ := h.pl rfl
    rw [e_782]
    refine lv_i2l hx hb dL_act_785 rfl ?_
    exact hret _ _ _ _ _ _ _ _ ⟨rfl, hq_782⟩ h (Nat.le_of_ble_eq_true rfl) (Nat.le_of_ble_eq_true rfl) dL_act_786

set_option maxHeartbeats 4000000 in
set_option maxRecDepth 100000 in
theorem ac_33_0 {l : Launch} {D : va_G} {ty : Nat → ClassId} {base sz : Nat} (hl9 : l.stackTraces = false) {yd : Nat} {σ : QS} {X : va_W} (hq : qY ty yd σ X) {v : Int32} (ho : ¬ qLow (v >>> (26 &&& 31)) 14 = 0) (hk : qLow v 46 = 33)  : Met l yL_act [.code yL_act cL_act 10 (some (.long))] rmA (yPc D ty base sz X [.ref yd, .int v]) (va_Ql (fun r X' => r = (aTells σ (qLow (v >>> ((7 : Int32) &&& 31)) 3) (qLow (v >>> ((5 : Int32) &&& 31)) 360) ((60 : Int32) + (qLow (v >>> ((8 : Int32) &&& 31)) 240))).toInt64 ∧ qY ty yd σ X') (yB D (va_A X sz) (fun X' : va_W => X')) (va_A X sz)) rmA.cells rmA.slots (va_A X sz) := by
  refine act_pre0 ho (fun pZ eZ sZ mZ aZ bZ tZ cZ AZ ls QZ H locs E h hl hret => ?_)
  · obtain ⟨hx, hb, hml, hown, hG, hA, hAb⟩ := E
    rw [hk]
    refine lv_tableIn (tgt := 775) (off := 569) hx hb dL_act_206 (by decide) (by decide) (by decide) (by decide) ?_
    refine lv_aload_n hx hb dL_act_775 rfl (lv_at hl 8 rfl) ?_
    refine lv_iload hx hb dL_act_776 (lv_at hl 5 rfl) ?_
    refine lv_iload hx hb dL_act_778 (lv_at hl 4 rfl) ?_
    refine lv_iload hx hb dL_act_780 (lv_at hl 3 rfl) ?_
    have h : yH D AZ sZ.heap X [] _ _ := h.pl rfl
    refine q_calli h hA (vx_runSW (own := RL) (As := [.ref yd, .int (qLow (v >>> ((7 : Int32) &&& 31)) 3), .int (qLow (v >>> ((5 : Int32) &&& 31)) 360), .int ((60 : Int32) + (qLow (v >>> ((8 : Int32) &&& 31)) 240))]) (rest := []) ⟨hx, hb, hml, hown, y_nil⟩ (q_tells (l := l) (D := D) (ty := ty) (base := _) (sz := _) hl9 hq (qLow (v >>> ((7 : Int32) &&& 31)) 3) (qLow (v >>> ((5 : Int32) &&& 31)) 360) ((60 : Int32) + (qLow (v >>> ((8 : Int32) &&& 31)) 240)) ) (y_cwSW 4 (kw_3_166 hG) (kw_1_0 hG) (kw_3_164 hG) (kw_3_165 hG) yd_L_tells ⟨Nat.le_of_ble_eq_true rfl, Nat.le_of_ble_eq_true rfl⟩) (q_preS hG h hAb) rfl rfl hl.1 rfl (lv_room (Nat.le_of_ble_eq_true rfl)) dL_act_782 ⟨Nat.le_of_ble_eq_true rfl, Nat.le_of_ble_eq_true rfl⟩) (fun r_782 X_782 H locs hp_782 h => ?_)
    obtain ⟨e_782, hq_782⟩ := hp_782
    have h : yH D AZ sZ.heap [] (X_782 ++ []) _ _ := h.pl rfl
    rw [e_782]
    refine lv_i2l hx hb dL_act_785 rfl ?_
    exact hret _ _ _ _ _ _ _ _ ⟨rfl, hq_782⟩ h (Nat.le_of_ble_eq_true rfl) (Nat.le_of_ble_eq_true rfl) dL_act_786

set_option maxHeartbeats 4000000 in
set_option maxRecDepth 100000 in
theorem ac_34_1z {l : Launch} {D : va_G} {ty : Nat → ClassId} {base sz : Nat} (hl9 : l.stackTraces = false) {yd : Nat} {σ : QS} {X : va_W} (hq : qY ty yd σ X) {v : Int32} (ho : qLow (v >>> (26 &&& 31)) 14 = 0) (hk : qLow v 46 = 34) (hs : qLow (v >>> (9 &&& 31)) 6 = 0) : Met l yL_act [.code yL_act cL_act 10 (some (.long))] rmA (yPc D ty base sz X [.ref yd, .int v]) (va_Ql (fun r X' => r = (aWorst σ ((qLow (v >>> ((7 : Int32) &&& 31)) 13) - (2 : Int32)) (v >>> ((5 : Int32) &&& 31)) ((qLow (v >>> ((11 : Int32) &&& 31)) 8) - (1 : Int32))).toInt64 ∧ qY ty yd σ X') (yB D (va_A X sz) (fun X' : va_W => X')) (va_A X sz)) rmA.cells rmA.slots (va_A X sz) := by
  refine act_pre1 ho (fun pZ eZ sZ mZ aZ bZ tZ cZ AZ ls QZ H locs E h hl hret => ?_)
  · obtain ⟨hx, hb, hml, hown, hG, hA, hAb⟩ := E
    rw [hk]
    refine lv_tableIn (tgt := 787) (off := 581) hx hb dL_act_206 (by decide) (by decide) (by decide) (by decide) ?_
    refine lv_iload_n hx hb dL_act_787 rfl (lv_at hl 9 rfl) ?_
    refine lv_bipush (v := 9) hx hb dL_act_788 (by decide) ?_
    refine lv_ishr hx hb dL_act_790 ?_
    refine lv_bipush (v := 6) hx hb dL_act_791 (by decide) ?_
    refine y_calli (X' := fun _ : Unit => []) (wc := []) (wr := []) h hA [] [] [] rfl rfl (by decide) (by decide) (by decide) (fun _ => rfl) (va_runS (own := RL) (As := [.int (v >>> ((9 : Int32) &&& 31)), .int 6]) (rest := []) ⟨hx, hb, hml, hown, y_nil⟩ (m_L_low l D ty base _ (v >>> ((9 : Int32) &&& 31)) 6   (by decide)) (y_cwS 2 (kw_1_220 hG) (kw_1_0 hG) (kw_1_218 hG) (kw_1_219 hG) yd_L_low ⟨Nat.le_of_ble_eq_true rfl, Nat.le_of_ble_eq_true rfl⟩) (y_preS hG h hAb [] rfl (by decide)) rfl rfl hl.1 rfl (lv_room (Nat.le_of_ble_eq_true rfl)) dL_act_793 ⟨Nat.le_of_ble_eq_true rfl, Nat.le_of_ble_eq_true rfl⟩) (fun r_793 _ H locs hp_793 h => ?_)
    have hp_793 : r_793 = qLow (v >>> ((9 : Int32) &&& 31)) 6 := hp_793
    have h : yH D AZ sZ.heap [] (X ++ []) _ _ := h
    rw [hp_793]
    refine lv_if_ne (tgt := 821) hx hb dL_act_796 (by decide) (fun c_796 => ?_) (fun c_796 => ?_)
    · exact absurd hs c_796
    · skip
      refine lv_aload_n hx hb dL_act_799 rfl (lv_at hl 8 rfl) ?_
      refine lv_iload hx hb dL_act_800 (lv_at hl 5 rfl) ?_
      refine lv_iload hx hb dL_act_802 (lv_at hl 4 rfl) ?_
      refine lv_iload_n hx hb dL_act_804 rfl (lv_at hl 7 rfl) ?_
      refine lv_if_eq (tgt := 813) hx hb dL_act_805 (by decide) (fun c_805 => ?_) (fun c_805 => ?_)
      · exact absurd c_805 (by decide)
      · skip
        refine lv_iload hx hb dL_act_808 (lv_at hl 0 rfl) ?_
        refine lv_goto (tgt := 814) hx hb dL_act_810 (by decide) ?_
        have h : yH D AZ sZ.heap X [] _ _ := h.pl rfl
        refine q_calli h hA (vx_runSW (own := RL) (As := [.ref yd, .int ((qLow (v >>> ((7 : Int32) &&& 31)) 13) - (2 : Int32)), .int (v >>> ((5 : Int32) &&& 31)), .int ((qLow (v >>> ((11 : Int32) &&& 31)) 8) - (1 : Int32))]) (rest := []) ⟨hx, hb, hml, hown, y_nil⟩ (q_worst (l := l) (D := D) (ty := ty) (base := _) (sz := _) hl9 hq ((qLow (v >>> ((7 : Int32) &&& 31)) 13) - (2 : Int32)) (v >>> ((5 : Int32) &&& 31)) ((qLow (v >>> ((11 : Int32) &&& 31)) 8) - (1 : Int32)) ) (y_cwSW 4 (kw_3_177 hG) (kw_1_0 hG) (kw_3_175 hG) (kw_3_176 hG) yd_L_worst ⟨Nat.le_of_ble_eq_true rfl, Nat.le_of_ble_eq_true rfl⟩) (q_preS hG h hAb) rfl rfl hl.1 rfl (lv_room (Nat.le_of_ble_eq_true rfl)) dL_act_814 ⟨Nat.le_of_ble_eq_true rfl, Nat.le_of_ble_eq_true rfl⟩) (fun r_814 X_814 H locs hp_814 h => ?_)
        obtain ⟨e_814, hq_814⟩ := hp_814
        have h : yH D AZ sZ.heap [] (X_814 ++ []) _ _ := h.pl rfl
        rw [e_814]
        refine lv_i2l hx hb dL_act_817 rfl ?_
        refine lv_goto (tgt := 833) hx hb dL_act_818 (by decide) ?_
        exact hret _ _ _ _ _ _ _ _ ⟨rfl, hq_814⟩ h (Nat.le_of_ble_eq_true rfl) (Nat.le_of_ble_eq_true rfl) dL_act_833

set_option maxHeartbeats 4000000 in
set_option maxRecDepth 100000 in
theorem ac_34_1n {l : Launch} {D : va_G} {ty : Nat → ClassId} {base sz : Nat} (hl9 : l.stackTraces = false) {yd : Nat} {σ : QS} {X : va_W} (hq : qY ty yd σ X) {v : Int32} (ho : qLow (v >>> (26 &&& 31)) 14 = 0) (hk : qLow v 46 = 34) (hs : ¬ qLow (v >>> (9 &&& 31)) 6 = 0) : Met l yL_act [.code yL_act cL_act 10 (some (.long))] rmA (yPc D ty base sz X [.ref yd, .int v]) (va_Ql (fun r X' => r = (aTells σ ((qLow (v >>> ((7 : Int32) &&& 31)) 13) - (2 : Int32)) (v >>> ((5 : Int32) &&& 31)) 180).toInt64 ∧ qY ty yd σ X') (yB D (va_A X sz) (fun X' : va_W => X')) (va_A X sz)) rmA.cells rmA.slots (va_A X sz) := by
  refine act_pre1 ho (fun pZ eZ sZ mZ aZ bZ tZ cZ AZ ls QZ H locs E h hl hret => ?_)
  · obtain ⟨hx, hb, hml, hown, hG, hA, hAb⟩ := E
    rw [hk]
    refine lv_tableIn (tgt := 787) (off := 581) hx hb dL_act_206 (by decide) (by decide) (by decide) (by decide) ?_
    refine lv_iload_n hx hb dL_act_787 rfl (lv_at hl 9 rfl) ?_
    refine lv_bipush (v := 9) hx hb dL_act_788 (by decide) ?_
    refine lv_ishr hx hb dL_act_790 ?_
    refine lv_bipush (v := 6) hx hb dL_act_791 (by decide) ?_
    refine y_calli (X' := fun _ : Unit => []) (wc := []) (wr := []) h hA [] [] [] rfl rfl (by decide) (by decide) (by decide) (fun _ => rfl) (va_runS (own := RL) (As := [.int (v >>> ((9 : Int32) &&& 31)), .int 6]) (rest := []) ⟨hx, hb, hml, hown, y_nil⟩ (m_L_low l D ty base _ (v >>> ((9 : Int32) &&& 31)) 6   (by decide)) (y_cwS 2 (kw_1_220 hG) (kw_1_0 hG) (kw_1_218 hG) (kw_1_219 hG) yd_L_low ⟨Nat.le_of_ble_eq_true rfl, Nat.le_of_ble_eq_true rfl⟩) (y_preS hG h hAb [] rfl (by decide)) rfl rfl hl.1 rfl (lv_room (Nat.le_of_ble_eq_true rfl)) dL_act_793 ⟨Nat.le_of_ble_eq_true rfl, Nat.le_of_ble_eq_true rfl⟩) (fun r_793 _ H locs hp_793 h => ?_)
    have hp_793 : r_793 = qLow (v >>> ((9 : Int32) &&& 31)) 6 := hp_793
    have h : yH D AZ sZ.heap [] (X ++ []) _ _ := h
    rw [hp_793]
    refine lv_if_ne (tgt := 821) hx hb dL_act_796 (by decide) (fun c_796 => ?_) (fun c_796 => ?_)
    · skip
      refine lv_aload_n hx hb dL_act_821 rfl (lv_at hl 8 rfl) ?_
      refine lv_iload hx hb dL_act_822 (lv_at hl 5 rfl) ?_
      refine lv_iload hx hb dL_act_824 (lv_at hl 4 rfl) ?_
      refine lv_sipush (v := 180) hx hb dL_act_826 (by decide) ?_
      have h : yH D AZ sZ.heap X [] _ _ := h.pl rfl
      refine q_calli h hA (vx_runSW (own := RL) (As := [.ref yd, .int ((qLow (v >>> ((7 : Int32) &&& 31)) 13) - (2 : Int32)), .int (v >>> ((5 : Int32) &&& 31)), .int 180]) (rest := []) ⟨hx, hb, hml, hown, y_nil⟩ (q_tells (l := l) (D := D) (ty := ty) (base := _) (sz := _) hl9 hq ((qLow (v >>> ((7 : Int32) &&& 31)) 13) - (2 : Int32)) (v >>> ((5 : Int32) &&& 31)) 180 ) (y_cwSW 4 (kw_3_166 hG) (kw_1_0 hG) (kw_3_164 hG) (kw_3_165 hG) yd_L_tells ⟨Nat.le_of_ble_eq_true rfl, Nat.le_of_ble_eq_true rfl⟩) (q_preS hG h hAb) rfl rfl hl.1 rfl (lv_room (Nat.le_of_ble_eq_true rfl)) dL_act_829 ⟨Nat.le_of_ble_eq_true rfl, Nat.le_of_ble_eq_true rfl⟩) (fun r_829 X_829 H locs hp_829 h => ?_)
      obtain ⟨e_829, hq_829⟩ := hp_829
      have h : yH D AZ sZ.heap [] (X_829 ++ []) _ _ := h.pl rfl
      rw [e_829]
      refine lv_i2l hx hb dL_act_832 rfl ?_
      exact hret _ _ _ _ _ _ _ _ ⟨rfl, hq_829⟩ h (Nat.le_of_ble_eq_true rfl) (Nat.le_of_ble_eq_true rfl) dL_act_833
    · exact absurd c_796 hs

set_option maxHeartbeats 4000000 in
set_option maxRecDepth 100000 in
theorem ac_34_0z {l : Launch} {D : va_G} {ty : Nat → ClassId} {base sz : Nat} (hl9 : l.stackTraces = false) {yd : Nat} {σ : QS} {X : va_W} (hq : qY ty yd σ X) {v : Int32} (ho : ¬ qLow (v >>> (26 &&& 31)) 14 = 0) (hk : qLow v 46 = 34) (hs : qLow (v >>> (9 &&& 31)) 6 = 0) : Met l yL_act [.code yL_act cL_act 10 (some (.long))] rmA (yPc D ty base sz X [.ref yd, .int v]) (va_Ql (fun r X' => r = (aWorst σ (qLow (v >>> ((7 : Int32) &&& 31)) 3) (qLow (v >>> ((5 : Int32) &&& 31)) 360) 0).toInt64 ∧ qY ty yd σ X') (yB D (va_A X sz) (fun X' : va_W => X')) (va_A X sz)) rmA.cells rmA.slots (va_A X sz) := by
  refine act_pre0 ho (fun pZ eZ sZ mZ aZ bZ tZ cZ AZ ls QZ H locs E h hl hret => ?_)
  · obtain ⟨hx, hb, hml, hown, hG, hA, hAb⟩ := E
    rw [hk]
    refine lv_tableIn (tgt := 787) (off := 581) hx hb dL_act_206 (by decide) (by decide) (by decide) (by decide) ?_
    refine lv_iload_n hx hb dL_act_787 rfl (lv_at hl 9 rfl) ?_
    refine lv_bipush (v := 9) hx hb dL_act_788 (by decide) ?_
    refine lv_ishr hx hb dL_act_790 ?_
    refine lv_bipush (v := 6) hx hb dL_act_791 (by decide) ?_
    refine y_calli (X' := fun _ : Unit => []) (wc := []) (wr := []) h hA [] [] [] rfl rfl (by decide) (by decide) (by decide) (fun _ => rfl) (va_runS (own := RL) (As := [.int (v >>> ((9 : Int32) &&& 31)), .int 6]) (rest := []) ⟨hx, hb, hml, hown, y_nil⟩ (m_L_low l D ty base _ (v >>> ((9 : Int32) &&& 31)) 6   (by decide)) (y_cwS 2 (kw_1_220 hG) (kw_1_0 hG) (kw_1_218 hG) (kw_1_219 hG) yd_L_low ⟨Nat.le_of_ble_eq_true rfl, Nat.le_of_ble_eq_true rfl⟩) (y_preS hG h hAb [] rfl (by decide)) rfl rfl hl.1 rfl (lv_room (Nat.le_of_ble_eq_true rfl)) dL_act_793 ⟨Nat.le_of_ble_eq_true rfl, Nat.le_of_ble_eq_true rfl⟩) (fun r_793 _ H locs hp_793 h => ?_)
    have hp_793 : r_793 = qLow (v >>> ((9 : Int32) &&& 31)) 6 := hp_793
    have h : yH D AZ sZ.heap [] (X ++ []) _ _ := h
    rw [hp_793]
    refine lv_if_ne (tgt := 821) hx hb dL_act_796 (by decide) (fun c_796 => ?_) (fun c_796 => ?_)
    · exact absurd hs c_796
    · skip
      refine lv_aload_n hx hb dL_act_799 rfl (lv_at hl 8 rfl) ?_
      refine lv_iload hx hb dL_act_800 (lv_at hl 5 rfl) ?_
      refine lv_iload hx hb dL_act_802 (lv_at hl 4 rfl) ?_
      refine lv_iload_n hx hb dL_act_804 rfl (lv_at hl 7 rfl) ?_
      refine lv_if_eq (tgt := 813) hx hb dL_act_805 (by decide) (fun c_805 => ?_) (fun c_805 => ?_)
      · skip
        refine lv_iconst (v := 0) hx hb dL_act_813 (by decide) ?_
        have h : yH D AZ sZ.heap X [] _ _ := h.pl rfl
        refine q_calli h hA (vx_runSW (own := RL) (As := [.ref yd, .int (qLow (v >>> ((7 : Int32) &&& 31)) 3), .int (qLow (v >>> ((5 : Int32) &&& 31)) 360), .int 0]) (rest := []) ⟨hx, hb, hml, hown, y_nil⟩ (q_worst (l := l) (D := D) (ty := ty) (base := _) (sz := _) hl9 hq (qLow (v >>> ((7 : Int32) &&& 31)) 3) (qLow (v >>> ((5 : Int32) &&& 31)) 360) 0 ) (y_cwSW 4 (kw_3_177 hG) (kw_1_0 hG) (kw_3_175 hG) (kw_3_176 hG) yd_L_worst ⟨Nat.le_of_ble_eq_true rfl, Nat.le_of_ble_eq_true rfl⟩) (q_preS hG h hAb) rfl rfl hl.1 rfl (lv_room (Nat.le_of_ble_eq_true rfl)) dL_act_814 ⟨Nat.le_of_ble_eq_true rfl, Nat.le_of_ble_eq_true rfl⟩) (fun r_814 X_814 H locs hp_814 h => ?_)
        obtain ⟨e_814, hq_814⟩ := hp_814
        have h : yH D AZ sZ.heap [] (X_814 ++ []) _ _ := h.pl rfl
        rw [e_814]
        refine lv_i2l hx hb dL_act_817 rfl ?_
        refine lv_goto (tgt := 833) hx hb dL_act_818 (by decide) ?_
        exact hret _ _ _ _ _ _ _ _ ⟨rfl, hq_814⟩ h (Nat.le_of_ble_eq_true rfl) (Nat.le_of_ble_eq_true rfl) dL_act_833
      · exact absurd (by decide) c_805

set_option maxHeartbeats 4000000 in
set_option maxRecDepth 100000 in
theorem ac_34_0n {l : Launch} {D : va_G} {ty : Nat → ClassId} {base sz : Nat} (hl9 : l.stackTraces = false) {yd : Nat} {σ : QS} {X : va_W} (hq : qY ty yd σ X) {v : Int32} (ho : ¬ qLow (v >>> (26 &&& 31)) 14 = 0) (hk : qLow v 46 = 34) (hs : ¬ qLow (v >>> (9 &&& 31)) 6 = 0) : Met l yL_act [.code yL_act cL_act 10 (some (.long))] rmA (yPc D ty base sz X [.ref yd, .int v]) (va_Ql (fun r X' => r = (aTells σ (qLow (v >>> ((7 : Int32) &&& 31)) 3) (qLow (v >>> ((5 : Int32) &&& 31)) 360) 180).toInt64 ∧ qY ty yd σ X') (yB D (va_A X sz) (fun X' : va_W => X')) (va_A X sz)) rmA.cells rmA.slots (va_A X sz) := by
  refine act_pre0 ho (fun pZ eZ sZ mZ aZ bZ tZ cZ AZ ls QZ H locs E h hl hret => ?_)
  · obtain ⟨hx, hb, hml, hown, hG, hA, hAb⟩ := E
    rw [hk]
    refine lv_tableIn (tgt := 787) (off := 581) hx hb dL_act_206 (by decide) (by decide) (by decide) (by decide) ?_
    refine lv_iload_n hx hb dL_act_787 rfl (lv_at hl 9 rfl) ?_
    refine lv_bipush (v := 9) hx hb dL_act_788 (by decide) ?_
    refine lv_ishr hx hb dL_act_790 ?_
    refine lv_bipush (v := 6) hx hb dL_act_791 (by decide) ?_
    refine y_calli (X' := fun _ : Unit => []) (wc := []) (wr := []) h hA [] [] [] rfl rfl (by decide) (by decide) (by decide) (fun _ => rfl) (va_runS (own := RL) (As := [.int (v >>> ((9 : Int32) &&& 31)), .int 6]) (rest := []) ⟨hx, hb, hml, hown, y_nil⟩ (m_L_low l D ty base _ (v >>> ((9 : Int32) &&& 31)) 6   (by decide)) (y_cwS 2 (kw_1_220 hG) (kw_1_0 hG) (kw_1_218 hG) (kw_1_219 hG) yd_L_low ⟨Nat.le_of_ble_eq_true rfl, Nat.le_of_ble_eq_true rfl⟩) (y_preS hG h hAb [] rfl (by decide)) rfl rfl hl.1 rfl (lv_room (Nat.le_of_ble_eq_true rfl)) dL_act_793 ⟨Nat.le_of_ble_eq_true rfl, Nat.le_of_ble_eq_true rfl⟩) (fun r_793 _ H locs hp_793 h => ?_)
    have hp_793 : r_793 = qLow (v >>> ((9 : Int32) &&& 31)) 6 := hp_793
    have h : yH D AZ sZ.heap [] (X ++ []) _ _ := h
    rw [hp_793]
    refine lv_if_ne (tgt := 821) hx hb dL_act_796 (by decide) (fun c_796 => ?_) (fun c_796 => ?_)
    · skip
      refine lv_aload_n hx hb dL_act_821 rfl (lv_at hl 8 rfl) ?_
      refine lv_iload hx hb dL_act_822 (lv_at hl 5 rfl) ?_
      refine lv_iload hx hb dL_act_824 (lv_at hl 4 rfl) ?_
      refine lv_sipush (v := 180) hx hb dL_act_826 (by decide) ?_
      have h : yH D AZ sZ.heap X [] _ _ := h.pl rfl
      refine q_calli h hA (vx_runSW (own := RL) (As := [.ref yd, .int (qLow (v >>> ((7 : Int32) &&& 31)) 3), .int (qLow (v >>> ((5 : Int32) &&& 31)) 360), .int 180]) (rest := []) ⟨hx, hb, hml, hown, y_nil⟩ (q_tells (l := l) (D := D) (ty := ty) (base := _) (sz := _) hl9 hq (qLow (v >>> ((7 : Int32) &&& 31)) 3) (qLow (v >>> ((5 : Int32) &&& 31)) 360) 180 ) (y_cwSW 4 (kw_3_166 hG) (kw_1_0 hG) (kw_3_164 hG) (kw_3_165 hG) yd_L_tells ⟨Nat.le_of_ble_eq_true rfl, Nat.le_of_ble_eq_true rfl⟩) (q_preS hG h hAb) rfl rfl hl.1 rfl (lv_room (Nat.le_of_ble_eq_true rfl)) dL_act_829 ⟨Nat.le_of_ble_eq_true rfl, Nat.le_of_ble_eq_true rfl⟩) (fun r_829 X_829 H locs hp_829 h => ?_)
      obtain ⟨e_829, hq_829⟩ := hp_829
      have h : yH D AZ sZ.heap [] (X_829 ++ []) _ _ := h.pl rfl
      rw [e_829]
      refine lv_i2l hx hb dL_act_832 rfl ?_
      exact hret _ _ _ _ _ _ _ _ ⟨rfl, hq_829⟩ h (Nat.le_of_ble_eq_true rfl) (Nat.le_of_ble_eq_true rfl) dL_act_833
    · exact absurd c_796 hs

set_option maxHeartbeats 4000000 in
set_option maxRecDepth 100000 in
theorem ac_35_1z {l : Launch} {D : va_G} {ty : Nat → ClassId} {base sz : Nat} (hl9 : l.stackTraces = false) {yd : Nat} {σ : QS} {X : va_W} (hq : qY ty yd σ X) {v : Int32} (ho : qLow (v >>> (26 &&& 31)) 14 = 0) (hk : qLow v 46 = 35) (hs : qLow (v >>> (9 &&& 31)) 12 = 0) : Met l yL_act [.code yL_act cL_act 10 (some (.long))] rmA (yPc D ty base sz X [.ref yd, .int v]) (va_Ql (fun r X' => r = (aBest σ ((qLow (v >>> ((7 : Int32) &&& 31)) 13) - (2 : Int32)) ((qLow (v >>> ((4 : Int32) &&& 31)) 11) - (2 : Int32)) (v >>> ((9 : Int32) &&& 31))).toInt64 ∧ qY ty yd σ X') (yB D (va_A X sz) (fun X' : va_W => X')) (va_A X sz)) rmA.cells rmA.slots (va_A X sz) := by
  refine act_pre1 ho (fun pZ eZ sZ mZ aZ bZ tZ cZ AZ ls QZ H locs E h hl hret => ?_)
  · obtain ⟨hx, hb, hml, hown, hG, hA, hAb⟩ := E
    rw [hk]
    refine lv_tableIn (tgt := 834) (off := 628) hx hb dL_act_206 (by decide) (by decide) (by decide) (by decide) ?_
    refine lv_iload_n hx hb dL_act_834 rfl (lv_at hl 9 rfl) ?_
    refine lv_bipush (v := 9) hx hb dL_act_835 (by decide) ?_
    refine lv_ishr hx hb dL_act_837 ?_
    refine lv_bipush (v := 12) hx hb dL_act_838 (by decide) ?_
    refine y_calli (X' := fun _ : Unit => []) (wc := []) (wr := []) h hA [] [] [] rfl rfl (by decide) (by decide) (by decide) (fun _ => rfl) (va_runS (own := RL) (As := [.int (v >>> ((9 : Int32) &&& 31)), .int 12]) (rest := []) ⟨hx, hb, hml, hown, y_nil⟩ (m_L_low l D ty base _ (v >>> ((9 : Int32) &&& 31)) 12   (by decide)) (y_cwS 2 (kw_1_220 hG) (kw_1_0 hG) (kw_1_218 hG) (kw_1_219 hG) yd_L_low ⟨Nat.le_of_ble_eq_true rfl, Nat.le_of_ble_eq_true rfl⟩) (y_preS hG h hAb [] rfl (by decide)) rfl rfl hl.1 rfl (lv_room (Nat.le_of_ble_eq_true rfl)) dL_act_840 ⟨Nat.le_of_ble_eq_true rfl, Nat.le_of_ble_eq_true rfl⟩) (fun r_840 _ H locs hp_840 h => ?_)
    have hp_840 : r_840 = qLow (v >>> ((9 : Int32) &&& 31)) 12 := hp_840
    have h : yH D AZ sZ.heap [] (X ++ []) _ _ := h
    rw [hp_840]
    refine lv_if_ne (tgt := 859) hx hb dL_act_843 (by decide) (fun c_843 => ?_) (fun c_843 => ?_)
    · exact absurd hs c_843
    · skip
      refine lv_aload_n hx hb dL_act_846 rfl (lv_at hl 8 rfl) ?_
      refine lv_iload hx hb dL_act_847 (lv_at hl 5 rfl) ?_
      refine lv_iload_n hx hb dL_act_849 rfl (lv_at hl 6 rfl) ?_
      refine lv_iload hx hb dL_act_850 (lv_at hl 1 rfl) ?_
      have h : yH D AZ sZ.heap X [] _ _ := h.pl rfl
      refine q_calli h hA (vx_runSW (own := RL) (As := [.ref yd, .int ((qLow (v >>> ((7 : Int32) &&& 31)) 13) - (2 : Int32)), .int ((qLow (v >>> ((4 : Int32) &&& 31)) 11) - (2 : Int32)), .int (v >>> ((9 : Int32) &&& 31))]) (rest := []) ⟨hx, hb, hml, hown, y_nil⟩ (q_best (l := l) (D := D) (ty := ty) (base := _) (sz := _) hl9 hq ((qLow (v >>> ((7 : Int32) &&& 31)) 13) - (2 : Int32)) ((qLow (v >>> ((4 : Int32) &&& 31)) 11) - (2 : Int32)) (v >>> ((9 : Int32) &&& 31)) ) (y_cwSW 4 (kw_3_184 hG) (kw_1_0 hG) (kw_3_182 hG) (kw_3_183 hG) yd_L_best ⟨Nat.le_of_ble_eq_true rfl, Nat.le_of_ble_eq_true rfl⟩) (q_preS hG h hAb) rfl rfl hl.1 rfl (lv_room (Nat.le_of_ble_eq_true rfl)) dL_act_852 ⟨Nat.le_of_ble_eq_true rfl, Nat.le_of_ble_eq_true rfl⟩) (fun r_852 X_852 H locs hp_852 h => ?_)
      obtain ⟨e_852, hq_852⟩ := hp_852
      have h : yH D AZ sZ.heap [] (X_852 ++ []) _ _ := h.pl rfl
      rw [e_852]
      refine lv_i2l hx hb dL_act_855 rfl ?_
      refine lv_goto (tgt := 872) hx hb dL_act_856 (by decide) ?_
      exact hret _ _ _ _ _ _ _ _ ⟨rfl, hq_852⟩ h (Nat.le_of_ble_eq_true rfl) (Nat.le_of_ble_eq_true rfl) dL_act_872

set_option maxHeartbeats 4000000 in
set_option maxRecDepth 100000 in
theorem ac_35_1n {l : Launch} {D : va_G} {ty : Nat → ClassId} {base sz : Nat} (hl9 : l.stackTraces = false) {yd : Nat} {σ : QS} {X : va_W} (hq : qY ty yd σ X) {v : Int32} (ho : qLow (v >>> (26 &&& 31)) 14 = 0) (hk : qLow v 46 = 35) (hs : ¬ qLow (v >>> (9 &&& 31)) 12 = 0) : Met l yL_act [.code yL_act cL_act 10 (some (.long))] rmA (yPc D ty base sz X [.ref yd, .int v]) (va_Ql (fun r X' => r = (aShadow σ ((qLow (v >>> ((7 : Int32) &&& 31)) 13) - (2 : Int32)) (v >>> ((5 : Int32) &&& 31)) 180 0).toInt64 ∧ qY ty yd σ X') (yB D (va_A X sz) (fun X' : va_W => X')) (va_A X sz)) rmA.cells rmA.slots (va_A X sz) := by
  refine act_pre1 ho (fun pZ eZ sZ mZ aZ bZ tZ cZ AZ ls QZ H locs E h hl hret => ?_)
  · obtain ⟨hx, hb, hml, hown, hG, hA, hAb⟩ := E
    rw [hk]
    refine lv_tableIn (tgt := 834) (off := 628) hx hb dL_act_206 (by decide) (by decide) (by decide) (by decide) ?_
    refine lv_iload_n hx hb dL_act_834 rfl (lv_at hl 9 rfl) ?_
    refine lv_bipush (v := 9) hx hb dL_act_835 (by decide) ?_
    refine lv_ishr hx hb dL_act_837 ?_
    refine lv_bipush (v := 12) hx hb dL_act_838 (by decide) ?_
    refine y_calli (X' := fun _ : Unit => []) (wc := []) (wr := []) h hA [] [] [] rfl rfl (by decide) (by decide) (by decide) (fun _ => rfl) (va_runS (own := RL) (As := [.int (v >>> ((9 : Int32) &&& 31)), .int 12]) (rest := []) ⟨hx, hb, hml, hown, y_nil⟩ (m_L_low l D ty base _ (v >>> ((9 : Int32) &&& 31)) 12   (by decide)) (y_cwS 2 (kw_1_220 hG) (kw_1_0 hG) (kw_1_218 hG) (kw_1_219 hG) yd_L_low ⟨Nat.le_of_ble_eq_true rfl, Nat.le_of_ble_eq_true rfl⟩) (y_preS hG h hAb [] rfl (by decide)) rfl rfl hl.1 rfl (lv_room (Nat.le_of_ble_eq_true rfl)) dL_act_840 ⟨Nat.le_of_ble_eq_true rfl, Nat.le_of_ble_eq_true rfl⟩) (fun r_840 _ H locs hp_840 h => ?_)
    have hp_840 : r_840 = qLow (v >>> ((9 : Int32) &&& 31)) 12 := hp_840
    have h : yH D AZ sZ.heap [] (X ++ []) _ _ := h
    rw [hp_840]
    refine lv_if_ne (tgt := 859) hx hb dL_act_843 (by decide) (fun c_843 => ?_) (fun c_843 => ?_)
    · skip
      refine lv_aload_n hx hb dL_act_859 rfl (lv_at hl 8 rfl) ?_
      refine lv_iload hx hb dL_act_860 (lv_at hl 5 rfl) ?_
      refine lv_iload hx hb dL_act_862 (lv_at hl 4 rfl) ?_
      refine lv_sipush (v := 180) hx hb dL_act_864 (by decide) ?_
      refine lv_iconst (v := 0) hx hb dL_act_867 (by decide) ?_
      have h : yH D AZ sZ.heap X [] _ _ := h.pl rfl
      refine q_calli h hA (vx_runSW (own := RL) (As := [.ref yd, .int ((qLow (v >>> ((7 : Int32) &&& 31)) 13) - (2 : Int32)), .int (v >>> ((5 : Int32) &&& 31)), .int 180, .int 0]) (rest := []) ⟨hx, hb, hml, hown, y_nil⟩ (q_shadow (l := l) (D := D) (ty := ty) (base := _) (sz := _) hl9 hq ((qLow (v >>> ((7 : Int32) &&& 31)) 13) - (2 : Int32)) (v >>> ((5 : Int32) &&& 31)) 180 0 ) (y_cwSW 5 (kw_3_83 hG) (kw_1_0 hG) (kw_3_81 hG) (kw_3_82 hG) yd_L_shadow ⟨Nat.le_of_ble_eq_true rfl, Nat.le_of_ble_eq_true rfl⟩) (q_preS hG h hAb) rfl rfl hl.1 rfl (lv_room (Nat.le_of_ble_eq_true rfl)) dL_act_868 ⟨Nat.le_of_ble_eq_true rfl, Nat.le_of_ble_eq_true rfl⟩) (fun r_868 X_868 H locs hp_868 h => ?_)
      obtain ⟨e_868, hq_868⟩ := hp_868
      have h : yH D AZ sZ.heap [] (X_868 ++ []) _ _ := h.pl rfl
      rw [e_868]
      refine lv_i2l hx hb dL_act_871 rfl ?_
      exact hret _ _ _ _ _ _ _ _ ⟨rfl, hq_868⟩ h (Nat.le_of_ble_eq_true rfl) (Nat.le_of_ble_eq_true rfl) dL_act_872
    · exact absurd c_843 hs

set_option maxHeartbeats 4000000 in
set_option maxRecDepth 100000 in
theorem ac_35_0z {l : Launch} {D : va_G} {ty : Nat → ClassId} {base sz : Nat} (hl9 : l.stackTraces = false) {yd : Nat} {σ : QS} {X : va_W} (hq : qY ty yd σ X) {v : Int32} (ho : ¬ qLow (v >>> (26 &&& 31)) 14 = 0) (hk : qLow v 46 = 35) (hs : qLow (v >>> (9 &&& 31)) 12 = 0) : Met l yL_act [.code yL_act cL_act 10 (some (.long))] rmA (yPc D ty base sz X [.ref yd, .int v]) (va_Ql (fun r X' => r = (aBest σ (qLow (v >>> ((7 : Int32) &&& 31)) 3) (qLow (v >>> ((4 : Int32) &&& 31)) 3) ((qLow (v >>> ((9 : Int32) &&& 31)) 121) - (60 : Int32))).toInt64 ∧ qY ty yd σ X') (yB D (va_A X sz) (fun X' : va_W => X')) (va_A X sz)) rmA.cells rmA.slots (va_A X sz) := by
  refine act_pre0 ho (fun pZ eZ sZ mZ aZ bZ tZ cZ AZ ls QZ H locs E h hl hret => ?_)
  · obtain ⟨hx, hb, hml, hown, hG, hA, hAb⟩ := E
    rw [hk]
    refine lv_tableIn (tgt := 834) (off := 628) hx hb dL_act_206 (by decide) (by decide) (by decide) (by decide) ?_
    refine lv_iload_n hx hb dL_act_834 rfl (lv_at hl 9 rfl) ?_
    refine lv_bipush (v := 9) hx hb dL_act_835 (by decide) ?_
    refine lv_ishr hx hb dL_act_837 ?_
    refine lv_bipush (v := 12) hx hb dL_act_838 (by decide) ?_
    refine y_calli (X' := fun _ : Unit => []) (wc := []) (wr := []) h hA [] [] [] rfl rfl (by decide) (by decide) (by decide) (fun _ => rfl) (va_runS (own := RL) (As := [.int (v >>> ((9 : Int32) &&& 31)), .int 12]) (rest := []) ⟨hx, hb, hml, hown, y_nil⟩ (m_L_low l D ty base _ (v >>> ((9 : Int32) &&& 31)) 12   (by decide)) (y_cwS 2 (kw_1_220 hG) (kw_1_0 hG) (kw_1_218 hG) (kw_1_219 hG) yd_L_low ⟨Nat.le_of_ble_eq_true rfl, Nat.le_of_ble_eq_true rfl⟩) (y_preS hG h hAb [] rfl (by decide)) rfl rfl hl.1 rfl (lv_room (Nat.le_of_ble_eq_true rfl)) dL_act_840 ⟨Nat.le_of_ble_eq_true rfl, Nat.le_of_ble_eq_true rfl⟩) (fun r_840 _ H locs hp_840 h => ?_)
    have hp_840 : r_840 = qLow (v >>> ((9 : Int32) &&& 31)) 12 := hp_840
    have h : yH D AZ sZ.heap [] (X ++ []) _ _ := h
    rw [hp_840]
    refine lv_if_ne (tgt := 859) hx hb dL_act_843 (by decide) (fun c_843 => ?_) (fun c_843 => ?_)
    · exact absurd hs c_843
    · skip
      refine lv_aload_n hx hb dL_act_846 rfl (lv_at hl 8 rfl) ?_
      refine lv_iload hx hb dL_act_847 (lv_at hl 5 rfl) ?_
      refine lv_iload_n hx hb dL_act_849 rfl (lv_at hl 6 rfl) ?_
      refine lv_iload hx hb dL_act_850 (lv_at hl 1 rfl) ?_
      have h : yH D AZ sZ.heap X [] _ _ := h.pl rfl
      refine q_calli h hA (vx_runSW (own := RL) (As := [.ref yd, .int (qLow (v >>> ((7 : Int32) &&& 31)) 3), .int (qLow (v >>> ((4 : Int32) &&& 31)) 3), .int ((qLow (v >>> ((9 : Int32) &&& 31)) 121) - (60 : Int32))]) (rest := []) ⟨hx, hb, hml, hown, y_nil⟩ (q_best (l := l) (D := D) (ty := ty) (base := _) (sz := _) hl9 hq (qLow (v >>> ((7 : Int32) &&& 31)) 3) (qLow (v >>> ((4 : Int32) &&& 31)) 3) ((qLow (v >>> ((9 : Int32) &&& 31)) 121) - (60 : Int32)) ) (y_cwSW 4 (kw_3_184 hG) (kw_1_0 hG) (kw_3_182 hG) (kw_3_183 hG) yd_L_best ⟨Nat.le_of_ble_eq_true rfl, Nat.le_of_ble_eq_true rfl⟩) (q_preS hG h hAb) rfl rfl hl.1 rfl (lv_room (Nat.le_of_ble_eq_true rfl)) dL_act_852 ⟨Nat.le_of_ble_eq_true rfl, Nat.le_of_ble_eq_true rfl⟩) (fun r_852 X_852 H locs hp_852 h => ?_)
      obtain ⟨e_852, hq_852⟩ := hp_852
      have h : yH D AZ sZ.heap [] (X_852 ++ []) _ _ := h.pl rfl
      rw [e_852]
      refine lv_i2l hx hb dL_act_855 rfl ?_
      refine lv_goto (tgt := 872) hx hb dL_act_856 (by decide) ?_
      exact hret _ _ _ _ _ _ _ _ ⟨rfl, hq_852⟩ h (Nat.le_of_ble_eq_true rfl) (Nat.le_of_ble_eq_true rfl) dL_act_872

set_option maxHeartbeats 4000000 in
set_option maxRecDepth 100000 in
theorem ac_35_0n {l : Launch} {D : va_G} {ty : Nat → ClassId} {base sz : Nat} (hl9 : l.stackTraces = false) {yd : Nat} {σ : QS} {X : va_W} (hq : qY ty yd σ X) {v : Int32} (ho : ¬ qLow (v >>> (26 &&& 31)) 14 = 0) (hk : qLow v 46 = 35) (hs : ¬ qLow (v >>> (9 &&& 31)) 12 = 0) : Met l yL_act [.code yL_act cL_act 10 (some (.long))] rmA (yPc D ty base sz X [.ref yd, .int v]) (va_Ql (fun r X' => r = (aShadow σ (qLow (v >>> ((7 : Int32) &&& 31)) 3) (qLow (v >>> ((5 : Int32) &&& 31)) 360) 180 0).toInt64 ∧ qY ty yd σ X') (yB D (va_A X sz) (fun X' : va_W => X')) (va_A X sz)) rmA.cells rmA.slots (va_A X sz) := by
  refine act_pre0 ho (fun pZ eZ sZ mZ aZ bZ tZ cZ AZ ls QZ H locs E h hl hret => ?_)
  · obtain ⟨hx, hb, hml, hown, hG, hA, hAb⟩ := E
    rw [hk]
    refine lv_tableIn (tgt := 834) (off := 628) hx hb dL_act_206 (by decide) (by decide) (by decide) (by decide) ?_
    refine lv_iload_n hx hb dL_act_834 rfl (lv_at hl 9 rfl) ?_
    refine lv_bipush (v := 9) hx hb dL_act_835 (by decide) ?_
    refine lv_ishr hx hb dL_act_837 ?_
    refine lv_bipush (v := 12) hx hb dL_act_838 (by decide) ?_
    refine y_calli (X' := fun _ : Unit => []) (wc := []) (wr := []) h hA [] [] [] rfl rfl (by decide) (by decide) (by decide) (fun _ => rfl) (va_runS (own := RL) (As := [.int (v >>> ((9 : Int32) &&& 31)), .int 12]) (rest := []) ⟨hx, hb, hml, hown, y_nil⟩ (m_L_low l D ty base _ (v >>> ((9 : Int32) &&& 31)) 12   (by decide)) (y_cwS 2 (kw_1_220 hG) (kw_1_0 hG) (kw_1_218 hG) (kw_1_219 hG) yd_L_low ⟨Nat.le_of_ble_eq_true rfl, Nat.le_of_ble_eq_true rfl⟩) (y_preS hG h hAb [] rfl (by decide)) rfl rfl hl.1 rfl (lv_room (Nat.le_of_ble_eq_true rfl)) dL_act_840 ⟨Nat.le_of_ble_eq_true rfl, Nat.le_of_ble_eq_true rfl⟩) (fun r_840 _ H locs hp_840 h => ?_)
    have hp_840 : r_840 = qLow (v >>> ((9 : Int32) &&& 31)) 12 := hp_840
    have h : yH D AZ sZ.heap [] (X ++ []) _ _ := h
    rw [hp_840]
    refine lv_if_ne (tgt := 859) hx hb dL_act_843 (by decide) (fun c_843 => ?_) (fun c_843 => ?_)
    · skip
      refine lv_aload_n hx hb dL_act_859 rfl (lv_at hl 8 rfl) ?_
      refine lv_iload hx hb dL_act_860 (lv_at hl 5 rfl) ?_
      refine lv_iload hx hb dL_act_862 (lv_at hl 4 rfl) ?_
      refine lv_sipush (v := 180) hx hb dL_act_864 (by decide) ?_
      refine lv_iconst (v := 0) hx hb dL_act_867 (by decide) ?_
      have h : yH D AZ sZ.heap X [] _ _ := h.pl rfl
      refine q_calli h hA (vx_runSW (own := RL) (As := [.ref yd, .int (qLow (v >>> ((7 : Int32) &&& 31)) 3), .int (qLow (v >>> ((5 : Int32) &&& 31)) 360), .int 180, .int 0]) (rest := []) ⟨hx, hb, hml, hown, y_nil⟩ (q_shadow (l := l) (D := D) (ty := ty) (base := _) (sz := _) hl9 hq (qLow (v >>> ((7 : Int32) &&& 31)) 3) (qLow (v >>> ((5 : Int32) &&& 31)) 360) 180 0 ) (y_cwSW 5 (kw_3_83 hG) (kw_1_0 hG) (kw_3_81 hG) (kw_3_82 hG) yd_L_shadow ⟨Nat.le_of_ble_eq_true rfl, Nat.le_of_ble_eq_true rfl⟩) (q_preS hG h hAb) rfl rfl hl.1 rfl (lv_room (Nat.le_of_ble_eq_true rfl)) dL_act_868 ⟨Nat.le_of_ble_eq_true rfl, Nat.le_of_ble_eq_true rfl⟩) (fun r_868 X_868 H locs hp_868 h => ?_)
      obtain ⟨e_868, hq_868⟩ := hp_868
      have h : yH D AZ sZ.heap [] (X_868 ++ []) _ _ := h.pl rfl
      rw [e_868]
      refine lv_i2l hx hb dL_act_871 rfl ?_
      exact hret _ _ _ _ _ _ _ _ ⟨rfl, hq_868⟩ h (Nat.le_of_ble_eq_true rfl) (Nat.le_of_ble_eq_true rfl) dL_act_872
    · exact absurd c_843 hs

set_option maxHeartbeats 4000000 in
set_option maxRecDepth 100000 in
theorem ac_36_1 {l : Launch} {D : va_G} {ty : Nat → ClassId} {base sz : Nat} (hl9 : l.stackTraces = false) {yd : Nat} {σ : QS} {X : va_W} (hq : qY ty yd σ X) {v : Int32} (ho : qLow (v >>> (26 &&& 31)) 14 = 0) (hk : qLow v 46 = 36)  : Met l yL_act [.code yL_act cL_act 10 (some (.long))] rmA (yPc D ty base sz X [.ref yd, .int v]) (va_Ql (fun r X' => r = (aCut σ ((qLow (v >>> ((7 : Int32) &&& 31)) 13) - (2 : Int32)) ((qLow (v >>> ((11 : Int32) &&& 31)) 8) - (1 : Int32)) (v >>> ((8 : Int32) &&& 31))).toInt64 ∧ qY ty yd (nCut σ ((qLow (v >>> ((7 : Int32) &&& 31)) 13) - (2 : Int32)) ((qLow (v >>> ((11 : Int32) &&& 31)) 8) - (1 : Int32)) (v >>> ((8 : Int32) &&& 31))) X') (yB D (va_A X sz) (fun X' : va_W => X')) (va_A X sz)) rmA.cells rmA.slots (va_A X sz) := by
  refine act_pre1 ho (fun pZ eZ sZ mZ aZ bZ tZ cZ AZ ls QZ H locs E h hl hret => ?_)
  · obtain ⟨hx, hb, hml, hown, hG, hA, hAb⟩ := E
    rw [hk]
    refine lv_tableIn (tgt := 873) (off := 667) hx hb dL_act_206 (by decide) (by decide) (by decide) (by decide) ?_
    refine lv_aload_n hx hb dL_act_873 rfl (lv_at hl 8 rfl) ?_
    refine lv_iload hx hb dL_act_874 (lv_at hl 5 rfl) ?_
    refine lv_iload_n hx hb dL_act_876 rfl (lv_at hl 7 rfl) ?_
    refine lv_if_eq (tgt := 885) hx hb dL_act_877 (by decide) (fun c_877 => ?_) (fun c_877 => ?_)
    · exact absurd c_877 (by decide)
    · skip
      refine lv_iload hx hb dL_act_880 (lv_at hl 0 rfl) ?_
      refine lv_goto (tgt := 897) hx hb dL_act_882 (by decide) ?_
      refine lv_iload_n hx hb dL_act_897 rfl (lv_at hl 7 rfl) ?_
      refine lv_if_eq (tgt := 906) hx hb dL_act_898 (by decide) (fun c_898 => ?_) (fun c_898 => ?_)
      · exact absurd c_898 (by decide)
      · skip
        refine lv_iload hx hb dL_act_901 (lv_at hl 3 rfl) ?_
        refine lv_goto (tgt := 918) hx hb dL_act_903 (by decide) ?_
        have h : yH D AZ sZ.heap X [] _ _ := h.pl rfl
        refine q_calli h hA (vx_runSW (own := RL) (As := [.ref yd, .int ((qLow (v >>> ((7 : Int32) &&& 31)) 13) - (2 : Int32)), .int ((qLow (v >>> ((11 : Int32) &&& 31)) 8) - (1 : Int32)), .int (v >>> ((8 : Int32) &&& 31))]) (rest := []) ⟨hx, hb, hml, hown, y_nil⟩ (q_cut (l := l) (D := D) (ty := ty) (base := _) (sz := _) hl9 hq ((qLow (v >>> ((7 : Int32) &&& 31)) 13) - (2 : Int32)) ((qLow (v >>> ((11 : Int32) &&& 31)) 8) - (1 : Int32)) (v >>> ((8 : Int32) &&& 31)) ) (y_cwSW 4 (kw_3_203 hG) (kw_1_0 hG) (kw_3_201 hG) (kw_3_202 hG) yd_L_cut ⟨Nat.le_of_ble_eq_true rfl, Nat.le_of_ble_eq_true rfl⟩) (q_preS hG h hAb) rfl rfl hl.1 rfl (lv_room (Nat.le_of_ble_eq_true rfl)) dL_act_918 ⟨Nat.le_of_ble_eq_true rfl, Nat.le_of_ble_eq_true rfl⟩) (fun r_918 X_918 H locs hp_918 h => ?_)
        obtain ⟨e_918, hq_918⟩ := hp_918
        have h : yH D AZ sZ.heap [] (X_918 ++ []) _ _ := h.pl rfl
        rw [e_918]
        refine lv_i2l hx hb dL_act_921 rfl ?_
        exact hret _ _ _ _ _ _ _ _ ⟨rfl, hq_918⟩ h (Nat.le_of_ble_eq_true rfl) (Nat.le_of_ble_eq_true rfl) dL_act_922

set_option maxHeartbeats 4000000 in
set_option maxRecDepth 100000 in
theorem ac_36_0 {l : Launch} {D : va_G} {ty : Nat → ClassId} {base sz : Nat} (hl9 : l.stackTraces = false) {yd : Nat} {σ : QS} {X : va_W} (hq : qY ty yd σ X) {v : Int32} (ho : ¬ qLow (v >>> (26 &&& 31)) 14 = 0) (hk : qLow v 46 = 36)  : Met l yL_act [.code yL_act cL_act 10 (some (.long))] rmA (yPc D ty base sz X [.ref yd, .int v]) (va_Ql (fun r X' => r = (aCut σ (qLow (v >>> ((7 : Int32) &&& 31)) 3) ((7 : Int32) + (qLow (v >>> ((9 : Int32) &&& 31)) 11)) ((qLow (v >>> ((11 : Int32) &&& 31)) 101) - (50 : Int32))).toInt64 ∧ qY ty yd (nCut σ (qLow (v >>> ((7 : Int32) &&& 31)) 3) ((7 : Int32) + (qLow (v >>> ((9 : Int32) &&& 31)) 11)) ((qLow (v >>> ((11 : Int32) &&& 31)) 101) - (50 : Int32))) X') (yB D (va_A X sz) (fun X' : va_W => X')) (va_A X sz)) rmA.cells rmA.slots (va_A X sz) := by
  refine act_pre0 ho (fun pZ eZ sZ mZ aZ bZ tZ cZ AZ ls QZ H locs E h hl hret => ?_)
  · obtain ⟨hx, hb, hml, hown, hG, hA, hAb⟩ := E
    rw [hk]
    refine lv_tableIn (tgt := 873) (off := 667) hx hb dL_act_206 (by decide) (by decide) (by decide) (by decide) ?_
    refine lv_aload_n hx hb dL_act_873 rfl (lv_at hl 8 rfl) ?_
    refine lv_iload hx hb dL_act_874 (lv_at hl 5 rfl) ?_
    refine lv_iload_n hx hb dL_act_876 rfl (lv_at hl 7 rfl) ?_
    refine lv_if_eq (tgt := 885) hx hb dL_act_877 (by decide) (fun c_877 => ?_) (fun c_877 => ?_)
    · skip
      refine lv_bipush (v := 7) hx hb dL_act_885 (by decide) ?_
      refine lv_iload_n hx hb dL_act_887 rfl (lv_at hl 9 rfl) ?_
      refine lv_bipush (v := 9) hx hb dL_act_888 (by decide) ?_
      refine lv_ishr hx hb dL_act_890 ?_
      refine lv_bipush (v := 11) hx hb dL_act_891 (by decide) ?_
      refine y_calli (X' := fun _ : Unit => []) (wc := []) (wr := []) h hA [] [] [] rfl rfl (by decide) (by decide) (by decide) (fun _ => rfl) (va_runS (own := RL) (As := [.int (v >>> ((9 : Int32) &&& 31)), .int 11]) (rest := [.int 7, .int (qLow (v >>> ((7 : Int32) &&& 31)) 3), .ref yd]) ⟨hx, hb, hml, hown, y_nil⟩ (m_L_low l D ty base _ (v >>> ((9 : Int32) &&& 31)) 11   (by decide)) (y_cwS 2 (kw_1_220 hG) (kw_1_0 hG) (kw_1_218 hG) (kw_1_219 hG) yd_L_low ⟨Nat.le_of_ble_eq_true rfl, Nat.le_of_ble_eq_true rfl⟩) (y_preS hG h hAb [] rfl (by decide)) rfl rfl hl.1 rfl (lv_room (Nat.le_of_ble_eq_true rfl)) dL_act_893 ⟨Nat.le_of_ble_eq_true rfl, Nat.le_of_ble_eq_true rfl⟩) (fun r_893 _ H locs hp_893 h => ?_)
      have hp_893 : r_893 = qLow (v >>> ((9 : Int32) &&& 31)) 11 := hp_893
      have h : yH D AZ sZ.heap [] (X ++ []) _ _ := h
      rw [hp_893]
      refine lv_iadd hx hb dL_act_896 ?_
      refine lv_iload_n hx hb dL_act_897 rfl (lv_at hl 7 rfl) ?_
      refine lv_if_eq (tgt := 906) hx hb dL_act_898 (by decide) (fun c_898 => ?_) (fun c_898 => ?_)
      · skip
        refine lv_iload_n hx hb dL_act_906 rfl (lv_at hl 9 rfl) ?_
        refine lv_bipush (v := 11) hx hb dL_act_907 (by decide) ?_
        refine lv_ishr hx hb dL_act_909 ?_
        refine lv_bipush (v := 101) hx hb dL_act_910 (by decide) ?_
        refine y_calli (X' := fun _ : Unit => []) (wc := []) (wr := []) h hA [] [] [] rfl rfl (by decide) (by decide) (by decide) (fun _ => rfl) (va_runS (own := RL) (As := [.int (v >>> ((11 : Int32) &&& 31)), .int 101]) (rest := [.int ((7 : Int32) + (qLow (v >>> ((9 : Int32) &&& 31)) 11)), .int (qLow (v >>> ((7 : Int32) &&& 31)) 3), .ref yd]) ⟨hx, hb, hml, hown, y_nil⟩ (m_L_low l D ty base _ (v >>> ((11 : Int32) &&& 31)) 101   (by decide)) (y_cwS 2 (kw_1_220 hG) (kw_1_0 hG) (kw_1_218 hG) (kw_1_219 hG) yd_L_low ⟨Nat.le_of_ble_eq_true rfl, Nat.le_of_ble_eq_true rfl⟩) (y_preS hG h hAb [] rfl (by decide)) rfl rfl hl.1 rfl (lv_room (Nat.le_of_ble_eq_true rfl)) dL_act_912 ⟨Nat.le_of_ble_eq_true rfl, Nat.le_of_ble_eq_true rfl⟩) (fun r_912 _ H locs hp_912 h => ?_)
        have hp_912 : r_912 = qLow (v >>> ((11 : Int32) &&& 31)) 101 := hp_912
        have h : yH D AZ sZ.heap [] (X ++ []) _ _ := h
        rw [hp_912]
        refine lv_bipush (v := 50) hx hb dL_act_915 (by decide) ?_
        refine lv_isub hx hb dL_act_917 ?_
        have h : yH D AZ sZ.heap X [] _ _ := h.pl rfl
        refine q_calli h hA (vx_runSW (own := RL) (As := [.ref yd, .int (qLow (v >>> ((7 : Int32) &&& 31)) 3), .int ((7 : Int32) + (qLow (v >>> ((9 : Int32) &&& 31)) 11)), .int ((qLow (v >>> ((11 : Int32) &&& 31)) 101) - (50 : Int32))]) (rest := []) ⟨hx, hb, hml, hown, y_nil⟩ (q_cut (l := l) (D := D) (ty := ty) (base := _) (sz := _) hl9 hq (qLow (v >>> ((7 : Int32) &&& 31)) 3) ((7 : Int32) + (qLow (v >>> ((9 : Int32) &&& 31)) 11)) ((qLow (v >>> ((11 : Int32) &&& 31)) 101) - (50 : Int32)) ) (y_cwSW 4 (kw_3_203 hG) (kw_1_0 hG) (kw_3_201 hG) (kw_3_202 hG) yd_L_cut ⟨Nat.le_of_ble_eq_true rfl, Nat.le_of_ble_eq_true rfl⟩) (q_preS hG h hAb) rfl rfl hl.1 rfl (lv_room (Nat.le_of_ble_eq_true rfl)) dL_act_918 ⟨Nat.le_of_ble_eq_true rfl, Nat.le_of_ble_eq_true rfl⟩) (fun r_918 X_918 H locs hp_918 h => ?_)
        obtain ⟨e_918, hq_918⟩ := hp_918
        have h : yH D AZ sZ.heap [] (X_918 ++ []) _ _ := h.pl rfl
        rw [e_918]
        refine lv_i2l hx hb dL_act_921 rfl ?_
        exact hret _ _ _ _ _ _ _ _ ⟨rfl, hq_918⟩ h (Nat.le_of_ble_eq_true rfl) (Nat.le_of_ble_eq_true rfl) dL_act_922
      · exact absurd (by decide) c_898
    · exact absurd (by decide) c_877

set_option maxHeartbeats 4000000 in
set_option maxRecDepth 100000 in
theorem ac_37_1 {l : Launch} {D : va_G} {ty : Nat → ClassId} {base sz : Nat} (hl9 : l.stackTraces = false) {yd : Nat} {σ : QS} {X : va_W} (hq : qY ty yd σ X) {v : Int32} (ho : qLow (v >>> (26 &&& 31)) 14 = 0) (hk : qLow v 46 = 37)  : Met l yL_act [.code yL_act cL_act 10 (some (.long))] rmA (yPc D ty base sz X [.ref yd, .int v]) (va_Ql (fun r X' => r = (aCut σ ((qLow (v >>> ((7 : Int32) &&& 31)) 13) - (2 : Int32)) ((qLow (v >>> ((11 : Int32) &&& 31)) 8) - (1 : Int32)) (v >>> ((8 : Int32) &&& 31))).toInt64 ∧ qY ty yd (nCut σ ((qLow (v >>> ((7 : Int32) &&& 31)) 13) - (2 : Int32)) ((qLow (v >>> ((11 : Int32) &&& 31)) 8) - (1 : Int32)) (v >>> ((8 : Int32) &&& 31))) X') (yB D (va_A X sz) (fun X' : va_W => X')) (va_A X sz)) rmA.cells rmA.slots (va_A X sz) := by
  refine act_pre1 ho (fun pZ eZ sZ mZ aZ bZ tZ cZ AZ ls QZ H locs E h hl hret => ?_)
  · obtain ⟨hx, hb, hml, hown, hG, hA, hAb⟩ := E
    rw [hk]
    refine lv_tableIn (tgt := 873) (off := 667) hx hb dL_act_206 (by decide) (by decide) (by decide) (by decide) ?_
    refine lv_aload_n hx hb dL_act_873 rfl (lv_at hl 8 rfl) ?_
    refine lv_iload hx hb dL_act_874 (lv_at hl 5 rfl) ?_
    refine lv_iload_n hx hb dL_act_876 rfl (lv_at hl 7 rfl) ?_
    refine lv_if_eq (tgt := 885) hx hb dL_act_877 (by decide) (fun c_877 => ?_) (fun c_877 => ?_)
    · exact absurd c_877 (by decide)
    · skip
      refine lv_iload hx hb dL_act_880 (lv_at hl 0 rfl) ?_
      refine lv_goto (tgt := 897) hx hb dL_act_882 (by decide) ?_
      refine lv_iload_n hx hb dL_act_897 rfl (lv_at hl 7 rfl) ?_
      refine lv_if_eq (tgt := 906) hx hb dL_act_898 (by decide) (fun c_898 => ?_) (fun c_898 => ?_)
      · exact absurd c_898 (by decide)
      · skip
        refine lv_iload hx hb dL_act_901 (lv_at hl 3 rfl) ?_
        refine lv_goto (tgt := 918) hx hb dL_act_903 (by decide) ?_
        have h : yH D AZ sZ.heap X [] _ _ := h.pl rfl
        refine q_calli h hA (vx_runSW (own := RL) (As := [.ref yd, .int ((qLow (v >>> ((7 : Int32) &&& 31)) 13) - (2 : Int32)), .int ((qLow (v >>> ((11 : Int32) &&& 31)) 8) - (1 : Int32)), .int (v >>> ((8 : Int32) &&& 31))]) (rest := []) ⟨hx, hb, hml, hown, y_nil⟩ (q_cut (l := l) (D := D) (ty := ty) (base := _) (sz := _) hl9 hq ((qLow (v >>> ((7 : Int32) &&& 31)) 13) - (2 : Int32)) ((qLow (v >>> ((11 : Int32) &&& 31)) 8) - (1 : Int32)) (v >>> ((8 : Int32) &&& 31)) ) (y_cwSW 4 (kw_3_203 hG) (kw_1_0 hG) (kw_3_201 hG) (kw_3_202 hG) yd_L_cut ⟨Nat.le_of_ble_eq_true rfl, Nat.le_of_ble_eq_true rfl⟩) (q_preS hG h hAb) rfl rfl hl.1 rfl (lv_room (Nat.le_of_ble_eq_true rfl)) dL_act_918 ⟨Nat.le_of_ble_eq_true rfl, Nat.le_of_ble_eq_true rfl⟩) (fun r_918 X_918 H locs hp_918 h => ?_)
        obtain ⟨e_918, hq_918⟩ := hp_918
        have h : yH D AZ sZ.heap [] (X_918 ++ []) _ _ := h.pl rfl
        rw [e_918]
        refine lv_i2l hx hb dL_act_921 rfl ?_
        exact hret _ _ _ _ _ _ _ _ ⟨rfl, hq_918⟩ h (Nat.le_of_ble_eq_true rfl) (Nat.le_of_ble_eq_true rfl) dL_act_922

set_option maxHeartbeats 4000000 in
set_option maxRecDepth 100000 in
theorem ac_37_0 {l : Launch} {D : va_G} {ty : Nat → ClassId} {base sz : Nat} (hl9 : l.stackTraces = false) {yd : Nat} {σ : QS} {X : va_W} (hq : qY ty yd σ X) {v : Int32} (ho : ¬ qLow (v >>> (26 &&& 31)) 14 = 0) (hk : qLow v 46 = 37)  : Met l yL_act [.code yL_act cL_act 10 (some (.long))] rmA (yPc D ty base sz X [.ref yd, .int v]) (va_Ql (fun r X' => r = (aCut σ (qLow (v >>> ((7 : Int32) &&& 31)) 3) ((7 : Int32) + (qLow (v >>> ((9 : Int32) &&& 31)) 11)) ((qLow (v >>> ((11 : Int32) &&& 31)) 101) - (50 : Int32))).toInt64 ∧ qY ty yd (nCut σ (qLow (v >>> ((7 : Int32) &&& 31)) 3) ((7 : Int32) + (qLow (v >>> ((9 : Int32) &&& 31)) 11)) ((qLow (v >>> ((11 : Int32) &&& 31)) 101) - (50 : Int32))) X') (yB D (va_A X sz) (fun X' : va_W => X')) (va_A X sz)) rmA.cells rmA.slots (va_A X sz) := by
  refine act_pre0 ho (fun pZ eZ sZ mZ aZ bZ tZ cZ AZ ls QZ H locs E h hl hret => ?_)
  · obtain ⟨hx, hb, hml, hown, hG, hA, hAb⟩ := E
    rw [hk]
    refine lv_tableIn (tgt := 873) (off := 667) hx hb dL_act_206 (by decide) (by decide) (by decide) (by decide) ?_
    refine lv_aload_n hx hb dL_act_873 rfl (lv_at hl 8 rfl) ?_
    refine lv_iload hx hb dL_act_874 (lv_at hl 5 rfl) ?_
    refine lv_iload_n hx hb dL_act_876 rfl (lv_at hl 7 rfl) ?_
    refine lv_if_eq (tgt := 885) hx hb dL_act_877 (by decide) (fun c_877 => ?_) (fun c_877 => ?_)
    · skip
      refine lv_bipush (v := 7) hx hb dL_act_885 (by decide) ?_
      refine lv_iload_n hx hb dL_act_887 rfl (lv_at hl 9 rfl) ?_
      refine lv_bipush (v := 9) hx hb dL_act_888 (by decide) ?_
      refine lv_ishr hx hb dL_act_890 ?_
      refine lv_bipush (v := 11) hx hb dL_act_891 (by decide) ?_
      refine y_calli (X' := fun _ : Unit => []) (wc := []) (wr := []) h hA [] [] [] rfl rfl (by decide) (by decide) (by decide) (fun _ => rfl) (va_runS (own := RL) (As := [.int (v >>> ((9 : Int32) &&& 31)), .int 11]) (rest := [.int 7, .int (qLow (v >>> ((7 : Int32) &&& 31)) 3), .ref yd]) ⟨hx, hb, hml, hown, y_nil⟩ (m_L_low l D ty base _ (v >>> ((9 : Int32) &&& 31)) 11   (by decide)) (y_cwS 2 (kw_1_220 hG) (kw_1_0 hG) (kw_1_218 hG) (kw_1_219 hG) yd_L_low ⟨Nat.le_of_ble_eq_true rfl, Nat.le_of_ble_eq_true rfl⟩) (y_preS hG h hAb [] rfl (by decide)) rfl rfl hl.1 rfl (lv_room (Nat.le_of_ble_eq_true rfl)) dL_act_893 ⟨Nat.le_of_ble_eq_true rfl, Nat.le_of_ble_eq_true rfl⟩) (fun r_893 _ H locs hp_893 h => ?_)
      have hp_893 : r_893 = qLow (v >>> ((9 : Int32) &&& 31)) 11 := hp_893
      have h : yH D AZ sZ.heap [] (X ++ []) _ _ := h
      rw [hp_893]
      refine lv_iadd hx hb dL_act_896 ?_
      refine lv_iload_n hx hb dL_act_897 rfl (lv_at hl 7 rfl) ?_
      refine lv_if_eq (tgt := 906) hx hb dL_act_898 (by decide) (fun c_898 => ?_) (fun c_898 => ?_)
      · skip
        refine lv_iload_n hx hb dL_act_906 rfl (lv_at hl 9 rfl) ?_
        refine lv_bipush (v := 11) hx hb dL_act_907 (by decide) ?_
        refine lv_ishr hx hb dL_act_909 ?_
        refine lv_bipush (v := 101) hx hb dL_act_910 (by decide) ?_
        refine y_calli (X' := fun _ : Unit => []) (wc := []) (wr := []) h hA [] [] [] rfl rfl (by decide) (by decide) (by decide) (fun _ => rfl) (va_runS (own := RL) (As := [.int (v >>> ((11 : Int32) &&& 31)), .int 101]) (rest := [.int ((7 : Int32) + (qLow (v >>> ((9 : Int32) &&& 31)) 11)), .int (qLow (v >>> ((7 : Int32) &&& 31)) 3), .ref yd]) ⟨hx, hb, hml, hown, y_nil⟩ (m_L_low l D ty base _ (v >>> ((11 : Int32) &&& 31)) 101   (by decide)) (y_cwS 2 (kw_1_220 hG) (kw_1_0 hG) (kw_1_218 hG) (kw_1_219 hG) yd_L_low ⟨Nat.le_of_ble_eq_true rfl, Nat.le_of_ble_eq_true rfl⟩) (y_preS hG h hAb [] rfl (by decide)) rfl rfl hl.1 rfl (lv_room (Nat.le_of_ble_eq_true rfl)) dL_act_912 ⟨Nat.le_of_ble_eq_true rfl, Nat.le_of_ble_eq_true rfl⟩) (fun r_912 _ H locs hp_912 h => ?_)
        have hp_912 : r_912 = qLow (v >>> ((11 : Int32) &&& 31)) 101 := hp_912
        have h : yH D AZ sZ.heap [] (X ++ []) _ _ := h
        rw [hp_912]
        refine lv_bipush (v := 50) hx hb dL_act_915 (by decide) ?_
        refine lv_isub hx hb dL_act_917 ?_
        have h : yH D AZ sZ.heap X [] _ _ := h.pl rfl
        refine q_calli h hA (vx_runSW (own := RL) (As := [.ref yd, .int (qLow (v >>> ((7 : Int32) &&& 31)) 3), .int ((7 : Int32) + (qLow (v >>> ((9 : Int32) &&& 31)) 11)), .int ((qLow (v >>> ((11 : Int32) &&& 31)) 101) - (50 : Int32))]) (rest := []) ⟨hx, hb, hml, hown, y_nil⟩ (q_cut (l := l) (D := D) (ty := ty) (base := _) (sz := _) hl9 hq (qLow (v >>> ((7 : Int32) &&& 31)) 3) ((7 : Int32) + (qLow (v >>> ((9 : Int32) &&& 31)) 11)) ((qLow (v >>> ((11 : Int32) &&& 31)) 101) - (50 : Int32)) ) (y_cwSW 4 (kw_3_203 hG) (kw_1_0 hG) (kw_3_201 hG) (kw_3_202 hG) yd_L_cut ⟨Nat.le_of_ble_eq_true rfl, Nat.le_of_ble_eq_true rfl⟩) (q_preS hG h hAb) rfl rfl hl.1 rfl (lv_room (Nat.le_of_ble_eq_true rfl)) dL_act_918 ⟨Nat.le_of_ble_eq_true rfl, Nat.le_of_ble_eq_true rfl⟩) (fun r_918 X_918 H locs hp_918 h => ?_)
        obtain ⟨e_918, hq_918⟩ := hp_918
        have h : yH D AZ sZ.heap [] (X_918 ++ []) _ _ := h.pl rfl
        rw [e_918]
        refine lv_i2l hx hb dL_act_921 rfl ?_
        exact hret _ _ _ _ _ _ _ _ ⟨rfl, hq_918⟩ h (Nat.le_of_ble_eq_true rfl) (Nat.le_of_ble_eq_true rfl) dL_act_922
      · exact absurd (by decide) c_898
    · exact absurd (by decide) c_877

set_option maxHeartbeats 4000000 in
set_option maxRecDepth 100000 in
theorem ac_38_1 {l : Launch} {D : va_G} {ty : Nat → ClassId} {base sz : Nat} (hl9 : l.stackTraces = false) {yd : Nat} {σ : QS} {X : va_W} (hq : qY ty yd σ X) {v : Int32} (ho : qLow (v >>> (26 &&& 31)) 14 = 0) (hk : qLow v 46 = 38)  : Met l yL_act [.code yL_act cL_act 10 (some (.long))] rmA (yPc D ty base sz X [.ref yd, .int v]) (va_Ql (fun r X' => r = (aCut σ ((qLow (v >>> ((7 : Int32) &&& 31)) 13) - (2 : Int32)) ((qLow (v >>> ((11 : Int32) &&& 31)) 8) - (1 : Int32)) (v >>> ((8 : Int32) &&& 31))).toInt64 ∧ qY ty yd (nCut σ ((qLow (v >>> ((7 : Int32) &&& 31)) 13) - (2 : Int32)) ((qLow (v >>> ((11 : Int32) &&& 31)) 8) - (1 : Int32)) (v >>> ((8 : Int32) &&& 31))) X') (yB D (va_A X sz) (fun X' : va_W => X')) (va_A X sz)) rmA.cells rmA.slots (va_A X sz) := by
  refine act_pre1 ho (fun pZ eZ sZ mZ aZ bZ tZ cZ AZ ls QZ H locs E h hl hret => ?_)
  · obtain ⟨hx, hb, hml, hown, hG, hA, hAb⟩ := E
    rw [hk]
    refine lv_tableIn (tgt := 873) (off := 667) hx hb dL_act_206 (by decide) (by decide) (by decide) (by decide) ?_
    refine lv_aload_n hx hb dL_act_873 rfl (lv_at hl 8 rfl) ?_
    refine lv_iload hx hb dL_act_874 (lv_at hl 5 rfl) ?_
    refine lv_iload_n hx hb dL_act_876 rfl (lv_at hl 7 rfl) ?_
    refine lv_if_eq (tgt := 885) hx hb dL_act_877 (by decide) (fun c_877 => ?_) (fun c_877 => ?_)
    · exact absurd c_877 (by decide)
    · skip
      refine lv_iload hx hb dL_act_880 (lv_at hl 0 rfl) ?_
      refine lv_goto (tgt := 897) hx hb dL_act_882 (by decide) ?_
      refine lv_iload_n hx hb dL_act_897 rfl (lv_at hl 7 rfl) ?_
      refine lv_if_eq (tgt := 906) hx hb dL_act_898 (by decide) (fun c_898 => ?_) (fun c_898 => ?_)
      · exact absurd c_898 (by decide)
      · skip
        refine lv_iload hx hb dL_act_901 (lv_at hl 3 rfl) ?_
        refine lv_goto (tgt := 918) hx hb dL_act_903 (by decide) ?_
        have h : yH D AZ sZ.heap X [] _ _ := h.pl rfl
        refine q_calli h hA (vx_runSW (own := RL) (As := [.ref yd, .int ((qLow (v >>> ((7 : Int32) &&& 31)) 13) - (2 : Int32)), .int ((qLow (v >>> ((11 : Int32) &&& 31)) 8) - (1 : Int32)), .int (v >>> ((8 : Int32) &&& 31))]) (rest := []) ⟨hx, hb, hml, hown, y_nil⟩ (q_cut (l := l) (D := D) (ty := ty) (base := _) (sz := _) hl9 hq ((qLow (v >>> ((7 : Int32) &&& 31)) 13) - (2 : Int32)) ((qLow (v >>> ((11 : Int32) &&& 31)) 8) - (1 : Int32)) (v >>> ((8 : Int32) &&& 31)) ) (y_cwSW 4 (kw_3_203 hG) (kw_1_0 hG) (kw_3_201 hG) (kw_3_202 hG) yd_L_cut ⟨Nat.le_of_ble_eq_true rfl, Nat.le_of_ble_eq_true rfl⟩) (q_preS hG h hAb) rfl rfl hl.1 rfl (lv_room (Nat.le_of_ble_eq_true rfl)) dL_act_918 ⟨Nat.le_of_ble_eq_true rfl, Nat.le_of_ble_eq_true rfl⟩) (fun r_918 X_918 H locs hp_918 h => ?_)
        obtain ⟨e_918, hq_918⟩ := hp_918
        have h : yH D AZ sZ.heap [] (X_918 ++ []) _ _ := h.pl rfl
        rw [e_918]
        refine lv_i2l hx hb dL_act_921 rfl ?_
        exact hret _ _ _ _ _ _ _ _ ⟨rfl, hq_918⟩ h (Nat.le_of_ble_eq_true rfl) (Nat.le_of_ble_eq_true rfl) dL_act_922

set_option maxHeartbeats 4000000 in
set_option maxRecDepth 100000 in
theorem ac_38_0 {l : Launch} {D : va_G} {ty : Nat → ClassId} {base sz : Nat} (hl9 : l.stackTraces = false) {yd : Nat} {σ : QS} {X : va_W} (hq : qY ty yd σ X) {v : Int32} (ho : ¬ qLow (v >>> (26 &&& 31)) 14 = 0) (hk : qLow v 46 = 38)  : Met l yL_act [.code yL_act cL_act 10 (some (.long))] rmA (yPc D ty base sz X [.ref yd, .int v]) (va_Ql (fun r X' => r = (aCut σ (qLow (v >>> ((7 : Int32) &&& 31)) 3) ((7 : Int32) + (qLow (v >>> ((9 : Int32) &&& 31)) 11)) ((qLow (v >>> ((11 : Int32) &&& 31)) 101) - (50 : Int32))).toInt64 ∧ qY ty yd (nCut σ (qLow (v >>> ((7 : Int32) &&& 31)) 3) ((7 : Int32) + (qLow (v >>> ((9 : Int32) &&& 31)) 11)) ((qLow (v >>> ((11 : Int32) &&& 31)) 101) - (50 : Int32))) X') (yB D (va_A X sz) (fun X' : va_W => X')) (va_A X sz)) rmA.cells rmA.slots (va_A X sz) := by
  refine act_pre0 ho (fun pZ eZ sZ mZ aZ bZ tZ cZ AZ ls QZ H locs E h hl hret => ?_)
  · obtain ⟨hx, hb, hml, hown, hG, hA, hAb⟩ := E
    rw [hk]
    refine lv_tableIn (tgt := 873) (off := 667) hx hb dL_act_206 (by decide) (by decide) (by decide) (by decide) ?_
    refine lv_aload_n hx hb dL_act_873 rfl (lv_at hl 8 rfl) ?_
    refine lv_iload hx hb dL_act_874 (lv_at hl 5 rfl) ?_
    refine lv_iload_n hx hb dL_act_876 rfl (lv_at hl 7 rfl) ?_
    refine lv_if_eq (tgt := 885) hx hb dL_act_877 (by decide) (fun c_877 => ?_) (fun c_877 => ?_)
    · skip
      refine lv_bipush (v := 7) hx hb dL_act_885 (by decide) ?_
      refine lv_iload_n hx hb dL_act_887 rfl (lv_at hl 9 rfl) ?_
      refine lv_bipush (v := 9) hx hb dL_act_888 (by decide) ?_
      refine lv_ishr hx hb dL_act_890 ?_
      refine lv_bipush (v := 11) hx hb dL_act_891 (by decide) ?_
      refine y_calli (X' := fun _ : Unit => []) (wc := []) (wr := []) h hA [] [] [] rfl rfl (by decide) (by decide) (by decide) (fun _ => rfl) (va_runS (own := RL) (As := [.int (v >>> ((9 : Int32) &&& 31)), .int 11]) (rest := [.int 7, .int (qLow (v >>> ((7 : Int32) &&& 31)) 3), .ref yd]) ⟨hx, hb, hml, hown, y_nil⟩ (m_L_low l D ty base _ (v >>> ((9 : Int32) &&& 31)) 11   (by decide)) (y_cwS 2 (kw_1_220 hG) (kw_1_0 hG) (kw_1_218 hG) (kw_1_219 hG) yd_L_low ⟨Nat.le_of_ble_eq_true rfl, Nat.le_of_ble_eq_true rfl⟩) (y_preS hG h hAb [] rfl (by decide)) rfl rfl hl.1 rfl (lv_room (Nat.le_of_ble_eq_true rfl)) dL_act_893 ⟨Nat.le_of_ble_eq_true rfl, Nat.le_of_ble_eq_true rfl⟩) (fun r_893 _ H locs hp_893 h => ?_)
      have hp_893 : r_893 = qLow (v >>> ((9 : Int32) &&& 31)) 11 := hp_893
      have h : yH D AZ sZ.heap [] (X ++ []) _ _ := h
      rw [hp_893]
      refine lv_iadd hx hb dL_act_896 ?_
      refine lv_iload_n hx hb dL_act_897 rfl (lv_at hl 7 rfl) ?_
      refine lv_if_eq (tgt := 906) hx hb dL_act_898 (by decide) (fun c_898 => ?_) (fun c_898 => ?_)
      · skip
        refine lv_iload_n hx hb dL_act_906 rfl (lv_at hl 9 rfl) ?_
        refine lv_bipush (v := 11) hx hb dL_act_907 (by decide) ?_
        refine lv_ishr hx hb dL_act_909 ?_
        refine lv_bipush (v := 101) hx hb dL_act_910 (by decide) ?_
        refine y_calli (X' := fun _ : Unit => []) (wc := []) (wr := []) h hA [] [] [] rfl rfl (by decide) (by decide) (by decide) (fun _ => rfl) (va_runS (own := RL) (As := [.int (v >>> ((11 : Int32) &&& 31)), .int 101]) (rest := [.int ((7 : Int32) + (qLow (v >>> ((9 : Int32) &&& 31)) 11)), .int (qLow (v >>> ((7 : Int32) &&& 31)) 3), .ref yd]) ⟨hx, hb, hml, hown, y_nil⟩ (m_L_low l D ty base _ (v >>> ((11 : Int32) &&& 31)) 101   (by decide)) (y_cwS 2 (kw_1_220 hG) (kw_1_0 hG) (kw_1_218 hG) (kw_1_219 hG) yd_L_low ⟨Nat.le_of_ble_eq_true rfl, Nat.le_of_ble_eq_true rfl⟩) (y_preS hG h hAb [] rfl (by decide)) rfl rfl hl.1 rfl (lv_room (Nat.le_of_ble_eq_true rfl)) dL_act_912 ⟨Nat.le_of_ble_eq_true rfl, Nat.le_of_ble_eq_true rfl⟩) (fun r_912 _ H locs hp_912 h => ?_)
        have hp_912 : r_912 = qLow (v >>> ((11 : Int32) &&& 31)) 101 := hp_912
        have h : yH D AZ sZ.heap [] (X ++ []) _ _ := h
        rw [hp_912]
        refine lv_bipush (v := 50) hx hb dL_act_915 (by decide) ?_
        refine lv_isub hx hb dL_act_917 ?_
        have h : yH D AZ sZ.heap X [] _ _ := h.pl rfl
        refine q_calli h hA (vx_runSW (own := RL) (As := [.ref yd, .int (qLow (v >>> ((7 : Int32) &&& 31)) 3), .int ((7 : Int32) + (qLow (v >>> ((9 : Int32) &&& 31)) 11)), .int ((qLow (v >>> ((11 : Int32) &&& 31)) 101) - (50 : Int32))]) (rest := []) ⟨hx, hb, hml, hown, y_nil⟩ (q_cut (l := l) (D := D) (ty := ty) (base := _) (sz := _) hl9 hq (qLow (v >>> ((7 : Int32) &&& 31)) 3) ((7 : Int32) + (qLow (v >>> ((9 : Int32) &&& 31)) 11)) ((qLow (v >>> ((11 : Int32) &&& 31)) 101) - (50 : Int32)) ) (y_cwSW 4 (kw_3_203 hG) (kw_1_0 hG) (kw_3_201 hG) (kw_3_202 hG) yd_L_cut ⟨Nat.le_of_ble_eq_true rfl, Nat.le_of_ble_eq_true rfl⟩) (q_preS hG h hAb) rfl rfl hl.1 rfl (lv_room (Nat.le_of_ble_eq_true rfl)) dL_act_918 ⟨Nat.le_of_ble_eq_true rfl, Nat.le_of_ble_eq_true rfl⟩) (fun r_918 X_918 H locs hp_918 h => ?_)
        obtain ⟨e_918, hq_918⟩ := hp_918
        have h : yH D AZ sZ.heap [] (X_918 ++ []) _ _ := h.pl rfl
        rw [e_918]
        refine lv_i2l hx hb dL_act_921 rfl ?_
        exact hret _ _ _ _ _ _ _ _ ⟨rfl, hq_918⟩ h (Nat.le_of_ble_eq_true rfl) (Nat.le_of_ble_eq_true rfl) dL_act_922
      · exact absurd (by decide) c_898
    · exact absurd (by decide) c_877

set_option maxHeartbeats 4000000 in
set_option maxRecDepth 100000 in
theorem ac_39_1 {l : Launch} {D : va_G} {ty : Nat → ClassId} {base sz : Nat} (hl9 : l.stackTraces = false) {yd : Nat} {σ : QS} {X : va_W} (hq : qY ty yd σ X) {v : Int32} (ho : qLow (v >>> (26 &&& 31)) 14 = 0) (hk : qLow v 46 = 39)  : Met l yL_act [.code yL_act cL_act 10 (some (.long))] rmA (yPc D ty base sz X [.ref yd, .int v]) (va_Ql (fun r X' => r = (aLies σ ((qLow (v >>> ((7 : Int32) &&& 31)) 13) - (2 : Int32))).toInt64 ∧ qY ty yd σ X') (yB D (va_A X sz) (fun X' : va_W => X')) (va_A X sz)) rmA.cells rmA.slots (va_A X sz) := by
  refine act_pre1 ho (fun pZ eZ sZ mZ aZ bZ tZ cZ AZ ls QZ H locs E h hl hret => ?_)
  · obtain ⟨hx, hb, hml, hown, hG, hA, hAb⟩ := E
    rw [hk]
    refine lv_tableIn (tgt := 923) (off := 717) hx hb dL_act_206 (by decide) (by decide) (by decide) (by decide) ?_
    refine lv_aload_n hx hb dL_act_923 rfl (lv_at hl 8 rfl) ?_
    refine lv_iload hx hb dL_act_924 (lv_at hl 5 rfl) ?_
    have h : yH D AZ sZ.heap X [] _ _ := h.pl rfl
    refine q_calli h hA (vx_runSW (own := RL) (As := [.ref yd, .int ((qLow (v >>> ((7 : Int32) &&& 31)) 13) - (2 : Int32))]) (rest := []) ⟨hx, hb, hml, hown, y_nil⟩ (q_lies (l := l) (D := D) (ty := ty) (base := _) (sz := _) hl9 hq ((qLow (v >>> ((7 : Int32) &&& 31)) 13) - (2 : Int32)) ) (y_cwSW 2 (kw_3_223 hG) (kw_1_0 hG) (kw_3_221 hG) (kw_3_222 hG) yd_L_lies ⟨Nat.le_of_ble_eq_true rfl, Nat.le_of_ble_eq_true rfl⟩) (q_preS hG h hAb) rfl rfl hl.1 rfl (lv_room (Nat.le_of_ble_eq_true rfl)) dL_act_926 ⟨Nat.le_of_ble_eq_true rfl, Nat.le_of_ble_eq_true rfl⟩) (fun r_926 X_926 H locs hp_926 h => ?_)
    obtain ⟨e_926, hq_926⟩ := hp_926
    have h : yH D AZ sZ.heap [] (X_926 ++ []) _ _ := h.pl rfl
    rw [e_926]
    refine lv_i2l hx hb dL_act_929 rfl ?_
    exact hret _ _ _ _ _ _ _ _ ⟨rfl, hq_926⟩ h (Nat.le_of_ble_eq_true rfl) (Nat.le_of_ble_eq_true rfl) dL_act_930

set_option maxHeartbeats 4000000 in
set_option maxRecDepth 100000 in
theorem ac_39_0 {l : Launch} {D : va_G} {ty : Nat → ClassId} {base sz : Nat} (hl9 : l.stackTraces = false) {yd : Nat} {σ : QS} {X : va_W} (hq : qY ty yd σ X) {v : Int32} (ho : ¬ qLow (v >>> (26 &&& 31)) 14 = 0) (hk : qLow v 46 = 39)  : Met l yL_act [.code yL_act cL_act 10 (some (.long))] rmA (yPc D ty base sz X [.ref yd, .int v]) (va_Ql (fun r X' => r = (aLies σ (qLow (v >>> ((7 : Int32) &&& 31)) 3)).toInt64 ∧ qY ty yd σ X') (yB D (va_A X sz) (fun X' : va_W => X')) (va_A X sz)) rmA.cells rmA.slots (va_A X sz) := by
  refine act_pre0 ho (fun pZ eZ sZ mZ aZ bZ tZ cZ AZ ls QZ H locs E h hl hret => ?_)
  · obtain ⟨hx, hb, hml, hown, hG, hA, hAb⟩ := E
    rw [hk]
    refine lv_tableIn (tgt := 923) (off := 717) hx hb dL_act_206 (by decide) (by decide) (by decide) (by decide) ?_
    refine lv_aload_n hx hb dL_act_923 rfl (lv_at hl 8 rfl) ?_
    refine lv_iload hx hb dL_act_924 (lv_at hl 5 rfl) ?_
    have h : yH D AZ sZ.heap X [] _ _ := h.pl rfl
    refine q_calli h hA (vx_runSW (own := RL) (As := [.ref yd, .int (qLow (v >>> ((7 : Int32) &&& 31)) 3)]) (rest := []) ⟨hx, hb, hml, hown, y_nil⟩ (q_lies (l := l) (D := D) (ty := ty) (base := _) (sz := _) hl9 hq (qLow (v >>> ((7 : Int32) &&& 31)) 3) ) (y_cwSW 2 (kw_3_223 hG) (kw_1_0 hG) (kw_3_221 hG) (kw_3_222 hG) yd_L_lies ⟨Nat.le_of_ble_eq_true rfl, Nat.le_of_ble_eq_true rfl⟩) (q_preS hG h hAb) rfl rfl hl.1 rfl (lv_room (Nat.le_of_ble_eq_true rfl)) dL_act_926 ⟨Nat.le_of_ble_eq_true rfl, Nat.le_of_ble_eq_true rfl⟩) (fun r_926 X_926 H locs hp_926 h => ?_)
    obtain ⟨e_926, hq_926⟩ := hp_926
    have h : yH D AZ sZ.heap [] (X_926 ++ []) _ _ := h.pl rfl
    rw [e_926]
    refine lv_i2l hx hb dL_act_929 rfl ?_
    exact hret _ _ _ _ _ _ _ _ ⟨rfl, hq_926⟩ h (Nat.le_of_ble_eq_true rfl) (Nat.le_of_ble_eq_true rfl) dL_act_930

set_option maxHeartbeats 4000000 in
set_option maxRecDepth 100000 in
theorem ac_40_1 {l : Launch} {D : va_G} {ty : Nat → ClassId} {base sz : Nat} (hl9 : l.stackTraces = false) {yd : Nat} {σ : QS} {X : va_W} (hq : qY ty yd σ X) {v : Int32} (ho : qLow (v >>> (26 &&& 31)) 14 = 0) (hk : qLow v 46 = 40)  : Met l yL_act [.code yL_act cL_act 10 (some (.long))] rmA (yPc D ty base sz X [.ref yd, .int v]) (va_Ql (fun r X' => r = σ.2.2.2.2.2.1 ∧ qY ty yd σ X') (yB D (va_A X sz) (fun X' : va_W => X')) (va_A X sz)) rmA.cells rmA.slots (va_A X sz) := by
  refine act_pre1 ho (fun pZ eZ sZ mZ aZ bZ tZ cZ AZ ls QZ H locs E h hl hret => ?_)
  · obtain ⟨hx, hb, hml, hown, hG, hA, hAb⟩ := E
    rw [hk]
    refine lv_tableIn (tgt := 931) (off := 725) hx hb dL_act_206 (by decide) (by decide) (by decide) (by decide) ?_
    refine lv_aload_n hx hb dL_act_931 rfl (lv_at hl 8 rfl) ?_
    have h : yH D AZ sZ.heap X [] _ _ := h.pl rfl
    obtain ⟨fs_1, he_1⟩ := qY_rc hq
    refine q_calll h hA (va_runV (own := RL) (As := []) (rest := []) ⟨hx, hb, hml, hown, y_nil⟩ (q_cost (l := l) (D := D) (ty := ty) (base := _) (sz := _) hl9 hq  ) (y_cwV (C := RX7) 0 (kw_3_231 hG) (kw_1_1 hG) (kw_3_228 hG) (kw_3_229 hG) (kw_3_230 hG) yd_X7_cost ⟨Nat.le_of_ble_eq_true rfl, Nat.le_of_ble_eq_true rfl⟩) (q_preV (ci := 7) hG h hAb he_1 rfl) rfl rfl hl.1 rfl (lv_room (Nat.le_of_ble_eq_true rfl)) dL_act_932 ⟨Nat.le_of_ble_eq_true rfl, Nat.le_of_ble_eq_true rfl⟩) (fun r_932 X_932 H locs hp_932 h => ?_)
    obtain ⟨e_932, hq_932⟩ := hp_932
    have h : yH D AZ sZ.heap [] (X_932 ++ []) _ _ := h.pl rfl
    rw [e_932]
    exact hret _ _ _ _ _ _ _ _ ⟨rfl, hq_932⟩ h (Nat.le_of_ble_eq_true rfl) (Nat.le_of_ble_eq_true rfl) dL_act_935

set_option maxHeartbeats 4000000 in
set_option maxRecDepth 100000 in
theorem ac_40_0 {l : Launch} {D : va_G} {ty : Nat → ClassId} {base sz : Nat} (hl9 : l.stackTraces = false) {yd : Nat} {σ : QS} {X : va_W} (hq : qY ty yd σ X) {v : Int32} (ho : ¬ qLow (v >>> (26 &&& 31)) 14 = 0) (hk : qLow v 46 = 40)  : Met l yL_act [.code yL_act cL_act 10 (some (.long))] rmA (yPc D ty base sz X [.ref yd, .int v]) (va_Ql (fun r X' => r = σ.2.2.2.2.2.1 ∧ qY ty yd σ X') (yB D (va_A X sz) (fun X' : va_W => X')) (va_A X sz)) rmA.cells rmA.slots (va_A X sz) := by
  refine act_pre0 ho (fun pZ eZ sZ mZ aZ bZ tZ cZ AZ ls QZ H locs E h hl hret => ?_)
  · obtain ⟨hx, hb, hml, hown, hG, hA, hAb⟩ := E
    rw [hk]
    refine lv_tableIn (tgt := 931) (off := 725) hx hb dL_act_206 (by decide) (by decide) (by decide) (by decide) ?_
    refine lv_aload_n hx hb dL_act_931 rfl (lv_at hl 8 rfl) ?_
    have h : yH D AZ sZ.heap X [] _ _ := h.pl rfl
    obtain ⟨fs_1, he_1⟩ := qY_rc hq
    refine q_calll h hA (va_runV (own := RL) (As := []) (rest := []) ⟨hx, hb, hml, hown, y_nil⟩ (q_cost (l := l) (D := D) (ty := ty) (base := _) (sz := _) hl9 hq  ) (y_cwV (C := RX7) 0 (kw_3_231 hG) (kw_1_1 hG) (kw_3_228 hG) (kw_3_229 hG) (kw_3_230 hG) yd_X7_cost ⟨Nat.le_of_ble_eq_true rfl, Nat.le_of_ble_eq_true rfl⟩) (q_preV (ci := 7) hG h hAb he_1 rfl) rfl rfl hl.1 rfl (lv_room (Nat.le_of_ble_eq_true rfl)) dL_act_932 ⟨Nat.le_of_ble_eq_true rfl, Nat.le_of_ble_eq_true rfl⟩) (fun r_932 X_932 H locs hp_932 h => ?_)
    obtain ⟨e_932, hq_932⟩ := hp_932
    have h : yH D AZ sZ.heap [] (X_932 ++ []) _ _ := h.pl rfl
    rw [e_932]
    exact hret _ _ _ _ _ _ _ _ ⟨rfl, hq_932⟩ h (Nat.le_of_ble_eq_true rfl) (Nat.le_of_ble_eq_true rfl) dL_act_935

set_option maxHeartbeats 4000000 in
set_option maxRecDepth 100000 in
theorem ac_41_1z {l : Launch} {D : va_G} {ty : Nat → ClassId} {base sz : Nat} (hl9 : l.stackTraces = false) {yd : Nat} {σ : QS} {X : va_W} (hq : qY ty yd σ X) {v : Int32} (ho : qLow (v >>> (26 &&& 31)) 14 = 0) (hk : qLow v 46 = 41) (hs : qLow (v >>> (9 &&& 31)) 3 = 0) : Met l yL_act [.code yL_act cL_act 10 (some (.long))] rmA (yPc D ty base sz X [.ref yd, .int v]) (va_Ql (fun r X' => r = (nI σ.2.2.1).toInt64 ∧ qY ty yd (nForget σ) X') (yB D (va_A X sz) (fun X' : va_W => X')) (va_A X sz)) rmA.cells rmA.slots (va_A X sz) := by
  refine act_pre1 ho (fun pZ eZ sZ mZ aZ bZ tZ cZ AZ ls QZ H locs E h hl hret => ?_)
  · obtain ⟨hx, hb, hml, hown, hG, hA, hAb⟩ := E
    rw [hk]
    refine lv_tableIn (tgt := 936) (off := 730) hx hb dL_act_206 (by decide) (by decide) (by decide) (by decide) ?_
    refine lv_iload_n hx hb dL_act_936 rfl (lv_at hl 9 rfl) ?_
    refine lv_bipush (v := 9) hx hb dL_act_937 (by decide) ?_
    refine lv_ishr hx hb dL_act_939 ?_
    refine lv_iconst (v := 3) hx hb dL_act_940 (by decide) ?_
    refine y_calli (X' := fun _ : Unit => []) (wc := []) (wr := []) h hA [] [] [] rfl rfl (by decide) (by decide) (by decide) (fun _ => rfl) (va_runS (own := RL) (As := [.int (v >>> ((9 : Int32) &&& 31)), .int 3]) (rest := []) ⟨hx, hb, hml, hown, y_nil⟩ (m_L_low l D ty base _ (v >>> ((9 : Int32) &&& 31)) 3   (by decide)) (y_cwS 2 (kw_1_220 hG) (kw_1_0 hG) (kw_1_218 hG) (kw_1_219 hG) yd_L_low ⟨Nat.le_of_ble_eq_true rfl, Nat.le_of_ble_eq_true rfl⟩) (y_preS hG h hAb [] rfl (by decide)) rfl rfl hl.1 rfl (lv_room (Nat.le_of_ble_eq_true rfl)) dL_act_941 ⟨Nat.le_of_ble_eq_true rfl, Nat.le_of_ble_eq_true rfl⟩) (fun r_941 _ H locs hp_941 h => ?_)
    have hp_941 : r_941 = qLow (v >>> ((9 : Int32) &&& 31)) 3 := hp_941
    have h : yH D AZ sZ.heap [] (X ++ []) _ _ := h
    rw [hp_941]
    refine lv_if_ne (tgt := 955) hx hb dL_act_944 (by decide) (fun c_944 => ?_) (fun c_944 => ?_)
    · exact absurd hs c_944
    · skip
      refine lv_aload_n hx hb dL_act_947 rfl (lv_at hl 8 rfl) ?_
      have h : yH D AZ sZ.heap X [] _ _ := h.pl rfl
      obtain ⟨fs_1, he_1⟩ := qY_rc hq
      refine q_calli h hA (va_runV (own := RL) (As := []) (rest := []) ⟨hx, hb, hml, hown, y_nil⟩ (q_forget (l := l) (D := D) (ty := ty) (base := _) (sz := _) hl9 hq  ) (y_cwV (C := RX7) 0 (kw_3_235 hG) (kw_1_1 hG) (kw_3_232 hG) (kw_3_233 hG) (kw_3_234 hG) yd_X7_forget ⟨Nat.le_of_ble_eq_true rfl, Nat.le_of_ble_eq_true rfl⟩) (q_preV (ci := 7) hG h hAb he_1 rfl) rfl rfl hl.1 rfl (lv_room (Nat.le_of_ble_eq_true rfl)) dL_act_948 ⟨Nat.le_of_ble_eq_true rfl, Nat.le_of_ble_eq_true rfl⟩) (fun r_948 X_948 H locs hp_948 h => ?_)
      obtain ⟨e_948, hq_948⟩ := hp_948
      have h : yH D AZ sZ.heap [] (X_948 ++ []) _ _ := h.pl rfl
      rw [e_948]
      refine lv_i2l hx hb dL_act_951 rfl ?_
      refine lv_goto (tgt := 1000) hx hb dL_act_952 (by decide) ?_
      exact hret _ _ _ _ _ _ _ _ ⟨rfl, hq_948⟩ h (Nat.le_of_ble_eq_true rfl) (Nat.le_of_ble_eq_true rfl) dL_act_1000

set_option maxHeartbeats 4000000 in
set_option maxRecDepth 100000 in
theorem ac_41_1n {l : Launch} {D : va_G} {ty : Nat → ClassId} {base sz : Nat} (hl9 : l.stackTraces = false) {yd : Nat} {σ : QS} {X : va_W} (hq : qY ty yd σ X) {v : Int32} (ho : qLow (v >>> (26 &&& 31)) 14 = 0) (hk : qLow v 46 = 41) (hs : ¬ qLow (v >>> (9 &&& 31)) 3 = 0) : Met l yL_act [.code yL_act cL_act 10 (some (.long))] rmA (yPc D ty base sz X [.ref yd, .int v]) (va_Ql (fun r X' => r = (aFind σ (v >>> ((5 : Int32) &&& 31)) (v >>> ((8 : Int32) &&& 31)) v ((qLow (v >>> ((11 : Int32) &&& 31)) 400) - (200 : Int32))).toInt64 ∧ qY ty yd (nFind σ (v >>> ((5 : Int32) &&& 31)) (v >>> ((8 : Int32) &&& 31)) v ((qLow (v >>> ((11 : Int32) &&& 31)) 400) - (200 : Int32))) X') (yB D (va_A X sz) (fun X' : va_W => X')) (va_A X sz)) rmA.cells rmA.slots (va_A X sz) := by
  refine act_pre1 ho (fun pZ eZ sZ mZ aZ bZ tZ cZ AZ ls QZ H locs E h hl hret => ?_)
  · obtain ⟨hx, hb, hml, hown, hG, hA, hAb⟩ := E
    rw [hk]
    refine lv_tableIn (tgt := 936) (off := 730) hx hb dL_act_206 (by decide) (by decide) (by decide) (by decide) ?_
    refine lv_iload_n hx hb dL_act_936 rfl (lv_at hl 9 rfl) ?_
    refine lv_bipush (v := 9) hx hb dL_act_937 (by decide) ?_
    refine lv_ishr hx hb dL_act_939 ?_
    refine lv_iconst (v := 3) hx hb dL_act_940 (by decide) ?_
    refine y_calli (X' := fun _ : Unit => []) (wc := []) (wr := []) h hA [] [] [] rfl rfl (by decide) (by decide) (by decide) (fun _ => rfl) (va_runS (own := RL) (As := [.int (v >>> ((9 : Int32) &&& 31)), .int 3]) (rest := []) ⟨hx, hb, hml, hown, y_nil⟩ (m_L_low l D ty base _ (v >>> ((9 : Int32) &&& 31)) 3   (by decide)) (y_cwS 2 (kw_1_220 hG) (kw_1_0 hG) (kw_1_218 hG) (kw_1_219 hG) yd_L_low ⟨Nat.le_of_ble_eq_true rfl, Nat.le_of_ble_eq_true rfl⟩) (y_preS hG h hAb [] rfl (by decide)) rfl rfl hl.1 rfl (lv_room (Nat.le_of_ble_eq_true rfl)) dL_act_941 ⟨Nat.le_of_ble_eq_true rfl, Nat.le_of_ble_eq_true rfl⟩) (fun r_941 _ H locs hp_941 h => ?_)
    have hp_941 : r_941 = qLow (v >>> ((9 : Int32) &&& 31)) 3 := hp_941
    have h : yH D AZ sZ.heap [] (X ++ []) _ _ := h
    rw [hp_941]
    refine lv_if_ne (tgt := 955) hx hb dL_act_944 (by decide) (fun c_944 => ?_) (fun c_944 => ?_)
    · skip
      refine lv_aload_n hx hb dL_act_955 rfl (lv_at hl 8 rfl) ?_
      refine lv_iload hx hb dL_act_956 (lv_at hl 4 rfl) ?_
      refine lv_iload hx hb dL_act_958 (lv_at hl 3 rfl) ?_
      refine lv_iload_n hx hb dL_act_960 rfl (lv_at hl 7 rfl) ?_
      refine lv_if_eq (tgt := 968) hx hb dL_act_961 (by decide) (fun c_961 => ?_) (fun c_961 => ?_)
      · exact absurd c_961 (by decide)
      · skip
        refine lv_iload_n hx hb dL_act_964 rfl (lv_at hl 9 rfl) ?_
        refine lv_goto (tgt := 982) hx hb dL_act_965 (by decide) ?_
        refine lv_iload_n hx hb dL_act_982 rfl (lv_at hl 9 rfl) ?_
        refine lv_bipush (v := 11) hx hb dL_act_983 (by decide) ?_
        refine lv_ishr hx hb dL_act_985 ?_
        refine lv_sipush (v := 400) hx hb dL_act_986 (by decide) ?_
        refine y_calli (X' := fun _ : Unit => []) (wc := []) (wr := []) h hA [] [] [] rfl rfl (by decide) (by decide) (by decide) (fun _ => rfl) (va_runS (own := RL) (As := [.int (v >>> ((11 : Int32) &&& 31)), .int 400]) (rest := [.int v, .int (v >>> ((8 : Int32) &&& 31)), .int (v >>> ((5 : Int32) &&& 31)), .ref yd]) ⟨hx, hb, hml, hown, y_nil⟩ (m_L_low l D ty base _ (v >>> ((11 : Int32) &&& 31)) 400   (by decide)) (y_cwS 2 (kw_1_220 hG) (kw_1_0 hG) (kw_1_218 hG) (kw_1_219 hG) yd_L_low ⟨Nat.le_of_ble_eq_true rfl, Nat.le_of_ble_eq_true rfl⟩) (y_preS hG h hAb [] rfl (by decide)) rfl rfl hl.1 rfl (lv_room (Nat.le_of_ble_eq_true rfl)) dL_act_989 ⟨Nat.le_of_ble_eq_true rfl, Nat.le_of_ble_eq_true rfl⟩) (fun r_989 _ H locs hp_989 h => ?_)
        have hp_989 : r_989 = qLow (v >>> ((11 : Int32) &&& 31)) 400 := hp_989
        have h : yH D AZ sZ.heap [] (X ++ []) _ _ := h
        rw [hp_989]
        refine lv_sipush (v := 200) hx hb dL_act_992 (by decide) ?_
        refine lv_isub hx hb dL_act_995 ?_
        have h : yH D AZ sZ.heap X [] _ _ := h.pl rfl
        refine q_calli h hA (vx_runSW (own := RL) (As := [.ref yd, .int (v >>> ((5 : Int32) &&& 31)), .int (v >>> ((8 : Int32) &&& 31)), .int v, .int ((qLow (v >>> ((11 : Int32) &&& 31)) 400) - (200 : Int32))]) (rest := []) ⟨hx, hb, hml, hown, y_nil⟩ (q_find (l := l) (D := D) (ty := ty) (base := _) (sz := _) hl9 hq (v >>> ((5 : Int32) &&& 31)) (v >>> ((8 : Int32) &&& 31)) v ((qLow (v >>> ((11 : Int32) &&& 31)) 400) - (200 : Int32)) ) (y_cwSW 5 (kw_3_238 hG) (kw_1_0 hG) (kw_3_236 hG) (kw_3_237 hG) yd_L_find ⟨Nat.le_of_ble_eq_true rfl, Nat.le_of_ble_eq_true rfl⟩) (q_preS hG h hAb) rfl rfl hl.1 rfl (lv_room (Nat.le_of_ble_eq_true rfl)) dL_act_996 ⟨Nat.le_of_ble_eq_true rfl, Nat.le_of_ble_eq_true rfl⟩) (fun r_996 X_996 H locs hp_996 h => ?_)
        obtain ⟨e_996, hq_996⟩ := hp_996
        have h : yH D AZ sZ.heap [] (X_996 ++ []) _ _ := h.pl rfl
        rw [e_996]
        refine lv_i2l hx hb dL_act_999 rfl ?_
        exact hret _ _ _ _ _ _ _ _ ⟨rfl, hq_996⟩ h (Nat.le_of_ble_eq_true rfl) (Nat.le_of_ble_eq_true rfl) dL_act_1000
    · exact absurd c_944 hs

set_option maxHeartbeats 4000000 in
set_option maxRecDepth 100000 in
theorem ac_41_0z {l : Launch} {D : va_G} {ty : Nat → ClassId} {base sz : Nat} (hl9 : l.stackTraces = false) {yd : Nat} {σ : QS} {X : va_W} (hq : qY ty yd σ X) {v : Int32} (ho : ¬ qLow (v >>> (26 &&& 31)) 14 = 0) (hk : qLow v 46 = 41) (hs : qLow (v >>> (9 &&& 31)) 3 = 0) : Met l yL_act [.code yL_act cL_act 10 (some (.long))] rmA (yPc D ty base sz X [.ref yd, .int v]) (va_Ql (fun r X' => r = (nI σ.2.2.1).toInt64 ∧ qY ty yd (nForget σ) X') (yB D (va_A X sz) (fun X' : va_W => X')) (va_A X sz)) rmA.cells rmA.slots (va_A X sz) := by
  refine act_pre0 ho (fun pZ eZ sZ mZ aZ bZ tZ cZ AZ ls QZ H locs E h hl hret => ?_)
  · obtain ⟨hx, hb, hml, hown, hG, hA, hAb⟩ := E
    rw [hk]
    refine lv_tableIn (tgt := 936) (off := 730) hx hb dL_act_206 (by decide) (by decide) (by decide) (by decide) ?_
    refine lv_iload_n hx hb dL_act_936 rfl (lv_at hl 9 rfl) ?_
    refine lv_bipush (v := 9) hx hb dL_act_937 (by decide) ?_
    refine lv_ishr hx hb dL_act_939 ?_
    refine lv_iconst (v := 3) hx hb dL_act_940 (by decide) ?_
    refine y_calli (X' := fun _ : Unit => []) (wc := []) (wr := []) h hA [] [] [] rfl rfl (by decide) (by decide) (by decide) (fun _ => rfl) (va_runS (own := RL) (As := [.int (v >>> ((9 : Int32) &&& 31)), .int 3]) (rest := []) ⟨hx, hb, hml, hown, y_nil⟩ (m_L_low l D ty base _ (v >>> ((9 : Int32) &&& 31)) 3   (by decide)) (y_cwS 2 (kw_1_220 hG) (kw_1_0 hG) (kw_1_218 hG) (kw_1_219 hG) yd_L_low ⟨Nat.le_of_ble_eq_true rfl, Nat.le_of_ble_eq_true rfl⟩) (y_preS hG h hAb [] rfl (by decide)) rfl rfl hl.1 rfl (lv_room (Nat.le_of_ble_eq_true rfl)) dL_act_941 ⟨Nat.le_of_ble_eq_true rfl, Nat.le_of_ble_eq_true rfl⟩) (fun r_941 _ H locs hp_941 h => ?_)
    have hp_941 : r_941 = qLow (v >>> ((9 : Int32) &&& 31)) 3 := hp_941
    have h : yH D AZ sZ.heap [] (X ++ []) _ _ := h
    rw [hp_941]
    refine lv_if_ne (tgt := 955) hx hb dL_act_944 (by decide) (fun c_944 => ?_) (fun c_944 => ?_)
    · exact absurd hs c_944
    · skip
      refine lv_aload_n hx hb dL_act_947 rfl (lv_at hl 8 rfl) ?_
      have h : yH D AZ sZ.heap X [] _ _ := h.pl rfl
      obtain ⟨fs_1, he_1⟩ := qY_rc hq
      refine q_calli h hA (va_runV (own := RL) (As := []) (rest := []) ⟨hx, hb, hml, hown, y_nil⟩ (q_forget (l := l) (D := D) (ty := ty) (base := _) (sz := _) hl9 hq  ) (y_cwV (C := RX7) 0 (kw_3_235 hG) (kw_1_1 hG) (kw_3_232 hG) (kw_3_233 hG) (kw_3_234 hG) yd_X7_forget ⟨Nat.le_of_ble_eq_true rfl, Nat.le_of_ble_eq_true rfl⟩) (q_preV (ci := 7) hG h hAb he_1 rfl) rfl rfl hl.1 rfl (lv_room (Nat.le_of_ble_eq_true rfl)) dL_act_948 ⟨Nat.le_of_ble_eq_true rfl, Nat.le_of_ble_eq_true rfl⟩) (fun r_948 X_948 H locs hp_948 h => ?_)
      obtain ⟨e_948, hq_948⟩ := hp_948
      have h : yH D AZ sZ.heap [] (X_948 ++ []) _ _ := h.pl rfl
      rw [e_948]
      refine lv_i2l hx hb dL_act_951 rfl ?_
      refine lv_goto (tgt := 1000) hx hb dL_act_952 (by decide) ?_
      exact hret _ _ _ _ _ _ _ _ ⟨rfl, hq_948⟩ h (Nat.le_of_ble_eq_true rfl) (Nat.le_of_ble_eq_true rfl) dL_act_1000

set_option maxHeartbeats 4000000 in
set_option maxRecDepth 100000 in
theorem ac_41_0n {l : Launch} {D : va_G} {ty : Nat → ClassId} {base sz : Nat} (hl9 : l.stackTraces = false) {yd : Nat} {σ : QS} {X : va_W} (hq : qY ty yd σ X) {v : Int32} (ho : ¬ qLow (v >>> (26 &&& 31)) 14 = 0) (hk : qLow v 46 = 41) (hs : ¬ qLow (v >>> (9 &&& 31)) 3 = 0) : Met l yL_act [.code yL_act cL_act 10 (some (.long))] rmA (yPc D ty base sz X [.ref yd, .int v]) (va_Ql (fun r X' => r = (aFind σ (qLow (v >>> ((5 : Int32) &&& 31)) 360) ((60 : Int32) + (qLow (v >>> ((8 : Int32) &&& 31)) 240)) ((qLow (v >>> ((9 : Int32) &&& 31)) 400) - (200 : Int32)) ((qLow (v >>> ((11 : Int32) &&& 31)) 400) - (200 : Int32))).toInt64 ∧ qY ty yd (nFind σ (qLow (v >>> ((5 : Int32) &&& 31)) 360) ((60 : Int32) + (qLow (v >>> ((8 : Int32) &&& 31)) 240)) ((qLow (v >>> ((9 : Int32) &&& 31)) 400) - (200 : Int32)) ((qLow (v >>> ((11 : Int32) &&& 31)) 400) - (200 : Int32))) X') (yB D (va_A X sz) (fun X' : va_W => X')) (va_A X sz)) rmA.cells rmA.slots (va_A X sz) := by
  refine act_pre0 ho (fun pZ eZ sZ mZ aZ bZ tZ cZ AZ ls QZ H locs E h hl hret => ?_)
  · obtain ⟨hx, hb, hml, hown, hG, hA, hAb⟩ := E
    rw [hk]
    refine lv_tableIn (tgt := 936) (off := 730) hx hb dL_act_206 (by decide) (by decide) (by decide) (by decide) ?_
    refine lv_iload_n hx hb dL_act_936 rfl (lv_at hl 9 rfl) ?_
    refine lv_bipush (v := 9) hx hb dL_act_937 (by decide) ?_
    refine lv_ishr hx hb dL_act_939 ?_
    refine lv_iconst (v := 3) hx hb dL_act_940 (by decide) ?_
    refine y_calli (X' := fun _ : Unit => []) (wc := []) (wr := []) h hA [] [] [] rfl rfl (by decide) (by decide) (by decide) (fun _ => rfl) (va_runS (own := RL) (As := [.int (v >>> ((9 : Int32) &&& 31)), .int 3]) (rest := []) ⟨hx, hb, hml, hown, y_nil⟩ (m_L_low l D ty base _ (v >>> ((9 : Int32) &&& 31)) 3   (by decide)) (y_cwS 2 (kw_1_220 hG) (kw_1_0 hG) (kw_1_218 hG) (kw_1_219 hG) yd_L_low ⟨Nat.le_of_ble_eq_true rfl, Nat.le_of_ble_eq_true rfl⟩) (y_preS hG h hAb [] rfl (by decide)) rfl rfl hl.1 rfl (lv_room (Nat.le_of_ble_eq_true rfl)) dL_act_941 ⟨Nat.le_of_ble_eq_true rfl, Nat.le_of_ble_eq_true rfl⟩) (fun r_941 _ H locs hp_941 h => ?_)
    have hp_941 : r_941 = qLow (v >>> ((9 : Int32) &&& 31)) 3 := hp_941
    have h : yH D AZ sZ.heap [] (X ++ []) _ _ := h
    rw [hp_941]
    refine lv_if_ne (tgt := 955) hx hb dL_act_944 (by decide) (fun c_944 => ?_) (fun c_944 => ?_)
    · skip
      refine lv_aload_n hx hb dL_act_955 rfl (lv_at hl 8 rfl) ?_
      refine lv_iload hx hb dL_act_956 (lv_at hl 4 rfl) ?_
      refine lv_iload hx hb dL_act_958 (lv_at hl 3 rfl) ?_
      refine lv_iload_n hx hb dL_act_960 rfl (lv_at hl 7 rfl) ?_
      refine lv_if_eq (tgt := 968) hx hb dL_act_961 (by decide) (fun c_961 => ?_) (fun c_961 => ?_)
      · skip
        refine lv_iload_n hx hb dL_act_968 rfl (lv_at hl 9 rfl) ?_
        refine lv_bipush (v := 9) hx hb dL_act_969 (by decide) ?_
        refine lv_ishr hx hb dL_act_971 ?_
        refine lv_sipush (v := 400) hx hb dL_act_972 (by decide) ?_
        refine y_calli (X' := fun _ : Unit => []) (wc := []) (wr := []) h hA [] [] [] rfl rfl (by decide) (by decide) (by decide) (fun _ => rfl) (va_runS (own := RL) (As := [.int (v >>> ((9 : Int32) &&& 31)), .int 400]) (rest := [.int ((60 : Int32) + (qLow (v >>> ((8 : Int32) &&& 31)) 240)), .int (qLow (v >>> ((5 : Int32) &&& 31)) 360), .ref yd]) ⟨hx, hb, hml, hown, y_nil⟩ (m_L_low l D ty base _ (v >>> ((9 : Int32) &&& 31)) 400   (by decide)) (y_cwS 2 (kw_1_220 hG) (kw_1_0 hG) (kw_1_218 hG) (kw_1_219 hG) yd_L_low ⟨Nat.le_of_ble_eq_true rfl, Nat.le_of_ble_eq_true rfl⟩) (y_preS hG h hAb [] rfl (by decide)) rfl rfl hl.1 rfl (lv_room (Nat.le_of_ble_eq_true rfl)) dL_act_975 ⟨Nat.le_of_ble_eq_true rfl, Nat.le_of_ble_eq_true rfl⟩) (fun r_975 _ H locs hp_975 h => ?_)
        have hp_975 : r_975 = qLow (v >>> ((9 : Int32) &&& 31)) 400 := hp_975
        have h : yH D AZ sZ.heap [] (X ++ []) _ _ := h
        rw [hp_975]
        refine lv_sipush (v := 200) hx hb dL_act_978 (by decide) ?_
        refine lv_isub hx hb dL_act_981 ?_
        refine lv_iload_n hx hb dL_act_982 rfl (lv_at hl 9 rfl) ?_
        refine lv_bipush (v := 11) hx hb dL_act_983 (by decide) ?_
        refine lv_ishr hx hb dL_act_985 ?_
        refine lv_sipush (v := 400) hx hb dL_act_986 (by decide) ?_
        refine y_calli (X' := fun _ : Unit => []) (wc := []) (wr := []) h hA [] [] [] rfl rfl (by decide) (by decide) (by decide) (fun _ => rfl) (va_runS (own := RL) (As := [.int (v >>> ((11 : Int32) &&& 31)), .int 400]) (rest := [.int ((qLow (v >>> ((9 : Int32) &&& 31)) 400) - (200 : Int32)), .int ((60 : Int32) + (qLow (v >>> ((8 : Int32) &&& 31)) 240)), .int (qLow (v >>> ((5 : Int32) &&& 31)) 360), .ref yd]) ⟨hx, hb, hml, hown, y_nil⟩ (m_L_low l D ty base _ (v >>> ((11 : Int32) &&& 31)) 400   (by decide)) (y_cwS 2 (kw_1_220 hG) (kw_1_0 hG) (kw_1_218 hG) (kw_1_219 hG) yd_L_low ⟨Nat.le_of_ble_eq_true rfl, Nat.le_of_ble_eq_true rfl⟩) (y_preS hG h hAb [] rfl (by decide)) rfl rfl hl.1 rfl (lv_room (Nat.le_of_ble_eq_true rfl)) dL_act_989 ⟨Nat.le_of_ble_eq_true rfl, Nat.le_of_ble_eq_true rfl⟩) (fun r_989 _ H locs hp_989 h => ?_)
        have hp_989 : r_989 = qLow (v >>> ((11 : Int32) &&& 31)) 400 := hp_989
        have h : yH D AZ sZ.heap [] (X ++ []) _ _ := h
        rw [hp_989]
        refine lv_sipush (v := 200) hx hb dL_act_992 (by decide) ?_
        refine lv_isub hx hb dL_act_995 ?_
        have h : yH D AZ sZ.heap X [] _ _ := h.pl rfl
        refine q_calli h hA (vx_runSW (own := RL) (As := [.ref yd, .int (qLow (v >>> ((5 : Int32) &&& 31)) 360), .int ((60 : Int32) + (qLow (v >>> ((8 : Int32) &&& 31)) 240)), .int ((qLow (v >>> ((9 : Int32) &&& 31)) 400) - (200 : Int32)), .int ((qLow (v >>> ((11 : Int32) &&& 31)) 400) - (200 : Int32))]) (rest := []) ⟨hx, hb, hml, hown, y_nil⟩ (q_find (l := l) (D := D) (ty := ty) (base := _) (sz := _) hl9 hq (qLow (v >>> ((5 : Int32) &&& 31)) 360) ((60 : Int32) + (qLow (v >>> ((8 : Int32) &&& 31)) 240)) ((qLow (v >>> ((9 : Int32) &&& 31)) 400) - (200 : Int32)) ((qLow (v >>> ((11 : Int32) &&& 31)) 400) - (200 : Int32)) ) (y_cwSW 5 (kw_3_238 hG) (kw_1_0 hG) (kw_3_236 hG) (kw_3_237 hG) yd_L_find ⟨Nat.le_of_ble_eq_true rfl, Nat.le_of_ble_eq_true rfl⟩) (q_preS hG h hAb) rfl rfl hl.1 rfl (lv_room (Nat.le_of_ble_eq_true rfl)) dL_act_996 ⟨Nat.le_of_ble_eq_true rfl, Nat.le_of_ble_eq_true rfl⟩) (fun r_996 X_996 H locs hp_996 h => ?_)
        obtain ⟨e_996, hq_996⟩ := hp_996
        have h : yH D AZ sZ.heap [] (X_996 ++ []) _ _ := h.pl rfl
        rw [e_996]
        refine lv_i2l hx hb dL_act_999 rfl ?_
        exact hret _ _ _ _ _ _ _ _ ⟨rfl, hq_996⟩ h (Nat.le_of_ble_eq_true rfl) (Nat.le_of_ble_eq_true rfl) dL_act_1000
      · exact absurd (by decide) c_961
    · exact absurd c_944 hs

set_option maxHeartbeats 4000000 in
set_option maxRecDepth 100000 in
theorem ac_42_1z {l : Launch} {D : va_G} {ty : Nat → ClassId} {base sz : Nat} (hl9 : l.stackTraces = false) {yd : Nat} {σ : QS} {X : va_W} (hq : qY ty yd σ X) {v : Int32} (ho : qLow (v >>> (26 &&& 31)) 14 = 0) (hk : qLow v 46 = 42) (hs : qLow (v >>> (9 &&& 31)) 4 = 0) : Met l yL_act [.code yL_act cL_act 10 (some (.long))] rmA (yPc D ty base sz X [.ref yd, .int v]) (va_Ql (fun r X' => r = (nI σ.2.2.1).toInt64 ∧ qY ty yd (nForget σ) X') (yB D (va_A X sz) (fun X' : va_W => X')) (va_A X sz)) rmA.cells rmA.slots (va_A X sz) := by
  refine act_pre1 ho (fun pZ eZ sZ mZ aZ bZ tZ cZ AZ ls QZ H locs E h hl hret => ?_)
  · obtain ⟨hx, hb, hml, hown, hG, hA, hAb⟩ := E
    rw [hk]
    refine lv_tableIn (tgt := 1001) (off := 795) hx hb dL_act_206 (by decide) (by decide) (by decide) (by decide) ?_
    refine lv_iload_n hx hb dL_act_1001 rfl (lv_at hl 9 rfl) ?_
    refine lv_bipush (v := 9) hx hb dL_act_1002 (by decide) ?_
    refine lv_ishr hx hb dL_act_1004 ?_
    refine lv_iconst (v := 4) hx hb dL_act_1005 (by decide) ?_
    refine y_calli (X' := fun _ : Unit => []) (wc := []) (wr := []) h hA [] [] [] rfl rfl (by decide) (by decide) (by decide) (fun _ => rfl) (va_runS (own := RL) (As := [.int (v >>> ((9 : Int32) &&& 31)), .int 4]) (rest := []) ⟨hx, hb, hml, hown, y_nil⟩ (m_L_low l D ty base _ (v >>> ((9 : Int32) &&& 31)) 4   (by decide)) (y_cwS 2 (kw_1_220 hG) (kw_1_0 hG) (kw_1_218 hG) (kw_1_219 hG) yd_L_low ⟨Nat.le_of_ble_eq_true rfl, Nat.le_of_ble_eq_true rfl⟩) (y_preS hG h hAb [] rfl (by decide)) rfl rfl hl.1 rfl (lv_room (Nat.le_of_ble_eq_true rfl)) dL_act_1006 ⟨Nat.le_of_ble_eq_true rfl, Nat.le_of_ble_eq_true rfl⟩) (fun r_1006 _ H locs hp_1006 h => ?_)
    have hp_1006 : r_1006 = qLow (v >>> ((9 : Int32) &&& 31)) 4 := hp_1006
    have h : yH D AZ sZ.heap [] (X ++ []) _ _ := h
    rw [hp_1006]
    refine lv_if_ne (tgt := 1020) hx hb dL_act_1009 (by decide) (fun c_1009 => ?_) (fun c_1009 => ?_)
    · exact absurd hs c_1009
    · skip
      refine lv_aload_n hx hb dL_act_1012 rfl (lv_at hl 8 rfl) ?_
      have h : yH D AZ sZ.heap X [] _ _ := h.pl rfl
      obtain ⟨fs_1, he_1⟩ := qY_rc hq
      refine q_calli h hA (va_runV (own := RL) (As := []) (rest := []) ⟨hx, hb, hml, hown, y_nil⟩ (q_forget (l := l) (D := D) (ty := ty) (base := _) (sz := _) hl9 hq  ) (y_cwV (C := RX7) 0 (kw_3_235 hG) (kw_1_1 hG) (kw_3_232 hG) (kw_3_233 hG) (kw_3_234 hG) yd_X7_forget ⟨Nat.le_of_ble_eq_true rfl, Nat.le_of_ble_eq_true rfl⟩) (q_preV (ci := 7) hG h hAb he_1 rfl) rfl rfl hl.1 rfl (lv_room (Nat.le_of_ble_eq_true rfl)) dL_act_1013 ⟨Nat.le_of_ble_eq_true rfl, Nat.le_of_ble_eq_true rfl⟩) (fun r_1013 X_1013 H locs hp_1013 h => ?_)
      obtain ⟨e_1013, hq_1013⟩ := hp_1013
      have h : yH D AZ sZ.heap [] (X_1013 ++ []) _ _ := h.pl rfl
      rw [e_1013]
      refine lv_i2l hx hb dL_act_1016 rfl ?_
      refine lv_goto (tgt := 1051) hx hb dL_act_1017 (by decide) ?_
      exact hret _ _ _ _ _ _ _ _ ⟨rfl, hq_1013⟩ h (Nat.le_of_ble_eq_true rfl) (Nat.le_of_ble_eq_true rfl) dL_act_1051

set_option maxHeartbeats 4000000 in
set_option maxRecDepth 100000 in
theorem ac_42_1n {l : Launch} {D : va_G} {ty : Nat → ClassId} {base sz : Nat} (hl9 : l.stackTraces = false) {yd : Nat} {σ : QS} {X : va_W} (hq : qY ty yd σ X) {v : Int32} (ho : qLow (v >>> (26 &&& 31)) 14 = 0) (hk : qLow v 46 = 42) (hs : ¬ qLow (v >>> (9 &&& 31)) 4 = 0) : Met l yL_act [.code yL_act cL_act 10 (some (.long))] rmA (yPc D ty base sz X [.ref yd, .int v]) (va_Ql (fun r X' => r = (aFits σ ((qLow (v >>> ((12 : Int32) &&& 31)) 100) - (4 : Int32)) (v >>> ((9 : Int32) &&& 31)) ((qLow (v >>> ((11 : Int32) &&& 31)) 8) - (1 : Int32)) ((qLow (v >>> ((11 : Int32) &&& 31)) 8) - (1 : Int32))).toInt64 ∧ qY ty yd σ X') (yB D (va_A X sz) (fun X' : va_W => X')) (va_A X sz)) rmA.cells rmA.slots (va_A X sz) := by
  refine act_pre1 ho (fun pZ eZ sZ mZ aZ bZ tZ cZ AZ ls QZ H locs E h hl hret => ?_)
  · obtain ⟨hx, hb, hml, hown, hG, hA, hAb⟩ := E
    rw [hk]
    refine lv_tableIn (tgt := 1001) (off := 795) hx hb dL_act_206 (by decide) (by decide) (by decide) (by decide) ?_
    refine lv_iload_n hx hb dL_act_1001 rfl (lv_at hl 9 rfl) ?_
    refine lv_bipush (v := 9) hx hb dL_act_1002 (by decide) ?_
    refine lv_ishr hx hb dL_act_1004 ?_
    refine lv_iconst (v := 4) hx hb dL_act_1005 (by decide) ?_
    refine y_calli (X' := fun _ : Unit => []) (wc := []) (wr := []) h hA [] [] [] rfl rfl (by decide) (by decide) (by decide) (fun _ => rfl) (va_runS (own := RL) (As := [.int (v >>> ((9 : Int32) &&& 31)), .int 4]) (rest := []) ⟨hx, hb, hml, hown, y_nil⟩ (m_L_low l D ty base _ (v >>> ((9 : Int32) &&& 31)) 4   (by decide)) (y_cwS 2 (kw_1_220 hG) (kw_1_0 hG) (kw_1_218 hG) (kw_1_219 hG) yd_L_low ⟨Nat.le_of_ble_eq_true rfl, Nat.le_of_ble_eq_true rfl⟩) (y_preS hG h hAb [] rfl (by decide)) rfl rfl hl.1 rfl (lv_room (Nat.le_of_ble_eq_true rfl)) dL_act_1006 ⟨Nat.le_of_ble_eq_true rfl, Nat.le_of_ble_eq_true rfl⟩) (fun r_1006 _ H locs hp_1006 h => ?_)
    have hp_1006 : r_1006 = qLow (v >>> ((9 : Int32) &&& 31)) 4 := hp_1006
    have h : yH D AZ sZ.heap [] (X ++ []) _ _ := h
    rw [hp_1006]
    refine lv_if_ne (tgt := 1020) hx hb dL_act_1009 (by decide) (fun c_1009 => ?_) (fun c_1009 => ?_)
    · skip
      refine lv_aload_n hx hb dL_act_1020 rfl (lv_at hl 8 rfl) ?_
      refine lv_iload hx hb dL_act_1021 (lv_at hl 2 rfl) ?_
      refine lv_iload hx hb dL_act_1023 (lv_at hl 1 rfl) ?_
      refine lv_iload_n hx hb dL_act_1025 rfl (lv_at hl 7 rfl) ?_
      refine lv_if_eq (tgt := 1034) hx hb dL_act_1026 (by decide) (fun c_1026 => ?_) (fun c_1026 => ?_)
      · exact absurd c_1026 (by decide)
      · skip
        refine lv_iload hx hb dL_act_1029 (lv_at hl 0 rfl) ?_
        refine lv_goto (tgt := 1045) hx hb dL_act_1031 (by decide) ?_
        refine lv_iload hx hb dL_act_1045 (lv_at hl 0 rfl) ?_
        have h : yH D AZ sZ.heap X [] _ _ := h.pl rfl
        refine q_calli h hA (vx_runSW (own := RL) (As := [.ref yd, .int ((qLow (v >>> ((12 : Int32) &&& 31)) 100) - (4 : Int32)), .int (v >>> ((9 : Int32) &&& 31)), .int ((qLow (v >>> ((11 : Int32) &&& 31)) 8) - (1 : Int32)), .int ((qLow (v >>> ((11 : Int32) &&& 31)) 8) - (1 : Int32))]) (rest := []) ⟨hx, hb, hml, hown, y_nil⟩ (q_fits (l := l) (D := D) (ty := ty) (base := _) (sz := _) hl9 hq ((qLow (v >>> ((12 : Int32) &&& 31)) 100) - (4 : Int32)) (v >>> ((9 : Int32) &&& 31)) ((qLow (v >>> ((11 : Int32) &&& 31)) 8) - (1 : Int32)) ((qLow (v >>> ((11 : Int32) &&& 31)) 8) - (1 : Int32)) ) (y_cwSW 5 (kw_4_10 hG) (kw_1_0 hG) (kw_4_8 hG) (kw_4_9 hG) yd_L_fits ⟨Nat.le_of_ble_eq_true rfl, Nat.le_of_ble_eq_true rfl⟩) (q_preS hG h hAb) rfl rfl hl.1 rfl (lv_room (Nat.le_of_ble_eq_true rfl)) dL_act_1047 ⟨Nat.le_of_ble_eq_true rfl, Nat.le_of_ble_eq_true rfl⟩) (fun r_1047 X_1047 H locs hp_1047 h => ?_)
        obtain ⟨e_1047, hq_1047⟩ := hp_1047
        have h : yH D AZ sZ.heap [] (X_1047 ++ []) _ _ := h.pl rfl
        rw [e_1047]
        refine lv_i2l hx hb dL_act_1050 rfl ?_
        exact hret _ _ _ _ _ _ _ _ ⟨rfl, hq_1047⟩ h (Nat.le_of_ble_eq_true rfl) (Nat.le_of_ble_eq_true rfl) dL_act_1051
    · exact absurd c_1009 hs

set_option maxHeartbeats 4000000 in
set_option maxRecDepth 100000 in
theorem ac_42_0z {l : Launch} {D : va_G} {ty : Nat → ClassId} {base sz : Nat} (hl9 : l.stackTraces = false) {yd : Nat} {σ : QS} {X : va_W} (hq : qY ty yd σ X) {v : Int32} (ho : ¬ qLow (v >>> (26 &&& 31)) 14 = 0) (hk : qLow v 46 = 42) (hs : qLow (v >>> (9 &&& 31)) 4 = 0) : Met l yL_act [.code yL_act cL_act 10 (some (.long))] rmA (yPc D ty base sz X [.ref yd, .int v]) (va_Ql (fun r X' => r = (nI σ.2.2.1).toInt64 ∧ qY ty yd (nForget σ) X') (yB D (va_A X sz) (fun X' : va_W => X')) (va_A X sz)) rmA.cells rmA.slots (va_A X sz) := by
  refine act_pre0 ho (fun pZ eZ sZ mZ aZ bZ tZ cZ AZ ls QZ H locs E h hl hret => ?_)
  · obtain ⟨hx, hb, hml, hown, hG, hA, hAb⟩ := E
    rw [hk]
    refine lv_tableIn (tgt := 1001) (off := 795) hx hb dL_act_206 (by decide) (by decide) (by decide) (by decide) ?_
    refine lv_iload_n hx hb dL_act_1001 rfl (lv_at hl 9 rfl) ?_
    refine lv_bipush (v := 9) hx hb dL_act_1002 (by decide) ?_
    refine lv_ishr hx hb dL_act_1004 ?_
    refine lv_iconst (v := 4) hx hb dL_act_1005 (by decide) ?_
    refine y_calli (X' := fun _ : Unit => []) (wc := []) (wr := []) h hA [] [] [] rfl rfl (by decide) (by decide) (by decide) (fun _ => rfl) (va_runS (own := RL) (As := [.int (v >>> ((9 : Int32) &&& 31)), .int 4]) (rest := []) ⟨hx, hb, hml, hown, y_nil⟩ (m_L_low l D ty base _ (v >>> ((9 : Int32) &&& 31)) 4   (by decide)) (y_cwS 2 (kw_1_220 hG) (kw_1_0 hG) (kw_1_218 hG) (kw_1_219 hG) yd_L_low ⟨Nat.le_of_ble_eq_true rfl, Nat.le_of_ble_eq_true rfl⟩) (y_preS hG h hAb [] rfl (by decide)) rfl rfl hl.1 rfl (lv_room (Nat.le_of_ble_eq_true rfl)) dL_act_1006 ⟨Nat.le_of_ble_eq_true rfl, Nat.le_of_ble_eq_true rfl⟩) (fun r_1006 _ H locs hp_1006 h => ?_)
    have hp_1006 : r_1006 = qLow (v >>> ((9 : Int32) &&& 31)) 4 := hp_1006
    have h : yH D AZ sZ.heap [] (X ++ []) _ _ := h
    rw [hp_1006]
    refine lv_if_ne (tgt := 1020) hx hb dL_act_1009 (by decide) (fun c_1009 => ?_) (fun c_1009 => ?_)
    · exact absurd hs c_1009
    · skip
      refine lv_aload_n hx hb dL_act_1012 rfl (lv_at hl 8 rfl) ?_
      have h : yH D AZ sZ.heap X [] _ _ := h.pl rfl
      obtain ⟨fs_1, he_1⟩ := qY_rc hq
      refine q_calli h hA (va_runV (own := RL) (As := []) (rest := []) ⟨hx, hb, hml, hown, y_nil⟩ (q_forget (l := l) (D := D) (ty := ty) (base := _) (sz := _) hl9 hq  ) (y_cwV (C := RX7) 0 (kw_3_235 hG) (kw_1_1 hG) (kw_3_232 hG) (kw_3_233 hG) (kw_3_234 hG) yd_X7_forget ⟨Nat.le_of_ble_eq_true rfl, Nat.le_of_ble_eq_true rfl⟩) (q_preV (ci := 7) hG h hAb he_1 rfl) rfl rfl hl.1 rfl (lv_room (Nat.le_of_ble_eq_true rfl)) dL_act_1013 ⟨Nat.le_of_ble_eq_true rfl, Nat.le_of_ble_eq_true rfl⟩) (fun r_1013 X_1013 H locs hp_1013 h => ?_)
      obtain ⟨e_1013, hq_1013⟩ := hp_1013
      have h : yH D AZ sZ.heap [] (X_1013 ++ []) _ _ := h.pl rfl
      rw [e_1013]
      refine lv_i2l hx hb dL_act_1016 rfl ?_
      refine lv_goto (tgt := 1051) hx hb dL_act_1017 (by decide) ?_
      exact hret _ _ _ _ _ _ _ _ ⟨rfl, hq_1013⟩ h (Nat.le_of_ble_eq_true rfl) (Nat.le_of_ble_eq_true rfl) dL_act_1051

set_option maxHeartbeats 4000000 in
set_option maxRecDepth 100000 in
theorem ac_42_0n {l : Launch} {D : va_G} {ty : Nat → ClassId} {base sz : Nat} (hl9 : l.stackTraces = false) {yd : Nat} {σ : QS} {X : va_W} (hq : qY ty yd σ X) {v : Int32} (ho : ¬ qLow (v >>> (26 &&& 31)) 14 = 0) (hk : qLow v 46 = 42) (hs : ¬ qLow (v >>> (9 &&& 31)) 4 = 0) : Met l yL_act [.code yL_act cL_act 10 (some (.long))] rmA (yPc D ty base sz X [.ref yd, .int v]) (va_Ql (fun r X' => r = (aFits σ (qLow (v >>> ((12 : Int32) &&& 31)) 91) ((qLow (v >>> ((9 : Int32) &&& 31)) 121) - (60 : Int32)) ((1 : Int32) + (qLow (v >>> ((3 : Int32) &&& 31)) 500)) (qLow (v >>> ((11 : Int32) &&& 31)) 3)).toInt64 ∧ qY ty yd σ X') (yB D (va_A X sz) (fun X' : va_W => X')) (va_A X sz)) rmA.cells rmA.slots (va_A X sz) := by
  refine act_pre0 ho (fun pZ eZ sZ mZ aZ bZ tZ cZ AZ ls QZ H locs E h hl hret => ?_)
  · obtain ⟨hx, hb, hml, hown, hG, hA, hAb⟩ := E
    rw [hk]
    refine lv_tableIn (tgt := 1001) (off := 795) hx hb dL_act_206 (by decide) (by decide) (by decide) (by decide) ?_
    refine lv_iload_n hx hb dL_act_1001 rfl (lv_at hl 9 rfl) ?_
    refine lv_bipush (v := 9) hx hb dL_act_1002 (by decide) ?_
    refine lv_ishr hx hb dL_act_1004 ?_
    refine lv_iconst (v := 4) hx hb dL_act_1005 (by decide) ?_
    refine y_calli (X' := fun _ : Unit => []) (wc := []) (wr := []) h hA [] [] [] rfl rfl (by decide) (by decide) (by decide) (fun _ => rfl) (va_runS (own := RL) (As := [.int (v >>> ((9 : Int32) &&& 31)), .int 4]) (rest := []) ⟨hx, hb, hml, hown, y_nil⟩ (m_L_low l D ty base _ (v >>> ((9 : Int32) &&& 31)) 4   (by decide)) (y_cwS 2 (kw_1_220 hG) (kw_1_0 hG) (kw_1_218 hG) (kw_1_219 hG) yd_L_low ⟨Nat.le_of_ble_eq_true rfl, Nat.le_of_ble_eq_true rfl⟩) (y_preS hG h hAb [] rfl (by decide)) rfl rfl hl.1 rfl (lv_room (Nat.le_of_ble_eq_true rfl)) dL_act_1006 ⟨Nat.le_of_ble_eq_true rfl, Nat.le_of_ble_eq_true rfl⟩) (fun r_1006 _ H locs hp_1006 h => ?_)
    have hp_1006 : r_1006 = qLow (v >>> ((9 : Int32) &&& 31)) 4 := hp_1006
    have h : yH D AZ sZ.heap [] (X ++ []) _ _ := h
    rw [hp_1006]
    refine lv_if_ne (tgt := 1020) hx hb dL_act_1009 (by decide) (fun c_1009 => ?_) (fun c_1009 => ?_)
    · skip
      refine lv_aload_n hx hb dL_act_1020 rfl (lv_at hl 8 rfl) ?_
      refine lv_iload hx hb dL_act_1021 (lv_at hl 2 rfl) ?_
      refine lv_iload hx hb dL_act_1023 (lv_at hl 1 rfl) ?_
      refine lv_iload_n hx hb dL_act_1025 rfl (lv_at hl 7 rfl) ?_
      refine lv_if_eq (tgt := 1034) hx hb dL_act_1026 (by decide) (fun c_1026 => ?_) (fun c_1026 => ?_)
      · skip
        refine lv_iconst (v := 1) hx hb dL_act_1034 (by decide) ?_
        refine lv_iload_n hx hb dL_act_1035 rfl (lv_at hl 9 rfl) ?_
        refine lv_iconst (v := 3) hx hb dL_act_1036 (by decide) ?_
        refine lv_ishr hx hb dL_act_1037 ?_
        refine lv_sipush (v := 500) hx hb dL_act_1038 (by decide) ?_
        refine y_calli (X' := fun _ : Unit => []) (wc := []) (wr := []) h hA [] [] [] rfl rfl (by decide) (by decide) (by decide) (fun _ => rfl) (va_runS (own := RL) (As := [.int (v >>> ((3 : Int32) &&& 31)), .int 500]) (rest := [.int 1, .int ((qLow (v >>> ((9 : Int32) &&& 31)) 121) - (60 : Int32)), .int (qLow (v >>> ((12 : Int32) &&& 31)) 91), .ref yd]) ⟨hx, hb, hml, hown, y_nil⟩ (m_L_low l D ty base _ (v >>> ((3 : Int32) &&& 31)) 500   (by decide)) (y_cwS 2 (kw_1_220 hG) (kw_1_0 hG) (kw_1_218 hG) (kw_1_219 hG) yd_L_low ⟨Nat.le_of_ble_eq_true rfl, Nat.le_of_ble_eq_true rfl⟩) (y_preS hG h hAb [] rfl (by decide)) rfl rfl hl.1 rfl (lv_room (Nat.le_of_ble_eq_true rfl)) dL_act_1041 ⟨Nat.le_of_ble_eq_true rfl, Nat.le_of_ble_eq_true rfl⟩) (fun r_1041 _ H locs hp_1041 h => ?_)
        have hp_1041 : r_1041 = qLow (v >>> ((3 : Int32) &&& 31)) 500 := hp_1041
        have h : yH D AZ sZ.heap [] (X ++ []) _ _ := h
        rw [hp_1041]
        refine lv_iadd hx hb dL_act_1044 ?_
        refine lv_iload hx hb dL_act_1045 (lv_at hl 0 rfl) ?_
        have h : yH D AZ sZ.heap X [] _ _ := h.pl rfl
        refine q_calli h hA (vx_runSW (own := RL) (As := [.ref yd, .int (qLow (v >>> ((12 : Int32) &&& 31)) 91), .int ((qLow (v >>> ((9 : Int32) &&& 31)) 121) - (60 : Int32)), .int ((1 : Int32) + (qLow (v >>> ((3 : Int32) &&& 31)) 500)), .int (qLow (v >>> ((11 : Int32) &&& 31)) 3)]) (rest := []) ⟨hx, hb, hml, hown, y_nil⟩ (q_fits (l := l) (D := D) (ty := ty) (base := _) (sz := _) hl9 hq (qLow (v >>> ((12 : Int32) &&& 31)) 91) ((qLow (v >>> ((9 : Int32) &&& 31)) 121) - (60 : Int32)) ((1 : Int32) + (qLow (v >>> ((3 : Int32) &&& 31)) 500)) (qLow (v >>> ((11 : Int32) &&& 31)) 3) ) (y_cwSW 5 (kw_4_10 hG) (kw_1_0 hG) (kw_4_8 hG) (kw_4_9 hG) yd_L_fits ⟨Nat.le_of_ble_eq_true rfl, Nat.le_of_ble_eq_true rfl⟩) (q_preS hG h hAb) rfl rfl hl.1 rfl (lv_room (Nat.le_of_ble_eq_true rfl)) dL_act_1047 ⟨Nat.le_of_ble_eq_true rfl, Nat.le_of_ble_eq_true rfl⟩) (fun r_1047 X_1047 H locs hp_1047 h => ?_)
        obtain ⟨e_1047, hq_1047⟩ := hp_1047
        have h : yH D AZ sZ.heap [] (X_1047 ++ []) _ _ := h.pl rfl
        rw [e_1047]
        refine lv_i2l hx hb dL_act_1050 rfl ?_
        exact hret _ _ _ _ _ _ _ _ ⟨rfl, hq_1047⟩ h (Nat.le_of_ble_eq_true rfl) (Nat.le_of_ble_eq_true rfl) dL_act_1051
      · exact absurd (by decide) c_1026
    · exact absurd c_1009 hs

set_option maxHeartbeats 4000000 in
set_option maxRecDepth 100000 in
theorem ac_43_1 {l : Launch} {D : va_G} {ty : Nat → ClassId} {base sz : Nat} (hl9 : l.stackTraces = false) {yd : Nat} {σ : QS} {X : va_W} (hq : qY ty yd σ X) {v : Int32} (ho : qLow (v >>> (26 &&& 31)) 14 = 0) (hk : qLow v 46 = 43)  : Met l yL_act [.code yL_act cL_act 10 (some (.long))] rmA (yPc D ty base sz X [.ref yd, .int v]) (va_Ql (fun r X' => r = (aShadow σ ((qLow (v >>> ((7 : Int32) &&& 31)) 13) - (2 : Int32)) (v >>> ((5 : Int32) &&& 31)) (v >>> ((8 : Int32) &&& 31)) 1).toInt64 ∧ qY ty yd σ X') (yB D (va_A X sz) (fun X' : va_W => X')) (va_A X sz)) rmA.cells rmA.slots (va_A X sz) := by
  refine act_pre1 ho (fun pZ eZ sZ mZ aZ bZ tZ cZ AZ ls QZ H locs E h hl hret => ?_)
  · obtain ⟨hx, hb, hml, hown, hG, hA, hAb⟩ := E
    rw [hk]
    refine lv_tableOut (tgt := 1052) hx hb dL_act_206 (by decide) (by decide) ?_
    refine lv_aload_n hx hb dL_act_1052 rfl (lv_at hl 8 rfl) ?_
    refine lv_iload hx hb dL_act_1053 (lv_at hl 5 rfl) ?_
    refine lv_iload hx hb dL_act_1055 (lv_at hl 4 rfl) ?_
    refine lv_iload hx hb dL_act_1057 (lv_at hl 3 rfl) ?_
    refine lv_iconst (v := 1) hx hb dL_act_1059 (by decide) ?_
    have h : yH D AZ sZ.heap X [] _ _ := h.pl rfl
    refine q_calli h hA (vx_runSW (own := RL) (As := [.ref yd, .int ((qLow (v >>> ((7 : Int32) &&& 31)) 13) - (2 : Int32)), .int (v >>> ((5 : Int32) &&& 31)), .int (v >>> ((8 : Int32) &&& 31)), .int 1]) (rest := []) ⟨hx, hb, hml, hown, y_nil⟩ (q_shadow (l := l) (D := D) (ty := ty) (base := _) (sz := _) hl9 hq ((qLow (v >>> ((7 : Int32) &&& 31)) 13) - (2 : Int32)) (v >>> ((5 : Int32) &&& 31)) (v >>> ((8 : Int32) &&& 31)) 1 ) (y_cwSW 5 (kw_3_83 hG) (kw_1_0 hG) (kw_3_81 hG) (kw_3_82 hG) yd_L_shadow ⟨Nat.le_of_ble_eq_true rfl, Nat.le_of_ble_eq_true rfl⟩) (q_preS hG h hAb) rfl rfl hl.1 rfl (lv_room (Nat.le_of_ble_eq_true rfl)) dL_act_1060 ⟨Nat.le_of_ble_eq_true rfl, Nat.le_of_ble_eq_true rfl⟩) (fun r_1060 X_1060 H locs hp_1060 h => ?_)
    obtain ⟨e_1060, hq_1060⟩ := hp_1060
    have h : yH D AZ sZ.heap [] (X_1060 ++ []) _ _ := h.pl rfl
    rw [e_1060]
    refine lv_i2l hx hb dL_act_1063 rfl ?_
    exact hret _ _ _ _ _ _ _ _ ⟨rfl, hq_1060⟩ h (Nat.le_of_ble_eq_true rfl) (Nat.le_of_ble_eq_true rfl) dL_act_1064

set_option maxHeartbeats 4000000 in
set_option maxRecDepth 100000 in
theorem ac_43_0 {l : Launch} {D : va_G} {ty : Nat → ClassId} {base sz : Nat} (hl9 : l.stackTraces = false) {yd : Nat} {σ : QS} {X : va_W} (hq : qY ty yd σ X) {v : Int32} (ho : ¬ qLow (v >>> (26 &&& 31)) 14 = 0) (hk : qLow v 46 = 43)  : Met l yL_act [.code yL_act cL_act 10 (some (.long))] rmA (yPc D ty base sz X [.ref yd, .int v]) (va_Ql (fun r X' => r = (aShadow σ (qLow (v >>> ((7 : Int32) &&& 31)) 3) (qLow (v >>> ((5 : Int32) &&& 31)) 360) ((60 : Int32) + (qLow (v >>> ((8 : Int32) &&& 31)) 240)) 1).toInt64 ∧ qY ty yd σ X') (yB D (va_A X sz) (fun X' : va_W => X')) (va_A X sz)) rmA.cells rmA.slots (va_A X sz) := by
  refine act_pre0 ho (fun pZ eZ sZ mZ aZ bZ tZ cZ AZ ls QZ H locs E h hl hret => ?_)
  · obtain ⟨hx, hb, hml, hown, hG, hA, hAb⟩ := E
    rw [hk]
    refine lv_tableOut (tgt := 1052) hx hb dL_act_206 (by decide) (by decide) ?_
    refine lv_aload_n hx hb dL_act_1052 rfl (lv_at hl 8 rfl) ?_
    refine lv_iload hx hb dL_act_1053 (lv_at hl 5 rfl) ?_
    refine lv_iload hx hb dL_act_1055 (lv_at hl 4 rfl) ?_
    refine lv_iload hx hb dL_act_1057 (lv_at hl 3 rfl) ?_
    refine lv_iconst (v := 1) hx hb dL_act_1059 (by decide) ?_
    have h : yH D AZ sZ.heap X [] _ _ := h.pl rfl
    refine q_calli h hA (vx_runSW (own := RL) (As := [.ref yd, .int (qLow (v >>> ((7 : Int32) &&& 31)) 3), .int (qLow (v >>> ((5 : Int32) &&& 31)) 360), .int ((60 : Int32) + (qLow (v >>> ((8 : Int32) &&& 31)) 240)), .int 1]) (rest := []) ⟨hx, hb, hml, hown, y_nil⟩ (q_shadow (l := l) (D := D) (ty := ty) (base := _) (sz := _) hl9 hq (qLow (v >>> ((7 : Int32) &&& 31)) 3) (qLow (v >>> ((5 : Int32) &&& 31)) 360) ((60 : Int32) + (qLow (v >>> ((8 : Int32) &&& 31)) 240)) 1 ) (y_cwSW 5 (kw_3_83 hG) (kw_1_0 hG) (kw_3_81 hG) (kw_3_82 hG) yd_L_shadow ⟨Nat.le_of_ble_eq_true rfl, Nat.le_of_ble_eq_true rfl⟩) (q_preS hG h hAb) rfl rfl hl.1 rfl (lv_room (Nat.le_of_ble_eq_true rfl)) dL_act_1060 ⟨Nat.le_of_ble_eq_true rfl, Nat.le_of_ble_eq_true rfl⟩) (fun r_1060 X_1060 H locs hp_1060 h => ?_)
    obtain ⟨e_1060, hq_1060⟩ := hp_1060
    have h : yH D AZ sZ.heap [] (X_1060 ++ []) _ _ := h.pl rfl
    rw [e_1060]
    refine lv_i2l hx hb dL_act_1063 rfl ?_
    exact hret _ _ _ _ _ _ _ _ ⟨rfl, hq_1060⟩ h (Nat.le_of_ble_eq_true rfl) (Nat.le_of_ble_eq_true rfl) dL_act_1064

set_option maxHeartbeats 4000000 in
set_option maxRecDepth 100000 in
theorem ac_44_1 {l : Launch} {D : va_G} {ty : Nat → ClassId} {base sz : Nat} (hl9 : l.stackTraces = false) {yd : Nat} {σ : QS} {X : va_W} (hq : qY ty yd σ X) {v : Int32} (ho : qLow (v >>> (26 &&& 31)) 14 = 0) (hk : qLow v 46 = 44)  : Met l yL_act [.code yL_act cL_act 10 (some (.long))] rmA (yPc D ty base sz X [.ref yd, .int v]) (va_Ql (fun r X' => r = (aShadow σ ((qLow (v >>> ((7 : Int32) &&& 31)) 13) - (2 : Int32)) (v >>> ((5 : Int32) &&& 31)) (v >>> ((8 : Int32) &&& 31)) 1).toInt64 ∧ qY ty yd σ X') (yB D (va_A X sz) (fun X' : va_W => X')) (va_A X sz)) rmA.cells rmA.slots (va_A X sz) := by
  refine act_pre1 ho (fun pZ eZ sZ mZ aZ bZ tZ cZ AZ ls QZ H locs E h hl hret => ?_)
  · obtain ⟨hx, hb, hml, hown, hG, hA, hAb⟩ := E
    rw [hk]
    refine lv_tableOut (tgt := 1052) hx hb dL_act_206 (by decide) (by decide) ?_
    refine lv_aload_n hx hb dL_act_1052 rfl (lv_at hl 8 rfl) ?_
    refine lv_iload hx hb dL_act_1053 (lv_at hl 5 rfl) ?_
    refine lv_iload hx hb dL_act_1055 (lv_at hl 4 rfl) ?_
    refine lv_iload hx hb dL_act_1057 (lv_at hl 3 rfl) ?_
    refine lv_iconst (v := 1) hx hb dL_act_1059 (by decide) ?_
    have h : yH D AZ sZ.heap X [] _ _ := h.pl rfl
    refine q_calli h hA (vx_runSW (own := RL) (As := [.ref yd, .int ((qLow (v >>> ((7 : Int32) &&& 31)) 13) - (2 : Int32)), .int (v >>> ((5 : Int32) &&& 31)), .int (v >>> ((8 : Int32) &&& 31)), .int 1]) (rest := []) ⟨hx, hb, hml, hown, y_nil⟩ (q_shadow (l := l) (D := D) (ty := ty) (base := _) (sz := _) hl9 hq ((qLow (v >>> ((7 : Int32) &&& 31)) 13) - (2 : Int32)) (v >>> ((5 : Int32) &&& 31)) (v >>> ((8 : Int32) &&& 31)) 1 ) (y_cwSW 5 (kw_3_83 hG) (kw_1_0 hG) (kw_3_81 hG) (kw_3_82 hG) yd_L_shadow ⟨Nat.le_of_ble_eq_true rfl, Nat.le_of_ble_eq_true rfl⟩) (q_preS hG h hAb) rfl rfl hl.1 rfl (lv_room (Nat.le_of_ble_eq_true rfl)) dL_act_1060 ⟨Nat.le_of_ble_eq_true rfl, Nat.le_of_ble_eq_true rfl⟩) (fun r_1060 X_1060 H locs hp_1060 h => ?_)
    obtain ⟨e_1060, hq_1060⟩ := hp_1060
    have h : yH D AZ sZ.heap [] (X_1060 ++ []) _ _ := h.pl rfl
    rw [e_1060]
    refine lv_i2l hx hb dL_act_1063 rfl ?_
    exact hret _ _ _ _ _ _ _ _ ⟨rfl, hq_1060⟩ h (Nat.le_of_ble_eq_true rfl) (Nat.le_of_ble_eq_true rfl) dL_act_1064

set_option maxHeartbeats 4000000 in
set_option maxRecDepth 100000 in
theorem ac_44_0 {l : Launch} {D : va_G} {ty : Nat → ClassId} {base sz : Nat} (hl9 : l.stackTraces = false) {yd : Nat} {σ : QS} {X : va_W} (hq : qY ty yd σ X) {v : Int32} (ho : ¬ qLow (v >>> (26 &&& 31)) 14 = 0) (hk : qLow v 46 = 44)  : Met l yL_act [.code yL_act cL_act 10 (some (.long))] rmA (yPc D ty base sz X [.ref yd, .int v]) (va_Ql (fun r X' => r = (aShadow σ (qLow (v >>> ((7 : Int32) &&& 31)) 3) (qLow (v >>> ((5 : Int32) &&& 31)) 360) ((60 : Int32) + (qLow (v >>> ((8 : Int32) &&& 31)) 240)) 1).toInt64 ∧ qY ty yd σ X') (yB D (va_A X sz) (fun X' : va_W => X')) (va_A X sz)) rmA.cells rmA.slots (va_A X sz) := by
  refine act_pre0 ho (fun pZ eZ sZ mZ aZ bZ tZ cZ AZ ls QZ H locs E h hl hret => ?_)
  · obtain ⟨hx, hb, hml, hown, hG, hA, hAb⟩ := E
    rw [hk]
    refine lv_tableOut (tgt := 1052) hx hb dL_act_206 (by decide) (by decide) ?_
    refine lv_aload_n hx hb dL_act_1052 rfl (lv_at hl 8 rfl) ?_
    refine lv_iload hx hb dL_act_1053 (lv_at hl 5 rfl) ?_
    refine lv_iload hx hb dL_act_1055 (lv_at hl 4 rfl) ?_
    refine lv_iload hx hb dL_act_1057 (lv_at hl 3 rfl) ?_
    refine lv_iconst (v := 1) hx hb dL_act_1059 (by decide) ?_
    have h : yH D AZ sZ.heap X [] _ _ := h.pl rfl
    refine q_calli h hA (vx_runSW (own := RL) (As := [.ref yd, .int (qLow (v >>> ((7 : Int32) &&& 31)) 3), .int (qLow (v >>> ((5 : Int32) &&& 31)) 360), .int ((60 : Int32) + (qLow (v >>> ((8 : Int32) &&& 31)) 240)), .int 1]) (rest := []) ⟨hx, hb, hml, hown, y_nil⟩ (q_shadow (l := l) (D := D) (ty := ty) (base := _) (sz := _) hl9 hq (qLow (v >>> ((7 : Int32) &&& 31)) 3) (qLow (v >>> ((5 : Int32) &&& 31)) 360) ((60 : Int32) + (qLow (v >>> ((8 : Int32) &&& 31)) 240)) 1 ) (y_cwSW 5 (kw_3_83 hG) (kw_1_0 hG) (kw_3_81 hG) (kw_3_82 hG) yd_L_shadow ⟨Nat.le_of_ble_eq_true rfl, Nat.le_of_ble_eq_true rfl⟩) (q_preS hG h hAb) rfl rfl hl.1 rfl (lv_room (Nat.le_of_ble_eq_true rfl)) dL_act_1060 ⟨Nat.le_of_ble_eq_true rfl, Nat.le_of_ble_eq_true rfl⟩) (fun r_1060 X_1060 H locs hp_1060 h => ?_)
    obtain ⟨e_1060, hq_1060⟩ := hp_1060
    have h : yH D AZ sZ.heap [] (X_1060 ++ []) _ _ := h.pl rfl
    rw [e_1060]
    refine lv_i2l hx hb dL_act_1063 rfl ?_
    exact hret _ _ _ _ _ _ _ _ ⟨rfl, hq_1060⟩ h (Nat.le_of_ble_eq_true rfl) (Nat.le_of_ble_eq_true rfl) dL_act_1064

set_option maxHeartbeats 4000000 in
set_option maxRecDepth 100000 in
theorem ac_45_1 {l : Launch} {D : va_G} {ty : Nat → ClassId} {base sz : Nat} (hl9 : l.stackTraces = false) {yd : Nat} {σ : QS} {X : va_W} (hq : qY ty yd σ X) {v : Int32} (ho : qLow (v >>> (26 &&& 31)) 14 = 0) (hk : qLow v 46 = 45)  : Met l yL_act [.code yL_act cL_act 10 (some (.long))] rmA (yPc D ty base sz X [.ref yd, .int v]) (va_Ql (fun r X' => r = (aShadow σ ((qLow (v >>> ((7 : Int32) &&& 31)) 13) - (2 : Int32)) (v >>> ((5 : Int32) &&& 31)) (v >>> ((8 : Int32) &&& 31)) 1).toInt64 ∧ qY ty yd σ X') (yB D (va_A X sz) (fun X' : va_W => X')) (va_A X sz)) rmA.cells rmA.slots (va_A X sz) := by
  refine act_pre1 ho (fun pZ eZ sZ mZ aZ bZ tZ cZ AZ ls QZ H locs E h hl hret => ?_)
  · obtain ⟨hx, hb, hml, hown, hG, hA, hAb⟩ := E
    rw [hk]
    refine lv_tableOut (tgt := 1052) hx hb dL_act_206 (by decide) (by decide) ?_
    refine lv_aload_n hx hb dL_act_1052 rfl (lv_at hl 8 rfl) ?_
    refine lv_iload hx hb dL_act_1053 (lv_at hl 5 rfl) ?_
    refine lv_iload hx hb dL_act_1055 (lv_at hl 4 rfl) ?_
    refine lv_iload hx hb dL_act_1057 (lv_at hl 3 rfl) ?_
    refine lv_iconst (v := 1) hx hb dL_act_1059 (by decide) ?_
    have h : yH D AZ sZ.heap X [] _ _ := h.pl rfl
    refine q_calli h hA (vx_runSW (own := RL) (As := [.ref yd, .int ((qLow (v >>> ((7 : Int32) &&& 31)) 13) - (2 : Int32)), .int (v >>> ((5 : Int32) &&& 31)), .int (v >>> ((8 : Int32) &&& 31)), .int 1]) (rest := []) ⟨hx, hb, hml, hown, y_nil⟩ (q_shadow (l := l) (D := D) (ty := ty) (base := _) (sz := _) hl9 hq ((qLow (v >>> ((7 : Int32) &&& 31)) 13) - (2 : Int32)) (v >>> ((5 : Int32) &&& 31)) (v >>> ((8 : Int32) &&& 31)) 1 ) (y_cwSW 5 (kw_3_83 hG) (kw_1_0 hG) (kw_3_81 hG) (kw_3_82 hG) yd_L_shadow ⟨Nat.le_of_ble_eq_true rfl, Nat.le_of_ble_eq_true rfl⟩) (q_preS hG h hAb) rfl rfl hl.1 rfl (lv_room (Nat.le_of_ble_eq_true rfl)) dL_act_1060 ⟨Nat.le_of_ble_eq_true rfl, Nat.le_of_ble_eq_true rfl⟩) (fun r_1060 X_1060 H locs hp_1060 h => ?_)
    obtain ⟨e_1060, hq_1060⟩ := hp_1060
    have h : yH D AZ sZ.heap [] (X_1060 ++ []) _ _ := h.pl rfl
    rw [e_1060]
    refine lv_i2l hx hb dL_act_1063 rfl ?_
    exact hret _ _ _ _ _ _ _ _ ⟨rfl, hq_1060⟩ h (Nat.le_of_ble_eq_true rfl) (Nat.le_of_ble_eq_true rfl) dL_act_1064

set_option maxHeartbeats 4000000 in
set_option maxRecDepth 100000 in
theorem ac_45_0 {l : Launch} {D : va_G} {ty : Nat → ClassId} {base sz : Nat} (hl9 : l.stackTraces = false) {yd : Nat} {σ : QS} {X : va_W} (hq : qY ty yd σ X) {v : Int32} (ho : ¬ qLow (v >>> (26 &&& 31)) 14 = 0) (hk : qLow v 46 = 45)  : Met l yL_act [.code yL_act cL_act 10 (some (.long))] rmA (yPc D ty base sz X [.ref yd, .int v]) (va_Ql (fun r X' => r = (aShadow σ (qLow (v >>> ((7 : Int32) &&& 31)) 3) (qLow (v >>> ((5 : Int32) &&& 31)) 360) ((60 : Int32) + (qLow (v >>> ((8 : Int32) &&& 31)) 240)) 1).toInt64 ∧ qY ty yd σ X') (yB D (va_A X sz) (fun X' : va_W => X')) (va_A X sz)) rmA.cells rmA.slots (va_A X sz) := by
  refine act_pre0 ho (fun pZ eZ sZ mZ aZ bZ tZ cZ AZ ls QZ H locs E h hl hret => ?_)
  · obtain ⟨hx, hb, hml, hown, hG, hA, hAb⟩ := E
    rw [hk]
    refine lv_tableOut (tgt := 1052) hx hb dL_act_206 (by decide) (by decide) ?_
    refine lv_aload_n hx hb dL_act_1052 rfl (lv_at hl 8 rfl) ?_
    refine lv_iload hx hb dL_act_1053 (lv_at hl 5 rfl) ?_
    refine lv_iload hx hb dL_act_1055 (lv_at hl 4 rfl) ?_
    refine lv_iload hx hb dL_act_1057 (lv_at hl 3 rfl) ?_
    refine lv_iconst (v := 1) hx hb dL_act_1059 (by decide) ?_
    have h : yH D AZ sZ.heap X [] _ _ := h.pl rfl
    refine q_calli h hA (vx_runSW (own := RL) (As := [.ref yd, .int (qLow (v >>> ((7 : Int32) &&& 31)) 3), .int (qLow (v >>> ((5 : Int32) &&& 31)) 360), .int ((60 : Int32) + (qLow (v >>> ((8 : Int32) &&& 31)) 240)), .int 1]) (rest := []) ⟨hx, hb, hml, hown, y_nil⟩ (q_shadow (l := l) (D := D) (ty := ty) (base := _) (sz := _) hl9 hq (qLow (v >>> ((7 : Int32) &&& 31)) 3) (qLow (v >>> ((5 : Int32) &&& 31)) 360) ((60 : Int32) + (qLow (v >>> ((8 : Int32) &&& 31)) 240)) 1 ) (y_cwSW 5 (kw_3_83 hG) (kw_1_0 hG) (kw_3_81 hG) (kw_3_82 hG) yd_L_shadow ⟨Nat.le_of_ble_eq_true rfl, Nat.le_of_ble_eq_true rfl⟩) (q_preS hG h hAb) rfl rfl hl.1 rfl (lv_room (Nat.le_of_ble_eq_true rfl)) dL_act_1060 ⟨Nat.le_of_ble_eq_true rfl, Nat.le_of_ble_eq_true rfl⟩) (fun r_1060 X_1060 H locs hp_1060 h => ?_)
    obtain ⟨e_1060, hq_1060⟩ := hp_1060
    have h : yH D AZ sZ.heap [] (X_1060 ++ []) _ _ := h.pl rfl
    rw [e_1060]
    refine lv_i2l hx hb dL_act_1063 rfl ?_
    exact hret _ _ _ _ _ _ _ _ ⟨rfl, hq_1060⟩ h (Nat.le_of_ble_eq_true rfl) (Nat.le_of_ble_eq_true rfl) dL_act_1064
