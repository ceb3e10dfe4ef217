abbrev rmM : Room := { frames := 10, cells := 92, slots := 943, locals := 209 }
theorem yd_L_isMadeSo : yL_isMadeSo.cls ≠ "java/lang/invoke/MethodHandle" ∧ yL_isMadeSo.cls ≠ "java/lang/invoke/VarHandle" ∧ (parseMethodDescriptor yL_isMadeSo.desc).map (fun d => d.parameters.length) = some 2 := by decide +kernel
set_option maxHeartbeats 4000000 in
set_option maxRecDepth 100000 in
theorem q_made {l : Launch} {D : va_G} {ty : Nat → ClassId} {base sz : Nat} (hl9 : l.stackTraces = false) {yd : Nat} {σ : QS} {X : va_W} (hq : qY ty yd σ X) (v : Int32) : Met l yL_isMadeSo [.code yL_isMadeSo cL_isMadeSo 14 (some (.boolean))] rmM (yPc D ty base sz X [.ref yd, .int v]) (va_Qi (fun r X' => r = 1 ∧ ∃ σ', qY ty yd σ' X') (yB D (va_A X sz) (fun X' : va_W => X')) (va_A X sz)) rmM.cells rmM.slots (va_A X sz) := by
  refine y_start_z (cc := cL_isMadeSo) (maxL := 14) (own := RL) (by decide +kernel) rfl (Nat.le_of_ble_eq_true rfl) (fun pZ eZ sZ mZ aZ bZ tZ cZ AZ ls QZ hx hb hml hown hnm hG hA hAb hsz h hl hret => ?_)
  have h : yH D AZ sZ.heap [] (X ++ []) sZ.heap [] := h.pl rfl
  have hl : lv_has ls 14 [(0, .ref yd), (1, .int v)] := hl
  refine lv_iload_n hx hb dL_isMadeSo_0 rfl (lv_at hl 1 rfl) ?_
  refine lv_iconst (v := 3) hx hb dL_isMadeSo_1 (by decide) ?_
  refine lv_ishr hx hb dL_isMadeSo_2 ?_
  refine lv_sipush (v := 133) hx hb dL_isMadeSo_3 (by decide) ?_
  refine y_calli (X' := fun _ : Unit => []) (wc := []) (wr := []) h hA [] [] [] rfl rfl (by decide) (by decide) (by decide) (fun _ => rfl) (va_runS (own := RL) (As := [.int (v >>> ((3 : Int32) &&& 31)), .int 133]) (rest := []) ⟨hx, hb, hml, hown, y_nil⟩ (m_L_low l D ty base _ (v >>> ((3 : Int32) &&& 31)) 133   (by decide)) (y_cwS 2 (kw_1_220 hG) (kw_1_0 hG) (kw_1_218 hG) (kw_1_219 hG) yd_L_low ⟨Nat.le_of_ble_eq_true rfl, Nat.le_of_ble_eq_true rfl⟩) (y_preS hG h hAb [] rfl (by decide)) rfl rfl hl.1 rfl (lv_room (Nat.le_of_ble_eq_true rfl)) dL_isMadeSo_6 ⟨Nat.le_of_ble_eq_true rfl, Nat.le_of_ble_eq_true rfl⟩) (fun r_6 _ H locs hp_6 h => ?_)
  have hp_6 : r_6 = qLow (v >>> ((3 : Int32) &&& 31)) 133 := hp_6
  have h : yH D AZ sZ.heap [] (X ++ []) _ _ := h
  rw [hp_6]
  refine lv_bipush (v := 66) hx hb dL_isMadeSo_9 (by decide) ?_
  refine lv_isub hx hb dL_isMadeSo_11 ?_
  refine lv_topi (fun p e_p => ?_)
  have h1 : wI p (-66) 66 = true := by rw [e_p]; exact qP_in _
  refine lv_istore_n (lv' := [(2, .int p), (0, .ref yd), (1, .int v)]) hx hb dL_isMadeSo_12 rfl hl (by decide) rfl (fun ls hl => ?_)
  refine lv_aload_n hx hb dL_isMadeSo_13 rfl (lv_at hl 1 rfl) ?_
  refine lv_iload_n hx hb dL_isMadeSo_14 rfl (lv_at hl 0 rfl) ?_
  refine lv_iload_n hx hb dL_isMadeSo_15 rfl (lv_at hl 2 rfl) ?_
  refine lv_bipush (v := 6) hx hb dL_isMadeSo_16 (by decide) ?_
  refine lv_ishr hx hb dL_isMadeSo_18 ?_
  refine lv_sipush (v := 300) hx hb dL_isMadeSo_19 (by decide) ?_
  refine y_calli (X' := fun _ : Unit => []) (wc := []) (wr := []) h hA [] [] [] rfl rfl (by decide) (by decide) (by decide) (fun _ => rfl) (va_runS (own := RL) (As := [.int (v >>> ((6 : Int32) &&& 31)), .int 300]) (rest := [.int p, .ref yd]) ⟨hx, hb, hml, hown, y_nil⟩ (m_L_low l D ty base _ (v >>> ((6 : Int32) &&& 31)) 300   (by decide)) (y_cwS 2 (kw_1_220 hG) (kw_1_0 hG) (kw_1_218 hG) (kw_1_219 hG) yd_L_low ⟨Nat.le_of_ble_eq_true rfl, Nat.le_of_ble_eq_true rfl⟩) (y_preS hG h hAb [] rfl (by decide)) rfl rfl hl.1 rfl (lv_room (Nat.le_of_ble_eq_true rfl)) dL_isMadeSo_22 ⟨Nat.le_of_ble_eq_true rfl, Nat.le_of_ble_eq_true rfl⟩) (fun r_22 _ H locs hp_22 h => ?_)
  have hp_22 : r_22 = qLow (v >>> ((6 : Int32) &&& 31)) 300 := hp_22
  have h : yH D AZ sZ.heap [] (X ++ []) _ _ := h
  rw [hp_22]
  have h : yH D AZ sZ.heap X [] _ _ := h.pl rfl
  refine q_calli h hA (vx_runSW (own := RL) (As := [.ref yd, .int p, .int (qLow (v >>> ((6 : Int32) &&& 31)) 300)]) (rest := []) ⟨hx, hb, hml, hown, y_nil⟩ (q_place (l := l) (D := D) (ty := ty) (base := _) (sz := _) hl9 hq p (qLow (v >>> ((6 : Int32) &&& 31)) 300) ) (y_cwSW 3 (kw_1_224 hG) (kw_1_0 hG) (kw_1_222 hG) (kw_1_223 hG) yd_L_place ⟨Nat.le_of_ble_eq_true rfl, Nat.le_of_ble_eq_true rfl⟩) (q_preS hG h hAb) rfl rfl hl.1 rfl (lv_room (Nat.le_of_ble_eq_true rfl)) dL_isMadeSo_25 ⟨Nat.le_of_ble_eq_true rfl, Nat.le_of_ble_eq_true rfl⟩) (fun r_25 X_25 H locs hp_25 h => ?_)
  obtain ⟨e_25, hq_25⟩ := hp_25
  have h : yH D AZ sZ.heap [] (X_25 ++ []) _ _ := h.pl rfl
  rw [e_25]
  by_cases hP : σ.1 < 8
  · skip
    have hM : ((wI p (-66) 66 && wI (qLow (v >>> ((6 : Int32) &&& 31)) 300) (-720) 720)) = true := an_t h1 (qN_in _)
    rw [(made_p hM hP).1]
    refine lv_istore_n (lv' := [(3, .int (nI σ.1)), (2, .int p), (0, .ref yd), (1, .int v)]) hx hb dL_isMadeSo_28 rfl hl (by decide) rfl (fun ls hl => ?_)
    refine lv_iload_n hx hb dL_isMadeSo_29 rfl (lv_at hl 3 rfl) ?_
    refine lv_iconst (v := 5) hx hb dL_isMadeSo_30 (by decide) ?_
    refine lv_ishr hx hb dL_isMadeSo_31 ?_
    refine lv_bipush (v := 91) hx hb dL_isMadeSo_32 (by decide) ?_
    refine y_calli (X' := fun _ : Unit => []) (wc := []) (wr := []) h hA [] [] [] rfl rfl (by decide) (by decide) (by decide) (fun _ => rfl) (va_runS (own := RL) (As := [.int (v >>> ((5 : Int32) &&& 31)), .int 91]) (rest := []) ⟨hx, hb, hml, hown, y_nil⟩ (m_L_low l D ty base _ (v >>> ((5 : Int32) &&& 31)) 91   (by decide)) (y_cwS 2 (kw_1_220 hG) (kw_1_0 hG) (kw_1_218 hG) (kw_1_219 hG) yd_L_low ⟨Nat.le_of_ble_eq_true rfl, Nat.le_of_ble_eq_true rfl⟩) (y_preS hG h hAb [] rfl (by decide)) rfl rfl hl.1 rfl (lv_room (Nat.le_of_ble_eq_true rfl)) dL_isMadeSo_34 ⟨Nat.le_of_ble_eq_true rfl, Nat.le_of_ble_eq_true rfl⟩) (fun r_34 _ H locs hp_34 h => ?_)
    have hp_34 : r_34 = qLow (v >>> ((5 : Int32) &&& 31)) 91 := hp_34
    have h : yH D AZ sZ.heap [] (X_25 ++ []) _ _ := h
    rw [hp_34]
    refine lv_topi (fun ti e_ti => ?_)
    have h2 : wI ti 0 90 = true := by rw [e_ti]; exact qT_in _
    refine lv_istore (lv' := [(4, .int ti), (3, .int (nI σ.1)), (2, .int p), (0, .ref yd), (1, .int v)]) hx hb dL_isMadeSo_37 hl (by decide) rfl (fun ls hl => ?_)
    refine lv_iload_n hx hb dL_isMadeSo_39 rfl (lv_at hl 4 rfl) ?_
    refine lv_bipush (v := 8) hx hb dL_isMadeSo_40 (by decide) ?_
    refine lv_ishr hx hb dL_isMadeSo_42 ?_
    refine lv_sipush (v := 181) hx hb dL_isMadeSo_43 (by decide) ?_
    refine y_calli (X' := fun _ : Unit => []) (wc := []) (wr := []) h hA [] [] [] rfl rfl (by decide) (by decide) (by decide) (fun _ => rfl) (va_runS (own := RL) (As := [.int (v >>> ((8 : Int32) &&& 31)), .int 181]) (rest := []) ⟨hx, hb, hml, hown, y_nil⟩ (m_L_low l D ty base _ (v >>> ((8 : Int32) &&& 31)) 181   (by decide)) (y_cwS 2 (kw_1_220 hG) (kw_1_0 hG) (kw_1_218 hG) (kw_1_219 hG) yd_L_low ⟨Nat.le_of_ble_eq_true rfl, Nat.le_of_ble_eq_true rfl⟩) (y_preS hG h hAb [] rfl (by decide)) rfl rfl hl.1 rfl (lv_room (Nat.le_of_ble_eq_true rfl)) dL_isMadeSo_46 ⟨Nat.le_of_ble_eq_true rfl, Nat.le_of_ble_eq_true rfl⟩) (fun r_46 _ H locs hp_46 h => ?_)
    have hp_46 : r_46 = qLow (v >>> ((8 : Int32) &&& 31)) 181 := hp_46
    have h : yH D AZ sZ.heap [] (X_25 ++ []) _ _ := h
    rw [hp_46]
    refine lv_bipush (v := 90) hx hb dL_isMadeSo_49 (by decide) ?_
    refine lv_isub hx hb dL_isMadeSo_51 ?_
    refine lv_topi (fun fa e_fa => ?_)
    have h3 : wI fa (-180) 180 = true := by rw [e_fa]; exact qF_in _
    refine lv_istore (lv' := [(5, .int fa), (4, .int ti), (3, .int (nI σ.1)), (2, .int p), (0, .ref yd), (1, .int v)]) hx hb dL_isMadeSo_52 hl (by decide) rfl (fun ls hl => ?_)
    refine lv_iconst (v := 1) hx hb dL_isMadeSo_54 (by decide) ?_
    refine lv_iload_n hx hb dL_isMadeSo_55 rfl (lv_at hl 5 rfl) ?_
    refine lv_iconst (v := 4) hx hb dL_isMadeSo_56 (by decide) ?_
    refine lv_ishr hx hb dL_isMadeSo_57 ?_
    refine lv_sipush (v := 300) hx hb dL_isMadeSo_58 (by decide) ?_
    refine y_calli (X' := fun _ : Unit => []) (wc := []) (wr := []) h hA [] [] [] rfl rfl (by decide) (by decide) (by decide) (fun _ => rfl) (va_runS (own := RL) (As := [.int (v >>> ((4 : Int32) &&& 31)), .int 300]) (rest := [.int 1]) ⟨hx, hb, hml, hown, y_nil⟩ (m_L_low l D ty base _ (v >>> ((4 : Int32) &&& 31)) 300   (by decide)) (y_cwS 2 (kw_1_220 hG) (kw_1_0 hG) (kw_1_218 hG) (kw_1_219 hG) yd_L_low ⟨Nat.le_of_ble_eq_true rfl, Nat.le_of_ble_eq_true rfl⟩) (y_preS hG h hAb [] rfl (by decide)) rfl rfl hl.1 rfl (lv_room (Nat.le_of_ble_eq_true rfl)) dL_isMadeSo_61 ⟨Nat.le_of_ble_eq_true rfl, Nat.le_of_ble_eq_true rfl⟩) (fun r_61 _ H locs hp_61 h => ?_)
    have hp_61 : r_61 = qLow (v >>> ((4 : Int32) &&& 31)) 300 := hp_61
    have h : yH D AZ sZ.heap [] (X_25 ++ []) _ _ := h
    rw [hp_61]
    refine lv_iadd hx hb dL_isMadeSo_64 ?_
    refine lv_topi (fun ro e_ro => ?_)
    have h4 : wI ro 1 500 = true := by rw [e_ro]; exact qR_in _
    have h5 : ((wI ti 0 90 && (wI fa (-180) 180 && wI ro 1 500))) = true := an_t h2 (an_t h3 h4)
    refine lv_istore (lv' := [(6, .int ro), (5, .int fa), (4, .int ti), (3, .int (nI σ.1)), (2, .int p), (0, .ref yd), (1, .int v)]) hx hb dL_isMadeSo_65 hl (by decide) rfl (fun ls hl => ?_)
    refine lv_iload_n hx hb dL_isMadeSo_67 rfl (lv_at hl 3 rfl) ?_
    refine lv_if_ge (tgt := 75) hx hb dL_isMadeSo_68 (by decide) (fun c_68 => ?_) (fun c_68 => ?_)
    · skip
      refine lv_aload_n hx hb dL_isMadeSo_75 rfl (lv_at hl 5 rfl) ?_
      refine lv_iload_n hx hb dL_isMadeSo_76 rfl (lv_at hl 3 rfl) ?_
      refine lv_iload hx hb dL_isMadeSo_77 (lv_at hl 2 rfl) ?_
      refine lv_iload hx hb dL_isMadeSo_79 (lv_at hl 1 rfl) ?_
      refine lv_iload hx hb dL_isMadeSo_81 (lv_at hl 0 rfl) ?_
      have h : yH D AZ sZ.heap X_25 [] _ _ := h.pl rfl
      refine q_calli h hA (vx_runSW (own := RL) (As := [.ref yd, .int (nI σ.1), .int ti, .int fa, .int ro]) (rest := []) ⟨hx, hb, hml, hown, y_nil⟩ (q_dial (l := l) (D := D) (ty := ty) (base := _) (sz := _) hl9 hq_25 (nI σ.1) ti fa ro ) (y_cwSW 5 (kw_2_101 hG) (kw_1_0 hG) (kw_2_99 hG) (kw_2_100 hG) yd_L_dial ⟨Nat.le_of_ble_eq_true rfl, Nat.le_of_ble_eq_true rfl⟩) (q_preS hG h hAb) rfl rfl hl.1 rfl (lv_room (Nat.le_of_ble_eq_true rfl)) dL_isMadeSo_83 ⟨Nat.le_of_ble_eq_true rfl, Nat.le_of_ble_eq_true rfl⟩) (fun r_83 X_83 H locs hp_83 h => ?_)
      obtain ⟨e_83, hq_83⟩ := hp_83
      have h : yH D AZ sZ.heap [] (X_83 ++ []) _ _ := h.pl rfl
      rw [e_83]
      by_cases hD : σ.2.1 < 10
      · skip
        have hk := made_d (M := (qLow (v >>> ((6 : Int32) &&& 31)) 300)) hM hP h5 hD
        rw [hk.1]
        obtain ⟨σ2, e_σ⟩ : ∃ z, z = nDial (nPlace σ p (qLow (v >>> ((6 : Int32) &&& 31)) 300)) (nI σ.1) ti fa ro := ⟨_, rfl⟩
        rw [← e_σ] at hq_83
        have hm : qM σ2 σ.1 σ.2.1 p ti fa ro := by rw [e_σ]; exact hk.2
        clear e_σ hk
        refine lv_istore (lv' := [(7, .int (nI σ.2.1)), (6, .int ro), (5, .int fa), (4, .int ti), (3, .int (nI σ.1)), (2, .int p), (0, .ref yd), (1, .int v)]) hx hb dL_isMadeSo_86 hl (by decide) rfl (fun ls hl => ?_)
        refine lv_iload hx hb dL_isMadeSo_88 (lv_at hl 0 rfl) ?_
        refine lv_if_ge (tgt := 95) hx hb dL_isMadeSo_90 (by decide) (fun c_90 => ?_) (fun c_90 => ?_)
        · skip
          refine lv_iload_n hx hb dL_isMadeSo_95 rfl (lv_at hl 7 rfl) ?_
          refine lv_bipush (v := 7) hx hb dL_isMadeSo_96 (by decide) ?_
          refine lv_ishr hx hb dL_isMadeSo_98 ?_
          refine lv_sipush (v := 360) hx hb dL_isMadeSo_99 (by decide) ?_
          refine y_calli (X' := fun _ : Unit => []) (wc := []) (wr := []) h hA [] [] [] rfl rfl (by decide) (by decide) (by decide) (fun _ => rfl) (va_runS (own := RL) (As := [.int (v >>> ((7 : Int32) &&& 31)), .int 360]) (rest := []) ⟨hx, hb, hml, hown, y_nil⟩ (m_L_low l D ty base _ (v >>> ((7 : Int32) &&& 31)) 360   (by decide)) (y_cwS 2 (kw_1_220 hG) (kw_1_0 hG) (kw_1_218 hG) (kw_1_219 hG) yd_L_low ⟨Nat.le_of_ble_eq_true rfl, Nat.le_of_ble_eq_true rfl⟩) (y_preS hG h hAb [] rfl (by decide)) rfl rfl hl.1 rfl (lv_room (Nat.le_of_ble_eq_true rfl)) dL_isMadeSo_102 ⟨Nat.le_of_ble_eq_true rfl, Nat.le_of_ble_eq_true rfl⟩) (fun r_102 _ H locs hp_102 h => ?_)
          have hp_102 : r_102 = qLow (v >>> ((7 : Int32) &&& 31)) 360 := hp_102
          have h : yH D AZ sZ.heap [] (X_83 ++ []) _ _ := h
          rw [hp_102]
          refine lv_topi (fun d e_d => ?_)
          have hd : wI d 0 359 = true := by rw [e_d]; exact qD_in _
          refine lv_istore (lv' := [(8, .int d), (7, .int (nI σ.2.1)), (6, .int ro), (5, .int fa), (4, .int ti), (3, .int (nI σ.1)), (2, .int p), (0, .ref yd), (1, .int v)]) hx hb dL_isMadeSo_105 hl (by decide) rfl (fun ls hl => ?_)
          refine lv_bipush (v := 90) hx hb dL_isMadeSo_107 (by decide) ?_
          refine lv_iload_n hx hb dL_isMadeSo_109 rfl (lv_at hl 8 rfl) ?_
          refine lv_bipush (v := 9) hx hb dL_isMadeSo_110 (by decide) ?_
          refine lv_ishr hx hb dL_isMadeSo_112 ?_
          refine lv_sipush (v := 180) hx hb dL_isMadeSo_113 (by decide) ?_
          refine y_calli (X' := fun _ : Unit => []) (wc := []) (wr := []) h hA [] [] [] rfl rfl (by decide) (by decide) (by decide) (fun _ => rfl) (va_runS (own := RL) (As := [.int (v >>> ((9 : Int32) &&& 31)), .int 180]) (rest := [.int 90]) ⟨hx, hb, hml, hown, y_nil⟩ (m_L_low l D ty base _ (v >>> ((9 : Int32) &&& 31)) 180   (by decide)) (y_cwS 2 (kw_1_220 hG) (kw_1_0 hG) (kw_1_218 hG) (kw_1_219 hG) yd_L_low ⟨Nat.le_of_ble_eq_true rfl, Nat.le_of_ble_eq_true rfl⟩) (y_preS hG h hAb [] rfl (by decide)) rfl rfl hl.1 rfl (lv_room (Nat.le_of_ble_eq_true rfl)) dL_isMadeSo_116 ⟨Nat.le_of_ble_eq_true rfl, Nat.le_of_ble_eq_true rfl⟩) (fun r_116 _ H locs hp_116 h => ?_)
          have hp_116 : r_116 = qLow (v >>> ((9 : Int32) &&& 31)) 180 := hp_116
          have h : yH D AZ sZ.heap [] (X_83 ++ []) _ _ := h
          rw [hp_116]
          refine lv_iadd hx hb dL_isMadeSo_119 ?_
          obtain ⟨n, hn1, hn2, en⟩ := qK_in (v >>> ((9 : Int32) &&& 31))
          rw [en]
          have ht : wI (nI n) 0 359 = true := tk_in (by omega)
          have ht2 : wI (360 - nI n) 0 359 = true := by rw [tk_360 (by omega)]; exact tk_in (by omega)
          refine lv_istore (lv' := [(9, .int (nI n)), (8, .int d), (7, .int (nI σ.2.1)), (6, .int ro), (5, .int fa), (4, .int ti), (3, .int (nI σ.1)), (2, .int p), (0, .ref yd), (1, .int v)]) hx hb dL_isMadeSo_120 hl (by decide) rfl (fun ls hl => ?_)
          refine lv_aload_n hx hb dL_isMadeSo_122 rfl (lv_at hl 8 rfl) ?_
          refine lv_iload_n hx hb dL_isMadeSo_123 rfl (lv_at hl 6 rfl) ?_
          refine lv_iload hx hb dL_isMadeSo_124 (lv_at hl 1 rfl) ?_
          refine lv_iconst (v := 2) hx hb dL_isMadeSo_126 (by decide) ?_
          have h : yH D AZ sZ.heap X_83 [] _ _ := h.pl rfl
          obtain ⟨fs_1, he_1⟩ := qY_rc hq_83
          refine q_calli h hA (va_runV (own := RL) (As := [.int (nI σ.1), .int d, .int 2]) (rest := []) ⟨hx, hb, hml, hown, y_nil⟩ (k_light2 (l := l) (D := D) (ty := ty) (base := _) (sz := _) hl9 hq_83 hm d hd) (y_cwV (C := RX7) 3 (kw_3_3 hG) (kw_1_1 hG) (kw_3_0 hG) (kw_3_1 hG) (kw_3_2 hG) yd_X7_light ⟨Nat.le_of_ble_eq_true rfl, Nat.le_of_ble_eq_true rfl⟩) (q_preV (ci := 7) hG h hAb he_1 rfl) rfl rfl hl.1 rfl (lv_room (Nat.le_of_ble_eq_true rfl)) dL_isMadeSo_127 ⟨Nat.le_of_ble_eq_true rfl, Nat.le_of_ble_eq_true rfl⟩) (fun r_127 X_127 H locs hp_127 h => ?_)
          obtain ⟨e_127, hq_127⟩ := hp_127
          have h : yH D AZ sZ.heap [] (X_127 ++ []) _ _ := h.pl rfl
          rw [e_127]
          refine lv_aload_n hx hb dL_isMadeSo_130 rfl (lv_at hl 8 rfl) ?_
          refine lv_iload_n hx hb dL_isMadeSo_131 rfl (lv_at hl 6 rfl) ?_
          refine lv_iload hx hb dL_isMadeSo_132 (lv_at hl 1 rfl) ?_
          have h : yH D AZ sZ.heap X_127 [] _ _ := h.pl rfl
          obtain ⟨fs_2, he_2⟩ := qY_rc hq_127
          refine q_calli h hA (va_runV (own := RL) (As := [.int (nI σ.1), .int d]) (rest := [.int (gBright p d)]) ⟨hx, hb, hml, hown, y_nil⟩ (k_anew (l := l) (D := D) (ty := ty) (base := _) (sz := _) hl9 hq_127 hm d hd) (y_cwV (C := RX7) 2 (kw_3_31 hG) (kw_1_1 hG) (kw_3_28 hG) (kw_3_29 hG) (kw_3_30 hG) yd_X7_lightAnew ⟨Nat.le_of_ble_eq_true rfl, Nat.le_of_ble_eq_true rfl⟩) (q_preV (ci := 7) hG h hAb he_2 rfl) rfl rfl hl.1 rfl (lv_room (Nat.le_of_ble_eq_true rfl)) dL_isMadeSo_134 ⟨Nat.le_of_ble_eq_true rfl, Nat.le_of_ble_eq_true rfl⟩) (fun r_134 X_134 H locs hp_134 h => ?_)
          obtain ⟨e_134, hq_134⟩ := hp_134
          have h : yH D AZ sZ.heap [] (X_134 ++ []) _ _ := h.pl rfl
          rw [e_134]
          refine lv_icmp_ne (tgt := 201) hx hb dL_isMadeSo_137 (by decide) (fun c_137 => ?_) (fun c_137 => ?_)
          · exact absurd (an_br h1 hd).symm c_137
          · skip
            refine lv_aload_n hx hb dL_isMadeSo_140 rfl (lv_at hl 8 rfl) ?_
            refine lv_iload_n hx hb dL_isMadeSo_141 rfl (lv_at hl 7 rfl) ?_
            refine lv_iload hx hb dL_isMadeSo_142 (lv_at hl 1 rfl) ?_
            refine lv_iload hx hb dL_isMadeSo_144 (lv_at hl 0 rfl) ?_
            refine lv_iconst (v := 0) hx hb dL_isMadeSo_146 (by decide) ?_
            have h : yH D AZ sZ.heap X_134 [] _ _ := h.pl rfl
            obtain ⟨fs_3, he_3⟩ := qY_rc hq_134
            refine q_calll h hA (va_runV (own := RL) (As := [.int p, .int d, .int (nI n), .int 0]) (rest := []) ⟨hx, hb, hml, hown, y_nil⟩ (k_sun0 (l := l) (D := D) (ty := ty) (base := _) (sz := _) hl9 hq_134 p d (nI n) h1 hd ht) (y_cwV (C := RX7) 4 (kw_2_220 hG) (kw_1_1 hG) (kw_2_217 hG) (kw_2_218 hG) (kw_2_219 hG) yd_X7_sun ⟨Nat.le_of_ble_eq_true rfl, Nat.le_of_ble_eq_true rfl⟩) (q_preV (ci := 7) hG h hAb he_3 rfl) rfl rfl hl.1 rfl (lv_room (Nat.le_of_ble_eq_true rfl)) dL_isMadeSo_147 ⟨Nat.le_of_ble_eq_true rfl, Nat.le_of_ble_eq_true rfl⟩) (fun r_147 X_147 H locs hp_147 h => ?_)
            obtain ⟨e_147, hq_147⟩ := hp_147
            have h : yH D AZ sZ.heap [] (X_147 ++ []) _ _ := h.pl rfl
            rw [e_147]
            refine lv_aload_n hx hb dL_isMadeSo_150 rfl (lv_at hl 8 rfl) ?_
            refine lv_iload_n hx hb dL_isMadeSo_151 rfl (lv_at hl 7 rfl) ?_
            refine lv_iload hx hb dL_isMadeSo_152 (lv_at hl 1 rfl) ?_
            refine lv_sipush (v := 360) hx hb dL_isMadeSo_154 (by decide) ?_
            refine lv_iload hx hb dL_isMadeSo_157 (lv_at hl 0 rfl) ?_
            refine lv_isub hx hb dL_isMadeSo_159 ?_
            refine lv_iconst (v := 0) hx hb dL_isMadeSo_160 (by decide) ?_
            have h : yH D AZ sZ.heap X_147 [] _ _ := h.pl rfl
            obtain ⟨fs_4, he_4⟩ := qY_rc hq_147
            refine q_calll h hA (va_runV (own := RL) (As := [.int p, .int d, .int ((360 : Int32) - (nI n)), .int 0]) (rest := [.long (gUp p d (nI n))]) ⟨hx, hb, hml, hown, y_nil⟩ (k_sun0 (l := l) (D := D) (ty := ty) (base := _) (sz := _) hl9 hq_147 p d (360 - nI n) h1 hd ht2) (y_cwV (C := RX7) 4 (kw_2_220 hG) (kw_1_1 hG) (kw_2_217 hG) (kw_2_218 hG) (kw_2_219 hG) yd_X7_sun ⟨Nat.le_of_ble_eq_true rfl, Nat.le_of_ble_eq_true rfl⟩) (q_preV (ci := 7) hG h hAb he_4 rfl) rfl rfl hl.1 rfl (lv_room (Nat.le_of_ble_eq_true rfl)) dL_isMadeSo_161 ⟨Nat.le_of_ble_eq_true rfl, Nat.le_of_ble_eq_true rfl⟩) (fun r_161 X_161 H locs hp_161 h => ?_)
            obtain ⟨e_161, hq_161⟩ := hp_161
            have h : yH D AZ sZ.heap [] (X_161 ++ []) _ _ := h.pl rfl
            rw [e_161]
            refine W.lcmp hx hb dL_isMadeSo_164 ?_
            refine lv_if_ne (tgt := 201) hx hb dL_isMadeSo_165 (by decide) (fun c_165 => ?_) (fun c_165 => ?_)
            · have c_165 := fun q => c_165 ((lg_cmp_eq (gUp p d (nI n)) (gUp p d (360 - nI n))).mpr q); exact absurd (mm_up (by omega) (by omega)) c_165
            · skip
              have c_165 := (lg_cmp_eq (gUp p d (nI n)) (gUp p d (360 - nI n))).mp c_165
              refine lv_aload_n hx hb dL_isMadeSo_168 rfl (lv_at hl 8 rfl) ?_
              refine lv_iload_n hx hb dL_isMadeSo_169 rfl (lv_at hl 7 rfl) ?_
              refine lv_iload hx hb dL_isMadeSo_170 (lv_at hl 1 rfl) ?_
              refine lv_iload hx hb dL_isMadeSo_172 (lv_at hl 0 rfl) ?_
              refine lv_iconst (v := 2) hx hb dL_isMadeSo_174 (by decide) ?_
              have h : yH D AZ sZ.heap X_161 [] _ _ := h.pl rfl
              obtain ⟨fs_5, he_5⟩ := qY_rc hq_161
              refine q_calll h hA (va_runV (own := RL) (As := [.int p, .int d, .int (nI n), .int 2]) (rest := []) ⟨hx, hb, hml, hown, y_nil⟩ (k_sun2 (l := l) (D := D) (ty := ty) (base := _) (sz := _) hl9 hq_161 p d (nI n) h1 hd ht) (y_cwV (C := RX7) 4 (kw_2_220 hG) (kw_1_1 hG) (kw_2_217 hG) (kw_2_218 hG) (kw_2_219 hG) yd_X7_sun ⟨Nat.le_of_ble_eq_true rfl, Nat.le_of_ble_eq_true rfl⟩) (q_preV (ci := 7) hG h hAb he_5 rfl) rfl rfl hl.1 rfl (lv_room (Nat.le_of_ble_eq_true rfl)) dL_isMadeSo_175 ⟨Nat.le_of_ble_eq_true rfl, Nat.le_of_ble_eq_true rfl⟩) (fun r_175 X_175 H locs hp_175 h => ?_)
              obtain ⟨e_175, hq_175⟩ := hp_175
              have h : yH D AZ sZ.heap [] (X_175 ++ []) _ _ := h.pl rfl
              rw [e_175]
              refine lv_aload_n hx hb dL_isMadeSo_178 rfl (lv_at hl 8 rfl) ?_
              refine lv_iload_n hx hb dL_isMadeSo_179 rfl (lv_at hl 7 rfl) ?_
              refine lv_iload hx hb dL_isMadeSo_180 (lv_at hl 1 rfl) ?_
              refine lv_sipush (v := 360) hx hb dL_isMadeSo_182 (by decide) ?_
              refine lv_iload hx hb dL_isMadeSo_185 (lv_at hl 0 rfl) ?_
              refine lv_isub hx hb dL_isMadeSo_187 ?_
              refine lv_iconst (v := 2) hx hb dL_isMadeSo_188 (by decide) ?_
              have h : yH D AZ sZ.heap X_175 [] _ _ := h.pl rfl
              obtain ⟨fs_6, he_6⟩ := qY_rc hq_175
              refine q_calll h hA (va_runV (own := RL) (As := [.int p, .int d, .int ((360 : Int32) - (nI n)), .int 2]) (rest := [.long (gWe d (nI n))]) ⟨hx, hb, hml, hown, y_nil⟩ (k_sun2 (l := l) (D := D) (ty := ty) (base := _) (sz := _) hl9 hq_175 p d (360 - nI n) h1 hd ht2) (y_cwV (C := RX7) 4 (kw_2_220 hG) (kw_1_1 hG) (kw_2_217 hG) (kw_2_218 hG) (kw_2_219 hG) yd_X7_sun ⟨Nat.le_of_ble_eq_true rfl, Nat.le_of_ble_eq_true rfl⟩) (q_preV (ci := 7) hG h hAb he_6 rfl) rfl rfl hl.1 rfl (lv_room (Nat.le_of_ble_eq_true rfl)) dL_isMadeSo_189 ⟨Nat.le_of_ble_eq_true rfl, Nat.le_of_ble_eq_true rfl⟩) (fun r_189 X_189 H locs hp_189 h => ?_)
              obtain ⟨e_189, hq_189⟩ := hp_189
              have h : yH D AZ sZ.heap [] (X_189 ++ []) _ _ := h.pl rfl
              rw [e_189]
              refine lv_lneg hx hb dL_isMadeSo_192 ?_
              refine W.lcmp hx hb dL_isMadeSo_193 ?_
              refine lv_if_ne (tgt := 201) hx hb dL_isMadeSo_194 (by decide) (fun c_194 => ?_) (fun c_194 => ?_)
              · have c_194 := fun q => c_194 ((lg_cmp_eq (gWe d (nI n)) (-(gWe d (360 - nI n)))).mpr q); exact absurd (mm_we (by omega) (by omega)) c_194
              · skip
                have c_194 := (lg_cmp_eq (gWe d (nI n)) (-(gWe d (360 - nI n)))).mp c_194
                refine lv_iconst (v := 1) hx hb dL_isMadeSo_197 (by decide) ?_
                refine lv_goto (tgt := 202) hx hb dL_isMadeSo_198 (by decide) ?_
                refine lv_istore (lv' := [(10, .int 1), (9, .int (nI n)), (8, .int d), (7, .int (nI σ.2.1)), (6, .int ro), (5, .int fa), (4, .int ti), (3, .int (nI σ.1)), (2, .int p), (0, .ref yd), (1, .int v)]) hx hb dL_isMadeSo_202 hl (by decide) rfl (fun ls hl => ?_)
                refine lv_aload_n hx hb dL_isMadeSo_204 rfl (lv_at hl 9 rfl) ?_
                refine lv_iload hx hb dL_isMadeSo_205 (lv_at hl 3 rfl) ?_
                refine lv_iload hx hb dL_isMadeSo_207 (lv_at hl 2 rfl) ?_
                refine lv_iload hx hb dL_isMadeSo_209 (lv_at hl 1 rfl) ?_
                refine lv_iconst (v := 0) hx hb dL_isMadeSo_211 (by decide) ?_
                have h : yH D AZ sZ.heap X_189 [] _ _ := h.pl rfl
                refine q_calli h hA (vx_runSW (own := RL) (As := [.ref yd, .int (nI σ.2.1), .int d, .int (nI n), .int 0]) (rest := []) ⟨hx, hb, hml, hown, y_nil⟩ (q_shadow (l := l) (D := D) (ty := ty) (base := _) (sz := _) hl9 hq_189 (nI σ.2.1) d (nI n) 0 ) (y_cwSW 5 (kw_3_83 hG) (kw_1_0 hG) (kw_3_81 hG) (kw_3_82 hG) yd_L_shadow ⟨Nat.le_of_ble_eq_true rfl, Nat.le_of_ble_eq_true rfl⟩) (q_preS hG h hAb) rfl rfl hl.1 rfl (lv_room (Nat.le_of_ble_eq_true rfl)) dL_isMadeSo_212 ⟨Nat.le_of_ble_eq_true rfl, Nat.le_of_ble_eq_true rfl⟩) (fun r_212 X_212 H locs hp_212 h => ?_)
                obtain ⟨e_212, hq_212⟩ := hp_212
                have h : yH D AZ sZ.heap [] (X_212 ++ []) _ _ := h.pl rfl
                rw [e_212]
                rw [sh_own hm (qY_iv hq_212).2.1]
                by_cases hS : sIs p d (nI n) ti fa ro = true
                · skip
                  rw [← bA_t (an_t (an_t hd ht) hS)]
                  refine lv_istore (lv' := [(11, .int (sX p d (nI n) ti fa ro)), (10, .int 1), (9, .int (nI n)), (8, .int d), (7, .int (nI σ.2.1)), (6, .int ro), (5, .int fa), (4, .int ti), (3, .int (nI σ.1)), (2, .int p), (0, .ref yd), (1, .int v)]) hx hb dL_isMadeSo_215 hl (by decide) rfl (fun ls hl => ?_)
                  refine lv_iload hx hb dL_isMadeSo_217 (lv_at hl 0 rfl) ?_
                  refine lv_ldc (own := RL) (v := (-99999999)) hx hb hown (kw_2_98 hG).b dL_isMadeSo_219 ?_
                  refine lv_icmp_ne (tgt := 249) hx hb dL_isMadeSo_221 (by decide) (fun c_221 => ?_) (fun c_221 => ?_)
                  · skip
                    refine lv_aload_n hx hb dL_isMadeSo_249 rfl (lv_at hl 10 rfl) ?_
                    refine lv_iload hx hb dL_isMadeSo_250 (lv_at hl 4 rfl) ?_
                    refine lv_iload hx hb dL_isMadeSo_252 (lv_at hl 3 rfl) ?_
                    refine lv_iload hx hb dL_isMadeSo_254 (lv_at hl 2 rfl) ?_
                    refine lv_iconst (v := 1) hx hb dL_isMadeSo_256 (by decide) ?_
                    have h : yH D AZ sZ.heap X_212 [] _ _ := h.pl rfl
                    obtain ⟨fs_7, he_7⟩ := qY_rc hq_212
                    refine q_calli h hA (va_runV (own := RL) (As := [.int (nI σ.2.1), .int d, .int (nI n), .int 1]) (rest := []) ⟨hx, hb, hml, hown, y_nil⟩ (k_shadow1 (l := l) (D := D) (ty := ty) (base := _) (sz := _) hl9 hq_212 hm d (nI n) hd ht hS) (y_cwV (C := RX7) 4 (kw_3_87 hG) (kw_1_1 hG) (kw_3_84 hG) (kw_3_85 hG) (kw_3_86 hG) yd_X7_shadow ⟨Nat.le_of_ble_eq_true rfl, Nat.le_of_ble_eq_true rfl⟩) (q_preV (ci := 7) hG h hAb he_7 rfl) rfl rfl hl.1 rfl (lv_room (Nat.le_of_ble_eq_true rfl)) dL_isMadeSo_257 ⟨Nat.le_of_ble_eq_true rfl, Nat.le_of_ble_eq_true rfl⟩) (fun r_257 X_257 H locs hp_257 h => ?_)
                    obtain ⟨e_257, hq_257⟩ := hp_257
                    have h : yH D AZ sZ.heap [] (X_257 ++ []) _ _ := h.pl rfl
                    rw [e_257]
                    refine lv_istore (lv' := [(12, .int (sY p d (nI n) ti fa ro)), (11, .int (sX p d (nI n) ti fa ro)), (10, .int 1), (9, .int (nI n)), (8, .int d), (7, .int (nI σ.2.1)), (6, .int ro), (5, .int fa), (4, .int ti), (3, .int (nI σ.1)), (2, .int p), (0, .ref yd), (1, .int v)]) hx hb dL_isMadeSo_260 hl (by decide) rfl (fun ls hl => ?_)
                    refine lv_aload_n hx hb dL_isMadeSo_262 rfl (lv_at hl 11 rfl) ?_
                    refine lv_iload hx hb dL_isMadeSo_263 (lv_at hl 5 rfl) ?_
                    refine lv_iload hx hb dL_isMadeSo_265 (lv_at hl 4 rfl) ?_
                    refine lv_iload hx hb dL_isMadeSo_267 (lv_at hl 3 rfl) ?_
                    have h : yH D AZ sZ.heap X_257 [] _ _ := h.pl rfl
                    obtain ⟨fs_8, he_8⟩ := qY_rc hq_257
                    refine q_calli h hA (va_runV (own := RL) (As := [.int (nI σ.2.1), .int d, .int (nI n)]) (rest := []) ⟨hx, hb, hml, hown, y_nil⟩ (k_tells (l := l) (D := D) (ty := ty) (base := _) (sz := _) hl9 hq_257 hm d (nI n) hd ht) (y_cwV (C := RX7) 3 (kw_3_170 hG) (kw_1_1 hG) (kw_3_167 hG) (kw_3_168 hG) (kw_3_169 hG) yd_X7_tells ⟨Nat.le_of_ble_eq_true rfl, Nat.le_of_ble_eq_true rfl⟩) (q_preV (ci := 7) hG h hAb he_8 rfl) rfl rfl hl.1 rfl (lv_room (Nat.le_of_ble_eq_true rfl)) dL_isMadeSo_269 ⟨Nat.le_of_ble_eq_true rfl, Nat.le_of_ble_eq_true rfl⟩) (fun r_269 X_269 H locs hp_269 h => ?_)
                    obtain ⟨e_269, hq_269⟩ := hp_269
                    have h : yH D AZ sZ.heap [] (X_269 ++ []) _ _ := h.pl rfl
                    rw [e_269]
                    obtain ⟨m, q1, q2, q3, q4, q5⟩ := mm_read (show n < 360 by omega) hS
                    rw [tell_own hS, q2]
                    have hm9 : wI (nI m) 0 359 = true := tk_in (by omega)
                    refine lv_istore (lv' := [(13, .int (nI m)), (12, .int (sY p d (nI n) ti fa ro)), (11, .int (sX p d (nI n) ti fa ro)), (10, .int 1), (9, .int (nI n)), (8, .int d), (7, .int (nI σ.2.1)), (6, .int ro), (5, .int fa), (4, .int ti), (3, .int (nI σ.1)), (2, .int p), (0, .ref yd), (1, .int v)]) hx hb dL_isMadeSo_272 hl (by decide) rfl (fun ls hl => ?_)
                    refine lv_iload hx hb dL_isMadeSo_274 (lv_at hl 3 rfl) ?_
                    refine lv_if_eq (tgt := 368) hx hb dL_isMadeSo_276 (by decide) (fun c_276 => ?_) (fun c_276 => ?_)
                    · exact absurd c_276 (by decide)
                    · skip
                      refine lv_iload hx hb dL_isMadeSo_279 (lv_at hl 0 rfl) ?_
                      refine lv_if_lt (tgt := 368) hx hb dL_isMadeSo_281 (by decide) (fun c_281 => ?_) (fun c_281 => ?_)
                      · exact absurd c_281 (nI_pos (by omega))
                      · skip
                        refine lv_iload hx hb dL_isMadeSo_284 (lv_at hl 0 rfl) ?_
                        refine lv_iload hx hb dL_isMadeSo_286 (lv_at hl 4 rfl) ?_
                        refine lv_icmp_gt (tgt := 368) hx hb dL_isMadeSo_288 (by decide) (fun c_288 => ?_) (fun c_288 => ?_)
                        · exact absurd (nI_le q1 (by omega)) (Int32.not_le.mpr c_288)
                        · skip
                          refine lv_aload_n hx hb dL_isMadeSo_291 rfl (lv_at hl 12 rfl) ?_
                          refine lv_iload hx hb dL_isMadeSo_292 (lv_at hl 6 rfl) ?_
                          refine lv_iload hx hb dL_isMadeSo_294 (lv_at hl 2 rfl) ?_
                          refine lv_iload hx hb dL_isMadeSo_296 (lv_at hl 1 rfl) ?_
                          refine lv_iload hx hb dL_isMadeSo_298 (lv_at hl 5 rfl) ?_
                          have h : yH D AZ sZ.heap X_269 [] _ _ := h.pl rfl
                          obtain ⟨fs_9, he_9⟩ := qY_rc hq_269
                          refine q_calli h hA (va_runV (own := RL) (As := [.int (nI σ.2.1), .int (sX p d (nI n) ti fa ro), .int (sY p d (nI n) ti fa ro), .int d]) (rest := []) ⟨hx, hb, hml, hown, y_nil⟩ (k_read (l := l) (D := D) (ty := ty) (base := _) (sz := _) hl9 hq_269 hm (sX p d (nI n) ti fa ro) (sY p d (nI n) ti fa ro) d (an_t (wL_bd (sXY_bd hS).1) (an_t (wL_bd (sXY_bd hS).2) hd))) (y_cwV (C := RX7) 4 (kw_3_145 hG) (kw_1_1 hG) (kw_3_142 hG) (kw_3_143 hG) (kw_3_144 hG) yd_X7_read ⟨Nat.le_of_ble_eq_true rfl, Nat.le_of_ble_eq_true rfl⟩) (q_preV (ci := 7) hG h hAb he_9 rfl) rfl rfl hl.1 rfl (lv_room (Nat.le_of_ble_eq_true rfl)) dL_isMadeSo_300 ⟨Nat.le_of_ble_eq_true rfl, Nat.le_of_ble_eq_true rfl⟩) (fun r_300 X_300 H locs hp_300 h => ?_)
                          obtain ⟨e_300, hq_300⟩ := hp_300
                          have h : yH D AZ sZ.heap [] (X_300 ++ []) _ _ := h.pl rfl
                          rw [e_300]
                          refine lv_iload hx hb dL_isMadeSo_303 (lv_at hl 0 rfl) ?_
                          refine lv_icmp_ne (tgt := 368) hx hb dL_isMadeSo_305 (by decide) (fun c_305 => ?_) (fun c_305 => ?_)
                          · exact absurd q2 c_305
                          · skip
                            refine lv_aload_n hx hb dL_isMadeSo_308 rfl (lv_at hl 12 rfl) ?_
                            refine lv_iload hx hb dL_isMadeSo_309 (lv_at hl 6 rfl) ?_
                            refine lv_iload hx hb dL_isMadeSo_311 (lv_at hl 5 rfl) ?_
                            refine lv_iload hx hb dL_isMadeSo_313 (lv_at hl 0 rfl) ?_
                            refine lv_iconst (v := 0) hx hb dL_isMadeSo_315 (by decide) ?_
                            have h : yH D AZ sZ.heap X_300 [] _ _ := h.pl rfl
                            obtain ⟨fs_10, he_10⟩ := qY_rc hq_300
                            refine q_calli h hA (va_runV (own := RL) (As := [.int (nI σ.2.1), .int d, .int (nI m), .int 0]) (rest := []) ⟨hx, hb, hml, hown, y_nil⟩ (k_shadow0 (l := l) (D := D) (ty := ty) (base := _) (sz := _) hl9 hq_300 hm d (nI m) hd hm9 q3) (y_cwV (C := RX7) 4 (kw_3_87 hG) (kw_1_1 hG) (kw_3_84 hG) (kw_3_85 hG) (kw_3_86 hG) yd_X7_shadow ⟨Nat.le_of_ble_eq_true rfl, Nat.le_of_ble_eq_true rfl⟩) (q_preV (ci := 7) hG h hAb he_10 rfl) rfl rfl hl.1 rfl (lv_room (Nat.le_of_ble_eq_true rfl)) dL_isMadeSo_316 ⟨Nat.le_of_ble_eq_true rfl, Nat.le_of_ble_eq_true rfl⟩) (fun r_316 X_316 H locs hp_316 h => ?_)
                            obtain ⟨e_316, hq_316⟩ := hp_316
                            have h : yH D AZ sZ.heap [] (X_316 ++ []) _ _ := h.pl rfl
                            rw [e_316]
                            refine lv_iload hx hb dL_isMadeSo_319 (lv_at hl 2 rfl) ?_
                            refine lv_icmp_ne (tgt := 368) hx hb dL_isMadeSo_321 (by decide) (fun c_321 => ?_) (fun c_321 => ?_)
                            · exact absurd q4 c_321
                            · skip
                              refine lv_aload_n hx hb dL_isMadeSo_324 rfl (lv_at hl 12 rfl) ?_
                              refine lv_iload hx hb dL_isMadeSo_325 (lv_at hl 6 rfl) ?_
                              refine lv_iload hx hb dL_isMadeSo_327 (lv_at hl 5 rfl) ?_
                              refine lv_iload hx hb dL_isMadeSo_329 (lv_at hl 0 rfl) ?_
                              refine lv_iconst (v := 1) hx hb dL_isMadeSo_331 (by decide) ?_
                              have h : yH D AZ sZ.heap X_316 [] _ _ := h.pl rfl
                              obtain ⟨fs_11, he_11⟩ := qY_rc hq_316
                              refine q_calli h hA (va_runV (own := RL) (As := [.int (nI σ.2.1), .int d, .int (nI m), .int 1]) (rest := []) ⟨hx, hb, hml, hown, y_nil⟩ (k_shadow1 (l := l) (D := D) (ty := ty) (base := _) (sz := _) hl9 hq_316 hm d (nI m) hd hm9 q3) (y_cwV (C := RX7) 4 (kw_3_87 hG) (kw_1_1 hG) (kw_3_84 hG) (kw_3_85 hG) (kw_3_86 hG) yd_X7_shadow ⟨Nat.le_of_ble_eq_true rfl, Nat.le_of_ble_eq_true rfl⟩) (q_preV (ci := 7) hG h hAb he_11 rfl) rfl rfl hl.1 rfl (lv_room (Nat.le_of_ble_eq_true rfl)) dL_isMadeSo_332 ⟨Nat.le_of_ble_eq_true rfl, Nat.le_of_ble_eq_true rfl⟩) (fun r_332 X_332 H locs hp_332 h => ?_)
                              obtain ⟨e_332, hq_332⟩ := hp_332
                              have h : yH D AZ sZ.heap [] (X_332 ++ []) _ _ := h.pl rfl
                              rw [e_332]
                              refine lv_iload hx hb dL_isMadeSo_335 (lv_at hl 1 rfl) ?_
                              refine lv_icmp_ne (tgt := 368) hx hb dL_isMadeSo_337 (by decide) (fun c_337 => ?_) (fun c_337 => ?_)
                              · exact absurd q5 c_337
                              · skip
                                refine lv_aload_n hx hb dL_isMadeSo_340 rfl (lv_at hl 12 rfl) ?_
                                refine lv_iload_n hx hb dL_isMadeSo_341 rfl (lv_at hl 10 rfl) ?_
                                refine lv_iload hx hb dL_isMadeSo_342 (lv_at hl 5 rfl) ?_
                                refine lv_iload hx hb dL_isMadeSo_344 (lv_at hl 4 rfl) ?_
                                refine lv_iconst (v := 1) hx hb dL_isMadeSo_346 (by decide) ?_
                                have h : yH D AZ sZ.heap X_332 [] _ _ := h.pl rfl
                                obtain ⟨fs_12, he_12⟩ := qY_rc hq_332
                                refine q_calli h hA (va_runV (own := RL) (As := [.int (nI σ.1), .int d, .int (nI n), .int 1]) (rest := []) ⟨hx, hb, hml, hown, y_nil⟩ (k_hour1 (l := l) (D := D) (ty := ty) (base := _) (sz := _) hl9 hq_332 hm d (nI n) hd ht) (y_cwV (C := RX7) 4 (kw_3_41 hG) (kw_1_1 hG) (kw_3_38 hG) (kw_3_39 hG) (kw_3_40 hG) yd_X7_hour ⟨Nat.le_of_ble_eq_true rfl, Nat.le_of_ble_eq_true rfl⟩) (q_preV (ci := 7) hG h hAb he_12 rfl) rfl rfl hl.1 rfl (lv_room (Nat.le_of_ble_eq_true rfl)) dL_isMadeSo_347 ⟨Nat.le_of_ble_eq_true rfl, Nat.le_of_ble_eq_true rfl⟩) (fun r_347 X_347 H locs hp_347 h => ?_)
                                obtain ⟨e_347, hq_347⟩ := hp_347
                                have h : yH D AZ sZ.heap [] (X_347 ++ []) _ _ := h.pl rfl
                                rw [e_347]
                                refine lv_iload hx hb dL_isMadeSo_350 (lv_at hl 4 rfl) ?_
                                refine lv_aload_n hx hb dL_isMadeSo_352 rfl (lv_at hl 12 rfl) ?_
                                refine lv_iload_n hx hb dL_isMadeSo_353 rfl (lv_at hl 10 rfl) ?_
                                refine lv_iload hx hb dL_isMadeSo_354 (lv_at hl 5 rfl) ?_
                                refine lv_iconst (v := 0) hx hb dL_isMadeSo_356 (by decide) ?_
                                have h : yH D AZ sZ.heap X_347 [] _ _ := h.pl rfl
                                obtain ⟨fs_13, he_13⟩ := qY_rc hq_347
                                refine q_calli h hA (va_runV (own := RL) (As := [.int (nI σ.1), .int d, .int 0]) (rest := [.int (nI n), .int (gFrom p d (nI n))]) ⟨hx, hb, hml, hown, y_nil⟩ (k_light0 (l := l) (D := D) (ty := ty) (base := _) (sz := _) hl9 hq_347 hm d hd) (y_cwV (C := RX7) 3 (kw_3_3 hG) (kw_1_1 hG) (kw_3_0 hG) (kw_3_1 hG) (kw_3_2 hG) yd_X7_light ⟨Nat.le_of_ble_eq_true rfl, Nat.le_of_ble_eq_true rfl⟩) (q_preV (ci := 7) hG h hAb he_13 rfl) rfl rfl hl.1 rfl (lv_room (Nat.le_of_ble_eq_true rfl)) dL_isMadeSo_357 ⟨Nat.le_of_ble_eq_true rfl, Nat.le_of_ble_eq_true rfl⟩) (fun r_357 X_357 H locs hp_357 h => ?_)
                                obtain ⟨e_357, hq_357⟩ := hp_357
                                have h : yH D AZ sZ.heap [] (X_357 ++ []) _ _ := h.pl rfl
                                rw [e_357]
                                refine lv_isub hx hb dL_isMadeSo_360 ?_
                                refine lv_icmp_ne (tgt := 368) hx hb dL_isMadeSo_361 (by decide) (fun c_361 => ?_) (fun c_361 => ?_)
                                · exact absurd (from_yes (lit_of hS)).symm c_361
                                · skip
                                  refine lv_iconst (v := 1) hx hb dL_isMadeSo_364 (by decide) ?_
                                  refine lv_goto (tgt := 369) hx hb dL_isMadeSo_365 (by decide) ?_
                                  refine lv_istore (lv' := [(10, .int 1), (13, .int (nI m)), (12, .int (sY p d (nI n) ti fa ro)), (11, .int (sX p d (nI n) ti fa ro)), (9, .int (nI n)), (8, .int d), (7, .int (nI σ.2.1)), (6, .int ro), (5, .int fa), (4, .int ti), (3, .int (nI σ.1)), (2, .int p), (0, .ref yd), (1, .int v)]) hx hb dL_isMadeSo_369 hl (by decide) rfl (fun ls hl => ?_)
                                  refine lv_aload_n hx hb dL_isMadeSo_371 rfl (lv_at hl 12 rfl) ?_
                                  have h : yH D AZ sZ.heap X_357 [] _ _ := h.pl rfl
                                  obtain ⟨fs_14, he_14⟩ := qY_rc hq_357
                                  refine q_calli h hA (va_runV (own := RL) (As := []) (rest := []) ⟨hx, hb, hml, hown, y_nil⟩ (q_forget (l := l) (D := D) (ty := ty) (base := _) (sz := _) hl9 hq_357  ) (y_cwV (C := RX7) 0 (kw_3_235 hG) (kw_1_1 hG) (kw_3_232 hG) (kw_3_233 hG) (kw_3_234 hG) yd_X7_forget ⟨Nat.le_of_ble_eq_true rfl, Nat.le_of_ble_eq_true rfl⟩) (q_preV (ci := 7) hG h hAb he_14 rfl) rfl rfl hl.1 rfl (lv_room (Nat.le_of_ble_eq_true rfl)) dL_isMadeSo_372 ⟨Nat.le_of_ble_eq_true rfl, Nat.le_of_ble_eq_true rfl⟩) (fun r_372 X_372 H locs hp_372 h => ?_)
                                  obtain ⟨e_372, hq_372⟩ := hp_372
                                  have h : yH D AZ sZ.heap [] (X_372 ++ []) _ _ := h.pl rfl
                                  rw [e_372]
                                  refine lv_pop hx hb dL_isMadeSo_375 rfl ?_
                                  refine lv_iload hx hb dL_isMadeSo_376 (lv_at hl 0 rfl) ?_
                                  refine lv_if_eq (tgt := 470) hx hb dL_isMadeSo_378 (by decide) (fun c_378 => ?_) (fun c_378 => ?_)
                                  · exact absurd c_378 (by decide)
                                  · skip
                                    refine lv_aload_n hx hb dL_isMadeSo_381 rfl (lv_at hl 12 rfl) ?_
                                    refine lv_iload hx hb dL_isMadeSo_382 (lv_at hl 5 rfl) ?_
                                    refine lv_iload hx hb dL_isMadeSo_384 (lv_at hl 4 rfl) ?_
                                    refine lv_iload hx hb dL_isMadeSo_386 (lv_at hl 3 rfl) ?_
                                    refine lv_iload hx hb dL_isMadeSo_388 (lv_at hl 2 rfl) ?_
                                    have h : yH D AZ sZ.heap X_372 [] _ _ := h.pl rfl
                                    obtain ⟨fs_15, he_15⟩ := qY_rc hq_372
                                    refine q_calli h hA (va_runV (own := RL) (As := [.int d, .int (nI n), .int (sX p d (nI n) ti fa ro), .int (sY p d (nI n) ti fa ro)]) (rest := []) ⟨hx, hb, hml, hown, y_nil⟩ (k_find (l := l) (D := D) (ty := ty) (base := _) (sz := _) hl9 hq_372 d (nI n) (sX p d (nI n) ti fa ro) (sY p d (nI n) ti fa ro) (an_t hd (an_t ht (an_t (wL_bd (sXY_bd hS).1) (wL_bd (sXY_bd hS).2)))) rfl) (y_cwV (C := RX7) 4 (kw_4_2 hG) (kw_1_1 hG) (kw_3_239 hG) (kw_4_0 hG) (kw_4_1 hG) yd_X7_find ⟨Nat.le_of_ble_eq_true rfl, Nat.le_of_ble_eq_true rfl⟩) (q_preV (ci := 7) hG h hAb he_15 rfl) rfl rfl hl.1 rfl (lv_room (Nat.le_of_ble_eq_true rfl)) dL_isMadeSo_390 ⟨Nat.le_of_ble_eq_true rfl, Nat.le_of_ble_eq_true rfl⟩) (fun r_390 X_390 H locs hp_390 h => ?_)
                                    obtain ⟨e_390, hq_390⟩ := hp_390
                                    have h : yH D AZ sZ.heap [] (X_390 ++ []) _ _ := h.pl rfl
                                    rw [e_390]
                                    refine lv_iconst (v := 1) hx hb dL_isMadeSo_393 (by decide) ?_
                                    refine lv_icmp_ne (tgt := 470) hx hb dL_isMadeSo_394 (by decide) (fun c_394 => ?_) (fun c_394 => ?_)
                                    · exact absurd (by decide) c_394
                                    · skip
                                      obtain ⟨q9, k9, e9⟩ := lat_of h1
                                      have hg9 : qG (nFind (nForget σ2) d (nI n) (sX p d (nI n) ti fa ro) (sY p d (nI n) ti fa ro)) ti fa ro q9 = true := by
                                        rw [(qG_one (an_t hd (an_t ht (an_t (wL_bd (sXY_bd hS).1) (wL_bd (sXY_bd hS).2)))) rfl q9).1, ← e9]
                                        exact an_t hS (an_t (decide_eq_true rfl) (decide_eq_true rfl))
                                      have hf9 := mm_fit k9 hg9
                                      rw [← e9] at hf9
                                      have hz9 : ¬ (gFit (qG (nFind (nForget σ2) d (nI n) (sX p d (nI n) ti fa ro) (sY p d (nI n) ti fa ro)) ti fa ro)).1 = 0 := fun z => hf9.1 (by rw [z]; decide)
                                      refine lv_aload_n hx hb dL_isMadeSo_397 rfl (lv_at hl 12 rfl) ?_
                                      refine lv_iload hx hb dL_isMadeSo_398 (lv_at hl 9 rfl) ?_
                                      refine lv_iload hx hb dL_isMadeSo_400 (lv_at hl 8 rfl) ?_
                                      refine lv_iload hx hb dL_isMadeSo_402 (lv_at hl 7 rfl) ?_
                                      refine lv_iconst (v := 0) hx hb dL_isMadeSo_404 (by decide) ?_
                                      have h : yH D AZ sZ.heap X_390 [] _ _ := h.pl rfl
                                      obtain ⟨fs_16, he_16⟩ := qY_rc hq_390
                                      refine q_calli h hA (va_runV (own := RL) (As := [.int ti, .int fa, .int ro, .int 0]) (rest := []) ⟨hx, hb, hml, hown, y_nil⟩ (k_fits0 (l := l) (D := D) (ty := ty) (base := _) (sz := _) hl9 hq_390 ti fa ro h2 h3 h4) (y_cwV (C := RX7) 4 (kw_4_14 hG) (kw_1_1 hG) (kw_4_11 hG) (kw_4_12 hG) (kw_4_13 hG) yd_X7_fits ⟨Nat.le_of_ble_eq_true rfl, Nat.le_of_ble_eq_true rfl⟩) (q_preV (ci := 7) hG h hAb he_16 rfl) rfl rfl hl.1 rfl (lv_room (Nat.le_of_ble_eq_true rfl)) dL_isMadeSo_405 ⟨Nat.le_of_ble_eq_true rfl, Nat.le_of_ble_eq_true rfl⟩) (fun r_405 X_405 H locs hp_405 h => ?_)
                                      obtain ⟨e_405, hq_405⟩ := hp_405
                                      have h : yH D AZ sZ.heap [] (X_405 ++ []) _ _ := h.pl rfl
                                      rw [e_405]
                                      refine lv_if_le (tgt := 470) hx hb dL_isMadeSo_408 (by decide) (fun c_408 => ?_) (fun c_408 => ?_)
                                      · exact absurd c_408 hf9.1
                                      · skip
                                        refine lv_aload_n hx hb dL_isMadeSo_411 rfl (lv_at hl 12 rfl) ?_
                                        refine lv_iload hx hb dL_isMadeSo_412 (lv_at hl 9 rfl) ?_
                                        refine lv_iload hx hb dL_isMadeSo_414 (lv_at hl 8 rfl) ?_
                                        refine lv_iload hx hb dL_isMadeSo_416 (lv_at hl 7 rfl) ?_
                                        refine lv_iconst (v := 1) hx hb dL_isMadeSo_418 (by decide) ?_
                                        have h : yH D AZ sZ.heap X_405 [] _ _ := h.pl rfl
                                        obtain ⟨fs_17, he_17⟩ := qY_rc hq_405
                                        refine q_calli h hA (va_runV (own := RL) (As := [.int ti, .int fa, .int ro, .int 1]) (rest := []) ⟨hx, hb, hml, hown, y_nil⟩ (k_fits1 (l := l) (D := D) (ty := ty) (base := _) (sz := _) hl9 hq_405 ti fa ro h2 h3 h4 hz9) (y_cwV (C := RX7) 4 (kw_4_14 hG) (kw_1_1 hG) (kw_4_11 hG) (kw_4_12 hG) (kw_4_13 hG) yd_X7_fits ⟨Nat.le_of_ble_eq_true rfl, Nat.le_of_ble_eq_true rfl⟩) (q_preV (ci := 7) hG h hAb he_17 rfl) rfl rfl hl.1 rfl (lv_room (Nat.le_of_ble_eq_true rfl)) dL_isMadeSo_419 ⟨Nat.le_of_ble_eq_true rfl, Nat.le_of_ble_eq_true rfl⟩) (fun r_419 X_419 H locs hp_419 h => ?_)
                                        obtain ⟨e_419, hq_419⟩ := hp_419
                                        have h : yH D AZ sZ.heap [] (X_419 ++ []) _ _ := h.pl rfl
                                        rw [e_419]
                                        refine lv_iload_n hx hb dL_isMadeSo_422 rfl (lv_at hl 11 rfl) ?_
                                        refine lv_icmp_gt (tgt := 470) hx hb dL_isMadeSo_423 (by decide) (fun c_423 => ?_) (fun c_423 => ?_)
                                        · exact absurd hf9.2.1 (Int32.not_le.mpr c_423)
                                        · skip
                                          refine lv_aload_n hx hb dL_isMadeSo_426 rfl (lv_at hl 12 rfl) ?_
                                          refine lv_iload hx hb dL_isMadeSo_427 (lv_at hl 9 rfl) ?_
                                          refine lv_iload hx hb dL_isMadeSo_429 (lv_at hl 8 rfl) ?_
                                          refine lv_iload hx hb dL_isMadeSo_431 (lv_at hl 7 rfl) ?_
                                          refine lv_iconst (v := 2) hx hb dL_isMadeSo_433 (by decide) ?_
                                          have h : yH D AZ sZ.heap X_419 [] _ _ := h.pl rfl
                                          obtain ⟨fs_18, he_18⟩ := qY_rc hq_419
                                          refine q_calli h hA (va_runV (own := RL) (As := [.int ti, .int fa, .int ro, .int 2]) (rest := []) ⟨hx, hb, hml, hown, y_nil⟩ (k_fits2 (l := l) (D := D) (ty := ty) (base := _) (sz := _) hl9 hq_419 ti fa ro h2 h3 h4 hz9) (y_cwV (C := RX7) 4 (kw_4_14 hG) (kw_1_1 hG) (kw_4_11 hG) (kw_4_12 hG) (kw_4_13 hG) yd_X7_fits ⟨Nat.le_of_ble_eq_true rfl, Nat.le_of_ble_eq_true rfl⟩) (q_preV (ci := 7) hG h hAb he_18 rfl) rfl rfl hl.1 rfl (lv_room (Nat.le_of_ble_eq_true rfl)) dL_isMadeSo_434 ⟨Nat.le_of_ble_eq_true rfl, Nat.le_of_ble_eq_true rfl⟩) (fun r_434 X_434 H locs hp_434 h => ?_)
                                          obtain ⟨e_434, hq_434⟩ := hp_434
                                          have h : yH D AZ sZ.heap [] (X_434 ++ []) _ _ := h.pl rfl
                                          rw [e_434]
                                          refine lv_iload_n hx hb dL_isMadeSo_437 rfl (lv_at hl 11 rfl) ?_
                                          refine lv_icmp_lt (tgt := 470) hx hb dL_isMadeSo_438 (by decide) (fun c_438 => ?_) (fun c_438 => ?_)
                                          · exact absurd hf9.2.2 (Int32.not_le.mpr c_438)
                                          · skip
                                            refine lv_aload_n hx hb dL_isMadeSo_441 rfl (lv_at hl 12 rfl) ?_
                                            have h : yH D AZ sZ.heap X_434 [] _ _ := h.pl rfl
                                            obtain ⟨fs_19, he_19⟩ := qY_rc hq_434
                                            refine q_calli h hA (va_runV (own := RL) (As := []) (rest := []) ⟨hx, hb, hml, hown, y_nil⟩ (q_forget (l := l) (D := D) (ty := ty) (base := _) (sz := _) hl9 hq_434  ) (y_cwV (C := RX7) 0 (kw_3_235 hG) (kw_1_1 hG) (kw_3_232 hG) (kw_3_233 hG) (kw_3_234 hG) yd_X7_forget ⟨Nat.le_of_ble_eq_true rfl, Nat.le_of_ble_eq_true rfl⟩) (q_preV (ci := 7) hG h hAb he_19 rfl) rfl rfl hl.1 rfl (lv_room (Nat.le_of_ble_eq_true rfl)) dL_isMadeSo_442 ⟨Nat.le_of_ble_eq_true rfl, Nat.le_of_ble_eq_true rfl⟩) (fun r_442 X_442 H locs hp_442 h => ?_)
                                            obtain ⟨e_442, hq_442⟩ := hp_442
                                            have h : yH D AZ sZ.heap [] (X_442 ++ []) _ _ := h.pl rfl
                                            rw [e_442]
                                            refine lv_iconst (v := 1) hx hb dL_isMadeSo_445 (by decide) ?_
                                            refine lv_icmp_ne (tgt := 470) hx hb dL_isMadeSo_446 (by decide) (fun c_446 => ?_) (fun c_446 => ?_)
                                            · exact absurd (by rw [(qG_one (ti := ti) (fa := fa) (ro := ro) (an_t hd (an_t ht (an_t (wL_bd (sXY_bd hS).1) (wL_bd (sXY_bd hS).2)))) rfl 0).2]; decide) c_446
                                            · skip
                                              refine lv_aload_n hx hb dL_isMadeSo_449 rfl (lv_at hl 12 rfl) ?_
                                              refine lv_iload hx hb dL_isMadeSo_450 (lv_at hl 9 rfl) ?_
                                              refine lv_iload hx hb dL_isMadeSo_452 (lv_at hl 8 rfl) ?_
                                              refine lv_iload hx hb dL_isMadeSo_454 (lv_at hl 7 rfl) ?_
                                              refine lv_iconst (v := 0) hx hb dL_isMadeSo_456 (by decide) ?_
                                              have h : yH D AZ sZ.heap X_442 [] _ _ := h.pl rfl
                                              obtain ⟨fs_20, he_20⟩ := qY_rc hq_442
                                              refine q_calli h hA (va_runV (own := RL) (As := [.int ti, .int fa, .int ro, .int 0]) (rest := []) ⟨hx, hb, hml, hown, y_nil⟩ (k_fits0 (l := l) (D := D) (ty := ty) (base := _) (sz := _) hl9 hq_442 ti fa ro h2 h3 h4) (y_cwV (C := RX7) 4 (kw_4_14 hG) (kw_1_1 hG) (kw_4_11 hG) (kw_4_12 hG) (kw_4_13 hG) yd_X7_fits ⟨Nat.le_of_ble_eq_true rfl, Nat.le_of_ble_eq_true rfl⟩) (q_preV (ci := 7) hG h hAb he_20 rfl) rfl rfl hl.1 rfl (lv_room (Nat.le_of_ble_eq_true rfl)) dL_isMadeSo_457 ⟨Nat.le_of_ble_eq_true rfl, Nat.le_of_ble_eq_true rfl⟩) (fun r_457 X_457 H locs hp_457 h => ?_)
                                              obtain ⟨e_457, hq_457⟩ := hp_457
                                              have h : yH D AZ sZ.heap [] (X_457 ++ []) _ _ := h.pl rfl
                                              rw [e_457]
                                              refine lv_sipush (v := 133) hx hb dL_isMadeSo_460 (by decide) ?_
                                              refine lv_icmp_ne (tgt := 470) hx hb dL_isMadeSo_463 (by decide) (fun c_463 => ?_) (fun c_463 => ?_)
                                              · exact absurd (mm_all (fun q => qG_all rfl q)) c_463
                                              · skip
                                                refine lv_iconst (v := 1) hx hb dL_isMadeSo_466 (by decide) ?_
                                                refine lv_goto (tgt := 471) hx hb dL_isMadeSo_467 (by decide) ?_
                                                exact hret 1 X_457 [] _ _ _ _ _ _ _ (Or.inr rfl) ⟨rfl, _, hq_457⟩ (h.pl (X' := []) (pl' := X_457) (List.append_nil _)) rfl (Nat.le_of_ble_eq_true rfl) (Nat.le_of_ble_eq_true rfl) dL_isMadeSo_471
                  · exact absurd c_221 (bd_nb (sXY_bd hS).1)
                · skip
                  rw [← bA_f (v := sX p d (nI n) ti fa ro) (an_f2 (a := (wI d 0 359 && wI (nI n) 0 359)) (bf_t hS))]
                  refine lv_istore (lv' := [(11, .int (-99999999)), (10, .int 1), (9, .int (nI n)), (8, .int d), (7, .int (nI σ.2.1)), (6, .int ro), (5, .int fa), (4, .int ti), (3, .int (nI σ.1)), (2, .int p), (0, .ref yd), (1, .int v)]) hx hb dL_isMadeSo_215 hl (by decide) rfl (fun ls hl => ?_)
                  refine lv_iload hx hb dL_isMadeSo_217 (lv_at hl 0 rfl) ?_
                  refine lv_ldc (own := RL) (v := (-99999999)) hx hb hown (kw_2_98 hG).b dL_isMadeSo_219 ?_
                  refine lv_icmp_ne (tgt := 249) hx hb dL_isMadeSo_221 (by decide) (fun c_221 => ?_) (fun c_221 => ?_)
                  · exact absurd (by decide) c_221
                  · skip
                    refine lv_iload hx hb dL_isMadeSo_224 (lv_at hl 1 rfl) ?_
                    refine lv_if_eq (tgt := 247) hx hb dL_isMadeSo_226 (by decide) (fun c_226 => ?_) (fun c_226 => ?_)
                    · exact absurd c_226 (by decide)
                    · skip
                      refine lv_aload_n hx hb dL_isMadeSo_229 rfl (lv_at hl 10 rfl) ?_
                      refine lv_iload hx hb dL_isMadeSo_230 (lv_at hl 4 rfl) ?_
                      refine lv_iload hx hb dL_isMadeSo_232 (lv_at hl 3 rfl) ?_
                      refine lv_iload hx hb dL_isMadeSo_234 (lv_at hl 2 rfl) ?_
                      have h : yH D AZ sZ.heap X_212 [] _ _ := h.pl rfl
                      obtain ⟨fs_21, he_21⟩ := qY_rc hq_212
                      refine q_calli h hA (va_runV (own := RL) (As := [.int (nI σ.2.1), .int d, .int (nI n)]) (rest := []) ⟨hx, hb, hml, hown, y_nil⟩ (k_tells (l := l) (D := D) (ty := ty) (base := _) (sz := _) hl9 hq_212 hm d (nI n) hd ht) (y_cwV (C := RX7) 3 (kw_3_170 hG) (kw_1_1 hG) (kw_3_167 hG) (kw_3_168 hG) (kw_3_169 hG) yd_X7_tells ⟨Nat.le_of_ble_eq_true rfl, Nat.le_of_ble_eq_true rfl⟩) (q_preV (ci := 7) hG h hAb he_21 rfl) rfl rfl hl.1 rfl (lv_room (Nat.le_of_ble_eq_true rfl)) dL_isMadeSo_236 ⟨Nat.le_of_ble_eq_true rfl, Nat.le_of_ble_eq_true rfl⟩) (fun r_236 X_236 H locs hp_236 h => ?_)
                      obtain ⟨e_236, hq_236⟩ := hp_236
                      have h : yH D AZ sZ.heap [] (X_236 ++ []) _ _ := h.pl rfl
                      rw [e_236]
                      refine lv_iconst (v := (-1)) hx hb dL_isMadeSo_239 (by decide) ?_
                      refine lv_icmp_ne (tgt := 247) hx hb dL_isMadeSo_240 (by decide) (fun c_240 => ?_) (fun c_240 => ?_)
                      · exact absurd (tell_none (bf_t hS)) c_240
                      · skip
                        refine lv_iconst (v := 1) hx hb dL_isMadeSo_243 (by decide) ?_
                        refine lv_goto (tgt := 248) hx hb dL_isMadeSo_244 (by decide) ?_
                        exact hret 1 X_236 [] _ _ _ _ _ _ _ (Or.inr rfl) ⟨rfl, _, hq_236⟩ (h.pl (X' := []) (pl' := X_236) (List.append_nil _)) rfl (Nat.le_of_ble_eq_true rfl) (Nat.le_of_ble_eq_true rfl) dL_isMadeSo_248
        · exact absurd (nI_pos' (by omega)) c_90
      · skip
        rw [made_dn hM hP hD]
        refine lv_istore (lv' := [(7, .int (-99999999)), (6, .int ro), (5, .int fa), (4, .int ti), (3, .int (nI σ.1)), (2, .int p), (0, .ref yd), (1, .int v)]) hx hb dL_isMadeSo_86 hl (by decide) rfl (fun ls hl => ?_)
        refine lv_iload hx hb dL_isMadeSo_88 (lv_at hl 0 rfl) ?_
        refine lv_if_ge (tgt := 95) hx hb dL_isMadeSo_90 (by decide) (fun c_90 => ?_) (fun c_90 => ?_)
        · exact absurd c_90 (by decide)
        · skip
          refine lv_iconst (v := 1) hx hb dL_isMadeSo_93 (by decide) ?_
          exact hret 1 X_83 [] _ _ _ _ _ _ _ (Or.inr rfl) ⟨rfl, _, hq_83⟩ (h.pl (X' := []) (pl' := X_83) (List.append_nil _)) rfl (Nat.le_of_ble_eq_true rfl) (Nat.le_of_ble_eq_true rfl) dL_isMadeSo_94
    · exact absurd (nI_pos' (by omega)) c_68
  · skip
    rw [made_pn hP]
    refine lv_istore_n (lv' := [(3, .int (-99999999)), (2, .int p), (0, .ref yd), (1, .int v)]) hx hb dL_isMadeSo_28 rfl hl (by decide) rfl (fun ls hl => ?_)
    refine lv_iload_n hx hb dL_isMadeSo_29 rfl (lv_at hl 3 rfl) ?_
    refine lv_iconst (v := 5) hx hb dL_isMadeSo_30 (by decide) ?_
    refine lv_ishr hx hb dL_isMadeSo_31 ?_
    refine lv_bipush (v := 91) hx hb dL_isMadeSo_32 (by decide) ?_
    refine y_calli (X' := fun _ : Unit => []) (wc := []) (wr := []) h hA [] [] [] rfl rfl (by decide) (by decide) (by decide) (fun _ => rfl) (va_runS (own := RL) (As := [.int (v >>> ((5 : Int32) &&& 31)), .int 91]) (rest := []) ⟨hx, hb, hml, hown, y_nil⟩ (m_L_low l D ty base _ (v >>> ((5 : Int32) &&& 31)) 91   (by decide)) (y_cwS 2 (kw_1_220 hG) (kw_1_0 hG) (kw_1_218 hG) (kw_1_219 hG) yd_L_low ⟨Nat.le_of_ble_eq_true rfl, Nat.le_of_ble_eq_true rfl⟩) (y_preS hG h hAb [] rfl (by decide)) rfl rfl hl.1 rfl (lv_room (Nat.le_of_ble_eq_true rfl)) dL_isMadeSo_34 ⟨Nat.le_of_ble_eq_true rfl, Nat.le_of_ble_eq_true rfl⟩) (fun r_34 _ H locs hp_34 h => ?_)
    have hp_34 : r_34 = qLow (v >>> ((5 : Int32) &&& 31)) 91 := hp_34
    have h : yH D AZ sZ.heap [] (X_25 ++ []) _ _ := h
    rw [hp_34]
    refine lv_topi (fun ti e_ti => ?_)
    have h2 : wI ti 0 90 = true := by rw [e_ti]; exact qT_in _
    refine lv_istore (lv' := [(4, .int ti), (3, .int (-99999999)), (2, .int p), (0, .ref yd), (1, .int v)]) hx hb dL_isMadeSo_37 hl (by decide) rfl (fun ls hl => ?_)
    refine lv_iload_n hx hb dL_isMadeSo_39 rfl (lv_at hl 4 rfl) ?_
    refine lv_bipush (v := 8) hx hb dL_isMadeSo_40 (by decide) ?_
    refine lv_ishr hx hb dL_isMadeSo_42 ?_
    refine lv_sipush (v := 181) hx hb dL_isMadeSo_43 (by decide) ?_
    refine y_calli (X' := fun _ : Unit => []) (wc := []) (wr := []) h hA [] [] [] rfl rfl (by decide) (by decide) (by decide) (fun _ => rfl) (va_runS (own := RL) (As := [.int (v >>> ((8 : Int32) &&& 31)), .int 181]) (rest := []) ⟨hx, hb, hml, hown, y_nil⟩ (m_L_low l D ty base _ (v >>> ((8 : Int32) &&& 31)) 181   (by decide)) (y_cwS 2 (kw_1_220 hG) (kw_1_0 hG) (kw_1_218 hG) (kw_1_219 hG) yd_L_low ⟨Nat.le_of_ble_eq_true rfl, Nat.le_of_ble_eq_true rfl⟩) (y_preS hG h hAb [] rfl (by decide)) rfl rfl hl.1 rfl (lv_room (Nat.le_of_ble_eq_true rfl)) dL_isMadeSo_46 ⟨Nat.le_of_ble_eq_true rfl, Nat.le_of_ble_eq_true rfl⟩) (fun r_46 _ H locs hp_46 h => ?_)
    have hp_46 : r_46 = qLow (v >>> ((8 : Int32) &&& 31)) 181 := hp_46
    have h : yH D AZ sZ.heap [] (X_25 ++ []) _ _ := h
    rw [hp_46]
    refine lv_bipush (v := 90) hx hb dL_isMadeSo_49 (by decide) ?_
    refine lv_isub hx hb dL_isMadeSo_51 ?_
    refine lv_topi (fun fa e_fa => ?_)
    have h3 : wI fa (-180) 180 = true := by rw [e_fa]; exact qF_in _
    refine lv_istore (lv' := [(5, .int fa), (4, .int ti), (3, .int (-99999999)), (2, .int p), (0, .ref yd), (1, .int v)]) hx hb dL_isMadeSo_52 hl (by decide) rfl (fun ls hl => ?_)
    refine lv_iconst (v := 1) hx hb dL_isMadeSo_54 (by decide) ?_
    refine lv_iload_n hx hb dL_isMadeSo_55 rfl (lv_at hl 5 rfl) ?_
    refine lv_iconst (v := 4) hx hb dL_isMadeSo_56 (by decide) ?_
    refine lv_ishr hx hb dL_isMadeSo_57 ?_
    refine lv_sipush (v := 300) hx hb dL_isMadeSo_58 (by decide) ?_
    refine y_calli (X' := fun _ : Unit => []) (wc := []) (wr := []) h hA [] [] [] rfl rfl (by decide) (by decide) (by decide) (fun _ => rfl) (va_runS (own := RL) (As := [.int (v >>> ((4 : Int32) &&& 31)), .int 300]) (rest := [.int 1]) ⟨hx, hb, hml, hown, y_nil⟩ (m_L_low l D ty base _ (v >>> ((4 : Int32) &&& 31)) 300   (by decide)) (y_cwS 2 (kw_1_220 hG) (kw_1_0 hG) (kw_1_218 hG) (kw_1_219 hG) yd_L_low ⟨Nat.le_of_ble_eq_true rfl, Nat.le_of_ble_eq_true rfl⟩) (y_preS hG h hAb [] rfl (by decide)) rfl rfl hl.1 rfl (lv_room (Nat.le_of_ble_eq_true rfl)) dL_isMadeSo_61 ⟨Nat.le_of_ble_eq_true rfl, Nat.le_of_ble_eq_true rfl⟩) (fun r_61 _ H locs hp_61 h => ?_)
    have hp_61 : r_61 = qLow (v >>> ((4 : Int32) &&& 31)) 300 := hp_61
    have h : yH D AZ sZ.heap [] (X_25 ++ []) _ _ := h
    rw [hp_61]
    refine lv_iadd hx hb dL_isMadeSo_64 ?_
    refine lv_topi (fun ro e_ro => ?_)
    have h4 : wI ro 1 500 = true := by rw [e_ro]; exact qR_in _
    have h5 : ((wI ti 0 90 && (wI fa (-180) 180 && wI ro 1 500))) = true := an_t h2 (an_t h3 h4)
    refine lv_istore (lv' := [(6, .int ro), (5, .int fa), (4, .int ti), (3, .int (-99999999)), (2, .int p), (0, .ref yd), (1, .int v)]) hx hb dL_isMadeSo_65 hl (by decide) rfl (fun ls hl => ?_)
    refine lv_iload_n hx hb dL_isMadeSo_67 rfl (lv_at hl 3 rfl) ?_
    refine lv_if_ge (tgt := 75) hx hb dL_isMadeSo_68 (by decide) (fun c_68 => ?_) (fun c_68 => ?_)
    · exact absurd c_68 (by decide)
    · skip
      refine lv_iconst (v := (-1)) hx hb dL_isMadeSo_71 (by decide) ?_
      refine lv_goto (tgt := 86) hx hb dL_isMadeSo_72 (by decide) ?_
      refine lv_istore (lv' := [(7, .int (-1)), (6, .int ro), (5, .int fa), (4, .int ti), (3, .int (-99999999)), (2, .int p), (0, .ref yd), (1, .int v)]) hx hb dL_isMadeSo_86 hl (by decide) rfl (fun ls hl => ?_)
      refine lv_iload hx hb dL_isMadeSo_88 (lv_at hl 0 rfl) ?_
      refine lv_if_ge (tgt := 95) hx hb dL_isMadeSo_90 (by decide) (fun c_90 => ?_) (fun c_90 => ?_)
      · exact absurd c_90 (by decide)
      · skip
        refine lv_iconst (v := 1) hx hb dL_isMadeSo_93 (by decide) ?_
        exact hret 1 X_25 [] _ _ _ _ _ _ _ (Or.inr rfl) ⟨rfl, _, hq_25⟩ (h.pl (X' := []) (pl' := X_25) (List.append_nil _)) rfl (Nat.le_of_ble_eq_true rfl) (Nat.le_of_ble_eq_true rfl) dL_isMadeSo_94
