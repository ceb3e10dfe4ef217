abbrev rmK : Room := { frames := 10, cells := 408, slots := 4182, locals := 206 }
theorem yd_L_areAlike : yL_areAlike.cls ≠ "java/lang/invoke/MethodHandle" ∧ yL_areAlike.cls ≠ "java/lang/invoke/VarHandle" ∧ (parseMethodDescriptor yL_areAlike.desc).map (fun d => d.parameters.length) = some 3 := by decide +kernel
set_option maxHeartbeats 4000000 in
set_option maxRecDepth 100000 in
theorem q_alike {l : Launch} {D : va_G} {ty : Nat → ClassId} {base sz : Nat} (hl9 : l.stackTraces = false) {yo yp : Nat} {σ : QS} {Xo Xp : va_W} (hqo : qY ty yo σ Xo) (hqp : qY ty yp σ Xp) (v : Int32) : Met l yL_areAlike [.code yL_areAlike cL_areAlike 5 (some (.boolean))] rmK (yPc D ty base sz (Xo ++ Xp) [.ref yo, .ref yp, .int v]) (va_Qi (fun r X' => r = 1 ∧ ∃ Xo' Xp', X' = Xo' ++ Xp' ∧ qY ty yo σ Xo' ∧ qY ty yp σ Xp') (yB D (va_A (Xo ++ Xp) sz) (fun X' : va_W => X')) (va_A (Xo ++ Xp) sz)) rmK.cells rmK.slots (va_A (Xo ++ Xp) sz) := by
  refine y_start_z (cc := cL_areAlike) (maxL := 5) (own := RL) (by decide +kernel) rfl (Nat.le_of_ble_eq_true rfl) (fun pZ eZ sZ mZ aZ bZ tZ cZ AZ ls QZ hx hb hml hown hnm hG hA hAb hsz h hl hret => ?_)
  have h : yH D AZ sZ.heap [] (Xo ++ Xp) sZ.heap [] := h.pl (List.append_nil _)
  have hl : lv_has ls 5 [(0, .ref yo), (1, .ref yp), (2, .int v)] := hl
  have loop : ∀ (n i : Nat), 10 - i < n → i ≤ 10 → ∀ (Xo Xp : va_W), qY ty yo σ Xo → qY ty yp σ Xp → ∀ (H : Heap) (locs : List Loc) (ls : Array Slot) (cells slots : Nat), cells ≤ 8 + 40 * i → slots ≤ 82 + 410 * i → yH D AZ sZ.heap [] (Xo ++ Xp) H locs → lv_has ls 5 [(0, .ref yo), (1, .ref yp), (2, .int v), (3, .int 1), (4, .int (nI i))] → W pZ l eZ rmK sZ mZ aZ bZ tZ cZ H locs cells slots QZ (F0 mZ 21 ls []) := by
    intro n
    induction n with
    | zero => intro i hn; exact absurd hn (Nat.not_lt_zero _)
    | succ n ih =>
      intro i hn hi Xo Xp hqo hqp H locs ls cells slots hcc hss h hl
      refine lv_iload hx hb dL_areAlike_21 (lv_at hl 4 rfl) ?_
      refine lv_bipush (v := 10) hx hb dL_areAlike_23 (by decide) ?_
      refine lv_icmp_ge (tgt := 193) hx hb dL_areAlike_25 (by decide) (fun c_25 => ?_) (fun c_25 => ?_)
      · skip
        refine lv_iload_n hx hb dL_areAlike_193 rfl (lv_at hl 3 rfl) ?_
        exact hret 1 (Xo ++ Xp) [] _ _ _ _ _ _ _ (Or.inr rfl) ⟨rfl, _, _, rfl, hqo, hqp⟩ h rfl (by show cells ≤ 408; omega) (by show slots ≤ 4182; omega) dL_areAlike_194
      · skip
        have hik : i < 10 := by
          rcases Nat.lt_or_ge i 10 with q | q
          · exact q
          · exact absurd (nI_le q (by omega)) c_25
        refine lv_iload_n hx hb dL_areAlike_28 rfl (lv_at hl 3 rfl) ?_
        refine lv_if_eq (tgt := 193) hx hb dL_areAlike_29 (by decide) (fun c_29 => ?_) (fun c_29 => ?_)
        · exact absurd c_29 (by decide)
        · skip
          refine lv_aload_n hx hb dL_areAlike_32 rfl (lv_at hl 0 rfl) ?_
          refine lv_iload hx hb dL_areAlike_33 (lv_at hl 4 rfl) ?_
          have h : yH D AZ sZ.heap Xo Xp _ _ := h.pl rfl
          refine q_calli h hA (vx_runSW (own := RL) (As := [.ref yo, .int (nI i)]) (rest := []) ⟨hx, hb, hml, hown, y_nil⟩ (q_lies (l := l) (D := D) (ty := ty) (base := _) (sz := _) hl9 hqo (nI i) ) (y_cwSW 2 (kw_3_223 hG) (kw_1_0 hG) (kw_3_221 hG) (kw_3_222 hG) yd_L_lies ⟨Nat.le_of_ble_eq_true rfl, Nat.le_of_ble_eq_true rfl⟩) (q_preS hG h hAb) rfl rfl hl.1 rfl (lv_room (Nat.le_of_ble_eq_true rfl)) dL_areAlike_35 ⟨(by show cells + 4 ≤ 408; omega), (by show slots + 41 ≤ 4182; omega)⟩) (fun r_35 X_35 H locs hp_35 h => ?_)
          obtain ⟨e_35, hq_35⟩ := hp_35
          have h : yH D AZ sZ.heap [] (X_35 ++ Xp) _ _ := h.pl rfl
          rw [e_35]
          refine lv_aload_n hx hb dL_areAlike_38 rfl (lv_at hl 1 rfl) ?_
          refine lv_iload hx hb dL_areAlike_39 (lv_at hl 4 rfl) ?_
          have h : yH D AZ sZ.heap Xp X_35 _ _ := q_swap (h.pl (X' := X_35) (pl' := Xp) rfl)
          refine q_calli h hA (vx_runSW (own := RL) (As := [.ref yp, .int (nI i)]) (rest := [.int (aLies σ (nI i))]) ⟨hx, hb, hml, hown, y_nil⟩ (q_lies (l := l) (D := D) (ty := ty) (base := _) (sz := _) hl9 hqp (nI i) ) (y_cwSW 2 (kw_3_223 hG) (kw_1_0 hG) (kw_3_221 hG) (kw_3_222 hG) yd_L_lies ⟨Nat.le_of_ble_eq_true rfl, Nat.le_of_ble_eq_true rfl⟩) (q_preS hG h hAb) rfl rfl hl.1 rfl (lv_room (Nat.le_of_ble_eq_true rfl)) dL_areAlike_41 ⟨(by show cells + 4 + 4 ≤ 408; omega), (by show slots + 41 + 41 ≤ 4182; omega)⟩) (fun r_41 X_41 H locs hp_41 h => ?_)
          obtain ⟨e_41, hq_41⟩ := hp_41
          have h : yH D AZ sZ.heap [] (X_35 ++ X_41) _ _ := (q_swap h).pl rfl
          rw [e_41]
          refine lv_icmp_ne (tgt := 185) hx hb dL_areAlike_44 (by decide) (fun c_44 => ?_) (fun c_44 => ?_)
          · exact absurd rfl c_44
          · skip
            refine lv_aload_n hx hb dL_areAlike_47 rfl (lv_at hl 0 rfl) ?_
            refine lv_iload hx hb dL_areAlike_48 (lv_at hl 4 rfl) ?_
            refine lv_iload_n hx hb dL_areAlike_50 rfl (lv_at hl 2 rfl) ?_
            refine lv_sipush (v := 360) hx hb dL_areAlike_51 (by decide) ?_
            refine y_calli (X' := fun _ : Unit => []) (wc := []) (wr := []) h hA [] [] [] rfl rfl (by decide) (by decide) (by decide) (fun _ => rfl) (va_runS (own := RL) (As := [.int v, .int 360]) (rest := [.int (nI i), .ref yo]) ⟨hx, hb, hml, hown, y_nil⟩ (m_L_low l D ty base _ v 360   (by decide)) (y_cwS 2 (kw_1_220 hG) (kw_1_0 hG) (kw_1_218 hG) (kw_1_219 hG) yd_L_low ⟨Nat.le_of_ble_eq_true rfl, Nat.le_of_ble_eq_true rfl⟩) (y_preS hG h hAb [] rfl (by decide)) rfl rfl hl.1 rfl (lv_room (Nat.le_of_ble_eq_true rfl)) dL_areAlike_54 ⟨(by show cells + 4 + 4 + 0 ≤ 408; omega), (by show slots + 41 + 41 + 0 ≤ 4182; omega)⟩) (fun r_54 _ H locs hp_54 h => ?_)
            have hp_54 : r_54 = qLow v 360 := hp_54
            have h : yH D AZ sZ.heap [] (X_35 ++ X_41) _ _ := h
            rw [hp_54]
            refine lv_sipush (v := 170) hx hb dL_areAlike_57 (by decide) ?_
            refine lv_iconst (v := 0) hx hb dL_areAlike_60 (by decide) ?_
            have h : yH D AZ sZ.heap X_35 X_41 _ _ := h.pl rfl
            refine q_calli h hA (vx_runSW (own := RL) (As := [.ref yo, .int (nI i), .int (qLow v 360), .int 170, .int 0]) (rest := []) ⟨hx, hb, hml, hown, y_nil⟩ (q_shadow (l := l) (D := D) (ty := ty) (base := _) (sz := _) hl9 hq_35 (nI i) (qLow v 360) 170 0 ) (y_cwSW 5 (kw_3_83 hG) (kw_1_0 hG) (kw_3_81 hG) (kw_3_82 hG) yd_L_shadow ⟨Nat.le_of_ble_eq_true rfl, Nat.le_of_ble_eq_true rfl⟩) (q_preS hG h hAb) rfl rfl hl.1 rfl (lv_room (Nat.le_of_ble_eq_true rfl)) dL_areAlike_61 ⟨(by show cells + 4 + 4 + 0 + 4 ≤ 408; omega), (by show slots + 41 + 41 + 0 + 41 ≤ 4182; omega)⟩) (fun r_61 X_61 H locs hp_61 h => ?_)
            obtain ⟨e_61, hq_61⟩ := hp_61
            have h : yH D AZ sZ.heap [] (X_61 ++ X_41) _ _ := h.pl rfl
            rw [e_61]
            refine lv_aload_n hx hb dL_areAlike_64 rfl (lv_at hl 1 rfl) ?_
            refine lv_iload hx hb dL_areAlike_65 (lv_at hl 4 rfl) ?_
            refine lv_iload_n hx hb dL_areAlike_67 rfl (lv_at hl 2 rfl) ?_
            refine lv_sipush (v := 360) hx hb dL_areAlike_68 (by decide) ?_
            refine y_calli (X' := fun _ : Unit => []) (wc := []) (wr := []) h hA [] [] [] rfl rfl (by decide) (by decide) (by decide) (fun _ => rfl) (va_runS (own := RL) (As := [.int v, .int 360]) (rest := [.int (nI i), .ref yp, .int (aShadow σ (nI i) (qLow v 360) 170 0)]) ⟨hx, hb, hml, hown, y_nil⟩ (m_L_low l D ty base _ v 360   (by decide)) (y_cwS 2 (kw_1_220 hG) (kw_1_0 hG) (kw_1_218 hG) (kw_1_219 hG) yd_L_low ⟨Nat.le_of_ble_eq_true rfl, Nat.le_of_ble_eq_true rfl⟩) (y_preS hG h hAb [] rfl (by decide)) rfl rfl hl.1 rfl (lv_room (Nat.le_of_ble_eq_true rfl)) dL_areAlike_71 ⟨(by show cells + 4 + 4 + 0 + 4 + 0 ≤ 408; omega), (by show slots + 41 + 41 + 0 + 41 + 0 ≤ 4182; omega)⟩) (fun r_71 _ H locs hp_71 h => ?_)
            have hp_71 : r_71 = qLow v 360 := hp_71
            have h : yH D AZ sZ.heap [] (X_61 ++ X_41) _ _ := h
            rw [hp_71]
            refine lv_sipush (v := 170) hx hb dL_areAlike_74 (by decide) ?_
            refine lv_iconst (v := 0) hx hb dL_areAlike_77 (by decide) ?_
            have h : yH D AZ sZ.heap X_41 X_61 _ _ := q_swap (h.pl (X' := X_61) (pl' := X_41) rfl)
            refine q_calli h hA (vx_runSW (own := RL) (As := [.ref yp, .int (nI i), .int (qLow v 360), .int 170, .int 0]) (rest := [.int (aShadow σ (nI i) (qLow v 360) 170 0)]) ⟨hx, hb, hml, hown, y_nil⟩ (q_shadow (l := l) (D := D) (ty := ty) (base := _) (sz := _) hl9 hq_41 (nI i) (qLow v 360) 170 0 ) (y_cwSW 5 (kw_3_83 hG) (kw_1_0 hG) (kw_3_81 hG) (kw_3_82 hG) yd_L_shadow ⟨Nat.le_of_ble_eq_true rfl, Nat.le_of_ble_eq_true rfl⟩) (q_preS hG h hAb) rfl rfl hl.1 rfl (lv_room (Nat.le_of_ble_eq_true rfl)) dL_areAlike_78 ⟨(by show cells + 4 + 4 + 0 + 4 + 0 + 4 ≤ 408; omega), (by show slots + 41 + 41 + 0 + 41 + 0 + 41 ≤ 4182; omega)⟩) (fun r_78 X_78 H locs hp_78 h => ?_)
            obtain ⟨e_78, hq_78⟩ := hp_78
            have h : yH D AZ sZ.heap [] (X_61 ++ X_78) _ _ := (q_swap h).pl rfl
            rw [e_78]
            refine lv_icmp_ne (tgt := 185) hx hb dL_areAlike_81 (by decide) (fun c_81 => ?_) (fun c_81 => ?_)
            · exact absurd rfl c_81
            · skip
              refine lv_aload_n hx hb dL_areAlike_84 rfl (lv_at hl 0 rfl) ?_
              refine lv_iload hx hb dL_areAlike_85 (lv_at hl 4 rfl) ?_
              refine lv_bipush (v := 10) hx hb dL_areAlike_87 (by decide) ?_
              refine lv_iload_n hx hb dL_areAlike_89 rfl (lv_at hl 2 rfl) ?_
              refine lv_iconst (v := 5) hx hb dL_areAlike_90 (by decide) ?_
              refine y_calli (X' := fun _ : Unit => []) (wc := []) (wr := []) h hA [] [] [] rfl rfl (by decide) (by decide) (by decide) (fun _ => rfl) (va_runS (own := RL) (As := [.int v, .int 5]) (rest := [.int 10, .int (nI i), .ref yo]) ⟨hx, hb, hml, hown, y_nil⟩ (m_L_low l D ty base _ v 5   (by decide)) (y_cwS 2 (kw_1_220 hG) (kw_1_0 hG) (kw_1_218 hG) (kw_1_219 hG) yd_L_low ⟨Nat.le_of_ble_eq_true rfl, Nat.le_of_ble_eq_true rfl⟩) (y_preS hG h hAb [] rfl (by decide)) rfl rfl hl.1 rfl (lv_room (Nat.le_of_ble_eq_true rfl)) dL_areAlike_91 ⟨(by show cells + 4 + 4 + 0 + 4 + 0 + 4 + 0 ≤ 408; omega), (by show slots + 41 + 41 + 0 + 41 + 0 + 41 + 0 ≤ 4182; omega)⟩) (fun r_91 _ H locs hp_91 h => ?_)
              have hp_91 : r_91 = qLow v 5 := hp_91
              have h : yH D AZ sZ.heap [] (X_61 ++ X_78) _ _ := h
              rw [hp_91]
              have h : yH D AZ sZ.heap X_61 X_78 _ _ := h.pl rfl
              refine q_calli h hA (vx_runSW (own := RL) (As := [.ref yo, .int (nI i), .int 10, .int (qLow v 5)]) (rest := []) ⟨hx, hb, hml, hown, y_nil⟩ (q_line (l := l) (D := D) (ty := ty) (base := _) (sz := _) hl9 hq_61 (nI i) 10 (qLow v 5) ) (y_cwSW 4 (kw_3_126 hG) (kw_1_0 hG) (kw_3_124 hG) (kw_3_125 hG) yd_L_line ⟨Nat.le_of_ble_eq_true rfl, Nat.le_of_ble_eq_true rfl⟩) (q_preS hG h hAb) rfl rfl hl.1 rfl (lv_room (Nat.le_of_ble_eq_true rfl)) dL_areAlike_94 ⟨(by show cells + 4 + 4 + 0 + 4 + 0 + 4 + 0 + 4 ≤ 408; omega), (by show slots + 41 + 41 + 0 + 41 + 0 + 41 + 0 + 41 ≤ 4182; omega)⟩) (fun r_94 X_94 H locs hp_94 h => ?_)
              obtain ⟨e_94, hq_94⟩ := hp_94
              have h : yH D AZ sZ.heap [] (X_94 ++ X_78) _ _ := h.pl rfl
              rw [e_94]
              refine lv_aload_n hx hb dL_areAlike_97 rfl (lv_at hl 1 rfl) ?_
              refine lv_iload hx hb dL_areAlike_98 (lv_at hl 4 rfl) ?_
              refine lv_bipush (v := 10) hx hb dL_areAlike_100 (by decide) ?_
              refine lv_iload_n hx hb dL_areAlike_102 rfl (lv_at hl 2 rfl) ?_
              refine lv_iconst (v := 5) hx hb dL_areAlike_103 (by decide) ?_
              refine y_calli (X' := fun _ : Unit => []) (wc := []) (wr := []) h hA [] [] [] rfl rfl (by decide) (by decide) (by decide) (fun _ => rfl) (va_runS (own := RL) (As := [.int v, .int 5]) (rest := [.int 10, .int (nI i), .ref yp, .int (aLine σ (nI i) 10 (qLow v 5))]) ⟨hx, hb, hml, hown, y_nil⟩ (m_L_low l D ty base _ v 5   (by decide)) (y_cwS 2 (kw_1_220 hG) (kw_1_0 hG) (kw_1_218 hG) (kw_1_219 hG) yd_L_low ⟨Nat.le_of_ble_eq_true rfl, Nat.le_of_ble_eq_true rfl⟩) (y_preS hG h hAb [] rfl (by decide)) rfl rfl hl.1 rfl (lv_room (Nat.le_of_ble_eq_true rfl)) dL_areAlike_104 ⟨(by show cells + 4 + 4 + 0 + 4 + 0 + 4 + 0 + 4 + 0 ≤ 408; omega), (by show slots + 41 + 41 + 0 + 41 + 0 + 41 + 0 + 41 + 0 ≤ 4182; omega)⟩) (fun r_104 _ H locs hp_104 h => ?_)
              have hp_104 : r_104 = qLow v 5 := hp_104
              have h : yH D AZ sZ.heap [] (X_94 ++ X_78) _ _ := h
              rw [hp_104]
              have h : yH D AZ sZ.heap X_78 X_94 _ _ := q_swap (h.pl (X' := X_94) (pl' := X_78) rfl)
              refine q_calli h hA (vx_runSW (own := RL) (As := [.ref yp, .int (nI i), .int 10, .int (qLow v 5)]) (rest := [.int (aLine σ (nI i) 10 (qLow v 5))]) ⟨hx, hb, hml, hown, y_nil⟩ (q_line (l := l) (D := D) (ty := ty) (base := _) (sz := _) hl9 hq_78 (nI i) 10 (qLow v 5) ) (y_cwSW 4 (kw_3_126 hG) (kw_1_0 hG) (kw_3_124 hG) (kw_3_125 hG) yd_L_line ⟨Nat.le_of_ble_eq_true rfl, Nat.le_of_ble_eq_true rfl⟩) (q_preS hG h hAb) rfl rfl hl.1 rfl (lv_room (Nat.le_of_ble_eq_true rfl)) dL_areAlike_107 ⟨(by show cells + 4 + 4 + 0 + 4 + 0 + 4 + 0 + 4 + 0 + 4 ≤ 408; omega), (by show slots + 41 + 41 + 0 + 41 + 0 + 41 + 0 + 41 + 0 + 41 ≤ 4182; omega)⟩) (fun r_107 X_107 H locs hp_107 h => ?_)
              obtain ⟨e_107, hq_107⟩ := hp_107
              have h : yH D AZ sZ.heap [] (X_94 ++ X_107) _ _ := (q_swap h).pl rfl
              rw [e_107]
              refine lv_icmp_ne (tgt := 185) hx hb dL_areAlike_110 (by decide) (fun c_110 => ?_) (fun c_110 => ?_)
              · exact absurd rfl c_110
              · skip
                refine lv_aload_n hx hb dL_areAlike_113 rfl (lv_at hl 0 rfl) ?_
                refine lv_iload hx hb dL_areAlike_114 (lv_at hl 4 rfl) ?_
                refine lv_iload_n hx hb dL_areAlike_116 rfl (lv_at hl 2 rfl) ?_
                refine lv_sipush (v := 360) hx hb dL_areAlike_117 (by decide) ?_
                refine y_calli (X' := fun _ : Unit => []) (wc := []) (wr := []) h hA [] [] [] rfl rfl (by decide) (by decide) (by decide) (fun _ => rfl) (va_runS (own := RL) (As := [.int v, .int 360]) (rest := [.int (nI i), .ref yo]) ⟨hx, hb, hml, hown, y_nil⟩ (m_L_low l D ty base _ v 360   (by decide)) (y_cwS 2 (kw_1_220 hG) (kw_1_0 hG) (kw_1_218 hG) (kw_1_219 hG) yd_L_low ⟨Nat.le_of_ble_eq_true rfl, Nat.le_of_ble_eq_true rfl⟩) (y_preS hG h hAb [] rfl (by decide)) rfl rfl hl.1 rfl (lv_room (Nat.le_of_ble_eq_true rfl)) dL_areAlike_120 ⟨(by show cells + 4 + 4 + 0 + 4 + 0 + 4 + 0 + 4 + 0 + 4 + 0 ≤ 408; omega), (by show slots + 41 + 41 + 0 + 41 + 0 + 41 + 0 + 41 + 0 + 41 + 0 ≤ 4182; omega)⟩) (fun r_120 _ H locs hp_120 h => ?_)
                have hp_120 : r_120 = qLow v 360 := hp_120
                have h : yH D AZ sZ.heap [] (X_94 ++ X_107) _ _ := h
                rw [hp_120]
                refine lv_sipush (v := 180) hx hb dL_areAlike_123 (by decide) ?_
                refine lv_iconst (v := 3) hx hb dL_areAlike_126 (by decide) ?_
                have h : yH D AZ sZ.heap X_94 X_107 _ _ := h.pl rfl
                refine q_calli h hA (vx_runSW (own := RL) (As := [.ref yo, .int (nI i), .int (qLow v 360), .int 180, .int 3]) (rest := []) ⟨hx, hb, hml, hown, y_nil⟩ (q_hour (l := l) (D := D) (ty := ty) (base := _) (sz := _) hl9 hq_94 (nI i) (qLow v 360) 180 3 ) (y_cwSW 5 (kw_3_37 hG) (kw_1_0 hG) (kw_3_35 hG) (kw_3_36 hG) yd_L_hour ⟨Nat.le_of_ble_eq_true rfl, Nat.le_of_ble_eq_true rfl⟩) (q_preS hG h hAb) rfl rfl hl.1 rfl (lv_room (Nat.le_of_ble_eq_true rfl)) dL_areAlike_127 ⟨(by show cells + 4 + 4 + 0 + 4 + 0 + 4 + 0 + 4 + 0 + 4 + 0 + 4 ≤ 408; omega), (by show slots + 41 + 41 + 0 + 41 + 0 + 41 + 0 + 41 + 0 + 41 + 0 + 41 ≤ 4182; omega)⟩) (fun r_127 X_127 H locs hp_127 h => ?_)
                obtain ⟨e_127, hq_127⟩ := hp_127
                have h : yH D AZ sZ.heap [] (X_127 ++ X_107) _ _ := h.pl rfl
                rw [e_127]
                refine lv_aload_n hx hb dL_areAlike_130 rfl (lv_at hl 1 rfl) ?_
                refine lv_iload hx hb dL_areAlike_131 (lv_at hl 4 rfl) ?_
                refine lv_iload_n hx hb dL_areAlike_133 rfl (lv_at hl 2 rfl) ?_
                refine lv_sipush (v := 360) hx hb dL_areAlike_134 (by decide) ?_
                refine y_calli (X' := fun _ : Unit => []) (wc := []) (wr := []) h hA [] [] [] rfl rfl (by decide) (by decide) (by decide) (fun _ => rfl) (va_runS (own := RL) (As := [.int v, .int 360]) (rest := [.int (nI i), .ref yp, .int (aHour σ (nI i) (qLow v 360) 180 3)]) ⟨hx, hb, hml, hown, y_nil⟩ (m_L_low l D ty base _ v 360   (by decide)) (y_cwS 2 (kw_1_220 hG) (kw_1_0 hG) (kw_1_218 hG) (kw_1_219 hG) yd_L_low ⟨Nat.le_of_ble_eq_true rfl, Nat.le_of_ble_eq_true rfl⟩) (y_preS hG h hAb [] rfl (by decide)) rfl rfl hl.1 rfl (lv_room (Nat.le_of_ble_eq_true rfl)) dL_areAlike_137 ⟨(by show cells + 4 + 4 + 0 + 4 + 0 + 4 + 0 + 4 + 0 + 4 + 0 + 4 + 0 ≤ 408; omega), (by show slots + 41 + 41 + 0 + 41 + 0 + 41 + 0 + 41 + 0 + 41 + 0 + 41 + 0 ≤ 4182; omega)⟩) (fun r_137 _ H locs hp_137 h => ?_)
                have hp_137 : r_137 = qLow v 360 := hp_137
                have h : yH D AZ sZ.heap [] (X_127 ++ X_107) _ _ := h
                rw [hp_137]
                refine lv_sipush (v := 180) hx hb dL_areAlike_140 (by decide) ?_
                refine lv_iconst (v := 3) hx hb dL_areAlike_143 (by decide) ?_
                have h : yH D AZ sZ.heap X_107 X_127 _ _ := q_swap (h.pl (X' := X_127) (pl' := X_107) rfl)
                refine q_calli h hA (vx_runSW (own := RL) (As := [.ref yp, .int (nI i), .int (qLow v 360), .int 180, .int 3]) (rest := [.int (aHour σ (nI i) (qLow v 360) 180 3)]) ⟨hx, hb, hml, hown, y_nil⟩ (q_hour (l := l) (D := D) (ty := ty) (base := _) (sz := _) hl9 hq_107 (nI i) (qLow v 360) 180 3 ) (y_cwSW 5 (kw_3_37 hG) (kw_1_0 hG) (kw_3_35 hG) (kw_3_36 hG) yd_L_hour ⟨Nat.le_of_ble_eq_true rfl, Nat.le_of_ble_eq_true rfl⟩) (q_preS hG h hAb) rfl rfl hl.1 rfl (lv_room (Nat.le_of_ble_eq_true rfl)) dL_areAlike_144 ⟨(by show cells + 4 + 4 + 0 + 4 + 0 + 4 + 0 + 4 + 0 + 4 + 0 + 4 + 0 + 4 ≤ 408; omega), (by show slots + 41 + 41 + 0 + 41 + 0 + 41 + 0 + 41 + 0 + 41 + 0 + 41 + 0 + 41 ≤ 4182; omega)⟩) (fun r_144 X_144 H locs hp_144 h => ?_)
                obtain ⟨e_144, hq_144⟩ := hp_144
                have h : yH D AZ sZ.heap [] (X_127 ++ X_144) _ _ := (q_swap h).pl rfl
                rw [e_144]
                refine lv_icmp_ne (tgt := 185) hx hb dL_areAlike_147 (by decide) (fun c_147 => ?_) (fun c_147 => ?_)
                · exact absurd rfl c_147
                · skip
                  refine lv_aload_n hx hb dL_areAlike_150 rfl (lv_at hl 0 rfl) ?_
                  refine lv_iload hx hb dL_areAlike_151 (lv_at hl 4 rfl) ?_
                  refine lv_iload_n hx hb dL_areAlike_153 rfl (lv_at hl 2 rfl) ?_
                  refine lv_sipush (v := 360) hx hb dL_areAlike_154 (by decide) ?_
                  refine y_calli (X' := fun _ : Unit => []) (wc := []) (wr := []) h hA [] [] [] rfl rfl (by decide) (by decide) (by decide) (fun _ => rfl) (va_runS (own := RL) (As := [.int v, .int 360]) (rest := [.int (nI i), .ref yo]) ⟨hx, hb, hml, hown, y_nil⟩ (m_L_low l D ty base _ v 360   (by decide)) (y_cwS 2 (kw_1_220 hG) (kw_1_0 hG) (kw_1_218 hG) (kw_1_219 hG) yd_L_low ⟨Nat.le_of_ble_eq_true rfl, Nat.le_of_ble_eq_true rfl⟩) (y_preS hG h hAb [] rfl (by decide)) rfl rfl hl.1 rfl (lv_room (Nat.le_of_ble_eq_true rfl)) dL_areAlike_157 ⟨(by show cells + 4 + 4 + 0 + 4 + 0 + 4 + 0 + 4 + 0 + 4 + 0 + 4 + 0 + 4 + 0 ≤ 408; omega), (by show slots + 41 + 41 + 0 + 41 + 0 + 41 + 0 + 41 + 0 + 41 + 0 + 41 + 0 + 41 + 0 ≤ 4182; omega)⟩) (fun r_157 _ H locs hp_157 h => ?_)
                  have hp_157 : r_157 = qLow v 360 := hp_157
                  have h : yH D AZ sZ.heap [] (X_127 ++ X_144) _ _ := h
                  rw [hp_157]
                  refine lv_iconst (v := 0) hx hb dL_areAlike_160 (by decide) ?_
                  have h : yH D AZ sZ.heap X_127 X_144 _ _ := h.pl rfl
                  refine q_calli h hA (vx_runSW (own := RL) (As := [.ref yo, .int (nI i), .int (qLow v 360), .int 0]) (rest := []) ⟨hx, hb, hml, hown, y_nil⟩ (q_light (l := l) (D := D) (ty := ty) (base := _) (sz := _) hl9 hq_127 (nI i) (qLow v 360) 0 ) (y_cwSW 4 (kw_2_239 hG) (kw_1_0 hG) (kw_2_237 hG) (kw_2_238 hG) yd_L_light ⟨Nat.le_of_ble_eq_true rfl, Nat.le_of_ble_eq_true rfl⟩) (q_preS hG h hAb) rfl rfl hl.1 rfl (lv_room (Nat.le_of_ble_eq_true rfl)) dL_areAlike_161 ⟨(by show cells + 4 + 4 + 0 + 4 + 0 + 4 + 0 + 4 + 0 + 4 + 0 + 4 + 0 + 4 + 0 + 4 ≤ 408; omega), (by show slots + 41 + 41 + 0 + 41 + 0 + 41 + 0 + 41 + 0 + 41 + 0 + 41 + 0 + 41 + 0 + 41 ≤ 4182; omega)⟩) (fun r_161 X_161 H locs hp_161 h => ?_)
                  obtain ⟨e_161, hq_161⟩ := hp_161
                  have h : yH D AZ sZ.heap [] (X_161 ++ X_144) _ _ := h.pl rfl
                  rw [e_161]
                  refine lv_aload_n hx hb dL_areAlike_164 rfl (lv_at hl 1 rfl) ?_
                  refine lv_iload hx hb dL_areAlike_165 (lv_at hl 4 rfl) ?_
                  refine lv_iload_n hx hb dL_areAlike_167 rfl (lv_at hl 2 rfl) ?_
                  refine lv_sipush (v := 360) hx hb dL_areAlike_168 (by decide) ?_
                  refine y_calli (X' := fun _ : Unit => []) (wc := []) (wr := []) h hA [] [] [] rfl rfl (by decide) (by decide) (by decide) (fun _ => rfl) (va_runS (own := RL) (As := [.int v, .int 360]) (rest := [.int (nI i), .ref yp, .int (aLight σ (nI i) (qLow v 360) 0)]) ⟨hx, hb, hml, hown, y_nil⟩ (m_L_low l D ty base _ v 360   (by decide)) (y_cwS 2 (kw_1_220 hG) (kw_1_0 hG) (kw_1_218 hG) (kw_1_219 hG) yd_L_low ⟨Nat.le_of_ble_eq_true rfl, Nat.le_of_ble_eq_true rfl⟩) (y_preS hG h hAb [] rfl (by decide)) rfl rfl hl.1 rfl (lv_room (Nat.le_of_ble_eq_true rfl)) dL_areAlike_171 ⟨(by show cells + 4 + 4 + 0 + 4 + 0 + 4 + 0 + 4 + 0 + 4 + 0 + 4 + 0 + 4 + 0 + 4 + 0 ≤ 408; omega), (by show slots + 41 + 41 + 0 + 41 + 0 + 41 + 0 + 41 + 0 + 41 + 0 + 41 + 0 + 41 + 0 + 41 + 0 ≤ 4182; omega)⟩) (fun r_171 _ H locs hp_171 h => ?_)
                  have hp_171 : r_171 = qLow v 360 := hp_171
                  have h : yH D AZ sZ.heap [] (X_161 ++ X_144) _ _ := h
                  rw [hp_171]
                  refine lv_iconst (v := 0) hx hb dL_areAlike_174 (by decide) ?_
                  have h : yH D AZ sZ.heap X_144 X_161 _ _ := q_swap (h.pl (X' := X_161) (pl' := X_144) rfl)
                  refine q_calli h hA (vx_runSW (own := RL) (As := [.ref yp, .int (nI i), .int (qLow v 360), .int 0]) (rest := [.int (aLight σ (nI i) (qLow v 360) 0)]) ⟨hx, hb, hml, hown, y_nil⟩ (q_light (l := l) (D := D) (ty := ty) (base := _) (sz := _) hl9 hq_144 (nI i) (qLow v 360) 0 ) (y_cwSW 4 (kw_2_239 hG) (kw_1_0 hG) (kw_2_237 hG) (kw_2_238 hG) yd_L_light ⟨Nat.le_of_ble_eq_true rfl, Nat.le_of_ble_eq_true rfl⟩) (q_preS hG h hAb) rfl rfl hl.1 rfl (lv_room (Nat.le_of_ble_eq_true rfl)) dL_areAlike_175 ⟨(by show cells + 4 + 4 + 0 + 4 + 0 + 4 + 0 + 4 + 0 + 4 + 0 + 4 + 0 + 4 + 0 + 4 + 0 + 4 ≤ 408; omega), (by show slots + 41 + 41 + 0 + 41 + 0 + 41 + 0 + 41 + 0 + 41 + 0 + 41 + 0 + 41 + 0 + 41 + 0 + 41 ≤ 4182; omega)⟩) (fun r_175 X_175 H locs hp_175 h => ?_)
                  obtain ⟨e_175, hq_175⟩ := hp_175
                  have h : yH D AZ sZ.heap [] (X_161 ++ X_175) _ _ := (q_swap h).pl rfl
                  rw [e_175]
                  refine lv_icmp_ne (tgt := 185) hx hb dL_areAlike_178 (by decide) (fun c_178 => ?_) (fun c_178 => ?_)
                  · exact absurd rfl c_178
                  · skip
                    refine lv_iconst (v := 1) hx hb dL_areAlike_181 (by decide) ?_
                    refine lv_goto (tgt := 186) hx hb dL_areAlike_182 (by decide) ?_
                    refine lv_istore_n (lv' := [(3, .int 1), (0, .ref yo), (1, .ref yp), (2, .int v), (4, .int (nI i))]) hx hb dL_areAlike_186 rfl hl (by decide) rfl (fun ls hl => ?_)
                    refine lv_iinc (v := nI (i + 1)) (lv' := [(4, .int (nI (i + 1))), (3, .int 1), (0, .ref yo), (1, .ref yp), (2, .int v)]) hx hb dL_areAlike_187 hl (k := 4) rfl (y_inc i) (by decide) rfl (fun ls hl => ?_)
                    refine lv_goto (tgt := 21) hx hb dL_areAlike_190 (by decide) ?_
                    exact ih (i + 1) (by omega) (by omega) _ _ hq_161 hq_175 _ _ _ _ _ (by show cells + 4 + 4 + 0 + 4 + 0 + 4 + 0 + 4 + 0 + 4 + 0 + 4 + 0 + 4 + 0 + 4 + 0 + 4 ≤ 8 + 40 * (i + 1); omega) (by show slots + 41 + 41 + 0 + 41 + 0 + 41 + 0 + 41 + 0 + 41 + 0 + 41 + 0 + 41 + 0 + 41 + 0 + 41 ≤ 82 + 410 * (i + 1); omega) h (lv_sub hl [2, 3, 4, 1, 0] rfl)
  refine lv_aload_n hx hb dL_areAlike_0 rfl (lv_at hl 0 rfl) ?_
  have h : yH D AZ sZ.heap Xo Xp _ _ := h.pl rfl
  obtain ⟨fs_1, he_1⟩ := qY_rc hqo
  refine q_calll h hA (va_runV (own := RL) (As := []) (rest := []) ⟨hx, hb, hml, hown, y_nil⟩ (q_cost (l := l) (D := D) (ty := ty) (base := _) (sz := _) hl9 hqo  ) (y_cwV (C := RX7) 0 (kw_3_231 hG) (kw_1_1 hG) (kw_3_228 hG) (kw_3_229 hG) (kw_3_230 hG) yd_X7_cost ⟨Nat.le_of_ble_eq_true rfl, Nat.le_of_ble_eq_true rfl⟩) (q_preV (ci := 7) hG h hAb he_1 rfl) rfl rfl hl.1 rfl (lv_room (Nat.le_of_ble_eq_true rfl)) dL_areAlike_1 ⟨Nat.le_of_ble_eq_true rfl, Nat.le_of_ble_eq_true rfl⟩) (fun r_1 X_1 H locs hp_1 h => ?_)
  obtain ⟨e_1, hq_1⟩ := hp_1
  have h : yH D AZ sZ.heap [] (X_1 ++ Xp) _ _ := h.pl rfl
  rw [e_1]
  refine lv_aload_n hx hb dL_areAlike_4 rfl (lv_at hl 1 rfl) ?_
  have h : yH D AZ sZ.heap Xp X_1 _ _ := q_swap (h.pl (X' := X_1) (pl' := Xp) rfl)
  obtain ⟨fs_2, he_2⟩ := qY_rc hqp
  refine q_calll h hA (va_runV (own := RL) (As := []) (rest := [.long σ.2.2.2.2.2.1]) ⟨hx, hb, hml, hown, y_nil⟩ (q_cost (l := l) (D := D) (ty := ty) (base := _) (sz := _) hl9 hqp  ) (y_cwV (C := RX7) 0 (kw_3_231 hG) (kw_1_1 hG) (kw_3_228 hG) (kw_3_229 hG) (kw_3_230 hG) yd_X7_cost ⟨Nat.le_of_ble_eq_true rfl, Nat.le_of_ble_eq_true rfl⟩) (q_preV (ci := 7) hG h hAb he_2 rfl) rfl rfl hl.1 rfl (lv_room (Nat.le_of_ble_eq_true rfl)) dL_areAlike_5 ⟨Nat.le_of_ble_eq_true rfl, Nat.le_of_ble_eq_true rfl⟩) (fun r_5 X_5 H locs hp_5 h => ?_)
  obtain ⟨e_5, hq_5⟩ := hp_5
  have h : yH D AZ sZ.heap [] (X_1 ++ X_5) _ _ := (q_swap h).pl rfl
  rw [e_5]
  refine W.lcmp hx hb dL_areAlike_8 ?_
  refine lv_if_ne (tgt := 16) hx hb dL_areAlike_9 (by decide) (fun c_9 => ?_) (fun c_9 => ?_)
  · have c_9 := fun q => c_9 ((lg_cmp_eq σ.2.2.2.2.2.1 σ.2.2.2.2.2.1).mpr q); exact absurd rfl c_9
  · skip
    have c_9 := (lg_cmp_eq σ.2.2.2.2.2.1 σ.2.2.2.2.2.1).mp c_9
    refine lv_iconst (v := 1) hx hb dL_areAlike_12 (by decide) ?_
    refine lv_goto (tgt := 17) hx hb dL_areAlike_13 (by decide) ?_
    refine lv_istore_n (lv' := [(3, .int 1), (0, .ref yo), (1, .ref yp), (2, .int v)]) hx hb dL_areAlike_17 rfl hl (by decide) rfl (fun ls hl => ?_)
    refine lv_iconst (v := 0) hx hb dL_areAlike_18 (by decide) ?_
    refine lv_istore (lv' := [(4, .int 0), (3, .int 1), (0, .ref yo), (1, .ref yp), (2, .int v)]) hx hb dL_areAlike_19 hl (by decide) rfl (fun ls hl => ?_)
    exact loop 11 0 (by omega) (by omega) _ _ hq_1 hq_5 _ _ _ _ _ (Nat.le_of_ble_eq_true rfl) (Nat.le_of_ble_eq_true rfl) h (lv_sub hl [2, 3, 4, 1, 0] rfl)
