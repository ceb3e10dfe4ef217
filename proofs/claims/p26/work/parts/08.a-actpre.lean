abbrev rm_L_low : Room := { frames := 0, cells := 0, slots := 0, locals := 0 }
theorem yd_L_low : yL_low.cls ≠ "java/lang/invoke/MethodHandle" ∧ yL_low.cls ≠ "java/lang/invoke/VarHandle" ∧ (parseMethodDescriptor yL_low.desc).map (fun d => d.parameters.length) = some 2 := by decide +kernel
set_option maxHeartbeats 4000000 in
set_option maxRecDepth 100000 in
theorem m_L_low (l : Launch) (D : va_G) (ty : Nat → ClassId) (base sz : Nat) (v : Int32) (n : Int32)   (hn0 : ¬ n = 0) : Met l yL_low [.code yL_low cL_low 2 (some (.int))] rm_L_low (yPc D ty base sz ([]) [.int v, .int n]) (va_Qi (fun (r : Int32) (_ : Unit) => r = qLow v n) (yB D (va_A ([]) sz) (fun _ : Unit => [])) (va_A ([]) sz)) rm_L_low.cells rm_L_low.slots (va_A ([]) sz) := by
  refine y_start_i (cc := cL_low) (maxL := 2) (own := RL) (by decide +kernel) rfl (Nat.le_of_ble_eq_true rfl) (fun pZ eZ sZ mZ aZ bZ tZ cZ AZ ls QZ hx hb hml hown hnm hG hA hAb hsz h hl hret => ?_)
  have h : yH D AZ sZ.heap [] [] sZ.heap [] := h
  have hl : lv_has ls 2 [(0, .int v), (1, .int n)] := hl
  refine lv_iload_n hx hb dL_low_0 rfl (lv_at hl 0 rfl) ?_
  refine lv_ldc (own := RL) (v := 2147483647) hx hb hown (kw_1_221 hG).b dL_low_1 ?_
  refine lv_iand hx hb dL_low_3 ?_
  refine lv_iload_n hx hb dL_low_4 rfl (lv_at hl 1 rfl) ?_
  refine lv_irem hx hb dL_low_5 hn0 ?_
  exact hret ((v &&& 2147483647) - (v &&& 2147483647) / n * n) () _ _ _ _ _ _ _ _ rfl h rfl (Nat.le_of_ble_eq_true rfl) (Nat.le_of_ble_eq_true rfl) dL_low_6
abbrev rmA : Room := { frames := 10, cells := 4, slots := 41, locals := 206 }
theorem yd_L_act : yL_act.cls ≠ "java/lang/invoke/MethodHandle" ∧ yL_act.cls ≠ "java/lang/invoke/VarHandle" ∧ (parseMethodDescriptor yL_act.desc).map (fun d => d.parameters.length) = some 2 := by decide +kernel
def acE (p : Program) (s : State) (m : MethodId) (c : Code) (D : va_G) (ty : Nat → ClassId) (base : Nat) (A : Nat → Prop) : Prop := p.tables.exec = Jvm.exec ∧ c.code = cL_act ∧ c.maxLocals = 10 ∧ s.vm.findClass RL = some m.cls ∧ yGX D ty base s ∧ (∀ q : Nat, s.heap.size ≤ q → A q) ∧ (∀ q : Nat, A q → base ≤ q)
set_option maxHeartbeats 4000000 in
set_option maxRecDepth 100000 in
theorem act_pre1 {l : Launch} {D : va_G} {ty : Nat → ClassId} {base sz yd : Nat} {X : va_W} {v : Int32} (ho : qLow (v >>> (26 &&& 31)) 14 = 0) {post : Int64 → va_W → Prop} (K : ∀ (pZ : Program) (eZ : Env) (sZ : State) (mZ : MethodId) (aZ : Array Value) (bZ : List Frame) (tZ : Method) (cZ : Code) (AZ : Nat → Prop) (ls : Array Slot) (QZ : State → Prop) (H : Heap) (locs : List Loc), acE pZ sZ mZ cZ D ty base AZ → yH D AZ sZ.heap [] (X ++ []) H locs → lv_has ls 10 [(9, .int ((qLow (v >>> ((11 : Int32) &&& 31)) 8) - (1 : Int32))), (8, .int (v >>> ((9 : Int32) &&& 31))), (7, .int ((qLow (v >>> ((12 : Int32) &&& 31)) 100) - (4 : Int32))), (6, .int (v >>> ((8 : Int32) &&& 31))), (5, .int (v >>> ((5 : Int32) &&& 31))), (4, .int ((qLow (v >>> ((7 : Int32) &&& 31)) 13) - (2 : Int32))), (3, .int ((qLow (v >>> ((4 : Int32) &&& 31)) 11) - (2 : Int32))), (2, .int 1), (0, .ref yd), (1, .int v)] → (∀ (r : Int64) (X1 : va_W) (H : Heap) (locs : List Loc) (cells slots pc : Nat) (ls : Array Slot), post r X1 → yH D AZ sZ.heap [] (X1 ++ []) H locs → cells ≤ rmA.cells → slots ≤ rmA.slots → decode cL_act pc = .ok (.lreturn, 1) → W pZ l eZ rmA sZ mZ aZ bZ tZ cZ H locs cells slots QZ (F0 mZ pc ls [.long r])) → W pZ l eZ rmA sZ mZ aZ bZ tZ cZ H locs 0 0 QZ (F0 mZ 206 ls [.int (qLow v 46)])) : Met l yL_act [.code yL_act cL_act 10 (some (.long))] rmA (yPc D ty base sz X [.ref yd, .int v]) (va_Ql post (yB D (va_A X sz) (fun X' : va_W => X')) (va_A X sz)) rmA.cells rmA.slots (va_A X sz) := by
  refine y_start_l (cc := cL_act) (maxL := 10) (own := RL) (by decide +kernel) rfl (Nat.le_of_ble_eq_true rfl) (fun pZ eZ sZ mZ aZ bZ tZ cZ AZ ls QZ hx hb hml hown hnm hG hA hAb hsz h hl hret => ?_)
  have h : yH D AZ sZ.heap [] (X ++ []) sZ.heap [] := h.pl rfl
  have hl : lv_has ls 10 [(0, .ref yd), (1, .int v)] := hl
  refine lv_iload_n hx hb dL_act_0 rfl (lv_at hl 1 rfl) ?_
  refine lv_bipush (v := 26) hx hb dL_act_1 (by decide) ?_
  refine lv_ishr hx hb dL_act_3 ?_
  refine lv_bipush (v := 14) hx hb dL_act_4 (by decide) ?_
  refine y_calli (X' := fun _ : Unit => []) (wc := []) (wr := []) h hA [] [] [] rfl rfl (by decide) (by decide) (by decide) (fun _ => rfl) (va_runS (own := RL) (As := [.int (v >>> ((26 : Int32) &&& 31)), .int 14]) (rest := []) ⟨hx, hb, hml, hown, y_nil⟩ (m_L_low l D ty base _ (v >>> ((26 : Int32) &&& 31)) 14   (by decide)) (y_cwS 2 (kw_1_220 hG) (kw_1_0 hG) (kw_1_218 hG) (kw_1_219 hG) yd_L_low ⟨Nat.le_of_ble_eq_true rfl, Nat.le_of_ble_eq_true rfl⟩) (y_preS hG h hAb [] rfl (by decide)) rfl rfl hl.1 rfl (lv_room (Nat.le_of_ble_eq_true rfl)) dL_act_6 ⟨Nat.le_of_ble_eq_true rfl, Nat.le_of_ble_eq_true rfl⟩) (fun r_6 _ H locs hp_6 h => ?_)
  have hp_6 : r_6 = qLow (v >>> ((26 : Int32) &&& 31)) 14 := hp_6
  have h : yH D AZ sZ.heap [] (X ++ []) _ _ := h
  rw [hp_6]
  refine lv_if_ne (tgt := 16) hx hb dL_act_9 (by decide) (fun c_9 => ?_) (fun c_9 => ?_)
  · exact absurd ho c_9
  · skip
    refine lv_iconst (v := 1) hx hb dL_act_12 (by decide) ?_
    refine lv_goto (tgt := 17) hx hb dL_act_13 (by decide) ?_
    refine lv_istore_n (lv' := [(2, .int 1), (0, .ref yd), (1, .int v)]) hx hb dL_act_17 rfl hl (by decide) rfl (fun ls hl => ?_)
    refine lv_iload_n hx hb dL_act_18 rfl (lv_at hl 0 rfl) ?_
    refine lv_if_eq (tgt := 35) hx hb dL_act_19 (by decide) (fun c_19 => ?_) (fun c_19 => ?_)
    · exact absurd c_19 (by decide)
    · skip
      refine lv_iload_n hx hb dL_act_22 rfl (lv_at hl 2 rfl) ?_
      refine lv_iconst (v := 4) hx hb dL_act_23 (by decide) ?_
      refine lv_ishr hx hb dL_act_24 ?_
      refine lv_bipush (v := 11) hx hb dL_act_25 (by decide) ?_
      refine y_calli (X' := fun _ : Unit => []) (wc := []) (wr := []) h hA [] [] [] rfl rfl (by decide) (by decide) (by decide) (fun _ => rfl) (va_runS (own := RL) (As := [.int (v >>> ((4 : Int32) &&& 31)), .int 11]) (rest := []) ⟨hx, hb, hml, hown, y_nil⟩ (m_L_low l D ty base _ (v >>> ((4 : Int32) &&& 31)) 11   (by decide)) (y_cwS 2 (kw_1_220 hG) (kw_1_0 hG) (kw_1_218 hG) (kw_1_219 hG) yd_L_low ⟨Nat.le_of_ble_eq_true rfl, Nat.le_of_ble_eq_true rfl⟩) (y_preS hG h hAb [] rfl (by decide)) rfl rfl hl.1 rfl (lv_room (Nat.le_of_ble_eq_true rfl)) dL_act_27 ⟨Nat.le_of_ble_eq_true rfl, Nat.le_of_ble_eq_true rfl⟩) (fun r_27 _ H locs hp_27 h => ?_)
      have hp_27 : r_27 = qLow (v >>> ((4 : Int32) &&& 31)) 11 := hp_27
      have h : yH D AZ sZ.heap [] (X ++ []) _ _ := h
      rw [hp_27]
      refine lv_iconst (v := 2) hx hb dL_act_30 (by decide) ?_
      refine lv_isub hx hb dL_act_31 ?_
      refine lv_goto (tgt := 42) hx hb dL_act_32 (by decide) ?_
      refine lv_istore_n (lv' := [(3, .int ((qLow (v >>> ((4 : Int32) &&& 31)) 11) - (2 : Int32))), (2, .int 1), (0, .ref yd), (1, .int v)]) hx hb dL_act_42 rfl hl (by decide) rfl (fun ls hl => ?_)
      refine lv_iload_n hx hb dL_act_43 rfl (lv_at hl 1 rfl) ?_
      refine lv_if_eq (tgt := 61) hx hb dL_act_44 (by decide) (fun c_44 => ?_) (fun c_44 => ?_)
      · exact absurd c_44 (by decide)
      · skip
        refine lv_iload_n hx hb dL_act_47 rfl (lv_at hl 3 rfl) ?_
        refine lv_bipush (v := 7) hx hb dL_act_48 (by decide) ?_
        refine lv_ishr hx hb dL_act_50 ?_
        refine lv_bipush (v := 13) hx hb dL_act_51 (by decide) ?_
        refine y_calli (X' := fun _ : Unit => []) (wc := []) (wr := []) h hA [] [] [] rfl rfl (by decide) (by decide) (by decide) (fun _ => rfl) (va_runS (own := RL) (As := [.int (v >>> ((7 : Int32) &&& 31)), .int 13]) (rest := []) ⟨hx, hb, hml, hown, y_nil⟩ (m_L_low l D ty base _ (v >>> ((7 : Int32) &&& 31)) 13   (by decide)) (y_cwS 2 (kw_1_220 hG) (kw_1_0 hG) (kw_1_218 hG) (kw_1_219 hG) yd_L_low ⟨Nat.le_of_ble_eq_true rfl, Nat.le_of_ble_eq_true rfl⟩) (y_preS hG h hAb [] rfl (by decide)) rfl rfl hl.1 rfl (lv_room (Nat.le_of_ble_eq_true rfl)) dL_act_53 ⟨Nat.le_of_ble_eq_true rfl, Nat.le_of_ble_eq_true rfl⟩) (fun r_53 _ H locs hp_53 h => ?_)
        have hp_53 : r_53 = qLow (v >>> ((7 : Int32) &&& 31)) 13 := hp_53
        have h : yH D AZ sZ.heap [] (X ++ []) _ _ := h
        rw [hp_53]
        refine lv_iconst (v := 2) hx hb dL_act_56 (by decide) ?_
        refine lv_isub hx hb dL_act_57 ?_
        refine lv_goto (tgt := 69) hx hb dL_act_58 (by decide) ?_
        refine lv_istore (lv' := [(4, .int ((qLow (v >>> ((7 : Int32) &&& 31)) 13) - (2 : Int32))), (3, .int ((qLow (v >>> ((4 : Int32) &&& 31)) 11) - (2 : Int32))), (2, .int 1), (0, .ref yd), (1, .int v)]) hx hb dL_act_69 hl (by decide) rfl (fun ls hl => ?_)
        refine lv_iload_n hx hb dL_act_71 rfl (lv_at hl 2 rfl) ?_
        refine lv_if_eq (tgt := 81) hx hb dL_act_72 (by decide) (fun c_72 => ?_) (fun c_72 => ?_)
        · exact absurd c_72 (by decide)
        · skip
          refine lv_iload_n hx hb dL_act_75 rfl (lv_at hl 4 rfl) ?_
          refine lv_iconst (v := 5) hx hb dL_act_76 (by decide) ?_
          refine lv_ishr hx hb dL_act_77 ?_
          refine lv_goto (tgt := 90) hx hb dL_act_78 (by decide) ?_
          refine lv_istore (lv' := [(5, .int (v >>> ((5 : Int32) &&& 31))), (4, .int ((qLow (v >>> ((7 : Int32) &&& 31)) 13) - (2 : Int32))), (3, .int ((qLow (v >>> ((4 : Int32) &&& 31)) 11) - (2 : Int32))), (2, .int 1), (0, .ref yd), (1, .int v)]) hx hb dL_act_90 hl (by decide) rfl (fun ls hl => ?_)
          refine lv_iload_n hx hb dL_act_92 rfl (lv_at hl 3 rfl) ?_
          refine lv_if_eq (tgt := 103) hx hb dL_act_93 (by decide) (fun c_93 => ?_) (fun c_93 => ?_)
          · exact absurd c_93 (by decide)
          · skip
            refine lv_iload_n hx hb dL_act_96 rfl (lv_at hl 5 rfl) ?_
            refine lv_bipush (v := 8) hx hb dL_act_97 (by decide) ?_
            refine lv_ishr hx hb dL_act_99 ?_
            refine lv_goto (tgt := 116) hx hb dL_act_100 (by decide) ?_
            refine lv_istore (lv' := [(6, .int (v >>> ((8 : Int32) &&& 31))), (5, .int (v >>> ((5 : Int32) &&& 31))), (4, .int ((qLow (v >>> ((7 : Int32) &&& 31)) 13) - (2 : Int32))), (3, .int ((qLow (v >>> ((4 : Int32) &&& 31)) 11) - (2 : Int32))), (2, .int 1), (0, .ref yd), (1, .int v)]) hx hb dL_act_116 hl (by decide) rfl (fun ls hl => ?_)
            refine lv_iload_n hx hb dL_act_118 rfl (lv_at hl 4 rfl) ?_
            refine lv_if_eq (tgt := 136) hx hb dL_act_119 (by decide) (fun c_119 => ?_) (fun c_119 => ?_)
            · exact absurd c_119 (by decide)
            · skip
              refine lv_iload_n hx hb dL_act_122 rfl (lv_at hl 6 rfl) ?_
              refine lv_bipush (v := 12) hx hb dL_act_123 (by decide) ?_
              refine lv_ishr hx hb dL_act_125 ?_
              refine lv_bipush (v := 100) hx hb dL_act_126 (by decide) ?_
              refine y_calli (X' := fun _ : Unit => []) (wc := []) (wr := []) h hA [] [] [] rfl rfl (by decide) (by decide) (by decide) (fun _ => rfl) (va_runS (own := RL) (As := [.int (v >>> ((12 : Int32) &&& 31)), .int 100]) (rest := []) ⟨hx, hb, hml, hown, y_nil⟩ (m_L_low l D ty base _ (v >>> ((12 : Int32) &&& 31)) 100   (by decide)) (y_cwS 2 (kw_1_220 hG) (kw_1_0 hG) (kw_1_218 hG) (kw_1_219 hG) yd_L_low ⟨Nat.le_of_ble_eq_true rfl, Nat.le_of_ble_eq_true rfl⟩) (y_preS hG h hAb [] rfl (by decide)) rfl rfl hl.1 rfl (lv_room (Nat.le_of_ble_eq_true rfl)) dL_act_128 ⟨Nat.le_of_ble_eq_true rfl, Nat.le_of_ble_eq_true rfl⟩) (fun r_128 _ H locs hp_128 h => ?_)
              have hp_128 : r_128 = qLow (v >>> ((12 : Int32) &&& 31)) 100 := hp_128
              have h : yH D AZ sZ.heap [] (X ++ []) _ _ := h
              rw [hp_128]
              refine lv_iconst (v := 4) hx hb dL_act_131 (by decide) ?_
              refine lv_isub hx hb dL_act_132 ?_
              refine lv_goto (tgt := 145) hx hb dL_act_133 (by decide) ?_
              refine lv_istore (lv' := [(7, .int ((qLow (v >>> ((12 : Int32) &&& 31)) 100) - (4 : Int32))), (6, .int (v >>> ((8 : Int32) &&& 31))), (5, .int (v >>> ((5 : Int32) &&& 31))), (4, .int ((qLow (v >>> ((7 : Int32) &&& 31)) 13) - (2 : Int32))), (3, .int ((qLow (v >>> ((4 : Int32) &&& 31)) 11) - (2 : Int32))), (2, .int 1), (0, .ref yd), (1, .int v)]) hx hb dL_act_145 hl (by decide) rfl (fun ls hl => ?_)
              refine lv_iload_n hx hb dL_act_147 rfl (lv_at hl 5 rfl) ?_
              refine lv_if_eq (tgt := 158) hx hb dL_act_148 (by decide) (fun c_148 => ?_) (fun c_148 => ?_)
              · exact absurd c_148 (by decide)
              · skip
                refine lv_iload_n hx hb dL_act_151 rfl (lv_at hl 7 rfl) ?_
                refine lv_bipush (v := 9) hx hb dL_act_152 (by decide) ?_
                refine lv_ishr hx hb dL_act_154 ?_
                refine lv_goto (tgt := 170) hx hb dL_act_155 (by decide) ?_
                refine lv_istore (lv' := [(8, .int (v >>> ((9 : Int32) &&& 31))), (7, .int ((qLow (v >>> ((12 : Int32) &&& 31)) 100) - (4 : Int32))), (6, .int (v >>> ((8 : Int32) &&& 31))), (5, .int (v >>> ((5 : Int32) &&& 31))), (4, .int ((qLow (v >>> ((7 : Int32) &&& 31)) 13) - (2 : Int32))), (3, .int ((qLow (v >>> ((4 : Int32) &&& 31)) 11) - (2 : Int32))), (2, .int 1), (0, .ref yd), (1, .int v)]) hx hb dL_act_170 hl (by decide) rfl (fun ls hl => ?_)
                refine lv_iload_n hx hb dL_act_172 rfl (lv_at hl 6 rfl) ?_
                refine lv_if_eq (tgt := 190) hx hb dL_act_173 (by decide) (fun c_173 => ?_) (fun c_173 => ?_)
                · exact absurd c_173 (by decide)
                · skip
                  refine lv_iload_n hx hb dL_act_176 rfl (lv_at hl 8 rfl) ?_
                  refine lv_bipush (v := 11) hx hb dL_act_177 (by decide) ?_
                  refine lv_ishr hx hb dL_act_179 ?_
                  refine lv_bipush (v := 8) hx hb dL_act_180 (by decide) ?_
                  refine y_calli (X' := fun _ : Unit => []) (wc := []) (wr := []) h hA [] [] [] rfl rfl (by decide) (by decide) (by decide) (fun _ => rfl) (va_runS (own := RL) (As := [.int (v >>> ((11 : Int32) &&& 31)), .int 8]) (rest := []) ⟨hx, hb, hml, hown, y_nil⟩ (m_L_low l D ty base _ (v >>> ((11 : Int32) &&& 31)) 8   (by decide)) (y_cwS 2 (kw_1_220 hG) (kw_1_0 hG) (kw_1_218 hG) (kw_1_219 hG) yd_L_low ⟨Nat.le_of_ble_eq_true rfl, Nat.le_of_ble_eq_true rfl⟩) (y_preS hG h hAb [] rfl (by decide)) rfl rfl hl.1 rfl (lv_room (Nat.le_of_ble_eq_true rfl)) dL_act_182 ⟨Nat.le_of_ble_eq_true rfl, Nat.le_of_ble_eq_true rfl⟩) (fun r_182 _ H locs hp_182 h => ?_)
                  have hp_182 : r_182 = qLow (v >>> ((11 : Int32) &&& 31)) 8 := hp_182
                  have h : yH D AZ sZ.heap [] (X ++ []) _ _ := h
                  rw [hp_182]
                  refine lv_iconst (v := 1) hx hb dL_act_185 (by decide) ?_
                  refine lv_isub hx hb dL_act_186 ?_
                  refine lv_goto (tgt := 198) hx hb dL_act_187 (by decide) ?_
                  refine lv_istore (lv' := [(9, .int ((qLow (v >>> ((11 : Int32) &&& 31)) 8) - (1 : Int32))), (8, .int (v >>> ((9 : Int32) &&& 31))), (7, .int ((qLow (v >>> ((12 : Int32) &&& 31)) 100) - (4 : Int32))), (6, .int (v >>> ((8 : Int32) &&& 31))), (5, .int (v >>> ((5 : Int32) &&& 31))), (4, .int ((qLow (v >>> ((7 : Int32) &&& 31)) 13) - (2 : Int32))), (3, .int ((qLow (v >>> ((4 : Int32) &&& 31)) 11) - (2 : Int32))), (2, .int 1), (0, .ref yd), (1, .int v)]) hx hb dL_act_198 hl (by decide) rfl (fun ls hl => ?_)
                  refine lv_iload_n hx hb dL_act_200 rfl (lv_at hl 9 rfl) ?_
                  refine lv_bipush (v := 46) hx hb dL_act_201 (by decide) ?_
                  refine y_calli (X' := fun _ : Unit => []) (wc := []) (wr := []) h hA [] [] [] rfl rfl (by decide) (by decide) (by decide) (fun _ => rfl) (va_runS (own := RL) (As := [.int v, .int 46]) (rest := []) ⟨hx, hb, hml, hown, y_nil⟩ (m_L_low l D ty base _ v 46   (by decide)) (y_cwS 2 (kw_1_220 hG) (kw_1_0 hG) (kw_1_218 hG) (kw_1_219 hG) yd_L_low ⟨Nat.le_of_ble_eq_true rfl, Nat.le_of_ble_eq_true rfl⟩) (y_preS hG h hAb [] rfl (by decide)) rfl rfl hl.1 rfl (lv_room (Nat.le_of_ble_eq_true rfl)) dL_act_203 ⟨Nat.le_of_ble_eq_true rfl, Nat.le_of_ble_eq_true rfl⟩) (fun r_203 _ H locs hp_203 h => ?_)
                  have hp_203 : r_203 = qLow v 46 := hp_203
                  have h : yH D AZ sZ.heap [] (X ++ []) _ _ := h
                  rw [hp_203]
                  exact K pZ eZ sZ mZ aZ bZ tZ cZ AZ ls QZ _ _ ⟨hx, hb, hml, hown, hG, hA, hAb⟩ h hl (fun r X1 H locs cells slots pc ls hp h hc hs hd => hret r X1 _ _ _ _ _ _ _ _ hp h (List.append_nil _) hc hs hd)
set_option maxHeartbeats 4000000 in
set_option maxRecDepth 100000 in
theorem act_pre0 {l : Launch} {D : va_G} {ty : Nat → ClassId} {base sz yd : Nat} {X : va_W} {v : Int32} (ho : ¬ qLow (v >>> (26 &&& 31)) 14 = 0) {post : Int64 → va_W → Prop} (K : ∀ (pZ : Program) (eZ : Env) (sZ : State) (mZ : MethodId) (aZ : Array Value) (bZ : List Frame) (tZ : Method) (cZ : Code) (AZ : Nat → Prop) (ls : Array Slot) (QZ : State → Prop) (H : Heap) (locs : List Loc), acE pZ sZ mZ cZ D ty base AZ → yH D AZ sZ.heap [] (X ++ []) H locs → lv_has ls 10 [(9, .int (qLow (v >>> ((11 : Int32) &&& 31)) 3)), (8, .int ((qLow (v >>> ((9 : Int32) &&& 31)) 121) - (60 : Int32))), (7, .int (qLow (v >>> ((12 : Int32) &&& 31)) 91)), (6, .int ((60 : Int32) + (qLow (v >>> ((8 : Int32) &&& 31)) 240))), (5, .int (qLow (v >>> ((5 : Int32) &&& 31)) 360)), (4, .int (qLow (v >>> ((7 : Int32) &&& 31)) 3)), (3, .int (qLow (v >>> ((4 : Int32) &&& 31)) 3)), (2, .int 0), (0, .ref yd), (1, .int v)] → (∀ (r : Int64) (X1 : va_W) (H : Heap) (locs : List Loc) (cells slots pc : Nat) (ls : Array Slot), post r X1 → yH D AZ sZ.heap [] (X1 ++ []) H locs → cells ≤ rmA.cells → slots ≤ rmA.slots → decode cL_act pc = .ok (.lreturn, 1) → W pZ l eZ rmA sZ mZ aZ bZ tZ cZ H locs cells slots QZ (F0 mZ pc ls [.long r])) → W pZ l eZ rmA sZ mZ aZ bZ tZ cZ H locs 0 0 QZ (F0 mZ 206 ls [.int (qLow v 46)])) : Met l yL_act [.code yL_act cL_act 10 (some (.long))] rmA (yPc D ty base sz X [.ref yd, .int v]) (va_Ql post (yB D (va_A X sz) (fun X' : va_W => X')) (va_A X sz)) rmA.cells rmA.slots (va_A X sz) := by
  refine y_start_l (cc := cL_act) (maxL := 10) (own := RL) (by decide +kernel) rfl (Nat.le_of_ble_eq_true rfl) (fun pZ eZ sZ mZ aZ bZ tZ cZ AZ ls QZ hx hb hml hown hnm hG hA hAb hsz h hl hret => ?_)
  have h : yH D AZ sZ.heap [] (X ++ []) sZ.heap [] := h.pl rfl
  have hl : lv_has ls 10 [(0, .ref yd), (1, .int v)] := hl
  refine lv_iload_n hx hb dL_act_0 rfl (lv_at hl 1 rfl) ?_
  refine lv_bipush (v := 26) hx hb dL_act_1 (by decide) ?_
  refine lv_ishr hx hb dL_act_3 ?_
  refine lv_bipush (v := 14) hx hb dL_act_4 (by decide) ?_
  refine y_calli (X' := fun _ : Unit => []) (wc := []) (wr := []) h hA [] [] [] rfl rfl (by decide) (by decide) (by decide) (fun _ => rfl) (va_runS (own := RL) (As := [.int (v >>> ((26 : Int32) &&& 31)), .int 14]) (rest := []) ⟨hx, hb, hml, hown, y_nil⟩ (m_L_low l D ty base _ (v >>> ((26 : Int32) &&& 31)) 14   (by decide)) (y_cwS 2 (kw_1_220 hG) (kw_1_0 hG) (kw_1_218 hG) (kw_1_219 hG) yd_L_low ⟨Nat.le_of_ble_eq_true rfl, Nat.le_of_ble_eq_true rfl⟩) (y_preS hG h hAb [] rfl (by decide)) rfl rfl hl.1 rfl (lv_room (Nat.le_of_ble_eq_true rfl)) dL_act_6 ⟨Nat.le_of_ble_eq_true rfl, Nat.le_of_ble_eq_true rfl⟩) (fun r_6 _ H locs hp_6 h => ?_)
  have hp_6 : r_6 = qLow (v >>> ((26 : Int32) &&& 31)) 14 := hp_6
  have h : yH D AZ sZ.heap [] (X ++ []) _ _ := h
  rw [hp_6]
  refine lv_if_ne (tgt := 16) hx hb dL_act_9 (by decide) (fun c_9 => ?_) (fun c_9 => ?_)
  · skip
    refine lv_iconst (v := 0) hx hb dL_act_16 (by decide) ?_
    refine lv_istore_n (lv' := [(2, .int 0), (0, .ref yd), (1, .int v)]) hx hb dL_act_17 rfl hl (by decide) rfl (fun ls hl => ?_)
    refine lv_iload_n hx hb dL_act_18 rfl (lv_at hl 0 rfl) ?_
    refine lv_if_eq (tgt := 35) hx hb dL_act_19 (by decide) (fun c_19 => ?_) (fun c_19 => ?_)
    · skip
      refine lv_iload_n hx hb dL_act_35 rfl (lv_at hl 2 rfl) ?_
      refine lv_iconst (v := 4) hx hb dL_act_36 (by decide) ?_
      refine lv_ishr hx hb dL_act_37 ?_
      refine lv_iconst (v := 3) hx hb dL_act_38 (by decide) ?_
      refine y_calli (X' := fun _ : Unit => []) (wc := []) (wr := []) h hA [] [] [] rfl rfl (by decide) (by decide) (by decide) (fun _ => rfl) (va_runS (own := RL) (As := [.int (v >>> ((4 : Int32) &&& 31)), .int 3]) (rest := []) ⟨hx, hb, hml, hown, y_nil⟩ (m_L_low l D ty base _ (v >>> ((4 : Int32) &&& 31)) 3   (by decide)) (y_cwS 2 (kw_1_220 hG) (kw_1_0 hG) (kw_1_218 hG) (kw_1_219 hG) yd_L_low ⟨Nat.le_of_ble_eq_true rfl, Nat.le_of_ble_eq_true rfl⟩) (y_preS hG h hAb [] rfl (by decide)) rfl rfl hl.1 rfl (lv_room (Nat.le_of_ble_eq_true rfl)) dL_act_39 ⟨Nat.le_of_ble_eq_true rfl, Nat.le_of_ble_eq_true rfl⟩) (fun r_39 _ H locs hp_39 h => ?_)
      have hp_39 : r_39 = qLow (v >>> ((4 : Int32) &&& 31)) 3 := hp_39
      have h : yH D AZ sZ.heap [] (X ++ []) _ _ := h
      rw [hp_39]
      refine lv_istore_n (lv' := [(3, .int (qLow (v >>> ((4 : Int32) &&& 31)) 3)), (2, .int 0), (0, .ref yd), (1, .int v)]) hx hb dL_act_42 rfl hl (by decide) rfl (fun ls hl => ?_)
      refine lv_iload_n hx hb dL_act_43 rfl (lv_at hl 1 rfl) ?_
      refine lv_if_eq (tgt := 61) hx hb dL_act_44 (by decide) (fun c_44 => ?_) (fun c_44 => ?_)
      · skip
        refine lv_iload_n hx hb dL_act_61 rfl (lv_at hl 3 rfl) ?_
        refine lv_bipush (v := 7) hx hb dL_act_62 (by decide) ?_
        refine lv_ishr hx hb dL_act_64 ?_
        refine lv_iconst (v := 3) hx hb dL_act_65 (by decide) ?_
        refine y_calli (X' := fun _ : Unit => []) (wc := []) (wr := []) h hA [] [] [] rfl rfl (by decide) (by decide) (by decide) (fun _ => rfl) (va_runS (own := RL) (As := [.int (v >>> ((7 : Int32) &&& 31)), .int 3]) (rest := []) ⟨hx, hb, hml, hown, y_nil⟩ (m_L_low l D ty base _ (v >>> ((7 : Int32) &&& 31)) 3   (by decide)) (y_cwS 2 (kw_1_220 hG) (kw_1_0 hG) (kw_1_218 hG) (kw_1_219 hG) yd_L_low ⟨Nat.le_of_ble_eq_true rfl, Nat.le_of_ble_eq_true rfl⟩) (y_preS hG h hAb [] rfl (by decide)) rfl rfl hl.1 rfl (lv_room (Nat.le_of_ble_eq_true rfl)) dL_act_66 ⟨Nat.le_of_ble_eq_true rfl, Nat.le_of_ble_eq_true rfl⟩) (fun r_66 _ H locs hp_66 h => ?_)
        have hp_66 : r_66 = qLow (v >>> ((7 : Int32) &&& 31)) 3 := hp_66
        have h : yH D AZ sZ.heap [] (X ++ []) _ _ := h
        rw [hp_66]
        refine lv_istore (lv' := [(4, .int (qLow (v >>> ((7 : Int32) &&& 31)) 3)), (3, .int (qLow (v >>> ((4 : Int32) &&& 31)) 3)), (2, .int 0), (0, .ref yd), (1, .int v)]) hx hb dL_act_69 hl (by decide) rfl (fun ls hl => ?_)
        refine lv_iload_n hx hb dL_act_71 rfl (lv_at hl 2 rfl) ?_
        refine lv_if_eq (tgt := 81) hx hb dL_act_72 (by decide) (fun c_72 => ?_) (fun c_72 => ?_)
        · skip
          refine lv_iload_n hx hb dL_act_81 rfl (lv_at hl 4 rfl) ?_
          refine lv_iconst (v := 5) hx hb dL_act_82 (by decide) ?_
          refine lv_ishr hx hb dL_act_83 ?_
          refine lv_sipush (v := 360) hx hb dL_act_84 (by decide) ?_
          refine y_calli (X' := fun _ : Unit => []) (wc := []) (wr := []) h hA [] [] [] rfl rfl (by decide) (by decide) (by decide) (fun _ => rfl) (va_runS (own := RL) (As := [.int (v >>> ((5 : Int32) &&& 31)), .int 360]) (rest := []) ⟨hx, hb, hml, hown, y_nil⟩ (m_L_low l D ty base _ (v >>> ((5 : Int32) &&& 31)) 360   (by decide)) (y_cwS 2 (kw_1_220 hG) (kw_1_0 hG) (kw_1_218 hG) (kw_1_219 hG) yd_L_low ⟨Nat.le_of_ble_eq_true rfl, Nat.le_of_ble_eq_true rfl⟩) (y_preS hG h hAb [] rfl (by decide)) rfl rfl hl.1 rfl (lv_room (Nat.le_of_ble_eq_true rfl)) dL_act_87 ⟨Nat.le_of_ble_eq_true rfl, Nat.le_of_ble_eq_true rfl⟩) (fun r_87 _ H locs hp_87 h => ?_)
          have hp_87 : r_87 = qLow (v >>> ((5 : Int32) &&& 31)) 360 := hp_87
          have h : yH D AZ sZ.heap [] (X ++ []) _ _ := h
          rw [hp_87]
          refine lv_istore (lv' := [(5, .int (qLow (v >>> ((5 : Int32) &&& 31)) 360)), (4, .int (qLow (v >>> ((7 : Int32) &&& 31)) 3)), (3, .int (qLow (v >>> ((4 : Int32) &&& 31)) 3)), (2, .int 0), (0, .ref yd), (1, .int v)]) hx hb dL_act_90 hl (by decide) rfl (fun ls hl => ?_)
          refine lv_iload_n hx hb dL_act_92 rfl (lv_at hl 3 rfl) ?_
          refine lv_if_eq (tgt := 103) hx hb dL_act_93 (by decide) (fun c_93 => ?_) (fun c_93 => ?_)
          · skip
            refine lv_bipush (v := 60) hx hb dL_act_103 (by decide) ?_
            refine lv_iload_n hx hb dL_act_105 rfl (lv_at hl 5 rfl) ?_
            refine lv_bipush (v := 8) hx hb dL_act_106 (by decide) ?_
            refine lv_ishr hx hb dL_act_108 ?_
            refine lv_sipush (v := 240) hx hb dL_act_109 (by decide) ?_
            refine y_calli (X' := fun _ : Unit => []) (wc := []) (wr := []) h hA [] [] [] rfl rfl (by decide) (by decide) (by decide) (fun _ => rfl) (va_runS (own := RL) (As := [.int (v >>> ((8 : Int32) &&& 31)), .int 240]) (rest := [.int 60]) ⟨hx, hb, hml, hown, y_nil⟩ (m_L_low l D ty base _ (v >>> ((8 : Int32) &&& 31)) 240   (by decide)) (y_cwS 2 (kw_1_220 hG) (kw_1_0 hG) (kw_1_218 hG) (kw_1_219 hG) yd_L_low ⟨Nat.le_of_ble_eq_true rfl, Nat.le_of_ble_eq_true rfl⟩) (y_preS hG h hAb [] rfl (by decide)) rfl rfl hl.1 rfl (lv_room (Nat.le_of_ble_eq_true rfl)) dL_act_112 ⟨Nat.le_of_ble_eq_true rfl, Nat.le_of_ble_eq_true rfl⟩) (fun r_112 _ H locs hp_112 h => ?_)
            have hp_112 : r_112 = qLow (v >>> ((8 : Int32) &&& 31)) 240 := hp_112
            have h : yH D AZ sZ.heap [] (X ++ []) _ _ := h
            rw [hp_112]
            refine lv_iadd hx hb dL_act_115 ?_
            refine lv_istore (lv' := [(6, .int ((60 : Int32) + (qLow (v >>> ((8 : Int32) &&& 31)) 240))), (5, .int (qLow (v >>> ((5 : Int32) &&& 31)) 360)), (4, .int (qLow (v >>> ((7 : Int32) &&& 31)) 3)), (3, .int (qLow (v >>> ((4 : Int32) &&& 31)) 3)), (2, .int 0), (0, .ref yd), (1, .int v)]) hx hb dL_act_116 hl (by decide) rfl (fun ls hl => ?_)
            refine lv_iload_n hx hb dL_act_118 rfl (lv_at hl 4 rfl) ?_
            refine lv_if_eq (tgt := 136) hx hb dL_act_119 (by decide) (fun c_119 => ?_) (fun c_119 => ?_)
            · skip
              refine lv_iload_n hx hb dL_act_136 rfl (lv_at hl 6 rfl) ?_
              refine lv_bipush (v := 12) hx hb dL_act_137 (by decide) ?_
              refine lv_ishr hx hb dL_act_139 ?_
              refine lv_bipush (v := 91) hx hb dL_act_140 (by decide) ?_
              refine y_calli (X' := fun _ : Unit => []) (wc := []) (wr := []) h hA [] [] [] rfl rfl (by decide) (by decide) (by decide) (fun _ => rfl) (va_runS (own := RL) (As := [.int (v >>> ((12 : Int32) &&& 31)), .int 91]) (rest := []) ⟨hx, hb, hml, hown, y_nil⟩ (m_L_low l D ty base _ (v >>> ((12 : Int32) &&& 31)) 91   (by decide)) (y_cwS 2 (kw_1_220 hG) (kw_1_0 hG) (kw_1_218 hG) (kw_1_219 hG) yd_L_low ⟨Nat.le_of_ble_eq_true rfl, Nat.le_of_ble_eq_true rfl⟩) (y_preS hG h hAb [] rfl (by decide)) rfl rfl hl.1 rfl (lv_room (Nat.le_of_ble_eq_true rfl)) dL_act_142 ⟨Nat.le_of_ble_eq_true rfl, Nat.le_of_ble_eq_true rfl⟩) (fun r_142 _ H locs hp_142 h => ?_)
              have hp_142 : r_142 = qLow (v >>> ((12 : Int32) &&& 31)) 91 := hp_142
              have h : yH D AZ sZ.heap [] (X ++ []) _ _ := h
              rw [hp_142]
              refine lv_istore (lv' := [(7, .int (qLow (v >>> ((12 : Int32) &&& 31)) 91)), (6, .int ((60 : Int32) + (qLow (v >>> ((8 : Int32) &&& 31)) 240))), (5, .int (qLow (v >>> ((5 : Int32) &&& 31)) 360)), (4, .int (qLow (v >>> ((7 : Int32) &&& 31)) 3)), (3, .int (qLow (v >>> ((4 : Int32) &&& 31)) 3)), (2, .int 0), (0, .ref yd), (1, .int v)]) hx hb dL_act_145 hl (by decide) rfl (fun ls hl => ?_)
              refine lv_iload_n hx hb dL_act_147 rfl (lv_at hl 5 rfl) ?_
              refine lv_if_eq (tgt := 158) hx hb dL_act_148 (by decide) (fun c_148 => ?_) (fun c_148 => ?_)
              · skip
                refine lv_iload_n hx hb dL_act_158 rfl (lv_at hl 7 rfl) ?_
                refine lv_bipush (v := 9) hx hb dL_act_159 (by decide) ?_
                refine lv_ishr hx hb dL_act_161 ?_
                refine lv_bipush (v := 121) hx hb dL_act_162 (by decide) ?_
                refine y_calli (X' := fun _ : Unit => []) (wc := []) (wr := []) h hA [] [] [] rfl rfl (by decide) (by decide) (by decide) (fun _ => rfl) (va_runS (own := RL) (As := [.int (v >>> ((9 : Int32) &&& 31)), .int 121]) (rest := []) ⟨hx, hb, hml, hown, y_nil⟩ (m_L_low l D ty base _ (v >>> ((9 : Int32) &&& 31)) 121   (by decide)) (y_cwS 2 (kw_1_220 hG) (kw_1_0 hG) (kw_1_218 hG) (kw_1_219 hG) yd_L_low ⟨Nat.le_of_ble_eq_true rfl, Nat.le_of_ble_eq_true rfl⟩) (y_preS hG h hAb [] rfl (by decide)) rfl rfl hl.1 rfl (lv_room (Nat.le_of_ble_eq_true rfl)) dL_act_164 ⟨Nat.le_of_ble_eq_true rfl, Nat.le_of_ble_eq_true rfl⟩) (fun r_164 _ H locs hp_164 h => ?_)
                have hp_164 : r_164 = qLow (v >>> ((9 : Int32) &&& 31)) 121 := hp_164
                have h : yH D AZ sZ.heap [] (X ++ []) _ _ := h
                rw [hp_164]
                refine lv_bipush (v := 60) hx hb dL_act_167 (by decide) ?_
                refine lv_isub hx hb dL_act_169 ?_
                refine lv_istore (lv' := [(8, .int ((qLow (v >>> ((9 : Int32) &&& 31)) 121) - (60 : Int32))), (7, .int (qLow (v >>> ((12 : Int32) &&& 31)) 91)), (6, .int ((60 : Int32) + (qLow (v >>> ((8 : Int32) &&& 31)) 240))), (5, .int (qLow (v >>> ((5 : Int32) &&& 31)) 360)), (4, .int (qLow (v >>> ((7 : Int32) &&& 31)) 3)), (3, .int (qLow (v >>> ((4 : Int32) &&& 31)) 3)), (2, .int 0), (0, .ref yd), (1, .int v)]) hx hb dL_act_170 hl (by decide) rfl (fun ls hl => ?_)
                refine lv_iload_n hx hb dL_act_172 rfl (lv_at hl 6 rfl) ?_
                refine lv_if_eq (tgt := 190) hx hb dL_act_173 (by decide) (fun c_173 => ?_) (fun c_173 => ?_)
                · skip
                  refine lv_iload_n hx hb dL_act_190 rfl (lv_at hl 8 rfl) ?_
                  refine lv_bipush (v := 11) hx hb dL_act_191 (by decide) ?_
                  refine lv_ishr hx hb dL_act_193 ?_
                  refine lv_iconst (v := 3) hx hb dL_act_194 (by decide) ?_
                  refine y_calli (X' := fun _ : Unit => []) (wc := []) (wr := []) h hA [] [] [] rfl rfl (by decide) (by decide) (by decide) (fun _ => rfl) (va_runS (own := RL) (As := [.int (v >>> ((11 : Int32) &&& 31)), .int 3]) (rest := []) ⟨hx, hb, hml, hown, y_nil⟩ (m_L_low l D ty base _ (v >>> ((11 : Int32) &&& 31)) 3   (by decide)) (y_cwS 2 (kw_1_220 hG) (kw_1_0 hG) (kw_1_218 hG) (kw_1_219 hG) yd_L_low ⟨Nat.le_of_ble_eq_true rfl, Nat.le_of_ble_eq_true rfl⟩) (y_preS hG h hAb [] rfl (by decide)) rfl rfl hl.1 rfl (lv_room (Nat.le_of_ble_eq_true rfl)) dL_act_195 ⟨Nat.le_of_ble_eq_true rfl, Nat.le_of_ble_eq_true rfl⟩) (fun r_195 _ H locs hp_195 h => ?_)
                  have hp_195 : r_195 = qLow (v >>> ((11 : Int32) &&& 31)) 3 := hp_195
                  have h : yH D AZ sZ.heap [] (X ++ []) _ _ := h
                  rw [hp_195]
                  refine lv_istore (lv' := [(9, .int (qLow (v >>> ((11 : Int32) &&& 31)) 3)), (8, .int ((qLow (v >>> ((9 : Int32) &&& 31)) 121) - (60 : Int32))), (7, .int (qLow (v >>> ((12 : Int32) &&& 31)) 91)), (6, .int ((60 : Int32) + (qLow (v >>> ((8 : Int32) &&& 31)) 240))), (5, .int (qLow (v >>> ((5 : Int32) &&& 31)) 360)), (4, .int (qLow (v >>> ((7 : Int32) &&& 31)) 3)), (3, .int (qLow (v >>> ((4 : Int32) &&& 31)) 3)), (2, .int 0), (0, .ref yd), (1, .int v)]) hx hb dL_act_198 hl (by decide) rfl (fun ls hl => ?_)
                  refine lv_iload_n hx hb dL_act_200 rfl (lv_at hl 9 rfl) ?_
                  refine lv_bipush (v := 46) hx hb dL_act_201 (by decide) ?_
                  refine y_calli (X' := fun _ : Unit => []) (wc := []) (wr := []) h hA [] [] [] rfl rfl (by decide) (by decide) (by decide) (fun _ => rfl) (va_runS (own := RL) (As := [.int v, .int 46]) (rest := []) ⟨hx, hb, hml, hown, y_nil⟩ (m_L_low l D ty base _ v 46   (by decide)) (y_cwS 2 (kw_1_220 hG) (kw_1_0 hG) (kw_1_218 hG) (kw_1_219 hG) yd_L_low ⟨Nat.le_of_ble_eq_true rfl, Nat.le_of_ble_eq_true rfl⟩) (y_preS hG h hAb [] rfl (by decide)) rfl rfl hl.1 rfl (lv_room (Nat.le_of_ble_eq_true rfl)) dL_act_203 ⟨Nat.le_of_ble_eq_true rfl, Nat.le_of_ble_eq_true rfl⟩) (fun r_203 _ H locs hp_203 h => ?_)
                  have hp_203 : r_203 = qLow v 46 := hp_203
                  have h : yH D AZ sZ.heap [] (X ++ []) _ _ := h
                  rw [hp_203]
                  exact K pZ eZ sZ mZ aZ bZ tZ cZ AZ ls QZ _ _ ⟨hx, hb, hml, hown, hG, hA, hAb⟩ h hl (fun r X1 H locs cells slots pc ls hp h hc hs hd => hret r X1 _ _ _ _ _ _ _ _ hp h (List.append_nil _) hc hs hd)
                · exact absurd (by decide) c_173
              · exact absurd (by decide) c_148
            · exact absurd (by decide) c_119
          · exact absurd (by decide) c_93
        · exact absurd (by decide) c_72
      · exact absurd (by decide) c_44
    · exact absurd (by decide) c_19
  · exact absurd c_9 ho
