def cV (L : Nat) (xs : Nat → Int32) (k : Nat) : Int32 := if k < L then xs k else 7919 * (nI k + 3079) * (nI k + 751)
def cPc (D : va_G) (ty : Nat → ClassId) (base sz b L : Nat) (xs : Nat → Int32) (i : Int32) : Array Value → State → Prop := fun a U => a = [Value.ref b, Value.int i].toArray ∧ U.heap.size = sz ∧ va_X b L xs U U.heap ∧ b < sz ∧ yGX D ty base U
abbrev rmC : Room := { frames := 0, cells := 0, slots := 0, locals := 0 }
theorem yd_L_cell : yL_cell.cls ≠ "java/lang/invoke/MethodHandle" ∧ yL_cell.cls ≠ "java/lang/invoke/VarHandle" ∧ (parseMethodDescriptor yL_cell.desc).map (fun d => d.parameters.length) = some 2 := by decide +kernel
theorem cPc_blind {D : va_G} {ty : Nat → ClassId} {base sz b L : Nat} {xs : Nat → Int32} {i : Int32} : FrameBlind (cPc D ty base sz b L xs i) := by
  intro a U g mk ⟨h1, h2, ⟨scr, h3, h4⟩, h5, h6⟩
  exact ⟨h1, h2, ⟨scr, h3, h4⟩, h5, h6.go (U := U.calling g mk a) (State.WarmedH.refl U) (Nat.le_refl _) (fun _ _ => rfl)⟩
set_option maxHeartbeats 4000000 in
set_option maxRecDepth 100000 in
theorem q_cell {l : Launch} {D : va_G} {ty : Nat → ClassId} {base sz b L : Nat} {xs : Nat → Int32} (k : Nat) {i : Int32} (hi : i = nI k) (hk : k < 100) (hL : L ≤ 260) : Met l yL_cell [.code yL_cell cL_cell 2 (some (.int))] rmC (cPc D ty base sz b L xs i) (va_Qi (fun r X' => r = cV L xs k ∧ X' = []) (yB D (va_A [] sz) (fun X' : va_W => X')) (va_A [] sz)) rmC.cells rmC.slots (va_A [] sz) := by
  refine y_MetF (cc := cL_cell) (maxL := 2) (ret := some .int) (by decide +kernel) rfl ?_
  intro p e s m args below meth c s₁ B hml hv
  obtain ⟨rfl, hsz, hX, hbl, hG⟩ := hv
  have hown : s.vm.findClass RL = some m.cls := findClass_of_methodNamed B.named
  have hx : p.tables.exec = Jvm.exec := B.exec
  have hb : c.code = cL_cell := B.bytes
  have hr := B.returns
  have hlocks := B.notSynchronized
  rw [lg_entry_eq]
  have hl := lv_entry [Value.ref b, Value.int i] (n := 2) (Nat.le_of_ble_eq_true rfl)
  generalize (lg_sl [Value.ref b, Value.int i] ++ List.replicate (2 - (lg_sl [Value.ref b, Value.int i]).length) Slot.unset).toArray = ls at hl ⊢
  have hl : lv_has ls 2 [(0, .ref b), (1, .int i)] := hl
  have h : yH D (va_A [] sz) s.heap [] [] s.heap [] := ⟨fun k q h => by simp at h, ⟨fun i j x z h => by simp at h, fun k q h => by simp at h⟩, va_S.rf⟩
  have hbA : ¬ va_A [] sz b := by
    rintro (⟨k, e, hk⟩ | hk)
    · simp at hk
    · omega
  have hbs : b < s.heap.size := by omega
  have e1 : (Int32.ofNat L).toInt = L := nI_toInt (show L < 2 ^ 31 by omega)
  have e2 : i.toInt = k := by rw [hi]; exact nI_toInt (by omega)
  refine lv_iload_n hx hb dL_cell_0 rfl (lv_at hl 1 rfl) ?_
  refine lv_aload_n hx hb dL_cell_1 rfl (lv_at hl 0 rfl) ?_
  refine va_slen hx hb hX hbs hbA h.2.2 dL_cell_2 ?_
  refine lv_icmp_ge (tgt := 12) hx hb dL_cell_3 (by decide) (fun c_3 => ?_) (fun c_3 => ?_)
  · have hkL : ¬ k < L := by
      rw [Int32.le_iff_toInt_le] at c_3
      omega
    refine lv_sipush (v := 7919) hx hb dL_cell_12 (by decide) ?_
    refine lv_iload_n hx hb dL_cell_15 rfl (lv_at hl 1 rfl) ?_
    refine lv_sipush (v := 3079) hx hb dL_cell_16 (by decide) ?_
    refine lv_iadd hx hb dL_cell_19 ?_
    refine lv_imul hx hb dL_cell_20 ?_
    refine lv_iload_n hx hb dL_cell_21 rfl (lv_at hl 1 rfl) ?_
    refine lv_sipush (v := 751) hx hb dL_cell_22 (by decide) ?_
    refine lv_iadd hx hb dL_cell_25 ?_
    refine lv_imul hx hb dL_cell_26 ?_
    exact y_iret (post := fun (r : Int32) (X' : va_W) => r = cV L xs k ∧ X' = []) hx hb hr hlocks [] ⟨by unfold cV; rw [if_neg hkL, hi], rfl⟩ h rfl (Nat.le_of_ble_eq_true rfl) (Nat.le_of_ble_eq_true rfl) dL_cell_27
  · have hkL : k < L := by
      rw [Int32.le_iff_toInt_le] at c_3
      omega
    refine lv_aload_n hx hb dL_cell_6 rfl (lv_at hl 0 rfl) ?_
    refine lv_iload_n hx hb dL_cell_7 rfl (lv_at hl 1 rfl) ?_
    refine y_sld (v := xs k) hx hb hX hbs hbA h.2.2 (by rw [hi]; exact vp_in_nI hkL (by omega)) (by rw [hi, nI_clamp (by omega)]) dL_cell_8 ?_
    refine lv_goto (tgt := 27) hx hb dL_cell_9 (by decide) ?_
    exact y_iret (post := fun (r : Int32) (X' : va_W) => r = cV L xs k ∧ X' = []) hx hb hr hlocks [] ⟨by unfold cV; rw [if_pos hkL], rfl⟩ h rfl (Nat.le_of_ble_eq_true rfl) (Nat.le_of_ble_eq_true rfl) dL_cell_27
theorem cell_pre {D : va_G} {ty : Nat → ClassId} {base b L : Nat} {xs : Nat → Int32} {i : Int32} {s : State} {A : Nat → Prop} {X pl : va_W} {H : Heap} {locs : List Loc} (hG : yGX D ty base s) (hX : va_X b L xs s s.heap) (hbl : b < s.heap.size) (hbA : ¬ A b) (hAb : ∀ q, A q → base ≤ q) (h : yH D A s.heap X pl H locs) : PreS s H (cPc D ty base H.size b L xs i) [.ref b, .int i] := by
  refine ⟨cPc_blind, fun U hU hW => ⟨rfl, by rw [hU], ?_, Nat.lt_of_lt_of_le hbl h.2.2.1, hG.go hW (by rw [hU]; exact h.2.2.1) (fun q hq => ?_)⟩⟩
  · rw [hU]
    exact (hX.kept (h.2.2.2.1 b hbl hbA)).moved hW.alike
  · rw [hU]
    exact h.2.2.2.1 q (Nat.lt_of_lt_of_le hq hG.2.2.2.2.2.2.1) (fun z => absurd (hAb q z) (Nat.not_le.mpr hq))
