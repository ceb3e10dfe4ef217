/-! THE CLAIM OUT OF ONE WALK OF THE LAW'S BODY. Your part is whole_start (and what it stands on); all else here is the same for every law, but numbers. -/
def R_law : String := "GnomonYardLaw"
def lw_P (b : Addr) (xs : List Int32) (args : Array Value) (s : State) : Prop := args = #[.ref b] ∧ s.IntsAt b xs ∧ xs.length ≤ 260 ∧ (Jvm.Cond.and given_1 narrow_1).before args s = true
/-- what a walk over the start with the record d0 says of its end, said of the start itself -/
theorem lw_closed {s t : State} {o : Outcome} {d0 : Drawn} {L : List Loc} {k n : Nat} (hd0 : s.drawn.sameBut d0 lw_cs) (hv : ∃ v, o = .returned v) (hW : (s.setDrawn d0).WarmedH t.vm) (hs : (s.setDrawn d0).sameButNew ({ t with vm := s.vm } : State) L k n) : State.butDraws s t lw_cs (fun t1 => Framed s o t1 L k n) := by
  have h2 : t.drawn = d0 := congrArg State.drawn hs.1
  refine ⟨⟨hv, hW, State.sameButNew.setDrawn hs s.drawn⟩, ?_, by decide⟩
  rw [h2]
  exact hd0
def lw_Q (_ : Array Value) (s : State) (o : Outcome) (t : State) : Prop := o = .returned (some (.int 1)) ∧ State.butDraws s t lw_cs (fun t1 => Framed s o t1 [] 600104 7301314)
def lw_Z (below : List Frame) (a : Array Value) (s : State) : State → Prop := fun t => ∃ o, t.status = .running ∧ Ended t below o ∧ lw_Q a s o t
/-- the law's own end, with 1 on the stack, nothing written that was there before, its room as the claim has it; d0: the record of draws at this point (at the entry s.drawn: begin with 'refine W.base ?_' and 'have hd0 := Drawn.sameBut.refl s.drawn lw_cs') -/
theorem lw_ret {p : Program} {l : Launch} {e : Env} {s : State} {m : MethodId} {below : List Frame} {meth : Method} {c : Code} {b : Nat} {d0 : Drawn} (hd0 : s.drawn.sameBut d0 lw_cs) (hx : p.tables.exec = Jvm.exec) (hb : c.code = code) (hr : meth.sig.returnType = ret) (hlocks : meth.locks = false) {pc : Nat} {H : Heap} {ls : Array Slot} (hdg : decode code pc = .ok (.ireturn, 1)) : W p l e room_1 (s.setDrawn d0) m #[Value.ref b] below meth c H [] 600104 7301314 (lw_Z below #[Value.ref b] s) (F0 m pc ls [.int 1]) := by
  intro T hT X
  obtain ⟨fs, hret, hrun, hended, hW, hframe⟩ := X.leave (v := some (.int 1)) (hlocks := hlocks) (fun h => by rw [hr] at h; cases h)
  have hmeth' : T.vm.method? m = some meth := X.method'
  refine ⟨T.setFrames fs, ?_, .returned (some (.int 1)), hrun, hended, rfl, lw_closed hd0 ⟨_, rfl⟩ hW hframe⟩
  jvm_step X.here [X.here.top, hx, hb, hdg, hmeth', hr, ret, narrow_b1]
  (try refine ⟨rfl, ?_⟩); (try refine ⟨rfl, ?_⟩)
  first | (intro acts; rw [hret _ acts rfl rfl rfl]) | rw [hret _ _ rfl rfl rfl]
  exact Steps.refl _
/-- what holds at the law's entry: the machine, the code, the tables' words (any of lw_tbl by 'hts w (by decide +kernel)'), the script of L ints xs at the cell b, what the Statement gives of the start (any of its parts by flat_of_before) -/
def lw_At (p : Program) (s : State) (m : MethodId) (meth : Method) (c : Code) (b L : Nat) (xs : Nat → Int32) : Prop :=
  p.tables.exec = Jvm.exec ∧ c.code = code ∧ meth.sig.returnType = ret ∧ c.maxLocals = 8 ∧ s.vm.findClass R_law = some m.cls ∧ (∀ w ∈ lw_tbl, w.before #[Value.ref b] s = true) ∧ va_X b L xs s s.heap ∧ b < s.heap.size ∧ meth.locks = false ∧ (Jvm.Cond.and given_1 narrow_1).before #[Value.ref b] s = true
def lgE (p : Program) (l : Launch) (s : State) (m : MethodId) (meth : Method) (c : Code) (b L : Nat) (xs : Nat → Int32) (D : va_G) (ty : Nat → ClassId) : Prop :=
  l.stackTraces = false ∧ p.tables.exec = Jvm.exec ∧ c.code = code ∧ c.maxLocals = 8 ∧ s.vm.findClass RL = some m.cls ∧ yGX D ty s.heap.size s ∧ va_X b L xs s s.heap ∧ b < s.heap.size ∧ L ≤ 260 ∧ meth.sig.returnType = ret ∧ meth.locks = false
set_option maxHeartbeats 4000000 in
set_option maxRecDepth 100000 in
theorem law_c {pZ : Program} {l : Launch} {eZ : Env} {sZ : State} {mZ : MethodId} {bZ : List Frame} {tZ : Method} {cZ : Code} {b L : Nat} {xs : Nat → Int32} {D : va_G} {ty : Nat → ClassId} (E : lgE pZ l sZ mZ tZ cZ b L xs D ty) {yo yp : Nat} {σ : QS} {Xo Xp : va_W} (hqo : qY ty yo σ Xo) (hqp : qY ty yp σ Xp) {H : Heap} {locs : List Loc} {ls : Array Slot} {cells slots : Nat} (hcc : cells ≤ 37732) (hss : slots ≤ 393342) (h : yH D (yLo sZ.heap.size) sZ.heap [] (Xo ++ Xp) H locs) (hl : lv_has ls 8 [(0, .ref b), (1, .ref yo), (2, .ref yp)]) : W pZ l eZ room_1 sZ mZ #[Value.ref b] bZ tZ cZ H locs cells slots (lw_Z bZ #[Value.ref b] sZ) (F0 mZ 228 ls []) := by
  obtain ⟨hl9, hx, hb, hml, hown, hG, hX, hbl, hL, hr, hlocks⟩ := E
  have hA : ∀ q : Nat, sZ.heap.size ≤ q → (yLo sZ.heap.size) q := fun _ h => h
  have hAb : ∀ q : Nat, (yLo sZ.heap.size) q → sZ.heap.size ≤ q := fun _ h => h
  have hbA : ¬ (yLo sZ.heap.size) b := Nat.not_le.mpr hbl
  refine lv_aload_n hx hb dL_law_228 rfl (lv_at hl 1 rfl) ?_
  refine lv_aload_n hx hb dL_law_229 rfl (lv_at hl 0 rfl) ?_
  refine lv_bipush (v := 90) hx hb dL_law_230 (by decide) ?_
  refine q_calli (X := []) h hA (va_runS (own := RL) (As := [.ref b, .int 90]) (rest := [.ref yo]) ⟨hx, hb, hml, hown, y_nil⟩ (q_cell (l := l) (D := D) (ty := ty) (base := _) (sz := _) (b := b) (L := L) (xs := xs) 90 (by decide) (by decide) hL) (y_cwS 2 (kw_1_217 hG) (kw_1_0 hG) (kw_1_215 hG) (kw_1_216 hG) yd_L_cell ⟨Nat.le_of_ble_eq_true rfl, Nat.le_of_ble_eq_true rfl⟩) (cell_pre hG hX hbl hbA hAb h) rfl rfl hl.1 rfl (lv_room (Nat.le_of_ble_eq_true rfl)) dL_law_232 ⟨(by show cells + 0 ≤ 600104; omega), (by show slots + 0 ≤ 7301314; omega)⟩) (fun r_232 X_232 H locs hp_232 h => ?_)
  obtain ⟨e_232, z_232⟩ := hp_232
  rw [z_232] at h
  have h : yH D (yLo sZ.heap.size) sZ.heap [] (Xo ++ Xp) _ _ := h
  rw [e_232]
  have h : yH D (yLo sZ.heap.size) sZ.heap Xo Xp _ _ := h.pl rfl
  refine q_calli h hA (va_runS (own := RL) (As := [.ref yo, .int (cV L xs 90)]) (rest := []) ⟨hx, hb, hml, hown, y_nil⟩ (q_made (l := l) (D := D) (ty := ty) (base := _) (sz := _) hl9 hqo (cV L xs 90)) (y_cwS 2 (kw_4_28 hG) (kw_1_0 hG) (kw_4_26 hG) (kw_4_27 hG) yd_L_isMadeSo ⟨Nat.le_of_ble_eq_true rfl, Nat.le_of_ble_eq_true rfl⟩) (q_preS hG h hAb) rfl rfl hl.1 rfl (lv_room (Nat.le_of_ble_eq_true rfl)) dL_law_235 ⟨(by show cells + 0 + 92 ≤ 600104; omega), (by show slots + 0 + 943 ≤ 7301314; omega)⟩) (fun r_235 X_235 H locs hp_235 h => ?_)
  obtain ⟨e_235, σ_235, hq_235⟩ := hp_235
  have h : yH D (yLo sZ.heap.size) sZ.heap [] (X_235 ++ Xp) _ _ := h.pl rfl
  rw [e_235]
  refine lv_if_eq (tgt := 258) hx hb dL_law_238 (by decide) (fun c_238 => ?_) (fun c_238 => ?_)
  · exact absurd c_238 (by decide)
  · skip
    refine lv_aload_n hx hb dL_law_241 rfl (lv_at hl 1 rfl) ?_
    refine lv_aload_n hx hb dL_law_242 rfl (lv_at hl 0 rfl) ?_
    refine lv_bipush (v := 91) hx hb dL_law_243 (by decide) ?_
    refine q_calli (X := []) h hA (va_runS (own := RL) (As := [.ref b, .int 91]) (rest := [.ref yo]) ⟨hx, hb, hml, hown, y_nil⟩ (q_cell (l := l) (D := D) (ty := ty) (base := _) (sz := _) (b := b) (L := L) (xs := xs) 91 (by decide) (by decide) hL) (y_cwS 2 (kw_1_217 hG) (kw_1_0 hG) (kw_1_215 hG) (kw_1_216 hG) yd_L_cell ⟨Nat.le_of_ble_eq_true rfl, Nat.le_of_ble_eq_true rfl⟩) (cell_pre hG hX hbl hbA hAb h) rfl rfl hl.1 rfl (lv_room (Nat.le_of_ble_eq_true rfl)) dL_law_245 ⟨(by show cells + 0 + 92 + 0 ≤ 600104; omega), (by show slots + 0 + 943 + 0 ≤ 7301314; omega)⟩) (fun r_245 X_245 H locs hp_245 h => ?_)
    obtain ⟨e_245, z_245⟩ := hp_245
    rw [z_245] at h
    have h : yH D (yLo sZ.heap.size) sZ.heap [] (X_235 ++ Xp) _ _ := h
    rw [e_245]
    have h : yH D (yLo sZ.heap.size) sZ.heap X_235 Xp _ _ := h.pl rfl
    refine q_calli h hA (va_runS (own := RL) (As := [.ref yo, .int (cV L xs 91)]) (rest := []) ⟨hx, hb, hml, hown, y_nil⟩ (q_made (l := l) (D := D) (ty := ty) (base := _) (sz := _) hl9 hq_235 (cV L xs 91)) (y_cwS 2 (kw_4_28 hG) (kw_1_0 hG) (kw_4_26 hG) (kw_4_27 hG) yd_L_isMadeSo ⟨Nat.le_of_ble_eq_true rfl, Nat.le_of_ble_eq_true rfl⟩) (q_preS hG h hAb) rfl rfl hl.1 rfl (lv_room (Nat.le_of_ble_eq_true rfl)) dL_law_248 ⟨(by show cells + 0 + 92 + 0 + 92 ≤ 600104; omega), (by show slots + 0 + 943 + 0 + 943 ≤ 7301314; omega)⟩) (fun r_248 X_248 H locs hp_248 h => ?_)
    obtain ⟨e_248, σ_248, hq_248⟩ := hp_248
    have h : yH D (yLo sZ.heap.size) sZ.heap [] (X_248 ++ Xp) _ _ := h.pl rfl
    rw [e_248]
    refine lv_if_eq (tgt := 258) hx hb dL_law_251 (by decide) (fun c_251 => ?_) (fun c_251 => ?_)
    · exact absurd c_251 (by decide)
    · skip
      refine lv_iconst (v := 1) hx hb dL_law_254 (by decide) ?_
      refine lv_goto (tgt := 259) hx hb dL_law_255 (by decide) ?_
      refine va_forget h.2.2.2.2 ?_
      refine W.widen (k := 600104) (n := 7301314) (by show cells + 0 + 92 + 0 + 92 ≤ 600104; omega) (by show slots + 0 + 943 + 0 + 943 ≤ 7301314; omega) ?_
      refine W.base ?_
      exact lw_ret (Drawn.sameBut.refl sZ.drawn lw_cs) hx hb hr hlocks dL_law_259
set_option maxHeartbeats 4000000 in
set_option maxRecDepth 100000 in
theorem law_b {pZ : Program} {l : Launch} {eZ : Env} {sZ : State} {mZ : MethodId} {bZ : List Frame} {tZ : Method} {cZ : Code} {b L : Nat} {xs : Nat → Int32} {D : va_G} {ty : Nat → ClassId} (E : lgE pZ l sZ mZ tZ cZ b L xs D ty) {yo yp : Nat} : ∀ (n i : Nat), 90 - i < n → i ≤ 90 → ∀ (σ : QS) (Xo Xp : va_W), qY ty yo σ Xo → qY ty yp σ Xp → ∀ (H : Heap) (locs : List Loc) (ls : Array Slot) (cells slots : Nat), cells ≤ 292 + 416 * i → slots ≤ 9582 + 4264 * i → yH D (yLo sZ.heap.size) sZ.heap [] (Xo ++ Xp) H locs → lv_has ls 8 [(0, .ref b), (1, .ref yo), (2, .ref yp), (3, .int (nI i))] → W pZ l eZ room_1 sZ mZ #[Value.ref b] bZ tZ cZ H locs cells slots (lw_Z bZ #[Value.ref b] sZ) (F0 mZ 136 ls []) := by
  have E0 := E
  obtain ⟨hl9, hx, hb, hml, hown, hG, hX, hbl, hL, hr, hlocks⟩ := E
  have hA : ∀ q : Nat, sZ.heap.size ≤ q → (yLo sZ.heap.size) q := fun _ h => h
  have hAb : ∀ q : Nat, (yLo sZ.heap.size) q → sZ.heap.size ≤ q := fun _ h => h
  have hbA : ¬ (yLo sZ.heap.size) b := Nat.not_le.mpr hbl
  intro n
  induction n with
  | zero => intro i hn; exact absurd hn (Nat.not_lt_zero _)
  | succ n ih =>
    intro i hn hi σ Xo Xp hqo hqp H locs ls cells slots hcc hss h hl
    refine lv_iload_n hx hb dL_law_136 rfl (lv_at hl 3 rfl) ?_
    refine lv_bipush (v := 90) hx hb dL_law_137 (by decide) ?_
    refine lv_icmp_ge (tgt := 228) hx hb dL_law_139 (by decide) (fun c_139 => ?_) (fun c_139 => ?_)
    · skip
      exact law_c E0 hqo hqp (by omega) (by omega) h (lv_sub hl [0, 1, 2] rfl)
    · skip
      have hik : i < 90 := by
        rcases Nat.lt_or_ge i 90 with q | q
        · exact q
        · exact absurd (nI_le q (by omega)) c_139
      refine lv_aload_n hx hb dL_law_142 rfl (lv_at hl 0 rfl) ?_
      refine lv_iload_n hx hb dL_law_143 rfl (lv_at hl 3 rfl) ?_
      refine q_calli (X := []) h hA (va_runS (own := RL) (As := [.ref b, .int (nI i)]) (rest := []) ⟨hx, hb, hml, hown, y_nil⟩ (q_cell (l := l) (D := D) (ty := ty) (base := _) (sz := _) (b := b) (L := L) (xs := xs) i rfl (by omega) hL) (y_cwS 2 (kw_1_217 hG) (kw_1_0 hG) (kw_1_215 hG) (kw_1_216 hG) yd_L_cell ⟨Nat.le_of_ble_eq_true rfl, Nat.le_of_ble_eq_true rfl⟩) (cell_pre hG hX hbl hbA hAb h) rfl rfl hl.1 rfl (lv_room (Nat.le_of_ble_eq_true rfl)) dL_law_144 ⟨(by show cells + 0 ≤ 600104; omega), (by show slots + 0 ≤ 7301314; omega)⟩) (fun r_144 X_144 H locs hp_144 h => ?_)
      obtain ⟨e_144, z_144⟩ := hp_144
      rw [z_144] at h
      have h : yH D (yLo sZ.heap.size) sZ.heap [] (Xo ++ Xp) _ _ := h
      rw [e_144]
      refine lv_topi (fun v e_v => ?_)
      obtain ⟨f, hbad, hf⟩ := q_act v
      refine lv_istore (lv' := [(4, .int v), (0, .ref b), (1, .ref yo), (2, .ref yp), (3, .int (nI i))]) hx hb dL_law_147 hl (by decide) rfl (fun ls hl => ?_)
      refine lv_aload_n hx hb dL_law_149 rfl (lv_at hl 2 rfl) ?_
      refine lv_iload hx hb dL_law_150 (lv_at hl 0 rfl) ?_
      have h : yH D (yLo sZ.heap.size) sZ.heap Xo Xp _ _ := h.pl rfl
      refine q_calll h hA (va_runS (own := RL) (As := [.ref yo, .int v]) (rest := []) ⟨hx, hb, hml, hown, y_nil⟩ (hf (l := l) (D := D) (ty := ty) (base := _) (sz := _) hl9 hqo) (y_cwS 2 (kw_2_185 hG) (kw_1_0 hG) (kw_2_183 hG) (kw_2_184 hG) yd_L_act ⟨Nat.le_of_ble_eq_true rfl, Nat.le_of_ble_eq_true rfl⟩) (q_preS hG h hAb) rfl rfl hl.1 rfl (lv_room (Nat.le_of_ble_eq_true rfl)) dL_law_152 ⟨(by show cells + 0 + 4 ≤ 600104; omega), (by show slots + 0 + 41 ≤ 7301314; omega)⟩) (fun r_152 X_152 H locs hp_152 h => ?_)
      obtain ⟨e_152, hq_152⟩ := hp_152
      have h : yH D (yLo sZ.heap.size) sZ.heap [] (X_152 ++ Xp) _ _ := h.pl rfl
      rw [e_152]
      refine lv_lstore (lv' := [(5, .long (f σ).1), (4, .int v), (0, .ref b), (1, .ref yo), (2, .ref yp), (3, .int (nI i))]) hx hb dL_law_155 hl (by decide) rfl (fun ls hl => ?_)
      refine lv_lload hx hb dL_law_157 (lv_at hl 0 rfl) ?_
      refine lv_ldc2 (own := RL) (v := (-99999999)) hx hb hown (kw_4_29 hG).b dL_law_159 ?_
      refine W.lcmp hx hb dL_law_162 ?_
      refine lv_if_eq (tgt := 175) hx hb dL_law_163 (by decide) (fun c_163 => ?_) (fun c_163 => ?_)
      · skip
        have c_163 := (lg_cmp_eq ((f σ).1) (-99999999)).mp c_163
        have hbd : (f σ).2 = σ := hbad _ _ _ _ hqo (Or.inl c_163)
        refine lv_iconst (v := 1) hx hb dL_law_175 (by decide) ?_
        refine lv_goto (tgt := 180) hx hb dL_law_176 (by decide) ?_
        refine lv_istore (lv' := [(7, .int 1), (5, .long (f σ).1), (4, .int v), (0, .ref b), (1, .ref yo), (2, .ref yp), (3, .int (nI i))]) hx hb dL_law_180 hl (by decide) rfl (fun ls hl => ?_)
        refine lv_iload hx hb dL_law_182 (lv_at hl 0 rfl) ?_
        refine lv_if_ne (tgt := 199) hx hb dL_law_184 (by decide) (fun c_184 => ?_) (fun c_184 => ?_)
        · skip
          rw [hbd] at hq_152
          refine lv_iload_n hx hb dL_law_199 rfl (lv_at hl 6 rfl) ?_
          refine lv_bipush (v := 30) hx hb dL_law_200 (by decide) ?_
          refine lv_irem hx hb dL_law_202 (by decide) ?_
          refine lv_bipush (v := 29) hx hb dL_law_203 (by decide) ?_
          refine lv_icmp_ne (tgt := 222) hx hb dL_law_205 (by decide) (fun c_205 => ?_) (fun c_205 => ?_)
          · skip
            refine lv_iinc (v := nI (i + 1)) (lv' := [(3, .int (nI (i + 1))), (7, .int 1), (5, .long (f σ).1), (4, .int v), (0, .ref b), (1, .ref yo), (2, .ref yp)]) hx hb dL_law_222 hl (k := 6) rfl (y_inc i) (by decide) rfl (fun ls hl => ?_)
            refine lv_goto (tgt := 136) hx hb dL_law_225 (by decide) ?_
            exact ih (i + 1) (by omega) (by omega) σ _ _ hq_152 hqp _ _ _ _ _ (by show cells + 0 + 4 ≤ 292 + 416 * (i + 1); omega) (by show slots + 0 + 41 ≤ 9582 + 4264 * (i + 1); omega) h (lv_sub hl [4, 5, 6, 0] rfl)
          · skip
            refine lv_aload_n hx hb dL_law_208 rfl (lv_at hl 4 rfl) ?_
            refine lv_aload_n hx hb dL_law_209 rfl (lv_at hl 5 rfl) ?_
            refine lv_iload hx hb dL_law_210 (lv_at hl 2 rfl) ?_
            refine lv_iconst (v := 3) hx hb dL_law_212 (by decide) ?_
            refine lv_ishr hx hb dL_law_213 ?_
            have h : yH D (yLo sZ.heap.size) sZ.heap (X_152 ++ Xp) [] _ _ := h.pl (List.append_nil _).symm
            refine q_calli h hA (va_runS (own := RL) (As := [.ref yo, .ref yp, .int (v >>> ((3 : Int32) &&& 31))]) (rest := []) ⟨hx, hb, hml, hown, y_nil⟩ (q_alike (l := l) (D := D) (ty := ty) (base := _) (sz := _) hl9 hq_152 hqp (v >>> ((3 : Int32) &&& 31))) (y_cwS 3 (kw_4_25 hG) (kw_1_0 hG) (kw_4_23 hG) (kw_4_24 hG) yd_L_areAlike ⟨Nat.le_of_ble_eq_true rfl, Nat.le_of_ble_eq_true rfl⟩) (q_preS hG h hAb) rfl rfl hl.1 rfl (lv_room (Nat.le_of_ble_eq_true rfl)) dL_law_214 ⟨(by show cells + 0 + 4 + 408 ≤ 600104; omega), (by show slots + 0 + 41 + 4182 ≤ 7301314; omega)⟩) (fun r_214 X_214 H locs hp_214 h => ?_)
            obtain ⟨e_214, Xo_214, Xp_214, z_214, ho_214, hp_214⟩ := hp_214
            rw [z_214] at h
            have h : yH D (yLo sZ.heap.size) sZ.heap [] (Xo_214 ++ Xp_214) _ _ := h.pl (List.append_nil _)
            rw [e_214]
            refine lv_if_ne (tgt := 222) hx hb dL_law_217 (by decide) (fun c_217 => ?_) (fun c_217 => ?_)
            · skip
              refine lv_iinc (v := nI (i + 1)) (lv' := [(3, .int (nI (i + 1))), (7, .int 1), (5, .long (f σ).1), (4, .int v), (0, .ref b), (1, .ref yo), (2, .ref yp)]) hx hb dL_law_222 hl (k := 6) rfl (y_inc i) (by decide) rfl (fun ls hl => ?_)
              refine lv_goto (tgt := 136) hx hb dL_law_225 (by decide) ?_
              exact ih (i + 1) (by omega) (by omega) σ _ _ ho_214 hp_214 _ _ _ _ _ (by show cells + 0 + 4 + 408 ≤ 292 + 416 * (i + 1); omega) (by show slots + 0 + 41 + 4182 ≤ 9582 + 4264 * (i + 1); omega) h (lv_sub hl [4, 5, 6, 0] rfl)
            · exact absurd c_217 (by decide)
        · exact absurd c_184 (by decide)
      · skip
        have c_163 := fun q => c_163 ((lg_cmp_eq ((f σ).1) (-99999999)).mpr q)
        refine lv_lload hx hb dL_law_166 (lv_at hl 0 rfl) ?_
        refine lv_ldc2 (own := RL) (v := (-9000000000000000)) hx hb hown (kw_2_236 hG).b dL_law_168 ?_
        refine W.lcmp hx hb dL_law_171 ?_
        refine lv_if_ne (tgt := 179) hx hb dL_law_172 (by decide) (fun c_172 => ?_) (fun c_172 => ?_)
        · skip
          have c_172 := fun q => c_172 ((lg_cmp_eq ((f σ).1) (-9000000000000000)).mpr q)
          refine lv_iconst (v := 0) hx hb dL_law_179 (by decide) ?_
          refine lv_istore (lv' := [(7, .int 0), (5, .long (f σ).1), (4, .int v), (0, .ref b), (1, .ref yo), (2, .ref yp), (3, .int (nI i))]) hx hb dL_law_180 hl (by decide) rfl (fun ls hl => ?_)
          refine lv_iload hx hb dL_law_182 (lv_at hl 0 rfl) ?_
          refine lv_if_ne (tgt := 199) hx hb dL_law_184 (by decide) (fun c_184 => ?_) (fun c_184 => ?_)
          · exact absurd (by decide) c_184
          · skip
            refine lv_aload_n hx hb dL_law_187 rfl (lv_at hl 5 rfl) ?_
            refine lv_iload hx hb dL_law_188 (lv_at hl 2 rfl) ?_
            have h : yH D (yLo sZ.heap.size) sZ.heap Xp X_152 _ _ := q_swap (h.pl (X' := X_152) (pl' := Xp) rfl)
            refine q_calll h hA (va_runS (own := RL) (As := [.ref yp, .int v]) (rest := []) ⟨hx, hb, hml, hown, y_nil⟩ (hf (l := l) (D := D) (ty := ty) (base := _) (sz := _) hl9 hqp) (y_cwS 2 (kw_2_185 hG) (kw_1_0 hG) (kw_2_183 hG) (kw_2_184 hG) yd_L_act ⟨Nat.le_of_ble_eq_true rfl, Nat.le_of_ble_eq_true rfl⟩) (q_preS hG h hAb) rfl rfl hl.1 rfl (lv_room (Nat.le_of_ble_eq_true rfl)) dL_law_190 ⟨(by show cells + 0 + 4 + 4 ≤ 600104; omega), (by show slots + 0 + 41 + 41 ≤ 7301314; omega)⟩) (fun r_190 X_190 H locs hp_190 h => ?_)
            obtain ⟨e_190, hq_190⟩ := hp_190
            have h : yH D (yLo sZ.heap.size) sZ.heap [] (X_152 ++ X_190) _ _ := (q_swap h).pl rfl
            rw [e_190]
            refine lv_lload hx hb dL_law_193 (lv_at hl 1 rfl) ?_
            refine W.lcmp hx hb dL_law_195 ?_
            refine lv_if_ne (tgt := 220) hx hb dL_law_196 (by decide) (fun c_196 => ?_) (fun c_196 => ?_)
            · have c_196 := fun q => c_196 ((lg_cmp_eq ((f σ).1) ((f σ).1)).mpr q); exact absurd rfl c_196
            · skip
              have c_196 := (lg_cmp_eq ((f σ).1) ((f σ).1)).mp c_196
              refine lv_iload_n hx hb dL_law_199 rfl (lv_at hl 6 rfl) ?_
              refine lv_bipush (v := 30) hx hb dL_law_200 (by decide) ?_
              refine lv_irem hx hb dL_law_202 (by decide) ?_
              refine lv_bipush (v := 29) hx hb dL_law_203 (by decide) ?_
              refine lv_icmp_ne (tgt := 222) hx hb dL_law_205 (by decide) (fun c_205 => ?_) (fun c_205 => ?_)
              · skip
                refine lv_iinc (v := nI (i + 1)) (lv' := [(3, .int (nI (i + 1))), (7, .int 0), (5, .long (f σ).1), (4, .int v), (0, .ref b), (1, .ref yo), (2, .ref yp)]) hx hb dL_law_222 hl (k := 6) rfl (y_inc i) (by decide) rfl (fun ls hl => ?_)
                refine lv_goto (tgt := 136) hx hb dL_law_225 (by decide) ?_
                exact ih (i + 1) (by omega) (by omega) ((f σ).2) _ _ hq_152 hq_190 _ _ _ _ _ (by show cells + 0 + 4 + 4 ≤ 292 + 416 * (i + 1); omega) (by show slots + 0 + 41 + 41 ≤ 9582 + 4264 * (i + 1); omega) h (lv_sub hl [4, 5, 6, 0] rfl)
              · skip
                refine lv_aload_n hx hb dL_law_208 rfl (lv_at hl 4 rfl) ?_
                refine lv_aload_n hx hb dL_law_209 rfl (lv_at hl 5 rfl) ?_
                refine lv_iload hx hb dL_law_210 (lv_at hl 2 rfl) ?_
                refine lv_iconst (v := 3) hx hb dL_law_212 (by decide) ?_
                refine lv_ishr hx hb dL_law_213 ?_
                have h : yH D (yLo sZ.heap.size) sZ.heap (X_152 ++ X_190) [] _ _ := h.pl (List.append_nil _).symm
                refine q_calli h hA (va_runS (own := RL) (As := [.ref yo, .ref yp, .int (v >>> ((3 : Int32) &&& 31))]) (rest := []) ⟨hx, hb, hml, hown, y_nil⟩ (q_alike (l := l) (D := D) (ty := ty) (base := _) (sz := _) hl9 hq_152 hq_190 (v >>> ((3 : Int32) &&& 31))) (y_cwS 3 (kw_4_25 hG) (kw_1_0 hG) (kw_4_23 hG) (kw_4_24 hG) yd_L_areAlike ⟨Nat.le_of_ble_eq_true rfl, Nat.le_of_ble_eq_true rfl⟩) (q_preS hG h hAb) rfl rfl hl.1 rfl (lv_room (Nat.le_of_ble_eq_true rfl)) dL_law_214 ⟨(by show cells + 0 + 4 + 4 + 408 ≤ 600104; omega), (by show slots + 0 + 41 + 41 + 4182 ≤ 7301314; omega)⟩) (fun r_214 X_214 H locs hp_214 h => ?_)
                obtain ⟨e_214, Xo_214, Xp_214, z_214, ho_214, hp_214⟩ := hp_214
                rw [z_214] at h
                have h : yH D (yLo sZ.heap.size) sZ.heap [] (Xo_214 ++ Xp_214) _ _ := h.pl (List.append_nil _)
                rw [e_214]
                refine lv_if_ne (tgt := 222) hx hb dL_law_217 (by decide) (fun c_217 => ?_) (fun c_217 => ?_)
                · skip
                  refine lv_iinc (v := nI (i + 1)) (lv' := [(3, .int (nI (i + 1))), (7, .int 0), (5, .long (f σ).1), (4, .int v), (0, .ref b), (1, .ref yo), (2, .ref yp)]) hx hb dL_law_222 hl (k := 6) rfl (y_inc i) (by decide) rfl (fun ls hl => ?_)
                  refine lv_goto (tgt := 136) hx hb dL_law_225 (by decide) ?_
                  exact ih (i + 1) (by omega) (by omega) ((f σ).2) _ _ ho_214 hp_214 _ _ _ _ _ (by show cells + 0 + 4 + 4 + 408 ≤ 292 + 416 * (i + 1); omega) (by show slots + 0 + 41 + 41 + 4182 ≤ 9582 + 4264 * (i + 1); omega) h (lv_sub hl [4, 5, 6, 0] rfl)
                · exact absurd c_217 (by decide)
        · skip
          have c_172 := (lg_cmp_eq ((f σ).1) (-9000000000000000)).mp c_172
          have hbd : (f σ).2 = σ := hbad _ _ _ _ hqo (Or.inr c_172)
          refine lv_iconst (v := 1) hx hb dL_law_175 (by decide) ?_
          refine lv_goto (tgt := 180) hx hb dL_law_176 (by decide) ?_
          refine lv_istore (lv' := [(7, .int 1), (5, .long (f σ).1), (4, .int v), (0, .ref b), (1, .ref yo), (2, .ref yp), (3, .int (nI i))]) hx hb dL_law_180 hl (by decide) rfl (fun ls hl => ?_)
          refine lv_iload hx hb dL_law_182 (lv_at hl 0 rfl) ?_
          refine lv_if_ne (tgt := 199) hx hb dL_law_184 (by decide) (fun c_184 => ?_) (fun c_184 => ?_)
          · skip
            rw [hbd] at hq_152
            refine lv_iload_n hx hb dL_law_199 rfl (lv_at hl 6 rfl) ?_
            refine lv_bipush (v := 30) hx hb dL_law_200 (by decide) ?_
            refine lv_irem hx hb dL_law_202 (by decide) ?_
            refine lv_bipush (v := 29) hx hb dL_law_203 (by decide) ?_
            refine lv_icmp_ne (tgt := 222) hx hb dL_law_205 (by decide) (fun c_205 => ?_) (fun c_205 => ?_)
            · skip
              refine lv_iinc (v := nI (i + 1)) (lv' := [(3, .int (nI (i + 1))), (7, .int 1), (5, .long (f σ).1), (4, .int v), (0, .ref b), (1, .ref yo), (2, .ref yp)]) hx hb dL_law_222 hl (k := 6) rfl (y_inc i) (by decide) rfl (fun ls hl => ?_)
              refine lv_goto (tgt := 136) hx hb dL_law_225 (by decide) ?_
              exact ih (i + 1) (by omega) (by omega) σ _ _ hq_152 hqp _ _ _ _ _ (by show cells + 0 + 4 ≤ 292 + 416 * (i + 1); omega) (by show slots + 0 + 41 ≤ 9582 + 4264 * (i + 1); omega) h (lv_sub hl [4, 5, 6, 0] rfl)
            · skip
              refine lv_aload_n hx hb dL_law_208 rfl (lv_at hl 4 rfl) ?_
              refine lv_aload_n hx hb dL_law_209 rfl (lv_at hl 5 rfl) ?_
              refine lv_iload hx hb dL_law_210 (lv_at hl 2 rfl) ?_
              refine lv_iconst (v := 3) hx hb dL_law_212 (by decide) ?_
              refine lv_ishr hx hb dL_law_213 ?_
              have h : yH D (yLo sZ.heap.size) sZ.heap (X_152 ++ Xp) [] _ _ := h.pl (List.append_nil _).symm
              refine q_calli h hA (va_runS (own := RL) (As := [.ref yo, .ref yp, .int (v >>> ((3 : Int32) &&& 31))]) (rest := []) ⟨hx, hb, hml, hown, y_nil⟩ (q_alike (l := l) (D := D) (ty := ty) (base := _) (sz := _) hl9 hq_152 hqp (v >>> ((3 : Int32) &&& 31))) (y_cwS 3 (kw_4_25 hG) (kw_1_0 hG) (kw_4_23 hG) (kw_4_24 hG) yd_L_areAlike ⟨Nat.le_of_ble_eq_true rfl, Nat.le_of_ble_eq_true rfl⟩) (q_preS hG h hAb) rfl rfl hl.1 rfl (lv_room (Nat.le_of_ble_eq_true rfl)) dL_law_214 ⟨(by show cells + 0 + 4 + 408 ≤ 600104; omega), (by show slots + 0 + 41 + 4182 ≤ 7301314; omega)⟩) (fun r_214 X_214 H locs hp_214 h => ?_)
              obtain ⟨e_214, Xo_214, Xp_214, z_214, ho_214, hp_214⟩ := hp_214
              rw [z_214] at h
              have h : yH D (yLo sZ.heap.size) sZ.heap [] (Xo_214 ++ Xp_214) _ _ := h.pl (List.append_nil _)
              rw [e_214]
              refine lv_if_ne (tgt := 222) hx hb dL_law_217 (by decide) (fun c_217 => ?_) (fun c_217 => ?_)
              · skip
                refine lv_iinc (v := nI (i + 1)) (lv' := [(3, .int (nI (i + 1))), (7, .int 1), (5, .long (f σ).1), (4, .int v), (0, .ref b), (1, .ref yo), (2, .ref yp)]) hx hb dL_law_222 hl (k := 6) rfl (y_inc i) (by decide) rfl (fun ls hl => ?_)
                refine lv_goto (tgt := 136) hx hb dL_law_225 (by decide) ?_
                exact ih (i + 1) (by omega) (by omega) σ _ _ ho_214 hp_214 _ _ _ _ _ (by show cells + 0 + 4 + 408 ≤ 292 + 416 * (i + 1); omega) (by show slots + 0 + 41 + 4182 ≤ 9582 + 4264 * (i + 1); omega) h (lv_sub hl [4, 5, 6, 0] rfl)
              · exact absurd c_217 (by decide)
          · exact absurd c_184 (by decide)
set_option maxHeartbeats 4000000 in
set_option maxRecDepth 100000 in
theorem law_a {pZ : Program} {l : Launch} {eZ : Env} {sZ : State} {mZ : MethodId} {bZ : List Frame} {tZ : Method} {cZ : Code} {b L : Nat} {xs : Nat → Int32} {D : va_G} {ty : Nat → ClassId} (E : lgE pZ l sZ mZ tZ cZ b L xs D ty) {yo yp : Nat} {σ : QS} {Xo Xp : va_W} (hqo : qY ty yo σ Xo) (hqp : qY ty yp σ Xp) {H : Heap} {locs : List Loc} {ls : Array Slot} {cells slots : Nat} (hcc : cells ≤ 60) (hss : slots ≤ 8854) (h : yH D (yLo sZ.heap.size) sZ.heap [] (Xo ++ Xp) H locs) (hl : lv_has ls 8 [(0, .ref b), (1, .ref yo), (2, .ref yp)]) : W pZ l eZ room_1 sZ mZ #[Value.ref b] bZ tZ cZ H locs cells slots (lw_Z bZ #[Value.ref b] sZ) (F0 mZ 16 ls []) := by
  have E0 := E
  obtain ⟨hl9, hx, hb, hml, hown, hG, hX, hbl, hL, hr, hlocks⟩ := E
  have hA : ∀ q : Nat, sZ.heap.size ≤ q → (yLo sZ.heap.size) q := fun _ h => h
  have hAb : ∀ q : Nat, (yLo sZ.heap.size) q → sZ.heap.size ≤ q := fun _ h => h
  have hbA : ¬ (yLo sZ.heap.size) b := Nat.not_le.mpr hbl
  refine lv_iconst (v := 0) hx hb dL_law_16 (by decide) ?_
  refine lv_istore_n (lv' := [(3, .int 0), (0, .ref b), (1, .ref yo), (2, .ref yp)]) hx hb dL_law_17 rfl hl (by decide) rfl (fun ls hl => ?_)
  refine lv_iload_n hx hb dL_law_18 rfl (lv_at hl 0 rfl) ?_
  refine lv_iconst (v := 2) hx hb dL_law_19 (by decide) ?_
  refine lv_icmp_ge (tgt := 134) hx hb dL_law_20 (by decide) (fun c_20 => ?_) (fun c_20 => ?_)
  · exact absurd c_20 (by decide)
  · skip
    refine lv_aload_n hx hb dL_law_23 rfl (lv_at hl 1 rfl) ?_
    refine lv_iload_n hx hb dL_law_24 rfl (lv_at hl 0 rfl) ?_
    refine q_calli (X := []) h hA (va_runS (own := RL) (As := [.ref b, .int 0]) (rest := []) ⟨hx, hb, hml, hown, y_nil⟩ (q_cell (l := l) (D := D) (ty := ty) (base := _) (sz := _) (b := b) (L := L) (xs := xs) 0 (by decide) (by decide) hL) (y_cwS 2 (kw_1_217 hG) (kw_1_0 hG) (kw_1_215 hG) (kw_1_216 hG) yd_L_cell ⟨Nat.le_of_ble_eq_true rfl, Nat.le_of_ble_eq_true rfl⟩) (cell_pre hG hX hbl hbA hAb h) rfl rfl hl.1 rfl (lv_room (Nat.le_of_ble_eq_true rfl)) dL_law_25 ⟨(by show cells + 0 ≤ 600104; omega), (by show slots + 0 ≤ 7301314; omega)⟩) (fun r_25 X_25 H locs hp_25 h => ?_)
    obtain ⟨e_25, z_25⟩ := hp_25
    rw [z_25] at h
    have h : yH D (yLo sZ.heap.size) sZ.heap [] (Xo ++ Xp) _ _ := h
    rw [e_25]
    refine lv_istore (lv' := [(4, .int (cV L xs 0)), (3, .int 0), (0, .ref b), (1, .ref yo), (2, .ref yp)]) hx hb dL_law_28 hl (by decide) rfl (fun ls hl => ?_)
    refine lv_aload_n hx hb dL_law_30 rfl (lv_at hl 3 rfl) ?_
    refine lv_iload hx hb dL_law_31 (lv_at hl 0 rfl) ?_
    refine lv_sipush (v := 133) hx hb dL_law_33 (by decide) ?_
    refine y_calli (X' := fun _ : Unit => []) (wc := []) (wr := []) h hA [] [] [] rfl rfl (by decide) (by decide) (by decide) (fun _ => rfl) (va_runS (own := RL) (As := [.int (cV L xs 0), .int 133]) (rest := [.ref yo]) ⟨hx, hb, hml, hown, y_nil⟩ (m_L_low l D ty sZ.heap.size _ (cV L xs 0) 133   (by decide)) (y_cwS 2 (kw_1_220 hG) (kw_1_0 hG) (kw_1_218 hG) (kw_1_219 hG) yd_L_low ⟨Nat.le_of_ble_eq_true rfl, Nat.le_of_ble_eq_true rfl⟩) (y_preS hG h hAb [] rfl (by decide)) rfl rfl hl.1 rfl (lv_room (Nat.le_of_ble_eq_true rfl)) dL_law_36 ⟨(by show cells + 0 + 0 ≤ 600104; omega), (by show slots + 0 + 0 ≤ 7301314; omega)⟩) (fun r_36 _ H locs hp_36 h => ?_)
    have hp_36 : r_36 = qLow (cV L xs 0) 133 := hp_36
    have h : yH D (yLo sZ.heap.size) sZ.heap [] (Xo ++ Xp) _ _ := h
    rw [hp_36]
    refine lv_bipush (v := 66) hx hb dL_law_39 (by decide) ?_
    refine lv_isub hx hb dL_law_41 ?_
    refine lv_iconst (v := 5) hx hb dL_law_42 (by decide) ?_
    have h : yH D (yLo sZ.heap.size) sZ.heap Xo Xp _ _ := h.pl rfl
    refine q_calli h hA (vx_runSW (own := RL) (As := [.ref yo, .int ((qLow (cV L xs 0) 133) - (66 : Int32)), .int 5]) (rest := []) ⟨hx, hb, hml, hown, y_nil⟩ (q_place (l := l) (D := D) (ty := ty) (base := _) (sz := _) hl9 hqo ((qLow (cV L xs 0) 133) - (66 : Int32)) 5 ) (y_cwSW 3 (kw_1_224 hG) (kw_1_0 hG) (kw_1_222 hG) (kw_1_223 hG) yd_L_place ⟨Nat.le_of_ble_eq_true rfl, Nat.le_of_ble_eq_true rfl⟩) (q_preS hG h hAb) rfl rfl hl.1 rfl (lv_room (Nat.le_of_ble_eq_true rfl)) dL_law_43 ⟨(by show cells + 0 + 0 + 4 ≤ 600104; omega), (by show slots + 0 + 0 + 41 ≤ 7301314; omega)⟩) (fun r_43 X_43 H locs hp_43 h => ?_)
    obtain ⟨e_43, hq_43⟩ := hp_43
    have h : yH D (yLo sZ.heap.size) sZ.heap [] (X_43 ++ Xp) _ _ := h.pl rfl
    rw [e_43]
    refine lv_aload_n hx hb dL_law_46 rfl (lv_at hl 4 rfl) ?_
    refine lv_iload hx hb dL_law_47 (lv_at hl 0 rfl) ?_
    refine lv_sipush (v := 133) hx hb dL_law_49 (by decide) ?_
    refine y_calli (X' := fun _ : Unit => []) (wc := []) (wr := []) h hA [] [] [] rfl rfl (by decide) (by decide) (by decide) (fun _ => rfl) (va_runS (own := RL) (As := [.int (cV L xs 0), .int 133]) (rest := [.ref yp, .int (aPlace σ ((qLow (cV L xs 0) 133) - (66 : Int32)) 5)]) ⟨hx, hb, hml, hown, y_nil⟩ (m_L_low l D ty sZ.heap.size _ (cV L xs 0) 133   (by decide)) (y_cwS 2 (kw_1_220 hG) (kw_1_0 hG) (kw_1_218 hG) (kw_1_219 hG) yd_L_low ⟨Nat.le_of_ble_eq_true rfl, Nat.le_of_ble_eq_true rfl⟩) (y_preS hG h hAb [] rfl (by decide)) rfl rfl hl.1 rfl (lv_room (Nat.le_of_ble_eq_true rfl)) dL_law_52 ⟨(by show cells + 0 + 0 + 4 + 0 ≤ 600104; omega), (by show slots + 0 + 0 + 41 + 0 ≤ 7301314; omega)⟩) (fun r_52 _ H locs hp_52 h => ?_)
    have hp_52 : r_52 = qLow (cV L xs 0) 133 := hp_52
    have h : yH D (yLo sZ.heap.size) sZ.heap [] (X_43 ++ Xp) _ _ := h
    rw [hp_52]
    refine lv_bipush (v := 66) hx hb dL_law_55 (by decide) ?_
    refine lv_isub hx hb dL_law_57 ?_
    refine lv_iconst (v := 5) hx hb dL_law_58 (by decide) ?_
    have h : yH D (yLo sZ.heap.size) sZ.heap Xp X_43 _ _ := q_swap (h.pl (X' := X_43) (pl' := Xp) rfl)
    refine q_calli h hA (vx_runSW (own := RL) (As := [.ref yp, .int ((qLow (cV L xs 0) 133) - (66 : Int32)), .int 5]) (rest := [.int (aPlace σ ((qLow (cV L xs 0) 133) - (66 : Int32)) 5)]) ⟨hx, hb, hml, hown, y_nil⟩ (q_place (l := l) (D := D) (ty := ty) (base := _) (sz := _) hl9 hqp ((qLow (cV L xs 0) 133) - (66 : Int32)) 5 ) (y_cwSW 3 (kw_1_224 hG) (kw_1_0 hG) (kw_1_222 hG) (kw_1_223 hG) yd_L_place ⟨Nat.le_of_ble_eq_true rfl, Nat.le_of_ble_eq_true rfl⟩) (q_preS hG h hAb) rfl rfl hl.1 rfl (lv_room (Nat.le_of_ble_eq_true rfl)) dL_law_59 ⟨(by show cells + 0 + 0 + 4 + 0 + 4 ≤ 600104; omega), (by show slots + 0 + 0 + 41 + 0 + 41 ≤ 7301314; omega)⟩) (fun r_59 X_59 H locs hp_59 h => ?_)
    obtain ⟨e_59, hq_59⟩ := hp_59
    have h : yH D (yLo sZ.heap.size) sZ.heap [] (X_43 ++ X_59) _ _ := (q_swap h).pl rfl
    rw [e_59]
    refine lv_icmp_ne (tgt := 126) hx hb dL_law_62 (by decide) (fun c_62 => ?_) (fun c_62 => ?_)
    · exact absurd rfl c_62
    · skip
      refine lv_aload_n hx hb dL_law_65 rfl (lv_at hl 3 rfl) ?_
      refine lv_iload_n hx hb dL_law_66 rfl (lv_at hl 1 rfl) ?_
      refine lv_iload hx hb dL_law_67 (lv_at hl 0 rfl) ?_
      refine lv_iconst (v := 3) hx hb dL_law_69 (by decide) ?_
      refine lv_ishr hx hb dL_law_70 ?_
      refine lv_bipush (v := 91) hx hb dL_law_71 (by decide) ?_
      refine y_calli (X' := fun _ : Unit => []) (wc := []) (wr := []) h hA [] [] [] rfl rfl (by decide) (by decide) (by decide) (fun _ => rfl) (va_runS (own := RL) (As := [.int ((cV L xs 0) >>> ((3 : Int32) &&& 31)), .int 91]) (rest := [.int 0, .ref yo]) ⟨hx, hb, hml, hown, y_nil⟩ (m_L_low l D ty sZ.heap.size _ ((cV L xs 0) >>> ((3 : Int32) &&& 31)) 91   (by decide)) (y_cwS 2 (kw_1_220 hG) (kw_1_0 hG) (kw_1_218 hG) (kw_1_219 hG) yd_L_low ⟨Nat.le_of_ble_eq_true rfl, Nat.le_of_ble_eq_true rfl⟩) (y_preS hG h hAb [] rfl (by decide)) rfl rfl hl.1 rfl (lv_room (Nat.le_of_ble_eq_true rfl)) dL_law_73 ⟨(by show cells + 0 + 0 + 4 + 0 + 4 + 0 ≤ 600104; omega), (by show slots + 0 + 0 + 41 + 0 + 41 + 0 ≤ 7301314; omega)⟩) (fun r_73 _ H locs hp_73 h => ?_)
      have hp_73 : r_73 = qLow ((cV L xs 0) >>> ((3 : Int32) &&& 31)) 91 := hp_73
      have h : yH D (yLo sZ.heap.size) sZ.heap [] (X_43 ++ X_59) _ _ := h
      rw [hp_73]
      refine lv_iload hx hb dL_law_76 (lv_at hl 0 rfl) ?_
      refine lv_bipush (v := 6) hx hb dL_law_78 (by decide) ?_
      refine lv_ishr hx hb dL_law_80 ?_
      refine lv_bipush (v := 90) hx hb dL_law_81 (by decide) ?_
      refine y_calli (X' := fun _ : Unit => []) (wc := []) (wr := []) h hA [] [] [] rfl rfl (by decide) (by decide) (by decide) (fun _ => rfl) (va_runS (own := RL) (As := [.int ((cV L xs 0) >>> ((6 : Int32) &&& 31)), .int 90]) (rest := [.int (qLow ((cV L xs 0) >>> ((3 : Int32) &&& 31)) 91), .int 0, .ref yo]) ⟨hx, hb, hml, hown, y_nil⟩ (m_L_low l D ty sZ.heap.size _ ((cV L xs 0) >>> ((6 : Int32) &&& 31)) 90   (by decide)) (y_cwS 2 (kw_1_220 hG) (kw_1_0 hG) (kw_1_218 hG) (kw_1_219 hG) yd_L_low ⟨Nat.le_of_ble_eq_true rfl, Nat.le_of_ble_eq_true rfl⟩) (y_preS hG h hAb [] rfl (by decide)) rfl rfl hl.1 rfl (lv_room (Nat.le_of_ble_eq_true rfl)) dL_law_83 ⟨(by show cells + 0 + 0 + 4 + 0 + 4 + 0 + 0 ≤ 600104; omega), (by show slots + 0 + 0 + 41 + 0 + 41 + 0 + 0 ≤ 7301314; omega)⟩) (fun r_83 _ H locs hp_83 h => ?_)
      have hp_83 : r_83 = qLow ((cV L xs 0) >>> ((6 : Int32) &&& 31)) 90 := hp_83
      have h : yH D (yLo sZ.heap.size) sZ.heap [] (X_43 ++ X_59) _ _ := h
      rw [hp_83]
      refine lv_bipush (v := 45) hx hb dL_law_86 (by decide) ?_
      refine lv_isub hx hb dL_law_88 ?_
      refine lv_bipush (v := 100) hx hb dL_law_89 (by decide) ?_
      have h : yH D (yLo sZ.heap.size) sZ.heap X_43 X_59 _ _ := h.pl rfl
      refine q_calli h hA (vx_runSW (own := RL) (As := [.ref yo, .int 0, .int (qLow ((cV L xs 0) >>> ((3 : Int32) &&& 31)) 91), .int ((qLow ((cV L xs 0) >>> ((6 : Int32) &&& 31)) 90) - (45 : Int32)), .int 100]) (rest := []) ⟨hx, hb, hml, hown, y_nil⟩ (q_dial (l := l) (D := D) (ty := ty) (base := _) (sz := _) hl9 hq_43 0 (qLow ((cV L xs 0) >>> ((3 : Int32) &&& 31)) 91) ((qLow ((cV L xs 0) >>> ((6 : Int32) &&& 31)) 90) - (45 : Int32)) 100 ) (y_cwSW 5 (kw_2_101 hG) (kw_1_0 hG) (kw_2_99 hG) (kw_2_100 hG) yd_L_dial ⟨Nat.le_of_ble_eq_true rfl, Nat.le_of_ble_eq_true rfl⟩) (q_preS hG h hAb) rfl rfl hl.1 rfl (lv_room (Nat.le_of_ble_eq_true rfl)) dL_law_91 ⟨(by show cells + 0 + 0 + 4 + 0 + 4 + 0 + 0 + 4 ≤ 600104; omega), (by show slots + 0 + 0 + 41 + 0 + 41 + 0 + 0 + 41 ≤ 7301314; omega)⟩) (fun r_91 X_91 H locs hp_91 h => ?_)
      obtain ⟨e_91, hq_91⟩ := hp_91
      have h : yH D (yLo sZ.heap.size) sZ.heap [] (X_91 ++ X_59) _ _ := h.pl rfl
      rw [e_91]
      refine lv_aload_n hx hb dL_law_94 rfl (lv_at hl 4 rfl) ?_
      refine lv_iload_n hx hb dL_law_95 rfl (lv_at hl 1 rfl) ?_
      refine lv_iload hx hb dL_law_96 (lv_at hl 0 rfl) ?_
      refine lv_iconst (v := 3) hx hb dL_law_98 (by decide) ?_
      refine lv_ishr hx hb dL_law_99 ?_
      refine lv_bipush (v := 91) hx hb dL_law_100 (by decide) ?_
      refine y_calli (X' := fun _ : Unit => []) (wc := []) (wr := []) h hA [] [] [] rfl rfl (by decide) (by decide) (by decide) (fun _ => rfl) (va_runS (own := RL) (As := [.int ((cV L xs 0) >>> ((3 : Int32) &&& 31)), .int 91]) (rest := [.int 0, .ref yp, .int (aDial (nPlace σ ((qLow (cV L xs 0) 133) - (66 : Int32)) 5) 0 (qLow ((cV L xs 0) >>> ((3 : Int32) &&& 31)) 91) ((qLow ((cV L xs 0) >>> ((6 : Int32) &&& 31)) 90) - (45 : Int32)) 100)]) ⟨hx, hb, hml, hown, y_nil⟩ (m_L_low l D ty sZ.heap.size _ ((cV L xs 0) >>> ((3 : Int32) &&& 31)) 91   (by decide)) (y_cwS 2 (kw_1_220 hG) (kw_1_0 hG) (kw_1_218 hG) (kw_1_219 hG) yd_L_low ⟨Nat.le_of_ble_eq_true rfl, Nat.le_of_ble_eq_true rfl⟩) (y_preS hG h hAb [] rfl (by decide)) rfl rfl hl.1 rfl (lv_room (Nat.le_of_ble_eq_true rfl)) dL_law_102 ⟨(by show cells + 0 + 0 + 4 + 0 + 4 + 0 + 0 + 4 + 0 ≤ 600104; omega), (by show slots + 0 + 0 + 41 + 0 + 41 + 0 + 0 + 41 + 0 ≤ 7301314; omega)⟩) (fun r_102 _ H locs hp_102 h => ?_)
      have hp_102 : r_102 = qLow ((cV L xs 0) >>> ((3 : Int32) &&& 31)) 91 := hp_102
      have h : yH D (yLo sZ.heap.size) sZ.heap [] (X_91 ++ X_59) _ _ := h
      rw [hp_102]
      refine lv_iload hx hb dL_law_105 (lv_at hl 0 rfl) ?_
      refine lv_bipush (v := 6) hx hb dL_law_107 (by decide) ?_
      refine lv_ishr hx hb dL_law_109 ?_
      refine lv_bipush (v := 90) hx hb dL_law_110 (by decide) ?_
      refine y_calli (X' := fun _ : Unit => []) (wc := []) (wr := []) h hA [] [] [] rfl rfl (by decide) (by decide) (by decide) (fun _ => rfl) (va_runS (own := RL) (As := [.int ((cV L xs 0) >>> ((6 : Int32) &&& 31)), .int 90]) (rest := [.int (qLow ((cV L xs 0) >>> ((3 : Int32) &&& 31)) 91), .int 0, .ref yp, .int (aDial (nPlace σ ((qLow (cV L xs 0) 133) - (66 : Int32)) 5) 0 (qLow ((cV L xs 0) >>> ((3 : Int32) &&& 31)) 91) ((qLow ((cV L xs 0) >>> ((6 : Int32) &&& 31)) 90) - (45 : Int32)) 100)]) ⟨hx, hb, hml, hown, y_nil⟩ (m_L_low l D ty sZ.heap.size _ ((cV L xs 0) >>> ((6 : Int32) &&& 31)) 90   (by decide)) (y_cwS 2 (kw_1_220 hG) (kw_1_0 hG) (kw_1_218 hG) (kw_1_219 hG) yd_L_low ⟨Nat.le_of_ble_eq_true rfl, Nat.le_of_ble_eq_true rfl⟩) (y_preS hG h hAb [] rfl (by decide)) rfl rfl hl.1 rfl (lv_room (Nat.le_of_ble_eq_true rfl)) dL_law_112 ⟨(by show cells + 0 + 0 + 4 + 0 + 4 + 0 + 0 + 4 + 0 + 0 ≤ 600104; omega), (by show slots + 0 + 0 + 41 + 0 + 41 + 0 + 0 + 41 + 0 + 0 ≤ 7301314; omega)⟩) (fun r_112 _ H locs hp_112 h => ?_)
      have hp_112 : r_112 = qLow ((cV L xs 0) >>> ((6 : Int32) &&& 31)) 90 := hp_112
      have h : yH D (yLo sZ.heap.size) sZ.heap [] (X_91 ++ X_59) _ _ := h
      rw [hp_112]
      refine lv_bipush (v := 45) hx hb dL_law_115 (by decide) ?_
      refine lv_isub hx hb dL_law_117 ?_
      refine lv_bipush (v := 100) hx hb dL_law_118 (by decide) ?_
      have h : yH D (yLo sZ.heap.size) sZ.heap X_59 X_91 _ _ := q_swap (h.pl (X' := X_91) (pl' := X_59) rfl)
      refine q_calli h hA (vx_runSW (own := RL) (As := [.ref yp, .int 0, .int (qLow ((cV L xs 0) >>> ((3 : Int32) &&& 31)) 91), .int ((qLow ((cV L xs 0) >>> ((6 : Int32) &&& 31)) 90) - (45 : Int32)), .int 100]) (rest := [.int (aDial (nPlace σ ((qLow (cV L xs 0) 133) - (66 : Int32)) 5) 0 (qLow ((cV L xs 0) >>> ((3 : Int32) &&& 31)) 91) ((qLow ((cV L xs 0) >>> ((6 : Int32) &&& 31)) 90) - (45 : Int32)) 100)]) ⟨hx, hb, hml, hown, y_nil⟩ (q_dial (l := l) (D := D) (ty := ty) (base := _) (sz := _) hl9 hq_59 0 (qLow ((cV L xs 0) >>> ((3 : Int32) &&& 31)) 91) ((qLow ((cV L xs 0) >>> ((6 : Int32) &&& 31)) 90) - (45 : Int32)) 100 ) (y_cwSW 5 (kw_2_101 hG) (kw_1_0 hG) (kw_2_99 hG) (kw_2_100 hG) yd_L_dial ⟨Nat.le_of_ble_eq_true rfl, Nat.le_of_ble_eq_true rfl⟩) (q_preS hG h hAb) rfl rfl hl.1 rfl (lv_room (Nat.le_of_ble_eq_true rfl)) dL_law_120 ⟨(by show cells + 0 + 0 + 4 + 0 + 4 + 0 + 0 + 4 + 0 + 0 + 4 ≤ 600104; omega), (by show slots + 0 + 0 + 41 + 0 + 41 + 0 + 0 + 41 + 0 + 0 + 41 ≤ 7301314; omega)⟩) (fun r_120 X_120 H locs hp_120 h => ?_)
      obtain ⟨e_120, hq_120⟩ := hp_120
      have h : yH D (yLo sZ.heap.size) sZ.heap [] (X_91 ++ X_120) _ _ := (q_swap h).pl rfl
      rw [e_120]
      refine lv_icmp_eq (tgt := 128) hx hb dL_law_123 (by decide) (fun c_123 => ?_) (fun c_123 => ?_)
      · skip
        refine lv_iinc (v := 1) (lv' := [(3, .int 1), (4, .int (cV L xs 0)), (0, .ref b), (1, .ref yo), (2, .ref yp)]) hx hb dL_law_128 hl (k := 1) rfl (show (0 : Int32) + Int32.ofInt 1 = 1 from by decide) (by decide) rfl (fun ls hl => ?_)
        refine lv_goto (tgt := 18) hx hb dL_law_131 (by decide) ?_
        refine lv_iload_n hx hb dL_law_18 rfl (lv_at hl 0 rfl) ?_
        refine lv_iconst (v := 2) hx hb dL_law_19 (by decide) ?_
        refine lv_icmp_ge (tgt := 134) hx hb dL_law_20 (by decide) (fun c_20 => ?_) (fun c_20 => ?_)
        · exact absurd c_20 (by decide)
        · skip
          refine lv_aload_n hx hb dL_law_23 rfl (lv_at hl 2 rfl) ?_
          refine lv_iload_n hx hb dL_law_24 rfl (lv_at hl 0 rfl) ?_
          refine q_calli (X := []) h hA (va_runS (own := RL) (As := [.ref b, .int 1]) (rest := []) ⟨hx, hb, hml, hown, y_nil⟩ (q_cell (l := l) (D := D) (ty := ty) (base := _) (sz := _) (b := b) (L := L) (xs := xs) 1 (by decide) (by decide) hL) (y_cwS 2 (kw_1_217 hG) (kw_1_0 hG) (kw_1_215 hG) (kw_1_216 hG) yd_L_cell ⟨Nat.le_of_ble_eq_true rfl, Nat.le_of_ble_eq_true rfl⟩) (cell_pre hG hX hbl hbA hAb h) rfl rfl hl.1 rfl (lv_room (Nat.le_of_ble_eq_true rfl)) dL_law_25 ⟨(by show cells + 0 + 0 + 4 + 0 + 4 + 0 + 0 + 4 + 0 + 0 + 4 + 0 ≤ 600104; omega), (by show slots + 0 + 0 + 41 + 0 + 41 + 0 + 0 + 41 + 0 + 0 + 41 + 0 ≤ 7301314; omega)⟩) (fun r_25w2 X_25w2 H locs hp_25w2 h => ?_)
          obtain ⟨e_25w2, z_25w2⟩ := hp_25w2
          rw [z_25w2] at h
          have h : yH D (yLo sZ.heap.size) sZ.heap [] (X_91 ++ X_120) _ _ := h
          rw [e_25w2]
          refine lv_istore (lv' := [(4, .int (cV L xs 1)), (3, .int 1), (0, .ref b), (1, .ref yo), (2, .ref yp)]) hx hb dL_law_28 hl (by decide) rfl (fun ls hl => ?_)
          refine lv_aload_n hx hb dL_law_30 rfl (lv_at hl 3 rfl) ?_
          refine lv_iload hx hb dL_law_31 (lv_at hl 0 rfl) ?_
          refine lv_sipush (v := 133) hx hb dL_law_33 (by decide) ?_
          refine y_calli (X' := fun _ : Unit => []) (wc := []) (wr := []) h hA [] [] [] rfl rfl (by decide) (by decide) (by decide) (fun _ => rfl) (va_runS (own := RL) (As := [.int (cV L xs 1), .int 133]) (rest := [.ref yo]) ⟨hx, hb, hml, hown, y_nil⟩ (m_L_low l D ty sZ.heap.size _ (cV L xs 1) 133   (by decide)) (y_cwS 2 (kw_1_220 hG) (kw_1_0 hG) (kw_1_218 hG) (kw_1_219 hG) yd_L_low ⟨Nat.le_of_ble_eq_true rfl, Nat.le_of_ble_eq_true rfl⟩) (y_preS hG h hAb [] rfl (by decide)) rfl rfl hl.1 rfl (lv_room (Nat.le_of_ble_eq_true rfl)) dL_law_36 ⟨(by show cells + 0 + 0 + 4 + 0 + 4 + 0 + 0 + 4 + 0 + 0 + 4 + 0 + 0 ≤ 600104; omega), (by show slots + 0 + 0 + 41 + 0 + 41 + 0 + 0 + 41 + 0 + 0 + 41 + 0 + 0 ≤ 7301314; omega)⟩) (fun r_36w2 _ H locs hp_36w2 h => ?_)
          have hp_36w2 : r_36w2 = qLow (cV L xs 1) 133 := hp_36w2
          have h : yH D (yLo sZ.heap.size) sZ.heap [] (X_91 ++ X_120) _ _ := h
          rw [hp_36w2]
          refine lv_bipush (v := 66) hx hb dL_law_39 (by decide) ?_
          refine lv_isub hx hb dL_law_41 ?_
          refine lv_iconst (v := 5) hx hb dL_law_42 (by decide) ?_
          have h : yH D (yLo sZ.heap.size) sZ.heap X_91 X_120 _ _ := h.pl rfl
          refine q_calli h hA (vx_runSW (own := RL) (As := [.ref yo, .int ((qLow (cV L xs 1) 133) - (66 : Int32)), .int 5]) (rest := []) ⟨hx, hb, hml, hown, y_nil⟩ (q_place (l := l) (D := D) (ty := ty) (base := _) (sz := _) hl9 hq_91 ((qLow (cV L xs 1) 133) - (66 : Int32)) 5 ) (y_cwSW 3 (kw_1_224 hG) (kw_1_0 hG) (kw_1_222 hG) (kw_1_223 hG) yd_L_place ⟨Nat.le_of_ble_eq_true rfl, Nat.le_of_ble_eq_true rfl⟩) (q_preS hG h hAb) rfl rfl hl.1 rfl (lv_room (Nat.le_of_ble_eq_true rfl)) dL_law_43 ⟨(by show cells + 0 + 0 + 4 + 0 + 4 + 0 + 0 + 4 + 0 + 0 + 4 + 0 + 0 + 4 ≤ 600104; omega), (by show slots + 0 + 0 + 41 + 0 + 41 + 0 + 0 + 41 + 0 + 0 + 41 + 0 + 0 + 41 ≤ 7301314; omega)⟩) (fun r_43w2 X_43w2 H locs hp_43w2 h => ?_)
          obtain ⟨e_43w2, hq_43w2⟩ := hp_43w2
          have h : yH D (yLo sZ.heap.size) sZ.heap [] (X_43w2 ++ X_120) _ _ := h.pl rfl
          rw [e_43w2]
          refine lv_aload_n hx hb dL_law_46 rfl (lv_at hl 4 rfl) ?_
          refine lv_iload hx hb dL_law_47 (lv_at hl 0 rfl) ?_
          refine lv_sipush (v := 133) hx hb dL_law_49 (by decide) ?_
          refine y_calli (X' := fun _ : Unit => []) (wc := []) (wr := []) h hA [] [] [] rfl rfl (by decide) (by decide) (by decide) (fun _ => rfl) (va_runS (own := RL) (As := [.int (cV L xs 1), .int 133]) (rest := [.ref yp, .int (aPlace (nDial (nPlace σ ((qLow (cV L xs 0) 133) - (66 : Int32)) 5) 0 (qLow ((cV L xs 0) >>> ((3 : Int32) &&& 31)) 91) ((qLow ((cV L xs 0) >>> ((6 : Int32) &&& 31)) 90) - (45 : Int32)) 100) ((qLow (cV L xs 1) 133) - (66 : Int32)) 5)]) ⟨hx, hb, hml, hown, y_nil⟩ (m_L_low l D ty sZ.heap.size _ (cV L xs 1) 133   (by decide)) (y_cwS 2 (kw_1_220 hG) (kw_1_0 hG) (kw_1_218 hG) (kw_1_219 hG) yd_L_low ⟨Nat.le_of_ble_eq_true rfl, Nat.le_of_ble_eq_true rfl⟩) (y_preS hG h hAb [] rfl (by decide)) rfl rfl hl.1 rfl (lv_room (Nat.le_of_ble_eq_true rfl)) dL_law_52 ⟨(by show cells + 0 + 0 + 4 + 0 + 4 + 0 + 0 + 4 + 0 + 0 + 4 + 0 + 0 + 4 + 0 ≤ 600104; omega), (by show slots + 0 + 0 + 41 + 0 + 41 + 0 + 0 + 41 + 0 + 0 + 41 + 0 + 0 + 41 + 0 ≤ 7301314; omega)⟩) (fun r_52w2 _ H locs hp_52w2 h => ?_)
          have hp_52w2 : r_52w2 = qLow (cV L xs 1) 133 := hp_52w2
          have h : yH D (yLo sZ.heap.size) sZ.heap [] (X_43w2 ++ X_120) _ _ := h
          rw [hp_52w2]
          refine lv_bipush (v := 66) hx hb dL_law_55 (by decide) ?_
          refine lv_isub hx hb dL_law_57 ?_
          refine lv_iconst (v := 5) hx hb dL_law_58 (by decide) ?_
          have h : yH D (yLo sZ.heap.size) sZ.heap X_120 X_43w2 _ _ := q_swap (h.pl (X' := X_43w2) (pl' := X_120) rfl)
          refine q_calli h hA (vx_runSW (own := RL) (As := [.ref yp, .int ((qLow (cV L xs 1) 133) - (66 : Int32)), .int 5]) (rest := [.int (aPlace (nDial (nPlace σ ((qLow (cV L xs 0) 133) - (66 : Int32)) 5) 0 (qLow ((cV L xs 0) >>> ((3 : Int32) &&& 31)) 91) ((qLow ((cV L xs 0) >>> ((6 : Int32) &&& 31)) 90) - (45 : Int32)) 100) ((qLow (cV L xs 1) 133) - (66 : Int32)) 5)]) ⟨hx, hb, hml, hown, y_nil⟩ (q_place (l := l) (D := D) (ty := ty) (base := _) (sz := _) hl9 hq_120 ((qLow (cV L xs 1) 133) - (66 : Int32)) 5 ) (y_cwSW 3 (kw_1_224 hG) (kw_1_0 hG) (kw_1_222 hG) (kw_1_223 hG) yd_L_place ⟨Nat.le_of_ble_eq_true rfl, Nat.le_of_ble_eq_true rfl⟩) (q_preS hG h hAb) rfl rfl hl.1 rfl (lv_room (Nat.le_of_ble_eq_true rfl)) dL_law_59 ⟨(by show cells + 0 + 0 + 4 + 0 + 4 + 0 + 0 + 4 + 0 + 0 + 4 + 0 + 0 + 4 + 0 + 4 ≤ 600104; omega), (by show slots + 0 + 0 + 41 + 0 + 41 + 0 + 0 + 41 + 0 + 0 + 41 + 0 + 0 + 41 + 0 + 41 ≤ 7301314; omega)⟩) (fun r_59w2 X_59w2 H locs hp_59w2 h => ?_)
          obtain ⟨e_59w2, hq_59w2⟩ := hp_59w2
          have h : yH D (yLo sZ.heap.size) sZ.heap [] (X_43w2 ++ X_59w2) _ _ := (q_swap h).pl rfl
          rw [e_59w2]
          refine lv_icmp_ne (tgt := 126) hx hb dL_law_62 (by decide) (fun c_62 => ?_) (fun c_62 => ?_)
          · exact absurd rfl c_62
          · skip
            refine lv_aload_n hx hb dL_law_65 rfl (lv_at hl 3 rfl) ?_
            refine lv_iload_n hx hb dL_law_66 rfl (lv_at hl 1 rfl) ?_
            refine lv_iload hx hb dL_law_67 (lv_at hl 0 rfl) ?_
            refine lv_iconst (v := 3) hx hb dL_law_69 (by decide) ?_
            refine lv_ishr hx hb dL_law_70 ?_
            refine lv_bipush (v := 91) hx hb dL_law_71 (by decide) ?_
            refine y_calli (X' := fun _ : Unit => []) (wc := []) (wr := []) h hA [] [] [] rfl rfl (by decide) (by decide) (by decide) (fun _ => rfl) (va_runS (own := RL) (As := [.int ((cV L xs 1) >>> ((3 : Int32) &&& 31)), .int 91]) (rest := [.int 1, .ref yo]) ⟨hx, hb, hml, hown, y_nil⟩ (m_L_low l D ty sZ.heap.size _ ((cV L xs 1) >>> ((3 : Int32) &&& 31)) 91   (by decide)) (y_cwS 2 (kw_1_220 hG) (kw_1_0 hG) (kw_1_218 hG) (kw_1_219 hG) yd_L_low ⟨Nat.le_of_ble_eq_true rfl, Nat.le_of_ble_eq_true rfl⟩) (y_preS hG h hAb [] rfl (by decide)) rfl rfl hl.1 rfl (lv_room (Nat.le_of_ble_eq_true rfl)) dL_law_73 ⟨(by show cells + 0 + 0 + 4 + 0 + 4 + 0 + 0 + 4 + 0 + 0 + 4 + 0 + 0 + 4 + 0 + 4 + 0 ≤ 600104; omega), (by show slots + 0 + 0 + 41 + 0 + 41 + 0 + 0 + 41 + 0 + 0 + 41 + 0 + 0 + 41 + 0 + 41 + 0 ≤ 7301314; omega)⟩) (fun r_73w2 _ H locs hp_73w2 h => ?_)
            have hp_73w2 : r_73w2 = qLow ((cV L xs 1) >>> ((3 : Int32) &&& 31)) 91 := hp_73w2
            have h : yH D (yLo sZ.heap.size) sZ.heap [] (X_43w2 ++ X_59w2) _ _ := h
            rw [hp_73w2]
            refine lv_iload hx hb dL_law_76 (lv_at hl 0 rfl) ?_
            refine lv_bipush (v := 6) hx hb dL_law_78 (by decide) ?_
            refine lv_ishr hx hb dL_law_80 ?_
            refine lv_bipush (v := 90) hx hb dL_law_81 (by decide) ?_
            refine y_calli (X' := fun _ : Unit => []) (wc := []) (wr := []) h hA [] [] [] rfl rfl (by decide) (by decide) (by decide) (fun _ => rfl) (va_runS (own := RL) (As := [.int ((cV L xs 1) >>> ((6 : Int32) &&& 31)), .int 90]) (rest := [.int (qLow ((cV L xs 1) >>> ((3 : Int32) &&& 31)) 91), .int 1, .ref yo]) ⟨hx, hb, hml, hown, y_nil⟩ (m_L_low l D ty sZ.heap.size _ ((cV L xs 1) >>> ((6 : Int32) &&& 31)) 90   (by decide)) (y_cwS 2 (kw_1_220 hG) (kw_1_0 hG) (kw_1_218 hG) (kw_1_219 hG) yd_L_low ⟨Nat.le_of_ble_eq_true rfl, Nat.le_of_ble_eq_true rfl⟩) (y_preS hG h hAb [] rfl (by decide)) rfl rfl hl.1 rfl (lv_room (Nat.le_of_ble_eq_true rfl)) dL_law_83 ⟨(by show cells + 0 + 0 + 4 + 0 + 4 + 0 + 0 + 4 + 0 + 0 + 4 + 0 + 0 + 4 + 0 + 4 + 0 + 0 ≤ 600104; omega), (by show slots + 0 + 0 + 41 + 0 + 41 + 0 + 0 + 41 + 0 + 0 + 41 + 0 + 0 + 41 + 0 + 41 + 0 + 0 ≤ 7301314; omega)⟩) (fun r_83w2 _ H locs hp_83w2 h => ?_)
            have hp_83w2 : r_83w2 = qLow ((cV L xs 1) >>> ((6 : Int32) &&& 31)) 90 := hp_83w2
            have h : yH D (yLo sZ.heap.size) sZ.heap [] (X_43w2 ++ X_59w2) _ _ := h
            rw [hp_83w2]
            refine lv_bipush (v := 45) hx hb dL_law_86 (by decide) ?_
            refine lv_isub hx hb dL_law_88 ?_
            refine lv_bipush (v := 100) hx hb dL_law_89 (by decide) ?_
            have h : yH D (yLo sZ.heap.size) sZ.heap X_43w2 X_59w2 _ _ := h.pl rfl
            refine q_calli h hA (vx_runSW (own := RL) (As := [.ref yo, .int 1, .int (qLow ((cV L xs 1) >>> ((3 : Int32) &&& 31)) 91), .int ((qLow ((cV L xs 1) >>> ((6 : Int32) &&& 31)) 90) - (45 : Int32)), .int 100]) (rest := []) ⟨hx, hb, hml, hown, y_nil⟩ (q_dial (l := l) (D := D) (ty := ty) (base := _) (sz := _) hl9 hq_43w2 1 (qLow ((cV L xs 1) >>> ((3 : Int32) &&& 31)) 91) ((qLow ((cV L xs 1) >>> ((6 : Int32) &&& 31)) 90) - (45 : Int32)) 100 ) (y_cwSW 5 (kw_2_101 hG) (kw_1_0 hG) (kw_2_99 hG) (kw_2_100 hG) yd_L_dial ⟨Nat.le_of_ble_eq_true rfl, Nat.le_of_ble_eq_true rfl⟩) (q_preS hG h hAb) rfl rfl hl.1 rfl (lv_room (Nat.le_of_ble_eq_true rfl)) dL_law_91 ⟨(by show cells + 0 + 0 + 4 + 0 + 4 + 0 + 0 + 4 + 0 + 0 + 4 + 0 + 0 + 4 + 0 + 4 + 0 + 0 + 4 ≤ 600104; omega), (by show slots + 0 + 0 + 41 + 0 + 41 + 0 + 0 + 41 + 0 + 0 + 41 + 0 + 0 + 41 + 0 + 41 + 0 + 0 + 41 ≤ 7301314; omega)⟩) (fun r_91w2 X_91w2 H locs hp_91w2 h => ?_)
            obtain ⟨e_91w2, hq_91w2⟩ := hp_91w2
            have h : yH D (yLo sZ.heap.size) sZ.heap [] (X_91w2 ++ X_59w2) _ _ := h.pl rfl
            rw [e_91w2]
            refine lv_aload_n hx hb dL_law_94 rfl (lv_at hl 4 rfl) ?_
            refine lv_iload_n hx hb dL_law_95 rfl (lv_at hl 1 rfl) ?_
            refine lv_iload hx hb dL_law_96 (lv_at hl 0 rfl) ?_
            refine lv_iconst (v := 3) hx hb dL_law_98 (by decide) ?_
            refine lv_ishr hx hb dL_law_99 ?_
            refine lv_bipush (v := 91) hx hb dL_law_100 (by decide) ?_
            refine y_calli (X' := fun _ : Unit => []) (wc := []) (wr := []) h hA [] [] [] rfl rfl (by decide) (by decide) (by decide) (fun _ => rfl) (va_runS (own := RL) (As := [.int ((cV L xs 1) >>> ((3 : Int32) &&& 31)), .int 91]) (rest := [.int 1, .ref yp, .int (aDial (nPlace (nDial (nPlace σ ((qLow (cV L xs 0) 133) - (66 : Int32)) 5) 0 (qLow ((cV L xs 0) >>> ((3 : Int32) &&& 31)) 91) ((qLow ((cV L xs 0) >>> ((6 : Int32) &&& 31)) 90) - (45 : Int32)) 100) ((qLow (cV L xs 1) 133) - (66 : Int32)) 5) 1 (qLow ((cV L xs 1) >>> ((3 : Int32) &&& 31)) 91) ((qLow ((cV L xs 1) >>> ((6 : Int32) &&& 31)) 90) - (45 : Int32)) 100)]) ⟨hx, hb, hml, hown, y_nil⟩ (m_L_low l D ty sZ.heap.size _ ((cV L xs 1) >>> ((3 : Int32) &&& 31)) 91   (by decide)) (y_cwS 2 (kw_1_220 hG) (kw_1_0 hG) (kw_1_218 hG) (kw_1_219 hG) yd_L_low ⟨Nat.le_of_ble_eq_true rfl, Nat.le_of_ble_eq_true rfl⟩) (y_preS hG h hAb [] rfl (by decide)) rfl rfl hl.1 rfl (lv_room (Nat.le_of_ble_eq_true rfl)) dL_law_102 ⟨(by show cells + 0 + 0 + 4 + 0 + 4 + 0 + 0 + 4 + 0 + 0 + 4 + 0 + 0 + 4 + 0 + 4 + 0 + 0 + 4 + 0 ≤ 600104; omega), (by show slots + 0 + 0 + 41 + 0 + 41 + 0 + 0 + 41 + 0 + 0 + 41 + 0 + 0 + 41 + 0 + 41 + 0 + 0 + 41 + 0 ≤ 7301314; omega)⟩) (fun r_102w2 _ H locs hp_102w2 h => ?_)
            have hp_102w2 : r_102w2 = qLow ((cV L xs 1) >>> ((3 : Int32) &&& 31)) 91 := hp_102w2
            have h : yH D (yLo sZ.heap.size) sZ.heap [] (X_91w2 ++ X_59w2) _ _ := h
            rw [hp_102w2]
            refine lv_iload hx hb dL_law_105 (lv_at hl 0 rfl) ?_
            refine lv_bipush (v := 6) hx hb dL_law_107 (by decide) ?_
            refine lv_ishr hx hb dL_law_109 ?_
            refine lv_bipush (v := 90) hx hb dL_law_110 (by decide) ?_
            refine y_calli (X' := fun _ : Unit => []) (wc := []) (wr := []) h hA [] [] [] rfl rfl (by decide) (by decide) (by decide) (fun _ => rfl) (va_runS (own := RL) (As := [.int ((cV L xs 1) >>> ((6 : Int32) &&& 31)), .int 90]) (rest := [.int (qLow ((cV L xs 1) >>> ((3 : Int32) &&& 31)) 91), .int 1, .ref yp, .int (aDial (nPlace (nDial (nPlace σ ((qLow (cV L xs 0) 133) - (66 : Int32)) 5) 0 (qLow ((cV L xs 0) >>> ((3 : Int32) &&& 31)) 91) ((qLow ((cV L xs 0) >>> ((6 : Int32) &&& 31)) 90) - (45 : Int32)) 100) ((qLow (cV L xs 1) 133) - (66 : Int32)) 5) 1 (qLow ((cV L xs 1) >>> ((3 : Int32) &&& 31)) 91) ((qLow ((cV L xs 1) >>> ((6 : Int32) &&& 31)) 90) - (45 : Int32)) 100)]) ⟨hx, hb, hml, hown, y_nil⟩ (m_L_low l D ty sZ.heap.size _ ((cV L xs 1) >>> ((6 : Int32) &&& 31)) 90   (by decide)) (y_cwS 2 (kw_1_220 hG) (kw_1_0 hG) (kw_1_218 hG) (kw_1_219 hG) yd_L_low ⟨Nat.le_of_ble_eq_true rfl, Nat.le_of_ble_eq_true rfl⟩) (y_preS hG h hAb [] rfl (by decide)) rfl rfl hl.1 rfl (lv_room (Nat.le_of_ble_eq_true rfl)) dL_law_112 ⟨(by show cells + 0 + 0 + 4 + 0 + 4 + 0 + 0 + 4 + 0 + 0 + 4 + 0 + 0 + 4 + 0 + 4 + 0 + 0 + 4 + 0 + 0 ≤ 600104; omega), (by show slots + 0 + 0 + 41 + 0 + 41 + 0 + 0 + 41 + 0 + 0 + 41 + 0 + 0 + 41 + 0 + 41 + 0 + 0 + 41 + 0 + 0 ≤ 7301314; omega)⟩) (fun r_112w2 _ H locs hp_112w2 h => ?_)
            have hp_112w2 : r_112w2 = qLow ((cV L xs 1) >>> ((6 : Int32) &&& 31)) 90 := hp_112w2
            have h : yH D (yLo sZ.heap.size) sZ.heap [] (X_91w2 ++ X_59w2) _ _ := h
            rw [hp_112w2]
            refine lv_bipush (v := 45) hx hb dL_law_115 (by decide) ?_
            refine lv_isub hx hb dL_law_117 ?_
            refine lv_bipush (v := 100) hx hb dL_law_118 (by decide) ?_
            have h : yH D (yLo sZ.heap.size) sZ.heap X_59w2 X_91w2 _ _ := q_swap (h.pl (X' := X_91w2) (pl' := X_59w2) rfl)
            refine q_calli h hA (vx_runSW (own := RL) (As := [.ref yp, .int 1, .int (qLow ((cV L xs 1) >>> ((3 : Int32) &&& 31)) 91), .int ((qLow ((cV L xs 1) >>> ((6 : Int32) &&& 31)) 90) - (45 : Int32)), .int 100]) (rest := [.int (aDial (nPlace (nDial (nPlace σ ((qLow (cV L xs 0) 133) - (66 : Int32)) 5) 0 (qLow ((cV L xs 0) >>> ((3 : Int32) &&& 31)) 91) ((qLow ((cV L xs 0) >>> ((6 : Int32) &&& 31)) 90) - (45 : Int32)) 100) ((qLow (cV L xs 1) 133) - (66 : Int32)) 5) 1 (qLow ((cV L xs 1) >>> ((3 : Int32) &&& 31)) 91) ((qLow ((cV L xs 1) >>> ((6 : Int32) &&& 31)) 90) - (45 : Int32)) 100)]) ⟨hx, hb, hml, hown, y_nil⟩ (q_dial (l := l) (D := D) (ty := ty) (base := _) (sz := _) hl9 hq_59w2 1 (qLow ((cV L xs 1) >>> ((3 : Int32) &&& 31)) 91) ((qLow ((cV L xs 1) >>> ((6 : Int32) &&& 31)) 90) - (45 : Int32)) 100 ) (y_cwSW 5 (kw_2_101 hG) (kw_1_0 hG) (kw_2_99 hG) (kw_2_100 hG) yd_L_dial ⟨Nat.le_of_ble_eq_true rfl, Nat.le_of_ble_eq_true rfl⟩) (q_preS hG h hAb) rfl rfl hl.1 rfl (lv_room (Nat.le_of_ble_eq_true rfl)) dL_law_120 ⟨(by show cells + 0 + 0 + 4 + 0 + 4 + 0 + 0 + 4 + 0 + 0 + 4 + 0 + 0 + 4 + 0 + 4 + 0 + 0 + 4 + 0 + 0 + 4 ≤ 600104; omega), (by show slots + 0 + 0 + 41 + 0 + 41 + 0 + 0 + 41 + 0 + 0 + 41 + 0 + 0 + 41 + 0 + 41 + 0 + 0 + 41 + 0 + 0 + 41 ≤ 7301314; omega)⟩) (fun r_120w2 X_120w2 H locs hp_120w2 h => ?_)
            obtain ⟨e_120w2, hq_120w2⟩ := hp_120w2
            have h : yH D (yLo sZ.heap.size) sZ.heap [] (X_91w2 ++ X_120w2) _ _ := (q_swap h).pl rfl
            rw [e_120w2]
            refine lv_icmp_eq (tgt := 128) hx hb dL_law_123 (by decide) (fun c_123 => ?_) (fun c_123 => ?_)
            · skip
              refine lv_iinc (v := 2) (lv' := [(3, .int 2), (4, .int (cV L xs 1)), (0, .ref b), (1, .ref yo), (2, .ref yp)]) hx hb dL_law_128 hl (k := 1) rfl (show (1 : Int32) + Int32.ofInt 1 = 2 from by decide) (by decide) rfl (fun ls hl => ?_)
              refine lv_goto (tgt := 18) hx hb dL_law_131 (by decide) ?_
              refine lv_iload_n hx hb dL_law_18 rfl (lv_at hl 0 rfl) ?_
              refine lv_iconst (v := 2) hx hb dL_law_19 (by decide) ?_
              refine lv_icmp_ge (tgt := 134) hx hb dL_law_20 (by decide) (fun c_20 => ?_) (fun c_20 => ?_)
              · skip
                refine lv_iconst (v := 2) hx hb dL_law_134 (by decide) ?_
                refine lv_istore_n (lv' := [(3, .int 2), (4, .int (cV L xs 1)), (0, .ref b), (1, .ref yo), (2, .ref yp)]) hx hb dL_law_135 rfl hl (by decide) rfl (fun ls hl => ?_)
                exact law_b E0 89 2 (by omega) (by omega) (nDial (nPlace (nDial (nPlace σ ((qLow (cV L xs 0) 133) - (66 : Int32)) 5) 0 (qLow ((cV L xs 0) >>> ((3 : Int32) &&& 31)) 91) ((qLow ((cV L xs 0) >>> ((6 : Int32) &&& 31)) 90) - (45 : Int32)) 100) ((qLow (cV L xs 1) 133) - (66 : Int32)) 5) 1 (qLow ((cV L xs 1) >>> ((3 : Int32) &&& 31)) 91) ((qLow ((cV L xs 1) >>> ((6 : Int32) &&& 31)) 90) - (45 : Int32)) 100) _ _ hq_91w2 hq_120w2 _ _ _ _ _ (by show cells + 0 + 0 + 4 + 0 + 4 + 0 + 0 + 4 + 0 + 0 + 4 + 0 + 0 + 4 + 0 + 4 + 0 + 0 + 4 + 0 + 0 + 4 ≤ _; omega) (by show slots + 0 + 0 + 41 + 0 + 41 + 0 + 0 + 41 + 0 + 0 + 41 + 0 + 0 + 41 + 0 + 41 + 0 + 0 + 41 + 0 + 0 + 41 ≤ _; omega) h (lv_sub hl [2, 3, 4, 0] rfl)
              · exact absurd (by decide) c_20
            · exact absurd rfl c_123
      · exact absurd rfl c_123
