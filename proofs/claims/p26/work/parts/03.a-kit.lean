/-! the wrappers: one fact for the world, one for what stays -/
abbrev vwCl : List vw_C := [(RX0, TX0, 5), (RX1, TX1, 5), (RX2, TX2, 2), (RX3, TX3, 6), (RX4, TX4, 3), (RX5, TX5, 7), (RX6, TX6, 5), (RX7, TX7, 15)]
abbrev yT (ty : Nat → ClassId) : List (ClassId × FieldType) := [(ty 0, .int), (ty 1, .boolean), (ty 2, .int), (ty 3, .int), (ty 4, .object "GnomonYard$Place"), (ty 5, .object "GnomonYard$Dial"), (ty 6, .object "GnomonYard$Trace")]
def yAC : Cond → Bool
  | .arrayClass _ => true
  | .castable _ _ => true
  | .declares _ => true
  | w => w.onTables && w.keepsH
theorem yAC_or {w : Cond} (h : yAC w = true) : (w.onTables && w.keepsH) = true ∨ (∃ ty, w = .arrayClass ty) ∨ (∃ C T, w = .castable C T) ∨ ∃ x, w = .declares x := by
  cases w <;> first | exact Or.inr (Or.inl ⟨_, rfl⟩) | exact Or.inr (Or.inr (Or.inl ⟨_, _, rfl⟩)) | exact Or.inr (Or.inr (Or.inr ⟨_, rfl⟩)) | exact Or.inl h
def yOK (s : State) (w : Cond) : Prop := ∀ (a' : Array Value) (U : State), s.WarmedH U.vm → w.before a' U = true
theorem yOK.b {s : State} {w : Cond} {args : Array Value} (h : yOK s w) : w.before args s = true := h args s (State.WarmedH.refl s)
theorem yOK.go {s U : State} {w : Cond} (hW : s.WarmedH U.vm) (h : yOK s w) : yOK U w := fun a' V hV => h a' V (hW.trans hV)
theorem yOK.of {s : State} {w : Cond} {args : Array Value} (hg : yAC w = true) (h : w.before args s = true) : yOK s w := by
  intro a' U hW
  rcases yAC_or hg with h1 | ⟨ty, rfl⟩ | ⟨C, T, rfl⟩ | ⟨x, rfl⟩
  · have h2 : w.onTables = true ∧ w.keepsH = true := by simpa using h1
    exact Cond.onTables_warmH (T := U) hW h2.1 h2.2 h
  · exact word_at hW (Or.inr ⟨_, rfl⟩) h
  · exact va_Nw.use rfl (va_Nw.warmC hW (va_Nw.of rfl h))
  · exact va_tabs rfl (rfl : (s.setVm U.vm).vm = U.vm) (by rw [Cond.declares_setVm hW.alike]; exact h)
def yDays (j : Nat) : Int32 := if j = 0 then 0 else if j = 1 then 90 else 270
def yStrs : List (Nat × String) := [(123, "there is no room for another PLACE"), (181, "there is no room for another DIAL"), (226, "the LINE is not there"), (255, "the LINE is not there, or was cut"), (269, "there is no room for another FIND"), (278, "no latitude FITS"), (286, "an argument is out of its range"), (291, "there is no such PLACE"), (294, "there is no such DIAL"), (327, "there is no SHADOW")]
def xIA : String := "java/lang/IllegalArgumentException"
def xIS : String := "java/lang/IllegalStateException"
def xIX : String := "java/lang/IndexOutOfBoundsException"
def yNcs : List (String × String) := [(xIA, xIS), (xIA, xIX), (xIS, xIA), (xIS, xIX), (xIX, xIA), (xIX, xIS)]
abbrev yLo (base : Nat) : Nat → Prop := fun q => base ≤ q
/-- what stays: classes, words, texts, statics -/
def yGX (D : va_G) (ty : Nat → ClassId) (base : Nat) (s : State) : Prop :=
  va_K D vwCl (yT ty) s ∧ (∀ w ∈ lw_tbl, yAC w = true → yOK s w) ∧ (∀ q ∈ yStrs, ∃ sa, vk_R RX7 q.1 q.2 sa s) ∧
  (vx_Zq Bundle.tN "UNASSIGNED_STACK" Bundle.steD (yLo base) s s.heap ∧ vx_Zq Bundle.tN "SUPPRESSED_SENTINEL" Bundle.listD (yLo base) s s.heap) ∧
  (∃ t, va_Z RX7 "DAYS_OF_TRIAL" "[I" (.ref t) (yLo base) s s.heap ∧ va_T .int t 3 (fun j => .int (yDays j)) (yLo base) s s.heap) ∧
  (∀ q ∈ yNcs, va_Nc q.1 q.2 s) ∧ base ≤ s.heap.size ∧ va_AO "GnomonYard$Place" s ∧ va_AO "GnomonYard$Dial" s ∧ va_AO "GnomonYard$Trace" s
theorem yGX.go {D : va_G} {ty : Nat → ClassId} {base : Nat} {s U : State} (hW : s.WarmedH U.vm) (hz : s.heap.size ≤ U.heap.size) (hk : ∀ q : Nat, q < base → U.heap[q]? = s.heap[q]?) (h : yGX D ty base s) : yGX D ty base U := by
  obtain ⟨h1, h2, h3, ⟨h4, h5⟩, ⟨t, h6, h7⟩, h8, h9, h10, h11, h12⟩ := h
  have hk' : ∀ a : Nat, a < s.heap.size → ¬ yLo base a → U.heap[a]? = s.heap[a]? := fun a _ hn => hk a (Nat.lt_of_not_le hn)
  refine ⟨va_K.moved hW.alike h1, fun w hw hg => (h2 w hw hg).go hW, fun q hq => ?_, ⟨vx_Zq.moved hW.alike (h4.kept hk'), vx_Zq.moved hW.alike (h5.kept hk')⟩, ⟨t, va_Z.moved hW.alike (h6.kept hk'), va_T.moved hW.alike (h7.kept hk')⟩, fun q hq => va_Nc.moved hW.alike (h8 q hq), Nat.le_trans h9 hz, va_AO.moved hW.alike h10, va_AO.moved hW.alike h11, va_AO.moved hW.alike h12⟩
  obtain ⟨sa, h⟩ := h3 q hq
  exact ⟨sa, vk_R.warm hW h⟩
theorem yGX.K {D : va_G} {ty : Nat → ClassId} {base : Nat} {s : State} (h : yGX D ty base s) : va_K D vwCl (yT ty) s := h.1
theorem yGX.wd {D : va_G} {ty : Nat → ClassId} {base : Nat} {s : State} (h : yGX D ty base s) {w : Cond} (hw : w ∈ lw_tbl) (hg : yAC w = true) : yOK s w := h.2.1 w hw hg
theorem yt1 {i : Nat} {w : Cond} (h : tables_1_1[i]? = some w) : w ∈ lw_tbl := List.mem_append_right _ (List.mem_append_left _ (List.mem_of_getElem? h))
theorem yt2 {i : Nat} {w : Cond} (h : tables_1_2[i]? = some w) : w ∈ lw_tbl := List.mem_append_right _ (List.mem_append_right _ (List.mem_append_left _ (List.mem_of_getElem? h)))
theorem yt3 {i : Nat} {w : Cond} (h : tables_1_3[i]? = some w) : w ∈ lw_tbl := List.mem_append_right _ (List.mem_append_right _ (List.mem_append_right _ (List.mem_append_left _ (List.mem_of_getElem? h))))
theorem yt4 {i : Nat} {w : Cond} (h : tables_1_4[i]? = some w) : w ∈ lw_tbl := List.mem_append_right _ (List.mem_append_right _ (List.mem_append_right _ (List.mem_append_right _ (List.mem_of_getElem? h))))
theorem yt0 {i : Nat} {w : Cond} (h : (k2_sels lw_privs)[i]? = some w) : w ∈ lw_tbl := List.mem_append_left _ (List.mem_of_getElem? h)
/-- a method's start: its world, what stays -/
def yW (D : va_G) (ty : Nat → ClassId) (base sz : Nat) (ws : va_W) (U : State) : Prop := U.heap.size = sz ∧ va_P D vwCl ws U.heap ∧ va_D (yLo base) ws ∧ yGX D ty base U
abbrev yPc (D : va_G) (ty : Nat → ClassId) (base sz : Nat) (ws : va_W) (As : List Value) : Array Value → State → Prop := va_Pc As (yW D ty base sz ws)
theorem yPc_blind {D : va_G} {ty : Nat → ClassId} {base sz : Nat} {ws : va_W} {As : List Value} : FrameBlind (yPc D ty base sz ws As) := by
  intro a U g mk ⟨h1, h2, h3, h4, h5⟩
  exact ⟨h1, h2, h3, h4, h5.go (U := U.calling g mk a) (State.WarmedH.refl U) (Nat.le_refl _) (fun _ _ => rfl)⟩
/-- the world at a point: listed cells, then the rest -/
def yH (D : va_G) (A : Nat → Prop) (H0 : Heap) (X pl : va_W) (H : Heap) (locs : List Loc) : Prop := va_P D vwCl (X ++ pl) H ∧ va_D A (X ++ pl) ∧ va_S A H0 H locs
abbrev yB (D : va_G) (A : Nat → Prop) {S : Type} (w1 : S → va_W) : S → State → Prop := fun u t => va_P D vwCl (w1 u) t.heap ∧ va_D A (w1 u)
theorem y_ix {X pl : va_W} {q0 : Nat} {q : Nat × va_E} (h : X[q0]? = some q) : (X ++ pl)[q0]? = some q := by
  rw [List.getElem?_append_left (List.getElem?_eq_some_iff.mp h).1]; exact h
theorem y_set {X pl : va_W} {q0 : Nat} {q z : Nat × va_E} (h : X[q0]? = some q) : (X ++ pl).set q0 z = X.set q0 z ++ pl := List.set_append_left _ _ (List.getElem?_eq_some_iff.mp h).1
theorem yH.re {D : va_G} {A : Nat → Prop} {H0 H : Heap} {X X' pl : va_W} {locs : List Loc} (h : yH D A H0 X pl H locs) (is : List Nat) (hn : va_nd is = true) (hs : is.map (fun i => X[i]?) = X'.map some) : yH D A H0 X' pl H locs := ⟨h.1.part is hs, h.2.1.part is hn hs, h.2.2⟩
theorem yH.pl {D : va_G} {A : Nat → Prop} {H0 H : Heap} {X X' pl pl' : va_W} {locs : List Loc} (h : yH D A H0 X pl H locs) (e : X ++ pl = X' ++ pl') : yH D A H0 X' pl' H locs := by
  obtain ⟨h1, h2, h3⟩ := h
  rw [e] at h1 h2
  exact ⟨h1, h2, h3⟩
section YR
variable {p : Program} {l : Launch} {e : Env} {R : Room} {s : State} {m : MethodId} {args : Array Value} {below : List Frame} {meth : Method} {c : Code} {H : Heap} {locs : List Loc} {cells slots : Nat} {Q : State → Prop}
variable {cc : ByteArray} {pc : Nat} {ls : Array Slot} {rest : List Value} {D : va_G} {ty : Nat → ClassId} {base : Nat} {A : Nat → Prop} {X pl : va_W} {own : String} {a : Nat}
theorem y_lays {C : String} {T : u_T} {N : Nat} (h : ∀ k, k < N → yOK s (u_lay C T k)) : ∀ w ∈ u_ws C T N, w.before args s = true := by
  intro w hw
  obtain ⟨k, hk, rfl⟩ := List.mem_map.mp hw
  exact (h k (List.mem_range.mp hk)).b
theorem y_get (hx : p.tables.exec = Jvm.exec) (hb : c.code = cc) (hown : s.vm.findClass own = some m.cls) (hG : yGX D ty base s) (h : yH D A s.heap X pl H locs) (q0 ci k : Nat) {C : String} {T : u_T} {N index : Nat} {fs : List Value} {v : Value} (he : X[q0]? = some (a, .inr (ci, fs))) (hc : vwCl[ci]? = some (C, T, N)) (hk : k < N) (hL : ∀ k, k < N → yOK s (u_lay C T k)) (hlink : yOK s (.fieldLink own index C (T k).2.1 (T k).2.2.1)) (hd : (T k).1 = C) (hv : fs[k]? = some v) (hdg : decode cc pc = .ok (.getfield index, 3))
    (kk : W p l e R s m args below meth c H locs cells slots Q (F0 m (pc + 3) ls (v :: rest))) : W p l e R s m args below meth c H locs cells slots Q (F0 m pc ls (.ref a :: rest)) :=
  va_get hx hb (y_lays hL) (fun _ h => h) hown hG.K h.1 q0 (y_ix he) hc k hk hlink.b (fun x hx => by rw [hd] at hx; exact hx) hv hdg kk
theorem y_getN (hx : p.tables.exec = Jvm.exec) (hb : c.code = cc) (hown : s.vm.findClass own = some m.cls) (hG : yGX D ty base s) (h : yH D A s.heap X pl H locs) (q0 ci k : Nat) {C host : String} {T : u_T} {N index : Nat} {fs : List Value} {v : Value} (he : X[q0]? = some (a, .inr (ci, fs))) (hc : vwCl[ci]? = some (C, T, N)) (hk : k < N) (hL : ∀ k, k < N → yOK s (u_lay C T k)) (hlink : yOK s (.fieldLinkNest own index C (T k).2.1 (T k).2.2.1 host)) (hd : (T k).1 = C) (hv : fs[k]? = some v) (hdg : decode cc pc = .ok (.getfield index, 3))
    (kk : W p l e R s m args below meth c H locs cells slots Q (F0 m (pc + 3) ls (v :: rest))) : W p l e R s m args below meth c H locs cells slots Q (F0 m pc ls (.ref a :: rest)) :=
  va_getN hx hb (y_lays hL) (fun _ h => h) hown hG.K h.1 q0 (y_ix he) hc k hk hlink.b (fun x hx => by rw [hd] at hx; exact hx) hv hdg kk
def yCls (T : u_T) (N : Nat) (tf : Nat → FieldType) : Prop := (∀ k, k < N → parseFieldDescriptor (T k).2.2.1 = some (tf k)) ∧ ∀ a, a < N → ∀ b, b < N → a ≠ b → (T a).2.1 ≠ (T b).2.1
theorem y_put (hx : p.tables.exec = Jvm.exec) (hb : c.code = cc) (hown : s.vm.findClass own = some m.cls) (hG : yGX D ty base s) (h : yH D A s.heap X pl H locs) (q0 ci k : Nat) {C : String} {T : u_T} {N index : Nat} {fs : List Value} {v : Value} {tf : Nat → FieldType} {X' : va_W} (he : X[q0]? = some (a, .inr (ci, fs))) (hc : vwCl[ci]? = some (C, T, N)) (hk : k < N) (hL : ∀ k, k < N → yOK s (u_lay C T k)) (hcl : yCls T N tf) (hlink : yOK s (.fieldLink own index C (T k).2.1 (T k).2.2.1)) (hd : (T k).1 = C) (hfin : (T k).2.2.2 = false) (hn : narrow (tf k) v = v) (hfit : fits (tf k) v = true) (hl : k < fs.length) (hX : X.set q0 (a, .inr (ci, fs.set k v)) = X') (hdg : decode cc pc = .ok (.putfield index, 3))
    (kk : ∀ (H1 : Heap) (locs1 : List Loc), yH D A s.heap X' pl H1 locs1 → W p l e R s m args below meth c H1 locs1 cells slots Q (F0 m (pc + 3) ls rest)) : W p l e R s m args below meth c H locs cells slots Q (F0 m pc ls (v :: .ref a :: rest)) := by
  refine va_put hx hb (y_lays hL) (fun _ h => h) tf hcl.1 hcl.2 hown hG.K h.1 h.2.1 h.2.2 q0 (y_ix he) hc k hk hlink.b (fun x hx => by rw [hd] at hx; exact hx) hfin (hcl.1 k hk) hn hfit hl hdg (fun H1 locs1 h1 h2 h3 => kk H1 locs1 ?_)
  rw [y_set he, hX] at h1 h2
  exact ⟨h1, h2, h3⟩
theorem y_putN (hx : p.tables.exec = Jvm.exec) (hb : c.code = cc) (hown : s.vm.findClass own = some m.cls) (hG : yGX D ty base s) (h : yH D A s.heap X pl H locs) (q0 ci k : Nat) {C host : String} {T : u_T} {N index : Nat} {fs : List Value} {v : Value} {tf : Nat → FieldType} {X' : va_W} (he : X[q0]? = some (a, .inr (ci, fs))) (hc : vwCl[ci]? = some (C, T, N)) (hk : k < N) (hL : ∀ k, k < N → yOK s (u_lay C T k)) (hcl : yCls T N tf) (hlink : yOK s (.fieldLinkNest own index C (T k).2.1 (T k).2.2.1 host)) (hd : (T k).1 = C) (hfin : (T k).2.2.2 = false) (hn : narrow (tf k) v = v) (hfit : fits (tf k) v = true) (hl : k < fs.length) (hX : X.set q0 (a, .inr (ci, fs.set k v)) = X') (hdg : decode cc pc = .ok (.putfield index, 3))
    (kk : ∀ (H1 : Heap) (locs1 : List Loc), yH D A s.heap X' pl H1 locs1 → W p l e R s m args below meth c H1 locs1 cells slots Q (F0 m (pc + 3) ls rest)) : W p l e R s m args below meth c H locs cells slots Q (F0 m pc ls (v :: .ref a :: rest)) := by
  refine va_putN hx hb (y_lays hL) (fun _ h => h) tf hcl.1 hcl.2 hown hG.K h.1 h.2.1 h.2.2 q0 (y_ix he) hc k hk hlink.b (fun x hx => by rw [hd] at hx; exact hx) hfin (hcl.1 k hk) hn hfit hl hdg (fun H1 locs1 h1 h2 h3 => kk H1 locs1 ?_)
  rw [y_set he, hX] at h1 h2
  exact ⟨h1, h2, h3⟩
theorem y_putF (hx : p.tables.exec = Jvm.exec) (hb : c.code = cc) (hown : s.vm.findClass own = some m.cls) (hG : yGX D ty base s) (h : yH D A s.heap X pl H locs) (q0 ci k : Nat) {T : u_T} {N index : Nat} {fs : List Value} {v : Value} {tf : Nat → FieldType} {X' : va_W} (he : X[q0]? = some (a, .inr (ci, fs))) (hc : vwCl[ci]? = some (own, T, N)) (hk : k < N) (hL : ∀ k, k < N → yOK s (u_lay own T k)) (hcl : yCls T N tf) (hlink : yOK s (.fieldLink own index own (T k).2.1 (T k).2.2.1)) (hd : (T k).1 = own) (hfin : (T k).2.2.2 = true) (hin : meth.name = "<init>") (hn : narrow (tf k) v = v) (hfit : fits (tf k) v = true) (hl : k < fs.length) (hX : X.set q0 (a, .inr (ci, fs.set k v)) = X') (hdg : decode cc pc = .ok (.putfield index, 3))
    (kk : ∀ (H1 : Heap) (locs1 : List Loc), yH D A s.heap X' pl H1 locs1 → W p l e R s m args below meth c H1 locs1 cells slots Q (F0 m (pc + 3) ls rest)) : W p l e R s m args below meth c H locs cells slots Q (F0 m pc ls (v :: .ref a :: rest)) := by
  refine va_putF hx hb (y_lays hL) (fun _ h => h) tf hcl.1 hcl.2 hown hG.K h.1 h.2.1 h.2.2 q0 (y_ix he) hc k hk hlink.b (fun x hx => by rw [hd] at hx; exact hx) hfin hin hd (hcl.1 k hk) hn hfit hl hdg (fun H1 locs1 h1 h2 h3 => kk H1 locs1 ?_)
  rw [y_set he, hX] at h1 h2
  exact ⟨h1, h2, h3⟩
theorem y_iald (hx : p.tables.exec = Jvm.exec) (hb : c.code = cc) (hG : yGX D ty base s) (h : yH D A s.heap X pl H locs) (q0 : Nat) {n : Nat} {f : Nat → Int32} (he : X[q0]? = some (a, .inl (ty 0, n, .inl f))) {i v : Int32} (hin : vp_in i n) (hv : f i.toNatClampNeg = v) (hdg : decode cc pc = .ok (.iaload, 1))
    (kk : W p l e R s m args below meth c H locs cells slots Q (F0 m (pc + 1) ls (.int v :: rest))) : W p l e R s m args below meth c H locs cells slots Q (F0 m pc ls (.int i :: .ref a :: rest)) := by
  subst hv
  exact va_iald hx hb hG.K h.1 q0 0 (y_ix he) rfl hin hdg kk
theorem y_zald (hx : p.tables.exec = Jvm.exec) (hb : c.code = cc) (hG : yGX D ty base s) (h : yH D A s.heap X pl H locs) (q0 : Nat) {n : Nat} {f : Nat → Int32} (he : X[q0]? = some (a, .inl (ty 1, n, .inl f))) {i v : Int32} (hin : vp_in i n) (hv : f i.toNatClampNeg = v) (hdg : decode cc pc = .ok (.baload, 1))
    (kk : W p l e R s m args below meth c H locs cells slots Q (F0 m (pc + 1) ls (.int v :: rest))) : W p l e R s m args below meth c H locs cells slots Q (F0 m pc ls (.int i :: .ref a :: rest)) := by
  subst hv
  exact va_zald hx hb hG.K h.1 q0 1 (y_ix he) rfl hin hdg kk
theorem y_iast (hx : p.tables.exec = Jvm.exec) (hb : c.code = cc) (hG : yGX D ty base s) (h : yH D A s.heap X pl H locs) (q0 : Nat) {n : Nat} {f : Nat → Int32} (he : X[q0]? = some (a, .inl (ty 0, n, .inl f))) {i x : Int32} {X' : va_W} (hin : vp_in i n) (hX : X.set q0 (a, .inl (ty 0, n, .inl (upd f i.toNatClampNeg x))) = X') (hdg : decode cc pc = .ok (.iastore, 1))
    (kk : ∀ (H1 : Heap) (locs1 : List Loc), yH D A s.heap X' pl H1 locs1 → W p l e R s m args below meth c H1 locs1 cells slots Q (F0 m (pc + 1) ls rest)) : W p l e R s m args below meth c H locs cells slots Q (F0 m pc ls (.int x :: .int i :: .ref a :: rest)) := by
  refine va_iast hx hb hG.K h.1 h.2.1 h.2.2 q0 0 (y_ix he) rfl hin hdg (fun H1 locs1 h1 h2 h3 => kk H1 locs1 ?_)
  rw [y_set he, hX] at h1 h2
  exact ⟨h1, h2, h3⟩
theorem y_zast (hx : p.tables.exec = Jvm.exec) (hb : c.code = cc) (hG : yGX D ty base s) (h : yH D A s.heap X pl H locs) (q0 : Nat) {n : Nat} {f : Nat → Int32} (he : X[q0]? = some (a, .inl (ty 1, n, .inl f))) {i x : Int32} {X' : va_W} (hin : vp_in i n) (hX : X.set q0 (a, .inl (ty 1, n, .inl (upd f i.toNatClampNeg (vp_nar .boolean x)))) = X') (hdg : decode cc pc = .ok (.bastore, 1))
    (kk : ∀ (H1 : Heap) (locs1 : List Loc), yH D A s.heap X' pl H1 locs1 → W p l e R s m args below meth c H1 locs1 cells slots Q (F0 m (pc + 1) ls rest)) : W p l e R s m args below meth c H locs cells slots Q (F0 m pc ls (.int x :: .int i :: .ref a :: rest)) := by
  refine va_zast hx hb hG.K h.1 h.2.1 h.2.2 q0 1 (y_ix he) rfl hin hdg (fun H1 locs1 h1 h2 h3 => kk H1 locs1 ?_)
  rw [y_set he, hX] at h1 h2
  exact ⟨h1, h2, h3⟩
theorem y_aald (hx : p.tables.exec = Jvm.exec) (hb : c.code = cc) (hG : yGX D ty base s) (h : yH D A s.heap X pl H locs) (q0 t0 : Nat) {C : String} {cA n : Nat} {f : Nat → Option Nat} (he : X[q0]? = some (a, .inl (cA, n, .inr (.inr (.inr (.inr f)))))) (ht : (yT ty)[t0]? = some (cA, .object C)) {i : Int32} {v : Value} (hin : vp_in i n) (hv : va_rf (f i.toNatClampNeg) = v) (hdg : decode cc pc = .ok (.aaload, 1))
    (kk : W p l e R s m args below meth c H locs cells slots Q (F0 m (pc + 1) ls (v :: rest))) : W p l e R s m args below meth c H locs cells slots Q (F0 m pc ls (.int i :: .ref a :: rest)) := by
  subst hv
  exact va_aldq hx hb hG.K h.1 q0 t0 (y_ix he) ht hin hdg kk
theorem y_aast (hx : p.tables.exec = Jvm.exec) (hb : c.code = cc) (hG : yGX D ty base s) (h : yH D A s.heap X pl H locs) (q0 t0 qk ci : Nat) {r : vw_C} {cA n v : Nat} {vs : List Value} {f : Nat → Option Nat} {X' : va_W} (he : X[q0]? = some (a, .inl (cA, n, .inr (.inr (.inr (.inr f)))))) (ht : (yT ty)[t0]? = some (cA, .object r.1)) (hv : X[qk]? = some (v, .inr (ci, vs))) (hc : vwCl[ci]? = some r) {i : Int32} (hin : vp_in i n) (hX : X.set q0 (a, .inl (cA, n, .inr (.inr (.inr (.inr (va_up f i.toNatClampNeg (some v))))))) = X') (hdg : decode cc pc = .ok (.aastore, 1))
    (kk : ∀ (H1 : Heap) (locs1 : List Loc), yH D A s.heap X' pl H1 locs1 → W p l e R s m args below meth c H1 locs1 cells slots Q (F0 m (pc + 1) ls rest)) : W p l e R s m args below meth c H locs cells slots Q (F0 m pc ls (.ref v :: .int i :: .ref a :: rest)) := by
  refine va_astq hx hb hG.K h.1 h.2.1 h.2.2 q0 t0 qk ci (y_ix he) ht (y_ix hv) hc hin hdg (fun H1 locs1 h1 h2 h3 => kk H1 locs1 ?_)
  rw [y_set he, hX] at h1 h2
  exact ⟨h1, h2, h3⟩
theorem y_alen (hx : p.tables.exec = Jvm.exec) (hb : c.code = cc) (hG : yGX D ty base s) (h : yH D A s.heap X pl H locs) (q0 t0 : Nat) {cA : ClassId} {x : vp_A} {ft : FieldType} (he : X[q0]? = some (a, .inl (cA, x))) (ht : (yT ty)[t0]? = some (cA, ft)) {v : Int32} (hv : Int32.ofNat x.1 = v) (hdg : decode cc pc = .ok (.arraylength, 1))
    (kk : W p l e R s m args below meth c H locs cells slots Q (F0 m (pc + 1) ls (.int v :: rest))) : W p l e R s m args below meth c H locs cells slots Q (F0 m pc ls (.ref a :: rest)) := va_alen hx hb hG.K h.1 q0 t0 (y_ix he) ht hv hdg kk
theorem y_push {z : Nat × va_E} {H1 : Heap} (h1 : va_P D vwCl ((X ++ pl) ++ [z]) H1) (h2 : va_D A ((X ++ pl) ++ [z])) : va_P D vwCl ((X ++ [z]) ++ pl) H1 ∧ va_D A ((X ++ [z]) ++ pl) := ⟨h1.swap, h2.swap⟩
theorem y_new (hx : p.tables.exec = Jvm.exec) (hb : c.code = cc) (hown : s.vm.findClass own = some m.cls) (hG : yGX D ty base s) (h : yH D A s.heap X pl H locs) (hA : ∀ q : Nat, s.heap.size ≤ q → A q) (ci : Nat) {C : String} {T : u_T} {N index : Nat} {tf : Nat → FieldType} {fs : List Value} (hc : vwCl[ci]? = some (C, T, N)) (hL : ∀ k, k < N → yOK s (u_lay C T k)) (hcl : yCls T N tf) (hlink : yOK s (.classLink own index C)) (hinst : yOK s (.instantiable C N)) (hini : yOK s (.initialized C)) (hfs : ∀ j, j < N → defaultValue (tf j) = vp_V fs j) (hcells : cells + 1 ≤ R.cells) (hslots : slots + N ≤ R.slots) (hdg : decode cc pc = .ok (.new index, 3))
    (kk : ∀ (q : Nat) (H1 : Heap), yH D A s.heap (X ++ [(q, .inr (ci, fs))]) pl H1 locs → W p l e R s m args below meth c H1 locs (cells + 1) (slots + N) Q (F0 m (pc + 3) ls (.ref q :: rest))) : W p l e R s m args below meth c H locs cells slots Q (F0 m pc ls rest) := by
  refine va_new hx hb (y_lays hL) (fun _ h => h) tf hcl.1 hown hlink.b hinst.b hini.b hG.K h.1 h.2.1 h.2.2 hA hc hfs hcells hslots hdg (fun q H1 h1 h2 h3 => kk q H1 ?_)
  obtain ⟨h4, h5⟩ := y_push h1 h2
  exact ⟨h4, h5, h3⟩
theorem y_newq (hx : p.tables.exec = Jvm.exec) (hb : c.code = cc) (hown : s.vm.findClass own = some m.cls) (hG : yGX D ty base s) (h : yH D A s.heap X pl H locs) (hA : ∀ q : Nat, s.heap.size ≤ q → A q) (t0 : Nat) {C : String} {index : Nat} {cI : ClassId} (ht : (yT ty)[t0]? = some (cI, .object C)) (hlink : yOK s (.classLink own index C)) (hover : va_AO C s) {n : Int32} {N' : Nat} (hn : ¬ n < 0) (hN : n.toNatClampNeg = N') (hbytes : N' * 4 ≤ 536870912) (hcells : cells + 1 ≤ R.cells) (hslots : slots + N' ≤ R.slots) (hdg : decode cc pc = .ok (.anewarray index, 3))
    (kk : ∀ (q : Nat) (H1 : Heap), yH D A s.heap (X ++ [(q, .inl (cI, N', .inr (.inr (.inr (.inr (fun _ => none))))))]) pl H1 locs → W p l e R s m args below meth c H1 locs (cells + 1) (slots + N') Q (F0 m (pc + 3) ls (.ref q :: rest))) : W p l e R s m args below meth c H locs cells slots Q (F0 m pc ls (.int n :: rest)) := by
  refine va_newq hx hb hown hlink.b hover hG.K h.1 h.2.1 h.2.2 hA hn hN hbytes hcells hslots hdg (fun q cA H1 hK h1 h2 h3 => ?_)
  have e : cA = cI := by
    have g1 := (hK.2 (yT ty).length (cA, .object C) (by rw [List.getElem?_append_right (Nat.le_refl _)]; simp)).2
    have g2 := (hG.K.2 t0 _ ht).2
    obtain ⟨_, _, _, _, _, g3⟩ := g1
    obtain ⟨_, _, _, _, _, g4⟩ := g2
    exact Option.some.inj (g3.symm.trans g4)
  subst e
  obtain ⟨h4, h5⟩ := y_push h1 h2
  exact kk q H1 ⟨h4, h5, h3⟩
theorem y_newa (hx : p.tables.exec = Jvm.exec) (hb : c.code = cc) (hG : yGX D ty base s) (h : yH D A s.heap X pl H locs) (hA : ∀ q : Nat, s.heap.size ≤ q → A q) (t0 : Nat) {atype : ArrayType} {ft : FieldType} {cI : ClassId} (harr : yOK s (.arrayClass (newarray.typeOf atype))) (hty : newarray.typeOf atype = ft) (hft : ∀ C, ft ≠ .object C) (ht : (yT ty)[t0]? = some (cI, ft)) {n : Int32} {N' : Nat} {a0 : vp_A} (ha : ∀ cA : ClassId, vp_cell cA a0 = arrV cA N' (fun _ => defaultValue ft)) (hn : ¬ n < 0) (hN : n.toNatClampNeg = N') (hbytes : N' * componentBytes ft ≤ 536870912) (hcells : cells + 1 ≤ R.cells) (hslots : slots + N' ≤ R.slots) (hdg : decode cc pc = .ok (.newarray atype, 2))
    (kk : ∀ (q : Nat) (H1 : Heap), yH D A s.heap (X ++ [(q, .inl (cI, a0))]) pl H1 locs → W p l e R s m args below meth c H1 locs (cells + 1) (slots + N') Q (F0 m (pc + 2) ls (.ref q :: rest))) : W p l e R s m args below meth c H locs cells slots Q (F0 m pc ls (.int n :: rest)) := by
  refine va_newa hx hb harr.b hty hG.K h.1 h.2.1 h.2.2 hA ha hn hN hbytes hcells hslots hdg (fun q cA H1 hK h1 h2 h3 => ?_)
  have e : cA = cI := by
    have g1 := (hK.2 (yT ty).length (cA, ft) (by rw [List.getElem?_append_right (Nat.le_refl _)]; simp)).2
    have g2 := (hG.K.2 t0 _ ht).2
    cases ft with
    | object C => exact absurd rfl (hft C)
    | _ => exact Option.some.inj (Eq.trans (Eq.symm g1) g2)
  subst e
  obtain ⟨h4, h5⟩ := y_push h1 h2
  exact kk q H1 ⟨h4, h5, h3⟩
/-- before a call: the callee's cells -/
theorem y_pre (hG : yGX D ty base s) (h : yH D A s.heap X pl H locs) (hAb : ∀ q, A q → base ≤ q) {As : List Value} {wc : va_W} (isC : List Nat) (hC : isC.map (fun i => X[i]?) = wc.map some) (hn : va_nd isC = true) (U : State) (hU : U.heap = H) (hW : s.WarmedH U.vm) : yPc D ty base H.size wc As As.toArray U := by
  have h1 : va_P D vwCl (wc ++ pl) H := h.1.part isC hC
  have h2 : va_D A (wc ++ pl) := h.2.1.part isC hn hC
  refine ⟨rfl, by rw [hU], ?_, ?_, hG.go hW (by rw [hU]; exact h.2.2.1) (fun q hq => ?_)⟩
  · rw [hU]
    exact fun k q hk => h1 k q (y_ix hk)
  · exact ⟨fun i j x y hi hj => h2.1 i j x y (y_ix hi) (y_ix hj), fun k q hk => hAb _ (h2.2 k q (y_ix hk))⟩
  · rw [hU]
    exact h.2.2.2.1 q (Nat.lt_of_lt_of_le hq hG.2.2.2.2.2.2.1) (fun z => absurd (hAb q z) (Nat.not_le.mpr hq))
theorem y_preS (hG : yGX D ty base s) (h : yH D A s.heap X pl H locs) (hAb : ∀ q, A q → base ≤ q) {As : List Value} {wc : va_W} (isC : List Nat) (hC : isC.map (fun i => X[i]?) = wc.map some) (hn : va_nd isC = true) : PreS s H (yPc D ty base H.size wc As) As := ⟨yPc_blind, y_pre hG h hAb isC hC hn⟩
theorem y_preV (hG : yGX D ty base s) (h : yH D A s.heap X pl H locs) (hAb : ∀ q, A q → base ≤ q) {b : Nat} {As : List Value} {wc : va_W} (isC : List Nat) (hC : isC.map (fun i => X[i]?) = wc.map some) (hn : va_nd isC = true) (q0 : Nat) {ci : Nat} {C : String} {T : u_T} {N : Nat} {fs : List Value} (he : X[q0]? = some (b, .inr (ci, fs))) (hc : vwCl[ci]? = some (C, T, N)) : PreV s H C b (yPc D ty base H.size wc (.ref b :: As)) As := ⟨yPc_blind, va_recv hG.K h.1 hc (y_ix he), y_pre hG h hAb isC hC hn⟩
theorem y_free (h : yH D A s.heap X pl H locs) (hA : ∀ q : Nat, s.heap.size ≤ q → A q) {wc : va_W} (isC : List Nat) (hC : isC.map (fun i => X[i]?) = wc.map some) : ∀ q, va_A wc H.size q → A q := by
  intro q hq
  rcases hq with ⟨k, e, hk⟩ | hq
  · exact h.2.1.2 _ _ (y_ix (va_in_of isC hC hk).choose_spec.2)
  · exact hA q (Nat.le_trans h.2.2.1 hq)
theorem y_back {wc wr w1 X' : va_W} {H1 : Heap} {locs1 : List Loc} (h : yH D A s.heap X pl H locs) (hA : ∀ q : Nat, s.heap.size ≤ q → A q) (isC isR is : List Nat) (hC : isC.map (fun i => X[i]?) = wc.map some) (hR : isR.map (fun i => X[i]?) = wr.map some) (hn : va_nd isR = true) (hdis : ∀ i ∈ isR, i ∉ isC) (hn2 : va_nd is = true) (hs : is.map (fun i => (wr ++ w1)[i]?) = X'.map some)
    (hk : ∀ q : Nat, q < H.size → ¬ va_A wc H.size q → H1[q]? = H[q]?) (hB : va_P D vwCl w1 H1 ∧ va_D (va_A wc H.size) w1) (hS : va_S A s.heap H1 locs1) : yH D A s.heap X' pl H1 locs1 := by
  obtain ⟨h1, h2⟩ := va_joinQ h.1 h.2.1 isC isR hC hR hn hdis hk (y_free h hA isC hC) hB.1 hB.2
  exact ⟨h1.part is hs, h2.part is hn2 hs, hS⟩
variable {mc ms : Nat} {st0 : List Value} {av : Array Value} {wc wr : va_W}
theorem y_calli {S : Type} {post : Int32 → S → Prop} {w1 X' : S → va_W} (h : yH D A s.heap X pl H locs) (hA : ∀ q : Nat, s.heap.size ≤ q → A q) (isC isR is : List Nat) (hC : isC.map (fun i => X[i]?) = wc.map some) (hR : isR.map (fun i => X[i]?) = wr.map some) (hn : va_nd isR = true) (hdis : ∀ i ∈ isR, i ∉ isC) (hn2 : va_nd is = true) (hs : ∀ u, is.map (fun i => (wr ++ w1 u)[i]?) = (X' u).map some)
    (hr : va_Run p l e R s m args below meth c H locs cells slots mc ms (F0 m pc ls st0) rest (va_Qi post (yB D (va_A wc H.size) w1) (va_A wc H.size) av) (va_A wc H.size))
    (kk : ∀ (r : Int32) (u : S) (H1 : Heap) (locs1 : List Loc), post r u → yH D A s.heap (X' u) pl H1 locs1 → W p l e R s m args below meth c H1 locs1 (cells + mc) (slots + ms) Q (F0 m (pc + 3) ls (.int r :: rest))) : W p l e R s m args below meth c H locs cells slots Q (F0 m pc ls st0) :=
  va_calli hr h.2.2 (fun q _ hq => y_free h hA isC hC q hq) (y_free h hA isC hC) (fun r u t H1 locs1 ht _ hp hB _ hk hS => kk r u H1 locs1 hp (y_back h hA isC isR is hC hR hn hdis hn2 (hs u) hk (by rw [← ht]; exact hB) hS))
theorem y_calll {S : Type} {post : Int64 → S → Prop} {w1 X' : S → va_W} (h : yH D A s.heap X pl H locs) (hA : ∀ q : Nat, s.heap.size ≤ q → A q) (isC isR is : List Nat) (hC : isC.map (fun i => X[i]?) = wc.map some) (hR : isR.map (fun i => X[i]?) = wr.map some) (hn : va_nd isR = true) (hdis : ∀ i ∈ isR, i ∉ isC) (hn2 : va_nd is = true) (hs : ∀ u, is.map (fun i => (wr ++ w1 u)[i]?) = (X' u).map some)
    (hr : va_Run p l e R s m args below meth c H locs cells slots mc ms (F0 m pc ls st0) rest (va_Ql post (yB D (va_A wc H.size) w1) (va_A wc H.size) av) (va_A wc H.size))
    (kk : ∀ (r : Int64) (u : S) (H1 : Heap) (locs1 : List Loc), post r u → yH D A s.heap (X' u) pl H1 locs1 → W p l e R s m args below meth c H1 locs1 (cells + mc) (slots + ms) Q (F0 m (pc + 3) ls (.long r :: rest))) : W p l e R s m args below meth c H locs cells slots Q (F0 m pc ls st0) :=
  va_calll hr h.2.2 (fun q _ hq => y_free h hA isC hC q hq) (y_free h hA isC hC) (fun r u t H1 locs1 ht _ hp hB _ hk hS => kk r u H1 locs1 hp (y_back h hA isC isR is hC hR hn hdis hn2 (hs u) hk (by rw [← ht]; exact hB) hS))
theorem y_callf {S : Type} {post : UInt32 → S → Prop} {w1 X' : S → va_W} (h : yH D A s.heap X pl H locs) (hA : ∀ q : Nat, s.heap.size ≤ q → A q) (isC isR is : List Nat) (hC : isC.map (fun i => X[i]?) = wc.map some) (hR : isR.map (fun i => X[i]?) = wr.map some) (hn : va_nd isR = true) (hdis : ∀ i ∈ isR, i ∉ isC) (hn2 : va_nd is = true) (hs : ∀ u, is.map (fun i => (wr ++ w1 u)[i]?) = (X' u).map some)
    (hr : va_Run p l e R s m args below meth c H locs cells slots mc ms (F0 m pc ls st0) rest (va_Qf post (yB D (va_A wc H.size) w1) (va_A wc H.size) av) (va_A wc H.size))
    (kk : ∀ (r : UInt32) (u : S) (H1 : Heap) (locs1 : List Loc), post r u → yH D A s.heap (X' u) pl H1 locs1 → W p l e R s m args below meth c H1 locs1 (cells + mc) (slots + ms) Q (F0 m (pc + 3) ls (.float r :: rest))) : W p l e R s m args below meth c H locs cells slots Q (F0 m pc ls st0) :=
  va_callf hr h.2.2 (fun q _ hq => y_free h hA isC hC q hq) (y_free h hA isC hC) (fun r u t H1 locs1 ht _ hp hB _ hk hS => kk r u H1 locs1 hp (y_back h hA isC isR is hC hR hn hdis hn2 (hs u) hk (by rw [← ht]; exact hB) hS))
theorem y_callv {S : Type} {post : S → Prop} {w1 X' : S → va_W} (h : yH D A s.heap X pl H locs) (hA : ∀ q : Nat, s.heap.size ≤ q → A q) (isC isR is : List Nat) (hC : isC.map (fun i => X[i]?) = wc.map some) (hR : isR.map (fun i => X[i]?) = wr.map some) (hn : va_nd isR = true) (hdis : ∀ i ∈ isR, i ∉ isC) (hn2 : va_nd is = true) (hs : ∀ u, is.map (fun i => (wr ++ w1 u)[i]?) = (X' u).map some)
    (hr : va_Run p l e R s m args below meth c H locs cells slots mc ms (F0 m pc ls st0) rest (va_Qv post (yB D (va_A wc H.size) w1) (va_A wc H.size) av) (va_A wc H.size))
    (kk : ∀ (u : S) (H1 : Heap) (locs1 : List Loc), post u → yH D A s.heap (X' u) pl H1 locs1 → W p l e R s m args below meth c H1 locs1 (cells + mc) (slots + ms) Q (F0 m (pc + 3) ls rest)) : W p l e R s m args below meth c H locs cells slots Q (F0 m pc ls st0) :=
  va_callv hr h.2.2 (fun q _ hq => y_free h hA isC hC q hq) (y_free h hA isC hC) (fun u t H1 locs1 ht _ hp hB _ hk hS => kk u H1 locs1 hp (y_back h hA isC isR is hC hR hn hdis hn2 (hs u) hk (by rw [← ht]; exact hB) hS))
/-- calls: the words -/
theorem y_cb {index maxL : Nat} {y : MethodName} {bytes : ByteArray} {ret : Option FieldType} {rm : Room} (n : Nat) (hcode : yOK s (.code y bytes maxL ret)) (hini : yOK s (.initialized y.cls)) (hl : yOK s (.methodLink own index y)) (hd : y.cls ≠ "java/lang/invoke/MethodHandle" ∧ y.cls ≠ "java/lang/invoke/VarHandle" ∧ (parseMethodDescriptor y.desc).map (fun d => d.parameters.length) = some n) (hR : rm.frames + 1 ≤ R.frames ∧ 8 + (maxL + 11) + rm.locals ≤ R.locals) : CallB R s args own index y bytes maxL ret [.code y bytes maxL ret] rm rm.cells rm.slots n := by
  refine ⟨rfl, rfl, hR.1, hR.2, fun w hw => ?_, List.mem_cons_self, hcode.b, hini.b, ⟨hd.1, hd.2.1⟩, fun sig h => ?_, hl.b⟩
  · rw [List.mem_singleton.mp hw]; exact hcode
  · have h2 := hd.2.2
    rw [h] at h2
    exact (Option.some.inj h2).symm
theorem y_cwS {index maxL : Nat} {y : MethodName} {bytes : ByteArray} {ret : Option FieldType} {rm : Room} (n : Nat) (hcode : yOK s (.code y bytes maxL ret)) (hini : yOK s (.initialized y.cls)) (hl : yOK s (.methodLink own index y)) (hst : yOK s (.static y)) (hd : y.cls ≠ "java/lang/invoke/MethodHandle" ∧ y.cls ≠ "java/lang/invoke/VarHandle" ∧ (parseMethodDescriptor y.desc).map (fun d => d.parameters.length) = some n) (hR : rm.frames + 1 ≤ R.frames ∧ 8 + (maxL + 11) + rm.locals ≤ R.locals) : CallB R s args own index y bytes maxL ret [.code y bytes maxL ret] rm rm.cells rm.slots n ∧ (Cond.static y).before args s = true := ⟨y_cb n hcode hini hl hd hR, hst.b⟩
theorem y_cwV {index maxL : Nat} {y : MethodName} {C : String} {bytes : ByteArray} {ret : Option FieldType} {rm : Room} (n : Nat) (hcode : yOK s (.code y bytes maxL ret)) (hini : yOK s (.initialized y.cls)) (hl : yOK s (.methodLink own index y)) (hin : yOK s (.instanceMethod y)) (hsel : yOK s (.selects C y y)) (hd : y.cls ≠ "java/lang/invoke/MethodHandle" ∧ y.cls ≠ "java/lang/invoke/VarHandle" ∧ (parseMethodDescriptor y.desc).map (fun d => d.parameters.length) = some n) (hR : rm.frames + 1 ≤ R.frames ∧ 8 + (maxL + 11) + rm.locals ≤ R.locals) : CallW R s args own C index y bytes maxL ret [.code y bytes maxL ret] rm rm.cells rm.slots n := ⟨y_cb n hcode hini hl hd hR, hin.b, hsel.b⟩
theorem y_cwI {index maxL : Nat} {y : MethodName} {bytes : ByteArray} {rm : Room} (n : Nat) (hcode : yOK s (.code y bytes maxL none)) (hini : yOK s (.initialized y.cls)) (hl : yOK s (.methodLink own index y)) (hin : yOK s (.instanceMethod y)) (hy : y.name = "<init>") (hd : y.cls ≠ "java/lang/invoke/MethodHandle" ∧ y.cls ≠ "java/lang/invoke/VarHandle" ∧ (parseMethodDescriptor y.desc).map (fun d => d.parameters.length) = some n) (hR : rm.frames + 1 ≤ R.frames ∧ 8 + (maxL + 11) + rm.locals ≤ R.locals) : CallB R s args own index y bytes maxL none [.code y bytes maxL none] rm rm.cells rm.slots n ∧ y.name = "<init>" ∧ (Cond.instanceMethod y).before args s = true := ⟨y_cb n hcode hini hl hd hR, hy, hin.b⟩
theorem y_cn {index maxL : Nat} {host : String} {y : MethodName} {bytes : ByteArray} {ret : Option FieldType} {rm : Room} (n : Nat) (hcode : yOK s (.code y bytes maxL ret)) (hini : yOK s (.initialized y.cls)) (hl : yOK s (.methodLinkNest own index y host)) (hd : y.cls ≠ "java/lang/invoke/MethodHandle" ∧ y.cls ≠ "java/lang/invoke/VarHandle" ∧ (parseMethodDescriptor y.desc).map (fun d => d.parameters.length) = some n) (hR : rm.frames + 1 ≤ R.frames ∧ 8 + (maxL + 11) + rm.locals ≤ R.locals) : va_CN R s args own index y host bytes maxL ret [.code y bytes maxL ret] rm rm.cells rm.slots n := by
  refine ⟨⟨rfl, rfl, hR.1, hR.2, fun w hw => ?_, List.mem_cons_self⟩, hcode.b, hini.b, ⟨hd.1, hd.2.1⟩, fun sig h => ?_, hl.b⟩
  · rw [List.mem_singleton.mp hw]; exact hcode
  · have h2 := hd.2.2
    rw [h] at h2
    exact (Option.some.inj h2).symm
theorem y_cnS {index maxL : Nat} {host : String} {y : MethodName} {bytes : ByteArray} {ret : Option FieldType} {rm : Room} (n : Nat) (hcode : yOK s (.code y bytes maxL ret)) (hini : yOK s (.initialized y.cls)) (hl : yOK s (.methodLinkNest own index y host)) (hst : yOK s (.static y)) (hd : y.cls ≠ "java/lang/invoke/MethodHandle" ∧ y.cls ≠ "java/lang/invoke/VarHandle" ∧ (parseMethodDescriptor y.desc).map (fun d => d.parameters.length) = some n) (hR : rm.frames + 1 ≤ R.frames ∧ 8 + (maxL + 11) + rm.locals ≤ R.locals) : va_CN R s args own index y host bytes maxL ret [.code y bytes maxL ret] rm rm.cells rm.slots n ∧ (Cond.static y).before args s = true ∧ True := ⟨y_cn n hcode hini hl hd hR, hst.b, trivial⟩
theorem y_cnI {index maxL : Nat} {host : String} {y : MethodName} {bytes : ByteArray} {rm : Room} (n : Nat) (hcode : yOK s (.code y bytes maxL none)) (hini : yOK s (.initialized y.cls)) (hl : yOK s (.methodLinkNest own index y host)) (hin : yOK s (.instanceMethod y)) (hy : y.name = "<init>") (hd : y.cls ≠ "java/lang/invoke/MethodHandle" ∧ y.cls ≠ "java/lang/invoke/VarHandle" ∧ (parseMethodDescriptor y.desc).map (fun d => d.parameters.length) = some n) (hR : rm.frames + 1 ≤ R.frames ∧ 8 + (maxL + 11) + rm.locals ≤ R.locals) : va_CN R s args own index y host bytes maxL none [.code y bytes maxL none] rm rm.cells rm.slots n ∧ y.name = "<init>" ∧ (Cond.instanceMethod y).before args s = true := ⟨y_cn n hcode hini hl hd hR, hy, hin.b⟩
theorem y_F {H1 : Heap} {t : State} {X1 : va_W} (h : yH D A s.heap X1 pl H locs) (ht : t.heap = H) : va_F A s t := h.2.2.F ht
/-- ends -/
theorem y_iret {S : Type} {post : Int32 → S → Prop} {w1 : S → va_W} {v : Int32} (hx : p.tables.exec = Jvm.exec) (hb : c.code = cc) (hr : meth.sig.returnType = some .int) (hlocks : meth.locks = false) (u : S) (hp : post v u) (h : yH D A s.heap X pl H locs) (hw : X ++ pl = w1 u) (hc : cells ≤ mc) (hs : slots ≤ ms) (hdg : decode cc pc = .ok (.ireturn, 1)) : W p l e R s m args below meth c H locs cells slots (MQ below (va_Qi post (yB D A w1) A) args s mc ms A) (F0 m pc ls [.int v]) := by
  obtain ⟨h1, h2, h3⟩ := h
  rw [hw] at h1 h2
  exact W.widen hc hs (W.iret hx hb hr (fun t ht _ => ⟨⟨v, u, rfl, hp, by rw [ht]; exact h1, h2⟩, h3.F ht⟩) h3.2.2 hdg hlocks)
theorem y_zret {S : Type} {post : Int32 → S → Prop} {w1 : S → va_W} {v : Int32} (hx : p.tables.exec = Jvm.exec) (hb : c.code = cc) (hr : meth.sig.returnType = some .boolean) (hlocks : meth.locks = false) (hz : v = 0 ∨ v = 1) (u : S) (hp : post v u) (h : yH D A s.heap X pl H locs) (hw : X ++ pl = w1 u) (hc : cells ≤ mc) (hs : slots ≤ ms) (hdg : decode cc pc = .ok (.ireturn, 1)) : W p l e R s m args below meth c H locs cells slots (MQ below (va_Qi post (yB D A w1) A) args s mc ms A) (F0 m pc ls [.int v]) := by
  obtain ⟨h1, h2, h3⟩ := h
  rw [hw] at h1 h2
  exact W.widen hc hs (W.zret hx hb hr (by rcases hz with rfl | rfl <;> rfl) (fun t ht _ => ⟨⟨v, u, rfl, hp, by rw [ht]; exact h1, h2⟩, h3.F ht⟩) h3.2.2 hdg hlocks)
theorem y_lret {S : Type} {post : Int64 → S → Prop} {w1 : S → va_W} {v : Int64} (hx : p.tables.exec = Jvm.exec) (hb : c.code = cc) (hr : meth.sig.returnType = some .long) (hlocks : meth.locks = false) (u : S) (hp : post v u) (h : yH D A s.heap X pl H locs) (hw : X ++ pl = w1 u) (hc : cells ≤ mc) (hs : slots ≤ ms) (hdg : decode cc pc = .ok (.lreturn, 1)) : W p l e R s m args below meth c H locs cells slots (MQ below (va_Ql post (yB D A w1) A) args s mc ms A) (F0 m pc ls [.long v]) := by
  obtain ⟨h1, h2, h3⟩ := h
  rw [hw] at h1 h2
  exact W.widen hc hs (W.lret hx hb hr (fun t ht _ => ⟨⟨v, u, rfl, hp, by rw [ht]; exact h1, h2⟩, h3.F ht⟩) h3.2.2 hdg hlocks)
theorem y_fret {S : Type} {post : UInt32 → S → Prop} {w1 : S → va_W} {v : UInt32} (hx : p.tables.exec = Jvm.exec) (hb : c.code = cc) (hr : meth.sig.returnType = some .float) (hlocks : meth.locks = false) (u : S) (hp : post v u) (h : yH D A s.heap X pl H locs) (hw : X ++ pl = w1 u) (hc : cells ≤ mc) (hs : slots ≤ ms) (hdg : decode cc pc = .ok (.freturn, 1)) : W p l e R s m args below meth c H locs cells slots (MQ below (va_Qf post (yB D A w1) A) args s mc ms A) (F0 m pc ls [.float v]) := by
  obtain ⟨h1, h2, h3⟩ := h
  rw [hw] at h1 h2
  exact W.widen hc hs (W.fret hx hb hr (fun t ht _ => ⟨⟨v, u, rfl, hp, by rw [ht]; exact h1, h2⟩, h3.F ht⟩) h3.2.2 hdg hlocks)
theorem y_vret {S : Type} {post : S → Prop} {w1 : S → va_W} (hx : p.tables.exec = Jvm.exec) (hb : c.code = cc) (hr : meth.sig.returnType = none) (hlocks : meth.locks = false) (u : S) (hp : post u) (h : yH D A s.heap X pl H locs) (hw : X ++ pl = w1 u) (hc : cells ≤ mc) (hs : slots ≤ ms) (hdg : decode cc pc = .ok (.return_, 1)) : W p l e R s m args below meth c H locs cells slots (MQ below (va_Qv post (yB D A w1) A) args s mc ms A) (F0 m pc ls []) := by
  obtain ⟨h1, h2, h3⟩ := h
  rw [hw] at h1 h2
  exact W.widen hc hs (W.vret hx hb hr (fun t ht _ => ⟨⟨u, rfl, hp, by rw [ht]; exact h1, h2⟩, h3.F ht⟩) h3.2.2 hdg hlocks)
theorem y_qret {S : Type} {post : Option Nat → S → Prop} {w1 : S → va_W} {o : Option Nat} {rt : FieldType} (hx : p.tables.exec = Jvm.exec) (hb : c.code = cc) (hr : meth.sig.returnType = some rt) (hrt : (∃ n, rt = .object n) ∨ ∃ t, rt = .array t) (hlocks : meth.locks = false) (u : S) (hp : post o u) (h : yH D A s.heap X pl H locs) (hw : X ++ pl = w1 u) (hc : cells ≤ mc) (hs : slots ≤ ms) (hdg : decode cc pc = .ok (.areturn, 1)) : W p l e R s m args below meth c H locs cells slots (MQ below (va_Qq post (yB D A w1) A) args s mc ms A) (F0 m pc ls [va_rf o]) := by
  obtain ⟨h1, h2, h3⟩ := h
  rw [hw] at h1 h2
  exact W.widen hc hs (W.aret hx hb hr hrt (va_rf_or o) (fun t ht _ => ⟨⟨o, u, rfl, hp, by rw [ht]; exact h1, h2⟩, h3.F ht⟩) h3.2.2 hdg hlocks)
end YR
/-- a method that no entry overrides -/
theorem y_MetF {l : Launch} {y : MethodName} {ws ws' : List Cond} {rm : Room} {Pc : Array Value → State → Prop} {Qc : Array Value → State → Outcome → State → Prop} {mc ms : Nat} {free : Addr → Prop} {cc : ByteArray} {maxL : Nat} {ret : Option FieldType}
    (hy : plainFor y = true) (hw : ws = Cond.code y cc maxL ret :: ws')
    (body : ∀ p e s m args below meth c s₁, BodyLoose p l y (headSpec ws rm) cc maxL ret e s m args below meth c s₁ → c.maxLocals = maxL → Pc args s →
      W p l e (headSpec ws rm).room s m args below meth c s.heap [] 0 0 (MQ below Qc args s mc ms free) (entryFrame m args maxL)) : Met l y ws rm Pc Qc mc ms free := by
  refine MetFree.of_bodySF (code := cc) (maxLocals := maxL) (ret := ret) hy ?_ ?_
  · intro args s m h hn
    obtain ⟨meth, c, h1, h2, h3, h4, h5, h6, -, -⟩ := Cond.code_spec hn (atoms_spec (ws := ws) h _ (by rw [hw]; exact List.mem_cons_self))
    exact ⟨meth, c, h1, h2, h3, h4, h5, h6⟩
  · intro p e s m args below meth c s₁ B hml hP _
    have hh0 : s₁.heap = s.heap := by rw [B.state]; rfl
    obtain ⟨t, a1, o, b1, b2, b3⟩ := body p e s m args below meth c s₁ B hml hP s₁ hh0 (Stand.of_body B)
    exact ⟨t, o, a1, b1, b2, ⟨b3.1, b3.2⟩⟩
/-- the start of a method's walk -/
theorem y_ofW {l : Launch} {y : MethodName} {rm : Room} {D : va_G} {ty : Nat → ClassId} {base sz : Nat} {wc : va_W} {As : List Value} {Qf : (Nat → Prop) → Array Value → State → Outcome → State → Prop} {cc : ByteArray} {maxL : Nat} {ret : Option FieldType} {own : String}
    (hy : plainFor y = true) (hown : y.cls = own) (hne : (lg_sl As).length ≤ maxL)
    (body : ∀ (p : Program) (e : Env) (s : State) (m : MethodId) (below : List Frame) (meth : Method) (c : Code) (A : Nat → Prop) (ls : Array Slot), CallFix p m c cc maxL s As.toArray [.code y cc maxL ret] own → meth.sig.returnType = ret → meth.locks = false → meth.name = y.name → yGX D ty base s → (∀ q, s.heap.size ≤ q → A q) → (∀ q, A q → base ≤ q) → s.heap.size = sz → yH D A s.heap wc [] s.heap [] → lv_has ls maxL (lv_args 0 As) →
      W p l e rm s m As.toArray below meth c s.heap [] 0 0 (MQ below (Qf A) As.toArray s rm.cells rm.slots A) (F0 m 0 ls [])) : Met l y [.code y cc maxL ret] rm (yPc D ty base sz wc As) (Qf (va_A wc sz)) rm.cells rm.slots (va_A wc sz) := by
  refine y_MetF (cc := cc) (maxL := maxL) (ret := ret) hy rfl ?_
  intro p e s m args below meth c s₁ B hml hv
  obtain ⟨rfl, hsz, hP, hD, hG⟩ := hv
  have hfc : s.vm.findClass own = some m.cls := hown ▸ findClass_of_methodNamed B.named
  rw [lg_entry_eq]
  have hl := lv_entry As (n := maxL) hne
  generalize (lg_sl As ++ List.replicate (maxL - (lg_sl As).length) Slot.unset).toArray = ls at hl ⊢
  have hD' : va_D (va_A wc sz) wc := hD.self
  have hAb : ∀ q, va_A wc sz q → base ≤ q := by
    intro q hq
    rcases hq with ⟨k, e, hk⟩ | hq
    · exact hD.2 k _ hk
    · exact Nat.le_trans hG.2.2.2.2.2.2.1 (by rw [hsz]; exact hq)
  exact body p e s m below meth c (va_A wc sz) ls ⟨B.exec, B.bytes, hml, hfc, atoms_spec (ws := [.code y cc maxL ret]) B.pre⟩ B.returns B.notSynchronized (name_of_methodNamed B.named B.method).1 hG (fun q hq => Or.inr (by rw [← hsz]; exact hq)) hAb hsz ⟨by rw [List.append_nil]; exact hP, by rw [List.append_nil]; exact hD', va_S.rf⟩ hl
