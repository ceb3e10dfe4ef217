/-! methods that throw -/
abbrev yXB (D : va_G) (A : Nat → Prop) {SX : Type} (wx : SX → va_W) (px : String → SX → Prop) : String → SX → State → Prop := fun E u t => px E u ∧ va_P D vwCl (wx u) t.heap ∧ va_D A (wx u)
abbrev yX (D : va_G) (A : Nat → Prop) {SX : Type} (wx : SX → va_W) (px : String → SX → Prop) : String → State → State → Prop := vx_X (fun _ : SX => True) (yXB D A wx px) A
theorem y_xofW {l : Launch} {y : MethodName} {rm : Room} {D : va_G} {ty : Nat → ClassId} {base sz : Nat} {wc : va_W} {As : List Value} {Qf : (Nat → Prop) → Array Value → State → Outcome → State → Prop} {Xf : (Nat → Prop) → String → State → State → Prop} {cc : ByteArray} {maxL : Nat} {ret : Option FieldType} {own : String}
    (hy : plainName y.cls = true) (hown : y.cls = own) (hne : (lg_sl As).length ≤ maxL)
    (body : ∀ (p : Program) (e : Env) (s : State) (m : MethodId) (below : List Frame) (meth : Method) (c : Code) (A : Nat → Prop) (ls : Array Slot), CallFix p m c cc maxL s As.toArray [.code y cc maxL ret] own → meth.sig.returnType = ret → meth.locks = false → (∀ x ∈ c.exceptionTable.toList, False) → yGX D ty base s → (∀ q, s.heap.size ≤ q → A q) → (∀ q, A q → base ≤ q) → s.heap.size = sz → yH D A s.heap wc [] s.heap [] → lv_has ls maxL (lv_args 0 As) →
      W p l e rm s m As.toArray below meth c s.heap [] 0 0 (vx_MQ below (Qf A) (Xf A) As.toArray s rm.cells rm.slots A) (F0 m 0 ls [])) : vx_Met l y [.code y cc maxL ret] rm (yPc D ty base sz wc As) (Qf (va_A wc sz)) (Xf (va_A wc sz)) rm.cells rm.slots (va_A wc sz) := by
  refine vx_ofW (cc := cc) (maxL := maxL) (ret := ret) hy rfl ?_
  intro p e s m args below meth c s₁ B hml hno hv
  obtain ⟨rfl, hsz, hP, hD, hG⟩ := hv
  have hfc : s.vm.findClass own = some m.cls := hown ▸ findClass_of_methodNamed B.named
  rw [lg_entry_eq]
  have hl := lv_entry As (n := maxL) hne
  generalize (lg_sl As ++ List.replicate (maxL - (lg_sl As).length) Slot.unset).toArray = ls at hl ⊢
  have hD' : va_D (va_A wc sz) wc := hD.self
  have hAb : ∀ q, va_A wc sz q → base ≤ q := by
    intro q hq
    rcases hq with ⟨k, e, hk⟩ | hq
    · exact hD.2 k _ hk
    · exact Nat.le_trans hG.2.2.2.2.2.2.1 (by rw [hsz]; exact hq)
  exact body p e s m below meth c (va_A wc sz) ls ⟨B.exec, B.bytes, hml, hfc, atoms_spec (ws := [.code y cc maxL ret]) B.pre⟩ B.returns B.notSynchronized hno hG (fun q hq => Or.inr (by rw [← hsz]; exact hq)) hAb hsz ⟨by rw [List.append_nil]; exact hP, by rw [List.append_nil]; exact hD', va_S.rf⟩ hl
/-- the law's helpers: they catch all -/
theorem y_ofWH {l : Launch} {y : MethodName} {rm : Room} {D : va_G} {ty : Nat → ClassId} {base sz : Nat} {wc : va_W} {As : List Value} {Qf : (Nat → Prop) → Array Value → State → Outcome → State → Prop} {cc : ByteArray} {maxL : Nat} {ret : Option FieldType} {own : String} {hh : List (Nat × Nat × Nat × Nat)}
    (hy : plainName y.cls = true) (hown : y.cls = own) (hne : (lg_sl As).length ≤ maxL)
    (body : ∀ (p : Program) (e : Env) (s : State) (m : MethodId) (below : List Frame) (meth : Method) (c : Code) (A : Nat → Prop) (ls : Array Slot), CallFix p m c cc maxL s As.toArray [.codeWith y cc maxL ret hh] own → meth.sig.returnType = ret → meth.locks = false → c.exceptionTable.toList = tableOf hh → yGX D ty base s → (∀ q, s.heap.size ≤ q → A q) → (∀ q, A q → base ≤ q) → s.heap.size = sz → yH D A s.heap wc [] s.heap [] → lv_has ls maxL (lv_args 0 As) →
      W p l e rm s m As.toArray below meth c s.heap [] 0 0 (MQ below (Qf A) As.toArray s rm.cells rm.slots A) (F0 m 0 ls [])) : Met l y [.codeWith y cc maxL ret hh] rm (yPc D ty base sz wc As) (Qf (va_A wc sz)) rm.cells rm.slots (va_A wc sz) := by
  have h : vx_Met l y [.codeWith y cc maxL ret hh] rm (yPc D ty base sz wc As) (Qf (va_A wc sz)) (fun _ _ _ => False) rm.cells rm.slots (va_A wc sz) := by
    refine vx_ofWH (cc := cc) (maxL := maxL) (ret := ret) (hh := hh) hy rfl ?_
    intro p e s m args below meth c s₁ B hml hv
    obtain ⟨rfl, hsz, hP, hD, hG⟩ := hv
    have hfc : s.vm.findClass own = some m.cls := hown ▸ findClass_of_methodNamed B.named
    rw [lg_entry_eq]
    have hl := lv_entry As (n := maxL) hne
    generalize (lg_sl As ++ List.replicate (maxL - (lg_sl As).length) Slot.unset).toArray = ls at hl ⊢
    have hD' : va_D (va_A wc sz) wc := hD.self
    have hAb : ∀ q, va_A wc sz q → base ≤ q := by
      intro q hq
      rcases hq with ⟨k, e, hk⟩ | hq
      · exact hD.2 k _ hk
      · exact Nat.le_trans hG.2.2.2.2.2.2.1 (by rw [hsz]; exact hq)
    have hts := atoms_spec (ws := [.codeWith y cc maxL ret hh]) B.pre
    exact vx_ret (body p e s m below meth c (va_A wc sz) ls ⟨B.exec, B.bytes, hml, hfc, hts⟩ B.returns B.notSynchronized (vx_table (x := y) B (hts _ List.mem_cons_self)) hG (fun q hq => Or.inr (by rw [← hsz]; exact hq)) hAb hsz ⟨by rw [List.append_nil]; exact hP, by rw [List.append_nil]; exact hD', va_S.rf⟩ hl)
  intro p e ha hc hk s m args below hf happ hP hK
  obtain ⟨n, o, h1, h2, h3, h4⟩ := h p e ha hc hk s m args below hf happ hP hK
  rcases h4 with h4 | ⟨q, -, E, ce, L, hx, -⟩
  · exact ⟨n, o, h1, h2, h3, h4⟩
  · exact hx.elim
section YX
variable {p : Program} {l : Launch} {e : Env} {R : Room} {s : State} {m : MethodId} {args : Array Value} {below : List Frame} {meth : Method} {c : Code} {H : Heap} {locs : List Loc} {cells slots : Nat} {Q : State → Prop}
variable {cc : ByteArray} {pc : Nat} {ls : Array Slot} {rest : List Value} {D : va_G} {ty : Nat → ClassId} {base : Nat} {A : Nat → Prop} {X pl : va_W} {own : String} {a : Nat}
variable {mc ms : Nat} {st0 : List Value} {av : Array Value} {wc wr : va_W} {Qc : Array Value → State → Outcome → State → Prop}
theorem y_xcalli {S SX : Type} {post : Int32 → S → Prop} {w1 X' : S → va_W} {px : String → SX → Prop} {wx Xx : SX → va_W} (h : yH D A s.heap X pl H locs) (hA : ∀ q : Nat, s.heap.size ≤ q → A q) (isC isR is : List Nat) (hC : isC.map (fun i => X[i]?) = wc.map some) (hR : isR.map (fun i => X[i]?) = wr.map some) (hn : va_nd isR = true) (hdis : ∀ i ∈ isR, i ∉ isC) (hn2 : va_nd is = true) (hs : ∀ u, is.map (fun i => (wr ++ w1 u)[i]?) = (X' u).map some) (isx : List Nat) (hn3 : va_nd isx = true) (hsx : ∀ u, isx.map (fun i => (wr ++ wx u)[i]?) = (Xx u).map some)
    (hr : vx_Run p l e R s m args below meth c H locs cells slots mc ms (F0 m pc ls st0) rest (va_Qi post (yB D (va_A wc H.size) w1) (va_A wc H.size) av) (yX D (va_A wc H.size) wx px) (va_A wc H.size))
    (kx : ∀ (E : String) (ce : Cell) (q9 : Addr) (u : SX) (H1 : Heap) (locs1 : List Loc), px E u → yH D A s.heap (Xx u) pl H1 locs1 → H1[q9]? = some ce → ce.vm = .none → s.vm.findClass E = some ce.cls → vx_W p l e R s m args below meth c H1 locs1 (cells + mc) (slots + ms) Q (F0 m pc ls rest) q9)
    (kk : ∀ (r : Int32) (u : S) (H1 : Heap) (locs1 : List Loc), post r u → yH D A s.heap (X' u) pl H1 locs1 → W p l e R s m args below meth c H1 locs1 (cells + mc) (slots + ms) Q (F0 m (pc + 3) ls (.int r :: rest))) : W p l e R s m args below meth c H locs cells slots Q (F0 m pc ls st0) :=
  vx_calli hr h.2.2 (fun q _ hq => y_free h hA isC hC q hq) (y_free h hA isC hC) (fun q _ hq => y_free h hA isC hC q hq)
    (fun E ce q9 u t H1 locs1 ht _ _ hB _ hk hS h1 h2 h3 => kx E ce q9 u H1 locs1 hB.1 (y_back h hA isC isR isx hC hR hn hdis hn3 (hsx u) hk (by rw [← ht]; exact hB.2) hS) h1 h2 h3)
    (fun r u t H1 locs1 ht _ hp hB _ hk hS => kk r u H1 locs1 hp (y_back h hA isC isR is hC hR hn hdis hn2 (hs u) hk (by rw [← ht]; exact hB) hS))
theorem y_xcalll {S SX : Type} {post : Int64 → S → Prop} {w1 X' : S → va_W} {px : String → SX → Prop} {wx Xx : SX → va_W} (h : yH D A s.heap X pl H locs) (hA : ∀ q : Nat, s.heap.size ≤ q → A q) (isC isR is : List Nat) (hC : isC.map (fun i => X[i]?) = wc.map some) (hR : isR.map (fun i => X[i]?) = wr.map some) (hn : va_nd isR = true) (hdis : ∀ i ∈ isR, i ∉ isC) (hn2 : va_nd is = true) (hs : ∀ u, is.map (fun i => (wr ++ w1 u)[i]?) = (X' u).map some) (isx : List Nat) (hn3 : va_nd isx = true) (hsx : ∀ u, isx.map (fun i => (wr ++ wx u)[i]?) = (Xx u).map some)
    (hr : vx_Run p l e R s m args below meth c H locs cells slots mc ms (F0 m pc ls st0) rest (va_Ql post (yB D (va_A wc H.size) w1) (va_A wc H.size) av) (yX D (va_A wc H.size) wx px) (va_A wc H.size))
    (kx : ∀ (E : String) (ce : Cell) (q9 : Addr) (u : SX) (H1 : Heap) (locs1 : List Loc), px E u → yH D A s.heap (Xx u) pl H1 locs1 → H1[q9]? = some ce → ce.vm = .none → s.vm.findClass E = some ce.cls → vx_W p l e R s m args below meth c H1 locs1 (cells + mc) (slots + ms) Q (F0 m pc ls rest) q9)
    (kk : ∀ (r : Int64) (u : S) (H1 : Heap) (locs1 : List Loc), post r u → yH D A s.heap (X' u) pl H1 locs1 → W p l e R s m args below meth c H1 locs1 (cells + mc) (slots + ms) Q (F0 m (pc + 3) ls (.long r :: rest))) : W p l e R s m args below meth c H locs cells slots Q (F0 m pc ls st0) :=
  vx_calll hr h.2.2 (fun q _ hq => y_free h hA isC hC q hq) (y_free h hA isC hC) (fun q _ hq => y_free h hA isC hC q hq)
    (fun E ce q9 u t H1 locs1 ht _ _ hB _ hk hS h1 h2 h3 => kx E ce q9 u H1 locs1 hB.1 (y_back h hA isC isR isx hC hR hn hdis hn3 (hsx u) hk (by rw [← ht]; exact hB.2) hS) h1 h2 h3)
    (fun r u t H1 locs1 ht _ hp hB _ hk hS => kk r u H1 locs1 hp (y_back h hA isC isR is hC hR hn hdis hn2 (hs u) hk (by rw [← ht]; exact hB) hS))
theorem y_xcallf {S SX : Type} {post : UInt32 → S → Prop} {w1 X' : S → va_W} {px : String → SX → Prop} {wx Xx : SX → va_W} (h : yH D A s.heap X pl H locs) (hA : ∀ q : Nat, s.heap.size ≤ q → A q) (isC isR is : List Nat) (hC : isC.map (fun i => X[i]?) = wc.map some) (hR : isR.map (fun i => X[i]?) = wr.map some) (hn : va_nd isR = true) (hdis : ∀ i ∈ isR, i ∉ isC) (hn2 : va_nd is = true) (hs : ∀ u, is.map (fun i => (wr ++ w1 u)[i]?) = (X' u).map some) (isx : List Nat) (hn3 : va_nd isx = true) (hsx : ∀ u, isx.map (fun i => (wr ++ wx u)[i]?) = (Xx u).map some)
    (hr : vx_Run p l e R s m args below meth c H locs cells slots mc ms (F0 m pc ls st0) rest (va_Qf post (yB D (va_A wc H.size) w1) (va_A wc H.size) av) (yX D (va_A wc H.size) wx px) (va_A wc H.size))
    (kx : ∀ (E : String) (ce : Cell) (q9 : Addr) (u : SX) (H1 : Heap) (locs1 : List Loc), px E u → yH D A s.heap (Xx u) pl H1 locs1 → H1[q9]? = some ce → ce.vm = .none → s.vm.findClass E = some ce.cls → vx_W p l e R s m args below meth c H1 locs1 (cells + mc) (slots + ms) Q (F0 m pc ls rest) q9)
    (kk : ∀ (r : UInt32) (u : S) (H1 : Heap) (locs1 : List Loc), post r u → yH D A s.heap (X' u) pl H1 locs1 → W p l e R s m args below meth c H1 locs1 (cells + mc) (slots + ms) Q (F0 m (pc + 3) ls (.float r :: rest))) : W p l e R s m args below meth c H locs cells slots Q (F0 m pc ls st0) :=
  vx_callf hr h.2.2 (fun q _ hq => y_free h hA isC hC q hq) (y_free h hA isC hC) (fun q _ hq => y_free h hA isC hC q hq)
    (fun E ce q9 u t H1 locs1 ht _ _ hB _ hk hS h1 h2 h3 => kx E ce q9 u H1 locs1 hB.1 (y_back h hA isC isR isx hC hR hn hdis hn3 (hsx u) hk (by rw [← ht]; exact hB.2) hS) h1 h2 h3)
    (fun r u t H1 locs1 ht _ hp hB _ hk hS => kk r u H1 locs1 hp (y_back h hA isC isR is hC hR hn hdis hn2 (hs u) hk (by rw [← ht]; exact hB) hS))
theorem y_xcallv {S SX : Type} {post : S → Prop} {w1 X' : S → va_W} {px : String → SX → Prop} {wx Xx : SX → va_W} (h : yH D A s.heap X pl H locs) (hA : ∀ q : Nat, s.heap.size ≤ q → A q) (isC isR is : List Nat) (hC : isC.map (fun i => X[i]?) = wc.map some) (hR : isR.map (fun i => X[i]?) = wr.map some) (hn : va_nd isR = true) (hdis : ∀ i ∈ isR, i ∉ isC) (hn2 : va_nd is = true) (hs : ∀ u, is.map (fun i => (wr ++ w1 u)[i]?) = (X' u).map some) (isx : List Nat) (hn3 : va_nd isx = true) (hsx : ∀ u, isx.map (fun i => (wr ++ wx u)[i]?) = (Xx u).map some)
    (hr : vx_Run p l e R s m args below meth c H locs cells slots mc ms (F0 m pc ls st0) rest (va_Qv post (yB D (va_A wc H.size) w1) (va_A wc H.size) av) (yX D (va_A wc H.size) wx px) (va_A wc H.size))
    (kx : ∀ (E : String) (ce : Cell) (q9 : Addr) (u : SX) (H1 : Heap) (locs1 : List Loc), px E u → yH D A s.heap (Xx u) pl H1 locs1 → H1[q9]? = some ce → ce.vm = .none → s.vm.findClass E = some ce.cls → vx_W p l e R s m args below meth c H1 locs1 (cells + mc) (slots + ms) Q (F0 m pc ls rest) q9)
    (kk : ∀ (u : S) (H1 : Heap) (locs1 : List Loc), post u → yH D A s.heap (X' u) pl H1 locs1 → W p l e R s m args below meth c H1 locs1 (cells + mc) (slots + ms) Q (F0 m (pc + 3) ls rest)) : W p l e R s m args below meth c H locs cells slots Q (F0 m pc ls st0) :=
  vx_callv hr h.2.2 (fun q _ hq => y_free h hA isC hC q hq) (y_free h hA isC hC) (fun q _ hq => y_free h hA isC hC q hq)
    (fun E ce q9 u t H1 locs1 ht _ _ hB _ hk hS h1 h2 h3 => kx E ce q9 u H1 locs1 hB.1 (y_back h hA isC isR isx hC hR hn hdis hn3 (hsx u) hk (by rw [← ht]; exact hB.2) hS) h1 h2 h3)
    (fun u t H1 locs1 ht _ hp hB _ hk hS => kk u H1 locs1 hp (y_back h hA isC isR is hC hR hn hdis hn2 (hs u) hk (by rw [← ht]; exact hB) hS))
theorem y_xcallq {S SX : Type} {post : Option Nat → S → Prop} {w1 X' : S → va_W} {px : String → SX → Prop} {wx Xx : SX → va_W} (h : yH D A s.heap X pl H locs) (hA : ∀ q : Nat, s.heap.size ≤ q → A q) (isC isR is : List Nat) (hC : isC.map (fun i => X[i]?) = wc.map some) (hR : isR.map (fun i => X[i]?) = wr.map some) (hn : va_nd isR = true) (hdis : ∀ i ∈ isR, i ∉ isC) (hn2 : va_nd is = true) (hs : ∀ u, is.map (fun i => (wr ++ w1 u)[i]?) = (X' u).map some) (isx : List Nat) (hn3 : va_nd isx = true) (hsx : ∀ u, isx.map (fun i => (wr ++ wx u)[i]?) = (Xx u).map some)
    (hr : vx_Run p l e R s m args below meth c H locs cells slots mc ms (F0 m pc ls st0) rest (va_Qq post (yB D (va_A wc H.size) w1) (va_A wc H.size) av) (yX D (va_A wc H.size) wx px) (va_A wc H.size))
    (kx : ∀ (E : String) (ce : Cell) (q9 : Addr) (u : SX) (H1 : Heap) (locs1 : List Loc), px E u → yH D A s.heap (Xx u) pl H1 locs1 → H1[q9]? = some ce → ce.vm = .none → s.vm.findClass E = some ce.cls → vx_W p l e R s m args below meth c H1 locs1 (cells + mc) (slots + ms) Q (F0 m pc ls rest) q9)
    (kk : ∀ (r : Option Nat) (u : S) (H1 : Heap) (locs1 : List Loc), post r u → yH D A s.heap (X' u) pl H1 locs1 → W p l e R s m args below meth c H1 locs1 (cells + mc) (slots + ms) Q (F0 m (pc + 3) ls (va_rf r :: rest))) : W p l e R s m args below meth c H locs cells slots Q (F0 m pc ls st0) :=
  vx_callq hr h.2.2 (fun q _ hq => y_free h hA isC hC q hq) (y_free h hA isC hC) (fun q _ hq => y_free h hA isC hC q hq)
    (fun E ce q9 u t H1 locs1 ht _ _ hB _ hk hS h1 h2 h3 => kx E ce q9 u H1 locs1 hB.1 (y_back h hA isC isR isx hC hR hn hdis hn3 (hsx u) hk (by rw [← ht]; exact hB.2) hS) h1 h2 h3)
    (fun r u t H1 locs1 ht _ hp hB _ hk hS => kk r u H1 locs1 hp (y_back h hA isC isR is hC hR hn hdis hn2 (hs u) hk (by rw [← ht]; exact hB) hS))
theorem y_xout {SX : Type} {px : String → SX → Prop} {wx : SX → va_W} {E : String} {ce : Cell} {q : Addr} (hno : ∀ x ∈ c.exceptionTable.toList, False) (hlocks : meth.locks = false) (u : SX) (hp : px E u) (h : yH D A s.heap X pl H locs) (hw : X ++ pl = wx u) (hc : cells ≤ mc) (hs : slots ≤ ms) (hcell : H[q]? = some ce) (hv : ce.vm = .none) (hcl : s.vm.findClass E = some ce.cls) : vx_W p l e R s m args below meth c H locs cells slots (vx_MQ below Qc (yX D A wx px) args s mc ms A) (F0 m pc ls rest) q := by
  obtain ⟨h1, h2, h3⟩ := h
  rw [hw] at h1 h2
  exact vx_out (fun x hx => (hno x hx).elim) hlocks hcell hv hcl (fun t ht _ => ⟨u, trivial, ⟨hp, by rw [ht]; exact h1, h2⟩, h3.F ht⟩) h3.2.2 hc hs
/-- throw new E("text"), out of the method -/
theorem y_throwS {SX : Type} {px : String → SX → Prop} {wx : SX → va_W} {cls text : String} {ik is ic : Nat} (hx : p.tables.exec = Jvm.exec) (hb : c.code = cc) (hl : l.stackTraces = false) (hown : s.vm.findClass RX7 = some m.cls) (hG : yGX D ty base s) (hAb : ∀ q, A q → base ≤ q) (hcls : Bundle.fit cls = true) (hk : yOK s (.classLink RX7 ik cls)) (hini : yOK s (.initialized cls)) (hstr : (is, text) ∈ yStrs) (hat : ∀ w ∈ vx_atS RX7 ic cls ["java/lang/RuntimeException", "java/lang/Exception"], yOK s w) (hgood : ∀ w ∈ Cond.classLink RX7 ik cls :: Cond.initialized cls :: vx_atS RX7 ic cls ["java/lang/RuntimeException", "java/lang/Exception"], vx_ot w = true) (h : yH D A s.heap X pl H locs) (hsize : ls.size = c.maxLocals)
    (d0 : decode cc pc = .ok (.new ik, 3)) (d3 : decode cc (pc + 3) = .ok (.dup, 1)) (d4 : decode cc (pc + 4) = .ok (.ldc is, 2)) (d6 : decode cc (pc + 6) = .ok (.invokespecial ic, 3)) (d9 : decode cc (pc + 9) = .ok (.athrow, 1)) (hno : ∀ x ∈ c.exceptionTable.toList, False) (hRf : 5 < R.frames) (hRl : (rest.map fun v => v.category).sum + 82 ≤ R.locals) (hRc : cells + 1 ≤ R.cells) (hRs : slots + 6 ≤ R.slots) (hlocks : meth.locks = false) (u : SX) (hp : px cls u) (hw : X ++ pl = wx u) (hc : cells + 1 ≤ mc) (hs : slots + 6 ≤ ms) :
    W p l e R s m args below meth c H locs cells slots (vx_MQ below Qc (yX D A wx px) args s mc ms A) (F0 m pc ls rest) := by
  obtain ⟨sa, hsa⟩ := hG.2.2.1 (is, text) hstr
  refine vx_throwS (own := RX7) (A := A) (names := ["java/lang/RuntimeException", "java/lang/Exception"]) hx hb hl hown hcls (by decide +kernel) hk.b hini.b hsa (fun w hw => (hat w hw).b) hgood (hG.2.2.2.1.1.narrow hAb) (hG.2.2.2.1.2.narrow hAb) h.2.2 hsize d0 d3 d4 d6 d9 (fun x hx => (hno x hx).elim) hRf hRl hRc hRs hlocks (fun t _ hz hq => ⟨u, trivial, ⟨hp, ?_, ?_⟩, ?_⟩) h.2.2.2.2 hc hs
  · rw [← hw]; exact h.1.kept (fun k x hk => hq x.1 (h.1 k x hk).lt)
  · rw [← hw]; exact h.2.1
  · exact ⟨Nat.le_trans h.2.2.1 hz, fun q h1 h2 => (hq q (Nat.lt_of_lt_of_le h1 h.2.2.1)).trans (h.2.2.2.1 q h1 h2)⟩
/-- throw new E("text"), out of the method -/
theorem y_throwSW {SX : Type} {px : String → SX → Prop} {wx : SX → va_W} {cls text : String} {ik is ic : Nat} (hx : p.tables.exec = Jvm.exec) (hb : c.code = cc) (hl : l.stackTraces = false) (hown : s.vm.findClass RX7 = some m.cls) (hG : yGX D ty base s) (hAb : ∀ q, A q → base ≤ q) (hcls : Bundle.fit cls = true) (hk : yOK s (.classLink RX7 ik cls)) (hini : yOK s (.initialized cls)) (hstr : (is, text) ∈ yStrs) (hat : ∀ w ∈ vx_atS RX7 ic cls ["java/lang/RuntimeException", "java/lang/Exception"], yOK s w) (hgood : ∀ w ∈ Cond.classLink RX7 ik cls :: Cond.initialized cls :: vx_atS RX7 ic cls ["java/lang/RuntimeException", "java/lang/Exception"], vx_ot w = true) (h : yH D A s.heap X pl H locs) (hsize : ls.size = c.maxLocals)
    (d0 : decode cc pc = .ok (.new ik, 3)) (d3 : decode cc (pc + 3) = .ok (.dup, 1)) (d4 : decode cc (pc + 4) = .ok (.ldc_w is, 3)) (d6 : decode cc (pc + 7) = .ok (.invokespecial ic, 3)) (d9 : decode cc (pc + 10) = .ok (.athrow, 1)) (hno : ∀ x ∈ c.exceptionTable.toList, False) (hRf : 5 < R.frames) (hRl : (rest.map fun v => v.category).sum + 82 ≤ R.locals) (hRc : cells + 1 ≤ R.cells) (hRs : slots + 6 ≤ R.slots) (hlocks : meth.locks = false) (u : SX) (hp : px cls u) (hw : X ++ pl = wx u) (hc : cells + 1 ≤ mc) (hs : slots + 6 ≤ ms) :
    W p l e R s m args below meth c H locs cells slots (vx_MQ below Qc (yX D A wx px) args s mc ms A) (F0 m pc ls rest) := by
  obtain ⟨sa, hsa⟩ := hG.2.2.1 (is, text) hstr
  refine vx_throwSW (own := RX7) (A := A) (names := ["java/lang/RuntimeException", "java/lang/Exception"]) hx hb hl hown hcls (by decide +kernel) hk.b hini.b hsa (fun w hw => (hat w hw).b) hgood (hG.2.2.2.1.1.narrow hAb) (hG.2.2.2.1.2.narrow hAb) h.2.2 hsize d0 d3 d4 d6 d9 (fun x hx => (hno x hx).elim) hRf hRl hRc hRs hlocks (fun t _ hz hq => ⟨u, trivial, ⟨hp, ?_, ?_⟩, ?_⟩) h.2.2.2.2 hc hs
  · rw [← hw]; exact h.1.kept (fun k x hk => hq x.1 (h.1 k x hk).lt)
  · rw [← hw]; exact h.2.1
  · exact ⟨Nat.le_trans h.2.2.1 hz, fun q h1 h2 => (hq q (Nat.lt_of_lt_of_le h1 h.2.2.1)).trans (h.2.2.2.1 q h1 h2)⟩
end YX
theorem y_at1 : ∀ w ∈ vx_atS RX7 288 xIA ["java/lang/RuntimeException", "java/lang/Exception"], w ∈ lw_tbl ∧ yAC w = true := by decide +kernel
theorem y_at2 : ∀ w ∈ vx_atS RX7 125 xIS ["java/lang/RuntimeException", "java/lang/Exception"], w ∈ lw_tbl ∧ yAC w = true := by decide +kernel
theorem y_at3 : ∀ w ∈ vx_atS RX7 293 xIX ["java/lang/RuntimeException", "java/lang/Exception"], w ∈ lw_tbl ∧ yAC w = true := by decide +kernel
theorem y_ot1 : ∀ w ∈ Cond.classLink RX7 284 xIA :: Cond.initialized xIA :: vx_atS RX7 288 xIA ["java/lang/RuntimeException", "java/lang/Exception"], vx_ot w = true := by decide +kernel
theorem y_ot2 : ∀ w ∈ Cond.classLink RX7 121 xIS :: Cond.initialized xIS :: vx_atS RX7 125 xIS ["java/lang/RuntimeException", "java/lang/Exception"], vx_ot w = true := by decide +kernel
theorem y_ot3 : ∀ w ∈ Cond.classLink RX7 289 xIX :: Cond.initialized xIX :: vx_atS RX7 293 xIX ["java/lang/RuntimeException", "java/lang/Exception"], vx_ot w = true := by decide +kernel
theorem y_hat {D : va_G} {ty : Nat → ClassId} {base : Nat} {s : State} (hG : yGX D ty base s) {L : List Cond} (h : ∀ w ∈ L, w ∈ lw_tbl ∧ yAC w = true) : ∀ w ∈ L, yOK s w := fun w hw => hG.wd (h w hw).1 (h w hw).2
