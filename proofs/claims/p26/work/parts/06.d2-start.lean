theorem y_startw_l {l : Launch} {y : MethodName} {rm : Room} {D : va_G} {ty : Nat → ClassId} {base sz : Nat} {wc : va_W} {As : List Value} {S : Type} {post : Int64 → S → Prop} {w1 : S → va_W} {cc : ByteArray} {maxL : Nat} {own : String} {hh : List (Nat × Nat × Nat × Nat)}
    (hy : plainName y.cls = true) (hown : y.cls = own) (hne : (lg_sl As).length ≤ maxL)
    (body : ∀ (p : Program) (e : Env) (s : State) (m : MethodId) (args : Array Value) (below : List Frame) (meth : Method) (c : Code) (A : Nat → Prop) (ls : Array Slot) (Q : State → Prop), p.tables.exec = Jvm.exec → c.code = cc → c.maxLocals = maxL → s.vm.findClass own = some m.cls → c.exceptionTable.toList = tableOf hh → yGX D ty base s → (∀ q, s.heap.size ≤ q → A q) → (∀ q, A q → base ≤ q) → s.heap.size = sz → yH D A s.heap wc [] s.heap [] → lv_has ls maxL (lv_args 0 As) →
      (∀ (v : Int64) (u : S) (X pl : va_W) (H : Heap) (locs : List Loc) (cells slots pc : Nat) (ls : Array Slot), post v u → yH D A s.heap X pl H locs → X ++ pl = w1 u → cells ≤ rm.cells → slots ≤ rm.slots → decode cc pc = .ok (.lreturn, 1) → W p l e rm s m args below meth c H locs cells slots Q (F0 m pc ls [.long v])) →
      W p l e rm s m args below meth c s.heap [] 0 0 Q (F0 m 0 ls [])) : Met l y [.codeWith y cc maxL (some .long) hh] rm (yPc D ty base sz wc As) (va_Ql post (yB D (va_A wc sz) w1) (va_A wc sz)) rm.cells rm.slots (va_A wc sz) := by
  refine y_ofWH (Qf := fun A => va_Ql post (yB D A w1) A) hy hown hne (fun p e s m below meth c A ls hS hr hlocks htab hG hA hAb hsz h hl => ?_)
  obtain ⟨hx, hb, hml, hfc, hts⟩ := hS
  exact body p e s m _ below meth c A ls _ hx hb hml hfc htab hG hA hAb hsz h hl
    (fun v u X pl H locs cells slots pc ls hp h hw hc hs hd => y_lret hx hb hr hlocks u hp h hw hc hs hd)
