section YL
variable {p : Program} {l : Launch} {e : Env} {R : Room} {s : State} {m : MethodId} {args : Array Value} {below : List Frame} {meth : Method} {c : Code} {H : Heap} {locs : List Loc} {cells slots : Nat} {Q : State → Prop}
variable {pc : Nat} {ls : Array Slot} {rest : List Value} {D : va_G} {ty : Nat → ClassId} {base : Nat} {A : Nat → Prop} {own : String}
theorem y_cwSW {index maxL : Nat} {y : MethodName} {bytes : ByteArray} {ret : Option FieldType} {hh : List (Nat × Nat × Nat × Nat)} {rm : Room} (n : Nat) (hcode : yOK s (.codeWith y bytes maxL ret hh)) (hini : yOK s (.initialized y.cls)) (hl : yOK s (.methodLink own index y)) (hst : yOK s (.static y)) (hd : y.cls ≠ "java/lang/invoke/MethodHandle" ∧ y.cls ≠ "java/lang/invoke/VarHandle" ∧ (parseMethodDescriptor y.desc).map (fun d => d.parameters.length) = some n) (hR : rm.frames + 1 ≤ R.frames ∧ 8 + (maxL + 11) + rm.locals ≤ R.locals) : vx_CSW R s args own index y bytes maxL ret hh [.codeWith y bytes maxL ret hh] rm rm.cells rm.slots n := by
  refine ⟨⟨rfl, rfl, hR.1, hR.2, fun w hw => ?_, List.mem_cons_self⟩, hcode.b, hini.b, ⟨hd.1, hd.2.1⟩, fun sig h => ?_, hl.b, hst.b⟩
  · rw [List.mem_singleton.mp hw]; exact hcode
  · have h2 := hd.2.2
    rw [h] at h2
    exact (Option.some.inj h2).symm
theorem y_sld {cc : ByteArray} (hexec : p.tables.exec = Jvm.exec) (hb : c.code = cc) {b L : Nat} {xs : Nat → Int32} {H0 : Heap} (hX : va_X b L xs s H0) (hbl : b < H0.size) (hbA : ¬ A b) (hS : va_S A H0 H locs) {i v : Int32} (hin : vp_in i L) (hv : xs i.toNatClampNeg = v) (hdg : decode cc pc = .ok (.iaload, 1))
    (kk : W p l e R s m args below meth c H locs cells slots Q (F0 m (pc + 1) ls (.int v :: rest))) : W p l e R s m args below meth c H locs cells slots Q (F0 m pc ls (.int i :: .ref b :: rest)) := by
  subst hv
  exact va_sld hexec hb hX hbl hbA hS hin hdg kk
/-- what stands through the law's loop -/
def lwE (p : Program) (l : Launch) (s : State) (m : MethodId) (c : Code) (b L : Nat) (scr : Nat → Int32) (D : va_G) (ty : Nat → ClassId) (base : Nat) (A : Nat → Prop) : Prop :=
  l.stackTraces = false ∧ p.tables.exec = Jvm.exec ∧ c.code = code ∧ c.maxLocals = 9 ∧ s.vm.findClass RL = some m.cls ∧ yGX D ty base s ∧ va_X b L scr s s.heap ∧ b < s.heap.size ∧ ¬ A b ∧ (∀ q, s.heap.size ≤ q → A q) ∧ (∀ q, A q → base ≤ q) ∧ L ≤ 2560
end YL
theorem sx_cl {q k : Nat} {x : Int32} (hx : x = nI k) (h : 5 * q + k < 3000) : nI (5 * q) + x = nI (5 * q + k) := by rw [hx, nI_add]
theorem sx_in {q L k : Nat} {x : Int32} (hx : x = nI k) (hk : k < 5) (hq : 5 * q + 5 ≤ L) (hL : L ≤ 2560) : vp_in (nI (5 * q) + x) L := by
  rw [sx_cl hx (by omega)]; exact vp_in_nI (show 5 * q + k < L by omega) (by omega)
theorem sx_at {q L k : Nat} {x v : Int32} {f : Nat → Int32} (hx : x = nI k) (hk : k < 5) (hq : 5 * q + 5 ≤ L) (hL : L ≤ 2560) (h : f (5 * q + k) = v) : f (nI (5 * q) + x).toNatClampNeg = v := by
  rw [sx_cl hx (by omega), nI_clamp (by omega)]; exact h
theorem pl0 {v : Bool} {k N : Nat} {e1 e2 : Int32} (h : v = true) (h2 : k < N) : kO v e1 (if k < N then 0 else e2) = 0 := by rw [h, if_pos h2]; rfl
theorem plF {v : Bool} {k N : Nat} {e1 e2 : Int32} (h : v = true → ¬ k < N) : kO v e1 (if k < N then 0 else e2) = kO v e1 e2 := by
  cases hv : v with
  | false => rfl
  | true => rw [if_neg (h hv)]
theorem kO_ne {v : Bool} {e1 e2 : Int32} (h1 : ¬ e1 = 0) (h2 : ¬ e2 = 0) : ¬ kO v e1 e2 = 0 := by
  cases v with
  | false => exact h1
  | true => exact h2
theorem kO_0 {v : Bool} (h : kO v 2 0 = 0) : v = true := by
  cases v with
  | false => exact absurd h (by decide)
  | true => rfl
theorem hr_sF {d t w a sF sF' sT X : Int32} {b c : Bool} (hy : sF = sF' ∨ sT = -1) (h : kO (wI d 0 359 && (b && c)) 2 0 = 0) : (if w = 3 then gClk a d t sF sT else X) = (if w = 3 then gClk a d t sF' sT else X) := by
  have h2 := (Bool.and_eq_true_iff.mp (kO_0 h)).1
  rw [clk_sF hy (day_lo h2)]
theorem ld_0 {f : Nat → Int64} : f (0 : Int32).toNatClampNeg = f 0 := congrArg f (show (0 : Int32).toNatClampNeg = 0 from by decide)
theorem ldd_0 {f : Nat → UInt64} : f (0 : Int32).toNatClampNeg = f 0 := congrArg f (show (0 : Int32).toNatClampNeg = 0 from by decide)
theorem veq_of {o : Int64} {a b r : Int32} (h1 : o = a.toInt64) (h2 : r = b) (e : a = b) : o = r.toInt64 := by rw [h1, h2, e]
theorem dc_0 {a b : UInt64} {v : UInt32} (h1 : a = FP.f2d v) (h2 : b = FP.f2d v) (h : FP.dcmp (FP.f2d v) (FP.f2d v) = some .eq) (op : CmpOp) : Op.cmpValue (FP.dcmp a b) op = 0 := by rw [h1, h2, h]; rfl
theorem kS_s {d s : Bool} (h : kS d s = 0) : s = true := by
  cases d <;> cases s <;> first | rfl | exact absurd h (by decide)
