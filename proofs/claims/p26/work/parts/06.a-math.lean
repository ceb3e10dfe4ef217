/-! answers as the law of the yard's own takes them -/
def bA (c : Bool) (v : Int32) : Int32 := if c = true then v else -99999999
def bS (c : Bool) (v : Int64) : Int64 := if c = true then v else -9000000000000000
theorem bA_t {c : Bool} {v : Int32} (h : c = true) : v = bA c v := by rw [h]; rfl
theorem bA_f {c : Bool} {v : Int32} (h : c = false) : -99999999 = bA c v := by rw [h]; rfl
theorem bS_t {c : Bool} {v : Int64} (h : c = true) : v = bS c v := by rw [h]; rfl
theorem bS_f {c : Bool} {v : Int64} (h : c = false) : -9000000000000000 = bS c v := by rw [h]; rfl
theorem an_t {a b : Bool} (h : a = true) (h2 : b = true) : (a && b) = true := by rw [h, h2]; rfl
theorem an_f1 {a b : Bool} (h : a = false) : (a && b) = false := by rw [h]; rfl
theorem an_f2 {a b : Bool} (h : b = false) : (a && b) = false := by rw [h, Bool.and_false]
theorem oz_0 {P : Prop} [Decidable P] {b : Bool} (h : ¬ P → b = true) : (decide P || b) = true := by
  by_cases q : P
  · rw [decide_eq_true q]; rfl
  · rw [h q, Bool.or_true]
theorem oz_n {P : Prop} [Decidable P] {b : Bool} (h : ¬ P) (h2 : b = false) : (decide P || b) = false := by rw [decide_eq_false h, h2]; rfl
theorem bf_t {b : Bool} (h : ¬ b = true) : b = false := by cases b with
  | false => rfl
  | true => exact absurd rfl h
def qLow (v n : Int32) : Int32 := (v &&& 2147483647) - (v &&& 2147483647) / n * n
/-- a number that is a PLACE's or a DIAL's -/
def atN (k : Nat) (n : Int32) (f : Nat → Int32) : Int32 := if 0 ≤ n.toInt ∧ n.toInt < k then f n.toInt.toNat else -99999999
theorem atN_y {k j : Nat} {f : Nat → Int32} (hj : j < k) (hk : k ≤ 100) : atN k (nI j) f = f j := by
  have e : (nI j).toInt = j := nI_toInt (by omega)
  unfold atN
  rw [if_pos ⟨by omega, by omega⟩, e, Int.toNat_natCast]
theorem atN_n {k : Nat} {n : Int32} {f : Nat → Int32} (h : ¬ (0 ≤ n.toInt ∧ n.toInt < k)) : -99999999 = atN k n f := by unfold atN; rw [if_neg h]
def atS {α : Type} (k : Nat) (n : Int32) (s : α) (f : Nat → α) : α := if 0 ≤ n.toInt ∧ n.toInt < k then f n.toInt.toNat else s
theorem atS_y {α : Type} {k j : Nat} {s : α} {f : Nat → α} (hj : j < k) (hk : k ≤ 100) : atS k (nI j) s f = f j := by
  have e : (nI j).toInt = j := nI_toInt (by omega)
  unfold atS
  rw [if_pos ⟨by omega, by omega⟩, e, Int.toNat_natCast]
theorem atS_n {α : Type} {k : Nat} {n : Int32} {s : α} {f : Nat → α} (h : ¬ (0 ≤ n.toInt ∧ n.toInt < k)) : atS k n s f = s := by unfold atS; rw [if_neg h]
def cB {α : Type} (c : Bool) (a b : α) : α := if c = true then a else b
theorem cB_t {α : Type} {c : Bool} {a b : α} (h : c = true) : cB c a b = a := by rw [h]; rfl
theorem cB_f {α : Type} {c : Bool} {a b : α} (h : c = false) : cB c a b = b := by rw [h]; rfl
theorem ne_f {b : Bool} (h : b = false) : ¬ b = true := fun q => by rw [h] at q; cases q
def bd (x : Int32) : Prop := -9999 ≤ x.toInt ∧ x.toInt ≤ 9999
theorem jAbs_bd {x y : Int32} (hx : bd x) (hy : bd y) : 0 ≤ (jAbs (x - y)).toInt ∧ (jAbs (x - y)).toInt ≤ 19998 := by
  obtain ⟨h1, h2⟩ := hx
  obtain ⟨h3, h4⟩ := hy
  have e : (x - y).toInt = x.toInt - y.toInt := fb_subI (by omega) (by omega)
  unfold jAbs
  by_cases q : 0 ≤ x - y
  · rw [if_pos q]
    rw [Int32.le_iff_toInt_le, Int32.toInt_zero] at q
    omega
  · rw [if_neg q, fb_negI (by omega)]
    rw [Int32.le_iff_toInt_le, Int32.toInt_zero] at q
    omega
theorem dist_bd {x y a b : Int32} (hx : bd x) (hy : bd y) (ha : bd a) (hb : bd b) : jAbs (a - x) + jAbs (b - y) < 1000000 := by
  have h1 := jAbs_bd ha hx
  have h2 := jAbs_bd hb hy
  rw [Int32.lt_iff_toInt_lt, fb_addI (by omega) (by omega)]
  show _ < (1000000 : Int)
  omega
theorem bd_l {n : Int64} (h : wL n = true) : bd n.toInt32 := by
  have h1 := of_decide_eq_true h
  rw [Int64.le_iff_toInt_le, Int64.le_iff_toInt_le] at h1
  have h2 : (-9999 : Int64).toInt = -9999 := by decide
  have h3 : (9999 : Int64).toInt = 9999 := by decide
  have e : n.toInt32.toInt = n.toInt := by rw [Int64.toInt_toInt32]; exact fb_bmod (by omega) (by omega)
  unfold bd
  omega
theorem sXY_bd {p d t tl f r : Int32} (h : sIs p d t tl f r = true) : bd (sX p d t tl f r) ∧ bd (sY p d t tl f r) := by
  unfold sIs gIs at h
  have h1 := Bool.and_eq_true_iff.mp h
  have h2 := Bool.and_eq_true_iff.mp h1.2
  have h3 := Bool.and_eq_true_iff.mp h2.2
  unfold sX sY gPx gPy
  exact ⟨bd_l h3.1, bd_l h3.2⟩
theorem bd_w {x : Int32} (h : wI x (-9999) 9999 = true) : bd x := by
  have h1 := wI_d h
  have h2 : (-9999 : Int32).toInt = -9999 := by decide
  have h3 : (9999 : Int32).toInt = 9999 := by decide
  unfold bd
  omega
theorem wL_I (x : Int32) : wL x.toInt64 = wI x (-9999) 9999 := by
  unfold wL wI
  have e1 : ((-9999 : Int64) ≤ x.toInt64) ↔ ((-9999 : Int32) ≤ x) := by
    rw [Int64.le_iff_toInt_le, Int32.le_iff_toInt_le, Int32.toInt_toInt64]
    exact Iff.rfl
  have e2 : (x.toInt64 ≤ (9999 : Int64)) ↔ (x ≤ (9999 : Int32)) := by
    rw [Int64.le_iff_toInt_le, Int32.le_iff_toInt_le, Int32.toInt_toInt64]
    exact Iff.rfl
  exact decide_eq_decide.mpr (and_congr e1 e2)
section YC
variable {p : Program} {l : Launch} {e : Env} {R : Room} {s : State} {m : MethodId} {args : Array Value} {below : List Frame} {meth : Method} {c : Code} {H : Heap} {locs : List Loc} {cells slots : Nat} {Q : State → Prop}
variable {pc : Nat} {ls : Array Slot} {rest : List Value} {D : va_G} {ty : Nat → ClassId} {base : Nat}
theorem y_lk {k : Nat} {E : String} (hG : yGX D ty base s) (h : (k = 36 ∧ E = xIX) ∨ (k = 14 ∧ E = xIA) ∨ (k = 30 ∧ E = xIS)) : yOK s (.classLink RL k E) ∧ yOK s (.castable E E) ∧ k ≠ 0 := by
  rcases h with ⟨rfl, rfl⟩ | ⟨rfl, rfl⟩ | ⟨rfl, rfl⟩
  · exact ⟨kw_2_102 hG, kw_2_113 hG, by decide⟩
  · exact ⟨kw_1_225 hG, kw_2_2 hG, by decide⟩
  · exact ⟨kw_1_226 hG, kw_2_70 hG, by decide⟩
/-- the law catches -/
theorem y_catch {E : String} {ce : Cell} {q : Addr} {tb pre suf : List (Nat × Nat × Nat × Nat)} {x : Nat × Nat × Nat × Nat} (hown : s.vm.findClass RL = some m.cls) (hG : yGX D ty base s) (htab : c.exceptionTable.toList = tableOf tb) (hs : tb = pre ++ x :: suf)
    (hpre : ∀ z ∈ pre, ∃ N, ((z.2.2.2 = 36 ∧ N = xIX) ∨ (z.2.2.2 = 14 ∧ N = xIA) ∨ (z.2.2.2 = 30 ∧ N = xIS)) ∧ (E, N) ∈ yNcs) (hx : (x.2.2.2 = 36 ∧ E = xIX) ∨ (x.2.2.2 = 14 ∧ E = xIA) ∨ (x.2.2.2 = 30 ∧ E = xIS))
    (hcov : covers ⟨x.1, x.2.1, x.2.2.1, x.2.2.2⟩ pc = true) (hcell : H[q]? = some ce) (hv : ce.vm = .none) (hcl : s.vm.findClass E = some ce.cls)
    (kk : W p l e R s m args below meth c H locs cells slots Q (F0 m x.2.2.1 ls [.ref q])) : vx_W p l e R s m args below meth c H locs cells slots Q (F0 m pc ls rest) q := by
  refine vx_catch (own := RL) (name := E) hown (tableOf pre) ⟨x.1, x.2.1, x.2.2.1, x.2.2.2⟩ (tableOf suf) ?_ ?_ hcov (y_lk hG hx).2.2 (y_lk hG hx).1.b (y_lk hG hx).2.1.b hcell hv hcl kk
  · rw [htab, hs]
    unfold tableOf
    rw [List.map_append]; rfl
  · intro z hz
    unfold tableOf at hz
    obtain ⟨z2, hz2, rfl⟩ := List.mem_map.mp hz
    obtain ⟨N, h1, h2⟩ := hpre z2 hz2
    exact Or.inr ⟨(y_lk hG h1).2.2, N, (y_lk hG h1).1.b, hG.2.2.2.2.2.1 _ h2⟩
end YC
theorem pre_0 {P : Nat × Nat × Nat × Nat → Prop} : ∀ z ∈ ([] : List (Nat × Nat × Nat × Nat)), P z := fun _ h => nomatch h
theorem pre_1 {P : Nat × Nat × Nat × Nat → Prop} {x : Nat × Nat × Nat × Nat} (h : P x) : ∀ z ∈ [x], P z := fun z hz => by
  rw [List.mem_singleton.mp hz]; exact h
theorem pre_2 {P : Nat × Nat × Nat × Nat → Prop} {x y : Nat × Nat × Nat × Nat} (h : P x) (h2 : P y) : ∀ z ∈ [x, y], P z := fun z hz => by
  rcases List.mem_cons.mp hz with rfl | hz
  · exact h
  · rw [List.mem_singleton.mp hz]; exact h2
section YL
variable {p : Program} {l : Launch} {e : Env} {R : Room} {s : State} {m : MethodId} {args : Array Value} {below : List Frame} {meth : Method} {c : Code} {H : Heap} {locs : List Loc} {cells slots : Nat} {Q : State → Prop}
variable {pc : Nat} {ls : Array Slot} {rest : List Value} {D : va_G} {ty : Nat → ClassId} {base : Nat} {A : Nat → Prop} {own : String}
theorem y_cwSW {index maxL : Nat} {y : MethodName} {bytes : ByteArray} {ret : Option FieldType} {hh : List (Nat × Nat × Nat × Nat)} {rm : Room} (n : Nat) (hcode : yOK s (.codeWith y bytes maxL ret hh)) (hini : yOK s (.initialized y.cls)) (hl : yOK s (.methodLink own index y)) (hst : yOK s (.static y)) (hd : y.cls ≠ "java/lang/invoke/MethodHandle" ∧ y.cls ≠ "java/lang/invoke/VarHandle" ∧ (parseMethodDescriptor y.desc).map (fun d => d.parameters.length) = some n) (hR : rm.frames + 1 ≤ R.frames ∧ 8 + (maxL + 11) + rm.locals ≤ R.locals) : vx_CSW R s args own index y bytes maxL ret hh [.codeWith y bytes maxL ret hh] rm rm.cells rm.slots n := by
  refine ⟨⟨rfl, rfl, hR.1, hR.2, fun w hw => ?_, List.mem_cons_self⟩, hcode.b, hini.b, ⟨hd.1, hd.2.1⟩, fun sig h => ?_, hl.b, hst.b⟩
  · rw [List.mem_singleton.mp hw]; exact hcode
  · have h2 := hd.2.2
    rw [h] at h2
    exact (Option.some.inj h2).symm
theorem y_sld {cc : ByteArray} (hexec : p.tables.exec = Jvm.exec) (hb : c.code = cc) {b L : Nat} {xs : Nat → Int32} {H0 : Heap} (hX : va_X b L xs s H0) (hbl : b < H0.size) (hbA : ¬ A b) (hS : va_S A H0 H locs) {i v : Int32} (hin : vp_in i L) (hv : xs i.toNatClampNeg = v) (hdg : decode cc pc = .ok (.iaload, 1))
    (kk : W p l e R s m args below meth c H locs cells slots Q (F0 m (pc + 1) ls (.int v :: rest))) : W p l e R s m args below meth c H locs cells slots Q (F0 m pc ls (.int i :: .ref b :: rest)) := by
  subst hv
  exact va_sld hexec hb hX hbl hbA hS hin hdg kk
end YL
