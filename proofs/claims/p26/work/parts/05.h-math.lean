section YQ
variable {p : Program} {l : Launch} {e : Env} {R : Room} {s : State} {m : MethodId} {args : Array Value} {below : List Frame} {meth : Method} {c : Code} {H : Heap} {locs : List Loc} {cells slots : Nat} {Q : State → Prop}
variable {cc : ByteArray} {pc : Nat} {ls : Array Slot} {rest : List Value} {D : va_G} {ty : Nat → ClassId} {base : Nat} {A : Nat → Prop} {X pl : va_W} {own : String} {a : Nat}
variable {mc ms : Nat} {st0 : List Value} {av : Array Value} {wc wr : va_W}
theorem y_callq {S : Type} {post : Option Nat → S → Prop} {w1 X' : S → va_W} (h : yH D A s.heap X pl H locs) (hA : ∀ q : Nat, s.heap.size ≤ q → A q) (isC isR is : List Nat) (hC : isC.map (fun i => X[i]?) = wc.map some) (hR : isR.map (fun i => X[i]?) = wr.map some) (hn : va_nd isR = true) (hdis : ∀ i ∈ isR, i ∉ isC) (hn2 : va_nd is = true) (hs : ∀ u, is.map (fun i => (wr ++ w1 u)[i]?) = (X' u).map some)
    (hr : va_Run p l e R s m args below meth c H locs cells slots mc ms (F0 m pc ls st0) rest (va_Qq post (yB D (va_A wc H.size) w1) (va_A wc H.size) av) (va_A wc H.size))
    (kk : ∀ (r : Option Nat) (u : S) (H1 : Heap) (locs1 : List Loc), post r u → yH D A s.heap (X' u) pl H1 locs1 → W p l e R s m args below meth c H1 locs1 (cells + mc) (slots + ms) Q (F0 m (pc + 3) ls (va_rf r :: rest))) : W p l e R s m args below meth c H locs cells slots Q (F0 m pc ls st0) :=
  va_callq hr h.2.2 (fun q _ hq => y_free h hA isC hC q hq) (y_free h hA isC hC) (fun r u t H1 locs1 ht _ hp hB _ hk hS => kk r u H1 locs1 hp (y_back h hA isC isR is hC hR hn hdis hn2 (hs u) hk (by rw [← ht]; exact hB) hS))
end YQ
theorem y_split {p : Program} {l : Launch} {e : Env} {R : Room} {s : State} {m : MethodId} {args : Array Value} {below : List Frame} {meth : Method} {c : Code} {H : Heap} {locs : List Loc} {cells slots : Nat} {Q : State → Prop} {pc : Nat} {ls : Array Slot} {rest : List Value} {b : Bool}
    (k1 : b = true → W p l e R s m args below meth c H locs cells slots Q (F0 m pc ls (.int 1 :: rest))) (k2 : b = false → W p l e R s m args below meth c H locs cells slots Q (F0 m pc ls (.int 0 :: rest))) : W p l e R s m args below meth c H locs cells slots Q (F0 m pc ls (.int (bI b) :: rest)) := by
  cases b with
  | true => exact k1 rfl
  | false => exact k2 rfl
theorem at_bad {n : Int32} {k : Nat} (hk : k ≤ 100) (hb : ¬ (0 ≤ n.toInt ∧ n.toInt < k)) (c1 : ¬ n < 0) (c2 : ¬ nI k ≤ n) : False := by
  apply hb
  rw [Int32.lt_iff_toInt_lt, Int32.toInt_zero] at c1
  rw [Int32.le_iff_toInt_le, nI_toInt (by omega)] at c2
  omega
theorem and_t {a b : Bool} (h : a = true) (h2 : b = true) : (a && b) = true := by rw [h, h2]; rfl
theorem and_f1 {a b : Bool} (h : a = false) : (a && b) = false := by rw [h]; rfl
theorem and_f2 {a b : Bool} (h : b = false) : (a && b) = false := by rw [h, Bool.and_false]
/-- errors of a trial on one day -/
def eIn (en : Int32) (co : Nat → Int32) : Nat → Nat → Int32 → Int32
  | 0, _, e => e
  | n + 1, i, e => if en ≤ e then e else eIn en co n (i + 1) (e + co i)
def cE (told t : Int32) (u : Bool) : Int32 := if told = -1 then (if u = true then 180 else 0) else jAbs (told - t)
def eCost (p d tl f ro : Int32) (T X Y : Nat → Int32) (k : Nat) (i : Nat) : Int32 := cE (gTold (sIs p d (nI (15 * i)) tl f ro) (nA T X Y (sX p d (nI (15 * i)) tl f ro) (sY p d (nI (15 * i)) tl f ro) k).2) (nI (15 * i)) (gLit p d (nI (15 * i)))
theorem eI_s {en e y : Int32} {co : Nat → Int32} {i : Nat} (hik : i < 24) (c : ¬ en ≤ e) (h : e + co i = y) : eIn en co (24 - i) i e = eIn en co (24 - (i + 1)) (i + 1) y := by
  rw [show 24 - i = (24 - (i + 1)) + 1 by omega]
  show (if en ≤ e then e else _) = _
  rw [if_neg c, h]
theorem eI_x {en e : Int32} {co : Nat → Int32} {i : Nat} (hik : i < 24) (c : en ≤ e) : eIn en co (24 - i) i e = e := by
  rw [show 24 - i = (24 - (i + 1)) + 1 by omega]
  show (if en ≤ e then e else _) = _
  rw [if_pos c]
theorem eI_e {en e E : Int32} {co : Nat → Int32} {i : Nat} (hik : i = 24) (h : E = eIn en co (24 - i) i e) : E = e := by
  rw [h, hik]; exact Eq.refl _
theorem cE_a {e w v t : Int32} {u : Bool} (hv : v = w) (h : ¬ v = -1) : e + cE w t u = e + jAbs (v - t) := by rw [← hv]; unfold cE; rw [if_neg h]
theorem cE_b {e w v t y : Int32} {u : Bool} (hv : v = w) (h : v = -1) (hu : u = true) (hy : y = e + Int32.ofInt 180) : e + cE w t u = y := by rw [← hv, hy]; unfold cE; rw [if_pos h, if_pos hu]; exact Eq.refl _
theorem cE_c {e w v t : Int32} {u : Bool} (hv : v = w) (h : v = -1) (hu : u = false) : e + cE w t u = e := by rw [← hv]; unfold cE; rw [if_pos h, if_neg (fun q => by rw [hu] at q; cases q)]; exact Int32.add_zero e
theorem y_15 (i : Nat) : nI (15 * i) + Int32.ofInt 15 = nI (15 * (i + 1)) := by
  rw [show Int32.ofInt 15 = nI 15 from by decide]; rw [nI_add, Nat.mul_add]
