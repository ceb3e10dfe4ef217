def kS (d : Bool) (s : Bool) : Int32 := kO d 2 (kO s 3 0)
theorem kS_d {d s : Bool} (h : d = false) : 2 = kS d s := kO_f h
theorem kS_n {d s : Bool} (h : d = true) (h2 : s = false) : 3 = kS d s := kO_t2 h (kO_f h2)
theorem kS_y {d s : Bool} (h : d = true) (h2 : s = true) : 0 = kS d s := kO_t2 h (kO_t h2)
def kL (v : Bool) (w : Int32) (b : Bool) : Int32 := kO v 2 (if w = 0 then 0 else kO b 3 0)
theorem kL_v {v b : Bool} {w : Int32} (h : v = false) : 2 = kL v w b := kO_f h
theorem kL_0 {v b : Bool} {w : Int32} (h : v = true) (h2 : w = 0) : 0 = kL v w b := kO_t2 h (if_pos h2).symm
theorem kL_y {v b : Bool} {w : Int32} (h : v = true) (h2 : b = true) : 0 = kL v w b := kO_t2 h (by rw [h2]; exact (ite_self _).symm)
theorem kL_n {v b : Bool} {w : Int32} (h : v = true) (h1 : ¬ w = 0) (h2 : b = false) : 3 = kL v w b := kO_t2 h (by rw [if_neg h1, h2]; rfl)
theorem w3_t {w : Int32} (c : 3 ≤ w) : 2 < w := by
  rw [Int32.le_iff_toInt_le] at c
  rw [Int32.lt_iff_toInt_lt]
  have h2 : (2 : Int32).toInt = 2 := by decide
  have h3 : (3 : Int32).toInt = 3 := by decide
  omega
theorem w3_f {w : Int32} (c : ¬ 3 ≤ w) : ¬ 2 < w := by
  rw [Int32.le_iff_toInt_le] at c
  rw [Int32.lt_iff_toInt_lt]
  have h2 : (2 : Int32).toInt = 2 := by decide
  have h3 : (3 : Int32).toInt = 3 := by decide
  omega
theorem bI_andl {a b : Bool} (h : bI a = 0) : (a && b) = false := by rw [bI_f h]; rfl
theorem bI_andr {a b : Bool} (h : bI b = 0) : (a && b) = false := by rw [bI_f h, Bool.and_false]
theorem g1_s {g v : Int32} (h : -1 ≤ g.toInt) (c : ¬ v ≤ g) : -1 ≤ v.toInt := by
  rw [Int32.le_iff_toInt_le] at c; omega
theorem g1_n {g : Int32} (h : -1 ≤ g.toInt) (c : ¬ -1 ≤ g) : False := by
  rw [Int32.le_iff_toInt_le] at c
  exact c h
/-- as what a point is read: how the two stand to each other -/
theorem rd_w {p d tl f ro x y a b : Int32} (h1 : a = x) (h2 : b = y) : gRD p d tl f ro a b = gRD p d tl f ro x y := by rw [h1, h2]
theorem tl_no {p tl f r ps ts fs d t : Int32} (h : sIs ps d t ts fs r = false) : (-1 : Int32) = gTell p tl f r ps ts fs d t := told_no h
theorem tl_yes {p tl f r ps ts fs d t a b v : Int32} (h : sIs ps d t ts fs r = true) (h2 : a = sX ps d t ts fs r ∧ b = sY ps d t ts fs r) (hv : v = gRD p d tl f r a b) : v = gTell p tl f r ps ts fs d t := told_yes h (by rw [hv, h2.1, h2.2])
/-- places of the cuts -/
theorem cut_ix {d a : Nat} : 24 * nI d + nI a = nI (24 * d + a) := by
  rw [show (24 : Int32) = nI 24 from by decide, pk_mul, nI_add]
/-- fits: what the model counts -/
theorem bIM_0 {M : Nat → Bool} {i : Nat} {b : Int32} (hb : b = bI (aF M i)) (c : b = 0) : 0 = bI (aF M (i + 1)) := by
  have h : aF M i = false := bI_f (hb.symm.trans c)
  show 0 = bI (aF M i && M i)
  rw [h]; rfl
theorem bIM_n {M : Nat → Bool} {i : Nat} (h : M i = false) : 0 = bI (aF M (i + 1)) := by
  show 0 = bI (aF M i && M i)
  rw [h, Bool.and_false]; rfl
theorem bIM_y {M : Nat → Bool} {i : Nat} {b : Int32} (hb : b = bI (aF M i)) (c : ¬ b = 0) (h : M i = true) : 1 = bI (aF M (i + 1)) := by
  have h2 : aF M i = true := bI_t (fun q => c (hb.trans q))
  show 1 = bI (aF M i && M i)
  rw [h, h2]; rfl
def kF (v : Bool) (w n : Int32) : Int32 := kO v 1 (if w = 0 then 0 else if n = 0 then 2 else 0)
theorem kF_v {v : Bool} {w n : Int32} (h : v = false) : 1 = kF v w n := kO_f h
theorem kF_0 {v : Bool} {w n : Int32} (h : v = true) (h2 : w = 0) : 0 = kF v w n := kO_t2 h (if_pos h2).symm
theorem kF_y {v : Bool} {w n : Int32} (h : v = true) (h2 : ¬ n = 0) : 0 = kF v w n := kO_t2 h (by rw [if_neg h2]; exact (ite_self _).symm)
theorem kF_n {v : Bool} {w n : Int32} (h : v = true) (h1 : ¬ w = 0) (h2 : n = 0) : 2 = kF v w n := kO_t2 h (by rw [if_neg h1, if_pos h2])
theorem w_le0 {w : Int32} (h : wI w 0 2 = true) (c : w ≤ 0) : w = 0 := by
  have h1 : 0 ≤ w.toInt := (wI_d h).1
  rw [Int32.le_iff_toInt_le, Int32.toInt_zero] at c
  rw [← Int32.toInt_inj, Int32.toInt_zero]; omega
theorem w_gt0 {w : Int32} (c : ¬ w ≤ 0) : ¬ w = 0 := fun q => c (by rw [q]; decide)
/-- the model's sums of errors -/
def sE (co : Nat → Int32) : Nat → Int32 → Int32
  | 0, a => a
  | n + 1, a => sE co n a + co n
def fN (CO : Nat → Nat → Int32) (F : Nat → Int32) (k i : Nat) : Nat → Int32 := fun q => if q < k then sE (CO q) 24 (F q) else if q = k then sE (CO q) i (F q) else F q
theorem fN_0 {CO : Nat → Nat → Int32} {F : Nat → Int32} : fN CO F 0 0 = F := by
  funext q
  unfold fN
  rw [if_neg (Nat.not_lt_zero _)]
  by_cases h : q = 0
  · rw [if_pos h]; rfl
  · rw [if_neg h]
theorem fN_at {CO : Nat → Nat → Int32} {F : Nat → Int32} {k i : Nat} : fN CO F k i k = sE (CO k) i (F k) := by
  unfold fN
  rw [if_neg (Nat.lt_irrefl _), if_pos rfl]
theorem fN_s {CO : Nat → Nat → Int32} {F : Nat → Int32} {k i : Nat} {v : Int32} (h : v = fN CO F k i k + CO k i) : upd (fN CO F k i) k v = fN CO F k (i + 1) := by
  funext q
  by_cases e : q = k
  · subst e
    rw [pk_us, h, fN_at, fN_at]; rfl
  · rw [pk_un e]
    unfold fN
    rw [if_neg e, if_neg e]
theorem fN_e {CO : Nat → Nat → Int32} {F : Nat → Int32} {k : Nat} : fN CO F k 24 = fN CO F (k + 1) 0 := by
  funext q
  unfold fN
  by_cases e : q < k
  · rw [if_pos e, if_pos (show q < k + 1 by omega)]
  · rw [if_neg e]
    by_cases e2 : q = k
    · rw [if_pos e2, if_pos (show q < k + 1 by omega)]
    · rw [if_neg e2, if_neg (show ¬ q < k + 1 by omega)]
      by_cases e3 : q = k + 1
      · rw [if_pos e3]; rfl
      · rw [if_neg e3]
noncomputable def gCO (p f ro pm tm fm d : Int32) : Nat → Nat → Int32 := fun k => gC p (nI k) f ro pm tm fm d
theorem cE_g {x t : Int32} {u : Bool} : (if u = true then (180 : Int32) else 0) = cE (gTold false x) t u := by
  have h : gTold false x = -1 := Eq.refl _
  unfold cE
  exact (if_pos h).symm
theorem cE_h {x t : Int32} {u : Bool} : cE x t u = cE (gTold true x) t u := by
  have h : gTold true x = x := Eq.refl _
  rw [h]
theorem gCO_u (p f ro pm tm fm d : Int32) (k i : Nat) : gCO p f ro pm tm fm d k i = cE (gTold (sIs p d (nI (15 * i)) (nI k) f ro) (gRD pm d tm fm ro (sX p d (nI (15 * i)) (nI k) f ro) (sY p d (nI (15 * i)) (nI k) f ro))) (nI (15 * i)) (gLit p d (nI (15 * i))) := by unfold gCO gC; exact Eq.refl _
theorem co_no {p f ro pm tm fm d v : Int32} {k i : Nat} (hs : sIs p d (nI (15 * i)) (nI k) f ro = false) (hv : v = (if gLit p d (nI (15 * i)) = true then 180 else 0)) : v = gCO p f ro pm tm fm d k i := by
  rw [gCO_u, hs, hv]
  exact cE_g
theorem co_yes {p f ro pm tm fm d v w a b : Int32} {k i : Nat} (hs : sIs p d (nI (15 * i)) (nI k) f ro = true) (h2 : a = sX p d (nI (15 * i)) (nI k) f ro ∧ b = sY p d (nI (15 * i)) (nI k) f ro) (hw : w = gRD pm d tm fm ro a b) (hv : v = cE w (nI (15 * i)) (gLit p d (nI (15 * i)))) : v = gCO p f ro pm tm fm d k i := by
  rw [gCO_u, hs, hv, hw, h2.1, h2.2]
  exact cE_h
theorem cE_n {w t : Int32} {u : Bool} (c : ¬ w = -1) : jAbs (w - t) = cE w t u := by unfold cE; rw [if_neg c]
theorem cE_d {w t : Int32} {u : Bool} (c : w = -1) (h : u = false) : 0 = cE w t u := by unfold cE; rw [if_pos c, h]; rfl
theorem cE_l {w t : Int32} {u : Bool} (c : w = -1) (h : u = true) : 180 = cE w t u := by unfold cE; rw [if_pos c, h]; rfl
theorem if_l {u : Bool} (h : u = true) : (180 : Int32) = (if u = true then 180 else 0) := by rw [h]; rfl
theorem if_d {u : Bool} (h : u = false) : (0 : Int32) = (if u = true then 180 else 0) := by rw [h]; rfl
def zN (F : Nat → Int32) (k : Nat) : Nat → Int32 := fun q => if q < k then 0 else F q
theorem zN_0 {F : Nat → Int32} : zN F 0 = F := by funext q; exact if_neg (Nat.not_lt_zero _)
theorem zN_s {F : Nat → Int32} {k : Nat} : upd (zN F k) k 0 = zN F (k + 1) := by
  funext q
  by_cases e : q = k
  · rw [e, pk_us]; exact (if_pos (Nat.lt_succ_self k)).symm
  · rw [pk_un e]
    unfold zN
    by_cases e2 : q < k
    · rw [if_pos e2, if_pos (show q < k + 1 by omega)]
    · rw [if_neg e2, if_neg (show ¬ q < k + 1 by omega)]
def bM (F : Nat → Int32) : Nat → Nat
  | 0 => 0
  | n + 1 => if F n < F (bM F n) then n else bM F n
theorem bM_lt (F : Nat → Int32) : ∀ n, n ≤ 91 → bM F n < 91
  | 0, _ => by show 0 < 91; decide
  | n + 1, h => by
    show (if F n < F (bM F n) then n else bM F n) < 91
    split
    · omega
    · exact bM_lt F n (by omega)
theorem bM_y {F : Nat → Int32} {n fo : Nat} (h : bM F n = fo) (c : F n < F fo) : bM F (n + 1) = n := by
  show (if F n < F (bM F n) then n else bM F n) = n
  rw [h, if_pos c]
theorem bM_n {F : Nat → Int32} {n fo : Nat} (h : bM F n = fo) (c : F fo ≤ F n) : bM F (n + 1) = fo := by
  show (if F n < F (bM F n) then n else bM F n) = fo
  rw [h, if_neg (Int32.not_lt.mpr c)]
/-- the errors of all tilts, as the model has them -/
noncomputable def gFa (p f ro pm tm fm : Int32) (F : Nat → Int32) : Nat → Int32 := fN (gCO p f ro pm tm fm 270) (fN (gCO p f ro pm tm fm 90) (fN (gCO p f ro pm tm fm 0) (zN F 91) 91 0) 91 0) 91 0
theorem gMb_ex (p f ro pm tm fm : Int32) (F : Nat → Int32) : ∃ c, c = bM (gFa p f ro pm tm fm F) 91 := ⟨_, Eq.refl _⟩
noncomputable def gMb (p f ro pm tm fm : Int32) (F : Nat → Int32) : Nat := Classical.choose (gMb_ex p f ro pm tm fm F)
theorem gMb_u (p f ro pm tm fm : Int32) (F : Nat → Int32) : gMb p f ro pm tm fm F = bM (gFa p f ro pm tm fm F) 91 := Classical.choose_spec (gMb_ex p f ro pm tm fm F)
theorem mb_of {p f ro pm tm fm : Int32} {F : Nat → Int32} {i fo : Nat} (h : bM (gFa p f ro pm tm fm F) i = fo) (hi : i = 91) : nI fo = nI (gMb p f ro pm tm fm F) := by rw [gMb_u, ← hi, h]
theorem rd_v {x y : Int32} {c v : Bool} (h : (wI x (-9999) 9999 && (wI y (-9999) 9999 && c)) = v) : (wL x.toInt64 && (wL y.toInt64 && c)) = v := by rw [wL_I, wL_I]; exact h
theorem fd_v {x y : Int32} {a c v : Bool} (h : (a && (c && (wI x (-9999) 9999 && wI y (-9999) 9999))) = v) : (a && (c && (wL x.toInt64 && wL y.toInt64))) = v := by rw [wL_I, wL_I]; exact h
