theorem gRD_ex (p d tl f r x y : Int32) : ∃ c, c = (nR (rG p d tl f r) (rX p d tl f r) (rY p d tl f r) x y 360).2 := ⟨_, Eq.refl _⟩
/-- as what a point is read -/
noncomputable def gRD (p d tl f r x y : Int32) : Int32 := Classical.choose (gRD_ex p d tl f r x y)
theorem gRD_u (p d tl f r x y : Int32) : gRD p d tl f r x y = (nR (rG p d tl f r) (rX p d tl f r) (rY p d tl f r) x y 360).2 := Classical.choose_spec (gRD_ex p d tl f r x y)
theorem near_eq {p d tl f r x y : Int32} {T X Y : Nat → Int32} (h : trk (rG p d tl f r) (rX p d tl f r) (rY p d tl f r) T X Y 360) : (nA T X Y x y (kAll (rG p d tl f r))).2 = gRD p d tl f r x y := by
  rw [gRD_u, kAll_u, nA_nR h 360 (Nat.le_refl _)]
/-- what a dial tells: made so, standing so -/
noncomputable def gTell (p tl f r ps ts fs d t : Int32) : Int32 := gTold (sIs ps d t ts fs r) (gRD p d tl f r (sX ps d t ts fs r) (sY ps d t ts fs r))
theorem tell_eq {p tl f r ps ts fs d t : Int32} {T X Y : Nat → Int32} (h : trk (rG p d tl f r) (rX p d tl f r) (rY p d tl f r) T X Y 360) : gTold (sIs ps d t ts fs r) (nA T X Y (sX ps d t ts fs r) (sY ps d t ts fs r) (kAll (rG p d tl f r))).2 = gTell p tl f r ps ts fs d t := by
  rw [near_eq h]; rfl
/-- what a line's cut costs -/
def gCents (x1 y1 x2 y2 : Int32) : Int32 := 3 * (jAbs (x1 - x2) + jAbs (y1 - y2)) + 50
def gLn (b : Bool) (w x1 y1 x2 y2 : Int32) : Int32 := if w = 0 then bI b else if 2 < w then (if w - w / 2 * 2 = 1 then x2 else y2) else (if w - w / 2 * 2 = 1 then x1 else y1)
theorem bI_1t {b : Bool} (h : b = true) : (1 : Int32) = bI b := by rw [h]; rfl
theorem bI_0f {b : Bool} (h : b = false) : (0 : Int32) = bI b := by rw [h]; rfl
theorem hour_of {n : Int32} (h : wI n 1 23 = true) : ∃ k, k < 24 ∧ n = nI k := by
  have h1 : 1 ≤ n.toInt := (wI_d h).1
  have h2 : n.toInt ≤ 23 := (wI_d h).2
  exact i_of (by omega) (by omega) (by decide)
