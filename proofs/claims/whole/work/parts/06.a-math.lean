/-! the model's leaves -/
def kO (b : Bool) (e x : Int32) : Int32 := if b = true then x else e
theorem kO_t {b : Bool} {e x : Int32} (h : b = true) : x = kO b e x := by rw [h]; rfl
theorem kO_f {b : Bool} {e x : Int32} (h : b = false) : e = kO b e x := by rw [h]; rfl
theorem kO_t2 {b : Bool} {e x y : Int32} (h : b = true) (h2 : y = x) : y = kO b e x := by rw [h]; exact h2
theorem q10 {P : Prop} (q : (1 : Int32) = 0) : P := absurd q (by decide)
theorem q20 {P : Prop} (q : (2 : Int32) = 0) : P := absurd q (by decide)
theorem q30 {P : Prop} (q : (3 : Int32) = 0) : P := absurd q (by decide)
theorem ne_t {b : Bool} (h : b = true) : ¬ b = false := fun q => by rw [h] at q; cases q
theorem ne_f {b : Bool} (h : b = false) : ¬ b = true := fun q => by rw [h] at q; cases q
theorem nI_m1 {k : Nat} (hk : k ≤ 100) : (nI k - 1).toInt = (k : Int) - 1 := by
  have h1 : (nI k).toInt = k := nI_toInt (by omega)
  have h2 : (1 : Int32).toInt = 1 := by decide
  rw [fb_subI (by omega) (by omega)]
  omega
theorem inP {j k : Nat} (hj : j < k) (hk : k ≤ 100) : bI (wI (nI j) 0 (nI k - 1)) = 1 := by
  have h1 := nI_m1 hk
  have h2 : (nI j).toInt = j := nI_toInt (by omega)
  have h3 : wI (nI j) 0 (nI k - 1) = true := by
    refine decide_eq_true ⟨?_, ?_⟩
    · rw [Int32.le_iff_toInt_le, Int32.toInt_zero]; omega
    · rw [Int32.le_iff_toInt_le]; omega
  rw [h3]; rfl
theorem inPB {x : Int32} {k : Nat} (hk : k ≤ 100) (hn : ¬ (0 ≤ x.toInt ∧ x.toInt < k)) : bI (wI x 0 (nI k - 1)) = 0 := by
  have h1 := nI_m1 hk
  have h3 : wI x 0 (nI k - 1) = false := by
    refine decide_eq_false (fun q => hn ?_)
    rw [Int32.le_iff_toInt_le, Int32.le_iff_toInt_le, Int32.toInt_zero] at q
    omega
  rw [h3]; rfl
theorem dn_z {a b : Int64} (h : a - a / b * b = 0) : a / b - 0 = mDn a b := by
  unfold mDn; rw [if_neg (fun q => q.1 h)]
theorem dn_e {a b : Int64} (h : decide (a < 0) = decide (b < 0)) : a / b - 0 = mDn a b := by
  unfold mDn; rw [if_neg (fun q => q.2 h)]
theorem dn_n {a b : Int64} (h : ¬ a - a / b * b = 0) (h2 : ¬ decide (a < 0) = decide (b < 0)) : a / b - 1 = mDn a b := by
  unfold mDn; rw [if_pos ⟨h, h2⟩]
theorem dn_p {a : Int64} (h : 0 ≤ a) : decide (a < 0) = false := decide_eq_false (Int64.not_lt.mpr h)
theorem dn_m {a : Int64} (h : ¬ 0 ≤ a) : decide (a < 0) = true := decide_eq_true (Int64.not_le.mp h)
theorem arc_nz1 {x : Int32} (h : ¬ 180 < mRest x 360) : ¬ 40500 - mRest x 360 * (180 - mRest x 360) = 0 := by
  have key : ∀ k, k < 360 → ¬ 180 < nI k → ¬ 40500 - nI k * (180 - nI k) = 0 := by decide +kernel
  obtain ⟨k, hk, e⟩ := mR360 x
  rw [e] at h ⊢
  exact key k hk h
theorem arc_nz2 {x : Int32} (h : 180 < mRest x 360) : ¬ 40500 - (mRest x 360 - 180) * (180 - (mRest x 360 - 180)) = 0 := by
  have key : ∀ k, k < 360 → 180 < nI k → ¬ 40500 - (nI k - 180) * (180 - (nI k - 180)) = 0 := by decide +kernel
  obtain ⟨k, hk, e⟩ := mR360 x
  rw [e] at h ⊢
  exact key k hk h
theorem wL_x1 {x : Int64} (h : x < -9999) : wL x = false := decide_eq_false (fun q => absurd q.1 (Int64.not_le.mpr h))
theorem wL_x2 {x : Int64} (h : 9999 < x) : wL x = false := decide_eq_false (fun q => absurd q.2 (Int64.not_le.mpr h))
theorem wL_xt {x : Int64} (h : ¬ x < -9999) (h2 : ¬ 9999 < x) : wL x = true := decide_eq_true ⟨Int64.not_lt.mp h, Int64.not_lt.mp h2⟩
theorem n_pos {x : Int64} (h : 0 < x) : ¬ x = 0 := fun q => by rw [q] at h; exact absurd h (by decide)
theorem nar_bI (b : Bool) : vp_nar .boolean (bI b) = bI b := by cases b <;> decide
/-- a row of shadows, as the model lays it -/
def lay (g : Nat → Bool) (gx gy I X Y : Nat → Int32) (i : Nat) : Prop := ∀ j, j < i → I j = bI (g j) ∧ (g j = true → X j = gx j ∧ Y j = gy j)
theorem lay_0 {g : Nat → Bool} {gx gy I X Y : Nat → Int32} : lay g gx gy I X Y 0 := fun _ h => absurd h (Nat.not_lt_zero _)
theorem lay_s {g : Nat → Bool} {gx gy I X Y : Nat → Int32} {i : Nat} {b x y : Int32} (h : lay g gx gy I X Y i) (hb : b = bI (g i)) (hx : g i = true → x = gx i ∧ y = gy i) : lay g gx gy (upd I i (vp_nar .boolean b)) (upd X i x) (upd Y i y) (i + 1) := by
  intro j hj
  rcases Nat.lt_or_ge j i with q | q
  · have h2 : j ≠ i := by omega
    rw [pk_un h2, pk_un h2, pk_un h2]
    exact h j q
  · rw [show j = i by omega, pk_us, pk_us, pk_us, hb, nar_bI]
    exact ⟨rfl, hx⟩
theorem lay_of {g : Nat → Bool} {gx gy I X Y : Nat → Int32} {i : Nat} (h : lay g gx gy I X Y i) (q : i = 360) : lay g gx gy I X Y 360 := q ▸ h
/-- the nearest, as the model finds it: (how far, the tick) -/
def nM (g : Nat → Bool) (gx gy : Nat → Int32) (x y : Int32) : Nat → Int32 × Int32
  | 0 => (0, -1)
  | n + 1 => if g n = true ∧ ((nM g gx gy x y n).2 = -1 ∨ jAbs (gx n - x) + jAbs (gy n - y) < (nM g gx gy x y n).1) then (jAbs (gx n - x) + jAbs (gy n - y), nI n) else nM g gx gy x y n
theorem nM_0 {g : Nat → Bool} {gx gy I X Y : Nat → Int32} {x y le fo : Int32} {i : Nat} (h : nM g gx gy x y i = (le, fo)) (hl : lay g gx gy I X Y 360) (hi : i < 360) (c : I i = 0) : nM g gx gy x y (i + 1) = (le, fo) := by
  have hg : g i = false := bI_f ((hl i hi).1.symm.trans c)
  rw [← h]; exact if_neg (fun q => by rw [hg] at q; exact absurd q.1 (by decide))
theorem nM_n {g : Nat → Bool} {gx gy I X Y : Nat → Int32} {x y le fo : Int32} {i : Nat} (h : nM g gx gy x y i = (le, fo)) (hl : lay g gx gy I X Y 360) (hi : i < 360) (c : ¬ I i = 0) (c1 : ¬ fo = -1) (c2 : le ≤ jAbs (X i - x) + jAbs (Y i - y)) : nM g gx gy x y (i + 1) = (le, fo) := by
  have hg : g i = true := bI_t (fun q => c ((hl i hi).1.trans q))
  obtain ⟨h1, h2⟩ := (hl i hi).2 hg
  rw [h1, h2] at c2
  rw [← h]; exact if_neg (fun q => by
    rw [h] at q
    rcases q.2 with q | q
    · exact c1 q
    · exact absurd c2 (Int32.not_le.mpr q))
theorem nM_y {g : Nat → Bool} {gx gy I X Y : Nat → Int32} {x y le fo : Int32} {i : Nat} (h : nM g gx gy x y i = (le, fo)) (hl : lay g gx gy I X Y 360) (hi : i < 360) (c : ¬ I i = 0) (c1 : fo = -1 ∨ ¬ le ≤ jAbs (X i - x) + jAbs (Y i - y)) : nM g gx gy x y (i + 1) = (jAbs (X i - x) + jAbs (Y i - y), nI i) := by
  have hg : g i = true := bI_t (fun q => c ((hl i hi).1.trans q))
  obtain ⟨h1, h2⟩ := (hl i hi).2 hg
  rw [h1, h2] at c1 ⊢
  exact if_pos ⟨hg, by
    rw [h]
    rcases c1 with q | q
    · exact Or.inl q
    · exact Or.inr (Int32.not_le.mp q)⟩
def bd (x : Int32) : Prop := -9999 ≤ x.toInt ∧ x.toInt ≤ 9999
theorem jAbs_bd {x y : Int32} (hx : bd x) (hy : bd y) : 0 ≤ (jAbs (x - y)).toInt ∧ (jAbs (x - y)).toInt ≤ 19998 := by
  obtain ⟨h1, h2⟩ := hx
  obtain ⟨h3, h4⟩ := hy
  have e : (x - y).toInt = x.toInt - y.toInt := fb_subI (by omega) (by omega)
  unfold jAbs
  by_cases q : 0 ≤ x - y
  · rw [if_pos q]
    rw [Int32.le_iff_toInt_le, Int32.toInt_zero] at q
    omega
  · rw [if_neg q, fb_negI (by omega)]
    rw [Int32.le_iff_toInt_le, Int32.toInt_zero] at q
    omega
theorem dist_bd {x y a b : Int32} (hx : bd x) (hy : bd y) (ha : bd a) (hb : bd b) : jAbs (a - x) + jAbs (b - y) < 1000000 := by
  have h1 := jAbs_bd ha hx
  have h2 := jAbs_bd hb hy
  rw [Int32.lt_iff_toInt_lt, fb_addI (by omega) (by omega)]
  show _ < (1000000 : Int)
  omega
theorem nM_nR {g : Nat → Bool} {gx gy : Nat → Int32} {x y : Int32} (hg : ∀ n, g n = true → bd (gx n) ∧ bd (gy n)) (hx : bd x) (hy : bd y) : ∀ n, n ≤ 360 → (nM g gx gy x y n).2 = (nR g gx gy x y n).2 ∧ (((nR g gx gy x y n).2 = -1 ∧ (nR g gx gy x y n).1 = 1000000) ∨ (¬ (nR g gx gy x y n).2 = -1 ∧ (nM g gx gy x y n).1 = (nR g gx gy x y n).1))
  | 0, _ => ⟨rfl, Or.inl ⟨rfl, rfl⟩⟩
  | n + 1, hn => by
    obtain ⟨ih1, ih2⟩ := nM_nR hg hx hy n (by omega)
    have eM : nM g gx gy x y (n + 1) = if g n = true ∧ ((nM g gx gy x y n).2 = -1 ∨ jAbs (gx n - x) + jAbs (gy n - y) < (nM g gx gy x y n).1) then (jAbs (gx n - x) + jAbs (gy n - y), nI n) else nM g gx gy x y n := Eq.refl _
    have eR : nR g gx gy x y (n + 1) = if g n = true ∧ jAbs (gx n - x) + jAbs (gy n - y) < (nR g gx gy x y n).1 then (jAbs (gx n - x) + jAbs (gy n - y), nI n) else nR g gx gy x y n := Eq.refl _
    have hnn : ¬ nI n = -1 := fun q => by
      have h1 : (nI n).toInt = n := nI_toInt (by omega)
      rw [q] at h1
      have h2 : (-1 : Int32).toInt = -1 := by decide
      omega
    rw [eM, eR]
    cases hgn : g n with
    | false =>
      rw [if_neg (fun q => absurd q.1 (by decide)), if_neg (fun q => absurd q.1 (by decide))]
      exact ⟨ih1, ih2⟩
    | true =>
      have hb := hg n hgn
      have hd := dist_bd hx hy hb.1 hb.2
      rcases ih2 with ⟨q1, q2⟩ | ⟨q1, q2⟩
      · rw [if_pos ⟨rfl, Or.inl (ih1.trans q1)⟩, if_pos ⟨rfl, by rw [q2]; exact hd⟩]
        exact ⟨rfl, Or.inr ⟨hnn, rfl⟩⟩
      · by_cases c : jAbs (gx n - x) + jAbs (gy n - y) < (nR g gx gy x y n).1
        · rw [if_pos ⟨rfl, Or.inr (by rw [q2]; exact c)⟩, if_pos ⟨rfl, c⟩]
          exact ⟨rfl, Or.inr ⟨hnn, rfl⟩⟩
        · rw [if_neg (fun q => by
            rcases q.2 with z | z
            · exact q1 (ih1.symm.trans z)
            · rw [q2] at z; exact c z), if_neg (fun q => c q.2)]
          exact ⟨ih1, Or.inr ⟨q1, q2⟩⟩
theorem bd_l {n : Int64} (h : wL n = true) : bd n.toInt32 := by
  have h1 := of_decide_eq_true h
  rw [Int64.le_iff_toInt_le, Int64.le_iff_toInt_le] at h1
  have h2 : (-9999 : Int64).toInt = -9999 := by decide
  have h3 : (9999 : Int64).toInt = 9999 := by decide
  have e : n.toInt32.toInt = n.toInt := by rw [Int64.toInt_toInt32]; exact fb_bmod (by omega) (by omega)
  unfold bd
  omega
theorem sXY_bd {p d t tl f r : Int32} (h : sIs p d t tl f r = true) : bd (sX p d t tl f r) ∧ bd (sY p d t tl f r) := by
  unfold sIs gIs at h
  have h1 := Bool.and_eq_true_iff.mp h
  have h2 := Bool.and_eq_true_iff.mp h1.2
  have h3 := Bool.and_eq_true_iff.mp h2.2
  unfold sX sY gPx gPy
  exact ⟨bd_l h3.1, bd_l h3.2⟩
theorem bd_w {x : Int32} (h : wI x (-9999) 9999 = true) : bd x := by
  have h1 := wI_d h
  have h2 : (-9999 : Int32).toInt = -9999 := by decide
  have h3 : (9999 : Int32).toInt = 9999 := by decide
  unfold bd
  omega
theorem rd_of {p d tl f ro x y le fo : Int32} {i : Nat} (h : nM (rG p d tl f ro) (rX p d tl f ro) (rY p d tl f ro) x y i = (le, fo)) (hi : i = 360) (hx : bd x) (hy : bd y) : fo = gRD p d tl f ro x y := by
  have h2 := (nM_nR (g := rG p d tl f ro) (gx := rX p d tl f ro) (gy := rY p d tl f ro) (fun n hn => sXY_bd hn) hx hy i (by omega)).1
  rw [h] at h2
  rw [gRD_u, ← hi]
  exact h2
theorem wL_I (x : Int32) : wL x.toInt64 = wI x (-9999) 9999 := by
  unfold wL wI
  have e1 : ((-9999 : Int64) ≤ x.toInt64) ↔ ((-9999 : Int32) ≤ x) := by
    rw [Int64.le_iff_toInt_le, Int32.le_iff_toInt_le, Int32.toInt_toInt64]
    exact Iff.rfl
  have e2 : (x.toInt64 ≤ (9999 : Int64)) ↔ (x ≤ (9999 : Int32)) := by
    rw [Int64.le_iff_toInt_le, Int32.le_iff_toInt_le, Int32.toInt_toInt64]
    exact Iff.rfl
  exact decide_eq_decide.mpr (and_congr e1 e2)
