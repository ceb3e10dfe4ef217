/-- the sun -/
def gUp (p d t : Int32) : Int64 := 1000 * (gSin p).toInt64 * (gSin (gSl d)).toInt64 + (gCos p).toInt64 * ((gCos (gSl d)).toInt64 * (gCos (t - 180)).toInt64)
def gSo (p d t : Int32) : Int64 := (gSin p).toInt64 * ((gCos (gSl d)).toInt64 * (gCos (t - 180)).toInt64) - 1000 * (gCos p).toInt64 * (gSin (gSl d)).toInt64
def gWe (d t : Int32) : Int64 := 1000 * (gCos (gSl d)).toInt64 * (gSin (t - 180)).toInt64
theorem m1000 (a b : Int64) : a * b * 1000 = 1000 * a * b := by rw [Int64.mul_comm (a * b), Int64.mul_assoc]
theorem up_eq {p d t : Int32} : (gSin p).toInt64 * (gSin (gSl d)).toInt64 * 1000 + (gCos p).toInt64 * ((gCos (gSl d)).toInt64 * (gCos (t - 180)).toInt64) = gUp p d t := by rw [m1000]; rfl
theorem so_eq {p d t : Int32} : (gSin p).toInt64 * ((gCos (gSl d)).toInt64 * (gCos (t - 180)).toInt64) - (gCos p).toInt64 * (gSin (gSl d)).toInt64 * 1000 = gSo p d t := by rw [m1000]; rfl
theorem we_eq {d t : Int32} : (gCos (gSl d)).toInt64 * (gSin (t - 180)).toInt64 * 1000 = gWe d t := by rw [m1000]; rfl
/-- a shadow -/
def gQ (so we : Int64) (f : Int32) : Int64 := so * (gCos f).toInt64 + we * (gSin f).toInt64
def gN (up so we : Int64) (t f : Int32) : Int64 := 1000 * up * (gCos t).toInt64 + gQ so we f * (gSin t).toInt64
def gA (so we : Int64) (f : Int32) : Int64 := 1000 * (we * (gCos f).toInt64 - so * (gSin f).toInt64)
def gB (up so we : Int64) (t f : Int32) : Int64 := 1000 * up * (gSin t).toInt64 - gQ so we f * (gCos t).toInt64
def gX (so we n : Int64) (f r : Int32) : Int64 := mDn (-(r.toInt64 * gA so we f)) n
def gY (up so we n : Int64) (t f r : Int32) : Int64 := mDn (-(r.toInt64 * gB up so we t f)) n
def gIs (up so we : Int64) (t f r : Int32) : Bool := decide (0 < up) && (decide (0 < gN up so we t f) && (wL (gX so we (gN up so we t f) f r) && wL (gY up so we (gN up so we t f) t f r)))
def gPx (up so we : Int64) (t f r : Int32) : Int32 := (gX so we (gN up so we t f) f r).toInt32
def gPy (up so we : Int64) (t f r : Int32) : Int32 := (gY up so we (gN up so we t f) t f r).toInt32
/-- the shadow of a plate at a latitude, on a day, in a tick -/
def sIs (p d t tl f r : Int32) : Bool := gIs (gUp p d t) (gSo p d t) (gWe d t) tl f r
def sX (p d t tl f r : Int32) : Int32 := gPx (gUp p d t) (gSo p d t) (gWe d t) tl f r
def sY (p d t tl f r : Int32) : Int32 := gPy (gUp p d t) (gSo p d t) (gWe d t) tl f r
def gLit (p d t : Int32) : Bool := decide (0 < gUp p d t)
theorem n_eq {up so we : Int64} {t f : Int32} : up * (gCos t).toInt64 * 1000 + (so * (gCos f).toInt64 + we * (gSin f).toInt64) * (gSin t).toInt64 = gN up so we t f := by rw [m1000]; rfl
theorem b_eq {up so we : Int64} {t f : Int32} : up * (gSin t).toInt64 * 1000 - (so * (gCos f).toInt64 + we * (gSin f).toInt64) * (gCos t).toInt64 = gB up so we t f := by rw [m1000]; rfl
theorem l_pos {n : Int64} (h : ¬ n ≤ 0) : 0 < n.toInt := by
  rw [Int64.le_iff_toInt_le, Int64.toInt_zero] at h; omega
theorem rod_neg {r : Int32} (h : 0 ≤ r.toInt) : (-r).toInt64 = -r.toInt64 := by
  have h1 := fb_rng r
  have h2 : (-r).toInt = -r.toInt := fb_negI (by omega)
  rw [← Int64.toInt_inj, Int32.toInt_toInt64, h2, Int64.toInt_neg, Int32.toInt_toInt64, fb_bmodL (by omega) (by omega)]
theorem x_eq {n a : Int64} {r : Int32} (hr : 0 ≤ r.toInt) (hn : ¬ n ≤ 0) : jFL ((-r).toInt64 * a) n = mDn (-(r.toInt64 * a)) n := by
  rw [rod_neg hr, Int64.neg_mul, jFL_eq _ _ (l_pos hn)]
theorem is_f1 {up so we : Int64} {t f r : Int32} (h : ¬ 0 < up) : gIs up so we t f r = false := by simp [gIs, h]
theorem is_f2 {up so we : Int64} {t f r : Int32} (h : gN up so we t f ≤ 0) : gIs up so we t f r = false := by
  have h2 : ¬ 0 < gN up so we t f := Int64.not_lt.mpr h
  simp [gIs, h2]
theorem is_f3 {up so we : Int64} {t f r : Int32} (h : wL (gX so we (gN up so we t f) f r) = false) : gIs up so we t f r = false := by simp [gIs, h]
theorem is_f4 {up so we : Int64} {t f r : Int32} (h : wL (gY up so we (gN up so we t f) t f r) = false) : gIs up so we t f r = false := by simp [gIs, h]
theorem is_t {up so we : Int64} {t f r : Int32} (h1 : 0 < up) (h2 : ¬ gN up so we t f ≤ 0) (h3 : wL (gX so we (gN up so we t f) f r) = true) (h4 : wL (gY up so we (gN up so we t f) t f r) = true) : gIs up so we t f r = true := by
  have h5 : 0 < gN up so we t f := Int64.not_le.mp h2
  simp [gIs, h1, h5, h3, h4]
theorem fall_no {g : Bool} {P : Prop} (h : g = false) : (0 : Int32) = bI g ∧ (g = true → P) := by subst h; exact ⟨rfl, fun q => nomatch q⟩
theorem fall_yes {g : Bool} {P : Prop} (h : g = true) (hp : P) : (1 : Int32) = bI g ∧ (g = true → P) := by subst h; exact ⟨rfl, fun _ => hp⟩
theorem bI_dec {P : Prop} [Decidable P] (h : ¬ bI (decide P) = 0) : P := of_decide_eq_true (bI_t h)
theorem bI_decf {P : Prop} [Decidable P] (h : bI (decide P) = 0) : ¬ P := of_decide_eq_false (bI_f h)
theorem bI_1 {P : Prop} [Decidable P] (h : P) : (1 : Int32) = bI (decide P) := by simp [bI, h]
theorem bI_0 {P : Prop} [Decidable P] (h : ¬ P) : (0 : Int32) = bI (decide P) := by simp [bI, h]
/-- how many of the first n -/
def kc (g : Nat → Bool) : Nat → Nat
  | 0 => 0
  | n + 1 => if g n then kc g n + 1 else kc g n
theorem kc_le (g : Nat → Bool) : ∀ n, kc g n ≤ n
  | 0 => Nat.le_refl _
  | n + 1 => by have := kc_le g n; unfold kc; split <;> omega
theorem kc_mono (g : Nat → Bool) (m : Nat) : ∀ n, m ≤ n → kc g m ≤ kc g n
  | 0, h => by rw [show m = 0 by omega]; exact Nat.le_refl _
  | n + 1, h => by
    rcases Nat.lt_or_ge m (n + 1) with q | q
    · have := kc_mono g m n (by omega)
      show kc g m ≤ if g n then kc g n + 1 else kc g n
      split <;> omega
    · rw [show m = n + 1 by omega]; exact Nat.le_refl _
theorem kc_lt {g : Nat → Bool} {m n : Nat} (h : m < n) (hg : g m = true) : kc g m < kc g n := by
  have h1 := kc_mono g (m + 1) n h
  have h2 : kc g (m + 1) = kc g m + 1 := by show (if g m then kc g m + 1 else kc g m) = _; rw [if_pos hg]
  omega
/-- the listed shadows of a day -/
def trk (g : Nat → Bool) (gx gy T X Y : Nat → Int32) (n : Nat) : Prop := ∀ j, j < n → g j = true → T (kc g j) = nI j ∧ X (kc g j) = gx j ∧ Y (kc g j) = gy j
theorem trk_0 {g : Nat → Bool} {gx gy T X Y : Nat → Int32} : trk g gx gy T X Y 0 := fun _ h => absurd h (Nat.not_lt_zero _)
theorem trk_no {g : Nat → Bool} {gx gy T X Y : Nat → Int32} {n : Nat} (h : trk g gx gy T X Y n) (hg : g n = false) : trk g gx gy T X Y (n + 1) := by
  intro j hj hgj
  rcases Nat.lt_or_ge j n with q | q
  · exact h j q hgj
  · rw [show j = n by omega, hg] at hgj; cases hgj
theorem trk_yes {g : Nat → Bool} {gx gy T X Y : Nat → Int32} {n : Nat} {a b : Int32} (h : trk g gx gy T X Y n) (ha : a = gx n) (hb : b = gy n) : trk g gx gy (upd T (kc g n) (nI n)) (upd X (kc g n) a) (upd Y (kc g n) b) (n + 1) := by
  intro j hj hgj
  rcases Nat.lt_or_ge j n with q | q
  · have h1 := kc_lt q hgj
    have h2 : kc g j ≠ kc g n := by omega
    rw [pk_un h2, pk_un h2, pk_un h2]
    exact h j q hgj
  · rw [show j = n by omega, pk_us, pk_us, pk_us]
    exact ⟨rfl, ha, hb⟩
theorem kc_no {g : Nat → Bool} {n : Nat} (hg : g n = false) : kc g (n + 1) = kc g n := by show (if g n then _ else _) = _; rw [hg]; rfl
theorem kc_yes {g : Nat → Bool} {n : Nat} (hg : g n = true) : kc g (n + 1) = kc g n + 1 := by show (if g n then _ else _) = _; rw [hg]; rfl
/-- the nearest, by the list -/
def nA (T X Y : Nat → Int32) (x y : Int32) : Nat → Int32 × Int32
  | 0 => (1000000, -1)
  | n + 1 => if jAbs (X n - x) + jAbs (Y n - y) < (nA T X Y x y n).1 then (jAbs (X n - x) + jAbs (Y n - y), T n) else nA T X Y x y n
/-- the nearest, by the ticks -/
def nR (g : Nat → Bool) (gx gy : Nat → Int32) (x y : Int32) : Nat → Int32 × Int32
  | 0 => (1000000, -1)
  | n + 1 => if g n = true ∧ jAbs (gx n - x) + jAbs (gy n - y) < (nR g gx gy x y n).1 then (jAbs (gx n - x) + jAbs (gy n - y), nI n) else nR g gx gy x y n
theorem nA_t {T X Y : Nat → Int32} {x y : Int32} {n : Nat} (h : jAbs (X n - x) + jAbs (Y n - y) < (nA T X Y x y n).1) : nA T X Y x y (n + 1) = (jAbs (X n - x) + jAbs (Y n - y), T n) := if_pos h
theorem nA_f {T X Y : Nat → Int32} {x y : Int32} {n : Nat} (h : (nA T X Y x y n).1 ≤ jAbs (X n - x) + jAbs (Y n - y)) : nA T X Y x y (n + 1) = nA T X Y x y n := if_neg (Int32.not_lt.mpr h)
theorem nA_nR {g : Nat → Bool} {gx gy T X Y : Nat → Int32} {n : Nat} {x y : Int32} (h : trk g gx gy T X Y n) : ∀ m, m ≤ n → nA T X Y x y (kc g m) = nR g gx gy x y m
  | 0, _ => rfl
  | m + 1, hm => by
    have ih := nA_nR (x := x) (y := y) h m (by omega)
    cases hg : g m with
    | false =>
      rw [kc_no hg, ih]
      show _ = ite _ _ _
      rw [if_neg (fun q => by rw [hg] at q; exact absurd q.1 (by decide))]
    | true =>
      obtain ⟨h1, h2, h3⟩ := h m (by omega) hg
      rw [kc_yes hg]
      show (if _ then _ else _) = ite _ _ _
      rw [h1, h2, h3, ih]
      by_cases q : jAbs (gx m - x) + jAbs (gy m - y) < (nR g gx gy x y m).1
      · rw [if_pos q, if_pos ⟨hg, q⟩]
      · rw [if_neg q, if_neg (fun z => q z.2)]
/-- a dial as it was made, on a day: its shadows by the ticks -/
def rG (p d tl f r : Int32) : Nat → Bool := fun n => sIs p d (nI n) tl f r
def rX (p d tl f r : Int32) : Nat → Int32 := fun n => sX p d (nI n) tl f r
def rY (p d tl f r : Int32) : Nat → Int32 := fun n => sY p d (nI n) tl f r
/-- as what a point is read -/
def rD (p d tl f r x y : Int32) : Int32 := (nR (rG p d tl f r) (rX p d tl f r) (rY p d tl f r) x y 360).2
