theorem fb_rng (x : Int32) : -2147483648 ≤ x.toInt ∧ x.toInt < 2147483648 := by
  have h1 := Int32.le_toInt x
  have h2 := Int32.toInt_lt x
  omega
theorem fb_bmod {z : Int} (h1 : -2147483648 ≤ z) (h2 : z < 2147483648) : z.bmod (2 ^ 32) = z := by
  rw [Int.bmod_eq_of_le (by omega) (by omega)]
theorem fb_addI {x y : Int32} (h1 : -2147483648 ≤ x.toInt + y.toInt) (h2 : x.toInt + y.toInt < 2147483648) : (x + y).toInt = x.toInt + y.toInt := by
  rw [Int32.toInt_add, fb_bmod h1 h2]
theorem fb_subI {x y : Int32} (h1 : -2147483648 ≤ x.toInt - y.toInt) (h2 : x.toInt - y.toInt < 2147483648) : (x - y).toInt = x.toInt - y.toInt := by
  rw [Int32.toInt_sub, fb_bmod h1 h2]
theorem fb_mulI {x y : Int32} (h1 : -2147483648 ≤ x.toInt * y.toInt) (h2 : x.toInt * y.toInt < 2147483648) : (x * y).toInt = x.toInt * y.toInt := by
  rw [Int32.toInt_mul, fb_bmod h1 h2]
theorem fb_negI {x : Int32} (h : x.toInt ≠ -2147483648) : (-x).toInt = -x.toInt := by
  have := fb_rng x
  rw [Int32.toInt_neg, fb_bmod (by omega) (by omega)]
theorem fb_ofI {z : Int} (h1 : -2147483648 ≤ z) (h2 : z < 2147483648) : (Int32.ofInt z).toInt = z := by
  rw [Int32.toInt_ofInt, fb_bmod h1 h2]
theorem fb_asI (x : Int32) : Int32.ofInt x.toInt = x := Int32.ofInt_toInt x
theorem fb_rngL (x : Int64) : -9223372036854775808 ≤ x.toInt ∧ x.toInt < 9223372036854775808 := by
  have h1 := Int64.le_toInt x
  have h2 := Int64.toInt_lt x
  omega
theorem fb_bmodL {z : Int} (h1 : -9223372036854775808 ≤ z) (h2 : z < 9223372036854775808) : z.bmod (2 ^ 64) = z := by
  rw [Int.bmod_eq_of_le (by omega) (by omega)]
theorem fb_addL {x y : Int64} (h1 : -9223372036854775808 ≤ x.toInt + y.toInt) (h2 : x.toInt + y.toInt < 9223372036854775808) : (x + y).toInt = x.toInt + y.toInt := by
  rw [Int64.toInt_add, fb_bmodL h1 h2]
theorem fb_subL {x y : Int64} (h1 : -9223372036854775808 ≤ x.toInt - y.toInt) (h2 : x.toInt - y.toInt < 9223372036854775808) : (x - y).toInt = x.toInt - y.toInt := by
  rw [Int64.toInt_sub, fb_bmodL h1 h2]
theorem fb_mulL {x y : Int64} (h1 : -9223372036854775808 ≤ x.toInt * y.toInt) (h2 : x.toInt * y.toInt < 9223372036854775808) : (x * y).toInt = x.toInt * y.toInt := by
  rw [Int64.toInt_mul, fb_bmodL h1 h2]
/-! what the leaves answer -/
def jFM (x y : Int32) : Int32 := if (x ^^^ y) < 0 ∧ ¬ (x - x / y * y = 0) then x - x / y * y + y else x - x / y * y
def jFD (x y : Int32) : Int32 := if (x ^^^ y) < 0 ∧ ¬ (x / y * y = x) then x / y - 1 else x / y
def jFL (x y : Int64) : Int64 := if (x ^^^ y) < 0 ∧ ¬ (x / y * y = x) then x / y - 1 else x / y
def jAbs (x : Int32) : Int32 := if 0 ≤ x then x else -x
def jMax (x y : Int32) : Int32 := if x < y then y else x
def jMin (x y : Int32) : Int32 := if y < x then y else x
def wI (n lo hi : Int32) : Bool := decide (lo ≤ n ∧ n ≤ hi)
def wL (n : Int64) : Bool := decide (-9999 ≤ n ∧ n ≤ 9999)
theorem wI_t {n lo hi : Int32} (h1 : ¬ n < lo) (h2 : ¬ hi < n) : (1 : Int32) = bI (wI n lo hi) := by
  have a : lo ≤ n := Int32.not_lt.mp h1
  have b : n ≤ hi := Int32.not_lt.mp h2
  simp [bI, wI, a, b]
theorem wI_f1 {n lo hi : Int32} (h1 : n < lo) : (0 : Int32) = bI (wI n lo hi) := by
  have a : ¬ lo ≤ n := Int32.not_le.mpr h1
  simp [bI, wI, a]
theorem wI_f2 {n lo hi : Int32} (h1 : hi < n) : (0 : Int32) = bI (wI n lo hi) := by
  have a : ¬ n ≤ hi := Int32.not_le.mpr h1
  simp [bI, wI, a]
theorem wL_t {n : Int64} (h1 : ¬ n < -9999) (h2 : ¬ 9999 < n) : (1 : Int32) = bI (wL n) := by
  have a : -9999 ≤ n := Int64.not_lt.mp h1
  have b : n ≤ 9999 := Int64.not_lt.mp h2
  simp [bI, wL, a, b]
theorem wL_f1 {n : Int64} (h1 : n < -9999) : (0 : Int32) = bI (wL n) := by
  have a : ¬ -9999 ≤ n := Int64.not_le.mpr h1
  simp [bI, wL, a]
theorem wL_f2 {n : Int64} (h1 : 9999 < n) : (0 : Int32) = bI (wL n) := by
  have a : ¬ n ≤ 9999 := Int64.not_le.mpr h1
  simp [bI, wL, a]
/-- the model's remainder and quotient -/
def mRest (a b : Int32) : Int32 := if a - a / b * b < 0 then a - a / b * b + b else a - a / b * b
def mDn (a b : Int64) : Int64 := a / b - (if ¬ (a - a / b * b = 0) ∧ ¬ ((decide (a < 0)) = (decide (b < 0))) then 1 else 0)
/-- the SINE -/
def gM (a : Int32) : Int32 := a * (180 - a)
def gArc (a : Int32) : Int32 := 4000 * gM a / (40500 - gM a)
def gSin (a : Int32) : Int32 := if mRest a 360 ≤ 180 then gArc (mRest a 360) else -(gArc (mRest a 360 - 180))
def gCos (a : Int32) : Int32 := gSin (90 - a)
def jArc (x : Int32) : Int32 := if 0 < 40500 - x * (180 - x) then 4000 * (x * (180 - x)) / (40500 - x * (180 - x)) else 0
def jSin (a : Int32) : Int32 := if jFM a 360 ≤ 180 then jArc (jFM a 360) else -(jArc (jFM a 360 - 180))
theorem tdiv_bd (x y : Int) (hy : 0 < y) : (0 ≤ x → 0 ≤ x.tdiv y ∧ x.tdiv y ≤ x) ∧ (x ≤ 0 → x ≤ x.tdiv y ∧ x.tdiv y ≤ 0) := by
  have key : ∀ x : Int, 0 ≤ x → 0 ≤ x.tdiv y ∧ x.tdiv y ≤ x := fun x h => by
    rw [Int.tdiv_eq_ediv_of_nonneg h]; exact ⟨Int.ediv_nonneg h (by omega), Int.ediv_le_self _ h⟩
  refine ⟨key x, fun h => ?_⟩
  have h1 := key (-x) (by omega)
  rw [Int.neg_tdiv] at h1
  omega
theorem tmod_bd (x y : Int) (hy : 0 < y) : (0 ≤ x → 0 ≤ x.tmod y ∧ x.tmod y < y ∧ x.tmod y ≤ x) ∧ (x ≤ 0 → -y < x.tmod y ∧ x.tmod y ≤ 0 ∧ x ≤ x.tmod y) := by
  have key : ∀ x : Int, 0 ≤ x → 0 ≤ x.tmod y ∧ x.tmod y < y ∧ x.tmod y ≤ x := fun x h => by
    have h1 := Int.mul_tdiv_add_tmod x y
    have h2 := Int.mul_nonneg (Int.le_of_lt hy) ((tdiv_bd x y hy).1 h).1
    exact ⟨Int.tmod_nonneg _ h, Int.tmod_lt_of_pos _ hy, by omega⟩
  refine ⟨key x, fun h => ?_⟩
  have h1 := key (-x) (by omega)
  rw [Int.neg_tmod] at h1
  omega
theorem jz (x y : Int32) (hy : 0 < y.toInt) : (x - x / y * y).toInt = x.toInt.tmod y.toInt := by
  have rx := fb_rng x
  have b1 := tdiv_bd x.toInt y.toInt hy
  have b2 := tmod_bd x.toInt y.toInt hy
  have h1 := Int.mul_tdiv_add_tmod x.toInt y.toInt
  have hq : (x / y).toInt = x.toInt.tdiv y.toInt := by
    rw [Int32.toInt_div]
    rcases Int.le_total 0 x.toInt with h | h
    · exact fb_bmod (by omega) (by omega)
    · exact fb_bmod (by omega) (by omega)
  have hp : (x / y).toInt * y.toInt = x.toInt - x.toInt.tmod y.toInt := by rw [hq, Int.mul_comm]; omega
  have hm : (x / y * y).toInt = x.toInt - x.toInt.tmod y.toInt := by
    rw [fb_mulI (by rw [hp]; rcases Int.le_total 0 x.toInt with h | h <;> omega) (by rw [hp]; rcases Int.le_total 0 x.toInt with h | h <;> omega), hp]
  rw [fb_subI (by rw [hm]; rcases Int.le_total 0 x.toInt with h | h <;> omega) (by rw [hm]; rcases Int.le_total 0 x.toInt with h | h <;> omega), hm]
  omega
theorem jxn (x y : Int32) (hy : 0 ≤ y.toInt) : (x ^^^ y) < 0 ↔ x < 0 := by
  have h : decide ((x ^^^ y).toInt < 0) = (decide (x.toInt < 0) ^^ decide (y.toInt < 0)) := by
    have h1 := BitVec.msb_xor (x := x.toBitVec) (y := y.toBitVec)
    rw [BitVec.msb_eq_toInt, BitVec.msb_eq_toInt, BitVec.msb_eq_toInt] at h1
    exact h1
  have hy2 : decide (y.toInt < 0) = false := by simp; omega
  rw [hy2, Bool.xor_false] at h
  rw [Int32.lt_iff_toInt_lt, Int32.lt_iff_toInt_lt, Int32.toInt_zero]
  exact ⟨fun q => of_decide_eq_true (by rw [← h]; exact decide_eq_true q), fun q => of_decide_eq_true (by rw [h]; exact decide_eq_true q)⟩
theorem jxl (x y : Int64) (hy : 0 ≤ y.toInt) : (x ^^^ y) < 0 ↔ x < 0 := by
  have h : decide ((x ^^^ y).toInt < 0) = (decide (x.toInt < 0) ^^ decide (y.toInt < 0)) := by
    have h1 := BitVec.msb_xor (x := x.toBitVec) (y := y.toBitVec)
    rw [BitVec.msb_eq_toInt, BitVec.msb_eq_toInt, BitVec.msb_eq_toInt] at h1
    exact h1
  have hy2 : decide (y.toInt < 0) = false := by simp; omega
  rw [hy2, Bool.xor_false] at h
  rw [Int64.lt_iff_toInt_lt, Int64.lt_iff_toInt_lt, Int64.toInt_zero]
  exact ⟨fun q => of_decide_eq_true (by rw [← h]; exact decide_eq_true q), fun q => of_decide_eq_true (by rw [h]; exact decide_eq_true q)⟩
theorem mRest_eq (x y : Int32) (hy : 0 < y.toInt) : (mRest x y).toInt = if x.toInt.tmod y.toInt < 0 then x.toInt.tmod y.toInt + y.toInt else x.toInt.tmod y.toInt := by
  have ry := fb_rng y
  have hz := jz x y hy
  have b2 := tmod_bd x.toInt y.toInt hy
  have e : x - x / y * y < 0 ↔ x.toInt.tmod y.toInt < 0 := by rw [Int32.lt_iff_toInt_lt, Int32.toInt_zero, hz]
  unfold mRest
  by_cases h : x.toInt.tmod y.toInt < 0
  · rw [if_pos (e.mpr h), if_pos h, fb_addI (by rw [hz]; rcases Int.le_total 0 x.toInt with h | h <;> omega) (by rw [hz]; omega), hz]
  · rw [if_neg (fun q => h (e.mp q)), if_neg h, hz]
theorem mRest_in (x y : Int32) (hy : 0 < y.toInt) : 0 ≤ (mRest x y).toInt ∧ (mRest x y).toInt < y.toInt := by
  have b2 := tmod_bd x.toInt y.toInt hy
  rw [mRest_eq x y hy]
  split <;> rcases Int.le_total 0 x.toInt with h | h <;> omega
theorem jFM_eq (x y : Int32) (hy : 0 < y.toInt) : jFM x y = mRest x y := by
  have hz := jz x y hy
  have b2 := tmod_bd x.toInt y.toInt hy
  unfold jFM mRest
  have e : ((x ^^^ y) < 0 ∧ ¬ (x - x / y * y = 0)) ↔ x - x / y * y < 0 := by
    rw [jxn x y (by omega), ← Int32.toInt_inj, Int32.lt_iff_toInt_lt, Int32.lt_iff_toInt_lt, Int32.toInt_zero, hz]
    rcases Int.le_total 0 x.toInt with h | h <;> omega
  by_cases h : x - x / y * y < 0
  · rw [if_pos h, if_pos (e.mpr h)]
  · rw [if_neg h, if_neg (fun q => h (e.mp q))]
theorem i_of {x : Int32} {n : Nat} (h1 : 0 ≤ x.toInt) (h2 : x.toInt < n) (hn : n ≤ 2 ^ 31) : ∃ k, k < n ∧ x = nI k := by
  refine ⟨x.toInt.toNat, by omega, ?_⟩
  rw [← Int32.toInt_inj, nI_toInt (by omega)]
  omega
theorem mR360 (x : Int32) : ∃ k, k < 360 ∧ mRest x 360 = nI k := by
  have h := mRest_in x 360 (by decide)
  exact i_of h.1 (by have h2 : (360 : Int32).toInt = 360 := by decide
                     omega) (by decide)
theorem jSin_eq (x : Int32) : jSin x = gSin x := by
  unfold jSin gSin
  rw [jFM_eq x 360 (by decide)]
  obtain ⟨k, hk, e⟩ := mR360 x
  rw [e]
  revert k
  have key : ∀ k, k < 360 → (if nI k ≤ 180 then jArc (nI k) else -jArc (nI k - 180)) = if nI k ≤ 180 then gArc (nI k) else -gArc (nI k - 180) := by decide +kernel
  exact fun k hk _ => key k hk
theorem gSin_bd (x : Int32) : -1000 ≤ (gSin x).toInt ∧ (gSin x).toInt ≤ 1000 := by
  unfold gSin
  obtain ⟨k, hk, e⟩ := mR360 x
  rw [e]
  revert k
  have key : ∀ k, k < 360 → -1000 ≤ (if nI k ≤ 180 then gArc (nI k) else -gArc (nI k - 180)).toInt ∧ (if nI k ≤ 180 then gArc (nI k) else -gArc (nI k - 180)).toInt ≤ 1000 := by decide +kernel
  exact fun k hk _ => key k hk
theorem jFL_eq (a b : Int64) (hb : 0 < b.toInt) : jFL a b = mDn a b := by
  unfold jFL mDn
  have hb2 : decide (b < 0) = false := by
    rw [decide_eq_false_iff_not, Int64.lt_iff_toInt_lt, Int64.toInt_zero]; omega
  have e : ((a ^^^ b) < 0 ∧ ¬ (a / b * b = a)) ↔ (¬ (a - a / b * b = 0) ∧ ¬ (decide (a < 0) = decide (b < 0))) := by
    rw [jxl a b (by omega), hb2, decide_eq_false_iff_not, Classical.not_not]
    have e2 : a / b * b = a ↔ a - a / b * b = 0 := by
      constructor
      · intro h; rw [h]; exact Int64.sub_self a
      · intro h
        have h2 : a - a / b * b + a / b * b = 0 + a / b * b := by rw [h]
        rw [Int64.sub_add_cancel, Int64.zero_add] at h2
        exact h2.symm
    rw [e2]
    exact And.comm
  by_cases h : (a ^^^ b) < 0 ∧ ¬ (a / b * b = a)
  · rw [if_pos h, if_pos (e.mp h)]
  · rw [if_neg h, if_neg (fun q => h (e.mpr q)), Int64.sub_zero]
/-- the day -/
def gSl (d : Int32) : Int32 := 23 * gSin d / 1000
def jLate (d : Int32) : Int32 := jFD (10 * gSin (2 * d) - 8 * gSin (d + 80)) 1000
def gLate (d : Int32) : Int32 := (mDn (10 * (gSin (2 * d)).toInt64 - 8 * (gSin (d + 80)).toInt64) 1000).toInt32
theorem late_eq (d : Int32) (h1 : 0 ≤ d.toInt) (h2 : d.toInt < 360) : jLate d = gLate d := by
  obtain ⟨k, hk, rfl⟩ := i_of (n := 360) h1 h2 (by decide)
  revert k
  decide +kernel
