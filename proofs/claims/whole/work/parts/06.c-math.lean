theorem ne_lt {k c : Nat} (hk : k ≤ c) (hc : c < 2 ^ 31) (h : ¬ nI k = nI c) : k < c := by
  rcases Nat.lt_or_ge k c with q | q
  · exact q
  · exact absurd (by rw [show k = c by omega]) h
theorem eq_nlt {k c : Nat} (hk : k < 2 ^ 31) (hc : c < 2 ^ 31) (h : nI k = nI c) : ¬ k < c := by
  have h2 := (nI_eq hk hc).mp h
  omega
theorem dial_v {a b c : Bool} {v : Bool} (h : ((a && b) && c) = v) : (a && (b && c)) = v := by rw [← Bool.and_assoc]; exact h
theorem clk_m0 {mer d t sF sT : Int32} (h : wI d sF sT = false) : mRest (4 * t + gLate d - mer + 0) 1440 = gClk mer d t sF sT := by
  unfold gClk; rw [h]; rfl
theorem clk_m1 {mer d t sF sT : Int32} (h : wI d sF sT = true) : mRest (4 * t + gLate d - mer + 60) 1440 = gClk mer d t sF sT := by
  unfold gClk; rw [if_pos h]
theorem wI_none {d sF sT : Int32} (h : sT = -1) (h0 : 0 ≤ d.toInt) : wI d sF sT = false := by
  refine decide_eq_false (fun q => ?_)
  have h2 := q.2
  rw [h, Int32.le_iff_toInt_le] at h2
  have h3 : (-1 : Int32).toInt = -1 := by decide
  omega
theorem clk_m2 {mer d t sF sT : Int32} (h : sT = -1) (h0 : 0 ≤ d.toInt) : mRest (4 * t + gLate d - mer + 0) 1440 = gClk mer d t sF sT := clk_m0 (wI_none h h0)
theorem clk_sF {mer d t sF sF' sT : Int32} (h : sF = sF' ∨ sT = -1) (h0 : 0 ≤ d.toInt) : gClk mer d t sF sT = gClk mer d t sF' sT := by
  rcases h with h | h
  · rw [h]
  · unfold gClk; rw [wI_none h h0, wI_none h h0]
theorem frs_m {p d t : Int32} (h : ¬ gSet p d = -1) : mRest (t - gSet p d + 360) 360 = gFrs p d t := by unfold gFrs; rw [if_neg h]
theorem hr_dark {p d t w a b : Int32} (h3 : ¬ w = 3) (h2 : ¬ w = 2) (h : gLit p d t = false) : (-1 : Int32) = (if w = 3 then a else if w = 2 then b else if w = 1 then gFrom p d t else gUneq p d t) := by
  rw [if_neg h3, if_neg h2, ← from_no h, ← uneq_no h]
  exact (ite_self _).symm
theorem hr_uneq {p d t w a b : Int32} (h3 : ¬ w = 3) (h2 : ¬ w = 2) (h0 : w = 0) (h : gLit p d t = true) : 12 * (t - gRise p d) / (gSet p d - gRise p d) = (if w = 3 then a else if w = 2 then b else if w = 1 then gFrom p d t else gUneq p d t) := by
  rw [if_neg h3, if_neg h2, if_neg (fun q => by rw [h0] at q; exact absurd q (by decide))]
  unfold gUneq; rw [if_pos h]
theorem hr_from {p d t w a b : Int32} (h3 : ¬ w = 3) (h2 : ¬ w = 2) (h1 : w = 1) (h : gLit p d t = true) : t - gRise p d = (if w = 3 then a else if w = 2 then b else if w = 1 then gFrom p d t else gUneq p d t) := by
  rw [if_neg h3, if_neg h2, if_pos h1]
  unfold gFrom; rw [if_pos h]
theorem hr_w1 {w : Int32} (h : wI w 0 3 = true) (h3 : ¬ w = 3) (h2 : ¬ w = 2) (h0 : ¬ w = 0) : w = 1 := by
  obtain ⟨a1, a2⟩ := wI_d h
  have e0 : (0 : Int32).toInt = 0 := by decide
  have e3 : (3 : Int32).toInt = 3 := by decide
  obtain ⟨k, hk, rfl⟩ := i_of (n := 4) (x := w) (by omega) (by omega) (by decide)
  match k, hk with
  | 0, _ => exact absurd rfl h0
  | 1, _ => rfl
  | 2, _ => exact absurd rfl h2
  | 3, _ => exact absurd rfl h3
