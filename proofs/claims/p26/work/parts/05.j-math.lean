theorem wI_d {n lo hi : Int32} (h : wI n lo hi = true) : lo.toInt ≤ n.toInt ∧ n.toInt ≤ hi.toInt := by
  have := of_decide_eq_true h
  rw [Int32.le_iff_toInt_le, Int32.le_iff_toInt_le] at this
  exact this
theorem day_lo {n : Int32} (h : wI n 0 359 = true) : 0 ≤ n.toInt := (wI_d h).1
theorem day_hi {n : Int32} (h : wI n 0 359 = true) : n.toInt < 360 := by
  have h2 : n.toInt ≤ 359 := (wI_d h).2
  omega
theorem tick_of {n : Int32} (h : wI n 0 359 = true) : ∃ k, k < 360 ∧ n = nI k := i_of (day_lo h) (day_hi h) (by decide)
theorem lt_of {k : Nat} {c : Nat} (hk : k < 2 ^ 31) (hc : c < 2 ^ 31) (h : nI k < nI c) : k < c := by
  rw [Int32.lt_iff_toInt_lt, nI_toInt hk, nI_toInt hc] at h
  omega
theorem nlt_of {k : Nat} {c : Nat} (hk : k < 2 ^ 31) (hc : c < 2 ^ 31) (h : ¬ nI k < nI c) : ¬ k < c := by
  rw [Int32.lt_iff_toInt_lt, nI_toInt hk, nI_toInt hc] at h
  omega
theorem or_t1 {a b : Bool} (h : a = true) : (a || b) = true := by rw [h]; rfl
theorem or_t2 {a b : Bool} (h : b = true) : (a || b) = true := by rw [h, Bool.or_true]
theorem or_f {a b : Bool} (h : a = false) (h2 : b = false) : (a || b) = false := by rw [h, h2]; rfl
def trF (a b c : Nat) : Nat → Option Nat := va_up (va_up (va_up (fun _ => none) 0 (some a)) 1 (some b)) 2 (some c)
/-- the light, found from the rise alone -/
noncomputable def gAnew (p d : Int32) : Int32 := if gRise p d = -1 then 0 else jMin (360 - gRise p d) 359 - gRise p d + 1
theorem anew_0 {p d : Int32} (h : gRise p d = -1) : 0 = gAnew p d := by unfold gAnew; rw [if_pos h]
theorem anew_1 {p d : Int32} (h : ¬ gRise p d = -1) : jMin (360 - gRise p d) 359 - gRise p d + 1 = gAnew p d := by unfold gAnew; rw [if_neg h]
