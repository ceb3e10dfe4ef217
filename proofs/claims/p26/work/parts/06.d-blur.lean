def bC (w : UInt32) : Bool := decide (w &&& 0x7fffffff ≤ 0x7f800000) && decide (FP.fadd w 1056964608 &&& 0x7fffffff ≤ 0x7f800000)
def bV (v : UInt32) : Bool := decide (v &&& 0x7fffffff ≤ 0x7f800000) && (match (FP.fmul 1121320960 v).toNat + 1 with | 0 => false | k + 1 => bC (UInt32.ofNat k))
def bOk (n : Nat) : Bool := match (FP.fdiv (FP.i2f (nI n)) 1121320960).toNat + 1 with | 0 => false | k + 1 => bV (UInt32.ofNat k)
theorem bOk_1 {n : Nat} (h : bOk n = true) : bV (FP.fdiv (FP.i2f (nI n)) 1121320960) = true := by
  have e : bOk n = bV (UInt32.ofNat (FP.fdiv (FP.i2f (nI n)) 1121320960).toNat) := Eq.refl _
  rw [UInt32.ofNat_toNat] at e
  rw [← e]; exact h
theorem bV_1 {v : UInt32} (h : bV v = true) : vf_n32 v ∧ vf_n32 (FP.fmul 1121320960 v) ∧ vf_n32 (FP.fadd (FP.fmul 1121320960 v) 1056964608) := by
  have e : bV v = (decide (v &&& 0x7fffffff ≤ 0x7f800000) && bC (UInt32.ofNat (FP.fmul 1121320960 v).toNat)) := Eq.refl _
  rw [UInt32.ofNat_toNat] at e
  rw [e] at h
  have h1 := Bool.and_eq_true_iff.mp h
  have h2 := Bool.and_eq_true_iff.mp h1.2
  exact ⟨(by unfold vf_n32; exact of_decide_eq_true h1.1), (by unfold vf_n32; exact of_decide_eq_true h2.1), (by unfold vf_n32; exact of_decide_eq_true h2.2)⟩
def bRg : Nat → Nat → Bool
  | 0, lo => bOk lo
  | d + 1, lo => bRg d lo && bRg d (lo + 2 ^ d)
theorem bRg_at : ∀ (d lo n : Nat), bRg d lo = true → lo ≤ n → n < lo + 2 ^ d → bOk n = true
  | 0, lo, n, h, h1, h2 => by
    rw [show n = lo by omega]; exact h
  | d + 1, lo, n, h, h1, h2 => by
    have h3 := Bool.and_eq_true_iff.mp h
    rcases Nat.lt_or_ge n (lo + 2 ^ d) with q | q
    · exact bRg_at d lo n h3.1 h1 q
    · exact bRg_at d (lo + 2 ^ d) n h3.2 q (by rw [Nat.pow_succ] at h2; omega)
theorem bRg_0 : bRg 11 0 = true := by decide +kernel
theorem bRg_1 : bRg 11 2048 = true := by decide +kernel
theorem bRg_2 : bRg 11 4096 = true := by decide +kernel
theorem bRg_3 : bRg 11 6144 = true := by decide +kernel
theorem bRg_4 : bRg 11 8192 = true := by decide +kernel
theorem bRg_5 : bRg 11 10240 = true := by decide +kernel
theorem bRg_6 : bRg 11 12288 = true := by decide +kernel
theorem bRg_7 : bRg 11 14336 = true := by decide +kernel
theorem bRg_8 : bRg 11 16384 = true := by decide +kernel
theorem bRg_9 : bRg 11 18432 = true := by decide +kernel
theorem bRg_10 : bRg 11 20480 = true := by decide +kernel
theorem bOk_all {n : Nat} (h : n < 20500) : bOk n = true := by
  rcases Nat.lt_or_ge n 2048 with q0 | q0
  · exact bRg_at 11 0 n bRg_0 (by omega) (by omega)
  rcases Nat.lt_or_ge n 4096 with q1 | q1
  · exact bRg_at 11 2048 n bRg_1 (by omega) (by omega)
  rcases Nat.lt_or_ge n 6144 with q2 | q2
  · exact bRg_at 11 4096 n bRg_2 (by omega) (by omega)
  rcases Nat.lt_or_ge n 8192 with q3 | q3
  · exact bRg_at 11 6144 n bRg_3 (by omega) (by omega)
  rcases Nat.lt_or_ge n 10240 with q4 | q4
  · exact bRg_at 11 8192 n bRg_4 (by omega) (by omega)
  rcases Nat.lt_or_ge n 12288 with q5 | q5
  · exact bRg_at 11 10240 n bRg_5 (by omega) (by omega)
  rcases Nat.lt_or_ge n 14336 with q6 | q6
  · exact bRg_at 11 12288 n bRg_6 (by omega) (by omega)
  rcases Nat.lt_or_ge n 16384 with q7 | q7
  · exact bRg_at 11 14336 n bRg_7 (by omega) (by omega)
  rcases Nat.lt_or_ge n 18432 with q8 | q8
  · exact bRg_at 11 16384 n bRg_8 (by omega) (by omega)
  rcases Nat.lt_or_ge n 20480 with q9 | q9
  · exact bRg_at 11 18432 n bRg_9 (by omega) (by omega)
  rcases Nat.lt_or_ge n 22528 with q10 | q10
  · exact bRg_at 11 20480 n bRg_10 (by omega) (by omega)
  omega
theorem jAbs_1 {x : Int32} (hx : bd x) : 0 ≤ (jAbs x).toInt ∧ (jAbs x).toInt ≤ 9999 := by
  obtain ⟨h1, h2⟩ := hx
  unfold jAbs
  by_cases q : 0 ≤ x
  · rw [if_pos q]
    rw [Int32.le_iff_toInt_le, Int32.toInt_zero] at q
    omega
  · rw [if_neg q, fb_negI (by omega)]
    rw [Int32.le_iff_toInt_le, Int32.toInt_zero] at q
    omega
theorem bl_V {x y z : Int32} (h : bd x ∧ bd y) (hz : 0 ≤ z.toInt ∧ z.toInt ≤ 500) : bV (FP.fdiv (FP.i2f (jAbs x + jAbs y + z)) 1121320960) = true := by
  have h1 := jAbs_1 h.1
  have h2 := jAbs_1 h.2
  have e1 : (jAbs x + jAbs y).toInt = (jAbs x).toInt + (jAbs y).toInt := fb_addI (by omega) (by omega)
  have e2 : (jAbs x + jAbs y + z).toInt = (jAbs x).toInt + (jAbs y).toInt + z.toInt := by rw [fb_addI (by omega) (by omega), e1]
  obtain ⟨k, hk, e⟩ := i_of (x := jAbs x + jAbs y + z) (n := 20500) (by omega) (by omega) (by decide)
  rw [e]
  exact bOk_1 (bOk_all hk)
theorem bl_32 {x y z : Int32} (h : bd x ∧ bd y) (hz : 0 ≤ z.toInt ∧ z.toInt ≤ 500) : vf_n32 (FP.fdiv (FP.i2f (jAbs x + jAbs y + z)) 1121320960) := (bV_1 (bl_V h hz)).1
theorem bl_p {x y z : Int32} (h : bd x ∧ bd y) (hz : 0 ≤ z.toInt ∧ z.toInt ≤ 500) : vf_n32 (FP.fmul 1121320960 (FP.fdiv (FP.i2f (jAbs x + jAbs y + z)) 1121320960)) := (bV_1 (bl_V h hz)).2.1
theorem bl_s {x y z : Int32} (h : bd x ∧ bd y) (hz : 0 ≤ z.toInt ∧ z.toInt ≤ 500) : vf_n32 (FP.fadd (FP.fmul 1121320960 (FP.fdiv (FP.i2f (jAbs x + jAbs y + z)) 1121320960)) 1056964608) := (bV_1 (bl_V h hz)).2.2
