def kC (b : Bool) (c : Int32) : Int32 := if b = true ∧ c = 0 then 0 else 3
theorem kC_y {b : Bool} {c : Int32} (h : b = true) (h2 : c = 0) : 0 = kC b c := (if_pos ⟨h, h2⟩).symm
theorem kC_n {b : Bool} {c : Int32} (h : b = false) : 3 = kC b c := (if_neg (fun q => by rw [h] at q; exact absurd q.1 (by decide))).symm
theorem kC_c {b : Bool} {c : Int32} (h : ¬ c = 0) : 3 = kC b c := (if_neg (fun q => h q.2)).symm
theorem jAbs_sym {x y : Int32} (hx : bd x) (hy : bd y) : jAbs (x - y) = jAbs (y - x) := by
  obtain ⟨h1, h2⟩ := hx
  obtain ⟨h3, h4⟩ := hy
  have e1 : (x - y).toInt = x.toInt - y.toInt := fb_subI (by omega) (by omega)
  have e2 : (y - x).toInt = y.toInt - x.toInt := fb_subI (by omega) (by omega)
  have key : ∀ z : Int32, -100000 ≤ z.toInt ∧ z.toInt ≤ 100000 → (jAbs z).toInt = if 0 ≤ z.toInt then z.toInt else -z.toInt := by
    intro z hz
    unfold jAbs
    by_cases q : 0 ≤ z
    · have q2 : 0 ≤ z.toInt := by rw [Int32.le_iff_toInt_le, Int32.toInt_zero] at q; exact q
      rw [if_pos q, if_pos q2]
    · have q2 : ¬ 0 ≤ z.toInt := by rw [Int32.le_iff_toInt_le, Int32.toInt_zero] at q; exact q
      rw [if_neg q, if_neg q2, fb_negI (by omega)]
  rw [← Int32.toInt_inj, key _ (by omega), key _ (by omega), e1, e2]
  split <;> split <;> omega
theorem cents_eq {x1 y1 x2 y2 : Int32} (h1 : bd x1 ∧ bd y1) (h2 : bd x2 ∧ bd y2) : 3 * (jAbs (x2 - x1) + jAbs (y2 - y1)) + 50 = gCents x1 y1 x2 y2 := by
  unfold gCents
  rw [jAbs_sym h2.1 h1.1, jAbs_sym h2.2 h1.2]
theorem lay4_v {a b c d v : Bool} (h : ((a && b) && (c && d)) = v) : (a && (b && (c && d))) = v := by rw [← Bool.and_assoc]; exact h
