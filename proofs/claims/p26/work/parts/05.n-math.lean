/-- the worst of a day -/
def wW (to : Nat → Int32) : Nat → Int32 × Int32
  | 0 => (-1, -1)
  | n + 1 => if ¬ to n = -1 ∧ (wW to n).1 < jAbs (to n - nI n) then (jAbs (to n - nI n), nI n) else wW to n
theorem gWor_ex (to : Nat → Int32) : ∃ c, c = wW to 360 := ⟨_, Eq.refl _⟩
noncomputable def gWor (to : Nat → Int32) : Int32 × Int32 := Classical.choose (gWor_ex to)
theorem gWor_u (to : Nat → Int32) : gWor to = wW to 360 := Classical.choose_spec (gWor_ex to)
theorem wW_1 {to : Nat → Int32} {n : Nat} {g fi v : Int32} (h : wW to n = (g, fi)) (hv : v = to n) (c : v = -1) : wW to (n + 1) = (g, fi) := by
  rw [← h]; exact if_neg (fun q => q.1 (hv.symm.trans c))
theorem wW_2 {to : Nat → Int32} {n : Nat} {g fi v : Int32} (h : wW to n = (g, fi)) (hv : v = to n) (c : jAbs (v - nI n) ≤ g) : wW to (n + 1) = (g, fi) := by
  rw [← h]; exact if_neg (fun q => by rw [h, ← hv] at q; exact absurd c (Int32.not_le.mpr q.2))
theorem wW_3 {to : Nat → Int32} {n : Nat} {g fi v : Int32} (h : wW to n = (g, fi)) (hv : v = to n) (c1 : ¬ v = -1) (c : ¬ jAbs (v - nI n) ≤ g) : wW to (n + 1) = (jAbs (v - nI n), nI n) := by
  have e : wW to (n + 1) = (jAbs (to n - nI n), nI n) := if_pos ⟨fun q => c1 (hv.trans q), by rw [h, ← hv]; exact Int32.not_le.mp c⟩
  rw [e, hv]
theorem wor_of {to : Nat → Int32} {i : Nat} {g fi : Int32} (h : wW to i = (g, fi)) (hi : i = 360) : gWor to = (g, fi) := by rw [gWor_u, ← hi]; exact h
/-- the latitudes that fit -/
def wF (g : Nat → Bool) : Nat → Int32 × Int32 × Int32
  | 0 => (0, 0, 0)
  | n + 1 => if g n = true then ((wF g n).1 + 1, (if (wF g n).1 = 0 then nI n - 66 else (wF g n).2.1), nI n - 66) else wF g n
theorem gFit_ex (g : Nat → Bool) : ∃ c, c = wF g 133 := ⟨_, Eq.refl _⟩
noncomputable def gFit (g : Nat → Bool) : Int32 × Int32 × Int32 := Classical.choose (gFit_ex g)
theorem gFit_u (g : Nat → Bool) : gFit g = wF g 133 := Classical.choose_spec (gFit_ex g)
theorem wF_0 {g : Nat → Bool} {n : Nat} {a b c : Int32} (h : wF g n = (a, b, c)) (hg : g n = false) : wF g (n + 1) = (a, b, c) := by
  rw [← h]; exact if_neg (fun q => by rw [hg] at q; cases q)
theorem wF_1 {g : Nat → Bool} {n : Nat} {a b c y : Int32} (h : wF g n = (a, b, c)) (hg : g n = true) (ha : a = 0) (hy : y = a + Int32.ofInt 1) : wF g (n + 1) = (y, nI n - 66, nI n - 66) := by
  have e : wF g (n + 1) = ((wF g n).1 + 1, (if (wF g n).1 = 0 then nI n - 66 else (wF g n).2.1), nI n - 66) := if_pos hg
  rw [e, h, hy]
  show (a + 1, (if a = 0 then _ else _), _) = _
  rw [if_pos ha]; rfl
theorem wF_2 {g : Nat → Bool} {n : Nat} {a b c y : Int32} (h : wF g n = (a, b, c)) (hg : g n = true) (ha : ¬ a = 0) (hy : y = a + Int32.ofInt 1) : wF g (n + 1) = (y, b, nI n - 66) := by
  have e : wF g (n + 1) = ((wF g n).1 + 1, (if (wF g n).1 = 0 then nI n - 66 else (wF g n).2.1), nI n - 66) := if_pos hg
  rw [e, h, hy]
  show (a + 1, (if a = 0 then _ else _), _) = _
  rw [if_neg ha]; rfl
theorem fit_of {g : Nat → Bool} {i : Nat} {a b c : Int32} (h : wF g i = (a, b, c)) (hi : i = 133) : gFit g = (a, b, c) := by rw [gFit_u, ← hi]; exact h
theorem y_lat (i : Nat) : nI i - 66 + Int32.ofInt 1 = nI (i + 1) - 66 := by
  rw [← nI_1 i, Int32.sub_eq_add_neg, Int32.sub_eq_add_neg, Int32.add_assoc, Int32.add_comm (-66), ← Int32.add_assoc]; rfl
theorem lat_le {i : Nat} (hi : i ≤ 133) (c : ¬ 66 < nI i - 66) : i < 133 := by
  rcases Nat.lt_or_ge i 133 with q | q
  · exact q
  · rw [show i = 133 by omega] at c; exact absurd (by decide) c
theorem lat_ge {i : Nat} (hi : i ≤ 133) (c : 66 < nI i - 66) : i = 133 := by
  rcases Nat.lt_or_ge i 133 with q | q
  · rw [show (66 : Int32) = nI 66 from by decide, Int32.lt_iff_toInt_lt, nI_toInt (by omega), fb_subI (by rw [nI_toInt (by omega), nI_toInt (by omega)]; omega) (by rw [nI_toInt (by omega), nI_toInt (by omega)]; omega), nI_toInt (by omega), nI_toInt (by omega)] at c
    omega
  · omega
/-- the best tilt, with a cut-off -/
def wB (er : Int32 → Nat → Int32) : Nat → Int32 × Int32
  | 0 => (1000000, 0)
  | n + 1 => if er (wB er n).1 n < (wB er n).1 then (er (wB er n).1 n, nI n) else wB er n
theorem gBst_ex (er : Int32 → Nat → Int32) : ∃ c, c = wB er 91 := ⟨_, Eq.refl _⟩
noncomputable def gBst (er : Int32 → Nat → Int32) : Int32 × Int32 := Classical.choose (gBst_ex er)
theorem gBst_u (er : Int32 → Nat → Int32) : gBst er = wB er 91 := Classical.choose_spec (gBst_ex er)
theorem wB_1 {er : Int32 → Nat → Int32} {n : Nat} {a b v : Int32} (h : wB er n = (a, b)) (hv : v = er a n) (c : v < a) : wB er (n + 1) = (v, nI n) := by
  have e : wB er (n + 1) = (er (wB er n).1 n, nI n) := if_pos (by rw [h, ← hv]; exact c)
  rw [e, h, hv]
theorem wB_2 {er : Int32 → Nat → Int32} {n : Nat} {a b v : Int32} (h : wB er n = (a, b)) (hv : v = er a n) (c : a ≤ v) : wB er (n + 1) = (a, b) := by
  have e : wB er (n + 1) = wB er n := if_neg (by rw [h, ← hv]; exact Int32.not_lt.mpr c)
  rw [e, h]
theorem bst_of {er : Int32 → Nat → Int32} {i : Nat} {a b : Int32} (h : wB er i = (a, b)) (hi : i = 91) : gBst er = (a, b) := by rw [gBst_u, ← hi]; exact h
theorem day_rod {n : Int32} (h : wI n 1 500 = true) : 0 ≤ n.toInt := by
  have h1 : 1 ≤ n.toInt := (wI_d h).1
  omega
