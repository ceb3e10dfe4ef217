theorem y_pred (j : Nat) : nI (j + 1) - 1 = nI j := pk_sub (show 1 ≤ j + 1 by omega)
theorem set_z {i : Nat} (hi : i ≤ 360) (c : nI i - 1 < 0) : i = 0 := by
  cases i with
  | zero => rfl
  | succ j => rw [y_pred] at c; exact absurd c (nI_pos (by omega))
theorem set_p {i : Nat} (c : ¬ nI i - 1 < 0) : ∃ j, i = j + 1 := by
  cases i with
  | zero => exact absurd (by decide) c
  | succ j => exact ⟨j, rfl⟩
theorem bI_and0l {a b : Bool} (h : bI a = 0) : (0 : Int32) = bI (a && b) := by rw [bI_f h]; rfl
theorem bI_and0r {a b : Bool} (h : bI b = 0) : (0 : Int32) = bI (a && b) := by rw [bI_f h, Bool.and_false]; rfl
theorem bI_and1 {a b : Bool} (h : a = true) (h2 : b = true) : (1 : Int32) = bI (a && b) := by rw [h, h2]; rfl
def gTold (g : Bool) (v : Int32) : Int32 := if g = true then v else -1
theorem told_no {g : Bool} {v : Int32} (h : g = false) : (-1 : Int32) = gTold g v := by rw [h]; rfl
theorem told_yes {g : Bool} {v w : Int32} (h : g = true) (e : w = v) : w = gTold g v := by rw [h]; exact e
theorem bri_of {f : Nat → Bool} {c i : Nat} (h : c = kc f i) (q : i = 360) : nI c = nI (kAll f) := by rw [kAll_of h q]
theorem frs_no {p d t : Int32} (h : gSet p d = -1) : (-1 : Int32) = gFrs p d t := by unfold gFrs; rw [if_pos h]
