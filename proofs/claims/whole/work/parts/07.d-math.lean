theorem an_br {p d : Int32} (hp : wI p (-66) 66 = true) (hd : wI d 0 359 = true) : gAnew p d = gBright p d := sorry
theorem bst_mb {p f ro pm tm fm : Int32} {F : Nat → Int32} : (gBst (gEr p f ro pm tm fm)).2 = nI (gMb p f ro pm tm fm F) := sorry
