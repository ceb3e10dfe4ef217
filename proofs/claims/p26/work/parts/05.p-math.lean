/-- the errors of a trial plate, with a cut-off: traces of the dial as it was made -/
noncomputable def gC (p tl f ro pm tm fm d : Int32) (i : Nat) : Int32 := cE (gTold (sIs p d (nI (15 * i)) tl f ro) (gRD pm d tm fm ro (sX p d (nI (15 * i)) tl f ro) (sY p d (nI (15 * i)) tl f ro))) (nI (15 * i)) (gLit p d (nI (15 * i)))
theorem eC_eq {p d tl f ro pm tm fm : Int32} {T X Y : Nat → Int32} (h : trk (rG pm d tm fm ro) (rX pm d tm fm ro) (rY pm d tm fm ro) T X Y 360) : eCost p d tl f ro T X Y (kAll (rG pm d tm fm ro)) = gC p tl f ro pm tm fm d := by
  funext i
  unfold eCost gC
  rw [near_eq h]
theorem gEr_ex (p f ro pm tm fm en : Int32) (i : Nat) : ∃ c, c = eIn en (gC p (nI i) f ro pm tm fm 270) 24 0 (eIn en (gC p (nI i) f ro pm tm fm 90) 24 0 (eIn en (gC p (nI i) f ro pm tm fm 0) 24 0 0)) := ⟨_, Eq.refl _⟩
noncomputable def gEr (p f ro pm tm fm en : Int32) (i : Nat) : Int32 := Classical.choose (gEr_ex p f ro pm tm fm en i)
theorem gEr_u (p f ro pm tm fm en : Int32) (i : Nat) : gEr p f ro pm tm fm en i = eIn en (gC p (nI i) f ro pm tm fm 270) 24 0 (eIn en (gC p (nI i) f ro pm tm fm 90) 24 0 (eIn en (gC p (nI i) f ro pm tm fm 0) 24 0 0)) := Classical.choose_spec (gEr_ex p f ro pm tm fm en i)
theorem er_eq {p f ro pm tm fm en v : Int32} {i : Nat} {Ta Xa Ya Tb Xb Yb Tc Xc Yc : Nat → Int32} (ha : trk (rG pm 0 tm fm ro) (rX pm 0 tm fm ro) (rY pm 0 tm fm ro) Ta Xa Ya 360) (hb : trk (rG pm 90 tm fm ro) (rX pm 90 tm fm ro) (rY pm 90 tm fm ro) Tb Xb Yb 360) (hc : trk (rG pm 270 tm fm ro) (rX pm 270 tm fm ro) (rY pm 270 tm fm ro) Tc Xc Yc 360)
    (h : v = eIn en (eCost p 270 (nI i) f ro Tc Xc Yc (kAll (rG pm 270 tm fm ro))) 24 0 (eIn en (eCost p 90 (nI i) f ro Tb Xb Yb (kAll (rG pm 90 tm fm ro))) 24 0 (eIn en (eCost p 0 (nI i) f ro Ta Xa Ya (kAll (rG pm 0 tm fm ro))) 24 0 0))) : v = gEr p f ro pm tm fm en i := by
  rw [gEr_u, h, eC_eq ha, eC_eq hb, eC_eq hc]
theorem lt91 {i : Nat} (hi : i ≤ 91) (c : ¬ 90 < nI i) : i < 91 := by
  rcases Nat.lt_or_ge i 91 with q | q
  · exact q
  · rw [show i = 91 by omega] at c; exact absurd (by decide) c
theorem ge91 {i : Nat} (hi : i ≤ 91) (c : 90 < nI i) : i = 91 := by
  rcases Nat.lt_or_ge i 91 with q | q
  · rw [show (90 : Int32) = nI 90 from by decide, Int32.lt_iff_toInt_lt, nI_toInt (by omega), nI_toInt (by omega)] at c
    omega
  · omega
