/-! two equalities of answers -/
theorem co_sym : ∀ n, n < 360 → 1 ≤ n → gCos (nI n - 180) = gCos (nI (360 - n) - 180) := by decide +kernel
theorem co_mono : ∀ n, n < 180 → (gCos (nI n - 180)).toInt ≤ (gCos (nI (n + 1) - 180)).toInt := by decide +kernel
theorem co_lat : ∀ k, k < 133 → 0 ≤ (gCos (nI k - 66)).toInt := by decide +kernel
theorem co_day : ∀ k, k < 360 → 0 ≤ (gCos (gSl (nI k))).toInt := by decide +kernel
theorem lat_of {x : Int32} (h : wI x (-66) 66 = true) : ∃ k, k < 133 ∧ x = nI k - 66 := by
  have h1 := wI_d h
  have e1 : (-66 : Int32).toInt = -66 := by decide
  have e2 : (66 : Int32).toInt = 66 := by decide
  obtain ⟨k, hk, e⟩ := i_of (x := x + 66) (n := 133) (by rw [fb_addI (by omega) (by omega)]; omega) (by rw [fb_addI (by omega) (by omega)]; omega) (by decide)
  refine ⟨k, hk, ?_⟩
  rw [← e, Int32.add_sub_cancel]
theorem ab_mul {x y : Int} {a b : Nat} (h1 : x.natAbs ≤ a) (h2 : y.natAbs ≤ b) : (x * y).natAbs ≤ a * b := by rw [Int.natAbs_mul]; exact Nat.mul_le_mul h1 h2
theorem ab_bd {x : Int32} : (gSin x).toInt.natAbs ≤ 1000 := by
  have := gSin_bd x
  omega
theorem gUp_I {p d t : Int32} : (gUp p d t).toInt = 1000 * (gSin p).toInt * (gSin (gSl d)).toInt + (gCos p).toInt * ((gCos (gSl d)).toInt * (gCos (t - 180)).toInt) := by
  have b1 := ab_bd (x := p)
  have b2 := ab_bd (x := gSl d)
  have b3 : (gCos p).toInt.natAbs ≤ 1000 := ab_bd
  have b4 : (gCos (gSl d)).toInt.natAbs ≤ 1000 := ab_bd
  have b5 : (gCos (t - 180)).toInt.natAbs ≤ 1000 := ab_bd
  have c0 : (1000 : Int64).toInt = 1000 := by decide
  unfold gUp
  generalize gSin p = sp at *
  generalize gSin (gSl d) = se at *
  generalize gCos p = cp at *
  generalize gCos (gSl d) = ce at *
  generalize gCos (t - 180) = ch at *
  have s1 : sp.toInt64.toInt = sp.toInt := Int32.toInt_toInt64 _
  have s2 : se.toInt64.toInt = se.toInt := Int32.toInt_toInt64 _
  have s3 : cp.toInt64.toInt = cp.toInt := Int32.toInt_toInt64 _
  have s4 : ce.toInt64.toInt = ce.toInt := Int32.toInt_toInt64 _
  have s5 : ch.toInt64.toInt = ch.toInt := Int32.toInt_toInt64 _
  have h1 : (1000 * sp.toInt).natAbs ≤ 1000 * 1000 := ab_mul (by decide) b1
  have h2 : (1000 * sp.toInt * se.toInt).natAbs ≤ 1000 * 1000 * 1000 := ab_mul h1 b2
  have h3 : (ce.toInt * ch.toInt).natAbs ≤ 1000 * 1000 := ab_mul b4 b5
  have h4 : (cp.toInt * (ce.toInt * ch.toInt)).natAbs ≤ 1000 * (1000 * 1000) := ab_mul b3 h3
  have c1 : (1000 * sp.toInt64).toInt = 1000 * sp.toInt := by
    rw [fb_mulL (by rw [c0, s1]; omega) (by rw [c0, s1]; omega), c0, s1]
  have c2 : (1000 * sp.toInt64 * se.toInt64).toInt = 1000 * sp.toInt * se.toInt := by
    rw [fb_mulL (by rw [c1, s2]; omega) (by rw [c1, s2]; omega), c1, s2]
  have c3 : (ce.toInt64 * ch.toInt64).toInt = ce.toInt * ch.toInt := by
    rw [fb_mulL (by rw [s4, s5]; omega) (by rw [s4, s5]; omega), s4, s5]
  have c4 : (cp.toInt64 * (ce.toInt64 * ch.toInt64)).toInt = cp.toInt * (ce.toInt * ch.toInt) := by
    rw [fb_mulL (by rw [s3, c3]; omega) (by rw [s3, c3]; omega), s3, c3]
  rw [fb_addL (by rw [c2, c4]; omega) (by rw [c2, c4]; omega), c2, c4]
theorem lit_mono {p d : Int32} (hp : wI p (-66) 66 = true) (hd : wI d 0 359 = true) {n : Nat} (hn : n < 180) (h : litN p d n = true) : litN p d (n + 1) = true := by
  obtain ⟨k, hk, ek⟩ := lat_of hp
  obtain ⟨j, hj, ej⟩ := tick_of hd
  have a1 := co_lat k hk
  have a2 := co_day j hj
  have a3 := co_mono n hn
  rw [← ek] at a1
  rw [← ej] at a2
  unfold litN gLit at h ⊢
  rw [decide_eq_true_iff, Int64.lt_iff_toInt_lt, gUp_I] at h
  rw [decide_eq_true_iff, Int64.lt_iff_toInt_lt, gUp_I]
  have b1 := Int.mul_le_mul_of_nonneg_left a3 a2
  have b2 := Int.mul_le_mul_of_nonneg_left b1 a1
  omega
theorem lit_sym {p d : Int32} {n : Nat} (hn : n < 360) (h1 : 1 ≤ n) : litN p d n = litN p d (360 - n) := by
  have e : gUp p d (nI n) = gUp p d (nI (360 - n)) := by unfold gUp; rw [co_sym n hn h1]
  show decide (0 < gUp p d (nI n)) = decide (0 < gUp p d (nI (360 - n)))
  rw [e]
theorem fR_sp (f : Nat → Bool) : ∀ n t, (fR f n t = -1 ∧ ∀ m, t ≤ m → m < t + n → f m = false) ∨ (∃ a, t ≤ a ∧ a < t + n ∧ fR f n t = nI a ∧ f a = true ∧ ∀ m, t ≤ m → m < a → f m = false)
  | 0, t => Or.inl ⟨rfl, fun m h1 h2 => absurd h2 (by omega)⟩
  | n + 1, t => by
    have e : fR f (n + 1) t = if f t then nI t else fR f n (t + 1) := Eq.refl _
    cases ht : f t with
    | true => exact Or.inr ⟨t, Nat.le_refl _, by omega, by rw [e, if_pos ht], ht, fun m h1 h2 => absurd h2 (by omega)⟩
    | false =>
      have e2 : fR f (n + 1) t = fR f n (t + 1) := by rw [e, ht]; rfl
      rcases fR_sp f n (t + 1) with ⟨h1, h2⟩ | ⟨a, h1, h2, h3, h4, h5⟩
      · refine Or.inl ⟨e2.trans h1, fun m m1 m2 => ?_⟩
        rcases Nat.eq_or_lt_of_le m1 with q | q
        · rw [← q]; exact ht
        · exact h2 m q (by omega)
      · refine Or.inr ⟨a, by omega, by omega, e2.trans h3, h4, fun m m1 m2 => ?_⟩
        rcases Nat.eq_or_lt_of_le m1 with q | q
        · rw [← q]; exact ht
        · exact h5 m q m2
theorem kc_iv {f : Nat → Bool} {a b : Nat} : ∀ n, (∀ m, m < n → (f m = true ↔ a ≤ m ∧ m ≤ b)) → kc f n = min n (b + 1) - a
  | 0, _ => by show 0 = _; omega
  | n + 1, h => by
    have ih := kc_iv (f := f) (a := a) (b := b) n (fun m hm => h m (by omega))
    have h2 := h n (Nat.lt_succ_self n)
    cases hf : f n with
    | true =>
      have h3 := h2.mp hf
      rw [kc_yes hf, ih]; omega
    | false =>
      have h3 : ¬ (a ≤ n ∧ n ≤ b) := fun q => by rw [h2.mpr q] at hf; cases hf
      rw [kc_no hf, ih]; omega
theorem lit_up {f : Nat → Bool} (hM : ∀ n, n < 180 → f n = true → f (n + 1) = true) {a : Nat} (ha : f a = true) : ∀ k, a + k ≤ 180 → f (a + k) = true
  | 0, _ => ha
  | k + 1, h => hM (a + k) (by omega) (lit_up hM ha k (by omega))
theorem an_br {p d : Int32} (hp : wI p (-66) 66 = true) (hd : wI d 0 359 = true) : gAnew p d = gBright p d := by
  have hM : ∀ n, n < 180 → litN p d n = true → litN p d (n + 1) = true := fun n hn h => lit_mono hp hd hn h
  have hS : ∀ n, n < 360 → 1 ≤ n → litN p d n = litN p d (360 - n) := fun n hn h1 => lit_sym hn h1
  unfold gBright gAnew
  rw [kAll_u, gRise_u]
  generalize litN p d = f at hM hS ⊢
  rcases fR_sp f 360 0 with ⟨h1, h2⟩ | ⟨a, -, h2, h3, h4, h5⟩
  · rw [h1, if_pos rfl, kc_iv (f := f) (a := 1) (b := 0) 360 (fun m hm => ⟨fun q => absurd q (ne_f (h2 m (Nat.zero_le _) (by omega))), fun q => absurd q (by omega)⟩)]
    rfl
  · have ha : a ≤ 180 := by
      rcases Nat.lt_or_ge 180 a with q | q
      · have h6 := h5 (360 - a) (Nat.zero_le _) (by omega)
        rw [← hS a (by omega) (by omega), h4] at h6; cases h6
      · exact q
    have hup : ∀ m, a ≤ m → m ≤ 180 → f m = true := fun m m1 m2 => by
      have := lit_up hM h4 (m - a) (by omega)
      rw [show a + (m - a) = m by omega] at this; exact this
    have hiv : ∀ m, m < 360 → (f m = true ↔ a ≤ m ∧ m ≤ 360 - a) := by
      intro m hm
      constructor
      · intro q
        refine ⟨?_, ?_⟩
        · rcases Nat.lt_or_ge m a with z | z
          · rw [h5 m (Nat.zero_le _) z] at q; cases q
          · exact z
        · rcases Nat.lt_or_ge (360 - a) m with z | z
          · rw [hS m hm (by omega), h5 (360 - m) (Nat.zero_le _) (by omega)] at q; cases q
          · exact z
      · rintro ⟨m1, m2⟩
        rcases Nat.lt_or_ge 180 m with z | z
        · rw [hS m hm (by omega)]; exact hup (360 - m) (by omega) (by omega)
        · exact hup m m1 z
    rw [h3, kc_iv 360 hiv, if_neg (fun q => by
      have h6 : (nI a).toInt = a := nI_toInt (by omega)
      rw [q] at h6
      have h7 : (-1 : Int32).toInt = -1 := by decide
      omega), show (360 : Int32) = nI 360 from by decide, pk_sub (show a ≤ 360 by omega), show (359 : Int32) = nI 359 from by decide]
    unfold jMin
    rcases Nat.eq_zero_or_pos a with q | q
    · subst q; decide
    · rw [if_neg (nI_nlt (show 360 - a ≤ 359 by omega) (by omega)), pk_sub (show a ≤ 360 - a by omega), nI_1]
      congr 1
      omega
/-! numbers out of the script -/
theorem and_nn (v : Int32) : 0 ≤ (v &&& 2147483647).toInt := by
  have h : decide ((v &&& 2147483647).toInt < 0) = (decide (v.toInt < 0) && decide ((2147483647 : Int32).toInt < 0)) := by
    have h1 := BitVec.msb_and (x := v.toBitVec) (y := (2147483647 : Int32).toBitVec)
    rw [BitVec.msb_eq_toInt, BitVec.msb_eq_toInt, BitVec.msb_eq_toInt] at h1
    exact h1
  have e : decide ((2147483647 : Int32).toInt < 0) = false := by decide
  rw [e, Bool.and_false] at h
  have := of_decide_eq_false h
  omega
theorem qLow_in (v n : Int32) (hn : 0 < n.toInt) : 0 ≤ (qLow v n).toInt ∧ (qLow v n).toInt < n.toInt := by
  unfold qLow
  rw [jz _ n hn]
  have h := (tmod_bd (v &&& 2147483647).toInt n.toInt hn).1 (and_nn v)
  exact ⟨h.1, h.2.1⟩
theorem q360 (x : Int32) : ¬ 360 - qLow x 360 = 0 := by
  intro h
  have h1 := qLow_in x 360 (by decide)
  have e : (360 : Int32).toInt = 360 := by decide
  have h2 : (360 - qLow x 360).toInt = (360 : Int32).toInt - (qLow x 360).toInt := fb_subI (by omega) (by omega)
  rw [h, Int32.toInt_zero] at h2
  omega
theorem wI_of {n lo hi : Int32} (h1 : lo.toInt ≤ n.toInt) (h2 : n.toInt ≤ hi.toInt) : wI n lo hi = true := decide_eq_true ⟨Int32.le_iff_toInt_le.mpr h1, Int32.le_iff_toInt_le.mpr h2⟩
theorem qP_in (x : Int32) : wI (qLow x 133 - 66) (-66) 66 = true := by
  have h1 := qLow_in x 133 (by decide)
  have e1 : (133 : Int32).toInt = 133 := by decide
  have e2 : (66 : Int32).toInt = 66 := by decide
  have e3 : (-66 : Int32).toInt = -66 := by decide
  have h2 : (qLow x 133 - 66).toInt = (qLow x 133).toInt - (66 : Int32).toInt := fb_subI (by omega) (by omega)
  exact wI_of (by omega) (by omega)
theorem qN_in (x : Int32) : wI (qLow x 300) (-720) 720 = true := by
  have h1 := qLow_in x 300 (by decide)
  have e1 : (300 : Int32).toInt = 300 := by decide
  have e2 : (720 : Int32).toInt = 720 := by decide
  have e3 : (-720 : Int32).toInt = -720 := by decide
  exact wI_of (by omega) (by omega)
theorem qT_in (x : Int32) : wI (qLow x 91) 0 90 = true := by
  have h1 := qLow_in x 91 (by decide)
  have e1 : (91 : Int32).toInt = 91 := by decide
  have e2 : (90 : Int32).toInt = 90 := by decide
  have e3 : (0 : Int32).toInt = 0 := by decide
  exact wI_of (by omega) (by omega)
theorem qF_in (x : Int32) : wI (qLow x 181 - 90) (-180) 180 = true := by
  have h1 := qLow_in x 181 (by decide)
  have e1 : (181 : Int32).toInt = 181 := by decide
  have e2 : (90 : Int32).toInt = 90 := by decide
  have e3 : (-180 : Int32).toInt = -180 := by decide
  have e4 : (180 : Int32).toInt = 180 := by decide
  have h2 : (qLow x 181 - 90).toInt = (qLow x 181).toInt - (90 : Int32).toInt := fb_subI (by omega) (by omega)
  exact wI_of (by omega) (by omega)
theorem qR_in (x : Int32) : wI (1 + qLow x 300) 1 500 = true := by
  have h1 := qLow_in x 300 (by decide)
  have e1 : (300 : Int32).toInt = 300 := by decide
  have e2 : (1 : Int32).toInt = 1 := by decide
  have e3 : (500 : Int32).toInt = 500 := by decide
  have h2 : (1 + qLow x 300).toInt = (1 : Int32).toInt + (qLow x 300).toInt := fb_addI (by omega) (by omega)
  exact wI_of (by omega) (by omega)
theorem qD_in (x : Int32) : wI (qLow x 360) 0 359 = true := by
  have h1 := qLow_in x 360 (by decide)
  have e1 : (360 : Int32).toInt = 360 := by decide
  have e2 : (359 : Int32).toInt = 359 := by decide
  have e3 : (0 : Int32).toInt = 0 := by decide
  exact wI_of (by omega) (by omega)
theorem qK_in (x : Int32) : ∃ n, 90 ≤ n ∧ n < 270 ∧ 90 + qLow x 180 = nI n := by
  have h1 := qLow_in x 180 (by decide)
  have e1 : (180 : Int32).toInt = 180 := by decide
  have e2 : (90 : Int32).toInt = 90 := by decide
  have h2 : (90 + qLow x 180).toInt = (90 : Int32).toInt + (qLow x 180).toInt := fb_addI (by omega) (by omega)
  obtain ⟨k, hk, e⟩ := i_of (x := 90 + qLow x 180) (n := 270) (by omega) (by omega) (by decide)
  have e3 : (nI k).toInt = k := nI_toInt (by omega)
  rw [e, e3] at h2
  exact ⟨k, by omega, hk, e⟩
theorem tk_in {n : Nat} (h : n < 360) : wI (nI n) 0 359 = true := by
  have e1 : (nI n).toInt = n := nI_toInt (by omega)
  have e2 : (359 : Int32).toInt = 359 := by decide
  have e3 : (0 : Int32).toInt = 0 := by decide
  exact wI_of (by omega) (by omega)
theorem tk_360 {n : Nat} (h : n ≤ 360) : 360 - nI n = nI (360 - n) := by
  rw [show (360 : Int32) = nI 360 from by decide]; exact pk_sub h
/-! the sun about noon -/
theorem si_sym : ∀ n, n < 360 → 1 ≤ n → (gSin (nI n - 180)).toInt64 = -(gSin (nI (360 - n) - 180)).toInt64 := by decide +kernel
theorem mm_up {p d : Int32} {n : Nat} (h1 : 1 ≤ n) (h2 : n < 360) : gUp p d (nI n) = gUp p d (360 - nI n) := by
  rw [tk_360 (by omega)]
  unfold gUp
  rw [co_sym n h2 h1]
theorem mm_we {d : Int32} {n : Nat} (h1 : 1 ≤ n) (h2 : n < 360) : gWe d (nI n) = -(gWe d (360 - nI n)) := by
  rw [tk_360 (by omega)]
  unfold gWe
  rw [si_sym n h2 h1, Int64.mul_neg]
/-! a dial that stands as it was made reads its own shadows -/
theorem nI_n1 {n : Nat} (h : n < 2 ^ 31) : ¬ nI n = -1 := fun q => by
  have h1 : (nI n).toInt = n := nI_toInt h
  rw [q] at h1
  have h2 : (-1 : Int32).toInt = -1 := by decide
  omega
theorem jAbs_0 {a b : Int32} (ha : bd a) (hb : bd b) (h : (jAbs (a - b)).toInt = 0) : a = b := by
  obtain ⟨h1, h2⟩ := ha
  obtain ⟨h3, h4⟩ := hb
  have e : (a - b).toInt = a.toInt - b.toInt := fb_subI (by omega) (by omega)
  rw [← Int32.toInt_inj]
  unfold jAbs at h
  by_cases q : 0 ≤ a - b
  · rw [if_pos q] at h; omega
  · rw [if_neg q, fb_negI (by omega)] at h; omega
theorem dist_I {x y a b : Int32} (hx : bd x) (hy : bd y) (ha : bd a) (hb : bd b) : (jAbs (a - x) + jAbs (b - y)).toInt = (jAbs (a - x)).toInt + (jAbs (b - y)).toInt := by
  have h1 := jAbs_bd ha hx
  have h2 := jAbs_bd hb hy
  exact fb_addI (by omega) (by omega)
theorem nR_own {g : Nat → Bool} {gx gy : Nat → Int32} {n : Nat} (hg : ∀ k, g k = true → bd (gx k) ∧ bd (gy k)) (hn : g n = true) : ∀ N, N ≤ 360 →
    ((nR g gx gy (gx n) (gy n) N).1.toInt = 1000000 ∧ N ≤ n ∨ ∃ m, m < N ∧ g m = true ∧ nR g gx gy (gx n) (gy n) N = (jAbs (gx m - gx n) + jAbs (gy m - gy n), nI m) ∧ (n < N → m ≤ n ∧ (jAbs (gx m - gx n) + jAbs (gy m - gy n)).toInt = 0))
  | 0, _ => Or.inl ⟨(show (1000000 : Int32).toInt = 1000000 from by decide), Nat.zero_le _⟩
  | N + 1, hN => by
    have ih := nR_own hg hn N (by omega)
    have e : nR g gx gy (gx n) (gy n) (N + 1) = if g N = true ∧ jAbs (gx N - gx n) + jAbs (gy N - gy n) < (nR g gx gy (gx n) (gy n) N).1 then (jAbs (gx N - gx n) + jAbs (gy N - gy n), nI N) else nR g gx gy (gx n) (gy n) N := Eq.refl _
    have bn := hg n hn
    by_cases q : g N = true ∧ jAbs (gx N - gx n) + jAbs (gy N - gy n) < (nR g gx gy (gx n) (gy n) N).1
    · rw [if_pos q] at e
      have bN := hg N q.1
      have d1 := jAbs_bd bN.1 bn.1
      have d2 := jAbs_bd bN.2 bn.2
      have dI := dist_I bn.1 bn.2 bN.1 bN.2
      have q2 := q.2
      rw [Int32.lt_iff_toInt_lt] at q2
      refine Or.inr ⟨N, by omega, q.1, e, fun hl => ?_⟩
      rcases ih with ⟨i1, i2⟩ | ⟨m, i1, i2, i3, i4⟩
      · have hNn : N = n := by omega
        subst hNn
        have z : ∀ x : Int32, bd x → (jAbs (x - x)).toInt = 0 := fun x _ => by rw [Int32.sub_self]; decide
        exact ⟨Nat.le_refl _, by rw [dI, z _ bN.1, z _ bN.2]; rfl⟩
      · rcases Nat.lt_or_ge n N with hl2 | hl2
        · have i5 := i4 hl2
          rw [i3] at q2
          have := i5.2
          have q3 : (jAbs (gx N - gx n) + jAbs (gy N - gy n)).toInt < (jAbs (gx m - gx n) + jAbs (gy m - gy n)).toInt := q2
          omega
        · have hNn : N = n := by omega
          subst hNn
          have z : ∀ x : Int32, bd x → (jAbs (x - x)).toInt = 0 := fun x _ => by rw [Int32.sub_self]; decide
          exact ⟨Nat.le_refl _, by rw [dI, z _ bN.1, z _ bN.2]; rfl⟩
    · rw [if_neg q] at e
      rw [e]
      rcases ih with ⟨i1, i2⟩ | ⟨m, i1, i2, i3, i4⟩
      · rcases Nat.lt_or_ge N n with hl2 | hl2
        · exact Or.inl ⟨i1, hl2⟩
        · have hNn : N = n := by omega
          subst hNn
          exfalso
          apply q
          refine ⟨hn, ?_⟩
          have dI := dist_I bn.1 bn.2 bn.1 bn.2
          have d1 := jAbs_bd bn.1 bn.1
          have d2 := jAbs_bd bn.2 bn.2
          rw [Int32.lt_iff_toInt_lt, i1]
          omega
      · refine Or.inr ⟨m, by omega, i2, i3, fun hl => ?_⟩
        rcases Nat.lt_or_ge n N with hl2 | hl2
        · exact i4 hl2
        · have hNn : N = n := by omega
          subst hNn
          have bm := hg m i2
          have dI := dist_I bn.1 bn.2 bm.1 bm.2
          have d1 := jAbs_bd bm.1 bn.1
          have d2 := jAbs_bd bm.2 bn.2
          have z : ∀ x : Int32, bd x → (jAbs (x - x)).toInt = 0 := fun x _ => by rw [Int32.sub_self]; decide
          have dN := dist_I bn.1 bn.2 bn.1 bn.2
          have q2 : ¬ jAbs (gx N - gx N) + jAbs (gy N - gy N) < (nR g gx gy (gx N) (gy N) N).1 := fun z => q ⟨hn, z⟩
          rw [i3, Int32.lt_iff_toInt_lt, dN, z _ bn.1, z _ bn.2] at q2
          have q3 : ¬ (0 + 0 : Int) < (jAbs (gx m - gx N) + jAbs (gy m - gy N)).toInt := q2
          exact ⟨by omega, by omega⟩
theorem mm_read {p d tl f r : Int32} {n : Nat} (hn : n < 360) (hS : sIs p d (nI n) tl f r = true) : ∃ m, m ≤ n ∧ gRD p d tl f r (sX p d (nI n) tl f r) (sY p d (nI n) tl f r) = nI m ∧ sIs p d (nI m) tl f r = true ∧ sX p d (nI m) tl f r = sX p d (nI n) tl f r ∧ sY p d (nI m) tl f r = sY p d (nI n) tl f r := by
  have hg : ∀ k, rG p d tl f r k = true → bd (rX p d tl f r k) ∧ bd (rY p d tl f r k) := fun k hk => sXY_bd hk
  have h := nR_own (g := rG p d tl f r) (gx := rX p d tl f r) (gy := rY p d tl f r) (n := n) hg hS 360 (Nat.le_refl _)
  rcases h with ⟨-, h2⟩ | ⟨m, h1, h2, h3, h4⟩
  · omega
  · obtain ⟨h5, h6⟩ := h4 hn
    have bm := hg m h2
    have bn := hg n hS
    have dI := dist_I bn.1 bn.2 bm.1 bm.2
    have d1 := jAbs_bd bm.1 bn.1
    have d2 := jAbs_bd bm.2 bn.2
    have z1 : (jAbs (rX p d tl f r m - rX p d tl f r n)).toInt = 0 := by omega
    have z2 : (jAbs (rY p d tl f r m - rY p d tl f r n)).toInt = 0 := by omega
    rw [gRD_u]
    exact ⟨m, h5, congrArg Prod.snd h3, h2, jAbs_0 bm.1 bn.1 z1, jAbs_0 bm.2 bn.2 z2⟩
theorem tell_own {p d t tl f r : Int32} (hS : sIs p d t tl f r = true) : gTell p tl f r p tl f d t = gRD p d tl f r (sX p d t tl f r) (sY p d t tl f r) := by
  unfold gTell gTold
  rw [if_pos hS]
theorem tell_none {p d t tl f r : Int32} (hS : sIs p d t tl f r = false) : gTell p tl f r p tl f d t = -1 := by
  unfold gTell gTold
  rw [if_neg (ne_f hS)]
theorem lit_of {p d t tl f r : Int32} (hS : sIs p d t tl f r = true) : gLit p d t = true := by
  unfold sIs gIs at hS
  exact (Bool.and_eq_true_iff.mp hS).1
theorem bd_nb {x : Int32} (h : bd x) : ¬ x = -99999999 := fun q => by
  rw [q] at h
  exact absurd h.1 (by decide)
theorem wL_bd {x : Int32} (h : bd x) : wL x.toInt64 = true := by
  rw [wL_I]
  have h2 : (-9999 : Int32).toInt = -9999 := by decide
  have h3 : (9999 : Int32).toInt = 9999 := by decide
  obtain ⟨h4, h5⟩ := h
  exact wI_of (by omega) (by omega)
/-! the latitudes that fit -/
theorem wF_sp {g : Nat → Bool} : ∀ n, n ≤ 133 → ∃ c, c ≤ n ∧ (wF g n).1 = nI c ∧ (∀ q, q < n → g q = true → 0 < c ∧ (∃ a, a ≤ q ∧ (wF g n).2.1 = nI a - 66) ∧ ∃ b, q ≤ b ∧ b < n ∧ (wF g n).2.2 = nI b - 66) ∧ (0 < c → ∃ q, q < n ∧ g q = true)
  | 0, _ => ⟨0, Nat.le_refl _, (show (0 : Int32) = nI 0 from by decide), fun q hq => absurd hq (Nat.not_lt_zero _), fun h => absurd h (Nat.lt_irrefl _)⟩
  | n + 1, hn => by
    obtain ⟨c, h1, h2, h3, h4⟩ := wF_sp (g := g) n (by omega)
    cases hg : g n with
    | false =>
      have e : wF g (n + 1) = wF g n := if_neg (fun q => by rw [hg] at q; cases q)
      rw [e]
      refine ⟨c, by omega, h2, fun q hq hgq => ?_, fun h => ?_⟩
      · rcases Nat.lt_or_ge q n with z | z
        · obtain ⟨k1, k2, b, k3, k4, k5⟩ := h3 q z hgq
          exact ⟨k1, k2, b, k3, by omega, k5⟩
        · rw [show q = n by omega, hg] at hgq; cases hgq
      · obtain ⟨q, k1, k2⟩ := h4 h
        exact ⟨q, by omega, k2⟩
    | true =>
      have e : wF g (n + 1) = ((wF g n).1 + 1, (if (wF g n).1 = 0 then nI n - 66 else (wF g n).2.1), nI n - 66) := if_pos hg
      rw [e]
      refine ⟨c + 1, by omega, ?_, fun q hq hgq => ⟨by omega, ?_, n, by omega, by omega, rfl⟩, fun _ => ⟨n, by omega, hg⟩⟩
      · show (wF g n).1 + 1 = nI (c + 1)
        rw [h2]; exact nI_1 c
      · show ∃ a, a ≤ q ∧ (if (wF g n).1 = 0 then nI n - 66 else (wF g n).2.1) = nI a - 66
        by_cases z : c = 0
        · have hz : (wF g n).1 = 0 := by rw [h2, z]; decide
          rw [if_pos hz]
          refine ⟨n, ?_, rfl⟩
          rcases Nat.lt_or_ge q n with y | y
          · have := (h3 q y hgq).1; omega
          · exact y
        · have hz : ¬ (wF g n).1 = 0 := fun y => by
            rw [h2] at y
            have y2 : (nI c).toInt = c := nI_toInt (by omega)
            rw [y, Int32.toInt_zero] at y2
            omega
          rw [if_neg hz]
          obtain ⟨q1, k1, k2⟩ := h4 (by omega)
          rcases Nat.lt_or_ge q n with y | y
          · obtain ⟨-, ⟨a, a1, a2⟩, -⟩ := h3 q y hgq
            exact ⟨a, a1, a2⟩
          · obtain ⟨-, ⟨a, a1, a2⟩, -⟩ := h3 q1 k1 k2
            exact ⟨a, by omega, a2⟩
theorem la_mono {a q : Nat} (h : a ≤ q) (hq : q < 133) : nI a - 66 ≤ nI q - 66 := by
  have e1 : (nI a).toInt = a := nI_toInt (by omega)
  have e2 : (nI q).toInt = q := nI_toInt (by omega)
  have e3 : (66 : Int32).toInt = 66 := by decide
  rw [Int32.le_iff_toInt_le, fb_subI (by omega) (by omega), fb_subI (by omega) (by omega)]
  omega
theorem mm_fit {g : Nat → Bool} {q : Nat} (hq : q < 133) (hg : g q = true) : ¬ (gFit g).1 ≤ 0 ∧ (gFit g).2.1 ≤ nI q - 66 ∧ nI q - 66 ≤ (gFit g).2.2 := by
  rw [gFit_u]
  obtain ⟨c, h1, h2, h3, -⟩ := wF_sp (g := g) 133 (Nat.le_refl _)
  obtain ⟨k1, ⟨a, a1, a2⟩, b, b1, b2, b3⟩ := h3 q hq hg
  refine ⟨fun z => ?_, by rw [a2]; exact la_mono a1 hq, by rw [b3]; exact la_mono b1 b2⟩
  rw [h2, Int32.le_iff_toInt_le, nI_toInt (by omega), Int32.toInt_zero] at z
  omega
theorem mm_all {g : Nat → Bool} (hg : ∀ q, g q = true) : (gFit g).1 = 133 := by
  rw [gFit_u]
  have h : ∀ n, n ≤ 133 → (wF g n).1 = nI n := by
    intro n
    induction n with
    | zero => intro _; exact (show (0 : Int32) = nI 0 from by decide)
    | succ n ih =>
      intro hn
      have e : wF g (n + 1) = ((wF g n).1 + 1, (if (wF g n).1 = 0 then nI n - 66 else (wF g n).2.1), nI n - 66) := if_pos (hg n)
      rw [e]
      show (wF g n).1 + 1 = _
      rw [ih (by omega)]; exact nI_1 n
  rw [h 133 (Nat.le_refl _)]; decide
