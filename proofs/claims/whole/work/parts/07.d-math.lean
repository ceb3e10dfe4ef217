/-! two equalities of answers -/
theorem co_sym : ∀ n, n < 360 → 1 ≤ n → gCos (nI n - 180) = gCos (nI (360 - n) - 180) := by decide +kernel
theorem co_mono : ∀ n, n < 180 → (gCos (nI n - 180)).toInt ≤ (gCos (nI (n + 1) - 180)).toInt := by decide +kernel
theorem co_lat : ∀ k, k < 133 → 0 ≤ (gCos (nI k - 66)).toInt := by decide +kernel
theorem co_day : ∀ k, k < 360 → 0 ≤ (gCos (gSl (nI k))).toInt := by decide +kernel
theorem lat_of {x : Int32} (h : wI x (-66) 66 = true) : ∃ k, k < 133 ∧ x = nI k - 66 := by
  have h1 := wI_d h
  have e1 : (-66 : Int32).toInt = -66 := by decide
  have e2 : (66 : Int32).toInt = 66 := by decide
  obtain ⟨k, hk, e⟩ := i_of (x := x + 66) (n := 133) (by rw [fb_addI (by omega) (by omega)]; omega) (by rw [fb_addI (by omega) (by omega)]; omega) (by decide)
  refine ⟨k, hk, ?_⟩
  rw [← e, Int32.add_sub_cancel]
theorem ab_mul {x y : Int} {a b : Nat} (h1 : x.natAbs ≤ a) (h2 : y.natAbs ≤ b) : (x * y).natAbs ≤ a * b := by rw [Int.natAbs_mul]; exact Nat.mul_le_mul h1 h2
theorem ab_bd {x : Int32} : (gSin x).toInt.natAbs ≤ 1000 := by
  have := gSin_bd x
  omega
theorem gUp_I {p d t : Int32} : (gUp p d t).toInt = 1000 * (gSin p).toInt * (gSin (gSl d)).toInt + (gCos p).toInt * ((gCos (gSl d)).toInt * (gCos (t - 180)).toInt) := by
  have b1 := ab_bd (x := p)
  have b2 := ab_bd (x := gSl d)
  have b3 : (gCos p).toInt.natAbs ≤ 1000 := ab_bd
  have b4 : (gCos (gSl d)).toInt.natAbs ≤ 1000 := ab_bd
  have b5 : (gCos (t - 180)).toInt.natAbs ≤ 1000 := ab_bd
  have c0 : (1000 : Int64).toInt = 1000 := by decide
  unfold gUp
  generalize gSin p = sp at *
  generalize gSin (gSl d) = se at *
  generalize gCos p = cp at *
  generalize gCos (gSl d) = ce at *
  generalize gCos (t - 180) = ch at *
  have s1 : sp.toInt64.toInt = sp.toInt := Int32.toInt_toInt64 _
  have s2 : se.toInt64.toInt = se.toInt := Int32.toInt_toInt64 _
  have s3 : cp.toInt64.toInt = cp.toInt := Int32.toInt_toInt64 _
  have s4 : ce.toInt64.toInt = ce.toInt := Int32.toInt_toInt64 _
  have s5 : ch.toInt64.toInt = ch.toInt := Int32.toInt_toInt64 _
  have h1 : (1000 * sp.toInt).natAbs ≤ 1000 * 1000 := ab_mul (by decide) b1
  have h2 : (1000 * sp.toInt * se.toInt).natAbs ≤ 1000 * 1000 * 1000 := ab_mul h1 b2
  have h3 : (ce.toInt * ch.toInt).natAbs ≤ 1000 * 1000 := ab_mul b4 b5
  have h4 : (cp.toInt * (ce.toInt * ch.toInt)).natAbs ≤ 1000 * (1000 * 1000) := ab_mul b3 h3
  have c1 : (1000 * sp.toInt64).toInt = 1000 * sp.toInt := by
    rw [fb_mulL (by rw [c0, s1]; omega) (by rw [c0, s1]; omega), c0, s1]
  have c2 : (1000 * sp.toInt64 * se.toInt64).toInt = 1000 * sp.toInt * se.toInt := by
    rw [fb_mulL (by rw [c1, s2]; omega) (by rw [c1, s2]; omega), c1, s2]
  have c3 : (ce.toInt64 * ch.toInt64).toInt = ce.toInt * ch.toInt := by
    rw [fb_mulL (by rw [s4, s5]; omega) (by rw [s4, s5]; omega), s4, s5]
  have c4 : (cp.toInt64 * (ce.toInt64 * ch.toInt64)).toInt = cp.toInt * (ce.toInt * ch.toInt) := by
    rw [fb_mulL (by rw [s3, c3]; omega) (by rw [s3, c3]; omega), s3, c3]
  rw [fb_addL (by rw [c2, c4]; omega) (by rw [c2, c4]; omega), c2, c4]
theorem lit_mono {p d : Int32} (hp : wI p (-66) 66 = true) (hd : wI d 0 359 = true) {n : Nat} (hn : n < 180) (h : litN p d n = true) : litN p d (n + 1) = true := by
  obtain ⟨k, hk, ek⟩ := lat_of hp
  obtain ⟨j, hj, ej⟩ := tick_of hd
  have a1 := co_lat k hk
  have a2 := co_day j hj
  have a3 := co_mono n hn
  rw [← ek] at a1
  rw [← ej] at a2
  unfold litN gLit at h ⊢
  rw [decide_eq_true_iff, Int64.lt_iff_toInt_lt, gUp_I] at h
  rw [decide_eq_true_iff, Int64.lt_iff_toInt_lt, gUp_I]
  have b1 := Int.mul_le_mul_of_nonneg_left a3 a2
  have b2 := Int.mul_le_mul_of_nonneg_left b1 a1
  omega
theorem lit_sym {p d : Int32} {n : Nat} (hn : n < 360) (h1 : 1 ≤ n) : litN p d n = litN p d (360 - n) := by
  have e : gUp p d (nI n) = gUp p d (nI (360 - n)) := by unfold gUp; rw [co_sym n hn h1]
  show decide (0 < gUp p d (nI n)) = decide (0 < gUp p d (nI (360 - n)))
  rw [e]
theorem fR_sp (f : Nat → Bool) : ∀ n t, (fR f n t = -1 ∧ ∀ m, t ≤ m → m < t + n → f m = false) ∨ (∃ a, t ≤ a ∧ a < t + n ∧ fR f n t = nI a ∧ f a = true ∧ ∀ m, t ≤ m → m < a → f m = false)
  | 0, t => Or.inl ⟨rfl, fun m h1 h2 => absurd h2 (by omega)⟩
  | n + 1, t => by
    have e : fR f (n + 1) t = if f t then nI t else fR f n (t + 1) := Eq.refl _
    cases ht : f t with
    | true => exact Or.inr ⟨t, Nat.le_refl _, by omega, by rw [e, if_pos ht], ht, fun m h1 h2 => absurd h2 (by omega)⟩
    | false =>
      have e2 : fR f (n + 1) t = fR f n (t + 1) := by rw [e, ht]; rfl
      rcases fR_sp f n (t + 1) with ⟨h1, h2⟩ | ⟨a, h1, h2, h3, h4, h5⟩
      · refine Or.inl ⟨e2.trans h1, fun m m1 m2 => ?_⟩
        rcases Nat.eq_or_lt_of_le m1 with q | q
        · rw [← q]; exact ht
        · exact h2 m q (by omega)
      · refine Or.inr ⟨a, by omega, by omega, e2.trans h3, h4, fun m m1 m2 => ?_⟩
        rcases Nat.eq_or_lt_of_le m1 with q | q
        · rw [← q]; exact ht
        · exact h5 m q m2
theorem kc_iv {f : Nat → Bool} {a b : Nat} : ∀ n, (∀ m, m < n → (f m = true ↔ a ≤ m ∧ m ≤ b)) → kc f n = min n (b + 1) - a
  | 0, _ => by show 0 = _; omega
  | n + 1, h => by
    have ih := kc_iv (f := f) (a := a) (b := b) n (fun m hm => h m (by omega))
    have h2 := h n (Nat.lt_succ_self n)
    cases hf : f n with
    | true =>
      have h3 := h2.mp hf
      rw [kc_yes hf, ih]; omega
    | false =>
      have h3 : ¬ (a ≤ n ∧ n ≤ b) := fun q => by rw [h2.mpr q] at hf; cases hf
      rw [kc_no hf, ih]; omega
theorem lit_up {f : Nat → Bool} (hM : ∀ n, n < 180 → f n = true → f (n + 1) = true) {a : Nat} (ha : f a = true) : ∀ k, a + k ≤ 180 → f (a + k) = true
  | 0, _ => ha
  | k + 1, h => hM (a + k) (by omega) (lit_up hM ha k (by omega))
theorem an_br {p d : Int32} (hp : wI p (-66) 66 = true) (hd : wI d 0 359 = true) : gAnew p d = gBright p d := by
  have hM : ∀ n, n < 180 → litN p d n = true → litN p d (n + 1) = true := fun n hn h => lit_mono hp hd hn h
  have hS : ∀ n, n < 360 → 1 ≤ n → litN p d n = litN p d (360 - n) := fun n hn h1 => lit_sym hn h1
  unfold gBright gAnew
  rw [kAll_u, gRise_u]
  generalize litN p d = f at hM hS ⊢
  rcases fR_sp f 360 0 with ⟨h1, h2⟩ | ⟨a, -, h2, h3, h4, h5⟩
  · rw [h1, if_pos rfl, kc_iv (f := f) (a := 1) (b := 0) 360 (fun m hm => ⟨fun q => absurd q (ne_f (h2 m (Nat.zero_le _) (by omega))), fun q => absurd q (by omega)⟩)]
    rfl
  · have ha : a ≤ 180 := by
      rcases Nat.lt_or_ge 180 a with q | q
      · have h6 := h5 (360 - a) (Nat.zero_le _) (by omega)
        rw [← hS a (by omega) (by omega), h4] at h6; cases h6
      · exact q
    have hup : ∀ m, a ≤ m → m ≤ 180 → f m = true := fun m m1 m2 => by
      have := lit_up hM h4 (m - a) (by omega)
      rw [show a + (m - a) = m by omega] at this; exact this
    have hiv : ∀ m, m < 360 → (f m = true ↔ a ≤ m ∧ m ≤ 360 - a) := by
      intro m hm
      constructor
      · intro q
        refine ⟨?_, ?_⟩
        · rcases Nat.lt_or_ge m a with z | z
          · rw [h5 m (Nat.zero_le _) z] at q; cases q
          · exact z
        · rcases Nat.lt_or_ge (360 - a) m with z | z
          · rw [hS m hm (by omega), h5 (360 - m) (Nat.zero_le _) (by omega)] at q; cases q
          · exact z
      · rintro ⟨m1, m2⟩
        rcases Nat.lt_or_ge 180 m with z | z
        · rw [hS m hm (by omega)]; exact hup (360 - m) (by omega) (by omega)
        · exact hup m m1 z
    rw [h3, kc_iv 360 hiv, if_neg (fun q => by
      have h6 : (nI a).toInt = a := nI_toInt (by omega)
      rw [q] at h6
      have h7 : (-1 : Int32).toInt = -1 := by decide
      omega), show (360 : Int32) = nI 360 from by decide, pk_sub (show a ≤ 360 by omega), show (359 : Int32) = nI 359 from by decide]
    unfold jMin
    rcases Nat.eq_zero_or_pos a with q | q
    · subst q; decide
    · rw [if_neg (nI_nlt (show 360 - a ≤ 359 by omega) (by omega)), pk_sub (show a ≤ 360 - a by omega), nI_1]
      congr 1
      omega
/-! the best tilt -/
theorem sE_bd {co : Nat → Int32} {a : Int32} (hc : ∀ i, i < 24 → 0 ≤ (co i).toInt ∧ (co i).toInt ≤ 360) (ha : 0 ≤ a.toInt ∧ a.toInt ≤ 100000) : ∀ i, i ≤ 24 → a.toInt ≤ (sE co i a).toInt ∧ (sE co i a).toInt ≤ a.toInt + 360 * i
  | 0, _ => ⟨Int.le_refl _, by show a.toInt ≤ _; omega⟩
  | i + 1, h => by
    have ih := sE_bd hc ha i (by omega)
    have h1 := hc i (by omega)
    have e : (sE co (i + 1) a).toInt = (sE co i a).toInt + (co i).toInt := by
      show (sE co i a + co i).toInt = _
      rw [fb_addI (by omega) (by omega)]
    rw [e]
    omega
theorem sE_mono {co : Nat → Int32} {a : Int32} (hc : ∀ i, i < 24 → 0 ≤ (co i).toInt ∧ (co i).toInt ≤ 360) (ha : 0 ≤ a.toInt ∧ a.toInt ≤ 100000) {i : Nat} : ∀ n, i + n ≤ 24 → (sE co i a).toInt ≤ (sE co (i + n) a).toInt
  | 0, _ => Int.le_refl _
  | n + 1, h => by
    have ih := sE_mono hc ha (i := i) n (by omega)
    have h1 := hc (i + n) (by omega)
    have h2 := sE_bd hc ha (i + n) (by omega)
    have e : (sE co (i + (n + 1)) a).toInt = (sE co (i + n) a).toInt + (co (i + n)).toInt := by
      show (sE co (i + n) a + co (i + n)).toInt = _
      rw [fb_addI (by omega) (by omega)]
    rw [e]; omega
theorem eI_sp {co : Nat → Int32} {a en : Int32} (hc : ∀ i, i < 24 → 0 ≤ (co i).toInt ∧ (co i).toInt ≤ 360) (ha : 0 ≤ a.toInt ∧ a.toInt ≤ 100000) : ∀ n i, i + n ≤ 24 → (sE co (i + n) a < en → eIn en co n i (sE co i a) = sE co (i + n) a) ∧ (en ≤ sE co (i + n) a → en ≤ eIn en co n i (sE co i a))
  | 0, i, _ => ⟨fun _ => rfl, fun h => h⟩
  | n + 1, i, h => by
    have e : eIn en co (n + 1) i (sE co i a) = if en ≤ sE co i a then sE co i a else eIn en co n (i + 1) (sE co (i + 1) a) := Eq.refl _
    rw [e]
    have hm := sE_mono hc ha (i := i) (n + 1) h
    by_cases q : en ≤ sE co i a
    · rw [if_pos q]
      refine ⟨fun z => ?_, fun _ => q⟩
      rw [Int32.le_iff_toInt_le] at q
      rw [Int32.lt_iff_toInt_lt] at z
      omega
    · rw [if_neg q]
      have ih := eI_sp hc ha (en := en) n (i + 1) (by omega)
      rw [show i + 1 + n = i + (n + 1) by omega] at ih
      exact ih
theorem eI_day {co : Nat → Int32} {T e en : Int32} (hc : ∀ i, i < 24 → 0 ≤ (co i).toInt ∧ (co i).toInt ≤ 360) (hT : 0 ≤ T.toInt ∧ T.toInt ≤ 100000) (h : (T < en → e = T) ∧ (en ≤ T → en ≤ e)) : (sE co 24 T < en → eIn en co 24 0 e = sE co 24 T) ∧ (en ≤ sE co 24 T → en ≤ eIn en co 24 0 e) := by
  by_cases q : T < en
  · rw [h.1 q]
    exact eI_sp hc hT 24 0 (by omega)
  · have q2 : en ≤ T := Int32.not_lt.mp q
    have q3 := h.2 q2
    have e1 : eIn en co 24 0 e = e := by
      have e2 : eIn en co 24 0 e = if en ≤ e then e else eIn en co 23 1 (e + co 0) := Eq.refl _
      rw [e2, if_pos q3]
    have hb := sE_bd hc hT 24 (Nat.le_refl _)
    rw [e1]
    refine ⟨fun z => ?_, fun _ => q3⟩
    rw [Int32.le_iff_toInt_le] at q2
    rw [Int32.lt_iff_toInt_lt] at z
    omega
theorem nR_rng (g : Nat → Bool) (gx gy : Nat → Int32) (x y : Int32) : ∀ n, (nR g gx gy x y n).2 = -1 ∨ ∃ k, k < n ∧ (nR g gx gy x y n).2 = nI k
  | 0 => Or.inl rfl
  | n + 1 => by
    have e : nR g gx gy x y (n + 1) = if g n = true ∧ jAbs (gx n - x) + jAbs (gy n - y) < (nR g gx gy x y n).1 then (jAbs (gx n - x) + jAbs (gy n - y), nI n) else nR g gx gy x y n := Eq.refl _
    rw [e]
    split
    · exact Or.inr ⟨n, Nat.lt_succ_self n, rfl⟩
    · rcases nR_rng g gx gy x y n with h | ⟨k, h1, h2⟩
      · exact Or.inl h
      · exact Or.inr ⟨k, by omega, h2⟩
theorem cE_bd {w : Int32} {j : Nat} {u : Bool} (hj : j < 360) (hw : w = -1 ∨ ∃ k, k < 360 ∧ w = nI k) : 0 ≤ (cE w (nI j) u).toInt ∧ (cE w (nI j) u).toInt ≤ 360 := by
  unfold cE
  by_cases q : w = -1
  · rw [if_pos q]
    cases u <;> decide
  · rw [if_neg q]
    rcases hw with h | ⟨k, hk, rfl⟩
    · exact absurd h q
    · have e : (nI k - nI j).toInt = (k : Int) - j := pk_sub_toInt (by omega) (by omega)
      unfold jAbs
      by_cases z : 0 ≤ nI k - nI j
      · rw [if_pos z]
        rw [Int32.le_iff_toInt_le, Int32.toInt_zero] at z
        omega
      · rw [if_neg z, fb_negI (by omega)]
        rw [Int32.le_iff_toInt_le, Int32.toInt_zero] at z
        omega
theorem told_rng {g : Bool} {v : Int32} (h : v = -1 ∨ ∃ k, k < 360 ∧ v = nI k) : gTold g v = -1 ∨ ∃ k, k < 360 ∧ gTold g v = nI k := by
  cases g with
  | false => exact Or.inl rfl
  | true => exact h
theorem gC_bd {p tl f ro pm tm fm d : Int32} {i : Nat} (hi : i < 24) : 0 ≤ (gC p tl f ro pm tm fm d i).toInt ∧ (gC p tl f ro pm tm fm d i).toInt ≤ 360 := by
  unfold gC
  exact cE_bd (show 15 * i < 360 by omega) (told_rng (by rw [gRD_u]; exact nR_rng _ _ _ _ _ 360))
noncomputable def gTo (p f ro pm tm fm : Int32) (q : Nat) : Int32 := sE (gC p (nI q) f ro pm tm fm 270) 24 (sE (gC p (nI q) f ro pm tm fm 90) 24 (sE (gC p (nI q) f ro pm tm fm 0) 24 0))
theorem gEr_sp {p f ro pm tm fm en : Int32} {q : Nat} : (gTo p f ro pm tm fm q < en → gEr p f ro pm tm fm en q = gTo p f ro pm tm fm q) ∧ (en ≤ gTo p f ro pm tm fm q → en ≤ gEr p f ro pm tm fm en q) := by
  rw [gEr_u]
  unfold gTo
  have hc : ∀ d i, i < 24 → 0 ≤ (gC p (nI q) f ro pm tm fm d i).toInt ∧ (gC p (nI q) f ro pm tm fm d i).toInt ≤ 360 := fun d i hi => gC_bd hi
  have h00 : 0 ≤ (0 : Int32).toInt ∧ (0 : Int32).toInt ≤ 100000 := by decide
  have z0 : (0 : Int32).toInt = 0 := by decide
  have b0 := sE_bd (hc 0) h00 24 (Nat.le_refl _)
  have h1 := eI_day (en := en) (e := 0) (hc 0) h00 ⟨fun _ => rfl, fun h => h⟩
  generalize sE (gC p (nI q) f ro pm tm fm 0) 24 0 = T0 at b0 h1 ⊢
  generalize eIn en (gC p (nI q) f ro pm tm fm 0) 24 0 0 = e0 at h1 ⊢
  have h20 : 0 ≤ T0.toInt ∧ T0.toInt ≤ 100000 := by omega
  have b1 := sE_bd (hc 90) h20 24 (Nat.le_refl _)
  have h2 := eI_day (en := en) (hc 90) h20 h1
  generalize sE (gC p (nI q) f ro pm tm fm 90) 24 T0 = T1 at b1 h2 ⊢
  generalize eIn en (gC p (nI q) f ro pm tm fm 90) 24 0 e0 = e1 at h2 ⊢
  have h30 : 0 ≤ T1.toInt ∧ T1.toInt ≤ 100000 := by omega
  exact eI_day (en := en) (hc 270) h30 h2
theorem gTo_bd {p f ro pm tm fm : Int32} {q : Nat} : gTo p f ro pm tm fm q < 1000000 := by
  unfold gTo
  have hc : ∀ d i, i < 24 → 0 ≤ (gC p (nI q) f ro pm tm fm d i).toInt ∧ (gC p (nI q) f ro pm tm fm d i).toInt ≤ 360 := fun d i hi => gC_bd hi
  have h00 : 0 ≤ (0 : Int32).toInt ∧ (0 : Int32).toInt ≤ 100000 := by decide
  have z0 : (0 : Int32).toInt = 0 := by decide
  have b0 := sE_bd (hc 0) h00 24 (Nat.le_refl _)
  generalize sE (gC p (nI q) f ro pm tm fm 0) 24 0 = T0 at b0 ⊢
  have b1 := sE_bd (hc 90) (a := T0) (by omega) 24 (Nat.le_refl _)
  generalize sE (gC p (nI q) f ro pm tm fm 90) 24 T0 = T1 at b1 ⊢
  have b2 := sE_bd (hc 270) (a := T1) (by omega) 24 (Nat.le_refl _)
  rw [Int32.lt_iff_toInt_lt]
  have z1 : (1000000 : Int32).toInt = 1000000 := by decide
  omega
theorem wB_bM {er : Int32 → Nat → Int32} {T : Nat → Int32} (h : ∀ en q, (T q < en → er en q = T q) ∧ (en ≤ T q → en ≤ er en q)) (hT : ∀ q, T q < 1000000) : ∀ n, wB er (n + 1) = (T (bM T (n + 1)), nI (bM T (n + 1)))
  | 0 => by
    have e : wB er 1 = if er 1000000 0 < 1000000 then (er 1000000 0, nI 0) else (1000000, 0) := Eq.refl _
    have e2 : bM T 1 = 0 := by
      show (if T 0 < T 0 then 0 else 0) = 0
      exact ite_self _
    rw [e, e2, (h 1000000 0).1 (hT 0), if_pos (hT 0)]
  | n + 1 => by
    have ih := wB_bM h hT n
    have e : wB er (n + 1 + 1) = if er (wB er (n + 1)).1 (n + 1) < (wB er (n + 1)).1 then (er (wB er (n + 1)).1 (n + 1), nI (n + 1)) else wB er (n + 1) := Eq.refl _
    have e2 : bM T (n + 1 + 1) = if T (n + 1) < T (bM T (n + 1)) then n + 1 else bM T (n + 1) := Eq.refl _
    rw [e, e2, ih]
    by_cases q : T (n + 1) < T (bM T (n + 1))
    · have q2 := (h (T (bM T (n + 1))) (n + 1)).1 q
      rw [if_pos q]
      show (if er (T (bM T (n + 1))) (n + 1) < T (bM T (n + 1)) then _ else _) = _
      rw [q2, if_pos q]
    · have q2 := (h (T (bM T (n + 1))) (n + 1)).2 (Int32.not_lt.mp q)
      rw [if_neg q]
      show (if er (T (bM T (n + 1))) (n + 1) < T (bM T (n + 1)) then _ else _) = _
      rw [if_neg (Int32.not_lt.mpr q2)]
theorem bM_congr {F G : Nat → Int32} (h : ∀ q, q < 91 → F q = G q) : ∀ n, n ≤ 91 → bM F n = bM G n
  | 0, _ => rfl
  | n + 1, hn => by
    have ih := bM_congr h n (by omega)
    show (if F n < F (bM F n) then n else bM F n) = (if G n < G (bM G n) then n else bM G n)
    rw [h n (by omega), h (bM F n) (bM_lt F n (by omega)), ih]
theorem gFa_at {p f ro pm tm fm : Int32} {F : Nat → Int32} {q : Nat} (hq : q < 91) : gFa p f ro pm tm fm F q = gTo p f ro pm tm fm q := by
  unfold gFa gTo fN
  rw [if_pos hq, if_pos hq, if_pos hq]
  unfold zN
  rw [if_pos hq]
  exact Eq.refl _
theorem bst_mb {p f ro pm tm fm : Int32} {F : Nat → Int32} : (gBst (gEr p f ro pm tm fm)).2 = nI (gMb p f ro pm tm fm F) := by
  rw [gBst_u, gMb_u, wB_bM (er := gEr p f ro pm tm fm) (T := gTo p f ro pm tm fm) (fun en q => gEr_sp) (fun q => gTo_bd) 90, bM_congr (F := gFa p f ro pm tm fm F) (G := gTo p f ro pm tm fm) (fun q hq => gFa_at hq) 91 (Nat.le_refl _)]
theorem kf_lt {v : Bool} {c : Nat} (h : kO v 1 (if c < 6 then 0 else 2) = 0) : c < 6 := by
  by_cases q : c < 6
  · exact q
  · rw [if_neg q] at h
    exact absurd h (kO_ne (by decide) (by decide))
