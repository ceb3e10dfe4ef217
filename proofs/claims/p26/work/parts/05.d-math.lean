/-- the first, the last plus one, of those below 360 that are so -/
def fR (f : Nat → Bool) : Nat → Nat → Int32
  | 0, _ => -1
  | n + 1, t => if f t then nI t else fR f n (t + 1)
def fS (f : Nat → Bool) : Nat → Int32
  | 0 => -1
  | n + 1 => if f n then nI (n + 1) else fS f n
def litN (p d : Int32) : Nat → Bool := fun n => gLit p d (nI n)
theorem kAll_ex (f : Nat → Bool) : ∃ c, c = kc f 360 := ⟨_, Eq.refl _⟩
theorem gRise_ex (p d : Int32) : ∃ c, c = fR (litN p d) 360 0 := ⟨_, Eq.refl _⟩
theorem gSet_ex (p d : Int32) : ∃ c, c = fS (litN p d) 360 := ⟨_, Eq.refl _⟩
noncomputable def gRise (p d : Int32) : Int32 := Classical.choose (gRise_ex p d)
noncomputable def gSet (p d : Int32) : Int32 := Classical.choose (gSet_ex p d)
noncomputable def kAll (f : Nat → Bool) : Nat := Classical.choose (kAll_ex f)
theorem gRise_u (p d : Int32) : gRise p d = fR (litN p d) 360 0 := Classical.choose_spec (gRise_ex p d)
theorem gSet_u (p d : Int32) : gSet p d = fS (litN p d) 360 := Classical.choose_spec (gSet_ex p d)
theorem kAll_u (f : Nat → Bool) : kAll f = kc f 360 := Classical.choose_spec (kAll_ex f)
theorem kAll_of {f : Nat → Bool} {c i : Nat} (h : c = kc f i) (q : i = 360) : c = kAll f := by rw [h, kAll_u, q]
theorem kAll_le (f : Nat → Bool) : kAll f ≤ 360 := by rw [kAll_u]; exact kc_le f 360
theorem trk_of {g : Nat → Bool} {gx gy T X Y : Nat → Int32} {i : Nat} (h : trk g gx gy T X Y i) (q : i = 360) : trk g gx gy T X Y 360 := q ▸ h
noncomputable def gBright (p d : Int32) : Int32 := nI (kAll (litN p d))
theorem fR_t {f : Nat → Bool} {i : Nat} (hi : i < 360) (h : f i = true) : fR f (360 - i) i = nI i := by
  rw [show 360 - i = (360 - (i + 1)) + 1 by omega]; show (if f i then nI i else _) = _; rw [if_pos h]
theorem fR_f {f : Nat → Bool} {i : Nat} (hi : i < 360) (h : f i = false) : fR f (360 - i) i = fR f (360 - (i + 1)) (i + 1) := by
  rw [show 360 - i = (360 - (i + 1)) + 1 by omega]; show (if f i then nI i else _) = _; rw [h]; rfl
theorem fS_t {f : Nat → Bool} {j : Nat} (h : f j = true) : fS f (j + 1) = nI (j + 1) := by show (if f j then _ else _) = _; rw [if_pos h]
theorem fS_f {f : Nat → Bool} {j : Nat} (h : f j = false) : fS f (j + 1) = fS f j := by show (if f j then _ else _) = _; rw [h]; rfl
theorem y_dec (x : Int32) : x + Int32.ofInt (-1) = x - 1 := by rw [Int32.sub_eq_add_neg]; rfl
theorem fR_in {f : Nat → Bool} : ∀ (n t k : Nat), t ≤ k → k < t + n → f k = true → ∃ a, t ≤ a ∧ a ≤ k ∧ fR f n t = nI a ∧ f a = true
  | 0, t, k, h1, h2, _ => absurd h2 (by omega)
  | n + 1, t, k, h1, h2, hk => by
    cases ht : f t with
    | true => exact ⟨t, Nat.le_refl _, h1, by show (if f t then nI t else _) = _; rw [if_pos ht], ht⟩
    | false =>
      have hne : t ≠ k := fun q => by rw [q, hk] at ht; cases ht
      obtain ⟨a, a1, a2, a3, a4⟩ := fR_in (f := f) n (t + 1) k (by omega) (by omega) hk
      exact ⟨a, by omega, a2, by show (if f t then nI t else fR f n (t + 1)) = _; rw [ht]; exact a3, a4⟩
theorem fS_in {f : Nat → Bool} : ∀ (n k : Nat), k < n → f k = true → ∃ b, k < b ∧ b ≤ n ∧ fS f n = nI b
  | 0, k, h, _ => absurd h (by omega)
  | n + 1, k, h, hk => by
    cases hn : f n with
    | true => exact ⟨n + 1, by omega, Nat.le_refl _, fS_t hn⟩
    | false =>
      have hne : n ≠ k := fun q => by rw [q, hk] at hn; cases hn
      obtain ⟨b, b1, b2, b3⟩ := fS_in (f := f) n k (by omega) hk
      exact ⟨b, b1, by omega, by rw [fS_f hn]; exact b3⟩
theorem fR_any (f : Nat → Bool) : ∀ (n t : Nat), fR f n t = -1 ∨ ∃ a, t ≤ a ∧ a < t + n ∧ fR f n t = nI a
  | 0, t => Or.inl rfl
  | n + 1, t => by
    cases ht : f t with
    | true => exact Or.inr ⟨t, Nat.le_refl _, by omega, by show (if f t then nI t else _) = _; rw [if_pos ht]⟩
    | false =>
      rcases fR_any f n (t + 1) with h | ⟨a, a1, a2, a3⟩
      · exact Or.inl (by show (if f t then nI t else fR f n (t + 1)) = _; rw [ht]; exact h)
      · exact Or.inr ⟨a, by omega, by omega, by show (if f t then nI t else fR f n (t + 1)) = _; rw [ht]; exact a3⟩
theorem fS_any (f : Nat → Bool) : ∀ n, fS f n = -1 ∨ ∃ b, 0 < b ∧ b ≤ n ∧ fS f n = nI b
  | 0 => Or.inl rfl
  | n + 1 => by
    cases hn : f n with
    | true => exact Or.inr ⟨n + 1, by omega, Nat.le_refl _, fS_t hn⟩
    | false =>
      rcases fS_any f n with h | ⟨b, b1, b2, b3⟩
      · exact Or.inl (by rw [fS_f hn]; exact h)
      · exact Or.inr ⟨b, b1, by omega, by rw [fS_f hn]; exact b3⟩
/-- hours -/
noncomputable def gUneq (p d t : Int32) : Int32 := if gLit p d t = true then 12 * (t - gRise p d) / (gSet p d - gRise p d) else -1
noncomputable def gFrom (p d t : Int32) : Int32 := if gLit p d t = true then t - gRise p d else -1
noncomputable def gFrs (p d t : Int32) : Int32 := if gSet p d = -1 then -1 else mRest (t - gSet p d + 360) 360
def gClk (mer d t sF sT : Int32) : Int32 := mRest (4 * t + gLate d - mer + (if wI d sF sT = true then 60 else 0)) 1440
theorem lit_span {p d t : Int32} {k : Nat} (hk : k < 360) (ht : t = nI k) (h : gLit p d t = true) : ∃ a b, a ≤ k ∧ k < b ∧ b ≤ 360 ∧ gRise p d = nI a ∧ gSet p d = nI b := by
  subst ht
  obtain ⟨a, -, a2, a3, -⟩ := fR_in (f := litN p d) 360 0 k (Nat.zero_le _) (by omega) h
  obtain ⟨b, b1, b2, b3⟩ := fS_in (f := litN p d) 360 k hk h
  exact ⟨a, b, a2, b1, b2, (gRise_u p d).trans a3, (gSet_u p d).trans b3⟩
theorem jFD_nn {x y : Int32} (hx : 0 ≤ x.toInt) (hy : 0 ≤ y.toInt) : jFD x y = x / y := by
  unfold jFD
  rw [if_neg]
  rintro ⟨h, -⟩
  rw [jxn x y hy, Int32.lt_iff_toInt_lt, Int32.toInt_zero] at h
  omega
theorem uneq_eq {p d t : Int32} {k : Nat} (hk : k < 360) (ht : t = nI k) (h : gLit p d t = true) : jFD (12 * (t - gRise p d)) (gSet p d - gRise p d) = gUneq p d t := by
  obtain ⟨a, b, h1, h2, h3, h4, h5⟩ := lit_span hk ht h
  unfold gUneq
  rw [if_pos h, h4, h5, ht, pk_sub h1, pk_sub (show a ≤ b by omega), show (12 : Int32) = nI 12 from by decide, pk_mul]
  exact jFD_nn (by rw [nI_toInt (by omega)]; omega) (by rw [nI_toInt (by omega)]; omega)
theorem uneq_span {p d t : Int32} {k : Nat} (hk : k < 360) (ht : t = nI k) (h : gLit p d t = true) : ¬ gSet p d - gRise p d ≤ 0 := by
  obtain ⟨a, b, h1, h2, h3, h4, h5⟩ := lit_span hk ht h
  rw [h4, h5, pk_sub (show a ≤ b by omega)]
  exact nI_nle (by omega) (by omega)
theorem uneq_no {p d t : Int32} (h : gLit p d t = false) : (-1 : Int32) = gUneq p d t := by unfold gUneq; rw [h]; rfl
theorem from_no {p d t : Int32} (h : gLit p d t = false) : (-1 : Int32) = gFrom p d t := by unfold gFrom; rw [h]; rfl
theorem from_yes {p d t : Int32} (h : gLit p d t = true) : t - gRise p d = gFrom p d t := by unfold gFrom; rw [if_pos h]
theorem clk_t {mer d t sF sT : Int32} (h : wI d sF sT = true) : jFM (4 * t + gLate d - mer + Int32.ofInt 60) 1440 = gClk mer d t sF sT := by
  rw [jFM_eq _ _ (by decide)]; unfold gClk; rw [if_pos h]; rfl
theorem clk_f {mer d t sF sT : Int32} (h : wI d sF sT = false) : jFM (4 * t + gLate d - mer) 1440 = gClk mer d t sF sT := by
  rw [jFM_eq _ _ (by decide)]; unfold gClk; rw [h]
  show mRest _ _ = mRest (_ + 0) _
  rw [Int32.add_zero]
theorem frs_yes {p d t : Int32} (h : ¬ gSet p d = -1) : jFM (t - gSet p d + 360) 360 = gFrs p d t := by
  rw [jFM_eq _ _ (by decide)]; unfold gFrs; rw [if_neg h]
/-- all of the first n -/
def aF (f : Nat → Bool) : Nat → Bool
  | 0 => true
  | n + 1 => aF f n && f n
theorem aF_f {f : Nat → Bool} {i : Nat} (h : f i = false) : ∀ n, i < n → aF f n = false
  | 0, q => absurd q (by omega)
  | n + 1, q => by
    show (aF f n && f n) = false
    rcases Nat.lt_or_ge i n with z | z
    · rw [aF_f h n z]; rfl
    · rw [show n = i by omega, h, Bool.and_false]
theorem aF_t {f : Nat → Bool} {i : Nat} (h : aF f i = true) (h2 : f i = true) : aF f (i + 1) = true := by show (aF f i && f i) = true; rw [h, h2]; rfl
/-- a find is met -/
def fM (p tl f r : Int32) (fd ft fx fy : Nat → Int32) (i : Nat) : Bool := sIs p (fd i) (ft i) tl f r && (decide (sX p (fd i) (ft i) tl f r = fx i) && decide (sY p (fd i) (ft i) tl f r = fy i))
