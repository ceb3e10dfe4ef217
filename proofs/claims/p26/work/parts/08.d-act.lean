def isBad (r : Int64) : Prop := r = -99999999 ∨ r = -9000000000000000
theorem nb_of {v : Int32} (h : 0 ≤ v.toInt) : ¬ isBad v.toInt64 := by
  intro q
  have e : v.toInt64.toInt = v.toInt := Int32.toInt_toInt64 v
  have e1 : (-99999999 : Int64).toInt = -99999999 := by decide
  have e2 : (-9000000000000000 : Int64).toInt = -9000000000000000 := by decide
  rcases q with q | q
  · rw [q] at e; omega
  · rw [q] at e; omega
theorem bA_bad {c : Bool} {v : Int32} (h : c = true → 0 ≤ v.toInt) (hb : isBad (bA c v).toInt64) : c = false := by
  apply bf_t
  intro hc
  rw [← bA_t hc] at hb
  exact nb_of (h hc) hb
theorem nI_nn {n : Nat} (h : n ≤ 100) : 0 ≤ (nI n).toInt := by rw [nI_toInt (by omega)]; omega
theorem cents_nn {p d t tl f ro p2 d2 t2 tl2 f2 r2 : Int32} (h : sIs p d t tl f ro = true) (h2 : sIs p2 d2 t2 tl2 f2 r2 = true) : 0 ≤ (gCents (sX p d t tl f ro) (sY p d t tl f ro) (sX p2 d2 t2 tl2 f2 r2) (sY p2 d2 t2 tl2 f2 r2)).toInt := by
  have b1 := sXY_bd h
  have b2 := sXY_bd h2
  have k1 := jAbs_bd b1.1 b2.1
  have k2 := jAbs_bd b1.2 b2.2
  have dI := dist_I b2.1 b2.2 b1.1 b1.2
  have e3 : (3 : Int32).toInt = 3 := by decide
  have e5 : (50 : Int32).toInt = 50 := by decide
  unfold gCents
  have hm : (3 * (jAbs (sX p d t tl f ro - sX p2 d2 t2 tl2 f2 r2) + jAbs (sY p d t tl f ro - sY p2 d2 t2 tl2 f2 r2))).toInt = 3 * (jAbs (sX p d t tl f ro - sX p2 d2 t2 tl2 f2 r2) + jAbs (sY p d t tl f ro - sY p2 d2 t2 tl2 f2 r2)).toInt := by
    rw [fb_mulI (by rw [e3]; omega) (by rw [e3]; omega), e3]
  rw [fb_addI (by omega) (by omega)]
  omega
set_option maxHeartbeats 4000000 in
set_option maxRecDepth 100000 in
theorem bd_place {σ : QS} {la me : Int32} (hb : isBad (aPlace σ la me).toInt64) : nPlace σ la me = σ :=
  cB_f (bA_bad (c := (wI la (-66) 66 && wI me (-720) 720) && decide (σ.1 < 8)) (v := nI σ.1) (fun hc => nI_nn (by have := of_decide_eq_true (Bool.and_eq_true_iff.mp hc).2; omega)) hb)
set_option maxHeartbeats 4000000 in
set_option maxRecDepth 100000 in
theorem bd_find {σ : QS} {d t x y : Int32} (hb : isBad (aFind σ d t x y).toInt64) : nFind σ d t x y = σ :=
  cB_f (bA_bad (c := (wI d 0 359 && (wI t 0 359 && (wL x.toInt64 && wL y.toInt64))) && decide (σ.2.2.1 < 6)) (v := nI (σ.2.2.1 + 1)) (fun hc => nI_nn (by have := of_decide_eq_true (Bool.and_eq_true_iff.mp hc).2; omega)) hb)
theorem bd_summer {σ : QS} {d e : Int32} (hb : isBad (aSummer σ d e).toInt64) : nSummer σ d e = σ := cB_f (bA_bad (fun _ => by decide) hb)
set_option maxHeartbeats 4000000 in
set_option maxRecDepth 100000 in
theorem bd_dial {σ : QS} {n ti fa ro : Int32} (h8 : σ.1 ≤ 8) (hb : isBad (aDial σ n ti fa ro).toInt64) : nDial σ n ti fa ro = σ := by
  by_cases hn : 0 ≤ n.toInt ∧ n.toInt < σ.1
  · obtain ⟨j, hj, rfl⟩ := i_of hn.1 hn.2 (by omega)
    have ea : aDial σ (nI j) ti fa ro = bA ((wI ti 0 90 && (wI fa (-180) 180 && wI ro 1 500)) && decide (σ.2.1 < 10)) (nI σ.2.1) := atN_y hj (by omega)
    rw [ea] at hb
    exact (atS_y hj (by omega)).trans (cB_f (bA_bad (fun hc => nI_nn (by have := of_decide_eq_true (Bool.and_eq_true_iff.mp hc).2; omega)) hb))
  · exact atS_n hn
set_option maxHeartbeats 4000000 in
set_option maxRecDepth 100000 in
theorem bd_stand {σ : QS} {n n2 ti fa : Int32} (h8 : σ.1 ≤ 8) (h10 : σ.2.1 ≤ 10) (hs : ∀ i, i < σ.2.1 → σ.2.2.2.2.2.2.2.2.2.2.2.2.2.2.2.1 i < σ.1) (hb : isBad (aStand σ n n2 ti fa).toInt64) : nStand σ n n2 ti fa = σ := by
  by_cases hn : 0 ≤ n.toInt ∧ n.toInt < σ.2.1
  · obtain ⟨j, hj, rfl⟩ := i_of hn.1 hn.2 (by omega)
    refine (atS_y hj (by omega)).trans ?_
    by_cases hn2 : 0 ≤ n2.toInt ∧ n2.toInt < σ.1
    · obtain ⟨j2, hj2, rfl⟩ := i_of hn2.1 hn2.2 (by omega)
      have ea : aStand σ (nI j) (nI j2) ti fa = bA ((wI ti 0 90 && wI fa (-180) 180)) (nI (σ.2.2.2.2.2.2.2.2.2.2.2.2.2.2.2.1 j)) := (atN_y hj (by omega)).trans (atN_y (f := fun j2 => bA ((wI ti 0 90 && wI fa (-180) 180)) (nI (σ.2.2.2.2.2.2.2.2.2.2.2.2.2.2.2.1 j))) hj2 (by omega))
      rw [ea] at hb
      exact (atS_y hj2 (by omega)).trans (cB_f (bA_bad (fun hc => nI_nn (by have := hs j hj; omega)) hb))
    · exact atS_n hn2
  · exact atS_n hn
set_option maxHeartbeats 4000000 in
set_option maxRecDepth 100000 in
theorem bd_cut {σ : QS} {n hh s : Int32} (h10 : σ.2.1 ≤ 10) (hb : isBad (aCut σ n hh s).toInt64) : nCut σ n hh s = σ := by
  by_cases hn : 0 ≤ n.toInt ∧ n.toInt < σ.2.1
  · obtain ⟨j, hj, rfl⟩ := i_of hn.1 hn.2 (by omega)
    refine (atS_y hj (by omega)).trans ?_
    by_cases hn2 : 0 ≤ hh.toInt ∧ hh.toInt < (24 : Nat)
    · obtain ⟨ho, hho, rfl⟩ := i_of hn2.1 hn2.2 (by omega)
      have ea : aCut σ (nI j) (nI ho) s = bA ((wI (nI ho) 1 23 && wI s (-50) 50) && (decide ((σ.2.2.2.2.2.2.2.2.2.2.2.2.2.2.2.2.1 j) ho = 0) && (sIs (σ.2.2.2.2.2.2.1 (σ.2.2.2.2.2.2.2.2.2.2.2.2.2.2.1 j)) 90 (15 * nI ho) (σ.2.2.2.2.2.2.2.2.2.1 j) (σ.2.2.2.2.2.2.2.2.2.2.1 j) (σ.2.2.2.2.2.2.2.2.1 j) && sIs (σ.2.2.2.2.2.2.1 (σ.2.2.2.2.2.2.2.2.2.2.2.2.2.2.1 j)) 270 (15 * nI ho) (σ.2.2.2.2.2.2.2.2.2.1 j) (σ.2.2.2.2.2.2.2.2.2.2.1 j) (σ.2.2.2.2.2.2.2.2.1 j)))) (gCents (sX (σ.2.2.2.2.2.2.1 (σ.2.2.2.2.2.2.2.2.2.2.2.2.2.2.1 j)) 90 (15 * nI ho) (σ.2.2.2.2.2.2.2.2.2.1 j) (σ.2.2.2.2.2.2.2.2.2.2.1 j) (σ.2.2.2.2.2.2.2.2.1 j)) (sY (σ.2.2.2.2.2.2.1 (σ.2.2.2.2.2.2.2.2.2.2.2.2.2.2.1 j)) 90 (15 * nI ho) (σ.2.2.2.2.2.2.2.2.2.1 j) (σ.2.2.2.2.2.2.2.2.2.2.1 j) (σ.2.2.2.2.2.2.2.2.1 j)) (sX (σ.2.2.2.2.2.2.1 (σ.2.2.2.2.2.2.2.2.2.2.2.2.2.2.1 j)) 270 (15 * nI ho) (σ.2.2.2.2.2.2.2.2.2.1 j) (σ.2.2.2.2.2.2.2.2.2.2.1 j) (σ.2.2.2.2.2.2.2.2.1 j)) (sY (σ.2.2.2.2.2.2.1 (σ.2.2.2.2.2.2.2.2.2.2.2.2.2.2.1 j)) 270 (15 * nI ho) (σ.2.2.2.2.2.2.2.2.2.1 j) (σ.2.2.2.2.2.2.2.2.2.2.1 j) (σ.2.2.2.2.2.2.2.2.1 j))) := (atN_y hj (by omega)).trans (atN_y (f := fun ho => bA ((wI (nI ho) 1 23 && wI s (-50) 50) && (decide ((σ.2.2.2.2.2.2.2.2.2.2.2.2.2.2.2.2.1 j) ho = 0) && (sIs (σ.2.2.2.2.2.2.1 (σ.2.2.2.2.2.2.2.2.2.2.2.2.2.2.1 j)) 90 (15 * nI ho) (σ.2.2.2.2.2.2.2.2.2.1 j) (σ.2.2.2.2.2.2.2.2.2.2.1 j) (σ.2.2.2.2.2.2.2.2.1 j) && sIs (σ.2.2.2.2.2.2.1 (σ.2.2.2.2.2.2.2.2.2.2.2.2.2.2.1 j)) 270 (15 * nI ho) (σ.2.2.2.2.2.2.2.2.2.1 j) (σ.2.2.2.2.2.2.2.2.2.2.1 j) (σ.2.2.2.2.2.2.2.2.1 j)))) (gCents (sX (σ.2.2.2.2.2.2.1 (σ.2.2.2.2.2.2.2.2.2.2.2.2.2.2.1 j)) 90 (15 * nI ho) (σ.2.2.2.2.2.2.2.2.2.1 j) (σ.2.2.2.2.2.2.2.2.2.2.1 j) (σ.2.2.2.2.2.2.2.2.1 j)) (sY (σ.2.2.2.2.2.2.1 (σ.2.2.2.2.2.2.2.2.2.2.2.2.2.2.1 j)) 90 (15 * nI ho) (σ.2.2.2.2.2.2.2.2.2.1 j) (σ.2.2.2.2.2.2.2.2.2.2.1 j) (σ.2.2.2.2.2.2.2.2.1 j)) (sX (σ.2.2.2.2.2.2.1 (σ.2.2.2.2.2.2.2.2.2.2.2.2.2.2.1 j)) 270 (15 * nI ho) (σ.2.2.2.2.2.2.2.2.2.1 j) (σ.2.2.2.2.2.2.2.2.2.2.1 j) (σ.2.2.2.2.2.2.2.2.1 j)) (sY (σ.2.2.2.2.2.2.1 (σ.2.2.2.2.2.2.2.2.2.2.2.2.2.2.1 j)) 270 (15 * nI ho) (σ.2.2.2.2.2.2.2.2.2.1 j) (σ.2.2.2.2.2.2.2.2.2.2.1 j) (σ.2.2.2.2.2.2.2.2.1 j)))) hho (by omega))
      rw [ea] at hb
      exact (atS_y hho (by omega)).trans (cB_f (bA_bad (fun hc => (by
        have h2 := Bool.and_eq_true_iff.mp (Bool.and_eq_true_iff.mp (Bool.and_eq_true_iff.mp hc).2).2
        exact cents_nn h2.1 h2.2)) hb))
    · exact atS_n hn2
  · exact atS_n hn
set_option maxHeartbeats 4000000 in
set_option maxRecDepth 100000 in
theorem q_act1 (v : Int32) (ho : qLow (v >>> (26 &&& 31)) 14 = 0) (k : Nat) (hk : k < 46) (ek : qLow v 46 = nI k) : ∃ f : QS → Int64 × QS, (∀ (ty : Nat → ClassId) (yd : Nat) (σ : QS) (X : va_W), qY ty yd σ X → isBad (f σ).1 → (f σ).2 = σ) ∧ ∀ {l : Launch} {D : va_G} {ty : Nat → ClassId} {base sz : Nat} (hl9 : l.stackTraces = false) {yd : Nat} {σ : QS} {X : va_W} (hq : qY ty yd σ X), Met l yL_act [.code yL_act cL_act 10 (some (.long))] rmA (yPc D ty base sz X [.ref yd, .int v]) (va_Ql (fun r X' => r = (f σ).1 ∧ qY ty yd (f σ).2 X') (yB D (va_A X sz) (fun X' : va_W => X')) (va_A X sz)) rmA.cells rmA.slots (va_A X sz) := by
  match k, hk with
  | 0, _ => exact ⟨fun σ => ((aSine σ v).toInt64, σ), fun _ _ _ _ _ _ => rfl, fun hl9 _ _ _ hq => ac_0_1 hl9 hq ho (ek.trans (by decide))⟩
  | 1, _ => exact ⟨fun σ => ((aDay σ (v >>> ((5 : Int32) &&& 31)) (((qLow (v >>> ((11 : Int32) &&& 31)) 8) - (1 : Int32)) - ((qLow (v >>> ((11 : Int32) &&& 31)) 8) - (1 : Int32)) / (2 : Int32) * (2 : Int32))).toInt64, σ), fun _ _ _ _ _ _ => rfl, fun hl9 _ _ _ hq => ac_1_1 hl9 hq ho (ek.trans (by decide))⟩
  | 2, _ => exact ⟨fun σ => ((aSun σ (v >>> ((3 : Int32) &&& 31)) (v >>> ((5 : Int32) &&& 31)) (v >>> ((8 : Int32) &&& 31)) ((qLow (v >>> ((11 : Int32) &&& 31)) 8) - (1 : Int32))), σ), fun _ _ _ _ _ _ => rfl, fun hl9 _ _ _ hq => ac_2_1 hl9 hq ho (ek.trans (by decide))⟩
  | 3, _ => exact ⟨fun σ => ((aSun σ (v >>> ((3 : Int32) &&& 31)) (v >>> ((5 : Int32) &&& 31)) (v >>> ((8 : Int32) &&& 31)) ((qLow (v >>> ((11 : Int32) &&& 31)) 8) - (1 : Int32))), σ), fun _ _ _ _ _ _ => rfl, fun hl9 _ _ _ hq => ac_3_1 hl9 hq ho (ek.trans (by decide))⟩
  | 4, _ => exact ⟨fun σ => ((aPlace σ (v >>> ((3 : Int32) &&& 31)) (v >>> ((4 : Int32) &&& 31))).toInt64, (nPlace σ (v >>> ((3 : Int32) &&& 31)) (v >>> ((4 : Int32) &&& 31)))), fun _ _ σ _ hq hb => bd_place hb, fun hl9 _ _ _ hq => ac_4_1 hl9 hq ho (ek.trans (by decide))⟩
  | 5, _ => exact ⟨fun σ => ((aPlace σ (v >>> ((3 : Int32) &&& 31)) (v >>> ((4 : Int32) &&& 31))).toInt64, (nPlace σ (v >>> ((3 : Int32) &&& 31)) (v >>> ((4 : Int32) &&& 31)))), fun _ _ σ _ hq hb => bd_place hb, fun hl9 _ _ _ hq => ac_5_1 hl9 hq ho (ek.trans (by decide))⟩
  | 6, _ => exact ⟨fun σ => ((aLight σ ((qLow (v >>> ((4 : Int32) &&& 31)) 11) - (2 : Int32)) (v >>> ((5 : Int32) &&& 31)) ((qLow (v >>> ((11 : Int32) &&& 31)) 8) - (1 : Int32))).toInt64, σ), fun _ _ _ _ _ _ => rfl, fun hl9 _ _ _ hq => ac_6_1 hl9 hq ho (ek.trans (by decide))⟩
  | 7, _ => exact ⟨fun σ => ((aLight σ ((qLow (v >>> ((4 : Int32) &&& 31)) 11) - (2 : Int32)) (v >>> ((5 : Int32) &&& 31)) ((qLow (v >>> ((11 : Int32) &&& 31)) 8) - (1 : Int32))).toInt64, σ), fun _ _ _ _ _ _ => rfl, fun hl9 _ _ _ hq => ac_7_1 hl9 hq ho (ek.trans (by decide))⟩
  | 8, _ => exact ⟨fun σ => ((aLightAnew σ ((qLow (v >>> ((4 : Int32) &&& 31)) 11) - (2 : Int32)) (v >>> ((5 : Int32) &&& 31))).toInt64, σ), fun _ _ _ _ _ _ => rfl, fun hl9 _ _ _ hq => ac_8_1 hl9 hq ho (ek.trans (by decide))⟩
  | 9, _ => exact ⟨fun σ => ((aHour σ ((qLow (v >>> ((4 : Int32) &&& 31)) 11) - (2 : Int32)) (v >>> ((5 : Int32) &&& 31)) (v >>> ((8 : Int32) &&& 31)) ((qLow (v >>> ((11 : Int32) &&& 31)) 8) - (1 : Int32))).toInt64, σ), fun _ _ _ _ _ _ => rfl, fun hl9 _ _ _ hq => ac_9_1 hl9 hq ho (ek.trans (by decide))⟩
  | 10, _ => exact ⟨fun σ => ((aHour σ ((qLow (v >>> ((4 : Int32) &&& 31)) 11) - (2 : Int32)) (v >>> ((5 : Int32) &&& 31)) (v >>> ((8 : Int32) &&& 31)) ((qLow (v >>> ((11 : Int32) &&& 31)) 8) - (1 : Int32))).toInt64, σ), fun _ _ _ _ _ _ => rfl, fun hl9 _ _ _ hq => ac_10_1 hl9 hq ho (ek.trans (by decide))⟩
  | 11, _ => exact ⟨fun σ => ((aHour σ ((qLow (v >>> ((4 : Int32) &&& 31)) 11) - (2 : Int32)) (v >>> ((5 : Int32) &&& 31)) (v >>> ((8 : Int32) &&& 31)) ((qLow (v >>> ((11 : Int32) &&& 31)) 8) - (1 : Int32))).toInt64, σ), fun _ _ _ _ _ _ => rfl, fun hl9 _ _ _ hq => ac_11_1 hl9 hq ho (ek.trans (by decide))⟩
  | 12, _ => exact ⟨fun σ => ((aHour σ ((qLow (v >>> ((4 : Int32) &&& 31)) 11) - (2 : Int32)) (v >>> ((5 : Int32) &&& 31)) (v >>> ((8 : Int32) &&& 31)) ((qLow (v >>> ((11 : Int32) &&& 31)) 8) - (1 : Int32))).toInt64, σ), fun _ _ _ _ _ _ => rfl, fun hl9 _ _ _ hq => ac_12_1 hl9 hq ho (ek.trans (by decide))⟩
  | 13, _ => exact ⟨fun σ => ((aSummer σ (v >>> ((5 : Int32) &&& 31)) (((qLow (v >>> ((11 : Int32) &&& 31)) 8) - (1 : Int32)) - (2 : Int32))).toInt64, (nSummer σ (v >>> ((5 : Int32) &&& 31)) (((qLow (v >>> ((11 : Int32) &&& 31)) 8) - (1 : Int32)) - (2 : Int32)))), fun _ _ σ _ hq hb => bd_summer hb, fun hl9 _ _ _ hq => ac_13_1 hl9 hq ho (ek.trans (by decide))⟩
  | 14, _ => exact ⟨fun σ => ((aDial σ ((qLow (v >>> ((4 : Int32) &&& 31)) 11) - (2 : Int32)) ((qLow (v >>> ((12 : Int32) &&& 31)) 100) - (4 : Int32)) (v >>> ((9 : Int32) &&& 31)) ((qLow (v >>> ((11 : Int32) &&& 31)) 8) - (1 : Int32))).toInt64, (nDial σ ((qLow (v >>> ((4 : Int32) &&& 31)) 11) - (2 : Int32)) ((qLow (v >>> ((12 : Int32) &&& 31)) 100) - (4 : Int32)) (v >>> ((9 : Int32) &&& 31)) ((qLow (v >>> ((11 : Int32) &&& 31)) 8) - (1 : Int32)))), fun _ _ σ _ hq hb => bd_dial (qY_iv hq).1 hb, fun hl9 _ _ _ hq => ac_14_1 hl9 hq ho (ek.trans (by decide))⟩
  | 15, _ => exact ⟨fun σ => ((aDial σ ((qLow (v >>> ((4 : Int32) &&& 31)) 11) - (2 : Int32)) ((qLow (v >>> ((12 : Int32) &&& 31)) 100) - (4 : Int32)) (v >>> ((9 : Int32) &&& 31)) ((qLow (v >>> ((11 : Int32) &&& 31)) 8) - (1 : Int32))).toInt64, (nDial σ ((qLow (v >>> ((4 : Int32) &&& 31)) 11) - (2 : Int32)) ((qLow (v >>> ((12 : Int32) &&& 31)) 100) - (4 : Int32)) (v >>> ((9 : Int32) &&& 31)) ((qLow (v >>> ((11 : Int32) &&& 31)) 8) - (1 : Int32)))), fun _ _ σ _ hq hb => bd_dial (qY_iv hq).1 hb, fun hl9 _ _ _ hq => ac_15_1 hl9 hq ho (ek.trans (by decide))⟩
  | 16, _ => exact ⟨fun σ => ((aStand σ ((qLow (v >>> ((7 : Int32) &&& 31)) 13) - (2 : Int32)) ((qLow (v >>> ((4 : Int32) &&& 31)) 11) - (2 : Int32)) ((qLow (v >>> ((12 : Int32) &&& 31)) 100) - (4 : Int32)) (v >>> ((9 : Int32) &&& 31))).toInt64, (nStand σ ((qLow (v >>> ((7 : Int32) &&& 31)) 13) - (2 : Int32)) ((qLow (v >>> ((4 : Int32) &&& 31)) 11) - (2 : Int32)) ((qLow (v >>> ((12 : Int32) &&& 31)) 100) - (4 : Int32)) (v >>> ((9 : Int32) &&& 31)))), fun _ _ σ _ hq hb => bd_stand (qY_iv hq).1 (qY_iv hq).2.1 (qY_iv hq).2.2.2.2.2.1 hb, fun hl9 _ _ _ hq => ac_16_1 hl9 hq ho (ek.trans (by decide))⟩
  | 17, _ => exact ⟨fun σ => ((aStand σ ((qLow (v >>> ((7 : Int32) &&& 31)) 13) - (2 : Int32)) ((qLow (v >>> ((4 : Int32) &&& 31)) 11) - (2 : Int32)) ((qLow (v >>> ((12 : Int32) &&& 31)) 100) - (4 : Int32)) (v >>> ((9 : Int32) &&& 31))).toInt64, (nStand σ ((qLow (v >>> ((7 : Int32) &&& 31)) 13) - (2 : Int32)) ((qLow (v >>> ((4 : Int32) &&& 31)) 11) - (2 : Int32)) ((qLow (v >>> ((12 : Int32) &&& 31)) 100) - (4 : Int32)) (v >>> ((9 : Int32) &&& 31)))), fun _ _ σ _ hq hb => bd_stand (qY_iv hq).1 (qY_iv hq).2.1 (qY_iv hq).2.2.2.2.2.1 hb, fun hl9 _ _ _ hq => ac_17_1 hl9 hq ho (ek.trans (by decide))⟩
  | 18, _ => exact ⟨fun σ => ((aStand σ ((qLow (v >>> ((7 : Int32) &&& 31)) 13) - (2 : Int32)) ((qLow (v >>> ((4 : Int32) &&& 31)) 11) - (2 : Int32)) ((qLow (v >>> ((12 : Int32) &&& 31)) 100) - (4 : Int32)) (v >>> ((9 : Int32) &&& 31))).toInt64, (nStand σ ((qLow (v >>> ((7 : Int32) &&& 31)) 13) - (2 : Int32)) ((qLow (v >>> ((4 : Int32) &&& 31)) 11) - (2 : Int32)) ((qLow (v >>> ((12 : Int32) &&& 31)) 100) - (4 : Int32)) (v >>> ((9 : Int32) &&& 31)))), fun _ _ σ _ hq hb => bd_stand (qY_iv hq).1 (qY_iv hq).2.1 (qY_iv hq).2.2.2.2.2.1 hb, fun hl9 _ _ _ hq => ac_18_1 hl9 hq ho (ek.trans (by decide))⟩
  | 19, _ => exact ⟨fun σ => ((aStand σ ((qLow (v >>> ((7 : Int32) &&& 31)) 13) - (2 : Int32)) ((qLow (v >>> ((4 : Int32) &&& 31)) 11) - (2 : Int32)) ((qLow (v >>> ((12 : Int32) &&& 31)) 100) - (4 : Int32)) (v >>> ((9 : Int32) &&& 31))).toInt64, (nStand σ ((qLow (v >>> ((7 : Int32) &&& 31)) 13) - (2 : Int32)) ((qLow (v >>> ((4 : Int32) &&& 31)) 11) - (2 : Int32)) ((qLow (v >>> ((12 : Int32) &&& 31)) 100) - (4 : Int32)) (v >>> ((9 : Int32) &&& 31)))), fun _ _ σ _ hq hb => bd_stand (qY_iv hq).1 (qY_iv hq).2.1 (qY_iv hq).2.2.2.2.2.1 hb, fun hl9 _ _ _ hq => ac_19_1 hl9 hq ho (ek.trans (by decide))⟩
  | 20, _ =>
    by_cases hs : ((v >>> (10 &&& 31)) &&& 1) = 1
    · exact ⟨fun σ => ((aShadow σ ((qLow (v >>> ((7 : Int32) &&& 31)) 13) - (2 : Int32)) (v >>> ((5 : Int32) &&& 31)) (v >>> ((8 : Int32) &&& 31)) 1).toInt64, σ), fun _ _ _ _ _ _ => rfl, fun hl9 _ _ _ hq => ac_20_1y hl9 hq ho (ek.trans (by decide)) hs⟩
    · exact ⟨fun σ => ((aShadow σ ((qLow (v >>> ((7 : Int32) &&& 31)) 13) - (2 : Int32)) (v >>> ((5 : Int32) &&& 31)) (v >>> ((8 : Int32) &&& 31)) 0).toInt64, σ), fun _ _ _ _ _ _ => rfl, fun hl9 _ _ _ hq => ac_20_1n hl9 hq ho (ek.trans (by decide)) hs⟩
  | 21, _ =>
    by_cases hs : ((v >>> (10 &&& 31)) &&& 1) = 1
    · exact ⟨fun σ => ((aShadow σ ((qLow (v >>> ((7 : Int32) &&& 31)) 13) - (2 : Int32)) (v >>> ((5 : Int32) &&& 31)) (v >>> ((8 : Int32) &&& 31)) 1).toInt64, σ), fun _ _ _ _ _ _ => rfl, fun hl9 _ _ _ hq => ac_21_1y hl9 hq ho (ek.trans (by decide)) hs⟩
    · exact ⟨fun σ => ((aShadow σ ((qLow (v >>> ((7 : Int32) &&& 31)) 13) - (2 : Int32)) (v >>> ((5 : Int32) &&& 31)) (v >>> ((8 : Int32) &&& 31)) 0).toInt64, σ), fun _ _ _ _ _ _ => rfl, fun hl9 _ _ _ hq => ac_21_1n hl9 hq ho (ek.trans (by decide)) hs⟩
  | 22, _ =>
    by_cases hs : ((v >>> (10 &&& 31)) &&& 1) = 1
    · exact ⟨fun σ => ((aShadow σ ((qLow (v >>> ((7 : Int32) &&& 31)) 13) - (2 : Int32)) (v >>> ((5 : Int32) &&& 31)) (v >>> ((8 : Int32) &&& 31)) 1).toInt64, σ), fun _ _ _ _ _ _ => rfl, fun hl9 _ _ _ hq => ac_22_1y hl9 hq ho (ek.trans (by decide)) hs⟩
    · exact ⟨fun σ => ((aShadow σ ((qLow (v >>> ((7 : Int32) &&& 31)) 13) - (2 : Int32)) (v >>> ((5 : Int32) &&& 31)) (v >>> ((8 : Int32) &&& 31)) 0).toInt64, σ), fun _ _ _ _ _ _ => rfl, fun hl9 _ _ _ hq => ac_22_1n hl9 hq ho (ek.trans (by decide)) hs⟩
  | 23, _ =>
    by_cases hs : ((v >>> (10 &&& 31)) &&& 1) = 1
    · exact ⟨fun σ => ((aShadow σ ((qLow (v >>> ((7 : Int32) &&& 31)) 13) - (2 : Int32)) (v >>> ((5 : Int32) &&& 31)) (v >>> ((8 : Int32) &&& 31)) 1).toInt64, σ), fun _ _ _ _ _ _ => rfl, fun hl9 _ _ _ hq => ac_23_1y hl9 hq ho (ek.trans (by decide)) hs⟩
    · exact ⟨fun σ => ((aShadow σ ((qLow (v >>> ((7 : Int32) &&& 31)) 13) - (2 : Int32)) (v >>> ((5 : Int32) &&& 31)) (v >>> ((8 : Int32) &&& 31)) 0).toInt64, σ), fun _ _ _ _ _ _ => rfl, fun hl9 _ _ _ hq => ac_23_1n hl9 hq ho (ek.trans (by decide)) hs⟩
  | 24, _ =>
    by_cases hs : ((v >>> (10 &&& 31)) &&& 1) = 1
    · exact ⟨fun σ => ((aShadow σ ((qLow (v >>> ((7 : Int32) &&& 31)) 13) - (2 : Int32)) (v >>> ((5 : Int32) &&& 31)) (v >>> ((8 : Int32) &&& 31)) 1).toInt64, σ), fun _ _ _ _ _ _ => rfl, fun hl9 _ _ _ hq => ac_24_1y hl9 hq ho (ek.trans (by decide)) hs⟩
    · exact ⟨fun σ => ((aShadow σ ((qLow (v >>> ((7 : Int32) &&& 31)) 13) - (2 : Int32)) (v >>> ((5 : Int32) &&& 31)) (v >>> ((8 : Int32) &&& 31)) 0).toInt64, σ), fun _ _ _ _ _ _ => rfl, fun hl9 _ _ _ hq => ac_24_1n hl9 hq ho (ek.trans (by decide)) hs⟩
  | 25, _ => exact ⟨fun σ => ((aBlur σ ((qLow (v >>> ((7 : Int32) &&& 31)) 13) - (2 : Int32)) (v >>> ((5 : Int32) &&& 31)) (v >>> ((8 : Int32) &&& 31))).toInt64, σ), fun _ _ _ _ _ _ => rfl, fun hl9 _ _ _ hq => ac_25_1 hl9 hq ho (ek.trans (by decide))⟩
  | 26, _ => exact ⟨fun σ => ((aLine σ ((qLow (v >>> ((7 : Int32) &&& 31)) 13) - (2 : Int32)) ((qLow (v >>> ((11 : Int32) &&& 31)) 8) - (1 : Int32)) (v >>> ((8 : Int32) &&& 31))).toInt64, σ), fun _ _ _ _ _ _ => rfl, fun hl9 _ _ _ hq => ac_26_1 hl9 hq ho (ek.trans (by decide))⟩
  | 27, _ => exact ⟨fun σ => ((aLine σ ((qLow (v >>> ((7 : Int32) &&& 31)) 13) - (2 : Int32)) ((qLow (v >>> ((11 : Int32) &&& 31)) 8) - (1 : Int32)) (v >>> ((8 : Int32) &&& 31))).toInt64, σ), fun _ _ _ _ _ _ => rfl, fun hl9 _ _ _ hq => ac_27_1 hl9 hq ho (ek.trans (by decide))⟩
  | 28, _ => exact ⟨fun σ => ((aLine σ ((qLow (v >>> ((7 : Int32) &&& 31)) 13) - (2 : Int32)) ((qLow (v >>> ((11 : Int32) &&& 31)) 8) - (1 : Int32)) (v >>> ((8 : Int32) &&& 31))).toInt64, σ), fun _ _ _ _ _ _ => rfl, fun hl9 _ _ _ hq => ac_28_1 hl9 hq ho (ek.trans (by decide))⟩
  | 29, _ => exact ⟨fun σ => ((aRead σ ((qLow (v >>> ((7 : Int32) &&& 31)) 13) - (2 : Int32)) v ((qLow (v >>> ((11 : Int32) &&& 31)) 2000) - (1000 : Int32)) (v >>> ((5 : Int32) &&& 31))).toInt64, σ), fun _ _ _ _ _ _ => rfl, fun hl9 _ _ _ hq => ac_29_1 hl9 hq ho (ek.trans (by decide))⟩
  | 30, _ => exact ⟨fun σ => ((aRead σ ((qLow (v >>> ((7 : Int32) &&& 31)) 13) - (2 : Int32)) v ((qLow (v >>> ((11 : Int32) &&& 31)) 2000) - (1000 : Int32)) (v >>> ((5 : Int32) &&& 31))).toInt64, σ), fun _ _ _ _ _ _ => rfl, fun hl9 _ _ _ hq => ac_30_1 hl9 hq ho (ek.trans (by decide))⟩
  | 31, _ => exact ⟨fun σ => ((aTells σ ((qLow (v >>> ((7 : Int32) &&& 31)) 13) - (2 : Int32)) (v >>> ((5 : Int32) &&& 31)) (v >>> ((8 : Int32) &&& 31))).toInt64, σ), fun _ _ _ _ _ _ => rfl, fun hl9 _ _ _ hq => ac_31_1 hl9 hq ho (ek.trans (by decide))⟩
  | 32, _ => exact ⟨fun σ => ((aTells σ ((qLow (v >>> ((7 : Int32) &&& 31)) 13) - (2 : Int32)) (v >>> ((5 : Int32) &&& 31)) (v >>> ((8 : Int32) &&& 31))).toInt64, σ), fun _ _ _ _ _ _ => rfl, fun hl9 _ _ _ hq => ac_32_1 hl9 hq ho (ek.trans (by decide))⟩
  | 33, _ => exact ⟨fun σ => ((aTells σ ((qLow (v >>> ((7 : Int32) &&& 31)) 13) - (2 : Int32)) (v >>> ((5 : Int32) &&& 31)) (v >>> ((8 : Int32) &&& 31))).toInt64, σ), fun _ _ _ _ _ _ => rfl, fun hl9 _ _ _ hq => ac_33_1 hl9 hq ho (ek.trans (by decide))⟩
  | 34, _ =>
    by_cases hs : qLow (v >>> (9 &&& 31)) 6 = 0
    · exact ⟨fun σ => ((aWorst σ ((qLow (v >>> ((7 : Int32) &&& 31)) 13) - (2 : Int32)) (v >>> ((5 : Int32) &&& 31)) ((qLow (v >>> ((11 : Int32) &&& 31)) 8) - (1 : Int32))).toInt64, σ), fun _ _ _ _ _ _ => rfl, fun hl9 _ _ _ hq => ac_34_1z hl9 hq ho (ek.trans (by decide)) hs⟩
    · exact ⟨fun σ => ((aTells σ ((qLow (v >>> ((7 : Int32) &&& 31)) 13) - (2 : Int32)) (v >>> ((5 : Int32) &&& 31)) 180).toInt64, σ), fun _ _ _ _ _ _ => rfl, fun hl9 _ _ _ hq => ac_34_1n hl9 hq ho (ek.trans (by decide)) hs⟩
  | 35, _ =>
    by_cases hs : qLow (v >>> (9 &&& 31)) 12 = 0
    · exact ⟨fun σ => ((aBest σ ((qLow (v >>> ((7 : Int32) &&& 31)) 13) - (2 : Int32)) ((qLow (v >>> ((4 : Int32) &&& 31)) 11) - (2 : Int32)) (v >>> ((9 : Int32) &&& 31))).toInt64, σ), fun _ _ _ _ _ _ => rfl, fun hl9 _ _ _ hq => ac_35_1z hl9 hq ho (ek.trans (by decide)) hs⟩
    · exact ⟨fun σ => ((aShadow σ ((qLow (v >>> ((7 : Int32) &&& 31)) 13) - (2 : Int32)) (v >>> ((5 : Int32) &&& 31)) 180 0).toInt64, σ), fun _ _ _ _ _ _ => rfl, fun hl9 _ _ _ hq => ac_35_1n hl9 hq ho (ek.trans (by decide)) hs⟩
  | 36, _ => exact ⟨fun σ => ((aCut σ ((qLow (v >>> ((7 : Int32) &&& 31)) 13) - (2 : Int32)) ((qLow (v >>> ((11 : Int32) &&& 31)) 8) - (1 : Int32)) (v >>> ((8 : Int32) &&& 31))).toInt64, (nCut σ ((qLow (v >>> ((7 : Int32) &&& 31)) 13) - (2 : Int32)) ((qLow (v >>> ((11 : Int32) &&& 31)) 8) - (1 : Int32)) (v >>> ((8 : Int32) &&& 31)))), fun _ _ σ _ hq hb => bd_cut (qY_iv hq).2.1 hb, fun hl9 _ _ _ hq => ac_36_1 hl9 hq ho (ek.trans (by decide))⟩
  | 37, _ => exact ⟨fun σ => ((aCut σ ((qLow (v >>> ((7 : Int32) &&& 31)) 13) - (2 : Int32)) ((qLow (v >>> ((11 : Int32) &&& 31)) 8) - (1 : Int32)) (v >>> ((8 : Int32) &&& 31))).toInt64, (nCut σ ((qLow (v >>> ((7 : Int32) &&& 31)) 13) - (2 : Int32)) ((qLow (v >>> ((11 : Int32) &&& 31)) 8) - (1 : Int32)) (v >>> ((8 : Int32) &&& 31)))), fun _ _ σ _ hq hb => bd_cut (qY_iv hq).2.1 hb, fun hl9 _ _ _ hq => ac_37_1 hl9 hq ho (ek.trans (by decide))⟩
  | 38, _ => exact ⟨fun σ => ((aCut σ ((qLow (v >>> ((7 : Int32) &&& 31)) 13) - (2 : Int32)) ((qLow (v >>> ((11 : Int32) &&& 31)) 8) - (1 : Int32)) (v >>> ((8 : Int32) &&& 31))).toInt64, (nCut σ ((qLow (v >>> ((7 : Int32) &&& 31)) 13) - (2 : Int32)) ((qLow (v >>> ((11 : Int32) &&& 31)) 8) - (1 : Int32)) (v >>> ((8 : Int32) &&& 31)))), fun _ _ σ _ hq hb => bd_cut (qY_iv hq).2.1 hb, fun hl9 _ _ _ hq => ac_38_1 hl9 hq ho (ek.trans (by decide))⟩
  | 39, _ => exact ⟨fun σ => ((aLies σ ((qLow (v >>> ((7 : Int32) &&& 31)) 13) - (2 : Int32))).toInt64, σ), fun _ _ _ _ _ _ => rfl, fun hl9 _ _ _ hq => ac_39_1 hl9 hq ho (ek.trans (by decide))⟩
  | 40, _ => exact ⟨fun σ => (σ.2.2.2.2.2.1, σ), fun _ _ _ _ _ _ => rfl, fun hl9 _ _ _ hq => ac_40_1 hl9 hq ho (ek.trans (by decide))⟩
  | 41, _ =>
    by_cases hs : qLow (v >>> (9 &&& 31)) 3 = 0
    · exact ⟨fun σ => ((nI σ.2.2.1).toInt64, (nForget σ)), fun _ _ σ _ hq hb => absurd hb (nb_of (nI_nn (by have := (qY_iv hq).2.2.1; omega))), fun hl9 _ _ _ hq => ac_41_1z hl9 hq ho (ek.trans (by decide)) hs⟩
    · exact ⟨fun σ => ((aFind σ (v >>> ((5 : Int32) &&& 31)) (v >>> ((8 : Int32) &&& 31)) v ((qLow (v >>> ((11 : Int32) &&& 31)) 400) - (200 : Int32))).toInt64, (nFind σ (v >>> ((5 : Int32) &&& 31)) (v >>> ((8 : Int32) &&& 31)) v ((qLow (v >>> ((11 : Int32) &&& 31)) 400) - (200 : Int32)))), fun _ _ σ _ hq hb => bd_find hb, fun hl9 _ _ _ hq => ac_41_1n hl9 hq ho (ek.trans (by decide)) hs⟩
  | 42, _ =>
    by_cases hs : qLow (v >>> (9 &&& 31)) 4 = 0
    · exact ⟨fun σ => ((nI σ.2.2.1).toInt64, (nForget σ)), fun _ _ σ _ hq hb => absurd hb (nb_of (nI_nn (by have := (qY_iv hq).2.2.1; omega))), fun hl9 _ _ _ hq => ac_42_1z hl9 hq ho (ek.trans (by decide)) hs⟩
    · exact ⟨fun σ => ((aFits σ ((qLow (v >>> ((12 : Int32) &&& 31)) 100) - (4 : Int32)) (v >>> ((9 : Int32) &&& 31)) ((qLow (v >>> ((11 : Int32) &&& 31)) 8) - (1 : Int32)) ((qLow (v >>> ((11 : Int32) &&& 31)) 8) - (1 : Int32))).toInt64, σ), fun _ _ _ _ _ _ => rfl, fun hl9 _ _ _ hq => ac_42_1n hl9 hq ho (ek.trans (by decide)) hs⟩
  | 43, _ => exact ⟨fun σ => ((aShadow σ ((qLow (v >>> ((7 : Int32) &&& 31)) 13) - (2 : Int32)) (v >>> ((5 : Int32) &&& 31)) (v >>> ((8 : Int32) &&& 31)) 1).toInt64, σ), fun _ _ _ _ _ _ => rfl, fun hl9 _ _ _ hq => ac_43_1 hl9 hq ho (ek.trans (by decide))⟩
  | 44, _ => exact ⟨fun σ => ((aShadow σ ((qLow (v >>> ((7 : Int32) &&& 31)) 13) - (2 : Int32)) (v >>> ((5 : Int32) &&& 31)) (v >>> ((8 : Int32) &&& 31)) 1).toInt64, σ), fun _ _ _ _ _ _ => rfl, fun hl9 _ _ _ hq => ac_44_1 hl9 hq ho (ek.trans (by decide))⟩
  | 45, _ => exact ⟨fun σ => ((aShadow σ ((qLow (v >>> ((7 : Int32) &&& 31)) 13) - (2 : Int32)) (v >>> ((5 : Int32) &&& 31)) (v >>> ((8 : Int32) &&& 31)) 1).toInt64, σ), fun _ _ _ _ _ _ => rfl, fun hl9 _ _ _ hq => ac_45_1 hl9 hq ho (ek.trans (by decide))⟩
  | n + 46, h => exact absurd h (by omega)

set_option maxHeartbeats 4000000 in
set_option maxRecDepth 100000 in
theorem q_act0 (v : Int32) (ho : ¬ qLow (v >>> (26 &&& 31)) 14 = 0) (k : Nat) (hk : k < 46) (ek : qLow v 46 = nI k) : ∃ f : QS → Int64 × QS, (∀ (ty : Nat → ClassId) (yd : Nat) (σ : QS) (X : va_W), qY ty yd σ X → isBad (f σ).1 → (f σ).2 = σ) ∧ ∀ {l : Launch} {D : va_G} {ty : Nat → ClassId} {base sz : Nat} (hl9 : l.stackTraces = false) {yd : Nat} {σ : QS} {X : va_W} (hq : qY ty yd σ X), Met l yL_act [.code yL_act cL_act 10 (some (.long))] rmA (yPc D ty base sz X [.ref yd, .int v]) (va_Ql (fun r X' => r = (f σ).1 ∧ qY ty yd (f σ).2 X') (yB D (va_A X sz) (fun X' : va_W => X')) (va_A X sz)) rmA.cells rmA.slots (va_A X sz) := by
  match k, hk with
  | 0, _ => exact ⟨fun σ => ((aSine σ ((qLow (v >>> ((3 : Int32) &&& 31)) 2000) - (1000 : Int32))).toInt64, σ), fun _ _ _ _ _ _ => rfl, fun hl9 _ _ _ hq => ac_0_0 hl9 hq ho (ek.trans (by decide))⟩
  | 1, _ => exact ⟨fun σ => ((aDay σ (qLow (v >>> ((5 : Int32) &&& 31)) 360) ((qLow (v >>> ((11 : Int32) &&& 31)) 3) - (qLow (v >>> ((11 : Int32) &&& 31)) 3) / (2 : Int32) * (2 : Int32))).toInt64, σ), fun _ _ _ _ _ _ => rfl, fun hl9 _ _ _ hq => ac_1_0 hl9 hq ho (ek.trans (by decide))⟩
  | 2, _ => exact ⟨fun σ => ((aSun σ ((qLow (v >>> ((10 : Int32) &&& 31)) 133) - (66 : Int32)) (qLow (v >>> ((5 : Int32) &&& 31)) 360) ((60 : Int32) + (qLow (v >>> ((8 : Int32) &&& 31)) 240)) (qLow (v >>> ((11 : Int32) &&& 31)) 3)), σ), fun _ _ _ _ _ _ => rfl, fun hl9 _ _ _ hq => ac_2_0 hl9 hq ho (ek.trans (by decide))⟩
  | 3, _ => exact ⟨fun σ => ((aSun σ ((qLow (v >>> ((10 : Int32) &&& 31)) 133) - (66 : Int32)) (qLow (v >>> ((5 : Int32) &&& 31)) 360) ((60 : Int32) + (qLow (v >>> ((8 : Int32) &&& 31)) 240)) (qLow (v >>> ((11 : Int32) &&& 31)) 3)), σ), fun _ _ _ _ _ _ => rfl, fun hl9 _ _ _ hq => ac_3_0 hl9 hq ho (ek.trans (by decide))⟩
  | 4, _ => exact ⟨fun σ => ((aPlace σ ((qLow (v >>> ((10 : Int32) &&& 31)) 133) - (66 : Int32)) ((qLow (v >>> ((3 : Int32) &&& 31)) 1441) - (720 : Int32))).toInt64, (nPlace σ ((qLow (v >>> ((10 : Int32) &&& 31)) 133) - (66 : Int32)) ((qLow (v >>> ((3 : Int32) &&& 31)) 1441) - (720 : Int32)))), fun _ _ σ _ hq hb => bd_place hb, fun hl9 _ _ _ hq => ac_4_0 hl9 hq ho (ek.trans (by decide))⟩
  | 5, _ => exact ⟨fun σ => ((aPlace σ ((qLow (v >>> ((10 : Int32) &&& 31)) 133) - (66 : Int32)) ((qLow (v >>> ((3 : Int32) &&& 31)) 1441) - (720 : Int32))).toInt64, (nPlace σ ((qLow (v >>> ((10 : Int32) &&& 31)) 133) - (66 : Int32)) ((qLow (v >>> ((3 : Int32) &&& 31)) 1441) - (720 : Int32)))), fun _ _ σ _ hq hb => bd_place hb, fun hl9 _ _ _ hq => ac_5_0 hl9 hq ho (ek.trans (by decide))⟩
  | 6, _ => exact ⟨fun σ => ((aLight σ (qLow (v >>> ((4 : Int32) &&& 31)) 3) (qLow (v >>> ((5 : Int32) &&& 31)) 360) (qLow (v >>> ((11 : Int32) &&& 31)) 3)).toInt64, σ), fun _ _ _ _ _ _ => rfl, fun hl9 _ _ _ hq => ac_6_0 hl9 hq ho (ek.trans (by decide))⟩
  | 7, _ => exact ⟨fun σ => ((aLight σ (qLow (v >>> ((4 : Int32) &&& 31)) 3) (qLow (v >>> ((5 : Int32) &&& 31)) 360) (qLow (v >>> ((11 : Int32) &&& 31)) 3)).toInt64, σ), fun _ _ _ _ _ _ => rfl, fun hl9 _ _ _ hq => ac_7_0 hl9 hq ho (ek.trans (by decide))⟩
  | 8, _ => exact ⟨fun σ => ((aLightAnew σ (qLow (v >>> ((4 : Int32) &&& 31)) 3) (qLow (v >>> ((5 : Int32) &&& 31)) 360)).toInt64, σ), fun _ _ _ _ _ _ => rfl, fun hl9 _ _ _ hq => ac_8_0 hl9 hq ho (ek.trans (by decide))⟩
  | 9, _ => exact ⟨fun σ => ((aHour σ (qLow (v >>> ((4 : Int32) &&& 31)) 3) (qLow (v >>> ((5 : Int32) &&& 31)) 360) ((60 : Int32) + (qLow (v >>> ((8 : Int32) &&& 31)) 240)) (qLow (v >>> ((11 : Int32) &&& 31)) 4)).toInt64, σ), fun _ _ _ _ _ _ => rfl, fun hl9 _ _ _ hq => ac_9_0 hl9 hq ho (ek.trans (by decide))⟩
  | 10, _ => exact ⟨fun σ => ((aHour σ (qLow (v >>> ((4 : Int32) &&& 31)) 3) (qLow (v >>> ((5 : Int32) &&& 31)) 360) ((60 : Int32) + (qLow (v >>> ((8 : Int32) &&& 31)) 240)) (qLow (v >>> ((11 : Int32) &&& 31)) 4)).toInt64, σ), fun _ _ _ _ _ _ => rfl, fun hl9 _ _ _ hq => ac_10_0 hl9 hq ho (ek.trans (by decide))⟩
  | 11, _ => exact ⟨fun σ => ((aHour σ (qLow (v >>> ((4 : Int32) &&& 31)) 3) (qLow (v >>> ((5 : Int32) &&& 31)) 360) ((60 : Int32) + (qLow (v >>> ((8 : Int32) &&& 31)) 240)) (qLow (v >>> ((11 : Int32) &&& 31)) 4)).toInt64, σ), fun _ _ _ _ _ _ => rfl, fun hl9 _ _ _ hq => ac_11_0 hl9 hq ho (ek.trans (by decide))⟩
  | 12, _ => exact ⟨fun σ => ((aHour σ (qLow (v >>> ((4 : Int32) &&& 31)) 3) (qLow (v >>> ((5 : Int32) &&& 31)) 360) ((60 : Int32) + (qLow (v >>> ((8 : Int32) &&& 31)) 240)) (qLow (v >>> ((11 : Int32) &&& 31)) 4)).toInt64, σ), fun _ _ _ _ _ _ => rfl, fun hl9 _ _ _ hq => ac_12_0 hl9 hq ho (ek.trans (by decide))⟩
  | 13, _ => exact ⟨fun σ => ((aSummer σ (qLow (v >>> ((5 : Int32) &&& 31)) 360) ((qLow (v >>> ((5 : Int32) &&& 31)) 360) + (qLow (v >>> ((11 : Int32) &&& 31)) ((360 : Int32) - (qLow (v >>> ((5 : Int32) &&& 31)) 360))))).toInt64, (nSummer σ (qLow (v >>> ((5 : Int32) &&& 31)) 360) ((qLow (v >>> ((5 : Int32) &&& 31)) 360) + (qLow (v >>> ((11 : Int32) &&& 31)) ((360 : Int32) - (qLow (v >>> ((5 : Int32) &&& 31)) 360)))))), fun _ _ σ _ hq hb => bd_summer hb, fun hl9 _ _ _ hq => ac_13_0 hl9 hq ho (ek.trans (by decide))⟩
  | 14, _ => exact ⟨fun σ => ((aDial σ (qLow (v >>> ((4 : Int32) &&& 31)) 3) (qLow (v >>> ((12 : Int32) &&& 31)) 91) ((qLow (v >>> ((9 : Int32) &&& 31)) 121) - (60 : Int32)) ((1 : Int32) + (qLow (v >>> ((3 : Int32) &&& 31)) 500))).toInt64, (nDial σ (qLow (v >>> ((4 : Int32) &&& 31)) 3) (qLow (v >>> ((12 : Int32) &&& 31)) 91) ((qLow (v >>> ((9 : Int32) &&& 31)) 121) - (60 : Int32)) ((1 : Int32) + (qLow (v >>> ((3 : Int32) &&& 31)) 500)))), fun _ _ σ _ hq hb => bd_dial (qY_iv hq).1 hb, fun hl9 _ _ _ hq => ac_14_0 hl9 hq ho (ek.trans (by decide))⟩
  | 15, _ => exact ⟨fun σ => ((aDial σ (qLow (v >>> ((4 : Int32) &&& 31)) 3) (qLow (v >>> ((12 : Int32) &&& 31)) 91) ((qLow (v >>> ((9 : Int32) &&& 31)) 121) - (60 : Int32)) ((1 : Int32) + (qLow (v >>> ((3 : Int32) &&& 31)) 500))).toInt64, (nDial σ (qLow (v >>> ((4 : Int32) &&& 31)) 3) (qLow (v >>> ((12 : Int32) &&& 31)) 91) ((qLow (v >>> ((9 : Int32) &&& 31)) 121) - (60 : Int32)) ((1 : Int32) + (qLow (v >>> ((3 : Int32) &&& 31)) 500)))), fun _ _ σ _ hq hb => bd_dial (qY_iv hq).1 hb, fun hl9 _ _ _ hq => ac_15_0 hl9 hq ho (ek.trans (by decide))⟩
  | 16, _ => exact ⟨fun σ => ((aStand σ (qLow (v >>> ((7 : Int32) &&& 31)) 3) (qLow (v >>> ((4 : Int32) &&& 31)) 3) (qLow (v >>> ((12 : Int32) &&& 31)) 91) ((qLow (v >>> ((9 : Int32) &&& 31)) 121) - (60 : Int32))).toInt64, (nStand σ (qLow (v >>> ((7 : Int32) &&& 31)) 3) (qLow (v >>> ((4 : Int32) &&& 31)) 3) (qLow (v >>> ((12 : Int32) &&& 31)) 91) ((qLow (v >>> ((9 : Int32) &&& 31)) 121) - (60 : Int32)))), fun _ _ σ _ hq hb => bd_stand (qY_iv hq).1 (qY_iv hq).2.1 (qY_iv hq).2.2.2.2.2.1 hb, fun hl9 _ _ _ hq => ac_16_0 hl9 hq ho (ek.trans (by decide))⟩
  | 17, _ => exact ⟨fun σ => ((aStand σ (qLow (v >>> ((7 : Int32) &&& 31)) 3) (qLow (v >>> ((4 : Int32) &&& 31)) 3) (qLow (v >>> ((12 : Int32) &&& 31)) 91) ((qLow (v >>> ((9 : Int32) &&& 31)) 121) - (60 : Int32))).toInt64, (nStand σ (qLow (v >>> ((7 : Int32) &&& 31)) 3) (qLow (v >>> ((4 : Int32) &&& 31)) 3) (qLow (v >>> ((12 : Int32) &&& 31)) 91) ((qLow (v >>> ((9 : Int32) &&& 31)) 121) - (60 : Int32)))), fun _ _ σ _ hq hb => bd_stand (qY_iv hq).1 (qY_iv hq).2.1 (qY_iv hq).2.2.2.2.2.1 hb, fun hl9 _ _ _ hq => ac_17_0 hl9 hq ho (ek.trans (by decide))⟩
  | 18, _ => exact ⟨fun σ => ((aStand σ (qLow (v >>> ((7 : Int32) &&& 31)) 3) (qLow (v >>> ((4 : Int32) &&& 31)) 3) (qLow (v >>> ((12 : Int32) &&& 31)) 91) ((qLow (v >>> ((9 : Int32) &&& 31)) 121) - (60 : Int32))).toInt64, (nStand σ (qLow (v >>> ((7 : Int32) &&& 31)) 3) (qLow (v >>> ((4 : Int32) &&& 31)) 3) (qLow (v >>> ((12 : Int32) &&& 31)) 91) ((qLow (v >>> ((9 : Int32) &&& 31)) 121) - (60 : Int32)))), fun _ _ σ _ hq hb => bd_stand (qY_iv hq).1 (qY_iv hq).2.1 (qY_iv hq).2.2.2.2.2.1 hb, fun hl9 _ _ _ hq => ac_18_0 hl9 hq ho (ek.trans (by decide))⟩
  | 19, _ => exact ⟨fun σ => ((aStand σ (qLow (v >>> ((7 : Int32) &&& 31)) 3) (qLow (v >>> ((4 : Int32) &&& 31)) 3) (qLow (v >>> ((12 : Int32) &&& 31)) 91) ((qLow (v >>> ((9 : Int32) &&& 31)) 121) - (60 : Int32))).toInt64, (nStand σ (qLow (v >>> ((7 : Int32) &&& 31)) 3) (qLow (v >>> ((4 : Int32) &&& 31)) 3) (qLow (v >>> ((12 : Int32) &&& 31)) 91) ((qLow (v >>> ((9 : Int32) &&& 31)) 121) - (60 : Int32)))), fun _ _ σ _ hq hb => bd_stand (qY_iv hq).1 (qY_iv hq).2.1 (qY_iv hq).2.2.2.2.2.1 hb, fun hl9 _ _ _ hq => ac_19_0 hl9 hq ho (ek.trans (by decide))⟩
  | 20, _ =>
    by_cases hs : ((v >>> (10 &&& 31)) &&& 1) = 1
    · exact ⟨fun σ => ((aShadow σ (qLow (v >>> ((7 : Int32) &&& 31)) 3) (qLow (v >>> ((5 : Int32) &&& 31)) 360) ((60 : Int32) + (qLow (v >>> ((8 : Int32) &&& 31)) 240)) 1).toInt64, σ), fun _ _ _ _ _ _ => rfl, fun hl9 _ _ _ hq => ac_20_0y hl9 hq ho (ek.trans (by decide)) hs⟩
    · exact ⟨fun σ => ((aShadow σ (qLow (v >>> ((7 : Int32) &&& 31)) 3) (qLow (v >>> ((5 : Int32) &&& 31)) 360) ((60 : Int32) + (qLow (v >>> ((8 : Int32) &&& 31)) 240)) 0).toInt64, σ), fun _ _ _ _ _ _ => rfl, fun hl9 _ _ _ hq => ac_20_0n hl9 hq ho (ek.trans (by decide)) hs⟩
  | 21, _ =>
    by_cases hs : ((v >>> (10 &&& 31)) &&& 1) = 1
    · exact ⟨fun σ => ((aShadow σ (qLow (v >>> ((7 : Int32) &&& 31)) 3) (qLow (v >>> ((5 : Int32) &&& 31)) 360) ((60 : Int32) + (qLow (v >>> ((8 : Int32) &&& 31)) 240)) 1).toInt64, σ), fun _ _ _ _ _ _ => rfl, fun hl9 _ _ _ hq => ac_21_0y hl9 hq ho (ek.trans (by decide)) hs⟩
    · exact ⟨fun σ => ((aShadow σ (qLow (v >>> ((7 : Int32) &&& 31)) 3) (qLow (v >>> ((5 : Int32) &&& 31)) 360) ((60 : Int32) + (qLow (v >>> ((8 : Int32) &&& 31)) 240)) 0).toInt64, σ), fun _ _ _ _ _ _ => rfl, fun hl9 _ _ _ hq => ac_21_0n hl9 hq ho (ek.trans (by decide)) hs⟩
  | 22, _ =>
    by_cases hs : ((v >>> (10 &&& 31)) &&& 1) = 1
    · exact ⟨fun σ => ((aShadow σ (qLow (v >>> ((7 : Int32) &&& 31)) 3) (qLow (v >>> ((5 : Int32) &&& 31)) 360) ((60 : Int32) + (qLow (v >>> ((8 : Int32) &&& 31)) 240)) 1).toInt64, σ), fun _ _ _ _ _ _ => rfl, fun hl9 _ _ _ hq => ac_22_0y hl9 hq ho (ek.trans (by decide)) hs⟩
    · exact ⟨fun σ => ((aShadow σ (qLow (v >>> ((7 : Int32) &&& 31)) 3) (qLow (v >>> ((5 : Int32) &&& 31)) 360) ((60 : Int32) + (qLow (v >>> ((8 : Int32) &&& 31)) 240)) 0).toInt64, σ), fun _ _ _ _ _ _ => rfl, fun hl9 _ _ _ hq => ac_22_0n hl9 hq ho (ek.trans (by decide)) hs⟩
  | 23, _ =>
    by_cases hs : ((v >>> (10 &&& 31)) &&& 1) = 1
    · exact ⟨fun σ => ((aShadow σ (qLow (v >>> ((7 : Int32) &&& 31)) 3) (qLow (v >>> ((5 : Int32) &&& 31)) 360) ((60 : Int32) + (qLow (v >>> ((8 : Int32) &&& 31)) 240)) 1).toInt64, σ), fun _ _ _ _ _ _ => rfl, fun hl9 _ _ _ hq => ac_23_0y hl9 hq ho (ek.trans (by decide)) hs⟩
    · exact ⟨fun σ => ((aShadow σ (qLow (v >>> ((7 : Int32) &&& 31)) 3) (qLow (v >>> ((5 : Int32) &&& 31)) 360) ((60 : Int32) + (qLow (v >>> ((8 : Int32) &&& 31)) 240)) 0).toInt64, σ), fun _ _ _ _ _ _ => rfl, fun hl9 _ _ _ hq => ac_23_0n hl9 hq ho (ek.trans (by decide)) hs⟩
  | 24, _ =>
    by_cases hs : ((v >>> (10 &&& 31)) &&& 1) = 1
    · exact ⟨fun σ => ((aShadow σ (qLow (v >>> ((7 : Int32) &&& 31)) 3) (qLow (v >>> ((5 : Int32) &&& 31)) 360) ((60 : Int32) + (qLow (v >>> ((8 : Int32) &&& 31)) 240)) 1).toInt64, σ), fun _ _ _ _ _ _ => rfl, fun hl9 _ _ _ hq => ac_24_0y hl9 hq ho (ek.trans (by decide)) hs⟩
    · exact ⟨fun σ => ((aShadow σ (qLow (v >>> ((7 : Int32) &&& 31)) 3) (qLow (v >>> ((5 : Int32) &&& 31)) 360) ((60 : Int32) + (qLow (v >>> ((8 : Int32) &&& 31)) 240)) 0).toInt64, σ), fun _ _ _ _ _ _ => rfl, fun hl9 _ _ _ hq => ac_24_0n hl9 hq ho (ek.trans (by decide)) hs⟩
  | 25, _ => exact ⟨fun σ => ((aBlur σ (qLow (v >>> ((7 : Int32) &&& 31)) 3) (qLow (v >>> ((5 : Int32) &&& 31)) 360) ((60 : Int32) + (qLow (v >>> ((8 : Int32) &&& 31)) 240))).toInt64, σ), fun _ _ _ _ _ _ => rfl, fun hl9 _ _ _ hq => ac_25_0 hl9 hq ho (ek.trans (by decide))⟩
  | 26, _ => exact ⟨fun σ => ((aLine σ (qLow (v >>> ((7 : Int32) &&& 31)) 3) ((7 : Int32) + (qLow (v >>> ((9 : Int32) &&& 31)) 11)) (qLow (v >>> ((11 : Int32) &&& 31)) 5)).toInt64, σ), fun _ _ _ _ _ _ => rfl, fun hl9 _ _ _ hq => ac_26_0 hl9 hq ho (ek.trans (by decide))⟩
  | 27, _ => exact ⟨fun σ => ((aLine σ (qLow (v >>> ((7 : Int32) &&& 31)) 3) ((7 : Int32) + (qLow (v >>> ((9 : Int32) &&& 31)) 11)) (qLow (v >>> ((11 : Int32) &&& 31)) 5)).toInt64, σ), fun _ _ _ _ _ _ => rfl, fun hl9 _ _ _ hq => ac_27_0 hl9 hq ho (ek.trans (by decide))⟩
  | 28, _ => exact ⟨fun σ => ((aLine σ (qLow (v >>> ((7 : Int32) &&& 31)) 3) ((7 : Int32) + (qLow (v >>> ((9 : Int32) &&& 31)) 11)) (qLow (v >>> ((11 : Int32) &&& 31)) 5)).toInt64, σ), fun _ _ _ _ _ _ => rfl, fun hl9 _ _ _ hq => ac_28_0 hl9 hq ho (ek.trans (by decide))⟩
  | 29, _ => exact ⟨fun σ => ((aRead σ (qLow (v >>> ((7 : Int32) &&& 31)) 3) ((qLow (v >>> ((9 : Int32) &&& 31)) 2000) - (1000 : Int32)) ((qLow (v >>> ((11 : Int32) &&& 31)) 2000) - (1000 : Int32)) (qLow (v >>> ((5 : Int32) &&& 31)) 360)).toInt64, σ), fun _ _ _ _ _ _ => rfl, fun hl9 _ _ _ hq => ac_29_0 hl9 hq ho (ek.trans (by decide))⟩
  | 30, _ => exact ⟨fun σ => ((aRead σ (qLow (v >>> ((7 : Int32) &&& 31)) 3) ((qLow (v >>> ((9 : Int32) &&& 31)) 2000) - (1000 : Int32)) ((qLow (v >>> ((11 : Int32) &&& 31)) 2000) - (1000 : Int32)) (qLow (v >>> ((5 : Int32) &&& 31)) 360)).toInt64, σ), fun _ _ _ _ _ _ => rfl, fun hl9 _ _ _ hq => ac_30_0 hl9 hq ho (ek.trans (by decide))⟩
  | 31, _ => exact ⟨fun σ => ((aTells σ (qLow (v >>> ((7 : Int32) &&& 31)) 3) (qLow (v >>> ((5 : Int32) &&& 31)) 360) ((60 : Int32) + (qLow (v >>> ((8 : Int32) &&& 31)) 240))).toInt64, σ), fun _ _ _ _ _ _ => rfl, fun hl9 _ _ _ hq => ac_31_0 hl9 hq ho (ek.trans (by decide))⟩
  | 32, _ => exact ⟨fun σ => ((aTells σ (qLow (v >>> ((7 : Int32) &&& 31)) 3) (qLow (v >>> ((5 : Int32) &&& 31)) 360) ((60 : Int32) + (qLow (v >>> ((8 : Int32) &&& 31)) 240))).toInt64, σ), fun _ _ _ _ _ _ => rfl, fun hl9 _ _ _ hq => ac_32_0 hl9 hq ho (ek.trans (by decide))⟩
  | 33, _ => exact ⟨fun σ => ((aTells σ (qLow (v >>> ((7 : Int32) &&& 31)) 3) (qLow (v >>> ((5 : Int32) &&& 31)) 360) ((60 : Int32) + (qLow (v >>> ((8 : Int32) &&& 31)) 240))).toInt64, σ), fun _ _ _ _ _ _ => rfl, fun hl9 _ _ _ hq => ac_33_0 hl9 hq ho (ek.trans (by decide))⟩
  | 34, _ =>
    by_cases hs : qLow (v >>> (9 &&& 31)) 6 = 0
    · exact ⟨fun σ => ((aWorst σ (qLow (v >>> ((7 : Int32) &&& 31)) 3) (qLow (v >>> ((5 : Int32) &&& 31)) 360) 0).toInt64, σ), fun _ _ _ _ _ _ => rfl, fun hl9 _ _ _ hq => ac_34_0z hl9 hq ho (ek.trans (by decide)) hs⟩
    · exact ⟨fun σ => ((aTells σ (qLow (v >>> ((7 : Int32) &&& 31)) 3) (qLow (v >>> ((5 : Int32) &&& 31)) 360) 180).toInt64, σ), fun _ _ _ _ _ _ => rfl, fun hl9 _ _ _ hq => ac_34_0n hl9 hq ho (ek.trans (by decide)) hs⟩
  | 35, _ =>
    by_cases hs : qLow (v >>> (9 &&& 31)) 12 = 0
    · exact ⟨fun σ => ((aBest σ (qLow (v >>> ((7 : Int32) &&& 31)) 3) (qLow (v >>> ((4 : Int32) &&& 31)) 3) ((qLow (v >>> ((9 : Int32) &&& 31)) 121) - (60 : Int32))).toInt64, σ), fun _ _ _ _ _ _ => rfl, fun hl9 _ _ _ hq => ac_35_0z hl9 hq ho (ek.trans (by decide)) hs⟩
    · exact ⟨fun σ => ((aShadow σ (qLow (v >>> ((7 : Int32) &&& 31)) 3) (qLow (v >>> ((5 : Int32) &&& 31)) 360) 180 0).toInt64, σ), fun _ _ _ _ _ _ => rfl, fun hl9 _ _ _ hq => ac_35_0n hl9 hq ho (ek.trans (by decide)) hs⟩
  | 36, _ => exact ⟨fun σ => ((aCut σ (qLow (v >>> ((7 : Int32) &&& 31)) 3) ((7 : Int32) + (qLow (v >>> ((9 : Int32) &&& 31)) 11)) ((qLow (v >>> ((11 : Int32) &&& 31)) 101) - (50 : Int32))).toInt64, (nCut σ (qLow (v >>> ((7 : Int32) &&& 31)) 3) ((7 : Int32) + (qLow (v >>> ((9 : Int32) &&& 31)) 11)) ((qLow (v >>> ((11 : Int32) &&& 31)) 101) - (50 : Int32)))), fun _ _ σ _ hq hb => bd_cut (qY_iv hq).2.1 hb, fun hl9 _ _ _ hq => ac_36_0 hl9 hq ho (ek.trans (by decide))⟩
  | 37, _ => exact ⟨fun σ => ((aCut σ (qLow (v >>> ((7 : Int32) &&& 31)) 3) ((7 : Int32) + (qLow (v >>> ((9 : Int32) &&& 31)) 11)) ((qLow (v >>> ((11 : Int32) &&& 31)) 101) - (50 : Int32))).toInt64, (nCut σ (qLow (v >>> ((7 : Int32) &&& 31)) 3) ((7 : Int32) + (qLow (v >>> ((9 : Int32) &&& 31)) 11)) ((qLow (v >>> ((11 : Int32) &&& 31)) 101) - (50 : Int32)))), fun _ _ σ _ hq hb => bd_cut (qY_iv hq).2.1 hb, fun hl9 _ _ _ hq => ac_37_0 hl9 hq ho (ek.trans (by decide))⟩
  | 38, _ => exact ⟨fun σ => ((aCut σ (qLow (v >>> ((7 : Int32) &&& 31)) 3) ((7 : Int32) + (qLow (v >>> ((9 : Int32) &&& 31)) 11)) ((qLow (v >>> ((11 : Int32) &&& 31)) 101) - (50 : Int32))).toInt64, (nCut σ (qLow (v >>> ((7 : Int32) &&& 31)) 3) ((7 : Int32) + (qLow (v >>> ((9 : Int32) &&& 31)) 11)) ((qLow (v >>> ((11 : Int32) &&& 31)) 101) - (50 : Int32)))), fun _ _ σ _ hq hb => bd_cut (qY_iv hq).2.1 hb, fun hl9 _ _ _ hq => ac_38_0 hl9 hq ho (ek.trans (by decide))⟩
  | 39, _ => exact ⟨fun σ => ((aLies σ (qLow (v >>> ((7 : Int32) &&& 31)) 3)).toInt64, σ), fun _ _ _ _ _ _ => rfl, fun hl9 _ _ _ hq => ac_39_0 hl9 hq ho (ek.trans (by decide))⟩
  | 40, _ => exact ⟨fun σ => (σ.2.2.2.2.2.1, σ), fun _ _ _ _ _ _ => rfl, fun hl9 _ _ _ hq => ac_40_0 hl9 hq ho (ek.trans (by decide))⟩
  | 41, _ =>
    by_cases hs : qLow (v >>> (9 &&& 31)) 3 = 0
    · exact ⟨fun σ => ((nI σ.2.2.1).toInt64, (nForget σ)), fun _ _ σ _ hq hb => absurd hb (nb_of (nI_nn (by have := (qY_iv hq).2.2.1; omega))), fun hl9 _ _ _ hq => ac_41_0z hl9 hq ho (ek.trans (by decide)) hs⟩
    · exact ⟨fun σ => ((aFind σ (qLow (v >>> ((5 : Int32) &&& 31)) 360) ((60 : Int32) + (qLow (v >>> ((8 : Int32) &&& 31)) 240)) ((qLow (v >>> ((9 : Int32) &&& 31)) 400) - (200 : Int32)) ((qLow (v >>> ((11 : Int32) &&& 31)) 400) - (200 : Int32))).toInt64, (nFind σ (qLow (v >>> ((5 : Int32) &&& 31)) 360) ((60 : Int32) + (qLow (v >>> ((8 : Int32) &&& 31)) 240)) ((qLow (v >>> ((9 : Int32) &&& 31)) 400) - (200 : Int32)) ((qLow (v >>> ((11 : Int32) &&& 31)) 400) - (200 : Int32)))), fun _ _ σ _ hq hb => bd_find hb, fun hl9 _ _ _ hq => ac_41_0n hl9 hq ho (ek.trans (by decide)) hs⟩
  | 42, _ =>
    by_cases hs : qLow (v >>> (9 &&& 31)) 4 = 0
    · exact ⟨fun σ => ((nI σ.2.2.1).toInt64, (nForget σ)), fun _ _ σ _ hq hb => absurd hb (nb_of (nI_nn (by have := (qY_iv hq).2.2.1; omega))), fun hl9 _ _ _ hq => ac_42_0z hl9 hq ho (ek.trans (by decide)) hs⟩
    · exact ⟨fun σ => ((aFits σ (qLow (v >>> ((12 : Int32) &&& 31)) 91) ((qLow (v >>> ((9 : Int32) &&& 31)) 121) - (60 : Int32)) ((1 : Int32) + (qLow (v >>> ((3 : Int32) &&& 31)) 500)) (qLow (v >>> ((11 : Int32) &&& 31)) 3)).toInt64, σ), fun _ _ _ _ _ _ => rfl, fun hl9 _ _ _ hq => ac_42_0n hl9 hq ho (ek.trans (by decide)) hs⟩
  | 43, _ => exact ⟨fun σ => ((aShadow σ (qLow (v >>> ((7 : Int32) &&& 31)) 3) (qLow (v >>> ((5 : Int32) &&& 31)) 360) ((60 : Int32) + (qLow (v >>> ((8 : Int32) &&& 31)) 240)) 1).toInt64, σ), fun _ _ _ _ _ _ => rfl, fun hl9 _ _ _ hq => ac_43_0 hl9 hq ho (ek.trans (by decide))⟩
  | 44, _ => exact ⟨fun σ => ((aShadow σ (qLow (v >>> ((7 : Int32) &&& 31)) 3) (qLow (v >>> ((5 : Int32) &&& 31)) 360) ((60 : Int32) + (qLow (v >>> ((8 : Int32) &&& 31)) 240)) 1).toInt64, σ), fun _ _ _ _ _ _ => rfl, fun hl9 _ _ _ hq => ac_44_0 hl9 hq ho (ek.trans (by decide))⟩
  | 45, _ => exact ⟨fun σ => ((aShadow σ (qLow (v >>> ((7 : Int32) &&& 31)) 3) (qLow (v >>> ((5 : Int32) &&& 31)) 360) ((60 : Int32) + (qLow (v >>> ((8 : Int32) &&& 31)) 240)) 1).toInt64, σ), fun _ _ _ _ _ _ => rfl, fun hl9 _ _ _ hq => ac_45_0 hl9 hq ho (ek.trans (by decide))⟩
  | n + 46, h => exact absurd h (by omega)

set_option maxHeartbeats 4000000 in
set_option maxRecDepth 100000 in
theorem q_act (v : Int32) : ∃ f : QS → Int64 × QS, (∀ (ty : Nat → ClassId) (yd : Nat) (σ : QS) (X : va_W), qY ty yd σ X → isBad (f σ).1 → (f σ).2 = σ) ∧ ∀ {l : Launch} {D : va_G} {ty : Nat → ClassId} {base sz : Nat} (hl9 : l.stackTraces = false) {yd : Nat} {σ : QS} {X : va_W} (hq : qY ty yd σ X), Met l yL_act [.code yL_act cL_act 10 (some (.long))] rmA (yPc D ty base sz X [.ref yd, .int v]) (va_Ql (fun r X' => r = (f σ).1 ∧ qY ty yd (f σ).2 X') (yB D (va_A X sz) (fun X' : va_W => X')) (va_A X sz)) rmA.cells rmA.slots (va_A X sz) := by
  have h := qLow_in v 46 (by decide)
  have e : (46 : Int32).toInt = 46 := by decide
  obtain ⟨k, hk, ek⟩ := i_of (x := qLow v 46) (n := 46) h.1 (by omega) (by decide)
  by_cases ho : qLow (v >>> (26 &&& 31)) 14 = 0
  · exact q_act1 v ho k hk ek
  · exact q_act0 v ho k hk ek
