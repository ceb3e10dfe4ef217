/-! what stays, out of the start -/
theorem st_arr {ft : FieldType} {U : State} {args : Array Value} (hft : ∀ C, ft ≠ .object C) (h : (Cond.arrayClass ft).before args U = true) : ∃ cA : ClassId, ArrOfT U cA ft ∧ va_RA U cA ft := by
  obtain ⟨cA, kA, comp, h1, h2, h3⟩ := Cond.arrayClass_spec h
  refine ⟨cA, fun n z => ⟨fun k h => (by cases h), kA, h2, comp, h3⟩, ?_⟩
  cases ft with
  | object C => exact absurd rfl (hft C)
  | _ => exact h1
theorem st_arq {C : String} {U : State} {args : Array Value} (h : (Cond.arrayOver (.object C)).before args U = true) : ∃ cA : ClassId, ArrOfT U cA (.object C) ∧ va_RA U cA (.object C) := by
  obtain ⟨comp, cA, kA, h1, h2, h3, h4, h5⟩ := Cond.arrayOver_spec h
  exact ⟨cA, fun n z => ⟨fun k h => (by cases h), kA, h3, comp, h4⟩, kA, comp, h3, h4, h1, h5⟩
theorem st_cls : ∀ q ∈ vwCl, (∀ w ∈ u_ws q.1 q.2.1 q.2.2, w ∈ lw_tbl) ∧ Cond.instantiable q.1 q.2.2 ∈ lw_tbl := by decide +kernel
theorem st_str : ∀ q ∈ yStrs, Cond.stringRef RX7 q.1 q.2 ∈ lw_tbl ∧ Cond.exactly (Term.string RX7 q.1) "java/lang/String" ∈ flatC (Jvm.Cond.and given_1 narrow_1) := by decide +kernel
theorem st_nc : ∀ q ∈ yNcs, Cond.not (.castable q.1 q.2) ∈ flatC (Jvm.Cond.and given_1 narrow_1) := by decide +kernel
theorem st_w1 : Cond.laysStatic Bundle.tN "UNASSIGNED_STACK" Bundle.steD ∈ lw_tbl ∧ Cond.initialized Bundle.tN ∈ lw_tbl ∧ Cond.isRef (.static Bundle.tN "UNASSIGNED_STACK" Bundle.steD) ∈ flatC (Jvm.Cond.and given_1 narrow_1) := by decide +kernel
theorem st_w2 : Cond.laysStatic Bundle.tN "SUPPRESSED_SENTINEL" Bundle.listD ∈ lw_tbl ∧ Cond.isRef (.static Bundle.tN "SUPPRESSED_SENTINEL" Bundle.listD) ∈ flatC (Jvm.Cond.and given_1 narrow_1) := by decide +kernel
theorem st_w3 : Cond.laysStatic RX7 "DAYS_OF_TRIAL" "[I" ∈ lw_tbl ∧ Cond.initialized RX7 ∈ lw_tbl := by decide +kernel
theorem st_w4 : Cond.arrayOf (.static RX7 "DAYS_OF_TRIAL" "[I") .int ∈ flatC (Jvm.Cond.and given_1 narrow_1) ∧ Cond.eq (.length (.static RX7 "DAYS_OF_TRIAL" "[I")) (.int 3) ∈ flatC (Jvm.Cond.and given_1 narrow_1) := by decide +kernel
theorem st_w5 : ∀ j, j < 3 → Cond.eq (.elem (.static RX7 "DAYS_OF_TRIAL" "[I") (.int (Int32.ofNat j))) (.int (yDays j)) ∈ flatC (Jvm.Cond.and given_1 narrow_1) := by decide +kernel
theorem st_w6 : Cond.arrayClass .int ∈ lw_tbl ∧ Cond.arrayClass .boolean ∈ lw_tbl ∧ Cond.arrayClass .int ∈ lw_tbl ∧ Cond.arrayClass .int ∈ lw_tbl ∧ Cond.arrayOver (.object "GnomonYard$Place") ∈ lw_tbl ∧ Cond.arrayOver (.object "GnomonYard$Dial") ∈ lw_tbl ∧ Cond.arrayOver (.object "GnomonYard$Trace") ∈ lw_tbl := by decide +kernel
theorem yG_of {s : State} {b : Nat} (hts : ∀ w ∈ lw_tbl, w.before #[Value.ref b] s = true) (hgv : (Jvm.Cond.and given_1 narrow_1).before #[Value.ref b] s = true) : ∃ (D : va_G) (ty : Nat → ClassId), yGX D ty s.heap.size s := by
  have hs := flat_of_before _ hgv
  have hA : ∀ a : Nat, a < s.heap.size → ¬ yLo s.heap.size a := fun a h q => absurd h (Nat.not_lt.mpr q)
  have hcl : ∀ k : Nat, ∃ q : ClassId × (Nat → Nat), ∀ r : vw_C, vwCl[k]? = some r → u_Kn s r.1 r.2.1 r.2.2 q.1 q.2 := by
    intro k
    cases e : vwCl[k]? with
    | none => exact ⟨(0, fun _ => 0), fun r hr => nomatch hr⟩
    | some r =>
      obtain ⟨h1, h2⟩ := st_cls r (List.mem_of_getElem? e)
      obtain ⟨c0, i0, hK⟩ := u_known hts h1 (hts _ h2)
      exact ⟨(c0, i0), fun r' hr => by cases hr; exact hK⟩
  obtain ⟨dd, hdd⟩ := Classical.axiomOfChoice hcl
  obtain ⟨w0, w1, w2, w3, w4, w5, w6⟩ := st_w6
  obtain ⟨t0, g0⟩ := st_arr (ft := .int) (fun C q => nomatch q) (hts _ w0)
  obtain ⟨t1, g1⟩ := st_arr (ft := .boolean) (fun C q => nomatch q) (hts _ w1)
  obtain ⟨t2, g2⟩ := st_arr (ft := .int) (fun C q => nomatch q) (hts _ w2)
  obtain ⟨t3, g3⟩ := st_arr (ft := .int) (fun C q => nomatch q) (hts _ w3)
  obtain ⟨t4, g4⟩ := st_arq (hts _ w4)
  obtain ⟨t5, g5⟩ := st_arq (hts _ w5)
  obtain ⟨t6, g6⟩ := st_arq (hts _ w6)
  obtain ⟨t, ht, hT⟩ := va_Tof (tm := .static RX7 "DAYS_OF_TRIAL" "[I") (ty := .int) (N := 3) (f := fun j => .int (yDays j)) (A := yLo s.heap.size) (by decide) (hs _ st_w4.1) (va_eqt (hs _ st_w4.2)) (fun j hj => va_eqt (hs _ (st_w5 j hj))) hA
  refine ⟨(fun k => (dd k).1, fun k => (dd k).2), fun k => [t0, t1, t2, t3, t4, t5, t6].getD k 0, ⟨fun k r hr => hdd k r hr, fun k q hq => ?_⟩, fun w hw hg => yOK.of hg (hts w hw), fun q hq => ?_, ⟨vx_Zqof (hts _ st_w1.1) (hts _ st_w1.2.1) (hs _ st_w1.2.2) hA, vx_Zqof (hts _ st_w2.1) (hts _ st_w1.2.1) (hs _ st_w2.2) hA⟩, ⟨t, va_Zref (hts _ st_w3.1) (hts _ st_w3.2) ht hA, hT⟩, fun q hq => va_Nc.of (hs _ (st_nc q hq)), Nat.le_refl _, va_AO.of (hts _ w4), va_AO.of (hts _ w5), va_AO.of (hts _ w6)⟩
  · match k, hq with
    | 0, hq => cases hq; exact g0
    | 1, hq => cases hq; exact g1
    | 2, hq => cases hq; exact g2
    | 3, hq => cases hq; exact g3
    | 4, hq => cases hq; exact g4
    | 5, hq => cases hq; exact g5
    | 6, hq => cases hq; exact g6
    | k + 7, hq => simp [yT] at hq
  · obtain ⟨h1, h2⟩ := st_str q hq
    obtain ⟨a, c, cA, kA, q1, -⟩ := Cond.exactly_spec (args := #[Value.ref b]) (first := s) (o := none) (s := s) (idx := []) (hs _ h2)
    exact ⟨a, vk_R.of (hts _ h1) q1⟩
