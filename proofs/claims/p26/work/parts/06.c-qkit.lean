/-! whole worlds: a yard as one piece -/
/-- who has the larger room has the smaller -/
theorem q_hr {s : State} {pl : Platform} {ra rb : Room} (k1 : ra.frames ≤ rb.frames) (k2 : ra.locals ≤ rb.locals) (k3 : ra.cells ≤ rb.cells) (k4 : ra.slots ≤ rb.slots) (hb : s.hasRoom pl rb = true) : s.hasRoom pl ra = true := by
  unfold State.hasRoom at hb ⊢
  rw [Bool.and_eq_true, Bool.and_eq_true, Bool.and_eq_true, Bool.and_eq_true] at hb ⊢
  have z1 := of_decide_eq_true hb.1.1.1.1
  have z2 := of_decide_eq_true hb.1.1.1.2
  have z3 := of_decide_eq_true hb.1.1.2
  have z4 := of_decide_eq_true hb.1.2
  exact ⟨⟨⟨⟨decide_eq_true (by omega), decide_eq_true ⟨by omega, by omega, by omega, by omega, z2.2.2.2.2⟩⟩, decide_eq_true (by omega)⟩, decide_eq_true (by omega)⟩, hb.2⟩
/-- a contract serves in a larger room -/
theorem q_room {l : Launch} {y : MethodName} {ws : List Cond} {rm rn : Room} {P : Array Value → State → Prop} {K : Program → Env → List Frame → State → Array Value → Prop} {Q : Array Value → State → Outcome → State → Prop} (hM : MetFree l y (headSpec ws rm) P K Q) (k1 : rm.frames ≤ rn.frames) (k2 : rm.locals ≤ rn.locals) (k3 : rm.cells ≤ rn.cells) (k4 : rm.slots ≤ rn.slots) : MetFree l y (headSpec ws rn) P K Q := by
  intro p e g1 g2 g3 s m args below g4 g5 g6 g7
  refine hM p e g1 g2 g3 s m args below g4 ?_ g6 g7
  rw [Spec.appliesLoose_iff g4] at g5 ⊢
  have z : s.hasRoom e.platform rn = true := g5.2.2.2.2.2.2.1
  have z2 : s.hasRoom e.platform rm = true := q_hr k1 k2 k3 k4 z
  exact ⟨g5.1, g5.2.1, g5.2.2.1, g5.2.2.2.1, g5.2.2.2.2.1, g5.2.2.2.2.2.1, z2, g5.2.2.2.2.2.2.2⟩
section QK
variable {l : Launch} {D : va_G} {ty : Nat → ClassId} {base sz : Nat} {wc wr X : va_W} {As : List Value} {y : MethodName} {ws : List Cond} {rm rn : Room}
theorem q_go {U : State} (hgo : ∀ (A : Nat → Prop) (H0 H : Heap) (locs : List Loc), yH D A H0 X [] H locs → yH D A H0 wc wr H locs) (h : yW D ty base sz X U) : yW D ty base sz wc U ∧ (∀ q, va_A wc sz q → va_A X sz q) ∧ va_P D vwCl wr U.heap ∧ va_D (va_A X sz) (wc ++ wr) := by
  obtain ⟨h1, h2, h3, h4⟩ := h
  have g1 : yH D (yLo base) U.heap wc wr U.heap [] := hgo _ _ _ _ ⟨by rw [List.append_nil]; exact h2, by rw [List.append_nil]; exact h3, va_S.rf⟩
  have g2 : yH D (va_A X sz) U.heap wc wr U.heap [] := hgo _ _ _ _ ⟨by rw [List.append_nil]; exact h2, by rw [List.append_nil]; exact h3.self, va_S.rf⟩
  refine ⟨⟨h1, fun k q hk => g1.1 k q (y_ix hk), ⟨fun i j x z hi hj => g1.2.1.1 i j x z (y_ix hi) (y_ix hj), fun k q hk => g1.2.1.2 k q (y_ix hk)⟩, h4⟩, ?_, ?_, g2.2.1⟩
  · intro q hq
    rcases hq with ⟨k, e, hk⟩ | hq
    · exact g2.2.1.2 k _ (y_ix hk)
    · exact Or.inr hq
  · intro k q hk
    exact g2.1 (wc.length + k) q (by rw [List.getElem?_append_right (Nat.le_add_right _ _), Nat.add_sub_cancel_left]; exact hk)
theorem q_un (hD : va_D (va_A X sz) (wc ++ wr)) {H : Heap} (hz : H.size = sz) (hr : va_P D vwCl wr H) {k : Nat} {q : Nat × va_E} (hk : wr[k]? = some q) : q.1 < H.size ∧ ¬ va_A wc sz q.1 := by
  have hl := (hr k q hk).lt
  refine ⟨hl, fun z => ?_⟩
  rcases z with ⟨i, e, hi⟩ | z
  · have := hD.1 i (wc.length + k) _ q (y_ix hi) (by rw [List.getElem?_append_right (Nat.le_add_right _ _), Nat.add_sub_cancel_left]; exact hk) rfl
    have h2 := (List.getElem?_eq_some_iff.mp hi).1
    omega
  · omega
theorem q_bk {w1 : va_W} {st t : State} (hsub : ∀ q, va_A wc sz q → va_A X sz q) (hr : va_P D vwCl wr st.heap) (hD : va_D (va_A X sz) (wc ++ wr)) (hz : st.heap.size = sz) (hF : va_F (va_A wc sz) st t) (h1 : va_P D vwCl w1 t.heap) (h2 : va_D (va_A wc sz) w1) : yH D (va_A X sz) t.heap w1 wr t.heap [] := by
  refine ⟨h1.app (hr.kept (fun k q hk => ?_)), va_D.app (h2.weaken (fun _ _ _ h => hsub _ h)) ⟨fun i j x z hi hj e => ?_, fun k q hk => ?_⟩ (fun i j x z hi hj e => ?_), va_S.rf⟩
  · have := q_un hD hz hr hk
    exact hF.2 q.1 this.1 this.2
  · have := hD.1 (wc.length + i) (wc.length + j) x z (by rw [List.getElem?_append_right (Nat.le_add_right _ _), Nat.add_sub_cancel_left]; exact hi) (by rw [List.getElem?_append_right (Nat.le_add_right _ _), Nat.add_sub_cancel_left]; exact hj) e
    omega
  · exact hD.2 (wc.length + k) q (by rw [List.getElem?_append_right (Nat.le_add_right _ _), Nat.add_sub_cancel_left]; exact hk)
  · have h3 := (q_un hD hz hr hj).2
    rw [← e] at h3
    exact h3 (h2.2 i x hi)
/-- a contract over some cells serves over the whole world -/
theorem q_widi {S : Type} {post : Int32 → S → Prop} {w1 : S → va_W} {post' : Int32 → va_W → Prop} (hM : Met l y ws rm (yPc D ty base sz wc As) (va_Qi post (yB D (va_A wc sz) w1) (va_A wc sz)) rm.cells rm.slots (va_A wc sz)) (hR : rm.frames ≤ rn.frames ∧ rm.locals ≤ rn.locals ∧ rm.cells ≤ rn.cells ∧ rm.slots ≤ rn.slots)
    (hgo : ∀ (A : Nat → Prop) (H0 H : Heap) (locs : List Loc), yH D A H0 X [] H locs → yH D A H0 wc wr H locs) (hbk : ∀ (r : Int32) (u : S), post r u → ∃ X', post' r X' ∧ ∀ (A : Nat → Prop) (H0 H : Heap) (locs : List Loc), yH D A H0 (w1 u) wr H locs → yH D A H0 X' [] H locs) :
    Met l y ws rn (yPc D ty base sz X As) (va_Qi post' (yB D (va_A X sz) (fun X' : va_W => X')) (va_A X sz)) rn.cells rn.slots (va_A X sz) := by
  refine MetFree.mono (q_room hM hR.1 hR.2.1 hR.2.2.1 hR.2.2.2) (fun a s h => ⟨h.1, (q_go hgo h.2).1⟩) (fun p e below s a h => h) (fun a st o t hP hQ => ?_)
  obtain ⟨⟨⟨r, u, ho, hp, hB1, hB2⟩, hF⟩, L, hFE, hL⟩ := hQ
  obtain ⟨g1, hsub, hr, hD⟩ := q_go hgo hP.2
  obtain ⟨X', hp', hX⟩ := hbk r u hp
  have h9 := hX _ _ _ _ (q_bk hsub hr hD g1.1 hF hB1 hB2)
  refine ⟨⟨⟨r, X', ho, hp', ?_, ?_⟩, hF.1, fun q h1 h2 => hF.2 q h1 (fun z => h2 (hsub q z))⟩, L, ⟨hFE.1, hFE.2.1, hFE.2.2.mono hR.2.2.1 hR.2.2.2⟩, fun q hq => hsub _ (hL q hq)⟩
  · exact fun k q hk => h9.1 k q (y_ix hk)
  · exact ⟨fun i j x z hi hj => h9.2.1.1 i j x z (y_ix hi) (y_ix hj), fun k q hk => h9.2.1.2 k q (y_ix hk)⟩
theorem q_widl {S : Type} {post : Int64 → S → Prop} {w1 : S → va_W} {post' : Int64 → va_W → Prop} (hM : Met l y ws rm (yPc D ty base sz wc As) (va_Ql post (yB D (va_A wc sz) w1) (va_A wc sz)) rm.cells rm.slots (va_A wc sz)) (hR : rm.frames ≤ rn.frames ∧ rm.locals ≤ rn.locals ∧ rm.cells ≤ rn.cells ∧ rm.slots ≤ rn.slots)
    (hgo : ∀ (A : Nat → Prop) (H0 H : Heap) (locs : List Loc), yH D A H0 X [] H locs → yH D A H0 wc wr H locs) (hbk : ∀ (r : Int64) (u : S), post r u → ∃ X', post' r X' ∧ ∀ (A : Nat → Prop) (H0 H : Heap) (locs : List Loc), yH D A H0 (w1 u) wr H locs → yH D A H0 X' [] H locs) :
    Met l y ws rn (yPc D ty base sz X As) (va_Ql post' (yB D (va_A X sz) (fun X' : va_W => X')) (va_A X sz)) rn.cells rn.slots (va_A X sz) := by
  refine MetFree.mono (q_room hM hR.1 hR.2.1 hR.2.2.1 hR.2.2.2) (fun a s h => ⟨h.1, (q_go hgo h.2).1⟩) (fun p e below s a h => h) (fun a st o t hP hQ => ?_)
  obtain ⟨⟨⟨r, u, ho, hp, hB1, hB2⟩, hF⟩, L, hFE, hL⟩ := hQ
  obtain ⟨g1, hsub, hr, hD⟩ := q_go hgo hP.2
  obtain ⟨X', hp', hX⟩ := hbk r u hp
  have h9 := hX _ _ _ _ (q_bk hsub hr hD g1.1 hF hB1 hB2)
  refine ⟨⟨⟨r, X', ho, hp', ?_, ?_⟩, hF.1, fun q h1 h2 => hF.2 q h1 (fun z => h2 (hsub q z))⟩, L, ⟨hFE.1, hFE.2.1, hFE.2.2.mono hR.2.2.1 hR.2.2.2⟩, fun q hq => hsub _ (hL q hq)⟩
  · exact fun k q hk => h9.1 k q (y_ix hk)
  · exact ⟨fun i j x z hi hj => h9.2.1.1 i j x z (y_ix hi) (y_ix hj), fun k q hk => h9.2.1.2 k q (y_ix hk)⟩
/-- a callee that could throw, at arguments at which it doesn't -/
theorem q_nox {S SX : Type} {Qc : Array Value → State → Outcome → State → Prop} {wx : SX → va_W} {px : String → SX → Prop} {Pc : Array Value → State → Prop} {A A2 : Nat → Prop} {mc ms : Nat} (hM : vx_Met l y ws rm Pc Qc (yX D A wx px) mc ms A2) (hno : ∀ E u, ¬ px E u) : Met l y ws rm Pc Qc mc ms A2 := by
  refine MetFree.mono hM (fun a s h => h) (fun p e below s a h => h) (fun a st o t hP hQ => ?_)
  rcases hQ with h | ⟨q, -, E, ce, L, ⟨u, -, hB, -⟩, -⟩
  · exact h
  · exact absurd hB.1 (hno E u)
end QK
section QC
variable {p : Program} {l : Launch} {e : Env} {R : Room} {s : State} {m : MethodId} {args : Array Value} {below : List Frame} {meth : Method} {c : Code} {H : Heap} {locs : List Loc} {cells slots : Nat} {Q : State → Prop}
variable {cc : ByteArray} {pc : Nat} {ls : Array Slot} {rest : List Value} {D : va_G} {ty : Nat → ClassId} {base : Nat} {A : Nat → Prop} {X pl : va_W} {own : String} {mc ms : Nat} {st0 : List Value} {av : Array Value}
theorem q_pre (hG : yGX D ty base s) (h : yH D A s.heap X pl H locs) (hAb : ∀ q, A q → base ≤ q) {As : List Value} (U : State) (hU : U.heap = H) (hW : s.WarmedH U.vm) : yPc D ty base H.size X As As.toArray U := by
  refine ⟨rfl, by rw [hU], ?_, ?_, hG.go hW (by rw [hU]; exact h.2.2.1) (fun q hq => ?_)⟩
  · rw [hU]
    exact fun k q hk => h.1 k q (y_ix hk)
  · exact ⟨fun i j x z hi hj => h.2.1.1 i j x z (y_ix hi) (y_ix hj), fun k q hk => hAb _ (h.2.1.2 k q (y_ix hk))⟩
  · rw [hU]
    exact h.2.2.2.1 q (Nat.lt_of_lt_of_le hq hG.2.2.2.2.2.2.1) (fun z => absurd (hAb q z) (Nat.not_le.mpr hq))
theorem q_preS (hG : yGX D ty base s) (h : yH D A s.heap X pl H locs) (hAb : ∀ q, A q → base ≤ q) {As : List Value} : PreS s H (yPc D ty base H.size X As) As := ⟨yPc_blind, q_pre hG h hAb⟩
theorem q_preV (hG : yGX D ty base s) (h : yH D A s.heap X pl H locs) (hAb : ∀ q, A q → base ≤ q) {b : Nat} {As : List Value} {ci : Nat} {C : String} {T : u_T} {N : Nat} {fs : List Value} {q0 : Nat} (he : X[q0]? = some (b, .inr (ci, fs))) (hc : vwCl[ci]? = some (C, T, N)) : PreV s H C b (yPc D ty base H.size X (.ref b :: As)) As := ⟨yPc_blind, va_recv hG.K h.1 hc (y_ix he), q_pre hG h hAb⟩
theorem q_fr (h : yH D A s.heap X pl H locs) (hA : ∀ q : Nat, s.heap.size ≤ q → A q) : ∀ q, va_A X H.size q → A q := by
  intro q hq
  rcases hq with ⟨k, e, hk⟩ | hq
  · exact h.2.1.2 _ _ (y_ix hk)
  · exact hA q (Nat.le_trans h.2.2.1 hq)
theorem q_back {X' : va_W} {H1 : Heap} {locs1 : List Loc} (h : yH D A s.heap X pl H locs) (hA : ∀ q : Nat, s.heap.size ≤ q → A q) (hk : ∀ q : Nat, q < H.size → ¬ va_A X H.size q → H1[q]? = H[q]?) (hB : va_P D vwCl X' H1 ∧ va_D (va_A X H.size) X') (hS : va_S A s.heap H1 locs1) : yH D A s.heap X' pl H1 locs1 := by
  have hr : va_P D vwCl pl H := fun k q hq => h.1 (X.length + k) q (by rw [List.getElem?_append_right (Nat.le_add_right _ _), Nat.add_sub_cancel_left]; exact hq)
  have hDD : va_D (va_A (X ++ pl) H.size) (X ++ pl) := h.2.1.self
  refine ⟨hB.1.app (hr.kept (fun k q hq => ?_)), va_D.app (hB.2.weaken (fun _ _ _ z => q_fr h hA _ z)) ⟨fun i j x z hi hj e => ?_, fun k q hq => ?_⟩ (fun i j x z hi hj e => ?_), hS⟩
  · have := q_un (X := X ++ pl) hDD rfl hr hq
    exact hk q.1 this.1 this.2
  · have := h.2.1.1 (X.length + i) (X.length + j) x z (by rw [List.getElem?_append_right (Nat.le_add_right _ _), Nat.add_sub_cancel_left]; exact hi) (by rw [List.getElem?_append_right (Nat.le_add_right _ _), Nat.add_sub_cancel_left]; exact hj) e
    omega
  · exact h.2.1.2 (X.length + k) q (by rw [List.getElem?_append_right (Nat.le_add_right _ _), Nat.add_sub_cancel_left]; exact hq)
  · have h3 := (q_un (X := X ++ pl) hDD rfl hr hj).2
    rw [← e] at h3
    exact h3 (hB.2.2 i x hi)
theorem q_calli {post : Int32 → va_W → Prop} (h : yH D A s.heap X pl H locs) (hA : ∀ q : Nat, s.heap.size ≤ q → A q)
    (hr : va_Run p l e R s m args below meth c H locs cells slots mc ms (F0 m pc ls st0) rest (va_Qi post (yB D (va_A X H.size) (fun X' : va_W => X')) (va_A X H.size) av) (va_A X H.size))
    (kk : ∀ (r : Int32) (X' : va_W) (H1 : Heap) (locs1 : List Loc), post r X' → yH D A s.heap X' pl H1 locs1 → W p l e R s m args below meth c H1 locs1 (cells + mc) (slots + ms) Q (F0 m (pc + 3) ls (.int r :: rest))) : W p l e R s m args below meth c H locs cells slots Q (F0 m pc ls st0) :=
  va_calli hr h.2.2 (fun q _ hq => q_fr h hA q hq) (q_fr h hA) (fun r u t H1 locs1 ht _ hp hB _ hk hS => kk r u H1 locs1 hp (q_back h hA hk (by rw [← ht]; exact hB) hS))
theorem q_calll {post : Int64 → va_W → Prop} (h : yH D A s.heap X pl H locs) (hA : ∀ q : Nat, s.heap.size ≤ q → A q)
    (hr : va_Run p l e R s m args below meth c H locs cells slots mc ms (F0 m pc ls st0) rest (va_Ql post (yB D (va_A X H.size) (fun X' : va_W => X')) (va_A X H.size) av) (va_A X H.size))
    (kk : ∀ (r : Int64) (X' : va_W) (H1 : Heap) (locs1 : List Loc), post r X' → yH D A s.heap X' pl H1 locs1 → W p l e R s m args below meth c H1 locs1 (cells + mc) (slots + ms) Q (F0 m (pc + 3) ls (.long r :: rest))) : W p l e R s m args below meth c H locs cells slots Q (F0 m pc ls st0) :=
  va_calll hr h.2.2 (fun q _ hq => q_fr h hA q hq) (q_fr h hA) (fun r u t H1 locs1 ht _ hp hB _ hk hS => kk r u H1 locs1 hp (q_back h hA hk (by rw [← ht]; exact hB) hS))
theorem q_swap {H0 : Heap} (h : yH D A H0 X pl H locs) : yH D A H0 pl X H locs := h.perm List.perm_append_comm
end QC
