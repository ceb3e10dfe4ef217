/-! the world of the law's loop -/
theorem va_D_pw {A : Nat → Prop} {ws : va_W} : va_D A ws ↔ ws.Pairwise (fun x y => x.1 ≠ y.1) ∧ ∀ q ∈ ws, A q.1 := by
  constructor
  · rintro ⟨h1, h2⟩
    refine ⟨List.pairwise_iff_getElem.mpr (fun i j hi hj hij e => ?_), fun q hq => ?_⟩
    · have := h1 i j _ _ (List.getElem?_eq_getElem hi) (List.getElem?_eq_getElem hj) e
      omega
    · obtain ⟨k, hk⟩ := List.getElem?_of_mem hq
      exact h2 k q hk
  · rintro ⟨h1, h2⟩
    refine ⟨fun i j x y hx hy e => ?_, fun k q hk => h2 q (List.mem_of_getElem? hk)⟩
    obtain ⟨hi, ex⟩ := List.getElem?_eq_some_iff.mp hx
    obtain ⟨hj, ey⟩ := List.getElem?_eq_some_iff.mp hy
    have hp := List.pairwise_iff_getElem.mp h1
    rcases Nat.lt_trichotomy i j with q | q | q
    · exact absurd (by rw [ex, ey]; exact e) (hp i j hi hj q)
    · exact q
    · exact absurd (by rw [ex, ey]; exact e.symm) (hp j i hj hi q)
theorem yH.perm {D : va_G} {A : Nat → Prop} {H0 H : Heap} {X X' pl pl' : va_W} {locs : List Loc} (h : yH D A H0 X pl H locs) (hp : (X ++ pl).Perm (X' ++ pl')) : yH D A H0 X' pl' H locs := by
  obtain ⟨h1, h2, h3⟩ := h
  refine ⟨fun k q hk => ?_, ?_, h3⟩
  · obtain ⟨i, hi⟩ := List.getElem?_of_mem (hp.mem_iff.mpr (List.mem_of_getElem? hk))
    exact h1 i q hi
  · rw [va_D_pw] at h2 ⊢
    exact ⟨(hp.pairwise_iff (fun h e => h e.symm)).mp h2.1, fun q hq => h2.2 q (hp.mem_iff.mpr hq)⟩
def rgW (f : Nat → va_W) (n : Nat) : va_W := (List.range n).flatMap f
theorem rg_pick (f : Nat → va_W) {n j : Nat} (hj : j < n) : ∃ R, (rgW f n).Perm (f j ++ R) ∧ ∀ (g : Nat → va_W) (X : va_W), g j = X → (∀ i, i ≠ j → g i = f i) → (rgW g n).Perm (X ++ R) := by
  have hm : j ∈ List.range n := List.mem_range.mpr hj
  have hp : (List.range n).Perm (j :: (List.range n).erase j) := List.perm_cons_erase hm
  have hnd : (List.range n).Nodup := List.nodup_range
  refine ⟨((List.range n).erase j).flatMap f, ?_, fun g X hX hg => ?_⟩
  · exact (hp.flatMap_right f).trans (by rw [List.flatMap_cons])
  · have e : ((List.range n).erase j).flatMap g = ((List.range n).erase j).flatMap f := by
      rw [List.flatMap_def, List.flatMap_def]
      congr 1
      exact List.map_congr_left (fun i hi => hg i (fun q => by rw [q] at hi; exact (hnd.not_mem_erase) hi))
    rw [← e, ← hX]
    exact (hp.flatMap_right g).trans (by rw [List.flatMap_cons])
theorem rg_congr {f g : Nat → va_W} {n : Nat} (h : ∀ i, i < n → g i = f i) : rgW g n = rgW f n := by
  unfold rgW
  rw [List.flatMap_def, List.flatMap_def]
  congr 1
  exact List.map_congr_left (fun i hi => h i (List.mem_range.mp hi))
theorem rg_succ {f : Nat → va_W} {n : Nat} : rgW f (n + 1) = rgW f n ++ f n := by
  unfold rgW
  rw [List.range_succ, List.flatMap_append, List.flatMap_cons, List.flatMap_nil, List.append_nil]
section PK
variable {D : va_G} {A : Nat → Prop} {H0 H : Heap} {X P Q R S P1 Q1 : va_W} {locs : List Loc}
theorem y_pkP (h : yH D A H0 X (P ++ Q) H locs) (hp : P.Perm (P1 ++ R)) : yH D A H0 (X ++ P1) (R ++ Q) H locs := h.perm (by
  rw [List.append_assoc, ← List.append_assoc P1]
  exact (hp.append_right Q).append_left X)
theorem y_upP (h : yH D A H0 (X ++ P1) (R ++ Q) H locs) (hp : P.Perm (P1 ++ R)) : yH D A H0 X (P ++ Q) H locs := h.perm (by
  rw [List.append_assoc, ← List.append_assoc P1]
  exact (hp.symm.append_right Q).append_left X)
theorem y_pkD (h : yH D A H0 X (P ++ Q) H locs) (hq : Q.Perm (Q1 ++ S)) : yH D A H0 (X ++ Q1) (P ++ S) H locs := h.perm (by
  rw [List.append_assoc]
  refine List.Perm.append_left X ((hq.append_left P).trans ?_)
  rw [← List.append_assoc, ← List.append_assoc]
  exact List.perm_append_comm.append_right S)
theorem y_upD (h : yH D A H0 (X ++ Q1) (P ++ S) H locs) (hq : Q.Perm (Q1 ++ S)) : yH D A H0 X (P ++ Q) H locs := h.perm (by
  rw [List.append_assoc]
  refine List.Perm.append_left X (List.Perm.trans ?_ (hq.symm.append_left P))
  rw [← List.append_assoc, ← List.append_assoc]
  exact List.perm_append_comm.append_right S)
/-- a PLACE, a DIAL more -/
theorem y_adP {f g : Nat → va_W} {n : Nat} (h : yH D A H0 (X ++ P1) (rgW f n ++ Q) H locs) (hg : ∀ i, i < n → g i = f i) (h1 : g n = P1) : yH D A H0 X (rgW g (n + 1) ++ Q) H locs := h.perm (by
  rw [rg_succ, rg_congr hg, h1, List.append_assoc]
  refine List.Perm.append_left X ?_
  rw [← List.append_assoc]
  exact List.perm_append_comm.append_right Q)
theorem y_adD {f g : Nat → va_W} {n : Nat} (h : yH D A H0 (X ++ Q1) (P ++ rgW f n) H locs) (hg : ∀ i, i < n → g i = f i) (h1 : g n = Q1) : yH D A H0 X (P ++ rgW g (n + 1)) H locs := h.perm (by
  rw [rg_succ, rg_congr hg, h1, List.append_assoc]
  refine List.Perm.append_left X ?_
  rw [← List.append_assoc P]
  exact List.perm_append_comm)
end PK
def plC (PA : Nat → Nat) (La Me : Nat → Int32) (i : Nat) : va_W := [(PA i, .inr (2, [.int (La i), .int (Me i)]))]
def dlC (ty : Nat → ClassId) (DA DM DS DC mp sp : Nat → Nat) (La Ro Mt Mf St Sf Li : Nat → Int32) (C : Nat → Nat → Int32) (i : Nat) : va_W :=
  [(DA i, .inr (0, [.ref (DM i), .ref (DS i), .int (nI (sp i)), .ref (DC i), .int (Li i)])),
   (DM i, .inr (3, [.int (La (mp i)), .int (Ro i), .long (gSin (Mt i)).toInt64, .long (gCos (Mt i)).toInt64, .long (gSin (Mf i)).toInt64, .long (gCos (Mf i)).toInt64])),
   (DS i, .inr (3, [.int (La (sp i)), .int (Ro i), .long (gSin (St i)).toInt64, .long (gCos (St i)).toInt64, .long (gSin (Sf i)).toInt64, .long (gCos (Sf i)).toInt64])),
   (DC i, .inl (ty 1, 24, .inl (C i)))]
theorem rod_2 {x : Int32} (h : wI x 1 500 = true) : 0 ≤ x.toInt ∧ x.toInt ≤ 500 := by
  have h1 : 1 ≤ x.toInt := (wI_d h).1
  have h2 : x.toInt ≤ 500 := (wI_d h).2
  omega
theorem nt_ok {v : Bool} {k N : Nat} (h : ¬ (v = true ∧ k < N)) : v = true → ¬ k < N := fun q z => h ⟨q, z⟩
theorem bf_of {b : Bool} (h : ¬ b = true) : b = false := by cases b with
  | false => rfl
  | true => exact absurd rfl h
def cut2 (C : Nat → Nat → Int32) (j ho : Nat) : Nat → Nat → Int32 := fun d => if d = j then upd (C j) ho 1 else C d
theorem cut2_self {C : Nat → Nat → Int32} {j ho : Nat} : cut2 C j ho j = upd (C j) ho 1 := if_pos rfl
theorem cut2_ne {C : Nat → Nat → Int32} {j ho d : Nat} (h : d ≠ j) : cut2 C j ho d = C d := if_neg h
def cut0 (C : Nat → Nat → Int32) (j : Nat) : Nat → Nat → Int32 := fun d => if d = j then (fun _ => 0) else C d
theorem cut0_self {C : Nat → Nat → Int32} {j : Nat} : cut0 C j j = fun _ => 0 := if_pos rfl
theorem cut0_ne {C : Nat → Nat → Int32} {j d : Nat} (h : d ≠ j) : cut0 C j d = C d := if_neg h
theorem cut_ic {C : Nat → Nat → Int32} {Ic : Nat → Int32} {j ho : Nat} (h : ∀ d, d < 10 → ∀ h, h < 24 → Ic (24 * d + h) = C d h) (hho : ho < 24) : ∀ d, d < 10 → ∀ h, h < 24 → upd Ic (24 * j + ho) 1 (24 * d + h) = cut2 C j ho d h := by
  intro d hd a ha
  by_cases q : d = j
  · subst q
    rw [cut2_self]
    by_cases z : a = ho
    · rw [z, pk_us, pk_us]
    · rw [pk_un z, pk_un (show 24 * d + a ≠ 24 * d + ho by omega)]; exact h d hd a ha
  · rw [cut2_ne q, pk_un (show 24 * d + a ≠ 24 * j + ho by omega)]; exact h d hd a ha
