section YC
variable {p : Program} {l : Launch} {e : Env} {R : Room} {s : State} {m : MethodId} {args : Array Value} {below : List Frame} {meth : Method} {c : Code} {H : Heap} {locs : List Loc} {cells slots : Nat} {Q : State → Prop}
variable {pc : Nat} {ls : Array Slot} {rest : List Value} {D : va_G} {ty : Nat → ClassId} {base : Nat}
theorem y_lk {k : Nat} {E : String} (hG : yGX D ty base s) (h : (k = 32 ∧ E = xIX) ∨ (k = 13 ∧ E = xIA) ∨ (k = 26 ∧ E = xIS)) : yOK s (.classLink RL k E) ∧ yOK s (.castable E E) ∧ k ≠ 0 := by
  rcases h with ⟨rfl, rfl⟩ | ⟨rfl, rfl⟩ | ⟨rfl, rfl⟩
  · exact ⟨kw_2_165 hG, kw_2_176 hG, by decide⟩
  · exact ⟨kw_1_227 hG, kw_2_2 hG, by decide⟩
  · exact ⟨kw_2_127 hG, kw_2_134 hG, by decide⟩
/-- the law catches -/
theorem y_catch {E : String} {ce : Cell} {q : Addr} {tb pre suf : List (Nat × Nat × Nat × Nat)} {x : Nat × Nat × Nat × Nat} (hown : s.vm.findClass RL = some m.cls) (hG : yGX D ty base s) (htab : c.exceptionTable.toList = tableOf tb) (hs : tb = pre ++ x :: suf)
    (hpre : ∀ z ∈ pre, ∃ N, ((z.2.2.2 = 32 ∧ N = xIX) ∨ (z.2.2.2 = 13 ∧ N = xIA) ∨ (z.2.2.2 = 26 ∧ N = xIS)) ∧ (E, N) ∈ yNcs) (hx : (x.2.2.2 = 32 ∧ E = xIX) ∨ (x.2.2.2 = 13 ∧ E = xIA) ∨ (x.2.2.2 = 26 ∧ E = xIS))
    (hcov : covers ⟨x.1, x.2.1, x.2.2.1, x.2.2.2⟩ pc = true) (hcell : H[q]? = some ce) (hv : ce.vm = .none) (hcl : s.vm.findClass E = some ce.cls)
    (kk : W p l e R s m args below meth c H locs cells slots Q (F0 m x.2.2.1 ls [.ref q])) : vx_W p l e R s m args below meth c H locs cells slots Q (F0 m pc ls rest) q := by
  refine vx_catch (own := RL) (name := E) hown (tableOf pre) ⟨x.1, x.2.1, x.2.2.1, x.2.2.2⟩ (tableOf suf) ?_ ?_ hcov (y_lk hG hx).2.2 (y_lk hG hx).1.b (y_lk hG hx).2.1.b hcell hv hcl kk
  · rw [htab, hs]
    unfold tableOf
    rw [List.map_append]; rfl
  · intro z hz
    unfold tableOf at hz
    obtain ⟨z2, hz2, rfl⟩ := List.mem_map.mp hz
    obtain ⟨N, h1, h2⟩ := hpre z2 hz2
    exact Or.inr ⟨(y_lk hG h1).2.2, N, (y_lk hG h1).1.b, hG.2.2.2.2.2.1 _ h2⟩
end YC
theorem pre_0 {P : Nat × Nat × Nat × Nat → Prop} : ∀ z ∈ ([] : List (Nat × Nat × Nat × Nat)), P z := fun _ h => nomatch h
theorem pre_1 {P : Nat × Nat × Nat × Nat → Prop} {x : Nat × Nat × Nat × Nat} (h : P x) : ∀ z ∈ [x], P z := fun z hz => by
  rw [List.mem_singleton.mp hz]; exact h
theorem pre_2 {P : Nat × Nat × Nat × Nat → Prop} {x y : Nat × Nat × Nat × Nat} (h : P x) (h2 : P y) : ∀ z ∈ [x, y], P z := fun z hz => by
  rcases List.mem_cons.mp hz with rfl | hz
  · exact h
  · rw [List.mem_singleton.mp hz]; exact h2
theorem kl_ok {v b : Bool} {w : Int32} (h : v = true) (h2 : ¬ w = 0 → b = true) : 0 = kL v w b := by
  by_cases q : w = 0
  · exact kL_0 h q
  · exact kL_y h (h2 q)
theorem kf_ok {v : Bool} {w c : Int32} (h : v = true) (h2 : ¬ w = 0 → ¬ c = 0) : 0 = kF v w c := by
  by_cases q : w = 0
  · exact kF_0 h q
  · exact kF_y h (h2 q)
theorem vf_uds {α : Type} {f : Nat → α} {k : Nat} {x : α} : vf_upd f k x k = x := if_pos rfl
