/-! the state of a new object -/
def lt0 (i : Nat) : Nat → Nat := fun j => if j < i then 10000 else 0
theorem lt0_zero : lt0 0 = fun _ => 0 := by funext j; simp [lt0]
theorem lt0_step (i : Nat) : uN (lt0 i) i 10000 = lt0 (i + 1) := by
  funext j
  by_cases h : j = i
  · subst h; rw [uN_s]; simp [lt0]
  · rw [uN_n h]
    unfold lt0
    by_cases h2 : j < i
    · rw [if_pos h2, if_pos (by omega)]
    · rw [if_neg h2, if_neg (by omega)]
def σ_0 : St := setS (setS (fun _ _ => 0) 4 (lt0 6)) 12 (fun _ => 1)
theorem sI_0 : sI σ_0 := by
  refine ⟨Nat.zero_le _, Nat.zero_le _, Nat.le_refl _, Nat.zero_le _, fun f hf => ?_, fun r hr => absurd hr (Nat.not_lt_zero r), fun q _ => ⟨Nat.le_refl _, fun r hr => ?_⟩, fun i hi => absurd hi (Nat.not_lt_zero i)⟩
  · show lt0 6 f ≤ 10000
    unfold lt0
    split <;> omega
  · have h9 : (0 : Nat) = r + 1 := hr
    omega
theorem xI_0 : xI σ_0 (fun _ => 0) (fun _ => 0) := fun q _ => by
  show seg _ 0 (chn σ_0 q 0)
  rfl
theorem xJ_0 : xJ σ_0 (fun _ => 0) (fun _ => 0) := ⟨fun _ => Nat.le_refl _, fun _ => Nat.le_refl _, fun _ => Nat.le_refl _⟩
theorem kEqO {D : va_G} {cl : List vw_C} {tys : List (ClassId × FieldType)} {U : State} {C : String} {i j : Nat} {cA cB : ClassId} (h : va_K D cl tys U) (hi : tys[i]? = some (cA, .object C)) (hj : tys[j]? = some (cB, .object C)) : cB = cA := by
  obtain ⟨k1, c1, -, -, -, h1⟩ := (h.2 i _ hi).2
  obtain ⟨k2, c2, -, -, -, h2⟩ := (h.2 j _ hj).2
  exact Option.some.inj (h2.symm.trans h1)
theorem kEqI {D : va_G} {cl : List vw_C} {tys : List (ClassId × FieldType)} {U : State} {i j : Nat} {cA cB : ClassId} (h : va_K D cl tys U) (hi : tys[i]? = some (cA, .int)) (hj : tys[j]? = some (cB, .int)) : cB = cA := by
  have h1 : U.vm.findClass ("[" ++ (FieldType.int).toString) = some cA := (h.2 i _ hi).2
  have h2 : U.vm.findClass ("[" ++ (FieldType.int).toString) = some cB := (h.2 j _ hj).2
  exact Option.some.inj (h2.symm.trans h1)
theorem lt_chain : uN (uN (uN (uN (uN (uN (fun _ => 0) 0 10000) 1 10000) 2 10000) 3 10000) 4 10000) 5 10000 = lt0 6 := by
  rw [← lt0_zero, lt0_step, lt0_step, lt0_step, lt0_step, lt0_step, lt0_step]
