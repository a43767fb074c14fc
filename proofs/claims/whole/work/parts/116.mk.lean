/-! calls whose answer is a tree of branches -/
def mj_bx (E : mj_E) (df : Nat → List Value) (go : Nat → mj_L → List Value → mj_H → mj_R) (call bi : Nat → List Value → mj_H → mj_R) (is : List mj_I) (loc : mj_L) (r : List Value) (q : mj_R) : mj_R := match q with
  | some (rv, h) => mj_ex E df go call bi is loc (rv.toList ++ r) h
  | none => none
section MK
variable {E : mj_E} {df : Nat → List Value} {go : Nat → mj_L → List Value → mj_H → mj_R} {call bi : Nat → List Value → mj_H → mj_R} {is : List mj_I} {loc : mj_L} {st : List Value} {h : mj_H} {x : List Nat} {v : Value}
theorem bd_s {rv : Option Value} {h : mj_H} {r : List Value} : mj_bx E df go call bi is loc r (some (rv, h)) = mj_ex E df go call bi is loc (rv.toList ++ r) h := id rfl
theorem bd_n {r : List Value} : mj_bx E df go call bi is loc r none = none := id rfl
theorem bd_d {c : Prop} [Decidable c] {a : c → mj_R} {b : ¬ c → mj_R} {r : List Value} : mj_bx E df go call bi is loc r (dite c a b) = dite c (fun q => mj_bx E df go call bi is loc r (a q)) (fun q => mj_bx E df go call bi is loc r (b q)) := by
  by_cases q : c
  · rw [dif_pos q, dif_pos q]
  · rw [dif_neg q, dif_neg q]
theorem bd_i {c : Prop} [Decidable c] {a b : mj_R} {r : List Value} : mj_bx E df go call bi is loc r (ite c a b) = dite c (fun _ => mj_bx E df go call bi is loc r a) (fun _ => mj_bx E df go call bi is loc r b) := by
  by_cases q : c
  · rw [if_pos q, dif_pos q]
  · rw [if_neg q, dif_neg q]
theorem mk_invokevirtual {a mm n ci u : Nat} : mj_ex E df go call bi ((.invokevirtual a, [mm, n, ci, u], v) :: is) loc st h = (match mj_pop n st [] with
    | some (as, r) => if mj_rcv ci as h = true ∧ mj_le4 r = true then mj_bx E df go call bi is loc r (call mm as h) else none
    | none => none) := by
  rw [ms_invokevirtual]
  cases mj_pop n st [] with
  | none => rfl
  | some q =>
    obtain ⟨as, r⟩ := q
    dsimp only
    generalize call mm as h = q
    cases q <;> rfl
theorem mk_invokespecial {a mm n ci u : Nat} : mj_ex E df go call bi ((.invokespecial a, [mm, n, ci, u], v) :: is) loc st h = (match mj_pop n st [] with
    | some (as, r) => if mj_rcv ci as h = true ∧ mj_le4 r = true then mj_bx E df go call bi is loc r (call mm as h) else none
    | none => none) := by
  rw [ms_invokespecial]
  cases mj_pop n st [] with
  | none => rfl
  | some q =>
    obtain ⟨as, r⟩ := q
    dsimp only
    generalize call mm as h = q
    cases q <;> rfl
theorem mk_invokestatic {a mm n ci u : Nat} : mj_ex E df go call bi ((.invokestatic a, [mm, n, ci, u], v) :: is) loc st h = (match mj_pop n st [] with
    | some (as, r) => if mj_le4 r = true then mj_bx E df go call bi is loc r (call mm as h) else none
    | none => none) := by
  rw [ms_invokestatic]
  cases mj_pop n st [] with
  | none => rfl
  | some q =>
    obtain ⟨as, r⟩ := q
    dsimp only
    generalize call mm as h = q
    cases q <;> rfl
theorem mk_builtin {a mm n u : Nat} : mj_ex E df go call bi ((.invokedynamic a, [mm, n, u], v) :: is) loc st h = (match mj_pop n st [] with
    | some (as, r) => if mj_le4 r = true then mj_bx E df go call bi is loc r (bi mm as h) else none
    | none => none) := by
  rw [ms_builtin]
  cases mj_pop n st [] with
  | none => rfl
  | some q =>
    obtain ⟨as, r⟩ := q
    dsimp only
    generalize bi mm as h = q
    cases q <;> rfl
end MK
