/-! calls whose answer is a tree of branches -/
def mj_bd (q : mj_R) (k : Option Value → mj_H → mj_R) : mj_R := match q with
  | some (rv, h) => k rv h
  | none => none
theorem bd_s {rv : Option Value} {h : mj_H} {k : Option Value → mj_H → mj_R} : mj_bd (some (rv, h)) k = k rv h := rfl
theorem bd_n {k : Option Value → mj_H → mj_R} : mj_bd none k = none := rfl
theorem bd_d {c : Prop} [Decidable c] {a : c → mj_R} {b : ¬ c → mj_R} {k : Option Value → mj_H → mj_R} : mj_bd (dite c a b) k = dite c (fun q => mj_bd (a q) k) (fun q => mj_bd (b q) k) := by
  by_cases q : c
  · rw [dif_pos q, dif_pos q]
  · rw [dif_neg q, dif_neg q]
theorem bd_i {c : Prop} [Decidable c] {a b : mj_R} {k : Option Value → mj_H → mj_R} : mj_bd (ite c a b) k = dite c (fun _ => mj_bd a k) (fun _ => mj_bd b k) := by
  by_cases q : c
  · rw [if_pos q, dif_pos q]
  · rw [if_neg q, dif_neg q]
section MK
variable {E : mj_E} {df : Nat → List Value} {go : Nat → mj_L → List Value → mj_H → mj_R} {call bi : Nat → List Value → mj_H → mj_R} {is : List mj_I} {loc : mj_L} {st : List Value} {h : mj_H} {x : List Nat} {v : Value}
theorem bd_m {q : mj_R} {r : List Value} : (match q with
    | some (rv, h') => mj_ex E df go call bi is loc (rv.toList ++ r) h'
    | none => none) = mj_bd q (fun rv h' => mj_ex E df go call bi is loc (rv.toList ++ r) h') := by
  cases q <;> rfl
theorem mk_invokevirtual {a mm n ci u : Nat} : mj_ex E df go call bi ((.invokevirtual a, [mm, n, ci, u], v) :: is) loc st h = (match mj_pop n st [] with
    | some (as, r) => if mj_rcv ci as h = true ∧ mj_le4 r = true then mj_bd (call mm as h) (fun rv h' => mj_ex E df go call bi is loc (rv.toList ++ r) h') else none
    | none => none) := by
  rw [ms_invokevirtual]
  cases mj_pop n st [] with
  | none => rfl
  | some q =>
    obtain ⟨as, r⟩ := q
    dsimp only
    generalize call mm as h = q
    cases q <;> rfl
theorem mk_invokespecial {a mm n ci u : Nat} : mj_ex E df go call bi ((.invokespecial a, [mm, n, ci, u], v) :: is) loc st h = (match mj_pop n st [] with
    | some (as, r) => if mj_rcv ci as h = true ∧ mj_le4 r = true then mj_bd (call mm as h) (fun rv h' => mj_ex E df go call bi is loc (rv.toList ++ r) h') else none
    | none => none) := by
  rw [ms_invokespecial]
  cases mj_pop n st [] with
  | none => rfl
  | some q =>
    obtain ⟨as, r⟩ := q
    dsimp only
    generalize call mm as h = q
    cases q <;> rfl
theorem mk_invokestatic {a mm n ci u : Nat} : mj_ex E df go call bi ((.invokestatic a, [mm, n, ci, u], v) :: is) loc st h = (match mj_pop n st [] with
    | some (as, r) => if mj_le4 r = true then mj_bd (call mm as h) (fun rv h' => mj_ex E df go call bi is loc (rv.toList ++ r) h') else none
    | none => none) := by
  rw [ms_invokestatic]
  cases mj_pop n st [] with
  | none => rfl
  | some q =>
    obtain ⟨as, r⟩ := q
    dsimp only
    generalize call mm as h = q
    cases q <;> rfl
theorem mk_builtin {a b n u : Nat} : mj_ex E df go call bi ((.invokedynamic a, [b, n, u], v) :: is) loc st h = (match mj_pop n st [] with
    | some (as, r) => if mj_le4 r = true then mj_bd (bi b as h) (fun rv h' => mj_ex E df go call bi is loc (rv.toList ++ r) h') else none
    | none => none) := by
  rw [ms_builtin]
  cases mj_pop n st [] with
  | none => rfl
  | some q =>
    obtain ⟨as, r⟩ := q
    dsimp only
    generalize bi b as h = q
    cases q <;> rfl
end MK
