/-! clauses read: the class, what is kept -/
def rwA (n : Nat) (f : Int → Int) : mj_C := .inl (0, n, .inl (fun j : Nat => zI (f j)))
section P5997
variable {L : Nat} {xs : Nat → Int32} {E : mj_E} {df : Nat → List Value} {go : Nat → mj_L → List Value → mj_H → mj_R} {call bi : Nat → List Value → mj_H → mj_R} {is : List mj_I} {loc : mj_L} {r : List Value} {H : mj_H} {x : List Nat} {v : Value} {a N : Nat} {f : Int → Int} {d : Nat}
theorem mx_len (ha : H[a]? = some (rwA N f)) : mj_ex E df go call bi ((.arraylength, x, v) :: is) loc (.ref a :: r) H = mj_ex E df go call bi is loc (.int (zI N) :: r) H := by
  rw [ms_arraylength]
  have e : mj_alen E (.ref a :: r) H = some (.int (zI N) :: r) := by
    show (match H[a]? with
      | some (Sum.inl (_, a)) => some (Value.int (Int32.ofNat a.1) :: r)
      | _ => none) = _
    rw [ha]
    rfl
  rw [e]
theorem mx_new {t u : Nat} {ty : ArrayType} {n : Int} (h0 : 0 ≤ n ∧ n ≤ 100000) (ht : t = 0) : mj_ex E df go call bi ((.newarray ty, [t, u], v) :: is) loc (.int (zI n) :: r) H = mj_ex E df go call bi is loc (.ref H.length :: r) (H ++ [rwA n.toNat (fun _ => 0)]) := by
  subst ht
  rw [ms_newarray]
  have e : mj_newa 0 (.int (zI n) :: r) H = some (.ref H.length :: r, H ++ [rwA n.toNat (fun _ => 0)]) := by
    show (if 0 ≤ (zI n).toInt ∧ (zI n).toInt ≤ 100000 then some (Value.ref H.length :: r, H ++ [Sum.inl (0, (zI n).toNatClampNeg, Sum.inl (fun _ => 0))]) else none) = _
    rw [zI_toInt (by omega), if_pos h0, zI_cl (by omega)]
    rfl
  rw [e]
theorem mx_clone (ha : H[a]? = some (rwA N f)) : mj_bi 4 [.ref a] H = some (some (.ref H.length), H ++ [rwA N f]) := by
  show (match H[a]? with
      | some (Sum.inl (0, n, Sum.inl f)) => some (some (Value.ref H.length), H ++ [Sum.inl (0, n, Sum.inl f)])
      | _ => (none : mj_R)) = _
  rw [ha]
  rfl
theorem mx_cast {y : Nat} (ha : H[a]? = some (rwA N f)) : mj_ex E df go call bi ((.checkcast y, x, v) :: is) loc (.ref a :: r) H = mj_ex E df go call bi is loc (.ref a :: r) H := by
  show (match H[a]? with
        | some (Sum.inl (0, _)) => mj_ex E df go call bi is loc (.ref a :: r) H
        | _ => none) = _
  rw [ha]
  rfl
theorem ap_l {x : mj_C} : (H ++ [x])[H.length]? = some x := by
  rw [List.getElem?_append_right (Nat.le_refl _), Nat.sub_self]
  rfl
theorem ap_o {x c : mj_C} (h : H[a]? = some c) : (H ++ [x])[a]? = some c := by
  rw [List.getElem?_append_left, h]
  exact (List.getElem?_eq_some_iff.1 h).1
theorem ap_s {x y : mj_C} : (H ++ [x]).set H.length y = H ++ [y] := by
  rw [List.set_append_right _ _ (Nat.le_refl _), Nat.sub_self]
  rfl

theorem c_copy {n : Int} (ha : H[a]? = some (rwA N f)) (h0 : 0 ≤ n ∧ n ≤ N ∧ N ≤ 100000) : ∃ g : Int → Int, (∀ j : Int, 0 ≤ j ∧ j < n → g j = f j) ∧ mj_ca E mj_bi (d + 1) 377 [.ref a, .int (zI n)] H = some (some (.ref H.length), H ++ [rwA n.toNat g]) := by
  by_cases y : n = N
  · refine ⟨f, fun j _ => rfl, ?_⟩
    have ql := fun E df go call bi x v is loc r => mx_len (E := E) (df := df) (go := go) (call := call) (bi := bi) (x := x) (v := v) (is := is) (loc := loc) (r := r) ha
    have qc := mx_clone ha
    have qk := fun E df go call bi x v is loc r y => mx_cast (E := E) (df := df) (go := go) (call := call) (bi := bi) (x := x) (v := v) (is := is) (loc := loc) (r := r) (y := y) (ap_l (H := H) (x := rwA N f))
    have en : n.toNat = N := by omega
    rw [en]
    subst y
    simp (maxSteps := 2000000) (disch := first | assumption | omega | (and_intros <;> first | assumption | omega) | (simp (disch := omega) only [gre, grc, up_e, up_n] <;> first | assumption | omega | (and_intros <;> first | assumption | omega)) | fail) only [B_377_0, B_377_1, B_377_2, C_377, ms_ldc, ms_istore, ms_lstore, ms_astore, ms_nop, ms_jsr, ms_goto, ms_ifnull, ms_ifnonnull, ms_tsw, ms_lsw, ms_areturn, mk_invokevirtual, mk_invokespecial, mk_invokestatic, mk_builtin, ms_dup, ms_pop, ms_dup2, bd_s, bd_n, bd_d, bd_i, mz_il0, mz_il1, mz_il2, mz_il3, mz_il4, mz_il5, mz_il6, mz_il7, mz_il8, mz_il9, mz_il10, mz_il11, mz_ll1, mz_ll2, mz_ll3, mz_ll4, mz_ll5, mz_ll6, mz_ll7, mz_ll8, mz_al0, mz_al1, mz_al2, mz_al3, mz_al4, mz_al5, mz_al6, mz_al7, mz_al8, mz_al9, mz_al10, mz_al11, mz_iinc, mz_iadd, mz_isub, mz_imul, mz_ladd, mz_lsub, mz_lmul, mz_iand, mz_ior, mz_ishl, mz_ishr, mz_ineg, mz_lneg, mz_idiv, mz_irem, mz_ldiv, mz_lrem, mz_i2l, mz_l2i, mz_ic_eq_t, mz_if_eq_t, mz_ic_eq_f, mz_if_eq_f, mz_ic_ne_t, mz_if_ne_t, mz_ic_ne_f, mz_if_ne_f, mz_ic_lt_t, mz_if_lt_t, mz_ic_lt_f, mz_if_lt_f, mz_ic_ge_t, mz_if_ge_t, mz_ic_ge_f, mz_if_ge_f, mz_ic_gt_t, mz_if_gt_t, mz_ic_gt_f, mz_if_gt_f, mz_ic_le_t, mz_if_le_t, mz_ic_le_f, mz_if_le_f, mz_iret, mz_zret, mz_cret, mz_bret, mz_ret, mz_lret, mz_tswz, mz_i2c, md_lc_eq, md_lc_ne, md_lc_lt, md_lc_ge, md_lc_gt, md_lc_le, mb_max, mb_min, mb_lmax, mb_lmin, mb_6_26, mb_7_27, mb_26_6, mb_27_7, mb_10_30, mb_30_10, mb_10_45, mb_10_20, mb_20_10, mb_10_10, mb_45_45, mb_12_32, mb_13_33, mb_32_12, mb_33_13, mb_16_36, mb_36_16, mb_20_40, mb_40_20, mb_22_42, mb_23_43, mb_42_22, mb_43_23, mb_56_57, md_ic_eq, md_ic_ne, md_ic_lt, md_ic_ge, md_ic_gt, md_ic_le, md_if_eq, md_if_ne, md_if_lt, md_if_ge, md_if_gt, md_if_le, ql, qc, qk, ↓reduceIte, Nat.reduceAdd, Nat.reduceLeDiff, Nat.reduceLT, Nat.reduceEqDiff, Nat.le_refl, Bool.and_self, decide_eq_true_eq, beq_iff_eq, true_or, or_true, and_self, true_and, and_true, reduceCtorEq, if_true, if_false, mj_args, mj_fill, mj_ent, mj_lget, mj_lset, mj_pl, mj_kill, mj_pop, mj_le4, mj_lsum, mj_lw, mj_lw_rf, mj_rcv, mj_pu, mj_c1, mj_ret, mj_rf, List.length_cons, List.length_nil, Option.toList_none, Option.toList_some, List.nil_append, List.cons_append, List.getD_cons_zero, List.getD_cons_succ, List.getD_nil, zI_add, zI_sub, Int.zero_add, Int.add_zero, Int.reduceAdd, Int.reduceSub, Int.reduceMul, Int.reduceNeg, Int.reduceMod, Int.reduceDiv, Int.zero_mul, Int.mul_zero, Int.one_mul, Int.mul_one, Int.sub_zero, gsc, gs_e, gs_i, grc, gre, eq_self, Int.reduceEq, Int.reduceLT, Int.reduceLE, Int.reduceToNat, ne_eq, not_true_eq_false, not_false_eq_true, gs_up, gr_gr, up_e, up_n, up_up, dite_eq_ite, or_self, or_false, false_or, and_false, false_and, not_false_eq_true, not_true_eq_false]
  · refine ⟨cpy f (fun _ => 0) 0 0 n, fun j hj => by rw [cpy_i (by omega)]; congr 1; omega, ?_⟩
    have ql := fun E df go call bi x v is loc r => mx_len (E := E) (df := df) (go := go) (call := call) (bi := bi) (x := x) (v := v) (is := is) (loc := loc) (r := r) ha
    have ql2 := fun E df go call bi x v is loc r => mx_len (E := E) (df := df) (go := go) (call := call) (bi := bi) (x := x) (v := v) (is := is) (loc := loc) (r := r) (ap_o (x := rwA n.toNat (fun _ => 0)) ha)
    have qm := mb_copy (H := H ++ [rwA n.toNat (fun _ => 0)]) (K := H ++ [rwA n.toNat (cpy f (fun _ => 0) 0 0 n)]) (a := a) (b := H.length) (na := N) (nb := n.toNat) (f := f) (g := fun _ => 0) (s := 0) (d := 0) (n := n) (ap_o ha) ap_l ap_s (by omega)
    have em : min (N : Int) n = n := by omega
    have y2 : ¬ n = (N : Int) := y
    simp (maxSteps := 2000000) (disch := first | assumption | omega | (and_intros <;> first | assumption | omega) | (simp (disch := omega) only [gre, grc, up_e, up_n] <;> first | assumption | omega | (and_intros <;> first | assumption | omega)) | fail) only [B_377_0, B_377_1, B_377_2, C_377, ms_ldc, ms_istore, ms_lstore, ms_astore, ms_nop, ms_jsr, ms_goto, ms_ifnull, ms_ifnonnull, ms_tsw, ms_lsw, ms_areturn, mk_invokevirtual, mk_invokespecial, mk_invokestatic, mk_builtin, ms_dup, ms_pop, ms_dup2, bd_s, bd_n, bd_d, bd_i, mz_il0, mz_il1, mz_il2, mz_il3, mz_il4, mz_il5, mz_il6, mz_il7, mz_il8, mz_il9, mz_il10, mz_il11, mz_ll1, mz_ll2, mz_ll3, mz_ll4, mz_ll5, mz_ll6, mz_ll7, mz_ll8, mz_al0, mz_al1, mz_al2, mz_al3, mz_al4, mz_al5, mz_al6, mz_al7, mz_al8, mz_al9, mz_al10, mz_al11, mz_iinc, mz_iadd, mz_isub, mz_imul, mz_ladd, mz_lsub, mz_lmul, mz_iand, mz_ior, mz_ishl, mz_ishr, mz_ineg, mz_lneg, mz_idiv, mz_irem, mz_ldiv, mz_lrem, mz_i2l, mz_l2i, mz_ic_eq_t, mz_if_eq_t, mz_ic_eq_f, mz_if_eq_f, mz_ic_ne_t, mz_if_ne_t, mz_ic_ne_f, mz_if_ne_f, mz_ic_lt_t, mz_if_lt_t, mz_ic_lt_f, mz_if_lt_f, mz_ic_ge_t, mz_if_ge_t, mz_ic_ge_f, mz_if_ge_f, mz_ic_gt_t, mz_if_gt_t, mz_ic_gt_f, mz_if_gt_f, mz_ic_le_t, mz_if_le_t, mz_ic_le_f, mz_if_le_f, mz_iret, mz_zret, mz_cret, mz_bret, mz_ret, mz_lret, mz_tswz, mz_i2c, md_lc_eq, md_lc_ne, md_lc_lt, md_lc_ge, md_lc_gt, md_lc_le, mb_max, mb_min, mb_lmax, mb_lmin, mb_6_26, mb_7_27, mb_26_6, mb_27_7, mb_10_30, mb_30_10, mb_10_45, mb_10_20, mb_20_10, mb_10_10, mb_45_45, mb_12_32, mb_13_33, mb_32_12, mb_33_13, mb_16_36, mb_36_16, mb_20_40, mb_40_20, mb_22_42, mb_23_43, mb_42_22, mb_43_23, mb_56_57, md_ic_eq, md_ic_ne, md_ic_lt, md_ic_ge, md_ic_gt, md_ic_le, md_if_eq, md_if_ne, md_if_lt, md_if_ge, md_if_gt, md_if_le, ql, ql2, mx_new, qm, em, y2, ↓reduceIte, Nat.reduceAdd, Nat.reduceLeDiff, Nat.reduceLT, Nat.reduceEqDiff, Nat.le_refl, Bool.and_self, decide_eq_true_eq, beq_iff_eq, true_or, or_true, and_self, true_and, and_true, reduceCtorEq, if_true, if_false, mj_args, mj_fill, mj_ent, mj_lget, mj_lset, mj_pl, mj_kill, mj_pop, mj_le4, mj_lsum, mj_lw, mj_lw_rf, mj_rcv, mj_pu, mj_c1, mj_ret, mj_rf, List.length_cons, List.length_nil, Option.toList_none, Option.toList_some, List.nil_append, List.cons_append, List.getD_cons_zero, List.getD_cons_succ, List.getD_nil, zI_add, zI_sub, Int.zero_add, Int.add_zero, Int.reduceAdd, Int.reduceSub, Int.reduceMul, Int.reduceNeg, Int.reduceMod, Int.reduceDiv, Int.zero_mul, Int.mul_zero, Int.one_mul, Int.mul_one, Int.sub_zero, gsc, gs_e, gs_i, grc, gre, eq_self, Int.reduceEq, Int.reduceLT, Int.reduceLE, Int.reduceToNat, ne_eq, not_true_eq_false, not_false_eq_true, gs_up, gr_gr, up_e, up_n, up_up, dite_eq_ite, or_self, or_false, false_or, and_false, false_and, not_false_eq_true, not_true_eq_false]
end P5997
