/-! the start, and the law's run from its first block to its end -/
def zz : Int → Int := fun _ => 0
def g_6 : Int → Int := (up (up (up (up (up (up (up (up (fun _ => 0) 0 0) 1 1) 2 2) 3 3) 4 4) 5 5) 6 6) 7 7)
def g_10 : Int → Int := up (fun _ => 0) 2 383
def g_60 : Int → Int := (up (up (up (up (up (up (up (up (up (up (fun _ => 0) 9 383) 2 (-1)) 41 0) 42 1) 43 2) 44 3) 45 4) 46 5) 47 6) 48 7)
def G0 : gT := fun c => if c = 6 ∨ c = 26 then g_6 else if c = 10 ∨ c = 30 ∨ c = 45 then g_10 else if c = 4 ∨ c = 24 then up (fun _ => 0) 10 (-1) else if c = 51 then up (up (fun _ => 0) 8 (-1)) 9 (-1) else if c = 59 then up (up (up (fun _ => 0) 5 (-1)) 6 (-1)) 23 1 else if c = 60 then g_60 else zz
def ro0 : rT := fun _ _ => none
def Gs : gT := gr G0 61 (rng 0 1763 (G0 60) (G0 61))
section P5k
variable {E : mj_E} {d : Nat}
set_option maxRecDepth 100000 in
theorem m_made : mj_ca E mj_bi (d + 2) 226 [.ref 59] [hc_0, hc_1, hc_2, hc_3, hc_4, hc_5, hc_6, hc_7, hc_8, hc_9, hc_10, hc_11, hc_12, hc_13, hc_14, hc_15, hc_16, hc_17, hc_18, hc_19, hc_20, hc_21, hc_22, hc_23, hc_24, hc_25, hc_26, hc_27, hc_28, hc_29, hc_30, hc_31, hc_32, hc_33, hc_34, hc_35, hc_36, hc_37, hc_38, hc_39, hc_40, hc_41, hc_42, hc_43, hc_44, hc_45, hc_46, hc_47, hc_48, hc_49, hc_50, hc_51, hc_52, hc_53, hc_54, hc_55, hc_56, hc_57, hc_58, .inr (12, [.null, .null, .null, .null, .int 0, .int 0, .int 0, .int 0, .int 0, .int 0, .int 0, .long 0, .int 0, .int 0, .int 0, .null, .int 0, .int 0, .int 0, .int 0, .null, .null, .null, .int 0, .int 0, .null, .null, .null, .null, .null, .null, .null, .null])] = some (none, mj_HN Gs ro0 []) := by
  simp (maxSteps := 2000000) (disch := first | assumption | omega | (and_intros <;> first | assumption | omega) | (simp (disch := omega) only [gre, grc, up_e, up_n] <;> first | assumption | omega | (and_intros <;> first | assumption | omega)) | fail) only [B_226_0, B_226_1, B_226_2, C_226, ms_ldc, ms_istore, ms_lstore, ms_astore, ms_nop, ms_jsr, ms_goto, ms_ifnull, ms_ifnonnull, ms_tsw, ms_lsw, ms_areturn, mk_invokevirtual, mk_invokespecial, mk_invokestatic, mk_builtin, ms_dup, ms_pop, ms_dup2, bd_s, bd_n, bd_d, bd_i, mz_il0, mz_il1, mz_il2, mz_il3, mz_il4, mz_il5, mz_il6, mz_il7, mz_il8, mz_il9, mz_il10, mz_il11, mz_ll1, mz_ll2, mz_ll3, mz_ll4, mz_ll5, mz_ll6, mz_ll7, mz_ll8, mz_al0, mz_al1, mz_al2, mz_al3, mz_al4, mz_al5, mz_al6, mz_al7, mz_al8, mz_al9, mz_al10, mz_al11, mz_iinc, mz_iadd, mz_isub, mz_imul, mz_ladd, mz_lsub, mz_lmul, mz_iand, mz_ior, mz_ishl, mz_ishr, mz_ineg, mz_lneg, mz_idiv, mz_irem, mz_ldiv, mz_lrem, mz_i2l, mz_l2i, mz_ic_eq_t, mz_if_eq_t, mz_ic_eq_f, mz_if_eq_f, mz_ic_ne_t, mz_if_ne_t, mz_ic_ne_f, mz_if_ne_f, mz_ic_lt_t, mz_if_lt_t, mz_ic_lt_f, mz_if_lt_f, mz_ic_ge_t, mz_if_ge_t, mz_ic_ge_f, mz_if_ge_f, mz_ic_gt_t, mz_if_gt_t, mz_ic_gt_f, mz_if_gt_f, mz_ic_le_t, mz_if_le_t, mz_ic_le_f, mz_if_le_f, mz_iret, mz_zret, mz_cret, mz_bret, mz_ret, mz_lret, mz_tswz, mz_i2c, md_lc_eq, md_lc_ne, md_lc_lt, md_lc_ge, md_lc_gt, md_lc_le, mb_max, mb_min, mb_lmax, mb_lmin, mb_6_26, mb_7_27, mb_26_6, mb_27_7, mb_10_30, mb_30_10, mb_10_45, mb_10_20, mb_20_10, mb_10_10, mb_45_45, mb_12_32, mb_13_33, mb_32_12, mb_33_13, mb_16_36, mb_36_16, mb_20_40, mb_40_20, mb_22_42, mb_23_43, mb_42_22, mb_43_23, mb_56_57, md_ic_eq, md_ic_ne, md_ic_lt, md_ic_ge, md_ic_gt, md_ic_le, md_if_eq, md_if_ne, md_if_lt, md_if_ge, md_if_gt, md_if_le, ms_new, ms_objinit, ms_putfield, mj_put, ms_getfield, mj_get, ms_aload, mx_newi, mx_newc, mx_newb, mx_newl, mx_newr, fit_r, fit_n, fit_i, fit_b, df_0, df_1, df_2, df_3, df_4, df_5, df_6, df_7, df_8, df_10, df_11, df_12, ll_0, ll_1, ll_2, ll_3, ll_4, ll_5, ll_6, ll_7, ll_8, ll_9, ll_10, ll_11, ll_12, ll_13, ll_14, ll_15, ll_16, ll_17, ll_18, ll_19, ll_20, ll_21, ll_22, ll_23, ll_24, ll_25, ll_26, ll_27, ll_28, ll_29, ll_30, ll_31, ll_32, ll_33, ll_34, ll_35, ll_36, ll_37, ll_38, ll_39, ll_40, ll_41, ll_42, ll_43, ll_44, ll_45, ll_46, ll_47, ll_48, ll_49, ll_50, ll_51, ll_52, ll_53, ll_54, ll_55, ll_56, ll_57, ll_58, ll_59, ll_60, ll_61, ll_62, ll_63, ll_64, ll_65, ll_66, ll_67, ll_68, ll_69, ll_70, ll_71, ll_72, ll_73, ll_74, ll_75, ll_76, la_0, la_1, la_2, la_3, la_4, la_5, la_6, la_7, la_8, la_9, la_10, la_11, la_12, la_13, la_14, la_15, la_16, la_17, la_18, la_19, la_20, la_21, la_22, la_23, la_24, la_25, la_26, la_27, la_28, la_29, la_30, la_31, la_32, la_33, la_34, la_35, la_36, la_37, la_38, la_39, la_40, la_41, la_42, la_43, la_44, la_45, la_46, la_47, la_48, la_49, la_50, la_51, la_52, la_53, la_54, la_55, la_56, la_57, la_58, la_59, la_60, la_61, la_62, la_63, la_64, la_65, la_66, la_67, la_68, la_69, la_70, la_71, la_72, la_73, la_74, la_75, lg_0, lg_1, lg_2, lg_3, lg_4, lg_5, lg_6, lg_7, lg_8, lg_9, lg_10, lg_11, lg_12, lg_13, lg_14, lg_15, lg_16, lg_17, lg_18, lg_19, lg_20, lg_21, lg_22, lg_23, lg_24, lg_25, lg_26, lg_27, lg_28, lg_29, lg_30, lg_31, lg_32, lg_33, lg_34, lg_35, lg_36, lg_37, lg_38, lg_39, lg_40, lg_41, lg_42, lg_43, lg_44, lg_45, lg_46, lg_47, lg_48, lg_49, lg_50, lg_51, lg_52, lg_53, lg_54, lg_55, lg_56, lg_57, lg_58, lg_59, lg_60, lg_61, lg_62, lg_63, lg_64, lg_65, lg_66, lg_67, lg_68, lg_69, lg_70, lg_71, lg_72, lg_73, lg_74, lg_75, ls_0, ls_1, ls_2, ls_3, ls_4, ls_5, ls_6, ls_7, ls_8, ls_9, ls_10, ls_11, ls_12, ls_13, ls_14, ls_15, ls_16, ls_17, ls_18, ls_19, ls_20, ls_21, ls_22, ls_23, ls_24, ls_25, ls_26, ls_27, ls_28, ls_29, ls_30, ls_31, ls_32, ls_33, ls_35, ls_39, ls_44, ls_45, ls_46, ls_51, ls_54, ls_59, ls_60, st_6, st_26, st_10, st_30, st_45, st_60, ↓reduceIte, Nat.reduceAdd, Nat.reduceLeDiff, Nat.reduceLT, Nat.reduceEqDiff, Nat.le_refl, Bool.and_self, decide_eq_true_eq, beq_iff_eq, true_or, or_true, and_self, true_and, and_true, reduceCtorEq, if_true, if_false, mj_args, mj_fill, mj_ent, mj_lget, mj_lset, mj_pl, mj_kill, mj_pop, mj_le4, mj_lsum, mj_lw, mj_lw_rf, mj_rcv, mj_pu, mj_c1, mj_ret, mj_rf, List.length_cons, List.length_nil, Option.toList_none, Option.toList_some, List.nil_append, List.cons_append, List.getD_cons_zero, List.getD_cons_succ, List.getD_nil, zI_add, zI_sub, Int.zero_add, Int.add_zero, Int.reduceAdd, Int.reduceSub, Int.reduceMul, Int.reduceNeg, Int.reduceMod, Int.reduceDiv, Int.zero_mul, Int.mul_zero, Int.one_mul, Int.mul_one, Int.sub_zero, gsc, gs_e, gs_i, grc, gre, eq_self, Int.reduceEq, Int.reduceLT, Int.reduceLE, Int.reduceToNat, ne_eq, not_true_eq_false, not_false_eq_true, gs_up, gr_gr, up_e, up_n, up_up, dite_eq_ite, or_self, or_false, false_or, and_false, false_and, not_false_eq_true, not_true_eq_false]
  change mj_gi E mj_bi (d + 1) 226 3 [some (.ref 59), some (.int (zI 8))] [] (mj_HN G0 ro0 []) = some (none, mj_HN Gs ro0 [])
  have q := m_copy_im (E := E) (G := G0) (ro := ro0) (tl := []) (d := d)
  unfold Gs
  simp (maxSteps := 2000000) (disch := first | assumption | omega | (and_intros <;> first | assumption | omega) | (simp (disch := omega) only [gre, grc, up_e, up_n] <;> first | assumption | omega | (and_intros <;> first | assumption | omega)) | fail) only [B_226_0, B_226_1, B_226_2, B_226_3, C_226, ms_ldc, ms_istore, ms_lstore, ms_astore, ms_nop, ms_jsr, ms_goto, ms_ifnull, ms_ifnonnull, ms_tsw, ms_lsw, ms_areturn, mk_invokevirtual, mk_invokespecial, mk_invokestatic, mk_builtin, ms_dup, ms_pop, ms_dup2, bd_s, bd_n, bd_d, bd_i, mz_il0, mz_il1, mz_il2, mz_il3, mz_il4, mz_il5, mz_il6, mz_il7, mz_il8, mz_il9, mz_il10, mz_il11, mz_ll1, mz_ll2, mz_ll3, mz_ll4, mz_ll5, mz_ll6, mz_ll7, mz_ll8, mz_al0, mz_al1, mz_al2, mz_al3, mz_al4, mz_al5, mz_al6, mz_al7, mz_al8, mz_al9, mz_al10, mz_al11, mz_iinc, mz_iadd, mz_isub, mz_imul, mz_ladd, mz_lsub, mz_lmul, mz_iand, mz_ior, mz_ishl, mz_ishr, mz_ineg, mz_lneg, mz_idiv, mz_irem, mz_ldiv, mz_lrem, mz_i2l, mz_l2i, mz_ic_eq_t, mz_if_eq_t, mz_ic_eq_f, mz_if_eq_f, mz_ic_ne_t, mz_if_ne_t, mz_ic_ne_f, mz_if_ne_f, mz_ic_lt_t, mz_if_lt_t, mz_ic_lt_f, mz_if_lt_f, mz_ic_ge_t, mz_if_ge_t, mz_ic_ge_f, mz_if_ge_f, mz_ic_gt_t, mz_if_gt_t, mz_ic_gt_f, mz_if_gt_f, mz_ic_le_t, mz_if_le_t, mz_ic_le_f, mz_if_le_f, mz_iret, mz_zret, mz_cret, mz_bret, mz_ret, mz_lret, mz_tswz, mz_i2c, md_lc_eq, md_lc_ne, md_lc_lt, md_lc_ge, md_lc_gt, md_lc_le, mb_max, mb_min, mb_lmax, mb_lmin, mb_6_26, mb_7_27, mb_26_6, mb_27_7, mb_10_30, mb_30_10, mb_10_45, mb_10_20, mb_20_10, mb_10_10, mb_45_45, mb_12_32, mb_13_33, mb_32_12, mb_33_13, mb_16_36, mb_36_16, mb_20_40, mb_40_20, mb_22_42, mb_23_43, mb_42_22, mb_43_23, mb_56_57, md_ic_eq, md_ic_ne, md_ic_lt, md_ic_ge, md_ic_gt, md_ic_le, md_if_eq, md_if_ne, md_if_lt, md_if_ge, md_if_gt, md_if_le, mz_g59_0, mz_g59_1, mz_g59_2, mz_g59_3, mz_g59_4, mz_p59_4, mz_g59_5, mz_p59_5, mz_g59_6, mz_p59_6, mz_g59_7, mz_p59_7, mz_g59_8, mz_p59_8, mz_g59_9, mz_p59_9, mz_g59_10, mz_p59_10, mz_g59_11, mz_p59_11, mz_g59_12, mz_p59_12, mz_g59_13, mz_p59_13, mz_g59_14, mz_p59_14, mz_g59_15, mz_g59_16, mz_p59_16, mz_g59_17, mz_p59_17, mz_g59_18, mz_p59_18, mz_g59_19, mz_p59_19, mz_g59_20, mz_g59_21, mz_g59_22, mz_g59_23, mz_p59_23, mz_g59_24, mz_p59_24, mz_g59_25, mz_g59_26, mz_g59_27, mz_g59_28, mz_g59_29, mz_g59_30, mz_g59_31, mz_g59_32, hg_59, mz_ld60, mz_st60, mz_len60, hg_60, mz_ld61, mz_st61, mz_len61, hg_61, gr_comm (a := 60) (b := 59) (by decide), gr_comm (a := 61) (b := 59) (by decide), gr_comm (a := 61) (b := 60) (by decide), q, ↓reduceIte, Nat.reduceAdd, Nat.reduceLeDiff, Nat.reduceLT, Nat.reduceEqDiff, Nat.le_refl, Bool.and_self, decide_eq_true_eq, beq_iff_eq, true_or, or_true, and_self, true_and, and_true, reduceCtorEq, if_true, if_false, mj_args, mj_fill, mj_ent, mj_lget, mj_lset, mj_pl, mj_kill, mj_pop, mj_le4, mj_lsum, mj_lw, mj_lw_rf, mj_rcv, mj_pu, mj_c1, mj_ret, mj_rf, List.length_cons, List.length_nil, Option.toList_none, Option.toList_some, List.nil_append, List.cons_append, List.getD_cons_zero, List.getD_cons_succ, List.getD_nil, zI_add, zI_sub, Int.zero_add, Int.add_zero, Int.reduceAdd, Int.reduceSub, Int.reduceMul, Int.reduceNeg, Int.reduceMod, Int.reduceDiv, Int.zero_mul, Int.mul_zero, Int.one_mul, Int.mul_one, Int.sub_zero, gsc, gs_e, gs_i, grc, gre, eq_self, Int.reduceEq, Int.reduceLT, Int.reduceLE, Int.reduceToNat, ne_eq, not_true_eq_false, not_false_eq_true, gs_up, gr_gr, up_e, up_n, up_up, dite_eq_ite, or_self, or_false, false_or, and_false, false_and, not_false_eq_true, not_true_eq_false]
end P5k
/-- how it all begins -/
theorem zF {j : Int} (h : j ≠ 2) : Gs 10 j = 0 := if_neg h
theorem zA {j : Int} (h : j ≠ 9 ∧ j ≠ 2 ∧ (j < 41 ∨ 48 < j)) : Gs 60 j = 0 := by
  have e : Gs 60 = g_60 := rfl
  rw [e]
  unfold g_60
  rw [up_n (by omega), up_n (by omega), up_n (by omega), up_n (by omega), up_n (by omega), up_n (by omega), up_n (by omega), up_n (by omega), up_n (by omega), up_n (by omega)]
theorem LR_0 : LR (Gs 6) (Gs 7) (Gs 60) := fun c hc => by
  have h8 : c = 0 ∨ c = 1 ∨ c = 2 ∨ c = 3 ∨ c = 4 ∨ c = 5 ∨ c = 6 ∨ c = 7 := by omega
  have e7 : Gs 7 c = 0 := rfl
  rw [e7, zA (j := 49 + c) (by omega)]
  refine ⟨?_, rfl, by decide, by decide⟩
  rcases h8 with e | e | e | e | e | e | e | e <;> subst e <;> exact ⟨rfl, by decide, by decide⟩
theorem fv_0 : fv (Gs 10) := by
  have e0 : Gs 10 0 = 0 := zF (by decide)
  have e1 : Gs 10 1 = 0 := zF (by decide)
  have e2 : Gs 10 2 = 383 := rfl
  have e3 : Gs 10 3 = 0 := zF (by decide)
  refine ⟨by rw [e0]; decide, by rw [e1]; decide, by rw [e2]; decide, by rw [e3]; decide, fun p hp => ?_, fun p hp => ?_⟩
  · unfold pB pD pC pS
    rw [zF (by omega), zF (by omega), zF (by omega), zF (by omega)]
    decide
  · rw [e0] at hp
    unfold pB pD pC pS
    rw [zF (by omega), zF (by omega), zF (by omega), zF (by omega)]
    decide
theorem PW0_0 : PW0 Gs := by
  refine ⟨LR_0, fv_0, ⟨by rw [zF (by decide), zA (by omega)], fun j hj => ?_⟩, fun i hi => ?_, ⟨⟨by decide, by decide, by decide, by decide, ?_⟩, fun s hs => ?_⟩⟩
  · by_cases y : j = 2
    · rw [y]; rfl
    · rw [zF y, zA (by omega)]
  · rw [zF (by omega), zA (by omega)]
    exact ⟨by unfold LN; decide, rfl⟩
  · rw [zA (by omega)]; rfl
  · have e : Gs 19 2 = 0 := rfl
    rw [e] at hs
    omega
theorem TXM_0 : TXM ro0 [] Gs := by
  have e : Gs 4 9 = 0 := rfl
  unfold TXM
  rw [e, zA (j := 1) (by omega)]
  exact ⟨rfl, Int.le_refl _, by decide, fun j => ⟨Int.le_refl _, by show (0 : Int) ≤ 2147483647; decide⟩, fun t ht => by omega⟩
theorem SD_0 : SD Gs := by
  have e : Gs 4 11 = 0 := rfl
  unfold SD
  rw [e, zA (j := 7) (by omega)]
  exact ⟨rfl, Int.le_refl _, by decide, fun t ht => by omega⟩
theorem DY_0 : DY Gs := by
  have a4 : Gs 60 4 = 0 := zA (by omega)
  have a5 : Gs 60 5 = 0 := zA (by omega)
  refine ⟨a4.symm, a5.symm, ?_, fun j hj => ?_, fun j hj => ?_⟩
  · unfold dyOk hrs
    rw [a4, a5]
    exact ⟨by decide, by decide, fun k hk => by omega, fun k hk => by omega, rfl, rfl⟩
  · show -1 ≤ (0 : Int) ∧ (0 : Int) ≤ 24 - j
    omega
  · show 0 ≤ (0 : Int) ∧ (0 : Int) ≤ 1000000
    decide
theorem LDG_0 : LDG Gs := by
  have e : Gs 15 3 = 0 := rfl
  unfold LDG enOk
  rw [e, zA (j := 6) (by omega)]
  exact ⟨⟨Int.le_refl _, by decide, fun j hj => by omega⟩, rfl, fun j hj => by omega⟩
theorem WI_0 : WI ro0 [] Gs := by
  refine ⟨PW0_0, ⟨by decide, by decide, ?_⟩, TXM_0, SD_0, ⟨DY_0.1, DY_0.2.1, DY_0.2.2.1⟩, LDG_0⟩
  rfl
theorem IVA_0 : IVA ro0 [] Gs := by
  refine ⟨PW_re PW0_0 WI_0.2.1 TXM_0 ⟨fun j => ?_, fun j => ?_, fun j => Or.inl rfl, rfl⟩, TXM_0, SD_0, DY_0, LDG_0, ⟨rfl, by decide, by decide, fun j hj => ?_⟩, ⟨rfl, rfl, fun _ => rfl, by decide, by decide, by decide, by decide⟩, ⟨by decide, by decide, by decide⟩, ?_, by decide, fun c j k _ _ hk => by cases hk⟩
  · show -2147483648 ≤ (0 : Int) ∧ (0 : Int) ≤ 2147483647
    decide
  · show -2147483648 ≤ (0 : Int) ∧ (0 : Int) ≤ 2147483648
    decide
  · have e : Gs 46 4 = 0 := rfl
    rw [e] at hj
    omega
  · refine WI_cg WI_0 ?_ TXM_0.2.2.2.1 (fun j hj => rfl) (fun _ _ h => h)
    exact ⟨fun _ _ => rfl, fun _ _ => rfl, fun _ _ => rfl, fun _ _ => rfl, fun _ _ => rfl, rfl, fun _ _ => rfl, rfl, rfl, fun _ _ => rfl, fun _ _ => rfl, fun _ _ => rfl, fun _ _ => rfl, fun j hj => by
      have e : sw Gs 60 = rng 0 1763 (G0 60) (G0 61) := rfl
      rw [e, rng_i hj]
      rfl, fun _ _ => rfl⟩
section Q5k
variable {L : Nat} {xs : Nat → Int32}
theorem law_0 : mj_gi (mj_EE L xs) mj_bi 1000 392 0 (mj_ent 4 [.retAddr 0]) [] [] = mj_gi (mj_EE L xs) mj_bi 1000 392 1 [some (.retAddr 0), some (.ref 0), some (.ref 59), some (.int (zI 0))] [] (mj_HN Gs ro0 []) := by
  have q1 := c_made (E := mj_EE L xs) (d := 996)
  have q2 := m_made (E := mj_EE L xs) (d := 998)
  rw [B_392_0]
  simp (maxSteps := 2000000) (disch := first | assumption | omega | (and_intros <;> first | assumption | omega) | (simp (disch := omega) only [gre, grc, up_e, up_n] <;> first | assumption | omega | (and_intros <;> first | assumption | omega)) | fail) only [B_392_0, ms_ldc, ms_istore, ms_lstore, ms_astore, ms_nop, ms_jsr, ms_goto, ms_ifnull, ms_ifnonnull, ms_tsw, ms_lsw, ms_areturn, mk_invokevirtual, mk_invokespecial, mk_invokestatic, mk_builtin, ms_dup, ms_pop, ms_dup2, bd_s, bd_n, bd_d, bd_i, mz_il0, mz_il1, mz_il2, mz_il3, mz_il4, mz_il5, mz_il6, mz_il7, mz_il8, mz_il9, mz_il10, mz_il11, mz_ll1, mz_ll2, mz_ll3, mz_ll4, mz_ll5, mz_ll6, mz_ll7, mz_ll8, mz_al0, mz_al1, mz_al2, mz_al3, mz_al4, mz_al5, mz_al6, mz_al7, mz_al8, mz_al9, mz_al10, mz_al11, mz_iinc, mz_iadd, mz_isub, mz_imul, mz_ladd, mz_lsub, mz_lmul, mz_iand, mz_ior, mz_ishl, mz_ishr, mz_ineg, mz_lneg, mz_idiv, mz_irem, mz_ldiv, mz_lrem, mz_i2l, mz_l2i, mz_ic_eq_t, mz_if_eq_t, mz_ic_eq_f, mz_if_eq_f, mz_ic_ne_t, mz_if_ne_t, mz_ic_ne_f, mz_if_ne_f, mz_ic_lt_t, mz_if_lt_t, mz_ic_lt_f, mz_if_lt_f, mz_ic_ge_t, mz_if_ge_t, mz_ic_ge_f, mz_if_ge_f, mz_ic_gt_t, mz_if_gt_t, mz_ic_gt_f, mz_if_gt_f, mz_ic_le_t, mz_if_le_t, mz_ic_le_f, mz_if_le_f, mz_iret, mz_zret, mz_cret, mz_bret, mz_ret, mz_lret, mz_tswz, mz_i2c, md_lc_eq, md_lc_ne, md_lc_lt, md_lc_ge, md_lc_gt, md_lc_le, mb_max, mb_min, mb_lmax, mb_lmin, mb_6_26, mb_7_27, mb_26_6, mb_27_7, mb_10_30, mb_30_10, mb_10_45, mb_10_20, mb_20_10, mb_10_10, mb_45_45, mb_12_32, mb_13_33, mb_32_12, mb_33_13, mb_16_36, mb_36_16, mb_20_40, mb_40_20, mb_22_42, mb_23_43, mb_42_22, mb_43_23, mb_56_57, md_ic_eq, md_ic_ne, md_ic_lt, md_ic_ge, md_ic_gt, md_ic_le, md_if_eq, md_if_ne, md_if_lt, md_if_ge, md_if_gt, md_if_le, ms_new, df_11, df_12, la_0, ll_0, lg_0, la_59, ll_59, lg_59, q1, q2, ↓reduceIte, Nat.reduceAdd, Nat.reduceLeDiff, Nat.reduceLT, Nat.reduceEqDiff, Nat.le_refl, Bool.and_self, decide_eq_true_eq, beq_iff_eq, true_or, or_true, and_self, true_and, and_true, reduceCtorEq, if_true, if_false, mj_args, mj_fill, mj_ent, mj_lget, mj_lset, mj_pl, mj_kill, mj_pop, mj_le4, mj_lsum, mj_lw, mj_lw_rf, mj_rcv, mj_pu, mj_c1, mj_ret, mj_rf, List.length_cons, List.length_nil, Option.toList_none, Option.toList_some, List.nil_append, List.cons_append, List.getD_cons_zero, List.getD_cons_succ, List.getD_nil, zI_add, zI_sub, Int.zero_add, Int.add_zero, Int.reduceAdd, Int.reduceSub, Int.reduceMul, Int.reduceNeg, Int.reduceMod, Int.reduceDiv, Int.zero_mul, Int.mul_zero, Int.one_mul, Int.mul_one, Int.sub_zero, gsc, gs_e, gs_i, grc, gre, eq_self, Int.reduceEq, Int.reduceLT, Int.reduceLE, Int.reduceToNat, ne_eq, not_true_eq_false, not_false_eq_true, gs_up, gr_gr, up_e, up_n, up_up, dite_eq_ite, or_self, or_false, false_or, and_false, false_and, not_false_eq_true, not_true_eq_false]
theorem law_e {i : Int} {H : mj_H} (hL : L ≤ 3072) (hi : 0 ≤ i ∧ i ≤ 3078 ∧ L < i + 6) : mj_gi (mj_EE L xs) mj_bi 1000 392 1 [some (.retAddr 0), some (.ref 0), some (.ref 59), some (.int (zI i))] [] H = some (some (.int (zI 1)), H) := by
  rw [B_392_1]
  simp (maxSteps := 2000000) (disch := first | assumption | omega | (and_intros <;> first | assumption | omega) | (simp (disch := omega) only [gre, grc, up_e, up_n] <;> first | assumption | omega | (and_intros <;> first | assumption | omega)) | fail) only [B_392_0, B_392_122, ms_ldc, ms_istore, ms_lstore, ms_astore, ms_nop, ms_jsr, ms_goto, ms_ifnull, ms_ifnonnull, ms_tsw, ms_lsw, ms_areturn, mk_invokevirtual, mk_invokespecial, mk_invokestatic, mk_builtin, ms_dup, ms_pop, ms_dup2, bd_s, bd_n, bd_d, bd_i, mz_il0, mz_il1, mz_il2, mz_il3, mz_il4, mz_il5, mz_il6, mz_il7, mz_il8, mz_il9, mz_il10, mz_il11, mz_ll1, mz_ll2, mz_ll3, mz_ll4, mz_ll5, mz_ll6, mz_ll7, mz_ll8, mz_al0, mz_al1, mz_al2, mz_al3, mz_al4, mz_al5, mz_al6, mz_al7, mz_al8, mz_al9, mz_al10, mz_al11, mz_iinc, mz_iadd, mz_isub, mz_imul, mz_ladd, mz_lsub, mz_lmul, mz_iand, mz_ior, mz_ishl, mz_ishr, mz_ineg, mz_lneg, mz_idiv, mz_irem, mz_ldiv, mz_lrem, mz_i2l, mz_l2i, mz_ic_eq_t, mz_if_eq_t, mz_ic_eq_f, mz_if_eq_f, mz_ic_ne_t, mz_if_ne_t, mz_ic_ne_f, mz_if_ne_f, mz_ic_lt_t, mz_if_lt_t, mz_ic_lt_f, mz_if_lt_f, mz_ic_ge_t, mz_if_ge_t, mz_ic_ge_f, mz_if_ge_f, mz_ic_gt_t, mz_if_gt_t, mz_ic_gt_f, mz_if_gt_f, mz_ic_le_t, mz_if_le_t, mz_ic_le_f, mz_if_le_f, mz_iret, mz_zret, mz_cret, mz_bret, mz_ret, mz_lret, mz_tswz, mz_i2c, md_lc_eq, md_lc_ne, md_lc_lt, md_lc_ge, md_lc_gt, md_lc_le, mb_max, mb_min, mb_lmax, mb_lmin, mb_6_26, mb_7_27, mb_26_6, mb_27_7, mb_10_30, mb_30_10, mb_10_45, mb_10_20, mb_20_10, mb_10_10, mb_45_45, mb_12_32, mb_13_33, mb_32_12, mb_33_13, mb_16_36, mb_36_16, mb_20_40, mb_40_20, mb_22_42, mb_23_43, mb_42_22, mb_43_23, mb_56_57, md_ic_eq, md_ic_ne, md_ic_lt, md_ic_ge, md_ic_gt, md_ic_le, md_if_eq, md_if_ne, md_if_lt, md_if_ge, md_if_gt, md_if_le, mx_al, mx_sl, ↓reduceIte, Nat.reduceAdd, Nat.reduceLeDiff, Nat.reduceLT, Nat.reduceEqDiff, Nat.le_refl, Bool.and_self, decide_eq_true_eq, beq_iff_eq, true_or, or_true, and_self, true_and, and_true, reduceCtorEq, if_true, if_false, mj_args, mj_fill, mj_ent, mj_lget, mj_lset, mj_pl, mj_kill, mj_pop, mj_le4, mj_lsum, mj_lw, mj_lw_rf, mj_rcv, mj_pu, mj_c1, mj_ret, mj_rf, List.length_cons, List.length_nil, Option.toList_none, Option.toList_some, List.nil_append, List.cons_append, List.getD_cons_zero, List.getD_cons_succ, List.getD_nil, zI_add, zI_sub, Int.zero_add, Int.add_zero, Int.reduceAdd, Int.reduceSub, Int.reduceMul, Int.reduceNeg, Int.reduceMod, Int.reduceDiv, Int.zero_mul, Int.mul_zero, Int.one_mul, Int.mul_one, Int.sub_zero, gsc, gs_e, gs_i, grc, gre, eq_self, Int.reduceEq, Int.reduceLT, Int.reduceLE, Int.reduceToNat, ne_eq, not_true_eq_false, not_false_eq_true, gs_up, gr_gr, up_e, up_n, up_up, dite_eq_ite, or_self, or_false, false_or, and_false, false_and, not_false_eq_true, not_true_eq_false]
theorem law_g {i : Int} {H : mj_H} (hL : L ≤ 3072) (hi : 0 ≤ i ∧ i + 6 ≤ L) : mj_gi (mj_EE L xs) mj_bi 1000 392 1 [some (.retAddr 0), some (.ref 0), some (.ref 59), some (.int (zI i))] [] H = mj_gi (mj_EE L xs) mj_bi 1000 392 2 [some (.retAddr 0), some (.ref 0), some (.ref 59), some (.int (zI i))] [] H := by
  rw [B_392_1]
  simp (maxSteps := 2000000) (disch := first | assumption | omega | (and_intros <;> first | assumption | omega) | (simp (disch := omega) only [gre, grc, up_e, up_n] <;> first | assumption | omega | (and_intros <;> first | assumption | omega)) | fail) only [B_392_0, ms_ldc, ms_istore, ms_lstore, ms_astore, ms_nop, ms_jsr, ms_goto, ms_ifnull, ms_ifnonnull, ms_tsw, ms_lsw, ms_areturn, mk_invokevirtual, mk_invokespecial, mk_invokestatic, mk_builtin, ms_dup, ms_pop, ms_dup2, bd_s, bd_n, bd_d, bd_i, mz_il0, mz_il1, mz_il2, mz_il3, mz_il4, mz_il5, mz_il6, mz_il7, mz_il8, mz_il9, mz_il10, mz_il11, mz_ll1, mz_ll2, mz_ll3, mz_ll4, mz_ll5, mz_ll6, mz_ll7, mz_ll8, mz_al0, mz_al1, mz_al2, mz_al3, mz_al4, mz_al5, mz_al6, mz_al7, mz_al8, mz_al9, mz_al10, mz_al11, mz_iinc, mz_iadd, mz_isub, mz_imul, mz_ladd, mz_lsub, mz_lmul, mz_iand, mz_ior, mz_ishl, mz_ishr, mz_ineg, mz_lneg, mz_idiv, mz_irem, mz_ldiv, mz_lrem, mz_i2l, mz_l2i, mz_ic_eq_t, mz_if_eq_t, mz_ic_eq_f, mz_if_eq_f, mz_ic_ne_t, mz_if_ne_t, mz_ic_ne_f, mz_if_ne_f, mz_ic_lt_t, mz_if_lt_t, mz_ic_lt_f, mz_if_lt_f, mz_ic_ge_t, mz_if_ge_t, mz_ic_ge_f, mz_if_ge_f, mz_ic_gt_t, mz_if_gt_t, mz_ic_gt_f, mz_if_gt_f, mz_ic_le_t, mz_if_le_t, mz_ic_le_f, mz_if_le_f, mz_iret, mz_zret, mz_cret, mz_bret, mz_ret, mz_lret, mz_tswz, mz_i2c, md_lc_eq, md_lc_ne, md_lc_lt, md_lc_ge, md_lc_gt, md_lc_le, mb_max, mb_min, mb_lmax, mb_lmin, mb_6_26, mb_7_27, mb_26_6, mb_27_7, mb_10_30, mb_30_10, mb_10_45, mb_10_20, mb_20_10, mb_10_10, mb_45_45, mb_12_32, mb_13_33, mb_32_12, mb_33_13, mb_16_36, mb_36_16, mb_20_40, mb_40_20, mb_22_42, mb_23_43, mb_42_22, mb_43_23, mb_56_57, md_ic_eq, md_ic_ne, md_ic_lt, md_ic_ge, md_ic_gt, md_ic_le, md_if_eq, md_if_ne, md_if_lt, md_if_ge, md_if_gt, md_if_le, mx_al, mx_sl, ↓reduceIte, Nat.reduceAdd, Nat.reduceLeDiff, Nat.reduceLT, Nat.reduceEqDiff, Nat.le_refl, Bool.and_self, decide_eq_true_eq, beq_iff_eq, true_or, or_true, and_self, true_and, and_true, reduceCtorEq, if_true, if_false, mj_args, mj_fill, mj_ent, mj_lget, mj_lset, mj_pl, mj_kill, mj_pop, mj_le4, mj_lsum, mj_lw, mj_lw_rf, mj_rcv, mj_pu, mj_c1, mj_ret, mj_rf, List.length_cons, List.length_nil, Option.toList_none, Option.toList_some, List.nil_append, List.cons_append, List.getD_cons_zero, List.getD_cons_succ, List.getD_nil, zI_add, zI_sub, Int.zero_add, Int.add_zero, Int.reduceAdd, Int.reduceSub, Int.reduceMul, Int.reduceNeg, Int.reduceMod, Int.reduceDiv, Int.zero_mul, Int.mul_zero, Int.one_mul, Int.mul_one, Int.sub_zero, gsc, gs_e, gs_i, grc, gre, eq_self, Int.reduceEq, Int.reduceLT, Int.reduceLE, Int.reduceToNat, ne_eq, not_true_eq_false, not_false_eq_true, gs_up, gr_gr, up_e, up_n, up_up, dite_eq_ite, or_self, or_false, false_or, and_false, false_and, not_false_eq_true, not_true_eq_false]
theorem STP_all {ro : rT} {tl : List mj_C} {G : gT} {i : Int} (hL : L ≤ 3072) (hi : 0 ≤ i ∧ i + 6 ≤ L) (hI : IVA ro tl G) : STP L xs i ro tl G := by
  obtain ⟨c, hc⟩ : ∃ c : Int, xs i.toNat = zI c := ⟨_, (zI_of _).symm⟩
  have r := iA_63 c
  by_cases e0 : iA c 63 = 0
  · exact L_person hL hi hc e0 hI
  by_cases e1 : iA c 63 = 1
  · exact L_behind hL hi hc e1 hI
  by_cases e2 : iA c 63 = 2
  · exact L_joy hL hi hc e2 hI
  by_cases e3 : iA c 63 = 3
  · exact L_feed hL hi hc e3 hI
  by_cases e4 : iA c 63 = 4
  · exact L_end hL hi hc e4 hI
  by_cases e5 : iA c 63 = 5
  · exact L_text hL hi hc e5 hI
  by_cases e6 : iA c 63 = 6
  · exact L_fault hL hi hc e6 hI
  by_cases e7 : iA c 63 = 7
  · exact L_by hL hi hc e7 hI
  by_cases e8 : iA c 63 = 8
  · exact L_bite hL hi hc e8 hI
  by_cases e9 : iA c 63 = 9
  · exact L_come hL hi hc e9 hI
  by_cases e10 : iA c 63 = 10
  · exact L_walk hL hi hc e10 hI
  by_cases e11 : iA c 63 = 11
  · exact L_buy hL hi hc e11 hI
  by_cases e12 : iA c 63 = 12
  · exact L_hour hL hi hc e12 hI
  by_cases e13 : iA c 63 = 13
  · exact L_played hL hi hc e13 hI
  by_cases e14 : iA c 63 = 14
  · exact L_years hL hi hc e14 hI
  by_cases e15 : iA c 63 = 15
  · exact L_undo hL hi hc e15 hI
  by_cases e16 : iA c 63 = 16
  · exact L_of hL hi hc e16 hI
  by_cases e17 : iA c 63 = 17
  · exact L_place hL hi hc e17 hI
  by_cases e18 : iA c 63 = 18
  · exact L_is hL hi hc e18 hI
  by_cases e19 : iA c 63 = 19
  · exact L_book hL hi hc e19 hI
  by_cases e20 : iA c 63 = 20
  · exact L_foretold hL hi hc e20 hI
  by_cases e21 : iA c 63 = 21
  · exact L_after hL hi hc e21 hI
  by_cases e22 : iA c 63 = 22
  · exact L_ring hL hi hc e22 hI
  by_cases e23 : iA c 63 = 23
  · exact L_rings hL hi hc e23 hI
  by_cases e24 : iA c 63 = 24
  · exact L_left hL hi hc e24 hI
  by_cases e25 : iA c 63 = 25
  · exact L_into hL hi hc e25 hI
  by_cases e26 : iA c 63 = 26
  · exact L_meet hL hi hc e26 hI
  by_cases e27 : iA c 63 = 27
  · exact L_game hL hi hc e27 hI
  by_cases e28 : iA c 63 = 28
  · exact L_move hL hi hc e28 hI
  by_cases e29 : iA c 63 = 29
  · exact L_miss hL hi hc e29 hI
  by_cases e30 : iA c 63 = 30
  · exact L_meeting hL hi hc e30 hI
  by_cases e31 : iA c 63 = 31
  · exact L_plan hL hi hc e31 hI
  by_cases e32 : iA c 63 = 32
  · exact L_need hL hi hc e32 hI
  by_cases e33 : iA c 63 = 33
  · exact L_entry hL hi hc e33 hI
  by_cases e34 : iA c 63 = 34
  · exact L_law hL hi hc e34 hI
  by_cases e35 : iA c 63 = 35
  · exact L_fits hL hi hc e35 hI
  by_cases e36 : iA c 63 = 36
  · exact L_worth hL hi hc e36 hI
  by_cases e37 : iA c 63 = 37
  · exact L_best hL hi hc e37 hI
  by_cases e38 : iA c 63 = 38
  · exact L_likely hL hi hc e38 hI
  by_cases e39 : iA c 63 = 39
  · exact L_longing hL hi hc e39 hI
  by_cases e40 : iA c 63 = 40
  · exact L_said hL hi hc e40 hI
  by_cases e41 : iA c 63 = 41
  · exact L_whose hL hi hc e41 hI
  by_cases e42 : iA c 63 = 42
  · exact L_deepest hL hi hc e42 hI
  by_cases e43 : iA c 63 = 43
  · exact L_away hL hi hc e43 hI
  by_cases e44 : iA c 63 = 44
  · exact L_alone hL hi hc e44 hI
  by_cases e45 : iA c 63 = 45
  · exact L_gladdest hL hi hc e45 hI
  by_cases e46 : iA c 63 = 46
  · exact L_ledger hL hi hc e46 hI
  by_cases e47 : iA c 63 = 47
  · exact L_image hL hi hc e47 hI
  by_cases e48 : iA c 63 = 48
  · exact L_back hL hi hc e48 hI
  by_cases e49 : iA c 63 = 49
  · exact L_about hL hi hc e49 hI
  exact L_none hL hi hc (by omega) hI
theorem law_lp (hL : L ≤ 3072) (k : Nat) : ∀ (i : Int) (ro : rT) (tl : List mj_C) (G : gT), IVA ro tl G → 0 ≤ i ∧ i ≤ 3078 → (L : Int) < i + 6 * k + 6 → ∃ (ro2 : rT) (tz : List mj_C) (G2 : gT), mj_gi (mj_EE L xs) mj_bi 1000 392 1 [some (.retAddr 0), some (.ref 0), some (.ref 59), some (.int (zI i))] [] (mj_HN G ro tl) = some (some (.int (zI 1)), mj_HN G2 ro2 (tl ++ tz)) ∧ tz.length ≤ 27 * k ∧ ∀ c ∈ tz, sml c := by
  induction k with
  | zero =>
    intro i ro tl G hI h0 hl
    exact ⟨ro, [], G, by rw [List.append_nil]; exact law_e hL (by omega), Nat.zero_le _, fun c h => by cases h⟩
  | succ k ih =>
    intro i ro tl G hI h0 hl
    by_cases y : (L : Int) < i + 6
    · exact ⟨ro, [], G, by rw [List.append_nil]; exact law_e hL (by omega), Nat.zero_le _, fun c h => by cases h⟩
    · obtain ⟨ro2, tz, G2, a, b, c1, c2⟩ := STP_all (xs := xs) hL (i := i) (by omega) hI
      obtain ⟨ro3, tz3, G3, a3, b3, c3⟩ := ih (i + 6) ro2 (tl ++ tz) G2 b (by omega) (by omega)
      refine ⟨ro3, tz ++ tz3, G3, ?_, by rw [List.length_append]; omega, fun c hc => ?_⟩
      · rw [law_g hL (by omega), a, a3, List.append_assoc]
      · rcases List.mem_append.1 hc with q | q
        · exact c2 c q
        · exact c3 c q
theorem law_all (hL : L ≤ 3072) : ∃ (ro2 : rT) (tz : List mj_C) (G2 : gT), mj_gi (mj_EE L xs) mj_bi 1000 392 0 (mj_ent 4 [.retAddr 0]) [] [] = some (some (.int (zI 1)), mj_HN G2 ro2 tz) ∧ tz.length ≤ 13851 ∧ ∀ c ∈ tz, sml c := by
  obtain ⟨ro2, tz, G2, a, b, c⟩ := law_lp (xs := xs) hL 513 0 ro0 [] Gs IVA_0 (by omega) (by omega)
  exact ⟨ro2, tz, G2, by rw [law_0, a]; rfl, by omega, c⟩
end Q5k
