/-! a text read whole, class and reference side by side -/
def FrmR (G H : gT) : Prop := (∀ c : Nat, c ≠ 46 ∧ c ≠ 48 ∧ c ≠ 49 ∧ c ≠ 50 ∧ c ≠ 51 ∧ c ≠ 52 ∧ c ≠ 53 → H c = G c) ∧ H 46 4 = G 46 4
def RFs (t : Int) (H H2 : gT) : Prop := (∀ c : Nat, c ≠ 59 ∧ c ≠ 62 ∧ c ≠ 64 → H2 c = H c) ∧ (∀ j : Int, j < 7 ∨ j = 15 ∨ 19 < j → H2 59 j = H 59 j) ∧ ∀ j : Int, j < 681 * t ∨ 681 * t + 681 ≤ j → H2 62 j = H 62 j
def rdH (G : gT) (st : pT) (p : Int) : gT := gr (stH G st) 51 (up (stH G st 51) 9 p)
theorem stH_self {G : gT} {s : Int} (h6 : G 46 6 = 0) (h8 : G 51 8 = 0) (h5 : G 51 5 = s) : stH G (0, 0, s, G 52) = G := by
  unfold stH
  funext c j
  by_cases c1 : c = 52
  · subst c1; rfl
  by_cases c2 : c = 51
  · subst c2
    show (if j = 8 then (0 : Int) else if j = 5 then s else G 51 j) = G 51 j
    by_cases j8 : j = 8
    · rw [if_pos j8, j8, h8]
    · rw [if_neg j8]
      by_cases j5 : j = 5
      · rw [if_pos j5, j5, h5]
      · rw [if_neg j5]
  by_cases c3 : c = 46
  · subst c3
    show (if j = 6 then (0 : Int) else G 46 j) = G 46 j
    by_cases j6 : j = 6
    · rw [if_pos j6, j6, h6]
    · rw [if_neg j6]
  · rw [grc c1, grc c2, grc c3]
section P5a
variable {L : Nat} {xs : Nat → Int32} {E : mj_E} {G : gT} {ro : rT} {tl : List mj_C} {d : Nat}
variable {X : Int → Int} {Lt N t n : Int} {st : pT}
theorem q_end (hB : BKx X Lt N G) (hw : Wst N st) (hn : 0 ≤ n ∧ n ≤ 25) : mj_gi E mj_bi (d + 175) 97 5 [some (.ref 51), some (.int (zI n))] [] (mj_HN (stH G st) ro tl) = some (some (.int (zI (if st.1 = 0 then 1 else 0))), mj_HN (rdH G st (if st.1 = 0 then -1 else lxp X Lt st.2.1.toNat)) ro tl) := by
  have qs := c_start (E := E) (ro := ro) (tl := tl) (d := d + 174) (TKC_st hB hw)
  rw [stH_i] at qs
  have w1 := hw.1
  have w2 := hw.2.1
  have b1 := lxp_b (X := X) hB.1.2.1 st.2.1.toNat
  have b2 := hB.1.2.2.1
  unfold rdH
  rw [B_97_5]
  by_cases y : st.1 = 0
  · rw [if_pos y, if_pos y]
    simp (maxSteps := 2000000) (disch := first | assumption | omega | (and_intros <;> first | assumption | omega) | (simp (disch := omega) only [gre, grc, up_e, up_n] <;> first | assumption | omega | (and_intros <;> first | assumption | omega)) | fail) only [B_97_0, B_97_2, B_97_3, B_97_4, B_97_6, B_97_7, B_97_8, B_97_9, B_97_10, B_97_11, C_97, ms_ldc, ms_istore, ms_lstore, ms_astore, ms_nop, ms_jsr, ms_goto, ms_ifnull, ms_ifnonnull, ms_tsw, ms_lsw, ms_areturn, mk_invokevirtual, mk_invokespecial, mk_invokestatic, mk_builtin, ms_dup, ms_pop, ms_dup2, bd_s, bd_n, bd_d, bd_i, mz_il0, mz_il1, mz_il2, mz_il3, mz_il4, mz_il5, mz_il6, mz_il7, mz_il8, mz_il9, mz_il10, mz_il11, mz_ll1, mz_ll2, mz_ll3, mz_ll4, mz_ll5, mz_ll6, mz_ll7, mz_ll8, mz_al0, mz_al1, mz_al2, mz_al3, mz_al4, mz_al5, mz_al6, mz_al7, mz_al8, mz_al9, mz_al10, mz_al11, mz_iinc, mz_iadd, mz_isub, mz_imul, mz_ladd, mz_lsub, mz_lmul, mz_iand, mz_ior, mz_ishl, mz_ishr, mz_ineg, mz_lneg, mz_idiv, mz_irem, mz_ldiv, mz_lrem, mz_i2l, mz_l2i, mz_ic_eq_t, mz_if_eq_t, mz_ic_eq_f, mz_if_eq_f, mz_ic_ne_t, mz_if_ne_t, mz_ic_ne_f, mz_if_ne_f, mz_ic_lt_t, mz_if_lt_t, mz_ic_lt_f, mz_if_lt_f, mz_ic_ge_t, mz_if_ge_t, mz_ic_ge_f, mz_if_ge_f, mz_ic_gt_t, mz_if_gt_t, mz_ic_gt_f, mz_if_gt_f, mz_ic_le_t, mz_if_le_t, mz_ic_le_f, mz_if_le_f, mz_iret, mz_zret, mz_cret, mz_bret, mz_ret, mz_lret, mz_tswz, mz_i2c, md_lc_eq, md_lc_ne, md_lc_lt, md_lc_ge, md_lc_gt, md_lc_le, mb_max, mb_min, mb_lmax, mb_lmin, mb_6_26, mb_7_27, mb_26_6, mb_27_7, mb_10_30, mb_30_10, mb_10_45, mb_10_20, mb_20_10, mb_10_10, mb_45_45, mb_12_32, mb_13_33, mb_32_12, mb_33_13, mb_16_36, mb_36_16, mb_20_40, mb_40_20, mb_22_42, mb_23_43, mb_42_22, mb_43_23, mb_56_57, md_ic_eq, md_ic_ne, md_ic_lt, md_ic_ge, md_ic_gt, md_ic_le, md_if_eq, md_if_ne, md_if_lt, md_if_ge, md_if_gt, md_if_le, mz_g46_0, mz_g46_1, mz_g46_2, mz_g46_3, mz_g46_4, mz_p46_4, mz_g46_5, mz_p46_5, mz_g46_6, mz_p46_6, hg_46, mz_g51_0, mz_g51_1, mz_g51_2, mz_g51_3, mz_pn51_3, mz_pr51_3, mz_g51_4, mz_pn51_4, mz_pr51_4, mz_g51_5, mz_p51_5, mz_g51_6, mz_p51_6, mz_g51_7, mz_p51_7, mz_g51_8, mz_p51_8, mz_g51_9, mz_p51_9, hg_51, gr_comm (a := 51) (b := 46) (by decide), stH_f, qs, y, ↓reduceIte, Nat.reduceAdd, Nat.reduceLeDiff, Nat.reduceLT, Nat.reduceEqDiff, Nat.le_refl, Bool.and_self, decide_eq_true_eq, beq_iff_eq, true_or, or_true, and_self, true_and, and_true, reduceCtorEq, if_true, if_false, mj_args, mj_fill, mj_ent, mj_lget, mj_lset, mj_pl, mj_kill, mj_pop, mj_le4, mj_lsum, mj_lw, mj_lw_rf, mj_rcv, mj_pu, mj_c1, mj_ret, mj_rf, List.length_cons, List.length_nil, Option.toList_none, Option.toList_some, List.nil_append, List.cons_append, List.getD_cons_zero, List.getD_cons_succ, List.getD_nil, zI_add, zI_sub, Int.zero_add, Int.add_zero, Int.reduceAdd, Int.reduceSub, Int.reduceMul, Int.reduceNeg, Int.reduceMod, Int.reduceDiv, Int.zero_mul, Int.mul_zero, Int.one_mul, Int.mul_one, Int.sub_zero, gsc, gs_e, gs_i, grc, gre, eq_self, Int.reduceEq, Int.reduceLT, Int.reduceLE, Int.reduceToNat, ne_eq, not_true_eq_false, not_false_eq_true, gs_up, gr_gr, up_e, up_n, up_up, dite_eq_ite, or_self, or_false, false_or, and_false, false_and, not_false_eq_true, not_true_eq_false]
  · rw [if_neg y, if_neg y]
    simp (maxSteps := 2000000) (disch := first | assumption | omega | (and_intros <;> first | assumption | omega) | (simp (disch := omega) only [gre, grc, up_e, up_n] <;> first | assumption | omega | (and_intros <;> first | assumption | omega)) | fail) only [B_97_0, B_97_2, B_97_3, B_97_4, B_97_6, B_97_7, B_97_8, B_97_9, B_97_10, B_97_11, C_97, ms_ldc, ms_istore, ms_lstore, ms_astore, ms_nop, ms_jsr, ms_goto, ms_ifnull, ms_ifnonnull, ms_tsw, ms_lsw, ms_areturn, mk_invokevirtual, mk_invokespecial, mk_invokestatic, mk_builtin, ms_dup, ms_pop, ms_dup2, bd_s, bd_n, bd_d, bd_i, mz_il0, mz_il1, mz_il2, mz_il3, mz_il4, mz_il5, mz_il6, mz_il7, mz_il8, mz_il9, mz_il10, mz_il11, mz_ll1, mz_ll2, mz_ll3, mz_ll4, mz_ll5, mz_ll6, mz_ll7, mz_ll8, mz_al0, mz_al1, mz_al2, mz_al3, mz_al4, mz_al5, mz_al6, mz_al7, mz_al8, mz_al9, mz_al10, mz_al11, mz_iinc, mz_iadd, mz_isub, mz_imul, mz_ladd, mz_lsub, mz_lmul, mz_iand, mz_ior, mz_ishl, mz_ishr, mz_ineg, mz_lneg, mz_idiv, mz_irem, mz_ldiv, mz_lrem, mz_i2l, mz_l2i, mz_ic_eq_t, mz_if_eq_t, mz_ic_eq_f, mz_if_eq_f, mz_ic_ne_t, mz_if_ne_t, mz_ic_ne_f, mz_if_ne_f, mz_ic_lt_t, mz_if_lt_t, mz_ic_lt_f, mz_if_lt_f, mz_ic_ge_t, mz_if_ge_t, mz_ic_ge_f, mz_if_ge_f, mz_ic_gt_t, mz_if_gt_t, mz_ic_gt_f, mz_if_gt_f, mz_ic_le_t, mz_if_le_t, mz_ic_le_f, mz_if_le_f, mz_iret, mz_zret, mz_cret, mz_bret, mz_ret, mz_lret, mz_tswz, mz_i2c, md_lc_eq, md_lc_ne, md_lc_lt, md_lc_ge, md_lc_gt, md_lc_le, mb_max, mb_min, mb_lmax, mb_lmin, mb_6_26, mb_7_27, mb_26_6, mb_27_7, mb_10_30, mb_30_10, mb_10_45, mb_10_20, mb_20_10, mb_10_10, mb_45_45, mb_12_32, mb_13_33, mb_32_12, mb_33_13, mb_16_36, mb_36_16, mb_20_40, mb_40_20, mb_22_42, mb_23_43, mb_42_22, mb_43_23, mb_56_57, md_ic_eq, md_ic_ne, md_ic_lt, md_ic_ge, md_ic_gt, md_ic_le, md_if_eq, md_if_ne, md_if_lt, md_if_ge, md_if_gt, md_if_le, mz_g46_0, mz_g46_1, mz_g46_2, mz_g46_3, mz_g46_4, mz_p46_4, mz_g46_5, mz_p46_5, mz_g46_6, mz_p46_6, hg_46, mz_g51_0, mz_g51_1, mz_g51_2, mz_g51_3, mz_pn51_3, mz_pr51_3, mz_g51_4, mz_pn51_4, mz_pr51_4, mz_g51_5, mz_p51_5, mz_g51_6, mz_p51_6, mz_g51_7, mz_p51_7, mz_g51_8, mz_p51_8, mz_g51_9, mz_p51_9, hg_51, gr_comm (a := 51) (b := 46) (by decide), stH_f, qs, y, ↓reduceIte, Nat.reduceAdd, Nat.reduceLeDiff, Nat.reduceLT, Nat.reduceEqDiff, Nat.le_refl, Bool.and_self, decide_eq_true_eq, beq_iff_eq, true_or, or_true, and_self, true_and, and_true, reduceCtorEq, if_true, if_false, mj_args, mj_fill, mj_ent, mj_lget, mj_lset, mj_pl, mj_kill, mj_pop, mj_le4, mj_lsum, mj_lw, mj_lw_rf, mj_rcv, mj_pu, mj_c1, mj_ret, mj_rf, List.length_cons, List.length_nil, Option.toList_none, Option.toList_some, List.nil_append, List.cons_append, List.getD_cons_zero, List.getD_cons_succ, List.getD_nil, zI_add, zI_sub, Int.zero_add, Int.add_zero, Int.reduceAdd, Int.reduceSub, Int.reduceMul, Int.reduceNeg, Int.reduceMod, Int.reduceDiv, Int.zero_mul, Int.mul_zero, Int.one_mul, Int.mul_one, Int.sub_zero, gsc, gs_e, gs_i, grc, gre, eq_self, Int.reduceEq, Int.reduceLT, Int.reduceLE, Int.reduceToNat, ne_eq, not_true_eq_false, not_false_eq_true, gs_up, gr_gr, up_e, up_n, up_up, dite_eq_ite, or_self, or_false, false_or, and_false, false_and, not_false_eq_true, not_true_eq_false]
theorem q_begin (hb : b255 X Lt) (h0 : 0 ≤ Lt ∧ Lt ≤ 300) (e4 : G 46 4 = Lt) (e47 : G 47 = X) (h5 : 0 ≤ G 51 5 ∧ G 51 5 ≤ 300) : ∃ G1 : gT, mj_ca (mj_EE L xs) mj_bi (d + 176) 97 [.ref 51] (mj_HN G ro tl) = mj_gi (mj_EE L xs) mj_bi (d + 175) 97 1 [some (.ref 51), some (.int (zI 0))] [] (mj_HN (stH G1 (0, 0, G1 51 5, G1 52)) (rs (rs ro 51 3 none) 51 4 none) tl) ∧ BKx X Lt (G1 46 5) G1 ∧ Wst (G1 46 5) (0, 0, G1 51 5, G1 52) ∧ G1 51 6 = 0 ∧ FrmR G G1 := by
  obtain ⟨G1, g1, g2, g3, g4⟩ := c_scan (Lx := L) (xs := xs) (ro := ro) (tl := tl) (d := d + 166) hb h0 e4 e47
  have k51 : G1 51 = G 51 := g2.1 51 (by decide)
  refine ⟨(gr G1 51 (up (up (G1 51) 6 0) 8 0)), ?_, ?_, ?_, ?_, ?_⟩
  · rw [stH_self (by rw [grc (by decide)]; exact g4) (by rw [gre, up_e rfl]) rfl]
    simp (maxSteps := 2000000) (disch := first | assumption | omega | (and_intros <;> first | assumption | omega) | (simp (disch := omega) only [gre, grc, up_e, up_n] <;> first | assumption | omega | (and_intros <;> first | assumption | omega)) | fail) only [B_97_0, B_97_2, B_97_3, B_97_4, B_97_5, B_97_6, B_97_7, B_97_8, B_97_9, B_97_10, B_97_11, C_97, ms_ldc, ms_istore, ms_lstore, ms_astore, ms_nop, ms_jsr, ms_goto, ms_ifnull, ms_ifnonnull, ms_tsw, ms_lsw, ms_areturn, mk_invokevirtual, mk_invokespecial, mk_invokestatic, mk_builtin, ms_dup, ms_pop, ms_dup2, bd_s, bd_n, bd_d, bd_i, mz_il0, mz_il1, mz_il2, mz_il3, mz_il4, mz_il5, mz_il6, mz_il7, mz_il8, mz_il9, mz_il10, mz_il11, mz_ll1, mz_ll2, mz_ll3, mz_ll4, mz_ll5, mz_ll6, mz_ll7, mz_ll8, mz_al0, mz_al1, mz_al2, mz_al3, mz_al4, mz_al5, mz_al6, mz_al7, mz_al8, mz_al9, mz_al10, mz_al11, mz_iinc, mz_iadd, mz_isub, mz_imul, mz_ladd, mz_lsub, mz_lmul, mz_iand, mz_ior, mz_ishl, mz_ishr, mz_ineg, mz_lneg, mz_idiv, mz_irem, mz_ldiv, mz_lrem, mz_i2l, mz_l2i, mz_ic_eq_t, mz_if_eq_t, mz_ic_eq_f, mz_if_eq_f, mz_ic_ne_t, mz_if_ne_t, mz_ic_ne_f, mz_if_ne_f, mz_ic_lt_t, mz_if_lt_t, mz_ic_lt_f, mz_if_lt_f, mz_ic_ge_t, mz_if_ge_t, mz_ic_ge_f, mz_if_ge_f, mz_ic_gt_t, mz_if_gt_t, mz_ic_gt_f, mz_if_gt_f, mz_ic_le_t, mz_if_le_t, mz_ic_le_f, mz_if_le_f, mz_iret, mz_zret, mz_cret, mz_bret, mz_ret, mz_lret, mz_tswz, mz_i2c, md_lc_eq, md_lc_ne, md_lc_lt, md_lc_ge, md_lc_gt, md_lc_le, mb_max, mb_min, mb_lmax, mb_lmin, mb_6_26, mb_7_27, mb_26_6, mb_27_7, mb_10_30, mb_30_10, mb_10_45, mb_10_20, mb_20_10, mb_10_10, mb_45_45, mb_12_32, mb_13_33, mb_32_12, mb_33_13, mb_16_36, mb_36_16, mb_20_40, mb_40_20, mb_22_42, mb_23_43, mb_42_22, mb_43_23, mb_56_57, md_ic_eq, md_ic_ne, md_ic_lt, md_ic_ge, md_ic_gt, md_ic_le, md_if_eq, md_if_ne, md_if_lt, md_if_ge, md_if_gt, md_if_le, mz_g46_0, mz_g46_1, mz_g46_2, mz_g46_3, mz_g46_4, mz_p46_4, mz_g46_5, mz_p46_5, mz_g46_6, mz_p46_6, hg_46, mz_g51_0, mz_g51_1, mz_g51_2, mz_g51_3, mz_pn51_3, mz_pr51_3, mz_g51_4, mz_pn51_4, mz_pr51_4, mz_g51_5, mz_p51_5, mz_g51_6, mz_p51_6, mz_g51_7, mz_p51_7, mz_g51_8, mz_p51_8, mz_g51_9, mz_p51_9, hg_51, gr_comm (a := 51) (b := 46) (by decide), g1, ↓reduceIte, Nat.reduceAdd, Nat.reduceLeDiff, Nat.reduceLT, Nat.reduceEqDiff, Nat.le_refl, Bool.and_self, decide_eq_true_eq, beq_iff_eq, true_or, or_true, and_self, true_and, and_true, reduceCtorEq, if_true, if_false, mj_args, mj_fill, mj_ent, mj_lget, mj_lset, mj_pl, mj_kill, mj_pop, mj_le4, mj_lsum, mj_lw, mj_lw_rf, mj_rcv, mj_pu, mj_c1, mj_ret, mj_rf, List.length_cons, List.length_nil, Option.toList_none, Option.toList_some, List.nil_append, List.cons_append, List.getD_cons_zero, List.getD_cons_succ, List.getD_nil, zI_add, zI_sub, Int.zero_add, Int.add_zero, Int.reduceAdd, Int.reduceSub, Int.reduceMul, Int.reduceNeg, Int.reduceMod, Int.reduceDiv, Int.zero_mul, Int.mul_zero, Int.one_mul, Int.mul_one, Int.sub_zero, gsc, gs_e, gs_i, grc, gre, eq_self, Int.reduceEq, Int.reduceLT, Int.reduceLE, Int.reduceToNat, ne_eq, not_true_eq_false, not_false_eq_true, gs_up, gr_gr, up_e, up_n, up_up, dite_eq_ite, or_self, or_false, false_or, and_false, false_and, not_false_eq_true, not_true_eq_false]
  · unfold BKx TKC at *
    simp (disch := decide) only [grc]
    exact ⟨g3, trivial⟩
  · have e46 : (gr G1 51 (up (up (G1 51) 6 0) 8 0)) 46 = G1 46 := grc (by decide)
    have e51 : (gr G1 51 (up (up (G1 51) 6 0) 8 0)) 51 5 = G 51 5 := by rw [gre, up_n (by omega), up_n (by omega), k51]
    rw [e46, e51]
    exact ⟨Int.le_refl _, by show (0 : Int) ≤ 6; omega, Int.le_refl _, g3.2.2.2.2.1, h5.1, h5.2⟩
  · rw [gre, up_n (by omega), up_e rfl]
  · exact ⟨fun c hc => by rw [grc (by omega)]; exact g2.1 c (by omega), by rw [grc (by decide)]; exact g2.2 4 (by omega)⟩
theorem m_rbegin (hb : b255 X Lt) (h0 : 0 ≤ Lt ∧ Lt ≤ 300) (hY : TPX Lt X (G 63)) (e4 : G 59 4 = Lt) (r1 : 0 ≤ G 59 10 ∧ G 59 10 ≤ 1000000) (r2 : 0 ≤ G 59 11 ∧ G 59 11 ≤ 1152921504606846976) (ht : 0 ≤ t ∧ t < 4) (e1 : G 60 1 = t) : ∃ F : Int → Int, mj_ca E mj_bi (d + 19) 280 [.ref 59] (mj_HN G ro tl) = mj_gi E mj_bi (d + 18) 280 1 [some (.ref 59), none] [] (mj_HN (gr (gr G 59 F) 62 (up (G 62) (681 * t) 0)) ro tl) ∧ TKp X Lt (lxp X Lt 0) F ∧ (∀ j : Int, j < 7 ∨ j = 15 ∨ 19 < j → F j = G 59 j) ∧ F 12 = 681 * t ∧ F 13 = 0 ∧ F 19 = 0 := by
  obtain ⟨F, q1, q2, q3⟩ := m_nextToken (E := E) (ro := ro) (tl := tl) (d := d + 16) (G := (gr (gr G 59 (up (up (up (up (G 59) 12 (681 * t)) 13 0) 19 0) 7 0)) 62 (up (G 62) (681 * t) 0))) (X := X) (L := Lt) (q := 0) hb h0 (by rw [grc (by decide), grc (by decide)]; exact hY) (by rw [grc (by decide), gre, up_n (by omega), up_n (by omega), up_n (by omega), up_n (by omega)]; exact e4) (by rw [grc (by decide), gre, up_e rfl]) (by omega) (by rw [grc (by decide), gre, up_n (by omega), up_n (by omega), up_n (by omega), up_n (by omega)]; exact r1) (by rw [grc (by decide), gre, up_n (by omega), up_n (by omega), up_n (by omega), up_n (by omega)]; exact r2)
  have fr : ∀ j : Int, j < 7 ∨ 11 < j → F j = (up (up (up (up (G 59) 12 (681 * t)) 13 0) 19 0) 7 0) j := fun j hj => by
    have a := q3 j hj
    rw [grc (by decide), gre] at a
    exact a
  refine ⟨F, ?_, q2, fun j hj => ?_, ?_, ?_, ?_⟩
  · simp (maxSteps := 2000000) (disch := first | assumption | omega | (and_intros <;> first | assumption | omega) | (simp (disch := omega) only [gre, grc, up_e, up_n] <;> first | assumption | omega | (and_intros <;> first | assumption | omega)) | fail) only [B_280_0, B_280_2, B_280_3, B_280_4, B_280_5, C_280, ms_ldc, ms_istore, ms_lstore, ms_astore, ms_nop, ms_jsr, ms_goto, ms_ifnull, ms_ifnonnull, ms_tsw, ms_lsw, ms_areturn, mk_invokevirtual, mk_invokespecial, mk_invokestatic, mk_builtin, ms_dup, ms_pop, ms_dup2, bd_s, bd_n, bd_d, bd_i, mz_il0, mz_il1, mz_il2, mz_il3, mz_il4, mz_il5, mz_il6, mz_il7, mz_il8, mz_il9, mz_il10, mz_il11, mz_ll1, mz_ll2, mz_ll3, mz_ll4, mz_ll5, mz_ll6, mz_ll7, mz_ll8, mz_al0, mz_al1, mz_al2, mz_al3, mz_al4, mz_al5, mz_al6, mz_al7, mz_al8, mz_al9, mz_al10, mz_al11, mz_iinc, mz_iadd, mz_isub, mz_imul, mz_ladd, mz_lsub, mz_lmul, mz_iand, mz_ior, mz_ishl, mz_ishr, mz_ineg, mz_lneg, mz_idiv, mz_irem, mz_ldiv, mz_lrem, mz_i2l, mz_l2i, mz_ic_eq_t, mz_if_eq_t, mz_ic_eq_f, mz_if_eq_f, mz_ic_ne_t, mz_if_ne_t, mz_ic_ne_f, mz_if_ne_f, mz_ic_lt_t, mz_if_lt_t, mz_ic_lt_f, mz_if_lt_f, mz_ic_ge_t, mz_if_ge_t, mz_ic_ge_f, mz_if_ge_f, mz_ic_gt_t, mz_if_gt_t, mz_ic_gt_f, mz_if_gt_f, mz_ic_le_t, mz_if_le_t, mz_ic_le_f, mz_if_le_f, mz_iret, mz_zret, mz_cret, mz_bret, mz_ret, mz_lret, mz_tswz, mz_i2c, md_lc_eq, md_lc_ne, md_lc_lt, md_lc_ge, md_lc_gt, md_lc_le, mb_max, mb_min, mb_lmax, mb_lmin, mb_6_26, mb_7_27, mb_26_6, mb_27_7, mb_10_30, mb_30_10, mb_10_45, mb_10_20, mb_20_10, mb_10_10, mb_45_45, mb_12_32, mb_13_33, mb_32_12, mb_33_13, mb_16_36, mb_36_16, mb_20_40, mb_40_20, mb_22_42, mb_23_43, mb_42_22, mb_43_23, mb_56_57, md_ic_eq, md_ic_ne, md_ic_lt, md_ic_ge, md_ic_gt, md_ic_le, md_if_eq, md_if_ne, md_if_lt, md_if_ge, md_if_gt, md_if_le, mz_g59_0, mz_g59_1, mz_g59_2, mz_g59_3, mz_g59_4, mz_p59_4, mz_g59_5, mz_p59_5, mz_g59_6, mz_p59_6, mz_g59_7, mz_p59_7, mz_g59_8, mz_p59_8, mz_g59_9, mz_p59_9, mz_g59_10, mz_p59_10, mz_g59_11, mz_p59_11, mz_g59_12, mz_p59_12, mz_g59_13, mz_p59_13, mz_g59_14, mz_p59_14, mz_g59_15, mz_g59_16, mz_p59_16, mz_g59_17, mz_p59_17, mz_g59_18, mz_p59_18, mz_g59_19, mz_p59_19, mz_g59_20, mz_g59_21, mz_g59_22, mz_g59_23, mz_p59_23, mz_g59_24, mz_p59_24, mz_g59_25, mz_g59_26, mz_g59_27, mz_g59_28, mz_g59_29, mz_g59_30, mz_g59_31, mz_g59_32, hg_59, mz_ld60, mz_st60, mz_len60, hg_60, mz_ld62, mz_st62, mz_len62, hg_62, gr_comm (a := 60) (b := 59) (by decide), gr_comm (a := 62) (b := 59) (by decide), gr_comm (a := 62) (b := 60) (by decide), e1, q1, ↓reduceIte, Nat.reduceAdd, Nat.reduceLeDiff, Nat.reduceLT, Nat.reduceEqDiff, Nat.le_refl, Bool.and_self, decide_eq_true_eq, beq_iff_eq, true_or, or_true, and_self, true_and, and_true, reduceCtorEq, if_true, if_false, mj_args, mj_fill, mj_ent, mj_lget, mj_lset, mj_pl, mj_kill, mj_pop, mj_le4, mj_lsum, mj_lw, mj_lw_rf, mj_rcv, mj_pu, mj_c1, mj_ret, mj_rf, List.length_cons, List.length_nil, Option.toList_none, Option.toList_some, List.nil_append, List.cons_append, List.getD_cons_zero, List.getD_cons_succ, List.getD_nil, zI_add, zI_sub, Int.zero_add, Int.add_zero, Int.reduceAdd, Int.reduceSub, Int.reduceMul, Int.reduceNeg, Int.reduceMod, Int.reduceDiv, Int.zero_mul, Int.mul_zero, Int.one_mul, Int.mul_one, Int.sub_zero, gsc, gs_e, gs_i, grc, gre, eq_self, Int.reduceEq, Int.reduceLT, Int.reduceLE, Int.reduceToNat, ne_eq, not_true_eq_false, not_false_eq_true, gs_up, gr_gr, up_e, up_n, up_up, dite_eq_ite, or_self, or_false, false_or, and_false, false_and, not_false_eq_true, not_true_eq_false]
  · rw [fr j (by omega), up_n (by omega), up_n (by omega), up_n (by omega), up_n (by omega)]
  · rw [fr 12 (by omega), up_n (by omega), up_n (by omega), up_n (by omega), up_e rfl]
  · rw [fr 13 (by omega), up_n (by omega), up_n (by omega), up_e rfl]
  · rw [fr 19 (by omega), up_n (by omega), up_e rfl]
theorem R_reads (h : TPE G) (h5 : 0 ≤ G 51 5 ∧ G 51 5 ≤ 300) (ht : 0 ≤ t ∧ t < 4) : ∃ (G2 : gT) (v : pT) (ro3 : rT) (tz : List mj_C), mj_ca (mj_EE L xs) mj_bi (d + 176) 97 [.ref 51] (mj_HN G ro tl) = some (some (.int (zI (if v.1 = 0 then 1 else 0))), mj_HN G2 ro3 (tl ++ tz)) ∧ (G2 51 8 = v.1 ∧ G2 51 9 = (if v.1 = 0 then -1 else lxp (G 47) (G 46 4) v.2.1.toNat)) ∧ FrmR G G2 ∧ (0 ≤ v.1 ∧ v.1 ≤ 6) ∧ (0 ≤ G2 51 5 ∧ G2 51 5 ≤ 300) ∧ (∀ (c : Nat) (j : Int), c ≠ 51 → ro3 c j = ro c j) ∧ (tz.length ≤ 25 ∧ rws tz) ∧ (v.1 = 0 → 0 ≤ G2 51 6 ∧ G2 51 6 ≤ 24) ∧ ∀ (E2 : mj_E) (H : gT) (ro2 : rT) (tl2 : List mj_C) (d2 : Nat), H 59 4 = G 46 4 → TPX (G 46 4) (G 47) (H 63) → (0 ≤ H 59 10 ∧ H 59 10 ≤ 1000000) → (0 ≤ H 59 11 ∧ H 59 11 ≤ 1152921504606846976) → H 60 1 = t → TXP (H 62) → ∃ (H2 : gT) (w1 : Int), mj_ca E2 mj_bi (d2 + 19) 280 [.ref 59] (mj_HN H ro2 tl2) = some (some (.int (zI v.1)), mj_HN H2 ro2 tl2) ∧ RFs t H H2 ∧ H2 59 8 = lxp (G 47) (G 46 4) v.2.1.toNat ∧ (0 ≤ H2 59 10 ∧ H2 59 10 ≤ 1000000) ∧ (0 ≤ H2 59 11 ∧ H2 59 11 ≤ 1152921504606846976) ∧ TXP (H2 62) ∧ (v.1 = 0 → MT (tl ++ tz) (G2 53) (ro3 51 3) (ro3 51 4) (H2 62) t (G2 51 6) w1) := by
  have hb : b255 (G 47) (G 46 4) := fun j hj => (h.2.2.2 j hj).2
  have h0 : 0 ≤ G 46 4 ∧ G 46 4 ≤ 300 := ⟨h.2.1, h.2.2.1⟩
  obtain ⟨G1, a1, a2, a3, a4, a5⟩ := q_begin (L := L) (xs := xs) (ro := ro) (tl := tl) (d := d) hb h0 rfl rfl h5
  obtain ⟨n2, G2, v, ro3, tl3, tz, b1, b2, b3, b4, b5, b6, b7, b8, b9, b10⟩ := R_all (E := (mj_EE L xs)) (d := d) (X := G 47) (Lt := G 46 4) (N := G1 46 5) (t := t) ht 24 G1 (0, 0, G1 51 5, G1 52) (rs (rs ro 51 3 none) 51 4 none) tl 0 (by omega) (by omega) a2 a3 a4 rfl
  subst b7
  have c1 := q_end (E := (mj_EE L xs)) (ro := ro3) (tl := tl ++ tz) (d := d) b3 b4 b2
  have r3 : (rs (rs ro 51 3 none) 51 4 none) 51 3 = none := by rw [rs_i (by omega), rs_e rfl]
  have r4 : (rs (rs ro 51 3 none) 51 4 none) 51 4 = none := by rw [rs_e rfl]
  refine ⟨rdH G2 v (if v.1 = 0 then -1 else lxp (G 47) (G 46 4) v.2.1.toNat), v, ro3, tz, by rw [a1, b1, c1], ⟨?_, ?_⟩, ⟨fun c hc => ?_, ?_⟩, ⟨b4.1, b4.2.1⟩, ?_, fun c j hc => by rw [b6 c j hc, rs_c hc, rs_c hc], ⟨b8.1, b8.2⟩, fun z => ?_, ?_⟩
  · unfold rdH
    rw [gre, up_n (by omega), stH_f]
  · unfold rdH
    rw [gre, up_e rfl]
  · unfold rdH stH
    rw [grc (by omega), grc (by omega), grc (by omega), grc (by omega), b5.1 c (by omega)]
    exact a5.1 c hc
  · unfold rdH stH
    rw [grc (by decide), grc (by decide), grc (by decide), gre, up_n (by omega), b5.1 46 (by decide)]
    exact a5.2
  · unfold rdH
    rw [gre, up_n (by omega), stH_s]
    exact b4.2.2.2.2
  · unfold rdH
    rw [gre, up_n (by omega), stH_6]
    exact b9 z
  · intro E2 H ro2 tl2 d2 e4 hY r1 r2 e1 hX
    obtain ⟨F, f1, f2, f3, f4, f5, f6⟩ := m_rbegin (E := E2) (G := H) (ro := ro2) (tl := tl2) (d := d2) (X := G 47) (Lt := G 46 4) hb h0 hY e4 r1 r2 ht e1
    have hH : HRf (G 47) (G 46 4) (G1 46 5) (gr (gr H 59 F) 62 (up (H 62) (681 * t) 0)) t 0 0 (sn none none) := by
      refine ⟨⟨hb, h0.1, h0.2, by rw [grc (by decide), grc (by decide)]; exact hY, by rw [grc (by decide), gre, f3 4 (by omega)]; exact e4, BK_HK a2⟩, by rw [grc (by decide), gre]; exact f2, by rw [gre]; exact TXP_up hX (by omega), by rw [grc (by decide), gre]; exact f4, by rw [grc (by decide), gre]; exact f5, Int.le_refl _, by rw [grc (by decide), gre]; exact f6⟩
    have hM : MT tl (G1 53) none none ((gr (gr H 59 F) 62 (up (H 62) (681 * t) 0)) 62) t (G1 51 6) 0 := by
      rw [gre, a4]
      exact ⟨fun i hi => by omega, Or.inl ⟨rfl, fun i hi => by omega⟩, Or.inl ⟨rfl, fun i hi => by omega⟩, Int.le_refl _, by omega, up_e rfl⟩
    rw [r3, r4] at b10
    obtain ⟨H2, w1, g1, g2, g3, g4, g5⟩ := b10 E2 (gr (gr H 59 F) 62 (up (H 62) (681 * t) 0)) ro2 tl2 d2 0 hH hM
    obtain ⟨k1, k2, k3, k4, k5, k6, k7, k8, k9⟩ := g3
    refine ⟨H2, w1, by rw [f1, g1], ⟨fun c hc => by rw [g2.1 c hc, grc (by omega), grc (by omega)], fun j hj => by rw [g2.2.1 j (by omega), grc (by decide), gre, f3 j hj], fun j hj => by rw [g2.2.2 j hj, gre, up_n (by omega)]⟩, k2, ⟨k6, k7⟩, ⟨k8, k9⟩, g4, fun z => ?_⟩
    have q := g5 z
    unfold rdH
    rw [grc (by decide), gre, up_n (by omega), stH_6]
    have e53 : stH G2 v 53 = G2 53 := by unfold stH; rw [grc (by decide), grc (by decide), grc (by decide)]
    rw [e53]
    exact q
end P5a
