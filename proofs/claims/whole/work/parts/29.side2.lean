/-! deeds side by side: walking, buying, biting, undoing -/
section P29
variable {E : mj_E} {G : gT} {ro : rT} {tl : List mj_C} {d : Nat}
theorem m_biteP_f {H0 H1 : mj_H} {p : Int} (hrc : mj_rcv 12 [.ref 59] H0 = true) (hcan : mj_ca E mj_bi (d + 9) 299 [.ref 59, .int (zI p)] H0 = some (some (.int (zI 0)), H1)) : mj_ca E mj_bi (d + 10) 308 [.ref 59, .int (zI p)] H0 = some (some (.int (zI (-1))), H1) := by
  have hrc2 : mj_rcv 12 [.ref 59, .int (zI p)] H0 = true := hrc
  simp (maxSteps := 2000000) (disch := first | assumption | omega | (and_intros <;> first | assumption | omega) | (simp (disch := omega) only [gre, grc, up_e, up_n] <;> first | assumption | omega | (and_intros <;> first | assumption | omega)) | fail) only [B_308_0, B_308_1, B_308_2, C_308, ms_ldc, ms_istore, ms_lstore, ms_astore, ms_nop, ms_jsr, ms_goto, ms_ifnull, ms_ifnonnull, ms_tsw, ms_lsw, ms_areturn, mk_invokevirtual, mk_invokespecial, mk_invokestatic, mk_builtin, ms_dup, ms_pop, ms_dup2, bd_s, bd_n, bd_d, bd_i, mz_il0, mz_il1, mz_il2, mz_il3, mz_il4, mz_il5, mz_il6, mz_il7, mz_il8, mz_il9, mz_il10, mz_il11, mz_ll1, mz_ll2, mz_ll3, mz_ll4, mz_ll5, mz_ll6, mz_ll7, mz_ll8, mz_al0, mz_al1, mz_al2, mz_al3, mz_al4, mz_al5, mz_al6, mz_al7, mz_al8, mz_al9, mz_al10, mz_al11, mz_iinc, mz_iadd, mz_isub, mz_imul, mz_ladd, mz_lsub, mz_lmul, mz_iand, mz_ior, mz_ishl, mz_ishr, mz_ineg, mz_lneg, mz_idiv, mz_irem, mz_ldiv, mz_lrem, mz_i2l, mz_l2i, mz_ic_eq_t, mz_if_eq_t, mz_ic_eq_f, mz_if_eq_f, mz_ic_ne_t, mz_if_ne_t, mz_ic_ne_f, mz_if_ne_f, mz_ic_lt_t, mz_if_lt_t, mz_ic_lt_f, mz_if_lt_f, mz_ic_ge_t, mz_if_ge_t, mz_ic_ge_f, mz_if_ge_f, mz_ic_gt_t, mz_if_gt_t, mz_ic_gt_f, mz_if_gt_f, mz_ic_le_t, mz_if_le_t, mz_ic_le_f, mz_if_le_f, mz_iret, mz_zret, mz_cret, mz_bret, mz_ret, mz_lret, mz_tswz, mz_i2c, md_lc_eq, md_lc_ne, md_lc_lt, md_lc_ge, md_lc_gt, md_lc_le, mb_max, mb_min, mb_lmax, mb_lmin, mb_6_26, mb_7_27, mb_26_6, mb_27_7, mb_10_30, mb_30_10, mb_10_45, mb_10_20, mb_20_10, mb_10_10, mb_45_45, mb_12_32, mb_13_33, mb_32_12, mb_33_13, mb_16_36, mb_36_16, mb_20_40, mb_40_20, mb_22_42, mb_23_43, mb_42_22, mb_43_23, mb_56_57, md_ic_eq, md_ic_ne, md_ic_lt, md_ic_ge, md_ic_gt, md_ic_le, md_if_eq, md_if_ne, md_if_lt, md_if_ge, md_if_gt, md_if_le, hcan, hrc2, ↓reduceIte, Nat.reduceAdd, Nat.reduceLeDiff, Nat.reduceLT, Nat.reduceEqDiff, Nat.le_refl, Bool.and_self, decide_eq_true_eq, beq_iff_eq, true_or, or_true, and_self, true_and, and_true, reduceCtorEq, if_true, if_false, mj_args, mj_fill, mj_ent, mj_lget, mj_lset, mj_pl, mj_kill, mj_pop, mj_le4, mj_lsum, mj_lw, mj_lw_rf, mj_pu, mj_c1, mj_ret, List.length_cons, List.length_nil, Option.toList_none, Option.toList_some, List.nil_append, List.cons_append, List.getD_cons_zero, List.getD_cons_succ, List.getD_nil, zI_add, zI_sub, Int.zero_add, Int.add_zero, Int.reduceAdd, Int.reduceSub, Int.reduceMul, Int.reduceNeg, Int.reduceMod, Int.reduceDiv, Int.zero_mul, Int.mul_zero, Int.one_mul, Int.mul_one, Int.sub_zero, gsc, gs_e, gs_i, grc, gre, eq_self, Int.reduceEq, Int.reduceLT, Int.reduceLE, Int.reduceToNat, ne_eq, not_true_eq_false, not_false_eq_true, gs_up, gr_gr, up_e, up_n, up_up, dite_eq_ite, or_self, or_false, false_or, and_false, false_and, not_false_eq_true, not_true_eq_false]
theorem m_biteP_t {G1 G2 G3 : gT} {p v : Int} (hcan : mj_ca E mj_bi (d + 9) 299 [.ref 59, .int (zI p)] (mj_HN G ro tl) = some (some (.int (zI 1)), mj_HN G1 ro tl)) (hk : mj_ca E mj_bi (d + 9) 306 [.ref 59] (mj_HN G1 ro tl) = some (none, mj_HN G2 ro tl)) (hnow : mj_ca E mj_bi (d + 9) 300 [.ref 59, .int (zI p)] (mj_HN G2 ro tl) = some (none, mj_HN G3 ro tl)) (hpl : mj_ca E mj_bi (d + 9) 237 [.ref 59, .int (zI p)] (mj_HN G3 ro tl) = some (some (.int (zI v)), mj_HN G3 ro tl)) : mj_ca E mj_bi (d + 10) 308 [.ref 59, .int (zI p)] (mj_HN G ro tl) = some (some (.int (zI v)), mj_HN G3 ro tl) := by
  simp (maxSteps := 2000000) (disch := first | assumption | omega | (and_intros <;> first | assumption | omega) | (simp (disch := omega) only [gre, grc, up_e, up_n] <;> first | assumption | omega | (and_intros <;> first | assumption | omega)) | fail) only [B_308_0, B_308_1, B_308_2, C_308, ms_ldc, ms_istore, ms_lstore, ms_astore, ms_nop, ms_jsr, ms_goto, ms_ifnull, ms_ifnonnull, ms_tsw, ms_lsw, ms_areturn, mk_invokevirtual, mk_invokespecial, mk_invokestatic, mk_builtin, ms_dup, ms_pop, ms_dup2, bd_s, bd_n, bd_d, bd_i, mz_il0, mz_il1, mz_il2, mz_il3, mz_il4, mz_il5, mz_il6, mz_il7, mz_il8, mz_il9, mz_il10, mz_il11, mz_ll1, mz_ll2, mz_ll3, mz_ll4, mz_ll5, mz_ll6, mz_ll7, mz_ll8, mz_al0, mz_al1, mz_al2, mz_al3, mz_al4, mz_al5, mz_al6, mz_al7, mz_al8, mz_al9, mz_al10, mz_al11, mz_iinc, mz_iadd, mz_isub, mz_imul, mz_ladd, mz_lsub, mz_lmul, mz_iand, mz_ior, mz_ishl, mz_ishr, mz_ineg, mz_lneg, mz_idiv, mz_irem, mz_ldiv, mz_lrem, mz_i2l, mz_l2i, mz_ic_eq_t, mz_if_eq_t, mz_ic_eq_f, mz_if_eq_f, mz_ic_ne_t, mz_if_ne_t, mz_ic_ne_f, mz_if_ne_f, mz_ic_lt_t, mz_if_lt_t, mz_ic_lt_f, mz_if_lt_f, mz_ic_ge_t, mz_if_ge_t, mz_ic_ge_f, mz_if_ge_f, mz_ic_gt_t, mz_if_gt_t, mz_ic_gt_f, mz_if_gt_f, mz_ic_le_t, mz_if_le_t, mz_ic_le_f, mz_if_le_f, mz_iret, mz_zret, mz_cret, mz_bret, mz_ret, mz_lret, mz_tswz, mz_i2c, md_lc_eq, md_lc_ne, md_lc_lt, md_lc_ge, md_lc_gt, md_lc_le, mb_max, mb_min, mb_lmax, mb_lmin, mb_6_26, mb_7_27, mb_26_6, mb_27_7, mb_10_30, mb_30_10, mb_10_45, mb_10_20, mb_20_10, mb_10_10, mb_45_45, mb_12_32, mb_13_33, mb_32_12, mb_33_13, mb_16_36, mb_36_16, mb_20_40, mb_40_20, mb_22_42, mb_23_43, mb_42_22, mb_43_23, mb_56_57, md_ic_eq, md_ic_ne, md_ic_lt, md_ic_ge, md_ic_gt, md_ic_le, md_if_eq, md_if_ne, md_if_lt, md_if_ge, md_if_gt, md_if_le, mz_g59_0, mz_g59_1, mz_g59_2, mz_g59_3, mz_g59_4, mz_p59_4, mz_g59_5, mz_p59_5, mz_g59_6, mz_p59_6, mz_g59_7, mz_p59_7, mz_g59_8, mz_p59_8, mz_g59_9, mz_p59_9, mz_g59_10, mz_p59_10, mz_g59_11, mz_p59_11, mz_g59_12, mz_p59_12, mz_g59_13, mz_p59_13, mz_g59_14, mz_p59_14, mz_g59_15, mz_g59_16, mz_p59_16, mz_g59_17, mz_p59_17, mz_g59_18, mz_p59_18, mz_g59_19, mz_p59_19, mz_g59_20, mz_g59_21, mz_g59_22, mz_g59_23, mz_p59_23, mz_g59_24, mz_p59_24, mz_g59_25, mz_g59_26, mz_g59_27, mz_g59_28, mz_g59_29, mz_g59_30, mz_g59_31, mz_g59_32, hg_59, hcan, hk, hnow, hpl, ↓reduceIte, Nat.reduceAdd, Nat.reduceLeDiff, Nat.reduceLT, Nat.reduceEqDiff, Nat.le_refl, Bool.and_self, decide_eq_true_eq, beq_iff_eq, true_or, or_true, and_self, true_and, and_true, reduceCtorEq, if_true, if_false, mj_args, mj_fill, mj_ent, mj_lget, mj_lset, mj_pl, mj_kill, mj_pop, mj_le4, mj_lsum, mj_lw, mj_lw_rf, mj_rcv, mj_pu, mj_c1, mj_ret, mj_rf, List.length_cons, List.length_nil, Option.toList_none, Option.toList_some, List.nil_append, List.cons_append, List.getD_cons_zero, List.getD_cons_succ, List.getD_nil, zI_add, zI_sub, Int.zero_add, Int.add_zero, Int.reduceAdd, Int.reduceSub, Int.reduceMul, Int.reduceNeg, Int.reduceMod, Int.reduceDiv, Int.zero_mul, Int.mul_zero, Int.one_mul, Int.mul_one, Int.sub_zero, gsc, gs_e, gs_i, grc, gre, eq_self, Int.reduceEq, Int.reduceLT, Int.reduceLE, Int.reduceToNat, ne_eq, not_true_eq_false, not_false_eq_true, gs_up, gr_gr, up_e, up_n, up_up, dite_eq_ite, or_self, or_false, false_or, and_false, false_and, not_false_eq_true, not_true_eq_false]
theorem R_walk (h : PW ro tl G) {p c : Int} (hr : -2147483648 ≤ p ∧ p ≤ 2147483647 ∧ -2147483648 ≤ c ∧ c ≤ 2147483647) : ∃ (v : Int) (G1 G2 : gT), mj_ca E mj_bi (d + 8) 163 [.ref 4, .int (zI p), .int (zI c), .int (zI 1)] (mj_HN G ro tl) = some (some (.int (zI v)), mj_HN G1 ro tl) ∧ mj_ca E mj_bi (d + 10) 310 [.ref 59, .int (zI p), .int (zI c)] (mj_HN G1 ro tl) = some (some (.int (zI v)), mj_HN G2 ro tl) ∧ PW ro tl G2 ∧ Frm G G2 := by
  obtain ⟨hL, hF, hR, hB, hST, hE⟩ := h
  have hE' := hE
  obtain ⟨hS, hru, e1, e2, hV, hT, hX, h23, h24, ⟨lb, hlb, hrb⟩, ⟨lr, hlr, hrr⟩⟩ := hE'
  have hn := FR0_n hR
  have hM := mOk_of hF hR
  have h0 := hF.1
  have hst : stOk G := hST.1.imp_right fun q => ⟨q.1, q.2.1, q.2.2.1⟩
  have h3 : 0 ≤ G 60 3 ∧ G 60 3 ≤ 30 := by have := hST.1; omega
  have pu := STR_push hST hF hR hB
  by_cases hc : 0 ≤ p ∧ p < G 10 0 ∧ 0 ≤ c ∧ c < 8 ∧ pD (G 10) p = 0 ∧ pB (G 10) p ≠ c
  · have hv := FR0_v (FR0_1 hR) (p := p) (by omega)
    have hq := hF.2.2.2.2.1 p (by omega)
    have dd := deed (p := p) (q := 2) hL hST hF hR hB (fv_upB hF (by omega) (by omega)) (FR0_up pu.2.2.1 (j := 4 + p * 4) (i := 11 + 4 * p) (v := c) (by omega) (by omega)) (BR_up pu.2.2.2.1 (by omega) (by omega)) (up_n (by omega)) (fun j hj => by (repeat rw [up_n (by omega)])) (by omega) (by omega)
    obtain ⟨d1, d2, d3, d4, d5, d6, d7⟩ := dd
    have cc := c_walk_y1 (E := E) (ro := ro) (tl := tl) (d := d) (LR_N hL) (LR_J hL) hF hst (p := p) (c := c) (by omega) ⟨by omega, by omega, by omega, hc.2.2.2.2.2⟩
    have mm := m_walkP (E := E) (ro := ro) (tl := tl) (d := d) (G := (gr (rmb G) 10 (arr (G 6) (up (G 10) (4 + p * 4) c) p 2))) (LR_M hL) hM h3 (p := p) (c := c) (show 0 ≤ p ∧ p < G 60 0 by omega) h23 (show 0 ≤ c ∧ c < 8 ∧ qD (G 60) p = 0 ∧ qB (G 60) p ≠ c by omega)
    have e60 : (gr (rmb G) 10 (arr (G 6) (up (G 10) (4 + p * 4) c) p 2)) 60 = G 60 := rfl
    rw [e60] at mm
    have hFr : Frm G (gr (gr (rmb G) 10 (arr (G 6) (up (G 10) (4 + p * 4) c) p 2)) 60 (rarr (up (up (kpA (G 60)) (11 + 4 * p) c) (11 + 4 * p + 3) 0) p 2)) := by
      refine ⟨fun c hc => ?_, fun j hj => rfl, fun j hj => ?_⟩
      · rw [grc (by omega), grc (by omega), rmb_o (by omega)]
      · rw [gre]; exact d6 j (by omega) (by rw [up_n (by omega)]; exact pu.2.2.2.2 j (by omega))
    exact ⟨_, _, _, cc, mm, ⟨d1, d2, d3, d4, d5, PE_of hE hFr hS hV hT⟩, hFr⟩
  · have cc := c_walk_n1 (E := E) (ro := ro) (tl := tl) (d := d) (LR_N hL) (LR_J hL) hF hst (p := p) (c := c) hr (by
      by_cases q : 0 ≤ p ∧ p < G 10 0
      · have hq := hF.2.2.2.2.1 p (by omega)
        have hv := FR0_v (FR0_1 hR) (p := p) (by omega)
        omega
      · omega)
    have mm := m_walkP_n (E := E) (ro := ro) (tl := tl) (d := d) (LR_M hL) hM h3 (p := p) (c := c) hr (by
      by_cases q : 0 ≤ p ∧ p < G 10 0
      · have hq := hF.2.2.2.2.1 p (by omega)
        have hv := FR0_v (FR0_1 hR) (p := p) (by omega)
        omega
      · omega)
    exact ⟨_, _, _, cc, mm, ⟨hL, hF, hR, hB, hST, hE⟩, Frm_rf⟩
theorem R_buy (h : PW ro tl G) {p c : Int} (hr : -2147483648 ≤ p ∧ p ≤ 2147483647 ∧ -2147483648 ≤ c ∧ c ≤ 2147483647) : ∃ (v : Int) (G1 G2 : gT), mj_ca E mj_bi (d + 8) 164 [.ref 4, .int (zI p), .int (zI c)] (mj_HN G ro tl) = some (some (.int (zI v)), mj_HN G1 ro tl) ∧ mj_ca E mj_bi (d + 10) 311 [.ref 59, .int (zI p), .int (zI c)] (mj_HN G1 ro tl) = some (some (.int (zI v)), mj_HN G2 ro tl) ∧ PW ro tl G2 ∧ Frm G G2 := by
  obtain ⟨hL, hF, hR, hB, hST, hE⟩ := h
  have hE' := hE
  obtain ⟨hS, hru, e1, e2, hV, hT, hX, h23, h24, ⟨lb, hlb, hrb⟩, ⟨lr, hlr, hrr⟩⟩ := hE'
  have hn := FR0_n hR
  have hM := mOk_of hF hR
  have h0 := hF.1
  have hst : stOk G := hST.1.imp_right fun q => ⟨q.1, q.2.1, q.2.2.1⟩
  have h3 : 0 ≤ G 60 3 ∧ G 60 3 ≤ 30 := by have := hST.1; omega
  have pu := STR_push hST hF hR hB
  by_cases hc : 0 ≤ p ∧ p < G 10 0 ∧ 1 ≤ c ∧ pC (G 10) p + c ≤ 99
  · have hv := FR0_v (FR0_1 hR) (p := p) (by omega)
    have hq := hF.2.2.2.2.1 p (by omega)
    have ek : (kpA (G 60)) (11 + 4 * p + 2) = G 10 (4 + p * 4 + 2) := by
      rw [pu.2.2.1.2 (4 + p * 4 + 2) (by omega)]
      congr 1
      omega
    have hd : G 10 (4 + p * 4 + 2) = pC (G 10) p := rfl
    have f1 : fv (up (G 10) (4 + p * 4 + 2) (G 10 (4 + p * 4 + 2) + c)) := fv_upC hF (by omega) (by omega)
    have r1 : FR0 (up (G 10) (4 + p * 4 + 2) (G 10 (4 + p * 4 + 2) + c)) (up (kpA (G 60)) (11 + 4 * p + 2) (G 10 (4 + p * 4 + 2) + c)) := FR0_up pu.2.2.1 (by omega) (by omega)
    have b1 : BR (up (G 10) (4 + p * 4 + 2) (G 10 (4 + p * 4 + 2) + c)) (up (kpA (G 60)) (11 + 4 * p + 2) (G 10 (4 + p * 4 + 2) + c)) := BR_up pu.2.2.2.1 (by omega) (by omega)
    have ko : ∀ j : Int, (j < 113 ∨ 1733 ≤ j) ∧ j ≠ 3 ∧ j ≠ 11 + 4 * p + 2 → (up (kpA (G 60)) (11 + 4 * p + 2) (G 10 (4 + p * 4 + 2) + c)) j = G 60 j := fun j hj => by rw [up_n hj.2.2]; exact pu.2.2.2.2 j (by omega)
    have s1 := STR_step (F' := (up (G 10) (4 + p * 4 + 2) (G 10 (4 + p * 4 + 2) + c))) (A' := (up (kpA (G 60)) (11 + 4 * p + 2) (G 10 (4 + p * 4 + 2) + c))) hST hF hR hB (up_n (by omega)) (up_n (by omega)) (fun j hj => ko j (by omega)) (fun j hj => up_n (by omega))
    have l1 : LR (G 6) (G 7) (up (kpA (G 60)) (11 + 4 * p + 2) (G 10 (4 + p * 4 + 2) + c)) := LR_cg hL (fun j hj => ko j (by omega))
    have cc := c_buy_y (E := E) (ro := ro) (tl := tl) (d := d) (LR_N hL) (LR_J hL) hF hst (p := p) (c := c) (by omega) (by omega)
    have mm := m_buyP (E := E) (ro := ro) (tl := tl) (d := d) (G := (gr (rmb G) 10 (up (G 10) (4 + p * 4 + 2) (G 10 (4 + p * 4 + 2) + c)))) (LR_M hL) hM h3 (p := p) (c := c) (show 0 ≤ p ∧ p < G 60 0 by omega) (show 1 ≤ c ∧ qC (G 60) p + c ≤ 99 by omega)
    have e60 : (gr (rmb G) 10 (up (G 10) (4 + p * 4 + 2) (G 10 (4 + p * 4 + 2) + c))) 60 = G 60 := rfl
    rw [e60, ek] at mm
    have hFr : Frm G (gr (gr (rmb G) 10 (up (G 10) (4 + p * 4 + 2) (G 10 (4 + p * 4 + 2) + c))) 60 (up (kpA (G 60)) (11 + 4 * p + 2) (G 10 (4 + p * 4 + 2) + c))) := by
      refine ⟨fun c hc => ?_, fun j hj => rfl, fun j hj => ?_⟩
      · rw [grc (by omega), grc (by omega), rmb_o (by omega)]
      · rw [gre]; exact ko j (by omega)
    exact ⟨_, _, _, cc, mm, ⟨l1, f1, r1, b1, s1, PE_of hE hFr hS hV hT⟩, hFr⟩
  · have cc := c_buy_n (E := E) (ro := ro) (tl := tl) (d := d) (LR_N hL) (LR_J hL) hF hst (p := p) (c := c) hr (by
      by_cases q : 0 ≤ p ∧ p < G 10 0
      · have hq := hF.2.2.2.2.1 p (by omega)
        have hv := FR0_v (FR0_1 hR) (p := p) (by omega)
        omega
      · omega)
    have mm := m_buyP_n (E := E) (ro := ro) (tl := tl) (d := d) (LR_M hL) hM h3 (p := p) (c := c) hr (by
      by_cases q : 0 ≤ p ∧ p < G 10 0
      · have hq := hF.2.2.2.2.1 p (by omega)
        have hv := FR0_v (FR0_1 hR) (p := p) (by omega)
        omega
      · omega)
    exact ⟨_, _, _, cc, mm, ⟨hL, hF, hR, hB, hST, hE⟩, Frm_rf⟩
theorem R_bite (h : PW ro tl G) {p : Int} (hr : -2147483648 ≤ p ∧ p ≤ 2147483647) : ∃ (v : Int) (G1 G2 : gT), mj_ca E mj_bi (d + 8) 161 [.ref 4, .int (zI p), .int (zI 1)] (mj_HN G ro tl) = some (some (.int (zI v)), mj_HN G1 ro tl) ∧ mj_ca E mj_bi (d + 10) 308 [.ref 59, .int (zI p)] (mj_HN G1 ro tl) = some (some (.int (zI v)), mj_HN G2 ro tl) ∧ PW ro tl G2 ∧ Frm G G2 := by
  obtain ⟨hL, hF, hR, hB, hST, hE⟩ := h
  have hE' := hE
  obtain ⟨hS, hru, e1, e2, hV, hT, hX, h23, h24, ⟨lb, hlb, hrb⟩, ⟨lr, hlr, hrr⟩⟩ := hE'
  have hn := FR0_n hR
  have hM := mOk_of hF hR
  have h0 := hF.1
  have hst : stOk G := hST.1.imp_right fun q => ⟨q.1, q.2.1, q.2.2.1⟩
  have h3 : 0 ≤ G 60 3 ∧ G 60 3 ≤ 30 := by have := hST.1; omega
  have pu := STR_push hST hF hR hB
  by_cases hc : 0 ≤ p ∧ p < G 10 0 ∧ 0 < pC (G 10) p ∧ pD (G 10) p < 8
  · have hv := FR0_v (FR0_1 hR) (p := p) (by omega)
    have hq := hF.2.2.2.2.1 p (by omega)
    have hcok := law_cOk hrb (K := G 2) (Kn := G 65) (p := p) hL hF (FR0_1 hR) (by omega) hS hV hT
    have hval := law_b hrb (K := G 2) (Kn := G 65) (p := p) hL hF (FR0_1 hR) (by omega) hS hV hT
    have hk65 : kOk (nmd (G 60) (G 65) p) := nmd_ok (LR_M hL) (LR_A hL) hM.1 (mOk_b hM) (p := p) (by omega) ⟨hM.2.1.1, hM.2.1.2, by omega, by omega, by omega, by omega⟩
    by_cases hb0 : 0 < bV (G 6) (G 7) (G 10) (G 2) (G 3) lb p
    · have ek2 : (kpA (G 60)) (11 + 4 * p + 2) = G 10 (4 + p * 4 + 2) := by
        rw [pu.2.2.1.2 (4 + p * 4 + 2) (by omega)]
        congr 1
        omega
      have ek1 : (kpA (G 60)) (11 + 4 * p + 1) = G 10 (4 + p * 4 + 1) := by
        rw [pu.2.2.1.2 (4 + p * 4 + 1) (by omega)]
        congr 1
        omega
      have hd1 : G 10 (4 + p * 4 + 1) = pD (G 10) p := rfl
      have hd2 : G 10 (4 + p * 4 + 2) = pC (G 10) p := rfl
      have fvb : fv (up (up (G 10) (4 + p * 4 + 2) (G 10 (4 + p * 4 + 2) - 1)) (4 + p * 4 + 1) (G 10 (4 + p * 4 + 1) + 1)) := fv_upD (fv_upC hF (by omega) (by omega)) (by rw [up_n (by omega)]; omega) (by omega)
      have frb : FR0 (up (up (G 10) (4 + p * 4 + 2) (G 10 (4 + p * 4 + 2) - 1)) (4 + p * 4 + 1) (G 10 (4 + p * 4 + 1) + 1)) (up (up (kpA (G 60)) (11 + 4 * p + 2) (G 10 (4 + p * 4 + 2) - 1)) (11 + 4 * p + 1) (G 10 (4 + p * 4 + 1) + 1)) := FR0_up (FR0_up pu.2.2.1 (j := 4 + p * 4 + 2) (i := 11 + 4 * p + 2) (by omega) (by omega)) (by omega) (by omega)
      have brb : BR (up (up (G 10) (4 + p * 4 + 2) (G 10 (4 + p * 4 + 2) - 1)) (4 + p * 4 + 1) (G 10 (4 + p * 4 + 1) + 1)) (up (up (kpA (G 60)) (11 + 4 * p + 2) (G 10 (4 + p * 4 + 2) - 1)) (11 + 4 * p + 1) (G 10 (4 + p * 4 + 1) + 1)) := BR_up (BR_up pu.2.2.2.1 (by omega) (by omega)) (by omega) (by omega)
      have dd := deed (p := p) (q := 0) hL hST hF hR hB fvb frb brb (by rw [up_n (by omega), up_n (by omega)]) (fun j hj => by rw [up_n (by omega), up_n (by omega)]) (by omega) (by omega)
      obtain ⟨d1, d2, d3, d4, d5, d6, d7⟩ := dd
      have cc := c_bitten_y1 (E := E) (tl := tl) (d := d) (LR_N hL) (LR_J hL) hF hst hS hru hlb (p := p) (by omega) (by omega) hb0
      have g59 : (gr (rmb (asG G 10 lb p)) 10 (arr (G 6) (up (up (G 10) (4 + p * 4 + 2) (G 10 (4 + p * 4 + 2) - 1)) (4 + p * 4 + 1) (G 10 (4 + p * 4 + 1) + 1)) p 0)) 59 = G 59 := by simp (disch := decide) only [syG_o, grc, gre, asG_o, rmb_o]
      have g60 : (gr (rmb (asG G 10 lb p)) 10 (arr (G 6) (up (up (G 10) (4 + p * 4 + 2) (G 10 (4 + p * 4 + 2) - 1)) (4 + p * 4 + 1) (G 10 (4 + p * 4 + 1) + 1)) p 0)) 60 = G 60 := by simp (disch := decide) only [syG_o, grc, gre, asG_o, rmb_o]
      have g62 : (gr (rmb (asG G 10 lb p)) 10 (arr (G 6) (up (up (G 10) (4 + p * 4 + 2) (G 10 (4 + p * 4 + 2) - 1)) (4 + p * 4 + 1) (G 10 (4 + p * 4 + 1) + 1)) p 0)) 62 = G 62 := by simp (disch := decide) only [syG_o, grc, gre, asG_o, rmb_o]
      have g65 : (gr (rmb (asG G 10 lb p)) 10 (arr (G 6) (up (up (G 10) (4 + p * 4 + 2) (G 10 (4 + p * 4 + 2) - 1)) (4 + p * 4 + 1) (G 10 (4 + p * 4 + 1) + 1)) p 0)) 65 = G 65 := by simp (disch := decide) only [syG_o, grc, gre, asG_o, rmb_o]
      have g66 : (gr (rmb (asG G 10 lb p)) 10 (arr (G 6) (up (up (G 10) (4 + p * 4 + 2) (G 10 (4 + p * 4 + 2) - 1)) (4 + p * 4 + 1) (G 10 (4 + p * 4 + 1) + 1)) p 0)) 66 = G 66 := by simp (disch := decide) only [syG_o, grc, gre, asG_o, rmb_o]
      have g67 : (gr (rmb (asG G 10 lb p)) 10 (arr (G 6) (up (up (G 10) (4 + p * 4 + 2) (G 10 (4 + p * 4 + 2) - 1)) (4 + p * 4 + 1) (G 10 (4 + p * 4 + 1) + 1)) p 0)) 67 = G 67 := by simp (disch := decide) only [syG_o, grc, gre, asG_o, rmb_o]
      have mc := m_canBite_y (E := E) (ro := ro) (tl := tl) (d := d) (G := (gr (rmb (asG G 10 lb p)) 10 (arr (G 6) (up (up (G 10) (4 + p * 4 + 2) (G 10 (4 + p * 4 + 2) - 1)) (4 + p * 4 + 1) (G 10 (4 + p * 4 + 1) + 1)) p 0))) (by rw [g60]; exact LR_M hL) (by rw [g60]; exact hM) (by rw [g66]; exact hV) (by rw [g67]; exact hT) (by rw [g62]; exact hX) (by rw [g60]; exact LR_A hL) (by rw [g60, e2]; exact ⟨hru.1, by have := hru.2; omega⟩) (by rw [g60, g62]; exact h24) (p := p) (by rw [g60]; omega) (by rw [g60]; omega) (by rw [g60, g62, g65, g66, g67]; exact hcok) (by rw [g60, g62, g65, g66, g67, hval]; exact hb0)
      rw [g60, g62, g65] at mc
      have so := syG_ok (G := gr (gr (rmb (asG G 10 lb p)) 10 (arr (G 6) (up (up (G 10) (4 + p * 4 + 2) (G 10 (4 + p * 4 + 2) - 1)) (4 + p * 4 + 1) (G 10 (4 + p * 4 + 1) + 1)) p 0)) 65 (nmd (G 60) (G 65) p)) (t := G 60 2) (q := fq (G 62) (G 60 2) 0) (by rw [grc (by decide), g66]; exact hV) (by rw [grc (by decide), g67]; exact hT) (by rw [grc (by decide), g60]; exact LR_M hL) (by rw [grc (by decide), g60]; exact mOk_b hM) (by rw [gre]; exact hk65) (by rw [grc (by decide), g62]; exact hX) (by simp (disch := decide) only [syG_o, grc, gre, asG_o, rmb_o]; exact hcok)
      have y60 : (syG (gr (gr (rmb (asG G 10 lb p)) 10 (arr (G 6) (up (up (G 10) (4 + p * 4 + 2) (G 10 (4 + p * 4 + 2) - 1)) (4 + p * 4 + 1) (G 10 (4 + p * 4 + 1) + 1)) p 0)) 65 (nmd (G 60) (G 65) p)) (G 60 2) (fq (G 62) (G 60 2) 0)) 60 = G 60 := by simp (disch := decide) only [syG_o, grc, gre, asG_o, rmb_o]
      have y59 : (syG (gr (gr (rmb (asG G 10 lb p)) 10 (arr (G 6) (up (up (G 10) (4 + p * 4 + 2) (G 10 (4 + p * 4 + 2) - 1)) (4 + p * 4 + 1) (G 10 (4 + p * 4 + 1) + 1)) p 0)) 65 (nmd (G 60) (G 65) p)) (G 60 2) (fq (G 62) (G 60 2) 0)) 59 = G 59 := by simp (disch := decide) only [syG_o, grc, gre, asG_o, rmb_o]
      have mq := m_biteQ (E := E) (ro := ro) (tl := tl) (d := d) (G := (syG (gr (gr (rmb (asG G 10 lb p)) 10 (arr (G 6) (up (up (G 10) (4 + p * 4 + 2) (G 10 (4 + p * 4 + 2) - 1)) (4 + p * 4 + 1) (G 10 (4 + p * 4 + 1) + 1)) p 0)) 65 (nmd (G 60) (G 65) p)) (G 60 2) (fq (G 62) (G 60 2) 0))) (by rw [y60]; exact LR_M hL) (by rw [y60]; exact hM) (by rw [y60]; exact h3) (p := p) (by rw [y60]; omega) (by rw [y59]; exact h23) (by rw [y60]; omega)
      have mk := m_keep (E := E) (ro := ro) (tl := tl) (d := d + 8) (G := (syG (gr (gr (rmb (asG G 10 lb p)) 10 (arr (G 6) (up (up (G 10) (4 + p * 4 + 2) (G 10 (4 + p * 4 + 2) - 1)) (4 + p * 4 + 1) (G 10 (4 + p * 4 + 1) + 1)) p 0)) 65 (nmd (G 60) (G 65) p)) (G 60 2) (fq (G 62) (G 60 2) 0))) (by rw [y60]; exact h3)
      rw [y60] at mq mk
      rw [ek1] at mq
      rw [show (kpA (G 60)) (11 + 4 * p + 2) = G 10 (4 + p * 4 + 2) from ek2, d7] at mq
      have mm := m_biteP_t mc mk mq.1 mq.2
      have hFr : Frm G (gr (syG (gr (gr (rmb (asG G 10 lb p)) 10 (arr (G 6) (up (up (G 10) (4 + p * 4 + 2) (G 10 (4 + p * 4 + 2) - 1)) (4 + p * 4 + 1) (G 10 (4 + p * 4 + 1) + 1)) p 0)) 65 (nmd (G 60) (G 65) p)) (G 60 2) (fq (G 62) (G 60 2) 0)) 60 (rarr (up (up (up (kpA (G 60)) (11 + 4 * p + 2) (G 10 (4 + p * 4 + 2) - 1)) (11 + 4 * p + 1) (G 10 (4 + p * 4 + 1) + 1)) (11 + 4 * p + 3) 0) p 0)) := by
        refine ⟨fun c hc => ?_, fun j hj => ?_, fun j hj => ?_⟩
        · rw [grc (by omega), syG_o (by omega), grc (by omega), grc (by omega), rmb_o (by omega), asG_o (by omega)]
        · rw [grc (by decide), y59]
        · rw [gre]; exact d6 j (by omega) (by rw [up_n (by omega), up_n (by omega)]; exact pu.2.2.2.2 j (by omega))
      refine ⟨_, _, _, cc, mm, ⟨?_, ?_, ?_, ?_, ?_, PE_of hE hFr ?_ ?_ ?_⟩, hFr⟩
      · simp (disch := decide) only [syG_o, grc, gre, asG_o, rmb_o]; exact d1
      · simp (disch := decide) only [syG_o, grc, gre, asG_o, rmb_o]; exact d2
      · simp (disch := decide) only [syG_o, grc, gre, asG_o, rmb_o]; exact d3
      · simp (disch := decide) only [syG_o, grc, gre, asG_o, rmb_o]; exact d4
      · have z20 : rmb (asG G 10 lb p) 20 = cpy (G 10) (G 20) 0 (G 19 1 * 54) 54 := by
          unfold rmb
          rw [gre, asG_o (by decide), asG_o (by decide), asG_o (by decide)]
        have z19 : rmb (asG G 10 lb p) 19 = up (up (G 19) 1 ((G 19 1 + 1) % 30)) 2 (min 30 (G 19 2 + 1)) := by
          unfold rmb
          rw [grc (by decide), gre, asG_o (by decide)]
        simp (disch := decide) only [syG_o, grc, gre, z20, z19]
        rw [up_n (show (1 : Int) ≠ 2 by omega), up_e rfl, up_e rfl]
        exact d5
      · simp (disch := decide) only [syG_o, grc, rmb_o]; exact asG_bnd hS
      · rw [grc (by decide)]; exact so.1
      · rw [grc (by decide)]; exact so.2
    · have cc := c_bitten_l1 (E := E) (tl := tl) (d := d) (LR_N hL) (LR_J hL) hF hst hS hru hlb (p := p) (by omega) (by omega) (by omega)
      have g59 : (asG G 10 lb p) 59 = G 59 := by simp (disch := decide) only [syG_o, grc, gre, asG_o, rmb_o]
      have g60 : (asG G 10 lb p) 60 = G 60 := by simp (disch := decide) only [syG_o, grc, gre, asG_o, rmb_o]
      have g62 : (asG G 10 lb p) 62 = G 62 := by simp (disch := decide) only [syG_o, grc, gre, asG_o, rmb_o]
      have g65 : (asG G 10 lb p) 65 = G 65 := by simp (disch := decide) only [syG_o, grc, gre, asG_o, rmb_o]
      have g66 : (asG G 10 lb p) 66 = G 66 := by simp (disch := decide) only [syG_o, grc, gre, asG_o, rmb_o]
      have g67 : (asG G 10 lb p) 67 = G 67 := by simp (disch := decide) only [syG_o, grc, gre, asG_o, rmb_o]
      have mc := m_canBite_l (E := E) (ro := ro) (tl := tl) (d := d) (G := (asG G 10 lb p)) (by rw [g60]; exact LR_M hL) (by rw [g60]; exact hM) (by rw [g66]; exact hV) (by rw [g67]; exact hT) (by rw [g62]; exact hX) (by rw [g60]; exact LR_A hL) (by rw [g60, e2]; exact ⟨hru.1, by have := hru.2; omega⟩) (by rw [g60, g62]; exact h24) (p := p) (by rw [g60]; omega) (by rw [g60]; omega) (by rw [g60, g62, g65, g66, g67]; exact hcok) (by rw [g60, g62, g65, g66, g67, hval]; exact (by omega))
      rw [g60, g62, g65] at mc
      have so := syG_ok (G := gr (asG G 10 lb p) 65 (nmd (G 60) (G 65) p)) (t := G 60 2) (q := fq (G 62) (G 60 2) 0) (by rw [grc (by decide), g66]; exact hV) (by rw [grc (by decide), g67]; exact hT) (by rw [grc (by decide), g60]; exact LR_M hL) (by rw [grc (by decide), g60]; exact mOk_b hM) (by rw [gre]; exact hk65) (by rw [grc (by decide), g62]; exact hX) (by simp (disch := decide) only [syG_o, grc, gre, asG_o, rmb_o]; exact hcok)
      have mm := m_biteP_f rfl mc
      have hFr : Frm G (syG (gr (asG G 10 lb p) 65 (nmd (G 60) (G 65) p)) (G 60 2) (fq (G 62) (G 60 2) 0)) := by
        refine ⟨fun c hc => ?_, fun j hj => ?_, fun j hj => ?_⟩
        · rw [syG_o (by omega), grc (by omega), asG_o (by omega)]
        · rw [syG_o (by decide), grc (by decide), g59]
        · rw [syG_o (by decide), grc (by decide), g60]
      refine ⟨_, _, _, cc, mm, ⟨?_, ?_, ?_, ?_, ?_, PE_of hE hFr ?_ so.1 so.2⟩, hFr⟩
      · simp (disch := decide) only [syG_o, grc, gre, asG_o, rmb_o]; exact hL
      · simp (disch := decide) only [syG_o, grc, gre, asG_o, rmb_o]; exact hF
      · simp (disch := decide) only [syG_o, grc, gre, asG_o, rmb_o]; exact hR
      · simp (disch := decide) only [syG_o, grc, gre, asG_o, rmb_o]; exact hB
      · simp (disch := decide) only [syG_o, grc, gre, asG_o, rmb_o]; exact hST
      · simp (disch := decide) only [syG_o, grc]; exact asG_bnd hS
  · have cc := c_bitten_n1 (E := E) (ro := ro) (tl := tl) (d := d) (LR_N hL) (LR_J hL) hF hst (p := p) hr (by
      by_cases q : 0 ≤ p ∧ p < G 10 0
      · have hq := hF.2.2.2.2.1 p (by omega)
        have hv := FR0_v (FR0_1 hR) (p := p) (by omega)
        omega
      · omega)
    have mm := m_biteP_f rfl (m_canBite_n (E := E) (ro := ro) (tl := tl) (d := d) (LR_M hL) hM (p := p) hr (by
      by_cases q : 0 ≤ p ∧ p < G 10 0
      · have hq := hF.2.2.2.2.1 p (by omega)
        have hv := FR0_v (FR0_1 hR) (p := p) (by omega)
        omega
      · omega))
    exact ⟨_, _, _, cc, mm, ⟨hL, hF, hR, hB, hST, hE⟩, Frm_rf⟩
theorem R_undo (h : PW ro tl G) : ∃ (v : Int) (G1 G2 : gT), mj_ca E mj_bi (d + 8) 159 [.ref 4] (mj_HN G ro tl) = some (some (.int (zI v)), mj_HN G1 ro tl) ∧ mj_ca E mj_bi (d + 10) 307 [.ref 59] (mj_HN G1 ro tl) = some (some (.int (zI v)), mj_HN G2 ro tl) ∧ PW ro tl G2 ∧ Frm G G2 := by
  obtain ⟨hL, hF, hR, hB, hST, hE⟩ := h
  have hE' := hE
  obtain ⟨hS, hru, e1, e2, hV, hT, hX, h23, h24, ⟨lb, hlb, hrb⟩, ⟨lr, hlr, hrr⟩⟩ := hE'
  have hn := FR0_n hR
  have hM := mOk_of hF hR
  have h0 := hF.1
  have hst : stOk G := hST.1.imp_right fun q => ⟨q.1, q.2.1, q.2.2.1⟩
  have h3 : 0 ≤ G 60 3 ∧ G 60 3 ≤ 30 := by have := hST.1; omega
  have pu := STR_push hST hF hR hB
  have hst2 := hst
  unfold stOk at hst2
  have h13 : G 60 3 = G 19 2 := hST.1.2.2.2.2
  by_cases hc : G 19 2 = 0
  · have c0 := c_takeBack0 (E := E) (ro := ro) (tl := tl) (d := d + 5) hst2 hc
    have cc : mj_ca E mj_bi (d + 8) 159 [.ref 4] (mj_HN G ro tl) = some (some (.int (zI (-1))), (mj_HN G ro tl)) := by
      simp (maxSteps := 2000000) (disch := first | assumption | omega | (and_intros <;> first | assumption | omega) | (simp (disch := omega) only [gre, grc, up_e, up_n] <;> first | assumption | omega | (and_intros <;> first | assumption | omega)) | fail) only [B_159_0, C_159, ms_ldc, ms_istore, ms_lstore, ms_astore, ms_nop, ms_jsr, ms_goto, ms_ifnull, ms_ifnonnull, ms_tsw, ms_lsw, ms_areturn, mk_invokevirtual, mk_invokespecial, mk_invokestatic, mk_builtin, ms_dup, ms_pop, ms_dup2, bd_s, bd_n, bd_d, bd_i, mz_il0, mz_il1, mz_il2, mz_il3, mz_il4, mz_il5, mz_il6, mz_il7, mz_il8, mz_il9, mz_il10, mz_il11, mz_ll1, mz_ll2, mz_ll3, mz_ll4, mz_ll5, mz_ll6, mz_ll7, mz_ll8, mz_al0, mz_al1, mz_al2, mz_al3, mz_al4, mz_al5, mz_al6, mz_al7, mz_al8, mz_al9, mz_al10, mz_al11, mz_iinc, mz_iadd, mz_isub, mz_imul, mz_ladd, mz_lsub, mz_lmul, mz_iand, mz_ior, mz_ishl, mz_ishr, mz_ineg, mz_lneg, mz_idiv, mz_irem, mz_ldiv, mz_lrem, mz_i2l, mz_l2i, mz_ic_eq_t, mz_if_eq_t, mz_ic_eq_f, mz_if_eq_f, mz_ic_ne_t, mz_if_ne_t, mz_ic_ne_f, mz_if_ne_f, mz_ic_lt_t, mz_if_lt_t, mz_ic_lt_f, mz_if_lt_f, mz_ic_ge_t, mz_if_ge_t, mz_ic_ge_f, mz_if_ge_f, mz_ic_gt_t, mz_if_gt_t, mz_ic_gt_f, mz_if_gt_f, mz_ic_le_t, mz_if_le_t, mz_ic_le_f, mz_if_le_f, mz_iret, mz_zret, mz_cret, mz_bret, mz_ret, mz_lret, mz_tswz, mz_i2c, md_lc_eq, md_lc_ne, md_lc_lt, md_lc_ge, md_lc_gt, md_lc_le, mb_max, mb_min, mb_lmax, mb_lmin, mb_6_26, mb_7_27, mb_26_6, mb_27_7, mb_10_30, mb_30_10, mb_10_45, mb_10_20, mb_20_10, mb_10_10, mb_45_45, mb_12_32, mb_13_33, mb_32_12, mb_33_13, mb_16_36, mb_36_16, mb_20_40, mb_40_20, mb_22_42, mb_23_43, mb_42_22, mb_43_23, mb_56_57, md_ic_eq, md_ic_ne, md_ic_lt, md_ic_ge, md_ic_gt, md_ic_le, md_if_eq, md_if_ne, md_if_lt, md_if_ge, md_if_gt, md_if_le, mz_g4_0, mz_g4_1, mz_g4_2, mz_g4_3, mz_g4_4, mz_g4_5, mz_g4_6, mz_g4_7, mz_g4_8, mz_g4_9, mz_p4_9, mz_g4_10, mz_p4_10, mz_g4_11, mz_p4_11, hg_4, mz_g19_0, mz_g19_1, mz_p19_1, mz_g19_2, mz_p19_2, hg_19, gr_comm (a := 19) (b := 4) (by decide), c0, ↓reduceIte, Nat.reduceAdd, Nat.reduceLeDiff, Nat.reduceLT, Nat.reduceEqDiff, Nat.le_refl, Bool.and_self, decide_eq_true_eq, beq_iff_eq, true_or, or_true, and_self, true_and, and_true, reduceCtorEq, if_true, if_false, mj_args, mj_fill, mj_ent, mj_lget, mj_lset, mj_pl, mj_kill, mj_pop, mj_le4, mj_lsum, mj_lw, mj_lw_rf, mj_rcv, mj_pu, mj_c1, mj_ret, mj_rf, List.length_cons, List.length_nil, Option.toList_none, Option.toList_some, List.nil_append, List.cons_append, List.getD_cons_zero, List.getD_cons_succ, List.getD_nil, zI_add, zI_sub, Int.zero_add, Int.add_zero, Int.reduceAdd, Int.reduceSub, Int.reduceMul, Int.reduceNeg, Int.reduceMod, Int.reduceDiv, Int.zero_mul, Int.mul_zero, Int.one_mul, Int.mul_one, Int.sub_zero, gsc, gs_e, gs_i, grc, gre, eq_self, Int.reduceEq, Int.reduceLT, Int.reduceLE, Int.reduceToNat, ne_eq, not_true_eq_false, not_false_eq_true, gs_up, gr_gr, up_e, up_n, up_up, dite_eq_ite, or_self, or_false, false_or, and_false, false_and, not_false_eq_true, not_true_eq_false]
    have mm := m_undo0 (E := E) (ro := ro) (tl := tl) (d := d + 7) (show G 60 3 = 0 by omega)
    exact ⟨_, _, _, cc, mm, ⟨hL, hF, hR, hB, hST, hE⟩, Frm_rf⟩
  · obtain ⟨p1, p2, p3, p4, p5, p6, p7, p8⟩ := STR_pop hST (by omega) hF hR
    have c0 := c_takeBack (E := E) (ro := ro) (tl := tl) (d := d + 5) hst2 (by omega) ⟨p7, p8⟩
    have cc : mj_ca E mj_bi (d + 8) 159 [.ref 4] (mj_HN G ro tl) = some (some (.int (zI (G 19 2 - 1))), (mj_HN (tkb G) ro tl)) := by
      simp (maxSteps := 2000000) (disch := first | assumption | omega | (and_intros <;> first | assumption | omega) | (simp (disch := omega) only [gre, grc, up_e, up_n] <;> first | assumption | omega | (and_intros <;> first | assumption | omega)) | fail) only [B_159_0, C_159, ms_ldc, ms_istore, ms_lstore, ms_astore, ms_nop, ms_jsr, ms_goto, ms_ifnull, ms_ifnonnull, ms_tsw, ms_lsw, ms_areturn, mk_invokevirtual, mk_invokespecial, mk_invokestatic, mk_builtin, ms_dup, ms_pop, ms_dup2, bd_s, bd_n, bd_d, bd_i, mz_il0, mz_il1, mz_il2, mz_il3, mz_il4, mz_il5, mz_il6, mz_il7, mz_il8, mz_il9, mz_il10, mz_il11, mz_ll1, mz_ll2, mz_ll3, mz_ll4, mz_ll5, mz_ll6, mz_ll7, mz_ll8, mz_al0, mz_al1, mz_al2, mz_al3, mz_al4, mz_al5, mz_al6, mz_al7, mz_al8, mz_al9, mz_al10, mz_al11, mz_iinc, mz_iadd, mz_isub, mz_imul, mz_ladd, mz_lsub, mz_lmul, mz_iand, mz_ior, mz_ishl, mz_ishr, mz_ineg, mz_lneg, mz_idiv, mz_irem, mz_ldiv, mz_lrem, mz_i2l, mz_l2i, mz_ic_eq_t, mz_if_eq_t, mz_ic_eq_f, mz_if_eq_f, mz_ic_ne_t, mz_if_ne_t, mz_ic_ne_f, mz_if_ne_f, mz_ic_lt_t, mz_if_lt_t, mz_ic_lt_f, mz_if_lt_f, mz_ic_ge_t, mz_if_ge_t, mz_ic_ge_f, mz_if_ge_f, mz_ic_gt_t, mz_if_gt_t, mz_ic_gt_f, mz_if_gt_f, mz_ic_le_t, mz_if_le_t, mz_ic_le_f, mz_if_le_f, mz_iret, mz_zret, mz_cret, mz_bret, mz_ret, mz_lret, mz_tswz, mz_i2c, md_lc_eq, md_lc_ne, md_lc_lt, md_lc_ge, md_lc_gt, md_lc_le, mb_max, mb_min, mb_lmax, mb_lmin, mb_6_26, mb_7_27, mb_26_6, mb_27_7, mb_10_30, mb_30_10, mb_10_45, mb_10_20, mb_20_10, mb_10_10, mb_45_45, mb_12_32, mb_13_33, mb_32_12, mb_33_13, mb_16_36, mb_36_16, mb_20_40, mb_40_20, mb_22_42, mb_23_43, mb_42_22, mb_43_23, mb_56_57, md_ic_eq, md_ic_ne, md_ic_lt, md_ic_ge, md_ic_gt, md_ic_le, md_if_eq, md_if_ne, md_if_lt, md_if_ge, md_if_gt, md_if_le, mz_g4_0, mz_g4_1, mz_g4_2, mz_g4_3, mz_g4_4, mz_g4_5, mz_g4_6, mz_g4_7, mz_g4_8, mz_g4_9, mz_p4_9, mz_g4_10, mz_p4_10, mz_g4_11, mz_p4_11, hg_4, mz_g19_0, mz_g19_1, mz_p19_1, mz_g19_2, mz_p19_2, hg_19, gr_comm (a := 19) (b := 4) (by decide), c0, ↓reduceIte, Nat.reduceAdd, Nat.reduceLeDiff, Nat.reduceLT, Nat.reduceEqDiff, Nat.le_refl, Bool.and_self, decide_eq_true_eq, beq_iff_eq, true_or, or_true, and_self, true_and, and_true, reduceCtorEq, if_true, if_false, mj_args, mj_fill, mj_ent, mj_lget, mj_lset, mj_pl, mj_kill, mj_pop, mj_le4, mj_lsum, mj_lw, mj_lw_rf, mj_rcv, mj_pu, mj_c1, mj_ret, mj_rf, List.length_cons, List.length_nil, Option.toList_none, Option.toList_some, List.nil_append, List.cons_append, List.getD_cons_zero, List.getD_cons_succ, List.getD_nil, zI_add, zI_sub, Int.zero_add, Int.add_zero, Int.reduceAdd, Int.reduceSub, Int.reduceMul, Int.reduceNeg, Int.reduceMod, Int.reduceDiv, Int.zero_mul, Int.mul_zero, Int.one_mul, Int.mul_one, Int.sub_zero, gsc, gs_e, gs_i, grc, gre, eq_self, Int.reduceEq, Int.reduceLT, Int.reduceLE, Int.reduceToNat, ne_eq, not_true_eq_false, not_false_eq_true, gs_up, gr_gr, up_e, up_n, up_up, dite_eq_ite, or_self, or_false, false_or, and_false, false_and, not_false_eq_true, not_true_eq_false]
    have t60 : tkb G 60 = G 60 := rfl
    have mm := m_undo (E := E) (ro := ro) (tl := tl) (d := d + 7) (G := tkb G) (show 0 < G 60 3 ∧ G 60 3 ≤ 30 by omega) (show 0 ≤ G 60 0 ∧ G 60 0 ≤ 5 by omega) (by rw [t60, p6]; exact ⟨p7, p8⟩)
    rw [t60, h13] at mm
    have hFr : Frm G (gr (tkb G) 60 (udA (G 60))) := by
      refine ⟨fun c hc => ?_, fun j hj => rfl, fun j hj => ?_⟩
      · unfold tkb
        rw [grc (by omega), grc (by omega), grc (by omega)]
      · rw [gre]; exact p5 j (by omega)
    refine ⟨_, _, _, cc, mm, ⟨?_, p2, p3, p4, ?_, PE_of hE hFr hS hV hT⟩, hFr⟩
    · exact LR_cg hL (fun j hj => p5 j (by omega))
    · show STR (G 20) (rdF (G 10) (G 20) ((G 19 1 + 29) % 30 * 54)) (udA (G 60)) (up (up (G 19) 1 ((G 19 1 + 29) % 30)) 2 (G 19 2 - 1) 1) (up (up (G 19) 1 ((G 19 1 + 29) % 30)) 2 (G 19 2 - 1) 2)
      rw [up_n (show (1 : Int) ≠ 2 by omega), up_e rfl, up_e rfl]
      exact p1
end P29
