/-! text, side by side -/
def RG (G : gT) : Prop := (0 ≤ G 51 5 ∧ G 51 5 ≤ 300) ∧ (0 ≤ G 59 10 ∧ G 59 10 ≤ 1000000) ∧ (0 ≤ G 59 11 ∧ G 59 11 ≤ 1152921504606846976)
def FrmX (t : Int) (G H : gT) : Prop := (∀ c : Nat, c ≠ 4 ∧ c ≠ 46 ∧ c ≠ 48 ∧ c ≠ 49 ∧ c ≠ 50 ∧ c ≠ 51 ∧ c ≠ 52 ∧ c ≠ 53 ∧ c ≠ 59 ∧ c ≠ 60 ∧ c ≠ 62 ∧ c ≠ 64 → H c = G c) ∧ (∀ j : Int, j ≠ 9 → H 4 j = G 4 j) ∧ (∀ j : Int, 19 < j → H 59 j = G 59 j) ∧ (∀ j : Int, j ≠ 1 → H 60 j = G 60 j) ∧ ∀ j : Int, j < 681 * t ∨ 681 * t + 681 ≤ j → H 62 j = G 62 j
theorem FrmX_rf {t : Int} {G : gT} : FrmX t G G := ⟨fun _ _ => rfl, fun _ _ => rfl, fun _ _ => rfl, fun _ _ => rfl, fun _ _ => rfl⟩
def sml (c : mj_C) : Prop := (match c with
  | .inl (_, a) => a.1
  | .inr (_, fs) => fs.length) ≤ 300
def tzOk (tz : List mj_C) : Prop := tz.length ≤ 27 ∧ ∀ c ∈ tz, sml c
theorem tzOk_nil : tzOk [] := ⟨Nat.zero_le _, fun c h => by cases h⟩
theorem tzOk_rws {tz : List mj_C} (h : tz.length ≤ 25 ∧ rws tz) : tzOk tz := ⟨by omega, fun c hc => by
  obtain ⟨n, g, h1, h2⟩ := h.2 c hc
  rw [h2]
  exact h1⟩
theorem tzOk_two {tz : List mj_C} {b r : Value} {k n : Nat} {g : Int → Int} (h : tz.length ≤ 25 ∧ rws tz) (hn : n ≤ 300) : tzOk (tz ++ [.inr (9, [b, r, .ref k]), rwA n g]) := by
  refine ⟨by rw [List.length_append]; show tz.length + 2 ≤ 27; omega, fun c hc => ?_⟩
  rcases List.mem_append.1 hc with q | q
  · exact (tzOk_rws h).2 c q
  · cases q with
    | head => show 3 ≤ 300; decide
    | tail _ q => cases q with
      | head => exact hn
      | tail _ q => cases q
theorem ap_mono {tl tz : List mj_C} : ∀ (i : Nat) (c : mj_C), tl[i]? = some c → (tl ++ tz)[i]? = some c := fun i c h => by
  rw [List.getElem?_append_left, h]
  exact (List.getElem?_eq_some_iff.1 h).1
theorem arr_mono {tl tz : List mj_C} {k n : Nat} {C : Int → Int} (h : arrAt tl k n C) : arrAt (tl ++ tz) k n C := ⟨h.1, h.2.1, ap_mono _ _ h.2.2⟩
/-- the new text -/
theorem TM_new {tl : List mj_C} {CL tx g : Int → Int} {b r : Option Nat} {t c w0 : Int} (h : MT tl CL b r tx t c w0) (hc : 0 ≤ c ∧ c ≤ 24) (hg : ∀ j : Int, 0 ≤ j ∧ j < c * 3 → g j = CL j) : TM (tl ++ [.inr (9, [mj_rf b, mj_rf r, .ref (77 + tl.length)]), rwA (c * 3).toNat g]) tx t (76 + tl.length) := by
  obtain ⟨m1, m2, m3, m4, m5, m6⟩ := h
  have a : ∀ (kb n : Nat) (C : Int → Int), arrAt tl kb n C → arrAt (tl ++ [.inr (9, [mj_rf b, mj_rf r, .ref (77 + tl.length)]), rwA (c * 3).toNat g]) kb n C := fun kb n C q => arr_mono q
  refine ⟨b, r, 77 + tl.length, (c * 3).toNat, fun j => wz (g j), w0, ⟨by omega, ?_⟩, arr_wz ⟨by omega, by omega, ?_⟩, by rw [m6]; omega, by rw [m6]; exact hc.1, by rw [m6]; exact hc.2, fun j _ => wz_b _, ?_⟩
  · rw [show 76 + tl.length - 76 = tl.length by omega, List.getElem?_append_right (Nat.le_refl _), Nat.sub_self]
    rfl
  · rw [show 77 + tl.length - 76 = tl.length + 1 by omega, List.getElem?_append_right (by omega), show tl.length + 1 - tl.length = 1 by omega]
    rfl
  · rw [m6]
    exact ⟨fun i hi => clOk_wz (clOk_cg (m1 i hi) (fun j hj => hg j (by omega)) (fun j _ => rfl)), LQ_cg m2 hc.2 m5 (fun _ _ => rfl) a, LQ_cg m3 hc.2 m5 (fun _ _ => rfl) a, m4, m5, m6⟩
section P5c
variable {L : Nat} {xs : Nat → Int32} {E : mj_E} {G : gT} {ro : rT} {tl : List mj_C} {d : Nat}
theorem c_text_f {G2 : gT} {ro3 : rT} {tz : List mj_C} {t : Int} (q1 : mj_ca (mj_EE L xs) mj_bi (d + 176) 97 [.ref 51] (mj_HN G ro tl) = some (some (.int (zI 0)), (mj_HN G2 ro3 (tl ++ tz)))) (k46 : 0 ≤ G2 46 4 ∧ G2 46 4 ≤ 300) (ht : 0 ≤ t ∧ t < 4) (k0 : G 4 9 = t) (k49 : G2 4 9 = t) : mj_ca (mj_EE L xs) mj_bi (d + 177) 178 [.ref 0] (mj_HN G ro tl) = some (some (.int (zI (-1))), (mj_HN (gr G2 46 (up (G2 46) 4 0)) ro3 (tl ++ tz))) := by
  have e : max 0 (min 0 (G2 46 4)) = 0 := by omega
  simp (maxSteps := 2000000) (disch := first | assumption | omega | (and_intros <;> first | assumption | omega) | (simp (disch := omega) only [gre, grc, up_e, up_n] <;> first | assumption | omega | (and_intros <;> first | assumption | omega)) | fail) only [B_178_0, B_178_1, B_178_2, B_178_3, B_178_4, B_178_5, C_178, B_130_0, C_130, B_149_0, C_149, ms_ldc, ms_istore, ms_lstore, ms_astore, ms_nop, ms_jsr, ms_goto, ms_ifnull, ms_ifnonnull, ms_tsw, ms_lsw, ms_areturn, mk_invokevirtual, mk_invokespecial, mk_invokestatic, mk_builtin, ms_dup, ms_pop, ms_dup2, bd_s, bd_n, bd_d, bd_i, mz_il0, mz_il1, mz_il2, mz_il3, mz_il4, mz_il5, mz_il6, mz_il7, mz_il8, mz_il9, mz_il10, mz_il11, mz_ll1, mz_ll2, mz_ll3, mz_ll4, mz_ll5, mz_ll6, mz_ll7, mz_ll8, mz_al0, mz_al1, mz_al2, mz_al3, mz_al4, mz_al5, mz_al6, mz_al7, mz_al8, mz_al9, mz_al10, mz_al11, mz_iinc, mz_iadd, mz_isub, mz_imul, mz_ladd, mz_lsub, mz_lmul, mz_iand, mz_ior, mz_ishl, mz_ishr, mz_ineg, mz_lneg, mz_idiv, mz_irem, mz_ldiv, mz_lrem, mz_i2l, mz_l2i, mz_ic_eq_t, mz_if_eq_t, mz_ic_eq_f, mz_if_eq_f, mz_ic_ne_t, mz_if_ne_t, mz_ic_ne_f, mz_if_ne_f, mz_ic_lt_t, mz_if_lt_t, mz_ic_lt_f, mz_if_lt_f, mz_ic_ge_t, mz_if_ge_t, mz_ic_ge_f, mz_if_ge_f, mz_ic_gt_t, mz_if_gt_t, mz_ic_gt_f, mz_if_gt_f, mz_ic_le_t, mz_if_le_t, mz_ic_le_f, mz_if_le_f, mz_iret, mz_zret, mz_cret, mz_bret, mz_ret, mz_lret, mz_tswz, mz_i2c, md_lc_eq, md_lc_ne, md_lc_lt, md_lc_ge, md_lc_gt, md_lc_le, mb_max, mb_min, mb_lmax, mb_lmin, mb_6_26, mb_7_27, mb_26_6, mb_27_7, mb_10_30, mb_30_10, mb_10_45, mb_10_20, mb_20_10, mb_10_10, mb_45_45, mb_12_32, mb_13_33, mb_32_12, mb_33_13, mb_16_36, mb_36_16, mb_20_40, mb_40_20, mb_22_42, mb_23_43, mb_42_22, mb_43_23, mb_56_57, md_ic_eq, md_ic_ne, md_ic_lt, md_ic_ge, md_ic_gt, md_ic_le, md_if_eq, md_if_ne, md_if_lt, md_if_ge, md_if_gt, md_if_le, mz_g0_0, mz_g0_1, mz_g0_2, mz_g0_3, mz_g0_4, mz_g0_5, hg_0, mz_g4_0, mz_g4_1, mz_g4_2, mz_g4_3, mz_g4_4, mz_g4_5, mz_g4_6, mz_g4_7, mz_g4_8, mz_g4_9, mz_p4_9, mz_g4_10, mz_p4_10, mz_g4_11, mz_p4_11, hg_4, mz_g46_0, mz_g46_1, mz_g46_2, mz_g46_3, mz_g46_4, mz_p46_4, mz_g46_5, mz_p46_5, mz_g46_6, mz_p46_6, hg_46, mz_g51_0, mz_g51_1, mz_g51_2, mz_g51_3, mz_pn51_3, mz_pr51_3, mz_g51_4, mz_pn51_4, mz_pr51_4, mz_g51_5, mz_p51_5, mz_g51_6, mz_p51_6, mz_g51_7, mz_p51_7, mz_g51_8, mz_p51_8, mz_g51_9, mz_p51_9, hg_51, gr_comm (a := 4) (b := 0) (by decide), gr_comm (a := 46) (b := 0) (by decide), gr_comm (a := 46) (b := 4) (by decide), gr_comm (a := 51) (b := 0) (by decide), gr_comm (a := 51) (b := 4) (by decide), gr_comm (a := 51) (b := 46) (by decide), e, q1, k0, ↓reduceIte, Nat.reduceAdd, Nat.reduceLeDiff, Nat.reduceLT, Nat.reduceEqDiff, Nat.le_refl, Bool.and_self, decide_eq_true_eq, beq_iff_eq, true_or, or_true, and_self, true_and, and_true, reduceCtorEq, if_true, if_false, mj_args, mj_fill, mj_ent, mj_lget, mj_lset, mj_pl, mj_kill, mj_pop, mj_le4, mj_lsum, mj_lw, mj_lw_rf, mj_rcv, mj_pu, mj_c1, mj_ret, mj_rf, List.length_cons, List.length_nil, Option.toList_none, Option.toList_some, List.nil_append, List.cons_append, List.getD_cons_zero, List.getD_cons_succ, List.getD_nil, zI_add, zI_sub, Int.zero_add, Int.add_zero, Int.reduceAdd, Int.reduceSub, Int.reduceMul, Int.reduceNeg, Int.reduceMod, Int.reduceDiv, Int.zero_mul, Int.mul_zero, Int.one_mul, Int.mul_one, Int.sub_zero, gsc, gs_e, gs_i, grc, gre, eq_self, Int.reduceEq, Int.reduceLT, Int.reduceLE, Int.reduceToNat, ne_eq, not_true_eq_false, not_false_eq_true, gs_up, gr_gr, up_e, up_n, up_up, dite_eq_ite, or_self, or_false, false_or, and_false, false_and, not_false_eq_true, not_true_eq_false]
theorem c_text_t {G2 : gT} {ro3 : rT} {tz : List mj_C} {t : Int} {c : Int} (q1 : mj_ca (mj_EE L xs) mj_bi (d + 176) 97 [.ref 51] (mj_HN G ro tl) = some (some (.int (zI 1)), (mj_HN G2 ro3 (tl ++ tz)))) (k46 : 0 ≤ G2 46 4 ∧ G2 46 4 ≤ 300) (ht : 0 ≤ t ∧ t < 4) (k0 : G 4 9 = t) (k49 : G2 4 9 = t) (h6 : G2 51 6 = c) (hc : 0 ≤ c ∧ c ≤ 24) : ∃ g : Int → Int, (∀ j : Int, 0 ≤ j ∧ j < c * 3 → g j = G2 53 j) ∧ mj_ca (mj_EE L xs) mj_bi (d + 177) 178 [.ref 0] (mj_HN G ro tl) = some (some (.int (zI t)), (mj_HN (gr (gr G2 4 (up (G2 4) 9 (t + 1))) 46 (up (G2 46) 4 0)) (rs ro3 21 t (some (76 + (tl ++ tz).length))) ((tl ++ tz) ++ [.inr (9, [mj_rf (ro3 51 3), mj_rf (ro3 51 4), .ref (77 + (tl ++ tz).length)]), rwA (c * 3).toNat g]))) := by
  have e : max 0 (min 0 (G2 46 4)) = 0 := by omega
  obtain ⟨g, g1, g2⟩ := c_result (E := (mj_EE L xs)) (G := (gr G2 46 (up (G2 46) 4 0))) (ro := ro3) (tl := (tl ++ tz)) (d := d + 173) (c := c) (by rw [grc (by decide)]; exact h6) hc
  rw [grc (by decide)] at g1
  refine ⟨g, g1, ?_⟩
  have hq : (mj_HN (gr G2 46 (up (G2 46) 4 0)) ro3 ((tl ++ tz) ++ [.inr (9, [mj_rf (ro3 51 3), mj_rf (ro3 51 4), .ref (77 + (tl ++ tz).length)]), rwA (c * 3).toNat g]))[76 + (tl ++ tz).length]? = some (.inr (9, [mj_rf (ro3 51 3), mj_rf (ro3 51 4), .ref (77 + (tl ++ tz).length)])) := HN_at
  have q3 := c_keep (E := (mj_EE L xs)) (d := d + 175) hq (by rw [grc (by decide), k49]; exact ht)
  rw [grc (by decide), k49, gr_comm (a := 46) (b := 4) (by decide)] at q3
  generalize [.inr (9, [mj_rf (ro3 51 3), mj_rf (ro3 51 4), .ref (77 + (tl ++ tz).length)]), rwA (c * 3).toNat g] = Z at *
  simp (maxSteps := 2000000) (disch := first | assumption | omega | (and_intros <;> first | assumption | omega) | (simp (disch := omega) only [gre, grc, up_e, up_n] <;> first | assumption | omega | (and_intros <;> first | assumption | omega)) | fail) only [B_178_0, B_178_1, B_178_2, B_178_3, B_178_4, B_178_5, C_178, B_130_0, C_130, B_149_0, C_149, ms_ldc, ms_istore, ms_lstore, ms_astore, ms_nop, ms_jsr, ms_goto, ms_ifnull, ms_ifnonnull, ms_tsw, ms_lsw, ms_areturn, mk_invokevirtual, mk_invokespecial, mk_invokestatic, mk_builtin, ms_dup, ms_pop, ms_dup2, bd_s, bd_n, bd_d, bd_i, mz_il0, mz_il1, mz_il2, mz_il3, mz_il4, mz_il5, mz_il6, mz_il7, mz_il8, mz_il9, mz_il10, mz_il11, mz_ll1, mz_ll2, mz_ll3, mz_ll4, mz_ll5, mz_ll6, mz_ll7, mz_ll8, mz_al0, mz_al1, mz_al2, mz_al3, mz_al4, mz_al5, mz_al6, mz_al7, mz_al8, mz_al9, mz_al10, mz_al11, mz_iinc, mz_iadd, mz_isub, mz_imul, mz_ladd, mz_lsub, mz_lmul, mz_iand, mz_ior, mz_ishl, mz_ishr, mz_ineg, mz_lneg, mz_idiv, mz_irem, mz_ldiv, mz_lrem, mz_i2l, mz_l2i, mz_ic_eq_t, mz_if_eq_t, mz_ic_eq_f, mz_if_eq_f, mz_ic_ne_t, mz_if_ne_t, mz_ic_ne_f, mz_if_ne_f, mz_ic_lt_t, mz_if_lt_t, mz_ic_lt_f, mz_if_lt_f, mz_ic_ge_t, mz_if_ge_t, mz_ic_ge_f, mz_if_ge_f, mz_ic_gt_t, mz_if_gt_t, mz_ic_gt_f, mz_if_gt_f, mz_ic_le_t, mz_if_le_t, mz_ic_le_f, mz_if_le_f, mz_iret, mz_zret, mz_cret, mz_bret, mz_ret, mz_lret, mz_tswz, mz_i2c, md_lc_eq, md_lc_ne, md_lc_lt, md_lc_ge, md_lc_gt, md_lc_le, mb_max, mb_min, mb_lmax, mb_lmin, mb_6_26, mb_7_27, mb_26_6, mb_27_7, mb_10_30, mb_30_10, mb_10_45, mb_10_20, mb_20_10, mb_10_10, mb_45_45, mb_12_32, mb_13_33, mb_32_12, mb_33_13, mb_16_36, mb_36_16, mb_20_40, mb_40_20, mb_22_42, mb_23_43, mb_42_22, mb_43_23, mb_56_57, md_ic_eq, md_ic_ne, md_ic_lt, md_ic_ge, md_ic_gt, md_ic_le, md_if_eq, md_if_ne, md_if_lt, md_if_ge, md_if_gt, md_if_le, mz_g0_0, mz_g0_1, mz_g0_2, mz_g0_3, mz_g0_4, mz_g0_5, hg_0, mz_g4_0, mz_g4_1, mz_g4_2, mz_g4_3, mz_g4_4, mz_g4_5, mz_g4_6, mz_g4_7, mz_g4_8, mz_g4_9, mz_p4_9, mz_g4_10, mz_p4_10, mz_g4_11, mz_p4_11, hg_4, mz_g46_0, mz_g46_1, mz_g46_2, mz_g46_3, mz_g46_4, mz_p46_4, mz_g46_5, mz_p46_5, mz_g46_6, mz_p46_6, hg_46, mz_g51_0, mz_g51_1, mz_g51_2, mz_g51_3, mz_pn51_3, mz_pr51_3, mz_g51_4, mz_pn51_4, mz_pr51_4, mz_g51_5, mz_p51_5, mz_g51_6, mz_p51_6, mz_g51_7, mz_p51_7, mz_g51_8, mz_p51_8, mz_g51_9, mz_p51_9, hg_51, gr_comm (a := 4) (b := 0) (by decide), gr_comm (a := 46) (b := 0) (by decide), gr_comm (a := 46) (b := 4) (by decide), gr_comm (a := 51) (b := 0) (by decide), gr_comm (a := 51) (b := 4) (by decide), gr_comm (a := 51) (b := 46) (by decide), e, q1, k0, g2, q3, ↓reduceIte, Nat.reduceAdd, Nat.reduceLeDiff, Nat.reduceLT, Nat.reduceEqDiff, Nat.le_refl, Bool.and_self, decide_eq_true_eq, beq_iff_eq, true_or, or_true, and_self, true_and, and_true, reduceCtorEq, if_true, if_false, mj_args, mj_fill, mj_ent, mj_lget, mj_lset, mj_pl, mj_kill, mj_pop, mj_le4, mj_lsum, mj_lw, mj_lw_rf, mj_rcv, mj_pu, mj_c1, mj_ret, mj_rf, List.length_cons, List.length_nil, Option.toList_none, Option.toList_some, List.nil_append, List.cons_append, List.getD_cons_zero, List.getD_cons_succ, List.getD_nil, zI_add, zI_sub, Int.zero_add, Int.add_zero, Int.reduceAdd, Int.reduceSub, Int.reduceMul, Int.reduceNeg, Int.reduceMod, Int.reduceDiv, Int.zero_mul, Int.mul_zero, Int.one_mul, Int.mul_one, Int.sub_zero, gsc, gs_e, gs_i, grc, gre, eq_self, Int.reduceEq, Int.reduceLT, Int.reduceLE, Int.reduceToNat, ne_eq, not_true_eq_false, not_false_eq_true, gs_up, gr_gr, up_e, up_n, up_up, dite_eq_ite, or_self, or_false, false_or, and_false, false_and, not_false_eq_true, not_true_eq_false]
theorem m_text_f {H2 : gT} {f t : Int} (q : mj_ca E mj_bi (d + 19) 280 [.ref 59] (mj_HN G ro tl) = some (some (.int (zI f)), (mj_HN H2 ro tl))) (hf : 0 < f ∧ f ≤ 6) (ht : 0 ≤ t ∧ t < 4) (k0 : G 60 1 = t) (k8 : 0 ≤ H2 59 8 ∧ H2 59 8 ≤ 300) : mj_ca E mj_bi (d + 20) 281 [.ref 59] (mj_HN G ro tl) = some (some (.int (zI (-1))), (mj_HN (gr H2 59 (up (up (up (H2 59) 5 f) 6 (H2 59 8)) 4 0)) ro tl)) := by
  simp (maxSteps := 2000000) (disch := first | assumption | omega | (and_intros <;> first | assumption | omega) | (simp (disch := omega) only [gre, grc, up_e, up_n] <;> first | assumption | omega | (and_intros <;> first | assumption | omega)) | fail) only [B_281_0, B_281_1, B_281_2, B_281_3, B_281_4, B_281_5, B_281_6, B_281_7, C_281, ms_ldc, ms_istore, ms_lstore, ms_astore, ms_nop, ms_jsr, ms_goto, ms_ifnull, ms_ifnonnull, ms_tsw, ms_lsw, ms_areturn, mk_invokevirtual, mk_invokespecial, mk_invokestatic, mk_builtin, ms_dup, ms_pop, ms_dup2, bd_s, bd_n, bd_d, bd_i, mz_il0, mz_il1, mz_il2, mz_il3, mz_il4, mz_il5, mz_il6, mz_il7, mz_il8, mz_il9, mz_il10, mz_il11, mz_ll1, mz_ll2, mz_ll3, mz_ll4, mz_ll5, mz_ll6, mz_ll7, mz_ll8, mz_al0, mz_al1, mz_al2, mz_al3, mz_al4, mz_al5, mz_al6, mz_al7, mz_al8, mz_al9, mz_al10, mz_al11, mz_iinc, mz_iadd, mz_isub, mz_imul, mz_ladd, mz_lsub, mz_lmul, mz_iand, mz_ior, mz_ishl, mz_ishr, mz_ineg, mz_lneg, mz_idiv, mz_irem, mz_ldiv, mz_lrem, mz_i2l, mz_l2i, mz_ic_eq_t, mz_if_eq_t, mz_ic_eq_f, mz_if_eq_f, mz_ic_ne_t, mz_if_ne_t, mz_ic_ne_f, mz_if_ne_f, mz_ic_lt_t, mz_if_lt_t, mz_ic_lt_f, mz_if_lt_f, mz_ic_ge_t, mz_if_ge_t, mz_ic_ge_f, mz_if_ge_f, mz_ic_gt_t, mz_if_gt_t, mz_ic_gt_f, mz_if_gt_f, mz_ic_le_t, mz_if_le_t, mz_ic_le_f, mz_if_le_f, mz_iret, mz_zret, mz_cret, mz_bret, mz_ret, mz_lret, mz_tswz, mz_i2c, md_lc_eq, md_lc_ne, md_lc_lt, md_lc_ge, md_lc_gt, md_lc_le, mb_max, mb_min, mb_lmax, mb_lmin, mb_6_26, mb_7_27, mb_26_6, mb_27_7, mb_10_30, mb_30_10, mb_10_45, mb_10_20, mb_20_10, mb_10_10, mb_45_45, mb_12_32, mb_13_33, mb_32_12, mb_33_13, mb_16_36, mb_36_16, mb_20_40, mb_40_20, mb_22_42, mb_23_43, mb_42_22, mb_43_23, mb_56_57, md_ic_eq, md_ic_ne, md_ic_lt, md_ic_ge, md_ic_gt, md_ic_le, md_if_eq, md_if_ne, md_if_lt, md_if_ge, md_if_gt, md_if_le, mz_g59_0, mz_g59_1, mz_g59_2, mz_g59_3, mz_g59_4, mz_p59_4, mz_g59_5, mz_p59_5, mz_g59_6, mz_p59_6, mz_g59_7, mz_p59_7, mz_g59_8, mz_p59_8, mz_g59_9, mz_p59_9, mz_g59_10, mz_p59_10, mz_g59_11, mz_p59_11, mz_g59_12, mz_p59_12, mz_g59_13, mz_p59_13, mz_g59_14, mz_p59_14, mz_g59_15, mz_g59_16, mz_p59_16, mz_g59_17, mz_p59_17, mz_g59_18, mz_p59_18, mz_g59_19, mz_p59_19, mz_g59_20, mz_g59_21, mz_g59_22, mz_g59_23, mz_p59_23, mz_g59_24, mz_p59_24, mz_g59_25, mz_g59_26, mz_g59_27, mz_g59_28, mz_g59_29, mz_g59_30, mz_g59_31, mz_g59_32, hg_59, mz_ld60, mz_st60, mz_len60, hg_60, gr_comm (a := 60) (b := 59) (by decide), q, k0, ↓reduceIte, Nat.reduceAdd, Nat.reduceLeDiff, Nat.reduceLT, Nat.reduceEqDiff, Nat.le_refl, Bool.and_self, decide_eq_true_eq, beq_iff_eq, true_or, or_true, and_self, true_and, and_true, reduceCtorEq, if_true, if_false, mj_args, mj_fill, mj_ent, mj_lget, mj_lset, mj_pl, mj_kill, mj_pop, mj_le4, mj_lsum, mj_lw, mj_lw_rf, mj_rcv, mj_pu, mj_c1, mj_ret, mj_rf, List.length_cons, List.length_nil, Option.toList_none, Option.toList_some, List.nil_append, List.cons_append, List.getD_cons_zero, List.getD_cons_succ, List.getD_nil, zI_add, zI_sub, Int.zero_add, Int.add_zero, Int.reduceAdd, Int.reduceSub, Int.reduceMul, Int.reduceNeg, Int.reduceMod, Int.reduceDiv, Int.zero_mul, Int.mul_zero, Int.one_mul, Int.mul_one, Int.sub_zero, gsc, gs_e, gs_i, grc, gre, eq_self, Int.reduceEq, Int.reduceLT, Int.reduceLE, Int.reduceToNat, ne_eq, not_true_eq_false, not_false_eq_true, gs_up, gr_gr, up_e, up_n, up_up, dite_eq_ite, or_self, or_false, false_or, and_false, false_and, not_false_eq_true, not_true_eq_false]
theorem m_text_t {H2 : gT} {t : Int} (q : mj_ca E mj_bi (d + 19) 280 [.ref 59] (mj_HN G ro tl) = some (some (.int (zI 0)), (mj_HN H2 ro tl))) (ht : 0 ≤ t ∧ t < 4) (k0 : G 60 1 = t) (k1 : H2 60 1 = t) : mj_ca E mj_bi (d + 20) 281 [.ref 59] (mj_HN G ro tl) = some (some (.int (zI t)), (mj_HN (gr (gr H2 59 (up (up (up (H2 59) 5 0) 6 (-1)) 4 0)) 60 (up (H2 60) 1 (t + 1))) ro tl)) := by
  have e : t + 1 - 1 = t := by omega
  simp (maxSteps := 2000000) (disch := first | assumption | omega | (and_intros <;> first | assumption | omega) | (simp (disch := omega) only [gre, grc, up_e, up_n] <;> first | assumption | omega | (and_intros <;> first | assumption | omega)) | fail) only [B_281_0, B_281_1, B_281_2, B_281_3, B_281_4, B_281_5, B_281_6, B_281_7, C_281, ms_ldc, ms_istore, ms_lstore, ms_astore, ms_nop, ms_jsr, ms_goto, ms_ifnull, ms_ifnonnull, ms_tsw, ms_lsw, ms_areturn, mk_invokevirtual, mk_invokespecial, mk_invokestatic, mk_builtin, ms_dup, ms_pop, ms_dup2, bd_s, bd_n, bd_d, bd_i, mz_il0, mz_il1, mz_il2, mz_il3, mz_il4, mz_il5, mz_il6, mz_il7, mz_il8, mz_il9, mz_il10, mz_il11, mz_ll1, mz_ll2, mz_ll3, mz_ll4, mz_ll5, mz_ll6, mz_ll7, mz_ll8, mz_al0, mz_al1, mz_al2, mz_al3, mz_al4, mz_al5, mz_al6, mz_al7, mz_al8, mz_al9, mz_al10, mz_al11, mz_iinc, mz_iadd, mz_isub, mz_imul, mz_ladd, mz_lsub, mz_lmul, mz_iand, mz_ior, mz_ishl, mz_ishr, mz_ineg, mz_lneg, mz_idiv, mz_irem, mz_ldiv, mz_lrem, mz_i2l, mz_l2i, mz_ic_eq_t, mz_if_eq_t, mz_ic_eq_f, mz_if_eq_f, mz_ic_ne_t, mz_if_ne_t, mz_ic_ne_f, mz_if_ne_f, mz_ic_lt_t, mz_if_lt_t, mz_ic_lt_f, mz_if_lt_f, mz_ic_ge_t, mz_if_ge_t, mz_ic_ge_f, mz_if_ge_f, mz_ic_gt_t, mz_if_gt_t, mz_ic_gt_f, mz_if_gt_f, mz_ic_le_t, mz_if_le_t, mz_ic_le_f, mz_if_le_f, mz_iret, mz_zret, mz_cret, mz_bret, mz_ret, mz_lret, mz_tswz, mz_i2c, md_lc_eq, md_lc_ne, md_lc_lt, md_lc_ge, md_lc_gt, md_lc_le, mb_max, mb_min, mb_lmax, mb_lmin, mb_6_26, mb_7_27, mb_26_6, mb_27_7, mb_10_30, mb_30_10, mb_10_45, mb_10_20, mb_20_10, mb_10_10, mb_45_45, mb_12_32, mb_13_33, mb_32_12, mb_33_13, mb_16_36, mb_36_16, mb_20_40, mb_40_20, mb_22_42, mb_23_43, mb_42_22, mb_43_23, mb_56_57, md_ic_eq, md_ic_ne, md_ic_lt, md_ic_ge, md_ic_gt, md_ic_le, md_if_eq, md_if_ne, md_if_lt, md_if_ge, md_if_gt, md_if_le, mz_g59_0, mz_g59_1, mz_g59_2, mz_g59_3, mz_g59_4, mz_p59_4, mz_g59_5, mz_p59_5, mz_g59_6, mz_p59_6, mz_g59_7, mz_p59_7, mz_g59_8, mz_p59_8, mz_g59_9, mz_p59_9, mz_g59_10, mz_p59_10, mz_g59_11, mz_p59_11, mz_g59_12, mz_p59_12, mz_g59_13, mz_p59_13, mz_g59_14, mz_p59_14, mz_g59_15, mz_g59_16, mz_p59_16, mz_g59_17, mz_p59_17, mz_g59_18, mz_p59_18, mz_g59_19, mz_p59_19, mz_g59_20, mz_g59_21, mz_g59_22, mz_g59_23, mz_p59_23, mz_g59_24, mz_p59_24, mz_g59_25, mz_g59_26, mz_g59_27, mz_g59_28, mz_g59_29, mz_g59_30, mz_g59_31, mz_g59_32, hg_59, mz_ld60, mz_st60, mz_len60, hg_60, gr_comm (a := 60) (b := 59) (by decide), q, k0, k1, e, ↓reduceIte, Nat.reduceAdd, Nat.reduceLeDiff, Nat.reduceLT, Nat.reduceEqDiff, Nat.le_refl, Bool.and_self, decide_eq_true_eq, beq_iff_eq, true_or, or_true, and_self, true_and, and_true, reduceCtorEq, if_true, if_false, mj_args, mj_fill, mj_ent, mj_lget, mj_lset, mj_pl, mj_kill, mj_pop, mj_le4, mj_lsum, mj_lw, mj_lw_rf, mj_rcv, mj_pu, mj_c1, mj_ret, mj_rf, List.length_cons, List.length_nil, Option.toList_none, Option.toList_some, List.nil_append, List.cons_append, List.getD_cons_zero, List.getD_cons_succ, List.getD_nil, zI_add, zI_sub, Int.zero_add, Int.add_zero, Int.reduceAdd, Int.reduceSub, Int.reduceMul, Int.reduceNeg, Int.reduceMod, Int.reduceDiv, Int.zero_mul, Int.mul_zero, Int.one_mul, Int.mul_one, Int.sub_zero, gsc, gs_e, gs_i, grc, gre, eq_self, Int.reduceEq, Int.reduceLT, Int.reduceLE, Int.reduceToNat, ne_eq, not_true_eq_false, not_false_eq_true, gs_up, gr_gr, up_e, up_n, up_up, dite_eq_ite, or_self, or_false, false_or, and_false, false_and, not_false_eq_true, not_true_eq_false]
theorem R_text (hP : TPE G) (hT : TXM ro tl G) (hg : RG G) : ∃ (v : Int) (ro2 : rT) (tz : List mj_C) (G1 G2 : gT), mj_ca (mj_EE L xs) mj_bi (d + 177) 178 [.ref 0] (mj_HN G ro tl) = some (some (.int (zI v)), (mj_HN G1 ro2 (tl ++ tz))) ∧ mj_ca (mj_EE L xs) mj_bi (d + 20) 281 [.ref 59] (mj_HN G1 ro2 (tl ++ tz)) = some (some (.int (zI v)), (mj_HN G2 ro2 (tl ++ tz))) ∧ TPE G2 ∧ TXM ro2 (tl ++ tz) G2 ∧ RG G2 ∧ (FLT G → FLT G2) ∧ FrmX (G 4 9) G G2 ∧ (∀ (c : Nat) (j : Int), c ≠ 51 ∧ (c ≠ 21 ∨ j < G 4 9) → ro2 c j = ro c j) ∧ G 4 9 ≤ G2 4 9 ∧ tzOk tz := by
  obtain ⟨t1, t2, t3, t4, t5⟩ := hT
  by_cases y : G 4 9 = 4
  · refine ⟨-1, ro, [], G, G, ?_, ?_, hP, ?_, hg, fun h => h, FrmX_rf, fun _ _ _ => rfl, Int.le_refl _, tzOk_nil⟩
    · rw [List.append_nil]
      simp (maxSteps := 2000000) (disch := first | assumption | omega | (and_intros <;> first | assumption | omega) | (simp (disch := omega) only [gre, grc, up_e, up_n] <;> first | assumption | omega | (and_intros <;> first | assumption | omega)) | fail) only [B_178_0, B_178_1, B_178_2, B_178_3, B_178_4, B_178_5, C_178, B_149_0, C_149, ms_ldc, ms_istore, ms_lstore, ms_astore, ms_nop, ms_jsr, ms_goto, ms_ifnull, ms_ifnonnull, ms_tsw, ms_lsw, ms_areturn, mk_invokevirtual, mk_invokespecial, mk_invokestatic, mk_builtin, ms_dup, ms_pop, ms_dup2, bd_s, bd_n, bd_d, bd_i, mz_il0, mz_il1, mz_il2, mz_il3, mz_il4, mz_il5, mz_il6, mz_il7, mz_il8, mz_il9, mz_il10, mz_il11, mz_ll1, mz_ll2, mz_ll3, mz_ll4, mz_ll5, mz_ll6, mz_ll7, mz_ll8, mz_al0, mz_al1, mz_al2, mz_al3, mz_al4, mz_al5, mz_al6, mz_al7, mz_al8, mz_al9, mz_al10, mz_al11, mz_iinc, mz_iadd, mz_isub, mz_imul, mz_ladd, mz_lsub, mz_lmul, mz_iand, mz_ior, mz_ishl, mz_ishr, mz_ineg, mz_lneg, mz_idiv, mz_irem, mz_ldiv, mz_lrem, mz_i2l, mz_l2i, mz_ic_eq_t, mz_if_eq_t, mz_ic_eq_f, mz_if_eq_f, mz_ic_ne_t, mz_if_ne_t, mz_ic_ne_f, mz_if_ne_f, mz_ic_lt_t, mz_if_lt_t, mz_ic_lt_f, mz_if_lt_f, mz_ic_ge_t, mz_if_ge_t, mz_ic_ge_f, mz_if_ge_f, mz_ic_gt_t, mz_if_gt_t, mz_ic_gt_f, mz_if_gt_f, mz_ic_le_t, mz_if_le_t, mz_ic_le_f, mz_if_le_f, mz_iret, mz_zret, mz_cret, mz_bret, mz_ret, mz_lret, mz_tswz, mz_i2c, md_lc_eq, md_lc_ne, md_lc_lt, md_lc_ge, md_lc_gt, md_lc_le, mb_max, mb_min, mb_lmax, mb_lmin, mb_6_26, mb_7_27, mb_26_6, mb_27_7, mb_10_30, mb_30_10, mb_10_45, mb_10_20, mb_20_10, mb_10_10, mb_45_45, mb_12_32, mb_13_33, mb_32_12, mb_33_13, mb_16_36, mb_36_16, mb_20_40, mb_40_20, mb_22_42, mb_23_43, mb_42_22, mb_43_23, mb_56_57, md_ic_eq, md_ic_ne, md_ic_lt, md_ic_ge, md_ic_gt, md_ic_le, md_if_eq, md_if_ne, md_if_lt, md_if_ge, md_if_gt, md_if_le, mz_g0_0, mz_g0_1, mz_g0_2, mz_g0_3, mz_g0_4, mz_g0_5, hg_0, mz_g4_0, mz_g4_1, mz_g4_2, mz_g4_3, mz_g4_4, mz_g4_5, mz_g4_6, mz_g4_7, mz_g4_8, mz_g4_9, mz_p4_9, mz_g4_10, mz_p4_10, mz_g4_11, mz_p4_11, hg_4, mz_g51_0, mz_g51_1, mz_g51_2, mz_g51_3, mz_pn51_3, mz_pr51_3, mz_g51_4, mz_pn51_4, mz_pr51_4, mz_g51_5, mz_p51_5, mz_g51_6, mz_p51_6, mz_g51_7, mz_p51_7, mz_g51_8, mz_p51_8, mz_g51_9, mz_p51_9, hg_51, gr_comm (a := 4) (b := 0) (by decide), gr_comm (a := 51) (b := 0) (by decide), gr_comm (a := 51) (b := 4) (by decide), y, ↓reduceIte, Nat.reduceAdd, Nat.reduceLeDiff, Nat.reduceLT, Nat.reduceEqDiff, Nat.le_refl, Bool.and_self, decide_eq_true_eq, beq_iff_eq, true_or, or_true, and_self, true_and, and_true, reduceCtorEq, if_true, if_false, mj_args, mj_fill, mj_ent, mj_lget, mj_lset, mj_pl, mj_kill, mj_pop, mj_le4, mj_lsum, mj_lw, mj_lw_rf, mj_rcv, mj_pu, mj_c1, mj_ret, mj_rf, List.length_cons, List.length_nil, Option.toList_none, Option.toList_some, List.nil_append, List.cons_append, List.getD_cons_zero, List.getD_cons_succ, List.getD_nil, zI_add, zI_sub, Int.zero_add, Int.add_zero, Int.reduceAdd, Int.reduceSub, Int.reduceMul, Int.reduceNeg, Int.reduceMod, Int.reduceDiv, Int.zero_mul, Int.mul_zero, Int.one_mul, Int.mul_one, Int.sub_zero, gsc, gs_e, gs_i, grc, gre, eq_self, Int.reduceEq, Int.reduceLT, Int.reduceLE, Int.reduceToNat, ne_eq, not_true_eq_false, not_false_eq_true, gs_up, gr_gr, up_e, up_n, up_up, dite_eq_ite, or_self, or_false, false_or, and_false, false_and, not_false_eq_true, not_true_eq_false]
    · rw [List.append_nil]
      simp (maxSteps := 2000000) (disch := first | assumption | omega | (and_intros <;> first | assumption | omega) | (simp (disch := omega) only [gre, grc, up_e, up_n] <;> first | assumption | omega | (and_intros <;> first | assumption | omega)) | fail) only [B_281_0, B_281_1, B_281_2, B_281_3, B_281_4, B_281_5, B_281_6, B_281_7, C_281, ms_ldc, ms_istore, ms_lstore, ms_astore, ms_nop, ms_jsr, ms_goto, ms_ifnull, ms_ifnonnull, ms_tsw, ms_lsw, ms_areturn, mk_invokevirtual, mk_invokespecial, mk_invokestatic, mk_builtin, ms_dup, ms_pop, ms_dup2, bd_s, bd_n, bd_d, bd_i, mz_il0, mz_il1, mz_il2, mz_il3, mz_il4, mz_il5, mz_il6, mz_il7, mz_il8, mz_il9, mz_il10, mz_il11, mz_ll1, mz_ll2, mz_ll3, mz_ll4, mz_ll5, mz_ll6, mz_ll7, mz_ll8, mz_al0, mz_al1, mz_al2, mz_al3, mz_al4, mz_al5, mz_al6, mz_al7, mz_al8, mz_al9, mz_al10, mz_al11, mz_iinc, mz_iadd, mz_isub, mz_imul, mz_ladd, mz_lsub, mz_lmul, mz_iand, mz_ior, mz_ishl, mz_ishr, mz_ineg, mz_lneg, mz_idiv, mz_irem, mz_ldiv, mz_lrem, mz_i2l, mz_l2i, mz_ic_eq_t, mz_if_eq_t, mz_ic_eq_f, mz_if_eq_f, mz_ic_ne_t, mz_if_ne_t, mz_ic_ne_f, mz_if_ne_f, mz_ic_lt_t, mz_if_lt_t, mz_ic_lt_f, mz_if_lt_f, mz_ic_ge_t, mz_if_ge_t, mz_ic_ge_f, mz_if_ge_f, mz_ic_gt_t, mz_if_gt_t, mz_ic_gt_f, mz_if_gt_f, mz_ic_le_t, mz_if_le_t, mz_ic_le_f, mz_if_le_f, mz_iret, mz_zret, mz_cret, mz_bret, mz_ret, mz_lret, mz_tswz, mz_i2c, md_lc_eq, md_lc_ne, md_lc_lt, md_lc_ge, md_lc_gt, md_lc_le, mb_max, mb_min, mb_lmax, mb_lmin, mb_6_26, mb_7_27, mb_26_6, mb_27_7, mb_10_30, mb_30_10, mb_10_45, mb_10_20, mb_20_10, mb_10_10, mb_45_45, mb_12_32, mb_13_33, mb_32_12, mb_33_13, mb_16_36, mb_36_16, mb_20_40, mb_40_20, mb_22_42, mb_23_43, mb_42_22, mb_43_23, mb_56_57, md_ic_eq, md_ic_ne, md_ic_lt, md_ic_ge, md_ic_gt, md_ic_le, md_if_eq, md_if_ne, md_if_lt, md_if_ge, md_if_gt, md_if_le, mz_g59_0, mz_g59_1, mz_g59_2, mz_g59_3, mz_g59_4, mz_p59_4, mz_g59_5, mz_p59_5, mz_g59_6, mz_p59_6, mz_g59_7, mz_p59_7, mz_g59_8, mz_p59_8, mz_g59_9, mz_p59_9, mz_g59_10, mz_p59_10, mz_g59_11, mz_p59_11, mz_g59_12, mz_p59_12, mz_g59_13, mz_p59_13, mz_g59_14, mz_p59_14, mz_g59_15, mz_g59_16, mz_p59_16, mz_g59_17, mz_p59_17, mz_g59_18, mz_p59_18, mz_g59_19, mz_p59_19, mz_g59_20, mz_g59_21, mz_g59_22, mz_g59_23, mz_p59_23, mz_g59_24, mz_p59_24, mz_g59_25, mz_g59_26, mz_g59_27, mz_g59_28, mz_g59_29, mz_g59_30, mz_g59_31, mz_g59_32, hg_59, mz_ld60, mz_st60, mz_len60, hg_60, gr_comm (a := 60) (b := 59) (by decide), t1, y, ↓reduceIte, Nat.reduceAdd, Nat.reduceLeDiff, Nat.reduceLT, Nat.reduceEqDiff, Nat.le_refl, Bool.and_self, decide_eq_true_eq, beq_iff_eq, true_or, or_true, and_self, true_and, and_true, reduceCtorEq, if_true, if_false, mj_args, mj_fill, mj_ent, mj_lget, mj_lset, mj_pl, mj_kill, mj_pop, mj_le4, mj_lsum, mj_lw, mj_lw_rf, mj_rcv, mj_pu, mj_c1, mj_ret, mj_rf, List.length_cons, List.length_nil, Option.toList_none, Option.toList_some, List.nil_append, List.cons_append, List.getD_cons_zero, List.getD_cons_succ, List.getD_nil, zI_add, zI_sub, Int.zero_add, Int.add_zero, Int.reduceAdd, Int.reduceSub, Int.reduceMul, Int.reduceNeg, Int.reduceMod, Int.reduceDiv, Int.zero_mul, Int.mul_zero, Int.one_mul, Int.mul_one, Int.sub_zero, gsc, gs_e, gs_i, grc, gre, eq_self, Int.reduceEq, Int.reduceLT, Int.reduceLE, Int.reduceToNat, ne_eq, not_true_eq_false, not_false_eq_true, gs_up, gr_gr, up_e, up_n, up_up, dite_eq_ite, or_self, or_false, false_or, and_false, false_and, not_false_eq_true, not_true_eq_false]
    · rw [List.append_nil]
      exact ⟨t1, t2, t3, t4, t5⟩
  obtain ⟨G2, v, ro3, tz, a1, ⟨a2, a3⟩, a4, a5, a6, a7, a8, a9, a10⟩ := R_reads (L := L) (xs := xs) (ro := ro) (tl := tl) (d := d) (t := G 4 9) hP hg.1 (by omega)
  have h0 := hP
  obtain ⟨p1, p2, p3, p4⟩ := h0
  have k4 : G2 4 = G 4 := a4.1 4 (by decide)
  have k49 : G2 4 9 = G 4 9 := by rw [k4]
  have k46 : G2 46 4 = G 46 4 := a4.2
  have lb := lxp_b (X := G 47) p2 v.2.1.toNat
  by_cases z : v.1 = 0
  · rw [if_pos z] at a1 a3
    obtain ⟨g, g1, g2⟩ := c_text_t (G := G) (t := G 4 9) a1 (by rw [k46]; exact ⟨p2, p3⟩) (by omega) rfl k49 (h6 := rfl) (a9 z)
    have k47 : ∀ c : Nat, 54 ≤ c → (gr (gr G2 4 (up (G2 4) 9 (G 4 9 + 1))) 46 (up (G2 46) 4 0)) c = G c := fun c hc => by rw [grc (by omega), grc (by omega)]; exact a4.1 c (by omega)
    obtain ⟨H2, w1, b1, b2, b3, b4, b5, b6, b7⟩ := a10 (mj_EE L xs) (gr (gr G2 4 (up (G2 4) 9 (G 4 9 + 1))) 46 (up (G2 46) 4 0)) (rs ro3 21 (G 4 9) (some (76 + (tl ++ tz).length))) ((tl ++ tz) ++ [.inr (9, [mj_rf (ro3 51 3), mj_rf (ro3 51 4), .ref (77 + (tl ++ tz).length)]), rwA (G2 51 6 * 3).toNat g]) d (by rw [k47 59 (by omega)]; exact p1) (by rw [k47 63 (by omega)]; exact p4) (by rw [k47 59 (by omega)]; exact hg.2.1) (by rw [k47 59 (by omega)]; exact hg.2.2) (by rw [k47 60 (by omega)]; exact t1) (by rw [k47 62 (by omega)]; exact t4)
    have e60 : H2 60 = G 60 := by rw [b2.1 60 (by omega), k47 60 (by omega)]
    rw [z] at b1
    have r1 := m_text_t b1 (t := G 4 9) (by omega) (by rw [k47 60 (by omega)]; exact t1) (by rw [e60]; exact t1)
    have cl : ∀ c : Nat, c ≠ 59 ∧ c ≠ 62 ∧ c ≠ 64 → c ≠ 60 → (gr (gr H2 59 (up (up (up (H2 59) 5 0) 6 (-1)) 4 0)) 60 (up (H2 60) 1 (G 4 9 + 1))) c = (gr (gr G2 4 (up (G2 4) 9 (G 4 9 + 1))) 46 (up (G2 46) 4 0)) c := fun c hc h6 => by rw [grc (by omega), grc (by omega), b2.1 c hc]
    have c4 := cl 4 (by decide) (by decide)
    have c46 := cl 46 (by decide) (by decide)
    have c51 := cl 51 (by decide) (by decide)
    rw [grc (by decide), gre] at c4
    rw [gre] at c46
    rw [grc (by decide), grc (by decide)] at c51
    have c60 : (gr (gr H2 59 (up (up (up (H2 59) 5 0) 6 (-1)) 4 0)) 60 (up (H2 60) 1 (G 4 9 + 1))) 60 = up (G 60) 1 (G 4 9 + 1) := by rw [gre, e60]
    have c59 : (gr (gr H2 59 (up (up (up (H2 59) 5 0) 6 (-1)) 4 0)) 60 (up (H2 60) 1 (G 4 9 + 1))) 59 = up (up (up (H2 59) 5 0) 6 (-1)) 4 0 := by rw [grc (by decide), gre]
    have c62 : (gr (gr H2 59 (up (up (up (H2 59) 5 0) 6 (-1)) 4 0)) 60 (up (H2 60) 1 (G 4 9 + 1))) 62 = H2 62 := by rw [grc (by decide), grc (by decide)]
    refine ⟨G 4 9, rs ro3 21 (G 4 9) (some (76 + (tl ++ tz).length)), tz ++ [.inr (9, [mj_rf (ro3 51 3), mj_rf (ro3 51 4), .ref (77 + (tl ++ tz).length)]), rwA (G2 51 6 * 3).toNat g], (gr (gr G2 4 (up (G2 4) 9 (G 4 9 + 1))) 46 (up (G2 46) 4 0)), (gr (gr H2 59 (up (up (up (H2 59) 5 0) 6 (-1)) 4 0)) 60 (up (H2 60) 1 (G 4 9 + 1))), ?_, ?_, ?_, ?_, ?_, fun _ => ?_, ?_, fun c j hc => ?_, ?_, tzOk_two a8 (by have := a9 z; omega)⟩
    · rw [g2, List.append_assoc]
    · rw [← List.append_assoc]
      exact r1
    · generalize (gr (gr H2 59 (up (up (up (H2 59) 5 0) 6 (-1)) 4 0)) 60 (up (H2 60) 1 (G 4 9 + 1))) = K at *
      unfold TPE
      rw [c59, c46, up_e rfl, up_e rfl]
      exact ⟨rfl, by omega, by omega, fun j hj => by omega⟩
    · generalize (gr (gr H2 59 (up (up (up (H2 59) 5 0) 6 (-1)) 4 0)) 60 (up (H2 60) 1 (G 4 9 + 1))) = K at *
      unfold TXM
      rw [c4, c60, c62, up_e rfl, up_e rfl]
      refine ⟨rfl, by omega, by omega, b6, fun t ht => ?_⟩
      by_cases ye : t = G 4 9
      · refine ⟨76 + (tl ++ tz).length, by rw [rs_e ye], ?_⟩
        rw [← List.append_assoc, ye]
        exact TM_new (b7 z) (a9 z) g1
      · obtain ⟨k, k1, k2⟩ := t5 t (by omega)
        refine ⟨k, by rw [rs_i ye, a7 21 t (by decide)]; exact k1, TM_cg k2 (fun j hj => ?_) ap_mono⟩
        rw [b2.2.2 j (by omega), k47 62 (by omega)]
    · generalize (gr (gr H2 59 (up (up (up (H2 59) 5 0) 6 (-1)) 4 0)) 60 (up (H2 60) 1 (G 4 9 + 1))) = K at *
      unfold RG
      rw [c51, c59, up_n (by omega), up_n (by omega), up_n (by omega), up_n (by omega), up_n (by omega), up_n (by omega)]
      exact ⟨a6, b4, b5⟩
    · generalize (gr (gr H2 59 (up (up (up (H2 59) 5 0) 6 (-1)) 4 0)) 60 (up (H2 60) 1 (G 4 9 + 1))) = K at *
      unfold FLT
      rw [c51, c59, a2, a3, z, up_n (by omega), up_n (by omega), up_e rfl, up_n (by omega), up_e rfl]
      omega
    · refine ⟨fun c hc => ?_, fun j hj => ?_, fun j hj => ?_, fun j hj => ?_, fun j hj => ?_⟩
      · rw [cl c (by omega) (by omega), grc (by omega), grc (by omega)]
        exact a4.1 c (by omega)
      · rw [c4, up_n hj, k4]
      · rw [c59, up_n (by omega), up_n (by omega), up_n (by omega), b2.2.1 j (by omega), k47 59 (by omega)]
      · rw [c60, up_n hj]
      · rw [c62, b2.2.2 j hj, k47 62 (by omega)]
    · by_cases c21 : c = 21
      · subst c21
        rw [rs_i (by omega)]
        exact a7 21 j (by decide)
      · rw [rs_c c21]
        exact a7 c j hc.1
    · rw [c4, up_e rfl]
      omega
  · rw [if_neg z] at a1 a3
    have g2 := c_text_f (G := G) (t := G 4 9) a1 (by rw [k46]; exact ⟨p2, p3⟩) (by omega) rfl k49
    have k47 : ∀ c : Nat, 54 ≤ c → (gr G2 46 (up (G2 46) 4 0)) c = G c := fun c hc => by rw [grc (by omega)]; exact a4.1 c (by omega)
    obtain ⟨H2, w1, b1, b2, b3, b4, b5, b6, b7⟩ := a10 (mj_EE L xs) (gr G2 46 (up (G2 46) 4 0)) ro3 (tl ++ tz) d (by rw [k47 59 (by omega)]; exact p1) (by rw [k47 63 (by omega)]; exact p4) (by rw [k47 59 (by omega)]; exact hg.2.1) (by rw [k47 59 (by omega)]; exact hg.2.2) (by rw [k47 60 (by omega)]; exact t1) (by rw [k47 62 (by omega)]; exact t4)
    have e60 : H2 60 = G 60 := by rw [b2.1 60 (by omega), k47 60 (by omega)]
    have r1 := m_text_f b1 (t := G 4 9) (by omega) (by omega) (by rw [k47 60 (by omega)]; exact t1) (by rw [b3]; omega)
    have cl : ∀ c : Nat, c ≠ 59 ∧ c ≠ 62 ∧ c ≠ 64 → (gr H2 59 (up (up (up (H2 59) 5 v.1) 6 (H2 59 8)) 4 0)) c = (gr G2 46 (up (G2 46) 4 0)) c := fun c hc => by rw [grc (by omega), b2.1 c hc]
    have c4 := cl 4 (by decide)
    have c46 := cl 46 (by decide)
    have c51 := cl 51 (by decide)
    have c60 := cl 60 (by decide)
    rw [grc (by decide), k4] at c4
    rw [gre] at c46
    rw [grc (by decide)] at c51
    rw [grc (a := 46) (by decide), a4.1 60 (by decide)] at c60
    have c59 : (gr H2 59 (up (up (up (H2 59) 5 v.1) 6 (H2 59 8)) 4 0)) 59 = up (up (up (H2 59) 5 v.1) 6 (H2 59 8)) 4 0 := by rw [gre]
    have c62 : (gr H2 59 (up (up (up (H2 59) 5 v.1) 6 (H2 59 8)) 4 0)) 62 = H2 62 := by rw [grc (by decide)]
    refine ⟨-1, ro3, tz, (gr G2 46 (up (G2 46) 4 0)), (gr H2 59 (up (up (up (H2 59) 5 v.1) 6 (H2 59 8)) 4 0)), g2, r1, ?_, ?_, ?_, fun _ => ?_, ?_, fun c j hc => a7 c j hc.1, ?_, tzOk_rws a8⟩
    · generalize (gr H2 59 (up (up (up (H2 59) 5 v.1) 6 (H2 59 8)) 4 0)) = K at *
      unfold TPE
      rw [c59, c46, up_e rfl, up_e rfl]
      exact ⟨rfl, by omega, by omega, fun j hj => by omega⟩
    · generalize (gr H2 59 (up (up (up (H2 59) 5 v.1) 6 (H2 59 8)) 4 0)) = K at *
      unfold TXM
      rw [c4, c60, c62]
      refine ⟨t1, t2, t3, b6, fun t ht => ?_⟩
      obtain ⟨k, k1, k2⟩ := t5 t (by omega)
      refine ⟨k, by rw [a7 21 t (by decide)]; exact k1, TM_cg k2 (fun j hj => ?_) ap_mono⟩
      rw [b2.2.2 j (by omega), k47 62 (by omega)]
    · generalize (gr H2 59 (up (up (up (H2 59) 5 v.1) 6 (H2 59 8)) 4 0)) = K at *
      unfold RG
      rw [c51, c59, up_n (by omega), up_n (by omega), up_n (by omega), up_n (by omega), up_n (by omega), up_n (by omega)]
      exact ⟨a6, b4, b5⟩
    · generalize (gr H2 59 (up (up (up (H2 59) 5 v.1) 6 (H2 59 8)) 4 0)) = K at *
      unfold FLT
      rw [c51, c59, a2, a3, up_n (by omega), up_n (by omega), up_e rfl, up_n (by omega), up_e rfl, b3]
      omega
    · refine ⟨fun c hc => ?_, fun j hj => ?_, fun j hj => ?_, fun j hj => ?_, fun j hj => ?_⟩
      · rw [cl c (by omega), grc (by omega)]
        exact a4.1 c (by omega)
      · rw [c4]
      · rw [c59, up_n (by omega), up_n (by omega), up_n (by omega), b2.2.1 j (by omega), k47 59 (by omega)]
      · rw [c60]
      · rw [c62, b2.2.2 j hj, k47 62 (by omega)]
    · rw [c4]
      omega
end P5c
