/-! clauses read: the reference, laws -/
theorem TKp_up {X : Int → Int} {L p : Int} {F : Int → Int} {j v : Int} (h : TKp X L p F) (hj : 12 ≤ j) : TKp X L p (up F j v) := by
  unfold TKp at *
  rw [up_n (by omega), up_n (by omega), up_n (by omega), up_n (by omega), up_n (by omega)]
  exact h
section P59993
variable {L : Nat} {xs : Nat → Int32} {E : mj_E} {G : gT} {ro : rT} {tl : List mj_C} {d : Nat}
variable {X : Int → Int} {Lt N p k v : Int}
theorem m_law {t0 w0 so w i : Int} {r : rR} (hZ : BZ X Lt N G) (h12 : G 59 12 = t0) (h0 : 0 ≤ t0 ∧ t0 ≤ 2043) (h13 : G 59 13 = w0) (hw0 : 0 ≤ w0 ∧ w0 ≤ i) (hso : G 59 14 = so ∧ 0 ≤ so ∧ so ≤ 1) (iN : i ≤ N) (hT : TKp X Lt (lxp X Lt i.toNat) (G 59)) (hX : TXP (G 62)) (hw : t0 ≤ w ∧ w + 2 < t0 + 73) (hr : Gto (kdx X Lt) (vdx X Lt) so ([], 0, 0, i, []) r) (h99 : r.1 ≠ 99) : ∃ G2 : gT, mj_ca E mj_bi (d + 10) 275 [.ref 59, .int (zI w)] (mj_HN G ro tl) = some (some (.int (zI (r.1))), (mj_HN G2 ro tl)) ∧ FrmZ G G2 ∧ TKp X Lt (lxp X Lt r.2.1.toNat) (G2 59) ∧ 0 ≤ r.2.1 ∧ r.2.1 ≤ N ∧ TXP (G2 62) ∧ (∀ j : Int, j < t0 ∨ t0 + 681 ≤ j → G2 62 j = G 62 j) ∧ (r.1 = 0 → G2 59 13 = w0 + r.2.2.length ∧ w0 + r.2.2.length ≤ 302 ∧ G2 62 (w + 1) = w0 ∧ G2 62 (w + 2) = w0 + r.2.2.length ∧ TWx (G2 62) (t0 + 73 + 2 * w0) r.2.2 ∧ ∀ j : Int, j < t0 + 73 + 2 * w0 → j ≠ w + 1 → j ≠ w + 2 → G2 62 j = G 62 j) ∧ 0 ≤ r.1 ∧ r.1 ≤ 6 := by
  obtain ⟨n, hn⟩ := hr
  have hN3 : N ≤ 300 := hZ.2.2.2.2.2.1
  have R1 : RC0 X Lt N t0 w0 ((gr (gr G 59 (up (up (up (G 59) 16 0) 17 0) 18 0)) 62 (up (G 62) (w + 1) w0)) 62) G ([], 0, 0, i, []) (gr (gr G 59 (up (up (up (G 59) 16 0) 17 0) 18 0)) 62 (up (G 62) (w + 1) w0)) := by
    refine ⟨⟨?_, ?_, ?_, ?_, trivial, fun _ _ => rfl, trivial, ?_⟩, ?_, ?_, by show 0 ≤ i; omega, iN, ?_⟩
    · rw [grc (by decide), gre, up_n (by omega), up_n (by omega), up_n (by omega)]; exact h12
    · rw [grc (by decide), gre, up_n (by omega), up_n (by omega), up_n (by omega), h13]; show w0 = w0 + ((0 : Nat) : Int); omega
    · rw [grc (by decide), gre, up_n (by omega), up_n (by omega), up_e rfl]; rfl
    · rw [grc (by decide), gre, up_n (by omega), up_e rfl]
    · rw [gre]; exact TXP_up hX (by omega)
    · rw [grc (by decide), gre, up_e rfl]
    · rw [grc (by decide), gre]; exact TKp_up (TKp_up (TKp_up hT (by omega)) (by omega)) (by omega)
    · exact ⟨fun c hc => by rw [grc (by omega), grc (by omega)], fun j hj => by rw [grc (by decide), gre, up_n (by omega), up_n (by omega), up_n (by omega)]⟩
  obtain ⟨G2, g1, ⟨P, o, w', W, f1, f2, f3⟩, g3, g4⟩ := m_go (E := E) (ro := ro) (tl := tl) (d := d) hZ ⟨h0.1, h0.2, hw0.1⟩ hso n ([], 0, 0, i, []) (gr (gr G 59 (up (up (up (G 59) 16 0) 17 0) 18 0)) 62 (up (G 62) (w + 1) w0)) r hn h99 R1 (by
    refine ⟨?_, ?_, ?_⟩
    · show w0 + ((0 : Nat) : Int) + ((0 : Nat) : Int) ≤ i; omega
    · show -(((0 : Nat) : Int) + i) ≤ 0; omega
    · show 0 ≤ i; omega) (Or.inl rfl) (by show (0 : Nat) ≤ 150; omega)
  have e62 : (gr (gr G 59 (up (up (up (G 59) 16 0) 17 0) 18 0)) 62 (up (G 62) (w + 1) w0)) 62 = up (G 62) (w + 1) w0 := gre
  rw [e62] at f1
  obtain ⟨⟨q12, q13, q16, q17, qP, qT, qW, qX⟩, q18, qK, qi, qN, qF⟩ := f1
  dsimp only at q12 q13 qT qW qX q18 qK qi qN qF
  have wl : 0 ≤ w0 + (W.length : Int) := by omega
  refine ⟨gr G2 62 (up (G2 62) (w + 2) (w0 + W.length)), ?_, FrmZ_tr qF FrmZ_62, by rw [grc (by decide)]; exact qK, qi, qN, by rw [gre]; exact TXP_up qX (by omega), fun j hj => ?_, fun z => ?_, g3, g4⟩
  · simp (maxSteps := 2000000) (disch := first | assumption | omega | (and_intros <;> first | assumption | omega) | (simp (disch := omega) only [gre, grc, up_e, up_n] <;> first | assumption | omega | (and_intros <;> first | assumption | omega)) | fail) only [B_275_0, C_275, B_273_0, B_273_2, B_273_3, B_273_4, B_273_5, B_273_6, B_273_7, B_273_8, B_273_9, C_273, ms_ldc, ms_istore, ms_lstore, ms_astore, ms_nop, ms_jsr, ms_goto, ms_ifnull, ms_ifnonnull, ms_tsw, ms_lsw, ms_areturn, mk_invokevirtual, mk_invokespecial, mk_invokestatic, mk_builtin, ms_dup, ms_pop, ms_dup2, bd_s, bd_n, bd_d, bd_i, mz_il0, mz_il1, mz_il2, mz_il3, mz_il4, mz_il5, mz_il6, mz_il7, mz_il8, mz_il9, mz_il10, mz_il11, mz_ll1, mz_ll2, mz_ll3, mz_ll4, mz_ll5, mz_ll6, mz_ll7, mz_ll8, mz_al0, mz_al1, mz_al2, mz_al3, mz_al4, mz_al5, mz_al6, mz_al7, mz_al8, mz_al9, mz_al10, mz_al11, mz_iinc, mz_iadd, mz_isub, mz_imul, mz_ladd, mz_lsub, mz_lmul, mz_iand, mz_ior, mz_ishl, mz_ishr, mz_ineg, mz_lneg, mz_idiv, mz_irem, mz_ldiv, mz_lrem, mz_i2l, mz_l2i, mz_ic_eq_t, mz_if_eq_t, mz_ic_eq_f, mz_if_eq_f, mz_ic_ne_t, mz_if_ne_t, mz_ic_ne_f, mz_if_ne_f, mz_ic_lt_t, mz_if_lt_t, mz_ic_lt_f, mz_if_lt_f, mz_ic_ge_t, mz_if_ge_t, mz_ic_ge_f, mz_if_ge_f, mz_ic_gt_t, mz_if_gt_t, mz_ic_gt_f, mz_if_gt_f, mz_ic_le_t, mz_if_le_t, mz_ic_le_f, mz_if_le_f, mz_iret, mz_zret, mz_cret, mz_bret, mz_ret, mz_lret, mz_tswz, mz_i2c, md_lc_eq, md_lc_ne, md_lc_lt, md_lc_ge, md_lc_gt, md_lc_le, mb_max, mb_min, mb_lmax, mb_lmin, mb_6_26, mb_7_27, mb_26_6, mb_27_7, mb_10_30, mb_30_10, mb_10_45, mb_10_20, mb_20_10, mb_10_10, mb_45_45, mb_12_32, mb_13_33, mb_32_12, mb_33_13, mb_16_36, mb_36_16, mb_20_40, mb_40_20, mb_22_42, mb_23_43, mb_42_22, mb_43_23, mb_56_57, md_ic_eq, md_ic_ne, md_ic_lt, md_ic_ge, md_ic_gt, md_ic_le, md_if_eq, md_if_ne, md_if_lt, md_if_ge, md_if_gt, md_if_le, mz_g59_0, mz_g59_1, mz_g59_2, mz_g59_3, mz_g59_4, mz_p59_4, mz_g59_5, mz_p59_5, mz_g59_6, mz_p59_6, mz_g59_7, mz_p59_7, mz_g59_8, mz_p59_8, mz_g59_9, mz_p59_9, mz_g59_10, mz_p59_10, mz_g59_11, mz_p59_11, mz_g59_12, mz_p59_12, mz_g59_13, mz_p59_13, mz_g59_14, mz_p59_14, mz_g59_15, mz_g59_16, mz_p59_16, mz_g59_17, mz_p59_17, mz_g59_18, mz_p59_18, mz_g59_19, mz_p59_19, mz_g59_20, mz_g59_21, mz_g59_22, mz_g59_23, mz_p59_23, mz_g59_24, mz_p59_24, mz_g59_25, mz_g59_26, mz_g59_27, mz_g59_28, mz_g59_29, mz_g59_30, mz_g59_31, mz_g59_32, hg_59, mz_ld62, mz_st62, mz_len62, hg_62, gr_comm (a := 62) (b := 59) (by decide), h13, g1, q13, ↓reduceIte, Nat.reduceAdd, Nat.reduceLeDiff, Nat.reduceLT, Nat.reduceEqDiff, Nat.le_refl, Bool.and_self, decide_eq_true_eq, beq_iff_eq, true_or, or_true, and_self, true_and, and_true, reduceCtorEq, if_true, if_false, mj_args, mj_fill, mj_ent, mj_lget, mj_lset, mj_pl, mj_kill, mj_pop, mj_le4, mj_lsum, mj_lw, mj_lw_rf, mj_rcv, mj_pu, mj_c1, mj_ret, mj_rf, List.length_cons, List.length_nil, Option.toList_none, Option.toList_some, List.nil_append, List.cons_append, List.getD_cons_zero, List.getD_cons_succ, List.getD_nil, zI_add, zI_sub, Int.zero_add, Int.add_zero, Int.reduceAdd, Int.reduceSub, Int.reduceMul, Int.reduceNeg, Int.reduceMod, Int.reduceDiv, Int.zero_mul, Int.mul_zero, Int.one_mul, Int.mul_one, Int.sub_zero, gsc, gs_e, gs_i, grc, gre, eq_self, Int.reduceEq, Int.reduceLT, Int.reduceLE, Int.reduceToNat, ne_eq, not_true_eq_false, not_false_eq_true, gs_up, gr_gr, up_e, up_n, up_up, dite_eq_ite, or_self, or_false, false_or, and_false, false_and, not_false_eq_true, not_true_eq_false]
  · rw [gre, up_n (by omega), qT j (by omega), up_n (by omega)]
  · have eW := f2 z
    subst eW
    refine ⟨by rw [grc (by decide)]; exact q13, f3, ?_, ?_, ?_, fun j h1 h2 h3 => ?_⟩
    · rw [gre, up_n (by omega), qT _ (by omega), up_e rfl]
    · rw [gre, up_e rfl]
    · rw [gre]
      exact TWx_cg _ _ qW (fun j hj => up_n (by omega))
    · rw [gre, up_n h3, qT j (by omega), up_n h2]
end P59993
