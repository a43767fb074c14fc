/-! deeds with a step, the sides apart -/
section P42
variable {E : mj_E} {G : gT} {ro : rT} {tl : List mj_C} {d : Nat}
theorem R_comeM {G H : gT} (h : PW ro tl (mg G H)) {p : Int} (hr : -2147483648 ≤ p ∧ p ≤ 2147483647) : ∃ (v : Int) (G2 H2 : gT), (∀ H0 : gT, mj_ca E mj_bi (d + 8) 162 [.ref 4, .int (zI p), .int (zI 1)] (mj_HN (mg G H0) ro tl) = some (some (.int (zI v)), mj_HN (mg G2 H0) ro tl)) ∧ (∀ G0 : gT, mj_ca E mj_bi (d + 10) 309 [.ref 59, .int (zI p)] (mj_HN (mg G0 H) ro tl) = some (some (.int (zI v)), mj_HN (mg G0 H2) ro tl)) ∧ PW ro tl (mg G2 H2) ∧ FrmP (mg G H) (mg G2 H2) ∧ -1 ≤ v ∧ v < 8 := by
  have h' := h
  obtain ⟨hL, hF, hR, hB, hST, hE⟩ := h
  obtain ⟨hS, hru, e1, e2, hV, hT, hX, h23, h24, ⟨lb, hlb, hrb⟩, ⟨lr, hlr, hrr⟩⟩ := id hE
  simp (disch := decide) only [mg_c, mg_r] at hL hF hR hB hST hS e1 e2 hV hT hX h23 h24 hrr hrb
  have hM : mOk (H 60) := mOk_of hF hR
  have nn := FR0_n hR
  have h0 := hF.1
  have hst : stOk G := hST.1.imp_right fun q => ⟨q.1, q.2.1, q.2.2.1⟩
  have h3 : 0 ≤ H 60 3 ∧ H 60 3 ≤ 30 := by have := hST.1; omega
  have pu := STR_push hST hF hR hB
  have hnH : G 10 0 = H 60 0 := hR.1
  have hvq : ∀ q : Int, 0 ≤ q ∧ q < 5 → (pB (G 10) q = qB (H 60) q ∧ pD (G 10) q = qD (H 60) q ∧ pC (G 10) q = qC (H 60) q ∧ pS (G 10) q = qS (H 60) q) ∧ 0 ≤ pB (G 10) q ∧ pB (G 10) q < 8 ∧ 0 ≤ pD (G 10) q ∧ pD (G 10) q ≤ 8 ∧ 0 ≤ pC (G 10) q ∧ pC (G 10) q ≤ 99 ∧ 0 ≤ pS (G 10) q ∧ pS (G 10) q ≤ 99 := fun q hq => ⟨FR0_v (FR0_1 hR) hq, hF.2.2.2.2.1 q hq⟩
  have hz19 : ∀ K : gT, K 19 = G 19 → K 10 = G 10 → K 20 = G 20 → rmb K 19 1 = (G 19 1 + 1) % 30 ∧ rmb K 19 2 = min 30 (G 19 2 + 1) ∧ rmb K 20 = cpy (G 10) (G 20) 0 (G 19 1 * 54) 54 := fun K a b c => by
    refine ⟨?_, ?_, ?_⟩
    · unfold rmb
      rw [grc (by decide), gre, up_n (by omega), up_e rfl, a]
    · unfold rmb
      rw [grc (by decide), gre, up_e rfl, a]
    · unfold rmb
      rw [gre, a, b, c]
  by_cases hc : 0 ≤ p ∧ p < G 10 0 ∧ 0 < pD (G 10) p
  · have hv := (hvq p (by omega)).1
    have hq := (hvq p (by omega)).2
    have hd : G 10 (4 + p * 4 + 1) = pD (G 10) p := rfl
    have ek : (kpA (H 60)) (11 + 4 * p + 1) = G 10 (4 + p * 4 + 1) := by
      rw [pu.2.2.1.2 (4 + p * 4 + 1) (by omega)]
      congr 1
      omega
    have fv1 : fv (up (G 10) (4 + p * 4 + 1) (G 10 (4 + p * 4 + 1) - 1)) := fv_upD hF (by omega) (by omega)
    have dd := deed (F1 := (up (G 10) (4 + p * 4 + 1) (G 10 (4 + p * 4 + 1) - 1))) (A1 := (up (kpA (H 60)) (11 + 4 * p + 1) (G 10 (4 + p * 4 + 1) - 1))) (p := p) (q := 1) hL hST hF hR hB fv1 (FR0_up pu.2.2.1 (j := 4 + p * 4 + 1) (i := 11 + 4 * p + 1) (v := G 10 (4 + p * 4 + 1) - 1) (by omega) (by omega)) (BR_up pu.2.2.2.1 (by omega) (by omega)) (up_n (by omega)) (fun j hj => by rw [up_n (by omega)]) (by omega) (by omega)
    obtain ⟨d1, d2, d3, d4, d5, d6, d7⟩ := dd
    have plb := plcB hL fv1 (p := p) (by omega)
    have hFr : FrmP (mg G H) (mg (gr (rmb G) 10 (arr (G 6) (up (G 10) (4 + p * 4 + 1) (G 10 (4 + p * 4 + 1) - 1)) p 1)) (gr H 60 (rarr (up (up (kpA (H 60)) (11 + 4 * p + 1) (G 10 (4 + p * 4 + 1) - 1)) (11 + 4 * p + 3) 0) p 1))) := by
      refine ⟨fun c hc => ?_, fun j hj => ?_, fun j hj => ?_, ?_⟩
      · unfold mg; split
        · simp (disch := omega) only [grc, asG_o, rmb_o]
        · simp (disch := omega) only [grc, syG_o]
      · show (gr H 60 (rarr (up (up (kpA (H 60)) (11 + 4 * p + 1) (G 10 (4 + p * 4 + 1) - 1)) (11 + 4 * p + 3) 0) p 1)) 59 j = H 59 j
        simp (disch := decide) only [grc]
      · show (gr H 60 (rarr (up (up (kpA (H 60)) (11 + 4 * p + 1) (G 10 (4 + p * 4 + 1) - 1)) (11 + 4 * p + 3) 0) p 1)) 60 j = H 60 j
        rw [gre]; exact d6 j (by omega) (by rw [up_n (by omega)]; exact pu.2.2.2.2 j (by omega))
      · have hj : (0 : Int) = 0 := rfl
        have k : (gr H 60 (rarr (up (up (kpA (H 60)) (11 + 4 * p + 1) (G 10 (4 + p * 4 + 1) - 1)) (11 + 4 * p + 3) 0) p 1)) 60 0 = H 60 0 := by
          rw [gre]; exact d6 0 (by omega) (by rw [up_n (by omega)]; exact pu.2.2.2.2 0 (by omega))
        show H 60 0 ≤ (gr H 60 (rarr (up (up (kpA (H 60)) (11 + 4 * p + 1) (G 10 (4 + p * 4 + 1) - 1)) (11 + 4 * p + 3) 0) p 1)) 60 0
        rw [k]; exact Int.le_refl _
    have hPW : PW ro tl (mg (gr (rmb G) 10 (arr (G 6) (up (G 10) (4 + p * 4 + 1) (G 10 (4 + p * 4 + 1) - 1)) p 1)) (gr H 60 (rarr (up (up (kpA (H 60)) (11 + 4 * p + 1) (G 10 (4 + p * 4 + 1) - 1)) (11 + 4 * p + 3) 0) p 1))) := by
      refine ⟨?_, ?_, ?_, ?_, ?_, PE_ofP hE hFr ?_ ?_ ?_⟩ <;> simp (disch := decide) only [mg_c, mg_r, grc, gre, asG_o, syG_o, rmb_o]
      · exact d1
      · exact d2
      · exact d3
      · exact d4
      · obtain ⟨z1, z2, z3⟩ := hz19 G rfl rfl rfl
        rw [z1, z2, z3]; exact d5
      · exact hS
      · exact hV
      · exact hT
    refine ⟨(plc (G 6) (pB (up (G 10) (4 + p * 4 + 1) (G 10 (4 + p * 4 + 1) - 1))) (pD (up (G 10) (4 + p * 4 + 1) (G 10 (4 + p * 4 + 1) - 1))) p), (gr (rmb G) 10 (arr (G 6) (up (G 10) (4 + p * 4 + 1) (G 10 (4 + p * 4 + 1) - 1)) p 1)), (gr H 60 (rarr (up (up (kpA (H 60)) (11 + 4 * p + 1) (G 10 (4 + p * 4 + 1) - 1)) (11 + 4 * p + 3) 0) p 1)), fun H0 => ?_, fun G0 => ?_, hPW, hFr, by omega, by omega⟩
    · have q := c_come_y1 (E := E) (ro := ro) (tl := tl) (d := d) (G := mg G H0) (LR_N hL) (LR_J hL) hF hst (p := p) (show 0 ≤ p ∧ p < G 10 0 by omega) hc.2.2
      simp (disch := decide) only [mg_c, mg_r, gr_mc, gr_mr, rmb_m, asG_m, syG_m] at q
      exact q
    · have q := m_comeP (E := E) (ro := ro) (tl := tl) (d := d) (G := mg G0 H) (LR_M hL) hM h3 (p := p) (show 0 ≤ p ∧ p < H 60 0 by omega) h23 (show 0 < qD (H 60) p by omega)
      simp (disch := decide) only [mg_c, mg_r, gr_mc, gr_mr, rmb_m, asG_m, syG_m] at q
      rw [ek, d7] at q
      exact q
  · refine ⟨-1, G, H, fun H0 => ?_, fun G0 => ?_, h', FrmP_rf, by omega, by omega⟩
    · exact c_come_n1 (E := E) (ro := ro) (tl := tl) (d := d) (G := mg G H0) (LR_N hL) (LR_J hL) hF hst (p := p) hr (show p < 0 ∨ G 10 0 ≤ p ∨ pD (G 10) p = 0 by
        by_cases q : 0 ≤ p ∧ p < G 10 0
        · have hv := (hvq p (by omega)).1
          have hq := (hvq p (by omega)).2
          omega
        · omega)
    · exact m_comeP_n (E := E) (ro := ro) (tl := tl) (d := d) (G := mg G0 H) (LR_M hL) hM h3 (p := p) hr (show p < 0 ∨ H 60 0 ≤ p ∨ qD (H 60) p = 0 by
        by_cases q : 0 ≤ p ∧ p < G 10 0
        · have hv := (hvq p (by omega)).1
          have hq := (hvq p (by omega)).2
          omega
        · omega)
theorem R_walkM {G H : gT} (h : PW ro tl (mg G H)) {p c : Int} (hr : -2147483648 ≤ p ∧ p ≤ 2147483647 ∧ -2147483648 ≤ c ∧ c ≤ 2147483647) : ∃ (v : Int) (G2 H2 : gT), (∀ H0 : gT, mj_ca E mj_bi (d + 8) 163 [.ref 4, .int (zI p), .int (zI c), .int (zI 1)] (mj_HN (mg G H0) ro tl) = some (some (.int (zI v)), mj_HN (mg G2 H0) ro tl)) ∧ (∀ G0 : gT, mj_ca E mj_bi (d + 10) 310 [.ref 59, .int (zI p), .int (zI c)] (mj_HN (mg G0 H) ro tl) = some (some (.int (zI v)), mj_HN (mg G0 H2) ro tl)) ∧ PW ro tl (mg G2 H2) ∧ FrmP (mg G H) (mg G2 H2) ∧ 0 ≤ v ∧ v ≤ 1 := by
  have h' := h
  obtain ⟨hL, hF, hR, hB, hST, hE⟩ := h
  obtain ⟨hS, hru, e1, e2, hV, hT, hX, h23, h24, ⟨lb, hlb, hrb⟩, ⟨lr, hlr, hrr⟩⟩ := id hE
  simp (disch := decide) only [mg_c, mg_r] at hL hF hR hB hST hS e1 e2 hV hT hX h23 h24 hrr hrb
  have hM : mOk (H 60) := mOk_of hF hR
  have nn := FR0_n hR
  have h0 := hF.1
  have hst : stOk G := hST.1.imp_right fun q => ⟨q.1, q.2.1, q.2.2.1⟩
  have h3 : 0 ≤ H 60 3 ∧ H 60 3 ≤ 30 := by have := hST.1; omega
  have pu := STR_push hST hF hR hB
  have hnH : G 10 0 = H 60 0 := hR.1
  have hvq : ∀ q : Int, 0 ≤ q ∧ q < 5 → (pB (G 10) q = qB (H 60) q ∧ pD (G 10) q = qD (H 60) q ∧ pC (G 10) q = qC (H 60) q ∧ pS (G 10) q = qS (H 60) q) ∧ 0 ≤ pB (G 10) q ∧ pB (G 10) q < 8 ∧ 0 ≤ pD (G 10) q ∧ pD (G 10) q ≤ 8 ∧ 0 ≤ pC (G 10) q ∧ pC (G 10) q ≤ 99 ∧ 0 ≤ pS (G 10) q ∧ pS (G 10) q ≤ 99 := fun q hq => ⟨FR0_v (FR0_1 hR) hq, hF.2.2.2.2.1 q hq⟩
  have hz19 : ∀ K : gT, K 19 = G 19 → K 10 = G 10 → K 20 = G 20 → rmb K 19 1 = (G 19 1 + 1) % 30 ∧ rmb K 19 2 = min 30 (G 19 2 + 1) ∧ rmb K 20 = cpy (G 10) (G 20) 0 (G 19 1 * 54) 54 := fun K a b c => by
    refine ⟨?_, ?_, ?_⟩
    · unfold rmb
      rw [grc (by decide), gre, up_n (by omega), up_e rfl, a]
    · unfold rmb
      rw [grc (by decide), gre, up_e rfl, a]
    · unfold rmb
      rw [gre, a, b, c]
  by_cases hc : 0 ≤ p ∧ p < G 10 0 ∧ 0 ≤ c ∧ c < 8 ∧ pD (G 10) p = 0 ∧ pB (G 10) p ≠ c
  · have hv := (hvq p (by omega)).1
    have hq := (hvq p (by omega)).2
    have fv1 : fv (up (G 10) (4 + p * 4) c) := fv_upB hF (by omega) (by omega)
    have dd := deed (F1 := (up (G 10) (4 + p * 4) c)) (A1 := (up (kpA (H 60)) (11 + 4 * p) c)) (p := p) (q := 2) hL hST hF hR hB fv1 (FR0_up pu.2.2.1 (j := 4 + p * 4) (i := 11 + 4 * p) (v := c) (by omega) (by omega)) (BR_up pu.2.2.2.1 (by omega) (by omega)) (up_n (by omega)) (fun j hj => by rw [up_n (by omega)]) (by omega) (by omega)
    obtain ⟨d1, d2, d3, d4, d5, d6, d7⟩ := dd
    have hFr : FrmP (mg G H) (mg (gr (rmb G) 10 (arr (G 6) (up (G 10) (4 + p * 4) c) p 2)) (gr H 60 (rarr (up (up (kpA (H 60)) (11 + 4 * p) c) (11 + 4 * p + 3) 0) p 2))) := by
      refine ⟨fun c hc => ?_, fun j hj => ?_, fun j hj => ?_, ?_⟩
      · unfold mg; split
        · simp (disch := omega) only [grc, asG_o, rmb_o]
        · simp (disch := omega) only [grc, syG_o]
      · show (gr H 60 (rarr (up (up (kpA (H 60)) (11 + 4 * p) c) (11 + 4 * p + 3) 0) p 2)) 59 j = H 59 j
        simp (disch := decide) only [grc]
      · show (gr H 60 (rarr (up (up (kpA (H 60)) (11 + 4 * p) c) (11 + 4 * p + 3) 0) p 2)) 60 j = H 60 j
        rw [gre]; exact d6 j (by omega) (by rw [up_n (by omega)]; exact pu.2.2.2.2 j (by omega))
      · have hj : (0 : Int) = 0 := rfl
        have k : (gr H 60 (rarr (up (up (kpA (H 60)) (11 + 4 * p) c) (11 + 4 * p + 3) 0) p 2)) 60 0 = H 60 0 := by
          rw [gre]; exact d6 0 (by omega) (by rw [up_n (by omega)]; exact pu.2.2.2.2 0 (by omega))
        show H 60 0 ≤ (gr H 60 (rarr (up (up (kpA (H 60)) (11 + 4 * p) c) (11 + 4 * p + 3) 0) p 2)) 60 0
        rw [k]; exact Int.le_refl _
    have hPW : PW ro tl (mg (gr (rmb G) 10 (arr (G 6) (up (G 10) (4 + p * 4) c) p 2)) (gr H 60 (rarr (up (up (kpA (H 60)) (11 + 4 * p) c) (11 + 4 * p + 3) 0) p 2))) := by
      refine ⟨?_, ?_, ?_, ?_, ?_, PE_ofP hE hFr ?_ ?_ ?_⟩ <;> simp (disch := decide) only [mg_c, mg_r, grc, gre, asG_o, syG_o, rmb_o]
      · exact d1
      · exact d2
      · exact d3
      · exact d4
      · obtain ⟨z1, z2, z3⟩ := hz19 G rfl rfl rfl
        rw [z1, z2, z3]; exact d5
      · exact hS
      · exact hV
      · exact hT
    refine ⟨1, (gr (rmb G) 10 (arr (G 6) (up (G 10) (4 + p * 4) c) p 2)), (gr H 60 (rarr (up (up (kpA (H 60)) (11 + 4 * p) c) (11 + 4 * p + 3) 0) p 2)), fun H0 => ?_, fun G0 => ?_, hPW, hFr, by omega, by omega⟩
    · have q := c_walk_y1 (E := E) (ro := ro) (tl := tl) (d := d) (G := mg G H0) (LR_N hL) (LR_J hL) hF hst (p := p) (c := c) (show 0 ≤ p ∧ p < G 10 0 by omega) (show 0 ≤ c ∧ c < 8 ∧ pD (G 10) p = 0 ∧ pB (G 10) p ≠ c by omega)
      simp (disch := decide) only [mg_c, mg_r, gr_mc, gr_mr, rmb_m, asG_m, syG_m] at q
      exact q
    · have q := m_walkP (E := E) (ro := ro) (tl := tl) (d := d) (G := mg G0 H) (LR_M hL) hM h3 (p := p) (c := c) (show 0 ≤ p ∧ p < H 60 0 by omega) h23 (show 0 ≤ c ∧ c < 8 ∧ qD (H 60) p = 0 ∧ qB (H 60) p ≠ c by omega)
      simp (disch := decide) only [mg_c, mg_r, gr_mc, gr_mr, rmb_m, asG_m, syG_m] at q
      exact q
  · refine ⟨0, G, H, fun H0 => ?_, fun G0 => ?_, h', FrmP_rf, by omega, by omega⟩
    · exact c_walk_n1 (E := E) (ro := ro) (tl := tl) (d := d) (G := mg G H0) (LR_N hL) (LR_J hL) hF hst (p := p) (c := c) hr (show p < 0 ∨ G 10 0 ≤ p ∨ c < 0 ∨ 8 ≤ c ∨ 0 < pD (G 10) p ∨ pB (G 10) p = c by
        by_cases q : 0 ≤ p ∧ p < G 10 0
        · have hv := (hvq p (by omega)).1
          have hq := (hvq p (by omega)).2
          omega
        · omega)
    · exact m_walkP_n (E := E) (ro := ro) (tl := tl) (d := d) (G := mg G0 H) (LR_M hL) hM h3 (p := p) (c := c) hr (show p < 0 ∨ H 60 0 ≤ p ∨ c < 0 ∨ 8 ≤ c ∨ qD (H 60) p ≠ 0 ∨ qB (H 60) p = c by
        by_cases q : 0 ≤ p ∧ p < G 10 0
        · have hv := (hvq p (by omega)).1
          have hq := (hvq p (by omega)).2
          omega
        · omega)
theorem R_biteM {G H : gT} (h : PW ro tl (mg G H)) {p : Int} (hr : -2147483648 ≤ p ∧ p ≤ 2147483647) : ∃ (v : Int) (G2 H2 : gT), (∀ H0 : gT, mj_ca E mj_bi (d + 8) 161 [.ref 4, .int (zI p), .int (zI 1)] (mj_HN (mg G H0) ro tl) = some (some (.int (zI v)), mj_HN (mg G2 H0) ro tl)) ∧ (∀ G0 : gT, mj_ca E mj_bi (d + 10) 308 [.ref 59, .int (zI p)] (mj_HN (mg G0 H) ro tl) = some (some (.int (zI v)), mj_HN (mg G0 H2) ro tl)) ∧ PW ro tl (mg G2 H2) ∧ FrmP (mg G H) (mg G2 H2) ∧ -1 ≤ v ∧ v < 8 := by
  have h' := h
  obtain ⟨hL, hF, hR, hB, hST, hE⟩ := h
  obtain ⟨hS, hru, e1, e2, hV, hT, hX, h23, h24, ⟨lb, hlb, hrb⟩, ⟨lr, hlr, hrr⟩⟩ := id hE
  simp (disch := decide) only [mg_c, mg_r] at hL hF hR hB hST hS e1 e2 hV hT hX h23 h24 hrr hrb
  have hM : mOk (H 60) := mOk_of hF hR
  have nn := FR0_n hR
  have h0 := hF.1
  have hst : stOk G := hST.1.imp_right fun q => ⟨q.1, q.2.1, q.2.2.1⟩
  have h3 : 0 ≤ H 60 3 ∧ H 60 3 ≤ 30 := by have := hST.1; omega
  have pu := STR_push hST hF hR hB
  have hnH : G 10 0 = H 60 0 := hR.1
  have hvq : ∀ q : Int, 0 ≤ q ∧ q < 5 → (pB (G 10) q = qB (H 60) q ∧ pD (G 10) q = qD (H 60) q ∧ pC (G 10) q = qC (H 60) q ∧ pS (G 10) q = qS (H 60) q) ∧ 0 ≤ pB (G 10) q ∧ pB (G 10) q < 8 ∧ 0 ≤ pD (G 10) q ∧ pD (G 10) q ≤ 8 ∧ 0 ≤ pC (G 10) q ∧ pC (G 10) q ≤ 99 ∧ 0 ≤ pS (G 10) q ∧ pS (G 10) q ≤ 99 := fun q hq => ⟨FR0_v (FR0_1 hR) hq, hF.2.2.2.2.1 q hq⟩
  have hz19 : ∀ K : gT, K 19 = G 19 → K 10 = G 10 → K 20 = G 20 → rmb K 19 1 = (G 19 1 + 1) % 30 ∧ rmb K 19 2 = min 30 (G 19 2 + 1) ∧ rmb K 20 = cpy (G 10) (G 20) 0 (G 19 1 * 54) 54 := fun K a b c => by
    refine ⟨?_, ?_, ?_⟩
    · unfold rmb
      rw [grc (by decide), gre, up_n (by omega), up_e rfl, a]
    · unfold rmb
      rw [grc (by decide), gre, up_e rfl, a]
    · unfold rmb
      rw [gre, a, b, c]
  by_cases hc : 0 ≤ p ∧ p < G 10 0 ∧ 0 < pC (G 10) p ∧ pD (G 10) p < 8
  · have hv := (hvq p (by omega)).1
    have hq := (hvq p (by omega)).2
    have hpH : 0 ≤ p ∧ p < H 60 0 := by omega
    have hcok : cOkR (H 60) (nmd (H 60) (H 65) p) (H 62) (H 66) (H 67) (H 60 2) (fq (H 62) (H 60 2) 0) := law_cOk hrb (K := G 2) (Kn := H 65) (p := p) hL hF (FR0_1 hR) (by omega) hS hV hT
    have hval : syV (H 60) (nmd (H 60) (H 65) p) (H 62) (H 66) (H 67) (H 60 2) 1 (-99) 99 (fq (H 62) (H 60 2) 0) = bV (G 6) (G 7) (G 10) (G 2) (G 3) lb p := law_b hrb (K := G 2) (Kn := H 65) (p := p) hL hF (FR0_1 hR) (by omega) hS hV hT
    have hk65 : kOk (nmd (H 60) (H 65) p) := nmd_ok (G := H) (LR_M hL) (LR_A hL) hM.1 (mOk_b hM) (p := p) hpH ⟨hM.2.1.1, hM.2.1.2, by omega, by omega, by omega, by omega⟩
    have so : bV9 ((syG (gr H 65 (nmd (H 60) (H 65) p)) (H 60 2) (fq (H 62) (H 60 2) 0)) 66) ∧ b01 ((syG (gr H 65 (nmd (H 60) (H 65) p)) (H 60 2) (fq (H 62) (H 60 2) 0)) 67) := syG_ok hV hT (LR_M hL) (mOk_b hM) hk65 hX hcok
    have hbS : bnd (asG G 10 lb p 3) := asG_bnd hS
    have h2t : -1 ≤ H 60 2 ∧ H 60 2 < 4 := by have q1 : -1 ≤ G 4 10 := hru.1; have q2 : G 4 10 < G 4 9 := hru.2.1; have q3 : G 4 9 ≤ 4 := hru.2.2.2; have q4 : H 60 2 = G 4 10 := e2; omega
    have hcq : 0 < qC (H 60) p ∧ qD (H 60) p < 8 := by omega
    have s60 : (syG (gr H 65 (nmd (H 60) (H 65) p)) (H 60 2) (fq (H 62) (H 60 2) 0)) 60 = H 60 := by simp (disch := decide) only [syG_o, grc]
    have s59 : (syG (gr H 65 (nmd (H 60) (H 65) p)) (H 60 2) (fq (H 62) (H 60 2) 0)) 59 = H 59 := by simp (disch := decide) only [syG_o, grc]
    by_cases hb0 : 0 < bV (G 6) (G 7) (G 10) (G 2) (G 3) lb p
    · have ek2 : (kpA (H 60)) (11 + 4 * p + 2) = G 10 (4 + p * 4 + 2) := by
        rw [pu.2.2.1.2 (4 + p * 4 + 2) (by omega)]
        congr 1
        omega
      have ek1 : (kpA (H 60)) (11 + 4 * p + 1) = G 10 (4 + p * 4 + 1) := by
        rw [pu.2.2.1.2 (4 + p * 4 + 1) (by omega)]
        congr 1
        omega
      have hd1 : G 10 (4 + p * 4 + 1) = pD (G 10) p := rfl
      have hd2 : G 10 (4 + p * 4 + 2) = pC (G 10) p := rfl
      have fvb : fv (up (up (G 10) (4 + p * 4 + 2) (G 10 (4 + p * 4 + 2) - 1)) (4 + p * 4 + 1) (G 10 (4 + p * 4 + 1) + 1)) := fv_upD (fv_upC hF (by omega) (by omega)) (by rw [up_n (by omega)]; omega) (by omega)
      have frb : FR0 (up (up (G 10) (4 + p * 4 + 2) (G 10 (4 + p * 4 + 2) - 1)) (4 + p * 4 + 1) (G 10 (4 + p * 4 + 1) + 1)) (up (up (kpA (H 60)) (11 + 4 * p + 2) (G 10 (4 + p * 4 + 2) - 1)) (11 + 4 * p + 1) (G 10 (4 + p * 4 + 1) + 1)) := FR0_up (FR0_up pu.2.2.1 (j := 4 + p * 4 + 2) (i := 11 + 4 * p + 2) (by omega) (by omega)) (by omega) (by omega)
      have brb : BR (up (up (G 10) (4 + p * 4 + 2) (G 10 (4 + p * 4 + 2) - 1)) (4 + p * 4 + 1) (G 10 (4 + p * 4 + 1) + 1)) (up (up (kpA (H 60)) (11 + 4 * p + 2) (G 10 (4 + p * 4 + 2) - 1)) (11 + 4 * p + 1) (G 10 (4 + p * 4 + 1) + 1)) := BR_up (BR_up pu.2.2.2.1 (by omega) (by omega)) (by omega) (by omega)
      have dd := deed (p := p) (q := 0) hL hST hF hR hB fvb frb brb (by rw [up_n (by omega), up_n (by omega)]) (fun j hj => by rw [up_n (by omega), up_n (by omega)]) (by omega) (by omega)
      obtain ⟨d1, d2, d3, d4, d5, d6, d7⟩ := dd
      have plb := plcB hL fvb (p := p) (by omega)
      have hFr : FrmP (mg G H) (mg (gr (rmb (asG G 10 lb p)) 10 (arr (G 6) (up (up (G 10) (4 + p * 4 + 2) (G 10 (4 + p * 4 + 2) - 1)) (4 + p * 4 + 1) (G 10 (4 + p * 4 + 1) + 1)) p 0)) (gr (syG (gr H 65 (nmd (H 60) (H 65) p)) (H 60 2) (fq (H 62) (H 60 2) 0)) 60 (rarr (up (up (up (kpA (H 60)) (11 + 4 * p + 2) (G 10 (4 + p * 4 + 2) - 1)) (11 + 4 * p + 1) (G 10 (4 + p * 4 + 1) + 1)) (11 + 4 * p + 3) 0) p 0))) := by
        refine ⟨fun c hc => ?_, fun j hj => ?_, fun j hj => ?_, ?_⟩
        · unfold mg; split
          · simp (disch := omega) only [grc, asG_o, rmb_o]
          · simp (disch := omega) only [grc, syG_o]
        · show (gr (syG (gr H 65 (nmd (H 60) (H 65) p)) (H 60 2) (fq (H 62) (H 60 2) 0)) 60 (rarr (up (up (up (kpA (H 60)) (11 + 4 * p + 2) (G 10 (4 + p * 4 + 2) - 1)) (11 + 4 * p + 1) (G 10 (4 + p * 4 + 1) + 1)) (11 + 4 * p + 3) 0) p 0)) 59 j = H 59 j
          simp (disch := decide) only [grc, s59]
        · show (gr (syG (gr H 65 (nmd (H 60) (H 65) p)) (H 60 2) (fq (H 62) (H 60 2) 0)) 60 (rarr (up (up (up (kpA (H 60)) (11 + 4 * p + 2) (G 10 (4 + p * 4 + 2) - 1)) (11 + 4 * p + 1) (G 10 (4 + p * 4 + 1) + 1)) (11 + 4 * p + 3) 0) p 0)) 60 j = H 60 j
          rw [gre]; exact d6 j (by omega) (by rw [up_n (by omega), up_n (by omega)]; exact pu.2.2.2.2 j (by omega))
        · have hj : (0 : Int) = 0 := rfl
          have k : (gr (syG (gr H 65 (nmd (H 60) (H 65) p)) (H 60 2) (fq (H 62) (H 60 2) 0)) 60 (rarr (up (up (up (kpA (H 60)) (11 + 4 * p + 2) (G 10 (4 + p * 4 + 2) - 1)) (11 + 4 * p + 1) (G 10 (4 + p * 4 + 1) + 1)) (11 + 4 * p + 3) 0) p 0)) 60 0 = H 60 0 := by
            rw [gre]; exact d6 0 (by omega) (by rw [up_n (by omega), up_n (by omega)]; exact pu.2.2.2.2 0 (by omega))
          show H 60 0 ≤ (gr (syG (gr H 65 (nmd (H 60) (H 65) p)) (H 60 2) (fq (H 62) (H 60 2) 0)) 60 (rarr (up (up (up (kpA (H 60)) (11 + 4 * p + 2) (G 10 (4 + p * 4 + 2) - 1)) (11 + 4 * p + 1) (G 10 (4 + p * 4 + 1) + 1)) (11 + 4 * p + 3) 0) p 0)) 60 0
          rw [k]; exact Int.le_refl _
      have hPW : PW ro tl (mg (gr (rmb (asG G 10 lb p)) 10 (arr (G 6) (up (up (G 10) (4 + p * 4 + 2) (G 10 (4 + p * 4 + 2) - 1)) (4 + p * 4 + 1) (G 10 (4 + p * 4 + 1) + 1)) p 0)) (gr (syG (gr H 65 (nmd (H 60) (H 65) p)) (H 60 2) (fq (H 62) (H 60 2) 0)) 60 (rarr (up (up (up (kpA (H 60)) (11 + 4 * p + 2) (G 10 (4 + p * 4 + 2) - 1)) (11 + 4 * p + 1) (G 10 (4 + p * 4 + 1) + 1)) (11 + 4 * p + 3) 0) p 0))) := by
        refine ⟨?_, ?_, ?_, ?_, ?_, PE_ofP hE hFr ?_ ?_ ?_⟩ <;> simp (disch := decide) only [mg_c, mg_r, grc, gre, asG_o, syG_o, rmb_o]
        · exact d1
        · exact d2
        · exact d3
        · exact d4
        · obtain ⟨z1, z2, z3⟩ := hz19 (asG G 10 lb p) (asG_o (by decide)) (asG_o (by decide)) (asG_o (by decide))
          rw [z1, z2, z3]; exact d5
        · exact hbS
        · exact so.1
        · exact so.2
      refine ⟨(plc (G 6) (pB (up (up (G 10) (4 + p * 4 + 2) (G 10 (4 + p * 4 + 2) - 1)) (4 + p * 4 + 1) (G 10 (4 + p * 4 + 1) + 1))) (pD (up (up (G 10) (4 + p * 4 + 2) (G 10 (4 + p * 4 + 2) - 1)) (4 + p * 4 + 1) (G 10 (4 + p * 4 + 1) + 1))) p), (gr (rmb (asG G 10 lb p)) 10 (arr (G 6) (up (up (G 10) (4 + p * 4 + 2) (G 10 (4 + p * 4 + 2) - 1)) (4 + p * 4 + 1) (G 10 (4 + p * 4 + 1) + 1)) p 0)), (gr (syG (gr H 65 (nmd (H 60) (H 65) p)) (H 60 2) (fq (H 62) (H 60 2) 0)) 60 (rarr (up (up (up (kpA (H 60)) (11 + 4 * p + 2) (G 10 (4 + p * 4 + 2) - 1)) (11 + 4 * p + 1) (G 10 (4 + p * 4 + 1) + 1)) (11 + 4 * p + 3) 0) p 0)), fun H0 => ?_, fun G0 => ?_, hPW, hFr, by omega, by omega⟩
      · have q := c_bitten_y1 (E := E) (ro := ro) (tl := tl) (d := d) (G := mg G H0) (LR_N hL) (LR_J hL) hF hst hS hru (lw := lb) hlb (p := p) (show 0 ≤ p ∧ p < G 10 0 by omega) (show 0 < pC (G 10) p ∧ pD (G 10) p < 8 by omega) hb0
        simp (disch := decide) only [mg_c, mg_r, gr_mc, gr_mr, rmb_m, asG_m, syG_m] at q
        exact q
      · have mc := m_canBite_y (E := E) (ro := ro) (tl := tl) (d := d) (G := mg G0 H) (LR_M hL) hM hV hT hX (LR_A hL) h2t h24 (p := p) hpH hcq hcok (show 0 < syV (H 60) (nmd (H 60) (H 65) p) (H 62) (H 66) (H 67) (H 60 2) 1 (-99) 99 (fq (H 62) (H 60 2) 0) by rw [hval]; exact hb0)
        have mq := m_biteQ (E := E) (ro := ro) (tl := tl) (d := d) (G := mg G0 (syG (gr H 65 (nmd (H 60) (H 65) p)) (H 60 2) (fq (H 62) (H 60 2) 0))) (show pl8 (mN ((syG (gr H 65 (nmd (H 60) (H 65) p)) (H 60 2) (fq (H 62) (H 60 2) 0)) 60)) by rw [s60]; exact LR_M hL) (show mOk ((syG (gr H 65 (nmd (H 60) (H 65) p)) (H 60 2) (fq (H 62) (H 60 2) 0)) 60) by rw [s60]; exact hM) (show 0 ≤ (syG (gr H 65 (nmd (H 60) (H 65) p)) (H 60 2) (fq (H 62) (H 60 2) 0)) 60 3 ∧ (syG (gr H 65 (nmd (H 60) (H 65) p)) (H 60 2) (fq (H 62) (H 60 2) 0)) 60 3 ≤ 30 by rw [s60]; exact h3) (p := p) (show 0 ≤ p ∧ p < (syG (gr H 65 (nmd (H 60) (H 65) p)) (H 60 2) (fq (H 62) (H 60 2) 0)) 60 0 by rw [s60]; exact hpH) (show (syG (gr H 65 (nmd (H 60) (H 65) p)) (H 60 2) (fq (H 62) (H 60 2) 0)) 59 23 = 1 by rw [s59]; exact h23) (show 0 < qC ((syG (gr H 65 (nmd (H 60) (H 65) p)) (H 60 2) (fq (H 62) (H 60 2) 0)) 60) p ∧ qD ((syG (gr H 65 (nmd (H 60) (H 65) p)) (H 60 2) (fq (H 62) (H 60 2) 0)) 60) p < 8 by rw [s60]; exact hcq)
        have mk := m_keep (E := E) (ro := ro) (tl := tl) (d := d + 8) (G := mg G0 (syG (gr H 65 (nmd (H 60) (H 65) p)) (H 60 2) (fq (H 62) (H 60 2) 0))) (show 0 ≤ (syG (gr H 65 (nmd (H 60) (H 65) p)) (H 60 2) (fq (H 62) (H 60 2) 0)) 60 3 ∧ (syG (gr H 65 (nmd (H 60) (H 65) p)) (H 60 2) (fq (H 62) (H 60 2) 0)) 60 3 ≤ 30 by rw [s60]; exact h3)
        have x60 : (mg G0 (syG (gr H 65 (nmd (H 60) (H 65) p)) (H 60 2) (fq (H 62) (H 60 2) 0))) 60 = H 60 := s60
        rw [x60] at mq mk
        rw [ek1, show (kpA (H 60)) (11 + 4 * p + 2) = G 10 (4 + p * 4 + 2) from ek2, d7] at mq
        simp (disch := decide) only [mg_c, mg_r, gr_mc, gr_mr, rmb_m, asG_m, syG_m] at mc mq mk
        exact m_biteP_t mc mk mq.1 mq.2
    · have hFr : FrmP (mg G H) (mg (asG G 10 lb p) (syG (gr H 65 (nmd (H 60) (H 65) p)) (H 60 2) (fq (H 62) (H 60 2) 0))) := by
        refine ⟨fun c hc => ?_, fun j hj => ?_, fun j hj => ?_, ?_⟩
        · unfold mg; split
          · simp (disch := omega) only [grc, asG_o, rmb_o]
          · simp (disch := omega) only [grc, syG_o]
        · show (syG (gr H 65 (nmd (H 60) (H 65) p)) (H 60 2) (fq (H 62) (H 60 2) 0)) 59 j = H 59 j
          rw [s59]
        · show (syG (gr H 65 (nmd (H 60) (H 65) p)) (H 60 2) (fq (H 62) (H 60 2) 0)) 60 j = H 60 j
          rw [s60]
        · have hj : (0 : Int) = 0 := rfl
          have k : (syG (gr H 65 (nmd (H 60) (H 65) p)) (H 60 2) (fq (H 62) (H 60 2) 0)) 60 0 = H 60 0 := by
            rw [s60]
          show H 60 0 ≤ (syG (gr H 65 (nmd (H 60) (H 65) p)) (H 60 2) (fq (H 62) (H 60 2) 0)) 60 0
          rw [k]; exact Int.le_refl _
      have hPW : PW ro tl (mg (asG G 10 lb p) (syG (gr H 65 (nmd (H 60) (H 65) p)) (H 60 2) (fq (H 62) (H 60 2) 0))) := by
        refine ⟨?_, ?_, ?_, ?_, ?_, PE_ofP hE hFr ?_ ?_ ?_⟩ <;> simp (disch := decide) only [mg_c, mg_r, grc, gre, asG_o, syG_o, rmb_o]
        · exact hL
        · exact hF
        · exact hR
        · exact hB
        · exact hST
        · exact hbS
        · exact so.1
        · exact so.2
      refine ⟨-1, (asG G 10 lb p), (syG (gr H 65 (nmd (H 60) (H 65) p)) (H 60 2) (fq (H 62) (H 60 2) 0)), fun H0 => ?_, fun G0 => ?_, hPW, hFr, by omega, by omega⟩
      · have q := c_bitten_l1 (E := E) (ro := ro) (tl := tl) (d := d) (G := mg G H0) (LR_N hL) (LR_J hL) hF hst hS hru (lw := lb) hlb (p := p) (show 0 ≤ p ∧ p < G 10 0 by omega) (show 0 < pC (G 10) p ∧ pD (G 10) p < 8 by omega) (show bV (G 6) (G 7) (G 10) (G 2) (G 3) lb p ≤ 0 by omega)
        simp (disch := decide) only [mg_c, mg_r, gr_mc, gr_mr, rmb_m, asG_m, syG_m] at q
        exact q
      · have mc := m_canBite_l (E := E) (ro := ro) (tl := tl) (d := d) (G := mg G0 H) (LR_M hL) hM hV hT hX (LR_A hL) h2t h24 (p := p) hpH hcq hcok (show syV (H 60) (nmd (H 60) (H 65) p) (H 62) (H 66) (H 67) (H 60 2) 1 (-99) 99 (fq (H 62) (H 60 2) 0) ≤ 0 by rw [hval]; omega)
        simp (disch := decide) only [mg_c, mg_r, gr_mc, gr_mr, rmb_m, asG_m, syG_m] at mc
        exact m_biteP_f rfl mc
  · refine ⟨-1, G, H, fun H0 => ?_, fun G0 => ?_, h', FrmP_rf, by omega, by omega⟩
    · exact c_bitten_n1 (E := E) (ro := ro) (tl := tl) (d := d) (G := mg G H0) (LR_N hL) (LR_J hL) hF hst (p := p) hr (show p < 0 ∨ G 10 0 ≤ p ∨ pC (G 10) p = 0 ∨ pD (G 10) p = 8 by
        by_cases q : 0 ≤ p ∧ p < G 10 0
        · have hv := (hvq p (by omega)).1
          have hq := (hvq p (by omega)).2
          omega
        · omega)
    · exact m_biteP_f rfl (m_canBite_n (E := E) (ro := ro) (tl := tl) (d := d) (G := mg G0 H) (LR_M hL) hM (p := p) hr (show p < 0 ∨ H 60 0 ≤ p ∨ qC (H 60) p = 0 ∨ qD (H 60) p = 8 by
        by_cases q : 0 ≤ p ∧ p < G 10 0
        · have hv := (hvq p (by omega)).1
          have hq := (hvq p (by omega)).2
          omega
        · omega))
end P42
