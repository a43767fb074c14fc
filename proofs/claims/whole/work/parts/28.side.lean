/-! deeds of class and reference side by side -/
theorem bV9_if {c : Prop} [Decidable c] {V W : Int → Int} (h : bV9 V) (k : bV9 W) : bV9 (if c then V else W) := by split <;> assumption
theorem su_ok {A Kn tx : Int → Int} {cb e : Int} (hN : pl8 (mN A)) (hb : bdd (A 0) (qB A) (qD A)) (hK : kOk Kn) (hX : TXP tx) : ∀ (k : Nat) (i n r : Int) (V T : Int → Int), bV9 V → b01 T → sO (su A Kn tx cb e k i V n T r) = true → bV9 (sV (su A Kn tx cb e k i V n T r)) ∧ b01 (sT (su A Kn tx cb e k i V n T r))
  | 0, i, n, r, V, T, hV, hT, hs => by
    unfold su at hs ⊢
    split at hs
    · rename_i h; rw [if_pos h]; exact ⟨hV, hT⟩
    · cases hs
  | k + 1, i, n, r, V, T, hV, hT, hs => by
    have go := su_ok (cb := cb) (e := e) hN hb hK hX k
    have ht := hX (cb + 2 * i + 1)
    rw [su_s] at hs ⊢
    by_cases h1 : e ≤ i
    · rw [if_pos h1]; exact ⟨hV, hT⟩
    rw [if_neg h1] at hs ⊢
    by_cases h2 : tx (cb + 2 * i) ≤ 1
    · rw [if_pos h2] at hs ⊢
      by_cases g : 0 ≤ n ∧ n < 330 ∧ 0 ≤ tx (cb + 2 * i) ∧ (tx (cb + 2 * i) = 0 ∨ 0 ≤ tx (cb + 2 * i + 1) ∧ tx (cb + 2 * i + 1) < 8)
      · rw [if_pos g] at hs ⊢
        refine go _ _ _ _ _ (bV9_up hV ?_) hT hs
        split
        · omega
        · have := hK (tx (cb + 2 * i + 1)) (by omega); omega
      · rw [if_neg g] at hs; cases hs
    rw [if_neg h2] at hs ⊢
    by_cases h3 : tx (cb + 2 * i) = 3
    · rw [if_pos h3] at hs ⊢
      by_cases g : 2 ≤ n ∧ n ≤ 330 ∧ 1 ≤ r ∧ r ≤ 330
      · rw [if_pos g] at hs ⊢
        exact go _ _ _ _ _ (bV9_if (bV9_up hV (hV _)) hV) hT hs
      · rw [if_neg g] at hs; cases hs
    rw [if_neg h3] at hs ⊢
    by_cases h4 : tx (cb + 2 * i) ≤ 5
    · rw [if_pos h4] at hs ⊢
      by_cases g : 1 ≤ n ∧ n ≤ 330
      · rw [if_pos g] at hs ⊢
        exact go _ _ _ _ _ (bV9_up hV (r1_bd hN hb (hV _))) hT hs
      · rw [if_neg g] at hs; cases hs
    rw [if_neg h4] at hs ⊢
    by_cases h5 : tx (cb + 2 * i) < 10
    · rw [if_pos h5] at hs ⊢
      by_cases g : 2 ≤ n ∧ n ≤ 330
      · rw [if_pos g] at hs ⊢
        exact go _ _ _ _ _ (bV9_up hV r2_bd) hT hs
      · rw [if_neg g] at hs; cases hs
    rw [if_neg h5] at hs ⊢
    by_cases h6 : tx (cb + 2 * i) < 20
    · rw [if_pos h6] at hs ⊢
      by_cases g : 2 ≤ n ∧ n ≤ 330 ∧ 0 ≤ r ∧ r < 330 ∧ tx (cb + 2 * i) ≤ 15
      · rw [if_pos g] at hs ⊢
        exact go _ _ _ _ _ hV (b01_up hT rq_bd) hs
      · rw [if_neg g] at hs; cases hs
    rw [if_neg h6] at hs ⊢
    by_cases h7 : tx (cb + 2 * i) = 20
    · rw [if_pos h7] at hs ⊢
      by_cases g : 1 ≤ r ∧ r ≤ 330
      · rw [if_pos g] at hs ⊢
        exact go _ _ _ _ _ hV (b01_up hT (by split <;> omega)) hs
      · rw [if_neg g] at hs; cases hs
    rw [if_neg h7] at hs ⊢
    by_cases g : 2 ≤ r ∧ r ≤ 330
    · rw [if_pos g] at hs ⊢
      exact go _ _ _ _ _ hV (b01_up hT (rj_bd (hT _) (hT _))) hs
    · rw [if_neg g] at hs; cases hs
theorem syG_ok {G : gT} {t : Int} {q : Option Int} (hV : bV9 (G 66)) (hT : b01 (G 67)) (hN : pl8 (mN (G 60))) (hb : bdd (G 60 0) (qB (G 60)) (qD (G 60))) (hK : kOk (G 65)) (hX : TXP (G 62)) (hc : cOkR (G 60) (G 65) (G 62) (G 66) (G 67) t q) : bV9 (syG G t q 66) ∧ b01 (syG G t q 67) := by
  cases q with
  | none => exact ⟨hV, hT⟩
  | some c =>
    have k := su_ok (A := G 60) (Kn := G 65) (tx := G 62) (cb := 681 * t + 73) (e := G 62 (681 * t + 1 + 3 * c + 2)) hN hb hK hX _ _ 0 0 _ _ hV hT (hc c rfl).1
    show bV9 (gr (gr G 66 _) 67 _ 66) ∧ b01 (gr (gr G 66 _) 67 _ 67)
    rw [grc (by decide), gre, gre]
    exact k
/-- what deeds stand on and leave: laws, and rows in which they are worked off -/
def PE (ro : rT) (tl : List mj_C) (G : gT) : Prop := bnd (G 3) ∧ ruOk G ∧ G 60 1 = G 4 9 ∧ G 60 2 = G 4 10 ∧ bV9 (G 66) ∧ b01 (G 67) ∧ TXP (G 62) ∧ G 59 23 = 1 ∧ (0 ≤ G 60 2 → G 62 (681 * G 60 2) ≤ 24) ∧ (∃ lw, lawIs tl (ctr ro G) 0 lw ∧ LwR lw (G 62) (G 60 2) 0) ∧ ∃ lw, lawIs tl (ctr ro G) 1 lw ∧ LwR lw (G 62) (G 60 2) 1
def PW (ro : rT) (tl : List mj_C) (G : gT) : Prop := LR (G 6) (G 7) (G 60) ∧ fv (G 10) ∧ FR0 (G 10) (G 60) ∧ BR (G 10) (G 60) ∧ STR (G 20) (G 10) (G 60) (G 19 1) (G 19 2) ∧ PE ro tl G
/-- what deeds leave as it was -/
def Frm (G H : gT) : Prop := (∀ c : Nat, c ≠ 1 ∧ c ≠ 2 ∧ c ≠ 3 ∧ c ≠ 10 ∧ c ≠ 19 ∧ c ≠ 20 ∧ c ≠ 59 ∧ c ≠ 60 ∧ c ≠ 65 ∧ c ≠ 66 ∧ c ≠ 67 → H c = G c) ∧ (∀ j : Int, j ≠ 24 → H 59 j = G 59 j) ∧ ∀ j : Int, (31 ≤ j ∧ j < 113) ∨ (4 ≤ j ∧ j < 8) ∨ j = 0 ∨ j = 1 ∨ j = 2 → H 60 j = G 60 j
theorem Frm_rf {G : gT} : Frm G G := ⟨fun _ _ => rfl, fun _ _ => rfl, fun _ _ => rfl⟩
theorem Frm_tr {G H K : gT} (a : Frm G H) (b : Frm H K) : Frm G K := ⟨fun c h => (b.1 c h).trans (a.1 c h), fun j h => (b.2.1 j h).trans (a.2.1 j h), fun j h => (b.2.2 j h).trans (a.2.2 j h)⟩
theorem PE_of {ro : rT} {tl : List mj_C} {G H : gT} (h : PE ro tl G) (f : Frm G H) (h3 : bnd (H 3)) (h66 : bV9 (H 66)) (h67 : b01 (H 67)) : PE ro tl H := by
  obtain ⟨a, b, c, d, e, g, i, j, k, l, m⟩ := h
  have e4 : H 4 = G 4 := f.1 4 (by decide)
  have e62 : H 62 = G 62 := f.1 62 (by decide)
  have e1 := f.2.2 1 (by omega)
  have e2 := f.2.2 2 (by omega)
  have e23 := f.2.1 23 (by omega)
  have ec : ctr ro H = ctr ro G := by unfold ctr; rw [e4]
  unfold PE ruOk
  rw [ec, e4, e62, e1, e2, e23]
  exact ⟨h3, b, c, d, h66, h67, i, j, k, l, m⟩
theorem ca_bd {A : Int → Int} {j : Int} (h : 0 ≤ A 3 ∧ A 3 ≤ 30) : kpA A 3 = min 30 (A 3 + 1) := by
  have hb3 : kpB A 3 = min 29 (A 3) := by
    unfold kpB
    split
    · rw [up_e rfl]; omega
    · omega
  unfold kpA
  rw [(kpx_in (B := kpB A) (by omega)).2.2.2.1, hb3]
  omega
section P28
variable {E : mj_E} {G : gT} {ro : rT} {tl : List mj_C} {d : Nat}
theorem R_come (h : PW ro tl G) {p : Int} (hr : -2147483648 ≤ p ∧ p ≤ 2147483647) : ∃ (v : Int) (G1 G2 : gT), mj_ca E mj_bi (d + 8) 162 [.ref 4, .int (zI p), .int (zI 1)] (mj_HN G ro tl) = some (some (.int (zI v)), mj_HN G1 ro tl) ∧ mj_ca E mj_bi (d + 10) 309 [.ref 59, .int (zI p)] (mj_HN G1 ro tl) = some (some (.int (zI v)), mj_HN G2 ro tl) ∧ PW ro tl G2 ∧ Frm G G2 := by
  obtain ⟨hL, hF, hR, hB, hST, hE⟩ := h
  have hE' := hE
  obtain ⟨hS, hru, e1, e2, hV, hT, hX, h23, h24, ⟨lb, hlb, hrb⟩, ⟨lr, hlr, hrr⟩⟩ := hE'
  have hn := FR0_n hR
  have hM := mOk_of hF hR
  have h0 := hF.1
  have hst : stOk G := hST.1.imp_right fun q => ⟨q.1, q.2.1, q.2.2.1⟩
  have h3 : 0 ≤ G 60 3 ∧ G 60 3 ≤ 30 := by have := hST.1; omega
  have pu := STR_push hST hF hR hB
  by_cases hc : 0 ≤ p ∧ p < G 10 0 ∧ 0 < pD (G 10) p
  · have hv := FR0_v (FR0_1 hR) (p := p) (by omega)
    have hq := hF.2.2.2.2.1 p (by omega)
    have ek : (kpA (G 60)) (11 + 4 * p + 1) = G 10 (4 + p * 4 + 1) := by
      rw [pu.2.2.1.2 (4 + p * 4 + 1) (by omega)]
      congr 1
      omega
    have hd : G 10 (4 + p * 4 + 1) = pD (G 10) p := rfl
    have dd := deed (p := p) (q := 1) hL hST hF hR hB (fv_upD hF (by omega) (by omega)) (FR0_up pu.2.2.1 (j := 4 + p * 4 + 1) (i := 11 + 4 * p + 1) (v := G 10 (4 + p * 4 + 1) - 1) (by omega) (by omega)) (BR_up pu.2.2.2.1 (by omega) (by omega)) (up_n (by omega)) (fun j hj => by (repeat rw [up_n (by omega)])) (by omega) (by omega)
    obtain ⟨d1, d2, d3, d4, d5, d6, d7⟩ := dd
    have cc := c_come_y1 (E := E) (ro := ro) (tl := tl) (d := d) (LR_N hL) (LR_J hL) hF hst (p := p) (by omega) hc.2.2
    have mm := m_comeP (E := E) (ro := ro) (tl := tl) (d := d) (G := (gr (rmb G) 10 (arr (G 6) (up (G 10) (4 + p * 4 + 1) (G 10 (4 + p * 4 + 1) - 1)) p 1))) (LR_M hL) hM h3 (p := p) (show 0 ≤ p ∧ p < G 60 0 by omega) h23 (show 0 < qD (G 60) p by omega)
    have e60 : (gr (rmb G) 10 (arr (G 6) (up (G 10) (4 + p * 4 + 1) (G 10 (4 + p * 4 + 1) - 1)) p 1)) 60 = G 60 := rfl
    rw [e60, ek, d7] at mm
    have hFr : Frm G (gr (gr (rmb G) 10 (arr (G 6) (up (G 10) (4 + p * 4 + 1) (G 10 (4 + p * 4 + 1) - 1)) p 1)) 60 (rarr (up (up (kpA (G 60)) (11 + 4 * p + 1) (G 10 (4 + p * 4 + 1) - 1)) (11 + 4 * p + 3) 0) p 1)) := by
      refine ⟨fun c hc => ?_, fun j hj => rfl, fun j hj => ?_⟩
      · rw [grc (by omega), grc (by omega), rmb_o (by omega)]
      · rw [gre]; exact d6 j (by omega) (by rw [up_n (by omega)]; exact pu.2.2.2.2 j (by omega))
    exact ⟨_, _, _, cc, mm, ⟨d1, d2, d3, d4, d5, PE_of hE hFr hS hV hT⟩, hFr⟩
  · have cc := c_come_n1 (E := E) (ro := ro) (tl := tl) (d := d) (LR_N hL) (LR_J hL) hF hst (p := p) hr (by
      by_cases q : 0 ≤ p ∧ p < G 10 0
      · have hq := hF.2.2.2.2.1 p (by omega)
        omega
      · omega)
    have mm := m_comeP_n (E := E) (ro := ro) (tl := tl) (d := d) (LR_M hL) hM h3 (p := p) hr (by
      by_cases q : 0 ≤ p ∧ p < G 10 0
      · have hq := hF.2.2.2.2.1 p (by omega)
        have hv := FR0_v (FR0_1 hR) (p := p) (by omega)
        omega
      · omega)
    exact ⟨_, _, _, cc, mm, ⟨hL, hF, hR, hB, hST, hE⟩, Frm_rf⟩
end P28
