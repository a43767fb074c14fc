/-! an hour, side by side -/
/-- class's cells of the one, reference's of the other -/
def mg (G H : gT) : gT := fun c => if c < 59 then G c else H c
theorem mg_c {G H : gT} {c : Nat} (h : c < 59) : mg G H c = G c := if_pos h
theorem mg_r {G H : gT} {c : Nat} (h : 59 ≤ c) : mg G H c = H c := if_neg (by omega)
theorem mg_self {G : gT} : mg G G = G := funext fun c => by unfold mg; split <;> rfl
theorem gr_mc {G H : gT} {c : Nat} {f : Int → Int} (h : c < 59) : gr (mg G H) c f = mg (gr G c f) H := by
  funext d j
  by_cases e : d = c
  · subst e; simp [gr, mg, h]
  · by_cases q : d < 59 <;> simp [gr, mg, e, q]
theorem gr_mr {G H : gT} {c : Nat} {f : Int → Int} (h : 59 ≤ c) : gr (mg G H) c f = mg G (gr H c f) := by
  funext d j
  by_cases e : d = c
  · subst e
    have h2 : ¬ d < 59 := by omega
    simp [gr, mg, h2]
  · by_cases q : d < 59 <;> simp [gr, mg, e, q]
theorem asG_m {G H : gT} {r : Nat} {lw : lwT} {p : Int} (h : r < 59) : asG (mg G H) r lw p = mg (asG G r lw p) H := by
  cases lw with
  | none => rfl
  | some q =>
    obtain ⟨n, C⟩ := q
    show gr (gr (gr (mg G H) 1 _) 2 _) 3 _ = mg (gr (gr (gr G 1 _) 2 _) 3 _) H
    rw [gr_mc (by decide), gr_mc (by decide), gr_mc (by decide), mg_c (c := r) h]
    rfl
theorem rmb_m {G H : gT} : rmb (mg G H) = mg (rmb G) H := by
  unfold rmb
  rw [gr_mc (by decide), gr_mc (by decide)]
  rfl
theorem syG_m {G H : gT} {t : Int} {q : Option Int} : syG (mg G H) t q = mg G (syG H t q) := by
  cases q with
  | none => rfl
  | some c =>
    show gr (gr (mg G H) 66 _) 67 _ = mg G (gr (gr H 66 _) 67 _)
    rw [gr_mr (by decide), gr_mr (by decide)]
    rfl
/-- the latest step's row has as many people as there are: what is done may be done without a step -/
def PT (ro : rT) (tl : List mj_C) (G : gT) : Prop := PW ro tl G ∧ 0 < G 19 2 ∧ snF (G 20) (sl (G 19 1) (G 19 2) (G 19 2 - 1)) 0 = G 10 0
theorem STR_set {R F F' A A' : Int → Int} {nx cnt : Int} (h : STR R F A nx cnt) (ht : snF R (sl nx cnt (cnt - 1)) 0 = F 0) (e0 : F' 0 = F 0) (hF : 0 ≤ F 0 ∧ F 0 ≤ 5) (e3 : A' 3 = A 3) (eT : ∀ j : Int, 31 ≤ j ∧ j < 41 → A' j = A j) (eS : ∀ j : Int, 113 ≤ j ∧ j < 1733 → A' j = A j) : STR R F' A' nx cnt := STR_cg h (by omega) e3 eT eS (fun _ => by rw [ht, e0]; exact ⟨by omega, fun p hp => by omega⟩)
/-- a deed without a step -/
theorem deed0 {N J R F A F1 A1 : Int → Int} {nx cnt p q : Int} (hL : LR N J A) (h : STR R F A nx cnt) (ht : snF R (sl nx cnt (cnt - 1)) 0 = F 0) (hF : fv F) (hF1 : fv F1) (hR1 : FR0 F1 A1) (hB1 : BR F1 A1) (e0 : F1 0 = F 0) (hA : ∀ j : Int, 31 ≤ j ∧ j < 1733 ∨ j < 8 → A1 j = A j) (hp : 0 ≤ p ∧ p < F 0) (hq : 0 ≤ q ∧ q < 3) : LR N J (rarr (up A1 (11 + 4 * p + 3) 0) p q) ∧ fv (arr N F1 p q) ∧ FR0 (arr N F1 p q) (rarr (up A1 (11 + 4 * p + 3) 0) p q) ∧ BR (arr N F1 p q) (rarr (up A1 (11 + 4 * p + 3) 0) p q) ∧ STR R (arr N F1 p q) (rarr (up A1 (11 + 4 * p + 3) 0) p q) nx cnt ∧ (∀ j : Int, (31 ≤ j ∧ j < 1733 ∨ j < 8) → rarr (up A1 (11 + 4 * p + 3) 0) p q j = A j) ∧ arr N F1 p q 0 = F 0 ∧ arr N F1 p q 1 = F1 1 := by
  have h0 := hF.1
  have hL1 : LR N J A1 := LR_cg hL (fun j hj => hA j (by omega))
  have ha := arrR hL1 hF1 hR1 hB1 (p := p) (q := q) (by omega) hq
  have h10 : 0 ≤ up A1 (11 + 4 * p + 3) 0 10 ∧ up A1 (11 + 4 * p + 3) 0 10 ≤ 30 := by
    rw [up_n (by omega), ← (FR0_n hR1).2.2.2]
    exact hF1.2.2.2.1
  have rO : ∀ j : Int, j < 1733 ∧ j ≠ 10 ∧ j ≠ 11 + 4 * p + 3 → rarr (up A1 (11 + 4 * p + 3) 0) p q j = A1 j := fun j hj => by
    rw [rarr_o h10 (by omega), up_n hj.2.2]
  have ea0 : arr N F1 p q 0 = F 0 := by rw [arr_o hF1.2.2.2.1 hp.1 (by omega), e0]
  have key : ∀ j : Int, (31 ≤ j ∧ j < 1733 ∨ j < 8) → rarr (up A1 (11 + 4 * p + 3) 0) p q j = A j := fun j hj => by rw [rO j (by omega), hA j hj]
  exact ⟨LR_cg hL (fun j hj => key j (by omega)), ha.2.2, ha.1, ha.2.1, STR_set h ht ea0 h0 (key 3 (by omega)) (fun j hj => key j (by omega)) (fun j hj => key j (by omega)), key, ea0, arr_o hF1.2.2.2.1 hp.1 (by omega)⟩
section P30
variable {E : mj_E} {G : gT} {ro : rT} {tl : List mj_C} {d : Nat}
theorem R_pass_lp (k : Nat) : ∀ (G H : gT) (p t : Int), PT ro tl (mg G H) → p + k = G 10 0 ∧ 0 ≤ p → G 10 1 < 9999 → ∃ (t2 : Int) (G2 H2 : gT), (∀ H0 : gT, mj_gi E mj_bi (d + 7) 165 3 [some (.ref 4), some (.ref 9), none, some (.int (zI t)), some (.int (zI p)), none] [] (mj_HN (mg G H0) ro tl) = some (some (.int (zI t2)), mj_HN (mg G2 H0) ro tl)) ∧ (∀ G0 : gT, mj_gi E mj_bi (d + 9) 305 1 [some (.ref 59), some (.int (zI p))] [] (mj_HN (mg G0 H) ro tl) = some (none, mj_HN (mg G0 H2) ro tl)) ∧ PT ro tl (mg G2 H2) ∧ Frm (mg G H) (mg G2 H2) ∧ H2 59 24 = H 59 24 + (t2 - t) ∧ G2 10 0 = G 10 0 ∧ G2 10 1 = G 10 1 + 1 ∧ G2 19 = G 19 ∧ G2 20 = G 20 ∧ t ≤ t2 ∧ t2 ≤ t + k := by
  induction k with
  | zero =>
    intro G H p t h hp hh
    obtain ⟨⟨hL, hF, hR, hB, hST, hE⟩, hc0, htp⟩ := h
    simp (disch := decide) only [mg_c, mg_r] at hL hF hR hB hST hc0 htp
    have hp0 : p = G 10 0 := by omega
    subst hp0
    have hM : mOk (H 60) := mOk_of hF hR
    have n8 : G 10 1 = H 60 8 := (FR0_n hR).2.1
    have h0 := hF.1
    have cs : ∀ H0 : gT, mj_gi E mj_bi (d + 7) 165 3 [some (.ref 4), some (.ref 9), none, some (.int (zI t)), some (.int (zI (G 10 0))), none] [] (mj_HN (mg G H0) ro tl) = some (some (.int (zI t)), mj_HN (mg (gr G 10 (up (G 10) 1 (G 10 1 + 1))) H0) ro tl) := fun H0 => by
      have q := c_pass_enda (E := E) (ro := ro) (tl := tl) (d := d) (G := mg G H0) hF hh (q := t)
      simp (disch := decide) only [mg_c, mg_r, gr_mc, gr_mr, asG_m, syG_m] at q
      exact q
    have rs : ∀ G0 : gT, mj_gi E mj_bi (d + 9) 305 1 [some (.ref 59), some (.int (zI (G 10 0)))] [] (mj_HN (mg G0 H) ro tl) = some (none, mj_HN (mg G0 (gr H 60 (up (H 60) 8 (H 60 8 + 1)))) ro tl) := fun G0 => by
      have q := m_pass_end (E := E) (ro := ro) (tl := tl) (d := d) (G := mg G0 H) (LR_M hL) hM
      simp (disch := decide) only [mg_c, mg_r, gr_mc, gr_mr, asG_m, syG_m] at q
      have e : G 10 0 = H 60 0 := hR.1
      rw [e]
      exact q
    have f1 : fv (up (G 10) 1 (G 10 1 + 1)) := fv_up1 hF (by have := hF.2.1; omega)
    have r1 : FR0 (up (G 10) 1 (G 10 1 + 1)) (up (H 60) 8 (H 60 8 + 1)) := by rw [n8]; exact FR0_up hR (by omega) (by omega)
    have b1 : BR (up (G 10) 1 (G 10 1 + 1)) (up (H 60) 8 (H 60 8 + 1)) := BR_up hB (by omega) (by omega)
    have s1 : STR (G 20) (up (G 10) 1 (G 10 1 + 1)) (up (H 60) 8 (H 60 8 + 1)) (G 19 1) (G 19 2) := STR_set hST htp (up_n (by omega)) h0 (up_n (by omega)) (fun j hj => up_n (by omega)) (fun j hj => up_n (by omega))
    have hFr : Frm (mg G H) (mg (gr G 10 (up (G 10) 1 (G 10 1 + 1))) (gr H 60 (up (H 60) 8 (H 60 8 + 1)))) := by
      refine ⟨fun c hc => ?_, fun j hj => rfl, fun j hj => ?_⟩
      · unfold mg; split
        · rw [grc (by omega)]
        · rw [grc (by omega)]
      · show up (H 60) 8 (H 60 8 + 1) j = H 60 j
        exact up_n (by omega)
    refine ⟨t, _, _, cs, rs, ⟨⟨LR_cg hL (fun j hj => up_n (by omega)), f1, r1, b1, s1, PE_of hE hFr hE.1 hE.2.2.2.2.1 hE.2.2.2.2.2.1⟩, hc0, ?_⟩, hFr, ?_, ?_, ?_, rfl, rfl, Int.le_refl t, by omega⟩
    · show snF (G 20) (sl (G 19 1) (G 19 2) (G 19 2 - 1)) 0 = up (G 10) 1 (G 10 1 + 1) 0
      rw [up_n (by omega)]; exact htp
    · show H 59 24 = H 59 24 + (t - t)
      omega
    · show up (G 10) 1 (G 10 1 + 1) 0 = G 10 0
      exact up_n (by omega)
    · show up (G 10) 1 (G 10 1 + 1) 1 = G 10 1 + 1
      exact up_e rfl
  | succ k ih =>
    intro G H p t h hp hh
    have h' := h
    obtain ⟨⟨hL, hF, hR, hB, hST, hE⟩, hc0, htp⟩ := h
    obtain ⟨hS, hru, e1, e2, hV, hT, hX, h23, h24, _, ⟨lr, hlr, hrr⟩⟩ := id hE
    simp (disch := decide) only [mg_c, mg_r] at hL hF hR hB hST hc0 htp hS e1 e2 hV hT hX h23 h24 hrr
    have hM : mOk (H 60) := mOk_of hF hR
    have nn := FR0_n hR
    have h0 := hF.1
    have hv := FR0_v (FR0_1 hR) (p := p) (show 0 ≤ p ∧ p < 5 by omega)
    have hq := hF.2.2.2.2.1 p (show 0 ≤ p ∧ p < 5 by omega)
    have hx := hF.2.2.1
    have hpp : 0 ≤ p ∧ p < G 10 0 := by omega
    have hpH : 0 ≤ p ∧ p < H 60 0 := by have e : G 10 0 = H 60 0 := hR.1; omega
    -- one person, and the others by ih
    by_cases h1 : pD (G 10) p = 0
    · have cs : ∀ H0 : gT, mj_gi E mj_bi (d + 7) 165 3 [some (.ref 4), some (.ref 9), none, some (.int (zI t)), some (.int (zI p)), none] [] (mj_HN (mg G H0) ro tl) = mj_gi E mj_bi (d + 7) 165 3 [some (.ref 4), some (.ref 9), none, some (.int (zI t)), some (.int (zI (p + 1))), none] [] (mj_HN (mg (gr G 10 (up (G 10) (4 + p * 4 + 3) (min 99 (pS (G 10) p + 1)))) H0) ro tl) := fun H0 => by
        have q := c_pass_staya (E := E) (ro := ro) (tl := tl) (d := d) (G := mg G H0) hF (p := p) (q := t) hpp h1
        simp (disch := decide) only [mg_c, mg_r, gr_mc, gr_mr, asG_m, syG_m] at q
        exact q
      have rs : ∀ G0 : gT, mj_gi E mj_bi (d + 9) 305 1 [some (.ref 59), some (.int (zI p))] [] (mj_HN (mg G0 H) ro tl) = mj_gi E mj_bi (d + 9) 305 1 [some (.ref 59), some (.int (zI (p + 1)))] [] (mj_HN (mg G0 (gr H 60 (up (H 60) (11 + 4 * p + 3) (max 0 (min 99 (qS (H 60) p + 1)))))) ro tl) := fun G0 => by
        have q := m_pass_stay (E := E) (ro := ro) (tl := tl) (d := d) (G := mg G0 H) (LR_M hL) hM (p := p) hpH (show qD (H 60) p = 0 from hv.2.1.symm.trans h1)
        simp (disch := decide) only [mg_c, mg_r, gr_mc, gr_mr, asG_m, syG_m] at q
        exact q
      have em : max 0 (min 99 (qS (H 60) p + 1)) = min 99 (pS (G 10) p + 1) := by have q : pS (G 10) p = qS (H 60) p := hv.2.2.2; omega
      have f1 := fv_upS hF (p := p) (x := min 99 (pS (G 10) p + 1)) hpp (by have q := hq.2.2.2.2.2.2; have q2 : 0 ≤ pS (G 10) p := q.1; omega)
      have r1 : FR0 (up (G 10) (4 + p * 4 + 3) (min 99 (pS (G 10) p + 1))) (up (H 60) (11 + 4 * p + 3) (max 0 (min 99 (qS (H 60) p + 1)))) := by rw [em]; exact FR0_up hR (by omega) (by omega)
      have hFr : Frm (mg G H) (mg (gr G 10 (up (G 10) (4 + p * 4 + 3) (min 99 (pS (G 10) p + 1)))) (gr H 60 (up (H 60) (11 + 4 * p + 3) (max 0 (min 99 (qS (H 60) p + 1)))))) := by
        refine ⟨fun c hc => ?_, fun j hj => ?_, fun j hj => ?_⟩
        · unfold mg; split
          · simp (disch := omega) only [grc, asG_o]
          · simp (disch := omega) only [grc, syG_o]
        · show (gr H 60 (up (H 60) (11 + 4 * p + 3) (max 0 (min 99 (qS (H 60) p + 1))))) 59 j = H 59 j
          rw [grc (by decide)]
        · show (gr H 60 (up (H 60) (11 + 4 * p + 3) (max 0 (min 99 (qS (H 60) p + 1))))) 60 j = H 60 j
          rw [gre]; exact up_n (by omega)
      have g0 : (gr G 10 (up (G 10) (4 + p * 4 + 3) (min 99 (pS (G 10) p + 1)))) 10 0 = G 10 0 := by rw [gre]; exact up_n (by omega)
      have g1 : (gr G 10 (up (G 10) (4 + p * 4 + 3) (min 99 (pS (G 10) p + 1)))) 10 1 = G 10 1 := by rw [gre]; exact up_n (by omega)
      have g19 : (gr G 10 (up (G 10) (4 + p * 4 + 3) (min 99 (pS (G 10) p + 1)))) 19 = G 19 := rfl
      have g20 : (gr G 10 (up (G 10) (4 + p * 4 + 3) (min 99 (pS (G 10) p + 1)))) 20 = G 20 := rfl
      have g24 : (gr H 60 (up (H 60) (11 + 4 * p + 3) (max 0 (min 99 (qS (H 60) p + 1))))) 59 24 = H 59 24 := rfl
      have hPT : PT ro tl (mg (gr G 10 (up (G 10) (4 + p * 4 + 3) (min 99 (pS (G 10) p + 1)))) (gr H 60 (up (H 60) (11 + 4 * p + 3) (max 0 (min 99 (qS (H 60) p + 1)))))) := ⟨⟨LR_cg hL (fun j hj => up_n (by omega)), f1, r1, BR_up hB (by omega) (by omega), STR_set hST htp (up_n (by omega)) h0 (up_n (by omega)) (fun j hj => up_n (by omega)) (fun j hj => up_n (by omega)), PE_of hE hFr hS hV hT⟩, hc0, htp.trans g0.symm⟩
      have hh1 : (gr G 10 (up (G 10) (4 + p * 4 + 3) (min 99 (pS (G 10) p + 1)))) 10 1 < 9999 := by rw [g1]; exact hh
      obtain ⟨t2, G2, H2, a1, a2, a3, a4, a5, a6, a7, a8, a9, a10, a11⟩ := ih (gr G 10 (up (G 10) (4 + p * 4 + 3) (min 99 (pS (G 10) p + 1)))) (gr H 60 (up (H 60) (11 + 4 * p + 3) (max 0 (min 99 (qS (H 60) p + 1))))) (p + 1) (t) hPT ⟨by rw [g0]; omega, by omega⟩ hh1
      refine ⟨t2, G2, H2, fun H0 => (cs H0).trans (a1 H0), fun G0 => (rs G0).trans (a2 G0), a3, Frm_tr hFr a4, ?_, by rw [a6, g0], by rw [a7, g1], by rw [a8, g19], by rw [a9, g20], by omega, by omega⟩
      rw [a5, g24]
    · have h1p : 0 < pD (G 10) p := by have q : 0 ≤ pD (G 10) p := hq.2.2.1; omega
      have n9 : G 10 2 = H 60 9 := nn.2.2.1
      have fd : fv (up (G 10) 2 ((G 10 2 * 641 + 499) % 30893)) := fv_up2 hF (by omega)
      have rd : FR0 (up (G 10) 2 ((G 10 2 * 641 + 499) % 30893)) (up (H 60) 9 ((H 60 9 * 641 + 499) % 30893)) := by rw [n9]; exact FR0_up hR (by omega) (by omega)
      have bd : BR (up (G 10) 2 ((G 10 2 * 641 + 499) % 30893)) (up (H 60) 9 ((H 60 9 * 641 + 499) % 30893)) := BR_up hB (by omega) (by omega)
      have Ld : LR (G 6) (G 7) (up (H 60) 9 ((H 60 9 * 641 + 499) % 30893)) := LR_cg hL (fun j hj => up_n (by omega))
      have pd : 0 ≤ p ∧ p < (up (G 10) 2 ((G 10 2 * 641 + 499) % 30893)) 0 := by rw [up_n (by omega)]; exact hpp
      have hcok : cOkR (up (H 60) 9 ((H 60 9 * 641 + 499) % 30893)) (nmd (up (H 60) 9 ((H 60 9 * 641 + 499) % 30893)) (H 65) p) (H 62) (H 66) (H 67) (H 60 2) (fq (H 62) (H 60 2) 1) := law_cOk hrr (K := G 2) (Kn := H 65) (p := p) Ld fd (FR0_1 rd) pd hS hV hT
      have hval : syV (up (H 60) 9 ((H 60 9 * 641 + 499) % 30893)) (nmd (up (H 60) 9 ((H 60 9 * 641 + 499) % 30893)) (H 65) p) (H 62) (H 66) (H 67) (H 60 2) (2 + qD (up (H 60) 9 ((H 60 9 * 641 + 499) % 30893)) p) 0 10 (fq (H 62) (H 60 2) 1) = rV (G 6) (G 7) (up (G 10) 2 ((G 10 2 * 641 + 499) % 30893)) (G 2) (G 3) lr p := law_r hrr (K := G 2) (Kn := H 65) (p := p) Ld fd (FR0_1 rd) pd hS hV hT
      have Md := mOk_of fd rd
      have hk65 : kOk (nmd (up (H 60) 9 ((H 60 9 * 641 + 499) % 30893)) (H 65) p) := nmd_ok (G := gr H 60 (up (H 60) 9 ((H 60 9 * 641 + 499) % 30893))) (LR_M Ld) (LR_A Ld) Md.1 (mOk_b Md) (p := p) (by rw [gre]; have e := rd.1; omega) (by have q := Md.2.2.2.2 p (by omega); exact ⟨Md.2.1.1, Md.2.1.2, q.2.2.2.2.1, q.2.2.2.2.2.1, q.2.2.2.2.2.2.1, q.2.2.2.2.2.2.2⟩)
      have so : bV9 ((syG (gr (gr H 60 (up (H 60) 9 ((H 60 9 * 641 + 499) % 30893))) 65 (nmd (up (H 60) 9 ((H 60 9 * 641 + 499) % 30893)) (H 65) p)) (H 60 2) (fq (H 62) (H 60 2) 1)) 66) ∧ b01 ((syG (gr (gr H 60 (up (H 60) 9 ((H 60 9 * 641 + 499) % 30893))) 65 (nmd (up (H 60) 9 ((H 60 9 * 641 + 499) % 30893)) (H 65) p)) (H 60 2) (fq (H 62) (H 60 2) 1)) 67) := syG_ok hV hT (LR_M Ld) (mOk_b Md) hk65 hX hcok
      have hbS : bnd ((asG (gr G 10 (up (G 10) 2 ((G 10 2 * 641 + 499) % 30893))) 10 lr p) 3) := asG_bnd hS
      have h2t : -1 ≤ H 60 2 ∧ H 60 2 < 4 := by have q1 : -1 ≤ G 4 10 := hru.1; have q2 : G 4 10 < G 4 9 := hru.2.1; have q3 : G 4 9 ≤ 4 := hru.2.2.2; have q4 : H 60 2 = G 4 10 := e2; omega
      have hdH : 0 < qD (H 60) p := by have q : pD (G 10) p = qD (H 60) p := hv.2.1; omega
      by_cases h2 : G 10 2 % 10 < rV (G 6) (G 7) (up (G 10) 2 ((G 10 2 * 641 + 499) % 30893)) (G 2) (G 3) lr p
      · have cs : ∀ H0 : gT, mj_gi E mj_bi (d + 7) 165 3 [some (.ref 4), some (.ref 9), none, some (.int (zI t)), some (.int (zI p)), none] [] (mj_HN (mg G H0) ro tl) = mj_gi E mj_bi (d + 7) 165 3 [some (.ref 4), some (.ref 9), none, some (.int (zI (t + 1))), some (.int (zI (p + 1))), none] [] (mj_HN (mg (gr (asG (gr G 10 (up (G 10) 2 ((G 10 2 * 641 + 499) % 30893))) 10 lr p) 10 (arr (G 6) (up (up (G 10) 2 ((G 10 2 * 641 + 499) % 30893)) (4 + p * 4 + 1) ((up (G 10) 2 ((G 10 2 * 641 + 499) % 30893)) (4 + p * 4 + 1) - 1)) p 1)) H0) ro tl) := fun H0 => by
          have q := c_pass_comea (E := E) (ro := ro) (tl := tl) (d := d) (G := mg G H0) (LR_N hL) (LR_J hL) hF hS hru (lw := lr) hlr (p := p) (q := t) hpp h1p h2
          simp (disch := decide) only [mg_c, mg_r, gr_mc, gr_mr, asG_m, syG_m] at q
          exact q
        have rs : ∀ G0 : gT, mj_gi E mj_bi (d + 9) 305 1 [some (.ref 59), some (.int (zI p))] [] (mj_HN (mg G0 H) ro tl) = mj_gi E mj_bi (d + 9) 305 1 [some (.ref 59), some (.int (zI (p + 1)))] [] (mj_HN (mg G0 (gr (gr (syG (gr (gr H 60 (up (H 60) 9 ((H 60 9 * 641 + 499) % 30893))) 65 (nmd (up (H 60) 9 ((H 60 9 * 641 + 499) % 30893)) (H 65) p)) (H 60 2) (fq (H 62) (H 60 2) 1)) 59 (up (H 59) 24 (H 59 24 + 1))) 60 (rarr (up (up (up (H 60) 9 ((H 60 9 * 641 + 499) % 30893)) (11 + 4 * p + 1) ((up (H 60) 9 ((H 60 9 * 641 + 499) % 30893)) (11 + 4 * p + 1) - 1)) (11 + 4 * p + 3) 0) p 1))) ro tl) := fun G0 => by
          have q := m_pass_come1 (E := E) (ro := ro) (tl := tl) (d := d) (G := mg G0 H) (LR_M hL) hM hV hT hX (LR_A hL) h2t h24 (p := p) hpH hdH hcok h23 (show H 60 9 % 10 < syV (up (H 60) 9 ((H 60 9 * 641 + 499) % 30893)) (nmd (up (H 60) 9 ((H 60 9 * 641 + 499) % 30893)) (H 65) p) (H 62) (H 66) (H 67) (H 60 2) (2 + qD (up (H 60) 9 ((H 60 9 * 641 + 499) % 30893)) p) 0 10 (fq (H 62) (H 60 2) 1) by rw [hval, ← n9]; exact h2)
          simp (disch := decide) only [mg_c, mg_r, gr_mc, gr_mr, asG_m, syG_m] at q
          exact q
        have ev : (up (H 60) 9 ((H 60 9 * 641 + 499) % 30893)) (11 + 4 * p + 1) = (up (G 10) 2 ((G 10 2 * 641 + 499) % 30893)) (4 + p * 4 + 1) := by rw [rd.2 (4 + p * 4 + 1) (by omega)]; congr 1; omega
        have ed : (up (G 10) 2 ((G 10 2 * 641 + 499) % 30893)) (4 + p * 4 + 1) = pD (G 10) p := up_n (by omega)
        have dd := deed0 (F1 := (up (up (G 10) 2 ((G 10 2 * 641 + 499) % 30893)) (4 + p * 4 + 1) ((up (G 10) 2 ((G 10 2 * 641 + 499) % 30893)) (4 + p * 4 + 1) - 1))) (A1 := (up (up (H 60) 9 ((H 60 9 * 641 + 499) % 30893)) (11 + 4 * p + 1) ((up (H 60) 9 ((H 60 9 * 641 + 499) % 30893)) (11 + 4 * p + 1) - 1))) (p := p) (q := 1) hL hST htp hF (fv_upD fd pd (by rw [ed]; have q : pD (G 10) p ≤ 8 := hq.2.2.2.1; omega)) (by rw [ev]; exact FR0_up rd (by omega) (by omega)) (BR_up bd (by omega) (by omega)) (by rw [up_n (by omega), up_n (by omega)]) (fun j hj => by rw [up_n (by omega), up_n (by omega)]) hpp (by omega)
        obtain ⟨d1, d2, d3, d4, d5, d6, d7, d8⟩ := dd
        have hFr : Frm (mg G H) (mg (gr (asG (gr G 10 (up (G 10) 2 ((G 10 2 * 641 + 499) % 30893))) 10 lr p) 10 (arr (G 6) (up (up (G 10) 2 ((G 10 2 * 641 + 499) % 30893)) (4 + p * 4 + 1) ((up (G 10) 2 ((G 10 2 * 641 + 499) % 30893)) (4 + p * 4 + 1) - 1)) p 1)) (gr (gr (syG (gr (gr H 60 (up (H 60) 9 ((H 60 9 * 641 + 499) % 30893))) 65 (nmd (up (H 60) 9 ((H 60 9 * 641 + 499) % 30893)) (H 65) p)) (H 60 2) (fq (H 62) (H 60 2) 1)) 59 (up (H 59) 24 (H 59 24 + 1))) 60 (rarr (up (up (up (H 60) 9 ((H 60 9 * 641 + 499) % 30893)) (11 + 4 * p + 1) ((up (H 60) 9 ((H 60 9 * 641 + 499) % 30893)) (11 + 4 * p + 1) - 1)) (11 + 4 * p + 3) 0) p 1))) := by
          refine ⟨fun c hc => ?_, fun j hj => ?_, fun j hj => ?_⟩
          · unfold mg; split
            · simp (disch := omega) only [grc, asG_o]
            · simp (disch := omega) only [grc, syG_o]
          · show (gr (gr (syG (gr (gr H 60 (up (H 60) 9 ((H 60 9 * 641 + 499) % 30893))) 65 (nmd (up (H 60) 9 ((H 60 9 * 641 + 499) % 30893)) (H 65) p)) (H 60 2) (fq (H 62) (H 60 2) 1)) 59 (up (H 59) 24 (H 59 24 + 1))) 60 (rarr (up (up (up (H 60) 9 ((H 60 9 * 641 + 499) % 30893)) (11 + 4 * p + 1) ((up (H 60) 9 ((H 60 9 * 641 + 499) % 30893)) (11 + 4 * p + 1) - 1)) (11 + 4 * p + 3) 0) p 1)) 59 j = H 59 j
            rw [grc (by decide), gre]; exact up_n hj
          · show (gr (gr (syG (gr (gr H 60 (up (H 60) 9 ((H 60 9 * 641 + 499) % 30893))) 65 (nmd (up (H 60) 9 ((H 60 9 * 641 + 499) % 30893)) (H 65) p)) (H 60 2) (fq (H 62) (H 60 2) 1)) 59 (up (H 59) 24 (H 59 24 + 1))) 60 (rarr (up (up (up (H 60) 9 ((H 60 9 * 641 + 499) % 30893)) (11 + 4 * p + 1) ((up (H 60) 9 ((H 60 9 * 641 + 499) % 30893)) (11 + 4 * p + 1) - 1)) (11 + 4 * p + 3) 0) p 1)) 60 j = H 60 j
            rw [gre]; exact d6 j (by omega)
        have g0 : (gr (asG (gr G 10 (up (G 10) 2 ((G 10 2 * 641 + 499) % 30893))) 10 lr p) 10 (arr (G 6) (up (up (G 10) 2 ((G 10 2 * 641 + 499) % 30893)) (4 + p * 4 + 1) ((up (G 10) 2 ((G 10 2 * 641 + 499) % 30893)) (4 + p * 4 + 1) - 1)) p 1)) 10 0 = G 10 0 := by rw [gre]; exact d7
        have g1 : (gr (asG (gr G 10 (up (G 10) 2 ((G 10 2 * 641 + 499) % 30893))) 10 lr p) 10 (arr (G 6) (up (up (G 10) 2 ((G 10 2 * 641 + 499) % 30893)) (4 + p * 4 + 1) ((up (G 10) 2 ((G 10 2 * 641 + 499) % 30893)) (4 + p * 4 + 1) - 1)) p 1)) 10 1 = G 10 1 := by rw [gre, d8, up_n (by omega), up_n (by omega)]
        have g19 : (gr (asG (gr G 10 (up (G 10) 2 ((G 10 2 * 641 + 499) % 30893))) 10 lr p) 10 (arr (G 6) (up (up (G 10) 2 ((G 10 2 * 641 + 499) % 30893)) (4 + p * 4 + 1) ((up (G 10) 2 ((G 10 2 * 641 + 499) % 30893)) (4 + p * 4 + 1) - 1)) p 1)) 19 = G 19 := by simp (disch := decide) only [grc, asG_o]
        have g20 : (gr (asG (gr G 10 (up (G 10) 2 ((G 10 2 * 641 + 499) % 30893))) 10 lr p) 10 (arr (G 6) (up (up (G 10) 2 ((G 10 2 * 641 + 499) % 30893)) (4 + p * 4 + 1) ((up (G 10) 2 ((G 10 2 * 641 + 499) % 30893)) (4 + p * 4 + 1) - 1)) p 1)) 20 = G 20 := by simp (disch := decide) only [grc, asG_o]
        have g24 : (gr (gr (syG (gr (gr H 60 (up (H 60) 9 ((H 60 9 * 641 + 499) % 30893))) 65 (nmd (up (H 60) 9 ((H 60 9 * 641 + 499) % 30893)) (H 65) p)) (H 60 2) (fq (H 62) (H 60 2) 1)) 59 (up (H 59) 24 (H 59 24 + 1))) 60 (rarr (up (up (up (H 60) 9 ((H 60 9 * 641 + 499) % 30893)) (11 + 4 * p + 1) ((up (H 60) 9 ((H 60 9 * 641 + 499) % 30893)) (11 + 4 * p + 1) - 1)) (11 + 4 * p + 3) 0) p 1)) 59 24 = H 59 24 + 1 := by rw [grc (by decide), gre]; exact up_e rfl
        have hPT : PT ro tl (mg (gr (asG (gr G 10 (up (G 10) 2 ((G 10 2 * 641 + 499) % 30893))) 10 lr p) 10 (arr (G 6) (up (up (G 10) 2 ((G 10 2 * 641 + 499) % 30893)) (4 + p * 4 + 1) ((up (G 10) 2 ((G 10 2 * 641 + 499) % 30893)) (4 + p * 4 + 1) - 1)) p 1)) (gr (gr (syG (gr (gr H 60 (up (H 60) 9 ((H 60 9 * 641 + 499) % 30893))) 65 (nmd (up (H 60) 9 ((H 60 9 * 641 + 499) % 30893)) (H 65) p)) (H 60 2) (fq (H 62) (H 60 2) 1)) 59 (up (H 59) 24 (H 59 24 + 1))) 60 (rarr (up (up (up (H 60) 9 ((H 60 9 * 641 + 499) % 30893)) (11 + 4 * p + 1) ((up (H 60) 9 ((H 60 9 * 641 + 499) % 30893)) (11 + 4 * p + 1) - 1)) (11 + 4 * p + 3) 0) p 1))) := by
          refine ⟨⟨?_, ?_, ?_, ?_, ?_, PE_of hE hFr ?_ ?_ ?_⟩, ?_, ?_⟩ <;> simp (disch := decide) only [mg_c, mg_r, grc, gre, asG_o]
          · exact d1
          · exact d2
          · exact d3
          · exact d4
          · exact d5
          · exact hbS
          · exact so.1
          · exact so.2
          · exact hc0
          · exact htp.trans d7.symm
        have hh1 : (gr (asG (gr G 10 (up (G 10) 2 ((G 10 2 * 641 + 499) % 30893))) 10 lr p) 10 (arr (G 6) (up (up (G 10) 2 ((G 10 2 * 641 + 499) % 30893)) (4 + p * 4 + 1) ((up (G 10) 2 ((G 10 2 * 641 + 499) % 30893)) (4 + p * 4 + 1) - 1)) p 1)) 10 1 < 9999 := by rw [g1]; exact hh
        obtain ⟨t2, G2, H2, a1, a2, a3, a4, a5, a6, a7, a8, a9, a10, a11⟩ := ih (gr (asG (gr G 10 (up (G 10) 2 ((G 10 2 * 641 + 499) % 30893))) 10 lr p) 10 (arr (G 6) (up (up (G 10) 2 ((G 10 2 * 641 + 499) % 30893)) (4 + p * 4 + 1) ((up (G 10) 2 ((G 10 2 * 641 + 499) % 30893)) (4 + p * 4 + 1) - 1)) p 1)) (gr (gr (syG (gr (gr H 60 (up (H 60) 9 ((H 60 9 * 641 + 499) % 30893))) 65 (nmd (up (H 60) 9 ((H 60 9 * 641 + 499) % 30893)) (H 65) p)) (H 60 2) (fq (H 62) (H 60 2) 1)) 59 (up (H 59) 24 (H 59 24 + 1))) 60 (rarr (up (up (up (H 60) 9 ((H 60 9 * 641 + 499) % 30893)) (11 + 4 * p + 1) ((up (H 60) 9 ((H 60 9 * 641 + 499) % 30893)) (11 + 4 * p + 1) - 1)) (11 + 4 * p + 3) 0) p 1)) (p + 1) (t + 1) hPT ⟨by rw [g0]; omega, by omega⟩ hh1
        refine ⟨t2, G2, H2, fun H0 => (cs H0).trans (a1 H0), fun G0 => (rs G0).trans (a2 G0), a3, Frm_tr hFr a4, ?_, by rw [a6, g0], by rw [a7, g1], by rw [a8, g19], by rw [a9, g20], by omega, by omega⟩
        rw [a5, g24]
        omega
      · have cs : ∀ H0 : gT, mj_gi E mj_bi (d + 7) 165 3 [some (.ref 4), some (.ref 9), none, some (.int (zI t)), some (.int (zI p)), none] [] (mj_HN (mg G H0) ro tl) = mj_gi E mj_bi (d + 7) 165 3 [some (.ref 4), some (.ref 9), none, some (.int (zI (t))), some (.int (zI (p + 1))), none] [] (mj_HN (mg (gr (asG (gr G 10 (up (G 10) 2 ((G 10 2 * 641 + 499) % 30893))) 10 lr p) 10 (up (up (G 10) 2 ((G 10 2 * 641 + 499) % 30893)) (4 + p * 4 + 3) (min 99 (pS (up (G 10) 2 ((G 10 2 * 641 + 499) % 30893)) p + 1)))) H0) ro tl) := fun H0 => by
          have q := c_pass_nota (E := E) (ro := ro) (tl := tl) (d := d) (G := mg G H0) (LR_N hL) (LR_J hL) hF hS hru (lw := lr) hlr (p := p) (q := t) hpp h1p (show rV (G 6) (G 7) (up (G 10) 2 ((G 10 2 * 641 + 499) % 30893)) (G 2) (G 3) lr p ≤ G 10 2 % 10 by omega)
          simp (disch := decide) only [mg_c, mg_r, gr_mc, gr_mr, asG_m, syG_m] at q
          exact q
        have rs : ∀ G0 : gT, mj_gi E mj_bi (d + 9) 305 1 [some (.ref 59), some (.int (zI p))] [] (mj_HN (mg G0 H) ro tl) = mj_gi E mj_bi (d + 9) 305 1 [some (.ref 59), some (.int (zI (p + 1)))] [] (mj_HN (mg G0 (gr (syG (gr (gr H 60 (up (H 60) 9 ((H 60 9 * 641 + 499) % 30893))) 65 (nmd (up (H 60) 9 ((H 60 9 * 641 + 499) % 30893)) (H 65) p)) (H 60 2) (fq (H 62) (H 60 2) 1)) 60 (up (up (H 60) 9 ((H 60 9 * 641 + 499) % 30893)) (11 + 4 * p + 3) (max 0 (min 99 (qS (up (H 60) 9 ((H 60 9 * 641 + 499) % 30893)) p + 1)))))) ro tl) := fun G0 => by
          have q := m_pass_not (E := E) (ro := ro) (tl := tl) (d := d) (G := mg G0 H) (LR_M hL) hM hV hT hX (LR_A hL) h2t h24 (p := p) hpH hdH hcok (show syV (up (H 60) 9 ((H 60 9 * 641 + 499) % 30893)) (nmd (up (H 60) 9 ((H 60 9 * 641 + 499) % 30893)) (H 65) p) (H 62) (H 66) (H 67) (H 60 2) (2 + qD (up (H 60) 9 ((H 60 9 * 641 + 499) % 30893)) p) 0 10 (fq (H 62) (H 60 2) 1) ≤ H 60 9 % 10 by rw [hval, ← n9]; omega)
          simp (disch := decide) only [mg_c, mg_r, gr_mc, gr_mr, asG_m, syG_m] at q
          exact q
        have vd := FR0_v (FR0_1 rd) (p := p) (show 0 ≤ p ∧ p < 5 by omega)
        have qd := fd.2.2.2.2.1 p (show 0 ≤ p ∧ p < 5 by omega)
        have em : max 0 (min 99 (qS (up (H 60) 9 ((H 60 9 * 641 + 499) % 30893)) p + 1)) = min 99 (pS (up (G 10) 2 ((G 10 2 * 641 + 499) % 30893)) p + 1) := by omega
        have f1 : fv (up (up (G 10) 2 ((G 10 2 * 641 + 499) % 30893)) (4 + p * 4 + 3) (min 99 (pS (up (G 10) 2 ((G 10 2 * 641 + 499) % 30893)) p + 1))) := fv_upS fd pd (by omega)
        have r1 : FR0 (up (up (G 10) 2 ((G 10 2 * 641 + 499) % 30893)) (4 + p * 4 + 3) (min 99 (pS (up (G 10) 2 ((G 10 2 * 641 + 499) % 30893)) p + 1))) (up (up (H 60) 9 ((H 60 9 * 641 + 499) % 30893)) (11 + 4 * p + 3) (max 0 (min 99 (qS (up (H 60) 9 ((H 60 9 * 641 + 499) % 30893)) p + 1)))) := by rw [em]; exact FR0_up rd (by omega) (by omega)
        have e0 : (up (up (G 10) 2 ((G 10 2 * 641 + 499) % 30893)) (4 + p * 4 + 3) (min 99 (pS (up (G 10) 2 ((G 10 2 * 641 + 499) % 30893)) p + 1))) 0 = G 10 0 := by rw [up_n (by omega), up_n (by omega)]
        have hFr : Frm (mg G H) (mg (gr (asG (gr G 10 (up (G 10) 2 ((G 10 2 * 641 + 499) % 30893))) 10 lr p) 10 (up (up (G 10) 2 ((G 10 2 * 641 + 499) % 30893)) (4 + p * 4 + 3) (min 99 (pS (up (G 10) 2 ((G 10 2 * 641 + 499) % 30893)) p + 1)))) (gr (syG (gr (gr H 60 (up (H 60) 9 ((H 60 9 * 641 + 499) % 30893))) 65 (nmd (up (H 60) 9 ((H 60 9 * 641 + 499) % 30893)) (H 65) p)) (H 60 2) (fq (H 62) (H 60 2) 1)) 60 (up (up (H 60) 9 ((H 60 9 * 641 + 499) % 30893)) (11 + 4 * p + 3) (max 0 (min 99 (qS (up (H 60) 9 ((H 60 9 * 641 + 499) % 30893)) p + 1)))))) := by
          refine ⟨fun c hc => ?_, fun j hj => ?_, fun j hj => ?_⟩
          · unfold mg; split
            · simp (disch := omega) only [grc, asG_o]
            · simp (disch := omega) only [grc, syG_o]
          · show (gr (syG (gr (gr H 60 (up (H 60) 9 ((H 60 9 * 641 + 499) % 30893))) 65 (nmd (up (H 60) 9 ((H 60 9 * 641 + 499) % 30893)) (H 65) p)) (H 60 2) (fq (H 62) (H 60 2) 1)) 60 (up (up (H 60) 9 ((H 60 9 * 641 + 499) % 30893)) (11 + 4 * p + 3) (max 0 (min 99 (qS (up (H 60) 9 ((H 60 9 * 641 + 499) % 30893)) p + 1))))) 59 j = H 59 j
            simp (disch := decide) only [grc, syG_o]
          · show (gr (syG (gr (gr H 60 (up (H 60) 9 ((H 60 9 * 641 + 499) % 30893))) 65 (nmd (up (H 60) 9 ((H 60 9 * 641 + 499) % 30893)) (H 65) p)) (H 60 2) (fq (H 62) (H 60 2) 1)) 60 (up (up (H 60) 9 ((H 60 9 * 641 + 499) % 30893)) (11 + 4 * p + 3) (max 0 (min 99 (qS (up (H 60) 9 ((H 60 9 * 641 + 499) % 30893)) p + 1))))) 60 j = H 60 j
            rw [gre]; rw [up_n (by omega), up_n (by omega)]
        have g0 : (gr (asG (gr G 10 (up (G 10) 2 ((G 10 2 * 641 + 499) % 30893))) 10 lr p) 10 (up (up (G 10) 2 ((G 10 2 * 641 + 499) % 30893)) (4 + p * 4 + 3) (min 99 (pS (up (G 10) 2 ((G 10 2 * 641 + 499) % 30893)) p + 1)))) 10 0 = G 10 0 := by rw [gre]; exact e0
        have g1 : (gr (asG (gr G 10 (up (G 10) 2 ((G 10 2 * 641 + 499) % 30893))) 10 lr p) 10 (up (up (G 10) 2 ((G 10 2 * 641 + 499) % 30893)) (4 + p * 4 + 3) (min 99 (pS (up (G 10) 2 ((G 10 2 * 641 + 499) % 30893)) p + 1)))) 10 1 = G 10 1 := by rw [gre, up_n (by omega), up_n (by omega)]
        have g19 : (gr (asG (gr G 10 (up (G 10) 2 ((G 10 2 * 641 + 499) % 30893))) 10 lr p) 10 (up (up (G 10) 2 ((G 10 2 * 641 + 499) % 30893)) (4 + p * 4 + 3) (min 99 (pS (up (G 10) 2 ((G 10 2 * 641 + 499) % 30893)) p + 1)))) 19 = G 19 := by simp (disch := decide) only [grc, asG_o]
        have g20 : (gr (asG (gr G 10 (up (G 10) 2 ((G 10 2 * 641 + 499) % 30893))) 10 lr p) 10 (up (up (G 10) 2 ((G 10 2 * 641 + 499) % 30893)) (4 + p * 4 + 3) (min 99 (pS (up (G 10) 2 ((G 10 2 * 641 + 499) % 30893)) p + 1)))) 20 = G 20 := by simp (disch := decide) only [grc, asG_o]
        have g24 : (gr (syG (gr (gr H 60 (up (H 60) 9 ((H 60 9 * 641 + 499) % 30893))) 65 (nmd (up (H 60) 9 ((H 60 9 * 641 + 499) % 30893)) (H 65) p)) (H 60 2) (fq (H 62) (H 60 2) 1)) 60 (up (up (H 60) 9 ((H 60 9 * 641 + 499) % 30893)) (11 + 4 * p + 3) (max 0 (min 99 (qS (up (H 60) 9 ((H 60 9 * 641 + 499) % 30893)) p + 1))))) 59 24 = H 59 24 := by simp (disch := decide) only [grc, syG_o]
        have s1 : STR (G 20) (up (up (G 10) 2 ((G 10 2 * 641 + 499) % 30893)) (4 + p * 4 + 3) (min 99 (pS (up (G 10) 2 ((G 10 2 * 641 + 499) % 30893)) p + 1))) (up (up (H 60) 9 ((H 60 9 * 641 + 499) % 30893)) (11 + 4 * p + 3) (max 0 (min 99 (qS (up (H 60) 9 ((H 60 9 * 641 + 499) % 30893)) p + 1)))) (G 19 1) (G 19 2) := STR_set hST htp e0 h0 (by rw [up_n (by omega), up_n (by omega)]) (fun j hj => by rw [up_n (by omega), up_n (by omega)]) (fun j hj => by rw [up_n (by omega), up_n (by omega)])
        have hPT : PT ro tl (mg (gr (asG (gr G 10 (up (G 10) 2 ((G 10 2 * 641 + 499) % 30893))) 10 lr p) 10 (up (up (G 10) 2 ((G 10 2 * 641 + 499) % 30893)) (4 + p * 4 + 3) (min 99 (pS (up (G 10) 2 ((G 10 2 * 641 + 499) % 30893)) p + 1)))) (gr (syG (gr (gr H 60 (up (H 60) 9 ((H 60 9 * 641 + 499) % 30893))) 65 (nmd (up (H 60) 9 ((H 60 9 * 641 + 499) % 30893)) (H 65) p)) (H 60 2) (fq (H 62) (H 60 2) 1)) 60 (up (up (H 60) 9 ((H 60 9 * 641 + 499) % 30893)) (11 + 4 * p + 3) (max 0 (min 99 (qS (up (H 60) 9 ((H 60 9 * 641 + 499) % 30893)) p + 1)))))) := by
          refine ⟨⟨?_, ?_, ?_, ?_, ?_, PE_of hE hFr ?_ ?_ ?_⟩, ?_, ?_⟩ <;> simp (disch := decide) only [mg_c, mg_r, grc, gre, asG_o]
          · exact LR_cg Ld (fun j hj => up_n (by omega))
          · exact f1
          · exact r1
          · exact BR_up bd (by omega) (by omega)
          · exact s1
          · exact hbS
          · exact so.1
          · exact so.2
          · exact hc0
          · exact htp.trans e0.symm
        have hh1 : (gr (asG (gr G 10 (up (G 10) 2 ((G 10 2 * 641 + 499) % 30893))) 10 lr p) 10 (up (up (G 10) 2 ((G 10 2 * 641 + 499) % 30893)) (4 + p * 4 + 3) (min 99 (pS (up (G 10) 2 ((G 10 2 * 641 + 499) % 30893)) p + 1)))) 10 1 < 9999 := by rw [g1]; exact hh
        obtain ⟨t2, G2, H2, a1, a2, a3, a4, a5, a6, a7, a8, a9, a10, a11⟩ := ih (gr (asG (gr G 10 (up (G 10) 2 ((G 10 2 * 641 + 499) % 30893))) 10 lr p) 10 (up (up (G 10) 2 ((G 10 2 * 641 + 499) % 30893)) (4 + p * 4 + 3) (min 99 (pS (up (G 10) 2 ((G 10 2 * 641 + 499) % 30893)) p + 1)))) (gr (syG (gr (gr H 60 (up (H 60) 9 ((H 60 9 * 641 + 499) % 30893))) 65 (nmd (up (H 60) 9 ((H 60 9 * 641 + 499) % 30893)) (H 65) p)) (H 60 2) (fq (H 62) (H 60 2) 1)) 60 (up (up (H 60) 9 ((H 60 9 * 641 + 499) % 30893)) (11 + 4 * p + 3) (max 0 (min 99 (qS (up (H 60) 9 ((H 60 9 * 641 + 499) % 30893)) p + 1))))) (p + 1) (t) hPT ⟨by rw [g0]; omega, by omega⟩ hh1
        refine ⟨t2, G2, H2, fun H0 => (cs H0).trans (a1 H0), fun G0 => (rs G0).trans (a2 G0), a3, Frm_tr hFr a4, ?_, by rw [a6, g0], by rw [a7, g1], by rw [a8, g19], by rw [a9, g20], by omega, by omega⟩
        rw [a5, g24]
end P30
