/-! the whole invariant: the world as it is, the world as it was kept, what lies beside them -/
theorem LR_cg2 {N N' J J' A A' : Int → Int} (h : LR N J A) (eN : ∀ c : Int, 0 ≤ c ∧ c < 8 → N' c = N c) (eJ : ∀ c : Int, 0 ≤ c ∧ c < 8 → J' c = J c) (eA : ∀ j : Int, 41 ≤ j ∧ j < 57 → A' j = A j) : LR N' J' A' := fun c hc => by
  have q := h c hc
  unfold mN at *
  rw [eN c hc, eJ c hc, eA (41 + c) (by omega), eA (49 + c) (by omega)]
  exact q
theorem fv_cg {F F' : Int → Int} (h : fv F) (e : ∀ j : Int, 0 ≤ j ∧ j < 24 → F' j = F j) : fv F' := by
  obtain ⟨a, b, c, d, p, z⟩ := h
  refine ⟨by rw [e 0 (by omega)]; exact a, by rw [e 1 (by omega)]; exact b, by rw [e 2 (by omega)]; exact c, by rw [e 3 (by omega)]; exact d, fun q hq => ?_, fun q hq => ?_⟩
  · have r := p q hq
    unfold pB pD pC pS at *
    rw [e (4 + q * 4) (by omega), e (4 + q * 4 + 1) (by omega), e (4 + q * 4 + 2) (by omega), e (4 + q * 4 + 3) (by omega)]
    exact r
  · rw [e 0 (by omega)] at hq
    have r := z q hq
    unfold pB pD pC pS at *
    rw [e (4 + q * 4) (by omega), e (4 + q * 4 + 1) (by omega), e (4 + q * 4 + 2) (by omega), e (4 + q * 4 + 3) (by omega)]
    exact r
theorem tdl_cgF {A F F' : Int → Int} {a b : Int} (h : tdl A F a b) (h0 : 0 ≤ a ∧ b ≤ 5) (e : ∀ j : Int, 0 ≤ j ∧ j < 24 → F' j = F j) : tdl A F' a b := fun p hp => by
  have r := h p hp
  unfold pB pD pC pS at *
  rw [e (4 + p * 4) (by omega), e (4 + p * 4 + 1) (by omega), e (4 + p * 4 + 2) (by omega), e (4 + p * 4 + 3) (by omega)]
  exact r
theorem FRs_cgF {F F' A : Int → Int} {x : Int} (h : FRs F A x) (e : ∀ j : Int, 0 ≤ j ∧ j < 54 → F' j = F j) : FRs F' A x := ⟨by rw [e 0 (by omega)]; exact h.1, fun j hj => by rw [e j (by omega)]; exact h.2.1 j hj, fun i hi => by rw [e (24 + i) (by omega)]; exact h.2.2 i hi⟩
theorem STR_cgR {R R' F F' A : Int → Int} {nx cnt : Int} (h : STR R F A nx cnt) (hF : fv F) (eR : ∀ j : Int, 0 ≤ j ∧ j < 1620 → R' j = R j) (eF : ∀ j : Int, 0 ≤ j ∧ j < 24 → F' j = F j) : STR R' F' A nx cnt := by
  obtain ⟨h0, h1⟩ := h
  refine ⟨h0, fun s hs => ?_⟩
  obtain ⟨a, b, c, d⟩ := h1 s hs
  have e1 : ∀ j : Int, 0 ≤ j ∧ j < 54 → snF R' (sl nx cnt s) j = snF R (sl nx cnt s) j := fun j hj => eR _ (by unfold sl; omega)
  have e2 : ∀ j : Int, 0 ≤ j ∧ j < 24 → nxF R' F' nx cnt s j = nxF R F nx cnt s j := fun j hj => by
    unfold nxF
    split
    · exact eR _ (by unfold sl; omega)
    · exact eF j hj
  have b5 : nxF R F nx cnt s 0 ≤ 5 := by
    unfold nxF
    split
    · exact (h1 (s + 1) (by omega)).2.1.1.2
    · exact hF.1.2
  rw [e1 0 (by omega), e2 0 (by omega)]
  exact ⟨FRs_cgF a e1, fv_cg b (fun j hj => e1 j (by omega)), c, tdl_cgF d ⟨b.1.1, b5⟩ e2⟩
theorem hrs_cgx {A A' : Int → Int} {w x : Int} (ew : A' w = A w) (hw : 0 ≤ A w ∧ A w ≤ 6) (e : ∀ j : Int, x ≤ j ∧ j < x + 12 → A' j = A j) : hrs A' w x = hrs A w x := by
  unfold hrs
  rw [ew]
  refine fl_cg _ _ _ (fun k b hk => ?_)
  rw [e (x + 2 * k) (by omega), e (x + 2 * k + 1) (by omega)]
theorem dyOk_cg {A A' : Int → Int} {D M : Int} (h : dyOk A D M) (e4 : A' 4 = A 4) (e5 : A' 5 = A 5) (e : ∀ j : Int, 57 ≤ j ∧ j < 81 → A' j = A j) : dyOk A' D M := by
  obtain ⟨a, b, c, d, f, g⟩ := h
  unfold dyOk
  rw [e4, e5, hrs_cgx e4 a (fun j hj => e j (by omega)), hrs_cgx e5 b (fun j hj => e j (by omega))]
  refine ⟨a, b, fun k hk => ?_, fun k hk => ?_, f, g⟩
  · rw [e (57 + 2 * k) (by omega), e (57 + 2 * k + 1) (by omega)]
    exact c k hk
  · rw [e (69 + 2 * k) (by omega), e (69 + 2 * k + 1) (by omega)]
    exact d k hk
def DW (G : gT) : Prop := G 13 0 = G 60 4 ∧ G 13 1 = G 60 5 ∧ dyOk (G 60) (G 12 0) (G 12 1)
def PW0 (G : gT) : Prop := LR (G 6) (G 7) (G 60) ∧ fv (G 10) ∧ FR0 (G 10) (G 60) ∧ BR (G 10) (G 60) ∧ STR (G 20) (G 10) (G 60) (G 19 1) (G 19 2)
/-- the world: people, laws, what is said, the day, the ledger -/
def WI (ro : rT) (tl : List mj_C) (G : gT) : Prop := PW0 G ∧ (-1 ≤ G 4 10 ∧ G 4 10 < G 4 9 ∧ G 60 2 = G 4 10) ∧ TXM ro tl G ∧ SD G ∧ DW G ∧ LDG G
/-- two worlds alike -/
def WE (n : Int) (G H : gT) : Prop := (∀ j : Int, 0 ≤ j ∧ j < 8 → H 6 j = G 6 j) ∧ (∀ j : Int, 0 ≤ j ∧ j < 8 → H 7 j = G 7 j) ∧ (∀ j : Int, 0 ≤ j ∧ j < 54 → H 10 j = G 10 j) ∧ (∀ j : Int, 0 ≤ j ∧ j < 2 → H 12 j = G 12 j) ∧ (∀ j : Int, 0 ≤ j ∧ j < 2 → H 13 j = G 13 j) ∧ H 15 3 = G 15 3 ∧ (∀ j : Int, 0 ≤ j ∧ j < 16 → H 16 j = G 16 j) ∧ H 19 1 = G 19 1 ∧ H 19 2 = G 19 2 ∧ (∀ j : Int, 0 ≤ j ∧ j < 1620 → H 20 j = G 20 j) ∧ (∀ j : Int, 0 ≤ j ∧ j < 8 → H 22 j = G 22 j) ∧ (∀ j : Int, 0 ≤ j ∧ j < 8 → H 23 j = G 23 j) ∧ (∀ j : Int, 9 ≤ j ∧ j < 12 → H 4 j = G 4 j) ∧ (∀ j : Int, 0 ≤ j ∧ j < 1763 → H 60 j = G 60 j) ∧ ∀ j : Int, 0 ≤ j ∧ j < 681 * n → H 62 j = G 62 j
theorem WI_cg {ro ro2 : rT} {tl tl2 : List mj_C} {G H : gT} (h : WI ro tl G) (e : WE (G 4 9) G H) (hx : TXP (H 62)) (er : ∀ j : Int, 0 ≤ j ∧ j < 4 → ro2 21 j = ro 21 j) (et : ∀ (i : Nat) (c : mj_C), tl[i]? = some c → tl2[i]? = some c) : WI ro2 tl2 H := by
  obtain ⟨⟨a1, a2, a3, a4, a5⟩, ⟨b1, b2, b3⟩, ⟨c1, c2, c3, c4, c5⟩, ⟨d1, d2, d3, d4⟩, ⟨f1, f2, f3⟩, ⟨g1, g2, g3⟩, g4, g5⟩ := h
  obtain ⟨e6, e7, e10, e12, e13, e15, e16, e19, e192, e20, e22, e23, e4, e60, e62⟩ := e
  have a50 := a5
  obtain ⟨s0, s1⟩ := a50
  refine ⟨⟨LR_cg2 a1 e6 e7 (fun j hj => e60 j (by omega)), fv_cg a2 (fun j hj => e10 j (by omega)), ⟨?_, fun j hj => ?_⟩, fun i hi => ?_, ?_⟩, ⟨?_, ?_, ?_⟩, ⟨?_, ?_, ?_, hx, ?_⟩, ⟨?_, ?_, ?_, ?_⟩, ⟨?_, ?_, ?_⟩, ⟨⟨?_, ?_, ?_⟩, ?_, ?_⟩⟩
  · rw [e10 0 (by omega), e60 0 (by omega)]; exact a3.1
  · rw [e10 j (by omega), e60 (j + 7) (by omega)]; exact a3.2 j hj
  · rw [e10 (24 + i) (by omega), e60 (1733 + i) (by omega)]; exact a4 i hi
  · rw [e19, e192]
    exact STR_cgR (STR_A a5 a2.1 (fun j hj => e60 j (by omega))) a2 e20 (fun j hj => e10 j (by omega))
  · rw [e4 10 (by omega)]; exact b1
  · rw [e4 10 (by omega), e4 9 (by omega)]; exact b2
  · rw [e60 2 (by omega), e4 10 (by omega)]; exact b3
  · rw [e60 1 (by omega), e4 9 (by omega)]; exact c1
  · rw [e4 9 (by omega)]; exact c2
  · rw [e4 9 (by omega)]; exact c3
  · intro t ht
    rw [e4 9 (by omega)] at ht
    obtain ⟨k, k1, k2⟩ := c5 t ht
    exact ⟨k, by rw [er t (by omega)]; exact k1, TM_cg k2 (fun j hj => e62 j (by omega)) et⟩
  · rw [e60 7 (by omega), e4 11 (by omega)]; exact d1
  · rw [e4 11 (by omega)]; exact d2
  · rw [e4 11 (by omega)]; exact d3
  · intro k hk
    rw [e4 11 (by omega)] at hk
    rw [e60 (97 + 2 * k) (by omega), e60 (97 + 2 * k + 1) (by omega), e22 k (by omega), e23 k (by omega), e60 0 (by omega)]
    exact d4 k hk
  · rw [e13 0 (by omega), e60 4 (by omega)]; exact f1
  · rw [e13 1 (by omega), e60 5 (by omega)]; exact f2
  · rw [e12 0 (by omega), e12 1 (by omega)]
    exact dyOk_cg f3 (e60 4 (by omega)) (e60 5 (by omega)) (fun j hj => e60 j (by omega))
  · rw [e15]; exact g1
  · rw [e15]; exact g2
  · intro j hj
    rw [e15] at hj
    rw [e16 j (by omega)]; exact g3 j hj
  · rw [e15, e60 6 (by omega)]; exact g4
  · intro j hj
    rw [e15] at hj
    rw [e16 j (by omega), e60 (81 + j) (by omega)]; exact g5 j hj
/-- what lies beside the worlds for deeds -/
def SCP (G : gT) : Prop := bnd (G 3) ∧ bV9 (G 66) ∧ b01 (G 67) ∧ G 59 23 = 1
/-- deeds' stand, out of the world -/
theorem PW_re {ro : rT} {tl : List mj_C} {G : gT} (p : PW0 G) (b : -1 ≤ G 4 10 ∧ G 4 10 < G 4 9 ∧ G 60 2 = G 4 10) (t : TXM ro tl G) (s : SCP G) : PW ro tl G := by
  obtain ⟨a1, a2, a3, a4, a5⟩ := p
  obtain ⟨b1, b2, b3⟩ := b
  obtain ⟨c1, c2, c3, c4, c5⟩ := t
  obtain ⟨s1, s2, s3, s4⟩ := s
  refine ⟨a1, a2, a3, a4, a5, s1, ⟨b1, b2, c2, c3⟩, c1, b3, s2, s3, c4, s4, ?_, ?_, ?_⟩
  · rw [b3]
    intro h
    obtain ⟨k, k1, k2⟩ := c5 (G 4 10) ⟨h, b2⟩
    obtain ⟨_, _, _, _, _, _, _, _, _, _, q, _⟩ := k2
    exact q
  · rw [b3]
    by_cases y : G 4 10 < 0
    · have ec : ctr ro G = none := by unfold ctr; rw [if_pos y]
      rw [ec]
      exact ⟨none, Or.inl ⟨rfl, rfl⟩, Or.inl ⟨rfl, by unfold fq; rw [if_pos y]⟩⟩
    · obtain ⟨k, k1, k2⟩ := c5 (G 4 10) ⟨by omega, b2⟩
      have ec : ctr ro G = some k := by unfold ctr; rw [if_neg y]; exact k1
      rw [ec]
      exact (TM_TX (by omega) k2).2.1
  · rw [b3]
    by_cases y : G 4 10 < 0
    · have ec : ctr ro G = none := by unfold ctr; rw [if_pos y]
      rw [ec]
      exact ⟨none, Or.inl ⟨rfl, rfl⟩, Or.inl ⟨rfl, by unfold fq; rw [if_pos y]⟩⟩
    · obtain ⟨k, k1, k2⟩ := c5 (G 4 10) ⟨by omega, b2⟩
      have ec : ctr ro G = some k := by unfold ctr; rw [if_neg y]; exact k1
      rw [ec]
      exact (TM_TX (by omega) k2).2.2
theorem PW_0 {ro : rT} {tl : List mj_C} {G : gT} (h : PW ro tl G) : PW0 G ∧ (-1 ≤ G 4 10 ∧ G 4 10 < G 4 9 ∧ G 60 2 = G 4 10) ∧ SCP G := by
  obtain ⟨a1, a2, a3, a4, a5, s1, ⟨b1, b2, c2, c3⟩, c1, b3, s2, s3, c4, s4, _⟩ := h
  exact ⟨⟨a1, a2, a3, a4, a5⟩, ⟨b1, b2, b3⟩, s1, s2, s3, s4⟩
/-- the kept world, put where the world is -/
def swc (c : Nat) : Prop := c = 4 ∨ c = 6 ∨ c = 7 ∨ c = 10 ∨ c = 12 ∨ c = 13 ∨ c = 15 ∨ c = 16 ∨ c = 19 ∨ c = 20 ∨ c = 22 ∨ c = 23
def sw (G : gT) : gT := fun c => if 4 ≤ c ∧ c ≤ 23 then G (c + 20) else if c = 60 then G 61 else G c
def rsw (ro : rT) : rT := fun c j => if c = 21 then ro 41 j else ro c j
theorem sw_c {G : gT} {c : Nat} (h : 4 ≤ c ∧ c ≤ 23) : sw G c = G (c + 20) := if_pos h
theorem sw_60 {G : gT} : sw G 60 = G 61 := by unfold sw; rw [if_neg (by omega), if_pos rfl]
theorem sw_62 {G : gT} : sw G 62 = G 62 := by unfold sw; rw [if_neg (by omega), if_neg (by omega)]
/-- texts' places hold texts -/
def TV (ro : rT) (tl : List mj_C) : Prop := ∀ (c : Nat) (j : Int) (k : Nat), (c = 21 ∨ c = 41) → 0 ≤ j ∧ j < 4 → ro c j = some k → ∃ fs : List Value, 76 ≤ k ∧ tl[k - 76]? = some (.inr (9, fs))
def KPT (ro : rT) (tl : List mj_C) (G : gT) : Prop := WI (rsw ro) tl (sw G) ∧ G 24 9 ≤ G 4 9 ∧ TV ro tl
def IVA (ro : rT) (tl : List mj_C) (G : gT) : Prop := PW ro tl G ∧ TXM ro tl G ∧ SD G ∧ DY G ∧ LDG G ∧ TPE G ∧ FLT G ∧ RG G ∧ KPT ro tl G
theorem IVA_WI {ro : rT} {tl : List mj_C} {G : gT} (h : IVA ro tl G) : WI ro tl G := ⟨(PW_0 h.1).1, (PW_0 h.1).2.1, h.2.1, h.2.2.1, ⟨h.2.2.2.1.1, h.2.2.2.1.2.1, h.2.2.2.1.2.2.1⟩, h.2.2.2.2.1⟩
theorem KPT_cg {ro ro2 : rT} {tl tl2 : List mj_C} {G H : gT} (h : KPT ro tl G) (e : ∀ c : Nat, (24 ≤ c ∧ c ≤ 43) ∨ c = 61 → H c = G c) (h49 : G 4 9 ≤ H 4 9) (hx : TXP (H 62)) (e62 : ∀ j : Int, 0 ≤ j ∧ j < 681 * G 4 9 → H 62 j = G 62 j) (er : ∀ j : Int, 0 ≤ j ∧ j < 4 → ro2 41 j = ro 41 j) (et : ∀ (i : Nat) (c : mj_C), tl[i]? = some c → tl2[i]? = some c) (hv : TV ro2 tl2) : KPT ro2 tl2 H := by
  obtain ⟨h1, h2, h3⟩ := h
  refine ⟨WI_cg h1 ?_ (by rw [sw_62]; exact hx) (fun j hj => ?_) et, ?_, hv⟩
  · have s : ∀ c : Nat, 4 ≤ c ∧ c ≤ 23 → sw H c = sw G c := fun c hc => by rw [sw_c hc, sw_c hc, e (c + 20) (by omega)]
    have s60 : sw H 60 = sw G 60 := by rw [sw_60, sw_60, e 61 (by omega)]
    have s4 : sw G 4 9 = G 24 9 := by rw [sw_c (by omega)]
    unfold WE
    rw [s 6 (by omega), s 7 (by omega), s 10 (by omega), s 12 (by omega), s 13 (by omega), s 15 (by omega), s 16 (by omega), s 19 (by omega), s 20 (by omega), s 22 (by omega), s 23 (by omega), s 4 (by omega), s60, s4, sw_62, sw_62]
    exact ⟨fun _ _ => rfl, fun _ _ => rfl, fun _ _ => rfl, fun _ _ => rfl, fun _ _ => rfl, rfl, fun _ _ => rfl, rfl, rfl, fun _ _ => rfl, fun _ _ => rfl, fun _ _ => rfl, fun _ _ => rfl, fun _ _ => rfl, fun j hj => e62 j (by omega)⟩
  · unfold rsw
    rw [if_pos rfl, if_pos rfl]
    exact er j hj
  · rw [e 24 (by omega)]
    omega
theorem TV_mono {ro : rT} {tl tl2 : List mj_C} (h : TV ro tl) (et : ∀ (i : Nat) (c : mj_C), tl[i]? = some c → tl2[i]? = some c) : TV ro tl2 := fun c j k hc hj hk => by
  obtain ⟨fs, f1, f2⟩ := h c j k hc hj hk
  exact ⟨fs, f1, et _ _ f2⟩
/-- parts of the invariant under a change that they don't see -/
theorem TXM_cg {ro : rT} {tl : List mj_C} {G H : gT} (h : TXM ro tl G) (e1 : H 60 1 = G 60 1) (e4 : H 4 9 = G 4 9) (e62 : H 62 = G 62) : TXM ro tl H := by
  unfold TXM
  rw [e1, e4, e62]
  exact h
theorem SD_cg {G H : gT} (h : SD G) (e7 : H 60 7 = G 60 7) (e4 : H 4 11 = G 4 11) (e22 : H 22 = G 22) (e23 : H 23 = G 23) (e0 : G 60 0 ≤ H 60 0) (e : ∀ j : Int, 97 ≤ j ∧ j < 113 → H 60 j = G 60 j) : SD H := by
  obtain ⟨d1, d2, d3, d4⟩ := h
  unfold SD
  rw [e7, e4, e22, e23]
  refine ⟨d1, d2, d3, fun k hk => ?_⟩
  have q := d4 k hk
  rw [e _ (by omega), e _ (by omega)]
  exact ⟨q.1, q.2.1, q.2.2.1, by omega, q.2.2.2.2⟩
theorem DY_cg {G H : gT} (h : DY G) (e4 : H 60 4 = G 60 4) (e5 : H 60 5 = G 60 5) (e12 : H 12 = G 12) (e13 : H 13 = G 13) (e14 : H 14 = G 14) (e70 : H 70 = G 70) (e : ∀ j : Int, 57 ≤ j ∧ j < 81 → H 60 j = G 60 j) : DY H := by
  obtain ⟨d1, d2, d3, d4, d5⟩ := h
  unfold DY
  rw [e4, e5, e12, e13, e14, e70]
  exact ⟨d1, d2, dyOk_cg d3 e4 e5 e, d4, d5⟩
theorem LDG_cg {G H : gT} (h : LDG G) (e6 : H 60 6 = G 60 6) (e15 : H 15 3 = G 15 3) (e16 : H 16 = G 16) (e : ∀ j : Int, 81 ≤ j ∧ j < 97 → H 60 j = G 60 j) : LDG H := by
  obtain ⟨⟨g1, g2, g3⟩, g4, g5⟩ := h
  unfold LDG enOk
  rw [e6, e15, e16]
  exact ⟨⟨g1, g2, g3⟩, g4, fun j hj => by rw [e _ (by omega)]; exact g5 j hj⟩
theorem TPE_cg {G H : gT} (h : TPE G) (e59 : H 59 4 = G 59 4) (e46 : H 46 4 = G 46 4) (e47 : H 47 = G 47) (e63 : H 63 = G 63) : TPE H := by
  unfold TPE
  rw [e59, e46, e47, e63]
  exact h
theorem FLT_cg {G H : gT} (h : FLT G) (e8 : H 51 8 = G 51 8) (e9 : H 51 9 = G 51 9) (e5 : H 59 5 = G 59 5) (e6 : H 59 6 = G 59 6) : FLT H := by
  unfold FLT
  rw [e8, e9, e5, e6]
  exact h
theorem RG_cg {G H : gT} (h : RG G) (e5 : H 51 5 = G 51 5) (e10 : H 59 10 = G 59 10) (e11 : H 59 11 = G 59 11) : RG H := by
  unfold RG
  rw [e5, e10, e11]
  exact h
/-- what deeds and questions leave of all that lies beside people and laws -/
def FrmG (G H : gT) : Prop := (∀ c : Nat, c = 4 ∨ c = 12 ∨ c = 13 ∨ c = 14 ∨ c = 16 ∨ (22 ≤ c ∧ c ≤ 43) ∨ c = 46 ∨ c = 47 ∨ c = 51 ∨ (61 ≤ c ∧ c ≤ 63) ∨ c = 70 → H c = G c) ∧ H 15 3 = G 15 3 ∧ (∀ j : Int, 4 ≤ j ∧ j < 12 → H 59 j = G 59 j) ∧ (∀ j : Int, (57 ≤ j ∧ j < 113) ∨ (4 ≤ j ∧ j < 8) ∨ j = 1 ∨ j = 2 → H 60 j = G 60 j) ∧ G 60 0 ≤ H 60 0
theorem IVA_G {ro : rT} {tl : List mj_C} {G H : gT} (h : IVA ro tl G) (p : PW ro tl H) (f : FrmG G H) : IVA ro tl H := by
  obtain ⟨i1, i2, i3, i4, i5, i6, i7, i8, i9⟩ := h
  obtain ⟨f1, f2, f3, f4, f5⟩ := f
  have e4 := f1 4 (by omega)
  have e62 := f1 62 (by omega)
  have e51 := f1 51 (by omega)
  exact ⟨p, TXM_cg i2 (f4 1 (by omega)) (by rw [e4]) e62, SD_cg i3 (f4 7 (by omega)) (by rw [e4]) (f1 22 (by omega)) (f1 23 (by omega)) f5 (fun j hj => f4 j (by omega)), DY_cg i4 (f4 4 (by omega)) (f4 5 (by omega)) (f1 12 (by omega)) (f1 13 (by omega)) (f1 14 (by omega)) (f1 70 (by omega)) (fun j hj => f4 j (by omega)), LDG_cg i5 (f4 6 (by omega)) f2 (f1 16 (by omega)) (fun j hj => f4 j (by omega)), TPE_cg i6 (f3 4 (by omega)) (by rw [f1 46 (by omega)]) (f1 47 (by omega)) (f1 63 (by omega)), FLT_cg i7 (by rw [e51]) (by rw [e51]) (f3 5 (by omega)) (f3 6 (by omega)), RG_cg i8 (by rw [e51]) (f3 10 (by omega)) (f3 11 (by omega)), KPT_cg i9 (fun c hc => f1 c (by omega)) (by rw [e4]; exact Int.le_refl _) (by rw [e62]; exact i2.2.2.2.1) (fun j _ => by rw [e62]) (fun _ _ => rfl) (fun _ _ h => h) i9.2.2⟩
theorem FrmG_P {G H : gT} (f : FrmP G H) : FrmG G H := ⟨fun c hc => f.1 c (by omega), by rw [f.1 15 (by omega)], fun j hj => f.2.1 j (by omega), f.2.2.1, f.2.2.2⟩
theorem FrmG_O {G H : gT} (f : FrmO G H) : FrmG G H := ⟨fun c hc => f.1 c (by unfold scr; omega), by rw [f.1 15 (by unfold scr; omega)], fun j hj => f.2.1 j (by omega), fun j _ => by rw [f.2.2], by rw [f.2.2]; exact Int.le_refl _⟩
theorem FrmG_W {G H : gT} (f : FrmW G H) : FrmG G H := ⟨fun c hc => f.1 c (by omega), f.2 3 (by omega), fun j hj => by rw [f.1 59 (by omega)], fun j _ => by rw [f.1 60 (by omega)], by rw [f.1 60 (by omega)]; exact Int.le_refl _⟩
theorem IVA_L {ro : rT} {tl : List mj_C} {G : gT} {a b : Int → Int} (h : IVA ro tl G) (ha : bF a) (hb : bR b) : IVA ro tl (gr (gr G 14 a) 70 b) := by
  obtain ⟨i1, i2, i3, i4, i5, i6, i7, i8, i9⟩ := h
  have f : ∀ c : Nat, c ≠ 14 ∧ c ≠ 70 → (gr (gr G 14 a) 70 b) c = G c := fun c hc => by rw [grc (by omega), grc (by omega)]
  refine ⟨PW_L i1 f, TXM_cg i2 (by rw [f 60 (by omega)]) (by rw [f 4 (by omega)]) (f 62 (by omega)), SD_cg i3 (by rw [f 60 (by omega)]) (by rw [f 4 (by omega)]) (f 22 (by omega)) (f 23 (by omega)) (by rw [f 60 (by omega)]; exact Int.le_refl _) (fun j _ => by rw [f 60 (by omega)]), DY_L i4 ha hb, LDG_cg i5 (by rw [f 60 (by omega)]) (by rw [f 15 (by omega)]) (f 16 (by omega)) (fun j _ => by rw [f 60 (by omega)]), TPE_cg i6 (by rw [f 59 (by omega)]) (by rw [f 46 (by omega)]) (f 47 (by omega)) (f 63 (by omega)), FLT_cg i7 (by rw [f 51 (by omega)]) (by rw [f 51 (by omega)]) (by rw [f 59 (by omega)]) (by rw [f 59 (by omega)]), RG_cg i8 (by rw [f 51 (by omega)]) (by rw [f 59 (by omega)]) (by rw [f 59 (by omega)]), KPT_cg i9 (fun c hc => f c (by omega)) (by rw [f 4 (by omega)]; exact Int.le_refl _) (by rw [f 62 (by omega)]; exact i2.2.2.2.1) (fun j _ => by rw [f 62 (by omega)]) (fun _ _ => rfl) (fun _ _ h => h) i9.2.2⟩
theorem IVA_S {ro : rT} {tl : List mj_C} {G H : gT} (h : IVA ro tl G) (hD : SD H) (f : FrmS G H) : IVA ro tl H := by
  obtain ⟨i1, i2, i3, i4, i5, i6, i7, i8, i9⟩ := h
  have e49 := f.2.1 9 (by omega)
  refine ⟨PW_S i1 f, TXM_cg i2 (f.2.2 1 (by omega)) e49 (f.1 62 (by omega)), hD, DY_cg i4 (f.2.2 4 (by omega)) (f.2.2 5 (by omega)) (f.1 12 (by omega)) (f.1 13 (by omega)) (f.1 14 (by omega)) (f.1 70 (by omega)) (fun j hj => f.2.2 j (by omega)), LDG_cg i5 (f.2.2 6 (by omega)) (by rw [f.1 15 (by omega)]) (f.1 16 (by omega)) (fun j hj => f.2.2 j (by omega)), TPE_cg i6 (by rw [f.1 59 (by omega)]) (by rw [f.1 46 (by omega)]) (f.1 47 (by omega)) (f.1 63 (by omega)), FLT_cg i7 (by rw [f.1 51 (by omega)]) (by rw [f.1 51 (by omega)]) (by rw [f.1 59 (by omega)]) (by rw [f.1 59 (by omega)]), RG_cg i8 (by rw [f.1 51 (by omega)]) (by rw [f.1 59 (by omega)]) (by rw [f.1 59 (by omega)]), KPT_cg i9 (fun c hc => f.1 c (by omega)) (by rw [e49]; exact Int.le_refl _) (by rw [f.1 62 (by omega)]; exact i2.2.2.2.1) (fun j _ => by rw [f.1 62 (by omega)]) (fun _ _ => rfl) (fun _ _ h => h) i9.2.2⟩
theorem IVA_T {ro : rT} {tl : List mj_C} {G H : gT} (h : IVA ro tl G) (hD : DY H) (f : FrmT G H) : IVA ro tl H := by
  obtain ⟨i1, i2, i3, i4, i5, i6, i7, i8, i9⟩ := h
  have e4 := f.1 4 (by omega)
  refine ⟨PW_T i1 f, TXM_cg i2 (f.2 1 (by omega)) (by rw [e4]) (f.1 62 (by omega)), SD_cg i3 (f.2 7 (by omega)) (by rw [e4]) (f.1 22 (by omega)) (f.1 23 (by omega)) (by rw [f.2 0 (by omega)]; exact Int.le_refl _) (fun j hj => f.2 j (by omega)), hD, LDG_cg i5 (f.2 6 (by omega)) (by rw [f.1 15 (by omega)]) (f.1 16 (by omega)) (fun j hj => f.2 j (by omega)), TPE_cg i6 (by rw [f.1 59 (by omega)]) (by rw [f.1 46 (by omega)]) (f.1 47 (by omega)) (f.1 63 (by omega)), FLT_cg i7 (by rw [f.1 51 (by omega)]) (by rw [f.1 51 (by omega)]) (by rw [f.1 59 (by omega)]) (by rw [f.1 59 (by omega)]), RG_cg i8 (by rw [f.1 51 (by omega)]) (by rw [f.1 59 (by omega)]) (by rw [f.1 59 (by omega)]), KPT_cg i9 (fun c hc => f.1 c (by omega)) (by rw [e4]; exact Int.le_refl _) (by rw [f.1 62 (by omega)]; exact i2.2.2.2.1) (fun j _ => by rw [f.1 62 (by omega)]) (fun _ _ => rfl) (fun _ _ h => h) i9.2.2⟩
theorem IVA_E {ro : rT} {tl : List mj_C} {G H : gT} (h : IVA ro tl G) (hD : LDG H) (f : FrmE G H) : IVA ro tl H := by
  obtain ⟨i1, i2, i3, i4, i5, i6, i7, i8, i9⟩ := h
  have e4 := f.1 4 (by omega)
  refine ⟨PW_E i1 f, TXM_cg i2 (f.2 1 (by omega)) (by rw [e4]) (f.1 62 (by omega)), SD_cg i3 (f.2 7 (by omega)) (by rw [e4]) (f.1 22 (by omega)) (f.1 23 (by omega)) (by rw [f.2 0 (by omega)]; exact Int.le_refl _) (fun j hj => f.2 j (by omega)), DY_cg i4 (f.2 4 (by omega)) (f.2 5 (by omega)) (f.1 12 (by omega)) (f.1 13 (by omega)) (f.1 14 (by omega)) (f.1 70 (by omega)) (fun j hj => f.2 j (by omega)), hD, TPE_cg i6 (by rw [f.1 59 (by omega)]) (by rw [f.1 46 (by omega)]) (f.1 47 (by omega)) (f.1 63 (by omega)), FLT_cg i7 (by rw [f.1 51 (by omega)]) (by rw [f.1 51 (by omega)]) (by rw [f.1 59 (by omega)]) (by rw [f.1 59 (by omega)]), RG_cg i8 (by rw [f.1 51 (by omega)]) (by rw [f.1 59 (by omega)]) (by rw [f.1 59 (by omega)]), KPT_cg i9 (fun c hc => f.1 c (by omega)) (by rw [e4]; exact Int.le_refl _) (by rw [f.1 62 (by omega)]; exact i2.2.2.2.1) (fun j _ => by rw [f.1 62 (by omega)]) (fun _ _ => rfl) (fun _ _ h => h) i9.2.2⟩
theorem IVA_Y {ro : rT} {tl : List mj_C} {G H : gT} (h : IVA ro tl G) (hD : TPE H) (f : FrmY G H) : IVA ro tl H := by
  obtain ⟨i1, i2, i3, i4, i5, i6, i7, i8, i9⟩ := h
  have e4 := f.1 4 (by omega)
  have e60 := f.1 60 (by omega)
  refine ⟨PW_Y i1 f, TXM_cg i2 (by rw [e60]) (by rw [e4]) (f.1 62 (by omega)), SD_cg i3 (by rw [e60]) (by rw [e4]) (f.1 22 (by omega)) (f.1 23 (by omega)) (by rw [e60]; exact Int.le_refl _) (fun j _ => by rw [e60]), DY_cg i4 (by rw [e60]) (by rw [e60]) (f.1 12 (by omega)) (f.1 13 (by omega)) (f.1 14 (by omega)) (f.1 70 (by omega)) (fun j _ => by rw [e60]), LDG_cg i5 (by rw [e60]) (by rw [f.1 15 (by omega)]) (f.1 16 (by omega)) (fun j _ => by rw [e60]), hD, FLT_cg i7 (by rw [f.1 51 (by omega)]) (by rw [f.1 51 (by omega)]) (f.2.2 5 (by omega)) (f.2.2 6 (by omega)), RG_cg i8 (by rw [f.1 51 (by omega)]) (f.2.2 10 (by omega)) (f.2.2 11 (by omega)), KPT_cg i9 (fun c hc => f.1 c (by omega)) (by rw [e4]; exact Int.le_refl _) (by rw [f.1 62 (by omega)]; exact i2.2.2.2.1) (fun j _ => by rw [f.1 62 (by omega)]) (fun _ _ => rfl) (fun _ _ h => h) i9.2.2⟩
