/-! class's people against the reference's, purely -/
theorem fl_cgI {g g' : Int → Int → Int} {Q : Int → Prop} : ∀ (k : Nat) (i a : Int), Q a → (∀ j b : Int, i ≤ j ∧ j < i + k → Q b → g j b = g' j b ∧ Q (g j b)) → fl g k i a = fl g' k i a
  | 0, _, _, _, _ => rfl
  | k + 1, i, a, h, s => by
    have e := s i a (by omega) h
    show fl g k (i + 1) (g i a) = fl g' k (i + 1) (g' i a)
    rw [← e.1]
    exact fl_cgI k (i + 1) _ e.2 (fun j b hj hb => s j b (by omega) hb)
def LN (x : Int) : Prop := 0 ≤ x ∧ x ≤ 9999999 ∧ x / 100 % 10 < 5 ∧ x / 10 % 10 < 3 ∧ x % 10 < 8
def cv (x : Int) : Int := ((x / 1000 * 5 + x / 100 % 10) * 3 + x / 10 % 10) * 8 + x % 10
theorem cv_dec {x : Int} (h : LN x) : cv x / 120 = x / 1000 ∧ cv x / 24 % 5 = x / 100 % 10 ∧ cv x / 8 % 3 = x / 10 % 10 ∧ cv x % 8 = x % 10 := by
  unfold LN at h
  unfold cv
  omega
theorem cv_bd {x : Int} (h : LN x) : 0 ≤ cv x ∧ cv x ≤ 9999999 := by
  unfold LN at h
  unfold cv
  omega
theorem ln_mk {h p q c : Int} (hh : 0 ≤ h ∧ h ≤ 9999 ∧ 0 ≤ p ∧ p < 5 ∧ 0 ≤ q ∧ q < 3 ∧ 0 ≤ c ∧ c < 8) : LN (h * 1000 + p * 100 + q * 10 + c) ∧ cv (h * 1000 + p * 100 + q * 10 + c) = ((h * 5 + p) * 3 + q) * 8 + c := by
  unfold LN cv
  omega
def fvP (F : Int → Int) : Prop := ∀ p : Int, 0 ≤ p ∧ p < 5 → 0 ≤ pB F p ∧ pB F p < 8 ∧ 0 ≤ pD F p ∧ pD F p ≤ 8 ∧ 0 ≤ pC F p ∧ pC F p ≤ 99 ∧ 0 ≤ pS F p ∧ pS F p ≤ 99
def fvZ (F : Int → Int) : Prop := ∀ p : Int, F 0 ≤ p ∧ p < 5 → pB F p = 0 ∧ pD F p = 0 ∧ pC F p = 0 ∧ pS F p = 0
def fv (F : Int → Int) : Prop := (0 ≤ F 0 ∧ F 0 ≤ 5) ∧ (0 ≤ F 1 ∧ F 1 ≤ 9999) ∧ (0 ≤ F 2 ∧ F 2 < 30893) ∧ (0 ≤ F 3 ∧ F 3 ≤ 30) ∧ fvP F ∧ fvZ F
def FR0 (F A : Int → Int) : Prop := F 0 = A 0 ∧ ∀ j : Int, 1 ≤ j ∧ j < 24 → F j = A (j + 7)
/-- but for how many lines there are -/
def FR1 (F A : Int → Int) : Prop := F 0 = A 0 ∧ ∀ j : Int, 1 ≤ j ∧ j < 24 ∧ j ≠ 3 → F j = A (j + 7)
theorem FR0_1 {F A : Int → Int} (h : FR0 F A) : FR1 F A := ⟨h.1, fun j hj => h.2 j (by omega)⟩
def BR (F A : Int → Int) : Prop := ∀ i : Int, 0 ≤ i ∧ i < 30 → LN (F (24 + i)) ∧ A (1733 + i) = cv (F (24 + i))
/-- places: the class's rows N, J against A -/
def LR (N J A : Int → Int) : Prop := ∀ c : Int, 0 ≤ c ∧ c < 8 → (N c = mN A c ∧ 0 ≤ N c ∧ N c < 8) ∧ J c = A (49 + c) ∧ -9 ≤ J c ∧ J c ≤ 9
theorem fv_bdd {F : Int → Int} (h : fv F) : bdd (F 0) (pB F) (pD F) := fun p hp => by
  have := h.2.2.2.2.1 p (by have := h.1; omega)
  omega
theorem FR0_v {F A : Int → Int} (h : FR1 F A) {p : Int} (hp : 0 ≤ p ∧ p < 5) : pB F p = qB A p ∧ pD F p = qD A p ∧ pC F p = qC A p ∧ pS F p = qS A p := by
  have a := h.2 (4 + p * 4) (by omega)
  have b := h.2 (4 + p * 4 + 1) (by omega)
  have c := h.2 (4 + p * 4 + 2) (by omega)
  have d := h.2 (4 + p * 4 + 3) (by omega)
  unfold pB pD pC pS qB qD qC qS
  rw [a, b, c, d]
  refine ⟨?_, ?_, ?_, ?_⟩ <;> congr 1 <;> omega
theorem FR0_n {F A : Int → Int} (h : FR0 F A) : F 0 = A 0 ∧ F 1 = A 8 ∧ F 2 = A 9 ∧ F 3 = A 10 := ⟨h.1, h.2 1 (by omega), h.2 2 (by omega), h.2 3 (by omega)⟩
theorem q_bdd {F A : Int → Int} (h : fv F) (e : FR1 F A) : bdd (A 0) (qB A) (qD A) := fun p hp => by
  have h0 := h.1
  have h1 := e.1
  have := fv_bdd h p (by omega)
  have v := FR0_v e (p := p) (by omega)
  omega
theorem LR_N {N J A : Int → Int} (h : LR N J A) : pl8 N := fun c hc => (h c hc).1.2
theorem LR_M {N J A : Int → Int} (h : LR N J A) : pl8 (mN A) := fun c hc => by rw [← (h c hc).1.1]; exact (h c hc).1.2
theorem LR_J {N J A : Int → Int} (h : LR N J A) : ∀ c : Int, 0 ≤ c ∧ c < 8 → -9 ≤ J c ∧ J c ≤ 9 := fun c hc => (h c hc).2.2
theorem LR_A {N J A : Int → Int} (h : LR N J A) : ∀ c : Int, 0 ≤ c ∧ c < 8 → -9 ≤ A (49 + c) ∧ A (49 + c) ≤ 9 := fun c hc => by rw [← (h c hc).2.1]; exact (h c hc).2.2
theorem plcE {N J F A : Int → Int} (hL : LR N J A) (hF : fv F) (hR : FR1 F A) {p : Int} (hp : 0 ≤ p ∧ p < 5) : plc N (pB F) (pD F) p = plc (mN A) (qB A) (qD A) p := by
  have v := FR0_v hR hp
  have b := hF.2.2.2.2.1 p hp
  exact plc_cg (LR_M hL) (fun j hj => (hL j hj).1.1) v.1 v.2.1 (by omega)
theorem plcB {N J F A : Int → Int} (hL : LR N J A) (hF : fv F) {p : Int} (hp : 0 ≤ p ∧ p < 5) : 0 ≤ plc N (pB F) (pD F) p ∧ plc N (pB F) (pD F) p < 8 := plc_bd (LR_N hL) (by have b := hF.2.2.2.2.1 p hp; omega)
theorem pasE {N J F A : Int → Int} (hL : LR N J A) (hF : fv F) (hR : FR1 F A) (c : Int) : pas N (pB F) (pD F) (F 0).toNat c = pas (mN A) (qB A) (qD A) (A 0).toNat c := by
  have h0 := hF.1
  unfold pas
  rw [hR.1] at h0 ⊢
  refine fl_cg _ _ _ (fun j b hj => ?_)
  rw [plcE hL hF hR (by omega)]
theorem dptE {F A : Int → Int} (hF : fv F) (hR : FR1 F A) : dpt (pD F) (F 0).toNat = dpt (qD A) (A 0).toNat := by
  have h0 := hF.1
  unfold dpt
  rw [hR.1] at h0 ⊢
  refine fl_cgI (Q := fun b => b = -1 ∨ 0 ≤ b ∧ b < 5) _ _ _ (Or.inl rfl) (fun j b hj hb => ?_)
  have e1 := (FR0_v hR (p := j) (by omega)).2.1
  rcases hb with hb | hb
  · subst hb
    simp only [if_true, e1, true_and]
    split <;> omega
  · have e2 := (FR0_v hR hb).2.1
    rw [e1, e2]
    refine ⟨rfl, ?_⟩
    split <;> omega
theorem awyE {F A : Int → Int} (hF : fv F) (hR : FR1 F A) : awy (pD F) (F 0).toNat = awy (qD A) (A 0).toNat := by
  have h0 := hF.1
  unfold awy
  rw [hR.1] at h0 ⊢
  refine fl_cg _ _ _ (fun j b hj => ?_)
  rw [(FR0_v hR (p := j) (by omega)).2.1]
theorem alnE {N J F A : Int → Int} (hL : LR N J A) (hF : fv F) (hR : FR1 F A) : aln N (pB F) (pD F) (F 0).toNat = aln (mN A) (qB A) (qD A) (A 0).toNat := by
  have h0 := hF.1
  have hp := fun c => pasE hL hF hR c
  unfold aln
  rw [hR.1] at h0 hp ⊢
  refine fl_cg _ _ _ (fun j b hj => ?_)
  rw [plcE hL hF hR (by omega), hp]
theorem gldE {N J F A : Int → Int} (hL : LR N J A) (hF : fv F) (hR : FR1 F A) : gld (fun p => J (plc N (pB F) (pD F) p)) (F 0).toNat = gld (fun p => A (49 + plc (mN A) (qB A) (qD A) p)) (A 0).toNat := by
  have h0 := hF.1
  have hJ : ∀ p : Int, 0 ≤ p ∧ p < 5 → J (plc N (pB F) (pD F) p) = A (49 + plc (mN A) (qB A) (qD A) p) := fun p hp => by
    rw [← plcE hL hF hR hp]
    exact (hL _ (plcB hL hF hp)).2.1
  unfold gld
  rw [hR.1] at h0 ⊢
  refine fl_cgI (Q := fun b => b = -1 ∨ 0 ≤ b ∧ b < 5) _ _ _ (Or.inl rfl) (fun j b hj hb => ?_)
  have e1 := hJ j (by omega)
  rcases hb with hb | hb
  · subst hb
    simp only [true_or, if_true, true_and]
    omega
  · have e2 := hJ b hb
    simp only [e1, e2]
    refine ⟨trivial, ?_⟩
    split <;> omega
theorem smE {D E : Int → Int} {n : Int} (hn : n ≤ 5) (h : ∀ p : Int, 0 ≤ p ∧ p < 5 → D p = E p) : sm D n.toNat = sm E n.toNat := by
  unfold sm
  refine fl_cg _ _ _ (fun j b hj => ?_)
  rw [h j (by omega)]
theorem lnE {F A : Int → Int} (hB : BR F A) {i q : Int} (hi : 0 ≤ i ∧ i < 30) : lnp F i q = rlp A i q := by
  have h := hB i hi
  have d := cv_dec h.1
  unfold lnp rlp
  rw [h.2, d.1, d.2.1, d.2.2.1, d.2.2.2]
theorem BR_c {F A : Int → Int} (hB : BR F A) : ∀ i : Int, 0 ≤ i ∧ i < 30 → 0 ≤ F (24 + i) ∧ F (24 + i) ≤ 9999999 := fun i hi => by
  have := (hB i hi).1
  unfold LN at this
  omega
theorem BR_a {F A : Int → Int} (hB : BR F A) : ∀ i : Int, 0 ≤ i ∧ i < 30 → 0 ≤ A (1733 + i) ∧ A (1733 + i) ≤ 9999999 := fun i hi => by
  have h := hB i hi
  rw [h.2]
  exact cv_bd h.1
theorem cntE {F A : Int → Int} (hB : BR F A) {n q : Int} (hn : n ≤ 30) : cnt2 (fun i => lnp F i 2) n.toNat q = rcnt (fun i => rlp A i 2) n.toNat q := by
  unfold cnt2 rcnt
  refine fl_cg _ _ _ (fun j b hj => ?_)
  show (if lnp F j 2 = q then b + 1 else b) = (if rlp A j 2 = q then b + 1 else b)
  rw [lnE hB (by omega)]
/-! what changes -/
theorem FR0_up {F A : Int → Int} (h : FR0 F A) {j i v : Int} (hj : 1 ≤ j ∧ j < 24) (hi : i = j + 7) : FR0 (up F j v) (up A i v) := by
  subst hi
  refine ⟨?_, fun q hq => ?_⟩
  · rw [up_n (by omega), up_n (by omega)]; exact h.1
  · by_cases e : q = j
    · rw [up_e e, up_e (by omega)]
    · rw [up_n e, up_n (by omega)]; exact h.2 q hq
theorem FR1_up {F A : Int → Int} (h : FR1 F A) {j i v : Int} (hj : 1 ≤ j ∧ j < 24) (hi : i = j + 7) : FR1 (up F j v) (up A i v) := by
  subst hi
  refine ⟨?_, fun q hq => ?_⟩
  · rw [up_n (by omega), up_n (by omega)]; exact h.1
  · by_cases e : q = j
    · rw [up_e e, up_e (by omega)]
    · rw [up_n e, up_n (by omega)]; exact h.2 q hq
theorem BR_up {F A : Int → Int} (h : BR F A) {j i v x : Int} (hj : j < 24) (hi : i < 1733) : BR (up F j v) (up A i x) := fun q hq => by
  rw [up_n (by omega), up_n (by omega)]
  exact h q hq
theorem BR_upA {F A : Int → Int} (h : BR F A) {i x : Int} (hi : i < 1733) : BR F (up A i x) := fun q hq => by
  rw [up_n (by omega)]
  exact h q hq
theorem wrR {F A : Int → Int} (h : FR0 F A) (hB : BR F A) (h3 : 0 ≤ F 3 ∧ F 3 ≤ 30) {l : Int} (hl : LN l) : FR0 (wr F l) (rwr A (cv l)) ∧ BR (wr F l) (rwr A (cv l)) := by
  have e3 := (FR0_n h).2.2.2
  unfold wr rwr
  by_cases q : F 3 = 30
  · rw [if_pos q, if_pos (by omega)]
    refine ⟨⟨?_, fun j hj => ?_⟩, fun i hi => ?_⟩
    · rw [up_n (by omega), up_n (by omega), cpy_o (by omega), cpy_o (by omega)]; exact h.1
    · rw [up_n (by omega), up_n (by omega), cpy_o (by omega), cpy_o (by omega)]; exact h.2 j hj
    · by_cases e : i = 29
      · subst e
        rw [up_e (by omega), up_e (by omega)]
        exact ⟨hl, rfl⟩
      · rw [up_n (by omega), up_n (by omega), cpy_i (by omega), cpy_i (by omega), show 25 + (24 + i - 24) = 24 + (i + 1) by omega, show 1734 + (1733 + i - 1733) = 1733 + (i + 1) by omega]
        exact hB (i + 1) (by omega)
  · rw [if_neg q, if_neg (by omega)]
    refine ⟨⟨?_, fun j hj => ?_⟩, fun i hi => ?_⟩
    · rw [up_n (by omega), up_n (by omega), up_n (by omega), up_n (by omega)]; exact h.1
    · by_cases e : j = 3
      · rw [up_e e, up_e (by omega), e3]
      · rw [up_n e, up_n (by omega), up_n (by omega), up_n (by omega)]; exact h.2 j hj
    · rw [up_n (by omega), up_n (show 1733 + i ≠ 10 by omega)]
      by_cases e : i = F 3
      · rw [up_e (by omega), up_e (by omega)]
        exact ⟨hl, rfl⟩
      · rw [up_n (by omega), up_n (by omega)]
        exact hB i hi
theorem fv_wr {F : Int → Int} (h : fv F) {l : Int} : fv (wr F l) := by
  obtain ⟨a, b, c, e, f, g⟩ := h
  have key : ∀ j : Int, j < 24 ∧ j ≠ 3 → wr F l j = F j := fun j hj => by
    unfold wr
    split
    · rw [up_n (by omega), cpy_o (by omega)]
    · rw [up_n hj.2, up_n (by omega)]
  have k3 : 0 ≤ wr F l 3 ∧ wr F l 3 ≤ 30 := by
    unfold wr
    split
    · rw [up_n (by omega), cpy_o (by omega)]; omega
    · rw [up_e rfl]; omega
  have kv : ∀ p : Int, 0 ≤ p ∧ p < 5 → pB (wr F l) p = pB F p ∧ pD (wr F l) p = pD F p ∧ pC (wr F l) p = pC F p ∧ pS (wr F l) p = pS F p := fun p hp => ⟨key _ (by omega), key _ (by omega), key _ (by omega), key _ (by omega)⟩
  refine ⟨?_, ?_, ?_, k3, fun p hp => ?_, fun p hp => ?_⟩
  · rw [key 0 (by omega)]; exact a
  · rw [key 1 (by omega)]; exact b
  · rw [key 2 (by omega)]; exact c
  · obtain ⟨k1, k2, k3, k4⟩ := kv p hp
    rw [k1, k2, k3, k4]
    exact f p hp
  · rw [key 0 (by omega)] at hp
    obtain ⟨k1, k2, k3, k4⟩ := kv p (by omega)
    rw [k1, k2, k3, k4]
    exact g p hp
theorem fv_up2 {F : Int → Int} (h : fv F) {x : Int} (hx : 0 ≤ x ∧ x < 30893) : fv (up F 2 x) := by
  obtain ⟨a, b, c, e, f, g⟩ := h
  refine ⟨?_, ?_, ?_, ?_, fun p hp => ?_, fun p hp => ?_⟩
  · rw [up_n (by omega)]; exact a
  · rw [up_n (by omega)]; exact b
  · rw [up_e rfl]; exact hx
  · rw [up_n (by omega)]; exact e
  · have := f p hp
    simp only [pB, pD, pC, pS] at this ⊢
    rw [up_n (by omega), up_n (by omega), up_n (by omega), up_n (by omega)]; exact this
  · rw [up_n (by omega)] at hp
    have := g p hp
    simp only [pB, pD, pC, pS] at this ⊢
    rw [up_n (by omega), up_n (by omega), up_n (by omega), up_n (by omega)]; exact this
theorem fv_up1 {F : Int → Int} (h : fv F) {x : Int} (hx : 0 ≤ x ∧ x ≤ 9999) : fv (up F 1 x) := by
  obtain ⟨a, b, c, e, f, g⟩ := h
  refine ⟨?_, ?_, ?_, ?_, fun p hp => ?_, fun p hp => ?_⟩
  · rw [up_n (by omega)]; exact a
  · rw [up_e rfl]; exact hx
  · rw [up_n (by omega)]; exact c
  · rw [up_n (by omega)]; exact e
  · have := f p hp
    simp only [pB, pD, pC, pS] at this ⊢
    rw [up_n (by omega), up_n (by omega), up_n (by omega), up_n (by omega)]; exact this
  · rw [up_n (by omega)] at hp
    have := g p hp
    simp only [pB, pD, pC, pS] at this ⊢
    rw [up_n (by omega), up_n (by omega), up_n (by omega), up_n (by omega)]; exact this
theorem fv_upB {F : Int → Int} (h : fv F) {p x : Int} (hp : 0 ≤ p ∧ p < F 0) (hx : 0 ≤ x ∧ x < 8) : fv (up F (4 + p * 4) x) := by
  obtain ⟨a, b, c, e, f, g⟩ := h
  refine ⟨?_, ?_, ?_, ?_, fun q hq => ?_, fun q hq => ?_⟩
  · rw [up_n (by omega)]; exact a
  · rw [up_n (by omega)]; exact b
  · rw [up_n (by omega)]; exact c
  · rw [up_n (by omega)]; exact e
  · have := f q hq
    simp only [pB, pD, pC, pS] at this ⊢
    by_cases z : q = p
    · subst z
      rw [up_e rfl, up_n (by omega), up_n (by omega), up_n (by omega)]; omega
    · rw [up_n (by omega), up_n (by omega), up_n (by omega), up_n (by omega)]; exact this
  · rw [up_n (by omega)] at hq
    have := g q hq
    simp only [pB, pD, pC, pS] at this ⊢
    rw [up_n (by omega), up_n (by omega), up_n (by omega), up_n (by omega)]; exact this
theorem fv_upD {F : Int → Int} (h : fv F) {p x : Int} (hp : 0 ≤ p ∧ p < F 0) (hx : 0 ≤ x ∧ x ≤ 8) : fv (up F (4 + p * 4 + 1) x) := by
  obtain ⟨a, b, c, e, f, g⟩ := h
  refine ⟨?_, ?_, ?_, ?_, fun q hq => ?_, fun q hq => ?_⟩
  · rw [up_n (by omega)]; exact a
  · rw [up_n (by omega)]; exact b
  · rw [up_n (by omega)]; exact c
  · rw [up_n (by omega)]; exact e
  · have := f q hq
    simp only [pB, pD, pC, pS] at this ⊢
    by_cases z : q = p
    · subst z
      rw [up_n (by omega), up_e rfl, up_n (by omega), up_n (by omega)]; omega
    · rw [up_n (by omega), up_n (by omega), up_n (by omega), up_n (by omega)]; exact this
  · rw [up_n (by omega)] at hq
    have := g q hq
    simp only [pB, pD, pC, pS] at this ⊢
    rw [up_n (by omega), up_n (by omega), up_n (by omega), up_n (by omega)]; exact this
theorem fv_upC {F : Int → Int} (h : fv F) {p x : Int} (hp : 0 ≤ p ∧ p < F 0) (hx : 0 ≤ x ∧ x ≤ 99) : fv (up F (4 + p * 4 + 2) x) := by
  obtain ⟨a, b, c, e, f, g⟩ := h
  refine ⟨?_, ?_, ?_, ?_, fun q hq => ?_, fun q hq => ?_⟩
  · rw [up_n (by omega)]; exact a
  · rw [up_n (by omega)]; exact b
  · rw [up_n (by omega)]; exact c
  · rw [up_n (by omega)]; exact e
  · have := f q hq
    simp only [pB, pD, pC, pS] at this ⊢
    by_cases z : q = p
    · subst z
      rw [up_n (by omega), up_n (by omega), up_e rfl, up_n (by omega)]; omega
    · rw [up_n (by omega), up_n (by omega), up_n (by omega), up_n (by omega)]; exact this
  · rw [up_n (by omega)] at hq
    have := g q hq
    simp only [pB, pD, pC, pS] at this ⊢
    rw [up_n (by omega), up_n (by omega), up_n (by omega), up_n (by omega)]; exact this
theorem fv_upS {F : Int → Int} (h : fv F) {p x : Int} (hp : 0 ≤ p ∧ p < F 0) (hx : 0 ≤ x ∧ x ≤ 99) : fv (up F (4 + p * 4 + 3) x) := by
  obtain ⟨a, b, c, e, f, g⟩ := h
  refine ⟨?_, ?_, ?_, ?_, fun q hq => ?_, fun q hq => ?_⟩
  · rw [up_n (by omega)]; exact a
  · rw [up_n (by omega)]; exact b
  · rw [up_n (by omega)]; exact c
  · rw [up_n (by omega)]; exact e
  · have := f q hq
    simp only [pB, pD, pC, pS] at this ⊢
    by_cases z : q = p
    · subst z
      rw [up_n (by omega), up_n (by omega), up_n (by omega), up_e rfl]; omega
    · rw [up_n (by omega), up_n (by omega), up_n (by omega), up_n (by omega)]; exact this
  · rw [up_n (by omega)] at hq
    have := g q hq
    simp only [pB, pD, pC, pS] at this ⊢
    rw [up_n (by omega), up_n (by omega), up_n (by omega), up_n (by omega)]; exact this
/-- a deed's end: since 0, a line -/
theorem arrR {N J F A : Int → Int} (hL : LR N J A) (hF : fv F) (h : FR0 F A) (hB : BR F A) {p q : Int} (hp : 0 ≤ p ∧ p < F 0) (hq : 0 ≤ q ∧ q < 3) : FR0 (arr N F p q) (rarr (up A (11 + 4 * p + 3) 0) p q) ∧ BR (arr N F p q) (rarr (up A (11 + 4 * p + 3) 0) p q) ∧ fv (arr N F p q) := by
  have h0 := hF.1
  have hh := hF.2.1
  have hy := plcB hL hF (p := p) (by omega)
  have n1 := (FR0_n h).2.1
  have f1 : fv (up F (4 + p * 4 + 3) 0) := fv_upS hF hp (by omega)
  have r1 : FR0 (up F (4 + p * 4 + 3) 0) (up A (11 + 4 * p + 3) 0) := FR0_up h (by omega) (by omega)
  have b1 : BR (up F (4 + p * 4 + 3) 0) (up A (11 + 4 * p + 3) 0) := BR_up hB (by omega) (by omega)
  have lm := ln_mk (h := F 1) (p := p) (q := q) (c := plc N (pB F) (pD F) p) (by omega)
  have e : rarr (up A (11 + 4 * p + 3) 0) p q = rwr (up A (11 + 4 * p + 3) 0) (cv (F 1 * 1000 + p * 100 + q * 10 + plc N (pB F) (pD F) p)) := by
    unfold rarr
    rw [lm.2]
    have e1 : plc (mN (up A (11 + 4 * p + 3) 0)) (qB (up A (11 + 4 * p + 3) 0)) (qD (up A (11 + 4 * p + 3) 0)) p = plc N (pB F) (pD F) p := by
      rw [plcE hL hF (FR0_1 h) (by omega)]
      have v := FR0_v (FR0_1 h) (p := p) (by omega)
      have b := hF.2.2.2.2.1 p (by omega)
      refine plc_cg (LR_M hL) (fun j hj => ?_) ?_ ?_ (by omega)
      · show up A (11 + 4 * p + 3) 0 (41 + j) = A (41 + j)
        rw [up_n (by omega)]
      · show up A (11 + 4 * p + 3) 0 (11 + 4 * p) = A (11 + 4 * p)
        rw [up_n (by omega)]
      · show up A (11 + 4 * p + 3) 0 (11 + 4 * p + 1) = A (11 + 4 * p + 1)
        rw [up_n (by omega)]
    rw [e1, up_n (show (8 : Int) ≠ 11 + 4 * p + 3 by omega), n1]
  rw [e]
  have k := wrR r1 b1 (by rw [up_n (by omega)]; exact hF.2.2.2.1) lm.1
  exact ⟨k.1, k.2, fv_wr f1⟩
/-- as above where nothing is written there -/
theorem arrR0 {N J F A : Int → Int} (hL : LR N J A) (hF : fv F) (h : FR1 F A) {p q : Int} (hp : 0 ≤ p ∧ p < F 0) : FR1 (arr N F p q) (up A (11 + 4 * p + 3) 0) ∧ fv (arr N F p q) := by
  have h0 := hF.1
  have f1 : fv (up F (4 + p * 4 + 3) 0) := fv_upS hF hp (by omega)
  have key : ∀ j : Int, j < 24 ∧ j ≠ 3 → arr N F p q j = up F (4 + p * 4 + 3) 0 j := fun j hj => by
    unfold arr wr
    split
    · rw [up_n (by omega), cpy_o (by omega)]
    · rw [up_n hj.2, up_n (by rw [up_n (show (3 : Int) ≠ 4 + p * 4 + 3 by omega)]; have := hF.2.2.2.1; omega)]
  refine ⟨⟨?_, fun j hj => ?_⟩, fv_wr f1⟩
  · rw [key 0 (by omega), up_n (by omega), up_n (by omega)]; exact h.1
  · rw [key j (by omega)]
    exact (FR1_up h (j := 4 + p * 4 + 3) (i := 11 + 4 * p + 3) (v := 0) (by omega) (by omega)).2 j (by omega)
