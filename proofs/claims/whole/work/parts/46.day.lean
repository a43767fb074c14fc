/-! the day: doings, meetings, plans; purely -/
def spn (a b : Int) : Int := iL 1 (b + 1) - iL 1 a
def orh (k : Nat) (a s : Int) : Int := fl (fun h s => iO s (iL 1 h)) k a s
def hrs (A : Int → Int) (w x : Int) : Int := fl (fun k s => orh (A (x + 2 * k + 1) - A (x + 2 * k) + 1).toNat (A (x + 2 * k)) s) (A w).toNat 0 0
theorem spn_fin : ∀ a b : Fin 24, a.val ≤ b.val → (0 ≤ spn (a.val : Int) (b.val : Int) ∧ spn (a.val : Int) (b.val : Int) < 16777216) ∧ (a.val < b.val → iO (iL 1 (a.val : Int)) (spn ((a.val : Int) + 1) (b.val : Int)) = spn (a.val : Int) (b.val : Int)) ∧ (a.val = b.val → iL 1 (a.val : Int) = spn (a.val : Int) (b.val : Int)) := by decide +kernel
theorem spn_bd {a b : Int} (h : 0 ≤ a ∧ a ≤ b ∧ b < 24) : 0 ≤ spn a b ∧ spn a b < 16777216 := by
  have k := (spn_fin ⟨a.toNat, by omega⟩ ⟨b.toNat, by omega⟩ (by show a.toNat ≤ b.toNat; omega)).1
  simp only [Int.toNat_of_nonneg h.1, Int.toNat_of_nonneg (show 0 ≤ b by omega)] at k
  exact k
theorem spn_s {a b : Int} (h : 0 ≤ a ∧ a < b ∧ b < 24) : iO (iL 1 a) (spn (a + 1) b) = spn a b := by
  have k := (spn_fin ⟨a.toNat, by omega⟩ ⟨b.toNat, by omega⟩ (by show a.toNat ≤ b.toNat; omega)).2.1 (by show a.toNat < b.toNat; omega)
  simp only [Int.toNat_of_nonneg h.1, Int.toNat_of_nonneg (show 0 ≤ b by omega)] at k
  exact k
theorem spn_1 {a : Int} (h : 0 ≤ a ∧ a < 24) : iL 1 a = spn a a := by
  have k := (spn_fin ⟨a.toNat, by omega⟩ ⟨a.toNat, by omega⟩ (Nat.le_refl _)).2.2 rfl
  simp only [Int.toNat_of_nonneg h.1] at k
  exact k
theorem iO_assoc (a b c : Int) : iO (iO a b) c = iO a (iO b c) := by
  unfold iO
  rw [zI_of, zI_of, Int32.or_assoc]
theorem iO_0l {s : Int} (h : -2147483648 ≤ s ∧ s ≤ 2147483647) : iO 0 s = s := by
  unfold iO
  rw [show zI 0 ||| zI s = zI s from Int32.zero_or, zI_toInt h]
theorem orh_spn : ∀ (n : Nat) (a s : Int), 0 ≤ a ∧ a + n < 24 → orh (n + 1) a s = iO s (spn a (a + n))
  | 0, a, s, h => by
    show iO s (iL 1 a) = _
    rw [spn_1 (by omega), show a + ((0 : Nat) : Int) = a by omega]
  | n + 1, a, s, h => by
    show orh (n + 1) (a + 1) (iO s (iL 1 a)) = _
    rw [orh_spn n (a + 1) _ (by omega), iO_assoc, show a + 1 + (n : Int) = a + ((n + 1 : Nat) : Int) by omega, spn_s (by omega)]
theorem fl_sn {g : Int → Int → Int} : ∀ (k : Nat) (i a : Int), fl g (k + 1) i a = g (i + k) (fl g k i a)
  | 0, i, a => by
    show g i a = g (i + ((0 : Nat) : Int)) a
    rw [show i + ((0 : Nat) : Int) = i by omega]
  | k + 1, i, a => by
    show fl g (k + 1) (i + 1) (g i a) = _
    rw [fl_sn k (i + 1) (g i a), show i + 1 + (k : Int) = i + ((k + 1 : Nat) : Int) by omega]
    rfl
theorem hrs_bd (A : Int → Int) (w x : Int) : -2147483648 ≤ hrs A w x ∧ hrs A w x ≤ 2147483647 := by
  have o : ∀ (n : Nat) (a s : Int), (-2147483648 ≤ s ∧ s ≤ 2147483647) → -2147483648 ≤ orh n a s ∧ orh n a s ≤ 2147483647 := by
    intro n
    induction n with
    | zero => intro a s h; exact h
    | succ n ih => intro a s h; exact ih (a + 1) _ (iO_bd _ _)
  have g : ∀ (n : Nat) (i s : Int), (-2147483648 ≤ s ∧ s ≤ 2147483647) → -2147483648 ≤ fl (fun k s => orh (A (x + 2 * k + 1) - A (x + 2 * k) + 1).toNat (A (x + 2 * k)) s) n i s ∧ fl (fun k s => orh (A (x + 2 * k + 1) - A (x + 2 * k) + 1).toNat (A (x + 2 * k)) s) n i s ≤ 2147483647 := by
    intro n
    induction n with
    | zero => intro i s h; exact h
    | succ n ih => intro i s h; exact ih (i + 1) _ (o _ _ _ h)
  exact g _ 0 0 (by omega)
theorem orh_bd : ∀ (n : Nat) (a s : Int), (-2147483648 ≤ s ∧ s ≤ 2147483647) → -2147483648 ≤ orh n a s ∧ orh n a s ≤ 2147483647
  | 0, _, _, h => h
  | n + 1, a, s, h => orh_bd n (a + 1) _ (iO_bd _ _)
theorem hrs_0 {A : Int → Int} {w x : Int} (h : A w = 0) : hrs A w x = 0 := by
  unfold hrs
  rw [h]
  rfl
theorem hrs_cg {A A' : Int → Int} {w x : Int} (hw : A' w = A w) (h0 : 0 ≤ A w) (e : ∀ j : Int, x ≤ j ∧ j < x + 2 * A w → A' j = A j) : hrs A' w x = hrs A w x := by
  unfold hrs
  rw [hw]
  refine fl_cg _ _ _ (fun k b hk => ?_)
  rw [e (x + 2 * k + 1) (by omega), e (x + 2 * k) (by omega)]
theorem hrs_up {A A' : Int → Int} {w x f t : Int} (hw : A' w = A w + 1) (h0 : 0 ≤ A w) (hf : A' (x + 2 * A w) = f) (ht : A' (x + 2 * A w + 1) = t) (hb : 0 ≤ f ∧ f ≤ t ∧ t < 24) (e : ∀ j : Int, x ≤ j ∧ j < x + 2 * A w → A' j = A j) : hrs A' w x = iO (hrs A w x) (spn f t) := by
  have en : (A' w).toNat = (A w).toNat + 1 := by omega
  have ek : (0 : Int) + ((A w).toNat : Int) = A w := by omega
  have e1 : hrs A' w x = orh (A' (x + 2 * A w + 1) - A' (x + 2 * A w) + 1).toNat (A' (x + 2 * A w)) (fl (fun k s => orh (A' (x + 2 * k + 1) - A' (x + 2 * k) + 1).toNat (A' (x + 2 * k)) s) (A w).toNat 0 0) := by
    unfold hrs
    rw [en, fl_sn, ek]
  have e2 : fl (fun k s => orh (A' (x + 2 * k + 1) - A' (x + 2 * k) + 1).toNat (A' (x + 2 * k)) s) (A w).toNat 0 0 = hrs A w x := by
    unfold hrs
    refine fl_cg _ _ _ (fun k b hk => ?_)
    rw [e (x + 2 * k + 1) (by omega), e (x + 2 * k) (by omega)]
  rw [e1, e2, hf, ht, show (t - f + 1).toNat = (t - f).toNat + 1 by omega, orh_spn _ _ _ (by omega), show f + ((t - f).toNat : Int) = t by omega]
theorem iA_1 (x : Int) : iA x 1 = 0 ∨ iA x 1 = 1 := by
  have k : (zI x &&& zI 1).toBitVec.toNat = (zI x).toBitVec.toNat % 2 := by
    show ((zI x).toBitVec &&& 1#32).toNat = _
    rw [BitVec.toNat_and]
    exact Nat.and_one_is_mod _
  have k2 : (zI x &&& zI 1) = zI 0 ∨ (zI x &&& zI 1) = zI 1 := by
    rcases Nat.mod_two_eq_zero_or_one (zI x).toBitVec.toNat with h | h
    · left
      apply Int32.toBitVec_inj.1
      apply BitVec.eq_of_toNat_eq
      rw [k, h]; rfl
    · right
      apply Int32.toBitVec_inj.1
      apply BitVec.eq_of_toNat_eq
      rw [k, h]; rfl
  unfold iA
  rcases k2 with h | h <;> rw [h]
  · exact Or.inl rfl
  · exact Or.inr rfl
def bck (h n : Int) : Int := min 24 (h + n)
def wB (M : Int) (F : Int → Int) (h n : Int) : Int := if iA (spn h (bck h n - 1)) M = 0 then (if F (bck h n) = -1 then -1 else F (bck h n) + 1) else -1
def stv (D : Int) (F : Int → Int) (h : Int) : Int := if iA (iR D h) 1 = 0 then F (h + 1) else -1
def cv1 (D M : Int) (F : Int → Int) (h n : Int) : Int := if wB M F h n = -1 then stv D F h else if stv D F h = -1 then wB M F h n else if wB M F h n < stv D F h then wB M F h n else stv D F h
def cnt1 (D M n : Int) : Nat → Int → (Int → Int) → Int → Int
  | 0, _, F => F
  | k + 1, h, F => cnt1 D M n k (h - 1) (up F h (cv1 D M F h n))
def aw (h n : Int) : Int := orh (bck h n - h).toNat h 0
def rst (D : Int) (R : Int → Int) (h : Int) : Int := if iA (iR D h) 1 = 1 then 1000000 else R (h + 1)
def rbt (M : Int) (R : Int → Int) (h n : Int) : Int := if iA (aw h n) M = 0 then R (h + n) + 1 else 1000000
def rv1 (D M : Int) (R : Int → Int) (h n : Int) : Int := if rbt M R h n < rst D R h then rbt M R h n else rst D R h
def rcn (D M n : Int) : Nat → Int → (Int → Int) → Int → Int
  | 0, _, F => F
  | k + 1, h, F => rcn D M n k (h - 1) (up F h (rv1 D M F h n))
theorem aw_spn {h n : Int} (hh : 0 ≤ h ∧ h < 24 ∧ 1 ≤ n) : aw h n = spn h (bck h n - 1) := by
  unfold aw
  have hb : h + 1 ≤ bck h n ∧ bck h n ≤ 24 := by unfold bck; omega
  have b := spn_bd (a := h) (b := bck h n - 1) (by omega)
  rw [show (bck h n - h).toNat = (bck h n - 1 - h).toNat + 1 by omega, orh_spn _ _ _ (by omega), show h + ((bck h n - 1 - h).toNat : Int) = bck h n - 1 by omega, iO_0l (by omega)]
/-- the class's count c against the reference's r, at hour j -/
def rlt (c r j : Int) : Prop := (c = -1 ∧ 1000000 ≤ r ∧ r ≤ 1000024 - j) ∨ (c = r ∧ 0 ≤ c ∧ c ≤ 24 - j)
/-- from hour h on (h not yet) -/
def dRel (D M n h : Int) (F R : Int → Int) : Prop := (∀ j : Int, h < j ∧ j ≤ 24 → rlt (F j) (R j) j) ∧ (∀ j : Int, 24 ≤ j ∧ j ≤ 48 → R j = 0) ∧ F 24 = 0 ∧ ∀ j : Int, h < j ∧ j < 24 → F j = cv1 D M F j n
theorem cv1_cg {D M : Int} {F F' : Int → Int} {h n : Int} (hh : 0 ≤ h ∧ h < 24 ∧ 1 ≤ n) (e : ∀ j : Int, h < j ∧ j ≤ 24 → F' j = F j) : cv1 D M F' h n = cv1 D M F h n := by
  have hb : h < bck h n ∧ bck h n ≤ 24 := by unfold bck; omega
  unfold cv1 wB stv
  rw [e (bck h n) hb, e (h + 1) (by omega)]
theorem rl_step {D M n h : Int} {F R : Int → Int} (hh : 0 ≤ h ∧ h < 24 ∧ 1 ≤ n ∧ n ≤ 24) (d : dRel D M n h F R) : rlt (cv1 D M F h n) (rv1 D M R h n) h := by
  obtain ⟨d1, d2, d3, d4⟩ := d
  have hb : h < bck h n ∧ bck h n ≤ 24 := by unfold bck; omega
  have r1 := d1 (h + 1) (by omega)
  have r2 := d1 (bck h n) hb
  have e : R (h + n) = R (bck h n) := by
    by_cases q : h + n ≤ 24
    · rw [show bck h n = h + n by unfold bck; omega]
    · rw [show bck h n = 24 by unfold bck; omega, d2 24 (by omega), d2 (h + n) (by omega)]
  have p1 := iA_1 (iR D h)
  unfold cv1 rv1 wB stv rst rbt
  rw [aw_spn (by omega), e]
  unfold rlt at r1 r2 ⊢
  generalize iA (iR D h) 1 = x at *
  generalize iA (spn h (bck h n - 1)) M = y at *
  generalize F (bck h n) = f at *
  generalize R (bck h n) = r at *
  generalize F (h + 1) = f1 at *
  generalize R (h + 1) = r1' at *
  generalize bck h n = b at *
  by_cases hx : x = 0
  · have hx1 : ¬ x = 1 := by omega
    simp only [if_pos hx, if_neg hx1]
    by_cases hy : y = 0
    · simp only [if_pos hy, eq_self, if_true]
      repeat' split
      all_goals omega
    · simp only [if_neg hy, eq_self, if_true]
      repeat' split
      all_goals omega
  · have hx1 : x = 1 := by omega
    simp only [if_neg hx, if_pos hx1, eq_self, if_true]
    by_cases hy : y = 0
    · simp only [if_pos hy, eq_self, if_true]
      repeat' split
      all_goals omega
    · simp only [if_neg hy, eq_self, if_true]
      first | (simp; done) | (simp; omega)
theorem dRel_step {D M n h : Int} {F R : Int → Int} (hh : 0 ≤ h ∧ h < 24 ∧ 1 ≤ n ∧ n ≤ 24) (d : dRel D M n h F R) : dRel D M n (h - 1) (up F h (cv1 D M F h n)) (up R h (rv1 D M R h n)) := by
  have s := rl_step hh d
  obtain ⟨d1, d2, d3, d4⟩ := d
  have k : ∀ j : Int, h < j → up F h (cv1 D M F h n) j = F j := fun j hj => up_n (by omega)
  refine ⟨fun j hj => ?_, fun j hj => by rw [up_n (by omega)]; exact d2 j hj, by rw [up_n (by omega)]; exact d3, fun j hj => ?_⟩
  · by_cases e : j = h
    · rw [up_e e, up_e e, e]; exact s
    · rw [up_n e, up_n e]; exact d1 j (by omega)
  · by_cases e : j = h
    · rw [up_e e, e]
      exact (cv1_cg (by omega) (fun i hi => k i hi.1)).symm
    · rw [up_n e, cv1_cg (F := F) (by omega) (fun i hi => k i (by omega))]
      exact d4 j (by omega)
theorem dRel_all {D M n : Int} (hn : 1 ≤ n ∧ n ≤ 24) : ∀ (k : Nat) (h : Int) (F R : Int → Int), h + 1 = k → h < 24 → dRel D M n h F R → dRel D M n (-1) (cnt1 D M n k h F) (rcn D M n k h R)
  | 0, h, F, R, e, _, d => by
    have : h = -1 := by omega
    subst this
    exact d
  | k + 1, h, F, R, e, hl, d => by
    show dRel D M n (-1) (cnt1 D M n k (h - 1) _) (rcn D M n k (h - 1) _)
    exact dRel_all hn k (h - 1) _ _ (by omega) (by omega) (dRel_step (by omega) d)
theorem dRel_0 {D M n : Int} {F R : Int → Int} (hF : F 24 = 0) (hR : ∀ j : Int, 24 ≤ j ∧ j ≤ 48 → R j = 0) : dRel D M n 23 F R := by
  refine ⟨fun j hj => ?_, hR, hF, fun j hj => by omega⟩
  have e : j = 24 := by omega
  subst e
  exact Or.inr ⟨by rw [hF, hR 24 (by omega)], by omega, by omega⟩
/-- the hour of the i-th bite -/
def hob (M : Int) (F : Int → Int) (n i : Int) : Nat → Int → Int → Int
  | 0, _, _ => -2
  | k + 1, h, b => if 24 ≤ h then -2 else if wB M F h n = F h then (if b = i then h else hob M F n i k (bck h n) (b + 1)) else hob M F n i k (h + 1) b
theorem fil_e {a b x : Int} {f : Int → Int} (h : a ≤ b) : fil a b x (up f b x) = fil a (b + 1) x f := by
  funext j
  unfold fil up
  by_cases h1 : a ≤ j ∧ j < b
  · rw [if_pos h1, if_pos (by omega)]
  · rw [if_neg h1]
    by_cases h2 : j = b
    · rw [if_pos h2, if_pos (by omega)]
    · rw [if_neg h2, if_neg (by omega)]
