/-! a text as far as it is read: class and reference -/
def LQ (tl : List mj_C) (b : Option Nat) (tx : Int → Int) (t c q w0 : Int) : Prop := (b = none ∧ ∀ i : Int, 0 ≤ i ∧ i < c → tx (681 * t + 1 + 3 * i) ≠ q) ∨ ∃ (kb n : Nat) (C : Int → Int) (rc : wT) (ci wq : Int), b = some kb ∧ arrAt tl kb n C ∧ SmV C 0 n rc ∧ TWx tx (681 * t + 73 + 2 * wq) rc ∧ (0 ≤ ci ∧ ci < c) ∧ tx (681 * t + 1 + 3 * ci) = q ∧ tx (681 * t + 1 + 3 * ci + 1) = wq ∧ tx (681 * t + 1 + 3 * ci + 2) = wq + rc.length ∧ 0 ≤ wq ∧ wq + rc.length ≤ w0 ∧ ∀ i : Int, 0 ≤ i ∧ i < c → i ≠ ci → tx (681 * t + 1 + 3 * i) ≠ q
/-- what stays as it was -/
def KP (tx tx2 : Int → Int) (t c w0 : Int) : Prop := (∀ j : Int, 681 * t < j ∧ j < 681 * t + 1 + 3 * c → tx2 j = tx j) ∧ ∀ j : Int, 681 * t + 73 ≤ j ∧ j < 681 * t + 73 + 2 * w0 → tx2 j = tx j
theorem clOk_cg {C D tx tx2 : Int → Int} {t i : Int} (h : clOk C tx t i) (e : ∀ j : Int, 3 * i ≤ j ∧ j ≤ 3 * i + 2 → D j = C j) (f : ∀ j : Int, 681 * t + 1 + 3 * i ≤ j ∧ j ≤ 681 * t + 1 + 3 * i + 2 → tx2 j = tx j) : clOk D tx2 t i := by
  unfold clOk at h ⊢
  rw [e (3 * i) (by omega), e (3 * i + 1) (by omega), e (3 * i + 2) (by omega), f (681 * t + 1 + 3 * i) (by omega), f (681 * t + 1 + 3 * i + 1) (by omega), f (681 * t + 1 + 3 * i + 2) (by omega)]
  exact h
theorem LQ_step {tl tl2 : List mj_C} {b : Option Nat} {tx tx2 : Int → Int} {t c q w0 w1 : Int} (h : LQ tl b tx t c q w0) (k : KP tx tx2 t c w0) (a : ∀ (kb n : Nat) (C : Int → Int), arrAt tl kb n C → arrAt tl2 kb n C) (hq : tx2 (681 * t + 1 + 3 * c) ≠ q) (hw : w0 ≤ w1) : LQ tl2 b tx2 t (c + 1) q w1 := by
  rcases h with ⟨h1, h2⟩ | ⟨kb, n, C, rc, ci, wq, h1, h2, h3, h4, h5, h6, h7, h8, h9, h10, h11⟩
  · refine Or.inl ⟨h1, fun i hi => ?_⟩
    by_cases y : i = c
    · rw [y]; exact hq
    · rw [k.1 _ (by omega)]; exact h2 i (by omega)
  · refine Or.inr ⟨kb, n, C, rc, ci, wq, h1, a _ _ _ h2, h3, TWx_cg _ _ h4 (fun j hj => k.2 j (by omega)), by omega, by rw [k.1 _ (by omega)]; exact h6, by rw [k.1 _ (by omega)]; exact h7, by rw [k.1 _ (by omega)]; exact h8, h9, by omega, fun i hi hn => ?_⟩
    by_cases y : i = c
    · rw [y]; exact hq
    · rw [k.1 _ (by omega)]; exact h11 i (by omega) hn
theorem LQ_new {tl tl2 : List mj_C} {tx tx2 : Int → Int} {t c q w0 : Int} {kb n : Nat} {C : Int → Int} {rc : wT} (h : LQ tl none tx t c q w0) (k : KP tx tx2 t c w0) (hc : 0 ≤ c) (h0 : 0 ≤ w0) (a : arrAt tl2 kb n C) (s : SmV C 0 n rc) (hT : TWx tx2 (681 * t + 73 + 2 * w0) rc) (e0 : tx2 (681 * t + 1 + 3 * c) = q) (e1 : tx2 (681 * t + 1 + 3 * c + 1) = w0) (e2 : tx2 (681 * t + 1 + 3 * c + 2) = w0 + rc.length) : LQ tl2 (some kb) tx2 t (c + 1) q (w0 + rc.length) := by
  rcases h with ⟨_, h2⟩ | ⟨kb', n', C', rc', ci, wq, h1, _⟩
  · refine Or.inr ⟨kb, n, C, rc, c, w0, rfl, a, s, hT, by omega, e0, e1, e2, h0, Int.le_refl _, fun i hi hn => ?_⟩
    rw [k.1 _ (by omega)]
    exact h2 i (by omega)
  · cases h1
theorem fnd_none {tx : Int → Int} {t q : Int} : ∀ (k : Nat) (c : Int), (∀ i : Int, c ≤ i ∧ i < c + k → tx (681 * t + 1 + 3 * i) ≠ q) → fnd tx t q k c = none
  | 0, _, _ => rfl
  | k + 1, c, h => by
    show (if tx (681 * t + 1 + 3 * c) = q then some c else fnd tx t q k (c + 1)) = none
    rw [if_neg (h c (by omega))]
    exact fnd_none k (c + 1) (fun i hi => h i (by omega))
theorem fnd_some {tx : Int → Int} {t q ci : Int} : ∀ (k : Nat) (c : Int), c ≤ ci → ci < c + k → tx (681 * t + 1 + 3 * ci) = q → (∀ i : Int, c ≤ i ∧ i < c + k → i ≠ ci → tx (681 * t + 1 + 3 * i) ≠ q) → fnd tx t q k c = some ci
  | 0, _, _, _, _, _ => by omega
  | k + 1, c, h1, h2, h3, h4 => by
    show (if tx (681 * t + 1 + 3 * c) = q then some c else fnd tx t q k (c + 1)) = some ci
    by_cases y : c = ci
    · subst y
      rw [if_pos h3]
    · rw [if_neg (h4 c (by omega) y)]
      exact fnd_some k (c + 1) (by omega) (by omega) h3 (fun i hi hn => h4 i (by omega) hn)
/-- the law, when all is read -/
theorem LQ_end {tl : List mj_C} {b r : Option Nat} {cc k : Nat} {tx : Int → Int} {t c q w0 : Int} (hq : q = 0 ∨ q = 1) (h : LQ tl (if q = 0 then b else r) tx t c q w0) (ht : 0 ≤ t) (hc : tx (681 * t) = c) (hw : w0 ≤ 302) (hT : txtAt tl k b r cc) : ∃ lw : lwT, lawIs tl (some k) q.toNat lw ∧ LwR lw tx t q := by
  have eq : (if q.toNat = 0 then b else r) = (if q = 0 then b else r) := by
    rcases hq with e | e <;> subst e <;> rfl
  rcases h with ⟨h1, h2⟩ | ⟨kb, n, C, rc, ci, wq, h1, h2, h3, h4, h5, h6, h7, h8, h9, h10, h11⟩
  · refine ⟨none, Or.inr ⟨k, b, r, cc, rfl, hT, Or.inl ⟨by rw [eq]; exact h1, rfl⟩⟩, Or.inl ⟨rfl, ?_⟩⟩
    unfold fq
    rw [if_neg (by omega), hc]
    exact fnd_none _ _ (fun i hi => h2 i (by omega))
  · have m := LSem_of (tx := tx) (j := t) (c := ci) (w0 := wq) h3 h4 h7 h8 ⟨h9, by omega⟩
    refine ⟨some (n, C), Or.inr ⟨k, b, r, cc, rfl, hT, Or.inr ⟨kb, n, C, by rw [eq]; exact h1, h2, m.2, rfl⟩⟩, Or.inr ⟨n, C, ci, rfl, ?_, m.1⟩⟩
    unfold fq
    rw [if_neg (by omega), hc]
    exact fnd_some _ _ (by omega) (by omega) h6 (fun i hi hn => h11 i (by omega) hn)
theorem arr_ap {tl : List mj_C} {x : mj_C} {kb n : Nat} {C : Int → Int} (h : arrAt tl kb n C) : arrAt (tl ++ [x]) kb n C := by
  obtain ⟨h1, h2, h3⟩ := h
  refine ⟨h1, h2, ?_⟩
  rw [List.getElem?_append_left, h3]
  exact (List.getElem?_eq_some_iff.1 h3).1
theorem arr_new {tl : List mj_C} {n : Nat} {C : Int → Int} (h : n ≤ 300) : arrAt (tl ++ [rwA n C]) (76 + tl.length) n C := by
  refine ⟨by omega, h, ?_⟩
  rw [show 76 + tl.length - 76 = tl.length by omega, List.getElem?_append_right (Nat.le_refl _), Nat.sub_self]
  rfl
