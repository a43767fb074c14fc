/-! a text as far as it is read: one clause more -/
def MT (tl : List mj_C) (CL : Int → Int) (b r : Option Nat) (tx : Int → Int) (t c w0 : Int) : Prop := (∀ i : Int, 0 ≤ i ∧ i < c → clOk CL tx t i) ∧ LQ tl b tx t c 0 w0 ∧ LQ tl r tx t c 1 w0 ∧ 0 ≤ w0 ∧ w0 ≤ 302 ∧ tx (681 * t) = c
def cl3 (CL : Int → Int) (c k x y : Int) : Int → Int := up (up (up CL (c * 3) k) (c * 3 + 1) x) (c * 3 + 2) y
theorem cl3_o {CL : Int → Int} {c k x y j : Int} (h : j < c * 3) : cl3 CL c k x y j = CL j := by
  unfold cl3
  rw [up_n (by omega), up_n (by omega), up_n (by omega)]
theorem cl3_0 {CL : Int → Int} {c k x y : Int} : cl3 CL c k x y (3 * c) = k := by
  unfold cl3
  rw [up_n (by omega), up_n (by omega), up_e (by omega)]
theorem cl3_1 {CL : Int → Int} {c k x y : Int} : cl3 CL c k x y (3 * c + 1) = x := by
  unfold cl3
  rw [up_n (by omega), up_e (by omega)]
theorem cl3_2 {CL : Int → Int} {c k x y : Int} : cl3 CL c k x y (3 * c + 2) = y := by
  unfold cl3
  rw [up_e (by omega)]
theorem MT_deed {K V : Int → Int} {k t c w0 : Int} {tl : List mj_C} {CL tx : Int → Int} {b r : Option Nat} {st : pT} {u : rW} (hM : MT tl CL b r tx t c w0) (h5 : k = 130 ∨ k = 145 ∨ k = 133 ∨ k = 144 ∨ k = 131 ∨ k = 132) (hc : 0 ≤ c ∧ c < 24) (h0 : st.1 = 0) (hu : rE K V k (681 * t) c st.2.1 tx = u) (z : u.1 = 0) : MT tl (cl3 CL c k (V (st.2.1 + 1)) (dv K V k (pAdv st))) b r u.2.2 t (c + 1) w0 := by
  obtain ⟨m1, m2, m3, m4, m5, m6⟩ := hM
  obtain ⟨_, d0, d1, d2, d3, d4, d5, d6, d7⟩ := (deed_same h0 hu hc.1).imp id (fun q => q z)
  have kp : KP tx u.2.2 t c w0 := ⟨fun j hj => d7 j (by omega) (by omega) (by omega) (by omega), fun j hj => d7 j (by omega) (by omega) (by omega) (by omega)⟩
  have sk : srt k ≠ 0 ∧ srt k ≠ 1 := by rcases h5 with e | e | e | e | e | e <;> subst e <;> decide
  refine ⟨fun i hi => ?_, LQ_step m2 kp (fun _ _ _ h => h) (by rw [d2]; exact sk.1) (Int.le_refl _), LQ_step m3 kp (fun _ _ _ h => h) (by rw [d2]; exact sk.2) (Int.le_refl _), m4, m5, d1⟩
  by_cases y : i = c
  · rw [y]
    generalize V (st.2.1 + 1) = x at *
    generalize dv K V k (pAdv st) = yy at *
    unfold clOk
    rw [cl3_0, cl3_1, cl3_2, d2, d3]
    rcases h5 with e | e | e | e | e | e <;> subst e
    · have q := d6 (by decide) rfl
      have q1 : 0 ≤ x := d4
      have q2 : x ≤ 7 := d5
      have q3 : yy ≤ 99 := q.2.2
      exact Or.inr (Or.inr ⟨rfl, Or.inl ⟨rfl, rfl, q.1.symm, by omega, by omega, q.2.1, by omega⟩⟩)
    · have q := d6 (by decide) rfl
      have q1 : 0 ≤ x := d4
      have q2 : x ≤ 7 := d5
      have q3 : yy ≤ 7 := q.2.2
      exact Or.inr (Or.inr ⟨rfl, Or.inr (Or.inl ⟨rfl, rfl, q.1.symm, by omega, by omega, q.2.1, by omega⟩)⟩)
    · have q := d6 (by decide) rfl
      have q1 : 0 ≤ x := d4
      have q2 : x ≤ 4 := d5
      have q3 : yy ≤ 7 := q.2.2
      exact Or.inr (Or.inr ⟨rfl, Or.inr (Or.inr (Or.inr (Or.inr (Or.inl ⟨rfl, rfl, q.1.symm, by omega, by omega, q.2.1, by omega⟩))))⟩)
    · have q1 : 1 ≤ x := d4
      have q2 : x ≤ 60 := d5
      exact Or.inr (Or.inr ⟨rfl, Or.inr (Or.inr (Or.inr (Or.inr (Or.inr ⟨rfl, rfl, by omega, by omega⟩))))⟩)
    · have q1 : 0 ≤ x := d4
      have q2 : x ≤ 4 := d5
      exact Or.inr (Or.inr ⟨rfl, Or.inr (Or.inr (Or.inl ⟨rfl, rfl, by omega, by omega⟩))⟩)
    · have q1 : 0 ≤ x := d4
      have q2 : x ≤ 4 := d5
      exact Or.inr (Or.inr ⟨rfl, Or.inr (Or.inr (Or.inr (Or.inl ⟨rfl, rfl, by omega, by omega⟩)))⟩)
  · exact clOk_cg (m1 i (by omega)) (fun j hj => cl3_o (by omega)) (fun j hj => kp.1 j (by omega))
/-- a law's clause -/
theorem MT_law {k bq t c w0 : Int} {tl tl2 : List mj_C} {CL tx tx2 : Int → Int} {b r : Option Nat} {kb n : Nat} {C : Int → Int} {rc : wT} (hM : MT tl CL b r tx t c w0) (hk : (k = 128 ∧ bq = 0 ∧ b = none) ∨ (k = 129 ∧ bq = 1 ∧ r = none)) (hc : 0 ≤ c ∧ c < 24) (a : ∀ (kb n : Nat) (C : Int → Int), arrAt tl kb n C → arrAt tl2 kb n C) (a2 : arrAt tl2 kb n C) (s : SmV C 0 n rc) (hT : TWx tx2 (681 * t + 73 + 2 * w0) rc) (e0 : tx2 (681 * t + 1 + 3 * c) = bq) (e1 : tx2 (681 * t + 1 + 3 * c + 1) = w0) (e2 : tx2 (681 * t + 1 + 3 * c + 2) = w0 + rc.length) (eN : tx2 (681 * t) = c + 1) (h302 : w0 + rc.length ≤ 302) (kp : KP tx tx2 t c w0) : MT tl2 (cl3 CL c k 0 0) (if k = 128 then some kb else b) (if k = 128 then r else some kb) tx2 t (c + 1) (w0 + rc.length) := by
  obtain ⟨m1, m2, m3, m4, m5, m6⟩ := hM
  have hcl : ∀ i : Int, 0 ≤ i ∧ i < c + 1 → clOk (cl3 CL c k 0 0) tx2 t i := fun i hi => by
    by_cases y : i = c
    · rw [y]
      unfold clOk
      rw [cl3_0, e0]
      rcases hk with ⟨e, f, _⟩ | ⟨e, f, _⟩
      · exact Or.inl ⟨e, f⟩
      · exact Or.inr (Or.inl ⟨e, f⟩)
    · exact clOk_cg (m1 i (by omega)) (fun j hj => cl3_o (by omega)) (fun j hj => kp.1 j (by omega))
  rcases hk with ⟨e, f, g⟩ | ⟨e, f, g⟩
  · subst e f g
    rw [if_pos rfl, if_pos rfl]
    exact ⟨hcl, LQ_new m2 kp hc.1 m4 a2 s hT e0 e1 e2, LQ_step m3 kp a (by omega) (by omega), by omega, h302, eN⟩
  · subst e f g
    rw [if_neg (by decide), if_neg (by decide)]
    exact ⟨hcl, LQ_step m2 kp a (by omega) (by omega), LQ_new m3 kp hc.1 m4 a2 s hT e0 e1 e2, by omega, h302, eN⟩
