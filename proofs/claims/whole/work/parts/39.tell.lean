/-! somebody is told -/
theorem STR_le {R F A : Int → Int} {nx cnt : Int} (h : STR R F A nx cnt) : ∀ (k : Nat) (s : Int), 0 ≤ s → s + k = cnt - 1 → snF R (sl nx cnt s) 0 ≤ F 0 ∧ nxF R F nx cnt s 0 ≤ F 0
  | 0, s, h0, h1 => by
    have c := (h.2 s (by omega)).2.2.1
    have e : nxF R F nx cnt s = F := by unfold nxF; rw [if_neg (by omega)]
    rw [e] at c ⊢
    exact ⟨c, Int.le_refl _⟩
  | k + 1, s, h0, h1 => by
    have c := (h.2 s (by omega)).2.2.1
    have i := STR_le h k (s + 1) (by omega) (by omega)
    have e : nxF R F nx cnt s = snF R (sl nx cnt (s + 1)) := by unfold nxF; rw [if_pos (by omega)]
    rw [e] at c ⊢
    omega
/-- what a new person's telling leaves: rows A' told below F 0 as before, F' one more, all as told -/
theorem STR_tell {R F F' A A' : Int → Int} {nx cnt : Int} (h : STR R F A nx cnt) (hF : 0 ≤ F 0 ∧ F 0 < 5) (e0 : F' 0 = F 0 + 1) (e3 : A' 3 = A 3) (eT : ∀ j : Int, 31 ≤ j ∧ j < 31 + 2 * F 0 → A' j = A j) (eS : ∀ j : Int, 113 ≤ j ∧ j < 1733 → A' j = A j) (eF : ∀ p : Int, 0 ≤ p ∧ p < F 0 → pB F' p = pB F p ∧ pD F' p = pD F p ∧ pC F' p = pC F p ∧ pS F' p = pS F p) (eN : pB F' (F 0) = A' (31 + 2 * F 0) ∧ pD F' (F 0) = 0 ∧ pC F' (F 0) = A' (31 + 2 * F 0 + 1) ∧ pS F' (F 0) = 0) : STR R F' A' nx cnt := by
  have h' := h
  obtain ⟨h0, h1⟩ := h
  refine ⟨by rw [e3]; exact h0, fun s hs => ?_⟩
  obtain ⟨a, b, c, d⟩ := h1 s hs
  have le := STR_le h' (cnt - 1 - s).toNat s hs.1 (by omega)
  have b0 := b.1
  refine ⟨FRs_cg a (fun j hj => eS _ (by omega)), b, ?_⟩
  by_cases q : s + 1 < cnt
  · have e : nxF R F' nx cnt s = nxF R F nx cnt s := by unfold nxF; rw [if_pos q, if_pos q]
    rw [e]
    refine ⟨c, fun p hp => ?_⟩
    rw [eT _ (by omega), eT _ (by omega)]
    exact d p hp
  · have e : nxF R F' nx cnt s = F' := by unfold nxF; rw [if_neg q]
    have e2 : nxF R F nx cnt s = F := by unfold nxF; rw [if_neg q]
    rw [e2] at c d
    rw [e]
    refine ⟨by omega, fun p hp => ?_⟩
    by_cases y : p = F 0
    · rw [y]; exact eN
    · obtain ⟨k1, k2, k3, k4⟩ := eF p (by omega)
      rw [k1, k2, k3, k4, eT _ (by omega), eT _ (by omega)]
      exact d p (by omega)
