/-! the game, purely: eight rounds over all places decide what nine do over those undecided -/
def eq8 (v w : Int → Int) : Prop := ∀ j : Int, 0 ≤ j ∧ j < 8 → v j = w j
theorem jd_1 (f v : Int → Int) (p : Int) : jd f v p = 1 ↔ (it f 1 p = 0 ∨ v (it f 1 p) = 0) ∨ (it f 2 p = 0 ∨ v (it f 2 p) = 0) := by
  unfold jd mw
  by_cases a : it f 1 p = 0 ∨ v (it f 1 p) = 0
  · simp [a]
  · by_cases b : it f 2 p = 0 ∨ v (it f 2 p) = 0
    · simp [a, b]
    · simp only [if_neg a, if_neg b, if_true]
      constructor
      · intro h; split at h <;> omega
      · rintro (h | h)
        · exact absurd h a
        · exact absurd h b
theorem jd_0 (f v : Int → Int) (p : Int) : jd f v p = 0 ↔ ¬ (it f 1 p = 0 ∨ v (it f 1 p) = 0) ∧ ¬ (it f 2 p = 0 ∨ v (it f 2 p) = 0) ∧ v (it f 1 p) = 1 ∧ v (it f 2 p) = 1 := by
  unfold jd mw
  by_cases a : it f 1 p = 0 ∨ v (it f 1 p) = 0
  · simp [a]
  · by_cases b : it f 2 p = 0 ∨ v (it f 2 p) = 0
    · simp [a, b]
    · simp only [if_neg a, if_neg b, if_true]
      by_cases c : v (it f 1 p) = 1 ∧ v (it f 2 p) = 1
      · simp only [if_pos c]
        exact ⟨fun _ => ⟨a, b, c⟩, fun _ => trivial⟩
      · simp only [if_neg c]
        exact ⟨fun h => by omega, fun h => absurd h.2.2 c⟩
theorem jd_mono {f v w : Int → Int} (hf : pl8 f) (hm : ∀ j : Int, 0 ≤ j ∧ j < 8 → v j = 2 ∨ w j = v j) {p : Int} (hp : 0 ≤ p ∧ p < 8) (h : jd f v p ≠ 2) : jd f w p = jd f v p := by
  have a := hm _ (it_bd hf 1 p hp)
  have b := hm _ (it_bd hf 2 p hp)
  have c := jd_bd f v p
  have e1 := jd_1 f v p
  have e0 := jd_0 f v p
  have f1 := jd_1 f w p
  have f0 := jd_0 f w p
  omega
theorem jd_cg {f g v w : Int → Int} (hg : pl8 g) (e : eq8 f g) (hv : eq8 v w) {p : Int} (hp : 0 ≤ p ∧ p < 8) : jd f v p = jd g w p := by
  have a := hv _ (it_bd hg 1 p hp)
  have b := hv _ (it_bd hg 2 p hp)
  unfold jd mw
  rw [it_cg hg e 1 p hp, it_cg hg e 2 p hp, a, b]
theorem mw_cg {f g v w : Int → Int} (hg : pl8 g) (e : eq8 f g) (hv : eq8 v w) {p : Int} (hp : 0 ≤ p ∧ p < 8) : mw f v p = mw g w p := by
  have a := hv _ (it_bd hg 1 p hp)
  have b := hv _ (it_bd hg 2 p hp)
  unfold mw
  rw [it_cg hg e 1 p hp, it_cg hg e 2 p hp, a, b]
def Cs (f v : Int → Int) : Prop := ∀ j : Int, 0 ≤ j ∧ j < 8 → v j ≠ 2 → jd f v j = v j
theorem Cs_step {f v : Int → Int} (hf : pl8 f) (h : Cs f v) {p : Int} (hp : 0 ≤ p ∧ p < 8) : up v p (jd f v p) = (if v p = 2 then up v p (jd f v p) else v) ∧ Cs f (if v p = 2 then up v p (jd f v p) else v) := by
  by_cases q : v p = 2
  · rw [if_pos q]
    refine ⟨rfl, fun j hj hn => ?_⟩
    have hm : ∀ j : Int, 0 ≤ j ∧ j < 8 → v j = 2 ∨ up v p (jd f v p) j = v j := by
      intro j _
      by_cases e : j = p
      · rw [e]; exact Or.inl q
      · exact Or.inr (up_n e)
    by_cases e : j = p
    · rw [e, up_e rfl] at hn
      rw [e, up_e rfl]
      exact jd_mono hf hm hp hn
    · rw [up_n e] at hn ⊢
      have := h j hj hn
      rw [← this] at hn
      rw [jd_mono hf hm hj hn, this]
  · rw [if_neg q]
    refine ⟨?_, h⟩
    funext j
    by_cases e : j = p
    · rw [e, up_e rfl, h p hp q]
    · rw [up_n e]
theorem jr_eq {f : Int → Int} (hf : pl8 f) : ∀ (k : Nat) (p : Int) (v : Int → Int), Cs f v → 0 ≤ p → p + k ≤ 8 → jr f k p v = gR1 f k p v ∧ Cs f (gR1 f k p v)
  | 0, _, _, h, _, _ => ⟨rfl, h⟩
  | k + 1, p, v, h, h0, h1 => by
    have s := Cs_step hf h (p := p) (by omega)
    have r := jr_eq hf k (p + 1) _ s.2 (by omega) (by omega)
    refine ⟨?_, r.2⟩
    exact (congrArg (jr f k (p + 1)) s.1).trans r.1
theorem jR_eq {f : Int → Int} (hf : pl8 f) : ∀ (k : Nat) (v : Int → Int), Cs f v → jR f k v = gRR f k v ∧ Cs f (gRR f k v)
  | 0, _, h => ⟨rfl, h⟩
  | k + 1, v, h => by
    have s := jr_eq hf 8 0 v h (by omega) (by omega)
    have r := jR_eq hf k _ s.2
    refine ⟨?_, r.2⟩
    show jR f k (jr f 8 0 v) = gRR f k (gR1 f 8 0 v)
    rw [s.1]
    exact r.1
theorem gR1_cg {f g : Int → Int} (hg : pl8 g) (e : eq8 f g) : ∀ (k : Nat) (p : Int) (v w : Int → Int), eq8 v w → 0 ≤ p → p + k ≤ 8 → eq8 (gR1 f k p v) (gR1 g k p w)
  | 0, _, _, _, h, _, _ => h
  | k + 1, p, v, w, h, h0, h1 => by
    refine gR1_cg hg e k (p + 1) _ _ ?_ (by omega) (by omega)
    have hp : 0 ≤ p ∧ p < 8 := by omega
    rw [h p hp, jd_cg hg e h hp]
    intro j hj
    split
    · unfold up
      split
      · rfl
      · exact h j hj
    · exact h j hj
theorem gRR_cg {f g : Int → Int} (hg : pl8 g) (e : eq8 f g) : ∀ (k : Nat) (v w : Int → Int), eq8 v w → eq8 (gRR f k v) (gRR g k w)
  | 0, _, _, h => h
  | k + 1, _, _, h => gRR_cg hg e k _ _ (gR1_cg hg e 8 0 _ _ h (by omega) (by omega))
theorem gRR_s (f : Int → Int) : ∀ (k : Nat) (v : Int → Int), gRR f (k + 1) v = gR1 f 8 0 (gRR f k v)
  | 0, _ => rfl
  | k + 1, v => gRR_s f k (gR1 f 8 0 v)
theorem gR1_keep (f : Int → Int) : ∀ (k : Nat) (p : Int) (v : Int → Int) (j : Int), v j ≠ 2 → gR1 f k p v j = v j
  | 0, _, _, _, _ => rfl
  | k + 1, p, v, j, h => by
    have e : (if v p = 2 then up v p (jd f v p) else v) j = v j := by
      split
      · rename_i q
        by_cases e : j = p
        · rw [e] at h; exact absurd q h
        · exact up_n e
      · rfl
    have := gR1_keep f k (p + 1) (if v p = 2 then up v p (jd f v p) else v) j (by rw [e]; exact h)
    rw [e] at this
    exact this
def cn (v : Int → Int) : Nat → Nat
  | 0 => 0
  | k + 1 => cn v k + (if v k = 2 then 0 else 1)
theorem cn_le (v : Int → Int) : ∀ k : Nat, cn v k ≤ k
  | 0 => Nat.le_refl 0
  | k + 1 => by
    have := cn_le v k
    unfold cn
    split <;> omega
theorem cn_all {v : Int → Int} : ∀ k : Nat, k ≤ cn v k → ∀ j : Nat, j < k → v j ≠ 2
  | 0, _, _, h => absurd h (by omega)
  | k + 1, h, j, hj => by
    have := cn_le v k
    unfold cn at h
    split at h
    · omega
    · rename_i q
      by_cases e : j = k
      · rw [e]; exact q
      · exact cn_all k (by omega) j (by omega)
theorem cn_mono {v w : Int → Int} : ∀ k : Nat, (∀ j : Nat, j < k → v j ≠ 2 → w j = v j) → cn v k ≤ cn w k ∧ ((∃ j : Nat, j < k ∧ v j = 2 ∧ w j ≠ 2) → cn v k + 1 ≤ cn w k)
  | 0, _ => ⟨Nat.le_refl 0, fun ⟨j, h, _⟩ => absurd h (by omega)⟩
  | k + 1, h => by
    have r := cn_mono k (fun j hj => h j (by omega))
    have s := h k (by omega)
    unfold cn
    refine ⟨?_, ?_⟩
    · split <;> split <;> rename_i a b <;> first | omega | (exfalso; have := s a; omega)
    · rintro ⟨j, hj, h1, h2⟩
      by_cases e : j = k
      · subst e
        rw [if_pos h1, if_neg h2]
        omega
      · have := r.2 ⟨j, by omega, h1, h2⟩
        split <;> split <;> rename_i a b <;> first | omega | (exfalso; have := s a; omega)
theorem gR1_grow (f v : Int → Int) : eq8 (gR1 f 8 0 v) v ∨ cn v 8 + 1 ≤ cn (gR1 f 8 0 v) 8 := by
  by_cases q : ∃ j : Nat, j < 8 ∧ v j = 2 ∧ gR1 f 8 0 v j ≠ 2
  · exact Or.inr ((cn_mono 8 (fun j _ h => gR1_keep f 8 0 v j h)).2 q)
  · refine Or.inl (fun j hj => ?_)
    by_cases a : v j = 2
    · rw [a]
      by_cases b : gR1 f 8 0 v j = 2
      · exact b
      · refine absurd ⟨j.toNat, by omega, ?_, ?_⟩ q
        · rw [Int.toNat_of_nonneg hj.1]; exact a
        · rw [Int.toNat_of_nonneg hj.1]; exact b
    · exact gR1_keep f 8 0 v j a
theorem gRR_grow {f : Int → Int} (hf : pl8 f) (v : Int → Int) : ∀ k : Nat, eq8 (gRR f (k + 1) v) (gRR f k v) ∨ k ≤ cn (gRR f k v) 8
  | 0 => Or.inr (Nat.zero_le _)
  | k + 1 => by
    have key : eq8 (gRR f (k + 1) v) (gRR f k v) → eq8 (gRR f (k + 1 + 1) v) (gRR f (k + 1) v) := by
      intro h
      have := gR1_cg hf (fun _ _ => rfl) 8 0 _ _ h (by omega) (by omega)
      rw [← gRR_s, ← gRR_s] at this
      exact this
    rcases gRR_grow hf v k with h | h
    · exact Or.inl (key h)
    · rcases gR1_grow f (gRR f k v) with h2 | h2
      · rw [← gRR_s] at h2
        exact Or.inl (key h2)
      · rw [← gRR_s] at h2
        exact Or.inr (by omega)
theorem gRR_98 {f : Int → Int} (hf : pl8 f) (v : Int → Int) : eq8 (gRR f 9 v) (gRR f 8 v) := by
  rcases gRR_grow hf v 8 with h | h
  · exact h
  · intro j hj
    rw [gRR_s]
    refine gR1_keep f 8 0 _ j ?_
    have := cn_all 8 h j.toNat (by omega)
    rw [Int.toNat_of_nonneg hj.1] at this
    exact this
/-- what the class decides the reference does -/
theorem game_same {f g : Int → Int} (hf : pl8 f) (hg : pl8 g) (e : eq8 f g) (u v : Int → Int) : eq8 (jR f 8 (fil 0 8 2 u)) (gRR g 9 (fil 0 8 2 v)) := by
  have c : Cs f (fil 0 8 2 u) := by
    intro j hj h
    unfold fil at h
    rw [if_pos hj] at h
    exact absurd rfl h
  rw [(jR_eq hf 8 _ c).1]
  intro j hj
  rw [gRR_98 hg _ j hj]
  refine gRR_cg hg e 8 _ _ ?_ j hj
  intro i hi
  unfold fil
  rw [if_pos hi, if_pos hi]
