/-! steps, purely: the class's ring against the reference's pile -/
def snF (R : Int → Int) (b : Int) : Int → Int := fun j => R (b + j)
def sl (nx cnt s : Int) : Int := (nx + 30 - cnt + s) % 30 * 54
def FRs (F A : Int → Int) (x : Int) : Prop := F 0 = A x ∧ (∀ j : Int, 1 ≤ j ∧ j < 24 → F j = A (x + j)) ∧ ∀ i : Int, 0 ≤ i ∧ i < 30 → LN (F (24 + i)) ∧ A (x + 24 + i) = cv (F (24 + i))
def tdl (A F : Int → Int) (a b : Int) : Prop := ∀ p : Int, a ≤ p ∧ p < b → pB F p = A (31 + 2 * p) ∧ pD F p = 0 ∧ pC F p = A (31 + 2 * p + 1) ∧ pS F p = 0
def nxF (R F : Int → Int) (nx cnt s : Int) : Int → Int := if s + 1 < cnt then snF R (sl nx cnt (s + 1)) else F
def STR (R F A : Int → Int) (nx cnt : Int) : Prop := (0 ≤ nx ∧ nx < 30 ∧ 0 ≤ cnt ∧ cnt ≤ 30 ∧ A 3 = cnt) ∧ ∀ s : Int, 0 ≤ s ∧ s < cnt → FRs (snF R (sl nx cnt s)) A (113 + 54 * s) ∧ fv (snF R (sl nx cnt s)) ∧ snF R (sl nx cnt s) 0 ≤ nxF R F nx cnt s 0 ∧ tdl A (nxF R F nx cnt s) (snF R (sl nx cnt s) 0) (nxF R F nx cnt s 0)
theorem FRs_cg {F A A' : Int → Int} {x x' : Int} (h : FRs F A x) (e : ∀ j : Int, 0 ≤ j ∧ j < 54 → A' (x' + j) = A (x + j)) : FRs F A' x' := by
  obtain ⟨a, b, c⟩ := h
  have e0 := e 0 (by omega)
  rw [Int.add_zero, Int.add_zero] at e0
  refine ⟨by rw [e0]; exact a, fun j hj => by rw [e j (by omega)]; exact b j hj, fun i hi => ?_⟩
  have e1 := e (24 + i) (by omega)
  rw [show x' + (24 + i) = x' + 24 + i by omega, show x + (24 + i) = x + 24 + i by omega] at e1
  rw [e1]
  exact c i hi
theorem tdl_cg {F A A' : Int → Int} {a b : Int} (h : tdl A F a b) (h0 : 0 ≤ a ∧ b ≤ 5) (e : ∀ j : Int, 31 ≤ j ∧ j < 41 → A' j = A j) : tdl A' F a b := fun p hp => by
  rw [e _ (by omega), e _ (by omega)]
  exact h p hp
/-- all that a step's relation looks at, but the row as it is now -/
theorem STR_cg {R F F' A A' : Int → Int} {nx cnt : Int} (h : STR R F A nx cnt) (hF0 : F 0 ≤ 5 ∧ F' 0 ≤ 5) (e3 : A' 3 = A 3) (eT : ∀ j : Int, 31 ≤ j ∧ j < 41 → A' j = A j) (eS : ∀ j : Int, 113 ≤ j ∧ j < 1733 → A' j = A j) (hN : 0 < cnt → F 0 ≤ F' 0 ∧ tdl A' F' (snF R (sl nx cnt (cnt - 1)) 0) (F' 0)) : STR R F' A' nx cnt := by
  obtain ⟨h0, h1⟩ := h
  refine ⟨by rw [e3]; exact h0, fun s hs => ?_⟩
  obtain ⟨a, b, c, d⟩ := h1 s hs
  refine ⟨FRs_cg a (fun j hj => eS _ (by omega)), b, ?_⟩
  by_cases q : s + 1 < cnt
  · have e : nxF R F' nx cnt s = nxF R F nx cnt s := by unfold nxF; rw [if_pos q, if_pos q]
    rw [e]
    refine ⟨c, tdl_cg d ?_ eT⟩
    have := (h1 (s + 1) (by omega)).2.1.1
    unfold nxF
    rw [if_pos q]
    have := b.1
    omega
  · have e : nxF R F' nx cnt s = F' := by unfold nxF; rw [if_neg q]
    have e2 : nxF R F nx cnt s = F := by unfold nxF; rw [if_neg q]
    rw [e2] at c
    rw [e]
    have hs1 : s = cnt - 1 := by omega
    have k := hN (by omega)
    rw [← hs1] at k
    exact ⟨by omega, k.2⟩
theorem sl_in {nx cnt s : Int} (h : 0 ≤ nx ∧ nx < 30 ∧ 0 ≤ s ∧ s < cnt ∧ cnt ≤ 30 ∧ (cnt < 30 ∨ 1 ≤ s)) : sl nx cnt s + 54 ≤ nx * 54 ∨ nx * 54 + 54 ≤ sl nx cnt s := by
  unfold sl
  have : (nx + 30 - cnt + s) % 30 ≠ nx := by omega
  omega
theorem snF_cp {F R : Int → Int} {nx b : Int} (h : b + 54 ≤ nx * 54 ∨ nx * 54 + 54 ≤ b) : ∀ j : Int, 0 ≤ j ∧ j < 54 → snF (cpy F R 0 (nx * 54) 54) b j = snF R b j := fun j hj => by
  show cpy F R 0 (nx * 54) 54 (b + j) = R (b + j)
  exact cpy_o (by omega)
theorem FRs_F {F F' A : Int → Int} {x : Int} (h : FRs F A x) (e : ∀ j : Int, 0 ≤ j ∧ j < 54 → F' j = F j) : FRs F' A x := by
  obtain ⟨a, b, c⟩ := h
  refine ⟨by rw [e 0 (by omega)]; exact a, fun j hj => by rw [e j (by omega)]; exact b j hj, fun i hi => ?_⟩
  rw [e _ (by omega)]
  exact c i hi
theorem pv_F {F F' : Int → Int} (e : ∀ j : Int, 0 ≤ j ∧ j < 54 → F' j = F j) {p : Int} (hp : 0 ≤ p ∧ p < 5) : pB F' p = pB F p ∧ pD F' p = pD F p ∧ pC F' p = pC F p ∧ pS F' p = pS F p := ⟨e _ (by omega), e _ (by omega), e _ (by omega), e _ (by omega)⟩
theorem fv_F {F F' : Int → Int} (h : fv F) (e : ∀ j : Int, 0 ≤ j ∧ j < 54 → F' j = F j) : fv F' := by
  obtain ⟨a, b, c, d, f, g⟩ := h
  have e0 := e 0 (by omega)
  refine ⟨by rw [e0]; exact a, by rw [e 1 (by omega)]; exact b, by rw [e 2 (by omega)]; exact c, by rw [e 3 (by omega)]; exact d, fun p hp => ?_, fun p hp => ?_⟩
  · obtain ⟨k1, k2, k3, k4⟩ := pv_F e hp
    rw [k1, k2, k3, k4]; exact f p hp
  · rw [e0] at hp
    obtain ⟨k1, k2, k3, k4⟩ := pv_F e (p := p) (by omega)
    rw [k1, k2, k3, k4]; exact g p hp
theorem tdl_F {F F' A : Int → Int} {a b : Int} (h : tdl A F a b) (h0 : 0 ≤ a ∧ b ≤ 5) (e : ∀ j : Int, 0 ≤ j ∧ j < 54 → F' j = F j) : tdl A F' a b := fun p hp => by
  obtain ⟨k1, k2, k3, k4⟩ := pv_F e (p := p) (by omega)
  rw [k1, k2, k3, k4]; exact h p hp
/-- what the reference's keeping does -/
theorem kpx_in {B : Int → Int} {x : Int} (hx : 113 ≤ x ∧ x ≤ 1679) : kpx B x x = B 0 ∧ (∀ j : Int, 1 ≤ j ∧ j < 24 → kpx B x (x + j) = B (7 + j)) ∧ (∀ i : Int, 0 ≤ i ∧ i < 30 → kpx B x (x + 24 + i) = B (1733 + i)) ∧ kpx B x 3 = B 3 + 1 ∧ ∀ j : Int, j ≠ 3 ∧ (j < x ∨ x + 54 ≤ j) → kpx B x j = B j := by
  unfold kpx
  refine ⟨?_, fun j hj => ?_, fun i hi => ?_, up_e rfl, fun j hj => ?_⟩
  · rw [up_n (by omega), cpy_o (by omega), cpy_o (by omega), up_e rfl]
  · rw [up_n (by omega), cpy_o (by omega), cpy_i (by omega), up_n (by omega), show 8 + (x + j - (x + 1)) = 7 + j by omega]
  · rw [up_n (by omega), cpy_i (by omega), cpy_o (by omega), up_n (by omega), show 1733 + (x + 24 + i - (x + 1 + 23)) = 1733 + i by omega]
  · rw [up_n hj.1, cpy_o (by omega), cpy_o (by omega), up_n (by omega)]
/-- a step is kept: behind it the row may change as it will -/
theorem STR_push {R F A : Int → Int} {nx cnt : Int} (h : STR R F A nx cnt) (hF : fv F) (hR : FR0 F A) (hB : BR F A) : STR (cpy F R 0 (nx * 54) 54) F (kpA A) ((nx + 1) % 30) (min 30 (cnt + 1)) ∧ snF (cpy F R 0 (nx * 54) 54) (sl ((nx + 1) % 30) (min 30 (cnt + 1)) (min 30 (cnt + 1) - 1)) 0 = F 0 ∧ FR0 F (kpA A) ∧ BR F (kpA A) ∧ ∀ j : Int, (j < 113 ∨ 1733 ≤ j) ∧ j ≠ 3 → kpA A j = A j := by
  obtain ⟨⟨h1, h2, h3, h4, h5⟩, hs⟩ := h
  have hF0 := hF.1
  -- the row behind it
  have hx : 113 ≤ 113 + 54 * kpB A 3 ∧ 113 + 54 * kpB A 3 ≤ 1679 := by
    unfold kpB
    split
    · rw [up_e rfl]; omega
    · omega
  have hb3 : kpB A 3 = min 29 cnt := by
    unfold kpB
    split
    · rw [up_e rfl]; omega
    · omega
  obtain ⟨x0, x1, x2, x3, x4⟩ := kpx_in (B := kpB A) hx
  have bo : ∀ j : Int, (j < 113 ∨ 1733 ≤ j) ∧ j ≠ 3 → kpB A j = A j := fun j hj => by
    unfold kpB
    split
    · rw [up_n (by omega), cpy_o (by omega)]
    · rfl
  have ko : ∀ j : Int, (j < 113 ∨ 1733 ≤ j) ∧ j ≠ 3 → kpA A j = A j := fun j hj => by
    unfold kpA
    rw [x4 j (by omega), bo j hj]
  have k3 : kpA A 3 = min 30 (cnt + 1) := by
    unfold kpA
    rw [x3, hb3]
    omega
  have hself : ∀ j : Int, 0 ≤ j ∧ j < 54 → snF (cpy F R 0 (nx * 54) 54) (nx * 54) j = F j := fun j hj => by
    show cpy F R 0 (nx * 54) 54 (nx * 54 + j) = F j
    rw [cpy_i (by omega), show 0 + (nx * 54 + j - nx * 54) = j by omega]
  have last : sl ((nx + 1) % 30) (min 30 (cnt + 1)) (min 30 (cnt + 1) - 1) = nx * 54 := by
    unfold sl
    have : ((nx + 1) % 30 + 30 - min 30 (cnt + 1) + (min 30 (cnt + 1) - 1)) % 30 = nx := by omega
    rw [this]
  have lastF : FRs F (kpA A) (113 + 54 * (min 30 (cnt + 1) - 1)) := by
    rw [show min 30 (cnt + 1) - 1 = kpB A 3 by omega]
    refine ⟨?_, fun j hj => ?_, fun i hi => ?_⟩
    · show F 0 = kpx (kpB A) (113 + 54 * kpB A 3) (113 + 54 * kpB A 3)
      rw [x0, bo 0 (by omega)]; exact hR.1
    · show F j = kpx (kpB A) (113 + 54 * kpB A 3) (113 + 54 * kpB A 3 + j)
      rw [x1 j hj, bo _ (by omega), hR.2 j hj, Int.add_comm]
    · refine ⟨(hB i hi).1, ?_⟩
      show kpx (kpB A) (113 + 54 * kpB A 3) (113 + 54 * kpB A 3 + 24 + i) = _
      rw [x2 i hi, bo _ (by omega)]
      exact (hB i hi).2
  refine ⟨⟨⟨by omega, by omega, by omega, by omega, k3⟩, fun s hs2 => ?_⟩, ?_, ⟨by rw [ko 0 (by omega)]; exact hR.1, fun j hj => ?_⟩, fun i hi => by rw [ko _ (by omega)]; exact hB i hi, ko⟩
  · by_cases q : s = min 30 (cnt + 1) - 1
    · subst q
      rw [last]
      have en : nxF (cpy F R 0 (nx * 54) 54) F ((nx + 1) % 30) (min 30 (cnt + 1)) (min 30 (cnt + 1) - 1) = F := by
        unfold nxF
        rw [if_neg (by omega)]
      rw [en, hself 0 (by omega)]
      exact ⟨FRs_F lastF hself, fv_F hF hself, Int.le_refl _, fun p hp => by omega⟩
    · -- an earlier one: s' ahead
      have hsl : ∀ s : Int, 0 ≤ s ∧ s < min 30 (cnt + 1) - 1 → sl ((nx + 1) % 30) (min 30 (cnt + 1)) s = sl nx cnt (s + (if cnt = 30 then 1 else 0)) := fun s hs => by
        unfold sl
        congr 1
        split <;> omega
      have hap : ∀ s : Int, 0 ≤ s ∧ s < min 30 (cnt + 1) - 1 → ∀ j : Int, 0 ≤ j ∧ j < 54 → snF (cpy F R 0 (nx * 54) 54) (sl ((nx + 1) % 30) (min 30 (cnt + 1)) s) j = snF R (sl nx cnt (s + (if cnt = 30 then 1 else 0))) j := fun s hs j hj => by
        rw [hsl s hs]
        refine snF_cp (sl_in ?_) j hj
        split <;> omega
      obtain ⟨a, b, c, d⟩ := hs (s + (if cnt = 30 then 1 else 0)) (by split <;> omega)
      have e1 := hap s (by omega)
      have eA : ∀ j : Int, 0 ≤ j ∧ j < 54 → kpA A (113 + 54 * s + j) = A (113 + 54 * (s + (if cnt = 30 then 1 else 0)) + j) := fun j hj => by
        unfold kpA
        rw [x4 _ (by omega)]
        unfold kpB
        by_cases z : cnt = 30
        · rw [if_pos (by omega), if_pos z, up_n (by omega), cpy_i (by omega)]
          congr 1
          omega
        · rw [if_neg (by omega), if_neg z]
          congr 1
          omega
      have bnd0 : 0 ≤ snF R (sl nx cnt (s + (if cnt = 30 then 1 else 0))) 0 := b.1.1
      refine ⟨FRs_cg (FRs_F a e1) eA, fv_F b e1, ?_⟩
      by_cases z : s + 1 < min 30 (cnt + 1) - 1
      · have en : nxF (cpy F R 0 (nx * 54) 54) F ((nx + 1) % 30) (min 30 (cnt + 1)) s = snF (cpy F R 0 (nx * 54) 54) (sl ((nx + 1) % 30) (min 30 (cnt + 1)) (s + 1)) := by
          unfold nxF
          rw [if_pos (by omega)]
        have eo : nxF R F nx cnt (s + (if cnt = 30 then 1 else 0)) = snF R (sl nx cnt (s + 1 + (if cnt = 30 then 1 else 0))) := by
          unfold nxF
          rw [if_pos (by split <;> omega)]
          congr 2
          split <;> omega
        rw [eo] at c d
        have e2 := hap (s + 1) (by omega)
        have b2 := (hs (s + 1 + (if cnt = 30 then 1 else 0)) (by split <;> omega)).2.1.1
        rw [en, e1 0 (by omega), e2 0 (by omega)]
        exact ⟨c, tdl_cg (tdl_F d (by omega) e2) (by omega) (fun j hj => ko j (by omega))⟩
      · have en : nxF (cpy F R 0 (nx * 54) 54) F ((nx + 1) % 30) (min 30 (cnt + 1)) s = snF (cpy F R 0 (nx * 54) 54) (nx * 54) := by
          unfold nxF
          rw [if_pos (by omega), show s + 1 = min 30 (cnt + 1) - 1 by omega, last]
        have eo : nxF R F nx cnt (s + (if cnt = 30 then 1 else 0)) = F := by
          unfold nxF
          rw [if_neg (by split <;> omega)]
        rw [eo] at c d
        rw [en, e1 0 (by omega), hself 0 (by omega)]
        exact ⟨c, tdl_cg (tdl_F d (by omega) hself) (by omega) (fun j hj => ko j (by omega))⟩
  · rw [last]
    exact hself 0 (by omega)
  · rw [ko _ (by omega)]
    exact hR.2 j hj
theorem bgA_in {A : Int → Int} {p : Int} : bgA A p (11 + 4 * p) = A (31 + 2 * p) ∧ bgA A p (11 + 4 * p + 1) = 0 ∧ (p < 5 → bgA A p (11 + 4 * p + 2) = A (31 + 2 * p + 1)) ∧ bgA A p (11 + 4 * p + 3) = 0 := by
  unfold bgA
  refine ⟨?_, ?_, fun h => ?_, up_e rfl⟩
  · rw [up_n (by omega), up_n (by omega), up_n (by omega), up_e rfl]
  · rw [up_n (by omega), up_n (by omega), up_e rfl]
  · rw [up_n (by omega), up_e rfl]
theorem bgA_o2 {A : Int → Int} {p j : Int} (h : j < 11 + 4 * p ∨ 11 + 4 * p + 3 < j) : bgA A p j = A j := by
  unfold bgA
  rw [up_n (by omega), up_n (by omega), up_n (by omega), up_n (by omega)]
theorem bgs_q : ∀ (k : Nat) (p : Int) (A : Int → Int) (q i : Int), 0 ≤ p ∧ p + k ≤ 5 ∧ 0 ≤ i ∧ i < 4 ∧ 0 ≤ q ∧ q < 5 → bgs k p A (11 + 4 * q + i) = if p ≤ q ∧ q < p + k then (if i = 0 then A (31 + 2 * q) else if i = 2 then A (31 + 2 * q + 1) else 0) else A (11 + 4 * q + i)
  | 0, p, A, q, i, h => by
    rw [if_neg (by omega)]
    rfl
  | k + 1, p, A, q, i, h => by
    show bgs k (p + 1) (bgA A p) (11 + 4 * q + i) = _
    rw [bgs_q k (p + 1) (bgA A p) q i (by omega), bgA_o (j := 31 + 2 * q) (by omega), bgA_o (j := 31 + 2 * q + 1) (by omega)]
    by_cases z : q = p
    · subst z
      rw [if_neg (by omega), if_pos (by omega)]
      obtain ⟨a, b, c, d⟩ := bgA_in (A := A) (p := q)
      have hi : i = 0 ∨ i = 1 ∨ i = 2 ∨ i = 3 := by omega
      rcases hi with hi | hi | hi | hi <;> subst hi
      · rw [if_pos rfl, Int.add_zero]; exact a
      · rw [b]; rfl
      · rw [c (by omega)]; rfl
      · rw [d]; rfl
    · by_cases y : p + 1 ≤ q ∧ q < p + 1 + k
      · rw [if_pos y, if_pos (show p ≤ q ∧ q < p + ((k + 1 : Nat) : Int) by omega)]
      · rw [if_neg y, if_neg (show ¬ (p ≤ q ∧ q < p + ((k + 1 : Nat) : Int)) by omega), bgA_o2 (by omega)]
/-- the latest step taken back -/
theorem STR_pop {R F A : Int → Int} {nx cnt : Int} (h : STR R F A nx cnt) (hc : 0 < cnt) (hF : fv F) (hR : FR0 F A) : STR R (rdF F R ((nx + 29) % 30 * 54)) (udA A) ((nx + 29) % 30) (cnt - 1) ∧ fv (rdF F R ((nx + 29) % 30 * 54)) ∧ FR0 (rdF F R ((nx + 29) % 30 * 54)) (udA A) ∧ BR (rdF F R ((nx + 29) % 30 * 54)) (udA A) ∧ (∀ j : Int, (j < 8 ∨ 31 ≤ j) ∧ j < 1733 ∧ j ≠ 3 → udA A j = A j) ∧ A (113 + 54 * (A 3 - 1)) = R ((nx + 29) % 30 * 54) ∧ 0 ≤ R ((nx + 29) % 30 * 54) ∧ R ((nx + 29) % 30 * 54) ≤ 5 := by
  have h' := h
  obtain ⟨⟨h1, h2, h3, h4, h5⟩, hs⟩ := h
  have hF0 := hF.1
  obtain ⟨a, b, c, d⟩ := hs (cnt - 1) (by omega)
  have en : nxF R F nx cnt (cnt - 1) = F := by unfold nxF; rw [if_neg (by omega)]
  rw [en] at c d
  have es : sl nx cnt (cnt - 1) = (nx + 29) % 30 * 54 := by
    unfold sl
    congr 1
    omega
  rw [es] at a b c d
  generalize hbq : (nx + 29) % 30 * 54 = bq at a b c d ⊢
  have hx : 113 + 54 * (A 3 - 1) = 113 + 54 * (cnt - 1) := by rw [h5]
  generalize hxq : 113 + 54 * (cnt - 1) = x at a hx
  have hxb : 113 ≤ x ∧ x ≤ 1679 := by omega
  obtain ⟨a0, a1, a2⟩ := a
  have a0' : A x = R bq := by rw [← a0]; show R (bq + 0) = R bq; rw [Int.add_zero]
  have b0 : 0 ≤ R bq ∧ R bq ≤ 5 := by have := b.1; rw [show snF R bq 0 = R bq by show R (bq + 0) = R bq; rw [Int.add_zero]] at this; exact this
  have c0 : R bq ≤ F 0 := by rw [← a0', ← a0]; exact c
  have hn := hR.1
  -- the class's row behind it
  have f0 : rdF F R bq 0 = F 0 := up_e rfl
  have fl1 : ∀ j : Int, 1 ≤ j ∧ j < 4 + R bq * 4 → rdF F R bq j = snF R bq j := fun j hj => by
    unfold rdF
    rw [up_n (by omega), cpy_o (by omega), cpy_i (by omega)]
    show R (bq + (j - 0)) = R (bq + j)
    rw [Int.sub_zero]
  have fl2 : ∀ j : Int, 4 + R bq * 4 ≤ j ∧ j < 24 → rdF F R bq j = F j := fun j hj => by
    unfold rdF
    rw [up_n (by omega), cpy_o (by omega), cpy_o (by omega)]
  have fl3 : ∀ i : Int, 0 ≤ i ∧ i < 30 → rdF F R bq (24 + i) = snF R bq (24 + i) := fun i hi => by
    unfold rdF
    rw [up_n (by omega), cpy_i (by omega)]
    show R (bq + 24 + (24 + i - 24)) = R (bq + (24 + i))
    congr 1
    omega
  -- the reference's
  have uA : udA A = cpy (udD A) (udD A) (x + 1 + 23) 1733 30 := by unfold udA; rw [hx]
  have uD : udD A = bgs (A 0 - A x).toNat (A x) (udC A) := by unfold udD; rw [hx]
  have uC : udC A = cpy (up A 3 (A 3 - 1)) (up A 3 (A 3 - 1)) (x + 1) 8 23 := by unfold udC; rw [hx]
  have co : ∀ j : Int, (j < 8 ∨ 31 ≤ j) ∧ j ≠ 3 → udC A j = A j := fun j hj => by
    rw [uC, cpy_o (by omega), up_n hj.2]
  have c3 : udC A 3 = cnt - 1 := by rw [uC, cpy_o (by omega), up_e rfl, h5]
  have ci : ∀ j : Int, 1 ≤ j ∧ j < 24 → udC A (7 + j) = snF R bq j := fun j hj => by
    rw [uC, cpy_i (by omega), up_n (by omega), a1 j hj]
    congr 1
    omega
  have d_o : ∀ j : Int, j < 11 ∨ 31 ≤ j → udD A j = udC A j := fun j hj => by
    rw [uD]
    exact bgs_o _ _ _ (by omega)
  have dq : ∀ q i : Int, 0 ≤ i ∧ i < 4 ∧ 0 ≤ q ∧ q < 5 → udD A (11 + 4 * q + i) = if R bq ≤ q ∧ q < F 0 then (if i = 0 then A (31 + 2 * q) else if i = 2 then A (31 + 2 * q + 1) else 0) else udC A (11 + 4 * q + i) := fun q i hq => by
    rw [uD, bgs_q _ _ _ q i (by omega), a0', co (31 + 2 * q) (by omega), co (31 + 2 * q + 1) (by omega)]
    by_cases z : R bq ≤ q ∧ q < F 0
    · rw [if_pos z, if_pos (show R bq ≤ q ∧ q < R bq + ((A 0 - R bq).toNat : Int) by omega)]
    · rw [if_neg z, if_neg (show ¬ (R bq ≤ q ∧ q < R bq + ((A 0 - R bq).toNat : Int)) by omega)]
  have ao : ∀ j : Int, j < 1733 → udA A j = udD A j := fun j hj => by
    rw [uA, cpy_o (by omega)]
  have keep : ∀ j : Int, (j < 8 ∨ 31 ≤ j) ∧ j < 1733 ∧ j ≠ 3 → udA A j = A j := fun j hj => by
    rw [ao j hj.2.1, d_o j (by omega), co j (by omega)]
  have frel : ∀ j : Int, 1 ≤ j ∧ j < 24 → rdF F R bq j = udA A (j + 7) := fun j hj => by
    rw [ao _ (by omega)]
    by_cases y : j < 4
    · rw [d_o _ (by omega), show j + 7 = 7 + j by omega, ci j hj]
      exact fl1 j (by omega)
    · obtain ⟨q, i, hq, hi, e⟩ : ∃ q i : Int, (0 ≤ q ∧ q < 5) ∧ (0 ≤ i ∧ i < 4) ∧ j = 4 + q * 4 + i := ⟨(j - 4) / 4, (j - 4) % 4, by omega, by omega, by omega⟩
      have e7 : j + 7 = 11 + 4 * q + i := by omega
      rw [e7, dq q i (by omega)]
      by_cases z : R bq ≤ q ∧ q < F 0
      · rw [if_pos z, fl2 j (by omega)]
        obtain ⟨d1, d2, d3, d4⟩ := d q (by rw [show snF R bq 0 = R bq by show R (bq + 0) = R bq; rw [Int.add_zero]]; exact z)
        have hi4 : i = 0 ∨ i = 1 ∨ i = 2 ∨ i = 3 := by omega
        rcases hi4 with hi4 | hi4 | hi4 | hi4 <;> subst hi4
        · rw [if_pos rfl, e, Int.add_zero]; exact d1
        · rw [e]; exact d2
        · rw [e]; exact d3
        · rw [e]; exact d4
      · rw [if_neg z, show 11 + 4 * q + i = 7 + j by omega, ci j hj]
        by_cases y2 : q < R bq
        · exact fl1 j (by omega)
        · rw [fl2 j (by omega)]
          have z1 := hF.2.2.2.2.2 q (by omega)
          have z2 := b.2.2.2.2.2 q (by rw [show snF R bq 0 = R bq by show R (bq + 0) = R bq; rw [Int.add_zero]]; omega)
          have hi4 : i = 0 ∨ i = 1 ∨ i = 2 ∨ i = 3 := by omega
          rcases hi4 with hi4 | hi4 | hi4 | hi4 <;> subst hi4
          · rw [e, Int.add_zero]; exact z1.1.trans z2.1.symm
          · rw [e]; exact z1.2.1.trans z2.2.1.symm
          · rw [e]; exact z1.2.2.1.trans z2.2.2.1.symm
          · rw [e]; exact z1.2.2.2.trans z2.2.2.2.symm
  have FRn : FR0 (rdF F R bq) (udA A) := ⟨by rw [f0, keep 0 (by omega)]; exact hn, frel⟩
  have BRn : BR (rdF F R bq) (udA A) := fun i hi => by
    rw [fl3 i hi]
    refine ⟨(a2 i hi).1, ?_⟩
    rw [uA, cpy_i (by omega), d_o _ (by omega), co _ (by omega), ← (a2 i hi).2]
    congr 1
    omega
  have pvs : ∀ p : Int, 0 ≤ p ∧ p < 5 → (p < R bq → pB (rdF F R bq) p = pB (snF R bq) p ∧ pD (rdF F R bq) p = pD (snF R bq) p ∧ pC (rdF F R bq) p = pC (snF R bq) p ∧ pS (rdF F R bq) p = pS (snF R bq) p) ∧ (R bq ≤ p → pB (rdF F R bq) p = pB F p ∧ pD (rdF F R bq) p = pD F p ∧ pC (rdF F R bq) p = pC F p ∧ pS (rdF F R bq) p = pS F p) := fun p hp =>
    ⟨fun q => ⟨fl1 _ (by omega), fl1 _ (by omega), fl1 _ (by omega), fl1 _ (by omega)⟩, fun q => ⟨fl2 _ (by omega), fl2 _ (by omega), fl2 _ (by omega), fl2 _ (by omega)⟩⟩
  have s0 : snF R bq 0 = R bq := by show R (bq + 0) = R bq; rw [Int.add_zero]
  have fvn : fv (rdF F R bq) := by
    obtain ⟨v1, v2, v3, v4, v5, v6⟩ := b
    refine ⟨by rw [f0]; exact hF0, by rw [fl1 1 (by omega)]; exact v2, by rw [fl1 2 (by omega)]; exact v3, by rw [fl1 3 (by omega)]; exact v4, fun p hp => ?_, fun p hp => ?_⟩
    · by_cases q : p < R bq
      · obtain ⟨k1, k2, k3, k4⟩ := (pvs p hp).1 q
        rw [k1, k2, k3, k4]; exact v5 p hp
      · obtain ⟨k1, k2, k3, k4⟩ := (pvs p hp).2 (by omega)
        rw [k1, k2, k3, k4]; exact hF.2.2.2.2.1 p hp
    · rw [f0] at hp
      obtain ⟨k1, k2, k3, k4⟩ := (pvs p (by omega)).2 (by omega)
      rw [k1, k2, k3, k4]; exact hF.2.2.2.2.2 p hp
  have slE : ∀ s : Int, sl ((nx + 29) % 30) (cnt - 1) s = sl nx cnt s := fun s => by
    unfold sl
    congr 1
    omega
  refine ⟨⟨⟨by omega, by omega, by omega, by omega, by rw [ao 3 (by omega), d_o 3 (by omega)]; exact c3⟩, fun s hs2 => ?_⟩, fvn, FRn, BRn, keep, by rw [hx]; exact a0', b0.1, b0.2⟩
  obtain ⟨p1, p2, p3, p4⟩ := hs s (by omega)
  rw [slE]
  refine ⟨FRs_cg p1 (fun j hj => keep _ (by omega)), p2, ?_⟩
  by_cases z : s + 1 < cnt - 1
  · have e1 : nxF R (rdF F R bq) ((nx + 29) % 30) (cnt - 1) s = nxF R F nx cnt s := by
      unfold nxF
      rw [if_pos z, if_pos (by omega), slE]
    rw [e1]
    have q5 : nxF R F nx cnt s 0 ≤ 5 := by
      unfold nxF
      rw [if_pos (by omega)]
      exact (hs (s + 1) (by omega)).2.1.1.2
    exact ⟨p3, tdl_cg p4 ⟨p2.1.1, q5⟩ (fun j hj => keep j (by omega))⟩
  · have e1 : nxF R (rdF F R bq) ((nx + 29) % 30) (cnt - 1) s = rdF F R bq := by
      unfold nxF
      rw [if_neg z]
    have e2 : nxF R F nx cnt s = snF R bq := by
      unfold nxF
      rw [if_pos (by omega), show s + 1 = cnt - 1 by omega, es]
      rw [hbq]
    rw [e1, f0]
    rw [e2, s0] at p3 p4
    refine ⟨by omega, fun p hp => ?_⟩
    rw [keep _ (by have := p2.1; omega), keep _ (by have := p2.1; omega)]
    have hp0 := p2.1.1
    by_cases q : p < R bq
    · obtain ⟨k1, k2, k3, k4⟩ := (pvs p (by omega)).1 q
      rw [k1, k2, k3, k4]
      exact p4 p (by omega)
    · obtain ⟨k1, k2, k3, k4⟩ := (pvs p (by omega)).2 (by omega)
      rw [k1, k2, k3, k4]
      exact d p (by rw [s0]; omega)
