/-! tokens: class against reference -/
def ec (Y : Int → Int) : Nat → Int
  | 0 => 0
  | n + 1 => ec Y n * 256 + Y n
theorem ec_cg {Y Z : Int → Int} : ∀ n : Nat, (∀ i : Nat, i < n → Y i = Z i) → ec Y n = ec Z n
  | 0, _ => rfl
  | n + 1, h => by
    show ec Y n * 256 + Y n = ec Z n * 256 + Z n
    rw [ec_cg n (fun i hi => h i (by omega)), h n (by omega)]
theorem ec_nn {Y : Int → Int} : ∀ n : Nat, (∀ i : Nat, i < n → 1 ≤ Y i ∧ Y i ≤ 255) → 0 ≤ ec Y n
  | 0, _ => by show (0 : Int) ≤ 0; omega
  | n + 1, h => by
    have a := ec_nn n (fun i hi => h i (by omega))
    have b := h n (by omega)
    show 0 ≤ ec Y n * 256 + Y n
    omega
theorem ec_inj {Y Z : Int → Int} : ∀ m n : Nat, (∀ i : Nat, i < m → 1 ≤ Y i ∧ Y i ≤ 255) → (∀ i : Nat, i < n → 1 ≤ Z i ∧ Z i ≤ 255) → ec Y m = ec Z n → m = n ∧ ∀ i : Nat, i < m → Y i = Z i
  | 0, 0, _, _, _ => ⟨rfl, fun i hi => by omega⟩
  | 0, n + 1, _, hz, e => by
    have a := ec_nn n (fun i hi => hz i (by omega))
    have b := hz n (by omega)
    have e2 : (0 : Int) = ec Z n * 256 + Z n := e
    omega
  | m + 1, 0, hy, _, e => by
    have a := ec_nn m (fun i hi => hy i (by omega))
    have b := hy m (by omega)
    have e2 : ec Y m * 256 + Y m = (0 : Int) := e
    omega
  | m + 1, n + 1, hy, hz, e => by
    have b := hy m (by omega)
    have c := hz n (by omega)
    have e2 : ec Y m * 256 + Y m = ec Z n * 256 + Z n := e
    obtain ⟨k1, k2⟩ := ec_inj m n (fun i hi => hy i (by omega)) (fun i hi => hz i (by omega)) (by omega)
    refine ⟨by omega, fun i hi => ?_⟩
    by_cases y : i = m
    · subst y
      rw [show Z (i : Int) = Z (n : Int) by rw [k1]]
      have : ec Y i = ec Z n := by omega
      omega
    · exact k2 i (by omega)
theorem ec_6 {Y : Int → Int} {n : Nat} (hn : n ≤ 6) (h : ∀ i : Nat, i < n → 1 ≤ Y i ∧ Y i ≤ 255) : 0 ≤ ec Y n ∧ ec Y n < 281474976710656 := by
  have e : n = 0 ∨ n = 1 ∨ n = 2 ∨ n = 3 ∨ n = 4 ∨ n = 5 ∨ n = 6 := by omega
  have g : ∀ i : Nat, i < n → 1 ≤ Y i ∧ Y i ≤ 255 := h
  rcases e with e | e | e | e | e | e | e <;> subst e
  · show (0 : Int) ≤ 0 ∧ (0 : Int) < 281474976710656
    decide
  · have a := g 0 (by omega); simp only [ec]; omega
  · have a := g 0 (by omega); have b := g 1 (by omega); simp only [ec]; omega
  · have a := g 0 (by omega); have b := g 1 (by omega); have c := g 2 (by omega); simp only [ec]; omega
  · have a := g 0 (by omega); have b := g 1 (by omega); have c := g 2 (by omega); have d := g 3 (by omega); simp only [ec]; omega
  · have a := g 0 (by omega); have b := g 1 (by omega); have c := g 2 (by omega); have d := g 3 (by omega); have e := g 4 (by omega); simp only [ec]; omega
  · have a := g 0 (by omega); have b := g 1 (by omega); have c := g 2 (by omega); have d := g 3 (by omega); have e := g 4 (by omega); have f := g 5 (by omega); simp only [ec]; omega
theorem ec_7 {Y : Int → Int} (h : ∀ i : Nat, i < 7 → 1 ≤ Y i ∧ Y i ≤ 255) : 281474976710656 ≤ ec Y 7 ∧ ec Y 7 < 72057594037927936 := by
  have a := h 0 (by omega)
  have b := h 1 (by omega)
  have c := h 2 (by omega)
  have d := h 3 (by omega)
  have e := h 4 (by omega)
  have f := h 5 (by omega)
  have g := h 6 (by omega)
  simp only [ec]
  omega
theorem lwr_60 {X : Int → Int} {L : Int} : ∀ (k : Nat) (p : Int), lwr X L k p 1152921504606846976 = 1152921504606846976
  | 0, _ => rfl
  | k + 1, p => by
    unfold lwr
    split
    · rw [show wst 1152921504606846976 (X p) = 1152921504606846976 from if_neg (by decide)]
      exact lwr_60 k (p + 1)
    · rfl
/-- the word as the reference has it -/
theorem lwr_ec {X : Int → Int} {L p0 : Int} (hX : ∀ j : Int, p0 ≤ j ∧ j < lxe lxL X L p0 → 65 ≤ X j ∧ X j ≤ 122) : ∀ (k j : Nat), j ≤ 7 → p0 + j ≤ L ∧ L ≤ p0 + j + k → lxe lxL X L (p0 + j) = lxe lxL X L p0 → lwr X L k (p0 + j) (ec (fun i => X (p0 + i)) j) = if lxe lxL X L p0 - p0 ≤ 7 then ec (fun i => X (p0 + i)) (lxe lxL X L p0 - p0).toNat else 1152921504606846976
  | 0, j, hj, hp, e => by
    rw [lxe_f (by omega)] at e
    rw [← e, if_pos (by omega), show (p0 + (j : Int) - p0).toNat = j by omega]
    rfl
  | k + 1, j, hj, hp, e => by
    unfold lwr
    have lb := (lxe_b (f := lxL) (X := X) (L := L) (p := p0 + j)).1
    by_cases y : p0 + (j : Int) < L ∧ lxL (X (p0 + j)) = true
    · rw [if_pos y]
      have e2 := lxe_t y
      rw [e] at e2
      have lb2 := (lxe_b (f := lxL) (X := X) (L := L) (p := p0 + j + 1)).1
      have dg : ∀ i : Nat, i < j + 1 → 1 ≤ (fun i : Int => X (p0 + i)) i ∧ (fun i : Int => X (p0 + i)) i ≤ 255 := fun i hi => by
        have := hX (p0 + i) (by omega)
        show 1 ≤ X (p0 + i) ∧ X (p0 + i) ≤ 255
        omega
      by_cases y7 : j = 7
      · subst y7
        have b7 := ec_7 (Y := fun i => X (p0 + i)) (fun i hi => dg i (by omega))
        rw [show wst (ec (fun i => X (p0 + i)) 7) (X (p0 + ((7 : Nat) : Int))) = 1152921504606846976 from if_neg (by omega), lwr_60, if_neg (by omega)]
      · have b6 := ec_6 (Y := fun i => X (p0 + i)) (n := j) (by omega) (fun i hi => dg i (by omega))
        rw [show wst (ec (fun i => X (p0 + i)) j) (X (p0 + (j : Int))) = ec (fun i => X (p0 + i)) (j + 1) from if_pos (by omega)]
        have ih := lwr_ec hX k (j + 1) (by omega) (by omega) (by rw [show p0 + ((j + 1 : Nat) : Int) = p0 + j + 1 by omega]; exact e2.symm)
        rw [show p0 + ((j + 1 : Nat) : Int) = p0 + j + 1 by omega] at ih
        exact ih
    · rw [if_neg y]
      rw [lxe_f y] at e
      rw [← e, if_pos (by omega), show (p0 + (j : Int) - p0).toNat = j by omega]
theorem isw_iff {X : Int → Int} {s f : Int} : ∀ (n : Nat) (i : Nat), isw X s f n i = 1 ↔ ∀ j : Nat, i ≤ j ∧ j < i + n → wdf (s + j) = X (f + j)
  | 0, i => ⟨fun _ j hj => by omega, fun _ => rfl⟩
  | n + 1, i => by
    unfold isw
    by_cases y : wdf (s + i) = X (f + i)
    · rw [if_pos y]
      have ih := isw_iff (X := X) (s := s) (f := f) n (i + 1)
      rw [show ((i + 1 : Nat) : Int) = (i : Int) + 1 by omega] at ih
      rw [ih]
      constructor
      · intro h j hj
        by_cases z : j = i
        · rw [z]; exact y
        · exact h j (by omega)
      · intro h j hj
        exact h j (by omega)
    · rw [if_neg y]
      constructor
      · intro h; omega
      · intro h; exact absurd (h i (by omega)) y
theorem wkl_s {X : Int → Int} {f t : Int} {k : Nat} {e wd s : Int} : wkl X f t (k + 1) e wd s = if wdf e = 32 then (if e - s = t - f then (if isw X s f (e - s).toNat 0 = 1 then 128 + wd else wkl X f t k (e + 1) (wd + 1) (e + 1)) else wkl X f t k (e + 1) (wd + 1) (e + 1)) else wkl X f t k (e + 1) wd s := rfl
/-- from the start of a word to the next one's -/
theorem wkl_w {X : Int → Int} {f t s wd : Int} {n k : Nat} (h : ∀ j : Nat, j < n → wdf (s + j) ≠ 32) (h2 : wdf (s + n) = 32) : wkl X f t (n + (k + 1)) s wd s = if ((n : Int) = t - f ∧ isw X s f n 0 = 1) then 128 + wd else wkl X f t k (s + n + 1) (wd + 1) (s + n + 1) := by
  have g : ∀ (m : Nat), m ≤ n → wkl X f t (m + (k + 1)) (s + ((n - m : Nat) : Int)) wd s = if ((n : Int) = t - f ∧ isw X s f n 0 = 1) then 128 + wd else wkl X f t k (s + n + 1) (wd + 1) (s + n + 1) := by
    intro m
    induction m with
    | zero =>
      intro _
      rw [show 0 + (k + 1) = k + 1 by omega, wkl_s]
      rw [show n - 0 = n by omega, if_pos h2, show (s + (n : Int) - s).toNat = n by omega, show s + (n : Int) - s = n by omega]
      by_cases y : (n : Int) = t - f
      · rw [if_pos y]
        by_cases z : isw X s f n 0 = 1
        · rw [if_pos z, if_pos ⟨y, z⟩]
        · rw [if_neg z, if_neg (fun q => z q.2)]
      · rw [if_neg y, if_neg (fun q => y q.1)]
    | succ m ih =>
      intro hm
      rw [show m + 1 + (k + 1) = (m + (k + 1)) + 1 by omega, wkl_s]
      have := h (n - (m + 1)) (by omega)
      rw [if_neg this]
      have ih2 := ih (by omega)
      rw [show s + ((n - (m + 1) : Nat) : Int) + 1 = s + ((n - m : Nat) : Int) by omega]
      exact ih2
  have := g n (Nat.le_refl _)
  rw [show n - n = 0 by omega, show s + ((0 : Nat) : Int) = s by omega] at this
  exact this
theorem wkd_eq {X : Int → Int} {f t : Int} : wkd X f t = if (5 = t - f ∧ isw X 0 f 5 0 = 1) then 128 else if (7 = t - f ∧ isw X 6 f 7 0 = 1) then 129 else if (6 = t - f ∧ isw X 14 f 6 0 = 1) then 130 else if (4 = t - f ∧ isw X 21 f 4 0 = 1) then 131 else if (4 = t - f ∧ isw X 26 f 4 0 = 1) then 132 else if (4 = t - f ∧ isw X 31 f 4 0 = 1) then 133 else if (2 = t - f ∧ isw X 36 f 2 0 = 1) then 134 else if (6 = t - f ∧ isw X 39 f 6 0 = 1) then 135 else if (4 = t - f ∧ isw X 46 f 4 0 = 1) then 136 else if (2 = t - f ∧ isw X 51 f 2 0 = 1) then 137 else if (4 = t - f ∧ isw X 54 f 4 0 = 1) then 138 else if (4 = t - f ∧ isw X 59 f 4 0 = 1) then 139 else if (3 = t - f ∧ isw X 64 f 3 0 = 1) then 140 else if (2 = t - f ∧ isw X 68 f 2 0 = 1) then 141 else if (3 = t - f ∧ isw X 71 f 3 0 = 1) then 142 else if (3 = t - f ∧ isw X 75 f 3 0 = 1) then 143 else if (4 = t - f ∧ isw X 79 f 4 0 = 1) then 144 else if (5 = t - f ∧ isw X 84 f 5 0 = 1) then 145 else if (6 = t - f ∧ isw X 90 f 6 0 = 1) then 146 else if (3 = t - f ∧ isw X 97 f 3 0 = 1) then 147 else if (5 = t - f ∧ isw X 101 f 5 0 = 1) then 148 else if (4 = t - f ∧ isw X 107 f 4 0 = 1) then 149 else if (5 = t - f ∧ isw X 112 f 5 0 = 1) then 150 else if (3 = t - f ∧ isw X 118 f 3 0 = 1) then 151 else 1 := by
  unfold wkd
  have e0 : wkl X f t 122 0 0 0 = if (5 = t - f ∧ isw X 0 f 5 0 = 1) then 128 else wkl X f t 116 6 1 6 := wkl_w (X := X) (f := f) (t := t) (s := 0) (wd := 0) (n := 5) (k := 116) (by decide +kernel) (by decide +kernel)
  have e1 : wkl X f t 116 6 1 6 = if (7 = t - f ∧ isw X 6 f 7 0 = 1) then 129 else wkl X f t 108 14 2 14 := wkl_w (X := X) (f := f) (t := t) (s := 6) (wd := 1) (n := 7) (k := 108) (by decide +kernel) (by decide +kernel)
  have e2 : wkl X f t 108 14 2 14 = if (6 = t - f ∧ isw X 14 f 6 0 = 1) then 130 else wkl X f t 101 21 3 21 := wkl_w (X := X) (f := f) (t := t) (s := 14) (wd := 2) (n := 6) (k := 101) (by decide +kernel) (by decide +kernel)
  have e3 : wkl X f t 101 21 3 21 = if (4 = t - f ∧ isw X 21 f 4 0 = 1) then 131 else wkl X f t 96 26 4 26 := wkl_w (X := X) (f := f) (t := t) (s := 21) (wd := 3) (n := 4) (k := 96) (by decide +kernel) (by decide +kernel)
  have e4 : wkl X f t 96 26 4 26 = if (4 = t - f ∧ isw X 26 f 4 0 = 1) then 132 else wkl X f t 91 31 5 31 := wkl_w (X := X) (f := f) (t := t) (s := 26) (wd := 4) (n := 4) (k := 91) (by decide +kernel) (by decide +kernel)
  have e5 : wkl X f t 91 31 5 31 = if (4 = t - f ∧ isw X 31 f 4 0 = 1) then 133 else wkl X f t 86 36 6 36 := wkl_w (X := X) (f := f) (t := t) (s := 31) (wd := 5) (n := 4) (k := 86) (by decide +kernel) (by decide +kernel)
  have e6 : wkl X f t 86 36 6 36 = if (2 = t - f ∧ isw X 36 f 2 0 = 1) then 134 else wkl X f t 83 39 7 39 := wkl_w (X := X) (f := f) (t := t) (s := 36) (wd := 6) (n := 2) (k := 83) (by decide +kernel) (by decide +kernel)
  have e7 : wkl X f t 83 39 7 39 = if (6 = t - f ∧ isw X 39 f 6 0 = 1) then 135 else wkl X f t 76 46 8 46 := wkl_w (X := X) (f := f) (t := t) (s := 39) (wd := 7) (n := 6) (k := 76) (by decide +kernel) (by decide +kernel)
  have e8 : wkl X f t 76 46 8 46 = if (4 = t - f ∧ isw X 46 f 4 0 = 1) then 136 else wkl X f t 71 51 9 51 := wkl_w (X := X) (f := f) (t := t) (s := 46) (wd := 8) (n := 4) (k := 71) (by decide +kernel) (by decide +kernel)
  have e9 : wkl X f t 71 51 9 51 = if (2 = t - f ∧ isw X 51 f 2 0 = 1) then 137 else wkl X f t 68 54 10 54 := wkl_w (X := X) (f := f) (t := t) (s := 51) (wd := 9) (n := 2) (k := 68) (by decide +kernel) (by decide +kernel)
  have e10 : wkl X f t 68 54 10 54 = if (4 = t - f ∧ isw X 54 f 4 0 = 1) then 138 else wkl X f t 63 59 11 59 := wkl_w (X := X) (f := f) (t := t) (s := 54) (wd := 10) (n := 4) (k := 63) (by decide +kernel) (by decide +kernel)
  have e11 : wkl X f t 63 59 11 59 = if (4 = t - f ∧ isw X 59 f 4 0 = 1) then 139 else wkl X f t 58 64 12 64 := wkl_w (X := X) (f := f) (t := t) (s := 59) (wd := 11) (n := 4) (k := 58) (by decide +kernel) (by decide +kernel)
  have e12 : wkl X f t 58 64 12 64 = if (3 = t - f ∧ isw X 64 f 3 0 = 1) then 140 else wkl X f t 54 68 13 68 := wkl_w (X := X) (f := f) (t := t) (s := 64) (wd := 12) (n := 3) (k := 54) (by decide +kernel) (by decide +kernel)
  have e13 : wkl X f t 54 68 13 68 = if (2 = t - f ∧ isw X 68 f 2 0 = 1) then 141 else wkl X f t 51 71 14 71 := wkl_w (X := X) (f := f) (t := t) (s := 68) (wd := 13) (n := 2) (k := 51) (by decide +kernel) (by decide +kernel)
  have e14 : wkl X f t 51 71 14 71 = if (3 = t - f ∧ isw X 71 f 3 0 = 1) then 142 else wkl X f t 47 75 15 75 := wkl_w (X := X) (f := f) (t := t) (s := 71) (wd := 14) (n := 3) (k := 47) (by decide +kernel) (by decide +kernel)
  have e15 : wkl X f t 47 75 15 75 = if (3 = t - f ∧ isw X 75 f 3 0 = 1) then 143 else wkl X f t 43 79 16 79 := wkl_w (X := X) (f := f) (t := t) (s := 75) (wd := 15) (n := 3) (k := 43) (by decide +kernel) (by decide +kernel)
  have e16 : wkl X f t 43 79 16 79 = if (4 = t - f ∧ isw X 79 f 4 0 = 1) then 144 else wkl X f t 38 84 17 84 := wkl_w (X := X) (f := f) (t := t) (s := 79) (wd := 16) (n := 4) (k := 38) (by decide +kernel) (by decide +kernel)
  have e17 : wkl X f t 38 84 17 84 = if (5 = t - f ∧ isw X 84 f 5 0 = 1) then 145 else wkl X f t 32 90 18 90 := wkl_w (X := X) (f := f) (t := t) (s := 84) (wd := 17) (n := 5) (k := 32) (by decide +kernel) (by decide +kernel)
  have e18 : wkl X f t 32 90 18 90 = if (6 = t - f ∧ isw X 90 f 6 0 = 1) then 146 else wkl X f t 25 97 19 97 := wkl_w (X := X) (f := f) (t := t) (s := 90) (wd := 18) (n := 6) (k := 25) (by decide +kernel) (by decide +kernel)
  have e19 : wkl X f t 25 97 19 97 = if (3 = t - f ∧ isw X 97 f 3 0 = 1) then 147 else wkl X f t 21 101 20 101 := wkl_w (X := X) (f := f) (t := t) (s := 97) (wd := 19) (n := 3) (k := 21) (by decide +kernel) (by decide +kernel)
  have e20 : wkl X f t 21 101 20 101 = if (5 = t - f ∧ isw X 101 f 5 0 = 1) then 148 else wkl X f t 15 107 21 107 := wkl_w (X := X) (f := f) (t := t) (s := 101) (wd := 20) (n := 5) (k := 15) (by decide +kernel) (by decide +kernel)
  have e21 : wkl X f t 15 107 21 107 = if (4 = t - f ∧ isw X 107 f 4 0 = 1) then 149 else wkl X f t 10 112 22 112 := wkl_w (X := X) (f := f) (t := t) (s := 107) (wd := 21) (n := 4) (k := 10) (by decide +kernel) (by decide +kernel)
  have e22 : wkl X f t 10 112 22 112 = if (5 = t - f ∧ isw X 112 f 5 0 = 1) then 150 else wkl X f t 4 118 23 118 := wkl_w (X := X) (f := f) (t := t) (s := 112) (wd := 22) (n := 5) (k := 4) (by decide +kernel) (by decide +kernel)
  have e23 : wkl X f t 4 118 23 118 = if (3 = t - f ∧ isw X 118 f 3 0 = 1) then 151 else wkl X f t 0 122 24 122 := wkl_w (X := X) (f := f) (t := t) (s := 118) (wd := 23) (n := 3) (k := 0) (by decide +kernel) (by decide +kernel)
  rw [e0, e1, e2, e3, e4, e5, e6, e7, e8, e9, e10, e11, e12, e13, e14, e15, e16, e17, e18, e19, e20, e21, e22, e23]
  rfl
/-- letters from p on: the word's number -/
def wno (X : Int → Int) (p m : Int) : Int := if m ≤ 7 then ec (fun i => X (p + i)) m.toNat else 1152921504606846976
theorem wd_is {X : Int → Int} {f t s : Int} {n : Nat} {c : Int} (hX : ∀ j : Int, f ≤ j ∧ j < t → 65 ≤ X j ∧ X j ≤ 122) (ht : f ≤ t) (hn : n ≤ 6) (hW : ∀ i : Nat, i < n → 1 ≤ wdf (s + i) ∧ wdf (s + i) ≤ 255) (hc : ec (fun i => wdf (s + i)) n = c) : ((n : Int) = t - f ∧ isw X s f n 0 = 1) ↔ wno X f (t - f) = c := by
  have i0 := isw_iff (X := X) (s := s) (f := f) n 0
  rw [show ((0 : Nat) : Int) = 0 from rfl] at i0
  rw [i0, ← hc]
  unfold wno
  constructor
  · intro ⟨h1, h2⟩
    rw [if_pos (by omega), show (t - f).toNat = n by omega]
    exact ec_cg n (fun i hi => (h2 i (by omega)).symm)
  · intro h
    have b6 := ec_6 (Y := fun i => wdf (s + i)) hn hW
    by_cases y : t - f ≤ 7
    · rw [if_pos y] at h
      obtain ⟨a, b⟩ := ec_inj (t - f).toNat n (fun i hi => by
        have := hX (f + i) (by omega)
        show 1 ≤ X (f + i) ∧ X (f + i) ≤ 255
        omega) hW h
      exact ⟨by omega, fun j hj => (b j (by omega)).symm⟩
    · rw [if_neg y] at h
      omega
/-- the kind of token that a word is, by its number (returns aside) -/
def wkn (x : Int) : Int := if x = 422676030835 then 128 else if x = 123581014175598 then 130 else if x = 1651078245 then 131 else if x = 1668246885 then 132 else if x = 2002873451 then 133 else if x = 29807 then 134 else if x = 108187682958948 then 135 else if x = 1684366704 then 136 else if x = 26982 then 137 else if x = 1952998766 then 138 else if x = 1701606245 then 139 else if x = 6647396 then 140 else if x = 28530 then 141 else if x = 6385252 then 142 else if x = 7237492 then 143 else if x = 1752135026 then 144 else if x = 482854658917 then 145 else if x = 109317377647987 then 146 else if x = 7825519 then 147 else if x = 431198598248 then 148 else if x = 2003399784 then 149 else if x = 495690081125 then 150 else if x = 6975353 then 151 else 1
def rtX (X : Int → Int) (f t : Int) : Int := if (7 = t - f ∧ isw X 6 f 7 0 = 1) then 1 else 0
theorem wkd_wkn {X : Int → Int} {f t : Int} (hX : ∀ j : Int, f ≤ j ∧ j < t → 65 ≤ X j ∧ X j ≤ 122) (ht : f ≤ t) : wkd X f t = (if rtX X f t = 1 then 129 else wkn (wno X f (t - f))) ∧ (rtX X f t = 1 → 281474976710656 ≤ wno X f (t - f)) := by
  have r1 : rtX X f t = 1 → 281474976710656 ≤ wno X f (t - f) := fun h => by
    unfold rtX at h
    split at h
    · rename_i q
      unfold wno
      rw [if_pos (by omega), show (t - f).toNat = 7 by omega]
      exact (ec_7 (fun i hi => by
        have := hX (f + i) (by omega)
        show 1 ≤ X (f + i) ∧ X (f + i) ≤ 255
        omega)).1
    · omega
  refine ⟨?_, r1⟩
  rw [wkd_eq]
  have e0 : (5 = t - f ∧ isw X 0 f 5 0 = 1) ↔ wno X f (t - f) = 422676030835 := wd_is (n := 5) hX ht (by decide) (by decide +kernel) (by decide +kernel)
  have e2 : (6 = t - f ∧ isw X 14 f 6 0 = 1) ↔ wno X f (t - f) = 123581014175598 := wd_is (n := 6) hX ht (by decide) (by decide +kernel) (by decide +kernel)
  have e3 : (4 = t - f ∧ isw X 21 f 4 0 = 1) ↔ wno X f (t - f) = 1651078245 := wd_is (n := 4) hX ht (by decide) (by decide +kernel) (by decide +kernel)
  have e4 : (4 = t - f ∧ isw X 26 f 4 0 = 1) ↔ wno X f (t - f) = 1668246885 := wd_is (n := 4) hX ht (by decide) (by decide +kernel) (by decide +kernel)
  have e5 : (4 = t - f ∧ isw X 31 f 4 0 = 1) ↔ wno X f (t - f) = 2002873451 := wd_is (n := 4) hX ht (by decide) (by decide +kernel) (by decide +kernel)
  have e6 : (2 = t - f ∧ isw X 36 f 2 0 = 1) ↔ wno X f (t - f) = 29807 := wd_is (n := 2) hX ht (by decide) (by decide +kernel) (by decide +kernel)
  have e7 : (6 = t - f ∧ isw X 39 f 6 0 = 1) ↔ wno X f (t - f) = 108187682958948 := wd_is (n := 6) hX ht (by decide) (by decide +kernel) (by decide +kernel)
  have e8 : (4 = t - f ∧ isw X 46 f 4 0 = 1) ↔ wno X f (t - f) = 1684366704 := wd_is (n := 4) hX ht (by decide) (by decide +kernel) (by decide +kernel)
  have e9 : (2 = t - f ∧ isw X 51 f 2 0 = 1) ↔ wno X f (t - f) = 26982 := wd_is (n := 2) hX ht (by decide) (by decide +kernel) (by decide +kernel)
  have e10 : (4 = t - f ∧ isw X 54 f 4 0 = 1) ↔ wno X f (t - f) = 1952998766 := wd_is (n := 4) hX ht (by decide) (by decide +kernel) (by decide +kernel)
  have e11 : (4 = t - f ∧ isw X 59 f 4 0 = 1) ↔ wno X f (t - f) = 1701606245 := wd_is (n := 4) hX ht (by decide) (by decide +kernel) (by decide +kernel)
  have e12 : (3 = t - f ∧ isw X 64 f 3 0 = 1) ↔ wno X f (t - f) = 6647396 := wd_is (n := 3) hX ht (by decide) (by decide +kernel) (by decide +kernel)
  have e13 : (2 = t - f ∧ isw X 68 f 2 0 = 1) ↔ wno X f (t - f) = 28530 := wd_is (n := 2) hX ht (by decide) (by decide +kernel) (by decide +kernel)
  have e14 : (3 = t - f ∧ isw X 71 f 3 0 = 1) ↔ wno X f (t - f) = 6385252 := wd_is (n := 3) hX ht (by decide) (by decide +kernel) (by decide +kernel)
  have e15 : (3 = t - f ∧ isw X 75 f 3 0 = 1) ↔ wno X f (t - f) = 7237492 := wd_is (n := 3) hX ht (by decide) (by decide +kernel) (by decide +kernel)
  have e16 : (4 = t - f ∧ isw X 79 f 4 0 = 1) ↔ wno X f (t - f) = 1752135026 := wd_is (n := 4) hX ht (by decide) (by decide +kernel) (by decide +kernel)
  have e17 : (5 = t - f ∧ isw X 84 f 5 0 = 1) ↔ wno X f (t - f) = 482854658917 := wd_is (n := 5) hX ht (by decide) (by decide +kernel) (by decide +kernel)
  have e18 : (6 = t - f ∧ isw X 90 f 6 0 = 1) ↔ wno X f (t - f) = 109317377647987 := wd_is (n := 6) hX ht (by decide) (by decide +kernel) (by decide +kernel)
  have e19 : (3 = t - f ∧ isw X 97 f 3 0 = 1) ↔ wno X f (t - f) = 7825519 := wd_is (n := 3) hX ht (by decide) (by decide +kernel) (by decide +kernel)
  have e20 : (5 = t - f ∧ isw X 101 f 5 0 = 1) ↔ wno X f (t - f) = 431198598248 := wd_is (n := 5) hX ht (by decide) (by decide +kernel) (by decide +kernel)
  have e21 : (4 = t - f ∧ isw X 107 f 4 0 = 1) ↔ wno X f (t - f) = 2003399784 := wd_is (n := 4) hX ht (by decide) (by decide +kernel) (by decide +kernel)
  have e22 : (5 = t - f ∧ isw X 112 f 5 0 = 1) ↔ wno X f (t - f) = 495690081125 := wd_is (n := 5) hX ht (by decide) (by decide +kernel) (by decide +kernel)
  have e23 : (3 = t - f ∧ isw X 118 f 3 0 = 1) ↔ wno X f (t - f) = 6975353 := wd_is (n := 3) hX ht (by decide) (by decide +kernel) (by decide +kernel)
  simp only [e0, e2, e3, e4, e5, e6, e7, e8, e9, e10, e11, e12, e13, e14, e15, e16, e17, e18, e19, e20, e21, e22, e23]
  unfold rtX at r1 ⊢
  by_cases y : (7 = t - f ∧ isw X 6 f 7 0 = 1)
  · have := r1 (if_pos y)
    rw [if_neg (show ¬ wno X f (t - f) = 422676030835 by omega), if_pos y, if_pos (show (if (7 = t - f ∧ isw X 6 f 7 0 = 1) then (1 : Int) else 0) = 1 from if_pos y)]
  · rw [if_neg (show ¬ (if (7 = t - f ∧ isw X 6 f 7 0 = 1) then (1 : Int) else 0) = 1 by rw [if_neg y]; omega), if_neg y]
    rfl
/-- the kind of token by what the reference has -/
def krx (t x r : Int) : Int := if t = 0 then 0 else if t = 1 then 2 else if t = 2 then (if r = 1 then 129 else wkn x) else if t = 3 then 1 else if t = 4 then 3 else if t = 5 then 4 else if t = 58 then 1 else t
def NRx (v n : Int) : Prop := (v = n ∧ 0 ≤ n ∧ n ≤ 9999) ∨ (v = 10000 ∧ 10000 ≤ n ∧ n ≤ 1000000)
theorem sg_fin : ∀ c : Fin 256, (0 ≤ sgi (bt8 (c.val : Int)) 11 0 ↔ (sgR (c.val : Int) = 1 ∧ (c.val : Int) ≠ 58)) ∧ (sgR (c.val : Int) = 1 → 35 ≤ (c.val : Int) ∧ (c.val : Int) ≤ 62) := by decide +kernel
theorem sg_ok {c : Int} (h : 0 ≤ c ∧ c ≤ 255) : (0 ≤ sgi (bt8 c) 11 0 ↔ (sgR c = 1 ∧ c ≠ 58)) ∧ (sgR c = 1 → 35 ≤ c ∧ c ≤ 62) := by
  have q := sg_fin ⟨c.toNat, by omega⟩
  have e : ((c.toNat : Nat) : Int) = c := by omega
  dsimp only at q
  rw [e] at q
  exact q
theorem num_rel {X : Int → Int} {L : Int} : ∀ (k : Nat) (p v n : Int), L ≤ p + k → p ≤ L → NRx v n → NRx (nmc X (lxe lxD X L p - p).toNat p v) (lnr X L k p n)
  | 0, p, v, n, h, hp, q => by
    rw [lxe_f (by omega), show (p - p).toNat = 0 by omega]
    exact q
  | k + 1, p, v, n, h, hp, q => by
    unfold lnr
    by_cases y : p < L ∧ lxD (X p) = true
    · rw [if_pos y, lxe_t y]
      have lb := (lxe_b (f := lxD) (X := X) (L := L) (p := p + 1)).1
      have d := lxD_t y.2
      rw [show (lxe lxD X L (p + 1) - p).toNat = (lxe lxD X L (p + 1) - (p + 1)).toNat + 1 by omega]
      show NRx (nmc X (lxe lxD X L (p + 1) - (p + 1)).toNat (p + 1) (min 10000 (v * 10 + X p - 48))) _
      refine num_rel k (p + 1) _ _ (by omega) (by omega) ?_
      unfold NRx at q ⊢
      split <;> omega
    · rw [if_neg y, lxe_f y, show (p - p).toNat = 0 by omega]
      exact q
/-- class and reference are at the same token: its kind k and value v -/
def TR (X : Int → Int) (L p k v : Int) (F : Int → Int) : Prop := k = krx (F 9) (F 11) (if p < L ∧ lxL (X p) = true then rtX X p (lxt X L p) else 0) ∧ (k = 2 → NRx v (F 10)) ∧ 0 ≤ F 9 ∧ F 9 ≤ 62 ∧ ((if p < L ∧ lxL (X p) = true then rtX X p (lxt X L p) else 0) = 1 → 281474976710656 ≤ F 11) ∧ (F 9 = 2 ↔ p < L ∧ lxL (X p) = true)
theorem TR_of {X : Int → Int} {L : Int} {F : Int → Int} {i : Int} (hb : b255 X L) (h0 : 0 ≤ L) (h : TKp X L (lxp X L i.toNat) F) : TR X L (lxp X L i.toNat) (kdx X L i) (vdx X L i) F := by
  have lb := lxp_b (X := X) h0 i.toNat
  unfold kdx vdx
  generalize lxp X L i.toNat = p at *
  obtain ⟨h1, h2, h3, h4, h5, h6, h7, h8, h9⟩ := h
  by_cases yL : p < L
  · have b := hb p (by omega)
    have te := lxt_b (X := X) yL
    rw [if_pos yL, if_pos yL]
    have et : F 9 = rtk X L p := h3
    unfold rtk at et
    rw [if_neg (by omega)] at et
    by_cases y1 : lxL (X p) = true
    · have z1 := lxL_t y1
      have nd : ¬ lxD (X p) = true := fun q => by have := lxD_t q; omega
      rw [if_neg nd, if_pos y1] at et
      have ee : lxt X L p = lxe lxL X L p := by rw [lxe_t ⟨yL, y1⟩]; unfold lxt; rw [if_pos y1]
      have hX : ∀ j : Int, p ≤ j ∧ j < lxe lxL X L p → 65 ≤ X j ∧ X j ≤ 122 := fun j hj => by
        have := lxL_t ((lxe_b (f := lxL) (X := X) (L := L) (p := p)).2.2 j hj)
        omega
      have wl := lwr_ec (X := X) (L := L) (p0 := p) hX (L - p).toNat 0 (by omega) (by omega) (by rw [show p + ((0 : Nat) : Int) = p by omega])
      rw [show p + ((0 : Nat) : Int) = p by omega] at wl
      have ew : F 11 = wno X p (lxe lxL X L p - p) := by rw [h5 yL y1]; exact wl
      have wk := wkd_wkn hX (by rw [← ee]; omega)
      have ek : lxk X L p = wkd X p (lxt X L p) := by unfold lxk; rw [if_pos y1]
      unfold TR
      rw [if_pos ⟨yL, y1⟩, ek, ee, ew, et]
      refine ⟨wk.1, fun q => ?_, by omega, by omega, wk.2, ⟨fun _ => ⟨yL, y1⟩, fun _ => rfl⟩⟩
      have := wkd_b X p (lxe lxL X L p)
      omega
    · unfold TR
      rw [if_neg (fun q => y1 q.2)]
      by_cases y2 : lxD (X p) = true
      · rw [if_pos y2] at et
        have ek : lxk X L p = 2 := by unfold lxk; rw [if_neg y1, if_pos y2]
        have ev : lxv X L p = nmc X (lxt X L p - p).toNat p 0 := by unfold lxv; rw [if_neg y1, if_pos y2]
        have ee : lxt X L p = lxe lxD X L p := by rw [lxe_t ⟨yL, y2⟩]; unfold lxt; rw [if_neg y1, if_pos y2]
        rw [ek, et]
        refine ⟨rfl, fun _ => ?_, by omega, by omega, fun q => by omega, ⟨fun q => by omega, fun q => absurd q.2 y1⟩⟩
        rw [ev, ee, h4 yL y2]
        exact num_rel (L - p).toNat p 0 0 (by omega) (by omega) (Or.inl ⟨rfl, by omega, by omega⟩)
      · rw [if_neg y2, if_neg y1] at et
        have sg := sg_ok b
        by_cases y3 : (X p = 60 ∨ X p = 62) ∧ p + 1 < L ∧ X (p + 1) = 61
        · rw [if_pos y3] at et
          have ek : lxk X L p = if X p = 60 then 3 else 4 := by unfold lxk; rw [if_neg y1, if_neg y2, if_pos y3]
          rw [ek, et]
          by_cases y4 : X p = 60
          · rw [if_pos y4, if_pos y4]
            exact ⟨rfl, fun q => by omega, by omega, by omega, fun q => by omega, ⟨fun q => by omega, fun q => absurd q.2 y1⟩⟩
          · rw [if_neg y4, if_neg y4]
            exact ⟨rfl, fun q => by omega, by omega, by omega, fun q => by omega, ⟨fun q => by omega, fun q => absurd q.2 y1⟩⟩
        · rw [if_neg y3] at et
          have ek : lxk X L p = if 0 ≤ sgi (bt8 (X p)) 11 0 then X p else 1 := by unfold lxk; rw [if_neg y1, if_neg y2, if_neg y3]
          rw [ek, et]
          by_cases y4 : sgR (X p) = 1
          · have s2 := sg.2 y4
            rw [if_pos y4]
            by_cases y5 : X p = 58
            · rw [if_neg (fun q => (sg.1.1 q).2 y5), y5]
              exact ⟨rfl, fun q => by omega, by omega, by omega, fun q => by omega, ⟨fun q => by omega, fun q => absurd q.2 (by decide)⟩⟩
            · rw [if_pos (sg.1.2 ⟨y4, y5⟩)]
              refine ⟨?_, fun q => by omega, by omega, by omega, fun q => by omega, ⟨fun q => by omega, fun q => absurd q.2 y1⟩⟩
              unfold krx
              rw [if_neg (by omega), if_neg (by omega), if_neg (by omega), if_neg (by omega), if_neg (by omega), if_neg (by omega), if_neg y5]
          · rw [if_neg y4, if_neg (fun q => y4 (sg.1.1 q).1)]
            exact ⟨rfl, fun q => by omega, by omega, by omega, fun q => by omega, ⟨fun q => by omega, fun q => absurd q.2 y1⟩⟩
  · rw [if_neg yL, if_neg yL]
    have et : F 9 = 0 := by rw [h3]; unfold rtk; rw [if_pos (by omega)]
    unfold TR
    rw [if_neg (fun q => yL q.1), et]
    exact ⟨rfl, fun q => by omega, by omega, by omega, fun q => by omega, ⟨fun q => by omega, fun q => absurd q.1 yL⟩⟩
