/-! sums read, the reference: the token at hand -/
def cdf (k : Int) : Int := ([422676030835, 32199698206060147, 123581014175598, 1651078245, 1668246885, 2002873451, 29807, 108187682958948, 1684366704, 26982, 1952998766, 1701606245, 6647396, 28530, 6385252, 7237492, 1752135026, 482854658917, 109317377647987, 7825519, 431198598248, 2003399784, 495690081125, 6975353] : List Int).getD (k - 128).toNat 0
theorem wkn_inv {x : Int} : wkn x = 1 ∨ (x = cdf (wkn x) ∧ 128 ≤ wkn x ∧ wkn x ≤ 151 ∧ wkn x ≠ 129) := by
  generalize hy : wkn x = y
  unfold wkn at hy
  by_cases q0 : x = 422676030835
  · rw [if_pos q0] at hy
    rw [← hy, q0]
    exact Or.inr (by decide)
  rw [if_neg q0] at hy
  by_cases q2 : x = 123581014175598
  · rw [if_pos q2] at hy
    rw [← hy, q2]
    exact Or.inr (by decide)
  rw [if_neg q2] at hy
  by_cases q3 : x = 1651078245
  · rw [if_pos q3] at hy
    rw [← hy, q3]
    exact Or.inr (by decide)
  rw [if_neg q3] at hy
  by_cases q4 : x = 1668246885
  · rw [if_pos q4] at hy
    rw [← hy, q4]
    exact Or.inr (by decide)
  rw [if_neg q4] at hy
  by_cases q5 : x = 2002873451
  · rw [if_pos q5] at hy
    rw [← hy, q5]
    exact Or.inr (by decide)
  rw [if_neg q5] at hy
  by_cases q6 : x = 29807
  · rw [if_pos q6] at hy
    rw [← hy, q6]
    exact Or.inr (by decide)
  rw [if_neg q6] at hy
  by_cases q7 : x = 108187682958948
  · rw [if_pos q7] at hy
    rw [← hy, q7]
    exact Or.inr (by decide)
  rw [if_neg q7] at hy
  by_cases q8 : x = 1684366704
  · rw [if_pos q8] at hy
    rw [← hy, q8]
    exact Or.inr (by decide)
  rw [if_neg q8] at hy
  by_cases q9 : x = 26982
  · rw [if_pos q9] at hy
    rw [← hy, q9]
    exact Or.inr (by decide)
  rw [if_neg q9] at hy
  by_cases q10 : x = 1952998766
  · rw [if_pos q10] at hy
    rw [← hy, q10]
    exact Or.inr (by decide)
  rw [if_neg q10] at hy
  by_cases q11 : x = 1701606245
  · rw [if_pos q11] at hy
    rw [← hy, q11]
    exact Or.inr (by decide)
  rw [if_neg q11] at hy
  by_cases q12 : x = 6647396
  · rw [if_pos q12] at hy
    rw [← hy, q12]
    exact Or.inr (by decide)
  rw [if_neg q12] at hy
  by_cases q13 : x = 28530
  · rw [if_pos q13] at hy
    rw [← hy, q13]
    exact Or.inr (by decide)
  rw [if_neg q13] at hy
  by_cases q14 : x = 6385252
  · rw [if_pos q14] at hy
    rw [← hy, q14]
    exact Or.inr (by decide)
  rw [if_neg q14] at hy
  by_cases q15 : x = 7237492
  · rw [if_pos q15] at hy
    rw [← hy, q15]
    exact Or.inr (by decide)
  rw [if_neg q15] at hy
  by_cases q16 : x = 1752135026
  · rw [if_pos q16] at hy
    rw [← hy, q16]
    exact Or.inr (by decide)
  rw [if_neg q16] at hy
  by_cases q17 : x = 482854658917
  · rw [if_pos q17] at hy
    rw [← hy, q17]
    exact Or.inr (by decide)
  rw [if_neg q17] at hy
  by_cases q18 : x = 109317377647987
  · rw [if_pos q18] at hy
    rw [← hy, q18]
    exact Or.inr (by decide)
  rw [if_neg q18] at hy
  by_cases q19 : x = 7825519
  · rw [if_pos q19] at hy
    rw [← hy, q19]
    exact Or.inr (by decide)
  rw [if_neg q19] at hy
  by_cases q20 : x = 431198598248
  · rw [if_pos q20] at hy
    rw [← hy, q20]
    exact Or.inr (by decide)
  rw [if_neg q20] at hy
  by_cases q21 : x = 2003399784
  · rw [if_pos q21] at hy
    rw [← hy, q21]
    exact Or.inr (by decide)
  rw [if_neg q21] at hy
  by_cases q22 : x = 495690081125
  · rw [if_pos q22] at hy
    rw [← hy, q22]
    exact Or.inr (by decide)
  rw [if_neg q22] at hy
  by_cases q23 : x = 6975353
  · rw [if_pos q23] at hy
    rw [← hy, q23]
    exact Or.inr (by decide)
  rw [if_neg q23] at hy
  exact Or.inl hy.symm
section P599a
variable {X : Int → Int} {L p k v : Int} {F : Int → Int}
theorem tk_0 (h : TR X L p k v F) : (F 9 = 0) = (k = 0) := by
  obtain ⟨h1, h2, h3, h4, h5⟩ := h
  generalize (if p < L ∧ lxL (X p) = true then rtX X p (lxt X L p) else 0) = r at *
  have wi := wkn_inv (x := F 11)
  unfold krx at h1
  generalize wkn (F 11) = u at *
  refine propext ⟨fun q => ?_, fun q => ?_⟩
  · (repeat' split at h1) <;> omega
  · (repeat' split at h1) <;> omega
theorem tk_1 (h : TR X L p k v F) : (F 9 = 1) = (k = 2) := by
  obtain ⟨h1, h2, h3, h4, h5⟩ := h
  generalize (if p < L ∧ lxL (X p) = true then rtX X p (lxt X L p) else 0) = r at *
  have wi := wkn_inv (x := F 11)
  unfold krx at h1
  generalize wkn (F 11) = u at *
  refine propext ⟨fun q => ?_, fun q => ?_⟩
  · (repeat' split at h1) <;> omega
  · (repeat' split at h1) <;> omega
theorem tk_4 (h : TR X L p k v F) : (F 9 = 4) = (k = 3) := by
  obtain ⟨h1, h2, h3, h4, h5⟩ := h
  generalize (if p < L ∧ lxL (X p) = true then rtX X p (lxt X L p) else 0) = r at *
  have wi := wkn_inv (x := F 11)
  unfold krx at h1
  generalize wkn (F 11) = u at *
  refine propext ⟨fun q => ?_, fun q => ?_⟩
  · (repeat' split at h1) <;> omega
  · (repeat' split at h1) <;> omega
theorem tk_5 (h : TR X L p k v F) : (F 9 = 5) = (k = 4) := by
  obtain ⟨h1, h2, h3, h4, h5⟩ := h
  generalize (if p < L ∧ lxL (X p) = true then rtX X p (lxt X L p) else 0) = r at *
  have wi := wkn_inv (x := F 11)
  unfold krx at h1
  generalize wkn (F 11) = u at *
  refine propext ⟨fun q => ?_, fun q => ?_⟩
  · (repeat' split at h1) <;> omega
  · (repeat' split at h1) <;> omega
theorem tk_35 (h : TR X L p k v F) : (F 9 = 35) = (k = 35) := by
  obtain ⟨h1, h2, h3, h4, h5⟩ := h
  generalize (if p < L ∧ lxL (X p) = true then rtX X p (lxt X L p) else 0) = r at *
  have wi := wkn_inv (x := F 11)
  unfold krx at h1
  generalize wkn (F 11) = u at *
  refine propext ⟨fun q => ?_, fun q => ?_⟩
  · (repeat' split at h1) <;> omega
  · (repeat' split at h1) <;> omega
theorem tk_40 (h : TR X L p k v F) : (F 9 = 40) = (k = 40) := by
  obtain ⟨h1, h2, h3, h4, h5⟩ := h
  generalize (if p < L ∧ lxL (X p) = true then rtX X p (lxt X L p) else 0) = r at *
  have wi := wkn_inv (x := F 11)
  unfold krx at h1
  generalize wkn (F 11) = u at *
  refine propext ⟨fun q => ?_, fun q => ?_⟩
  · (repeat' split at h1) <;> omega
  · (repeat' split at h1) <;> omega
theorem tk_41 (h : TR X L p k v F) : (F 9 = 41) = (k = 41) := by
  obtain ⟨h1, h2, h3, h4, h5⟩ := h
  generalize (if p < L ∧ lxL (X p) = true then rtX X p (lxt X L p) else 0) = r at *
  have wi := wkn_inv (x := F 11)
  unfold krx at h1
  generalize wkn (F 11) = u at *
  refine propext ⟨fun q => ?_, fun q => ?_⟩
  · (repeat' split at h1) <;> omega
  · (repeat' split at h1) <;> omega
theorem tk_42 (h : TR X L p k v F) : (F 9 = 42) = (k = 42) := by
  obtain ⟨h1, h2, h3, h4, h5⟩ := h
  generalize (if p < L ∧ lxL (X p) = true then rtX X p (lxt X L p) else 0) = r at *
  have wi := wkn_inv (x := F 11)
  unfold krx at h1
  generalize wkn (F 11) = u at *
  refine propext ⟨fun q => ?_, fun q => ?_⟩
  · (repeat' split at h1) <;> omega
  · (repeat' split at h1) <;> omega
theorem tk_43 (h : TR X L p k v F) : (F 9 = 43) = (k = 43) := by
  obtain ⟨h1, h2, h3, h4, h5⟩ := h
  generalize (if p < L ∧ lxL (X p) = true then rtX X p (lxt X L p) else 0) = r at *
  have wi := wkn_inv (x := F 11)
  unfold krx at h1
  generalize wkn (F 11) = u at *
  refine propext ⟨fun q => ?_, fun q => ?_⟩
  · (repeat' split at h1) <;> omega
  · (repeat' split at h1) <;> omega
theorem tk_45 (h : TR X L p k v F) : (F 9 = 45) = (k = 45) := by
  obtain ⟨h1, h2, h3, h4, h5⟩ := h
  generalize (if p < L ∧ lxL (X p) = true then rtX X p (lxt X L p) else 0) = r at *
  have wi := wkn_inv (x := F 11)
  unfold krx at h1
  generalize wkn (F 11) = u at *
  refine propext ⟨fun q => ?_, fun q => ?_⟩
  · (repeat' split at h1) <;> omega
  · (repeat' split at h1) <;> omega
theorem tk_47 (h : TR X L p k v F) : (F 9 = 47) = (k = 47) := by
  obtain ⟨h1, h2, h3, h4, h5⟩ := h
  generalize (if p < L ∧ lxL (X p) = true then rtX X p (lxt X L p) else 0) = r at *
  have wi := wkn_inv (x := F 11)
  unfold krx at h1
  generalize wkn (F 11) = u at *
  refine propext ⟨fun q => ?_, fun q => ?_⟩
  · (repeat' split at h1) <;> omega
  · (repeat' split at h1) <;> omega
theorem tk_59 (h : TR X L p k v F) : (F 9 = 59) = (k = 59) := by
  obtain ⟨h1, h2, h3, h4, h5⟩ := h
  generalize (if p < L ∧ lxL (X p) = true then rtX X p (lxt X L p) else 0) = r at *
  have wi := wkn_inv (x := F 11)
  unfold krx at h1
  generalize wkn (F 11) = u at *
  refine propext ⟨fun q => ?_, fun q => ?_⟩
  · (repeat' split at h1) <;> omega
  · (repeat' split at h1) <;> omega
theorem tk_60 (h : TR X L p k v F) : (F 9 = 60) = (k = 60) := by
  obtain ⟨h1, h2, h3, h4, h5⟩ := h
  generalize (if p < L ∧ lxL (X p) = true then rtX X p (lxt X L p) else 0) = r at *
  have wi := wkn_inv (x := F 11)
  unfold krx at h1
  generalize wkn (F 11) = u at *
  refine propext ⟨fun q => ?_, fun q => ?_⟩
  · (repeat' split at h1) <;> omega
  · (repeat' split at h1) <;> omega
theorem tk_61 (h : TR X L p k v F) : (F 9 = 61) = (k = 61) := by
  obtain ⟨h1, h2, h3, h4, h5⟩ := h
  generalize (if p < L ∧ lxL (X p) = true then rtX X p (lxt X L p) else 0) = r at *
  have wi := wkn_inv (x := F 11)
  unfold krx at h1
  generalize wkn (F 11) = u at *
  refine propext ⟨fun q => ?_, fun q => ?_⟩
  · (repeat' split at h1) <;> omega
  · (repeat' split at h1) <;> omega
theorem tk_62 (h : TR X L p k v F) : (F 9 = 62) = (k = 62) := by
  obtain ⟨h1, h2, h3, h4, h5⟩ := h
  generalize (if p < L ∧ lxL (X p) = true then rtX X p (lxt X L p) else 0) = r at *
  have wi := wkn_inv (x := F 11)
  unfold krx at h1
  generalize wkn (F 11) = u at *
  refine propext ⟨fun q => ?_, fun q => ?_⟩
  · (repeat' split at h1) <;> omega
  · (repeat' split at h1) <;> omega
theorem wd_k (h : TR X L p k v F) (h2' : F 9 = 2) {j : Int} (hj : 128 ≤ j ∧ j ≤ 151 ∧ j ≠ 129) (hc : wkn (cdf j) = j) (hb : cdf j < 281474976710656) : (F 11 = cdf j) = (k = j) := by
  obtain ⟨h1, h2, h3, h4, h5⟩ := h
  generalize (if p < L ∧ lxL (X p) = true then rtX X p (lxt X L p) else 0) = r at *
  have wi := wkn_inv (x := F 11)
  unfold krx at h1
  rw [if_neg (by omega), if_neg (by omega), if_pos h2'] at h1
  refine propext ⟨fun q => ?_, fun q => ?_⟩
  · rw [if_neg (by omega), q, hc] at h1
    exact h1
  · by_cases y : r = 1
    · rw [if_pos y] at h1; omega
    · rw [if_neg y] at h1
      rcases wi with e | ⟨e, _⟩
      · omega
      · rw [e, ← h1, q]
theorem wd_0 (h : TR X L p k v F) (h2' : F 9 = 2) : (F 11 = 422676030835) = (k = 128) := wd_k (j := 128) h h2' (by decide) (by decide) (by decide)
theorem wd_2 (h : TR X L p k v F) (h2' : F 9 = 2) : (F 11 = 123581014175598) = (k = 130) := wd_k (j := 130) h h2' (by decide) (by decide) (by decide)
theorem wd_3 (h : TR X L p k v F) (h2' : F 9 = 2) : (F 11 = 1651078245) = (k = 131) := wd_k (j := 131) h h2' (by decide) (by decide) (by decide)
theorem wd_4 (h : TR X L p k v F) (h2' : F 9 = 2) : (F 11 = 1668246885) = (k = 132) := wd_k (j := 132) h h2' (by decide) (by decide) (by decide)
theorem wd_5 (h : TR X L p k v F) (h2' : F 9 = 2) : (F 11 = 2002873451) = (k = 133) := wd_k (j := 133) h h2' (by decide) (by decide) (by decide)
theorem wd_6 (h : TR X L p k v F) (h2' : F 9 = 2) : (F 11 = 29807) = (k = 134) := wd_k (j := 134) h h2' (by decide) (by decide) (by decide)
theorem wd_7 (h : TR X L p k v F) (h2' : F 9 = 2) : (F 11 = 108187682958948) = (k = 135) := wd_k (j := 135) h h2' (by decide) (by decide) (by decide)
theorem wd_8 (h : TR X L p k v F) (h2' : F 9 = 2) : (F 11 = 1684366704) = (k = 136) := wd_k (j := 136) h h2' (by decide) (by decide) (by decide)
theorem wd_9 (h : TR X L p k v F) (h2' : F 9 = 2) : (F 11 = 26982) = (k = 137) := wd_k (j := 137) h h2' (by decide) (by decide) (by decide)
theorem wd_10 (h : TR X L p k v F) (h2' : F 9 = 2) : (F 11 = 1952998766) = (k = 138) := wd_k (j := 138) h h2' (by decide) (by decide) (by decide)
theorem wd_11 (h : TR X L p k v F) (h2' : F 9 = 2) : (F 11 = 1701606245) = (k = 139) := wd_k (j := 139) h h2' (by decide) (by decide) (by decide)
theorem wd_12 (h : TR X L p k v F) (h2' : F 9 = 2) : (F 11 = 6647396) = (k = 140) := wd_k (j := 140) h h2' (by decide) (by decide) (by decide)
theorem wd_13 (h : TR X L p k v F) (h2' : F 9 = 2) : (F 11 = 28530) = (k = 141) := wd_k (j := 141) h h2' (by decide) (by decide) (by decide)
theorem wd_14 (h : TR X L p k v F) (h2' : F 9 = 2) : (F 11 = 6385252) = (k = 142) := wd_k (j := 142) h h2' (by decide) (by decide) (by decide)
theorem wd_15 (h : TR X L p k v F) (h2' : F 9 = 2) : (F 11 = 7237492) = (k = 143) := wd_k (j := 143) h h2' (by decide) (by decide) (by decide)
theorem wd_16 (h : TR X L p k v F) (h2' : F 9 = 2) : (F 11 = 1752135026) = (k = 144) := wd_k (j := 144) h h2' (by decide) (by decide) (by decide)
theorem wd_17 (h : TR X L p k v F) (h2' : F 9 = 2) : (F 11 = 482854658917) = (k = 145) := wd_k (j := 145) h h2' (by decide) (by decide) (by decide)
theorem wd_18 (h : TR X L p k v F) (h2' : F 9 = 2) : (F 11 = 109317377647987) = (k = 146) := wd_k (j := 146) h h2' (by decide) (by decide) (by decide)
theorem wd_19 (h : TR X L p k v F) (h2' : F 9 = 2) : (F 11 = 7825519) = (k = 147) := wd_k (j := 147) h h2' (by decide) (by decide) (by decide)
theorem wd_20 (h : TR X L p k v F) (h2' : F 9 = 2) : (F 11 = 431198598248) = (k = 148) := wd_k (j := 148) h h2' (by decide) (by decide) (by decide)
theorem wd_21 (h : TR X L p k v F) (h2' : F 9 = 2) : (F 11 = 2003399784) = (k = 149) := wd_k (j := 149) h h2' (by decide) (by decide) (by decide)
theorem wd_22 (h : TR X L p k v F) (h2' : F 9 = 2) : (F 11 = 495690081125) = (k = 150) := wd_k (j := 150) h h2' (by decide) (by decide) (by decide)
theorem wd_23 (h : TR X L p k v F) (h2' : F 9 = 2) : (F 11 = 6975353) = (k = 151) := wd_k (j := 151) h h2' (by decide) (by decide) (by decide)
theorem tk_lo (h : TR X L p k v F) (h2' : ¬ F 9 = 2) : k < 128 := by
  obtain ⟨h1, h2, h3, h4, h5⟩ := h
  unfold krx at h1
  (repeat' split at h1) <;> omega
end P599a
theorem lxp_s {X : Int → Int} {L : Int} (h : 0 ≤ L) {i : Int} (hi : 0 ≤ i) : lxe lxB X L (rte X L (lxp X L i.toNat)) = lxp X L (i + 1).toNat := by
  have b := lxp_b (X := X) h i.toNat
  rw [show (i + 1).toNat = i.toNat + 1 by omega]
  show _ = (if lxp X L i.toNat < L then lxe lxB X L (lxt X L (lxp X L i.toNat)) else L)
  unfold rte
  split
  · rfl
  · rw [lxe_f (by omega)]
    omega
/-- what stands fast while a text is read -/
def BZ (X : Int → Int) (L N : Int) (G : gT) : Prop := b255 X L ∧ 0 ≤ L ∧ L ≤ 300 ∧ TPX L X (G 63) ∧ G 59 4 = L ∧ HK (kdx X L) (vdx X L) N
def FrmZ (G H : gT) : Prop := (∀ c : Nat, c ≠ 59 ∧ c ≠ 62 ∧ c ≠ 64 → H c = G c) ∧ ∀ j : Int, j < 7 ∨ j = 12 ∨ j = 14 ∨ j = 15 ∨ 18 < j → H 59 j = G 59 j
theorem FrmZ_rf {G : gT} : FrmZ G G := ⟨fun _ _ => rfl, fun _ _ => rfl⟩
theorem FrmZ_tr {G H K : gT} (a : FrmZ G H) (b : FrmZ H K) : FrmZ G K := ⟨fun c h => (b.1 c h).trans (a.1 c h), fun j h => (b.2 j h).trans (a.2 j h)⟩
theorem BZ_of {X : Int → Int} {L N : Int} {G H : gT} (h : BZ X L N G) (f : FrmZ G H) : BZ X L N H := ⟨h.1, h.2.1, h.2.2.1, by rw [f.1 63 (by omega)]; exact h.2.2.2.1, by rw [f.2 4 (by omega)]; exact h.2.2.2.2.1, h.2.2.2.2.2⟩
theorem FrmZ_N {G : gT} {F : Int → Int} (h : FrN (G 59) F) : FrmZ G (gr G 59 F) := ⟨fun c hc => by rw [grc (by omega)], fun j hj => by rw [gre]; exact h j (by omega)⟩
theorem FrmZ_Q {G H : gT} (h : FrmQ G H) : FrmZ G H := ⟨fun c hc => h.1 c (by omega), fun j hj => h.2 j (by omega)⟩
section P599
variable {L : Nat} {xs : Nat → Int32} {E : mj_E} {G : gT} {ro : rT} {tl : List mj_C} {d : Nat}
variable {X : Int → Int} {Lt N p k v : Int}
theorem m_next {i : Int} (hZ : BZ X Lt N G) (hi : 0 ≤ i) (h : TKp X Lt (lxp X Lt i.toNat) (G 59)) : ∃ F : Int → Int, mj_ca E mj_bi (d + 2) 250 [.ref 59] (mj_HN G ro tl) = some (none, (mj_HN (gr G 59 F) ro tl)) ∧ TKp X Lt (lxp X Lt (i + 1).toNat) F ∧ FrN (G 59) F := by
  obtain ⟨z1, z2, z3, z4, z5, z6⟩ := hZ
  obtain ⟨h1, h2, h3, h4, h5, h6, h7, h8, h9⟩ := h
  have b := lxp_b (X := X) z2 i.toNat
  have te := fun q => lxt_b (X := X) (L := Lt) (p := lxp X Lt i.toNat) q
  have rb : 0 ≤ rte X Lt (lxp X Lt i.toNat) ∧ rte X Lt (lxp X Lt i.toNat) ≤ Lt := by
    unfold rte
    split
    · rename_i q; have := te q; omega
    · omega
  obtain ⟨F, f1, f2, f3⟩ := m_nextToken (E := E) (ro := ro) (tl := tl) (d := d) (G := G) (X := X) (L := Lt) (q := rte X Lt (lxp X Lt i.toNat)) z1 ⟨z2, z3⟩ z4 z5 h1 rb ⟨h6, h7⟩ ⟨h8, h9⟩
  rw [lxp_s z2 hi] at f2
  exact ⟨F, f1, f2, f3⟩
theorem m_nameOf (h : TR X Lt p k v (G 59)) (r : 0 ≤ G 59 11 ∧ G 59 11 ≤ 1152921504606846976) : mj_ca E mj_bi (d + 6) 259 [.ref 59] (mj_HN G ro tl) = some (some (.int (zI (nmk k))), (mj_HN G ro tl)) := by
  have h9 := h.2.2.1
  have h9' := h.2.2.2.1
  unfold nmk
  by_cases y : G 59 9 = 2
  · simp (maxSteps := 2000000) (disch := first | assumption | omega | (and_intros <;> first | assumption | omega) | (simp (disch := omega) only [gre, grc, up_e, up_n] <;> first | assumption | omega | (and_intros <;> first | assumption | omega)) | fail) only [B_259_0, B_259_1, B_259_2, B_259_3, B_259_4, B_259_5, B_259_6, B_259_7, B_259_8, B_259_9, B_259_10, B_259_11, B_259_12, B_259_13, B_259_14, B_259_15, B_259_16, B_259_17, B_259_18, B_259_19, C_259, ms_ldc, ms_istore, ms_lstore, ms_astore, ms_nop, ms_jsr, ms_goto, ms_ifnull, ms_ifnonnull, ms_tsw, ms_lsw, ms_areturn, mk_invokevirtual, mk_invokespecial, mk_invokestatic, mk_builtin, ms_dup, ms_pop, ms_dup2, bd_s, bd_n, bd_d, bd_i, mz_il0, mz_il1, mz_il2, mz_il3, mz_il4, mz_il5, mz_il6, mz_il7, mz_il8, mz_il9, mz_il10, mz_il11, mz_ll1, mz_ll2, mz_ll3, mz_ll4, mz_ll5, mz_ll6, mz_ll7, mz_ll8, mz_al0, mz_al1, mz_al2, mz_al3, mz_al4, mz_al5, mz_al6, mz_al7, mz_al8, mz_al9, mz_al10, mz_al11, mz_iinc, mz_iadd, mz_isub, mz_imul, mz_ladd, mz_lsub, mz_lmul, mz_iand, mz_ior, mz_ishl, mz_ishr, mz_ineg, mz_lneg, mz_idiv, mz_irem, mz_ldiv, mz_lrem, mz_i2l, mz_l2i, mz_ic_eq_t, mz_if_eq_t, mz_ic_eq_f, mz_if_eq_f, mz_ic_ne_t, mz_if_ne_t, mz_ic_ne_f, mz_if_ne_f, mz_ic_lt_t, mz_if_lt_t, mz_ic_lt_f, mz_if_lt_f, mz_ic_ge_t, mz_if_ge_t, mz_ic_ge_f, mz_if_ge_f, mz_ic_gt_t, mz_if_gt_t, mz_ic_gt_f, mz_if_gt_f, mz_ic_le_t, mz_if_le_t, mz_ic_le_f, mz_if_le_f, mz_iret, mz_zret, mz_cret, mz_bret, mz_ret, mz_lret, mz_tswz, mz_i2c, md_lc_eq, md_lc_ne, md_lc_lt, md_lc_ge, md_lc_gt, md_lc_le, mb_max, mb_min, mb_lmax, mb_lmin, mb_6_26, mb_7_27, mb_26_6, mb_27_7, mb_10_30, mb_30_10, mb_10_45, mb_10_20, mb_20_10, mb_10_10, mb_45_45, mb_12_32, mb_13_33, mb_32_12, mb_33_13, mb_16_36, mb_36_16, mb_20_40, mb_40_20, mb_22_42, mb_23_43, mb_42_22, mb_43_23, mb_56_57, md_ic_eq, md_ic_ne, md_ic_lt, md_ic_ge, md_ic_gt, md_ic_le, md_if_eq, md_if_ne, md_if_lt, md_if_ge, md_if_gt, md_if_le, mz_g59_0, mz_g59_1, mz_g59_2, mz_g59_3, mz_g59_4, mz_p59_4, mz_g59_5, mz_p59_5, mz_g59_6, mz_p59_6, mz_g59_7, mz_p59_7, mz_g59_8, mz_p59_8, mz_g59_9, mz_p59_9, mz_g59_10, mz_p59_10, mz_g59_11, mz_p59_11, mz_g59_12, mz_p59_12, mz_g59_13, mz_p59_13, mz_g59_14, mz_p59_14, mz_g59_15, mz_g59_16, mz_p59_16, mz_g59_17, mz_p59_17, mz_g59_18, mz_p59_18, mz_g59_19, mz_p59_19, mz_g59_20, mz_g59_21, mz_g59_22, mz_g59_23, mz_p59_23, mz_g59_24, mz_p59_24, mz_g59_25, mz_g59_26, mz_g59_27, mz_g59_28, mz_g59_29, mz_g59_30, mz_g59_31, mz_g59_32, hg_59, md_lk_eq, md_lk_ne, m_w3, m_w4, m_w5, m_w6, y, wd_16 h y, wd_17 h y, wd_18 h y, wd_19 h y, wd_20 h y, wd_21 h y, wd_22 h y, wd_23 h y, ↓reduceIte, Nat.reduceAdd, Nat.reduceLeDiff, Nat.reduceLT, Nat.reduceEqDiff, Nat.le_refl, Bool.and_self, decide_eq_true_eq, beq_iff_eq, true_or, or_true, and_self, true_and, and_true, reduceCtorEq, if_true, if_false, mj_args, mj_fill, mj_ent, mj_lget, mj_lset, mj_pl, mj_kill, mj_pop, mj_le4, mj_lsum, mj_lw, mj_lw_rf, mj_rcv, mj_pu, mj_c1, mj_ret, mj_rf, List.length_cons, List.length_nil, Option.toList_none, Option.toList_some, List.nil_append, List.cons_append, List.getD_cons_zero, List.getD_cons_succ, List.getD_nil, zI_add, zI_sub, Int.zero_add, Int.add_zero, Int.reduceAdd, Int.reduceSub, Int.reduceMul, Int.reduceNeg, Int.reduceMod, Int.reduceDiv, Int.zero_mul, Int.mul_zero, Int.one_mul, Int.mul_one, Int.sub_zero, gsc, gs_e, gs_i, grc, gre, eq_self, Int.reduceEq, Int.reduceLT, Int.reduceLE, Int.reduceToNat, ne_eq, not_true_eq_false, not_false_eq_true, gs_up, gr_gr, up_e, up_n, up_up, dite_eq_ite, or_self, or_false, false_or, and_false, false_and, not_false_eq_true, not_true_eq_false]
    all_goals (repeat' split) <;> first | rfl | contradiction | (exfalso; omega) | (simp (disch := omega) only [if_pos, if_neg]; done) | (simp only [*, if_true, if_false]; done) | (simp_all; done) | (refine mq_i ?_ rfl; omega) | fail "left"
  · have lo := tk_lo h y
    rw [if_neg (by omega), if_neg (by omega), if_neg (by omega), if_neg (by omega), if_neg (by omega), if_neg (by omega), if_neg (by omega), if_neg (by omega)]
    simp (maxSteps := 2000000) (disch := first | assumption | omega | (and_intros <;> first | assumption | omega) | (simp (disch := omega) only [gre, grc, up_e, up_n] <;> first | assumption | omega | (and_intros <;> first | assumption | omega)) | fail) only [B_259_0, B_259_1, B_259_2, B_259_3, B_259_4, B_259_5, B_259_6, B_259_7, B_259_8, B_259_9, B_259_10, B_259_11, B_259_12, B_259_13, B_259_14, B_259_15, B_259_16, B_259_17, B_259_18, B_259_19, C_259, ms_ldc, ms_istore, ms_lstore, ms_astore, ms_nop, ms_jsr, ms_goto, ms_ifnull, ms_ifnonnull, ms_tsw, ms_lsw, ms_areturn, mk_invokevirtual, mk_invokespecial, mk_invokestatic, mk_builtin, ms_dup, ms_pop, ms_dup2, bd_s, bd_n, bd_d, bd_i, mz_il0, mz_il1, mz_il2, mz_il3, mz_il4, mz_il5, mz_il6, mz_il7, mz_il8, mz_il9, mz_il10, mz_il11, mz_ll1, mz_ll2, mz_ll3, mz_ll4, mz_ll5, mz_ll6, mz_ll7, mz_ll8, mz_al0, mz_al1, mz_al2, mz_al3, mz_al4, mz_al5, mz_al6, mz_al7, mz_al8, mz_al9, mz_al10, mz_al11, mz_iinc, mz_iadd, mz_isub, mz_imul, mz_ladd, mz_lsub, mz_lmul, mz_iand, mz_ior, mz_ishl, mz_ishr, mz_ineg, mz_lneg, mz_idiv, mz_irem, mz_ldiv, mz_lrem, mz_i2l, mz_l2i, mz_ic_eq_t, mz_if_eq_t, mz_ic_eq_f, mz_if_eq_f, mz_ic_ne_t, mz_if_ne_t, mz_ic_ne_f, mz_if_ne_f, mz_ic_lt_t, mz_if_lt_t, mz_ic_lt_f, mz_if_lt_f, mz_ic_ge_t, mz_if_ge_t, mz_ic_ge_f, mz_if_ge_f, mz_ic_gt_t, mz_if_gt_t, mz_ic_gt_f, mz_if_gt_f, mz_ic_le_t, mz_if_le_t, mz_ic_le_f, mz_if_le_f, mz_iret, mz_zret, mz_cret, mz_bret, mz_ret, mz_lret, mz_tswz, mz_i2c, md_lc_eq, md_lc_ne, md_lc_lt, md_lc_ge, md_lc_gt, md_lc_le, mb_max, mb_min, mb_lmax, mb_lmin, mb_6_26, mb_7_27, mb_26_6, mb_27_7, mb_10_30, mb_30_10, mb_10_45, mb_10_20, mb_20_10, mb_10_10, mb_45_45, mb_12_32, mb_13_33, mb_32_12, mb_33_13, mb_16_36, mb_36_16, mb_20_40, mb_40_20, mb_22_42, mb_23_43, mb_42_22, mb_43_23, mb_56_57, md_ic_eq, md_ic_ne, md_ic_lt, md_ic_ge, md_ic_gt, md_ic_le, md_if_eq, md_if_ne, md_if_lt, md_if_ge, md_if_gt, md_if_le, mz_g59_0, mz_g59_1, mz_g59_2, mz_g59_3, mz_g59_4, mz_p59_4, mz_g59_5, mz_p59_5, mz_g59_6, mz_p59_6, mz_g59_7, mz_p59_7, mz_g59_8, mz_p59_8, mz_g59_9, mz_p59_9, mz_g59_10, mz_p59_10, mz_g59_11, mz_p59_11, mz_g59_12, mz_p59_12, mz_g59_13, mz_p59_13, mz_g59_14, mz_p59_14, mz_g59_15, mz_g59_16, mz_p59_16, mz_g59_17, mz_p59_17, mz_g59_18, mz_p59_18, mz_g59_19, mz_p59_19, mz_g59_20, mz_g59_21, mz_g59_22, mz_g59_23, mz_p59_23, mz_g59_24, mz_p59_24, mz_g59_25, mz_g59_26, mz_g59_27, mz_g59_28, mz_g59_29, mz_g59_30, mz_g59_31, mz_g59_32, hg_59, ↓reduceIte, Nat.reduceAdd, Nat.reduceLeDiff, Nat.reduceLT, Nat.reduceEqDiff, Nat.le_refl, Bool.and_self, decide_eq_true_eq, beq_iff_eq, true_or, or_true, and_self, true_and, and_true, reduceCtorEq, if_true, if_false, mj_args, mj_fill, mj_ent, mj_lget, mj_lset, mj_pl, mj_kill, mj_pop, mj_le4, mj_lsum, mj_lw, mj_lw_rf, mj_rcv, mj_pu, mj_c1, mj_ret, mj_rf, List.length_cons, List.length_nil, Option.toList_none, Option.toList_some, List.nil_append, List.cons_append, List.getD_cons_zero, List.getD_cons_succ, List.getD_nil, zI_add, zI_sub, Int.zero_add, Int.add_zero, Int.reduceAdd, Int.reduceSub, Int.reduceMul, Int.reduceNeg, Int.reduceMod, Int.reduceDiv, Int.zero_mul, Int.mul_zero, Int.one_mul, Int.mul_one, Int.sub_zero, gsc, gs_e, gs_i, grc, gre, eq_self, Int.reduceEq, Int.reduceLT, Int.reduceLE, Int.reduceToNat, ne_eq, not_true_eq_false, not_false_eq_true, gs_up, gr_gr, up_e, up_n, up_up, dite_eq_ite, or_self, or_false, false_or, and_false, false_and, not_false_eq_true, not_true_eq_false]
theorem m_isW {c kk : Int} (h : TR X Lt p k v (G 59)) (r : 0 ≤ G 59 11 ∧ G 59 11 ≤ 1152921504606846976) (hc : 0 ≤ c ∧ c ≤ 1152921504606846976) (hk : 128 ≤ kk) (e : G 59 9 = 2 → (G 59 11 = c) = (k = kk)) : mj_ca E mj_bi (d + 1) 256 [.ref 59, .long (lI c)] (mj_HN G ro tl) = some (some (.int (zI (if k = kk then 1 else 0))), (mj_HN G ro tl)) := by
  rw [m_isWord ⟨h.2.2.1, h.2.2.2.1⟩ r hc]
  by_cases y : G 59 9 = 2
  · rw [if_pos y]
    simp only [e y]
  · have lo := tk_lo h y
    rw [if_neg y, if_neg (by omega)]
theorem m_is_7 (h : TR X Lt p k v (G 59)) (r : 0 ≤ G 59 11 ∧ G 59 11 ≤ 1152921504606846976) : mj_ca E mj_bi (d + 1) 256 [.ref 59, .long (lI 108187682958948)] (mj_HN G ro tl) = some (some (.int (zI (if k = 135 then 1 else 0))), (mj_HN G ro tl)) := m_isW h r (by omega) (by omega) (fun y => wd_7 h y)
theorem m_is_8 (h : TR X Lt p k v (G 59)) (r : 0 ≤ G 59 11 ∧ G 59 11 ≤ 1152921504606846976) : mj_ca E mj_bi (d + 1) 256 [.ref 59, .long (lI 1684366704)] (mj_HN G ro tl) = some (some (.int (zI (if k = 136 then 1 else 0))), (mj_HN G ro tl)) := m_isW h r (by omega) (by omega) (fun y => wd_8 h y)
theorem m_is_9 (h : TR X Lt p k v (G 59)) (r : 0 ≤ G 59 11 ∧ G 59 11 ≤ 1152921504606846976) : mj_ca E mj_bi (d + 1) 256 [.ref 59, .long (lI 26982)] (mj_HN G ro tl) = some (some (.int (zI (if k = 137 then 1 else 0))), (mj_HN G ro tl)) := m_isW h r (by omega) (by omega) (fun y => wd_9 h y)
theorem m_is_10 (h : TR X Lt p k v (G 59)) (r : 0 ≤ G 59 11 ∧ G 59 11 ≤ 1152921504606846976) : mj_ca E mj_bi (d + 1) 256 [.ref 59, .long (lI 1952998766)] (mj_HN G ro tl) = some (some (.int (zI (if k = 138 then 1 else 0))), (mj_HN G ro tl)) := m_isW h r (by omega) (by omega) (fun y => wd_10 h y)
theorem m_is_11 (h : TR X Lt p k v (G 59)) (r : 0 ≤ G 59 11 ∧ G 59 11 ≤ 1152921504606846976) : mj_ca E mj_bi (d + 1) 256 [.ref 59, .long (lI 1701606245)] (mj_HN G ro tl) = some (some (.int (zI (if k = 139 then 1 else 0))), (mj_HN G ro tl)) := m_isW h r (by omega) (by omega) (fun y => wd_11 h y)
theorem m_is_12 (h : TR X Lt p k v (G 59)) (r : 0 ≤ G 59 11 ∧ G 59 11 ≤ 1152921504606846976) : mj_ca E mj_bi (d + 1) 256 [.ref 59, .long (lI 6647396)] (mj_HN G ro tl) = some (some (.int (zI (if k = 140 then 1 else 0))), (mj_HN G ro tl)) := m_isW h r (by omega) (by omega) (fun y => wd_12 h y)
theorem m_is_13 (h : TR X Lt p k v (G 59)) (r : 0 ≤ G 59 11 ∧ G 59 11 ≤ 1152921504606846976) : mj_ca E mj_bi (d + 1) 256 [.ref 59, .long (lI 28530)] (mj_HN G ro tl) = some (some (.int (zI (if k = 141 then 1 else 0))), (mj_HN G ro tl)) := m_isW h r (by omega) (by omega) (fun y => wd_13 h y)
theorem m_is_14 (h : TR X Lt p k v (G 59)) (r : 0 ≤ G 59 11 ∧ G 59 11 ≤ 1152921504606846976) : mj_ca E mj_bi (d + 1) 256 [.ref 59, .long (lI 6385252)] (mj_HN G ro tl) = some (some (.int (zI (if k = 142 then 1 else 0))), (mj_HN G ro tl)) := m_isW h r (by omega) (by omega) (fun y => wd_14 h y)
theorem m_is_15 (h : TR X Lt p k v (G 59)) (r : 0 ≤ G 59 11 ∧ G 59 11 ≤ 1152921504606846976) : mj_ca E mj_bi (d + 1) 256 [.ref 59, .long (lI 7237492)] (mj_HN G ro tl) = some (some (.int (zI (if k = 143 then 1 else 0))), (mj_HN G ro tl)) := m_isW h r (by omega) (by omega) (fun y => wd_15 h y)
theorem m_is_0 (h : TR X Lt p k v (G 59)) (r : 0 ≤ G 59 11 ∧ G 59 11 ≤ 1152921504606846976) : mj_ca E mj_bi (d + 1) 256 [.ref 59, .long (lI 422676030835)] (mj_HN G ro tl) = some (some (.int (zI (if k = 128 then 1 else 0))), (mj_HN G ro tl)) := m_isW h r (by omega) (by omega) (fun y => wd_0 h y)
theorem m_is_2 (h : TR X Lt p k v (G 59)) (r : 0 ≤ G 59 11 ∧ G 59 11 ≤ 1152921504606846976) : mj_ca E mj_bi (d + 1) 256 [.ref 59, .long (lI 123581014175598)] (mj_HN G ro tl) = some (some (.int (zI (if k = 130 then 1 else 0))), (mj_HN G ro tl)) := m_isW h r (by omega) (by omega) (fun y => wd_2 h y)
theorem m_is_3 (h : TR X Lt p k v (G 59)) (r : 0 ≤ G 59 11 ∧ G 59 11 ≤ 1152921504606846976) : mj_ca E mj_bi (d + 1) 256 [.ref 59, .long (lI 1651078245)] (mj_HN G ro tl) = some (some (.int (zI (if k = 131 then 1 else 0))), (mj_HN G ro tl)) := m_isW h r (by omega) (by omega) (fun y => wd_3 h y)
theorem m_is_4 (h : TR X Lt p k v (G 59)) (r : 0 ≤ G 59 11 ∧ G 59 11 ≤ 1152921504606846976) : mj_ca E mj_bi (d + 1) 256 [.ref 59, .long (lI 1668246885)] (mj_HN G ro tl) = some (some (.int (zI (if k = 132 then 1 else 0))), (mj_HN G ro tl)) := m_isW h r (by omega) (by omega) (fun y => wd_4 h y)
theorem m_is_5 (h : TR X Lt p k v (G 59)) (r : 0 ≤ G 59 11 ∧ G 59 11 ≤ 1152921504606846976) : mj_ca E mj_bi (d + 1) 256 [.ref 59, .long (lI 2002873451)] (mj_HN G ro tl) = some (some (.int (zI (if k = 133 then 1 else 0))), (mj_HN G ro tl)) := m_isW h r (by omega) (by omega) (fun y => wd_5 h y)
theorem m_is_6 (h : TR X Lt p k v (G 59)) (r : 0 ≤ G 59 11 ∧ G 59 11 ≤ 1152921504606846976) : mj_ca E mj_bi (d + 1) 256 [.ref 59, .long (lI 29807)] (mj_HN G ro tl) = some (some (.int (zI (if k = 134 then 1 else 0))), (mj_HN G ro tl)) := m_isW h r (by omega) (by omega) (fun y => wd_6 h y)
theorem m_is_16 (h : TR X Lt p k v (G 59)) (r : 0 ≤ G 59 11 ∧ G 59 11 ≤ 1152921504606846976) : mj_ca E mj_bi (d + 1) 256 [.ref 59, .long (lI 1752135026)] (mj_HN G ro tl) = some (some (.int (zI (if k = 144 then 1 else 0))), (mj_HN G ro tl)) := m_isW h r (by omega) (by omega) (fun y => wd_16 h y)
theorem m_is_17 (h : TR X Lt p k v (G 59)) (r : 0 ≤ G 59 11 ∧ G 59 11 ≤ 1152921504606846976) : mj_ca E mj_bi (d + 1) 256 [.ref 59, .long (lI 482854658917)] (mj_HN G ro tl) = some (some (.int (zI (if k = 145 then 1 else 0))), (mj_HN G ro tl)) := m_isW h r (by omega) (by omega) (fun y => wd_17 h y)
theorem m_is_18 (h : TR X Lt p k v (G 59)) (r : 0 ≤ G 59 11 ∧ G 59 11 ≤ 1152921504606846976) : mj_ca E mj_bi (d + 1) 256 [.ref 59, .long (lI 109317377647987)] (mj_HN G ro tl) = some (some (.int (zI (if k = 146 then 1 else 0))), (mj_HN G ro tl)) := m_isW h r (by omega) (by omega) (fun y => wd_18 h y)
theorem m_compareOf (h : TR X Lt p k v (G 59)) (r : 0 ≤ G 59 11 ∧ G 59 11 ≤ 1152921504606846976) : mj_ca E mj_bi (d + 1) 269 [.ref 59] (mj_HN G ro tl) = some (some (.int (zI (cmk k))), (mj_HN G ro tl)) := by
  have h9 := h.2.2.1
  have h9' := h.2.2.2.1
  unfold cmk
  simp (maxSteps := 2000000) (disch := first | assumption | omega | (and_intros <;> first | assumption | omega) | (simp (disch := omega) only [gre, grc, up_e, up_n] <;> first | assumption | omega | (and_intros <;> first | assumption | omega)) | fail) only [B_269_0, B_269_1, B_269_2, B_269_3, B_269_4, B_269_5, B_269_6, B_269_7, B_269_8, B_269_9, B_269_10, B_269_11, B_269_12, B_269_13, C_269, ms_ldc, ms_istore, ms_lstore, ms_astore, ms_nop, ms_jsr, ms_goto, ms_ifnull, ms_ifnonnull, ms_tsw, ms_lsw, ms_areturn, mk_invokevirtual, mk_invokespecial, mk_invokestatic, mk_builtin, ms_dup, ms_pop, ms_dup2, bd_s, bd_n, bd_d, bd_i, mz_il0, mz_il1, mz_il2, mz_il3, mz_il4, mz_il5, mz_il6, mz_il7, mz_il8, mz_il9, mz_il10, mz_il11, mz_ll1, mz_ll2, mz_ll3, mz_ll4, mz_ll5, mz_ll6, mz_ll7, mz_ll8, mz_al0, mz_al1, mz_al2, mz_al3, mz_al4, mz_al5, mz_al6, mz_al7, mz_al8, mz_al9, mz_al10, mz_al11, mz_iinc, mz_iadd, mz_isub, mz_imul, mz_ladd, mz_lsub, mz_lmul, mz_iand, mz_ior, mz_ishl, mz_ishr, mz_ineg, mz_lneg, mz_idiv, mz_irem, mz_ldiv, mz_lrem, mz_i2l, mz_l2i, mz_ic_eq_t, mz_if_eq_t, mz_ic_eq_f, mz_if_eq_f, mz_ic_ne_t, mz_if_ne_t, mz_ic_ne_f, mz_if_ne_f, mz_ic_lt_t, mz_if_lt_t, mz_ic_lt_f, mz_if_lt_f, mz_ic_ge_t, mz_if_ge_t, mz_ic_ge_f, mz_if_ge_f, mz_ic_gt_t, mz_if_gt_t, mz_ic_gt_f, mz_if_gt_f, mz_ic_le_t, mz_if_le_t, mz_ic_le_f, mz_if_le_f, mz_iret, mz_zret, mz_cret, mz_bret, mz_ret, mz_lret, mz_tswz, mz_i2c, md_lc_eq, md_lc_ne, md_lc_lt, md_lc_ge, md_lc_gt, md_lc_le, mb_max, mb_min, mb_lmax, mb_lmin, mb_6_26, mb_7_27, mb_26_6, mb_27_7, mb_10_30, mb_30_10, mb_10_45, mb_10_20, mb_20_10, mb_10_10, mb_45_45, mb_12_32, mb_13_33, mb_32_12, mb_33_13, mb_16_36, mb_36_16, mb_20_40, mb_40_20, mb_22_42, mb_23_43, mb_42_22, mb_43_23, mb_56_57, md_ic_eq, md_ic_ne, md_ic_lt, md_ic_ge, md_ic_gt, md_ic_le, md_if_eq, md_if_ne, md_if_lt, md_if_ge, md_if_gt, md_if_le, mz_g59_0, mz_g59_1, mz_g59_2, mz_g59_3, mz_g59_4, mz_p59_4, mz_g59_5, mz_p59_5, mz_g59_6, mz_p59_6, mz_g59_7, mz_p59_7, mz_g59_8, mz_p59_8, mz_g59_9, mz_p59_9, mz_g59_10, mz_p59_10, mz_g59_11, mz_p59_11, mz_g59_12, mz_p59_12, mz_g59_13, mz_p59_13, mz_g59_14, mz_p59_14, mz_g59_15, mz_g59_16, mz_p59_16, mz_g59_17, mz_p59_17, mz_g59_18, mz_p59_18, mz_g59_19, mz_p59_19, mz_g59_20, mz_g59_21, mz_g59_22, mz_g59_23, mz_p59_23, mz_g59_24, mz_p59_24, mz_g59_25, mz_g59_26, mz_g59_27, mz_g59_28, mz_g59_29, mz_g59_30, mz_g59_31, mz_g59_32, hg_59, tk_60 h, tk_4 h, tk_62 h, tk_5 h, tk_61 h, tk_35 h, ↓reduceIte, Nat.reduceAdd, Nat.reduceLeDiff, Nat.reduceLT, Nat.reduceEqDiff, Nat.le_refl, Bool.and_self, decide_eq_true_eq, beq_iff_eq, true_or, or_true, and_self, true_and, and_true, reduceCtorEq, if_true, if_false, mj_args, mj_fill, mj_ent, mj_lget, mj_lset, mj_pl, mj_kill, mj_pop, mj_le4, mj_lsum, mj_lw, mj_lw_rf, mj_rcv, mj_pu, mj_c1, mj_ret, mj_rf, List.length_cons, List.length_nil, Option.toList_none, Option.toList_some, List.nil_append, List.cons_append, List.getD_cons_zero, List.getD_cons_succ, List.getD_nil, zI_add, zI_sub, Int.zero_add, Int.add_zero, Int.reduceAdd, Int.reduceSub, Int.reduceMul, Int.reduceNeg, Int.reduceMod, Int.reduceDiv, Int.zero_mul, Int.mul_zero, Int.one_mul, Int.mul_one, Int.sub_zero, gsc, gs_e, gs_i, grc, gre, eq_self, Int.reduceEq, Int.reduceLT, Int.reduceLE, Int.reduceToNat, ne_eq, not_true_eq_false, not_false_eq_true, gs_up, gr_gr, up_e, up_n, up_up, dite_eq_ite, or_self, or_false, false_or, and_false, false_and, not_false_eq_true, not_true_eq_false]
  all_goals (repeat' split) <;> first | rfl | contradiction | (exfalso; omega) | (simp (disch := omega) only [if_pos, if_neg]; done) | (simp only [*, if_true, if_false]; done) | (simp_all; done) | (refine mq_i ?_ rfl; omega) | fail "left"
theorem opn_b {Q : List Int} {X : Int → Int} (h : PL X Q) : -1 ≤ opn Q ∧ opn Q ≤ 43 := by
  obtain ⟨o1, o2, o3, o4⟩ := opi_n Q h
  by_cases y : opi Q < 0
  · rw [o3 y]; omega
  · have := o4 (by omega); omega
theorem cmpd_b : ∀ Q : List Int, cmpd Q = 0 ∨ cmpd Q = 1
  | [] => Or.inl rfl
  | a :: Q => by
    unfold cmpd
    split
    · exact cmpd_b Q
    · split
      · exact Or.inr rfl
      · exact Or.inl rfl
theorem m_betweenOf (h : TR X Lt p k v (G 59)) (r : 0 ≤ G 59 11 ∧ G 59 11 ≤ 1152921504606846976) {Q : List Int} (hP : PL (G 64) Q) (hp : Q.length ≤ 160) (e16 : G 59 16 = Q.length) : mj_ca E mj_bi (d + 6) 270 [.ref 59] (mj_HN G ro tl) = some (some (.int (zI (btw k Q))), (mj_HN G ro tl)) := by
  have h9 := h.2.2.1
  have h9' := h.2.2.2.1
  have qo := m_openNow (E := E) (ro := ro) (tl := tl) (d := d + 3) hP hp e16
  have qc := m_cmpd (E := E) (ro := ro) (tl := tl) (d := d + 3) hP hp e16
  have qm := m_compareOf (E := E) (ro := ro) (tl := tl) (d := d + 4) h r
  have ob := opn_b hP
  have cb := cmpd_b Q
  unfold btw
  by_cases y : opn Q = 41
  · rw [if_pos y]
    rw [y] at qo
    by_cases y2 : cmpd Q = 0
    · rw [if_pos y2]
      rw [y2] at qc
      simp (maxSteps := 2000000) (disch := first | assumption | omega | (and_intros <;> first | assumption | omega) | (simp (disch := omega) only [gre, grc, up_e, up_n] <;> first | assumption | omega | (and_intros <;> first | assumption | omega)) | fail) only [B_270_0, B_270_1, B_270_2, B_270_3, B_270_4, B_270_5, B_270_6, B_270_7, B_270_8, B_270_9, B_270_10, B_270_11, B_270_12, B_270_13, B_270_14, B_270_15, B_270_16, B_270_17, C_270, ms_ldc, ms_istore, ms_lstore, ms_astore, ms_nop, ms_jsr, ms_goto, ms_ifnull, ms_ifnonnull, ms_tsw, ms_lsw, ms_areturn, mk_invokevirtual, mk_invokespecial, mk_invokestatic, mk_builtin, ms_dup, ms_pop, ms_dup2, bd_s, bd_n, bd_d, bd_i, mz_il0, mz_il1, mz_il2, mz_il3, mz_il4, mz_il5, mz_il6, mz_il7, mz_il8, mz_il9, mz_il10, mz_il11, mz_ll1, mz_ll2, mz_ll3, mz_ll4, mz_ll5, mz_ll6, mz_ll7, mz_ll8, mz_al0, mz_al1, mz_al2, mz_al3, mz_al4, mz_al5, mz_al6, mz_al7, mz_al8, mz_al9, mz_al10, mz_al11, mz_iinc, mz_iadd, mz_isub, mz_imul, mz_ladd, mz_lsub, mz_lmul, mz_iand, mz_ior, mz_ishl, mz_ishr, mz_ineg, mz_lneg, mz_idiv, mz_irem, mz_ldiv, mz_lrem, mz_i2l, mz_l2i, mz_ic_eq_t, mz_if_eq_t, mz_ic_eq_f, mz_if_eq_f, mz_ic_ne_t, mz_if_ne_t, mz_ic_ne_f, mz_if_ne_f, mz_ic_lt_t, mz_if_lt_t, mz_ic_lt_f, mz_if_lt_f, mz_ic_ge_t, mz_if_ge_t, mz_ic_ge_f, mz_if_ge_f, mz_ic_gt_t, mz_if_gt_t, mz_ic_gt_f, mz_if_gt_f, mz_ic_le_t, mz_if_le_t, mz_ic_le_f, mz_if_le_f, mz_iret, mz_zret, mz_cret, mz_bret, mz_ret, mz_lret, mz_tswz, mz_i2c, md_lc_eq, md_lc_ne, md_lc_lt, md_lc_ge, md_lc_gt, md_lc_le, mb_max, mb_min, mb_lmax, mb_lmin, mb_6_26, mb_7_27, mb_26_6, mb_27_7, mb_10_30, mb_30_10, mb_10_45, mb_10_20, mb_20_10, mb_10_10, mb_45_45, mb_12_32, mb_13_33, mb_32_12, mb_33_13, mb_16_36, mb_36_16, mb_20_40, mb_40_20, mb_22_42, mb_23_43, mb_42_22, mb_43_23, mb_56_57, md_ic_eq, md_ic_ne, md_ic_lt, md_ic_ge, md_ic_gt, md_ic_le, md_if_eq, md_if_ne, md_if_lt, md_if_ge, md_if_gt, md_if_le, mz_g59_0, mz_g59_1, mz_g59_2, mz_g59_3, mz_g59_4, mz_p59_4, mz_g59_5, mz_p59_5, mz_g59_6, mz_p59_6, mz_g59_7, mz_p59_7, mz_g59_8, mz_p59_8, mz_g59_9, mz_p59_9, mz_g59_10, mz_p59_10, mz_g59_11, mz_p59_11, mz_g59_12, mz_p59_12, mz_g59_13, mz_p59_13, mz_g59_14, mz_p59_14, mz_g59_15, mz_g59_16, mz_p59_16, mz_g59_17, mz_p59_17, mz_g59_18, mz_p59_18, mz_g59_19, mz_p59_19, mz_g59_20, mz_g59_21, mz_g59_22, mz_g59_23, mz_p59_23, mz_g59_24, mz_p59_24, mz_g59_25, mz_g59_26, mz_g59_27, mz_g59_28, mz_g59_29, mz_g59_30, mz_g59_31, mz_g59_32, hg_59, tk_43 h, tk_45 h, tk_42 h, tk_47 h, qo, qc, qm, ↓reduceIte, Nat.reduceAdd, Nat.reduceLeDiff, Nat.reduceLT, Nat.reduceEqDiff, Nat.le_refl, Bool.and_self, decide_eq_true_eq, beq_iff_eq, true_or, or_true, and_self, true_and, and_true, reduceCtorEq, if_true, if_false, mj_args, mj_fill, mj_ent, mj_lget, mj_lset, mj_pl, mj_kill, mj_pop, mj_le4, mj_lsum, mj_lw, mj_lw_rf, mj_rcv, mj_pu, mj_c1, mj_ret, mj_rf, List.length_cons, List.length_nil, Option.toList_none, Option.toList_some, List.nil_append, List.cons_append, List.getD_cons_zero, List.getD_cons_succ, List.getD_nil, zI_add, zI_sub, Int.zero_add, Int.add_zero, Int.reduceAdd, Int.reduceSub, Int.reduceMul, Int.reduceNeg, Int.reduceMod, Int.reduceDiv, Int.zero_mul, Int.mul_zero, Int.one_mul, Int.mul_one, Int.sub_zero, gsc, gs_e, gs_i, grc, gre, eq_self, Int.reduceEq, Int.reduceLT, Int.reduceLE, Int.reduceToNat, ne_eq, not_true_eq_false, not_false_eq_true, gs_up, gr_gr, up_e, up_n, up_up, dite_eq_ite, or_self, or_false, false_or, and_false, false_and, not_false_eq_true, not_true_eq_false]
      all_goals (repeat' split) <;> first | rfl | contradiction | (exfalso; omega) | (simp (disch := omega) only [if_pos, if_neg]; done) | (simp only [*, if_true, if_false]; done) | (simp_all; done) | (refine mq_i ?_ rfl; omega) | fail "left"
    · rw [if_neg y2]
      have y3 : cmpd Q = 1 := by omega
      rw [y3] at qc
      simp (maxSteps := 2000000) (disch := first | assumption | omega | (and_intros <;> first | assumption | omega) | (simp (disch := omega) only [gre, grc, up_e, up_n] <;> first | assumption | omega | (and_intros <;> first | assumption | omega)) | fail) only [B_270_0, B_270_1, B_270_2, B_270_3, B_270_4, B_270_5, B_270_6, B_270_7, B_270_8, B_270_9, B_270_10, B_270_11, B_270_12, B_270_13, B_270_14, B_270_15, B_270_16, B_270_17, C_270, ms_ldc, ms_istore, ms_lstore, ms_astore, ms_nop, ms_jsr, ms_goto, ms_ifnull, ms_ifnonnull, ms_tsw, ms_lsw, ms_areturn, mk_invokevirtual, mk_invokespecial, mk_invokestatic, mk_builtin, ms_dup, ms_pop, ms_dup2, bd_s, bd_n, bd_d, bd_i, mz_il0, mz_il1, mz_il2, mz_il3, mz_il4, mz_il5, mz_il6, mz_il7, mz_il8, mz_il9, mz_il10, mz_il11, mz_ll1, mz_ll2, mz_ll3, mz_ll4, mz_ll5, mz_ll6, mz_ll7, mz_ll8, mz_al0, mz_al1, mz_al2, mz_al3, mz_al4, mz_al5, mz_al6, mz_al7, mz_al8, mz_al9, mz_al10, mz_al11, mz_iinc, mz_iadd, mz_isub, mz_imul, mz_ladd, mz_lsub, mz_lmul, mz_iand, mz_ior, mz_ishl, mz_ishr, mz_ineg, mz_lneg, mz_idiv, mz_irem, mz_ldiv, mz_lrem, mz_i2l, mz_l2i, mz_ic_eq_t, mz_if_eq_t, mz_ic_eq_f, mz_if_eq_f, mz_ic_ne_t, mz_if_ne_t, mz_ic_ne_f, mz_if_ne_f, mz_ic_lt_t, mz_if_lt_t, mz_ic_lt_f, mz_if_lt_f, mz_ic_ge_t, mz_if_ge_t, mz_ic_ge_f, mz_if_ge_f, mz_ic_gt_t, mz_if_gt_t, mz_ic_gt_f, mz_if_gt_f, mz_ic_le_t, mz_if_le_t, mz_ic_le_f, mz_if_le_f, mz_iret, mz_zret, mz_cret, mz_bret, mz_ret, mz_lret, mz_tswz, mz_i2c, md_lc_eq, md_lc_ne, md_lc_lt, md_lc_ge, md_lc_gt, md_lc_le, mb_max, mb_min, mb_lmax, mb_lmin, mb_6_26, mb_7_27, mb_26_6, mb_27_7, mb_10_30, mb_30_10, mb_10_45, mb_10_20, mb_20_10, mb_10_10, mb_45_45, mb_12_32, mb_13_33, mb_32_12, mb_33_13, mb_16_36, mb_36_16, mb_20_40, mb_40_20, mb_22_42, mb_23_43, mb_42_22, mb_43_23, mb_56_57, md_ic_eq, md_ic_ne, md_ic_lt, md_ic_ge, md_ic_gt, md_ic_le, md_if_eq, md_if_ne, md_if_lt, md_if_ge, md_if_gt, md_if_le, mz_g59_0, mz_g59_1, mz_g59_2, mz_g59_3, mz_g59_4, mz_p59_4, mz_g59_5, mz_p59_5, mz_g59_6, mz_p59_6, mz_g59_7, mz_p59_7, mz_g59_8, mz_p59_8, mz_g59_9, mz_p59_9, mz_g59_10, mz_p59_10, mz_g59_11, mz_p59_11, mz_g59_12, mz_p59_12, mz_g59_13, mz_p59_13, mz_g59_14, mz_p59_14, mz_g59_15, mz_g59_16, mz_p59_16, mz_g59_17, mz_p59_17, mz_g59_18, mz_p59_18, mz_g59_19, mz_p59_19, mz_g59_20, mz_g59_21, mz_g59_22, mz_g59_23, mz_p59_23, mz_g59_24, mz_p59_24, mz_g59_25, mz_g59_26, mz_g59_27, mz_g59_28, mz_g59_29, mz_g59_30, mz_g59_31, mz_g59_32, hg_59, tk_43 h, tk_45 h, tk_42 h, tk_47 h, qo, qc, m_w3, m_w2, m_is_14 h r, m_is_13 h r, ↓reduceIte, Nat.reduceAdd, Nat.reduceLeDiff, Nat.reduceLT, Nat.reduceEqDiff, Nat.le_refl, Bool.and_self, decide_eq_true_eq, beq_iff_eq, true_or, or_true, and_self, true_and, and_true, reduceCtorEq, if_true, if_false, mj_args, mj_fill, mj_ent, mj_lget, mj_lset, mj_pl, mj_kill, mj_pop, mj_le4, mj_lsum, mj_lw, mj_lw_rf, mj_rcv, mj_pu, mj_c1, mj_ret, mj_rf, List.length_cons, List.length_nil, Option.toList_none, Option.toList_some, List.nil_append, List.cons_append, List.getD_cons_zero, List.getD_cons_succ, List.getD_nil, zI_add, zI_sub, Int.zero_add, Int.add_zero, Int.reduceAdd, Int.reduceSub, Int.reduceMul, Int.reduceNeg, Int.reduceMod, Int.reduceDiv, Int.zero_mul, Int.mul_zero, Int.one_mul, Int.mul_one, Int.sub_zero, gsc, gs_e, gs_i, grc, gre, eq_self, Int.reduceEq, Int.reduceLT, Int.reduceLE, Int.reduceToNat, ne_eq, not_true_eq_false, not_false_eq_true, gs_up, gr_gr, up_e, up_n, up_up, dite_eq_ite, or_self, or_false, false_or, and_false, false_and, not_false_eq_true, not_true_eq_false]
      all_goals (repeat' split) <;> first | rfl | contradiction | (exfalso; omega) | (simp (disch := omega) only [if_pos, if_neg]; done) | (simp only [*, if_true, if_false]; done) | (simp_all; done) | (refine mq_i ?_ rfl; omega) | fail "left"
  · rw [if_neg y]
    simp (maxSteps := 2000000) (disch := first | assumption | omega | (and_intros <;> first | assumption | omega) | (simp (disch := omega) only [gre, grc, up_e, up_n] <;> first | assumption | omega | (and_intros <;> first | assumption | omega)) | fail) only [B_270_0, B_270_1, B_270_2, B_270_3, B_270_4, B_270_5, B_270_6, B_270_7, B_270_8, B_270_9, B_270_10, B_270_11, B_270_12, B_270_13, B_270_14, B_270_15, B_270_16, B_270_17, C_270, ms_ldc, ms_istore, ms_lstore, ms_astore, ms_nop, ms_jsr, ms_goto, ms_ifnull, ms_ifnonnull, ms_tsw, ms_lsw, ms_areturn, mk_invokevirtual, mk_invokespecial, mk_invokestatic, mk_builtin, ms_dup, ms_pop, ms_dup2, bd_s, bd_n, bd_d, bd_i, mz_il0, mz_il1, mz_il2, mz_il3, mz_il4, mz_il5, mz_il6, mz_il7, mz_il8, mz_il9, mz_il10, mz_il11, mz_ll1, mz_ll2, mz_ll3, mz_ll4, mz_ll5, mz_ll6, mz_ll7, mz_ll8, mz_al0, mz_al1, mz_al2, mz_al3, mz_al4, mz_al5, mz_al6, mz_al7, mz_al8, mz_al9, mz_al10, mz_al11, mz_iinc, mz_iadd, mz_isub, mz_imul, mz_ladd, mz_lsub, mz_lmul, mz_iand, mz_ior, mz_ishl, mz_ishr, mz_ineg, mz_lneg, mz_idiv, mz_irem, mz_ldiv, mz_lrem, mz_i2l, mz_l2i, mz_ic_eq_t, mz_if_eq_t, mz_ic_eq_f, mz_if_eq_f, mz_ic_ne_t, mz_if_ne_t, mz_ic_ne_f, mz_if_ne_f, mz_ic_lt_t, mz_if_lt_t, mz_ic_lt_f, mz_if_lt_f, mz_ic_ge_t, mz_if_ge_t, mz_ic_ge_f, mz_if_ge_f, mz_ic_gt_t, mz_if_gt_t, mz_ic_gt_f, mz_if_gt_f, mz_ic_le_t, mz_if_le_t, mz_ic_le_f, mz_if_le_f, mz_iret, mz_zret, mz_cret, mz_bret, mz_ret, mz_lret, mz_tswz, mz_i2c, md_lc_eq, md_lc_ne, md_lc_lt, md_lc_ge, md_lc_gt, md_lc_le, mb_max, mb_min, mb_lmax, mb_lmin, mb_6_26, mb_7_27, mb_26_6, mb_27_7, mb_10_30, mb_30_10, mb_10_45, mb_10_20, mb_20_10, mb_10_10, mb_45_45, mb_12_32, mb_13_33, mb_32_12, mb_33_13, mb_16_36, mb_36_16, mb_20_40, mb_40_20, mb_22_42, mb_23_43, mb_42_22, mb_43_23, mb_56_57, md_ic_eq, md_ic_ne, md_ic_lt, md_ic_ge, md_ic_gt, md_ic_le, md_if_eq, md_if_ne, md_if_lt, md_if_ge, md_if_gt, md_if_le, mz_g59_0, mz_g59_1, mz_g59_2, mz_g59_3, mz_g59_4, mz_p59_4, mz_g59_5, mz_p59_5, mz_g59_6, mz_p59_6, mz_g59_7, mz_p59_7, mz_g59_8, mz_p59_8, mz_g59_9, mz_p59_9, mz_g59_10, mz_p59_10, mz_g59_11, mz_p59_11, mz_g59_12, mz_p59_12, mz_g59_13, mz_p59_13, mz_g59_14, mz_p59_14, mz_g59_15, mz_g59_16, mz_p59_16, mz_g59_17, mz_p59_17, mz_g59_18, mz_p59_18, mz_g59_19, mz_p59_19, mz_g59_20, mz_g59_21, mz_g59_22, mz_g59_23, mz_p59_23, mz_g59_24, mz_p59_24, mz_g59_25, mz_g59_26, mz_g59_27, mz_g59_28, mz_g59_29, mz_g59_30, mz_g59_31, mz_g59_32, hg_59, tk_43 h, tk_45 h, tk_42 h, tk_47 h, qo, ↓reduceIte, Nat.reduceAdd, Nat.reduceLeDiff, Nat.reduceLT, Nat.reduceEqDiff, Nat.le_refl, Bool.and_self, decide_eq_true_eq, beq_iff_eq, true_or, or_true, and_self, true_and, and_true, reduceCtorEq, if_true, if_false, mj_args, mj_fill, mj_ent, mj_lget, mj_lset, mj_pl, mj_kill, mj_pop, mj_le4, mj_lsum, mj_lw, mj_lw_rf, mj_rcv, mj_pu, mj_c1, mj_ret, mj_rf, List.length_cons, List.length_nil, Option.toList_none, Option.toList_some, List.nil_append, List.cons_append, List.getD_cons_zero, List.getD_cons_succ, List.getD_nil, zI_add, zI_sub, Int.zero_add, Int.add_zero, Int.reduceAdd, Int.reduceSub, Int.reduceMul, Int.reduceNeg, Int.reduceMod, Int.reduceDiv, Int.zero_mul, Int.mul_zero, Int.one_mul, Int.mul_one, Int.sub_zero, gsc, gs_e, gs_i, grc, gre, eq_self, Int.reduceEq, Int.reduceLT, Int.reduceLE, Int.reduceToNat, ne_eq, not_true_eq_false, not_false_eq_true, gs_up, gr_gr, up_e, up_n, up_up, dite_eq_ite, or_self, or_false, false_or, and_false, false_and, not_false_eq_true, not_true_eq_false]
    all_goals (repeat' split) <;> first | rfl | contradiction | (exfalso; omega) | (simp (disch := omega) only [if_pos, if_neg]; done) | (simp only [*, if_true, if_false]; done) | (simp_all; done) | (refine mq_i ?_ rfl; omega) | fail "left"
theorem m_partOf {op : Int} (ho : -1 ≤ op ∧ op ≤ 43) (h : TR X Lt p k v (G 59)) (r : 0 ≤ G 59 11 ∧ G 59 11 ≤ 1152921504606846976) {Q : List Int} (hP : PL (G 64) Q) (hp : Q.length ≤ 160) (e16 : G 59 16 = Q.length) : mj_ca E mj_bi (d + 6) 271 [.ref 59, .int (zI op)] (mj_HN G ro tl) = some (some (.int (zI (prt k op Q))), (mj_HN G ro tl)) := by
  have h9 := h.2.2.1
  have h9' := h.2.2.2.1
  have qc := m_cmpd (E := E) (ro := ro) (tl := tl) (d := d + 3) hP hp e16
  have cb := cmpd_b Q
  unfold prt
  by_cases y : op < 40
  · rw [if_neg (by omega), if_neg (by omega), if_neg (by omega), if_neg (by omega)]
    have e : mj_tsw 40 43 (zI op) = 0 := by
      unfold mj_tsw
      rw [zI_toInt (by omega), if_pos (by omega)]
    simp (maxSteps := 2000000) (disch := first | assumption | omega | (and_intros <;> first | assumption | omega) | (simp (disch := omega) only [gre, grc, up_e, up_n] <;> first | assumption | omega | (and_intros <;> first | assumption | omega)) | fail) only [B_271_0, B_271_1, B_271_2, B_271_3, B_271_4, B_271_5, B_271_6, B_271_7, B_271_8, B_271_9, B_271_10, B_271_11, B_271_12, B_271_13, B_271_14, B_271_15, B_271_16, B_271_17, B_271_18, C_271, ms_ldc, ms_istore, ms_lstore, ms_astore, ms_nop, ms_jsr, ms_goto, ms_ifnull, ms_ifnonnull, ms_tsw, ms_lsw, ms_areturn, mk_invokevirtual, mk_invokespecial, mk_invokestatic, mk_builtin, ms_dup, ms_pop, ms_dup2, bd_s, bd_n, bd_d, bd_i, mz_il0, mz_il1, mz_il2, mz_il3, mz_il4, mz_il5, mz_il6, mz_il7, mz_il8, mz_il9, mz_il10, mz_il11, mz_ll1, mz_ll2, mz_ll3, mz_ll4, mz_ll5, mz_ll6, mz_ll7, mz_ll8, mz_al0, mz_al1, mz_al2, mz_al3, mz_al4, mz_al5, mz_al6, mz_al7, mz_al8, mz_al9, mz_al10, mz_al11, mz_iinc, mz_iadd, mz_isub, mz_imul, mz_ladd, mz_lsub, mz_lmul, mz_iand, mz_ior, mz_ishl, mz_ishr, mz_ineg, mz_lneg, mz_idiv, mz_irem, mz_ldiv, mz_lrem, mz_i2l, mz_l2i, mz_ic_eq_t, mz_if_eq_t, mz_ic_eq_f, mz_if_eq_f, mz_ic_ne_t, mz_if_ne_t, mz_ic_ne_f, mz_if_ne_f, mz_ic_lt_t, mz_if_lt_t, mz_ic_lt_f, mz_if_lt_f, mz_ic_ge_t, mz_if_ge_t, mz_ic_ge_f, mz_if_ge_f, mz_ic_gt_t, mz_if_gt_t, mz_ic_gt_f, mz_if_gt_f, mz_ic_le_t, mz_if_le_t, mz_ic_le_f, mz_if_le_f, mz_iret, mz_zret, mz_cret, mz_bret, mz_ret, mz_lret, mz_i2c, md_lc_eq, md_lc_ne, md_lc_lt, md_lc_ge, md_lc_gt, md_lc_le, mb_max, mb_min, mb_lmax, mb_lmin, mb_6_26, mb_7_27, mb_26_6, mb_27_7, mb_10_30, mb_30_10, mb_10_45, mb_10_20, mb_20_10, mb_10_10, mb_45_45, mb_12_32, mb_13_33, mb_32_12, mb_33_13, mb_16_36, mb_36_16, mb_20_40, mb_40_20, mb_22_42, mb_23_43, mb_42_22, mb_43_23, mb_56_57, md_ic_eq, md_ic_ne, md_ic_lt, md_ic_ge, md_ic_gt, md_ic_le, md_if_eq, md_if_ne, md_if_lt, md_if_ge, md_if_gt, md_if_le, mz_g59_0, mz_g59_1, mz_g59_2, mz_g59_3, mz_g59_4, mz_p59_4, mz_g59_5, mz_p59_5, mz_g59_6, mz_p59_6, mz_g59_7, mz_p59_7, mz_g59_8, mz_p59_8, mz_g59_9, mz_p59_9, mz_g59_10, mz_p59_10, mz_g59_11, mz_p59_11, mz_g59_12, mz_p59_12, mz_g59_13, mz_p59_13, mz_g59_14, mz_p59_14, mz_g59_15, mz_g59_16, mz_p59_16, mz_g59_17, mz_p59_17, mz_g59_18, mz_p59_18, mz_g59_19, mz_p59_19, mz_g59_20, mz_g59_21, mz_g59_22, mz_g59_23, mz_p59_23, mz_g59_24, mz_p59_24, mz_g59_25, mz_g59_26, mz_g59_27, mz_g59_28, mz_g59_29, mz_g59_30, mz_g59_31, mz_g59_32, hg_59, e, ↓reduceIte, Nat.reduceAdd, Nat.reduceLeDiff, Nat.reduceLT, Nat.reduceEqDiff, Nat.le_refl, Bool.and_self, decide_eq_true_eq, beq_iff_eq, true_or, or_true, and_self, true_and, and_true, reduceCtorEq, if_true, if_false, mj_args, mj_fill, mj_ent, mj_lget, mj_lset, mj_pl, mj_kill, mj_pop, mj_le4, mj_lsum, mj_lw, mj_lw_rf, mj_rcv, mj_pu, mj_c1, mj_ret, mj_rf, List.length_cons, List.length_nil, Option.toList_none, Option.toList_some, List.nil_append, List.cons_append, List.getD_cons_zero, List.getD_cons_succ, List.getD_nil, zI_add, zI_sub, Int.zero_add, Int.add_zero, Int.reduceAdd, Int.reduceSub, Int.reduceMul, Int.reduceNeg, Int.reduceMod, Int.reduceDiv, Int.zero_mul, Int.mul_zero, Int.one_mul, Int.mul_one, Int.sub_zero, gsc, gs_e, gs_i, grc, gre, eq_self, Int.reduceEq, Int.reduceLT, Int.reduceLE, Int.reduceToNat, ne_eq, not_true_eq_false, not_false_eq_true, gs_up, gr_gr, up_e, up_n, up_up, dite_eq_ite, or_self, or_false, false_or, and_false, false_and, not_false_eq_true, not_true_eq_false]
  · have hc : op = 40 ∨ op = 41 ∨ op = 42 ∨ op = 43 := by omega
    rcases hc with e | e | e | e <;> subst e
    · rw [if_pos rfl]
      simp (maxSteps := 2000000) (disch := first | assumption | omega | (and_intros <;> first | assumption | omega) | (simp (disch := omega) only [gre, grc, up_e, up_n] <;> first | assumption | omega | (and_intros <;> first | assumption | omega)) | fail) only [B_271_0, B_271_1, B_271_2, B_271_3, B_271_4, B_271_5, B_271_6, B_271_7, B_271_8, B_271_9, B_271_10, B_271_11, B_271_12, B_271_13, B_271_14, B_271_15, B_271_16, B_271_17, B_271_18, C_271, ms_ldc, ms_istore, ms_lstore, ms_astore, ms_nop, ms_jsr, ms_goto, ms_ifnull, ms_ifnonnull, ms_tsw, ms_lsw, ms_areturn, mk_invokevirtual, mk_invokespecial, mk_invokestatic, mk_builtin, ms_dup, ms_pop, ms_dup2, bd_s, bd_n, bd_d, bd_i, mz_il0, mz_il1, mz_il2, mz_il3, mz_il4, mz_il5, mz_il6, mz_il7, mz_il8, mz_il9, mz_il10, mz_il11, mz_ll1, mz_ll2, mz_ll3, mz_ll4, mz_ll5, mz_ll6, mz_ll7, mz_ll8, mz_al0, mz_al1, mz_al2, mz_al3, mz_al4, mz_al5, mz_al6, mz_al7, mz_al8, mz_al9, mz_al10, mz_al11, mz_iinc, mz_iadd, mz_isub, mz_imul, mz_ladd, mz_lsub, mz_lmul, mz_iand, mz_ior, mz_ishl, mz_ishr, mz_ineg, mz_lneg, mz_idiv, mz_irem, mz_ldiv, mz_lrem, mz_i2l, mz_l2i, mz_ic_eq_t, mz_if_eq_t, mz_ic_eq_f, mz_if_eq_f, mz_ic_ne_t, mz_if_ne_t, mz_ic_ne_f, mz_if_ne_f, mz_ic_lt_t, mz_if_lt_t, mz_ic_lt_f, mz_if_lt_f, mz_ic_ge_t, mz_if_ge_t, mz_ic_ge_f, mz_if_ge_f, mz_ic_gt_t, mz_if_gt_t, mz_ic_gt_f, mz_if_gt_f, mz_ic_le_t, mz_if_le_t, mz_ic_le_f, mz_if_le_f, mz_iret, mz_zret, mz_cret, mz_bret, mz_ret, mz_lret, mz_tswz, mz_i2c, md_lc_eq, md_lc_ne, md_lc_lt, md_lc_ge, md_lc_gt, md_lc_le, mb_max, mb_min, mb_lmax, mb_lmin, mb_6_26, mb_7_27, mb_26_6, mb_27_7, mb_10_30, mb_30_10, mb_10_45, mb_10_20, mb_20_10, mb_10_10, mb_45_45, mb_12_32, mb_13_33, mb_32_12, mb_33_13, mb_16_36, mb_36_16, mb_20_40, mb_40_20, mb_22_42, mb_23_43, mb_42_22, mb_43_23, mb_56_57, md_ic_eq, md_ic_ne, md_ic_lt, md_ic_ge, md_ic_gt, md_ic_le, md_if_eq, md_if_ne, md_if_lt, md_if_ge, md_if_gt, md_if_le, mz_g59_0, mz_g59_1, mz_g59_2, mz_g59_3, mz_g59_4, mz_p59_4, mz_g59_5, mz_p59_5, mz_g59_6, mz_p59_6, mz_g59_7, mz_p59_7, mz_g59_8, mz_p59_8, mz_g59_9, mz_p59_9, mz_g59_10, mz_p59_10, mz_g59_11, mz_p59_11, mz_g59_12, mz_p59_12, mz_g59_13, mz_p59_13, mz_g59_14, mz_p59_14, mz_g59_15, mz_g59_16, mz_p59_16, mz_g59_17, mz_p59_17, mz_g59_18, mz_p59_18, mz_g59_19, mz_p59_19, mz_g59_20, mz_g59_21, mz_g59_22, mz_g59_23, mz_p59_23, mz_g59_24, mz_p59_24, mz_g59_25, mz_g59_26, mz_g59_27, mz_g59_28, mz_g59_29, mz_g59_30, mz_g59_31, mz_g59_32, hg_59, tk_41 h, ↓reduceIte, Nat.reduceAdd, Nat.reduceLeDiff, Nat.reduceLT, Nat.reduceEqDiff, Nat.le_refl, Bool.and_self, decide_eq_true_eq, beq_iff_eq, true_or, or_true, and_self, true_and, and_true, reduceCtorEq, if_true, if_false, mj_args, mj_fill, mj_ent, mj_lget, mj_lset, mj_pl, mj_kill, mj_pop, mj_le4, mj_lsum, mj_lw, mj_lw_rf, mj_rcv, mj_pu, mj_c1, mj_ret, mj_rf, List.length_cons, List.length_nil, Option.toList_none, Option.toList_some, List.nil_append, List.cons_append, List.getD_cons_zero, List.getD_cons_succ, List.getD_nil, zI_add, zI_sub, Int.zero_add, Int.add_zero, Int.reduceAdd, Int.reduceSub, Int.reduceMul, Int.reduceNeg, Int.reduceMod, Int.reduceDiv, Int.zero_mul, Int.mul_zero, Int.one_mul, Int.mul_one, Int.sub_zero, gsc, gs_e, gs_i, grc, gre, eq_self, Int.reduceEq, Int.reduceLT, Int.reduceLE, Int.reduceToNat, ne_eq, not_true_eq_false, not_false_eq_true, gs_up, gr_gr, up_e, up_n, up_up, dite_eq_ite, or_self, or_false, false_or, and_false, false_and, not_false_eq_true, not_true_eq_false]
      all_goals (repeat' split) <;> first | rfl | contradiction | (exfalso; omega) | (simp (disch := omega) only [if_pos, if_neg]; done) | (simp only [*, if_true, if_false]; done) | (simp_all; done) | (refine mq_i ?_ rfl; omega) | fail "left"
    · rw [if_neg (by omega), if_pos rfl]
      rcases cb with c | c
      · rw [c] at qc ⊢
        simp (maxSteps := 2000000) (disch := first | assumption | omega | (and_intros <;> first | assumption | omega) | (simp (disch := omega) only [gre, grc, up_e, up_n] <;> first | assumption | omega | (and_intros <;> first | assumption | omega)) | fail) only [B_271_0, B_271_1, B_271_2, B_271_3, B_271_4, B_271_5, B_271_6, B_271_7, B_271_8, B_271_9, B_271_10, B_271_11, B_271_12, B_271_13, B_271_14, B_271_15, B_271_16, B_271_17, B_271_18, C_271, ms_ldc, ms_istore, ms_lstore, ms_astore, ms_nop, ms_jsr, ms_goto, ms_ifnull, ms_ifnonnull, ms_tsw, ms_lsw, ms_areturn, mk_invokevirtual, mk_invokespecial, mk_invokestatic, mk_builtin, ms_dup, ms_pop, ms_dup2, bd_s, bd_n, bd_d, bd_i, mz_il0, mz_il1, mz_il2, mz_il3, mz_il4, mz_il5, mz_il6, mz_il7, mz_il8, mz_il9, mz_il10, mz_il11, mz_ll1, mz_ll2, mz_ll3, mz_ll4, mz_ll5, mz_ll6, mz_ll7, mz_ll8, mz_al0, mz_al1, mz_al2, mz_al3, mz_al4, mz_al5, mz_al6, mz_al7, mz_al8, mz_al9, mz_al10, mz_al11, mz_iinc, mz_iadd, mz_isub, mz_imul, mz_ladd, mz_lsub, mz_lmul, mz_iand, mz_ior, mz_ishl, mz_ishr, mz_ineg, mz_lneg, mz_idiv, mz_irem, mz_ldiv, mz_lrem, mz_i2l, mz_l2i, mz_ic_eq_t, mz_if_eq_t, mz_ic_eq_f, mz_if_eq_f, mz_ic_ne_t, mz_if_ne_t, mz_ic_ne_f, mz_if_ne_f, mz_ic_lt_t, mz_if_lt_t, mz_ic_lt_f, mz_if_lt_f, mz_ic_ge_t, mz_if_ge_t, mz_ic_ge_f, mz_if_ge_f, mz_ic_gt_t, mz_if_gt_t, mz_ic_gt_f, mz_if_gt_f, mz_ic_le_t, mz_if_le_t, mz_ic_le_f, mz_if_le_f, mz_iret, mz_zret, mz_cret, mz_bret, mz_ret, mz_lret, mz_tswz, mz_i2c, md_lc_eq, md_lc_ne, md_lc_lt, md_lc_ge, md_lc_gt, md_lc_le, mb_max, mb_min, mb_lmax, mb_lmin, mb_6_26, mb_7_27, mb_26_6, mb_27_7, mb_10_30, mb_30_10, mb_10_45, mb_10_20, mb_20_10, mb_10_10, mb_45_45, mb_12_32, mb_13_33, mb_32_12, mb_33_13, mb_16_36, mb_36_16, mb_20_40, mb_40_20, mb_22_42, mb_23_43, mb_42_22, mb_43_23, mb_56_57, md_ic_eq, md_ic_ne, md_ic_lt, md_ic_ge, md_ic_gt, md_ic_le, md_if_eq, md_if_ne, md_if_lt, md_if_ge, md_if_gt, md_if_le, mz_g59_0, mz_g59_1, mz_g59_2, mz_g59_3, mz_g59_4, mz_p59_4, mz_g59_5, mz_p59_5, mz_g59_6, mz_p59_6, mz_g59_7, mz_p59_7, mz_g59_8, mz_p59_8, mz_g59_9, mz_p59_9, mz_g59_10, mz_p59_10, mz_g59_11, mz_p59_11, mz_g59_12, mz_p59_12, mz_g59_13, mz_p59_13, mz_g59_14, mz_p59_14, mz_g59_15, mz_g59_16, mz_p59_16, mz_g59_17, mz_p59_17, mz_g59_18, mz_p59_18, mz_g59_19, mz_p59_19, mz_g59_20, mz_g59_21, mz_g59_22, mz_g59_23, mz_p59_23, mz_g59_24, mz_p59_24, mz_g59_25, mz_g59_26, mz_g59_27, mz_g59_28, mz_g59_29, mz_g59_30, mz_g59_31, mz_g59_32, hg_59, m_w4, m_is_10 h r, qc, ↓reduceIte, Nat.reduceAdd, Nat.reduceLeDiff, Nat.reduceLT, Nat.reduceEqDiff, Nat.le_refl, Bool.and_self, decide_eq_true_eq, beq_iff_eq, true_or, or_true, and_self, true_and, and_true, reduceCtorEq, if_true, if_false, mj_args, mj_fill, mj_ent, mj_lget, mj_lset, mj_pl, mj_kill, mj_pop, mj_le4, mj_lsum, mj_lw, mj_lw_rf, mj_rcv, mj_pu, mj_c1, mj_ret, mj_rf, List.length_cons, List.length_nil, Option.toList_none, Option.toList_some, List.nil_append, List.cons_append, List.getD_cons_zero, List.getD_cons_succ, List.getD_nil, zI_add, zI_sub, Int.zero_add, Int.add_zero, Int.reduceAdd, Int.reduceSub, Int.reduceMul, Int.reduceNeg, Int.reduceMod, Int.reduceDiv, Int.zero_mul, Int.mul_zero, Int.one_mul, Int.mul_one, Int.sub_zero, gsc, gs_e, gs_i, grc, gre, eq_self, Int.reduceEq, Int.reduceLT, Int.reduceLE, Int.reduceToNat, ne_eq, not_true_eq_false, not_false_eq_true, gs_up, gr_gr, up_e, up_n, up_up, dite_eq_ite, or_self, or_false, false_or, and_false, false_and, not_false_eq_true, not_true_eq_false]
        all_goals (repeat' split) <;> first | rfl | contradiction | (exfalso; omega) | (simp (disch := omega) only [if_pos, if_neg]; done) | (simp only [*, if_true, if_false]; done) | (simp_all; done) | (refine mq_i ?_ rfl; omega) | fail "left"
      · rw [c] at qc ⊢
        simp (maxSteps := 2000000) (disch := first | assumption | omega | (and_intros <;> first | assumption | omega) | (simp (disch := omega) only [gre, grc, up_e, up_n] <;> first | assumption | omega | (and_intros <;> first | assumption | omega)) | fail) only [B_271_0, B_271_1, B_271_2, B_271_3, B_271_4, B_271_5, B_271_6, B_271_7, B_271_8, B_271_9, B_271_10, B_271_11, B_271_12, B_271_13, B_271_14, B_271_15, B_271_16, B_271_17, B_271_18, C_271, ms_ldc, ms_istore, ms_lstore, ms_astore, ms_nop, ms_jsr, ms_goto, ms_ifnull, ms_ifnonnull, ms_tsw, ms_lsw, ms_areturn, mk_invokevirtual, mk_invokespecial, mk_invokestatic, mk_builtin, ms_dup, ms_pop, ms_dup2, bd_s, bd_n, bd_d, bd_i, mz_il0, mz_il1, mz_il2, mz_il3, mz_il4, mz_il5, mz_il6, mz_il7, mz_il8, mz_il9, mz_il10, mz_il11, mz_ll1, mz_ll2, mz_ll3, mz_ll4, mz_ll5, mz_ll6, mz_ll7, mz_ll8, mz_al0, mz_al1, mz_al2, mz_al3, mz_al4, mz_al5, mz_al6, mz_al7, mz_al8, mz_al9, mz_al10, mz_al11, mz_iinc, mz_iadd, mz_isub, mz_imul, mz_ladd, mz_lsub, mz_lmul, mz_iand, mz_ior, mz_ishl, mz_ishr, mz_ineg, mz_lneg, mz_idiv, mz_irem, mz_ldiv, mz_lrem, mz_i2l, mz_l2i, mz_ic_eq_t, mz_if_eq_t, mz_ic_eq_f, mz_if_eq_f, mz_ic_ne_t, mz_if_ne_t, mz_ic_ne_f, mz_if_ne_f, mz_ic_lt_t, mz_if_lt_t, mz_ic_lt_f, mz_if_lt_f, mz_ic_ge_t, mz_if_ge_t, mz_ic_ge_f, mz_if_ge_f, mz_ic_gt_t, mz_if_gt_t, mz_ic_gt_f, mz_if_gt_f, mz_ic_le_t, mz_if_le_t, mz_ic_le_f, mz_if_le_f, mz_iret, mz_zret, mz_cret, mz_bret, mz_ret, mz_lret, mz_tswz, mz_i2c, md_lc_eq, md_lc_ne, md_lc_lt, md_lc_ge, md_lc_gt, md_lc_le, mb_max, mb_min, mb_lmax, mb_lmin, mb_6_26, mb_7_27, mb_26_6, mb_27_7, mb_10_30, mb_30_10, mb_10_45, mb_10_20, mb_20_10, mb_10_10, mb_45_45, mb_12_32, mb_13_33, mb_32_12, mb_33_13, mb_16_36, mb_36_16, mb_20_40, mb_40_20, mb_22_42, mb_23_43, mb_42_22, mb_43_23, mb_56_57, md_ic_eq, md_ic_ne, md_ic_lt, md_ic_ge, md_ic_gt, md_ic_le, md_if_eq, md_if_ne, md_if_lt, md_if_ge, md_if_gt, md_if_le, mz_g59_0, mz_g59_1, mz_g59_2, mz_g59_3, mz_g59_4, mz_p59_4, mz_g59_5, mz_p59_5, mz_g59_6, mz_p59_6, mz_g59_7, mz_p59_7, mz_g59_8, mz_p59_8, mz_g59_9, mz_p59_9, mz_g59_10, mz_p59_10, mz_g59_11, mz_p59_11, mz_g59_12, mz_p59_12, mz_g59_13, mz_p59_13, mz_g59_14, mz_p59_14, mz_g59_15, mz_g59_16, mz_p59_16, mz_g59_17, mz_p59_17, mz_g59_18, mz_p59_18, mz_g59_19, mz_p59_19, mz_g59_20, mz_g59_21, mz_g59_22, mz_g59_23, mz_p59_23, mz_g59_24, mz_p59_24, mz_g59_25, mz_g59_26, mz_g59_27, mz_g59_28, mz_g59_29, mz_g59_30, mz_g59_31, mz_g59_32, hg_59, m_w4, m_is_10 h r, qc, ↓reduceIte, Nat.reduceAdd, Nat.reduceLeDiff, Nat.reduceLT, Nat.reduceEqDiff, Nat.le_refl, Bool.and_self, decide_eq_true_eq, beq_iff_eq, true_or, or_true, and_self, true_and, and_true, reduceCtorEq, if_true, if_false, mj_args, mj_fill, mj_ent, mj_lget, mj_lset, mj_pl, mj_kill, mj_pop, mj_le4, mj_lsum, mj_lw, mj_lw_rf, mj_rcv, mj_pu, mj_c1, mj_ret, mj_rf, List.length_cons, List.length_nil, Option.toList_none, Option.toList_some, List.nil_append, List.cons_append, List.getD_cons_zero, List.getD_cons_succ, List.getD_nil, zI_add, zI_sub, Int.zero_add, Int.add_zero, Int.reduceAdd, Int.reduceSub, Int.reduceMul, Int.reduceNeg, Int.reduceMod, Int.reduceDiv, Int.zero_mul, Int.mul_zero, Int.one_mul, Int.mul_one, Int.sub_zero, gsc, gs_e, gs_i, grc, gre, eq_self, Int.reduceEq, Int.reduceLT, Int.reduceLE, Int.reduceToNat, ne_eq, not_true_eq_false, not_false_eq_true, gs_up, gr_gr, up_e, up_n, up_up, dite_eq_ite, or_self, or_false, false_or, and_false, false_and, not_false_eq_true, not_true_eq_false]
        all_goals (repeat' split) <;> first | rfl | contradiction | (exfalso; omega) | (simp (disch := omega) only [if_pos, if_neg]; done) | (simp only [*, if_true, if_false]; done) | (simp_all; done) | (refine mq_i ?_ rfl; omega) | fail "left"
    · rw [if_neg (by omega), if_neg (by omega), if_pos rfl]
      simp (maxSteps := 2000000) (disch := first | assumption | omega | (and_intros <;> first | assumption | omega) | (simp (disch := omega) only [gre, grc, up_e, up_n] <;> first | assumption | omega | (and_intros <;> first | assumption | omega)) | fail) only [B_271_0, B_271_1, B_271_2, B_271_3, B_271_4, B_271_5, B_271_6, B_271_7, B_271_8, B_271_9, B_271_10, B_271_11, B_271_12, B_271_13, B_271_14, B_271_15, B_271_16, B_271_17, B_271_18, C_271, ms_ldc, ms_istore, ms_lstore, ms_astore, ms_nop, ms_jsr, ms_goto, ms_ifnull, ms_ifnonnull, ms_tsw, ms_lsw, ms_areturn, mk_invokevirtual, mk_invokespecial, mk_invokestatic, mk_builtin, ms_dup, ms_pop, ms_dup2, bd_s, bd_n, bd_d, bd_i, mz_il0, mz_il1, mz_il2, mz_il3, mz_il4, mz_il5, mz_il6, mz_il7, mz_il8, mz_il9, mz_il10, mz_il11, mz_ll1, mz_ll2, mz_ll3, mz_ll4, mz_ll5, mz_ll6, mz_ll7, mz_ll8, mz_al0, mz_al1, mz_al2, mz_al3, mz_al4, mz_al5, mz_al6, mz_al7, mz_al8, mz_al9, mz_al10, mz_al11, mz_iinc, mz_iadd, mz_isub, mz_imul, mz_ladd, mz_lsub, mz_lmul, mz_iand, mz_ior, mz_ishl, mz_ishr, mz_ineg, mz_lneg, mz_idiv, mz_irem, mz_ldiv, mz_lrem, mz_i2l, mz_l2i, mz_ic_eq_t, mz_if_eq_t, mz_ic_eq_f, mz_if_eq_f, mz_ic_ne_t, mz_if_ne_t, mz_ic_ne_f, mz_if_ne_f, mz_ic_lt_t, mz_if_lt_t, mz_ic_lt_f, mz_if_lt_f, mz_ic_ge_t, mz_if_ge_t, mz_ic_ge_f, mz_if_ge_f, mz_ic_gt_t, mz_if_gt_t, mz_ic_gt_f, mz_if_gt_f, mz_ic_le_t, mz_if_le_t, mz_ic_le_f, mz_if_le_f, mz_iret, mz_zret, mz_cret, mz_bret, mz_ret, mz_lret, mz_tswz, mz_i2c, md_lc_eq, md_lc_ne, md_lc_lt, md_lc_ge, md_lc_gt, md_lc_le, mb_max, mb_min, mb_lmax, mb_lmin, mb_6_26, mb_7_27, mb_26_6, mb_27_7, mb_10_30, mb_30_10, mb_10_45, mb_10_20, mb_20_10, mb_10_10, mb_45_45, mb_12_32, mb_13_33, mb_32_12, mb_33_13, mb_16_36, mb_36_16, mb_20_40, mb_40_20, mb_22_42, mb_23_43, mb_42_22, mb_43_23, mb_56_57, md_ic_eq, md_ic_ne, md_ic_lt, md_ic_ge, md_ic_gt, md_ic_le, md_if_eq, md_if_ne, md_if_lt, md_if_ge, md_if_gt, md_if_le, mz_g59_0, mz_g59_1, mz_g59_2, mz_g59_3, mz_g59_4, mz_p59_4, mz_g59_5, mz_p59_5, mz_g59_6, mz_p59_6, mz_g59_7, mz_p59_7, mz_g59_8, mz_p59_8, mz_g59_9, mz_p59_9, mz_g59_10, mz_p59_10, mz_g59_11, mz_p59_11, mz_g59_12, mz_p59_12, mz_g59_13, mz_p59_13, mz_g59_14, mz_p59_14, mz_g59_15, mz_g59_16, mz_p59_16, mz_g59_17, mz_p59_17, mz_g59_18, mz_p59_18, mz_g59_19, mz_p59_19, mz_g59_20, mz_g59_21, mz_g59_22, mz_g59_23, mz_p59_23, mz_g59_24, mz_p59_24, mz_g59_25, mz_g59_26, mz_g59_27, mz_g59_28, mz_g59_29, mz_g59_30, mz_g59_31, mz_g59_32, hg_59, m_w4, m_is_11 h r, ↓reduceIte, Nat.reduceAdd, Nat.reduceLeDiff, Nat.reduceLT, Nat.reduceEqDiff, Nat.le_refl, Bool.and_self, decide_eq_true_eq, beq_iff_eq, true_or, or_true, and_self, true_and, and_true, reduceCtorEq, if_true, if_false, mj_args, mj_fill, mj_ent, mj_lget, mj_lset, mj_pl, mj_kill, mj_pop, mj_le4, mj_lsum, mj_lw, mj_lw_rf, mj_rcv, mj_pu, mj_c1, mj_ret, mj_rf, List.length_cons, List.length_nil, Option.toList_none, Option.toList_some, List.nil_append, List.cons_append, List.getD_cons_zero, List.getD_cons_succ, List.getD_nil, zI_add, zI_sub, Int.zero_add, Int.add_zero, Int.reduceAdd, Int.reduceSub, Int.reduceMul, Int.reduceNeg, Int.reduceMod, Int.reduceDiv, Int.zero_mul, Int.mul_zero, Int.one_mul, Int.mul_one, Int.sub_zero, gsc, gs_e, gs_i, grc, gre, eq_self, Int.reduceEq, Int.reduceLT, Int.reduceLE, Int.reduceToNat, ne_eq, not_true_eq_false, not_false_eq_true, gs_up, gr_gr, up_e, up_n, up_up, dite_eq_ite, or_self, or_false, false_or, and_false, false_and, not_false_eq_true, not_true_eq_false]
      all_goals (repeat' split) <;> first | rfl | contradiction | (exfalso; omega) | (simp (disch := omega) only [if_pos, if_neg]; done) | (simp only [*, if_true, if_false]; done) | (simp_all; done) | (refine mq_i ?_ rfl; omega) | fail "left"
    · rw [if_neg (by omega), if_neg (by omega), if_neg (by omega), if_pos rfl]
      simp (maxSteps := 2000000) (disch := first | assumption | omega | (and_intros <;> first | assumption | omega) | (simp (disch := omega) only [gre, grc, up_e, up_n] <;> first | assumption | omega | (and_intros <;> first | assumption | omega)) | fail) only [B_271_0, B_271_1, B_271_2, B_271_3, B_271_4, B_271_5, B_271_6, B_271_7, B_271_8, B_271_9, B_271_10, B_271_11, B_271_12, B_271_13, B_271_14, B_271_15, B_271_16, B_271_17, B_271_18, C_271, ms_ldc, ms_istore, ms_lstore, ms_astore, ms_nop, ms_jsr, ms_goto, ms_ifnull, ms_ifnonnull, ms_tsw, ms_lsw, ms_areturn, mk_invokevirtual, mk_invokespecial, mk_invokestatic, mk_builtin, ms_dup, ms_pop, ms_dup2, bd_s, bd_n, bd_d, bd_i, mz_il0, mz_il1, mz_il2, mz_il3, mz_il4, mz_il5, mz_il6, mz_il7, mz_il8, mz_il9, mz_il10, mz_il11, mz_ll1, mz_ll2, mz_ll3, mz_ll4, mz_ll5, mz_ll6, mz_ll7, mz_ll8, mz_al0, mz_al1, mz_al2, mz_al3, mz_al4, mz_al5, mz_al6, mz_al7, mz_al8, mz_al9, mz_al10, mz_al11, mz_iinc, mz_iadd, mz_isub, mz_imul, mz_ladd, mz_lsub, mz_lmul, mz_iand, mz_ior, mz_ishl, mz_ishr, mz_ineg, mz_lneg, mz_idiv, mz_irem, mz_ldiv, mz_lrem, mz_i2l, mz_l2i, mz_ic_eq_t, mz_if_eq_t, mz_ic_eq_f, mz_if_eq_f, mz_ic_ne_t, mz_if_ne_t, mz_ic_ne_f, mz_if_ne_f, mz_ic_lt_t, mz_if_lt_t, mz_ic_lt_f, mz_if_lt_f, mz_ic_ge_t, mz_if_ge_t, mz_ic_ge_f, mz_if_ge_f, mz_ic_gt_t, mz_if_gt_t, mz_ic_gt_f, mz_if_gt_f, mz_ic_le_t, mz_if_le_t, mz_ic_le_f, mz_if_le_f, mz_iret, mz_zret, mz_cret, mz_bret, mz_ret, mz_lret, mz_tswz, mz_i2c, md_lc_eq, md_lc_ne, md_lc_lt, md_lc_ge, md_lc_gt, md_lc_le, mb_max, mb_min, mb_lmax, mb_lmin, mb_6_26, mb_7_27, mb_26_6, mb_27_7, mb_10_30, mb_30_10, mb_10_45, mb_10_20, mb_20_10, mb_10_10, mb_45_45, mb_12_32, mb_13_33, mb_32_12, mb_33_13, mb_16_36, mb_36_16, mb_20_40, mb_40_20, mb_22_42, mb_23_43, mb_42_22, mb_43_23, mb_56_57, md_ic_eq, md_ic_ne, md_ic_lt, md_ic_ge, md_ic_gt, md_ic_le, md_if_eq, md_if_ne, md_if_lt, md_if_ge, md_if_gt, md_if_le, mz_g59_0, mz_g59_1, mz_g59_2, mz_g59_3, mz_g59_4, mz_p59_4, mz_g59_5, mz_p59_5, mz_g59_6, mz_p59_6, mz_g59_7, mz_p59_7, mz_g59_8, mz_p59_8, mz_g59_9, mz_p59_9, mz_g59_10, mz_p59_10, mz_g59_11, mz_p59_11, mz_g59_12, mz_p59_12, mz_g59_13, mz_p59_13, mz_g59_14, mz_p59_14, mz_g59_15, mz_g59_16, mz_p59_16, mz_g59_17, mz_p59_17, mz_g59_18, mz_p59_18, mz_g59_19, mz_p59_19, mz_g59_20, mz_g59_21, mz_g59_22, mz_g59_23, mz_p59_23, mz_g59_24, mz_p59_24, mz_g59_25, mz_g59_26, mz_g59_27, mz_g59_28, mz_g59_29, mz_g59_30, mz_g59_31, mz_g59_32, hg_59, m_w3, m_is_12 h r, ↓reduceIte, Nat.reduceAdd, Nat.reduceLeDiff, Nat.reduceLT, Nat.reduceEqDiff, Nat.le_refl, Bool.and_self, decide_eq_true_eq, beq_iff_eq, true_or, or_true, and_self, true_and, and_true, reduceCtorEq, if_true, if_false, mj_args, mj_fill, mj_ent, mj_lget, mj_lset, mj_pl, mj_kill, mj_pop, mj_le4, mj_lsum, mj_lw, mj_lw_rf, mj_rcv, mj_pu, mj_c1, mj_ret, mj_rf, List.length_cons, List.length_nil, Option.toList_none, Option.toList_some, List.nil_append, List.cons_append, List.getD_cons_zero, List.getD_cons_succ, List.getD_nil, zI_add, zI_sub, Int.zero_add, Int.add_zero, Int.reduceAdd, Int.reduceSub, Int.reduceMul, Int.reduceNeg, Int.reduceMod, Int.reduceDiv, Int.zero_mul, Int.mul_zero, Int.one_mul, Int.mul_one, Int.sub_zero, gsc, gs_e, gs_i, grc, gre, eq_self, Int.reduceEq, Int.reduceLT, Int.reduceLE, Int.reduceToNat, ne_eq, not_true_eq_false, not_false_eq_true, gs_up, gr_gr, up_e, up_n, up_up, dite_eq_ite, or_self, or_false, false_or, and_false, false_and, not_false_eq_true, not_true_eq_false]
      all_goals (repeat' split) <;> first | rfl | contradiction | (exfalso; omega) | (simp (disch := omega) only [if_pos, if_neg]; done) | (simp only [*, if_true, if_false]; done) | (simp_all; done) | (refine mq_i ?_ rfl; omega) | fail "left"
theorem m_isOf {nm so : Int} {h : mj_H} (h0 : 0 ≤ nm ∧ nm ≤ 7) (hs : G 59 14 = so) (hs2 : 0 ≤ so ∧ so ≤ 1) : mj_ca E mj_bi (d + 1) 260 [.ref 59, .int (zI nm)] (mj_HN G ro tl) = some (some (.int (zI (if (nm = 6 ∧ so = 1) ∨ (nm = 7 ∧ so = 0) then 0 else 1))), (mj_HN G ro tl)) := by
  by_cases y : (nm = 6 ∧ so = 1) ∨ (nm = 7 ∧ so = 0)
  · rw [if_pos y]
    simp (maxSteps := 2000000) (disch := first | assumption | omega | (and_intros <;> first | assumption | omega) | (simp (disch := omega) only [gre, grc, up_e, up_n] <;> first | assumption | omega | (and_intros <;> first | assumption | omega)) | fail) only [B_260_0, B_260_1, B_260_2, B_260_3, B_260_4, B_260_5, B_260_6, B_260_7, C_260, ms_ldc, ms_istore, ms_lstore, ms_astore, ms_nop, ms_jsr, ms_goto, ms_ifnull, ms_ifnonnull, ms_tsw, ms_lsw, ms_areturn, mk_invokevirtual, mk_invokespecial, mk_invokestatic, mk_builtin, ms_dup, ms_pop, ms_dup2, bd_s, bd_n, bd_d, bd_i, mz_il0, mz_il1, mz_il2, mz_il3, mz_il4, mz_il5, mz_il6, mz_il7, mz_il8, mz_il9, mz_il10, mz_il11, mz_ll1, mz_ll2, mz_ll3, mz_ll4, mz_ll5, mz_ll6, mz_ll7, mz_ll8, mz_al0, mz_al1, mz_al2, mz_al3, mz_al4, mz_al5, mz_al6, mz_al7, mz_al8, mz_al9, mz_al10, mz_al11, mz_iinc, mz_iadd, mz_isub, mz_imul, mz_ladd, mz_lsub, mz_lmul, mz_iand, mz_ior, mz_ishl, mz_ishr, mz_ineg, mz_lneg, mz_idiv, mz_irem, mz_ldiv, mz_lrem, mz_i2l, mz_l2i, mz_ic_eq_t, mz_if_eq_t, mz_ic_eq_f, mz_if_eq_f, mz_ic_ne_t, mz_if_ne_t, mz_ic_ne_f, mz_if_ne_f, mz_ic_lt_t, mz_if_lt_t, mz_ic_lt_f, mz_if_lt_f, mz_ic_ge_t, mz_if_ge_t, mz_ic_ge_f, mz_if_ge_f, mz_ic_gt_t, mz_if_gt_t, mz_ic_gt_f, mz_if_gt_f, mz_ic_le_t, mz_if_le_t, mz_ic_le_f, mz_if_le_f, mz_iret, mz_zret, mz_cret, mz_bret, mz_ret, mz_lret, mz_tswz, mz_i2c, md_lc_eq, md_lc_ne, md_lc_lt, md_lc_ge, md_lc_gt, md_lc_le, mb_max, mb_min, mb_lmax, mb_lmin, mb_6_26, mb_7_27, mb_26_6, mb_27_7, mb_10_30, mb_30_10, mb_10_45, mb_10_20, mb_20_10, mb_10_10, mb_45_45, mb_12_32, mb_13_33, mb_32_12, mb_33_13, mb_16_36, mb_36_16, mb_20_40, mb_40_20, mb_22_42, mb_23_43, mb_42_22, mb_43_23, mb_56_57, md_ic_eq, md_ic_ne, md_ic_lt, md_ic_ge, md_ic_gt, md_ic_le, md_if_eq, md_if_ne, md_if_lt, md_if_ge, md_if_gt, md_if_le, mz_g59_0, mz_g59_1, mz_g59_2, mz_g59_3, mz_g59_4, mz_p59_4, mz_g59_5, mz_p59_5, mz_g59_6, mz_p59_6, mz_g59_7, mz_p59_7, mz_g59_8, mz_p59_8, mz_g59_9, mz_p59_9, mz_g59_10, mz_p59_10, mz_g59_11, mz_p59_11, mz_g59_12, mz_p59_12, mz_g59_13, mz_p59_13, mz_g59_14, mz_p59_14, mz_g59_15, mz_g59_16, mz_p59_16, mz_g59_17, mz_p59_17, mz_g59_18, mz_p59_18, mz_g59_19, mz_p59_19, mz_g59_20, mz_g59_21, mz_g59_22, mz_g59_23, mz_p59_23, mz_g59_24, mz_p59_24, mz_g59_25, mz_g59_26, mz_g59_27, mz_g59_28, mz_g59_29, mz_g59_30, mz_g59_31, mz_g59_32, hg_59, hs, ↓reduceIte, Nat.reduceAdd, Nat.reduceLeDiff, Nat.reduceLT, Nat.reduceEqDiff, Nat.le_refl, Bool.and_self, decide_eq_true_eq, beq_iff_eq, true_or, or_true, and_self, true_and, and_true, reduceCtorEq, if_true, if_false, mj_args, mj_fill, mj_ent, mj_lget, mj_lset, mj_pl, mj_kill, mj_pop, mj_le4, mj_lsum, mj_lw, mj_lw_rf, mj_rcv, mj_pu, mj_c1, mj_ret, mj_rf, List.length_cons, List.length_nil, Option.toList_none, Option.toList_some, List.nil_append, List.cons_append, List.getD_cons_zero, List.getD_cons_succ, List.getD_nil, zI_add, zI_sub, Int.zero_add, Int.add_zero, Int.reduceAdd, Int.reduceSub, Int.reduceMul, Int.reduceNeg, Int.reduceMod, Int.reduceDiv, Int.zero_mul, Int.mul_zero, Int.one_mul, Int.mul_one, Int.sub_zero, gsc, gs_e, gs_i, grc, gre, eq_self, Int.reduceEq, Int.reduceLT, Int.reduceLE, Int.reduceToNat, ne_eq, not_true_eq_false, not_false_eq_true, gs_up, gr_gr, up_e, up_n, up_up, dite_eq_ite, or_self, or_false, false_or, and_false, false_and, not_false_eq_true, not_true_eq_false]
    all_goals (repeat' split) <;> first | rfl | contradiction | (exfalso; omega) | (simp (disch := omega) only [if_pos, if_neg]; done) | (simp only [*, if_true, if_false]; done) | (simp_all; done) | (refine mq_i ?_ rfl; omega) | fail "left"
  · rw [if_neg y]
    simp (maxSteps := 2000000) (disch := first | assumption | omega | (and_intros <;> first | assumption | omega) | (simp (disch := omega) only [gre, grc, up_e, up_n] <;> first | assumption | omega | (and_intros <;> first | assumption | omega)) | fail) only [B_260_0, B_260_1, B_260_2, B_260_3, B_260_4, B_260_5, B_260_6, B_260_7, C_260, ms_ldc, ms_istore, ms_lstore, ms_astore, ms_nop, ms_jsr, ms_goto, ms_ifnull, ms_ifnonnull, ms_tsw, ms_lsw, ms_areturn, mk_invokevirtual, mk_invokespecial, mk_invokestatic, mk_builtin, ms_dup, ms_pop, ms_dup2, bd_s, bd_n, bd_d, bd_i, mz_il0, mz_il1, mz_il2, mz_il3, mz_il4, mz_il5, mz_il6, mz_il7, mz_il8, mz_il9, mz_il10, mz_il11, mz_ll1, mz_ll2, mz_ll3, mz_ll4, mz_ll5, mz_ll6, mz_ll7, mz_ll8, mz_al0, mz_al1, mz_al2, mz_al3, mz_al4, mz_al5, mz_al6, mz_al7, mz_al8, mz_al9, mz_al10, mz_al11, mz_iinc, mz_iadd, mz_isub, mz_imul, mz_ladd, mz_lsub, mz_lmul, mz_iand, mz_ior, mz_ishl, mz_ishr, mz_ineg, mz_lneg, mz_idiv, mz_irem, mz_ldiv, mz_lrem, mz_i2l, mz_l2i, mz_ic_eq_t, mz_if_eq_t, mz_ic_eq_f, mz_if_eq_f, mz_ic_ne_t, mz_if_ne_t, mz_ic_ne_f, mz_if_ne_f, mz_ic_lt_t, mz_if_lt_t, mz_ic_lt_f, mz_if_lt_f, mz_ic_ge_t, mz_if_ge_t, mz_ic_ge_f, mz_if_ge_f, mz_ic_gt_t, mz_if_gt_t, mz_ic_gt_f, mz_if_gt_f, mz_ic_le_t, mz_if_le_t, mz_ic_le_f, mz_if_le_f, mz_iret, mz_zret, mz_cret, mz_bret, mz_ret, mz_lret, mz_tswz, mz_i2c, md_lc_eq, md_lc_ne, md_lc_lt, md_lc_ge, md_lc_gt, md_lc_le, mb_max, mb_min, mb_lmax, mb_lmin, mb_6_26, mb_7_27, mb_26_6, mb_27_7, mb_10_30, mb_30_10, mb_10_45, mb_10_20, mb_20_10, mb_10_10, mb_45_45, mb_12_32, mb_13_33, mb_32_12, mb_33_13, mb_16_36, mb_36_16, mb_20_40, mb_40_20, mb_22_42, mb_23_43, mb_42_22, mb_43_23, mb_56_57, md_ic_eq, md_ic_ne, md_ic_lt, md_ic_ge, md_ic_gt, md_ic_le, md_if_eq, md_if_ne, md_if_lt, md_if_ge, md_if_gt, md_if_le, mz_g59_0, mz_g59_1, mz_g59_2, mz_g59_3, mz_g59_4, mz_p59_4, mz_g59_5, mz_p59_5, mz_g59_6, mz_p59_6, mz_g59_7, mz_p59_7, mz_g59_8, mz_p59_8, mz_g59_9, mz_p59_9, mz_g59_10, mz_p59_10, mz_g59_11, mz_p59_11, mz_g59_12, mz_p59_12, mz_g59_13, mz_p59_13, mz_g59_14, mz_p59_14, mz_g59_15, mz_g59_16, mz_p59_16, mz_g59_17, mz_p59_17, mz_g59_18, mz_p59_18, mz_g59_19, mz_p59_19, mz_g59_20, mz_g59_21, mz_g59_22, mz_g59_23, mz_p59_23, mz_g59_24, mz_p59_24, mz_g59_25, mz_g59_26, mz_g59_27, mz_g59_28, mz_g59_29, mz_g59_30, mz_g59_31, mz_g59_32, hg_59, hs, ↓reduceIte, Nat.reduceAdd, Nat.reduceLeDiff, Nat.reduceLT, Nat.reduceEqDiff, Nat.le_refl, Bool.and_self, decide_eq_true_eq, beq_iff_eq, true_or, or_true, and_self, true_and, and_true, reduceCtorEq, if_true, if_false, mj_args, mj_fill, mj_ent, mj_lget, mj_lset, mj_pl, mj_kill, mj_pop, mj_le4, mj_lsum, mj_lw, mj_lw_rf, mj_rcv, mj_pu, mj_c1, mj_ret, mj_rf, List.length_cons, List.length_nil, Option.toList_none, Option.toList_some, List.nil_append, List.cons_append, List.getD_cons_zero, List.getD_cons_succ, List.getD_nil, zI_add, zI_sub, Int.zero_add, Int.add_zero, Int.reduceAdd, Int.reduceSub, Int.reduceMul, Int.reduceNeg, Int.reduceMod, Int.reduceDiv, Int.zero_mul, Int.mul_zero, Int.one_mul, Int.mul_one, Int.sub_zero, gsc, gs_e, gs_i, grc, gre, eq_self, Int.reduceEq, Int.reduceLT, Int.reduceLE, Int.reduceToNat, ne_eq, not_true_eq_false, not_false_eq_true, gs_up, gr_gr, up_e, up_n, up_up, dite_eq_ite, or_self, or_false, false_or, and_false, false_and, not_false_eq_true, not_true_eq_false]
    all_goals (repeat' split) <;> first | rfl | contradiction | (exfalso; omega) | (simp (disch := omega) only [if_pos, if_neg]; done) | (simp only [*, if_true, if_false]; done) | (simp_all; done) | (refine mq_i ?_ rfl; omega) | fail "left"
end P599
