/-! what the library does in one step; longs' comparisons; what lies outside -/
theorem mb_max {a b : Int} {h : mj_H} (h0 : -2147483648 ≤ a ∧ a ≤ 2147483647 ∧ -2147483648 ≤ b ∧ b ≤ 2147483647) : mj_bi 0 [.int (zI a), .int (zI b)] h = some (some (.int (zI (max a b))), h) := by
  show some (some (Value.int (if zI a < zI b then zI b else zI a)), h) = _
  simp only [zI_lt h0]
  split
  · rw [show max a b = b by omega]
  · rw [show max a b = a by omega]
theorem mb_min {a b : Int} {h : mj_H} (h0 : -2147483648 ≤ a ∧ a ≤ 2147483647 ∧ -2147483648 ≤ b ∧ b ≤ 2147483647) : mj_bi 1 [.int (zI a), .int (zI b)] h = some (some (.int (zI (min a b))), h) := by
  show some (some (Value.int (if zI b < zI a then zI b else zI a)), h) = _
  simp only [zI_lt (show -2147483648 ≤ b ∧ b ≤ 2147483647 ∧ -2147483648 ≤ a ∧ a ≤ 2147483647 by omega)]
  split
  · rw [show min a b = b by omega]
  · rw [show min a b = a by omega]
theorem mb_lmax {a b : Int} {h : mj_H} (h0 : -9223372036854775808 ≤ a ∧ a ≤ 9223372036854775807 ∧ -9223372036854775808 ≤ b ∧ b ≤ 9223372036854775807) : mj_bi 2 [.long (lI a), .long (lI b)] h = some (some (.long (lI (max a b))), h) := by
  show some (some (Value.long (if lI b < lI a then lI a else lI b)), h) = _
  simp only [lI_lt (show -9223372036854775808 ≤ b ∧ b ≤ 9223372036854775807 ∧ -9223372036854775808 ≤ a ∧ a ≤ 9223372036854775807 by omega)]
  split
  · rw [show max a b = a by omega]
  · rw [show max a b = b by omega]
theorem mb_lmin {a b : Int} {h : mj_H} (h0 : -9223372036854775808 ≤ a ∧ a ≤ 9223372036854775807 ∧ -9223372036854775808 ≤ b ∧ b ≤ 9223372036854775807) : mj_bi 3 [.long (lI a), .long (lI b)] h = some (some (.long (lI (min a b))), h) := by
  show some (some (Value.long (if lI b < lI a then lI b else lI a)), h) = _
  simp only [lI_lt (show -9223372036854775808 ≤ b ∧ b ≤ 9223372036854775807 ∧ -9223372036854775808 ≤ a ∧ a ≤ 9223372036854775807 by omega)]
  split
  · rw [show min a b = b by omega]
  · rw [show min a b = a by omega]
/-- a stretch copied -/
def cpy (f g : Int → Int) (s d n : Int) : Int → Int := fun j => if d ≤ j ∧ j < d + n then f (s + (j - d)) else g j
theorem cpy_i {f g : Int → Int} {s d n j : Int} (h : d ≤ j ∧ j < d + n) : cpy f g s d n j = f (s + (j - d)) := if_pos h
theorem cpy_o {f g : Int → Int} {s d n j : Int} (h : ¬ (d ≤ j ∧ j < d + n)) : cpy f g s d n j = g j := if_neg h
theorem va_cpy_z {f g : Int → Int} {s d n : Int} (h : 0 ≤ s ∧ 0 ≤ d ∧ 0 ≤ n) : va_cpy (fun j : Nat => zI (f j)) (fun j : Nat => zI (g j)) s.toNat d.toNat n.toNat = fun j : Nat => zI (cpy f g s d n j) := by
  funext j
  unfold va_cpy cpy
  by_cases q : d ≤ (j : Int) ∧ (j : Int) < d + n
  · rw [if_pos q, if_pos (by omega)]
    have e : ((s.toNat + (j - d.toNat) : Nat) : Int) = s + ((j : Int) - d) := by omega
    show zI (f ((s.toNat + (j - d.toNat) : Nat) : Int)) = _
    rw [e]
  · rw [if_neg q, if_neg (by omega)]
theorem mb_copy {H K : mj_H} {a b na nb : Nat} {f g : Int → Int} {s d n : Int} (ha : H[a]? = some (.inl (0, na, .inl (fun j : Nat => zI (f j))))) (hb : H[b]? = some (.inl (0, nb, .inl (fun j : Nat => zI (g j))))) (hs : H.set b (.inl (0, nb, .inl (fun j : Nat => zI (cpy f g s d n j)))) = K) (h0 : 0 ≤ s ∧ 0 ≤ d ∧ 0 ≤ n ∧ s + n ≤ na ∧ d + n ≤ nb ∧ na ≤ 2147483647 ∧ nb ≤ 2147483647) : mj_bi 5 [.ref a, .int (zI s), .ref b, .int (zI d), .int (zI n)] H = some (none, K) := by
  show (match H[a]?, H[b]? with
      | some (.inl (0, n0, .inl f)), some (.inl (0, n1, .inl g)) => if 0 ≤ (zI s).toInt ∧ 0 ≤ (zI d).toInt ∧ 0 ≤ (zI n).toInt ∧ (zI s).toInt + (zI n).toInt ≤ n0 ∧ (zI d).toInt + (zI n).toInt ≤ n1 then some (none, H.set b (.inl (0, n1, .inl (va_cpy f g (zI s).toNatClampNeg (zI d).toNatClampNeg (zI n).toNatClampNeg)))) else none
      | _, _ => (none : mj_R)) = _
  rw [ha, hb]
  show (if 0 ≤ (zI s).toInt ∧ 0 ≤ (zI d).toInt ∧ 0 ≤ (zI n).toInt ∧ (zI s).toInt + (zI n).toInt ≤ na ∧ (zI d).toInt + (zI n).toInt ≤ nb then some (none, H.set b (.inl (0, nb, .inl (va_cpy (fun j : Nat => zI (f j)) (fun j : Nat => zI (g j)) (zI s).toNatClampNeg (zI d).toNatClampNeg (zI n).toNatClampNeg)))) else (none : mj_R)) = _
  rw [zI_toInt (by omega), zI_toInt (by omega), zI_toInt (by omega), if_pos (by omega), zI_cl (by omega), zI_cl (by omega), zI_cl (by omega), va_cpy_z (by omega), hs]
section MLC
variable {E : mj_E} {df : Nat → List Value} {go : Nat → mj_L → List Value → mj_H → mj_R} {call bi : Nat → List Value → mj_H → mj_R} {is : List mj_I} {loc : mj_L} {r : List Value} {h : mj_H} {x x2 : List Nat} {v v2 : Value}
theorem md_lc_eq {k : Int} {bt bf : Nat} {a b : Int} (h0 : -9223372036854775808 ≤ a ∧ a ≤ 9223372036854775807 ∧ -9223372036854775808 ≤ b ∧ b ≤ 9223372036854775807) : mj_ex E df go call bi ((.lcmp, x, v) :: (.ifCond .eq k, [bt, bf], v2) :: is) loc (.long (lI b) :: .long (lI a) :: r) h = dite (a = b) (fun _ => go bt loc r h) (fun _ => go bf loc r h) := by
  rw [mz_lcmp h0, mo_if_eq (by split <;> (try split) <;> omega)]
  by_cases h1 : a = b
  · rw [dif_pos h1, if_pos (by split <;> (try split) <;> omega)]
  · rw [dif_neg h1, if_neg (by split <;> (try split) <;> omega)]
theorem md_lc_ne {k : Int} {bt bf : Nat} {a b : Int} (h0 : -9223372036854775808 ≤ a ∧ a ≤ 9223372036854775807 ∧ -9223372036854775808 ≤ b ∧ b ≤ 9223372036854775807) : mj_ex E df go call bi ((.lcmp, x, v) :: (.ifCond .ne k, [bt, bf], v2) :: is) loc (.long (lI b) :: .long (lI a) :: r) h = dite (a = b) (fun _ => go bf loc r h) (fun _ => go bt loc r h) := by
  rw [mz_lcmp h0, mo_if_ne (by split <;> (try split) <;> omega)]
  by_cases h1 : a = b
  · rw [dif_pos h1, if_neg (by split <;> (try split) <;> omega)]
  · rw [dif_neg h1, if_pos (by split <;> (try split) <;> omega)]
theorem md_lc_lt {k : Int} {bt bf : Nat} {a b : Int} (h0 : -9223372036854775808 ≤ a ∧ a ≤ 9223372036854775807 ∧ -9223372036854775808 ≤ b ∧ b ≤ 9223372036854775807) : mj_ex E df go call bi ((.lcmp, x, v) :: (.ifCond .lt k, [bt, bf], v2) :: is) loc (.long (lI b) :: .long (lI a) :: r) h = dite (a < b) (fun _ => go bt loc r h) (fun _ => go bf loc r h) := by
  rw [mz_lcmp h0, mo_if_lt (by split <;> (try split) <;> omega)]
  by_cases h1 : a < b
  · rw [dif_pos h1, if_pos (by split <;> (try split) <;> omega)]
  · rw [dif_neg h1, if_neg (by split <;> (try split) <;> omega)]
theorem md_lc_ge {k : Int} {bt bf : Nat} {a b : Int} (h0 : -9223372036854775808 ≤ a ∧ a ≤ 9223372036854775807 ∧ -9223372036854775808 ≤ b ∧ b ≤ 9223372036854775807) : mj_ex E df go call bi ((.lcmp, x, v) :: (.ifCond .ge k, [bt, bf], v2) :: is) loc (.long (lI b) :: .long (lI a) :: r) h = dite (b ≤ a) (fun _ => go bt loc r h) (fun _ => go bf loc r h) := by
  rw [mz_lcmp h0, mo_if_ge (by split <;> (try split) <;> omega)]
  by_cases h1 : b ≤ a
  · rw [dif_pos h1, if_pos (by split <;> (try split) <;> omega)]
  · rw [dif_neg h1, if_neg (by split <;> (try split) <;> omega)]
theorem md_lc_gt {k : Int} {bt bf : Nat} {a b : Int} (h0 : -9223372036854775808 ≤ a ∧ a ≤ 9223372036854775807 ∧ -9223372036854775808 ≤ b ∧ b ≤ 9223372036854775807) : mj_ex E df go call bi ((.lcmp, x, v) :: (.ifCond .gt k, [bt, bf], v2) :: is) loc (.long (lI b) :: .long (lI a) :: r) h = dite (b < a) (fun _ => go bt loc r h) (fun _ => go bf loc r h) := by
  rw [mz_lcmp h0, mo_if_gt (by split <;> (try split) <;> omega)]
  by_cases h1 : b < a
  · rw [dif_pos h1, if_pos (by split <;> (try split) <;> omega)]
  · rw [dif_neg h1, if_neg (by split <;> (try split) <;> omega)]
theorem md_lc_le {k : Int} {bt bf : Nat} {a b : Int} (h0 : -9223372036854775808 ≤ a ∧ a ≤ 9223372036854775807 ∧ -9223372036854775808 ≤ b ∧ b ≤ 9223372036854775807) : mj_ex E df go call bi ((.lcmp, x, v) :: (.ifCond .le k, [bt, bf], v2) :: is) loc (.long (lI b) :: .long (lI a) :: r) h = dite (a ≤ b) (fun _ => go bt loc r h) (fun _ => go bf loc r h) := by
  rw [mz_lcmp h0, mo_if_le (by split <;> (try split) <;> omega)]
  by_cases h1 : a ≤ b
  · rw [dif_pos h1, if_pos (by split <;> (try split) <;> omega)]
  · rw [dif_neg h1, if_neg (by split <;> (try split) <;> omega)]
/-- a number out of the row of inverses -/
def ivf : Int → Int := fun i => if i = 1 then 1 else if i = 2 then 4 else if i = 3 then 5 else if i = 4 then 2 else if i = 5 then 3 else if i = 6 then 6 else 0
theorem mz_inv {L : Nat} {xs : Nat → Int32} {i : Int} (h0 : 0 ≤ i ∧ i < 7) : mj_ex (mj_EE L xs) df go call bi ((.iaload, x, v) :: is) loc (.int (zI i) :: .retAddr 1 :: r) h = mj_ex (mj_EE L xs) df go call bi is loc (.int (zI (ivf i)) :: r) h := by
  have e : i = 0 ∨ i = 1 ∨ i = 2 ∨ i = 3 ∨ i = 4 ∨ i = 5 ∨ i = 6 := by omega
  rcases e with e | e | e | e | e | e | e <;> subst e <;> rfl
/-- the signs' and the words' bytes -/
def sgf : Int → Int := fun i => [60, 62, 61, 35, 43, 45, 42, 47, 40, 41, 59].getD i.toNat 0
end MLC
section P13
variable {E : mj_E} {G : gT} {ro : rT} {tl : List mj_C} {d : Nat}
theorem hs_6 {f : Int → Int} : (mj_HN G ro tl).set 6 (.inl (0, 8, .inl (fun j : Nat => zI (f j)))) = mj_HN (gr G 6 f) ro tl := rfl
theorem hs_7 {f : Int → Int} : (mj_HN G ro tl).set 7 (.inl (0, 8, .inl (fun j : Nat => zI (f j)))) = mj_HN (gr G 7 f) ro tl := rfl
theorem hs_10 {f : Int → Int} : (mj_HN G ro tl).set 10 (.inl (0, 54, .inl (fun j : Nat => zI (f j)))) = mj_HN (gr G 10 f) ro tl := rfl
theorem hs_12 {f : Int → Int} : (mj_HN G ro tl).set 12 (.inl (0, 2, .inl (fun j : Nat => zI (f j)))) = mj_HN (gr G 12 f) ro tl := rfl
theorem hs_13 {f : Int → Int} : (mj_HN G ro tl).set 13 (.inl (0, 2, .inl (fun j : Nat => zI (f j)))) = mj_HN (gr G 13 f) ro tl := rfl
theorem hs_16 {f : Int → Int} : (mj_HN G ro tl).set 16 (.inl (0, 16, .inl (fun j : Nat => zI (f j)))) = mj_HN (gr G 16 f) ro tl := rfl
theorem hs_20 {f : Int → Int} : (mj_HN G ro tl).set 20 (.inl (0, 1620, .inl (fun j : Nat => zI (f j)))) = mj_HN (gr G 20 f) ro tl := rfl
theorem hs_22 {f : Int → Int} : (mj_HN G ro tl).set 22 (.inl (0, 8, .inl (fun j : Nat => zI (f j)))) = mj_HN (gr G 22 f) ro tl := rfl
theorem hs_23 {f : Int → Int} : (mj_HN G ro tl).set 23 (.inl (0, 8, .inl (fun j : Nat => zI (f j)))) = mj_HN (gr G 23 f) ro tl := rfl
theorem hs_26 {f : Int → Int} : (mj_HN G ro tl).set 26 (.inl (0, 8, .inl (fun j : Nat => zI (f j)))) = mj_HN (gr G 26 f) ro tl := rfl
theorem hs_27 {f : Int → Int} : (mj_HN G ro tl).set 27 (.inl (0, 8, .inl (fun j : Nat => zI (f j)))) = mj_HN (gr G 27 f) ro tl := rfl
theorem hs_30 {f : Int → Int} : (mj_HN G ro tl).set 30 (.inl (0, 54, .inl (fun j : Nat => zI (f j)))) = mj_HN (gr G 30 f) ro tl := rfl
theorem hs_32 {f : Int → Int} : (mj_HN G ro tl).set 32 (.inl (0, 2, .inl (fun j : Nat => zI (f j)))) = mj_HN (gr G 32 f) ro tl := rfl
theorem hs_33 {f : Int → Int} : (mj_HN G ro tl).set 33 (.inl (0, 2, .inl (fun j : Nat => zI (f j)))) = mj_HN (gr G 33 f) ro tl := rfl
theorem hs_36 {f : Int → Int} : (mj_HN G ro tl).set 36 (.inl (0, 16, .inl (fun j : Nat => zI (f j)))) = mj_HN (gr G 36 f) ro tl := rfl
theorem hs_40 {f : Int → Int} : (mj_HN G ro tl).set 40 (.inl (0, 1620, .inl (fun j : Nat => zI (f j)))) = mj_HN (gr G 40 f) ro tl := rfl
theorem hs_42 {f : Int → Int} : (mj_HN G ro tl).set 42 (.inl (0, 8, .inl (fun j : Nat => zI (f j)))) = mj_HN (gr G 42 f) ro tl := rfl
theorem hs_43 {f : Int → Int} : (mj_HN G ro tl).set 43 (.inl (0, 8, .inl (fun j : Nat => zI (f j)))) = mj_HN (gr G 43 f) ro tl := rfl
theorem hs_45 {f : Int → Int} : (mj_HN G ro tl).set 45 (.inl (0, 54, .inl (fun j : Nat => zI (f j)))) = mj_HN (gr G 45 f) ro tl := rfl
theorem hs_57 {f : Int → Int} : (mj_HN G ro tl).set 57 (.inl (0, 189, .inl (fun j : Nat => zI (f j)))) = mj_HN (gr G 57 f) ro tl := rfl
theorem mb_6_26 {s e n : Int} (h0 : 0 ≤ s ∧ 0 ≤ e ∧ 0 ≤ n ∧ s + n ≤ 8 ∧ e + n ≤ 8) : mj_bi 5 [.ref 6, .int (zI s), .ref 26, .int (zI e), .int (zI n)] (mj_HN G ro tl) = some (none, mj_HN (gr G 26 (cpy (G 6) (G 26) s e n)) ro tl) := mb_copy hg_6 hg_26 hs_26 (by omega)
theorem mb_7_27 {s e n : Int} (h0 : 0 ≤ s ∧ 0 ≤ e ∧ 0 ≤ n ∧ s + n ≤ 8 ∧ e + n ≤ 8) : mj_bi 5 [.ref 7, .int (zI s), .ref 27, .int (zI e), .int (zI n)] (mj_HN G ro tl) = some (none, mj_HN (gr G 27 (cpy (G 7) (G 27) s e n)) ro tl) := mb_copy hg_7 hg_27 hs_27 (by omega)
theorem mb_26_6 {s e n : Int} (h0 : 0 ≤ s ∧ 0 ≤ e ∧ 0 ≤ n ∧ s + n ≤ 8 ∧ e + n ≤ 8) : mj_bi 5 [.ref 26, .int (zI s), .ref 6, .int (zI e), .int (zI n)] (mj_HN G ro tl) = some (none, mj_HN (gr G 6 (cpy (G 26) (G 6) s e n)) ro tl) := mb_copy hg_26 hg_6 hs_6 (by omega)
theorem mb_27_7 {s e n : Int} (h0 : 0 ≤ s ∧ 0 ≤ e ∧ 0 ≤ n ∧ s + n ≤ 8 ∧ e + n ≤ 8) : mj_bi 5 [.ref 27, .int (zI s), .ref 7, .int (zI e), .int (zI n)] (mj_HN G ro tl) = some (none, mj_HN (gr G 7 (cpy (G 27) (G 7) s e n)) ro tl) := mb_copy hg_27 hg_7 hs_7 (by omega)
theorem mb_10_30 {s e n : Int} (h0 : 0 ≤ s ∧ 0 ≤ e ∧ 0 ≤ n ∧ s + n ≤ 54 ∧ e + n ≤ 54) : mj_bi 5 [.ref 10, .int (zI s), .ref 30, .int (zI e), .int (zI n)] (mj_HN G ro tl) = some (none, mj_HN (gr G 30 (cpy (G 10) (G 30) s e n)) ro tl) := mb_copy hg_10 hg_30 hs_30 (by omega)
theorem mb_30_10 {s e n : Int} (h0 : 0 ≤ s ∧ 0 ≤ e ∧ 0 ≤ n ∧ s + n ≤ 54 ∧ e + n ≤ 54) : mj_bi 5 [.ref 30, .int (zI s), .ref 10, .int (zI e), .int (zI n)] (mj_HN G ro tl) = some (none, mj_HN (gr G 10 (cpy (G 30) (G 10) s e n)) ro tl) := mb_copy hg_30 hg_10 hs_10 (by omega)
theorem mb_10_45 {s e n : Int} (h0 : 0 ≤ s ∧ 0 ≤ e ∧ 0 ≤ n ∧ s + n ≤ 54 ∧ e + n ≤ 54) : mj_bi 5 [.ref 10, .int (zI s), .ref 45, .int (zI e), .int (zI n)] (mj_HN G ro tl) = some (none, mj_HN (gr G 45 (cpy (G 10) (G 45) s e n)) ro tl) := mb_copy hg_10 hg_45 hs_45 (by omega)
theorem mb_10_20 {s e n : Int} (h0 : 0 ≤ s ∧ 0 ≤ e ∧ 0 ≤ n ∧ s + n ≤ 54 ∧ e + n ≤ 1620) : mj_bi 5 [.ref 10, .int (zI s), .ref 20, .int (zI e), .int (zI n)] (mj_HN G ro tl) = some (none, mj_HN (gr G 20 (cpy (G 10) (G 20) s e n)) ro tl) := mb_copy hg_10 hg_20 hs_20 (by omega)
theorem mb_20_10 {s e n : Int} (h0 : 0 ≤ s ∧ 0 ≤ e ∧ 0 ≤ n ∧ s + n ≤ 1620 ∧ e + n ≤ 54) : mj_bi 5 [.ref 20, .int (zI s), .ref 10, .int (zI e), .int (zI n)] (mj_HN G ro tl) = some (none, mj_HN (gr G 10 (cpy (G 20) (G 10) s e n)) ro tl) := mb_copy hg_20 hg_10 hs_10 (by omega)
theorem mb_10_10 {s e n : Int} (h0 : 0 ≤ s ∧ 0 ≤ e ∧ 0 ≤ n ∧ s + n ≤ 54 ∧ e + n ≤ 54) : mj_bi 5 [.ref 10, .int (zI s), .ref 10, .int (zI e), .int (zI n)] (mj_HN G ro tl) = some (none, mj_HN (gr G 10 (cpy (G 10) (G 10) s e n)) ro tl) := mb_copy hg_10 hg_10 hs_10 (by omega)
theorem mb_45_45 {s e n : Int} (h0 : 0 ≤ s ∧ 0 ≤ e ∧ 0 ≤ n ∧ s + n ≤ 54 ∧ e + n ≤ 54) : mj_bi 5 [.ref 45, .int (zI s), .ref 45, .int (zI e), .int (zI n)] (mj_HN G ro tl) = some (none, mj_HN (gr G 45 (cpy (G 45) (G 45) s e n)) ro tl) := mb_copy hg_45 hg_45 hs_45 (by omega)
theorem mb_12_32 {s e n : Int} (h0 : 0 ≤ s ∧ 0 ≤ e ∧ 0 ≤ n ∧ s + n ≤ 2 ∧ e + n ≤ 2) : mj_bi 5 [.ref 12, .int (zI s), .ref 32, .int (zI e), .int (zI n)] (mj_HN G ro tl) = some (none, mj_HN (gr G 32 (cpy (G 12) (G 32) s e n)) ro tl) := mb_copy hg_12 hg_32 hs_32 (by omega)
theorem mb_13_33 {s e n : Int} (h0 : 0 ≤ s ∧ 0 ≤ e ∧ 0 ≤ n ∧ s + n ≤ 2 ∧ e + n ≤ 2) : mj_bi 5 [.ref 13, .int (zI s), .ref 33, .int (zI e), .int (zI n)] (mj_HN G ro tl) = some (none, mj_HN (gr G 33 (cpy (G 13) (G 33) s e n)) ro tl) := mb_copy hg_13 hg_33 hs_33 (by omega)
theorem mb_32_12 {s e n : Int} (h0 : 0 ≤ s ∧ 0 ≤ e ∧ 0 ≤ n ∧ s + n ≤ 2 ∧ e + n ≤ 2) : mj_bi 5 [.ref 32, .int (zI s), .ref 12, .int (zI e), .int (zI n)] (mj_HN G ro tl) = some (none, mj_HN (gr G 12 (cpy (G 32) (G 12) s e n)) ro tl) := mb_copy hg_32 hg_12 hs_12 (by omega)
theorem mb_33_13 {s e n : Int} (h0 : 0 ≤ s ∧ 0 ≤ e ∧ 0 ≤ n ∧ s + n ≤ 2 ∧ e + n ≤ 2) : mj_bi 5 [.ref 33, .int (zI s), .ref 13, .int (zI e), .int (zI n)] (mj_HN G ro tl) = some (none, mj_HN (gr G 13 (cpy (G 33) (G 13) s e n)) ro tl) := mb_copy hg_33 hg_13 hs_13 (by omega)
theorem mb_16_36 {s e n : Int} (h0 : 0 ≤ s ∧ 0 ≤ e ∧ 0 ≤ n ∧ s + n ≤ 16 ∧ e + n ≤ 16) : mj_bi 5 [.ref 16, .int (zI s), .ref 36, .int (zI e), .int (zI n)] (mj_HN G ro tl) = some (none, mj_HN (gr G 36 (cpy (G 16) (G 36) s e n)) ro tl) := mb_copy hg_16 hg_36 hs_36 (by omega)
theorem mb_36_16 {s e n : Int} (h0 : 0 ≤ s ∧ 0 ≤ e ∧ 0 ≤ n ∧ s + n ≤ 16 ∧ e + n ≤ 16) : mj_bi 5 [.ref 36, .int (zI s), .ref 16, .int (zI e), .int (zI n)] (mj_HN G ro tl) = some (none, mj_HN (gr G 16 (cpy (G 36) (G 16) s e n)) ro tl) := mb_copy hg_36 hg_16 hs_16 (by omega)
theorem mb_20_40 {s e n : Int} (h0 : 0 ≤ s ∧ 0 ≤ e ∧ 0 ≤ n ∧ s + n ≤ 1620 ∧ e + n ≤ 1620) : mj_bi 5 [.ref 20, .int (zI s), .ref 40, .int (zI e), .int (zI n)] (mj_HN G ro tl) = some (none, mj_HN (gr G 40 (cpy (G 20) (G 40) s e n)) ro tl) := mb_copy hg_20 hg_40 hs_40 (by omega)
theorem mb_40_20 {s e n : Int} (h0 : 0 ≤ s ∧ 0 ≤ e ∧ 0 ≤ n ∧ s + n ≤ 1620 ∧ e + n ≤ 1620) : mj_bi 5 [.ref 40, .int (zI s), .ref 20, .int (zI e), .int (zI n)] (mj_HN G ro tl) = some (none, mj_HN (gr G 20 (cpy (G 40) (G 20) s e n)) ro tl) := mb_copy hg_40 hg_20 hs_20 (by omega)
theorem mb_22_42 {s e n : Int} (h0 : 0 ≤ s ∧ 0 ≤ e ∧ 0 ≤ n ∧ s + n ≤ 8 ∧ e + n ≤ 8) : mj_bi 5 [.ref 22, .int (zI s), .ref 42, .int (zI e), .int (zI n)] (mj_HN G ro tl) = some (none, mj_HN (gr G 42 (cpy (G 22) (G 42) s e n)) ro tl) := mb_copy hg_22 hg_42 hs_42 (by omega)
theorem mb_23_43 {s e n : Int} (h0 : 0 ≤ s ∧ 0 ≤ e ∧ 0 ≤ n ∧ s + n ≤ 8 ∧ e + n ≤ 8) : mj_bi 5 [.ref 23, .int (zI s), .ref 43, .int (zI e), .int (zI n)] (mj_HN G ro tl) = some (none, mj_HN (gr G 43 (cpy (G 23) (G 43) s e n)) ro tl) := mb_copy hg_23 hg_43 hs_43 (by omega)
theorem mb_42_22 {s e n : Int} (h0 : 0 ≤ s ∧ 0 ≤ e ∧ 0 ≤ n ∧ s + n ≤ 8 ∧ e + n ≤ 8) : mj_bi 5 [.ref 42, .int (zI s), .ref 22, .int (zI e), .int (zI n)] (mj_HN G ro tl) = some (none, mj_HN (gr G 22 (cpy (G 42) (G 22) s e n)) ro tl) := mb_copy hg_42 hg_22 hs_22 (by omega)
theorem mb_43_23 {s e n : Int} (h0 : 0 ≤ s ∧ 0 ≤ e ∧ 0 ≤ n ∧ s + n ≤ 8 ∧ e + n ≤ 8) : mj_bi 5 [.ref 43, .int (zI s), .ref 23, .int (zI e), .int (zI n)] (mj_HN G ro tl) = some (none, mj_HN (gr G 23 (cpy (G 43) (G 23) s e n)) ro tl) := mb_copy hg_43 hg_23 hs_23 (by omega)
theorem mb_56_57 {s e n : Int} (h0 : 0 ≤ s ∧ 0 ≤ e ∧ 0 ≤ n ∧ s + n ≤ 189 ∧ e + n ≤ 189) : mj_bi 5 [.ref 56, .int (zI s), .ref 57, .int (zI e), .int (zI n)] (mj_HN G ro tl) = some (none, mj_HN (gr G 57 (cpy (G 56) (G 57) s e n)) ro tl) := mb_copy hg_56 hg_57 hs_57 (by omega)
end P13
