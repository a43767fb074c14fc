/-! numbers: every int is zI of a whole number; the heap that the law makes as a picture: G c i is the number at place i of cell c (a row's element, an object's field); a row an instruction over it -/
def zI (i : Int) : Int32 := Int32.ofInt i
def lI (i : Int) : Int64 := Int64.ofInt i
theorem zI_toInt {i : Int} (h : -2147483648 ≤ i ∧ i ≤ 2147483647) : (zI i).toInt = i := Int32.toInt_ofInt_of_le (by omega) (by omega)
theorem lI_toInt {i : Int} (h : -9223372036854775808 ≤ i ∧ i ≤ 9223372036854775807) : (lI i).toInt = i := Int64.toInt_ofInt_of_le (by omega) (by omega)
theorem zI_of (x : Int32) : zI x.toInt = x := Int32.ofInt_toInt x
theorem zI_add (a b : Int) : zI a + zI b = zI (a + b) := (Int32.ofInt_add a b).symm
theorem zI_sub (a b : Int) : zI a - zI b = zI (a - b) := (Int32.ofInt_sub a b).symm
theorem zI_mul (a b : Int) : zI a * zI b = zI (a * b) := (Int32.ofInt_mul a b).symm
theorem zI_neg (a : Int) : -zI a = zI (-a) := (Int32.ofInt_neg a).symm
theorem lI_add (a b : Int) : lI a + lI b = lI (a + b) := (Int64.ofInt_add a b).symm
theorem lI_sub (a b : Int) : lI a - lI b = lI (a - b) := (Int64.ofInt_sub a b).symm
theorem lI_mul (a b : Int) : lI a * lI b = lI (a * b) := (Int64.ofInt_mul a b).symm
theorem lI_neg (a : Int) : -lI a = lI (-a) := (Int64.ofInt_neg a).symm
theorem zI_inj {a b : Int} (h : -2147483648 ≤ a ∧ a ≤ 2147483647 ∧ -2147483648 ≤ b ∧ b ≤ 2147483647) : (zI a = zI b) = (a = b) := by
  refine propext ⟨fun e => ?_, fun e => by rw [e]⟩
  have := congrArg Int32.toInt e
  rw [zI_toInt (by omega), zI_toInt (by omega)] at this
  exact this
theorem zI_lt {a b : Int} (h : -2147483648 ≤ a ∧ a ≤ 2147483647 ∧ -2147483648 ≤ b ∧ b ≤ 2147483647) : (zI a < zI b) = (a < b) := by
  rw [Int32.lt_iff_toInt_lt, zI_toInt (by omega), zI_toInt (by omega)]
theorem zI_le {a b : Int} (h : -2147483648 ≤ a ∧ a ≤ 2147483647 ∧ -2147483648 ≤ b ∧ b ≤ 2147483647) : (zI a ≤ zI b) = (a ≤ b) := by
  rw [Int32.le_iff_toInt_le, zI_toInt (by omega), zI_toInt (by omega)]
theorem lI_inj {a b : Int} (h : -9223372036854775808 ≤ a ∧ a ≤ 9223372036854775807 ∧ -9223372036854775808 ≤ b ∧ b ≤ 9223372036854775807) : (lI a = lI b) = (a = b) := by
  refine propext ⟨fun e => ?_, fun e => by rw [e]⟩
  have := congrArg Int64.toInt e
  rw [lI_toInt (by omega), lI_toInt (by omega)] at this
  exact this
theorem lI_lt {a b : Int} (h : -9223372036854775808 ≤ a ∧ a ≤ 9223372036854775807 ∧ -9223372036854775808 ≤ b ∧ b ≤ 9223372036854775807) : (lI a < lI b) = (a < b) := by
  rw [Int64.lt_iff_toInt_lt, lI_toInt (by omega), lI_toInt (by omega)]
theorem zI_in {i : Int} {n : Nat} (h : 0 ≤ i ∧ i < n ∧ n ≤ 2147483647) : mj_in (zI i) n = true := by
  unfold mj_in
  rw [zI_toInt (by omega)]
  exact decide_eq_true ⟨h.1, h.2.1⟩
theorem zI_cl {i : Int} (h : 0 ≤ i ∧ i ≤ 2147483647) : (zI i).toNatClampNeg = i.toNat := Int32.toNatClampNeg_ofInt_of_le (by omega) (by omega)
theorem zI_0 : (0 : Int32) = zI 0 := rfl
theorem zI_tdiv {a b : Int} (h : -2147483648 ≤ a ∧ a ≤ 2147483647 ∧ -2147483648 ≤ b ∧ b ≤ 2147483647) : zI a / zI b = zI (a.tdiv b) := (Int32.ofInt_tdiv (by rw [show Int32.minValue.toInt = -2147483648 from rfl]; omega) (by rw [show Int32.maxValue.toInt = 2147483647 from rfl]; omega) (by rw [show Int32.minValue.toInt = -2147483648 from rfl]; omega) (by rw [show Int32.maxValue.toInt = 2147483647 from rfl]; omega)).symm
theorem lI_tdiv {a b : Int} (h : -9223372036854775808 ≤ a ∧ a ≤ 9223372036854775807 ∧ -9223372036854775808 ≤ b ∧ b ≤ 9223372036854775807) : lI a / lI b = lI (a.tdiv b) := (Int64.ofInt_tdiv (by rw [show Int64.minValue.toInt = -9223372036854775808 from rfl]; omega) (by rw [show Int64.maxValue.toInt = 9223372036854775807 from rfl]; omega) (by rw [show Int64.minValue.toInt = -9223372036854775808 from rfl]; omega) (by rw [show Int64.maxValue.toInt = 9223372036854775807 from rfl]; omega)).symm
theorem zI_div {a b : Int} (h : 0 ≤ a ∧ a ≤ 2147483647 ∧ 0 < b ∧ b ≤ 2147483647) : zI a / zI b = zI (a / b) := by
  rw [zI_tdiv (by omega), Int.tdiv_eq_ediv_of_nonneg h.1]
theorem lI_div {a b : Int} (h : 0 ≤ a ∧ a ≤ 9223372036854775807 ∧ 0 < b ∧ b ≤ 9223372036854775807) : lI a / lI b = lI (a / b) := by
  rw [lI_tdiv (by omega), Int.tdiv_eq_ediv_of_nonneg h.1]
theorem zI_mod {a b : Int} (h : 0 ≤ a ∧ a ≤ 2147483647 ∧ 0 < b ∧ b ≤ 2147483647) : zI a - zI a / zI b * zI b = zI (a % b) := by
  rw [zI_div h, zI_mul, zI_sub, Int.emod_def, Int.mul_comm]
theorem lI_mod {a b : Int} (h : 0 ≤ a ∧ a ≤ 9223372036854775807 ∧ 0 < b ∧ b ≤ 9223372036854775807) : lI a - lI a / lI b * lI b = lI (a % b) := by
  rw [lI_div h, lI_mul, lI_sub, Int.emod_def, Int.mul_comm]
theorem zI_ne0 {b : Int} (h : 0 < b ∧ b ≤ 2147483647) : ¬ zI b = 0 := by
  rw [zI_0, zI_inj (by omega)]
  omega
theorem lI_ne0 {b : Int} (h : 0 < b ∧ b ≤ 9223372036854775807) : ¬ lI b = 0 := by
  rw [show (0 : Int64) = lI 0 from rfl, lI_inj (by omega)]
  omega
theorem zI_i2l {a : Int} (h : -2147483648 ≤ a ∧ a ≤ 2147483647) : (zI a).toInt64 = lI a := Int32.toInt64_ofInt (by rw [show Int32.minValue.toInt = -2147483648 from rfl]; omega) (by rw [show Int32.maxValue.toInt = 2147483647 from rfl]; omega)
theorem lI_l2i (a : Int) : (lI a).toInt32 = zI a := Int64.toInt32_ofInt
theorem lI_cmp {a b : Int} (h : -9223372036854775808 ≤ a ∧ a ≤ 9223372036854775807 ∧ -9223372036854775808 ≤ b ∧ b ≤ 9223372036854775807) : lg_cmp (lI a) (lI b) = zI (if b < a then 1 else if a = b then 0 else -1) := by
  unfold lg_cmp
  have e1 : (lI a > lI b) = (b < a) := lI_lt (by omega)
  have e2 : (lI a = lI b) = (a = b) := lI_inj h
  simp only [e1, e2]
  split
  · rfl
  · split <;> rfl
def iA (a b : Int) : Int := (zI a &&& zI b).toInt
def iO (a b : Int) : Int := (zI a ||| zI b).toInt
def iL (a b : Int) : Int := (zI a <<< (zI b &&& 31)).toInt
def iR (a b : Int) : Int := (zI a >>> (zI b &&& 31)).toInt
theorem zI_and (a b : Int) : zI a &&& zI b = zI (iA a b) := (zI_of _).symm
theorem zI_or (a b : Int) : zI a ||| zI b = zI (iO a b) := (zI_of _).symm
theorem zI_shl (a b : Int) : zI a <<< (zI b &&& 31) = zI (iL a b) := (zI_of _).symm
theorem zI_shr (a b : Int) : zI a >>> (zI b &&& 31) = zI (iR a b) := (zI_of _).symm
theorem tI_bd (x : Int32) : -2147483648 ≤ x.toInt ∧ x.toInt ≤ 2147483647 := ⟨Int32.le_toInt x, by have := Int32.toInt_lt x; omega⟩
theorem iA_bd (a b : Int) : -2147483648 ≤ iA a b ∧ iA a b ≤ 2147483647 := tI_bd _
theorem iO_bd (a b : Int) : -2147483648 ≤ iO a b ∧ iO a b ≤ 2147483647 := tI_bd _
theorem iL_bd (a b : Int) : -2147483648 ≤ iL a b ∧ iL a b ≤ 2147483647 := tI_bd _
theorem iR_bd (a b : Int) : -2147483648 ≤ iR a b ∧ iR a b ≤ 2147483647 := tI_bd _
/-- the numbers of the heap: cell, place -/
abbrev gT : Type := Nat → Int → Int
def gs (G : gT) (c : Nat) (i v : Int) : gT := fun c' j => if c' = c then (if j = i then v else G c' j) else G c' j
def gr (G : gT) (c : Nat) (f : Int → Int) : gT := fun c' j => if c' = c then f j else G c' j
theorem gs_c {G : gT} {c c' : Nat} {i v j : Int} (h : c' ≠ c) : gs G c i v c' j = G c' j := if_neg h
theorem gs_i {G : gT} {c : Nat} {i v j : Int} (h : j ≠ i) : gs G c i v c j = G c j := by
  show (if c = c then (if j = i then v else G c j) else G c j) = _
  rw [if_pos rfl, if_neg h]
theorem gs_e {G : gT} {c : Nat} {i v j : Int} (h : j = i) : gs G c i v c j = v := by
  show (if c = c then (if j = i then v else G c j) else G c j) = _
  rw [if_pos rfl, if_pos h]
theorem gr_c {G : gT} {c c' : Nat} {f : Int → Int} {j : Int} (h : c' ≠ c) : gr G c f c' j = G c' j := if_neg h
theorem gr_e {G : gT} {c : Nat} {f : Int → Int} {j : Int} : gr G c f c j = f j := if_pos rfl
theorem gr_gr {G : gT} {c : Nat} {f g : Int → Int} : gr (gr G c f) c g = gr G c g := by
  funext c' j
  unfold gr
  split <;> rfl
theorem gr_self {G : gT} {c : Nat} : gr G c (G c) = G := by
  funext c' j
  unfold gr
  split
  · rename_i h; rw [h]
  · rfl
theorem gs_gr {G : gT} {c : Nat} {i v : Int} : gs G c i v = gr G c (fun j => if j = i then v else G c j) := by
  funext c' j
  unfold gs gr
  split
  · rename_i h; rw [h]
  · rfl
/-- references: of a cell's place -/
abbrev rT : Type := Nat → Int → Option Nat
def rs (R : rT) (c : Nat) (i : Int) (v : Option Nat) : rT := fun c' j => if c' = c then (if j = i then v else R c' j) else R c' j
theorem rs_c {R : rT} {c c' : Nat} {i j : Int} {v : Option Nat} (h : c' ≠ c) : rs R c i v c' j = R c' j := if_neg h
theorem rs_i {R : rT} {c : Nat} {i j : Int} {v : Option Nat} (h : j ≠ i) : rs R c i v c j = R c j := by
  show (if c = c then (if j = i then v else R c j) else R c j) = _
  rw [if_pos rfl, if_neg h]
theorem rs_e {R : rT} {c : Nat} {i j : Int} {v : Option Nat} (h : j = i) : rs R c i v c j = v := by
  show (if c = c then (if j = i then v else R c j) else R c j) = _
  rw [if_pos rfl, if_pos h]
def mj_HN (G : gT) (ro : rT) (tl : List mj_C) : mj_H := .inr (11, [.ref 4, .ref 24, .ref 44, .ref 46, .ref 51, .ref 54]) ::
  .inr (0, [.ref 2, .ref 3, .int (zI (G 1 2))]) ::
  .inl (0, 8, .inl (fun j : Nat => zI (G 2 j))) ::
  .inl (0, 300, .inl (fun j : Nat => zI (G 3 j))) ::
  .inr (10, [.ref 5, .ref 9, .ref 11, .ref 15, .ref 19, .ref 21, .ref 22, .ref 23, .ref 1, .int (zI (G 4 9)), .int (zI (G 4 10)), .int (zI (G 4 11))]) ::
  .inr (3, [.ref 6, .ref 7, .ref 8]) ::
  .inl (0, 8, .inl (fun j : Nat => zI (G 6 j))) ::
  .inl (0, 8, .inl (fun j : Nat => zI (G 7 j))) ::
  .inl (0, 8, .inl (fun j : Nat => zI (G 8 j))) ::
  .inr (2, [.ref 10]) ::
  .inl (0, 54, .inl (fun j : Nat => zI (G 10 j))) ::
  .inr (1, [.ref 12, .ref 13, .ref 14]) ::
  .inl (0, 2, .inl (fun j : Nat => zI (G 12 j))) ::
  .inl (0, 2, .inl (fun j : Nat => zI (G 13 j))) ::
  .inl (0, 25, .inl (fun j : Nat => zI (G 14 j))) ::
  .inr (4, [.ref 16, .ref 17, .ref 18, .int (zI (G 15 3)), .int (zI (G 15 4))]) ::
  .inl (0, 16, .inl (fun j : Nat => zI (G 16 j))) ::
  .inl (0, 144, .inl (fun j : Nat => zI (G 17 j))) ::
  .inl (0, 9, .inl (fun j : Nat => zI (G 18 j))) ::
  .inr (7, [.ref 20, .int (zI (G 19 1)), .int (zI (G 19 2))]) ::
  .inl (0, 1620, .inl (fun j : Nat => zI (G 20 j))) ::
  .inl (4, 4, .inr (.inr (.inr (.inr (fun j : Nat => ro 21 j))))) ::
  .inl (0, 8, .inl (fun j : Nat => zI (G 22 j))) ::
  .inl (0, 8, .inl (fun j : Nat => zI (G 23 j))) ::
  .inr (10, [.ref 25, .ref 29, .ref 31, .ref 35, .ref 39, .ref 41, .ref 42, .ref 43, .ref 1, .int (zI (G 24 9)), .int (zI (G 24 10)), .int (zI (G 24 11))]) ::
  .inr (3, [.ref 26, .ref 27, .ref 28]) ::
  .inl (0, 8, .inl (fun j : Nat => zI (G 26 j))) ::
  .inl (0, 8, .inl (fun j : Nat => zI (G 27 j))) ::
  .inl (0, 8, .inl (fun j : Nat => zI (G 28 j))) ::
  .inr (2, [.ref 30]) ::
  .inl (0, 54, .inl (fun j : Nat => zI (G 30 j))) ::
  .inr (1, [.ref 32, .ref 33, .ref 34]) ::
  .inl (0, 2, .inl (fun j : Nat => zI (G 32 j))) ::
  .inl (0, 2, .inl (fun j : Nat => zI (G 33 j))) ::
  .inl (0, 25, .inl (fun j : Nat => zI (G 34 j))) ::
  .inr (4, [.ref 36, .ref 37, .ref 38, .int (zI (G 35 3)), .int (zI (G 35 4))]) ::
  .inl (0, 16, .inl (fun j : Nat => zI (G 36 j))) ::
  .inl (0, 144, .inl (fun j : Nat => zI (G 37 j))) ::
  .inl (0, 9, .inl (fun j : Nat => zI (G 38 j))) ::
  .inr (7, [.ref 40, .int (zI (G 39 1)), .int (zI (G 39 2))]) ::
  .inl (0, 1620, .inl (fun j : Nat => zI (G 40 j))) ::
  .inl (4, 4, .inr (.inr (.inr (.inr (fun j : Nat => ro 41 j))))) ::
  .inl (0, 8, .inl (fun j : Nat => zI (G 42 j))) ::
  .inl (0, 8, .inl (fun j : Nat => zI (G 43 j))) ::
  .inr (2, [.ref 45]) ::
  .inl (0, 54, .inl (fun j : Nat => zI (G 45 j))) ::
  .inr (8, [.ref 47, .ref 48, .ref 49, .ref 50, .int (zI (G 46 4)), .int (zI (G 46 5)), .int (zI (G 46 6))]) ::
  .inl (1, 300, .inl (fun j : Nat => zI (G 47 j))) ::
  .inl (0, 301, .inl (fun j : Nat => zI (G 48 j))) ::
  .inl (0, 301, .inl (fun j : Nat => zI (G 49 j))) ::
  .inl (0, 301, .inl (fun j : Nat => zI (G 50 j))) ::
  .inr (6, [.ref 46, .ref 52, .ref 53, mj_rf (ro 51 3), mj_rf (ro 51 4), .int (zI (G 51 5)), .int (zI (G 51 6)), .int (zI (G 51 7)), .int (zI (G 51 8)), .int (zI (G 51 9))]) ::
  .inl (0, 300, .inl (fun j : Nat => zI (G 52 j))) ::
  .inl (0, 72, .inl (fun j : Nat => zI (G 53 j))) ::
  .inr (5, [.ref 55, .ref 56, .ref 57, .ref 58, .int (zI (G 54 4)), .int (zI (G 54 5))]) ::
  .inl (0, 9, .inl (fun j : Nat => zI (G 55 j))) ::
  .inl (0, 189, .inl (fun j : Nat => zI (G 56 j))) ::
  .inl (0, 189, .inl (fun j : Nat => zI (G 57 j))) ::
  .inl (3, 9, .inr (.inl (fun j : Nat => lI (G 58 j)))) ::
  .inr (12, [.ref 60, .ref 61, .ref 62, .ref 63, .int (zI (G 59 4)), .int (zI (G 59 5)), .int (zI (G 59 6)), .int (zI (G 59 7)), .int (zI (G 59 8)), .int (zI (G 59 9)), .int (zI (G 59 10)), .long (lI (G 59 11)), .int (zI (G 59 12)), .int (zI (G 59 13)), .int (zI (G 59 14)), .ref 64, .int (zI (G 59 16)), .int (zI (G 59 17)), .int (zI (G 59 18)), .int (zI (G 59 19)), .ref 65, .ref 66, .ref 67, .int (zI (G 59 23)), .int (zI (G 59 24)), .ref 68, .ref 69, .ref 70, .ref 71, .ref 72, .ref 73, .ref 74, .ref 75]) ::
  .inl (0, 1763, .inl (fun j : Nat => zI (G 60 j))) ::
  .inl (0, 1763, .inl (fun j : Nat => zI (G 61 j))) ::
  .inl (0, 2724, .inl (fun j : Nat => zI (G 62 j))) ::
  .inl (0, 300, .inl (fun j : Nat => zI (G 63 j))) ::
  .inl (0, 160, .inl (fun j : Nat => zI (G 64 j))) ::
  .inl (0, 8, .inl (fun j : Nat => zI (G 65 j))) ::
  .inl (3, 330, .inr (.inl (fun j : Nat => lI (G 66 j)))) ::
  .inl (2, 330, .inl (fun j : Nat => zI (G 67 j))) ::
  .inl (0, 31, .inl (fun j : Nat => zI (G 68 j))) ::
  .inl (0, 8, .inl (fun j : Nat => zI (G 69 j))) ::
  .inl (0, 49, .inl (fun j : Nat => zI (G 70 j))) ::
  .inl (0, 144, .inl (fun j : Nat => zI (G 71 j))) ::
  .inl (0, 8, .inl (fun j : Nat => zI (G 72 j))) ::
  .inl (0, 9, .inl (fun j : Nat => zI (G 73 j))) ::
  .inl (0, 3969, .inl (fun j : Nat => zI (G 74 j))) ::
  .inl (3, 9, .inr (.inl (fun j : Nat => lI (G 75 j)))) :: tl
section MZ
variable {E : mj_E} {df : Nat → List Value} {go : Nat → mj_L → List Value → mj_H → mj_R} {call bi : Nat → List Value → mj_H → mj_R} {is : List mj_I} {loc : mj_L} {r : List Value} {h : mj_H} {x : List Nat} {v : Value}
theorem mz_il0 {l : mj_L} {y : Int32} {st : List Value} : mj_ex E df go call bi ((.iload 0, x, v) :: is) (some (.int y) :: l) st h = mj_ex E df go call bi is (some (.int y) :: l) (.int y :: st) h := id rfl
theorem mz_il1 {a0 : Option Value} {l : mj_L} {y : Int32} {st : List Value} : mj_ex E df go call bi ((.iload 1, x, v) :: is) (a0 :: some (.int y) :: l) st h = mj_ex E df go call bi is (a0 :: some (.int y) :: l) (.int y :: st) h := id rfl
theorem mz_il2 {a0 a1 : Option Value} {l : mj_L} {y : Int32} {st : List Value} : mj_ex E df go call bi ((.iload 2, x, v) :: is) (a0 :: a1 :: some (.int y) :: l) st h = mj_ex E df go call bi is (a0 :: a1 :: some (.int y) :: l) (.int y :: st) h := id rfl
theorem mz_il3 {a0 a1 a2 : Option Value} {l : mj_L} {y : Int32} {st : List Value} : mj_ex E df go call bi ((.iload 3, x, v) :: is) (a0 :: a1 :: a2 :: some (.int y) :: l) st h = mj_ex E df go call bi is (a0 :: a1 :: a2 :: some (.int y) :: l) (.int y :: st) h := id rfl
theorem mz_il4 {a0 a1 a2 a3 : Option Value} {l : mj_L} {y : Int32} {st : List Value} : mj_ex E df go call bi ((.iload 4, x, v) :: is) (a0 :: a1 :: a2 :: a3 :: some (.int y) :: l) st h = mj_ex E df go call bi is (a0 :: a1 :: a2 :: a3 :: some (.int y) :: l) (.int y :: st) h := id rfl
theorem mz_il5 {a0 a1 a2 a3 a4 : Option Value} {l : mj_L} {y : Int32} {st : List Value} : mj_ex E df go call bi ((.iload 5, x, v) :: is) (a0 :: a1 :: a2 :: a3 :: a4 :: some (.int y) :: l) st h = mj_ex E df go call bi is (a0 :: a1 :: a2 :: a3 :: a4 :: some (.int y) :: l) (.int y :: st) h := id rfl
theorem mz_il6 {a0 a1 a2 a3 a4 a5 : Option Value} {l : mj_L} {y : Int32} {st : List Value} : mj_ex E df go call bi ((.iload 6, x, v) :: is) (a0 :: a1 :: a2 :: a3 :: a4 :: a5 :: some (.int y) :: l) st h = mj_ex E df go call bi is (a0 :: a1 :: a2 :: a3 :: a4 :: a5 :: some (.int y) :: l) (.int y :: st) h := id rfl
theorem mz_il7 {a0 a1 a2 a3 a4 a5 a6 : Option Value} {l : mj_L} {y : Int32} {st : List Value} : mj_ex E df go call bi ((.iload 7, x, v) :: is) (a0 :: a1 :: a2 :: a3 :: a4 :: a5 :: a6 :: some (.int y) :: l) st h = mj_ex E df go call bi is (a0 :: a1 :: a2 :: a3 :: a4 :: a5 :: a6 :: some (.int y) :: l) (.int y :: st) h := id rfl
theorem mz_il8 {a0 a1 a2 a3 a4 a5 a6 a7 : Option Value} {l : mj_L} {y : Int32} {st : List Value} : mj_ex E df go call bi ((.iload 8, x, v) :: is) (a0 :: a1 :: a2 :: a3 :: a4 :: a5 :: a6 :: a7 :: some (.int y) :: l) st h = mj_ex E df go call bi is (a0 :: a1 :: a2 :: a3 :: a4 :: a5 :: a6 :: a7 :: some (.int y) :: l) (.int y :: st) h := id rfl
theorem mz_il9 {a0 a1 a2 a3 a4 a5 a6 a7 a8 : Option Value} {l : mj_L} {y : Int32} {st : List Value} : mj_ex E df go call bi ((.iload 9, x, v) :: is) (a0 :: a1 :: a2 :: a3 :: a4 :: a5 :: a6 :: a7 :: a8 :: some (.int y) :: l) st h = mj_ex E df go call bi is (a0 :: a1 :: a2 :: a3 :: a4 :: a5 :: a6 :: a7 :: a8 :: some (.int y) :: l) (.int y :: st) h := id rfl
theorem mz_il10 {a0 a1 a2 a3 a4 a5 a6 a7 a8 a9 : Option Value} {l : mj_L} {y : Int32} {st : List Value} : mj_ex E df go call bi ((.iload 10, x, v) :: is) (a0 :: a1 :: a2 :: a3 :: a4 :: a5 :: a6 :: a7 :: a8 :: a9 :: some (.int y) :: l) st h = mj_ex E df go call bi is (a0 :: a1 :: a2 :: a3 :: a4 :: a5 :: a6 :: a7 :: a8 :: a9 :: some (.int y) :: l) (.int y :: st) h := id rfl
theorem mz_il11 {a0 a1 a2 a3 a4 a5 a6 a7 a8 a9 a10 : Option Value} {l : mj_L} {y : Int32} {st : List Value} : mj_ex E df go call bi ((.iload 11, x, v) :: is) (a0 :: a1 :: a2 :: a3 :: a4 :: a5 :: a6 :: a7 :: a8 :: a9 :: a10 :: some (.int y) :: l) st h = mj_ex E df go call bi is (a0 :: a1 :: a2 :: a3 :: a4 :: a5 :: a6 :: a7 :: a8 :: a9 :: a10 :: some (.int y) :: l) (.int y :: st) h := id rfl
theorem mz_ll1 {a0 : Option Value} {l : mj_L} {y : Int64} {st : List Value} : mj_ex E df go call bi ((.lload 1, x, v) :: is) (a0 :: some (.long y) :: l) st h = mj_ex E df go call bi is (a0 :: some (.long y) :: l) (.long y :: st) h := id rfl
theorem mz_ll2 {a0 a1 : Option Value} {l : mj_L} {y : Int64} {st : List Value} : mj_ex E df go call bi ((.lload 2, x, v) :: is) (a0 :: a1 :: some (.long y) :: l) st h = mj_ex E df go call bi is (a0 :: a1 :: some (.long y) :: l) (.long y :: st) h := id rfl
theorem mz_ll3 {a0 a1 a2 : Option Value} {l : mj_L} {y : Int64} {st : List Value} : mj_ex E df go call bi ((.lload 3, x, v) :: is) (a0 :: a1 :: a2 :: some (.long y) :: l) st h = mj_ex E df go call bi is (a0 :: a1 :: a2 :: some (.long y) :: l) (.long y :: st) h := id rfl
theorem mz_ll4 {a0 a1 a2 a3 : Option Value} {l : mj_L} {y : Int64} {st : List Value} : mj_ex E df go call bi ((.lload 4, x, v) :: is) (a0 :: a1 :: a2 :: a3 :: some (.long y) :: l) st h = mj_ex E df go call bi is (a0 :: a1 :: a2 :: a3 :: some (.long y) :: l) (.long y :: st) h := id rfl
theorem mz_ll5 {a0 a1 a2 a3 a4 : Option Value} {l : mj_L} {y : Int64} {st : List Value} : mj_ex E df go call bi ((.lload 5, x, v) :: is) (a0 :: a1 :: a2 :: a3 :: a4 :: some (.long y) :: l) st h = mj_ex E df go call bi is (a0 :: a1 :: a2 :: a3 :: a4 :: some (.long y) :: l) (.long y :: st) h := id rfl
theorem mz_ll6 {a0 a1 a2 a3 a4 a5 : Option Value} {l : mj_L} {y : Int64} {st : List Value} : mj_ex E df go call bi ((.lload 6, x, v) :: is) (a0 :: a1 :: a2 :: a3 :: a4 :: a5 :: some (.long y) :: l) st h = mj_ex E df go call bi is (a0 :: a1 :: a2 :: a3 :: a4 :: a5 :: some (.long y) :: l) (.long y :: st) h := id rfl
theorem mz_ll7 {a0 a1 a2 a3 a4 a5 a6 : Option Value} {l : mj_L} {y : Int64} {st : List Value} : mj_ex E df go call bi ((.lload 7, x, v) :: is) (a0 :: a1 :: a2 :: a3 :: a4 :: a5 :: a6 :: some (.long y) :: l) st h = mj_ex E df go call bi is (a0 :: a1 :: a2 :: a3 :: a4 :: a5 :: a6 :: some (.long y) :: l) (.long y :: st) h := id rfl
theorem mz_ll8 {a0 a1 a2 a3 a4 a5 a6 a7 : Option Value} {l : mj_L} {y : Int64} {st : List Value} : mj_ex E df go call bi ((.lload 8, x, v) :: is) (a0 :: a1 :: a2 :: a3 :: a4 :: a5 :: a6 :: a7 :: some (.long y) :: l) st h = mj_ex E df go call bi is (a0 :: a1 :: a2 :: a3 :: a4 :: a5 :: a6 :: a7 :: some (.long y) :: l) (.long y :: st) h := id rfl
theorem mz_al0 {l : mj_L} {y : Nat} {st : List Value} : mj_ex E df go call bi ((.aload 0, x, v) :: is) (some (.ref y) :: l) st h = mj_ex E df go call bi is (some (.ref y) :: l) (.ref y :: st) h := id rfl
theorem mz_al1 {a0 : Option Value} {l : mj_L} {y : Nat} {st : List Value} : mj_ex E df go call bi ((.aload 1, x, v) :: is) (a0 :: some (.ref y) :: l) st h = mj_ex E df go call bi is (a0 :: some (.ref y) :: l) (.ref y :: st) h := id rfl
theorem mz_al2 {a0 a1 : Option Value} {l : mj_L} {y : Nat} {st : List Value} : mj_ex E df go call bi ((.aload 2, x, v) :: is) (a0 :: a1 :: some (.ref y) :: l) st h = mj_ex E df go call bi is (a0 :: a1 :: some (.ref y) :: l) (.ref y :: st) h := id rfl
theorem mz_al3 {a0 a1 a2 : Option Value} {l : mj_L} {y : Nat} {st : List Value} : mj_ex E df go call bi ((.aload 3, x, v) :: is) (a0 :: a1 :: a2 :: some (.ref y) :: l) st h = mj_ex E df go call bi is (a0 :: a1 :: a2 :: some (.ref y) :: l) (.ref y :: st) h := id rfl
theorem mz_al4 {a0 a1 a2 a3 : Option Value} {l : mj_L} {y : Nat} {st : List Value} : mj_ex E df go call bi ((.aload 4, x, v) :: is) (a0 :: a1 :: a2 :: a3 :: some (.ref y) :: l) st h = mj_ex E df go call bi is (a0 :: a1 :: a2 :: a3 :: some (.ref y) :: l) (.ref y :: st) h := id rfl
theorem mz_al5 {a0 a1 a2 a3 a4 : Option Value} {l : mj_L} {y : Nat} {st : List Value} : mj_ex E df go call bi ((.aload 5, x, v) :: is) (a0 :: a1 :: a2 :: a3 :: a4 :: some (.ref y) :: l) st h = mj_ex E df go call bi is (a0 :: a1 :: a2 :: a3 :: a4 :: some (.ref y) :: l) (.ref y :: st) h := id rfl
theorem mz_al6 {a0 a1 a2 a3 a4 a5 : Option Value} {l : mj_L} {y : Nat} {st : List Value} : mj_ex E df go call bi ((.aload 6, x, v) :: is) (a0 :: a1 :: a2 :: a3 :: a4 :: a5 :: some (.ref y) :: l) st h = mj_ex E df go call bi is (a0 :: a1 :: a2 :: a3 :: a4 :: a5 :: some (.ref y) :: l) (.ref y :: st) h := id rfl
theorem mz_al7 {a0 a1 a2 a3 a4 a5 a6 : Option Value} {l : mj_L} {y : Nat} {st : List Value} : mj_ex E df go call bi ((.aload 7, x, v) :: is) (a0 :: a1 :: a2 :: a3 :: a4 :: a5 :: a6 :: some (.ref y) :: l) st h = mj_ex E df go call bi is (a0 :: a1 :: a2 :: a3 :: a4 :: a5 :: a6 :: some (.ref y) :: l) (.ref y :: st) h := id rfl
theorem mz_al8 {a0 a1 a2 a3 a4 a5 a6 a7 : Option Value} {l : mj_L} {y : Nat} {st : List Value} : mj_ex E df go call bi ((.aload 8, x, v) :: is) (a0 :: a1 :: a2 :: a3 :: a4 :: a5 :: a6 :: a7 :: some (.ref y) :: l) st h = mj_ex E df go call bi is (a0 :: a1 :: a2 :: a3 :: a4 :: a5 :: a6 :: a7 :: some (.ref y) :: l) (.ref y :: st) h := id rfl
theorem mz_al9 {a0 a1 a2 a3 a4 a5 a6 a7 a8 : Option Value} {l : mj_L} {y : Nat} {st : List Value} : mj_ex E df go call bi ((.aload 9, x, v) :: is) (a0 :: a1 :: a2 :: a3 :: a4 :: a5 :: a6 :: a7 :: a8 :: some (.ref y) :: l) st h = mj_ex E df go call bi is (a0 :: a1 :: a2 :: a3 :: a4 :: a5 :: a6 :: a7 :: a8 :: some (.ref y) :: l) (.ref y :: st) h := id rfl
theorem mz_al10 {a0 a1 a2 a3 a4 a5 a6 a7 a8 a9 : Option Value} {l : mj_L} {y : Nat} {st : List Value} : mj_ex E df go call bi ((.aload 10, x, v) :: is) (a0 :: a1 :: a2 :: a3 :: a4 :: a5 :: a6 :: a7 :: a8 :: a9 :: some (.ref y) :: l) st h = mj_ex E df go call bi is (a0 :: a1 :: a2 :: a3 :: a4 :: a5 :: a6 :: a7 :: a8 :: a9 :: some (.ref y) :: l) (.ref y :: st) h := id rfl
theorem mz_al11 {a0 a1 a2 a3 a4 a5 a6 a7 a8 a9 a10 : Option Value} {l : mj_L} {y : Nat} {st : List Value} : mj_ex E df go call bi ((.aload 11, x, v) :: is) (a0 :: a1 :: a2 :: a3 :: a4 :: a5 :: a6 :: a7 :: a8 :: a9 :: a10 :: some (.ref y) :: l) st h = mj_ex E df go call bi is (a0 :: a1 :: a2 :: a3 :: a4 :: a5 :: a6 :: a7 :: a8 :: a9 :: a10 :: some (.ref y) :: l) (.ref y :: st) h := id rfl
theorem mz_iinc {k : Nat} {n : Int} {z : Int32} {st : List Value} : mj_ex E df go call bi ((.iinc k n, x, .int z) :: is) loc st h = (match mj_lget loc k with
    | some (.int y) => if k < loc.length ∧ mj_pl loc k = false then mj_ex E df go call bi is (mj_lset loc k (some (.int (y + z)))) st h else none
    | _ => none) := by
  show (match (generalizing := false) mj_lget loc k, Value.int z with
    | some (.int y), .int z => if k < loc.length ∧ mj_pl loc k = false then mj_ex E df go call bi is (mj_lset loc k (some (.int (y + z)))) st h else none
    | _, _ => none) = _
  cases mj_lget loc k with
  | none => rfl
  | some q => cases q <;> rfl
theorem mz_iadd {a b : Int} : mj_ex E df go call bi ((.iadd, x, v) :: is) loc (.int (zI b) :: .int (zI a) :: r) h = mj_ex E df go call bi is loc (.int (zI (a + b)) :: r) h := by
  show mj_ex E df go call bi is loc (.int (zI a + zI b) :: r) h = _
  rw [zI_add]
theorem mz_isub {a b : Int} : mj_ex E df go call bi ((.isub, x, v) :: is) loc (.int (zI b) :: .int (zI a) :: r) h = mj_ex E df go call bi is loc (.int (zI (a - b)) :: r) h := by
  show mj_ex E df go call bi is loc (.int (zI a - zI b) :: r) h = _
  rw [zI_sub]
theorem mz_imul {a b : Int} : mj_ex E df go call bi ((.imul, x, v) :: is) loc (.int (zI b) :: .int (zI a) :: r) h = mj_ex E df go call bi is loc (.int (zI (a * b)) :: r) h := by
  show mj_ex E df go call bi is loc (.int (zI a * zI b) :: r) h = _
  rw [zI_mul]
theorem mz_ladd {a b : Int} : mj_ex E df go call bi ((.ladd, x, v) :: is) loc (.long (lI b) :: .long (lI a) :: r) h = mj_ex E df go call bi is loc (.long (lI (a + b)) :: r) h := by
  show mj_ex E df go call bi is loc (.long (lI a + lI b) :: r) h = _
  rw [lI_add]
theorem mz_lsub {a b : Int} : mj_ex E df go call bi ((.lsub, x, v) :: is) loc (.long (lI b) :: .long (lI a) :: r) h = mj_ex E df go call bi is loc (.long (lI (a - b)) :: r) h := by
  show mj_ex E df go call bi is loc (.long (lI a - lI b) :: r) h = _
  rw [lI_sub]
theorem mz_lmul {a b : Int} : mj_ex E df go call bi ((.lmul, x, v) :: is) loc (.long (lI b) :: .long (lI a) :: r) h = mj_ex E df go call bi is loc (.long (lI (a * b)) :: r) h := by
  show mj_ex E df go call bi is loc (.long (lI a * lI b) :: r) h = _
  rw [lI_mul]
theorem mz_iand {a b : Int} : mj_ex E df go call bi ((.iand, x, v) :: is) loc (.int (zI b) :: .int (zI a) :: r) h = mj_ex E df go call bi is loc (.int (zI (iA a b)) :: r) h := by
  show mj_ex E df go call bi is loc (.int (zI a &&& zI b) :: r) h = _
  rw [zI_and]
theorem mz_ior {a b : Int} : mj_ex E df go call bi ((.ior, x, v) :: is) loc (.int (zI b) :: .int (zI a) :: r) h = mj_ex E df go call bi is loc (.int (zI (iO a b)) :: r) h := by
  show mj_ex E df go call bi is loc (.int (zI a ||| zI b) :: r) h = _
  rw [zI_or]
theorem mz_ishl {a b : Int} : mj_ex E df go call bi ((.ishl, x, v) :: is) loc (.int (zI b) :: .int (zI a) :: r) h = mj_ex E df go call bi is loc (.int (zI (iL a b)) :: r) h := by
  show mj_ex E df go call bi is loc (.int (zI a <<< (zI b &&& 31)) :: r) h = _
  rw [zI_shl]
theorem mz_ishr {a b : Int} : mj_ex E df go call bi ((.ishr, x, v) :: is) loc (.int (zI b) :: .int (zI a) :: r) h = mj_ex E df go call bi is loc (.int (zI (iR a b)) :: r) h := by
  show mj_ex E df go call bi is loc (.int (zI a >>> (zI b &&& 31)) :: r) h = _
  rw [zI_shr]
theorem mz_ineg {a : Int} : mj_ex E df go call bi ((.ineg, x, v) :: is) loc (.int (zI a) :: r) h = mj_ex E df go call bi is loc (.int (zI (-a)) :: r) h := by
  show mj_ex E df go call bi is loc (.int (-zI a) :: r) h = _
  rw [zI_neg]
theorem mz_lneg {a : Int} : mj_ex E df go call bi ((.lneg, x, v) :: is) loc (.long (lI a) :: r) h = mj_ex E df go call bi is loc (.long (lI (-a)) :: r) h := by
  show mj_ex E df go call bi is loc (.long (-lI a) :: r) h = _
  rw [lI_neg]
theorem mz_idiv {a b : Int} (h0 : 0 ≤ a ∧ a ≤ 2147483647 ∧ 0 < b ∧ b ≤ 2147483647) : mj_ex E df go call bi ((.idiv, x, v) :: is) loc (.int (zI b) :: .int (zI a) :: r) h = mj_ex E df go call bi is loc (.int (zI (a / b)) :: r) h := by
  have e0 : ¬ zI b = 0 := (zI_ne0 (by omega))
  have e : mj_pu .idiv (.int (zI b) :: .int (zI a) :: r) = some (Value.int (zI a / zI b) :: r) := by simp only [mj_pu, mj_i2, mj_l2, if_neg e0]
  rw [ms_idiv, e, zI_div h0]
theorem mz_irem {a b : Int} (h0 : 0 ≤ a ∧ a ≤ 2147483647 ∧ 0 < b ∧ b ≤ 2147483647) : mj_ex E df go call bi ((.irem, x, v) :: is) loc (.int (zI b) :: .int (zI a) :: r) h = mj_ex E df go call bi is loc (.int (zI (a % b)) :: r) h := by
  have e0 : ¬ zI b = 0 := (zI_ne0 (by omega))
  have e : mj_pu .irem (.int (zI b) :: .int (zI a) :: r) = some (Value.int (zI a - zI a / zI b * zI b) :: r) := by simp only [mj_pu, mj_i2, mj_l2, if_neg e0]
  rw [ms_irem, e, zI_mod h0]
theorem mz_ldiv {a b : Int} (h0 : 0 ≤ a ∧ a ≤ 9223372036854775807 ∧ 0 < b ∧ b ≤ 9223372036854775807) : mj_ex E df go call bi ((.ldiv, x, v) :: is) loc (.long (lI b) :: .long (lI a) :: r) h = mj_ex E df go call bi is loc (.long (lI (a / b)) :: r) h := by
  have e0 : ¬ lI b = 0 := (lI_ne0 (by omega))
  have e : mj_pu .ldiv (.long (lI b) :: .long (lI a) :: r) = some (Value.long (lI a / lI b) :: r) := by simp only [mj_pu, mj_i2, mj_l2, if_neg e0]
  rw [ms_ldiv, e, lI_div h0]
theorem mz_lrem {a b : Int} (h0 : 0 ≤ a ∧ a ≤ 9223372036854775807 ∧ 0 < b ∧ b ≤ 9223372036854775807) : mj_ex E df go call bi ((.lrem, x, v) :: is) loc (.long (lI b) :: .long (lI a) :: r) h = mj_ex E df go call bi is loc (.long (lI (a % b)) :: r) h := by
  have e0 : ¬ lI b = 0 := (lI_ne0 (by omega))
  have e : mj_pu .lrem (.long (lI b) :: .long (lI a) :: r) = some (Value.long (lI a - lI a / lI b * lI b) :: r) := by simp only [mj_pu, mj_i2, mj_l2, if_neg e0]
  rw [ms_lrem, e, lI_mod h0]
theorem mz_idivT {a b : Int} (h0 : -2147483648 ≤ a ∧ a ≤ 2147483647 ∧ -2147483648 ≤ b ∧ b ≤ 2147483647 ∧ b ≠ 0) : mj_ex E df go call bi ((.idiv, x, v) :: is) loc (.int (zI b) :: .int (zI a) :: r) h = mj_ex E df go call bi is loc (.int (zI (a.tdiv b)) :: r) h := by
  have e0 : ¬ zI b = 0 := (by rw [show (0 : Int32) = zI 0 from rfl, zI_inj (by omega)]; omega)
  have e : mj_pu .idiv (.int (zI b) :: .int (zI a) :: r) = some (Value.int (zI a / zI b) :: r) := by simp only [mj_pu, mj_i2, mj_l2, if_neg e0]
  rw [ms_idiv, e, zI_tdiv (by omega)]
theorem mz_ldivT {a b : Int} (h0 : -9223372036854775808 ≤ a ∧ a ≤ 9223372036854775807 ∧ -9223372036854775808 ≤ b ∧ b ≤ 9223372036854775807 ∧ b ≠ 0) : mj_ex E df go call bi ((.ldiv, x, v) :: is) loc (.long (lI b) :: .long (lI a) :: r) h = mj_ex E df go call bi is loc (.long (lI (a.tdiv b)) :: r) h := by
  have e0 : ¬ lI b = 0 := (by rw [show (0 : Int64) = lI 0 from rfl, lI_inj (by omega)]; omega)
  have e : mj_pu .ldiv (.long (lI b) :: .long (lI a) :: r) = some (Value.long (lI a / lI b) :: r) := by simp only [mj_pu, mj_i2, mj_l2, if_neg e0]
  rw [ms_ldiv, e, lI_tdiv (by omega)]
theorem mz_i2l {a : Int} (h0 : -2147483648 ≤ a ∧ a ≤ 2147483647) : mj_ex E df go call bi ((.i2l, x, v) :: is) loc (.int (zI a) :: r) h = mj_ex E df go call bi is loc (.long (lI a) :: r) h := by
  show mj_ex E df go call bi is loc (.long (zI a).toInt64 :: r) h = _
  rw [zI_i2l h0]
theorem mz_l2i {a : Int} : mj_ex E df go call bi ((.l2i, x, v) :: is) loc (.long (lI a) :: r) h = mj_ex E df go call bi is loc (.int (zI a) :: r) h := by
  show mj_ex E df go call bi is loc (.int (lI a).toInt32 :: r) h = _
  rw [lI_l2i]
theorem mz_lcmp {a b : Int} (h0 : -9223372036854775808 ≤ a ∧ a ≤ 9223372036854775807 ∧ -9223372036854775808 ≤ b ∧ b ≤ 9223372036854775807) : mj_ex E df go call bi ((.lcmp, x, v) :: is) loc (.long (lI b) :: .long (lI a) :: r) h = mj_ex E df go call bi is loc (.int (zI (if b < a then 1 else if a = b then 0 else -1)) :: r) h := by
  show mj_ex E df go call bi is loc (.int (lg_cmp (lI a) (lI b)) :: r) h = _
  rw [lI_cmp h0]
theorem mz_c_eq {a b : Int} (h0 : -2147483648 ≤ a ∧ a ≤ 2147483647 ∧ -2147483648 ≤ b ∧ b ≤ 2147483647) : (mj_cmp .eq (zI a) (zI b) = true) = (a = b) := by
  show ((decide (zI a = zI b)) = true) = _
  have e : (zI a = zI b) = (a = b) := zI_inj (by omega)
  simp only [e]
  simp
theorem mz_c_ne {a b : Int} (h0 : -2147483648 ≤ a ∧ a ≤ 2147483647 ∧ -2147483648 ≤ b ∧ b ≤ 2147483647) : (mj_cmp .ne (zI a) (zI b) = true) = (a ≠ b) := by
  show ((!decide (zI a = zI b)) = true) = _
  have e : (zI a = zI b) = (a = b) := zI_inj (by omega)
  simp only [e]
  simp
theorem mz_c_lt {a b : Int} (h0 : -2147483648 ≤ a ∧ a ≤ 2147483647 ∧ -2147483648 ≤ b ∧ b ≤ 2147483647) : (mj_cmp .lt (zI a) (zI b) = true) = (a < b) := by
  show ((decide (zI a < zI b)) = true) = _
  have e : (zI a < zI b) = (a < b) := zI_lt (by omega)
  simp only [e]
  simp
theorem mz_c_ge {a b : Int} (h0 : -2147483648 ≤ a ∧ a ≤ 2147483647 ∧ -2147483648 ≤ b ∧ b ≤ 2147483647) : (mj_cmp .ge (zI a) (zI b) = true) = (b ≤ a) := by
  show ((decide (zI b ≤ zI a)) = true) = _
  have e : (zI b ≤ zI a) = (b ≤ a) := zI_le (by omega)
  simp only [e]
  simp
theorem mz_c_gt {a b : Int} (h0 : -2147483648 ≤ a ∧ a ≤ 2147483647 ∧ -2147483648 ≤ b ∧ b ≤ 2147483647) : (mj_cmp .gt (zI a) (zI b) = true) = (b < a) := by
  show ((decide (zI b < zI a)) = true) = _
  have e : (zI b < zI a) = (b < a) := zI_lt (by omega)
  simp only [e]
  simp
theorem mz_c_le {a b : Int} (h0 : -2147483648 ≤ a ∧ a ≤ 2147483647 ∧ -2147483648 ≤ b ∧ b ≤ 2147483647) : (mj_cmp .le (zI a) (zI b) = true) = (a ≤ b) := by
  show ((decide (zI a ≤ zI b)) = true) = _
  have e : (zI a ≤ zI b) = (a ≤ b) := zI_le (by omega)
  simp only [e]
  simp
theorem mz_ic_eq_t {k : Int} {bt bf : Nat} {a b : Int} (h0 : -2147483648 ≤ a ∧ a ≤ 2147483647 ∧ -2147483648 ≤ b ∧ b ≤ 2147483647 ∧ a = b) : mj_ex E df go call bi ((.if_icmp .eq k, [bt, bf], v) :: is) loc (.int (zI b) :: .int (zI a) :: r) h = go bt loc r h := by
  show (if mj_cmp .eq (zI a) (zI b) = true then go bt loc r h else go bf loc r h) = _
  rw [if_pos (by rw [mz_c_eq (by omega)]; omega)]
theorem mz_if_eq_t {k : Int} {bt bf : Nat} {a : Int} (h0 : -2147483648 ≤ a ∧ a ≤ 2147483647 ∧ a = 0) : mj_ex E df go call bi ((.ifCond .eq k, [bt, bf], v) :: is) loc (.int (zI a) :: r) h = go bt loc r h := by
  show (if mj_cmp .eq (zI a) (zI 0) = true then go bt loc r h else go bf loc r h) = _
  rw [if_pos (by rw [mz_c_eq (by omega)]; omega)]
theorem mz_ic_eq_f {k : Int} {bt bf : Nat} {a b : Int} (h0 : -2147483648 ≤ a ∧ a ≤ 2147483647 ∧ -2147483648 ≤ b ∧ b ≤ 2147483647 ∧ a ≠ b) : mj_ex E df go call bi ((.if_icmp .eq k, [bt, bf], v) :: is) loc (.int (zI b) :: .int (zI a) :: r) h = go bf loc r h := by
  show (if mj_cmp .eq (zI a) (zI b) = true then go bt loc r h else go bf loc r h) = _
  rw [if_neg (by rw [mz_c_eq (by omega)]; omega)]
theorem mz_if_eq_f {k : Int} {bt bf : Nat} {a : Int} (h0 : -2147483648 ≤ a ∧ a ≤ 2147483647 ∧ a ≠ 0) : mj_ex E df go call bi ((.ifCond .eq k, [bt, bf], v) :: is) loc (.int (zI a) :: r) h = go bf loc r h := by
  show (if mj_cmp .eq (zI a) (zI 0) = true then go bt loc r h else go bf loc r h) = _
  rw [if_neg (by rw [mz_c_eq (by omega)]; omega)]
theorem mz_ic_ne_t {k : Int} {bt bf : Nat} {a b : Int} (h0 : -2147483648 ≤ a ∧ a ≤ 2147483647 ∧ -2147483648 ≤ b ∧ b ≤ 2147483647 ∧ a ≠ b) : mj_ex E df go call bi ((.if_icmp .ne k, [bt, bf], v) :: is) loc (.int (zI b) :: .int (zI a) :: r) h = go bt loc r h := by
  show (if mj_cmp .ne (zI a) (zI b) = true then go bt loc r h else go bf loc r h) = _
  rw [if_pos (by rw [mz_c_ne (by omega)]; omega)]
theorem mz_if_ne_t {k : Int} {bt bf : Nat} {a : Int} (h0 : -2147483648 ≤ a ∧ a ≤ 2147483647 ∧ a ≠ 0) : mj_ex E df go call bi ((.ifCond .ne k, [bt, bf], v) :: is) loc (.int (zI a) :: r) h = go bt loc r h := by
  show (if mj_cmp .ne (zI a) (zI 0) = true then go bt loc r h else go bf loc r h) = _
  rw [if_pos (by rw [mz_c_ne (by omega)]; omega)]
theorem mz_ic_ne_f {k : Int} {bt bf : Nat} {a b : Int} (h0 : -2147483648 ≤ a ∧ a ≤ 2147483647 ∧ -2147483648 ≤ b ∧ b ≤ 2147483647 ∧ a = b) : mj_ex E df go call bi ((.if_icmp .ne k, [bt, bf], v) :: is) loc (.int (zI b) :: .int (zI a) :: r) h = go bf loc r h := by
  show (if mj_cmp .ne (zI a) (zI b) = true then go bt loc r h else go bf loc r h) = _
  rw [if_neg (by rw [mz_c_ne (by omega)]; omega)]
theorem mz_if_ne_f {k : Int} {bt bf : Nat} {a : Int} (h0 : -2147483648 ≤ a ∧ a ≤ 2147483647 ∧ a = 0) : mj_ex E df go call bi ((.ifCond .ne k, [bt, bf], v) :: is) loc (.int (zI a) :: r) h = go bf loc r h := by
  show (if mj_cmp .ne (zI a) (zI 0) = true then go bt loc r h else go bf loc r h) = _
  rw [if_neg (by rw [mz_c_ne (by omega)]; omega)]
theorem mz_ic_lt_t {k : Int} {bt bf : Nat} {a b : Int} (h0 : -2147483648 ≤ a ∧ a ≤ 2147483647 ∧ -2147483648 ≤ b ∧ b ≤ 2147483647 ∧ a < b) : mj_ex E df go call bi ((.if_icmp .lt k, [bt, bf], v) :: is) loc (.int (zI b) :: .int (zI a) :: r) h = go bt loc r h := by
  show (if mj_cmp .lt (zI a) (zI b) = true then go bt loc r h else go bf loc r h) = _
  rw [if_pos (by rw [mz_c_lt (by omega)]; omega)]
theorem mz_if_lt_t {k : Int} {bt bf : Nat} {a : Int} (h0 : -2147483648 ≤ a ∧ a ≤ 2147483647 ∧ a < 0) : mj_ex E df go call bi ((.ifCond .lt k, [bt, bf], v) :: is) loc (.int (zI a) :: r) h = go bt loc r h := by
  show (if mj_cmp .lt (zI a) (zI 0) = true then go bt loc r h else go bf loc r h) = _
  rw [if_pos (by rw [mz_c_lt (by omega)]; omega)]
theorem mz_ic_lt_f {k : Int} {bt bf : Nat} {a b : Int} (h0 : -2147483648 ≤ a ∧ a ≤ 2147483647 ∧ -2147483648 ≤ b ∧ b ≤ 2147483647 ∧ b ≤ a) : mj_ex E df go call bi ((.if_icmp .lt k, [bt, bf], v) :: is) loc (.int (zI b) :: .int (zI a) :: r) h = go bf loc r h := by
  show (if mj_cmp .lt (zI a) (zI b) = true then go bt loc r h else go bf loc r h) = _
  rw [if_neg (by rw [mz_c_lt (by omega)]; omega)]
theorem mz_if_lt_f {k : Int} {bt bf : Nat} {a : Int} (h0 : -2147483648 ≤ a ∧ a ≤ 2147483647 ∧ 0 ≤ a) : mj_ex E df go call bi ((.ifCond .lt k, [bt, bf], v) :: is) loc (.int (zI a) :: r) h = go bf loc r h := by
  show (if mj_cmp .lt (zI a) (zI 0) = true then go bt loc r h else go bf loc r h) = _
  rw [if_neg (by rw [mz_c_lt (by omega)]; omega)]
theorem mz_ic_ge_t {k : Int} {bt bf : Nat} {a b : Int} (h0 : -2147483648 ≤ a ∧ a ≤ 2147483647 ∧ -2147483648 ≤ b ∧ b ≤ 2147483647 ∧ b ≤ a) : mj_ex E df go call bi ((.if_icmp .ge k, [bt, bf], v) :: is) loc (.int (zI b) :: .int (zI a) :: r) h = go bt loc r h := by
  show (if mj_cmp .ge (zI a) (zI b) = true then go bt loc r h else go bf loc r h) = _
  rw [if_pos (by rw [mz_c_ge (by omega)]; omega)]
theorem mz_if_ge_t {k : Int} {bt bf : Nat} {a : Int} (h0 : -2147483648 ≤ a ∧ a ≤ 2147483647 ∧ 0 ≤ a) : mj_ex E df go call bi ((.ifCond .ge k, [bt, bf], v) :: is) loc (.int (zI a) :: r) h = go bt loc r h := by
  show (if mj_cmp .ge (zI a) (zI 0) = true then go bt loc r h else go bf loc r h) = _
  rw [if_pos (by rw [mz_c_ge (by omega)]; omega)]
theorem mz_ic_ge_f {k : Int} {bt bf : Nat} {a b : Int} (h0 : -2147483648 ≤ a ∧ a ≤ 2147483647 ∧ -2147483648 ≤ b ∧ b ≤ 2147483647 ∧ a < b) : mj_ex E df go call bi ((.if_icmp .ge k, [bt, bf], v) :: is) loc (.int (zI b) :: .int (zI a) :: r) h = go bf loc r h := by
  show (if mj_cmp .ge (zI a) (zI b) = true then go bt loc r h else go bf loc r h) = _
  rw [if_neg (by rw [mz_c_ge (by omega)]; omega)]
theorem mz_if_ge_f {k : Int} {bt bf : Nat} {a : Int} (h0 : -2147483648 ≤ a ∧ a ≤ 2147483647 ∧ a < 0) : mj_ex E df go call bi ((.ifCond .ge k, [bt, bf], v) :: is) loc (.int (zI a) :: r) h = go bf loc r h := by
  show (if mj_cmp .ge (zI a) (zI 0) = true then go bt loc r h else go bf loc r h) = _
  rw [if_neg (by rw [mz_c_ge (by omega)]; omega)]
theorem mz_ic_gt_t {k : Int} {bt bf : Nat} {a b : Int} (h0 : -2147483648 ≤ a ∧ a ≤ 2147483647 ∧ -2147483648 ≤ b ∧ b ≤ 2147483647 ∧ b < a) : mj_ex E df go call bi ((.if_icmp .gt k, [bt, bf], v) :: is) loc (.int (zI b) :: .int (zI a) :: r) h = go bt loc r h := by
  show (if mj_cmp .gt (zI a) (zI b) = true then go bt loc r h else go bf loc r h) = _
  rw [if_pos (by rw [mz_c_gt (by omega)]; omega)]
theorem mz_if_gt_t {k : Int} {bt bf : Nat} {a : Int} (h0 : -2147483648 ≤ a ∧ a ≤ 2147483647 ∧ 0 < a) : mj_ex E df go call bi ((.ifCond .gt k, [bt, bf], v) :: is) loc (.int (zI a) :: r) h = go bt loc r h := by
  show (if mj_cmp .gt (zI a) (zI 0) = true then go bt loc r h else go bf loc r h) = _
  rw [if_pos (by rw [mz_c_gt (by omega)]; omega)]
theorem mz_ic_gt_f {k : Int} {bt bf : Nat} {a b : Int} (h0 : -2147483648 ≤ a ∧ a ≤ 2147483647 ∧ -2147483648 ≤ b ∧ b ≤ 2147483647 ∧ a ≤ b) : mj_ex E df go call bi ((.if_icmp .gt k, [bt, bf], v) :: is) loc (.int (zI b) :: .int (zI a) :: r) h = go bf loc r h := by
  show (if mj_cmp .gt (zI a) (zI b) = true then go bt loc r h else go bf loc r h) = _
  rw [if_neg (by rw [mz_c_gt (by omega)]; omega)]
theorem mz_if_gt_f {k : Int} {bt bf : Nat} {a : Int} (h0 : -2147483648 ≤ a ∧ a ≤ 2147483647 ∧ a ≤ 0) : mj_ex E df go call bi ((.ifCond .gt k, [bt, bf], v) :: is) loc (.int (zI a) :: r) h = go bf loc r h := by
  show (if mj_cmp .gt (zI a) (zI 0) = true then go bt loc r h else go bf loc r h) = _
  rw [if_neg (by rw [mz_c_gt (by omega)]; omega)]
theorem mz_ic_le_t {k : Int} {bt bf : Nat} {a b : Int} (h0 : -2147483648 ≤ a ∧ a ≤ 2147483647 ∧ -2147483648 ≤ b ∧ b ≤ 2147483647 ∧ a ≤ b) : mj_ex E df go call bi ((.if_icmp .le k, [bt, bf], v) :: is) loc (.int (zI b) :: .int (zI a) :: r) h = go bt loc r h := by
  show (if mj_cmp .le (zI a) (zI b) = true then go bt loc r h else go bf loc r h) = _
  rw [if_pos (by rw [mz_c_le (by omega)]; omega)]
theorem mz_if_le_t {k : Int} {bt bf : Nat} {a : Int} (h0 : -2147483648 ≤ a ∧ a ≤ 2147483647 ∧ a ≤ 0) : mj_ex E df go call bi ((.ifCond .le k, [bt, bf], v) :: is) loc (.int (zI a) :: r) h = go bt loc r h := by
  show (if mj_cmp .le (zI a) (zI 0) = true then go bt loc r h else go bf loc r h) = _
  rw [if_pos (by rw [mz_c_le (by omega)]; omega)]
theorem mz_ic_le_f {k : Int} {bt bf : Nat} {a b : Int} (h0 : -2147483648 ≤ a ∧ a ≤ 2147483647 ∧ -2147483648 ≤ b ∧ b ≤ 2147483647 ∧ b < a) : mj_ex E df go call bi ((.if_icmp .le k, [bt, bf], v) :: is) loc (.int (zI b) :: .int (zI a) :: r) h = go bf loc r h := by
  show (if mj_cmp .le (zI a) (zI b) = true then go bt loc r h else go bf loc r h) = _
  rw [if_neg (by rw [mz_c_le (by omega)]; omega)]
theorem mz_if_le_f {k : Int} {bt bf : Nat} {a : Int} (h0 : -2147483648 ≤ a ∧ a ≤ 2147483647 ∧ 0 < a) : mj_ex E df go call bi ((.ifCond .le k, [bt, bf], v) :: is) loc (.int (zI a) :: r) h = go bf loc r h := by
  show (if mj_cmp .le (zI a) (zI 0) = true then go bt loc r h else go bf loc r h) = _
  rw [if_neg (by rw [mz_c_le (by omega)]; omega)]
theorem mo_ic_eq {k : Int} {bt bf : Nat} {a b : Int} (h0 : -2147483648 ≤ a ∧ a ≤ 2147483647 ∧ -2147483648 ≤ b ∧ b ≤ 2147483647) : mj_ex E df go call bi ((.if_icmp .eq k, [bt, bf], v) :: is) loc (.int (zI b) :: .int (zI a) :: r) h = if a = b then go bt loc r h else go bf loc r h := by
  show (if mj_cmp .eq (zI a) (zI b) = true then go bt loc r h else go bf loc r h) = _
  simp only [mz_c_eq h0]
theorem mo_if_eq {k : Int} {bt bf : Nat} {a : Int} (h0 : -2147483648 ≤ a ∧ a ≤ 2147483647) : mj_ex E df go call bi ((.ifCond .eq k, [bt, bf], v) :: is) loc (.int (zI a) :: r) h = if a = 0 then go bt loc r h else go bf loc r h := by
  show (if mj_cmp .eq (zI a) (zI 0) = true then go bt loc r h else go bf loc r h) = _
  simp only [mz_c_eq (show -2147483648 ≤ a ∧ a ≤ 2147483647 ∧ -2147483648 ≤ (0 : Int) ∧ (0 : Int) ≤ 2147483647 by omega)]
theorem mo_ic_ne {k : Int} {bt bf : Nat} {a b : Int} (h0 : -2147483648 ≤ a ∧ a ≤ 2147483647 ∧ -2147483648 ≤ b ∧ b ≤ 2147483647) : mj_ex E df go call bi ((.if_icmp .ne k, [bt, bf], v) :: is) loc (.int (zI b) :: .int (zI a) :: r) h = if a ≠ b then go bt loc r h else go bf loc r h := by
  show (if mj_cmp .ne (zI a) (zI b) = true then go bt loc r h else go bf loc r h) = _
  simp only [mz_c_ne h0]
theorem mo_if_ne {k : Int} {bt bf : Nat} {a : Int} (h0 : -2147483648 ≤ a ∧ a ≤ 2147483647) : mj_ex E df go call bi ((.ifCond .ne k, [bt, bf], v) :: is) loc (.int (zI a) :: r) h = if a ≠ 0 then go bt loc r h else go bf loc r h := by
  show (if mj_cmp .ne (zI a) (zI 0) = true then go bt loc r h else go bf loc r h) = _
  simp only [mz_c_ne (show -2147483648 ≤ a ∧ a ≤ 2147483647 ∧ -2147483648 ≤ (0 : Int) ∧ (0 : Int) ≤ 2147483647 by omega)]
theorem mo_ic_lt {k : Int} {bt bf : Nat} {a b : Int} (h0 : -2147483648 ≤ a ∧ a ≤ 2147483647 ∧ -2147483648 ≤ b ∧ b ≤ 2147483647) : mj_ex E df go call bi ((.if_icmp .lt k, [bt, bf], v) :: is) loc (.int (zI b) :: .int (zI a) :: r) h = if a < b then go bt loc r h else go bf loc r h := by
  show (if mj_cmp .lt (zI a) (zI b) = true then go bt loc r h else go bf loc r h) = _
  simp only [mz_c_lt h0]
theorem mo_if_lt {k : Int} {bt bf : Nat} {a : Int} (h0 : -2147483648 ≤ a ∧ a ≤ 2147483647) : mj_ex E df go call bi ((.ifCond .lt k, [bt, bf], v) :: is) loc (.int (zI a) :: r) h = if a < 0 then go bt loc r h else go bf loc r h := by
  show (if mj_cmp .lt (zI a) (zI 0) = true then go bt loc r h else go bf loc r h) = _
  simp only [mz_c_lt (show -2147483648 ≤ a ∧ a ≤ 2147483647 ∧ -2147483648 ≤ (0 : Int) ∧ (0 : Int) ≤ 2147483647 by omega)]
theorem mo_ic_ge {k : Int} {bt bf : Nat} {a b : Int} (h0 : -2147483648 ≤ a ∧ a ≤ 2147483647 ∧ -2147483648 ≤ b ∧ b ≤ 2147483647) : mj_ex E df go call bi ((.if_icmp .ge k, [bt, bf], v) :: is) loc (.int (zI b) :: .int (zI a) :: r) h = if b ≤ a then go bt loc r h else go bf loc r h := by
  show (if mj_cmp .ge (zI a) (zI b) = true then go bt loc r h else go bf loc r h) = _
  simp only [mz_c_ge h0]
theorem mo_if_ge {k : Int} {bt bf : Nat} {a : Int} (h0 : -2147483648 ≤ a ∧ a ≤ 2147483647) : mj_ex E df go call bi ((.ifCond .ge k, [bt, bf], v) :: is) loc (.int (zI a) :: r) h = if 0 ≤ a then go bt loc r h else go bf loc r h := by
  show (if mj_cmp .ge (zI a) (zI 0) = true then go bt loc r h else go bf loc r h) = _
  simp only [mz_c_ge (show -2147483648 ≤ a ∧ a ≤ 2147483647 ∧ -2147483648 ≤ (0 : Int) ∧ (0 : Int) ≤ 2147483647 by omega)]
theorem mo_ic_gt {k : Int} {bt bf : Nat} {a b : Int} (h0 : -2147483648 ≤ a ∧ a ≤ 2147483647 ∧ -2147483648 ≤ b ∧ b ≤ 2147483647) : mj_ex E df go call bi ((.if_icmp .gt k, [bt, bf], v) :: is) loc (.int (zI b) :: .int (zI a) :: r) h = if b < a then go bt loc r h else go bf loc r h := by
  show (if mj_cmp .gt (zI a) (zI b) = true then go bt loc r h else go bf loc r h) = _
  simp only [mz_c_gt h0]
theorem mo_if_gt {k : Int} {bt bf : Nat} {a : Int} (h0 : -2147483648 ≤ a ∧ a ≤ 2147483647) : mj_ex E df go call bi ((.ifCond .gt k, [bt, bf], v) :: is) loc (.int (zI a) :: r) h = if 0 < a then go bt loc r h else go bf loc r h := by
  show (if mj_cmp .gt (zI a) (zI 0) = true then go bt loc r h else go bf loc r h) = _
  simp only [mz_c_gt (show -2147483648 ≤ a ∧ a ≤ 2147483647 ∧ -2147483648 ≤ (0 : Int) ∧ (0 : Int) ≤ 2147483647 by omega)]
theorem mo_ic_le {k : Int} {bt bf : Nat} {a b : Int} (h0 : -2147483648 ≤ a ∧ a ≤ 2147483647 ∧ -2147483648 ≤ b ∧ b ≤ 2147483647) : mj_ex E df go call bi ((.if_icmp .le k, [bt, bf], v) :: is) loc (.int (zI b) :: .int (zI a) :: r) h = if a ≤ b then go bt loc r h else go bf loc r h := by
  show (if mj_cmp .le (zI a) (zI b) = true then go bt loc r h else go bf loc r h) = _
  simp only [mz_c_le h0]
theorem mo_if_le {k : Int} {bt bf : Nat} {a : Int} (h0 : -2147483648 ≤ a ∧ a ≤ 2147483647) : mj_ex E df go call bi ((.ifCond .le k, [bt, bf], v) :: is) loc (.int (zI a) :: r) h = if a ≤ 0 then go bt loc r h else go bf loc r h := by
  show (if mj_cmp .le (zI a) (zI 0) = true then go bt loc r h else go bf loc r h) = _
  simp only [mz_c_le (show -2147483648 ≤ a ∧ a ≤ 2147483647 ∧ -2147483648 ≤ (0 : Int) ∧ (0 : Int) ≤ 2147483647 by omega)]
theorem mz_iret {a : Int32} : mj_ex E df go call bi ((.ireturn, [], v) :: is) loc ([.int a]) h = some (some (.int a), h) := id rfl
theorem mz_zret {a : Int} (h0 : a = 0 ∨ a = 1) : mj_ex E df go call bi ((.ireturn, [1], v) :: is) loc ([.int (zI a)]) h = some (some (.int (zI a)), h) := by
  rcases h0 with q | q <;> subst q <;> rfl
theorem mz_cret {a : Int} (h0 : 0 ≤ a ∧ a ≤ 65535) : mj_ex E df go call bi ((.ireturn, [2], v) :: is) loc ([.int (zI a)]) h = some (some (.int (zI a)), h) := by
  show (match (if decide (0 ≤ (zI a).toInt ∧ (zI a).toInt ≤ 65535) = true then some (some (Value.int (zI a))) else none) with
    | some rv => some (rv, h)
    | none => none) = _
  rw [zI_toInt (by omega), if_pos (decide_eq_true h0)]
theorem mz_bret {a : Int} (h0 : a = 0) : mj_ex E df go call bi ((.ireturn, [3], v) :: is) loc ([.int (zI a)]) h = some (some (.int (zI a)), h) := by
  subst h0; rfl
theorem mz_ret : mj_ex E df go call bi ((.return_, x, v) :: is) loc (([] : List Value)) h = some (none, h) := id rfl
theorem mz_lret {a : Int64} : mj_ex E df go call bi ((.lreturn, x, v) :: is) loc ([.long a]) h = some (some (.long a), h) := id rfl
theorem mz_tswz {lo hi a : Int} (h0 : -2147483648 ≤ a ∧ a ≤ 2147483647) : mj_tsw lo hi (zI a) = if a < lo ∨ hi < a then 0 else (a - lo).toNat + 1 := by
  unfold mj_tsw
  rw [zI_toInt h0]
theorem mz_iald {t : Nat} {i : Int} {k n : Nat} {f : Nat → Int32} (hk : h[k]? = some (.inl (t, n, .inl f))) (h0 : 0 ≤ i ∧ i < n) (hn : n ≤ 2147483647) : mj_ald E t (.int (zI i) :: .ref k :: r) h = some (.int (f i.toNat) :: r) := by
  show (match h[k]? with
    | some (.inl (t', n, .inl f)) => if t' = t ∧ mj_in (zI i) n = true then some (Value.int (f (zI i).toNatClampNeg) :: r) else none
    | _ => none) = _
  rw [hk]
  show (if t = t ∧ mj_in (zI i) n = true then some (Value.int (f (zI i).toNatClampNeg) :: r) else none) = _
  rw [if_pos ⟨rfl, zI_in (by omega)⟩, zI_cl (by omega)]
theorem mz_rald {t : Nat} {i : Int} {k n : Nat} {f : Nat → Int32} (hk : E k = some (t, n, f)) (h0 : 0 ≤ i ∧ i < n) (hn : n ≤ 2147483647) : mj_ald E t (.int (zI i) :: .retAddr k :: r) h = some (.int (f i.toNat) :: r) := by
  show (match E k with
    | some (te, n, f) => if te = t ∧ mj_in (zI i) n = true then some (Value.int (f (zI i).toNatClampNeg) :: r) else none
    | none => none) = _
  rw [hk]
  show (if t = t ∧ mj_in (zI i) n = true then some (Value.int (f (zI i).toNatClampNeg) :: r) else none) = _
  rw [if_pos ⟨rfl, zI_in (by omega)⟩, zI_cl (by omega)]
theorem mz_lald {i : Int} {k n : Nat} {f : Nat → Int64} (hk : h[k]? = some (.inl (3, n, .inr (.inl f)))) (h0 : 0 ≤ i ∧ i < n) (hn : n ≤ 2147483647) : mj_lald (.int (zI i) :: .ref k :: r) h = some (.long (f i.toNat) :: r) := by
  show (match h[k]? with
    | some (.inl (t', n, .inr (.inl f))) => if t' = 3 ∧ mj_in (zI i) n = true then some (Value.long (f (zI i).toNatClampNeg) :: r) else none
    | _ => none) = _
  rw [hk]
  show (if 3 = 3 ∧ mj_in (zI i) n = true then some (Value.long (f (zI i).toNatClampNeg) :: r) else none) = _
  rw [if_pos ⟨rfl, zI_in (by omega)⟩, zI_cl (by omega)]
theorem mz_aald {i : Int} {k n : Nat} {f : Nat → Option Nat} (hk : h[k]? = some (.inl (4, n, .inr (.inr (.inr (.inr f)))))) (h0 : 0 ≤ i ∧ i < n) (hn : n ≤ 2147483647) : mj_aald (.int (zI i) :: .ref k :: r) h = some (mj_rf (f i.toNat) :: r) := by
  show (match h[k]? with
    | some (.inl (t', n, .inr (.inr (.inr (.inr f))))) => if t' = 4 ∧ mj_in (zI i) n = true then some (mj_rf (f (zI i).toNatClampNeg) :: r) else none
    | _ => none) = _
  rw [hk]
  show (if 4 = 4 ∧ mj_in (zI i) n = true then some (mj_rf (f (zI i).toNatClampNeg) :: r) else none) = _
  rw [if_pos ⟨rfl, zI_in (by omega)⟩, zI_cl (by omega)]
theorem mz_iast {t : Nat} {i : Int} {k n : Nat} {f : Nat → Int32} {y : Int32} (hk : h[k]? = some (.inl (t, n, .inl f))) (h0 : 0 ≤ i ∧ i < n) (hn : n ≤ 2147483647) : mj_ast t (.int y :: .int (zI i) :: .ref k :: r) h = some (r, h.set k (.inl (t, n, .inl (upd f i.toNat (vp_nar (mj_ty t) y))))) := by
  show (match h[k]? with
    | some (.inl (t', n, .inl f)) => if t' = t ∧ mj_in (zI i) n = true then some (r, h.set k (.inl (t', n, .inl (upd f (zI i).toNatClampNeg (vp_nar (mj_ty t) y))))) else none
    | _ => none) = _
  rw [hk]
  show (if t = t ∧ mj_in (zI i) n = true then some (r, h.set k (.inl (t, n, .inl (upd f (zI i).toNatClampNeg (vp_nar (mj_ty t) y))))) else none) = _
  rw [if_pos ⟨rfl, zI_in (by omega)⟩, zI_cl (by omega)]
theorem mz_last {i : Int} {k n : Nat} {f : Nat → Int64} {y : Int64} (hk : h[k]? = some (.inl (3, n, .inr (.inl f)))) (h0 : 0 ≤ i ∧ i < n) (hn : n ≤ 2147483647) : mj_last (.long y :: .int (zI i) :: .ref k :: r) h = some (r, h.set k (.inl (3, n, .inr (.inl (vp_updL f i.toNat y))))) := by
  show (match h[k]? with
    | some (.inl (t', n, .inr (.inl f))) => if t' = 3 ∧ mj_in (zI i) n = true then some (r, h.set k (.inl (t', n, .inr (.inl (vp_updL f (zI i).toNatClampNeg y))))) else none
    | _ => none) = _
  rw [hk]
  show (if 3 = 3 ∧ mj_in (zI i) n = true then some (r, h.set k (.inl (3, n, .inr (.inl (vp_updL f (zI i).toNatClampNeg y))))) else none) = _
  rw [if_pos ⟨rfl, zI_in (by omega)⟩, zI_cl (by omega)]
theorem mz_upd {G : gT} {c : Nat} {i y : Int} (h0 : 0 ≤ i) : upd (fun j : Nat => zI (G c j)) i.toNat (zI y) = fun j : Nat => zI (gs G c i y c j) := by
  funext j
  unfold upd
  by_cases q : j = i.toNat
  · rw [if_pos q, gs_e (by omega)]
  · rw [if_neg q, gs_i (by omega)]
theorem mz_updL {G : gT} {c : Nat} {i y : Int} (h0 : 0 ≤ i) : vp_updL (fun j : Nat => lI (G c j)) i.toNat (lI y) = fun j : Nat => lI (gs G c i y c j) := by
  funext j
  unfold vp_updL
  by_cases q : j = i.toNat
  · rw [if_pos q, gs_e (by omega)]
  · rw [if_neg q, gs_i (by omega)]
theorem mz_updR {R : rT} {c : Nat} {i : Int} {y : Option Nat} (h0 : 0 ≤ i) : va_up (fun j : Nat => R c j) i.toNat y = fun j : Nat => rs R c i y c j := by
  funext j
  unfold va_up
  by_cases q : j = i.toNat
  · rw [if_pos q, rs_e (by omega)]
  · rw [if_neg q, rs_i (by omega)]
theorem zI_natc {v : Int} (h : 0 ≤ v ∧ v ≤ 2147483647) : (zI v).toUInt32.toNat = v.toNat := by
  have e : zI v = Int32.ofNat v.toNat := by
    unfold zI
    rw [← Int32.ofInt_eq_ofNat, Int.toNat_of_nonneg h.1]
  rw [e]
  simp
  omega
theorem zI_char {v : Int} (h : 0 ≤ v ∧ v ≤ 65535) : ((zI v).toUInt32 % 65536).toInt32 = zI v := by
  have e : (zI v).toUInt32 % 65536 = (zI v).toUInt32 := by
    apply UInt32.toNat.inj
    rw [UInt32.toNat_mod, zI_natc (by omega)]
    show v.toNat % 65536 = v.toNat
    omega
  rw [e]
  simp
theorem mz_i2c {a : Int} (h0 : 0 ≤ a ∧ a ≤ 65535) : mj_ex E df go call bi ((.i2c, x, v) :: is) loc (.int (zI a) :: r) h = mj_ex E df go call bi is loc (.int (zI a) :: r) h := by
  show mj_ex E df go call bi is loc (.int ((zI a).toUInt32 % 65536).toInt32 :: r) h = _
  rw [zI_char h0]
theorem vp_nar_c {v : Int} (h : 0 ≤ v ∧ v ≤ 65535) : vp_nar .char (zI v) = zI v := by
  show ((zI v).toUInt32 % 65536).toInt32 = _
  exact zI_char h
theorem vp_nar_z {v : Int} (h : v = 0 ∨ v = 1) : vp_nar .boolean (zI v) = zI v := by
  rcases h with q | q <;> subst q <;> rfl
variable {G : gT} {ro : rT} {tl : List mj_C}
theorem hg_0 : (mj_HN G ro tl)[0]? = some (.inr (11, [.ref 4, .ref 24, .ref 44, .ref 46, .ref 51, .ref 54])) := rfl
theorem mz_g0_0 {a u : Nat} : mj_ex E df go call bi ((.getfield a, [11, 0, u], v) :: is) loc (.ref 0 :: r) (mj_HN G ro tl) = mj_ex E df go call bi is loc (.ref 4 :: r) (mj_HN G ro tl) := id rfl
theorem mz_g0_1 {a u : Nat} : mj_ex E df go call bi ((.getfield a, [11, 1, u], v) :: is) loc (.ref 0 :: r) (mj_HN G ro tl) = mj_ex E df go call bi is loc (.ref 24 :: r) (mj_HN G ro tl) := id rfl
theorem mz_g0_2 {a u : Nat} : mj_ex E df go call bi ((.getfield a, [11, 2, u], v) :: is) loc (.ref 0 :: r) (mj_HN G ro tl) = mj_ex E df go call bi is loc (.ref 44 :: r) (mj_HN G ro tl) := id rfl
theorem mz_g0_3 {a u : Nat} : mj_ex E df go call bi ((.getfield a, [11, 3, u], v) :: is) loc (.ref 0 :: r) (mj_HN G ro tl) = mj_ex E df go call bi is loc (.ref 46 :: r) (mj_HN G ro tl) := id rfl
theorem mz_g0_4 {a u : Nat} : mj_ex E df go call bi ((.getfield a, [11, 4, u], v) :: is) loc (.ref 0 :: r) (mj_HN G ro tl) = mj_ex E df go call bi is loc (.ref 51 :: r) (mj_HN G ro tl) := id rfl
theorem mz_g0_5 {a u : Nat} : mj_ex E df go call bi ((.getfield a, [11, 5, u], v) :: is) loc (.ref 0 :: r) (mj_HN G ro tl) = mj_ex E df go call bi is loc (.ref 54 :: r) (mj_HN G ro tl) := id rfl
theorem hg_1 : (mj_HN G ro tl)[1]? = some (.inr (0, [.ref 2, .ref 3, .int (zI (G 1 2))])) := rfl
theorem mz_g1_0 {a u : Nat} : mj_ex E df go call bi ((.getfield a, [0, 0, u], v) :: is) loc (.ref 1 :: r) (mj_HN G ro tl) = mj_ex E df go call bi is loc (.ref 2 :: r) (mj_HN G ro tl) := id rfl
theorem mz_g1_1 {a u : Nat} : mj_ex E df go call bi ((.getfield a, [0, 1, u], v) :: is) loc (.ref 1 :: r) (mj_HN G ro tl) = mj_ex E df go call bi is loc (.ref 3 :: r) (mj_HN G ro tl) := id rfl
theorem mz_g1_2 {a u : Nat} : mj_ex E df go call bi ((.getfield a, [0, 2, u], v) :: is) loc (.ref 1 :: r) (mj_HN G ro tl) = mj_ex E df go call bi is loc (.int (zI (G 1 2)) :: r) (mj_HN G ro tl) := id rfl
theorem mz_p1_2 {a u : Nat} {y : Int} : mj_ex E df go call bi ((.putfield a, [0, 2, 0, u], v) :: is) loc (.int (zI y) :: .ref 1 :: r) (mj_HN G ro tl) = mj_ex E df go call bi is loc r (mj_HN (gs G 1 2 y) ro tl) := id rfl
theorem hg_2 : (mj_HN G ro tl)[2]? = some (.inl (0, 8, .inl (fun j : Nat => zI (G 2 j)))) := rfl
theorem mz_ld2 {i : Int} (h0 : 0 ≤ i ∧ i < 8) : mj_ex E df go call bi ((.iaload, x, v) :: is) loc (.int (zI i) :: .ref 2 :: r) (mj_HN G ro tl) = mj_ex E df go call bi is loc (.int (zI (G 2 i)) :: r) (mj_HN G ro tl) := by
  show (match mj_ald E 0 (.int (zI i) :: .ref 2 :: r) (mj_HN G ro tl) with
    | some st' => mj_ex E df go call bi is loc st' (mj_HN G ro tl)
    | none => none) = _
  rw [mz_iald hg_2 (by omega) (by omega)]
  show mj_ex E df go call bi is loc (.int (zI (G 2 ((i.toNat : Nat) : Int))) :: r) (mj_HN G ro tl) = _
  rw [Int.toNat_of_nonneg h0.1]
theorem mz_st2 {i y : Int} (h0 : 0 ≤ i ∧ i < 8) : mj_ex E df go call bi ((.iastore, x, v) :: is) loc (.int (zI y) :: .int (zI i) :: .ref 2 :: r) (mj_HN G ro tl) = mj_ex E df go call bi is loc r (mj_HN (gs G 2 i y) ro tl) := by
  show (match mj_ast 0 (.int (zI y) :: .int (zI i) :: .ref 2 :: r) (mj_HN G ro tl) with
    | some (st', h') => mj_ex E df go call bi is loc st' h'
    | none => none) = _
  rw [mz_iast hg_2 (by omega) (by omega), show vp_nar (mj_ty 0) (zI y) = zI y from rfl, mz_upd h0.1]
  rfl
theorem mz_len2 : mj_ex E df go call bi ((.arraylength, x, v) :: is) loc (.ref 2 :: r) (mj_HN G ro tl) = mj_ex E df go call bi is loc (.int (zI 8) :: r) (mj_HN G ro tl) := id rfl
theorem hg_3 : (mj_HN G ro tl)[3]? = some (.inl (0, 300, .inl (fun j : Nat => zI (G 3 j)))) := rfl
theorem mz_ld3 {i : Int} (h0 : 0 ≤ i ∧ i < 300) : mj_ex E df go call bi ((.iaload, x, v) :: is) loc (.int (zI i) :: .ref 3 :: r) (mj_HN G ro tl) = mj_ex E df go call bi is loc (.int (zI (G 3 i)) :: r) (mj_HN G ro tl) := by
  show (match mj_ald E 0 (.int (zI i) :: .ref 3 :: r) (mj_HN G ro tl) with
    | some st' => mj_ex E df go call bi is loc st' (mj_HN G ro tl)
    | none => none) = _
  rw [mz_iald hg_3 (by omega) (by omega)]
  show mj_ex E df go call bi is loc (.int (zI (G 3 ((i.toNat : Nat) : Int))) :: r) (mj_HN G ro tl) = _
  rw [Int.toNat_of_nonneg h0.1]
theorem mz_st3 {i y : Int} (h0 : 0 ≤ i ∧ i < 300) : mj_ex E df go call bi ((.iastore, x, v) :: is) loc (.int (zI y) :: .int (zI i) :: .ref 3 :: r) (mj_HN G ro tl) = mj_ex E df go call bi is loc r (mj_HN (gs G 3 i y) ro tl) := by
  show (match mj_ast 0 (.int (zI y) :: .int (zI i) :: .ref 3 :: r) (mj_HN G ro tl) with
    | some (st', h') => mj_ex E df go call bi is loc st' h'
    | none => none) = _
  rw [mz_iast hg_3 (by omega) (by omega), show vp_nar (mj_ty 0) (zI y) = zI y from rfl, mz_upd h0.1]
  rfl
theorem mz_len3 : mj_ex E df go call bi ((.arraylength, x, v) :: is) loc (.ref 3 :: r) (mj_HN G ro tl) = mj_ex E df go call bi is loc (.int (zI 300) :: r) (mj_HN G ro tl) := id rfl
theorem hg_4 : (mj_HN G ro tl)[4]? = some (.inr (10, [.ref 5, .ref 9, .ref 11, .ref 15, .ref 19, .ref 21, .ref 22, .ref 23, .ref 1, .int (zI (G 4 9)), .int (zI (G 4 10)), .int (zI (G 4 11))])) := rfl
theorem mz_g4_0 {a u : Nat} : mj_ex E df go call bi ((.getfield a, [10, 0, u], v) :: is) loc (.ref 4 :: r) (mj_HN G ro tl) = mj_ex E df go call bi is loc (.ref 5 :: r) (mj_HN G ro tl) := id rfl
theorem mz_g4_1 {a u : Nat} : mj_ex E df go call bi ((.getfield a, [10, 1, u], v) :: is) loc (.ref 4 :: r) (mj_HN G ro tl) = mj_ex E df go call bi is loc (.ref 9 :: r) (mj_HN G ro tl) := id rfl
theorem mz_g4_2 {a u : Nat} : mj_ex E df go call bi ((.getfield a, [10, 2, u], v) :: is) loc (.ref 4 :: r) (mj_HN G ro tl) = mj_ex E df go call bi is loc (.ref 11 :: r) (mj_HN G ro tl) := id rfl
theorem mz_g4_3 {a u : Nat} : mj_ex E df go call bi ((.getfield a, [10, 3, u], v) :: is) loc (.ref 4 :: r) (mj_HN G ro tl) = mj_ex E df go call bi is loc (.ref 15 :: r) (mj_HN G ro tl) := id rfl
theorem mz_g4_4 {a u : Nat} : mj_ex E df go call bi ((.getfield a, [10, 4, u], v) :: is) loc (.ref 4 :: r) (mj_HN G ro tl) = mj_ex E df go call bi is loc (.ref 19 :: r) (mj_HN G ro tl) := id rfl
theorem mz_g4_5 {a u : Nat} : mj_ex E df go call bi ((.getfield a, [10, 5, u], v) :: is) loc (.ref 4 :: r) (mj_HN G ro tl) = mj_ex E df go call bi is loc (.ref 21 :: r) (mj_HN G ro tl) := id rfl
theorem mz_g4_6 {a u : Nat} : mj_ex E df go call bi ((.getfield a, [10, 6, u], v) :: is) loc (.ref 4 :: r) (mj_HN G ro tl) = mj_ex E df go call bi is loc (.ref 22 :: r) (mj_HN G ro tl) := id rfl
theorem mz_g4_7 {a u : Nat} : mj_ex E df go call bi ((.getfield a, [10, 7, u], v) :: is) loc (.ref 4 :: r) (mj_HN G ro tl) = mj_ex E df go call bi is loc (.ref 23 :: r) (mj_HN G ro tl) := id rfl
theorem mz_g4_8 {a u : Nat} : mj_ex E df go call bi ((.getfield a, [10, 8, u], v) :: is) loc (.ref 4 :: r) (mj_HN G ro tl) = mj_ex E df go call bi is loc (.ref 1 :: r) (mj_HN G ro tl) := id rfl
theorem mz_g4_9 {a u : Nat} : mj_ex E df go call bi ((.getfield a, [10, 9, u], v) :: is) loc (.ref 4 :: r) (mj_HN G ro tl) = mj_ex E df go call bi is loc (.int (zI (G 4 9)) :: r) (mj_HN G ro tl) := id rfl
theorem mz_p4_9 {a u : Nat} {y : Int} : mj_ex E df go call bi ((.putfield a, [10, 9, 0, u], v) :: is) loc (.int (zI y) :: .ref 4 :: r) (mj_HN G ro tl) = mj_ex E df go call bi is loc r (mj_HN (gs G 4 9 y) ro tl) := id rfl
theorem mz_g4_10 {a u : Nat} : mj_ex E df go call bi ((.getfield a, [10, 10, u], v) :: is) loc (.ref 4 :: r) (mj_HN G ro tl) = mj_ex E df go call bi is loc (.int (zI (G 4 10)) :: r) (mj_HN G ro tl) := id rfl
theorem mz_p4_10 {a u : Nat} {y : Int} : mj_ex E df go call bi ((.putfield a, [10, 10, 0, u], v) :: is) loc (.int (zI y) :: .ref 4 :: r) (mj_HN G ro tl) = mj_ex E df go call bi is loc r (mj_HN (gs G 4 10 y) ro tl) := id rfl
theorem mz_g4_11 {a u : Nat} : mj_ex E df go call bi ((.getfield a, [10, 11, u], v) :: is) loc (.ref 4 :: r) (mj_HN G ro tl) = mj_ex E df go call bi is loc (.int (zI (G 4 11)) :: r) (mj_HN G ro tl) := id rfl
theorem mz_p4_11 {a u : Nat} {y : Int} : mj_ex E df go call bi ((.putfield a, [10, 11, 0, u], v) :: is) loc (.int (zI y) :: .ref 4 :: r) (mj_HN G ro tl) = mj_ex E df go call bi is loc r (mj_HN (gs G 4 11 y) ro tl) := id rfl
theorem hg_5 : (mj_HN G ro tl)[5]? = some (.inr (3, [.ref 6, .ref 7, .ref 8])) := rfl
theorem mz_g5_0 {a u : Nat} : mj_ex E df go call bi ((.getfield a, [3, 0, u], v) :: is) loc (.ref 5 :: r) (mj_HN G ro tl) = mj_ex E df go call bi is loc (.ref 6 :: r) (mj_HN G ro tl) := id rfl
theorem mz_g5_1 {a u : Nat} : mj_ex E df go call bi ((.getfield a, [3, 1, u], v) :: is) loc (.ref 5 :: r) (mj_HN G ro tl) = mj_ex E df go call bi is loc (.ref 7 :: r) (mj_HN G ro tl) := id rfl
theorem mz_g5_2 {a u : Nat} : mj_ex E df go call bi ((.getfield a, [3, 2, u], v) :: is) loc (.ref 5 :: r) (mj_HN G ro tl) = mj_ex E df go call bi is loc (.ref 8 :: r) (mj_HN G ro tl) := id rfl
theorem hg_6 : (mj_HN G ro tl)[6]? = some (.inl (0, 8, .inl (fun j : Nat => zI (G 6 j)))) := rfl
theorem mz_ld6 {i : Int} (h0 : 0 ≤ i ∧ i < 8) : mj_ex E df go call bi ((.iaload, x, v) :: is) loc (.int (zI i) :: .ref 6 :: r) (mj_HN G ro tl) = mj_ex E df go call bi is loc (.int (zI (G 6 i)) :: r) (mj_HN G ro tl) := by
  show (match mj_ald E 0 (.int (zI i) :: .ref 6 :: r) (mj_HN G ro tl) with
    | some st' => mj_ex E df go call bi is loc st' (mj_HN G ro tl)
    | none => none) = _
  rw [mz_iald hg_6 (by omega) (by omega)]
  show mj_ex E df go call bi is loc (.int (zI (G 6 ((i.toNat : Nat) : Int))) :: r) (mj_HN G ro tl) = _
  rw [Int.toNat_of_nonneg h0.1]
theorem mz_st6 {i y : Int} (h0 : 0 ≤ i ∧ i < 8) : mj_ex E df go call bi ((.iastore, x, v) :: is) loc (.int (zI y) :: .int (zI i) :: .ref 6 :: r) (mj_HN G ro tl) = mj_ex E df go call bi is loc r (mj_HN (gs G 6 i y) ro tl) := by
  show (match mj_ast 0 (.int (zI y) :: .int (zI i) :: .ref 6 :: r) (mj_HN G ro tl) with
    | some (st', h') => mj_ex E df go call bi is loc st' h'
    | none => none) = _
  rw [mz_iast hg_6 (by omega) (by omega), show vp_nar (mj_ty 0) (zI y) = zI y from rfl, mz_upd h0.1]
  rfl
theorem mz_len6 : mj_ex E df go call bi ((.arraylength, x, v) :: is) loc (.ref 6 :: r) (mj_HN G ro tl) = mj_ex E df go call bi is loc (.int (zI 8) :: r) (mj_HN G ro tl) := id rfl
theorem hg_7 : (mj_HN G ro tl)[7]? = some (.inl (0, 8, .inl (fun j : Nat => zI (G 7 j)))) := rfl
theorem mz_ld7 {i : Int} (h0 : 0 ≤ i ∧ i < 8) : mj_ex E df go call bi ((.iaload, x, v) :: is) loc (.int (zI i) :: .ref 7 :: r) (mj_HN G ro tl) = mj_ex E df go call bi is loc (.int (zI (G 7 i)) :: r) (mj_HN G ro tl) := by
  show (match mj_ald E 0 (.int (zI i) :: .ref 7 :: r) (mj_HN G ro tl) with
    | some st' => mj_ex E df go call bi is loc st' (mj_HN G ro tl)
    | none => none) = _
  rw [mz_iald hg_7 (by omega) (by omega)]
  show mj_ex E df go call bi is loc (.int (zI (G 7 ((i.toNat : Nat) : Int))) :: r) (mj_HN G ro tl) = _
  rw [Int.toNat_of_nonneg h0.1]
theorem mz_st7 {i y : Int} (h0 : 0 ≤ i ∧ i < 8) : mj_ex E df go call bi ((.iastore, x, v) :: is) loc (.int (zI y) :: .int (zI i) :: .ref 7 :: r) (mj_HN G ro tl) = mj_ex E df go call bi is loc r (mj_HN (gs G 7 i y) ro tl) := by
  show (match mj_ast 0 (.int (zI y) :: .int (zI i) :: .ref 7 :: r) (mj_HN G ro tl) with
    | some (st', h') => mj_ex E df go call bi is loc st' h'
    | none => none) = _
  rw [mz_iast hg_7 (by omega) (by omega), show vp_nar (mj_ty 0) (zI y) = zI y from rfl, mz_upd h0.1]
  rfl
theorem mz_len7 : mj_ex E df go call bi ((.arraylength, x, v) :: is) loc (.ref 7 :: r) (mj_HN G ro tl) = mj_ex E df go call bi is loc (.int (zI 8) :: r) (mj_HN G ro tl) := id rfl
theorem hg_8 : (mj_HN G ro tl)[8]? = some (.inl (0, 8, .inl (fun j : Nat => zI (G 8 j)))) := rfl
theorem mz_ld8 {i : Int} (h0 : 0 ≤ i ∧ i < 8) : mj_ex E df go call bi ((.iaload, x, v) :: is) loc (.int (zI i) :: .ref 8 :: r) (mj_HN G ro tl) = mj_ex E df go call bi is loc (.int (zI (G 8 i)) :: r) (mj_HN G ro tl) := by
  show (match mj_ald E 0 (.int (zI i) :: .ref 8 :: r) (mj_HN G ro tl) with
    | some st' => mj_ex E df go call bi is loc st' (mj_HN G ro tl)
    | none => none) = _
  rw [mz_iald hg_8 (by omega) (by omega)]
  show mj_ex E df go call bi is loc (.int (zI (G 8 ((i.toNat : Nat) : Int))) :: r) (mj_HN G ro tl) = _
  rw [Int.toNat_of_nonneg h0.1]
theorem mz_st8 {i y : Int} (h0 : 0 ≤ i ∧ i < 8) : mj_ex E df go call bi ((.iastore, x, v) :: is) loc (.int (zI y) :: .int (zI i) :: .ref 8 :: r) (mj_HN G ro tl) = mj_ex E df go call bi is loc r (mj_HN (gs G 8 i y) ro tl) := by
  show (match mj_ast 0 (.int (zI y) :: .int (zI i) :: .ref 8 :: r) (mj_HN G ro tl) with
    | some (st', h') => mj_ex E df go call bi is loc st' h'
    | none => none) = _
  rw [mz_iast hg_8 (by omega) (by omega), show vp_nar (mj_ty 0) (zI y) = zI y from rfl, mz_upd h0.1]
  rfl
theorem mz_len8 : mj_ex E df go call bi ((.arraylength, x, v) :: is) loc (.ref 8 :: r) (mj_HN G ro tl) = mj_ex E df go call bi is loc (.int (zI 8) :: r) (mj_HN G ro tl) := id rfl
theorem hg_9 : (mj_HN G ro tl)[9]? = some (.inr (2, [.ref 10])) := rfl
theorem mz_g9_0 {a u : Nat} : mj_ex E df go call bi ((.getfield a, [2, 0, u], v) :: is) loc (.ref 9 :: r) (mj_HN G ro tl) = mj_ex E df go call bi is loc (.ref 10 :: r) (mj_HN G ro tl) := id rfl
theorem hg_10 : (mj_HN G ro tl)[10]? = some (.inl (0, 54, .inl (fun j : Nat => zI (G 10 j)))) := rfl
theorem mz_ld10 {i : Int} (h0 : 0 ≤ i ∧ i < 54) : mj_ex E df go call bi ((.iaload, x, v) :: is) loc (.int (zI i) :: .ref 10 :: r) (mj_HN G ro tl) = mj_ex E df go call bi is loc (.int (zI (G 10 i)) :: r) (mj_HN G ro tl) := by
  show (match mj_ald E 0 (.int (zI i) :: .ref 10 :: r) (mj_HN G ro tl) with
    | some st' => mj_ex E df go call bi is loc st' (mj_HN G ro tl)
    | none => none) = _
  rw [mz_iald hg_10 (by omega) (by omega)]
  show mj_ex E df go call bi is loc (.int (zI (G 10 ((i.toNat : Nat) : Int))) :: r) (mj_HN G ro tl) = _
  rw [Int.toNat_of_nonneg h0.1]
theorem mz_st10 {i y : Int} (h0 : 0 ≤ i ∧ i < 54) : mj_ex E df go call bi ((.iastore, x, v) :: is) loc (.int (zI y) :: .int (zI i) :: .ref 10 :: r) (mj_HN G ro tl) = mj_ex E df go call bi is loc r (mj_HN (gs G 10 i y) ro tl) := by
  show (match mj_ast 0 (.int (zI y) :: .int (zI i) :: .ref 10 :: r) (mj_HN G ro tl) with
    | some (st', h') => mj_ex E df go call bi is loc st' h'
    | none => none) = _
  rw [mz_iast hg_10 (by omega) (by omega), show vp_nar (mj_ty 0) (zI y) = zI y from rfl, mz_upd h0.1]
  rfl
theorem mz_len10 : mj_ex E df go call bi ((.arraylength, x, v) :: is) loc (.ref 10 :: r) (mj_HN G ro tl) = mj_ex E df go call bi is loc (.int (zI 54) :: r) (mj_HN G ro tl) := id rfl
theorem hg_11 : (mj_HN G ro tl)[11]? = some (.inr (1, [.ref 12, .ref 13, .ref 14])) := rfl
theorem mz_g11_0 {a u : Nat} : mj_ex E df go call bi ((.getfield a, [1, 0, u], v) :: is) loc (.ref 11 :: r) (mj_HN G ro tl) = mj_ex E df go call bi is loc (.ref 12 :: r) (mj_HN G ro tl) := id rfl
theorem mz_g11_1 {a u : Nat} : mj_ex E df go call bi ((.getfield a, [1, 1, u], v) :: is) loc (.ref 11 :: r) (mj_HN G ro tl) = mj_ex E df go call bi is loc (.ref 13 :: r) (mj_HN G ro tl) := id rfl
theorem mz_g11_2 {a u : Nat} : mj_ex E df go call bi ((.getfield a, [1, 2, u], v) :: is) loc (.ref 11 :: r) (mj_HN G ro tl) = mj_ex E df go call bi is loc (.ref 14 :: r) (mj_HN G ro tl) := id rfl
theorem hg_12 : (mj_HN G ro tl)[12]? = some (.inl (0, 2, .inl (fun j : Nat => zI (G 12 j)))) := rfl
theorem mz_ld12 {i : Int} (h0 : 0 ≤ i ∧ i < 2) : mj_ex E df go call bi ((.iaload, x, v) :: is) loc (.int (zI i) :: .ref 12 :: r) (mj_HN G ro tl) = mj_ex E df go call bi is loc (.int (zI (G 12 i)) :: r) (mj_HN G ro tl) := by
  show (match mj_ald E 0 (.int (zI i) :: .ref 12 :: r) (mj_HN G ro tl) with
    | some st' => mj_ex E df go call bi is loc st' (mj_HN G ro tl)
    | none => none) = _
  rw [mz_iald hg_12 (by omega) (by omega)]
  show mj_ex E df go call bi is loc (.int (zI (G 12 ((i.toNat : Nat) : Int))) :: r) (mj_HN G ro tl) = _
  rw [Int.toNat_of_nonneg h0.1]
theorem mz_st12 {i y : Int} (h0 : 0 ≤ i ∧ i < 2) : mj_ex E df go call bi ((.iastore, x, v) :: is) loc (.int (zI y) :: .int (zI i) :: .ref 12 :: r) (mj_HN G ro tl) = mj_ex E df go call bi is loc r (mj_HN (gs G 12 i y) ro tl) := by
  show (match mj_ast 0 (.int (zI y) :: .int (zI i) :: .ref 12 :: r) (mj_HN G ro tl) with
    | some (st', h') => mj_ex E df go call bi is loc st' h'
    | none => none) = _
  rw [mz_iast hg_12 (by omega) (by omega), show vp_nar (mj_ty 0) (zI y) = zI y from rfl, mz_upd h0.1]
  rfl
theorem mz_len12 : mj_ex E df go call bi ((.arraylength, x, v) :: is) loc (.ref 12 :: r) (mj_HN G ro tl) = mj_ex E df go call bi is loc (.int (zI 2) :: r) (mj_HN G ro tl) := id rfl
theorem hg_13 : (mj_HN G ro tl)[13]? = some (.inl (0, 2, .inl (fun j : Nat => zI (G 13 j)))) := rfl
theorem mz_ld13 {i : Int} (h0 : 0 ≤ i ∧ i < 2) : mj_ex E df go call bi ((.iaload, x, v) :: is) loc (.int (zI i) :: .ref 13 :: r) (mj_HN G ro tl) = mj_ex E df go call bi is loc (.int (zI (G 13 i)) :: r) (mj_HN G ro tl) := by
  show (match mj_ald E 0 (.int (zI i) :: .ref 13 :: r) (mj_HN G ro tl) with
    | some st' => mj_ex E df go call bi is loc st' (mj_HN G ro tl)
    | none => none) = _
  rw [mz_iald hg_13 (by omega) (by omega)]
  show mj_ex E df go call bi is loc (.int (zI (G 13 ((i.toNat : Nat) : Int))) :: r) (mj_HN G ro tl) = _
  rw [Int.toNat_of_nonneg h0.1]
theorem mz_st13 {i y : Int} (h0 : 0 ≤ i ∧ i < 2) : mj_ex E df go call bi ((.iastore, x, v) :: is) loc (.int (zI y) :: .int (zI i) :: .ref 13 :: r) (mj_HN G ro tl) = mj_ex E df go call bi is loc r (mj_HN (gs G 13 i y) ro tl) := by
  show (match mj_ast 0 (.int (zI y) :: .int (zI i) :: .ref 13 :: r) (mj_HN G ro tl) with
    | some (st', h') => mj_ex E df go call bi is loc st' h'
    | none => none) = _
  rw [mz_iast hg_13 (by omega) (by omega), show vp_nar (mj_ty 0) (zI y) = zI y from rfl, mz_upd h0.1]
  rfl
theorem mz_len13 : mj_ex E df go call bi ((.arraylength, x, v) :: is) loc (.ref 13 :: r) (mj_HN G ro tl) = mj_ex E df go call bi is loc (.int (zI 2) :: r) (mj_HN G ro tl) := id rfl
theorem hg_14 : (mj_HN G ro tl)[14]? = some (.inl (0, 25, .inl (fun j : Nat => zI (G 14 j)))) := rfl
theorem mz_ld14 {i : Int} (h0 : 0 ≤ i ∧ i < 25) : mj_ex E df go call bi ((.iaload, x, v) :: is) loc (.int (zI i) :: .ref 14 :: r) (mj_HN G ro tl) = mj_ex E df go call bi is loc (.int (zI (G 14 i)) :: r) (mj_HN G ro tl) := by
  show (match mj_ald E 0 (.int (zI i) :: .ref 14 :: r) (mj_HN G ro tl) with
    | some st' => mj_ex E df go call bi is loc st' (mj_HN G ro tl)
    | none => none) = _
  rw [mz_iald hg_14 (by omega) (by omega)]
  show mj_ex E df go call bi is loc (.int (zI (G 14 ((i.toNat : Nat) : Int))) :: r) (mj_HN G ro tl) = _
  rw [Int.toNat_of_nonneg h0.1]
theorem mz_st14 {i y : Int} (h0 : 0 ≤ i ∧ i < 25) : mj_ex E df go call bi ((.iastore, x, v) :: is) loc (.int (zI y) :: .int (zI i) :: .ref 14 :: r) (mj_HN G ro tl) = mj_ex E df go call bi is loc r (mj_HN (gs G 14 i y) ro tl) := by
  show (match mj_ast 0 (.int (zI y) :: .int (zI i) :: .ref 14 :: r) (mj_HN G ro tl) with
    | some (st', h') => mj_ex E df go call bi is loc st' h'
    | none => none) = _
  rw [mz_iast hg_14 (by omega) (by omega), show vp_nar (mj_ty 0) (zI y) = zI y from rfl, mz_upd h0.1]
  rfl
theorem mz_len14 : mj_ex E df go call bi ((.arraylength, x, v) :: is) loc (.ref 14 :: r) (mj_HN G ro tl) = mj_ex E df go call bi is loc (.int (zI 25) :: r) (mj_HN G ro tl) := id rfl
theorem hg_15 : (mj_HN G ro tl)[15]? = some (.inr (4, [.ref 16, .ref 17, .ref 18, .int (zI (G 15 3)), .int (zI (G 15 4))])) := rfl
theorem mz_g15_0 {a u : Nat} : mj_ex E df go call bi ((.getfield a, [4, 0, u], v) :: is) loc (.ref 15 :: r) (mj_HN G ro tl) = mj_ex E df go call bi is loc (.ref 16 :: r) (mj_HN G ro tl) := id rfl
theorem mz_g15_1 {a u : Nat} : mj_ex E df go call bi ((.getfield a, [4, 1, u], v) :: is) loc (.ref 15 :: r) (mj_HN G ro tl) = mj_ex E df go call bi is loc (.ref 17 :: r) (mj_HN G ro tl) := id rfl
theorem mz_g15_2 {a u : Nat} : mj_ex E df go call bi ((.getfield a, [4, 2, u], v) :: is) loc (.ref 15 :: r) (mj_HN G ro tl) = mj_ex E df go call bi is loc (.ref 18 :: r) (mj_HN G ro tl) := id rfl
theorem mz_g15_3 {a u : Nat} : mj_ex E df go call bi ((.getfield a, [4, 3, u], v) :: is) loc (.ref 15 :: r) (mj_HN G ro tl) = mj_ex E df go call bi is loc (.int (zI (G 15 3)) :: r) (mj_HN G ro tl) := id rfl
theorem mz_p15_3 {a u : Nat} {y : Int} : mj_ex E df go call bi ((.putfield a, [4, 3, 0, u], v) :: is) loc (.int (zI y) :: .ref 15 :: r) (mj_HN G ro tl) = mj_ex E df go call bi is loc r (mj_HN (gs G 15 3 y) ro tl) := id rfl
theorem mz_g15_4 {a u : Nat} : mj_ex E df go call bi ((.getfield a, [4, 4, u], v) :: is) loc (.ref 15 :: r) (mj_HN G ro tl) = mj_ex E df go call bi is loc (.int (zI (G 15 4)) :: r) (mj_HN G ro tl) := id rfl
theorem mz_p15_4 {a u : Nat} {y : Int} : mj_ex E df go call bi ((.putfield a, [4, 4, 0, u], v) :: is) loc (.int (zI y) :: .ref 15 :: r) (mj_HN G ro tl) = mj_ex E df go call bi is loc r (mj_HN (gs G 15 4 y) ro tl) := id rfl
theorem hg_16 : (mj_HN G ro tl)[16]? = some (.inl (0, 16, .inl (fun j : Nat => zI (G 16 j)))) := rfl
theorem mz_ld16 {i : Int} (h0 : 0 ≤ i ∧ i < 16) : mj_ex E df go call bi ((.iaload, x, v) :: is) loc (.int (zI i) :: .ref 16 :: r) (mj_HN G ro tl) = mj_ex E df go call bi is loc (.int (zI (G 16 i)) :: r) (mj_HN G ro tl) := by
  show (match mj_ald E 0 (.int (zI i) :: .ref 16 :: r) (mj_HN G ro tl) with
    | some st' => mj_ex E df go call bi is loc st' (mj_HN G ro tl)
    | none => none) = _
  rw [mz_iald hg_16 (by omega) (by omega)]
  show mj_ex E df go call bi is loc (.int (zI (G 16 ((i.toNat : Nat) : Int))) :: r) (mj_HN G ro tl) = _
  rw [Int.toNat_of_nonneg h0.1]
theorem mz_st16 {i y : Int} (h0 : 0 ≤ i ∧ i < 16) : mj_ex E df go call bi ((.iastore, x, v) :: is) loc (.int (zI y) :: .int (zI i) :: .ref 16 :: r) (mj_HN G ro tl) = mj_ex E df go call bi is loc r (mj_HN (gs G 16 i y) ro tl) := by
  show (match mj_ast 0 (.int (zI y) :: .int (zI i) :: .ref 16 :: r) (mj_HN G ro tl) with
    | some (st', h') => mj_ex E df go call bi is loc st' h'
    | none => none) = _
  rw [mz_iast hg_16 (by omega) (by omega), show vp_nar (mj_ty 0) (zI y) = zI y from rfl, mz_upd h0.1]
  rfl
theorem mz_len16 : mj_ex E df go call bi ((.arraylength, x, v) :: is) loc (.ref 16 :: r) (mj_HN G ro tl) = mj_ex E df go call bi is loc (.int (zI 16) :: r) (mj_HN G ro tl) := id rfl
theorem hg_17 : (mj_HN G ro tl)[17]? = some (.inl (0, 144, .inl (fun j : Nat => zI (G 17 j)))) := rfl
theorem mz_ld17 {i : Int} (h0 : 0 ≤ i ∧ i < 144) : mj_ex E df go call bi ((.iaload, x, v) :: is) loc (.int (zI i) :: .ref 17 :: r) (mj_HN G ro tl) = mj_ex E df go call bi is loc (.int (zI (G 17 i)) :: r) (mj_HN G ro tl) := by
  show (match mj_ald E 0 (.int (zI i) :: .ref 17 :: r) (mj_HN G ro tl) with
    | some st' => mj_ex E df go call bi is loc st' (mj_HN G ro tl)
    | none => none) = _
  rw [mz_iald hg_17 (by omega) (by omega)]
  show mj_ex E df go call bi is loc (.int (zI (G 17 ((i.toNat : Nat) : Int))) :: r) (mj_HN G ro tl) = _
  rw [Int.toNat_of_nonneg h0.1]
theorem mz_st17 {i y : Int} (h0 : 0 ≤ i ∧ i < 144) : mj_ex E df go call bi ((.iastore, x, v) :: is) loc (.int (zI y) :: .int (zI i) :: .ref 17 :: r) (mj_HN G ro tl) = mj_ex E df go call bi is loc r (mj_HN (gs G 17 i y) ro tl) := by
  show (match mj_ast 0 (.int (zI y) :: .int (zI i) :: .ref 17 :: r) (mj_HN G ro tl) with
    | some (st', h') => mj_ex E df go call bi is loc st' h'
    | none => none) = _
  rw [mz_iast hg_17 (by omega) (by omega), show vp_nar (mj_ty 0) (zI y) = zI y from rfl, mz_upd h0.1]
  rfl
theorem mz_len17 : mj_ex E df go call bi ((.arraylength, x, v) :: is) loc (.ref 17 :: r) (mj_HN G ro tl) = mj_ex E df go call bi is loc (.int (zI 144) :: r) (mj_HN G ro tl) := id rfl
theorem hg_18 : (mj_HN G ro tl)[18]? = some (.inl (0, 9, .inl (fun j : Nat => zI (G 18 j)))) := rfl
theorem mz_ld18 {i : Int} (h0 : 0 ≤ i ∧ i < 9) : mj_ex E df go call bi ((.iaload, x, v) :: is) loc (.int (zI i) :: .ref 18 :: r) (mj_HN G ro tl) = mj_ex E df go call bi is loc (.int (zI (G 18 i)) :: r) (mj_HN G ro tl) := by
  show (match mj_ald E 0 (.int (zI i) :: .ref 18 :: r) (mj_HN G ro tl) with
    | some st' => mj_ex E df go call bi is loc st' (mj_HN G ro tl)
    | none => none) = _
  rw [mz_iald hg_18 (by omega) (by omega)]
  show mj_ex E df go call bi is loc (.int (zI (G 18 ((i.toNat : Nat) : Int))) :: r) (mj_HN G ro tl) = _
  rw [Int.toNat_of_nonneg h0.1]
theorem mz_st18 {i y : Int} (h0 : 0 ≤ i ∧ i < 9) : mj_ex E df go call bi ((.iastore, x, v) :: is) loc (.int (zI y) :: .int (zI i) :: .ref 18 :: r) (mj_HN G ro tl) = mj_ex E df go call bi is loc r (mj_HN (gs G 18 i y) ro tl) := by
  show (match mj_ast 0 (.int (zI y) :: .int (zI i) :: .ref 18 :: r) (mj_HN G ro tl) with
    | some (st', h') => mj_ex E df go call bi is loc st' h'
    | none => none) = _
  rw [mz_iast hg_18 (by omega) (by omega), show vp_nar (mj_ty 0) (zI y) = zI y from rfl, mz_upd h0.1]
  rfl
theorem mz_len18 : mj_ex E df go call bi ((.arraylength, x, v) :: is) loc (.ref 18 :: r) (mj_HN G ro tl) = mj_ex E df go call bi is loc (.int (zI 9) :: r) (mj_HN G ro tl) := id rfl
theorem hg_19 : (mj_HN G ro tl)[19]? = some (.inr (7, [.ref 20, .int (zI (G 19 1)), .int (zI (G 19 2))])) := rfl
theorem mz_g19_0 {a u : Nat} : mj_ex E df go call bi ((.getfield a, [7, 0, u], v) :: is) loc (.ref 19 :: r) (mj_HN G ro tl) = mj_ex E df go call bi is loc (.ref 20 :: r) (mj_HN G ro tl) := id rfl
theorem mz_g19_1 {a u : Nat} : mj_ex E df go call bi ((.getfield a, [7, 1, u], v) :: is) loc (.ref 19 :: r) (mj_HN G ro tl) = mj_ex E df go call bi is loc (.int (zI (G 19 1)) :: r) (mj_HN G ro tl) := id rfl
theorem mz_p19_1 {a u : Nat} {y : Int} : mj_ex E df go call bi ((.putfield a, [7, 1, 0, u], v) :: is) loc (.int (zI y) :: .ref 19 :: r) (mj_HN G ro tl) = mj_ex E df go call bi is loc r (mj_HN (gs G 19 1 y) ro tl) := id rfl
theorem mz_g19_2 {a u : Nat} : mj_ex E df go call bi ((.getfield a, [7, 2, u], v) :: is) loc (.ref 19 :: r) (mj_HN G ro tl) = mj_ex E df go call bi is loc (.int (zI (G 19 2)) :: r) (mj_HN G ro tl) := id rfl
theorem mz_p19_2 {a u : Nat} {y : Int} : mj_ex E df go call bi ((.putfield a, [7, 2, 0, u], v) :: is) loc (.int (zI y) :: .ref 19 :: r) (mj_HN G ro tl) = mj_ex E df go call bi is loc r (mj_HN (gs G 19 2 y) ro tl) := id rfl
theorem hg_20 : (mj_HN G ro tl)[20]? = some (.inl (0, 1620, .inl (fun j : Nat => zI (G 20 j)))) := rfl
theorem mz_ld20 {i : Int} (h0 : 0 ≤ i ∧ i < 1620) : mj_ex E df go call bi ((.iaload, x, v) :: is) loc (.int (zI i) :: .ref 20 :: r) (mj_HN G ro tl) = mj_ex E df go call bi is loc (.int (zI (G 20 i)) :: r) (mj_HN G ro tl) := by
  show (match mj_ald E 0 (.int (zI i) :: .ref 20 :: r) (mj_HN G ro tl) with
    | some st' => mj_ex E df go call bi is loc st' (mj_HN G ro tl)
    | none => none) = _
  rw [mz_iald hg_20 (by omega) (by omega)]
  show mj_ex E df go call bi is loc (.int (zI (G 20 ((i.toNat : Nat) : Int))) :: r) (mj_HN G ro tl) = _
  rw [Int.toNat_of_nonneg h0.1]
theorem mz_st20 {i y : Int} (h0 : 0 ≤ i ∧ i < 1620) : mj_ex E df go call bi ((.iastore, x, v) :: is) loc (.int (zI y) :: .int (zI i) :: .ref 20 :: r) (mj_HN G ro tl) = mj_ex E df go call bi is loc r (mj_HN (gs G 20 i y) ro tl) := by
  show (match mj_ast 0 (.int (zI y) :: .int (zI i) :: .ref 20 :: r) (mj_HN G ro tl) with
    | some (st', h') => mj_ex E df go call bi is loc st' h'
    | none => none) = _
  rw [mz_iast hg_20 (by omega) (by omega), show vp_nar (mj_ty 0) (zI y) = zI y from rfl, mz_upd h0.1]
  rfl
theorem mz_len20 : mj_ex E df go call bi ((.arraylength, x, v) :: is) loc (.ref 20 :: r) (mj_HN G ro tl) = mj_ex E df go call bi is loc (.int (zI 1620) :: r) (mj_HN G ro tl) := id rfl
theorem hg_21 : (mj_HN G ro tl)[21]? = some (.inl (4, 4, .inr (.inr (.inr (.inr (fun j : Nat => ro 21 j)))))) := rfl
theorem mz_ld21 {i : Int} (h0 : 0 ≤ i ∧ i < 4) : mj_ex E df go call bi ((.aaload, x, v) :: is) loc (.int (zI i) :: .ref 21 :: r) (mj_HN G ro tl) = mj_ex E df go call bi is loc (mj_rf (ro 21 i) :: r) (mj_HN G ro tl) := by
  show (match mj_aald (.int (zI i) :: .ref 21 :: r) (mj_HN G ro tl) with
    | some st' => mj_ex E df go call bi is loc st' (mj_HN G ro tl)
    | none => none) = _
  rw [mz_aald hg_21 (by omega) (by omega)]
  show mj_ex E df go call bi is loc (mj_rf (ro 21 ((i.toNat : Nat) : Int)) :: r) (mj_HN G ro tl) = _
  rw [Int.toNat_of_nonneg h0.1]
theorem hg_22 : (mj_HN G ro tl)[22]? = some (.inl (0, 8, .inl (fun j : Nat => zI (G 22 j)))) := rfl
theorem mz_ld22 {i : Int} (h0 : 0 ≤ i ∧ i < 8) : mj_ex E df go call bi ((.iaload, x, v) :: is) loc (.int (zI i) :: .ref 22 :: r) (mj_HN G ro tl) = mj_ex E df go call bi is loc (.int (zI (G 22 i)) :: r) (mj_HN G ro tl) := by
  show (match mj_ald E 0 (.int (zI i) :: .ref 22 :: r) (mj_HN G ro tl) with
    | some st' => mj_ex E df go call bi is loc st' (mj_HN G ro tl)
    | none => none) = _
  rw [mz_iald hg_22 (by omega) (by omega)]
  show mj_ex E df go call bi is loc (.int (zI (G 22 ((i.toNat : Nat) : Int))) :: r) (mj_HN G ro tl) = _
  rw [Int.toNat_of_nonneg h0.1]
theorem mz_st22 {i y : Int} (h0 : 0 ≤ i ∧ i < 8) : mj_ex E df go call bi ((.iastore, x, v) :: is) loc (.int (zI y) :: .int (zI i) :: .ref 22 :: r) (mj_HN G ro tl) = mj_ex E df go call bi is loc r (mj_HN (gs G 22 i y) ro tl) := by
  show (match mj_ast 0 (.int (zI y) :: .int (zI i) :: .ref 22 :: r) (mj_HN G ro tl) with
    | some (st', h') => mj_ex E df go call bi is loc st' h'
    | none => none) = _
  rw [mz_iast hg_22 (by omega) (by omega), show vp_nar (mj_ty 0) (zI y) = zI y from rfl, mz_upd h0.1]
  rfl
theorem mz_len22 : mj_ex E df go call bi ((.arraylength, x, v) :: is) loc (.ref 22 :: r) (mj_HN G ro tl) = mj_ex E df go call bi is loc (.int (zI 8) :: r) (mj_HN G ro tl) := id rfl
theorem hg_23 : (mj_HN G ro tl)[23]? = some (.inl (0, 8, .inl (fun j : Nat => zI (G 23 j)))) := rfl
theorem mz_ld23 {i : Int} (h0 : 0 ≤ i ∧ i < 8) : mj_ex E df go call bi ((.iaload, x, v) :: is) loc (.int (zI i) :: .ref 23 :: r) (mj_HN G ro tl) = mj_ex E df go call bi is loc (.int (zI (G 23 i)) :: r) (mj_HN G ro tl) := by
  show (match mj_ald E 0 (.int (zI i) :: .ref 23 :: r) (mj_HN G ro tl) with
    | some st' => mj_ex E df go call bi is loc st' (mj_HN G ro tl)
    | none => none) = _
  rw [mz_iald hg_23 (by omega) (by omega)]
  show mj_ex E df go call bi is loc (.int (zI (G 23 ((i.toNat : Nat) : Int))) :: r) (mj_HN G ro tl) = _
  rw [Int.toNat_of_nonneg h0.1]
theorem mz_st23 {i y : Int} (h0 : 0 ≤ i ∧ i < 8) : mj_ex E df go call bi ((.iastore, x, v) :: is) loc (.int (zI y) :: .int (zI i) :: .ref 23 :: r) (mj_HN G ro tl) = mj_ex E df go call bi is loc r (mj_HN (gs G 23 i y) ro tl) := by
  show (match mj_ast 0 (.int (zI y) :: .int (zI i) :: .ref 23 :: r) (mj_HN G ro tl) with
    | some (st', h') => mj_ex E df go call bi is loc st' h'
    | none => none) = _
  rw [mz_iast hg_23 (by omega) (by omega), show vp_nar (mj_ty 0) (zI y) = zI y from rfl, mz_upd h0.1]
  rfl
theorem mz_len23 : mj_ex E df go call bi ((.arraylength, x, v) :: is) loc (.ref 23 :: r) (mj_HN G ro tl) = mj_ex E df go call bi is loc (.int (zI 8) :: r) (mj_HN G ro tl) := id rfl
theorem hg_24 : (mj_HN G ro tl)[24]? = some (.inr (10, [.ref 25, .ref 29, .ref 31, .ref 35, .ref 39, .ref 41, .ref 42, .ref 43, .ref 1, .int (zI (G 24 9)), .int (zI (G 24 10)), .int (zI (G 24 11))])) := rfl
theorem mz_g24_0 {a u : Nat} : mj_ex E df go call bi ((.getfield a, [10, 0, u], v) :: is) loc (.ref 24 :: r) (mj_HN G ro tl) = mj_ex E df go call bi is loc (.ref 25 :: r) (mj_HN G ro tl) := id rfl
theorem mz_g24_1 {a u : Nat} : mj_ex E df go call bi ((.getfield a, [10, 1, u], v) :: is) loc (.ref 24 :: r) (mj_HN G ro tl) = mj_ex E df go call bi is loc (.ref 29 :: r) (mj_HN G ro tl) := id rfl
theorem mz_g24_2 {a u : Nat} : mj_ex E df go call bi ((.getfield a, [10, 2, u], v) :: is) loc (.ref 24 :: r) (mj_HN G ro tl) = mj_ex E df go call bi is loc (.ref 31 :: r) (mj_HN G ro tl) := id rfl
theorem mz_g24_3 {a u : Nat} : mj_ex E df go call bi ((.getfield a, [10, 3, u], v) :: is) loc (.ref 24 :: r) (mj_HN G ro tl) = mj_ex E df go call bi is loc (.ref 35 :: r) (mj_HN G ro tl) := id rfl
theorem mz_g24_4 {a u : Nat} : mj_ex E df go call bi ((.getfield a, [10, 4, u], v) :: is) loc (.ref 24 :: r) (mj_HN G ro tl) = mj_ex E df go call bi is loc (.ref 39 :: r) (mj_HN G ro tl) := id rfl
theorem mz_g24_5 {a u : Nat} : mj_ex E df go call bi ((.getfield a, [10, 5, u], v) :: is) loc (.ref 24 :: r) (mj_HN G ro tl) = mj_ex E df go call bi is loc (.ref 41 :: r) (mj_HN G ro tl) := id rfl
theorem mz_g24_6 {a u : Nat} : mj_ex E df go call bi ((.getfield a, [10, 6, u], v) :: is) loc (.ref 24 :: r) (mj_HN G ro tl) = mj_ex E df go call bi is loc (.ref 42 :: r) (mj_HN G ro tl) := id rfl
theorem mz_g24_7 {a u : Nat} : mj_ex E df go call bi ((.getfield a, [10, 7, u], v) :: is) loc (.ref 24 :: r) (mj_HN G ro tl) = mj_ex E df go call bi is loc (.ref 43 :: r) (mj_HN G ro tl) := id rfl
theorem mz_g24_8 {a u : Nat} : mj_ex E df go call bi ((.getfield a, [10, 8, u], v) :: is) loc (.ref 24 :: r) (mj_HN G ro tl) = mj_ex E df go call bi is loc (.ref 1 :: r) (mj_HN G ro tl) := id rfl
theorem mz_g24_9 {a u : Nat} : mj_ex E df go call bi ((.getfield a, [10, 9, u], v) :: is) loc (.ref 24 :: r) (mj_HN G ro tl) = mj_ex E df go call bi is loc (.int (zI (G 24 9)) :: r) (mj_HN G ro tl) := id rfl
theorem mz_p24_9 {a u : Nat} {y : Int} : mj_ex E df go call bi ((.putfield a, [10, 9, 0, u], v) :: is) loc (.int (zI y) :: .ref 24 :: r) (mj_HN G ro tl) = mj_ex E df go call bi is loc r (mj_HN (gs G 24 9 y) ro tl) := id rfl
theorem mz_g24_10 {a u : Nat} : mj_ex E df go call bi ((.getfield a, [10, 10, u], v) :: is) loc (.ref 24 :: r) (mj_HN G ro tl) = mj_ex E df go call bi is loc (.int (zI (G 24 10)) :: r) (mj_HN G ro tl) := id rfl
theorem mz_p24_10 {a u : Nat} {y : Int} : mj_ex E df go call bi ((.putfield a, [10, 10, 0, u], v) :: is) loc (.int (zI y) :: .ref 24 :: r) (mj_HN G ro tl) = mj_ex E df go call bi is loc r (mj_HN (gs G 24 10 y) ro tl) := id rfl
theorem mz_g24_11 {a u : Nat} : mj_ex E df go call bi ((.getfield a, [10, 11, u], v) :: is) loc (.ref 24 :: r) (mj_HN G ro tl) = mj_ex E df go call bi is loc (.int (zI (G 24 11)) :: r) (mj_HN G ro tl) := id rfl
theorem mz_p24_11 {a u : Nat} {y : Int} : mj_ex E df go call bi ((.putfield a, [10, 11, 0, u], v) :: is) loc (.int (zI y) :: .ref 24 :: r) (mj_HN G ro tl) = mj_ex E df go call bi is loc r (mj_HN (gs G 24 11 y) ro tl) := id rfl
theorem hg_25 : (mj_HN G ro tl)[25]? = some (.inr (3, [.ref 26, .ref 27, .ref 28])) := rfl
theorem mz_g25_0 {a u : Nat} : mj_ex E df go call bi ((.getfield a, [3, 0, u], v) :: is) loc (.ref 25 :: r) (mj_HN G ro tl) = mj_ex E df go call bi is loc (.ref 26 :: r) (mj_HN G ro tl) := id rfl
theorem mz_g25_1 {a u : Nat} : mj_ex E df go call bi ((.getfield a, [3, 1, u], v) :: is) loc (.ref 25 :: r) (mj_HN G ro tl) = mj_ex E df go call bi is loc (.ref 27 :: r) (mj_HN G ro tl) := id rfl
theorem mz_g25_2 {a u : Nat} : mj_ex E df go call bi ((.getfield a, [3, 2, u], v) :: is) loc (.ref 25 :: r) (mj_HN G ro tl) = mj_ex E df go call bi is loc (.ref 28 :: r) (mj_HN G ro tl) := id rfl
theorem hg_26 : (mj_HN G ro tl)[26]? = some (.inl (0, 8, .inl (fun j : Nat => zI (G 26 j)))) := rfl
theorem mz_ld26 {i : Int} (h0 : 0 ≤ i ∧ i < 8) : mj_ex E df go call bi ((.iaload, x, v) :: is) loc (.int (zI i) :: .ref 26 :: r) (mj_HN G ro tl) = mj_ex E df go call bi is loc (.int (zI (G 26 i)) :: r) (mj_HN G ro tl) := by
  show (match mj_ald E 0 (.int (zI i) :: .ref 26 :: r) (mj_HN G ro tl) with
    | some st' => mj_ex E df go call bi is loc st' (mj_HN G ro tl)
    | none => none) = _
  rw [mz_iald hg_26 (by omega) (by omega)]
  show mj_ex E df go call bi is loc (.int (zI (G 26 ((i.toNat : Nat) : Int))) :: r) (mj_HN G ro tl) = _
  rw [Int.toNat_of_nonneg h0.1]
theorem mz_st26 {i y : Int} (h0 : 0 ≤ i ∧ i < 8) : mj_ex E df go call bi ((.iastore, x, v) :: is) loc (.int (zI y) :: .int (zI i) :: .ref 26 :: r) (mj_HN G ro tl) = mj_ex E df go call bi is loc r (mj_HN (gs G 26 i y) ro tl) := by
  show (match mj_ast 0 (.int (zI y) :: .int (zI i) :: .ref 26 :: r) (mj_HN G ro tl) with
    | some (st', h') => mj_ex E df go call bi is loc st' h'
    | none => none) = _
  rw [mz_iast hg_26 (by omega) (by omega), show vp_nar (mj_ty 0) (zI y) = zI y from rfl, mz_upd h0.1]
  rfl
theorem mz_len26 : mj_ex E df go call bi ((.arraylength, x, v) :: is) loc (.ref 26 :: r) (mj_HN G ro tl) = mj_ex E df go call bi is loc (.int (zI 8) :: r) (mj_HN G ro tl) := id rfl
theorem hg_27 : (mj_HN G ro tl)[27]? = some (.inl (0, 8, .inl (fun j : Nat => zI (G 27 j)))) := rfl
theorem mz_ld27 {i : Int} (h0 : 0 ≤ i ∧ i < 8) : mj_ex E df go call bi ((.iaload, x, v) :: is) loc (.int (zI i) :: .ref 27 :: r) (mj_HN G ro tl) = mj_ex E df go call bi is loc (.int (zI (G 27 i)) :: r) (mj_HN G ro tl) := by
  show (match mj_ald E 0 (.int (zI i) :: .ref 27 :: r) (mj_HN G ro tl) with
    | some st' => mj_ex E df go call bi is loc st' (mj_HN G ro tl)
    | none => none) = _
  rw [mz_iald hg_27 (by omega) (by omega)]
  show mj_ex E df go call bi is loc (.int (zI (G 27 ((i.toNat : Nat) : Int))) :: r) (mj_HN G ro tl) = _
  rw [Int.toNat_of_nonneg h0.1]
theorem mz_st27 {i y : Int} (h0 : 0 ≤ i ∧ i < 8) : mj_ex E df go call bi ((.iastore, x, v) :: is) loc (.int (zI y) :: .int (zI i) :: .ref 27 :: r) (mj_HN G ro tl) = mj_ex E df go call bi is loc r (mj_HN (gs G 27 i y) ro tl) := by
  show (match mj_ast 0 (.int (zI y) :: .int (zI i) :: .ref 27 :: r) (mj_HN G ro tl) with
    | some (st', h') => mj_ex E df go call bi is loc st' h'
    | none => none) = _
  rw [mz_iast hg_27 (by omega) (by omega), show vp_nar (mj_ty 0) (zI y) = zI y from rfl, mz_upd h0.1]
  rfl
theorem mz_len27 : mj_ex E df go call bi ((.arraylength, x, v) :: is) loc (.ref 27 :: r) (mj_HN G ro tl) = mj_ex E df go call bi is loc (.int (zI 8) :: r) (mj_HN G ro tl) := id rfl
theorem hg_28 : (mj_HN G ro tl)[28]? = some (.inl (0, 8, .inl (fun j : Nat => zI (G 28 j)))) := rfl
theorem mz_ld28 {i : Int} (h0 : 0 ≤ i ∧ i < 8) : mj_ex E df go call bi ((.iaload, x, v) :: is) loc (.int (zI i) :: .ref 28 :: r) (mj_HN G ro tl) = mj_ex E df go call bi is loc (.int (zI (G 28 i)) :: r) (mj_HN G ro tl) := by
  show (match mj_ald E 0 (.int (zI i) :: .ref 28 :: r) (mj_HN G ro tl) with
    | some st' => mj_ex E df go call bi is loc st' (mj_HN G ro tl)
    | none => none) = _
  rw [mz_iald hg_28 (by omega) (by omega)]
  show mj_ex E df go call bi is loc (.int (zI (G 28 ((i.toNat : Nat) : Int))) :: r) (mj_HN G ro tl) = _
  rw [Int.toNat_of_nonneg h0.1]
theorem mz_st28 {i y : Int} (h0 : 0 ≤ i ∧ i < 8) : mj_ex E df go call bi ((.iastore, x, v) :: is) loc (.int (zI y) :: .int (zI i) :: .ref 28 :: r) (mj_HN G ro tl) = mj_ex E df go call bi is loc r (mj_HN (gs G 28 i y) ro tl) := by
  show (match mj_ast 0 (.int (zI y) :: .int (zI i) :: .ref 28 :: r) (mj_HN G ro tl) with
    | some (st', h') => mj_ex E df go call bi is loc st' h'
    | none => none) = _
  rw [mz_iast hg_28 (by omega) (by omega), show vp_nar (mj_ty 0) (zI y) = zI y from rfl, mz_upd h0.1]
  rfl
theorem mz_len28 : mj_ex E df go call bi ((.arraylength, x, v) :: is) loc (.ref 28 :: r) (mj_HN G ro tl) = mj_ex E df go call bi is loc (.int (zI 8) :: r) (mj_HN G ro tl) := id rfl
theorem hg_29 : (mj_HN G ro tl)[29]? = some (.inr (2, [.ref 30])) := rfl
theorem mz_g29_0 {a u : Nat} : mj_ex E df go call bi ((.getfield a, [2, 0, u], v) :: is) loc (.ref 29 :: r) (mj_HN G ro tl) = mj_ex E df go call bi is loc (.ref 30 :: r) (mj_HN G ro tl) := id rfl
theorem hg_30 : (mj_HN G ro tl)[30]? = some (.inl (0, 54, .inl (fun j : Nat => zI (G 30 j)))) := rfl
theorem mz_ld30 {i : Int} (h0 : 0 ≤ i ∧ i < 54) : mj_ex E df go call bi ((.iaload, x, v) :: is) loc (.int (zI i) :: .ref 30 :: r) (mj_HN G ro tl) = mj_ex E df go call bi is loc (.int (zI (G 30 i)) :: r) (mj_HN G ro tl) := by
  show (match mj_ald E 0 (.int (zI i) :: .ref 30 :: r) (mj_HN G ro tl) with
    | some st' => mj_ex E df go call bi is loc st' (mj_HN G ro tl)
    | none => none) = _
  rw [mz_iald hg_30 (by omega) (by omega)]
  show mj_ex E df go call bi is loc (.int (zI (G 30 ((i.toNat : Nat) : Int))) :: r) (mj_HN G ro tl) = _
  rw [Int.toNat_of_nonneg h0.1]
theorem mz_st30 {i y : Int} (h0 : 0 ≤ i ∧ i < 54) : mj_ex E df go call bi ((.iastore, x, v) :: is) loc (.int (zI y) :: .int (zI i) :: .ref 30 :: r) (mj_HN G ro tl) = mj_ex E df go call bi is loc r (mj_HN (gs G 30 i y) ro tl) := by
  show (match mj_ast 0 (.int (zI y) :: .int (zI i) :: .ref 30 :: r) (mj_HN G ro tl) with
    | some (st', h') => mj_ex E df go call bi is loc st' h'
    | none => none) = _
  rw [mz_iast hg_30 (by omega) (by omega), show vp_nar (mj_ty 0) (zI y) = zI y from rfl, mz_upd h0.1]
  rfl
theorem mz_len30 : mj_ex E df go call bi ((.arraylength, x, v) :: is) loc (.ref 30 :: r) (mj_HN G ro tl) = mj_ex E df go call bi is loc (.int (zI 54) :: r) (mj_HN G ro tl) := id rfl
theorem hg_31 : (mj_HN G ro tl)[31]? = some (.inr (1, [.ref 32, .ref 33, .ref 34])) := rfl
theorem mz_g31_0 {a u : Nat} : mj_ex E df go call bi ((.getfield a, [1, 0, u], v) :: is) loc (.ref 31 :: r) (mj_HN G ro tl) = mj_ex E df go call bi is loc (.ref 32 :: r) (mj_HN G ro tl) := id rfl
theorem mz_g31_1 {a u : Nat} : mj_ex E df go call bi ((.getfield a, [1, 1, u], v) :: is) loc (.ref 31 :: r) (mj_HN G ro tl) = mj_ex E df go call bi is loc (.ref 33 :: r) (mj_HN G ro tl) := id rfl
theorem mz_g31_2 {a u : Nat} : mj_ex E df go call bi ((.getfield a, [1, 2, u], v) :: is) loc (.ref 31 :: r) (mj_HN G ro tl) = mj_ex E df go call bi is loc (.ref 34 :: r) (mj_HN G ro tl) := id rfl
theorem hg_32 : (mj_HN G ro tl)[32]? = some (.inl (0, 2, .inl (fun j : Nat => zI (G 32 j)))) := rfl
theorem mz_ld32 {i : Int} (h0 : 0 ≤ i ∧ i < 2) : mj_ex E df go call bi ((.iaload, x, v) :: is) loc (.int (zI i) :: .ref 32 :: r) (mj_HN G ro tl) = mj_ex E df go call bi is loc (.int (zI (G 32 i)) :: r) (mj_HN G ro tl) := by
  show (match mj_ald E 0 (.int (zI i) :: .ref 32 :: r) (mj_HN G ro tl) with
    | some st' => mj_ex E df go call bi is loc st' (mj_HN G ro tl)
    | none => none) = _
  rw [mz_iald hg_32 (by omega) (by omega)]
  show mj_ex E df go call bi is loc (.int (zI (G 32 ((i.toNat : Nat) : Int))) :: r) (mj_HN G ro tl) = _
  rw [Int.toNat_of_nonneg h0.1]
theorem mz_st32 {i y : Int} (h0 : 0 ≤ i ∧ i < 2) : mj_ex E df go call bi ((.iastore, x, v) :: is) loc (.int (zI y) :: .int (zI i) :: .ref 32 :: r) (mj_HN G ro tl) = mj_ex E df go call bi is loc r (mj_HN (gs G 32 i y) ro tl) := by
  show (match mj_ast 0 (.int (zI y) :: .int (zI i) :: .ref 32 :: r) (mj_HN G ro tl) with
    | some (st', h') => mj_ex E df go call bi is loc st' h'
    | none => none) = _
  rw [mz_iast hg_32 (by omega) (by omega), show vp_nar (mj_ty 0) (zI y) = zI y from rfl, mz_upd h0.1]
  rfl
theorem mz_len32 : mj_ex E df go call bi ((.arraylength, x, v) :: is) loc (.ref 32 :: r) (mj_HN G ro tl) = mj_ex E df go call bi is loc (.int (zI 2) :: r) (mj_HN G ro tl) := id rfl
theorem hg_33 : (mj_HN G ro tl)[33]? = some (.inl (0, 2, .inl (fun j : Nat => zI (G 33 j)))) := rfl
theorem mz_ld33 {i : Int} (h0 : 0 ≤ i ∧ i < 2) : mj_ex E df go call bi ((.iaload, x, v) :: is) loc (.int (zI i) :: .ref 33 :: r) (mj_HN G ro tl) = mj_ex E df go call bi is loc (.int (zI (G 33 i)) :: r) (mj_HN G ro tl) := by
  show (match mj_ald E 0 (.int (zI i) :: .ref 33 :: r) (mj_HN G ro tl) with
    | some st' => mj_ex E df go call bi is loc st' (mj_HN G ro tl)
    | none => none) = _
  rw [mz_iald hg_33 (by omega) (by omega)]
  show mj_ex E df go call bi is loc (.int (zI (G 33 ((i.toNat : Nat) : Int))) :: r) (mj_HN G ro tl) = _
  rw [Int.toNat_of_nonneg h0.1]
theorem mz_st33 {i y : Int} (h0 : 0 ≤ i ∧ i < 2) : mj_ex E df go call bi ((.iastore, x, v) :: is) loc (.int (zI y) :: .int (zI i) :: .ref 33 :: r) (mj_HN G ro tl) = mj_ex E df go call bi is loc r (mj_HN (gs G 33 i y) ro tl) := by
  show (match mj_ast 0 (.int (zI y) :: .int (zI i) :: .ref 33 :: r) (mj_HN G ro tl) with
    | some (st', h') => mj_ex E df go call bi is loc st' h'
    | none => none) = _
  rw [mz_iast hg_33 (by omega) (by omega), show vp_nar (mj_ty 0) (zI y) = zI y from rfl, mz_upd h0.1]
  rfl
theorem mz_len33 : mj_ex E df go call bi ((.arraylength, x, v) :: is) loc (.ref 33 :: r) (mj_HN G ro tl) = mj_ex E df go call bi is loc (.int (zI 2) :: r) (mj_HN G ro tl) := id rfl
theorem hg_34 : (mj_HN G ro tl)[34]? = some (.inl (0, 25, .inl (fun j : Nat => zI (G 34 j)))) := rfl
theorem mz_ld34 {i : Int} (h0 : 0 ≤ i ∧ i < 25) : mj_ex E df go call bi ((.iaload, x, v) :: is) loc (.int (zI i) :: .ref 34 :: r) (mj_HN G ro tl) = mj_ex E df go call bi is loc (.int (zI (G 34 i)) :: r) (mj_HN G ro tl) := by
  show (match mj_ald E 0 (.int (zI i) :: .ref 34 :: r) (mj_HN G ro tl) with
    | some st' => mj_ex E df go call bi is loc st' (mj_HN G ro tl)
    | none => none) = _
  rw [mz_iald hg_34 (by omega) (by omega)]
  show mj_ex E df go call bi is loc (.int (zI (G 34 ((i.toNat : Nat) : Int))) :: r) (mj_HN G ro tl) = _
  rw [Int.toNat_of_nonneg h0.1]
theorem mz_st34 {i y : Int} (h0 : 0 ≤ i ∧ i < 25) : mj_ex E df go call bi ((.iastore, x, v) :: is) loc (.int (zI y) :: .int (zI i) :: .ref 34 :: r) (mj_HN G ro tl) = mj_ex E df go call bi is loc r (mj_HN (gs G 34 i y) ro tl) := by
  show (match mj_ast 0 (.int (zI y) :: .int (zI i) :: .ref 34 :: r) (mj_HN G ro tl) with
    | some (st', h') => mj_ex E df go call bi is loc st' h'
    | none => none) = _
  rw [mz_iast hg_34 (by omega) (by omega), show vp_nar (mj_ty 0) (zI y) = zI y from rfl, mz_upd h0.1]
  rfl
theorem mz_len34 : mj_ex E df go call bi ((.arraylength, x, v) :: is) loc (.ref 34 :: r) (mj_HN G ro tl) = mj_ex E df go call bi is loc (.int (zI 25) :: r) (mj_HN G ro tl) := id rfl
theorem hg_35 : (mj_HN G ro tl)[35]? = some (.inr (4, [.ref 36, .ref 37, .ref 38, .int (zI (G 35 3)), .int (zI (G 35 4))])) := rfl
theorem mz_g35_0 {a u : Nat} : mj_ex E df go call bi ((.getfield a, [4, 0, u], v) :: is) loc (.ref 35 :: r) (mj_HN G ro tl) = mj_ex E df go call bi is loc (.ref 36 :: r) (mj_HN G ro tl) := id rfl
theorem mz_g35_1 {a u : Nat} : mj_ex E df go call bi ((.getfield a, [4, 1, u], v) :: is) loc (.ref 35 :: r) (mj_HN G ro tl) = mj_ex E df go call bi is loc (.ref 37 :: r) (mj_HN G ro tl) := id rfl
theorem mz_g35_2 {a u : Nat} : mj_ex E df go call bi ((.getfield a, [4, 2, u], v) :: is) loc (.ref 35 :: r) (mj_HN G ro tl) = mj_ex E df go call bi is loc (.ref 38 :: r) (mj_HN G ro tl) := id rfl
theorem mz_g35_3 {a u : Nat} : mj_ex E df go call bi ((.getfield a, [4, 3, u], v) :: is) loc (.ref 35 :: r) (mj_HN G ro tl) = mj_ex E df go call bi is loc (.int (zI (G 35 3)) :: r) (mj_HN G ro tl) := id rfl
theorem mz_p35_3 {a u : Nat} {y : Int} : mj_ex E df go call bi ((.putfield a, [4, 3, 0, u], v) :: is) loc (.int (zI y) :: .ref 35 :: r) (mj_HN G ro tl) = mj_ex E df go call bi is loc r (mj_HN (gs G 35 3 y) ro tl) := id rfl
theorem mz_g35_4 {a u : Nat} : mj_ex E df go call bi ((.getfield a, [4, 4, u], v) :: is) loc (.ref 35 :: r) (mj_HN G ro tl) = mj_ex E df go call bi is loc (.int (zI (G 35 4)) :: r) (mj_HN G ro tl) := id rfl
theorem mz_p35_4 {a u : Nat} {y : Int} : mj_ex E df go call bi ((.putfield a, [4, 4, 0, u], v) :: is) loc (.int (zI y) :: .ref 35 :: r) (mj_HN G ro tl) = mj_ex E df go call bi is loc r (mj_HN (gs G 35 4 y) ro tl) := id rfl
theorem hg_36 : (mj_HN G ro tl)[36]? = some (.inl (0, 16, .inl (fun j : Nat => zI (G 36 j)))) := rfl
theorem mz_ld36 {i : Int} (h0 : 0 ≤ i ∧ i < 16) : mj_ex E df go call bi ((.iaload, x, v) :: is) loc (.int (zI i) :: .ref 36 :: r) (mj_HN G ro tl) = mj_ex E df go call bi is loc (.int (zI (G 36 i)) :: r) (mj_HN G ro tl) := by
  show (match mj_ald E 0 (.int (zI i) :: .ref 36 :: r) (mj_HN G ro tl) with
    | some st' => mj_ex E df go call bi is loc st' (mj_HN G ro tl)
    | none => none) = _
  rw [mz_iald hg_36 (by omega) (by omega)]
  show mj_ex E df go call bi is loc (.int (zI (G 36 ((i.toNat : Nat) : Int))) :: r) (mj_HN G ro tl) = _
  rw [Int.toNat_of_nonneg h0.1]
theorem mz_st36 {i y : Int} (h0 : 0 ≤ i ∧ i < 16) : mj_ex E df go call bi ((.iastore, x, v) :: is) loc (.int (zI y) :: .int (zI i) :: .ref 36 :: r) (mj_HN G ro tl) = mj_ex E df go call bi is loc r (mj_HN (gs G 36 i y) ro tl) := by
  show (match mj_ast 0 (.int (zI y) :: .int (zI i) :: .ref 36 :: r) (mj_HN G ro tl) with
    | some (st', h') => mj_ex E df go call bi is loc st' h'
    | none => none) = _
  rw [mz_iast hg_36 (by omega) (by omega), show vp_nar (mj_ty 0) (zI y) = zI y from rfl, mz_upd h0.1]
  rfl
theorem mz_len36 : mj_ex E df go call bi ((.arraylength, x, v) :: is) loc (.ref 36 :: r) (mj_HN G ro tl) = mj_ex E df go call bi is loc (.int (zI 16) :: r) (mj_HN G ro tl) := id rfl
theorem hg_37 : (mj_HN G ro tl)[37]? = some (.inl (0, 144, .inl (fun j : Nat => zI (G 37 j)))) := rfl
theorem mz_ld37 {i : Int} (h0 : 0 ≤ i ∧ i < 144) : mj_ex E df go call bi ((.iaload, x, v) :: is) loc (.int (zI i) :: .ref 37 :: r) (mj_HN G ro tl) = mj_ex E df go call bi is loc (.int (zI (G 37 i)) :: r) (mj_HN G ro tl) := by
  show (match mj_ald E 0 (.int (zI i) :: .ref 37 :: r) (mj_HN G ro tl) with
    | some st' => mj_ex E df go call bi is loc st' (mj_HN G ro tl)
    | none => none) = _
  rw [mz_iald hg_37 (by omega) (by omega)]
  show mj_ex E df go call bi is loc (.int (zI (G 37 ((i.toNat : Nat) : Int))) :: r) (mj_HN G ro tl) = _
  rw [Int.toNat_of_nonneg h0.1]
theorem mz_st37 {i y : Int} (h0 : 0 ≤ i ∧ i < 144) : mj_ex E df go call bi ((.iastore, x, v) :: is) loc (.int (zI y) :: .int (zI i) :: .ref 37 :: r) (mj_HN G ro tl) = mj_ex E df go call bi is loc r (mj_HN (gs G 37 i y) ro tl) := by
  show (match mj_ast 0 (.int (zI y) :: .int (zI i) :: .ref 37 :: r) (mj_HN G ro tl) with
    | some (st', h') => mj_ex E df go call bi is loc st' h'
    | none => none) = _
  rw [mz_iast hg_37 (by omega) (by omega), show vp_nar (mj_ty 0) (zI y) = zI y from rfl, mz_upd h0.1]
  rfl
theorem mz_len37 : mj_ex E df go call bi ((.arraylength, x, v) :: is) loc (.ref 37 :: r) (mj_HN G ro tl) = mj_ex E df go call bi is loc (.int (zI 144) :: r) (mj_HN G ro tl) := id rfl
theorem hg_38 : (mj_HN G ro tl)[38]? = some (.inl (0, 9, .inl (fun j : Nat => zI (G 38 j)))) := rfl
theorem mz_ld38 {i : Int} (h0 : 0 ≤ i ∧ i < 9) : mj_ex E df go call bi ((.iaload, x, v) :: is) loc (.int (zI i) :: .ref 38 :: r) (mj_HN G ro tl) = mj_ex E df go call bi is loc (.int (zI (G 38 i)) :: r) (mj_HN G ro tl) := by
  show (match mj_ald E 0 (.int (zI i) :: .ref 38 :: r) (mj_HN G ro tl) with
    | some st' => mj_ex E df go call bi is loc st' (mj_HN G ro tl)
    | none => none) = _
  rw [mz_iald hg_38 (by omega) (by omega)]
  show mj_ex E df go call bi is loc (.int (zI (G 38 ((i.toNat : Nat) : Int))) :: r) (mj_HN G ro tl) = _
  rw [Int.toNat_of_nonneg h0.1]
theorem mz_st38 {i y : Int} (h0 : 0 ≤ i ∧ i < 9) : mj_ex E df go call bi ((.iastore, x, v) :: is) loc (.int (zI y) :: .int (zI i) :: .ref 38 :: r) (mj_HN G ro tl) = mj_ex E df go call bi is loc r (mj_HN (gs G 38 i y) ro tl) := by
  show (match mj_ast 0 (.int (zI y) :: .int (zI i) :: .ref 38 :: r) (mj_HN G ro tl) with
    | some (st', h') => mj_ex E df go call bi is loc st' h'
    | none => none) = _
  rw [mz_iast hg_38 (by omega) (by omega), show vp_nar (mj_ty 0) (zI y) = zI y from rfl, mz_upd h0.1]
  rfl
theorem mz_len38 : mj_ex E df go call bi ((.arraylength, x, v) :: is) loc (.ref 38 :: r) (mj_HN G ro tl) = mj_ex E df go call bi is loc (.int (zI 9) :: r) (mj_HN G ro tl) := id rfl
theorem hg_39 : (mj_HN G ro tl)[39]? = some (.inr (7, [.ref 40, .int (zI (G 39 1)), .int (zI (G 39 2))])) := rfl
theorem mz_g39_0 {a u : Nat} : mj_ex E df go call bi ((.getfield a, [7, 0, u], v) :: is) loc (.ref 39 :: r) (mj_HN G ro tl) = mj_ex E df go call bi is loc (.ref 40 :: r) (mj_HN G ro tl) := id rfl
theorem mz_g39_1 {a u : Nat} : mj_ex E df go call bi ((.getfield a, [7, 1, u], v) :: is) loc (.ref 39 :: r) (mj_HN G ro tl) = mj_ex E df go call bi is loc (.int (zI (G 39 1)) :: r) (mj_HN G ro tl) := id rfl
theorem mz_p39_1 {a u : Nat} {y : Int} : mj_ex E df go call bi ((.putfield a, [7, 1, 0, u], v) :: is) loc (.int (zI y) :: .ref 39 :: r) (mj_HN G ro tl) = mj_ex E df go call bi is loc r (mj_HN (gs G 39 1 y) ro tl) := id rfl
theorem mz_g39_2 {a u : Nat} : mj_ex E df go call bi ((.getfield a, [7, 2, u], v) :: is) loc (.ref 39 :: r) (mj_HN G ro tl) = mj_ex E df go call bi is loc (.int (zI (G 39 2)) :: r) (mj_HN G ro tl) := id rfl
theorem mz_p39_2 {a u : Nat} {y : Int} : mj_ex E df go call bi ((.putfield a, [7, 2, 0, u], v) :: is) loc (.int (zI y) :: .ref 39 :: r) (mj_HN G ro tl) = mj_ex E df go call bi is loc r (mj_HN (gs G 39 2 y) ro tl) := id rfl
theorem hg_40 : (mj_HN G ro tl)[40]? = some (.inl (0, 1620, .inl (fun j : Nat => zI (G 40 j)))) := rfl
theorem mz_ld40 {i : Int} (h0 : 0 ≤ i ∧ i < 1620) : mj_ex E df go call bi ((.iaload, x, v) :: is) loc (.int (zI i) :: .ref 40 :: r) (mj_HN G ro tl) = mj_ex E df go call bi is loc (.int (zI (G 40 i)) :: r) (mj_HN G ro tl) := by
  show (match mj_ald E 0 (.int (zI i) :: .ref 40 :: r) (mj_HN G ro tl) with
    | some st' => mj_ex E df go call bi is loc st' (mj_HN G ro tl)
    | none => none) = _
  rw [mz_iald hg_40 (by omega) (by omega)]
  show mj_ex E df go call bi is loc (.int (zI (G 40 ((i.toNat : Nat) : Int))) :: r) (mj_HN G ro tl) = _
  rw [Int.toNat_of_nonneg h0.1]
theorem mz_st40 {i y : Int} (h0 : 0 ≤ i ∧ i < 1620) : mj_ex E df go call bi ((.iastore, x, v) :: is) loc (.int (zI y) :: .int (zI i) :: .ref 40 :: r) (mj_HN G ro tl) = mj_ex E df go call bi is loc r (mj_HN (gs G 40 i y) ro tl) := by
  show (match mj_ast 0 (.int (zI y) :: .int (zI i) :: .ref 40 :: r) (mj_HN G ro tl) with
    | some (st', h') => mj_ex E df go call bi is loc st' h'
    | none => none) = _
  rw [mz_iast hg_40 (by omega) (by omega), show vp_nar (mj_ty 0) (zI y) = zI y from rfl, mz_upd h0.1]
  rfl
theorem mz_len40 : mj_ex E df go call bi ((.arraylength, x, v) :: is) loc (.ref 40 :: r) (mj_HN G ro tl) = mj_ex E df go call bi is loc (.int (zI 1620) :: r) (mj_HN G ro tl) := id rfl
theorem hg_41 : (mj_HN G ro tl)[41]? = some (.inl (4, 4, .inr (.inr (.inr (.inr (fun j : Nat => ro 41 j)))))) := rfl
theorem mz_ld41 {i : Int} (h0 : 0 ≤ i ∧ i < 4) : mj_ex E df go call bi ((.aaload, x, v) :: is) loc (.int (zI i) :: .ref 41 :: r) (mj_HN G ro tl) = mj_ex E df go call bi is loc (mj_rf (ro 41 i) :: r) (mj_HN G ro tl) := by
  show (match mj_aald (.int (zI i) :: .ref 41 :: r) (mj_HN G ro tl) with
    | some st' => mj_ex E df go call bi is loc st' (mj_HN G ro tl)
    | none => none) = _
  rw [mz_aald hg_41 (by omega) (by omega)]
  show mj_ex E df go call bi is loc (mj_rf (ro 41 ((i.toNat : Nat) : Int)) :: r) (mj_HN G ro tl) = _
  rw [Int.toNat_of_nonneg h0.1]
theorem hg_42 : (mj_HN G ro tl)[42]? = some (.inl (0, 8, .inl (fun j : Nat => zI (G 42 j)))) := rfl
theorem mz_ld42 {i : Int} (h0 : 0 ≤ i ∧ i < 8) : mj_ex E df go call bi ((.iaload, x, v) :: is) loc (.int (zI i) :: .ref 42 :: r) (mj_HN G ro tl) = mj_ex E df go call bi is loc (.int (zI (G 42 i)) :: r) (mj_HN G ro tl) := by
  show (match mj_ald E 0 (.int (zI i) :: .ref 42 :: r) (mj_HN G ro tl) with
    | some st' => mj_ex E df go call bi is loc st' (mj_HN G ro tl)
    | none => none) = _
  rw [mz_iald hg_42 (by omega) (by omega)]
  show mj_ex E df go call bi is loc (.int (zI (G 42 ((i.toNat : Nat) : Int))) :: r) (mj_HN G ro tl) = _
  rw [Int.toNat_of_nonneg h0.1]
theorem mz_st42 {i y : Int} (h0 : 0 ≤ i ∧ i < 8) : mj_ex E df go call bi ((.iastore, x, v) :: is) loc (.int (zI y) :: .int (zI i) :: .ref 42 :: r) (mj_HN G ro tl) = mj_ex E df go call bi is loc r (mj_HN (gs G 42 i y) ro tl) := by
  show (match mj_ast 0 (.int (zI y) :: .int (zI i) :: .ref 42 :: r) (mj_HN G ro tl) with
    | some (st', h') => mj_ex E df go call bi is loc st' h'
    | none => none) = _
  rw [mz_iast hg_42 (by omega) (by omega), show vp_nar (mj_ty 0) (zI y) = zI y from rfl, mz_upd h0.1]
  rfl
theorem mz_len42 : mj_ex E df go call bi ((.arraylength, x, v) :: is) loc (.ref 42 :: r) (mj_HN G ro tl) = mj_ex E df go call bi is loc (.int (zI 8) :: r) (mj_HN G ro tl) := id rfl
theorem hg_43 : (mj_HN G ro tl)[43]? = some (.inl (0, 8, .inl (fun j : Nat => zI (G 43 j)))) := rfl
theorem mz_ld43 {i : Int} (h0 : 0 ≤ i ∧ i < 8) : mj_ex E df go call bi ((.iaload, x, v) :: is) loc (.int (zI i) :: .ref 43 :: r) (mj_HN G ro tl) = mj_ex E df go call bi is loc (.int (zI (G 43 i)) :: r) (mj_HN G ro tl) := by
  show (match mj_ald E 0 (.int (zI i) :: .ref 43 :: r) (mj_HN G ro tl) with
    | some st' => mj_ex E df go call bi is loc st' (mj_HN G ro tl)
    | none => none) = _
  rw [mz_iald hg_43 (by omega) (by omega)]
  show mj_ex E df go call bi is loc (.int (zI (G 43 ((i.toNat : Nat) : Int))) :: r) (mj_HN G ro tl) = _
  rw [Int.toNat_of_nonneg h0.1]
theorem mz_st43 {i y : Int} (h0 : 0 ≤ i ∧ i < 8) : mj_ex E df go call bi ((.iastore, x, v) :: is) loc (.int (zI y) :: .int (zI i) :: .ref 43 :: r) (mj_HN G ro tl) = mj_ex E df go call bi is loc r (mj_HN (gs G 43 i y) ro tl) := by
  show (match mj_ast 0 (.int (zI y) :: .int (zI i) :: .ref 43 :: r) (mj_HN G ro tl) with
    | some (st', h') => mj_ex E df go call bi is loc st' h'
    | none => none) = _
  rw [mz_iast hg_43 (by omega) (by omega), show vp_nar (mj_ty 0) (zI y) = zI y from rfl, mz_upd h0.1]
  rfl
theorem mz_len43 : mj_ex E df go call bi ((.arraylength, x, v) :: is) loc (.ref 43 :: r) (mj_HN G ro tl) = mj_ex E df go call bi is loc (.int (zI 8) :: r) (mj_HN G ro tl) := id rfl
theorem hg_44 : (mj_HN G ro tl)[44]? = some (.inr (2, [.ref 45])) := rfl
theorem mz_g44_0 {a u : Nat} : mj_ex E df go call bi ((.getfield a, [2, 0, u], v) :: is) loc (.ref 44 :: r) (mj_HN G ro tl) = mj_ex E df go call bi is loc (.ref 45 :: r) (mj_HN G ro tl) := id rfl
theorem hg_45 : (mj_HN G ro tl)[45]? = some (.inl (0, 54, .inl (fun j : Nat => zI (G 45 j)))) := rfl
theorem mz_ld45 {i : Int} (h0 : 0 ≤ i ∧ i < 54) : mj_ex E df go call bi ((.iaload, x, v) :: is) loc (.int (zI i) :: .ref 45 :: r) (mj_HN G ro tl) = mj_ex E df go call bi is loc (.int (zI (G 45 i)) :: r) (mj_HN G ro tl) := by
  show (match mj_ald E 0 (.int (zI i) :: .ref 45 :: r) (mj_HN G ro tl) with
    | some st' => mj_ex E df go call bi is loc st' (mj_HN G ro tl)
    | none => none) = _
  rw [mz_iald hg_45 (by omega) (by omega)]
  show mj_ex E df go call bi is loc (.int (zI (G 45 ((i.toNat : Nat) : Int))) :: r) (mj_HN G ro tl) = _
  rw [Int.toNat_of_nonneg h0.1]
theorem mz_st45 {i y : Int} (h0 : 0 ≤ i ∧ i < 54) : mj_ex E df go call bi ((.iastore, x, v) :: is) loc (.int (zI y) :: .int (zI i) :: .ref 45 :: r) (mj_HN G ro tl) = mj_ex E df go call bi is loc r (mj_HN (gs G 45 i y) ro tl) := by
  show (match mj_ast 0 (.int (zI y) :: .int (zI i) :: .ref 45 :: r) (mj_HN G ro tl) with
    | some (st', h') => mj_ex E df go call bi is loc st' h'
    | none => none) = _
  rw [mz_iast hg_45 (by omega) (by omega), show vp_nar (mj_ty 0) (zI y) = zI y from rfl, mz_upd h0.1]
  rfl
theorem mz_len45 : mj_ex E df go call bi ((.arraylength, x, v) :: is) loc (.ref 45 :: r) (mj_HN G ro tl) = mj_ex E df go call bi is loc (.int (zI 54) :: r) (mj_HN G ro tl) := id rfl
theorem hg_46 : (mj_HN G ro tl)[46]? = some (.inr (8, [.ref 47, .ref 48, .ref 49, .ref 50, .int (zI (G 46 4)), .int (zI (G 46 5)), .int (zI (G 46 6))])) := rfl
theorem mz_g46_0 {a u : Nat} : mj_ex E df go call bi ((.getfield a, [8, 0, u], v) :: is) loc (.ref 46 :: r) (mj_HN G ro tl) = mj_ex E df go call bi is loc (.ref 47 :: r) (mj_HN G ro tl) := id rfl
theorem mz_g46_1 {a u : Nat} : mj_ex E df go call bi ((.getfield a, [8, 1, u], v) :: is) loc (.ref 46 :: r) (mj_HN G ro tl) = mj_ex E df go call bi is loc (.ref 48 :: r) (mj_HN G ro tl) := id rfl
theorem mz_g46_2 {a u : Nat} : mj_ex E df go call bi ((.getfield a, [8, 2, u], v) :: is) loc (.ref 46 :: r) (mj_HN G ro tl) = mj_ex E df go call bi is loc (.ref 49 :: r) (mj_HN G ro tl) := id rfl
theorem mz_g46_3 {a u : Nat} : mj_ex E df go call bi ((.getfield a, [8, 3, u], v) :: is) loc (.ref 46 :: r) (mj_HN G ro tl) = mj_ex E df go call bi is loc (.ref 50 :: r) (mj_HN G ro tl) := id rfl
theorem mz_g46_4 {a u : Nat} : mj_ex E df go call bi ((.getfield a, [8, 4, u], v) :: is) loc (.ref 46 :: r) (mj_HN G ro tl) = mj_ex E df go call bi is loc (.int (zI (G 46 4)) :: r) (mj_HN G ro tl) := id rfl
theorem mz_p46_4 {a u : Nat} {y : Int} : mj_ex E df go call bi ((.putfield a, [8, 4, 0, u], v) :: is) loc (.int (zI y) :: .ref 46 :: r) (mj_HN G ro tl) = mj_ex E df go call bi is loc r (mj_HN (gs G 46 4 y) ro tl) := id rfl
theorem mz_g46_5 {a u : Nat} : mj_ex E df go call bi ((.getfield a, [8, 5, u], v) :: is) loc (.ref 46 :: r) (mj_HN G ro tl) = mj_ex E df go call bi is loc (.int (zI (G 46 5)) :: r) (mj_HN G ro tl) := id rfl
theorem mz_p46_5 {a u : Nat} {y : Int} : mj_ex E df go call bi ((.putfield a, [8, 5, 0, u], v) :: is) loc (.int (zI y) :: .ref 46 :: r) (mj_HN G ro tl) = mj_ex E df go call bi is loc r (mj_HN (gs G 46 5 y) ro tl) := id rfl
theorem mz_g46_6 {a u : Nat} : mj_ex E df go call bi ((.getfield a, [8, 6, u], v) :: is) loc (.ref 46 :: r) (mj_HN G ro tl) = mj_ex E df go call bi is loc (.int (zI (G 46 6)) :: r) (mj_HN G ro tl) := id rfl
theorem mz_p46_6 {a u : Nat} {y : Int} : mj_ex E df go call bi ((.putfield a, [8, 6, 0, u], v) :: is) loc (.int (zI y) :: .ref 46 :: r) (mj_HN G ro tl) = mj_ex E df go call bi is loc r (mj_HN (gs G 46 6 y) ro tl) := id rfl
theorem hg_47 : (mj_HN G ro tl)[47]? = some (.inl (1, 300, .inl (fun j : Nat => zI (G 47 j)))) := rfl
theorem mz_ld47 {i : Int} (h0 : 0 ≤ i ∧ i < 300) : mj_ex E df go call bi ((.caload, x, v) :: is) loc (.int (zI i) :: .ref 47 :: r) (mj_HN G ro tl) = mj_ex E df go call bi is loc (.int (zI (G 47 i)) :: r) (mj_HN G ro tl) := by
  show (match mj_ald E 1 (.int (zI i) :: .ref 47 :: r) (mj_HN G ro tl) with
    | some st' => mj_ex E df go call bi is loc st' (mj_HN G ro tl)
    | none => none) = _
  rw [mz_iald hg_47 (by omega) (by omega)]
  show mj_ex E df go call bi is loc (.int (zI (G 47 ((i.toNat : Nat) : Int))) :: r) (mj_HN G ro tl) = _
  rw [Int.toNat_of_nonneg h0.1]
theorem mz_st47 {i y : Int} (h0 : 0 ≤ i ∧ i < 300 ∧ 0 ≤ y ∧ y ≤ 65535) : mj_ex E df go call bi ((.castore, x, v) :: is) loc (.int (zI y) :: .int (zI i) :: .ref 47 :: r) (mj_HN G ro tl) = mj_ex E df go call bi is loc r (mj_HN (gs G 47 i y) ro tl) := by
  show (match mj_ast 1 (.int (zI y) :: .int (zI i) :: .ref 47 :: r) (mj_HN G ro tl) with
    | some (st', h') => mj_ex E df go call bi is loc st' h'
    | none => none) = _
  rw [mz_iast hg_47 (by omega) (by omega), show vp_nar (mj_ty 1) (zI y) = zI y from vp_nar_c (by omega), mz_upd h0.1]
  rfl
theorem mz_len47 : mj_ex E df go call bi ((.arraylength, x, v) :: is) loc (.ref 47 :: r) (mj_HN G ro tl) = mj_ex E df go call bi is loc (.int (zI 300) :: r) (mj_HN G ro tl) := id rfl
theorem hg_48 : (mj_HN G ro tl)[48]? = some (.inl (0, 301, .inl (fun j : Nat => zI (G 48 j)))) := rfl
theorem mz_ld48 {i : Int} (h0 : 0 ≤ i ∧ i < 301) : mj_ex E df go call bi ((.iaload, x, v) :: is) loc (.int (zI i) :: .ref 48 :: r) (mj_HN G ro tl) = mj_ex E df go call bi is loc (.int (zI (G 48 i)) :: r) (mj_HN G ro tl) := by
  show (match mj_ald E 0 (.int (zI i) :: .ref 48 :: r) (mj_HN G ro tl) with
    | some st' => mj_ex E df go call bi is loc st' (mj_HN G ro tl)
    | none => none) = _
  rw [mz_iald hg_48 (by omega) (by omega)]
  show mj_ex E df go call bi is loc (.int (zI (G 48 ((i.toNat : Nat) : Int))) :: r) (mj_HN G ro tl) = _
  rw [Int.toNat_of_nonneg h0.1]
theorem mz_st48 {i y : Int} (h0 : 0 ≤ i ∧ i < 301) : mj_ex E df go call bi ((.iastore, x, v) :: is) loc (.int (zI y) :: .int (zI i) :: .ref 48 :: r) (mj_HN G ro tl) = mj_ex E df go call bi is loc r (mj_HN (gs G 48 i y) ro tl) := by
  show (match mj_ast 0 (.int (zI y) :: .int (zI i) :: .ref 48 :: r) (mj_HN G ro tl) with
    | some (st', h') => mj_ex E df go call bi is loc st' h'
    | none => none) = _
  rw [mz_iast hg_48 (by omega) (by omega), show vp_nar (mj_ty 0) (zI y) = zI y from rfl, mz_upd h0.1]
  rfl
theorem mz_len48 : mj_ex E df go call bi ((.arraylength, x, v) :: is) loc (.ref 48 :: r) (mj_HN G ro tl) = mj_ex E df go call bi is loc (.int (zI 301) :: r) (mj_HN G ro tl) := id rfl
theorem hg_49 : (mj_HN G ro tl)[49]? = some (.inl (0, 301, .inl (fun j : Nat => zI (G 49 j)))) := rfl
theorem mz_ld49 {i : Int} (h0 : 0 ≤ i ∧ i < 301) : mj_ex E df go call bi ((.iaload, x, v) :: is) loc (.int (zI i) :: .ref 49 :: r) (mj_HN G ro tl) = mj_ex E df go call bi is loc (.int (zI (G 49 i)) :: r) (mj_HN G ro tl) := by
  show (match mj_ald E 0 (.int (zI i) :: .ref 49 :: r) (mj_HN G ro tl) with
    | some st' => mj_ex E df go call bi is loc st' (mj_HN G ro tl)
    | none => none) = _
  rw [mz_iald hg_49 (by omega) (by omega)]
  show mj_ex E df go call bi is loc (.int (zI (G 49 ((i.toNat : Nat) : Int))) :: r) (mj_HN G ro tl) = _
  rw [Int.toNat_of_nonneg h0.1]
theorem mz_st49 {i y : Int} (h0 : 0 ≤ i ∧ i < 301) : mj_ex E df go call bi ((.iastore, x, v) :: is) loc (.int (zI y) :: .int (zI i) :: .ref 49 :: r) (mj_HN G ro tl) = mj_ex E df go call bi is loc r (mj_HN (gs G 49 i y) ro tl) := by
  show (match mj_ast 0 (.int (zI y) :: .int (zI i) :: .ref 49 :: r) (mj_HN G ro tl) with
    | some (st', h') => mj_ex E df go call bi is loc st' h'
    | none => none) = _
  rw [mz_iast hg_49 (by omega) (by omega), show vp_nar (mj_ty 0) (zI y) = zI y from rfl, mz_upd h0.1]
  rfl
theorem mz_len49 : mj_ex E df go call bi ((.arraylength, x, v) :: is) loc (.ref 49 :: r) (mj_HN G ro tl) = mj_ex E df go call bi is loc (.int (zI 301) :: r) (mj_HN G ro tl) := id rfl
theorem hg_50 : (mj_HN G ro tl)[50]? = some (.inl (0, 301, .inl (fun j : Nat => zI (G 50 j)))) := rfl
theorem mz_ld50 {i : Int} (h0 : 0 ≤ i ∧ i < 301) : mj_ex E df go call bi ((.iaload, x, v) :: is) loc (.int (zI i) :: .ref 50 :: r) (mj_HN G ro tl) = mj_ex E df go call bi is loc (.int (zI (G 50 i)) :: r) (mj_HN G ro tl) := by
  show (match mj_ald E 0 (.int (zI i) :: .ref 50 :: r) (mj_HN G ro tl) with
    | some st' => mj_ex E df go call bi is loc st' (mj_HN G ro tl)
    | none => none) = _
  rw [mz_iald hg_50 (by omega) (by omega)]
  show mj_ex E df go call bi is loc (.int (zI (G 50 ((i.toNat : Nat) : Int))) :: r) (mj_HN G ro tl) = _
  rw [Int.toNat_of_nonneg h0.1]
theorem mz_st50 {i y : Int} (h0 : 0 ≤ i ∧ i < 301) : mj_ex E df go call bi ((.iastore, x, v) :: is) loc (.int (zI y) :: .int (zI i) :: .ref 50 :: r) (mj_HN G ro tl) = mj_ex E df go call bi is loc r (mj_HN (gs G 50 i y) ro tl) := by
  show (match mj_ast 0 (.int (zI y) :: .int (zI i) :: .ref 50 :: r) (mj_HN G ro tl) with
    | some (st', h') => mj_ex E df go call bi is loc st' h'
    | none => none) = _
  rw [mz_iast hg_50 (by omega) (by omega), show vp_nar (mj_ty 0) (zI y) = zI y from rfl, mz_upd h0.1]
  rfl
theorem mz_len50 : mj_ex E df go call bi ((.arraylength, x, v) :: is) loc (.ref 50 :: r) (mj_HN G ro tl) = mj_ex E df go call bi is loc (.int (zI 301) :: r) (mj_HN G ro tl) := id rfl
theorem hg_51 : (mj_HN G ro tl)[51]? = some (.inr (6, [.ref 46, .ref 52, .ref 53, mj_rf (ro 51 3), mj_rf (ro 51 4), .int (zI (G 51 5)), .int (zI (G 51 6)), .int (zI (G 51 7)), .int (zI (G 51 8)), .int (zI (G 51 9))])) := rfl
theorem mz_g51_0 {a u : Nat} : mj_ex E df go call bi ((.getfield a, [6, 0, u], v) :: is) loc (.ref 51 :: r) (mj_HN G ro tl) = mj_ex E df go call bi is loc (.ref 46 :: r) (mj_HN G ro tl) := id rfl
theorem mz_g51_1 {a u : Nat} : mj_ex E df go call bi ((.getfield a, [6, 1, u], v) :: is) loc (.ref 51 :: r) (mj_HN G ro tl) = mj_ex E df go call bi is loc (.ref 52 :: r) (mj_HN G ro tl) := id rfl
theorem mz_g51_2 {a u : Nat} : mj_ex E df go call bi ((.getfield a, [6, 2, u], v) :: is) loc (.ref 51 :: r) (mj_HN G ro tl) = mj_ex E df go call bi is loc (.ref 53 :: r) (mj_HN G ro tl) := id rfl
theorem mz_g51_3 {a u : Nat} : mj_ex E df go call bi ((.getfield a, [6, 3, u], v) :: is) loc (.ref 51 :: r) (mj_HN G ro tl) = mj_ex E df go call bi is loc (mj_rf (ro 51 3) :: r) (mj_HN G ro tl) := id rfl
theorem mz_pn51_3 {a u : Nat} : mj_ex E df go call bi ((.putfield a, [6, 3, 3, u], v) :: is) loc (.null :: .ref 51 :: r) (mj_HN G ro tl) = mj_ex E df go call bi is loc r (mj_HN G (rs ro 51 3 none) tl) := id rfl
theorem mz_pr51_3 {a u q : Nat} : mj_ex E df go call bi ((.putfield a, [6, 3, 3, u], v) :: is) loc (.ref q :: .ref 51 :: r) (mj_HN G ro tl) = mj_ex E df go call bi is loc r (mj_HN G (rs ro 51 3 (some q)) tl) := id rfl
theorem mz_g51_4 {a u : Nat} : mj_ex E df go call bi ((.getfield a, [6, 4, u], v) :: is) loc (.ref 51 :: r) (mj_HN G ro tl) = mj_ex E df go call bi is loc (mj_rf (ro 51 4) :: r) (mj_HN G ro tl) := id rfl
theorem mz_pn51_4 {a u : Nat} : mj_ex E df go call bi ((.putfield a, [6, 4, 3, u], v) :: is) loc (.null :: .ref 51 :: r) (mj_HN G ro tl) = mj_ex E df go call bi is loc r (mj_HN G (rs ro 51 4 none) tl) := id rfl
theorem mz_pr51_4 {a u q : Nat} : mj_ex E df go call bi ((.putfield a, [6, 4, 3, u], v) :: is) loc (.ref q :: .ref 51 :: r) (mj_HN G ro tl) = mj_ex E df go call bi is loc r (mj_HN G (rs ro 51 4 (some q)) tl) := id rfl
theorem mz_g51_5 {a u : Nat} : mj_ex E df go call bi ((.getfield a, [6, 5, u], v) :: is) loc (.ref 51 :: r) (mj_HN G ro tl) = mj_ex E df go call bi is loc (.int (zI (G 51 5)) :: r) (mj_HN G ro tl) := id rfl
theorem mz_p51_5 {a u : Nat} {y : Int} : mj_ex E df go call bi ((.putfield a, [6, 5, 0, u], v) :: is) loc (.int (zI y) :: .ref 51 :: r) (mj_HN G ro tl) = mj_ex E df go call bi is loc r (mj_HN (gs G 51 5 y) ro tl) := id rfl
theorem mz_g51_6 {a u : Nat} : mj_ex E df go call bi ((.getfield a, [6, 6, u], v) :: is) loc (.ref 51 :: r) (mj_HN G ro tl) = mj_ex E df go call bi is loc (.int (zI (G 51 6)) :: r) (mj_HN G ro tl) := id rfl
theorem mz_p51_6 {a u : Nat} {y : Int} : mj_ex E df go call bi ((.putfield a, [6, 6, 0, u], v) :: is) loc (.int (zI y) :: .ref 51 :: r) (mj_HN G ro tl) = mj_ex E df go call bi is loc r (mj_HN (gs G 51 6 y) ro tl) := id rfl
theorem mz_g51_7 {a u : Nat} : mj_ex E df go call bi ((.getfield a, [6, 7, u], v) :: is) loc (.ref 51 :: r) (mj_HN G ro tl) = mj_ex E df go call bi is loc (.int (zI (G 51 7)) :: r) (mj_HN G ro tl) := id rfl
theorem mz_p51_7 {a u : Nat} {y : Int} : mj_ex E df go call bi ((.putfield a, [6, 7, 0, u], v) :: is) loc (.int (zI y) :: .ref 51 :: r) (mj_HN G ro tl) = mj_ex E df go call bi is loc r (mj_HN (gs G 51 7 y) ro tl) := id rfl
theorem mz_g51_8 {a u : Nat} : mj_ex E df go call bi ((.getfield a, [6, 8, u], v) :: is) loc (.ref 51 :: r) (mj_HN G ro tl) = mj_ex E df go call bi is loc (.int (zI (G 51 8)) :: r) (mj_HN G ro tl) := id rfl
theorem mz_p51_8 {a u : Nat} {y : Int} : mj_ex E df go call bi ((.putfield a, [6, 8, 0, u], v) :: is) loc (.int (zI y) :: .ref 51 :: r) (mj_HN G ro tl) = mj_ex E df go call bi is loc r (mj_HN (gs G 51 8 y) ro tl) := id rfl
theorem mz_g51_9 {a u : Nat} : mj_ex E df go call bi ((.getfield a, [6, 9, u], v) :: is) loc (.ref 51 :: r) (mj_HN G ro tl) = mj_ex E df go call bi is loc (.int (zI (G 51 9)) :: r) (mj_HN G ro tl) := id rfl
theorem mz_p51_9 {a u : Nat} {y : Int} : mj_ex E df go call bi ((.putfield a, [6, 9, 0, u], v) :: is) loc (.int (zI y) :: .ref 51 :: r) (mj_HN G ro tl) = mj_ex E df go call bi is loc r (mj_HN (gs G 51 9 y) ro tl) := id rfl
theorem hg_52 : (mj_HN G ro tl)[52]? = some (.inl (0, 300, .inl (fun j : Nat => zI (G 52 j)))) := rfl
theorem mz_ld52 {i : Int} (h0 : 0 ≤ i ∧ i < 300) : mj_ex E df go call bi ((.iaload, x, v) :: is) loc (.int (zI i) :: .ref 52 :: r) (mj_HN G ro tl) = mj_ex E df go call bi is loc (.int (zI (G 52 i)) :: r) (mj_HN G ro tl) := by
  show (match mj_ald E 0 (.int (zI i) :: .ref 52 :: r) (mj_HN G ro tl) with
    | some st' => mj_ex E df go call bi is loc st' (mj_HN G ro tl)
    | none => none) = _
  rw [mz_iald hg_52 (by omega) (by omega)]
  show mj_ex E df go call bi is loc (.int (zI (G 52 ((i.toNat : Nat) : Int))) :: r) (mj_HN G ro tl) = _
  rw [Int.toNat_of_nonneg h0.1]
theorem mz_st52 {i y : Int} (h0 : 0 ≤ i ∧ i < 300) : mj_ex E df go call bi ((.iastore, x, v) :: is) loc (.int (zI y) :: .int (zI i) :: .ref 52 :: r) (mj_HN G ro tl) = mj_ex E df go call bi is loc r (mj_HN (gs G 52 i y) ro tl) := by
  show (match mj_ast 0 (.int (zI y) :: .int (zI i) :: .ref 52 :: r) (mj_HN G ro tl) with
    | some (st', h') => mj_ex E df go call bi is loc st' h'
    | none => none) = _
  rw [mz_iast hg_52 (by omega) (by omega), show vp_nar (mj_ty 0) (zI y) = zI y from rfl, mz_upd h0.1]
  rfl
theorem mz_len52 : mj_ex E df go call bi ((.arraylength, x, v) :: is) loc (.ref 52 :: r) (mj_HN G ro tl) = mj_ex E df go call bi is loc (.int (zI 300) :: r) (mj_HN G ro tl) := id rfl
theorem hg_53 : (mj_HN G ro tl)[53]? = some (.inl (0, 72, .inl (fun j : Nat => zI (G 53 j)))) := rfl
theorem mz_ld53 {i : Int} (h0 : 0 ≤ i ∧ i < 72) : mj_ex E df go call bi ((.iaload, x, v) :: is) loc (.int (zI i) :: .ref 53 :: r) (mj_HN G ro tl) = mj_ex E df go call bi is loc (.int (zI (G 53 i)) :: r) (mj_HN G ro tl) := by
  show (match mj_ald E 0 (.int (zI i) :: .ref 53 :: r) (mj_HN G ro tl) with
    | some st' => mj_ex E df go call bi is loc st' (mj_HN G ro tl)
    | none => none) = _
  rw [mz_iald hg_53 (by omega) (by omega)]
  show mj_ex E df go call bi is loc (.int (zI (G 53 ((i.toNat : Nat) : Int))) :: r) (mj_HN G ro tl) = _
  rw [Int.toNat_of_nonneg h0.1]
theorem mz_st53 {i y : Int} (h0 : 0 ≤ i ∧ i < 72) : mj_ex E df go call bi ((.iastore, x, v) :: is) loc (.int (zI y) :: .int (zI i) :: .ref 53 :: r) (mj_HN G ro tl) = mj_ex E df go call bi is loc r (mj_HN (gs G 53 i y) ro tl) := by
  show (match mj_ast 0 (.int (zI y) :: .int (zI i) :: .ref 53 :: r) (mj_HN G ro tl) with
    | some (st', h') => mj_ex E df go call bi is loc st' h'
    | none => none) = _
  rw [mz_iast hg_53 (by omega) (by omega), show vp_nar (mj_ty 0) (zI y) = zI y from rfl, mz_upd h0.1]
  rfl
theorem mz_len53 : mj_ex E df go call bi ((.arraylength, x, v) :: is) loc (.ref 53 :: r) (mj_HN G ro tl) = mj_ex E df go call bi is loc (.int (zI 72) :: r) (mj_HN G ro tl) := id rfl
theorem hg_54 : (mj_HN G ro tl)[54]? = some (.inr (5, [.ref 55, .ref 56, .ref 57, .ref 58, .int (zI (G 54 4)), .int (zI (G 54 5))])) := rfl
theorem mz_g54_0 {a u : Nat} : mj_ex E df go call bi ((.getfield a, [5, 0, u], v) :: is) loc (.ref 54 :: r) (mj_HN G ro tl) = mj_ex E df go call bi is loc (.ref 55 :: r) (mj_HN G ro tl) := id rfl
theorem mz_g54_1 {a u : Nat} : mj_ex E df go call bi ((.getfield a, [5, 1, u], v) :: is) loc (.ref 54 :: r) (mj_HN G ro tl) = mj_ex E df go call bi is loc (.ref 56 :: r) (mj_HN G ro tl) := id rfl
theorem mz_g54_2 {a u : Nat} : mj_ex E df go call bi ((.getfield a, [5, 2, u], v) :: is) loc (.ref 54 :: r) (mj_HN G ro tl) = mj_ex E df go call bi is loc (.ref 57 :: r) (mj_HN G ro tl) := id rfl
theorem mz_g54_3 {a u : Nat} : mj_ex E df go call bi ((.getfield a, [5, 3, u], v) :: is) loc (.ref 54 :: r) (mj_HN G ro tl) = mj_ex E df go call bi is loc (.ref 58 :: r) (mj_HN G ro tl) := id rfl
theorem mz_g54_4 {a u : Nat} : mj_ex E df go call bi ((.getfield a, [5, 4, u], v) :: is) loc (.ref 54 :: r) (mj_HN G ro tl) = mj_ex E df go call bi is loc (.int (zI (G 54 4)) :: r) (mj_HN G ro tl) := id rfl
theorem mz_p54_4 {a u : Nat} {y : Int} : mj_ex E df go call bi ((.putfield a, [5, 4, 0, u], v) :: is) loc (.int (zI y) :: .ref 54 :: r) (mj_HN G ro tl) = mj_ex E df go call bi is loc r (mj_HN (gs G 54 4 y) ro tl) := id rfl
theorem mz_g54_5 {a u : Nat} : mj_ex E df go call bi ((.getfield a, [5, 5, u], v) :: is) loc (.ref 54 :: r) (mj_HN G ro tl) = mj_ex E df go call bi is loc (.int (zI (G 54 5)) :: r) (mj_HN G ro tl) := id rfl
theorem mz_p54_5 {a u : Nat} {y : Int} : mj_ex E df go call bi ((.putfield a, [5, 5, 0, u], v) :: is) loc (.int (zI y) :: .ref 54 :: r) (mj_HN G ro tl) = mj_ex E df go call bi is loc r (mj_HN (gs G 54 5 y) ro tl) := id rfl
theorem hg_55 : (mj_HN G ro tl)[55]? = some (.inl (0, 9, .inl (fun j : Nat => zI (G 55 j)))) := rfl
theorem mz_ld55 {i : Int} (h0 : 0 ≤ i ∧ i < 9) : mj_ex E df go call bi ((.iaload, x, v) :: is) loc (.int (zI i) :: .ref 55 :: r) (mj_HN G ro tl) = mj_ex E df go call bi is loc (.int (zI (G 55 i)) :: r) (mj_HN G ro tl) := by
  show (match mj_ald E 0 (.int (zI i) :: .ref 55 :: r) (mj_HN G ro tl) with
    | some st' => mj_ex E df go call bi is loc st' (mj_HN G ro tl)
    | none => none) = _
  rw [mz_iald hg_55 (by omega) (by omega)]
  show mj_ex E df go call bi is loc (.int (zI (G 55 ((i.toNat : Nat) : Int))) :: r) (mj_HN G ro tl) = _
  rw [Int.toNat_of_nonneg h0.1]
theorem mz_st55 {i y : Int} (h0 : 0 ≤ i ∧ i < 9) : mj_ex E df go call bi ((.iastore, x, v) :: is) loc (.int (zI y) :: .int (zI i) :: .ref 55 :: r) (mj_HN G ro tl) = mj_ex E df go call bi is loc r (mj_HN (gs G 55 i y) ro tl) := by
  show (match mj_ast 0 (.int (zI y) :: .int (zI i) :: .ref 55 :: r) (mj_HN G ro tl) with
    | some (st', h') => mj_ex E df go call bi is loc st' h'
    | none => none) = _
  rw [mz_iast hg_55 (by omega) (by omega), show vp_nar (mj_ty 0) (zI y) = zI y from rfl, mz_upd h0.1]
  rfl
theorem mz_len55 : mj_ex E df go call bi ((.arraylength, x, v) :: is) loc (.ref 55 :: r) (mj_HN G ro tl) = mj_ex E df go call bi is loc (.int (zI 9) :: r) (mj_HN G ro tl) := id rfl
theorem hg_56 : (mj_HN G ro tl)[56]? = some (.inl (0, 189, .inl (fun j : Nat => zI (G 56 j)))) := rfl
theorem mz_ld56 {i : Int} (h0 : 0 ≤ i ∧ i < 189) : mj_ex E df go call bi ((.iaload, x, v) :: is) loc (.int (zI i) :: .ref 56 :: r) (mj_HN G ro tl) = mj_ex E df go call bi is loc (.int (zI (G 56 i)) :: r) (mj_HN G ro tl) := by
  show (match mj_ald E 0 (.int (zI i) :: .ref 56 :: r) (mj_HN G ro tl) with
    | some st' => mj_ex E df go call bi is loc st' (mj_HN G ro tl)
    | none => none) = _
  rw [mz_iald hg_56 (by omega) (by omega)]
  show mj_ex E df go call bi is loc (.int (zI (G 56 ((i.toNat : Nat) : Int))) :: r) (mj_HN G ro tl) = _
  rw [Int.toNat_of_nonneg h0.1]
theorem mz_st56 {i y : Int} (h0 : 0 ≤ i ∧ i < 189) : mj_ex E df go call bi ((.iastore, x, v) :: is) loc (.int (zI y) :: .int (zI i) :: .ref 56 :: r) (mj_HN G ro tl) = mj_ex E df go call bi is loc r (mj_HN (gs G 56 i y) ro tl) := by
  show (match mj_ast 0 (.int (zI y) :: .int (zI i) :: .ref 56 :: r) (mj_HN G ro tl) with
    | some (st', h') => mj_ex E df go call bi is loc st' h'
    | none => none) = _
  rw [mz_iast hg_56 (by omega) (by omega), show vp_nar (mj_ty 0) (zI y) = zI y from rfl, mz_upd h0.1]
  rfl
theorem mz_len56 : mj_ex E df go call bi ((.arraylength, x, v) :: is) loc (.ref 56 :: r) (mj_HN G ro tl) = mj_ex E df go call bi is loc (.int (zI 189) :: r) (mj_HN G ro tl) := id rfl
theorem hg_57 : (mj_HN G ro tl)[57]? = some (.inl (0, 189, .inl (fun j : Nat => zI (G 57 j)))) := rfl
theorem mz_ld57 {i : Int} (h0 : 0 ≤ i ∧ i < 189) : mj_ex E df go call bi ((.iaload, x, v) :: is) loc (.int (zI i) :: .ref 57 :: r) (mj_HN G ro tl) = mj_ex E df go call bi is loc (.int (zI (G 57 i)) :: r) (mj_HN G ro tl) := by
  show (match mj_ald E 0 (.int (zI i) :: .ref 57 :: r) (mj_HN G ro tl) with
    | some st' => mj_ex E df go call bi is loc st' (mj_HN G ro tl)
    | none => none) = _
  rw [mz_iald hg_57 (by omega) (by omega)]
  show mj_ex E df go call bi is loc (.int (zI (G 57 ((i.toNat : Nat) : Int))) :: r) (mj_HN G ro tl) = _
  rw [Int.toNat_of_nonneg h0.1]
theorem mz_st57 {i y : Int} (h0 : 0 ≤ i ∧ i < 189) : mj_ex E df go call bi ((.iastore, x, v) :: is) loc (.int (zI y) :: .int (zI i) :: .ref 57 :: r) (mj_HN G ro tl) = mj_ex E df go call bi is loc r (mj_HN (gs G 57 i y) ro tl) := by
  show (match mj_ast 0 (.int (zI y) :: .int (zI i) :: .ref 57 :: r) (mj_HN G ro tl) with
    | some (st', h') => mj_ex E df go call bi is loc st' h'
    | none => none) = _
  rw [mz_iast hg_57 (by omega) (by omega), show vp_nar (mj_ty 0) (zI y) = zI y from rfl, mz_upd h0.1]
  rfl
theorem mz_len57 : mj_ex E df go call bi ((.arraylength, x, v) :: is) loc (.ref 57 :: r) (mj_HN G ro tl) = mj_ex E df go call bi is loc (.int (zI 189) :: r) (mj_HN G ro tl) := id rfl
theorem hg_58 : (mj_HN G ro tl)[58]? = some (.inl (3, 9, .inr (.inl (fun j : Nat => lI (G 58 j))))) := rfl
theorem mz_ld58 {i : Int} (h0 : 0 ≤ i ∧ i < 9) : mj_ex E df go call bi ((.laload, x, v) :: is) loc (.int (zI i) :: .ref 58 :: r) (mj_HN G ro tl) = mj_ex E df go call bi is loc (.long (lI (G 58 i)) :: r) (mj_HN G ro tl) := by
  show (match mj_lald (.int (zI i) :: .ref 58 :: r) (mj_HN G ro tl) with
    | some st' => mj_ex E df go call bi is loc st' (mj_HN G ro tl)
    | none => none) = _
  rw [mz_lald hg_58 (by omega) (by omega)]
  show mj_ex E df go call bi is loc (.long (lI (G 58 ((i.toNat : Nat) : Int))) :: r) (mj_HN G ro tl) = _
  rw [Int.toNat_of_nonneg h0.1]
theorem mz_st58 {i y : Int} (h0 : 0 ≤ i ∧ i < 9) : mj_ex E df go call bi ((.lastore, x, v) :: is) loc (.long (lI y) :: .int (zI i) :: .ref 58 :: r) (mj_HN G ro tl) = mj_ex E df go call bi is loc r (mj_HN (gs G 58 i y) ro tl) := by
  show (match mj_last (.long (lI y) :: .int (zI i) :: .ref 58 :: r) (mj_HN G ro tl) with
    | some (st', h') => mj_ex E df go call bi is loc st' h'
    | none => none) = _
  rw [mz_last hg_58 (by omega) (by omega), mz_updL h0.1]
  rfl
theorem mz_len58 : mj_ex E df go call bi ((.arraylength, x, v) :: is) loc (.ref 58 :: r) (mj_HN G ro tl) = mj_ex E df go call bi is loc (.int (zI 9) :: r) (mj_HN G ro tl) := id rfl
theorem hg_59 : (mj_HN G ro tl)[59]? = some (.inr (12, [.ref 60, .ref 61, .ref 62, .ref 63, .int (zI (G 59 4)), .int (zI (G 59 5)), .int (zI (G 59 6)), .int (zI (G 59 7)), .int (zI (G 59 8)), .int (zI (G 59 9)), .int (zI (G 59 10)), .long (lI (G 59 11)), .int (zI (G 59 12)), .int (zI (G 59 13)), .int (zI (G 59 14)), .ref 64, .int (zI (G 59 16)), .int (zI (G 59 17)), .int (zI (G 59 18)), .int (zI (G 59 19)), .ref 65, .ref 66, .ref 67, .int (zI (G 59 23)), .int (zI (G 59 24)), .ref 68, .ref 69, .ref 70, .ref 71, .ref 72, .ref 73, .ref 74, .ref 75])) := rfl
theorem mz_g59_0 {a u : Nat} : mj_ex E df go call bi ((.getfield a, [12, 0, u], v) :: is) loc (.ref 59 :: r) (mj_HN G ro tl) = mj_ex E df go call bi is loc (.ref 60 :: r) (mj_HN G ro tl) := id rfl
theorem mz_g59_1 {a u : Nat} : mj_ex E df go call bi ((.getfield a, [12, 1, u], v) :: is) loc (.ref 59 :: r) (mj_HN G ro tl) = mj_ex E df go call bi is loc (.ref 61 :: r) (mj_HN G ro tl) := id rfl
theorem mz_g59_2 {a u : Nat} : mj_ex E df go call bi ((.getfield a, [12, 2, u], v) :: is) loc (.ref 59 :: r) (mj_HN G ro tl) = mj_ex E df go call bi is loc (.ref 62 :: r) (mj_HN G ro tl) := id rfl
theorem mz_g59_3 {a u : Nat} : mj_ex E df go call bi ((.getfield a, [12, 3, u], v) :: is) loc (.ref 59 :: r) (mj_HN G ro tl) = mj_ex E df go call bi is loc (.ref 63 :: r) (mj_HN G ro tl) := id rfl
theorem mz_g59_4 {a u : Nat} : mj_ex E df go call bi ((.getfield a, [12, 4, u], v) :: is) loc (.ref 59 :: r) (mj_HN G ro tl) = mj_ex E df go call bi is loc (.int (zI (G 59 4)) :: r) (mj_HN G ro tl) := id rfl
theorem mz_p59_4 {a u : Nat} {y : Int} : mj_ex E df go call bi ((.putfield a, [12, 4, 0, u], v) :: is) loc (.int (zI y) :: .ref 59 :: r) (mj_HN G ro tl) = mj_ex E df go call bi is loc r (mj_HN (gs G 59 4 y) ro tl) := id rfl
theorem mz_g59_5 {a u : Nat} : mj_ex E df go call bi ((.getfield a, [12, 5, u], v) :: is) loc (.ref 59 :: r) (mj_HN G ro tl) = mj_ex E df go call bi is loc (.int (zI (G 59 5)) :: r) (mj_HN G ro tl) := id rfl
theorem mz_p59_5 {a u : Nat} {y : Int} : mj_ex E df go call bi ((.putfield a, [12, 5, 0, u], v) :: is) loc (.int (zI y) :: .ref 59 :: r) (mj_HN G ro tl) = mj_ex E df go call bi is loc r (mj_HN (gs G 59 5 y) ro tl) := id rfl
theorem mz_g59_6 {a u : Nat} : mj_ex E df go call bi ((.getfield a, [12, 6, u], v) :: is) loc (.ref 59 :: r) (mj_HN G ro tl) = mj_ex E df go call bi is loc (.int (zI (G 59 6)) :: r) (mj_HN G ro tl) := id rfl
theorem mz_p59_6 {a u : Nat} {y : Int} : mj_ex E df go call bi ((.putfield a, [12, 6, 0, u], v) :: is) loc (.int (zI y) :: .ref 59 :: r) (mj_HN G ro tl) = mj_ex E df go call bi is loc r (mj_HN (gs G 59 6 y) ro tl) := id rfl
theorem mz_g59_7 {a u : Nat} : mj_ex E df go call bi ((.getfield a, [12, 7, u], v) :: is) loc (.ref 59 :: r) (mj_HN G ro tl) = mj_ex E df go call bi is loc (.int (zI (G 59 7)) :: r) (mj_HN G ro tl) := id rfl
theorem mz_p59_7 {a u : Nat} {y : Int} : mj_ex E df go call bi ((.putfield a, [12, 7, 0, u], v) :: is) loc (.int (zI y) :: .ref 59 :: r) (mj_HN G ro tl) = mj_ex E df go call bi is loc r (mj_HN (gs G 59 7 y) ro tl) := id rfl
theorem mz_g59_8 {a u : Nat} : mj_ex E df go call bi ((.getfield a, [12, 8, u], v) :: is) loc (.ref 59 :: r) (mj_HN G ro tl) = mj_ex E df go call bi is loc (.int (zI (G 59 8)) :: r) (mj_HN G ro tl) := id rfl
theorem mz_p59_8 {a u : Nat} {y : Int} : mj_ex E df go call bi ((.putfield a, [12, 8, 0, u], v) :: is) loc (.int (zI y) :: .ref 59 :: r) (mj_HN G ro tl) = mj_ex E df go call bi is loc r (mj_HN (gs G 59 8 y) ro tl) := id rfl
theorem mz_g59_9 {a u : Nat} : mj_ex E df go call bi ((.getfield a, [12, 9, u], v) :: is) loc (.ref 59 :: r) (mj_HN G ro tl) = mj_ex E df go call bi is loc (.int (zI (G 59 9)) :: r) (mj_HN G ro tl) := id rfl
theorem mz_p59_9 {a u : Nat} {y : Int} : mj_ex E df go call bi ((.putfield a, [12, 9, 0, u], v) :: is) loc (.int (zI y) :: .ref 59 :: r) (mj_HN G ro tl) = mj_ex E df go call bi is loc r (mj_HN (gs G 59 9 y) ro tl) := id rfl
theorem mz_g59_10 {a u : Nat} : mj_ex E df go call bi ((.getfield a, [12, 10, u], v) :: is) loc (.ref 59 :: r) (mj_HN G ro tl) = mj_ex E df go call bi is loc (.int (zI (G 59 10)) :: r) (mj_HN G ro tl) := id rfl
theorem mz_p59_10 {a u : Nat} {y : Int} : mj_ex E df go call bi ((.putfield a, [12, 10, 0, u], v) :: is) loc (.int (zI y) :: .ref 59 :: r) (mj_HN G ro tl) = mj_ex E df go call bi is loc r (mj_HN (gs G 59 10 y) ro tl) := id rfl
theorem mz_g59_11 {a u : Nat} : mj_ex E df go call bi ((.getfield a, [12, 11, u], v) :: is) loc (.ref 59 :: r) (mj_HN G ro tl) = mj_ex E df go call bi is loc (.long (lI (G 59 11)) :: r) (mj_HN G ro tl) := id rfl
theorem mz_p59_11 {a u : Nat} {y : Int} : mj_ex E df go call bi ((.putfield a, [12, 11, 2, u], v) :: is) loc (.long (lI y) :: .ref 59 :: r) (mj_HN G ro tl) = mj_ex E df go call bi is loc r (mj_HN (gs G 59 11 y) ro tl) := id rfl
theorem mz_g59_12 {a u : Nat} : mj_ex E df go call bi ((.getfield a, [12, 12, u], v) :: is) loc (.ref 59 :: r) (mj_HN G ro tl) = mj_ex E df go call bi is loc (.int (zI (G 59 12)) :: r) (mj_HN G ro tl) := id rfl
theorem mz_p59_12 {a u : Nat} {y : Int} : mj_ex E df go call bi ((.putfield a, [12, 12, 0, u], v) :: is) loc (.int (zI y) :: .ref 59 :: r) (mj_HN G ro tl) = mj_ex E df go call bi is loc r (mj_HN (gs G 59 12 y) ro tl) := id rfl
theorem mz_g59_13 {a u : Nat} : mj_ex E df go call bi ((.getfield a, [12, 13, u], v) :: is) loc (.ref 59 :: r) (mj_HN G ro tl) = mj_ex E df go call bi is loc (.int (zI (G 59 13)) :: r) (mj_HN G ro tl) := id rfl
theorem mz_p59_13 {a u : Nat} {y : Int} : mj_ex E df go call bi ((.putfield a, [12, 13, 0, u], v) :: is) loc (.int (zI y) :: .ref 59 :: r) (mj_HN G ro tl) = mj_ex E df go call bi is loc r (mj_HN (gs G 59 13 y) ro tl) := id rfl
theorem mz_g59_14 {a u : Nat} : mj_ex E df go call bi ((.getfield a, [12, 14, u], v) :: is) loc (.ref 59 :: r) (mj_HN G ro tl) = mj_ex E df go call bi is loc (.int (zI (G 59 14)) :: r) (mj_HN G ro tl) := id rfl
theorem mz_p59_14 {a u : Nat} {y : Int} : mj_ex E df go call bi ((.putfield a, [12, 14, 0, u], v) :: is) loc (.int (zI y) :: .ref 59 :: r) (mj_HN G ro tl) = mj_ex E df go call bi is loc r (mj_HN (gs G 59 14 y) ro tl) := id rfl
theorem mz_g59_15 {a u : Nat} : mj_ex E df go call bi ((.getfield a, [12, 15, u], v) :: is) loc (.ref 59 :: r) (mj_HN G ro tl) = mj_ex E df go call bi is loc (.ref 64 :: r) (mj_HN G ro tl) := id rfl
theorem mz_g59_16 {a u : Nat} : mj_ex E df go call bi ((.getfield a, [12, 16, u], v) :: is) loc (.ref 59 :: r) (mj_HN G ro tl) = mj_ex E df go call bi is loc (.int (zI (G 59 16)) :: r) (mj_HN G ro tl) := id rfl
theorem mz_p59_16 {a u : Nat} {y : Int} : mj_ex E df go call bi ((.putfield a, [12, 16, 0, u], v) :: is) loc (.int (zI y) :: .ref 59 :: r) (mj_HN G ro tl) = mj_ex E df go call bi is loc r (mj_HN (gs G 59 16 y) ro tl) := id rfl
theorem mz_g59_17 {a u : Nat} : mj_ex E df go call bi ((.getfield a, [12, 17, u], v) :: is) loc (.ref 59 :: r) (mj_HN G ro tl) = mj_ex E df go call bi is loc (.int (zI (G 59 17)) :: r) (mj_HN G ro tl) := id rfl
theorem mz_p59_17 {a u : Nat} {y : Int} : mj_ex E df go call bi ((.putfield a, [12, 17, 0, u], v) :: is) loc (.int (zI y) :: .ref 59 :: r) (mj_HN G ro tl) = mj_ex E df go call bi is loc r (mj_HN (gs G 59 17 y) ro tl) := id rfl
theorem mz_g59_18 {a u : Nat} : mj_ex E df go call bi ((.getfield a, [12, 18, u], v) :: is) loc (.ref 59 :: r) (mj_HN G ro tl) = mj_ex E df go call bi is loc (.int (zI (G 59 18)) :: r) (mj_HN G ro tl) := id rfl
theorem mz_p59_18 {a u : Nat} {y : Int} (h0 : y = 0 ∨ y = 1) : mj_ex E df go call bi ((.putfield a, [12, 18, 1, u], v) :: is) loc (.int (zI y) :: .ref 59 :: r) (mj_HN G ro tl) = mj_ex E df go call bi is loc r (mj_HN (gs G 59 18 y) ro tl) := by
  rcases h0 with q | q <;> subst q <;> rfl
theorem mz_g59_19 {a u : Nat} : mj_ex E df go call bi ((.getfield a, [12, 19, u], v) :: is) loc (.ref 59 :: r) (mj_HN G ro tl) = mj_ex E df go call bi is loc (.int (zI (G 59 19)) :: r) (mj_HN G ro tl) := id rfl
theorem mz_p59_19 {a u : Nat} {y : Int} : mj_ex E df go call bi ((.putfield a, [12, 19, 0, u], v) :: is) loc (.int (zI y) :: .ref 59 :: r) (mj_HN G ro tl) = mj_ex E df go call bi is loc r (mj_HN (gs G 59 19 y) ro tl) := id rfl
theorem mz_g59_20 {a u : Nat} : mj_ex E df go call bi ((.getfield a, [12, 20, u], v) :: is) loc (.ref 59 :: r) (mj_HN G ro tl) = mj_ex E df go call bi is loc (.ref 65 :: r) (mj_HN G ro tl) := id rfl
theorem mz_g59_21 {a u : Nat} : mj_ex E df go call bi ((.getfield a, [12, 21, u], v) :: is) loc (.ref 59 :: r) (mj_HN G ro tl) = mj_ex E df go call bi is loc (.ref 66 :: r) (mj_HN G ro tl) := id rfl
theorem mz_g59_22 {a u : Nat} : mj_ex E df go call bi ((.getfield a, [12, 22, u], v) :: is) loc (.ref 59 :: r) (mj_HN G ro tl) = mj_ex E df go call bi is loc (.ref 67 :: r) (mj_HN G ro tl) := id rfl
theorem mz_g59_23 {a u : Nat} : mj_ex E df go call bi ((.getfield a, [12, 23, u], v) :: is) loc (.ref 59 :: r) (mj_HN G ro tl) = mj_ex E df go call bi is loc (.int (zI (G 59 23)) :: r) (mj_HN G ro tl) := id rfl
theorem mz_p59_23 {a u : Nat} {y : Int} (h0 : y = 0 ∨ y = 1) : mj_ex E df go call bi ((.putfield a, [12, 23, 1, u], v) :: is) loc (.int (zI y) :: .ref 59 :: r) (mj_HN G ro tl) = mj_ex E df go call bi is loc r (mj_HN (gs G 59 23 y) ro tl) := by
  rcases h0 with q | q <;> subst q <;> rfl
theorem mz_g59_24 {a u : Nat} : mj_ex E df go call bi ((.getfield a, [12, 24, u], v) :: is) loc (.ref 59 :: r) (mj_HN G ro tl) = mj_ex E df go call bi is loc (.int (zI (G 59 24)) :: r) (mj_HN G ro tl) := id rfl
theorem mz_p59_24 {a u : Nat} {y : Int} : mj_ex E df go call bi ((.putfield a, [12, 24, 0, u], v) :: is) loc (.int (zI y) :: .ref 59 :: r) (mj_HN G ro tl) = mj_ex E df go call bi is loc r (mj_HN (gs G 59 24 y) ro tl) := id rfl
theorem mz_g59_25 {a u : Nat} : mj_ex E df go call bi ((.getfield a, [12, 25, u], v) :: is) loc (.ref 59 :: r) (mj_HN G ro tl) = mj_ex E df go call bi is loc (.ref 68 :: r) (mj_HN G ro tl) := id rfl
theorem mz_g59_26 {a u : Nat} : mj_ex E df go call bi ((.getfield a, [12, 26, u], v) :: is) loc (.ref 59 :: r) (mj_HN G ro tl) = mj_ex E df go call bi is loc (.ref 69 :: r) (mj_HN G ro tl) := id rfl
theorem mz_g59_27 {a u : Nat} : mj_ex E df go call bi ((.getfield a, [12, 27, u], v) :: is) loc (.ref 59 :: r) (mj_HN G ro tl) = mj_ex E df go call bi is loc (.ref 70 :: r) (mj_HN G ro tl) := id rfl
theorem mz_g59_28 {a u : Nat} : mj_ex E df go call bi ((.getfield a, [12, 28, u], v) :: is) loc (.ref 59 :: r) (mj_HN G ro tl) = mj_ex E df go call bi is loc (.ref 71 :: r) (mj_HN G ro tl) := id rfl
theorem mz_g59_29 {a u : Nat} : mj_ex E df go call bi ((.getfield a, [12, 29, u], v) :: is) loc (.ref 59 :: r) (mj_HN G ro tl) = mj_ex E df go call bi is loc (.ref 72 :: r) (mj_HN G ro tl) := id rfl
theorem mz_g59_30 {a u : Nat} : mj_ex E df go call bi ((.getfield a, [12, 30, u], v) :: is) loc (.ref 59 :: r) (mj_HN G ro tl) = mj_ex E df go call bi is loc (.ref 73 :: r) (mj_HN G ro tl) := id rfl
theorem mz_g59_31 {a u : Nat} : mj_ex E df go call bi ((.getfield a, [12, 31, u], v) :: is) loc (.ref 59 :: r) (mj_HN G ro tl) = mj_ex E df go call bi is loc (.ref 74 :: r) (mj_HN G ro tl) := id rfl
theorem mz_g59_32 {a u : Nat} : mj_ex E df go call bi ((.getfield a, [12, 32, u], v) :: is) loc (.ref 59 :: r) (mj_HN G ro tl) = mj_ex E df go call bi is loc (.ref 75 :: r) (mj_HN G ro tl) := id rfl
theorem hg_60 : (mj_HN G ro tl)[60]? = some (.inl (0, 1763, .inl (fun j : Nat => zI (G 60 j)))) := rfl
theorem mz_ld60 {i : Int} (h0 : 0 ≤ i ∧ i < 1763) : mj_ex E df go call bi ((.iaload, x, v) :: is) loc (.int (zI i) :: .ref 60 :: r) (mj_HN G ro tl) = mj_ex E df go call bi is loc (.int (zI (G 60 i)) :: r) (mj_HN G ro tl) := by
  show (match mj_ald E 0 (.int (zI i) :: .ref 60 :: r) (mj_HN G ro tl) with
    | some st' => mj_ex E df go call bi is loc st' (mj_HN G ro tl)
    | none => none) = _
  rw [mz_iald hg_60 (by omega) (by omega)]
  show mj_ex E df go call bi is loc (.int (zI (G 60 ((i.toNat : Nat) : Int))) :: r) (mj_HN G ro tl) = _
  rw [Int.toNat_of_nonneg h0.1]
theorem mz_st60 {i y : Int} (h0 : 0 ≤ i ∧ i < 1763) : mj_ex E df go call bi ((.iastore, x, v) :: is) loc (.int (zI y) :: .int (zI i) :: .ref 60 :: r) (mj_HN G ro tl) = mj_ex E df go call bi is loc r (mj_HN (gs G 60 i y) ro tl) := by
  show (match mj_ast 0 (.int (zI y) :: .int (zI i) :: .ref 60 :: r) (mj_HN G ro tl) with
    | some (st', h') => mj_ex E df go call bi is loc st' h'
    | none => none) = _
  rw [mz_iast hg_60 (by omega) (by omega), show vp_nar (mj_ty 0) (zI y) = zI y from rfl, mz_upd h0.1]
  rfl
theorem mz_len60 : mj_ex E df go call bi ((.arraylength, x, v) :: is) loc (.ref 60 :: r) (mj_HN G ro tl) = mj_ex E df go call bi is loc (.int (zI 1763) :: r) (mj_HN G ro tl) := id rfl
theorem hg_61 : (mj_HN G ro tl)[61]? = some (.inl (0, 1763, .inl (fun j : Nat => zI (G 61 j)))) := rfl
theorem mz_ld61 {i : Int} (h0 : 0 ≤ i ∧ i < 1763) : mj_ex E df go call bi ((.iaload, x, v) :: is) loc (.int (zI i) :: .ref 61 :: r) (mj_HN G ro tl) = mj_ex E df go call bi is loc (.int (zI (G 61 i)) :: r) (mj_HN G ro tl) := by
  show (match mj_ald E 0 (.int (zI i) :: .ref 61 :: r) (mj_HN G ro tl) with
    | some st' => mj_ex E df go call bi is loc st' (mj_HN G ro tl)
    | none => none) = _
  rw [mz_iald hg_61 (by omega) (by omega)]
  show mj_ex E df go call bi is loc (.int (zI (G 61 ((i.toNat : Nat) : Int))) :: r) (mj_HN G ro tl) = _
  rw [Int.toNat_of_nonneg h0.1]
theorem mz_st61 {i y : Int} (h0 : 0 ≤ i ∧ i < 1763) : mj_ex E df go call bi ((.iastore, x, v) :: is) loc (.int (zI y) :: .int (zI i) :: .ref 61 :: r) (mj_HN G ro tl) = mj_ex E df go call bi is loc r (mj_HN (gs G 61 i y) ro tl) := by
  show (match mj_ast 0 (.int (zI y) :: .int (zI i) :: .ref 61 :: r) (mj_HN G ro tl) with
    | some (st', h') => mj_ex E df go call bi is loc st' h'
    | none => none) = _
  rw [mz_iast hg_61 (by omega) (by omega), show vp_nar (mj_ty 0) (zI y) = zI y from rfl, mz_upd h0.1]
  rfl
theorem mz_len61 : mj_ex E df go call bi ((.arraylength, x, v) :: is) loc (.ref 61 :: r) (mj_HN G ro tl) = mj_ex E df go call bi is loc (.int (zI 1763) :: r) (mj_HN G ro tl) := id rfl
theorem hg_62 : (mj_HN G ro tl)[62]? = some (.inl (0, 2724, .inl (fun j : Nat => zI (G 62 j)))) := rfl
theorem mz_ld62 {i : Int} (h0 : 0 ≤ i ∧ i < 2724) : mj_ex E df go call bi ((.iaload, x, v) :: is) loc (.int (zI i) :: .ref 62 :: r) (mj_HN G ro tl) = mj_ex E df go call bi is loc (.int (zI (G 62 i)) :: r) (mj_HN G ro tl) := by
  show (match mj_ald E 0 (.int (zI i) :: .ref 62 :: r) (mj_HN G ro tl) with
    | some st' => mj_ex E df go call bi is loc st' (mj_HN G ro tl)
    | none => none) = _
  rw [mz_iald hg_62 (by omega) (by omega)]
  show mj_ex E df go call bi is loc (.int (zI (G 62 ((i.toNat : Nat) : Int))) :: r) (mj_HN G ro tl) = _
  rw [Int.toNat_of_nonneg h0.1]
theorem mz_st62 {i y : Int} (h0 : 0 ≤ i ∧ i < 2724) : mj_ex E df go call bi ((.iastore, x, v) :: is) loc (.int (zI y) :: .int (zI i) :: .ref 62 :: r) (mj_HN G ro tl) = mj_ex E df go call bi is loc r (mj_HN (gs G 62 i y) ro tl) := by
  show (match mj_ast 0 (.int (zI y) :: .int (zI i) :: .ref 62 :: r) (mj_HN G ro tl) with
    | some (st', h') => mj_ex E df go call bi is loc st' h'
    | none => none) = _
  rw [mz_iast hg_62 (by omega) (by omega), show vp_nar (mj_ty 0) (zI y) = zI y from rfl, mz_upd h0.1]
  rfl
theorem mz_len62 : mj_ex E df go call bi ((.arraylength, x, v) :: is) loc (.ref 62 :: r) (mj_HN G ro tl) = mj_ex E df go call bi is loc (.int (zI 2724) :: r) (mj_HN G ro tl) := id rfl
theorem hg_63 : (mj_HN G ro tl)[63]? = some (.inl (0, 300, .inl (fun j : Nat => zI (G 63 j)))) := rfl
theorem mz_ld63 {i : Int} (h0 : 0 ≤ i ∧ i < 300) : mj_ex E df go call bi ((.iaload, x, v) :: is) loc (.int (zI i) :: .ref 63 :: r) (mj_HN G ro tl) = mj_ex E df go call bi is loc (.int (zI (G 63 i)) :: r) (mj_HN G ro tl) := by
  show (match mj_ald E 0 (.int (zI i) :: .ref 63 :: r) (mj_HN G ro tl) with
    | some st' => mj_ex E df go call bi is loc st' (mj_HN G ro tl)
    | none => none) = _
  rw [mz_iald hg_63 (by omega) (by omega)]
  show mj_ex E df go call bi is loc (.int (zI (G 63 ((i.toNat : Nat) : Int))) :: r) (mj_HN G ro tl) = _
  rw [Int.toNat_of_nonneg h0.1]
theorem mz_st63 {i y : Int} (h0 : 0 ≤ i ∧ i < 300) : mj_ex E df go call bi ((.iastore, x, v) :: is) loc (.int (zI y) :: .int (zI i) :: .ref 63 :: r) (mj_HN G ro tl) = mj_ex E df go call bi is loc r (mj_HN (gs G 63 i y) ro tl) := by
  show (match mj_ast 0 (.int (zI y) :: .int (zI i) :: .ref 63 :: r) (mj_HN G ro tl) with
    | some (st', h') => mj_ex E df go call bi is loc st' h'
    | none => none) = _
  rw [mz_iast hg_63 (by omega) (by omega), show vp_nar (mj_ty 0) (zI y) = zI y from rfl, mz_upd h0.1]
  rfl
theorem mz_len63 : mj_ex E df go call bi ((.arraylength, x, v) :: is) loc (.ref 63 :: r) (mj_HN G ro tl) = mj_ex E df go call bi is loc (.int (zI 300) :: r) (mj_HN G ro tl) := id rfl
theorem hg_64 : (mj_HN G ro tl)[64]? = some (.inl (0, 160, .inl (fun j : Nat => zI (G 64 j)))) := rfl
theorem mz_ld64 {i : Int} (h0 : 0 ≤ i ∧ i < 160) : mj_ex E df go call bi ((.iaload, x, v) :: is) loc (.int (zI i) :: .ref 64 :: r) (mj_HN G ro tl) = mj_ex E df go call bi is loc (.int (zI (G 64 i)) :: r) (mj_HN G ro tl) := by
  show (match mj_ald E 0 (.int (zI i) :: .ref 64 :: r) (mj_HN G ro tl) with
    | some st' => mj_ex E df go call bi is loc st' (mj_HN G ro tl)
    | none => none) = _
  rw [mz_iald hg_64 (by omega) (by omega)]
  show mj_ex E df go call bi is loc (.int (zI (G 64 ((i.toNat : Nat) : Int))) :: r) (mj_HN G ro tl) = _
  rw [Int.toNat_of_nonneg h0.1]
theorem mz_st64 {i y : Int} (h0 : 0 ≤ i ∧ i < 160) : mj_ex E df go call bi ((.iastore, x, v) :: is) loc (.int (zI y) :: .int (zI i) :: .ref 64 :: r) (mj_HN G ro tl) = mj_ex E df go call bi is loc r (mj_HN (gs G 64 i y) ro tl) := by
  show (match mj_ast 0 (.int (zI y) :: .int (zI i) :: .ref 64 :: r) (mj_HN G ro tl) with
    | some (st', h') => mj_ex E df go call bi is loc st' h'
    | none => none) = _
  rw [mz_iast hg_64 (by omega) (by omega), show vp_nar (mj_ty 0) (zI y) = zI y from rfl, mz_upd h0.1]
  rfl
theorem mz_len64 : mj_ex E df go call bi ((.arraylength, x, v) :: is) loc (.ref 64 :: r) (mj_HN G ro tl) = mj_ex E df go call bi is loc (.int (zI 160) :: r) (mj_HN G ro tl) := id rfl
theorem hg_65 : (mj_HN G ro tl)[65]? = some (.inl (0, 8, .inl (fun j : Nat => zI (G 65 j)))) := rfl
theorem mz_ld65 {i : Int} (h0 : 0 ≤ i ∧ i < 8) : mj_ex E df go call bi ((.iaload, x, v) :: is) loc (.int (zI i) :: .ref 65 :: r) (mj_HN G ro tl) = mj_ex E df go call bi is loc (.int (zI (G 65 i)) :: r) (mj_HN G ro tl) := by
  show (match mj_ald E 0 (.int (zI i) :: .ref 65 :: r) (mj_HN G ro tl) with
    | some st' => mj_ex E df go call bi is loc st' (mj_HN G ro tl)
    | none => none) = _
  rw [mz_iald hg_65 (by omega) (by omega)]
  show mj_ex E df go call bi is loc (.int (zI (G 65 ((i.toNat : Nat) : Int))) :: r) (mj_HN G ro tl) = _
  rw [Int.toNat_of_nonneg h0.1]
theorem mz_st65 {i y : Int} (h0 : 0 ≤ i ∧ i < 8) : mj_ex E df go call bi ((.iastore, x, v) :: is) loc (.int (zI y) :: .int (zI i) :: .ref 65 :: r) (mj_HN G ro tl) = mj_ex E df go call bi is loc r (mj_HN (gs G 65 i y) ro tl) := by
  show (match mj_ast 0 (.int (zI y) :: .int (zI i) :: .ref 65 :: r) (mj_HN G ro tl) with
    | some (st', h') => mj_ex E df go call bi is loc st' h'
    | none => none) = _
  rw [mz_iast hg_65 (by omega) (by omega), show vp_nar (mj_ty 0) (zI y) = zI y from rfl, mz_upd h0.1]
  rfl
theorem mz_len65 : mj_ex E df go call bi ((.arraylength, x, v) :: is) loc (.ref 65 :: r) (mj_HN G ro tl) = mj_ex E df go call bi is loc (.int (zI 8) :: r) (mj_HN G ro tl) := id rfl
theorem hg_66 : (mj_HN G ro tl)[66]? = some (.inl (3, 330, .inr (.inl (fun j : Nat => lI (G 66 j))))) := rfl
theorem mz_ld66 {i : Int} (h0 : 0 ≤ i ∧ i < 330) : mj_ex E df go call bi ((.laload, x, v) :: is) loc (.int (zI i) :: .ref 66 :: r) (mj_HN G ro tl) = mj_ex E df go call bi is loc (.long (lI (G 66 i)) :: r) (mj_HN G ro tl) := by
  show (match mj_lald (.int (zI i) :: .ref 66 :: r) (mj_HN G ro tl) with
    | some st' => mj_ex E df go call bi is loc st' (mj_HN G ro tl)
    | none => none) = _
  rw [mz_lald hg_66 (by omega) (by omega)]
  show mj_ex E df go call bi is loc (.long (lI (G 66 ((i.toNat : Nat) : Int))) :: r) (mj_HN G ro tl) = _
  rw [Int.toNat_of_nonneg h0.1]
theorem mz_st66 {i y : Int} (h0 : 0 ≤ i ∧ i < 330) : mj_ex E df go call bi ((.lastore, x, v) :: is) loc (.long (lI y) :: .int (zI i) :: .ref 66 :: r) (mj_HN G ro tl) = mj_ex E df go call bi is loc r (mj_HN (gs G 66 i y) ro tl) := by
  show (match mj_last (.long (lI y) :: .int (zI i) :: .ref 66 :: r) (mj_HN G ro tl) with
    | some (st', h') => mj_ex E df go call bi is loc st' h'
    | none => none) = _
  rw [mz_last hg_66 (by omega) (by omega), mz_updL h0.1]
  rfl
theorem mz_len66 : mj_ex E df go call bi ((.arraylength, x, v) :: is) loc (.ref 66 :: r) (mj_HN G ro tl) = mj_ex E df go call bi is loc (.int (zI 330) :: r) (mj_HN G ro tl) := id rfl
theorem hg_67 : (mj_HN G ro tl)[67]? = some (.inl (2, 330, .inl (fun j : Nat => zI (G 67 j)))) := rfl
theorem mz_ld67 {i : Int} (h0 : 0 ≤ i ∧ i < 330) : mj_ex E df go call bi ((.baload, x, v) :: is) loc (.int (zI i) :: .ref 67 :: r) (mj_HN G ro tl) = mj_ex E df go call bi is loc (.int (zI (G 67 i)) :: r) (mj_HN G ro tl) := by
  show (match mj_ald E 2 (.int (zI i) :: .ref 67 :: r) (mj_HN G ro tl) with
    | some st' => mj_ex E df go call bi is loc st' (mj_HN G ro tl)
    | none => none) = _
  rw [mz_iald hg_67 (by omega) (by omega)]
  show mj_ex E df go call bi is loc (.int (zI (G 67 ((i.toNat : Nat) : Int))) :: r) (mj_HN G ro tl) = _
  rw [Int.toNat_of_nonneg h0.1]
theorem mz_st67 {i y : Int} (h0 : 0 ≤ i ∧ i < 330 ∧ (y = 0 ∨ y = 1)) : mj_ex E df go call bi ((.bastore, x, v) :: is) loc (.int (zI y) :: .int (zI i) :: .ref 67 :: r) (mj_HN G ro tl) = mj_ex E df go call bi is loc r (mj_HN (gs G 67 i y) ro tl) := by
  show (match mj_ast 2 (.int (zI y) :: .int (zI i) :: .ref 67 :: r) (mj_HN G ro tl) with
    | some (st', h') => mj_ex E df go call bi is loc st' h'
    | none => none) = _
  rw [mz_iast hg_67 (by omega) (by omega), show vp_nar (mj_ty 2) (zI y) = zI y from vp_nar_z (by omega), mz_upd h0.1]
  rfl
theorem mz_len67 : mj_ex E df go call bi ((.arraylength, x, v) :: is) loc (.ref 67 :: r) (mj_HN G ro tl) = mj_ex E df go call bi is loc (.int (zI 330) :: r) (mj_HN G ro tl) := id rfl
theorem hg_68 : (mj_HN G ro tl)[68]? = some (.inl (0, 31, .inl (fun j : Nat => zI (G 68 j)))) := rfl
theorem mz_ld68 {i : Int} (h0 : 0 ≤ i ∧ i < 31) : mj_ex E df go call bi ((.iaload, x, v) :: is) loc (.int (zI i) :: .ref 68 :: r) (mj_HN G ro tl) = mj_ex E df go call bi is loc (.int (zI (G 68 i)) :: r) (mj_HN G ro tl) := by
  show (match mj_ald E 0 (.int (zI i) :: .ref 68 :: r) (mj_HN G ro tl) with
    | some st' => mj_ex E df go call bi is loc st' (mj_HN G ro tl)
    | none => none) = _
  rw [mz_iald hg_68 (by omega) (by omega)]
  show mj_ex E df go call bi is loc (.int (zI (G 68 ((i.toNat : Nat) : Int))) :: r) (mj_HN G ro tl) = _
  rw [Int.toNat_of_nonneg h0.1]
theorem mz_st68 {i y : Int} (h0 : 0 ≤ i ∧ i < 31) : mj_ex E df go call bi ((.iastore, x, v) :: is) loc (.int (zI y) :: .int (zI i) :: .ref 68 :: r) (mj_HN G ro tl) = mj_ex E df go call bi is loc r (mj_HN (gs G 68 i y) ro tl) := by
  show (match mj_ast 0 (.int (zI y) :: .int (zI i) :: .ref 68 :: r) (mj_HN G ro tl) with
    | some (st', h') => mj_ex E df go call bi is loc st' h'
    | none => none) = _
  rw [mz_iast hg_68 (by omega) (by omega), show vp_nar (mj_ty 0) (zI y) = zI y from rfl, mz_upd h0.1]
  rfl
theorem mz_len68 : mj_ex E df go call bi ((.arraylength, x, v) :: is) loc (.ref 68 :: r) (mj_HN G ro tl) = mj_ex E df go call bi is loc (.int (zI 31) :: r) (mj_HN G ro tl) := id rfl
theorem hg_69 : (mj_HN G ro tl)[69]? = some (.inl (0, 8, .inl (fun j : Nat => zI (G 69 j)))) := rfl
theorem mz_ld69 {i : Int} (h0 : 0 ≤ i ∧ i < 8) : mj_ex E df go call bi ((.iaload, x, v) :: is) loc (.int (zI i) :: .ref 69 :: r) (mj_HN G ro tl) = mj_ex E df go call bi is loc (.int (zI (G 69 i)) :: r) (mj_HN G ro tl) := by
  show (match mj_ald E 0 (.int (zI i) :: .ref 69 :: r) (mj_HN G ro tl) with
    | some st' => mj_ex E df go call bi is loc st' (mj_HN G ro tl)
    | none => none) = _
  rw [mz_iald hg_69 (by omega) (by omega)]
  show mj_ex E df go call bi is loc (.int (zI (G 69 ((i.toNat : Nat) : Int))) :: r) (mj_HN G ro tl) = _
  rw [Int.toNat_of_nonneg h0.1]
theorem mz_st69 {i y : Int} (h0 : 0 ≤ i ∧ i < 8) : mj_ex E df go call bi ((.iastore, x, v) :: is) loc (.int (zI y) :: .int (zI i) :: .ref 69 :: r) (mj_HN G ro tl) = mj_ex E df go call bi is loc r (mj_HN (gs G 69 i y) ro tl) := by
  show (match mj_ast 0 (.int (zI y) :: .int (zI i) :: .ref 69 :: r) (mj_HN G ro tl) with
    | some (st', h') => mj_ex E df go call bi is loc st' h'
    | none => none) = _
  rw [mz_iast hg_69 (by omega) (by omega), show vp_nar (mj_ty 0) (zI y) = zI y from rfl, mz_upd h0.1]
  rfl
theorem mz_len69 : mj_ex E df go call bi ((.arraylength, x, v) :: is) loc (.ref 69 :: r) (mj_HN G ro tl) = mj_ex E df go call bi is loc (.int (zI 8) :: r) (mj_HN G ro tl) := id rfl
theorem hg_70 : (mj_HN G ro tl)[70]? = some (.inl (0, 49, .inl (fun j : Nat => zI (G 70 j)))) := rfl
theorem mz_ld70 {i : Int} (h0 : 0 ≤ i ∧ i < 49) : mj_ex E df go call bi ((.iaload, x, v) :: is) loc (.int (zI i) :: .ref 70 :: r) (mj_HN G ro tl) = mj_ex E df go call bi is loc (.int (zI (G 70 i)) :: r) (mj_HN G ro tl) := by
  show (match mj_ald E 0 (.int (zI i) :: .ref 70 :: r) (mj_HN G ro tl) with
    | some st' => mj_ex E df go call bi is loc st' (mj_HN G ro tl)
    | none => none) = _
  rw [mz_iald hg_70 (by omega) (by omega)]
  show mj_ex E df go call bi is loc (.int (zI (G 70 ((i.toNat : Nat) : Int))) :: r) (mj_HN G ro tl) = _
  rw [Int.toNat_of_nonneg h0.1]
theorem mz_st70 {i y : Int} (h0 : 0 ≤ i ∧ i < 49) : mj_ex E df go call bi ((.iastore, x, v) :: is) loc (.int (zI y) :: .int (zI i) :: .ref 70 :: r) (mj_HN G ro tl) = mj_ex E df go call bi is loc r (mj_HN (gs G 70 i y) ro tl) := by
  show (match mj_ast 0 (.int (zI y) :: .int (zI i) :: .ref 70 :: r) (mj_HN G ro tl) with
    | some (st', h') => mj_ex E df go call bi is loc st' h'
    | none => none) = _
  rw [mz_iast hg_70 (by omega) (by omega), show vp_nar (mj_ty 0) (zI y) = zI y from rfl, mz_upd h0.1]
  rfl
theorem mz_len70 : mj_ex E df go call bi ((.arraylength, x, v) :: is) loc (.ref 70 :: r) (mj_HN G ro tl) = mj_ex E df go call bi is loc (.int (zI 49) :: r) (mj_HN G ro tl) := id rfl
theorem hg_71 : (mj_HN G ro tl)[71]? = some (.inl (0, 144, .inl (fun j : Nat => zI (G 71 j)))) := rfl
theorem mz_ld71 {i : Int} (h0 : 0 ≤ i ∧ i < 144) : mj_ex E df go call bi ((.iaload, x, v) :: is) loc (.int (zI i) :: .ref 71 :: r) (mj_HN G ro tl) = mj_ex E df go call bi is loc (.int (zI (G 71 i)) :: r) (mj_HN G ro tl) := by
  show (match mj_ald E 0 (.int (zI i) :: .ref 71 :: r) (mj_HN G ro tl) with
    | some st' => mj_ex E df go call bi is loc st' (mj_HN G ro tl)
    | none => none) = _
  rw [mz_iald hg_71 (by omega) (by omega)]
  show mj_ex E df go call bi is loc (.int (zI (G 71 ((i.toNat : Nat) : Int))) :: r) (mj_HN G ro tl) = _
  rw [Int.toNat_of_nonneg h0.1]
theorem mz_st71 {i y : Int} (h0 : 0 ≤ i ∧ i < 144) : mj_ex E df go call bi ((.iastore, x, v) :: is) loc (.int (zI y) :: .int (zI i) :: .ref 71 :: r) (mj_HN G ro tl) = mj_ex E df go call bi is loc r (mj_HN (gs G 71 i y) ro tl) := by
  show (match mj_ast 0 (.int (zI y) :: .int (zI i) :: .ref 71 :: r) (mj_HN G ro tl) with
    | some (st', h') => mj_ex E df go call bi is loc st' h'
    | none => none) = _
  rw [mz_iast hg_71 (by omega) (by omega), show vp_nar (mj_ty 0) (zI y) = zI y from rfl, mz_upd h0.1]
  rfl
theorem mz_len71 : mj_ex E df go call bi ((.arraylength, x, v) :: is) loc (.ref 71 :: r) (mj_HN G ro tl) = mj_ex E df go call bi is loc (.int (zI 144) :: r) (mj_HN G ro tl) := id rfl
theorem hg_72 : (mj_HN G ro tl)[72]? = some (.inl (0, 8, .inl (fun j : Nat => zI (G 72 j)))) := rfl
theorem mz_ld72 {i : Int} (h0 : 0 ≤ i ∧ i < 8) : mj_ex E df go call bi ((.iaload, x, v) :: is) loc (.int (zI i) :: .ref 72 :: r) (mj_HN G ro tl) = mj_ex E df go call bi is loc (.int (zI (G 72 i)) :: r) (mj_HN G ro tl) := by
  show (match mj_ald E 0 (.int (zI i) :: .ref 72 :: r) (mj_HN G ro tl) with
    | some st' => mj_ex E df go call bi is loc st' (mj_HN G ro tl)
    | none => none) = _
  rw [mz_iald hg_72 (by omega) (by omega)]
  show mj_ex E df go call bi is loc (.int (zI (G 72 ((i.toNat : Nat) : Int))) :: r) (mj_HN G ro tl) = _
  rw [Int.toNat_of_nonneg h0.1]
theorem mz_st72 {i y : Int} (h0 : 0 ≤ i ∧ i < 8) : mj_ex E df go call bi ((.iastore, x, v) :: is) loc (.int (zI y) :: .int (zI i) :: .ref 72 :: r) (mj_HN G ro tl) = mj_ex E df go call bi is loc r (mj_HN (gs G 72 i y) ro tl) := by
  show (match mj_ast 0 (.int (zI y) :: .int (zI i) :: .ref 72 :: r) (mj_HN G ro tl) with
    | some (st', h') => mj_ex E df go call bi is loc st' h'
    | none => none) = _
  rw [mz_iast hg_72 (by omega) (by omega), show vp_nar (mj_ty 0) (zI y) = zI y from rfl, mz_upd h0.1]
  rfl
theorem mz_len72 : mj_ex E df go call bi ((.arraylength, x, v) :: is) loc (.ref 72 :: r) (mj_HN G ro tl) = mj_ex E df go call bi is loc (.int (zI 8) :: r) (mj_HN G ro tl) := id rfl
theorem hg_73 : (mj_HN G ro tl)[73]? = some (.inl (0, 9, .inl (fun j : Nat => zI (G 73 j)))) := rfl
theorem mz_ld73 {i : Int} (h0 : 0 ≤ i ∧ i < 9) : mj_ex E df go call bi ((.iaload, x, v) :: is) loc (.int (zI i) :: .ref 73 :: r) (mj_HN G ro tl) = mj_ex E df go call bi is loc (.int (zI (G 73 i)) :: r) (mj_HN G ro tl) := by
  show (match mj_ald E 0 (.int (zI i) :: .ref 73 :: r) (mj_HN G ro tl) with
    | some st' => mj_ex E df go call bi is loc st' (mj_HN G ro tl)
    | none => none) = _
  rw [mz_iald hg_73 (by omega) (by omega)]
  show mj_ex E df go call bi is loc (.int (zI (G 73 ((i.toNat : Nat) : Int))) :: r) (mj_HN G ro tl) = _
  rw [Int.toNat_of_nonneg h0.1]
theorem mz_st73 {i y : Int} (h0 : 0 ≤ i ∧ i < 9) : mj_ex E df go call bi ((.iastore, x, v) :: is) loc (.int (zI y) :: .int (zI i) :: .ref 73 :: r) (mj_HN G ro tl) = mj_ex E df go call bi is loc r (mj_HN (gs G 73 i y) ro tl) := by
  show (match mj_ast 0 (.int (zI y) :: .int (zI i) :: .ref 73 :: r) (mj_HN G ro tl) with
    | some (st', h') => mj_ex E df go call bi is loc st' h'
    | none => none) = _
  rw [mz_iast hg_73 (by omega) (by omega), show vp_nar (mj_ty 0) (zI y) = zI y from rfl, mz_upd h0.1]
  rfl
theorem mz_len73 : mj_ex E df go call bi ((.arraylength, x, v) :: is) loc (.ref 73 :: r) (mj_HN G ro tl) = mj_ex E df go call bi is loc (.int (zI 9) :: r) (mj_HN G ro tl) := id rfl
theorem hg_74 : (mj_HN G ro tl)[74]? = some (.inl (0, 3969, .inl (fun j : Nat => zI (G 74 j)))) := rfl
theorem mz_ld74 {i : Int} (h0 : 0 ≤ i ∧ i < 3969) : mj_ex E df go call bi ((.iaload, x, v) :: is) loc (.int (zI i) :: .ref 74 :: r) (mj_HN G ro tl) = mj_ex E df go call bi is loc (.int (zI (G 74 i)) :: r) (mj_HN G ro tl) := by
  show (match mj_ald E 0 (.int (zI i) :: .ref 74 :: r) (mj_HN G ro tl) with
    | some st' => mj_ex E df go call bi is loc st' (mj_HN G ro tl)
    | none => none) = _
  rw [mz_iald hg_74 (by omega) (by omega)]
  show mj_ex E df go call bi is loc (.int (zI (G 74 ((i.toNat : Nat) : Int))) :: r) (mj_HN G ro tl) = _
  rw [Int.toNat_of_nonneg h0.1]
theorem mz_st74 {i y : Int} (h0 : 0 ≤ i ∧ i < 3969) : mj_ex E df go call bi ((.iastore, x, v) :: is) loc (.int (zI y) :: .int (zI i) :: .ref 74 :: r) (mj_HN G ro tl) = mj_ex E df go call bi is loc r (mj_HN (gs G 74 i y) ro tl) := by
  show (match mj_ast 0 (.int (zI y) :: .int (zI i) :: .ref 74 :: r) (mj_HN G ro tl) with
    | some (st', h') => mj_ex E df go call bi is loc st' h'
    | none => none) = _
  rw [mz_iast hg_74 (by omega) (by omega), show vp_nar (mj_ty 0) (zI y) = zI y from rfl, mz_upd h0.1]
  rfl
theorem mz_len74 : mj_ex E df go call bi ((.arraylength, x, v) :: is) loc (.ref 74 :: r) (mj_HN G ro tl) = mj_ex E df go call bi is loc (.int (zI 3969) :: r) (mj_HN G ro tl) := id rfl
theorem hg_75 : (mj_HN G ro tl)[75]? = some (.inl (3, 9, .inr (.inl (fun j : Nat => lI (G 75 j))))) := rfl
theorem mz_ld75 {i : Int} (h0 : 0 ≤ i ∧ i < 9) : mj_ex E df go call bi ((.laload, x, v) :: is) loc (.int (zI i) :: .ref 75 :: r) (mj_HN G ro tl) = mj_ex E df go call bi is loc (.long (lI (G 75 i)) :: r) (mj_HN G ro tl) := by
  show (match mj_lald (.int (zI i) :: .ref 75 :: r) (mj_HN G ro tl) with
    | some st' => mj_ex E df go call bi is loc st' (mj_HN G ro tl)
    | none => none) = _
  rw [mz_lald hg_75 (by omega) (by omega)]
  show mj_ex E df go call bi is loc (.long (lI (G 75 ((i.toNat : Nat) : Int))) :: r) (mj_HN G ro tl) = _
  rw [Int.toNat_of_nonneg h0.1]
theorem mz_st75 {i y : Int} (h0 : 0 ≤ i ∧ i < 9) : mj_ex E df go call bi ((.lastore, x, v) :: is) loc (.long (lI y) :: .int (zI i) :: .ref 75 :: r) (mj_HN G ro tl) = mj_ex E df go call bi is loc r (mj_HN (gs G 75 i y) ro tl) := by
  show (match mj_last (.long (lI y) :: .int (zI i) :: .ref 75 :: r) (mj_HN G ro tl) with
    | some (st', h') => mj_ex E df go call bi is loc st' h'
    | none => none) = _
  rw [mz_last hg_75 (by omega) (by omega), mz_updL h0.1]
  rfl
theorem mz_len75 : mj_ex E df go call bi ((.arraylength, x, v) :: is) loc (.ref 75 :: r) (mj_HN G ro tl) = mj_ex E df go call bi is loc (.int (zI 9) :: r) (mj_HN G ro tl) := id rfl
end MZ
