/-! branches that keep what was asked -/
section MD
variable {E : mj_E} {df : Nat → List Value} {go : Nat → mj_L → List Value → mj_H → mj_R} {call bi : Nat → List Value → mj_H → mj_R} {is : List mj_I} {loc : mj_L} {r : List Value} {h : mj_H} {x : List Nat} {v : Value}
theorem md_ic_eq {k : Int} {bt bf : Nat} {a b : Int} (h0 : -2147483648 ≤ a ∧ a ≤ 2147483647 ∧ -2147483648 ≤ b ∧ b ≤ 2147483647) : mj_ex E df go call bi ((.if_icmp .eq k, [bt, bf], v) :: is) loc (.int (zI b) :: .int (zI a) :: r) h = dite (a = b) (fun _ => go bt loc r h) (fun _ => go bf loc r h) := mo_ic_eq h0
theorem md_if_eq {k : Int} {bt bf : Nat} {a : Int} (h0 : -2147483648 ≤ a ∧ a ≤ 2147483647) : mj_ex E df go call bi ((.ifCond .eq k, [bt, bf], v) :: is) loc (.int (zI a) :: r) h = dite (a = 0) (fun _ => go bt loc r h) (fun _ => go bf loc r h) := mo_if_eq h0
theorem md_ic_ne {k : Int} {bt bf : Nat} {a b : Int} (h0 : -2147483648 ≤ a ∧ a ≤ 2147483647 ∧ -2147483648 ≤ b ∧ b ≤ 2147483647) : mj_ex E df go call bi ((.if_icmp .ne k, [bt, bf], v) :: is) loc (.int (zI b) :: .int (zI a) :: r) h = dite (a = b) (fun _ => go bf loc r h) (fun _ => go bt loc r h) := by
  rw [mo_ic_ne h0]
  by_cases q : a = b
  · rw [dif_pos q, if_neg (by omega)]
  · rw [dif_neg q, if_pos q]
theorem md_if_ne {k : Int} {bt bf : Nat} {a : Int} (h0 : -2147483648 ≤ a ∧ a ≤ 2147483647) : mj_ex E df go call bi ((.ifCond .ne k, [bt, bf], v) :: is) loc (.int (zI a) :: r) h = dite (a = 0) (fun _ => go bf loc r h) (fun _ => go bt loc r h) := by
  rw [mo_if_ne h0]
  by_cases q : a = 0
  · rw [dif_pos q, if_neg (by omega)]
  · rw [dif_neg q, if_pos q]
theorem md_ic_lt {k : Int} {bt bf : Nat} {a b : Int} (h0 : -2147483648 ≤ a ∧ a ≤ 2147483647 ∧ -2147483648 ≤ b ∧ b ≤ 2147483647) : mj_ex E df go call bi ((.if_icmp .lt k, [bt, bf], v) :: is) loc (.int (zI b) :: .int (zI a) :: r) h = dite (a < b) (fun _ => go bt loc r h) (fun _ => go bf loc r h) := mo_ic_lt h0
theorem md_if_lt {k : Int} {bt bf : Nat} {a : Int} (h0 : -2147483648 ≤ a ∧ a ≤ 2147483647) : mj_ex E df go call bi ((.ifCond .lt k, [bt, bf], v) :: is) loc (.int (zI a) :: r) h = dite (a < 0) (fun _ => go bt loc r h) (fun _ => go bf loc r h) := mo_if_lt h0
theorem md_ic_ge {k : Int} {bt bf : Nat} {a b : Int} (h0 : -2147483648 ≤ a ∧ a ≤ 2147483647 ∧ -2147483648 ≤ b ∧ b ≤ 2147483647) : mj_ex E df go call bi ((.if_icmp .ge k, [bt, bf], v) :: is) loc (.int (zI b) :: .int (zI a) :: r) h = dite (b ≤ a) (fun _ => go bt loc r h) (fun _ => go bf loc r h) := mo_ic_ge h0
theorem md_if_ge {k : Int} {bt bf : Nat} {a : Int} (h0 : -2147483648 ≤ a ∧ a ≤ 2147483647) : mj_ex E df go call bi ((.ifCond .ge k, [bt, bf], v) :: is) loc (.int (zI a) :: r) h = dite (0 ≤ a) (fun _ => go bt loc r h) (fun _ => go bf loc r h) := mo_if_ge h0
theorem md_ic_gt {k : Int} {bt bf : Nat} {a b : Int} (h0 : -2147483648 ≤ a ∧ a ≤ 2147483647 ∧ -2147483648 ≤ b ∧ b ≤ 2147483647) : mj_ex E df go call bi ((.if_icmp .gt k, [bt, bf], v) :: is) loc (.int (zI b) :: .int (zI a) :: r) h = dite (b < a) (fun _ => go bt loc r h) (fun _ => go bf loc r h) := mo_ic_gt h0
theorem md_if_gt {k : Int} {bt bf : Nat} {a : Int} (h0 : -2147483648 ≤ a ∧ a ≤ 2147483647) : mj_ex E df go call bi ((.ifCond .gt k, [bt, bf], v) :: is) loc (.int (zI a) :: r) h = dite (0 < a) (fun _ => go bt loc r h) (fun _ => go bf loc r h) := mo_if_gt h0
theorem md_ic_le {k : Int} {bt bf : Nat} {a b : Int} (h0 : -2147483648 ≤ a ∧ a ≤ 2147483647 ∧ -2147483648 ≤ b ∧ b ≤ 2147483647) : mj_ex E df go call bi ((.if_icmp .le k, [bt, bf], v) :: is) loc (.int (zI b) :: .int (zI a) :: r) h = dite (a ≤ b) (fun _ => go bt loc r h) (fun _ => go bf loc r h) := mo_ic_le h0
theorem md_if_le {k : Int} {bt bf : Nat} {a : Int} (h0 : -2147483648 ≤ a ∧ a ≤ 2147483647) : mj_ex E df go call bi ((.ifCond .le k, [bt, bf], v) :: is) loc (.int (zI a) :: r) h = dite (a ≤ 0) (fun _ => go bt loc r h) (fun _ => go bf loc r h) := mo_if_le h0
end MD
theorem gr_comm {G : gT} {a b : Nat} {f g : Int → Int} (h : b < a) : gr (gr G a f) b g = gr (gr G b g) a f := by
  funext c j
  unfold gr
  by_cases h1 : c = b
  · rw [if_pos h1, if_neg (by omega), if_pos h1]
  · rw [if_neg h1, if_neg h1]
theorem up_up {v : Int → Int} {i x y : Int} : up (up v i x) i y = up v i y := by
  funext j
  unfold up
  split <;> rfl
theorem mq_i {x y : Int} {H K : mj_H} (h : x = y) (e : H = K) : (some (some (Value.int (zI x)), H) : mj_R) = some (some (.int (zI y)), K) := by rw [h, e]
theorem mq_l {x y : Int} {H K : mj_H} (h : x = y) (e : H = K) : (some (some (Value.long (lI x)), H) : mj_R) = some (some (.long (lI y)), K) := by rw [h, e]
theorem mq_n {H K : mj_H} (e : H = K) : (some (none, H) : mj_R) = some (none, K) := by rw [e]
