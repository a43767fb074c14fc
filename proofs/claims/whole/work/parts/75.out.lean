/-! the claim's start out of a run of the law in the small machine: what the Statement gives of the start, put in the small machine's words -/
def mj_given : List Jvm.Cond := flatC (Jvm.Cond.and given_1 narrow_1)
def mj_tm (i : Nat) : Term := match i with
  | 0 => .string "FarSide$Tape" 68
  | _ => .string "FarSide$Tape" 75
theorem mj_g_arr : Jvm.Cond.arrayOf (.static "FarSide$Ledger" "INVERSES" "[I") .int ∈ mj_given := List.mem_of_getElem? (i := 10) rfl
theorem mj_g_len : Jvm.Cond.eq (.length (.static "FarSide$Ledger" "INVERSES" "[I")) (.int 7) ∈ mj_given := List.mem_of_getElem? (i := 11) rfl
theorem mj_g_comp : Jvm.Cond.eq (.static "java/lang/String" "COMPACT_STRINGS" "Z") (.int 1) ∈ mj_given := List.mem_of_getElem? (i := 4) rfl
theorem mj_g_sio : Jvm.Cond.isRef (.static "jdk/internal/util/Preconditions" "SIOOBE_FORMATTER" "Ljava/util/function/BiFunction;") ∈ mj_given := List.mem_of_getElem? (i := 5) rfl
theorem mj_g_inv {j : Nat} (h : j < 7) : Jvm.Cond.eq (.elem (.static "FarSide$Ledger" "INVERSES" "[I") (.int (Int32.ofNat j))) (.int (mj_inv.getD j 0)) ∈ mj_given := by
  match j, h with
  | 0, _ => exact List.mem_of_getElem? (i := 12) rfl
  | 1, _ => exact List.mem_of_getElem? (i := 13) rfl
  | 2, _ => exact List.mem_of_getElem? (i := 14) rfl
  | 3, _ => exact List.mem_of_getElem? (i := 15) rfl
  | 4, _ => exact List.mem_of_getElem? (i := 16) rfl
  | 5, _ => exact List.mem_of_getElem? (i := 17) rfl
  | 6, _ => exact List.mem_of_getElem? (i := 18) rfl
  | j + 7, h => omega
theorem mj_g_ex {i : Nat} (h : i < 2) : Jvm.Cond.exactly (mj_tm i) "java/lang/String" ∈ mj_given := by
  match i, h with
  | 0, _ => exact List.mem_of_getElem? (i := 145) rfl
  | 1, _ => exact List.mem_of_getElem? (i := 19) rfl
  | i + 2, h => omega
theorem mj_g_co {i : Nat} (h : i < 2) : Jvm.Cond.eq (.field (mj_tm i) "java/lang/String" "coder" "B") (.int 0) ∈ mj_given := by
  match i, h with
  | 0, _ => exact List.mem_of_getElem? (i := 146) rfl
  | 1, _ => exact List.mem_of_getElem? (i := 20) rfl
  | i + 2, h => omega
theorem mj_g_ar {i : Nat} (h : i < 2) : Jvm.Cond.arrayOf (.field (mj_tm i) "java/lang/String" "value" "[B") .byte ∈ mj_given := by
  match i, h with
  | 0, _ => exact List.mem_of_getElem? (i := 147) rfl
  | 1, _ => exact List.mem_of_getElem? (i := 21) rfl
  | i + 2, h => omega
theorem mj_g_le {i : Nat} (h : i < 2) : Jvm.Cond.eq (.length (.field (mj_tm i) "java/lang/String" "value" "[B")) (.int (Int32.ofNat (mj_len.getD i 0))) ∈ mj_given := by
  match i, h with
  | 0, _ => exact List.mem_of_getElem? (i := 148) rfl
  | 1, _ => exact List.mem_of_getElem? (i := 22) rfl
  | i + 2, h => omega
theorem mj_g_el0 {j : Nat} (h : j < 11) : Jvm.Cond.eq (.elem (.field (mj_tm 0) "java/lang/String" "value" "[B") (.int (Int32.ofNat j))) (.int ((mj_byt.getD 0 []).getD j 0)) ∈ mj_given := by
  match j, h with
  | 0, _ => exact List.mem_of_getElem? (i := 149) rfl
  | 1, _ => exact List.mem_of_getElem? (i := 150) rfl
  | 2, _ => exact List.mem_of_getElem? (i := 151) rfl
  | 3, _ => exact List.mem_of_getElem? (i := 152) rfl
  | 4, _ => exact List.mem_of_getElem? (i := 153) rfl
  | 5, _ => exact List.mem_of_getElem? (i := 154) rfl
  | 6, _ => exact List.mem_of_getElem? (i := 155) rfl
  | 7, _ => exact List.mem_of_getElem? (i := 156) rfl
  | 8, _ => exact List.mem_of_getElem? (i := 157) rfl
  | 9, _ => exact List.mem_of_getElem? (i := 158) rfl
  | 10, _ => exact List.mem_of_getElem? (i := 159) rfl
  | j + 11, h => omega
theorem mj_g_el1 {j : Nat} (h : j < 122) : Jvm.Cond.eq (.elem (.field (mj_tm 1) "java/lang/String" "value" "[B") (.int (Int32.ofNat j))) (.int ((mj_byt.getD 1 []).getD j 0)) ∈ mj_given := by
  match j, h with
  | 0, _ => exact List.mem_of_getElem? (i := 23) rfl
  | 1, _ => exact List.mem_of_getElem? (i := 24) rfl
  | 2, _ => exact List.mem_of_getElem? (i := 25) rfl
  | 3, _ => exact List.mem_of_getElem? (i := 26) rfl
  | 4, _ => exact List.mem_of_getElem? (i := 27) rfl
  | 5, _ => exact List.mem_of_getElem? (i := 28) rfl
  | 6, _ => exact List.mem_of_getElem? (i := 29) rfl
  | 7, _ => exact List.mem_of_getElem? (i := 30) rfl
  | 8, _ => exact List.mem_of_getElem? (i := 31) rfl
  | 9, _ => exact List.mem_of_getElem? (i := 32) rfl
  | 10, _ => exact List.mem_of_getElem? (i := 33) rfl
  | 11, _ => exact List.mem_of_getElem? (i := 34) rfl
  | 12, _ => exact List.mem_of_getElem? (i := 35) rfl
  | 13, _ => exact List.mem_of_getElem? (i := 36) rfl
  | 14, _ => exact List.mem_of_getElem? (i := 37) rfl
  | 15, _ => exact List.mem_of_getElem? (i := 38) rfl
  | 16, _ => exact List.mem_of_getElem? (i := 39) rfl
  | 17, _ => exact List.mem_of_getElem? (i := 40) rfl
  | 18, _ => exact List.mem_of_getElem? (i := 41) rfl
  | 19, _ => exact List.mem_of_getElem? (i := 42) rfl
  | 20, _ => exact List.mem_of_getElem? (i := 43) rfl
  | 21, _ => exact List.mem_of_getElem? (i := 44) rfl
  | 22, _ => exact List.mem_of_getElem? (i := 45) rfl
  | 23, _ => exact List.mem_of_getElem? (i := 46) rfl
  | 24, _ => exact List.mem_of_getElem? (i := 47) rfl
  | 25, _ => exact List.mem_of_getElem? (i := 48) rfl
  | 26, _ => exact List.mem_of_getElem? (i := 49) rfl
  | 27, _ => exact List.mem_of_getElem? (i := 50) rfl
  | 28, _ => exact List.mem_of_getElem? (i := 51) rfl
  | 29, _ => exact List.mem_of_getElem? (i := 52) rfl
  | 30, _ => exact List.mem_of_getElem? (i := 53) rfl
  | 31, _ => exact List.mem_of_getElem? (i := 54) rfl
  | 32, _ => exact List.mem_of_getElem? (i := 55) rfl
  | 33, _ => exact List.mem_of_getElem? (i := 56) rfl
  | 34, _ => exact List.mem_of_getElem? (i := 57) rfl
  | 35, _ => exact List.mem_of_getElem? (i := 58) rfl
  | 36, _ => exact List.mem_of_getElem? (i := 59) rfl
  | 37, _ => exact List.mem_of_getElem? (i := 60) rfl
  | 38, _ => exact List.mem_of_getElem? (i := 61) rfl
  | 39, _ => exact List.mem_of_getElem? (i := 62) rfl
  | 40, _ => exact List.mem_of_getElem? (i := 63) rfl
  | 41, _ => exact List.mem_of_getElem? (i := 64) rfl
  | 42, _ => exact List.mem_of_getElem? (i := 65) rfl
  | 43, _ => exact List.mem_of_getElem? (i := 66) rfl
  | 44, _ => exact List.mem_of_getElem? (i := 67) rfl
  | 45, _ => exact List.mem_of_getElem? (i := 68) rfl
  | 46, _ => exact List.mem_of_getElem? (i := 69) rfl
  | 47, _ => exact List.mem_of_getElem? (i := 70) rfl
  | 48, _ => exact List.mem_of_getElem? (i := 71) rfl
  | 49, _ => exact List.mem_of_getElem? (i := 72) rfl
  | 50, _ => exact List.mem_of_getElem? (i := 73) rfl
  | 51, _ => exact List.mem_of_getElem? (i := 74) rfl
  | 52, _ => exact List.mem_of_getElem? (i := 75) rfl
  | 53, _ => exact List.mem_of_getElem? (i := 76) rfl
  | 54, _ => exact List.mem_of_getElem? (i := 77) rfl
  | 55, _ => exact List.mem_of_getElem? (i := 78) rfl
  | 56, _ => exact List.mem_of_getElem? (i := 79) rfl
  | 57, _ => exact List.mem_of_getElem? (i := 80) rfl
  | 58, _ => exact List.mem_of_getElem? (i := 81) rfl
  | 59, _ => exact List.mem_of_getElem? (i := 82) rfl
  | 60, _ => exact List.mem_of_getElem? (i := 83) rfl
  | 61, _ => exact List.mem_of_getElem? (i := 84) rfl
  | 62, _ => exact List.mem_of_getElem? (i := 85) rfl
  | 63, _ => exact List.mem_of_getElem? (i := 86) rfl
  | 64, _ => exact List.mem_of_getElem? (i := 87) rfl
  | 65, _ => exact List.mem_of_getElem? (i := 88) rfl
  | 66, _ => exact List.mem_of_getElem? (i := 89) rfl
  | 67, _ => exact List.mem_of_getElem? (i := 90) rfl
  | 68, _ => exact List.mem_of_getElem? (i := 91) rfl
  | 69, _ => exact List.mem_of_getElem? (i := 92) rfl
  | 70, _ => exact List.mem_of_getElem? (i := 93) rfl
  | 71, _ => exact List.mem_of_getElem? (i := 94) rfl
  | 72, _ => exact List.mem_of_getElem? (i := 95) rfl
  | 73, _ => exact List.mem_of_getElem? (i := 96) rfl
  | 74, _ => exact List.mem_of_getElem? (i := 97) rfl
  | 75, _ => exact List.mem_of_getElem? (i := 98) rfl
  | 76, _ => exact List.mem_of_getElem? (i := 99) rfl
  | 77, _ => exact List.mem_of_getElem? (i := 100) rfl
  | 78, _ => exact List.mem_of_getElem? (i := 101) rfl
  | 79, _ => exact List.mem_of_getElem? (i := 102) rfl
  | 80, _ => exact List.mem_of_getElem? (i := 103) rfl
  | 81, _ => exact List.mem_of_getElem? (i := 104) rfl
  | 82, _ => exact List.mem_of_getElem? (i := 105) rfl
  | 83, _ => exact List.mem_of_getElem? (i := 106) rfl
  | 84, _ => exact List.mem_of_getElem? (i := 107) rfl
  | 85, _ => exact List.mem_of_getElem? (i := 108) rfl
  | 86, _ => exact List.mem_of_getElem? (i := 109) rfl
  | 87, _ => exact List.mem_of_getElem? (i := 110) rfl
  | 88, _ => exact List.mem_of_getElem? (i := 111) rfl
  | 89, _ => exact List.mem_of_getElem? (i := 112) rfl
  | 90, _ => exact List.mem_of_getElem? (i := 113) rfl
  | 91, _ => exact List.mem_of_getElem? (i := 114) rfl
  | 92, _ => exact List.mem_of_getElem? (i := 115) rfl
  | 93, _ => exact List.mem_of_getElem? (i := 116) rfl
  | 94, _ => exact List.mem_of_getElem? (i := 117) rfl
  | 95, _ => exact List.mem_of_getElem? (i := 118) rfl
  | 96, _ => exact List.mem_of_getElem? (i := 119) rfl
  | 97, _ => exact List.mem_of_getElem? (i := 120) rfl
  | 98, _ => exact List.mem_of_getElem? (i := 121) rfl
  | 99, _ => exact List.mem_of_getElem? (i := 122) rfl
  | 100, _ => exact List.mem_of_getElem? (i := 123) rfl
  | 101, _ => exact List.mem_of_getElem? (i := 124) rfl
  | 102, _ => exact List.mem_of_getElem? (i := 125) rfl
  | 103, _ => exact List.mem_of_getElem? (i := 126) rfl
  | 104, _ => exact List.mem_of_getElem? (i := 127) rfl
  | 105, _ => exact List.mem_of_getElem? (i := 128) rfl
  | 106, _ => exact List.mem_of_getElem? (i := 129) rfl
  | 107, _ => exact List.mem_of_getElem? (i := 130) rfl
  | 108, _ => exact List.mem_of_getElem? (i := 131) rfl
  | 109, _ => exact List.mem_of_getElem? (i := 132) rfl
  | 110, _ => exact List.mem_of_getElem? (i := 133) rfl
  | 111, _ => exact List.mem_of_getElem? (i := 134) rfl
  | 112, _ => exact List.mem_of_getElem? (i := 135) rfl
  | 113, _ => exact List.mem_of_getElem? (i := 136) rfl
  | 114, _ => exact List.mem_of_getElem? (i := 137) rfl
  | 115, _ => exact List.mem_of_getElem? (i := 138) rfl
  | 116, _ => exact List.mem_of_getElem? (i := 139) rfl
  | 117, _ => exact List.mem_of_getElem? (i := 140) rfl
  | 118, _ => exact List.mem_of_getElem? (i := 141) rfl
  | 119, _ => exact List.mem_of_getElem? (i := 142) rfl
  | 120, _ => exact List.mem_of_getElem? (i := 143) rfl
  | 121, _ => exact List.mem_of_getElem? (i := 144) rfl
  | j + 122, h => omega
theorem mj_g_ne : Jvm.Cond.not (Jvm.Cond.eq (mj_tm 1) (mj_tm 0)) ∈ mj_given := List.mem_of_getElem? (i := 160) rfl
theorem mj_h_inv : Jvm.Cond.laysStatic "FarSide$Ledger" "INVERSES" "[I" ∈ lw_tbl ∧ Jvm.Cond.initialized "FarSide$Ledger" ∈ lw_tbl := ⟨mj_tb_in 5 (List.mem_of_getElem? (i := 180) rfl), mj_tb_in 1 (List.mem_of_getElem? (i := 7) rfl)⟩
theorem mj_h_comp : Jvm.Cond.laysStatic "java/lang/String" "COMPACT_STRINGS" "Z" ∈ lw_tbl ∧ Jvm.Cond.initialized "java/lang/String" ∈ lw_tbl := ⟨mj_tb_in 2 (List.mem_of_getElem? (i := 152) rfl), mj_tb_in 1 (List.mem_of_getElem? (i := 14) rfl)⟩
theorem mj_h_sio : Jvm.Cond.laysStatic "jdk/internal/util/Preconditions" "SIOOBE_FORMATTER" "Ljava/util/function/BiFunction;" ∈ lw_tbl ∧ Jvm.Cond.initialized "jdk/internal/util/Preconditions" ∈ lw_tbl := ⟨mj_tb_in 2 (List.mem_of_getElem? (i := 168) rfl), mj_tb_in 1 (List.mem_of_getElem? (i := 16) rfl)⟩
theorem mj_h_str : Jvm.Cond.stringRef "FarSide$Tape" 68 mj_t2 ∈ lw_tbl ∧ Jvm.Cond.stringRef "FarSide$Tape" 75 mj_t3 ∈ lw_tbl := ⟨mj_tb_in 2 (List.mem_of_getElem? (i := 206) rfl), mj_tb_in 2 (List.mem_of_getElem? (i := 142) rfl)⟩
theorem mj_h_cast : Jvm.Cond.castable "[I" "java/lang/Cloneable" ∈ lw_tbl := mj_tb_in 3 (List.mem_of_getElem? (i := 120) rfl)
theorem mj_Ts_in {w : Jvm.Cond} (h : w ∈ mj_Ts) : w ∈ lw_tbl := (List.mem_filter.mp h).1
theorem mj_XT {b L : Nat} {xs : Nat → Int32} {s : State} {A : Nat → Prop} (h : va_X b L xs s s.heap) (hA : ¬ A b) : va_T .int b L (fun j => .int (xs j)) A s s.heap := by
  obtain ⟨scr, h1, h2, h3, h4, h5⟩ := h
  exact ⟨scr, h1, h2, h3, by rw [h4]; exact Nat.le_refl _, by rw [h4], h5, hA⟩
def mj_X (b q1 k0 k1 v0 v1 z : Nat) : Nat → Option Nat := fun k => match k with
  | 0 => some b
  | 1 => some q1
  | 2 => some k0
  | 3 => some k1
  | 4 => some v0
  | 5 => some v1
  | 9 => some z
  | _ => none
set_option maxHeartbeats 2000000 in
/-- what lies outside, out of what the Statement gives -/
theorem mj_outside {s : State} {b L : Nat} {xs : Nat → Int32} (hts : ∀ w ∈ lw_tbl, w.before #[Value.ref b] s = true) (hX : va_X b L xs s s.heap) (hbl : b < s.heap.size) (hgv : (Jvm.Cond.and given_1 narrow_1).before #[Value.ref b] s = true) :
    ∃ X : Nat → Option Nat, X 0 = some b ∧ mj_XR s X (mj_EE L xs) (fun q => s.heap.size ≤ q) s.heap ∧ mj_ZR s X (fun q => s.heap.size ≤ q) s.heap := by
  have hs : ∀ w ∈ mj_given, w.before #[Value.ref b] s = true := flat_of_before _ hgv
  have hA : ∀ a : Nat, a < s.heap.size → ¬ (fun q : Nat => s.heap.size ≤ q) a := fun a h => Nat.not_le.mpr h
  obtain ⟨q1, i1, i2⟩ := va_Tof (tm := .static "FarSide$Ledger" "INVERSES" "[I") (ty := .int) (N := 7) (f := fun j => .int (mj_inv.getD j 0)) (A := fun q => s.heap.size ≤ q) (by decide) (hs _ mj_g_arr) (va_eqt (hs _ mj_g_len)) (fun j hj => va_eqt (hs _ (mj_g_inv hj))) hA
  obtain ⟨adK, adV, sS, sR⟩ := vk_Sof (N := 2) (tm := mj_tm) (len := mj_len) (byt := mj_byt) (A := fun q => s.heap.size ≤ q) (args := #[Value.ref b]) (s := s) (fun i hi => by match i, hi with
    | 0, _ => decide
    | 1, _ => decide
    | i + 2, hi => omega) (fun i hi => hs _ (mj_g_ex hi)) (fun i hi => hs _ (mj_g_co hi)) (fun i hi => hs _ (mj_g_ar hi)) (fun i hi => hs _ (mj_g_le hi)) (fun i hi j hj => by match i, hi, j, hj with
    | 0, _, j, hj => exact hs _ (mj_g_el0 hj)
    | 1, _, j, hj => exact hs _ (mj_g_el1 hj)
    | i + 2, hi, _, _ => omega) (fun i j hi hj hne => by match i, hi, j, hj, hne with
    | 0, _, 1, _, _ => first | exact Or.inl (hs _ mj_g_ne) | exact Or.inr (hs _ mj_g_ne)
    | 1, _, 0, _, _ => first | exact Or.inl (hs _ mj_g_ne) | exact Or.inr (hs _ mj_g_ne)
    | 0, _, 0, _, hne => exact absurd rfl hne
    | 1, _, 1, _, hne => exact absurd rfl hne
    | i + 2, hi, _, _, _ => omega
    | 0, _, j + 2, hj, _ => omega
    | 1, _, j + 2, hj, _ => omega) hA
  obtain ⟨z, hz⟩ : ∃ z : Nat, va_Z "jdk/internal/util/Preconditions" "SIOOBE_FORMATTER" "Ljava/util/function/BiFunction;" (mj_sx z) (fun q => s.heap.size ≤ q) s s.heap := by
    rcases va_Zqof (hts _ mj_h_sio.1) (hts _ mj_h_sio.2) (hs _ mj_g_sio) hA with h | ⟨t, h⟩
    · exact ⟨0, h⟩
    · exact ⟨t + 1, h⟩
  refine ⟨mj_X b q1 (adK 0) (adK 1) (adV 0) (adV 1) z, rfl, ?_, ⟨q1, rfl, va_Zof (hts _ mj_h_inv.1) (hts _ mj_h_inv.2) i1 hA⟩, ⟨adK, adV, rfl, rfl, rfl, rfl, vk_R.of (hts _ mj_h_str.1) (sR 0 (by decide)), vk_R.of (hts _ mj_h_str.2) (sR 1 (by decide)), sS⟩, va_Zof (hts _ mj_h_comp.1) (hts _ mj_h_comp.2) (va_eqt (hs _ mj_g_comp)) hA, ⟨z, rfl, hz⟩, va_Nw.of rfl (hts _ mj_h_cast)⟩
  intro k t n f hk
  match k, hk with
  | 0, hk =>
    cases hk
    exact ⟨b, rfl, mj_XT hX (hA b hbl)⟩
  | 1, hk =>
    cases hk
    exact ⟨q1, rfl, i2⟩
  | 2, hk => cases hk
  | 3, hk => cases hk
  | 4, hk =>
    cases hk
    exact ⟨adV 0, rfl, (sS.1 0 (by decide)).2.2.2⟩
  | 5, hk =>
    cases hk
    exact ⟨adV 1, rfl, (sS.1 1 (by decide)).2.2.2⟩
  | k + 6, hk => cases hk
/-- the classes' numbers and slots -/
theorem mj_known {s : State} {args : Array Value} (hts : ∀ w ∈ mj_Ts, w.before args s = true) : ∃ D : va_G, va_K D mj_cl [] s := by
  have hex : ∀ k : Nat, ∃ q : ClassId × (Nat → Nat), k < 13 → u_Kn s (mj_cc k).1 (mj_cc k).2.1 (mj_cc k).2.2 q.1 q.2 := by
    intro k
    by_cases hk : k < 13
    · obtain ⟨c, iS, h⟩ := u_known hts (mj_lay hk) (hts _ (mj_ins hk).1)
      exact ⟨(c, iS), fun _ => h⟩
    · exact ⟨(0, fun _ => 0), fun h => absurd h hk⟩
  obtain ⟨F, hF⟩ := Classical.axiomOfChoice hex
  refine ⟨(fun k => (F k).1, fun k => (F k).2), fun c q hq => ?_, fun k q hk => by simp at hk⟩
  have hlt : c < 13 := (List.getElem?_eq_some_iff.mp hq).1
  have h1 := hF c hlt
  rw [mj_cl_at hlt] at hq
  cases hq
  exact h1
theorem mj_EE1 (L : Nat) (xs : Nat → Int32) : ∀ k n f, mj_EE L xs k ≠ some (1, n, f) := by
  intro k n f h
  match k, h with
  | 0, h => cases h
  | 1, h => cases h
  | 2, h => cases h
  | 3, h => cases h
  | 4, h => cases h
  | 5, h => cases h
  | k + 6, h => cases h
