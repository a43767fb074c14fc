/-! the library's members that are taken as one step: greater and lesser of two, the clone of a row, the copy of a stretch -/

theorem mj_j_max : Jvm.Cond.static Lib.Math.max.name ∈ mj_Ts ∧ Jvm.Cond.code Lib.Math.max.name Lib.Math.max.code 2 (some .int) ∈ mj_Ts := ⟨mj_mem 2 110 rfl rfl, mj_mem 2 111 rfl rfl⟩
theorem mj_j_min : Jvm.Cond.static Lib.Math.min.name ∈ mj_Ts ∧ Jvm.Cond.code Lib.Math.min.name Lib.Math.min.code 2 (some .int) ∈ mj_Ts := ⟨mj_mem 2 107 rfl rfl, mj_mem 2 108 rfl rfl⟩
theorem mj_j_maxL : Jvm.Cond.static Lib.MathLoose.max_long.x ∈ mj_Ts ∧ Jvm.Cond.code Lib.MathLoose.max_long.x Lib.MathLoose.max_long.code 4 (some .long) ∈ mj_Ts := ⟨mj_mem 4 44 rfl rfl, mj_mem 4 45 rfl rfl⟩
theorem mj_j_minL : Jvm.Cond.static Lib.MathLoose.min_long.x ∈ mj_Ts ∧ Jvm.Cond.code Lib.MathLoose.min_long.x Lib.MathLoose.min_long.code 4 (some .long) ∈ mj_Ts := ⟨mj_mem 4 41 rfl rfl, mj_mem 4 42 rfl rfl⟩
theorem mj_j_math : Jvm.Cond.initialized "java/lang/Math" ∈ mj_Ts := mj_mem 1 13 rfl rfl
theorem mj_j_sys : Jvm.Cond.initialized "java/lang/System" ∈ mj_Ts ∧ Jvm.Cond.native arraycopyName ∈ mj_Ts ∧ Jvm.Cond.static arraycopyName ∈ mj_Ts := ⟨mj_mem 1 20 rfl rfl, mj_mem 3 125 rfl rfl, mj_mem 3 124 rfl rfl⟩
theorem mj_j_clone : Jvm.Cond.sameMethod "[I" "java/lang/Object" "clone" "()Ljava/lang/Object;" ∈ mj_Ts ∧ Jvm.Cond.native ⟨"java/lang/Object", "clone", "()Ljava/lang/Object;"⟩ ∈ mj_Ts ∧ Jvm.Cond.instanceMethod ⟨"java/lang/Object", "clone", "()Ljava/lang/Object;"⟩ ∈ mj_Ts ∧ Jvm.Cond.selects "[I" ⟨"[I", "clone", "()Ljava/lang/Object;"⟩ ⟨"java/lang/Object", "clone", "()Ljava/lang/Object;"⟩ ∈ mj_Ts := ⟨mj_mem 3 116 rfl rfl, mj_mem 3 117 rfl rfl, mj_mem 3 118 rfl rfl, mj_mem 3 119 rfl rfl⟩
theorem mj_K2 {D : va_G} {cl : List vw_C} {U : State} {c0 c1 : ClassId} {ty : FieldType} (hK : va_K D cl [] U) (h1 : ArrOfT U c0 ty) (h2 : va_RA U c0 ty) (h3 : ArrOfT U c1 ty) (h4 : va_RA U c1 ty) : va_K D cl [(c0, ty), (c1, ty)] U := (mj_K1 hK h1 h2).app (mj_K1 hK h3 h4)
set_option maxHeartbeats 1000000 in
theorem mj_BI_ok (l : Launch) (D : va_G) (X : Nat → Option Nat) (E : mj_E) : mj_BI l D X E mj_bi := by
  intro p e R s m args below meth c Q A as0 n0 z0 cc own nL d ini C b k av h r1 h1 hbi hb6 hlk
  obtain ⟨hx, hb, hml, hown, hts, hK, hX, hZ, hA, hini, hfr, hlo, hE1⟩ := C
  have hl0 := hts _ hlk
  have hR1 : 1 ≤ R.frames := by omega
  have sum8 : ∀ {as : List Nat} {r0 s2 : List Value}, mj_le4 r0 = true → mj_SR as X r0 s2 → (s2.map fun v => v.category).sum ≤ 8 := fun a b => mj_le4_len a b
  match b, hb6 with
  | 0, _ =>
    obtain ⟨x, y, rfl, hr⟩ : ∃ x y : Int32, av = [.int x, .int y] ∧ mj_bi 0 [.int x, .int y] h = some (r1, h1) := by
      simp only [mj_bi] at hbi
      split at hbi
      · exact ⟨_, _, rfl, hbi⟩
      · cases hbi
    cases hr
    refine ⟨Nat.le_refl _, Nat.le_refl _, fun pc loc r0 hll hdg h4 hroom K => ?_⟩
    intro hn hz as ls sw ws H locs ha hl hs hh hP hD hS
    obtain ⟨s1, rfl, hs1⟩ := mj_SR_int hs
    obtain ⟨s2, rfl, hs2⟩ := mj_SR_int hs1
    have h8 := sum8 h4 hs2
    exact va_mmax hx hb (by rw [hml, ← hl.1, hll]) hown hl0 (hts _ mj_j_max.1) (hts _ mj_j_math) (hts _ mj_j_max.2) hR1 (by omega) hroom.1 hroom.2 hdg (K hn hz as ls _ ws H locs ha hl (mj_SR_put rfl hs2) hh hP hD hS)
  | 1, _ =>
    obtain ⟨x, y, rfl, hr⟩ : ∃ x y : Int32, av = [.int x, .int y] ∧ mj_bi 1 [.int x, .int y] h = some (r1, h1) := by
      simp only [mj_bi] at hbi
      split at hbi
      · exact ⟨_, _, rfl, hbi⟩
      · cases hbi
    cases hr
    refine ⟨Nat.le_refl _, Nat.le_refl _, fun pc loc r0 hll hdg h4 hroom K => ?_⟩
    intro hn hz as ls sw ws H locs ha hl hs hh hP hD hS
    obtain ⟨s1, rfl, hs1⟩ := mj_SR_int hs
    obtain ⟨s2, rfl, hs2⟩ := mj_SR_int hs1
    have h8 := sum8 h4 hs2
    exact va_mmin hx hb (by rw [hml, ← hl.1, hll]) hown hl0 (hts _ mj_j_min.1) (hts _ mj_j_math) (hts _ mj_j_min.2) hR1 (by omega) hroom.1 hroom.2 hdg (K hn hz as ls _ ws H locs ha hl (mj_SR_put rfl hs2) hh hP hD hS)
  | 2, _ =>
    obtain ⟨x, y, rfl, hr⟩ : ∃ x y : Int64, av = [.long x, .long y] ∧ mj_bi 2 [.long x, .long y] h = some (r1, h1) := by
      simp only [mj_bi] at hbi
      split at hbi
      · exact ⟨_, _, rfl, hbi⟩
      · cases hbi
    cases hr
    refine ⟨Nat.le_refl _, Nat.le_refl _, fun pc loc r0 hll hdg h4 hroom K => ?_⟩
    intro hn hz as ls sw ws H locs ha hl hs hh hP hD hS
    obtain ⟨s1, rfl, hs1⟩ := mj_SR_long hs
    obtain ⟨s2, rfl, hs2⟩ := mj_SR_long hs1
    have h8 := sum8 h4 hs2
    exact va_mmax_long hx hb (by rw [hml, ← hl.1, hll]) hown hl0 (hts _ mj_j_maxL.1) (hts _ mj_j_math) (hts _ mj_j_maxL.2) hR1 (by omega) hroom.1 hroom.2 hdg (K hn hz as ls _ ws H locs ha hl (mj_SR_put rfl hs2) hh hP hD hS)
  | 3, _ =>
    obtain ⟨x, y, rfl, hr⟩ : ∃ x y : Int64, av = [.long x, .long y] ∧ mj_bi 3 [.long x, .long y] h = some (r1, h1) := by
      simp only [mj_bi] at hbi
      split at hbi
      · exact ⟨_, _, rfl, hbi⟩
      · cases hbi
    cases hr
    refine ⟨Nat.le_refl _, Nat.le_refl _, fun pc loc r0 hll hdg h4 hroom K => ?_⟩
    intro hn hz as ls sw ws H locs ha hl hs hh hP hD hS
    obtain ⟨s1, rfl, hs1⟩ := mj_SR_long hs
    obtain ⟨s2, rfl, hs2⟩ := mj_SR_long hs1
    have h8 := sum8 h4 hs2
    exact va_mmin_long hx hb (by rw [hml, ← hl.1, hll]) hown hl0 (hts _ mj_j_minL.1) (hts _ mj_j_math) (hts _ mj_j_minL.2) hR1 (by omega) hroom.1 hroom.2 hdg (K hn hz as ls _ ws H locs ha hl (mj_SR_put rfl hs2) hh hP hD hS)
  | 4, _ =>
    obtain ⟨k0, n, f, rfl, hc, rfl, rfl⟩ : ∃ k0 n f, av = [.ref k0] ∧ h[k0]? = some (.inl (0, n, .inl f)) ∧ r1 = some (.ref h.length) ∧ h1 = h ++ [.inl (0, n, .inl f)] := by
      simp only [mj_bi] at hbi
      split at hbi
      · split at hbi
        · rename_i n f hc
          cases hbi
          exact ⟨_, _, _, rfl, hc, rfl, rfl⟩
        · cases hbi
      · cases hbi
    obtain ⟨e1, e2⟩ := mj_siz_le h (.inl (0, n, .inl f))
    refine ⟨e1, e2, fun pc loc r0 hll hdg h4 hroom K => ?_⟩
    intro hn hz as ls sw ws H locs ha hl hs hh hP hD hS
    obtain ⟨a, s2, rfl, hq, hs2⟩ := mj_SR_ref hs
    obtain ⟨e3, hw, hcr⟩ := mj_HR_at hh hc hq
    obtain ⟨cA, bb, rfl, har, ht1, ht2⟩ := mj_CR_arr hcr
    rw [mj_AR_i har] at hw
    have h8 := sum8 h4 hs2
    have hr1 := hroom.1
    have hr2 := hroom.2
    rw [List.length_append] at hr1
    rw [mj_siz_app] at hr2
    have hr2 : mj_siz h + n - z0 ≤ R.slots := hr2
    have hr1 : h.length + 1 - n0 ≤ R.cells := hr1
    refine va_clone (ty := .int) hx hb (by rw [hml, ← hl.1, hll]) hown hl0 (hts _ mj_j_clone.1) (hts _ mj_j_clone.2.1) (hts _ mj_j_clone.2.2.1) (hts _ mj_j_clone.2.2.2) hZ.2.2.2.2 (mj_K1 hK ht1 ht2) hP hD hS hA k0 0 hw rfl ht2 (fun i v hv => ?_) hR1 (by omega) (by omega) (by show mj_siz h - z0 + n ≤ _; omega) hdg (fun q H1 hK1 hP1 hD1 hS1 => ?_)
    · have hlt : i < n := by
        have := (Array.getElem?_eq_some_iff.mp hv).1
        rw [vp_cell_i, arrV_size] at this
        exact this
      rw [vp_cell_i, arrV_read _ _ hlt] at hv
      cases hv
      rfl
    · have hpre : as <+: as ++ [q] := List.prefix_append as [q]
      exact mj_W_more rfl rfl K hn hz (as ++ [q]) ls _ _ H1 locs (ha.trans hpre) (mj_LR_mono hpre hl) (mj_SR_put (mj_mv_last hh) (mj_SR_mono hpre hs2)) (mj_HR_app hh (by exact mj_CR_mk rfl rfl ht1 ht2)) hP1 hD1 hS1
  | 5, _ =>
    obtain ⟨k0, sp, k1, dp, n, m0, m1, f, g, rfl, hc0, hc1, ⟨q1, q2, q3, q4, q5⟩, rfl, rfl⟩ : ∃ k0 sp k1 dp n m0 m1 f g, av = [.ref k0, .int sp, .ref k1, .int dp, .int n] ∧ h[k0]? = some (.inl (0, m0, .inl f)) ∧ h[k1]? = some (.inl (0, m1, .inl g)) ∧ (0 ≤ sp.toInt ∧ 0 ≤ dp.toInt ∧ 0 ≤ n.toInt ∧ sp.toInt + n.toInt ≤ m0 ∧ dp.toInt + n.toInt ≤ m1) ∧ r1 = none ∧ h1 = h.set k1 (.inl (0, m1, .inl (va_cpy f g sp.toNatClampNeg dp.toNatClampNeg n.toNatClampNeg))) := by
      simp only [mj_bi] at hbi
      split at hbi
      · split at hbi
        · split at hbi
          · cases hbi
            exact ⟨_, _, _, _, _, _, _, _, _, rfl, by assumption, by assumption, by assumption, rfl, rfl⟩
          · cases hbi
        · cases hbi
      · cases hbi
    have z0 := mj_siz_set (h := h) (c := .inl (0, m1, .inl (va_cpy f g sp.toNatClampNeg dp.toNatClampNeg n.toNatClampNeg))) hc1 rfl
    refine ⟨by simp, Nat.le_of_eq z0.symm, fun pc loc r0 hll hdg h4 hroom K => ?_⟩
    intro hn hz as ls sw ws H locs ha hl hs hh hP hD hS
    obtain ⟨s1, rfl, hs1⟩ := mj_SR_int hs
    obtain ⟨s2, rfl, hs2⟩ := mj_SR_int hs1
    obtain ⟨a1, s3, rfl, hq1, hs3⟩ := mj_SR_ref hs2
    obtain ⟨s4, rfl, hs4⟩ := mj_SR_int hs3
    obtain ⟨a0, s5, rfl, hq0, hs5⟩ := mj_SR_ref hs4
    obtain ⟨e0, hw0, hcr0⟩ := mj_HR_at hh hc0 hq0
    obtain ⟨cA0, b0, rfl, har0, ht01, ht02⟩ := mj_CR_arr hcr0
    rw [mj_AR_i har0] at hw0
    obtain ⟨e1, hw1, hcr1⟩ := mj_HR_at hh hc1 hq1
    obtain ⟨cA1, b1, rfl, har1, ht11, ht12⟩ := mj_CR_arr hcr1
    rw [mj_AR_i har1] at hw1
    have h8 := sum8 h4 hs5
    have neg : ∀ {z : Int32}, 0 ≤ z.toInt → ¬ z < 0 ∧ (z.toNatClampNeg : Int) = z.toInt := by
      intro z hz
      refine ⟨fun q => ?_, ?_⟩
      · have := Int32.lt_iff_toInt_lt.mp q
        rw [Int32.toInt_zero] at this
        omega
      · have : (z.toNatClampNeg : Int) = z.toInt.toNat := rfl
        omega
    obtain ⟨g1, g2⟩ := neg q1
    obtain ⟨g3, g4⟩ := neg q2
    obtain ⟨g5, g6⟩ := neg q3
    have hnf : nativeFrameWords "java/lang/System" "arraycopy" 5 + 11 ≤ 40 := by decide +kernel
    have hlw : (s5.map fun v => v.category).sum + (nativeFrameWords "java/lang/System" "arraycopy" 5 + 11) ≤ R.locals := by omega
    exact va_copyi hx hb (by rw [hml, ← hl.1, hll]) hown hl0 (hts _ mj_j_sys.2.1) (hts _ mj_j_sys.2.2) (hts _ mj_j_sys.1) (mj_K2 hK ht01 ht02 ht11 ht12) hP hD hS k0 k1 0 1 hw0 hw1 rfl rfl rfl g1 g3 g5 (by omega) (by omega) (fun _ _ => rfl) hR1 hlw hdg (fun H1 locs1 hP1 hD1 hS1 => mj_W_same (by simp) (by exact z0) K hn hz as ls _ _ H1 locs1 ha hl hs5 (mj_HR_set hh hw1 (by exact mj_CR_mk rfl rfl ht11 ht12)) hP1 hD1 hS1)
  | b + 6, hb6 => omega
