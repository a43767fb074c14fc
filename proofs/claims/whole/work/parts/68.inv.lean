theorem mj_lay0 : ∀ w ∈ u_ws (mj_cc 0).1 (mj_cc 0).2.1 (mj_cc 0).2.2, w ∈ mj_Ts := List.forall_mem_cons.mpr ⟨mj_mem 1 40 rfl rfl, List.forall_mem_cons.mpr ⟨mj_mem 1 42 rfl rfl, List.forall_mem_cons.mpr ⟨mj_mem 1 44 rfl rfl, fun _ h => absurd h List.not_mem_nil⟩⟩⟩
theorem mj_tyok0 : ∀ f, f < (mj_cc 0).2.2 → parseFieldDescriptor ((mj_cc 0).2.1 f).2.2.1 = some (mj_yt 0 f) := by
  show ∀ f, f < 3 → parseFieldDescriptor (mj_T0 f).2.2.1 = some (mj_y0 f)
  decide +kernel
theorem mj_nmok0 : ∀ a, a < (mj_cc 0).2.2 → ∀ b, b < (mj_cc 0).2.2 → a ≠ b → ((mj_cc 0).2.1 a).2.1 ≠ ((mj_cc 0).2.1 b).2.1 := by
  show ∀ a, a < 3 → ∀ b, b < 3 → a ≠ b → (mj_T0 a).2.1 ≠ (mj_T0 b).2.1
  decide +kernel
theorem mj_ins0 : Jvm.Cond.instantiable (mj_cc 0).1 (mj_cc 0).2.2 ∈ mj_Ts ∧ Jvm.Cond.initialized (mj_cc 0).1 ∈ mj_Ts := ⟨mj_mem 1 32 rfl rfl, mj_mem 1 2 rfl rfl⟩
theorem mj_dfok0 : (∀ j, j < (mj_cc 0).2.2 → defaultValue (mj_yt 0 j) = vp_V (mj_df 0) j) ∧ (mj_df 0).length = (mj_cc 0).2.2 ∧ (mj_fk 0).length = (mj_cc 0).2.2 ∧ ∀ (as : List Nat) (X : Nat → Option Nat), mj_SR as X (mj_df 0) (mj_df 0) := by
  refine ⟨?_, rfl, rfl, fun _ _ => rfl⟩
  show ∀ j, j < 3 → defaultValue (mj_y0 j) = vp_V (mj_df 0) j
  decide +kernel
theorem mj_fkok0 : ∀ f, f < (mj_cc 0).2.2 → (mj_fk 0)[f]? = some (((mj_cc 0).2.1 f).2.2.2, mj_kd (mj_yt 0 f)) ∧ ((mj_cc 0).2.1 f).1 = (mj_cc 0).1 := by
  show ∀ f, f < 3 → (mj_fk 0)[f]? = some ((mj_T0 f).2.2.2, mj_kd (mj_y0 f)) ∧ (mj_T0 f).1 = (mj_cc 0).1
  decide +kernel
theorem mj_lay1 : ∀ w ∈ u_ws (mj_cc 1).1 (mj_cc 1).2.1 (mj_cc 1).2.2, w ∈ mj_Ts := List.forall_mem_cons.mpr ⟨mj_mem 1 89 rfl rfl, List.forall_mem_cons.mpr ⟨mj_mem 1 91 rfl rfl, List.forall_mem_cons.mpr ⟨mj_mem 1 93 rfl rfl, fun _ h => absurd h List.not_mem_nil⟩⟩⟩
theorem mj_tyok1 : ∀ f, f < (mj_cc 1).2.2 → parseFieldDescriptor ((mj_cc 1).2.1 f).2.2.1 = some (mj_yt 1 f) := by
  show ∀ f, f < 3 → parseFieldDescriptor (mj_T1 f).2.2.1 = some (mj_y1 f)
  decide +kernel
theorem mj_nmok1 : ∀ a, a < (mj_cc 1).2.2 → ∀ b, b < (mj_cc 1).2.2 → a ≠ b → ((mj_cc 1).2.1 a).2.1 ≠ ((mj_cc 1).2.1 b).2.1 := by
  show ∀ a, a < 3 → ∀ b, b < 3 → a ≠ b → (mj_T1 a).2.1 ≠ (mj_T1 b).2.1
  decide +kernel
theorem mj_ins1 : Jvm.Cond.instantiable (mj_cc 1).1 (mj_cc 1).2.2 ∈ mj_Ts ∧ Jvm.Cond.initialized (mj_cc 1).1 ∈ mj_Ts := ⟨mj_mem 1 81 rfl rfl, mj_mem 1 6 rfl rfl⟩
theorem mj_dfok1 : (∀ j, j < (mj_cc 1).2.2 → defaultValue (mj_yt 1 j) = vp_V (mj_df 1) j) ∧ (mj_df 1).length = (mj_cc 1).2.2 ∧ (mj_fk 1).length = (mj_cc 1).2.2 ∧ ∀ (as : List Nat) (X : Nat → Option Nat), mj_SR as X (mj_df 1) (mj_df 1) := by
  refine ⟨?_, rfl, rfl, fun _ _ => rfl⟩
  show ∀ j, j < 3 → defaultValue (mj_y1 j) = vp_V (mj_df 1) j
  decide +kernel
theorem mj_fkok1 : ∀ f, f < (mj_cc 1).2.2 → (mj_fk 1)[f]? = some (((mj_cc 1).2.1 f).2.2.2, mj_kd (mj_yt 1 f)) ∧ ((mj_cc 1).2.1 f).1 = (mj_cc 1).1 := by
  show ∀ f, f < 3 → (mj_fk 1)[f]? = some ((mj_T1 f).2.2.2, mj_kd (mj_y1 f)) ∧ (mj_T1 f).1 = (mj_cc 1).1
  decide +kernel
theorem mj_lay2 : ∀ w ∈ u_ws (mj_cc 2).1 (mj_cc 2).2.1 (mj_cc 2).2.2, w ∈ mj_Ts := List.forall_mem_cons.mpr ⟨mj_mem 1 77 rfl rfl, fun _ h => absurd h List.not_mem_nil⟩
theorem mj_tyok2 : ∀ f, f < (mj_cc 2).2.2 → parseFieldDescriptor ((mj_cc 2).2.1 f).2.2.1 = some (mj_yt 2 f) := by
  show ∀ f, f < 1 → parseFieldDescriptor (mj_T2 f).2.2.1 = some (mj_y2 f)
  decide +kernel
theorem mj_nmok2 : ∀ a, a < (mj_cc 2).2.2 → ∀ b, b < (mj_cc 2).2.2 → a ≠ b → ((mj_cc 2).2.1 a).2.1 ≠ ((mj_cc 2).2.1 b).2.1 := by
  show ∀ a, a < 1 → ∀ b, b < 1 → a ≠ b → (mj_T2 a).2.1 ≠ (mj_T2 b).2.1
  decide +kernel
theorem mj_ins2 : Jvm.Cond.instantiable (mj_cc 2).1 (mj_cc 2).2.2 ∈ mj_Ts ∧ Jvm.Cond.initialized (mj_cc 2).1 ∈ mj_Ts := ⟨mj_mem 1 71 rfl rfl, mj_mem 1 5 rfl rfl⟩
theorem mj_dfok2 : (∀ j, j < (mj_cc 2).2.2 → defaultValue (mj_yt 2 j) = vp_V (mj_df 2) j) ∧ (mj_df 2).length = (mj_cc 2).2.2 ∧ (mj_fk 2).length = (mj_cc 2).2.2 ∧ ∀ (as : List Nat) (X : Nat → Option Nat), mj_SR as X (mj_df 2) (mj_df 2) := by
  refine ⟨?_, rfl, rfl, fun _ _ => rfl⟩
  show ∀ j, j < 1 → defaultValue (mj_y2 j) = vp_V (mj_df 2) j
  decide +kernel
theorem mj_fkok2 : ∀ f, f < (mj_cc 2).2.2 → (mj_fk 2)[f]? = some (((mj_cc 2).2.1 f).2.2.2, mj_kd (mj_yt 2 f)) ∧ ((mj_cc 2).2.1 f).1 = (mj_cc 2).1 := by
  show ∀ f, f < 1 → (mj_fk 2)[f]? = some ((mj_T2 f).2.2.2, mj_kd (mj_y2 f)) ∧ (mj_T2 f).1 = (mj_cc 2).1
  decide +kernel
theorem mj_lay3 : ∀ w ∈ u_ws (mj_cc 3).1 (mj_cc 3).2.1 (mj_cc 3).2.2, w ∈ mj_Ts := List.forall_mem_cons.mpr ⟨mj_mem 1 63 rfl rfl, List.forall_mem_cons.mpr ⟨mj_mem 1 65 rfl rfl, List.forall_mem_cons.mpr ⟨mj_mem 1 67 rfl rfl, fun _ h => absurd h List.not_mem_nil⟩⟩⟩
theorem mj_tyok3 : ∀ f, f < (mj_cc 3).2.2 → parseFieldDescriptor ((mj_cc 3).2.1 f).2.2.1 = some (mj_yt 3 f) := by
  show ∀ f, f < 3 → parseFieldDescriptor (mj_T3 f).2.2.1 = some (mj_y3 f)
  decide +kernel
theorem mj_nmok3 : ∀ a, a < (mj_cc 3).2.2 → ∀ b, b < (mj_cc 3).2.2 → a ≠ b → ((mj_cc 3).2.1 a).2.1 ≠ ((mj_cc 3).2.1 b).2.1 := by
  show ∀ a, a < 3 → ∀ b, b < 3 → a ≠ b → (mj_T3 a).2.1 ≠ (mj_T3 b).2.1
  decide +kernel
theorem mj_ins3 : Jvm.Cond.instantiable (mj_cc 3).1 (mj_cc 3).2.2 ∈ mj_Ts ∧ Jvm.Cond.initialized (mj_cc 3).1 ∈ mj_Ts := ⟨mj_mem 1 55 rfl rfl, mj_mem 1 4 rfl rfl⟩
theorem mj_dfok3 : (∀ j, j < (mj_cc 3).2.2 → defaultValue (mj_yt 3 j) = vp_V (mj_df 3) j) ∧ (mj_df 3).length = (mj_cc 3).2.2 ∧ (mj_fk 3).length = (mj_cc 3).2.2 ∧ ∀ (as : List Nat) (X : Nat → Option Nat), mj_SR as X (mj_df 3) (mj_df 3) := by
  refine ⟨?_, rfl, rfl, fun _ _ => rfl⟩
  show ∀ j, j < 3 → defaultValue (mj_y3 j) = vp_V (mj_df 3) j
  decide +kernel
theorem mj_fkok3 : ∀ f, f < (mj_cc 3).2.2 → (mj_fk 3)[f]? = some (((mj_cc 3).2.1 f).2.2.2, mj_kd (mj_yt 3 f)) ∧ ((mj_cc 3).2.1 f).1 = (mj_cc 3).1 := by
  show ∀ f, f < 3 → (mj_fk 3)[f]? = some ((mj_T3 f).2.2.2, mj_kd (mj_y3 f)) ∧ (mj_T3 f).1 = (mj_cc 3).1
  decide +kernel
theorem mj_lay4 : ∀ w ∈ u_ws (mj_cc 4).1 (mj_cc 4).2.1 (mj_cc 4).2.2, w ∈ mj_Ts := List.forall_mem_cons.mpr ⟨mj_mem 1 107 rfl rfl, List.forall_mem_cons.mpr ⟨mj_mem 1 109 rfl rfl, List.forall_mem_cons.mpr ⟨mj_mem 1 111 rfl rfl, List.forall_mem_cons.mpr ⟨mj_mem 1 113 rfl rfl, List.forall_mem_cons.mpr ⟨mj_mem 1 115 rfl rfl, fun _ h => absurd h List.not_mem_nil⟩⟩⟩⟩⟩
theorem mj_tyok4 : ∀ f, f < (mj_cc 4).2.2 → parseFieldDescriptor ((mj_cc 4).2.1 f).2.2.1 = some (mj_yt 4 f) := by
  show ∀ f, f < 5 → parseFieldDescriptor (mj_T4 f).2.2.1 = some (mj_y4 f)
  decide +kernel
theorem mj_nmok4 : ∀ a, a < (mj_cc 4).2.2 → ∀ b, b < (mj_cc 4).2.2 → a ≠ b → ((mj_cc 4).2.1 a).2.1 ≠ ((mj_cc 4).2.1 b).2.1 := by
  show ∀ a, a < 5 → ∀ b, b < 5 → a ≠ b → (mj_T4 a).2.1 ≠ (mj_T4 b).2.1
  decide +kernel
theorem mj_ins4 : Jvm.Cond.instantiable (mj_cc 4).1 (mj_cc 4).2.2 ∈ mj_Ts ∧ Jvm.Cond.initialized (mj_cc 4).1 ∈ mj_Ts := ⟨mj_mem 1 97 rfl rfl, mj_mem 1 7 rfl rfl⟩
theorem mj_dfok4 : (∀ j, j < (mj_cc 4).2.2 → defaultValue (mj_yt 4 j) = vp_V (mj_df 4) j) ∧ (mj_df 4).length = (mj_cc 4).2.2 ∧ (mj_fk 4).length = (mj_cc 4).2.2 ∧ ∀ (as : List Nat) (X : Nat → Option Nat), mj_SR as X (mj_df 4) (mj_df 4) := by
  refine ⟨?_, rfl, rfl, fun _ _ => rfl⟩
  show ∀ j, j < 5 → defaultValue (mj_y4 j) = vp_V (mj_df 4) j
  decide +kernel
theorem mj_fkok4 : ∀ f, f < (mj_cc 4).2.2 → (mj_fk 4)[f]? = some (((mj_cc 4).2.1 f).2.2.2, mj_kd (mj_yt 4 f)) ∧ ((mj_cc 4).2.1 f).1 = (mj_cc 4).1 := by
  show ∀ f, f < 5 → (mj_fk 4)[f]? = some ((mj_T4 f).2.2.2, mj_kd (mj_y4 f)) ∧ (mj_T4 f).1 = (mj_cc 4).1
  decide +kernel
theorem mj_lay5 : ∀ w ∈ u_ws (mj_cc 5).1 (mj_cc 5).2.1 (mj_cc 5).2.2, w ∈ mj_Ts := List.forall_mem_cons.mpr ⟨mj_mem 2 17 rfl rfl, List.forall_mem_cons.mpr ⟨mj_mem 2 19 rfl rfl, List.forall_mem_cons.mpr ⟨mj_mem 2 21 rfl rfl, List.forall_mem_cons.mpr ⟨mj_mem 2 23 rfl rfl, List.forall_mem_cons.mpr ⟨mj_mem 2 25 rfl rfl, List.forall_mem_cons.mpr ⟨mj_mem 2 27 rfl rfl, fun _ h => absurd h List.not_mem_nil⟩⟩⟩⟩⟩⟩
theorem mj_tyok5 : ∀ f, f < (mj_cc 5).2.2 → parseFieldDescriptor ((mj_cc 5).2.1 f).2.2.1 = some (mj_yt 5 f) := by
  show ∀ f, f < 6 → parseFieldDescriptor (mj_T5 f).2.2.1 = some (mj_y5 f)
  decide +kernel
theorem mj_nmok5 : ∀ a, a < (mj_cc 5).2.2 → ∀ b, b < (mj_cc 5).2.2 → a ≠ b → ((mj_cc 5).2.1 a).2.1 ≠ ((mj_cc 5).2.1 b).2.1 := by
  show ∀ a, a < 6 → ∀ b, b < 6 → a ≠ b → (mj_T5 a).2.1 ≠ (mj_T5 b).2.1
  decide +kernel
theorem mj_ins5 : Jvm.Cond.instantiable (mj_cc 5).1 (mj_cc 5).2.2 ∈ mj_Ts ∧ Jvm.Cond.initialized (mj_cc 5).1 ∈ mj_Ts := ⟨mj_mem 2 6 rfl rfl, mj_mem 1 11 rfl rfl⟩
theorem mj_dfok5 : (∀ j, j < (mj_cc 5).2.2 → defaultValue (mj_yt 5 j) = vp_V (mj_df 5) j) ∧ (mj_df 5).length = (mj_cc 5).2.2 ∧ (mj_fk 5).length = (mj_cc 5).2.2 ∧ ∀ (as : List Nat) (X : Nat → Option Nat), mj_SR as X (mj_df 5) (mj_df 5) := by
  refine ⟨?_, rfl, rfl, fun _ _ => rfl⟩
  show ∀ j, j < 6 → defaultValue (mj_y5 j) = vp_V (mj_df 5) j
  decide +kernel
theorem mj_fkok5 : ∀ f, f < (mj_cc 5).2.2 → (mj_fk 5)[f]? = some (((mj_cc 5).2.1 f).2.2.2, mj_kd (mj_yt 5 f)) ∧ ((mj_cc 5).2.1 f).1 = (mj_cc 5).1 := by
  show ∀ f, f < 6 → (mj_fk 5)[f]? = some ((mj_T5 f).2.2.2, mj_kd (mj_y5 f)) ∧ (mj_T5 f).1 = (mj_cc 5).1
  decide +kernel
theorem mj_lay6 : ∀ w ∈ u_ws (mj_cc 6).1 (mj_cc 6).2.1 (mj_cc 6).2.2, w ∈ mj_Ts := List.forall_mem_cons.mpr ⟨mj_mem 1 224 rfl rfl, List.forall_mem_cons.mpr ⟨mj_mem 1 226 rfl rfl, List.forall_mem_cons.mpr ⟨mj_mem 1 228 rfl rfl, List.forall_mem_cons.mpr ⟨mj_mem 1 230 rfl rfl, List.forall_mem_cons.mpr ⟨mj_mem 1 232 rfl rfl, List.forall_mem_cons.mpr ⟨mj_mem 1 234 rfl rfl, List.forall_mem_cons.mpr ⟨mj_mem 1 236 rfl rfl, List.forall_mem_cons.mpr ⟨mj_mem 1 238 rfl rfl, List.forall_mem_cons.mpr ⟨mj_mem 2 0 rfl rfl, List.forall_mem_cons.mpr ⟨mj_mem 2 2 rfl rfl, fun _ h => absurd h List.not_mem_nil⟩⟩⟩⟩⟩⟩⟩⟩⟩⟩
theorem mj_tyok6 : ∀ f, f < (mj_cc 6).2.2 → parseFieldDescriptor ((mj_cc 6).2.1 f).2.2.1 = some (mj_yt 6 f) := by
  show ∀ f, f < 10 → parseFieldDescriptor (mj_T6 f).2.2.1 = some (mj_y6 f)
  decide +kernel
theorem mj_nmok6 : ∀ a, a < (mj_cc 6).2.2 → ∀ b, b < (mj_cc 6).2.2 → a ≠ b → ((mj_cc 6).2.1 a).2.1 ≠ ((mj_cc 6).2.1 b).2.1 := by
  show ∀ a, a < 10 → ∀ b, b < 10 → a ≠ b → (mj_T6 a).2.1 ≠ (mj_T6 b).2.1
  decide +kernel
theorem mj_ins6 : Jvm.Cond.instantiable (mj_cc 6).1 (mj_cc 6).2.2 ∈ mj_Ts ∧ Jvm.Cond.initialized (mj_cc 6).1 ∈ mj_Ts := ⟨mj_mem 1 209 rfl rfl, mj_mem 1 10 rfl rfl⟩
theorem mj_dfok6 : (∀ j, j < (mj_cc 6).2.2 → defaultValue (mj_yt 6 j) = vp_V (mj_df 6) j) ∧ (mj_df 6).length = (mj_cc 6).2.2 ∧ (mj_fk 6).length = (mj_cc 6).2.2 ∧ ∀ (as : List Nat) (X : Nat → Option Nat), mj_SR as X (mj_df 6) (mj_df 6) := by
  refine ⟨?_, rfl, rfl, fun _ _ => rfl⟩
  show ∀ j, j < 10 → defaultValue (mj_y6 j) = vp_V (mj_df 6) j
  decide +kernel
theorem mj_fkok6 : ∀ f, f < (mj_cc 6).2.2 → (mj_fk 6)[f]? = some (((mj_cc 6).2.1 f).2.2.2, mj_kd (mj_yt 6 f)) ∧ ((mj_cc 6).2.1 f).1 = (mj_cc 6).1 := by
  show ∀ f, f < 10 → (mj_fk 6)[f]? = some ((mj_T6 f).2.2.2, mj_kd (mj_y6 f)) ∧ (mj_T6 f).1 = (mj_cc 6).1
  decide +kernel
theorem mj_lay7 : ∀ w ∈ u_ws (mj_cc 7).1 (mj_cc 7).2.1 (mj_cc 7).2.2, w ∈ mj_Ts := List.forall_mem_cons.mpr ⟨mj_mem 1 127 rfl rfl, List.forall_mem_cons.mpr ⟨mj_mem 1 129 rfl rfl, List.forall_mem_cons.mpr ⟨mj_mem 1 131 rfl rfl, fun _ h => absurd h List.not_mem_nil⟩⟩⟩
theorem mj_tyok7 : ∀ f, f < (mj_cc 7).2.2 → parseFieldDescriptor ((mj_cc 7).2.1 f).2.2.1 = some (mj_yt 7 f) := by
  show ∀ f, f < 3 → parseFieldDescriptor (mj_T7 f).2.2.1 = some (mj_y7 f)
  decide +kernel
theorem mj_nmok7 : ∀ a, a < (mj_cc 7).2.2 → ∀ b, b < (mj_cc 7).2.2 → a ≠ b → ((mj_cc 7).2.1 a).2.1 ≠ ((mj_cc 7).2.1 b).2.1 := by
  show ∀ a, a < 3 → ∀ b, b < 3 → a ≠ b → (mj_T7 a).2.1 ≠ (mj_T7 b).2.1
  decide +kernel
theorem mj_ins7 : Jvm.Cond.instantiable (mj_cc 7).1 (mj_cc 7).2.2 ∈ mj_Ts ∧ Jvm.Cond.initialized (mj_cc 7).1 ∈ mj_Ts := ⟨mj_mem 1 119 rfl rfl, mj_mem 1 8 rfl rfl⟩
theorem mj_dfok7 : (∀ j, j < (mj_cc 7).2.2 → defaultValue (mj_yt 7 j) = vp_V (mj_df 7) j) ∧ (mj_df 7).length = (mj_cc 7).2.2 ∧ (mj_fk 7).length = (mj_cc 7).2.2 ∧ ∀ (as : List Nat) (X : Nat → Option Nat), mj_SR as X (mj_df 7) (mj_df 7) := by
  refine ⟨?_, rfl, rfl, fun _ _ => rfl⟩
  show ∀ j, j < 3 → defaultValue (mj_y7 j) = vp_V (mj_df 7) j
  decide +kernel
theorem mj_fkok7 : ∀ f, f < (mj_cc 7).2.2 → (mj_fk 7)[f]? = some (((mj_cc 7).2.1 f).2.2.2, mj_kd (mj_yt 7 f)) ∧ ((mj_cc 7).2.1 f).1 = (mj_cc 7).1 := by
  show ∀ f, f < 3 → (mj_fk 7)[f]? = some ((mj_T7 f).2.2.2, mj_kd (mj_y7 f)) ∧ (mj_T7 f).1 = (mj_cc 7).1
  decide +kernel
theorem mj_lay8 : ∀ w ∈ u_ws (mj_cc 8).1 (mj_cc 8).2.1 (mj_cc 8).2.2, w ∈ mj_Ts := List.forall_mem_cons.mpr ⟨mj_mem 1 192 rfl rfl, List.forall_mem_cons.mpr ⟨mj_mem 1 194 rfl rfl, List.forall_mem_cons.mpr ⟨mj_mem 1 196 rfl rfl, List.forall_mem_cons.mpr ⟨mj_mem 1 198 rfl rfl, List.forall_mem_cons.mpr ⟨mj_mem 1 200 rfl rfl, List.forall_mem_cons.mpr ⟨mj_mem 1 202 rfl rfl, List.forall_mem_cons.mpr ⟨mj_mem 1 204 rfl rfl, fun _ h => absurd h List.not_mem_nil⟩⟩⟩⟩⟩⟩⟩
theorem mj_tyok8 : ∀ f, f < (mj_cc 8).2.2 → parseFieldDescriptor ((mj_cc 8).2.1 f).2.2.1 = some (mj_yt 8 f) := by
  show ∀ f, f < 7 → parseFieldDescriptor (mj_T8 f).2.2.1 = some (mj_y8 f)
  decide +kernel
theorem mj_nmok8 : ∀ a, a < (mj_cc 8).2.2 → ∀ b, b < (mj_cc 8).2.2 → a ≠ b → ((mj_cc 8).2.1 a).2.1 ≠ ((mj_cc 8).2.1 b).2.1 := by
  show ∀ a, a < 7 → ∀ b, b < 7 → a ≠ b → (mj_T8 a).2.1 ≠ (mj_T8 b).2.1
  decide +kernel
theorem mj_ins8 : Jvm.Cond.instantiable (mj_cc 8).1 (mj_cc 8).2.2 ∈ mj_Ts ∧ Jvm.Cond.initialized (mj_cc 8).1 ∈ mj_Ts := ⟨mj_mem 1 180 rfl rfl, mj_mem 1 9 rfl rfl⟩
theorem mj_dfok8 : (∀ j, j < (mj_cc 8).2.2 → defaultValue (mj_yt 8 j) = vp_V (mj_df 8) j) ∧ (mj_df 8).length = (mj_cc 8).2.2 ∧ (mj_fk 8).length = (mj_cc 8).2.2 ∧ ∀ (as : List Nat) (X : Nat → Option Nat), mj_SR as X (mj_df 8) (mj_df 8) := by
  refine ⟨?_, rfl, rfl, fun _ _ => rfl⟩
  show ∀ j, j < 7 → defaultValue (mj_y8 j) = vp_V (mj_df 8) j
  decide +kernel
theorem mj_fkok8 : ∀ f, f < (mj_cc 8).2.2 → (mj_fk 8)[f]? = some (((mj_cc 8).2.1 f).2.2.2, mj_kd (mj_yt 8 f)) ∧ ((mj_cc 8).2.1 f).1 = (mj_cc 8).1 := by
  show ∀ f, f < 7 → (mj_fk 8)[f]? = some ((mj_T8 f).2.2.2, mj_kd (mj_y8 f)) ∧ (mj_T8 f).1 = (mj_cc 8).1
  decide +kernel
theorem mj_lay9 : ∀ w ∈ u_ws (mj_cc 9).1 (mj_cc 9).2.1 (mj_cc 9).2.2, w ∈ mj_Ts := List.forall_mem_cons.mpr ⟨mj_mem 3 153 rfl rfl, List.forall_mem_cons.mpr ⟨mj_mem 3 155 rfl rfl, List.forall_mem_cons.mpr ⟨mj_mem 3 157 rfl rfl, fun _ h => absurd h List.not_mem_nil⟩⟩⟩
theorem mj_tyok9 : ∀ f, f < (mj_cc 9).2.2 → parseFieldDescriptor ((mj_cc 9).2.1 f).2.2.1 = some (mj_yt 9 f) := by
  show ∀ f, f < 3 → parseFieldDescriptor (mj_T9 f).2.2.1 = some (mj_y9 f)
  decide +kernel
theorem mj_nmok9 : ∀ a, a < (mj_cc 9).2.2 → ∀ b, b < (mj_cc 9).2.2 → a ≠ b → ((mj_cc 9).2.1 a).2.1 ≠ ((mj_cc 9).2.1 b).2.1 := by
  show ∀ a, a < 3 → ∀ b, b < 3 → a ≠ b → (mj_T9 a).2.1 ≠ (mj_T9 b).2.1
  decide +kernel
theorem mj_ins9 : Jvm.Cond.instantiable (mj_cc 9).1 (mj_cc 9).2.2 ∈ mj_Ts ∧ Jvm.Cond.initialized (mj_cc 9).1 ∈ mj_Ts := ⟨mj_mem 3 143 rfl rfl, mj_mem 1 21 rfl rfl⟩
theorem mj_dfok9 : (∀ j, j < (mj_cc 9).2.2 → defaultValue (mj_yt 9 j) = vp_V (mj_df 9) j) ∧ (mj_df 9).length = (mj_cc 9).2.2 ∧ (mj_fk 9).length = (mj_cc 9).2.2 ∧ ∀ (as : List Nat) (X : Nat → Option Nat), mj_SR as X (mj_df 9) (mj_df 9) := by
  refine ⟨?_, rfl, rfl, fun _ _ => rfl⟩
  show ∀ j, j < 3 → defaultValue (mj_y9 j) = vp_V (mj_df 9) j
  decide +kernel
theorem mj_fkok9 : ∀ f, f < (mj_cc 9).2.2 → (mj_fk 9)[f]? = some (((mj_cc 9).2.1 f).2.2.2, mj_kd (mj_yt 9 f)) ∧ ((mj_cc 9).2.1 f).1 = (mj_cc 9).1 := by
  show ∀ f, f < 3 → (mj_fk 9)[f]? = some ((mj_T9 f).2.2.2, mj_kd (mj_y9 f)) ∧ (mj_T9 f).1 = (mj_cc 9).1
  decide +kernel
theorem mj_lay10 : ∀ w ∈ u_ws (mj_cc 10).1 (mj_cc 10).2.1 (mj_cc 10).2.2, w ∈ mj_Ts := List.forall_mem_cons.mpr ⟨mj_mem 1 152 rfl rfl, List.forall_mem_cons.mpr ⟨mj_mem 1 154 rfl rfl, List.forall_mem_cons.mpr ⟨mj_mem 1 156 rfl rfl, List.forall_mem_cons.mpr ⟨mj_mem 1 158 rfl rfl, List.forall_mem_cons.mpr ⟨mj_mem 1 160 rfl rfl, List.forall_mem_cons.mpr ⟨mj_mem 1 162 rfl rfl, List.forall_mem_cons.mpr ⟨mj_mem 1 164 rfl rfl, List.forall_mem_cons.mpr ⟨mj_mem 1 166 rfl rfl, List.forall_mem_cons.mpr ⟨mj_mem 1 168 rfl rfl, List.forall_mem_cons.mpr ⟨mj_mem 1 170 rfl rfl, List.forall_mem_cons.mpr ⟨mj_mem 1 172 rfl rfl, List.forall_mem_cons.mpr ⟨mj_mem 1 174 rfl rfl, fun _ h => absurd h List.not_mem_nil⟩⟩⟩⟩⟩⟩⟩⟩⟩⟩⟩⟩
theorem mj_tyok10 : ∀ f, f < (mj_cc 10).2.2 → parseFieldDescriptor ((mj_cc 10).2.1 f).2.2.1 = some (mj_yt 10 f) := by
  show ∀ f, f < 12 → parseFieldDescriptor (mj_T10 f).2.2.1 = some (mj_y10 f)
  decide +kernel
theorem mj_nmok10 : ∀ a, a < (mj_cc 10).2.2 → ∀ b, b < (mj_cc 10).2.2 → a ≠ b → ((mj_cc 10).2.1 a).2.1 ≠ ((mj_cc 10).2.1 b).2.1 := by
  show ∀ a, a < 12 → ∀ b, b < 12 → a ≠ b → (mj_T10 a).2.1 ≠ (mj_T10 b).2.1
  decide +kernel
theorem mj_ins10 : Jvm.Cond.instantiable (mj_cc 10).1 (mj_cc 10).2.2 ∈ mj_Ts ∧ Jvm.Cond.initialized (mj_cc 10).1 ∈ mj_Ts := ⟨mj_mem 1 49 rfl rfl, mj_mem 1 3 rfl rfl⟩
theorem mj_dfok10 : (∀ j, j < (mj_cc 10).2.2 → defaultValue (mj_yt 10 j) = vp_V (mj_df 10) j) ∧ (mj_df 10).length = (mj_cc 10).2.2 ∧ (mj_fk 10).length = (mj_cc 10).2.2 ∧ ∀ (as : List Nat) (X : Nat → Option Nat), mj_SR as X (mj_df 10) (mj_df 10) := by
  refine ⟨?_, rfl, rfl, fun _ _ => rfl⟩
  show ∀ j, j < 12 → defaultValue (mj_y10 j) = vp_V (mj_df 10) j
  decide +kernel
theorem mj_fkok10 : ∀ f, f < (mj_cc 10).2.2 → (mj_fk 10)[f]? = some (((mj_cc 10).2.1 f).2.2.2, mj_kd (mj_yt 10 f)) ∧ ((mj_cc 10).2.1 f).1 = (mj_cc 10).1 := by
  show ∀ f, f < 12 → (mj_fk 10)[f]? = some ((mj_T10 f).2.2.2, mj_kd (mj_y10 f)) ∧ (mj_T10 f).1 = (mj_cc 10).1
  decide +kernel
theorem mj_lay11 : ∀ w ∈ u_ws (mj_cc 11).1 (mj_cc 11).2.1 (mj_cc 11).2.2, w ∈ mj_Ts := List.forall_mem_cons.mpr ⟨mj_mem 2 37 rfl rfl, List.forall_mem_cons.mpr ⟨mj_mem 2 39 rfl rfl, List.forall_mem_cons.mpr ⟨mj_mem 2 41 rfl rfl, List.forall_mem_cons.mpr ⟨mj_mem 2 43 rfl rfl, List.forall_mem_cons.mpr ⟨mj_mem 2 45 rfl rfl, List.forall_mem_cons.mpr ⟨mj_mem 2 47 rfl rfl, fun _ h => absurd h List.not_mem_nil⟩⟩⟩⟩⟩⟩
theorem mj_tyok11 : ∀ f, f < (mj_cc 11).2.2 → parseFieldDescriptor ((mj_cc 11).2.1 f).2.2.1 = some (mj_yt 11 f) := by
  show ∀ f, f < 6 → parseFieldDescriptor (mj_T11 f).2.2.1 = some (mj_y11 f)
  decide +kernel
theorem mj_nmok11 : ∀ a, a < (mj_cc 11).2.2 → ∀ b, b < (mj_cc 11).2.2 → a ≠ b → ((mj_cc 11).2.1 a).2.1 ≠ ((mj_cc 11).2.1 b).2.1 := by
  show ∀ a, a < 6 → ∀ b, b < 6 → a ≠ b → (mj_T11 a).2.1 ≠ (mj_T11 b).2.1
  decide +kernel
theorem mj_ins11 : Jvm.Cond.instantiable (mj_cc 11).1 (mj_cc 11).2.2 ∈ mj_Ts ∧ Jvm.Cond.initialized (mj_cc 11).1 ∈ mj_Ts := ⟨mj_mem 1 24 rfl rfl, mj_mem 1 1 rfl rfl⟩
theorem mj_dfok11 : (∀ j, j < (mj_cc 11).2.2 → defaultValue (mj_yt 11 j) = vp_V (mj_df 11) j) ∧ (mj_df 11).length = (mj_cc 11).2.2 ∧ (mj_fk 11).length = (mj_cc 11).2.2 ∧ ∀ (as : List Nat) (X : Nat → Option Nat), mj_SR as X (mj_df 11) (mj_df 11) := by
  refine ⟨?_, rfl, rfl, fun _ _ => rfl⟩
  show ∀ j, j < 6 → defaultValue (mj_y11 j) = vp_V (mj_df 11) j
  decide +kernel
theorem mj_fkok11 : ∀ f, f < (mj_cc 11).2.2 → (mj_fk 11)[f]? = some (((mj_cc 11).2.1 f).2.2.2, mj_kd (mj_yt 11 f)) ∧ ((mj_cc 11).2.1 f).1 = (mj_cc 11).1 := by
  show ∀ f, f < 6 → (mj_fk 11)[f]? = some ((mj_T11 f).2.2.2, mj_kd (mj_y11 f)) ∧ (mj_T11 f).1 = (mj_cc 11).1
  decide +kernel
theorem mj_lay12 : ∀ w ∈ u_ws (mj_cc 12).1 (mj_cc 12).2.1 (mj_cc 12).2.2, w ∈ mj_Ts := List.forall_mem_cons.mpr ⟨mj_mem 6 193 rfl rfl, List.forall_mem_cons.mpr ⟨mj_mem 6 195 rfl rfl, List.forall_mem_cons.mpr ⟨mj_mem 6 197 rfl rfl, List.forall_mem_cons.mpr ⟨mj_mem 6 199 rfl rfl, List.forall_mem_cons.mpr ⟨mj_mem 6 201 rfl rfl, List.forall_mem_cons.mpr ⟨mj_mem 6 203 rfl rfl, List.forall_mem_cons.mpr ⟨mj_mem 6 205 rfl rfl, List.forall_mem_cons.mpr ⟨mj_mem 6 207 rfl rfl, List.forall_mem_cons.mpr ⟨mj_mem 6 209 rfl rfl, List.forall_mem_cons.mpr ⟨mj_mem 6 211 rfl rfl, List.forall_mem_cons.mpr ⟨mj_mem 6 213 rfl rfl, List.forall_mem_cons.mpr ⟨mj_mem 6 215 rfl rfl, List.forall_mem_cons.mpr ⟨mj_mem 6 217 rfl rfl, List.forall_mem_cons.mpr ⟨mj_mem 6 219 rfl rfl, List.forall_mem_cons.mpr ⟨mj_mem 6 221 rfl rfl, List.forall_mem_cons.mpr ⟨mj_mem 6 223 rfl rfl, List.forall_mem_cons.mpr ⟨mj_mem 6 225 rfl rfl, List.forall_mem_cons.mpr ⟨mj_mem 6 227 rfl rfl, List.forall_mem_cons.mpr ⟨mj_mem 6 229 rfl rfl, List.forall_mem_cons.mpr ⟨mj_mem 6 231 rfl rfl, List.forall_mem_cons.mpr ⟨mj_mem 6 233 rfl rfl, List.forall_mem_cons.mpr ⟨mj_mem 6 235 rfl rfl, List.forall_mem_cons.mpr ⟨mj_mem 6 237 rfl rfl, List.forall_mem_cons.mpr ⟨mj_mem 6 239 rfl rfl, List.forall_mem_cons.mpr ⟨mj_mem 7 1 rfl rfl, List.forall_mem_cons.mpr ⟨mj_mem 7 3 rfl rfl, List.forall_mem_cons.mpr ⟨mj_mem 7 5 rfl rfl, List.forall_mem_cons.mpr ⟨mj_mem 7 7 rfl rfl, List.forall_mem_cons.mpr ⟨mj_mem 7 9 rfl rfl, List.forall_mem_cons.mpr ⟨mj_mem 7 11 rfl rfl, List.forall_mem_cons.mpr ⟨mj_mem 7 13 rfl rfl, List.forall_mem_cons.mpr ⟨mj_mem 7 15 rfl rfl, List.forall_mem_cons.mpr ⟨mj_mem 7 17 rfl rfl, fun _ h => absurd h List.not_mem_nil⟩⟩⟩⟩⟩⟩⟩⟩⟩⟩⟩⟩⟩⟩⟩⟩⟩⟩⟩⟩⟩⟩⟩⟩⟩⟩⟩⟩⟩⟩⟩⟩⟩
theorem mj_tyok12 : ∀ f, f < (mj_cc 12).2.2 → parseFieldDescriptor ((mj_cc 12).2.1 f).2.2.1 = some (mj_yt 12 f) := by
  show ∀ f, f < 33 → parseFieldDescriptor (mj_T12 f).2.2.1 = some (mj_y12 f)
  decide +kernel
theorem mj_nmok12 : ∀ a, a < (mj_cc 12).2.2 → ∀ b, b < (mj_cc 12).2.2 → a ≠ b → ((mj_cc 12).2.1 a).2.1 ≠ ((mj_cc 12).2.1 b).2.1 := by
  show ∀ a, a < 33 → ∀ b, b < 33 → a ≠ b → (mj_T12 a).2.1 ≠ (mj_T12 b).2.1
  decide +kernel
theorem mj_ins12 : Jvm.Cond.instantiable (mj_cc 12).1 (mj_cc 12).2.2 ∈ mj_Ts ∧ Jvm.Cond.initialized (mj_cc 12).1 ∈ mj_Ts := ⟨mj_mem 6 152 rfl rfl, mj_mem 1 12 rfl rfl⟩
theorem mj_dfok12 : (∀ j, j < (mj_cc 12).2.2 → defaultValue (mj_yt 12 j) = vp_V (mj_df 12) j) ∧ (mj_df 12).length = (mj_cc 12).2.2 ∧ (mj_fk 12).length = (mj_cc 12).2.2 ∧ ∀ (as : List Nat) (X : Nat → Option Nat), mj_SR as X (mj_df 12) (mj_df 12) := by
  refine ⟨?_, rfl, rfl, fun _ _ => rfl⟩
  show ∀ j, j < 33 → defaultValue (mj_y12 j) = vp_V (mj_df 12) j
  decide +kernel
theorem mj_fkok12 : ∀ f, f < (mj_cc 12).2.2 → (mj_fk 12)[f]? = some (((mj_cc 12).2.1 f).2.2.2, mj_kd (mj_yt 12 f)) ∧ ((mj_cc 12).2.1 f).1 = (mj_cc 12).1 := by
  show ∀ f, f < 33 → (mj_fk 12)[f]? = some ((mj_T12 f).2.2.2, mj_kd (mj_y12 f)) ∧ (mj_T12 f).1 = (mj_cc 12).1
  decide +kernel
/-! a block of the small machine is a stretch of the real one -/
theorem mj_cl_at {k : Nat} (h : k < 13) : mj_cl[k]? = some (mj_cc k) := by
  match k, h with
  | 0, _ => rfl
  | 1, _ => rfl
  | 2, _ => rfl
  | 3, _ => rfl
  | 4, _ => rfl
  | 5, _ => rfl
  | 6, _ => rfl
  | 7, _ => rfl
  | 8, _ => rfl
  | 9, _ => rfl
  | 10, _ => rfl
  | 11, _ => rfl
  | 12, _ => rfl
  | k + 13, h => omega
theorem mj_cn_ne {k : Nat} (h : k < 19) : mj_cn k ≠ "java/lang/invoke/MethodHandle" ∧ mj_cn k ≠ "java/lang/invoke/VarHandle" ∧ plainName (mj_cn k) = true := by
  match k, h with
  | 0, _ => exact ⟨by decide +kernel, by decide +kernel, by decide +kernel⟩
  | 1, _ => exact ⟨by decide +kernel, by decide +kernel, by decide +kernel⟩
  | 2, _ => exact ⟨by decide +kernel, by decide +kernel, by decide +kernel⟩
  | 3, _ => exact ⟨by decide +kernel, by decide +kernel, by decide +kernel⟩
  | 4, _ => exact ⟨by decide +kernel, by decide +kernel, by decide +kernel⟩
  | 5, _ => exact ⟨by decide +kernel, by decide +kernel, by decide +kernel⟩
  | 6, _ => exact ⟨by decide +kernel, by decide +kernel, by decide +kernel⟩
  | 7, _ => exact ⟨by decide +kernel, by decide +kernel, by decide +kernel⟩
  | 8, _ => exact ⟨by decide +kernel, by decide +kernel, by decide +kernel⟩
  | 9, _ => exact ⟨by decide +kernel, by decide +kernel, by decide +kernel⟩
  | 10, _ => exact ⟨by decide +kernel, by decide +kernel, by decide +kernel⟩
  | 11, _ => exact ⟨by decide +kernel, by decide +kernel, by decide +kernel⟩
  | 12, _ => exact ⟨by decide +kernel, by decide +kernel, by decide +kernel⟩
  | 13, _ => exact ⟨by decide +kernel, by decide +kernel, by decide +kernel⟩
  | 14, _ => exact ⟨by decide +kernel, by decide +kernel, by decide +kernel⟩
  | 15, _ => exact ⟨by decide +kernel, by decide +kernel, by decide +kernel⟩
  | 16, _ => exact ⟨by decide +kernel, by decide +kernel, by decide +kernel⟩
  | 17, _ => exact ⟨by decide +kernel, by decide +kernel, by decide +kernel⟩
  | 18, _ => exact ⟨by decide +kernel, by decide +kernel, by decide +kernel⟩
  | k + 19, h => omega
theorem mj_ds_ok : ∀ q ∈ mj_ds, (parseMethodDescriptor q.1).map (fun d => d.parameters.length) = some q.2 := by decide +kernel
theorem mj_lay {k : Nat} (h : k < 13) : ∀ w ∈ u_ws (mj_cc k).1 (mj_cc k).2.1 (mj_cc k).2.2, w ∈ mj_Ts := by
  match k, h with
  | 0, _ => exact mj_lay0
  | 1, _ => exact mj_lay1
  | 2, _ => exact mj_lay2
  | 3, _ => exact mj_lay3
  | 4, _ => exact mj_lay4
  | 5, _ => exact mj_lay5
  | 6, _ => exact mj_lay6
  | 7, _ => exact mj_lay7
  | 8, _ => exact mj_lay8
  | 9, _ => exact mj_lay9
  | 10, _ => exact mj_lay10
  | 11, _ => exact mj_lay11
  | 12, _ => exact mj_lay12
  | k + 13, h => omega
theorem mj_tyok {k : Nat} (h : k < 13) : ∀ f, f < (mj_cc k).2.2 → parseFieldDescriptor ((mj_cc k).2.1 f).2.2.1 = some (mj_yt k f) := by
  match k, h with
  | 0, _ => exact mj_tyok0
  | 1, _ => exact mj_tyok1
  | 2, _ => exact mj_tyok2
  | 3, _ => exact mj_tyok3
  | 4, _ => exact mj_tyok4
  | 5, _ => exact mj_tyok5
  | 6, _ => exact mj_tyok6
  | 7, _ => exact mj_tyok7
  | 8, _ => exact mj_tyok8
  | 9, _ => exact mj_tyok9
  | 10, _ => exact mj_tyok10
  | 11, _ => exact mj_tyok11
  | 12, _ => exact mj_tyok12
  | k + 13, h => omega
theorem mj_nmok {k : Nat} (h : k < 13) : ∀ a, a < (mj_cc k).2.2 → ∀ b, b < (mj_cc k).2.2 → a ≠ b → ((mj_cc k).2.1 a).2.1 ≠ ((mj_cc k).2.1 b).2.1 := by
  match k, h with
  | 0, _ => exact mj_nmok0
  | 1, _ => exact mj_nmok1
  | 2, _ => exact mj_nmok2
  | 3, _ => exact mj_nmok3
  | 4, _ => exact mj_nmok4
  | 5, _ => exact mj_nmok5
  | 6, _ => exact mj_nmok6
  | 7, _ => exact mj_nmok7
  | 8, _ => exact mj_nmok8
  | 9, _ => exact mj_nmok9
  | 10, _ => exact mj_nmok10
  | 11, _ => exact mj_nmok11
  | 12, _ => exact mj_nmok12
  | k + 13, h => omega
theorem mj_ins {k : Nat} (h : k < 13) : Jvm.Cond.instantiable (mj_cc k).1 (mj_cc k).2.2 ∈ mj_Ts ∧ Jvm.Cond.initialized (mj_cc k).1 ∈ mj_Ts := by
  match k, h with
  | 0, _ => exact mj_ins0
  | 1, _ => exact mj_ins1
  | 2, _ => exact mj_ins2
  | 3, _ => exact mj_ins3
  | 4, _ => exact mj_ins4
  | 5, _ => exact mj_ins5
  | 6, _ => exact mj_ins6
  | 7, _ => exact mj_ins7
  | 8, _ => exact mj_ins8
  | 9, _ => exact mj_ins9
  | 10, _ => exact mj_ins10
  | 11, _ => exact mj_ins11
  | 12, _ => exact mj_ins12
  | k + 13, h => omega
theorem mj_dfok {k : Nat} (h : k < 13) : (∀ j, j < (mj_cc k).2.2 → defaultValue (mj_yt k j) = vp_V (mj_df k) j) ∧ (mj_df k).length = (mj_cc k).2.2 ∧ (mj_fk k).length = (mj_cc k).2.2 ∧ ∀ (as : List Nat) (X : Nat → Option Nat), mj_SR as X (mj_df k) (mj_df k) := by
  match k, h with
  | 0, _ => exact mj_dfok0
  | 1, _ => exact mj_dfok1
  | 2, _ => exact mj_dfok2
  | 3, _ => exact mj_dfok3
  | 4, _ => exact mj_dfok4
  | 5, _ => exact mj_dfok5
  | 6, _ => exact mj_dfok6
  | 7, _ => exact mj_dfok7
  | 8, _ => exact mj_dfok8
  | 9, _ => exact mj_dfok9
  | 10, _ => exact mj_dfok10
  | 11, _ => exact mj_dfok11
  | 12, _ => exact mj_dfok12
  | k + 13, h => omega
theorem mj_fkok {k : Nat} (h : k < 13) : ∀ f, f < (mj_cc k).2.2 → (mj_fk k)[f]? = some (((mj_cc k).2.1 f).2.2.2, mj_kd (mj_yt k f)) ∧ ((mj_cc k).2.1 f).1 = (mj_cc k).1 := by
  match k, h with
  | 0, _ => exact mj_fkok0
  | 1, _ => exact mj_fkok1
  | 2, _ => exact mj_fkok2
  | 3, _ => exact mj_fkok3
  | 4, _ => exact mj_fkok4
  | 5, _ => exact mj_fkok5
  | 6, _ => exact mj_fkok6
  | 7, _ => exact mj_fkok7
  | 8, _ => exact mj_fkok8
  | 9, _ => exact mj_fkok9
  | 10, _ => exact mj_fkok10
  | 11, _ => exact mj_fkok11
  | 12, _ => exact mj_fkok12
  | k + 13, h => omega
/-- what the tables say of a method that is called -/
theorem mj_fc {k : Nat} (h : k < mj_n) : mj_wq (5, 0, 0, k) ∈ mj_Ts ∧ ((mj_meth k).1.2.2.2 = true → mj_wq (6, 0, 0, k) ∈ mj_Ts) ∧ ((mj_meth k).1.2.2.2 = false → mj_wq (7, 0, 0, k) ∈ mj_Ts) ∧ ((mj_meth k).1.2.2.2 = false → mj_ini k = false → mj_wq (8, 0, 0, k) ∈ mj_Ts) ∧ mj_wq (9, (mj_meth k).1.1, 0, 0) ∈ mj_Ts ∧ (mj_meth k).1.1 < 19 ∧ (mj_meth k).2.2.1 ≤ 24 ∧ (mj_meth k).1.2.2.1 < mj_ds.length := by
  have hf := mj_fall h
  unfold mj_mfc at hf
  simp only [Bool.and_eq_true, decide_eq_true_eq] at hf
  obtain ⟨⟨⟨⟨⟨h1, h2⟩, h3⟩, h4⟩, h5⟩, h6⟩ := hf
  refine ⟨mj_wd_in h1, fun q => ?_, fun q => ?_, fun q q2 => ?_, mj_wd_in h3, h4, h5, h6⟩
  · rw [if_pos q] at h2; exact mj_wd_in h2
  · rw [if_neg (by rw [q]; decide)] at h2
    simp only [Bool.and_eq_true] at h2
    exact mj_wd_in h2.1
  · rw [if_neg (by rw [q]; decide)] at h2
    simp only [Bool.and_eq_true, Bool.or_eq_true] at h2
    rcases h2.2 with z | z
    · rw [q2] at z; cases z
    · exact mj_wd_in z
def mj_ws (k : Nat) : List Jvm.Cond := .code (mj_yn k) (mj_meth k).2.1 (mj_meth k).2.2.1 (mj_meth k).2.2.2 :: mj_Ts
/-- what stays the same while a method runs -/
def mj_Cx (p : Program) (R : Room) (s : State) (m : MethodId) (args : Array Value) (meth : Method) (c : Code) (D : va_G) (A : Nat → Prop) (X : Nat → Option Nat) (E : mj_E) (own : Nat) (ini : Bool) (d nL : Nat) (cc : ByteArray) : Prop :=
  p.tables.exec = Jvm.exec ∧ c.code = cc ∧ c.maxLocals = nL ∧ s.vm.findClass (mj_cn own) = some m.cls ∧ (∀ w ∈ mj_Ts, w.before args s = true) ∧ va_K D mj_cl [] s ∧ mj_XR s X E A s.heap ∧ mj_ZR s X A s.heap ∧ (∀ q, s.heap.size ≤ q → A q) ∧ (ini = true → meth.name = "<init>") ∧ d + 1 ≤ R.frames ∧ 64 * (d + 1) ≤ R.locals ∧ ∀ k n f, E k ≠ some (1, n, f)
def mj_room (R : Room) (n0 z0 : Nat) (h : mj_H) : Prop := h.length - n0 ≤ R.cells ∧ mj_siz h - z0 ≤ R.slots
section MJX
variable {p : Program} {l : Launch} {e : Env} {R : Room} {s : State} {m : MethodId} {args : Array Value} {below : List Frame} {meth : Method} {c : Code} {Q : State → Prop} {D : va_G} {A : Nat → Prop} {as0 : List Nat} {X : Nat → Option Nat} {n0 z0 : Nat} {E : mj_E}
variable {cc : ByteArray} {own nL d : Nat} {ini : Bool} {rt : Option FieldType} {sp : Nat → Nat} {r : Option Value} {h' : mj_H} {go : Nat → mj_L → List Value → mj_H → mj_R} {call bi : Nat → List Value → mj_H → mj_R}
theorem mj_callB {mm : Nat} (hm : mm < mj_n) {mc ms : Nat} {dd k : Nat} (C : mj_Cx p R s m args meth c D A X E own ini (dd + 1) nL cc) : ((mj_rm dd mc ms).cells = mc ∧ (mj_rm dd mc ms).slots = ms ∧ (mj_rm dd mc ms).frames + 1 ≤ R.frames ∧ 8 + ((mj_meth mm).2.2.1 + 11) + (mj_rm dd mc ms).locals ≤ R.locals ∧ (∀ w ∈ mj_ws mm, ∀ (a' : Array Value) (U : State), s.WarmedH U.vm → w.before a' U = true) ∧ Jvm.Cond.code (mj_yn mm) (mj_meth mm).2.1 (mj_meth mm).2.2.1 (mj_meth mm).2.2.2 ∈ mj_ws mm) ∧
    (Jvm.Cond.code (mj_yn mm) (mj_meth mm).2.1 (mj_meth mm).2.2.1 (mj_meth mm).2.2.2).before args s = true ∧ (Jvm.Cond.initialized (mj_yn mm).cls).before args s = true ∧ ((mj_yn mm).cls ≠ "java/lang/invoke/MethodHandle" ∧ (mj_yn mm).cls ≠ "java/lang/invoke/VarHandle") ∧ (∀ sig, parseMethodDescriptor (mj_yn mm).desc = some sig → (mj_dsc (mj_meth mm)).2 = sig.parameters.length) := by
  obtain ⟨hx, hb, hml, hown, hts, hK, hX, hZ, hA, hini, hfr, hlo, hE1⟩ := C
  obtain ⟨f1, f2, f3, f4, f5, f6, f7, f8⟩ := mj_fc hm
  refine ⟨⟨rfl, rfl, hfr, ?_, ?_, List.mem_cons_self⟩, hts _ f1, hts _ f5, ⟨(mj_cn_ne f6).1, (mj_cn_ne f6).2.1⟩, fun sig hsig => ?_⟩
  · show 8 + ((mj_meth mm).2.2.1 + 11) + 64 * (dd + 1) ≤ R.locals
    omega
  · intro w hw
    rcases List.mem_cons.mp hw with rfl | hw
    · exact mj_payT hts _ f1
    · exact mj_payT hts w hw
  · have hd : mj_dsc (mj_meth mm) ∈ mj_ds := by
      unfold mj_dsc
      rw [List.getD_eq_getElem?_getD, List.getElem?_eq_getElem f8]
      exact List.getElem_mem f8
    have h2 := mj_ds_ok _ hd
    have h3 : parseMethodDescriptor (mj_dsc (mj_meth mm)).1 = some sig := hsig
    rw [h3] at h2
    exact (Option.some.inj h2).symm
theorem mj_w_inv {mm k pc : Nat} {loc : mj_L} {st av r0 : List Value} {h h1 : mj_H} {r1 : Option Value} {dd : Nat} (hm : mm < mj_n) (C : mj_Cx p R s m args meth c D A X E own ini (dd + 1) nL cc) (hM : mj_Met l D mj_cl X E (mj_yn mm) (mj_ws mm) dd av h r1 h1)
    (hlk : mj_wq (0, own, k, mm) ∈ mj_Ts ∨ mj_wq (1, own, k, mm) ∈ mj_Ts) (hll : loc.length = nL) (hl1 : h.length ≤ h1.length) (hz1 : mj_siz h ≤ mj_siz h1) (hroom : mj_room R n0 z0 h1) (h4 : mj_le4 r0 = true)
    (hkind : ((mj_meth mm).1.2.2.2 = false ∧ mj_ini mm = false ∧ mj_rcv (mj_meth mm).1.1 av h = true ∧ av.length = (mj_dsc (mj_meth mm)).2 + 1 ∧ decode cc pc = .ok (.invokevirtual k, 3)) ∨ ((mj_meth mm).1.2.2.2 = false ∧ mj_ini mm = true ∧ (mj_meth mm).2.2.2 = none ∧ (∃ c0, mj_rcv c0 av h = true) ∧ av.length = (mj_dsc (mj_meth mm)).2 + 1 ∧ decode cc pc = .ok (.invokespecial k, 3)) ∨ ((mj_meth mm).1.2.2.2 = true ∧ av.length = (mj_dsc (mj_meth mm)).2 ∧ decode cc pc = .ok (.invokestatic k, 3)))
    (kk : mj_W p l e R s m args below meth c Q D mj_cl A s.heap as0 X n0 z0 (pc + 3) loc (r1.toList ++ r0) h1) : mj_W p l e R s m args below meth c Q D mj_cl A s.heap as0 X n0 z0 (pc) loc (av.reverse ++ r0) h := by
  intro hn hz as ls sw ws H locs ha hl hs hh hP hD hS
  obtain ⟨B1, B2, B3, B4, B5⟩ := mj_callB (mc := h1.length - h.length) (ms := mj_siz h1 - mj_siz h) (k := k) hm C
  have C0 := C
  obtain ⟨hx, hb, hml, hown, hts, hK, hX, hZ, hA, hini, hfr, hlo, hE1⟩ := C
  obtain ⟨f1, f2, f3, f4, f5, f6, f7, f8⟩ := mj_fc hm
  obtain ⟨s1, s2, rfl, hs1, hs2⟩ := mj_SR_app hs
  have hav : mj_SR as X av s1.reverse := by have := mj_SR_rev hs1; rwa [List.reverse_reverse] at this
  have hMM := hM as ws s1.reverse H.size hav
  have hcell : h.length - n0 + (h1.length - h.length) ≤ R.cells ∧ mj_siz h - z0 + (mj_siz h1 - mj_siz h) ≤ R.slots := by
    have r1 := hroom.1; have r2 := hroom.2
    constructor <;> omega
  have hsz : ls.size = nL := by rw [← hl.1]; exact hll
  have hw8 : 2 * (F0 m pc ls (s1 ++ s2)).monitorRoom + (s2.map fun v => v.category).sum ≤ 8 := by
    have := mj_le4_len h4 hs2
    simp [JFrame.monitorRoom]; omega
  have hlen : av.length = s1.length := by rw [mj_SR_len hav, List.length_reverse]
  have hpre := fun (sw : List Value) (U : State) (hU : U.heap = H) (hW : s.WarmedH U.vm) => mj_pre_of (sw := sw) hA hK hX hZ hE1 hh hP hD hS U hU hW
  rcases hkind with ⟨k1, k2, k3, k4, k5⟩ | ⟨k1, k2, k2b, k3, k4, k5⟩ | ⟨k1, k4, k5⟩
  · obtain ⟨b, As, e1, hrecv⟩ : ∃ b As, s1.reverse = .ref b :: As ∧ ∃ cellB : Cell, H[b]? = some cellB ∧ cellB.vm.isStatics = false ∧ s.vm.findClass (mj_yn mm).cls = some cellB.cls := by
      unfold mj_rcv at k3
      split at k3
      · rename_i k0 a'
        obtain ⟨b, As, e1, hb0, hAs⟩ := mj_SR_ref hav
        refine ⟨b, As, e1, ?_⟩
        split at k3
        · rename_i c' fs hcc
          have hcc : h[k0]? = some (.inr ((mj_meth mm).1.1, fs)) := by rw [hcc, eq_of_beq k3]
          obtain ⟨e3, hw, hcr⟩ := mj_HR_at hh hcc hb0
          obtain ⟨gs, rfl, -⟩ := mj_CR_obj hcr
          obtain ⟨rr, hr1, -⟩ := hP k0 _ hw
          have f6b : (mj_meth mm).1.1 < 13 := (List.getElem?_eq_some_iff.mp hr1).1
          exact va_recv hK hP (mj_cl_at f6b) hw
        · cases k3
      · rename_i k0 a'
        obtain ⟨b, As, e1, hb0, hAs⟩ := mj_SR_ext hav
        refine ⟨b, As, e1, ?_⟩
        simp only [Bool.and_eq_true, Bool.or_eq_true, beq_iff_eq] at k3
        have hnm : (mj_yn mm).cls = "java/lang/String" := by show mj_cn (mj_meth mm).1.1 = _; rw [k3.1]; rfl
        obtain ⟨-, ⟨adK, adV, z2, z3, -, -, -, -, zS⟩, -⟩ := hZ
        rw [hnm]
        rcases k3.2 with rfl | rfl
        · rw [z2] at hb0
          cases hb0
          exact vk_recv zS (by decide) hS
        · rw [z3] at hb0
          cases hb0
          exact vk_recv zS (by decide) hS
      · cases k3
    have e2 : s1 = As.reverse ++ [.ref b] := by rw [← List.reverse_reverse s1, e1]; simp
    have hAl : As.length = (mj_dsc (mj_meth mm)).2 := by
      have h5 := hlen
      rw [e2, List.length_append, List.length_reverse, k4] at h5
      simp only [List.length_cons, List.length_nil] at h5
      omega
    rw [e1] at hMM
    have hp : PreV s H (mj_yn mm).cls b (va_Pc (.ref b :: As) (mj_Pre D mj_cl X E as ws H.size h)) As := ⟨mj_blind, hrecv, fun U hU hW => hpre (.ref b :: As) U hU hW⟩
    have hst : s1 ++ s2 = As.reverse ++ .ref b :: s2 := by rw [e2]; simp
    rcases hlk with hlk | hlk
    · exact mj_back hA (va_runV (As := As) (rest := s2) ⟨hx, hb, hml, hown, hts⟩ hMM ⟨⟨B1.1, B1.2.1, B1.2.2.1, B1.2.2.2.1, B1.2.2.2.2.1, B1.2.2.2.2.2, B2, B3, B4, B5, hts _ hlk⟩, hts _ (f3 k1), hts _ (f4 k1 k2)⟩ hp rfl hAl hsz hst hw8 k5 hcell) hl1 hz1 kk hn hz ha hl hs2 hD hS
    · exact mj_back hA (va_runVN (As := As) (rest := s2) (host := "FarSide") ⟨hx, hb, hml, hown, hts⟩ hMM ⟨⟨B1, B2, B3, B4, B5, hts _ hlk⟩, hts _ (f3 k1), hts _ (f4 k1 k2)⟩ hp rfl hAl hsz hst hw8 k5 hcell) hl1 hz1 kk hn hz ha hl hs2 hD hS
  · obtain ⟨c0, k3⟩ := k3
    obtain ⟨b, As, e1⟩ : ∃ b As, s1.reverse = .ref b :: As := by
      unfold mj_rcv at k3
      split at k3
      · obtain ⟨b, As, e1, -, -⟩ := mj_SR_ref hav
        exact ⟨b, As, e1⟩
      · obtain ⟨b, As, e1, -, -⟩ := mj_SR_ext hav
        exact ⟨b, As, e1⟩
      · cases k3
    have e2 : s1 = As.reverse ++ [.ref b] := by rw [← List.reverse_reverse s1, e1]; simp
    have hAl : As.length = (mj_dsc (mj_meth mm)).2 := by
      have h5 := hlen
      rw [e2, List.length_append, List.length_reverse, k4] at h5
      simp only [List.length_cons, List.length_nil] at h5
      omega
    rw [e1] at hMM
    have hp : PreS s H (va_Pc (.ref b :: As) (mj_Pre D mj_cl X E as ws H.size h)) (.ref b :: As) := ⟨mj_blind, fun U hU hW => hpre (.ref b :: As) U hU hW⟩
    have hst : s1 ++ s2 = As.reverse ++ .ref b :: s2 := by rw [e2]; simp
    have hnm : (mj_yn mm).name = "<init>" := by simp [mj_yn, k2]
    rw [k2b] at B1 B2
    rcases hlk with hlk | hlk
    · exact mj_back hA (va_runI (As := As) (rest := s2) ⟨hx, hb, hml, hown, hts⟩ hMM ⟨⟨B1.1, B1.2.1, B1.2.2.1, B1.2.2.2.1, B1.2.2.2.2.1, B1.2.2.2.2.2, B2, B3, B4, B5, hts _ hlk⟩, hnm, hts _ (f3 k1)⟩ hp rfl hAl hsz hst hw8 k5 hcell) hl1 hz1 kk hn hz ha hl hs2 hD hS
    · exact mj_back hA (va_runIN (As := As) (rest := s2) (host := "FarSide") ⟨hx, hb, hml, hown, hts⟩ hMM ⟨⟨B1, B2, B3, B4, B5, hts _ hlk⟩, hnm, hts _ (f3 k1)⟩ hp rfl hAl hsz hst hw8 k5 hcell) hl1 hz1 kk hn hz ha hl hs2 hD hS
  · have hAl : s1.reverse.length = (mj_dsc (mj_meth mm)).2 := by rw [List.length_reverse, ← hlen, k4]
    have hp : PreS s H (va_Pc s1.reverse (mj_Pre D mj_cl X E as ws H.size h)) s1.reverse := ⟨mj_blind, fun U hU hW => hpre s1.reverse U hU hW⟩
    have hst : s1 ++ s2 = s1.reverse.reverse ++ s2 := by rw [List.reverse_reverse]
    rcases hlk with hlk | hlk
    · exact mj_back hA (va_runS (As := s1.reverse) (rest := s2) ⟨hx, hb, hml, hown, hts⟩ hMM ⟨⟨B1.1, B1.2.1, B1.2.2.1, B1.2.2.2.1, B1.2.2.2.2.1, B1.2.2.2.2.2, B2, B3, B4, B5, hts _ hlk⟩, hts _ (f2 k1)⟩ hp rfl hAl hsz hst hw8 k5 hcell) hl1 hz1 kk hn hz ha hl hs2 hD hS
    · exact mj_back hA (va_runSN (As := s1.reverse) (rest := s2) (host := "FarSide") ⟨hx, hb, hml, hown, hts⟩ hMM ⟨⟨B1, B2, B3, B4, B5, hts _ hlk⟩, hts _ (f2 k1), trivial⟩ hp rfl hAl hsz hst hw8 k5 hcell) hl1 hz1 kk hn hz ha hl hs2 hD hS
end MJX
