/-! making cells, fields, constants from outside -/
theorem mj_RA_same {U : State} {c1 c2 : ClassId} {ty : FieldType} (h1 : va_RA U c1 ty) (h2 : va_RA U c2 ty) : c1 = c2 := by
  cases ty with
  | object C =>
    obtain ⟨_, _, _, _, _, e1⟩ := h1
    obtain ⟨_, _, _, _, _, e2⟩ := h2
    exact Option.some.inj (e1.symm.trans e2)
  | _ => exact Option.some.inj ((show U.vm.findClass _ = some c1 from h1).symm.trans (show U.vm.findClass _ = some c2 from h2))
theorem mj_K_last {D : va_G} {cl : List vw_C} {U : State} {cA : ClassId} {ty : FieldType} (hK : va_K D cl ([] ++ [(cA, ty)]) U) : ArrOfT U cA ty ∧ va_RA U cA ty := hK.2 0 (cA, ty) rfl
theorem mj_newa_inv {t : Nat} {st st' : List Value} {h h' : mj_H} (hex : mj_newa t st h = some (st', h')) : ∃ n r, st = .int n :: r ∧ 0 ≤ n.toInt ∧ n.toInt ≤ 100000 ∧ st' = .ref h.length :: r ∧ h' = h ++ [.inl (t, n.toNatClampNeg, if t = 3 then .inr (.inl (fun _ => 0)) else if t = 4 then .inr (.inr (.inr (.inr (fun _ => none)))) else .inl (fun _ => 0))] := by
  unfold mj_newa at hex
  split at hex
  · rename_i n r
    split at hex
    · rename_i hn
      cases hex
      exact ⟨n, r, rfl, hn.1, hn.2, rfl, rfl⟩
    · cases hex
  · cases hex
theorem mj_CR_mo {U : State} {as : List Nat} {X : Nat → Option Nat} {ci : Nat} {fs gs : List Value} (h : mj_SR as X fs gs) : mj_CR U as X (.inr (ci, fs)) (.inr (ci, gs)) := ⟨rfl, h⟩
section MJW
variable {p : Program} {l : Launch} {e : Env} {R : Room} {s : State} {m : MethodId} {args : Array Value} {below : List Frame} {meth : Method} {c : Code} {Q : State → Prop} {D : va_G} {cl : List vw_C} {A : Nat → Prop} {H0 : Heap} {as0 : List Nat} {X : Nat → Option Nat} {n0 z0 : Nat}
variable {cc : ByteArray} {pc : Nat} {loc loc' : mj_L} {st st' : List Value} {h h' : mj_H}
theorem mj_W_more {h1 : mj_H} {c1 : mj_C} (hh1 : h1 = h ++ [c1]) {k : Nat} (hk : mj_sz c1 = k) {pc' : Nat} (kk : mj_W p l e R s m args below meth c Q D cl A H0 as0 X n0 z0 (pc') loc st' h1) : n0 ≤ h.length → z0 ≤ mj_siz h → ∀ (as : List Nat) (ls : Array Slot) (sw : List Value) (ws : va_W) (H : Heap) (locs : List Loc), as0 <+: as → mj_LR as X loc ls → mj_SR as X st' sw → mj_HR s as X h1 ws → va_P D cl ws H → va_D A ws → va_S A H0 H locs → W p l e R s m args below meth c H locs (h.length - n0 + 1) (mj_siz h - z0 + k) Q (F0 m pc' ls sw) := by
  intro hn hz as ls sw ws H locs ha hl hs hh hP hD hS
  subst hh1
  subst hk
  have z1 : mj_siz (h ++ [c1]) = mj_siz h + mj_sz c1 := mj_siz_app h c1
  have z2 : (h ++ [c1]).length = h.length + 1 := by simp
  have K := kk (by omega) (by omega) as ls sw ws H locs ha hl hs hh hP hD hS
  rw [z1, z2] at K
  rw [show h.length - n0 + 1 = h.length + 1 - n0 by omega, show mj_siz h - z0 + mj_sz c1 = mj_siz h + mj_sz c1 - z0 by omega]
  exact K
theorem mj_toNat {n : Int32} (h1 : 0 ≤ n.toInt) (h2 : n.toInt ≤ 100000) : ¬ n < 0 ∧ n.toNatClampNeg ≤ 100000 := by
  refine ⟨fun q => ?_, ?_⟩
  · have := Int32.lt_iff_toInt_lt.mp q
    rw [Int32.toInt_zero] at this
    omega
  · have : (n.toNatClampNeg : Int) = n.toInt.toNat := rfl
    omega
theorem mj_as_len {U : State} {as : List Nat} {h : mj_H} {ws : va_W} (hh : mj_HR U as X h ws) : as.length = h.length := by
  rw [← hh.1, hh.2.1, List.length_map]
theorem mj_mv_last {U : State} {as : List Nat} {h : mj_H} {ws : va_W} {a : Nat} (hh : mj_HR U as X h ws) : mj_mv (as ++ [a]) X (.ref h.length) = some (.ref a) := by
  have e : (as ++ [a])[h.length]? = some a := by rw [← mj_as_len hh]; simp
  exact Option.map_eq_some_iff.mpr ⟨a, e, rfl⟩
theorem mj_w_newarr0 (hx : p.tables.exec = Jvm.exec) (hb : c.code = cc) (hK : va_K D cl [] s) (hroom : h'.length - n0 ≤ R.cells ∧ mj_siz h' - z0 ≤ R.slots) (hA : ∀ q, H0.size ≤ q → A q) (harr : (Jvm.Cond.arrayClass (newarray.typeOf .int)).before args s = true) (hdg : decode cc pc = .ok (.newarray .int, 2)) (hex : mj_newa 0 st h = some (st', h')) (k : mj_W p l e R s m args below meth c Q D cl A H0 as0 X n0 z0 (pc + 2) loc st' h') : mj_W p l e R s m args below meth c Q D cl A H0 as0 X n0 z0 (pc) loc st h := by
  obtain ⟨n, r, rfl, h1, h2, rfl, rfl⟩ := mj_newa_inv hex
  obtain ⟨h3, h4⟩ := mj_toNat h1 h2
  intro hn hz as ls sw ws H locs ha hl hs hh hP hD hS
  obtain ⟨s1, rfl, hs1⟩ := mj_SR_int hs
  have z1 := mj_siz_app h (.inl (0, n.toNatClampNeg, .inl (fun _ => 0)))
  have hr1 := hroom.1
  have hr2 := hroom.2
  rw [List.length_append] at hr1
  rw [mj_siz_app] at hr2
  have e1 : ([Sum.inl (0, n.toNatClampNeg, .inl (fun _ => 0))] : mj_H).length = 1 := rfl
  have hr2 : mj_siz h + n.toNatClampNeg - z0 ≤ R.slots := hr2
  have hr1 : h.length + 1 - n0 ≤ R.cells := hr1
  refine va_newa (atype := .int) (ty := .int) (a0 := (n.toNatClampNeg, .inl (fun _ => 0))) (N' := n.toNatClampNeg) hx hb harr rfl hK hP hD hS hA (fun cA => rfl) h3 rfl (by show n.toNatClampNeg * 4 ≤ 536870912; omega) (by omega) (by omega) hdg (fun q cA H1 hK1 hP1 hD1 hS1 => ?_)
  have hpre : as <+: as ++ [q] := List.prefix_append as [q]
  obtain ⟨t1, t2⟩ := mj_K_last hK1
  exact mj_W_more rfl rfl k hn hz (as ++ [q]) ls _ _ H1 locs (ha.trans hpre) (mj_LR_mono hpre hl) (mj_SR_put (mj_mv_last hh) (mj_SR_mono hpre hs1)) (mj_HR_app hh (by exact mj_CR_mk rfl rfl t1 t2)) hP1 hD1 hS1
theorem mj_w_newarr1 (hx : p.tables.exec = Jvm.exec) (hb : c.code = cc) (hK : va_K D cl [] s) (hroom : h'.length - n0 ≤ R.cells ∧ mj_siz h' - z0 ≤ R.slots) (hA : ∀ q, H0.size ≤ q → A q) (harr : (Jvm.Cond.arrayClass (newarray.typeOf .char)).before args s = true) (hdg : decode cc pc = .ok (.newarray .char, 2)) (hex : mj_newa 1 st h = some (st', h')) (k : mj_W p l e R s m args below meth c Q D cl A H0 as0 X n0 z0 (pc + 2) loc st' h') : mj_W p l e R s m args below meth c Q D cl A H0 as0 X n0 z0 (pc) loc st h := by
  obtain ⟨n, r, rfl, h1, h2, rfl, rfl⟩ := mj_newa_inv hex
  obtain ⟨h3, h4⟩ := mj_toNat h1 h2
  intro hn hz as ls sw ws H locs ha hl hs hh hP hD hS
  obtain ⟨s1, rfl, hs1⟩ := mj_SR_int hs
  have z1 := mj_siz_app h (.inl (1, n.toNatClampNeg, .inl (fun _ => 0)))
  have hr1 := hroom.1
  have hr2 := hroom.2
  rw [List.length_append] at hr1
  rw [mj_siz_app] at hr2
  have e1 : ([Sum.inl (1, n.toNatClampNeg, .inl (fun _ => 0))] : mj_H).length = 1 := rfl
  have hr2 : mj_siz h + n.toNatClampNeg - z0 ≤ R.slots := hr2
  have hr1 : h.length + 1 - n0 ≤ R.cells := hr1
  refine va_newa (atype := .char) (ty := .char) (a0 := (n.toNatClampNeg, .inl (fun _ => 0))) (N' := n.toNatClampNeg) hx hb harr rfl hK hP hD hS hA (fun cA => rfl) h3 rfl (by show n.toNatClampNeg * 2 ≤ 536870912; omega) (by omega) (by omega) hdg (fun q cA H1 hK1 hP1 hD1 hS1 => ?_)
  have hpre : as <+: as ++ [q] := List.prefix_append as [q]
  obtain ⟨t1, t2⟩ := mj_K_last hK1
  exact mj_W_more rfl rfl k hn hz (as ++ [q]) ls _ _ H1 locs (ha.trans hpre) (mj_LR_mono hpre hl) (mj_SR_put (mj_mv_last hh) (mj_SR_mono hpre hs1)) (mj_HR_app hh (by exact mj_CR_mk rfl rfl t1 t2)) hP1 hD1 hS1
theorem mj_w_newarr2 (hx : p.tables.exec = Jvm.exec) (hb : c.code = cc) (hK : va_K D cl [] s) (hroom : h'.length - n0 ≤ R.cells ∧ mj_siz h' - z0 ≤ R.slots) (hA : ∀ q, H0.size ≤ q → A q) (harr : (Jvm.Cond.arrayClass (newarray.typeOf .boolean)).before args s = true) (hdg : decode cc pc = .ok (.newarray .boolean, 2)) (hex : mj_newa 2 st h = some (st', h')) (k : mj_W p l e R s m args below meth c Q D cl A H0 as0 X n0 z0 (pc + 2) loc st' h') : mj_W p l e R s m args below meth c Q D cl A H0 as0 X n0 z0 (pc) loc st h := by
  obtain ⟨n, r, rfl, h1, h2, rfl, rfl⟩ := mj_newa_inv hex
  obtain ⟨h3, h4⟩ := mj_toNat h1 h2
  intro hn hz as ls sw ws H locs ha hl hs hh hP hD hS
  obtain ⟨s1, rfl, hs1⟩ := mj_SR_int hs
  have z1 := mj_siz_app h (.inl (2, n.toNatClampNeg, .inl (fun _ => 0)))
  have hr1 := hroom.1
  have hr2 := hroom.2
  rw [List.length_append] at hr1
  rw [mj_siz_app] at hr2
  have e1 : ([Sum.inl (2, n.toNatClampNeg, .inl (fun _ => 0))] : mj_H).length = 1 := rfl
  have hr2 : mj_siz h + n.toNatClampNeg - z0 ≤ R.slots := hr2
  have hr1 : h.length + 1 - n0 ≤ R.cells := hr1
  refine va_newa (atype := .boolean) (ty := .boolean) (a0 := (n.toNatClampNeg, .inl (fun _ => 0))) (N' := n.toNatClampNeg) hx hb harr rfl hK hP hD hS hA (fun cA => rfl) h3 rfl (by show n.toNatClampNeg * 1 ≤ 536870912; omega) (by omega) (by omega) hdg (fun q cA H1 hK1 hP1 hD1 hS1 => ?_)
  have hpre : as <+: as ++ [q] := List.prefix_append as [q]
  obtain ⟨t1, t2⟩ := mj_K_last hK1
  exact mj_W_more rfl rfl k hn hz (as ++ [q]) ls _ _ H1 locs (ha.trans hpre) (mj_LR_mono hpre hl) (mj_SR_put (mj_mv_last hh) (mj_SR_mono hpre hs1)) (mj_HR_app hh (by exact mj_CR_mk rfl rfl t1 t2)) hP1 hD1 hS1
theorem mj_w_newarr3 (hx : p.tables.exec = Jvm.exec) (hb : c.code = cc) (hK : va_K D cl [] s) (hroom : h'.length - n0 ≤ R.cells ∧ mj_siz h' - z0 ≤ R.slots) (hA : ∀ q, H0.size ≤ q → A q) (harr : (Jvm.Cond.arrayClass (newarray.typeOf .long)).before args s = true) (hdg : decode cc pc = .ok (.newarray .long, 2)) (hex : mj_newa 3 st h = some (st', h')) (k : mj_W p l e R s m args below meth c Q D cl A H0 as0 X n0 z0 (pc + 2) loc st' h') : mj_W p l e R s m args below meth c Q D cl A H0 as0 X n0 z0 (pc) loc st h := by
  obtain ⟨n, r, rfl, h1, h2, rfl, rfl⟩ := mj_newa_inv hex
  obtain ⟨h3, h4⟩ := mj_toNat h1 h2
  intro hn hz as ls sw ws H locs ha hl hs hh hP hD hS
  obtain ⟨s1, rfl, hs1⟩ := mj_SR_int hs
  have z1 := mj_siz_app h (.inl (3, n.toNatClampNeg, .inr (.inl (fun _ => 0))))
  have hr1 := hroom.1
  have hr2 := hroom.2
  rw [List.length_append] at hr1
  rw [mj_siz_app] at hr2
  have e1 : ([Sum.inl (3, n.toNatClampNeg, .inr (.inl (fun _ => 0)))] : mj_H).length = 1 := rfl
  have hr2 : mj_siz h + n.toNatClampNeg - z0 ≤ R.slots := hr2
  have hr1 : h.length + 1 - n0 ≤ R.cells := hr1
  refine va_newa (atype := .long) (ty := .long) (a0 := (n.toNatClampNeg, .inr (.inl (fun _ => 0)))) (N' := n.toNatClampNeg) hx hb harr rfl hK hP hD hS hA (fun cA => rfl) h3 rfl (by show n.toNatClampNeg * 8 ≤ 536870912; omega) (by omega) (by omega) hdg (fun q cA H1 hK1 hP1 hD1 hS1 => ?_)
  have hpre : as <+: as ++ [q] := List.prefix_append as [q]
  obtain ⟨t1, t2⟩ := mj_K_last hK1
  exact mj_W_more rfl rfl k hn hz (as ++ [q]) ls _ _ H1 locs (ha.trans hpre) (mj_LR_mono hpre hl) (mj_SR_put (mj_mv_last hh) (mj_SR_mono hpre hs1)) (mj_HR_app hh (by exact mj_CR_mk rfl rfl t1 t2)) hP1 hD1 hS1
theorem mj_w_anewarr (hx : p.tables.exec = Jvm.exec) (hb : c.code = cc) (hK : va_K D cl [] s) (hroom : h'.length - n0 ≤ R.cells ∧ mj_siz h' - z0 ≤ R.slots) (hA : ∀ q, H0.size ≤ q → A q) {own : String} {index : Nat} (hown : s.vm.findClass own = some m.cls) (hcl : (Jvm.Cond.classLink own index "FarSide$Text").before args s = true) (harr : (Jvm.Cond.arrayOver (.object "FarSide$Text")).before args s = true) (hdg : decode cc pc = .ok (.anewarray index, 3)) (hex : mj_newa 4 st h = some (st', h')) (k : mj_W p l e R s m args below meth c Q D cl A H0 as0 X n0 z0 (pc + 3) loc st' h') : mj_W p l e R s m args below meth c Q D cl A H0 as0 X n0 z0 (pc) loc st h := by
  obtain ⟨n, r, rfl, h1, h2, rfl, rfl⟩ := mj_newa_inv hex
  obtain ⟨h3, h4⟩ := mj_toNat h1 h2
  intro hn hz as ls sw ws H locs ha hl hs hh hP hD hS
  obtain ⟨s1, rfl, hs1⟩ := mj_SR_int hs
  have hr1 := hroom.1
  have hr2 := hroom.2
  rw [List.length_append] at hr1
  rw [mj_siz_app] at hr2
  have hr2 : mj_siz h + n.toNatClampNeg - z0 ≤ R.slots := hr2
  have hr1 : h.length + 1 - n0 ≤ R.cells := hr1
  refine va_newq (N' := n.toNatClampNeg) hx hb hown hcl (va_AO.of harr) hK hP hD hS hA h3 rfl (by omega) (by omega) (by omega) hdg (fun q cA H1 hK1 hP1 hD1 hS1 => ?_)
  have hpre : as <+: as ++ [q] := List.prefix_append as [q]
  obtain ⟨t1, t2⟩ := mj_K_last hK1
  exact mj_W_more rfl rfl k hn hz (as ++ [q]) ls _ _ H1 locs (ha.trans hpre) (mj_LR_mono hpre hl) (mj_SR_put (mj_mv_last hh) (mj_SR_mono hpre hs1)) (mj_HR_app hh (by exact mj_CR_mk rfl (fun _ => rfl) t1 t2)) hP1 hD1 hS1
theorem mj_w_new (hx : p.tables.exec = Jvm.exec) (hb : c.code = cc) {own C : String} {T : u_T} {N ci index : Nat} {Ts : List Jvm.Cond} (hts : ∀ w ∈ Ts, w.before args s = true) (hin : ∀ w ∈ u_ws C T N, w ∈ Ts) (hown : s.vm.findClass own = some m.cls) (hK : va_K D cl [] s) (hc : cl[ci]? = some (C, T, N)) (ty : Nat → FieldType) (hty : ∀ k, k < N → parseFieldDescriptor (T k).2.2.1 = some (ty k)) (hcl : (Jvm.Cond.classLink own index C).before args s = true) (hinst : (Jvm.Cond.instantiable C N).before args s = true) (hini : (Jvm.Cond.initialized C).before args s = true) {fs : List Value} (hfs : ∀ j, j < N → defaultValue (ty j) = vp_V fs j) (hfl : fs.length = N) (hfv : ∀ as, mj_SR as X fs fs) (hroom : (h ++ [Sum.inr (ci, fs)]).length - n0 ≤ R.cells ∧ mj_siz (h ++ [Sum.inr (ci, fs)]) - z0 ≤ R.slots) (hA : ∀ q, H0.size ≤ q → A q) (hdg : decode cc pc = .ok (.new index, 3)) (k : mj_W p l e R s m args below meth c Q D cl A H0 as0 X n0 z0 (pc + 3) loc (.ref h.length :: st) (h ++ [Sum.inr (ci, fs)])) : mj_W p l e R s m args below meth c Q D cl A H0 as0 X n0 z0 (pc) loc st h := by
  intro hn hz as ls sw ws H locs ha hl hs hh hP hD hS
  have hr1 := hroom.1
  have hr2 := hroom.2
  rw [List.length_append] at hr1
  rw [mj_siz_app] at hr2
  have hr2 : mj_siz h + fs.length - z0 ≤ R.slots := hr2
  have hr1 : h.length + 1 - n0 ≤ R.cells := hr1
  refine va_new (ci := ci) (fs := fs) hx hb hts hin ty hty hown hcl hinst hini hK hP hD hS hA hc hfs (by omega) (by omega) hdg (fun q H1 hP1 hD1 hS1 => ?_)
  have hpre : as <+: as ++ [q] := List.prefix_append as [q]
  exact mj_W_more (c1 := .inr (ci, fs)) rfl hfl k hn hz (as ++ [q]) ls _ _ H1 locs (ha.trans hpre) (mj_LR_mono hpre hl) (mj_SR_put (mj_mv_last hh) (mj_SR_mono hpre hs)) (mj_HR_app hh (mj_CR_mo (hfv _))) hP1 hD1 hS1
theorem mj_w_getfield (hx : p.tables.exec = Jvm.exec) (hb : c.code = cc) {own C : String} {T : u_T} {N ci f index : Nat} {Ts : List Jvm.Cond} (hts : ∀ w ∈ Ts, w.before args s = true) (hin : ∀ w ∈ u_ws C T N, w ∈ Ts) (hown : s.vm.findClass own = some m.cls) (hK : va_K D cl [] s) (hc : cl[ci]? = some (C, T, N)) (hci : ci ≠ 16) (hf : f < N) (hlink : (Jvm.Cond.fieldLink own index (T f).1 (T f).2.1 (T f).2.2.1).before args s = true ∨ ∃ host, (Jvm.Cond.fieldLinkNest own index (T f).1 (T f).2.1 (T f).2.2.1 host).before args s = true) (hdg : decode cc pc = .ok (.getfield index, 3)) (hex : mj_get ci f st h = some st') (k : mj_W p l e R s m args below meth c Q D cl A H0 as0 X n0 z0 (pc + 3) loc st' h) : mj_W p l e R s m args below meth c Q D cl A H0 as0 X n0 z0 (pc) loc st h := by
  unfold mj_get at hex
  split at hex
  · rw [if_neg hci] at hex
    cases hex
  · rename_i q r
    split at hex
    · rename_i c' fs hcq
      split at hex
      · rename_i hcc
        subst hcc
        split at hex
        · rename_i v hv
          cases hex
          intro hn hz as ls sw ws H locs ha hl hs hh hP hD hS
          obtain ⟨a, s2, rfl, hq, hs2⟩ := mj_SR_ref hs
          obtain ⟨e2, hw, hcr⟩ := mj_HR_at hh hcq hq
          obtain ⟨gs, rfl, hgs⟩ := mj_CR_obj hcr
          obtain ⟨v2, hv2, hmv⟩ := mj_SR_get hgs hv
          have K := k hn hz as ls _ ws H locs ha hl (mj_SR_put hmv hs2) hh hP hD hS
          rcases hlink with hlink | ⟨host, hlink⟩
          · exact va_get hx hb hts hin hown hK hP q hw hc f hf hlink (fun _ z => z) hv2 hdg K
          · exact va_getN hx hb hts hin hown hK hP q hw hc f hf hlink (fun _ z => z) hv2 hdg K
        · cases hex
      · cases hex
    · cases hex
  · cases hex
def mj_kd (ty : FieldType) : Nat := match ty with
  | .int => 0
  | .boolean => 1
  | .long => 2
  | .object _ => 3
  | .array _ => 3
  | _ => 9
theorem mj_fit_ok {as : List Nat} {kd : Nat} {v v2 : Value} {ty : FieldType} (hkd : mj_kd ty = kd) (h : mj_fit kd v = true) (hv : mj_mv as X v = some v2) : narrow ty v2 = v2 ∧ fits ty v2 = true := by
  subst hkd
  cases v <;> simp [mj_fit] at h
  · cases hv
    rename_i x
    rcases h with h | ⟨h, h2⟩
    · cases ty <;> first | exact ⟨rfl, rfl⟩ | exact absurd h (by simp [mj_kd])
    · cases ty <;> first | (rcases h2 with rfl | rfl <;> exact ⟨rfl, rfl⟩) | exact absurd h (by simp [mj_kd])
  · cases hv
    cases ty <;> first | exact ⟨rfl, rfl⟩ | exact absurd h (by simp [mj_kd])
  · cases hv
    cases ty <;> first | exact ⟨rfl, rfl⟩ | exact absurd h (by simp [mj_kd])
  · obtain ⟨a, -, rfl⟩ := Option.map_eq_some_iff.mp hv
    cases ty <;> first | exact ⟨rfl, rfl⟩ | exact absurd h (by simp [mj_kd])
theorem mj_w_putfield (hx : p.tables.exec = Jvm.exec) (hb : c.code = cc) {own C : String} {T : u_T} {N ci f index : Nat} {Ts : List Jvm.Cond} (hts : ∀ w ∈ Ts, w.before args s = true) (hin : ∀ w ∈ u_ws C T N, w ∈ Ts) (hown : s.vm.findClass own = some m.cls) (hK : va_K D cl [] s) (hc : cl[ci]? = some (C, T, N)) (hf : f < N) (hlink : (Jvm.Cond.fieldLink own index (T f).1 (T f).2.1 (T f).2.2.1).before args s = true ∨ ∃ host, (Jvm.Cond.fieldLinkNest own index (T f).1 (T f).2.1 (T f).2.2.1 host).before args s = true) (hnm : ∀ a, a < N → ∀ b, b < N → a ≠ b → (T a).2.1 ≠ (T b).2.1) (ty : Nat → FieldType) (hty : ∀ k, k < N → parseFieldDescriptor (T k).2.2.1 = some (ty k)) {kd : Nat} (hkd : mj_kd (ty f) = kd) (hfin : (T f).2.2.2 = false ∨ ((T f).2.2.2 = true ∧ meth.name = "<init>" ∧ (T f).1 = own ∧ (Jvm.Cond.fieldLink own index (T f).1 (T f).2.1 (T f).2.2.1).before args s = true)) (hdg : decode cc pc = .ok (.putfield index, 3)) (hex : mj_put ci f kd st h = some (st', h')) (k : mj_W p l e R s m args below meth c Q D cl A H0 as0 X n0 z0 (pc + 3) loc st' h') : mj_W p l e R s m args below meth c Q D cl A H0 as0 X n0 z0 (pc) loc st h := by
  unfold mj_put at hex
  split at hex
  · rename_i v q r
    split at hex
    · rename_i c' fs hcq
      split at hex
      · rename_i hcc
        obtain ⟨rfl, hfl, hfit⟩ := hcc
        cases hex
        intro hn hz as ls sw ws H locs ha hl hs hh hP hD hS
        obtain ⟨v2, s1, rfl, hv2, hs1⟩ := mj_SR_cons hs
        obtain ⟨a, s2, rfl, hq, hs2⟩ := mj_SR_ref hs1
        obtain ⟨e2, hw, hcr⟩ := mj_HR_at hh hcq hq
        obtain ⟨gs, rfl, hgs⟩ := mj_CR_obj hcr
        obtain ⟨hnar, hft⟩ := mj_fit_ok hkd hfit hv2
        have hgl : f < gs.length := by rw [← mj_SR_len hgs]; exact hfl
        have K := fun (H1 : Heap) (locs1 : List Loc) (hP1 : va_P D cl (ws.set q (a, .inr (c', gs.set f v2))) H1) (hD1 : va_D A (ws.set q (a, .inr (c', gs.set f v2)))) (hS1 : va_S A H0 H1 locs1) =>
          mj_W_same (h := h) (by simp) (by exact mj_siz_set hcq (by simp [mj_sz])) k hn hz as ls _ _ H1 locs1 ha hl hs2 (mj_HR_set hh hw (mj_CR_mo (mj_SR_set hgs hv2))) hP1 hD1 hS1
        rcases hfin with hfin | ⟨hfin, hin2, hdecl, hlk⟩
        · rcases hlink with hlink | ⟨host, hlink⟩
          · exact va_put hx hb hts hin ty hty hnm hown hK hP hD hS q hw hc f hf hlink (fun _ z => z) hfin (hty f hf) hnar hft hgl hdg K
          · exact va_putN hx hb hts hin ty hty hnm hown hK hP hD hS q hw hc f hf hlink (fun _ z => z) hfin (hty f hf) hnar hft hgl hdg K
        · exact va_putF hx hb hts hin ty hty hnm hown hK hP hD hS q hw hc f hf hlk (fun _ z => z) hfin hin2 hdecl (hty f hf) hnar hft hgl hdg K
      · cases hex
    · cases hex
  · cases hex
theorem mj_w_ldcS (hx : p.tables.exec = Jvm.exec) (hb : c.code = cc) {own tx : String} {index q j : Nat} (hown : s.vm.findClass own = some m.cls) (hX : X j = some q) (hZ : vk_R own index tx q s) (hdg : decode cc pc = .ok (.ldc index, 2)) (k : mj_W p l e R s m args below meth c Q D cl A H0 as0 X n0 z0 (pc + 2) loc (.retAddr j :: st) h) : mj_W p l e R s m args below meth c Q D cl A H0 as0 X n0 z0 (pc) loc st h := by
  intro hn hz as ls sw ws H locs ha hl hs hh hP hD hS
  exact va_ldcS hx hb hown hZ hdg (k hn hz as ls _ ws H locs ha hl (mj_SR_put (Option.map_eq_some_iff.mpr ⟨q, hX, rfl⟩) hs) hh hP hD hS)
theorem mj_w_gets (hx : p.tables.exec = Jvm.exec) (hb : c.code = cc) {own C n d : String} {index q j : Nat} (hown : s.vm.findClass own = some m.cls) (hX : X j = some q) (hH : H0 = s.heap) (hZ : va_Z C n d (.ref q) A s s.heap) (hlink : (Jvm.Cond.fieldLink own index C n d).before args s = true) (hdg : decode cc pc = .ok (.getstatic index, 3)) (k : mj_W p l e R s m args below meth c Q D cl A H0 as0 X n0 z0 (pc + 3) loc (.retAddr j :: st) h) : mj_W p l e R s m args below meth c Q D cl A H0 as0 X n0 z0 (pc) loc st h := by
  subst hH
  intro hn hz as ls sw ws H locs ha hl hs hh hP hD hS
  exact va_gets hx hb hZ hS hown hlink (fun _ z => z) hdg (k hn hz as ls _ ws H locs ha hl (mj_SR_put (Option.map_eq_some_iff.mpr ⟨q, hX, rfl⟩) hs) hh hP hD hS)
theorem mj_w_getX (hx : p.tables.exec = Jvm.exec) (hb : c.code = cc) {own o n d : String} {index q k f : Nat} {v w0 : Value} (hown : s.vm.findClass own = some m.cls) (hX : X k = some q) (hv : mj_xf k f = some v) (hw : ∀ as, mj_mv as X v = some w0) (hH : H0 = s.heap) (hE : va_OF o n d w0 q A s s.heap) (hlink : (Jvm.Cond.fieldLink own index o n d).before args s = true) (hdg : decode cc pc = .ok (.getfield index, 3)) (kk : mj_W p l e R s m args below meth c Q D cl A H0 as0 X n0 z0 (pc + 3) loc (v :: st) h) : mj_W p l e R s m args below meth c Q D cl A H0 as0 X n0 z0 (pc) loc (.retAddr k :: st) h := by
  subst hH
  intro hn hz as ls sw ws H locs ha hl hs hh hP hD hS
  obtain ⟨a, s2, rfl, hq, hs2⟩ := mj_SR_ext hs
  rw [hX] at hq
  cases hq
  exact vk_getf hx hb hE hS hown hlink (fun _ z => z) hdg (kk hn hz as ls _ ws H locs ha hl (mj_SR_put (hw as) hs2) hh hP hD hS)
theorem mj_w_castI (hx : p.tables.exec = Jvm.exec) (hb : c.code = cc) {own : String} {index q n : Nat} {x : (Nat → Int32) ⊕ (Nat → Int64) ⊕ (Nat → UInt32) ⊕ (Nat → UInt64) ⊕ (Nat → Option Nat)} (hown : s.vm.findClass own = some m.cls) (hlink : (Jvm.Cond.classLink own index "[I").before args s = true) (hc : h[q]? = some (.inl (0, n, x))) (hdg : decode cc pc = .ok (.checkcast index, 3)) (kk : mj_W p l e R s m args below meth c Q D cl A H0 as0 X n0 z0 (pc + 3) loc (.ref q :: st) h) : mj_W p l e R s m args below meth c Q D cl A H0 as0 X n0 z0 (pc) loc (.ref q :: st) h := by
  intro hn hz as ls sw ws H locs ha hl hs hh hP hD hS
  obtain ⟨a, s2, rfl, hq, hs2⟩ := mj_SR_ref hs
  obtain ⟨e2, hw, hcr⟩ := mj_HR_at hh hc hq
  obtain ⟨cA, b, rfl, har, ht1, ht2⟩ := mj_CR_arr hcr
  exact va_castA hx hb hown hlink hP q hw ht2 hdg (kk hn hz as ls _ ws H locs ha hl (mj_SR_put (Option.map_eq_some_iff.mpr ⟨a, hq, rfl⟩) hs2) hh hP hD hS)
theorem mj_w_kill {ks : List Nat} (k : mj_W p l e R s m args below meth c Q D cl A H0 as0 X n0 z0 (pc) (mj_kill ks loc) st h) : mj_W p l e R s m args below meth c Q D cl A H0 as0 X n0 z0 (pc) loc st h := fun hn hz as ls sw ws H locs ha hl hs hh hP hD hS => k hn hz as ls sw ws H locs ha (mj_LR_kill ks hl) hs hh hP hD hS
theorem mj_w_objInit (hx : p.tables.exec = Jvm.exec) (hb : c.code = cc) {own : String} {index : Nat} {j : Nat} (hown : s.vm.findClass own = some m.cls) (hml : c.maxLocals = loc.length) (hlink : (Jvm.Cond.methodLink own index Lib.objectInit).before args s = true) (hinst : (Jvm.Cond.instanceMethod Lib.objectInit).before args s = true) (hcode : (Jvm.Cond.code Lib.objectInit ⟨#[0xb1]⟩ 1 none).before args s = true) (hR : 1 ≤ R.frames ∧ 32 ≤ R.locals) (hst : st = []) (hdg : decode cc pc = .ok (.invokespecial index, 3)) (k : mj_W p l e R s m args below meth c Q D cl A H0 as0 X n0 z0 (pc + 3) loc [] h) : mj_W p l e R s m args below meth c Q D cl A H0 as0 X n0 z0 (pc) loc (.ref j :: st) h := by
  subst hst
  intro hn hz as ls sw ws H locs ha hl hs hh hP hD hS
  obtain ⟨a, s2, rfl, hq, hs2⟩ := mj_SR_ref hs
  have e2 := mj_SR_nil hs2
  subst e2
  exact W.objInit hx hb hown hlink hinst hcode rfl (by show ls.size = _; rw [hml, hl.1]) rfl hdg hR.1 (by have := hR.2; simp [JFrame.monitorRoom]; omega) (k hn hz as ls _ ws H locs ha hl hs2 hh hP hD hS)
end MJW
