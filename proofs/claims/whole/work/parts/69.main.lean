/-! the main row: what a block answers, the real machine comes to -/
def mj_nj (i : Instr) : Bool := match i with
  | .nop => false
  | .jsr _ => false
  | _ => true
theorem mj_ck_ok {own : Nat} {ini : Bool} {rt : Option FieldType} {sp : Nat → Nat} {cc : ByteArray} {i : Instr} {x : List Nat} {v : Value} {is : List mj_I} {pc : Nat} (hn : mj_nj i = true) (hck : mj_ck own ini rt sp cc ((i, x, v) :: is) pc = true) : ∃ j len, decode cc pc = .ok (j, len) ∧ mj_ci own ini rt sp pc j len i x v = true ∧ mj_ck own ini rt sp cc is (pc + len) = true := by
  have key : (match decode cc pc with
      | .ok (j, len) => mj_ci own ini rt sp pc j len i x v && mj_ck own ini rt sp cc is (pc + len)
      | .error _ => false) = true := by
    cases i <;> first | exact hck | cases hn
  split at key
  · rename_i j len hd
    simp only [Bool.and_eq_true] at key
    exact ⟨j, len, hd, key.1, key.2⟩
  · cases key
theorem mj_siz_le (h : mj_H) (c : mj_C) : h.length ≤ (h ++ [c]).length ∧ mj_siz h ≤ mj_siz (h ++ [c]) := by
  rw [mj_siz_app]
  constructor
  · simp
  · omega
theorem mj_ast_sz {t : Nat} {st st' : List Value} {h h1 : mj_H} (hx : mj_ast t st h = some (st', h1)) : h1.length = h.length ∧ mj_siz h1 = mj_siz h := by
  unfold mj_ast at hx
  split at hx
  · split at hx
    · rename_i hc
      split at hx
      · cases hx
        exact ⟨by simp, mj_siz_set hc rfl⟩
      · cases hx
    · cases hx
  · cases hx
theorem mj_last_sz {st st' : List Value} {h h1 : mj_H} (hx : mj_last st h = some (st', h1)) : h1.length = h.length ∧ mj_siz h1 = mj_siz h := by
  unfold mj_last at hx
  split at hx
  · split at hx
    · rename_i hc
      split at hx
      · cases hx
        exact ⟨by simp, mj_siz_set hc rfl⟩
      · cases hx
    · cases hx
  · cases hx
theorem mj_aast_sz {t : Nat} {st st' : List Value} {h h1 : mj_H} (hx : mj_aast t st h = some (st', h1)) : h1.length = h.length ∧ mj_siz h1 = mj_siz h := by
  unfold mj_aast at hx
  split at hx
  · split at hx
    · rename_i hc
      split at hx
      · cases hx
        exact ⟨by simp, mj_siz_set hc rfl⟩
      · cases hx
    · cases hx
  · split at hx
    · rename_i hc hq
      split at hx
      · cases hx
        exact ⟨by simp, mj_siz_set hc rfl⟩
      · cases hx
    · cases hx
  · cases hx
theorem mj_put_sz {c f kd : Nat} {st st' : List Value} {h h1 : mj_H} (hx : mj_put c f kd st h = some (st', h1)) : h1.length = h.length ∧ mj_siz h1 = mj_siz h := by
  unfold mj_put at hx
  split at hx
  · split at hx
    · rename_i hc
      split at hx
      · cases hx
        exact ⟨by simp, mj_siz_set hc (by simp [mj_sz])⟩
      · cases hx
    · cases hx
  · cases hx
theorem mj_newa_sz {t : Nat} {st st' : List Value} {h h1 : mj_H} (hx : mj_newa t st h = some (st', h1)) : h.length ≤ h1.length ∧ mj_siz h ≤ mj_siz h1 := by
  obtain ⟨n, r, -, -, -, -, rfl⟩ := mj_newa_inv hx
  exact mj_siz_le _ _
theorem mj_wq2 {own k c f : Nat} (hf : f < 100) : mj_wq (2, own, k, 100 * c + f) = Jvm.Cond.fieldLink (mj_cn own) k ((mj_cc c).2.1 f).1 ((mj_cc c).2.1 f).2.1 ((mj_cc c).2.1 f).2.2.1 := by
  show Jvm.Cond.fieldLink (mj_cn own) k ((mj_cc ((100 * c + f) / 100)).2.1 ((100 * c + f) % 100)).1 _ _ = _
  rw [show (100 * c + f) / 100 = c by omega, show (100 * c + f) % 100 = f by omega]
theorem mj_wq3 {own k c f : Nat} (hf : f < 100) : mj_wq (3, own, k, 100 * c + f) = Jvm.Cond.fieldLinkNest (mj_cn own) k ((mj_cc c).2.1 f).1 ((mj_cc c).2.1 f).2.1 ((mj_cc c).2.1 f).2.2.1 "FarSide" := by
  show Jvm.Cond.fieldLinkNest (mj_cn own) k ((mj_cc ((100 * c + f) / 100)).2.1 ((100 * c + f) % 100)).1 _ _ "FarSide" = _
  rw [show (100 * c + f) / 100 = c by omega, show (100 * c + f) % 100 = f by omega]
theorem mj_i32 (x : Int32) : Int32.ofNat x.toUInt32.toNat = x := by
  apply Int32.toInt_inj.mp
  have : x.toUInt32.toNat = x.toBitVec.toNat := rfl
  rw [this]
  show (Int32.ofNat x.toBitVec.toNat).toBitVec.toInt = x.toBitVec.toInt
  congr 1
  show BitVec.ofNat 32 x.toBitVec.toNat = x.toBitVec
  simp
theorem mj_i64 (x : Int64) : Int64.ofNat x.toUInt64.toNat = x := by
  apply Int64.toInt_inj.mp
  have : x.toUInt64.toNat = x.toBitVec.toNat := rfl
  rw [this]
  show (Int64.ofNat x.toBitVec.toNat).toBitVec.toInt = x.toBitVec.toInt
  congr 1
  show BitVec.ofNat 64 x.toBitVec.toNat = x.toBitVec
  simp
theorem mj_wdi {u own k : Nat} {z : Int32} (h : mj_wd u 11 own k z.toUInt32.toNat = true) : Jvm.Cond.constant (mj_cn own) k z ∈ mj_Ts := by
  have h2 : Jvm.Cond.constant (mj_cn own) k (Int32.ofNat z.toUInt32.toNat) ∈ mj_Ts := mj_wd_in h
  rw [mj_i32] at h2
  exact h2
theorem mj_wdl {u own k : Nat} {z : Int64} (h : mj_wd u 12 own k z.toUInt64.toNat = true) : Jvm.Cond.constantLong (mj_cn own) k z ∈ mj_Ts := by
  have h2 : Jvm.Cond.constantLong (mj_cn own) k (Int64.ofNat z.toUInt64.toNat) ∈ mj_Ts := mj_wd_in h
  rw [mj_i64] at h2
  exact h2
section MJY
variable {p : Program} {l : Launch} {e : Env} {R : Room} {s : State} {m : MethodId} {args : Array Value} {below : List Frame} {meth : Method} {c : Code} {Q : State → Prop} {D : va_G} {A : Nat → Prop} {as0 : List Nat} {X : Nat → Option Nat} {n0 z0 : Nat} {E : mj_E}
variable {cc : ByteArray} {own nL d : Nat} {ini : Bool} {rt : Option FieldType} {sp : Nat → Nat} {r : Option Value} {h' : mj_H} {go : Nat → mj_L → List Value → mj_H → mj_R} {call bi : Nat → List Value → mj_H → mj_R}
variable {pc len : Nat} {j : Instr} {loc : mj_L} {st st' : List Value} {h h1 : mj_H} {x : List Nat} {v : Value} {is : List mj_I}
theorem mj_w_getsI (hx : p.tables.exec = Jvm.exec) (hb : c.code = cc) {own0 C n dd : String} {index : Nat} {z : Int32} (hown : s.vm.findClass own0 = some m.cls) (hZ : va_Z C n dd (.int z) A s s.heap) (hlink : (Jvm.Cond.fieldLink own0 index C n dd).before args s = true) (hdg : decode cc pc = .ok (.getstatic index, 3)) (k : mj_W p l e R s m args below meth c Q D mj_cl A s.heap as0 X n0 z0 (pc + 3) loc (.int z :: st) h) : mj_W p l e R s m args below meth c Q D mj_cl A s.heap as0 X n0 z0 (pc) loc st h := by
  intro hn hz as ls sw ws H locs ha hl hs hh hP hD hS
  exact va_gets hx hb hZ hS hown hlink (fun _ z => z) hdg (k hn hz as ls _ ws H locs ha hl (mj_SR_put rfl hs) hh hP hD hS)
theorem mj_x_ldc {k : Nat} (C : mj_Cx p R s m args meth c D A X E own ini d nL cc) (hdg : decode cc pc = .ok (j, len)) (hci : mj_ci own ini rt sp pc j len (.ldc k) x v = true) (K : mj_W p l e R s m args below meth c Q D mj_cl A s.heap as0 X n0 z0 (pc + len) loc (v :: st) h) : mj_W p l e R s m args below meth c Q D mj_cl A s.heap as0 X n0 z0 (pc) loc st h := by
  obtain ⟨hx, hb, hml, hown, hts, hK, hX, hZ, hA, hini, hfr, hlo, hE1⟩ := C
  replace hci : mj_cst own k (x.getD 0 0) j len v = true := hci
  unfold mj_cst at hci
  split at hci
  · rename_i z
    split at hci <;> (try simp only [Bool.and_eq_true, beq_iff_eq, decide_eq_true_eq] at hci)
    · obtain ⟨rfl, hv⟩ := hci; exact mj_w_iconst hx hb hdg hv K
    · obtain ⟨rfl, hv⟩ := hci; exact mj_w_bipush hx hb hdg hv K
    · obtain ⟨rfl, hv⟩ := hci; exact mj_w_sipush hx hb hdg hv K
    · obtain ⟨⟨rfl, rfl⟩, hv⟩ := hci
      exact mj_w_ldc hx hb hown (hts _ (mj_wdi hv)) hdg K
    · obtain ⟨⟨rfl, rfl⟩, hv⟩ := hci
      exact mj_w_ldc_w hx hb hown (hts _ (mj_wdi hv)) hdg K
    · obtain ⟨⟨⟨rfl, rfl⟩, rfl⟩, hv⟩ := hci
      exact mj_w_getsI hx hb hown hZ.2.2.1 (hts _ (mj_wd_in hv)) hdg K
    · cases hci
  · rename_i z
    split at hci <;> (try simp only [Bool.and_eq_true, beq_iff_eq, decide_eq_true_eq] at hci)
    · obtain ⟨rfl, hv⟩ := hci; exact mj_w_lconst hx hb hdg hv K
    · obtain ⟨⟨rfl, rfl⟩, hv⟩ := hci
      exact mj_w_ldc2_w hx hb hown (hts _ (mj_wdl hv)) hdg K
    · cases hci
  · split at hci
    · rw [beq_iff_eq] at hci
      subst hci
      exact mj_w_null hx hb hdg K
    · cases hci
  · split at hci <;> (try simp only [Bool.and_eq_true, Bool.or_eq_true, beq_iff_eq, decide_eq_true_eq] at hci)
    · obtain ⟨⟨⟨rfl, rfl⟩, rfl⟩, hz⟩ := hci
      obtain ⟨-, ⟨adK, adV, z3, z4, -, -, z5, z6, -⟩, -⟩ := hZ
      rcases hz with ⟨rfl, rfl⟩ | ⟨rfl, rfl⟩
      · exact mj_w_ldcS (own := "FarSide$Tape") hx hb hown z3 z5 hdg K
      · exact mj_w_ldcS (own := "FarSide$Tape") hx hb hown z4 z6 hdg K
    · obtain ⟨⟨⟨rfl, rfl⟩, rfl⟩, hv⟩ := hci
      obtain ⟨⟨q, z1, z2⟩, -⟩ := hZ
      exact mj_w_gets hx hb hown z1 rfl z2 (hts _ (mj_wd_in hv)) hdg K
    · cases hci
  · split at hci <;> (try simp only [Bool.and_eq_true, Bool.or_eq_true, beq_iff_eq, decide_eq_true_eq] at hci)
    · obtain ⟨⟨rfl, rfl⟩, hv⟩ := hci
      obtain ⟨-, -, -, ⟨q, z1, z2⟩, -⟩ := hZ
      intro hn hz as ls sw ws H locs ha hl hs hh hP hD hS
      exact va_gets hx hb z2 hS hown (hts _ (mj_wd_in hv)) (fun _ z => z) hdg (K hn hz as ls _ ws H locs ha hl (mj_SR_put (Option.map_eq_some_iff.mpr ⟨q, z1, rfl⟩) hs) hh hP hD hS)
    · cases hci
  · cases hci
theorem mj_d_iload {k : Nat} (hdg : decode cc pc = .ok (j, len)) (hci : mj_ci own ini rt sp pc j len (.iload k) x v = true) : (decode cc pc = .ok (.iload k, 2) ∧ len = 2) ∨ ∃ f : Fin 4, (f : Nat) = k ∧ decode cc pc = .ok (.iload_n f, 1) ∧ len = 1 := by
  unfold mj_ci at hci
  dsimp only at hci
  split at hci <;> (try simp only [Bool.and_eq_true, beq_iff_eq] at hci)
  · obtain ⟨rfl, rfl⟩ := hci; exact Or.inl ⟨hdg, rfl⟩
  · obtain ⟨rfl, rfl⟩ := hci; exact Or.inr ⟨_, rfl, hdg, rfl⟩
  · cases hci
theorem mj_d_istore {k : Nat} (hdg : decode cc pc = .ok (j, len)) (hci : mj_ci own ini rt sp pc j len (.istore k) x v = true) : (decode cc pc = .ok (.istore k, 2) ∧ len = 2) ∨ ∃ f : Fin 4, (f : Nat) = k ∧ decode cc pc = .ok (.istore_n f, 1) ∧ len = 1 := by
  unfold mj_ci at hci
  dsimp only at hci
  split at hci <;> (try simp only [Bool.and_eq_true, beq_iff_eq] at hci)
  · obtain ⟨rfl, rfl⟩ := hci; exact Or.inl ⟨hdg, rfl⟩
  · obtain ⟨rfl, rfl⟩ := hci; exact Or.inr ⟨_, rfl, hdg, rfl⟩
  · cases hci
theorem mj_d_lload {k : Nat} (hdg : decode cc pc = .ok (j, len)) (hci : mj_ci own ini rt sp pc j len (.lload k) x v = true) : (decode cc pc = .ok (.lload k, 2) ∧ len = 2) ∨ ∃ f : Fin 4, (f : Nat) = k ∧ decode cc pc = .ok (.lload_n f, 1) ∧ len = 1 := by
  unfold mj_ci at hci
  dsimp only at hci
  split at hci <;> (try simp only [Bool.and_eq_true, beq_iff_eq] at hci)
  · obtain ⟨rfl, rfl⟩ := hci; exact Or.inl ⟨hdg, rfl⟩
  · obtain ⟨rfl, rfl⟩ := hci; exact Or.inr ⟨_, rfl, hdg, rfl⟩
  · cases hci
theorem mj_d_lstore {k : Nat} (hdg : decode cc pc = .ok (j, len)) (hci : mj_ci own ini rt sp pc j len (.lstore k) x v = true) : (decode cc pc = .ok (.lstore k, 2) ∧ len = 2) ∨ ∃ f : Fin 4, (f : Nat) = k ∧ decode cc pc = .ok (.lstore_n f, 1) ∧ len = 1 := by
  unfold mj_ci at hci
  dsimp only at hci
  split at hci <;> (try simp only [Bool.and_eq_true, beq_iff_eq] at hci)
  · obtain ⟨rfl, rfl⟩ := hci; exact Or.inl ⟨hdg, rfl⟩
  · obtain ⟨rfl, rfl⟩ := hci; exact Or.inr ⟨_, rfl, hdg, rfl⟩
  · cases hci
theorem mj_d_aload {k : Nat} (hdg : decode cc pc = .ok (j, len)) (hci : mj_ci own ini rt sp pc j len (.aload k) x v = true) : (decode cc pc = .ok (.aload k, 2) ∧ len = 2) ∨ ∃ f : Fin 4, (f : Nat) = k ∧ decode cc pc = .ok (.aload_n f, 1) ∧ len = 1 := by
  unfold mj_ci at hci
  dsimp only at hci
  split at hci <;> (try simp only [Bool.and_eq_true, beq_iff_eq] at hci)
  · obtain ⟨rfl, rfl⟩ := hci; exact Or.inl ⟨hdg, rfl⟩
  · obtain ⟨rfl, rfl⟩ := hci; exact Or.inr ⟨_, rfl, hdg, rfl⟩
  · cases hci
theorem mj_d_astore {k : Nat} (hdg : decode cc pc = .ok (j, len)) (hci : mj_ci own ini rt sp pc j len (.astore k) x v = true) : (decode cc pc = .ok (.astore k, 2) ∧ len = 2) ∨ ∃ f : Fin 4, (f : Nat) = k ∧ decode cc pc = .ok (.astore_n f, 1) ∧ len = 1 := by
  unfold mj_ci at hci
  dsimp only at hci
  split at hci <;> (try simp only [Bool.and_eq_true, beq_iff_eq] at hci)
  · obtain ⟨rfl, rfl⟩ := hci; exact Or.inl ⟨hdg, rfl⟩
  · obtain ⟨rfl, rfl⟩ := hci; exact Or.inr ⟨_, rfl, hdg, rfl⟩
  · cases hci
end MJY
