/-! what codes mean, class and reference -/
/-- one code of the reference -/
def sr1 (A Kn : Int → Int) (o v : Int) (V : Int → Int) (n : Int) (T : Int → Int) (r : Int) : suT :=
    if o ≤ 1 then (if 0 ≤ n ∧ n < 330 ∧ 0 ≤ o ∧ (o = 0 ∨ 0 ≤ v ∧ v < 8) then some (up V n (if o = 0 then v else Kn v), n + 1, T, r) else none)
    else if o = 3 then (if 2 ≤ n ∧ n ≤ 330 ∧ 1 ≤ r ∧ r ≤ 330 then some (if T (r - 1) = 0 then up V (n - 1 - 1) (V (n - 1)) else V, n - 1, T, r - 1) else none)
    else if o ≤ 5 then (if 1 ≤ n ∧ n ≤ 330 then some (up V (n - 1) (r1 A o (V (n - 1))), n, T, r) else none)
    else if o < 10 then (if 2 ≤ n ∧ n ≤ 330 then some (up V (n - 1 - 1) (r2 o (V (n - 1 - 1)) (V (n - 1))), n - 1, T, r) else none)
    else if o < 20 then (if 2 ≤ n ∧ n ≤ 330 ∧ 0 ≤ r ∧ r < 330 ∧ o ≤ 15 then some (V, n - 2, up T r (rq o (V (n - 2)) (V (n - 2 + 1))), r + 1) else none)
    else if o = 20 then (if 1 ≤ r ∧ r ≤ 330 then some (V, n, up T (r - 1) (if T (r - 1) = 0 then 1 else 0), r) else none)
    else (if 2 ≤ r ∧ r ≤ 330 then some (V, n, up T (r - 1 - 1) (rj o (T (r - 1 - 1)) (T (r - 1))), r - 1) else none)
def sul (A Kn : Int → Int) : wT → (Int → Int) → Int → (Int → Int) → Int → suT
  | [], V, n, T, r => some (V, n, T, r)
  | p :: W, V, n, T, r => match sr1 A Kn p.1 p.2 V n T r with
    | some (V2, n2, T2, r2) => sul A Kn W V2 n2 T2 r2
    | none => none
theorem sul_app {A Kn : Int → Int} : ∀ (a b : wT) (V : Int → Int) (n : Int) (T : Int → Int) (r : Int) (V2 : Int → Int) (n2 : Int) (T2 : Int → Int) (r2 : Int), sul A Kn a V n T r = some (V2, n2, T2, r2) → sul A Kn (a ++ b) V n T r = sul A Kn b V2 n2 T2 r2
  | [], b, V, n, T, r, V2, n2, T2, r2, h => by
    have e : (V, n, T, r) = (V2, n2, T2, r2) := Option.some.inj h
    cases e
    rfl
  | p :: a, b, V, n, T, r, V2, n2, T2, r2, h => by
    have h' : (match sr1 A Kn p.1 p.2 V n T r with
      | some (V2, n2, T2, r2) => sul A Kn a V2 n2 T2 r2
      | none => none) = some (V2, n2, T2, r2) := h
    show (match sr1 A Kn p.1 p.2 V n T r with
      | some (V2, n2, T2, r2) => sul A Kn (a ++ b) V2 n2 T2 r2
      | none => none) = _
    generalize sr1 A Kn p.1 p.2 V n T r = q at *
    match q, h' with
    | some (V3, n3, T3, r3), h' => exact sul_app a b V3 n3 T3 r3 V2 n2 T2 r2 h'
theorem su_sul {A Kn tx : Int → Int} {cb : Int} : ∀ (W : wT) (k : Nat) (i : Int) (V : Int → Int) (n : Int) (T : Int → Int) (r : Int), TWx tx (cb + 2 * i) W → W.length ≤ k → su A Kn tx cb (i + W.length) k i V n T r = sul A Kn W V n T r
  | [], k, i, V, n, T, r, _, _ => by
    have e : (i + (([] : wT).length : Int)) ≤ i := by show i + ((0 : Nat) : Int) ≤ i; omega
    cases k with
    | zero => show (if _ then _ else _) = _; rw [if_pos e]; rfl
    | succ k => rw [su_s, if_pos e]; rfl
  | p :: W, 0, i, V, n, T, r, _, hk => by
    have : (p :: W).length = W.length + 1 := rfl
    omega
  | p :: W, k + 1, i, V, n, T, r, h, hk => by
    have hl : (p :: W).length = W.length + 1 := rfl
    have e : ¬ (i + ((p :: W).length : Int)) ≤ i := by omega
    have e2 : i + ((p :: W).length : Int) = i + 1 + (W.length : Int) := by omega
    have e3 : cb + 2 * i + 2 = cb + 2 * (i + 1) := by omega
    have h3 := h.2.2
    rw [e3] at h3
    have ih := fun V n T r => su_sul (A := A) (Kn := Kn) W k (i + 1) V n T r h3 (by omega)
    rw [su_s, if_neg e, h.1, h.2.1, e2]
    simp only [ih]
    show _ = (match sr1 A Kn p.1 p.2 V n T r with
      | some (V2, n2, T2, r2) => sul A Kn W V2 n2 T2 r2
      | none => none)
    unfold sr1
    by_cases y1 : p.1 ≤ 1
    · rw [if_pos y1, if_pos y1]
      by_cases z : 0 ≤ n ∧ n < 330 ∧ 0 ≤ p.1 ∧ (p.1 = 0 ∨ 0 ≤ p.2 ∧ p.2 < 8)
      · rw [if_pos z, if_pos z]
      · rw [if_neg z, if_neg z]
    rw [if_neg y1, if_neg y1]
    by_cases y2 : p.1 = 3
    · rw [if_pos y2, if_pos y2]
      by_cases z : 2 ≤ n ∧ n ≤ 330 ∧ 1 ≤ r ∧ r ≤ 330
      · rw [if_pos z, if_pos z]
      · rw [if_neg z, if_neg z]
    rw [if_neg y2, if_neg y2]
    by_cases y3 : p.1 ≤ 5
    · rw [if_pos y3, if_pos y3]
      by_cases z : 1 ≤ n ∧ n ≤ 330
      · rw [if_pos z, if_pos z]
      · rw [if_neg z, if_neg z]
    rw [if_neg y3, if_neg y3]
    by_cases y4 : p.1 < 10
    · rw [if_pos y4, if_pos y4]
      by_cases z : 2 ≤ n ∧ n ≤ 330
      · rw [if_pos z, if_pos z]
      · rw [if_neg z, if_neg z]
    rw [if_neg y4, if_neg y4]
    by_cases y5 : p.1 < 20
    · rw [if_pos y5, if_pos y5]
      by_cases z : 2 ≤ n ∧ n ≤ 330 ∧ 0 ≤ r ∧ r < 330 ∧ p.1 ≤ 15
      · rw [if_pos z, if_pos z]
      · rw [if_neg z, if_neg z]
    rw [if_neg y5, if_neg y5]
    by_cases y6 : p.1 = 20
    · rw [if_pos y6, if_pos y6]
      by_cases z : 1 ≤ r ∧ r ≤ 330
      · rw [if_pos z, if_pos z]
      · rw [if_neg z, if_neg z]
    rw [if_neg y6, if_neg y6]
    by_cases z : 2 ≤ r ∧ r ≤ 330
    · rw [if_pos z, if_pos z]
    · rw [if_neg z, if_neg z]
/-- the two worlds in which laws are asked -/
def EnvR (N F Kc A Kn : Int → Int) : Prop := (∀ v : Int, 0 ≤ v ∧ v < 8 → N v = mN A v ∧ 0 ≤ N v ∧ N v < 8) ∧ F 0 = A 0 ∧ (∀ v : Int, 0 ≤ v ∧ v < F 0 → pD F v = qD A v ∧ 0 ≤ pD F v ∧ pD F v ≤ 8) ∧ (Kc 0 = Kn 0 ∧ Kc 1 = Kn 2 ∧ Kc 2 = Kn 4 ∧ Kc 3 = Kn 1 ∧ Kc 4 = Kn 3 ∧ Kc 5 = Kn 5 ∧ Kc 6 = Kn 7 ∧ Kc 7 = Kn 6) ∧ ∀ j : Int, 0 ≤ j ∧ j < 8 → -1000000 ≤ Kc j ∧ Kc j ≤ 1000000
def CMv (N F Kc C : Int → Int) (a b f : Int) : Prop := ∀ C2 : Int → Int, (∀ j : Int, a ≤ j ∧ j < b → C2 j = C j) → ∀ (n : Int) (k : Nat) (S : Int → Int) (t : Int), b ≤ n → n ≤ 300 → n ≤ a + k → 0 ≤ t ∧ t ≤ a → ∃ (k2 : Nat) (S2 : Int → Int), wk N F Kc C2 n k a S t = wk N F Kc C2 n k2 b S2 (t + 1) ∧ n ≤ b + k2 ∧ S2 t = f ∧ ∀ j : Int, j < t → S2 j = S j
def RMv (A Kn : Int → Int) (rc : wT) (f : Int) : Prop := ∀ (V : Int → Int) (n : Int) (T : Int → Int) (r : Int), 0 ≤ n ∧ 0 ≤ r ∧ n + r + rc.length ≤ 320 → ∃ V2 T2 : Int → Int, sul A Kn rc V n T r = some (V2, n + 1, T2, r) ∧ V2 n = f ∧ (∀ j : Int, j < n → V2 j = V j) ∧ ∀ j : Int, j < r → T2 j = T j
def RMb (A Kn : Int → Int) (rc : wT) (f : Int) : Prop := ∀ (V : Int → Int) (n : Int) (T : Int → Int) (r : Int), 0 ≤ n ∧ 0 ≤ r ∧ n + r + rc.length ≤ 320 → ∃ V2 T2 : Int → Int, sul A Kn rc V n T r = some (V2, n, T2, r + 1) ∧ T2 r = f ∧ (∀ j : Int, j < n → V2 j = V j) ∧ ∀ j : Int, j < r → T2 j = T j
def CRg (C : Int → Int) (a b : Int) : Prop := ∀ j : Int, a ≤ j ∧ j < b → 0 ≤ C j ∧ C j ≤ 2147483647
/-- a stretch of codes means the same number in both -/
def SmV (C : Int → Int) (a b : Int) (rc : wT) : Prop := a < b ∧ 1 ≤ rc.length ∧ 0 ≤ a ∧ b ≤ 300 ∧ CRg C a b ∧ ∀ N F Kc A Kn : Int → Int, EnvR N F Kc A Kn → ∃ f : Int, -1000000 ≤ f ∧ f ≤ 1000000 ∧ CMv N F Kc C a b f ∧ RMv A Kn rc f
/-- .. the same truth -/
def SmB (C : Int → Int) (a b : Int) (rc : wT) : Prop := a < b ∧ 1 ≤ rc.length ∧ 0 ≤ a ∧ b ≤ 300 ∧ CRg C a b ∧ ∀ N F Kc A Kn : Int → Int, EnvR N F Kc A Kn → ∃ f : Int, (f = 0 ∨ f = 1) ∧ CMv N F Kc C a b f ∧ RMb A Kn rc f
theorem CMv_cg {N F Kc C D : Int → Int} {a b f : Int} (h : CMv N F Kc C a b f) (e : ∀ j : Int, a ≤ j ∧ j < b → D j = C j) : CMv N F Kc D a b f := fun C2 h2 => h C2 (fun j hj => by rw [h2 j hj, e j hj])
theorem CRg_cg {C D : Int → Int} {a b : Int} (h : CRg C a b) (e : ∀ j : Int, a ≤ j ∧ j < b → D j = C j) : CRg D a b := fun j hj => by rw [e j hj]; exact h j hj
theorem SmV_cg {C D : Int → Int} {a b : Int} {rc : wT} (h : SmV C a b rc) (e : ∀ j : Int, a ≤ j ∧ j < b → D j = C j) : SmV D a b rc := ⟨h.1, h.2.1, h.2.2.1, h.2.2.2.1, CRg_cg h.2.2.2.2.1 e, fun N F Kc A Kn he => by
  obtain ⟨f, f1, f2, f3, f4⟩ := h.2.2.2.2.2 N F Kc A Kn he
  exact ⟨f, f1, f2, CMv_cg f3 e, f4⟩⟩
theorem SmB_cg {C D : Int → Int} {a b : Int} {rc : wT} (h : SmB C a b rc) (e : ∀ j : Int, a ≤ j ∧ j < b → D j = C j) : SmB D a b rc := ⟨h.1, h.2.1, h.2.2.1, h.2.2.2.1, CRg_cg h.2.2.2.2.1 e, fun N F Kc A Kn he => by
  obtain ⟨f, f1, f3, f4⟩ := h.2.2.2.2.2 N F Kc A Kn he
  exact ⟨f, f1, CMv_cg f3 e, f4⟩⟩
theorem CRg_1 {C : Int → Int} {a b : Int} (h : CRg C a b) (hb : 0 ≤ C b ∧ C b ≤ 2147483647) : CRg C a (b + 1) := fun j hj => by
  by_cases e : j = b
  · rw [e]; exact hb
  · exact h j (by omega)
theorem CRg_app {C : Int → Int} {a m b : Int} (h : CRg C a m) (g : CRg C m b) : CRg C a b := fun j hj => by
  by_cases e : j < m
  · exact h j (by omega)
  · exact g j (by omega)
/-- a code that lays a number down -/
theorem CMv_ps {N F Kc C : Int → Int} {a f : Int} (hf : -1000000 ≤ f ∧ f ≤ 1000000) (h : ∀ (C2 : Int → Int) (n : Int) (k : Nat) (S : Int → Int) (t : Int), C2 a = C a → a < n → wk N F Kc C2 n (k + 1) a S t = wk N F Kc C2 n k (a + 1) (psS S t f) (psT t)) : CMv N F Kc C a (a + 1) f := fun C2 hC n k S t hb hn hk ht => by
  obtain ⟨k, rfl⟩ : ∃ q, k = q + 1 := ⟨k - 1, by omega⟩
  rw [h C2 n k S t (hC a (by omega)) (by omega)]
  have e1 : psT t = t + 1 := by unfold psT; rw [if_pos (by omega)]
  have e2 : psS S t f = up S t f := by unfold psS; rw [if_pos (by omega), wz_id (by omega)]
  rw [e1, e2]
  exact ⟨k, up S t f, rfl, by omega, up_e rfl, fun j hj => up_n (by omega)⟩
theorem SmV_num {C : Int → Int} {a v : Int} (ha : 0 ≤ a ∧ a < 300) (hv : 0 ≤ v ∧ v ≤ 9999) (hc : C a = 2 + 256 * v) : SmV C a (a + 1) [(0, v)] := ⟨by omega, Nat.le_refl 1, ha.1, by omega, fun j hj => by have e : j = a := (by omega); rw [e]; omega, fun N F Kc A Kn he => ⟨v, by omega, by omega, CMv_ps (by omega) (fun C2 n k S t e hn => by
  rw [wk_s, if_neg (by omega), if_pos (by omega), show C2 a / 256 = v by omega]), fun V n T r h => by
    refine ⟨up V n v, T, ?_, up_e rfl, fun j hj => up_n (by omega), fun j hj => rfl⟩
    have hl : ([((0 : Int), v)] : wT).length = 1 := rfl
    show (match sr1 A Kn 0 v V n T r with
      | some (V2, n2, T2, r2) => some (V2, n2, T2, r2)
      | none => none) = _
    unfold sr1
    rw [if_pos (by omega), if_pos (by omega), if_pos rfl]⟩⟩
theorem SmV_name {C : Int → Int} {a nm : Int} (ha : 0 ≤ a ∧ a < 300) (hv : 144 ≤ nm ∧ nm < 152) (hc : C a = nm + 256 * 0) : SmV C a (a + 1) [(1, nmk nm)] := ⟨by omega, Nat.le_refl 1, ha.1, by omega, fun j hj => by have e : j = a := (by omega); rw [e]; omega, fun N F Kc A Kn he => by
  obtain ⟨e1, e2, e3, ⟨k0, k1, k2, k3, k4, k5, k6, k7⟩, e5⟩ := he
  have b := e5 (nm - 144) (by omega)
  have hn : nm = 144 ∨ nm = 145 ∨ nm = 146 ∨ nm = 147 ∨ nm = 148 ∨ nm = 149 ∨ nm = 150 ∨ nm = 151 := by omega
  have ek : Kc (nm - 144) = Kn (nmk nm) ∧ 0 ≤ nmk nm ∧ nmk nm < 8 := by
    rcases hn with e | e | e | e | e | e | e | e <;> subst e
    · exact ⟨k0, by decide, by decide⟩
    · exact ⟨k1, by decide, by decide⟩
    · exact ⟨k2, by decide, by decide⟩
    · exact ⟨k3, by decide, by decide⟩
    · exact ⟨k4, by decide, by decide⟩
    · exact ⟨k5, by decide, by decide⟩
    · exact ⟨k6, by decide, by decide⟩
    · exact ⟨k7, by decide, by decide⟩
  refine ⟨Kc (nm - 144), b.1, b.2, CMv_ps b (fun C2 n k S t e hn => by
    rw [wk_s, if_neg (by omega), if_neg (by omega), if_pos (by omega), show C2 a % 256 - 144 = nm - 144 by omega]), fun V n T r h => ?_⟩
  refine ⟨up V n (Kc (nm - 144)), T, ?_, up_e rfl, fun j hj => up_n (by omega), fun j hj => rfl⟩
  have hl : ([((1 : Int), nmk nm)] : wT).length = 1 := rfl
  show (match sr1 A Kn 1 (nmk nm) V n T r with
    | some (V2, n2, T2, r2) => some (V2, n2, T2, r2)
    | none => none) = _
  unfold sr1
  rw [if_pos (by omega), if_pos (by omega), if_neg (by omega), ek.1]⟩
/-- a code behind a number -/
theorem CMv_un {N F Kc C : Int → Int} {a b f g x : Int} (h : CMv N F Kc C a b f) (ha : a < b) (hx : -1000000 ≤ x ∧ x ≤ 1000000) (hg : C b = g) (gg : g = 5 ∨ g = 143 ∨ g = 135 ∨ g = 136) (e : of1 N F g f = x) : CMv N F Kc C a (b + 1) x := fun C2 hC n k S t hb hn hk ht => by
  obtain ⟨k2, S2, q1, q2, q3, q4⟩ := h C2 (fun j hj => hC j (by omega)) n k S t (by omega) hn hk ht
  obtain ⟨k3, rfl⟩ : ∃ q, k2 = q + 1 := ⟨k2 - 1, by omega⟩
  have hb2 : C2 b = g := by rw [hC b (by omega), hg]
  have p1 : ppV S2 (t + 1) = f := by unfold ppV; rw [if_neg (by omega), show t + 1 - 1 = t by omega, q3]
  have p2 : ppT (t + 1) = t := by unfold ppT; rw [if_neg (by omega)]; omega
  have m : C2 b % 256 = g := by rw [hb2]; omega
  rw [q1, wk_s, if_neg (by omega), if_neg (by omega), if_neg (by omega), if_neg (by omega), if_neg (by omega), if_pos (by omega), p1, p2, m, e]
  have e1 : psT t = t + 1 := by unfold psT; rw [if_pos (by omega)]
  have e2 : psS S2 t x = up S2 t x := by unfold psS; rw [if_pos (by omega), wz_id (by omega)]
  rw [e1, e2]
  exact ⟨k3, up S2 t x, rfl, by omega, up_e rfl, fun j hj => by rw [up_n (by omega)]; exact q4 j hj⟩
theorem CMv_bin {N F Kc C : Int → Int} {a m b f1 f2 g x : Int} (h1 : CMv N F Kc C a m f1) (h2 : CMv N F Kc C m b f2) (ha : 0 ≤ a ∧ a < m ∧ m < b) (hx : -1000000 ≤ x ∧ x ≤ 1000000) (hg : C b = g) (gg : g = 43 ∨ g = 45 ∨ g = 42 ∨ g = 47 ∨ g = 60 ∨ g = 62 ∨ g = 61 ∨ g = 35 ∨ g = 3 ∨ g = 4 ∨ g = 141 ∨ g = 142) (e : of2 g f1 f2 = x) : CMv N F Kc C a (b + 1) x := fun C2 hC n k S t hb hn hk ht => by
  obtain ⟨k1, S1, q1, q2, q3, q4⟩ := h1 C2 (fun j hj => hC j (by omega)) n k S t (by omega) hn hk ht
  obtain ⟨k2, S2, r1, r2, r3, r4⟩ := h2 C2 (fun j hj => hC j (by omega)) n k1 S1 (t + 1) (by omega) hn q2 (by omega)
  obtain ⟨k3, rfl⟩ : ∃ q, k2 = q + 1 := ⟨k2 - 1, by omega⟩
  have hb2 : C2 b = g := by rw [hC b (by omega), hg]
  have p1 : ppV S2 (t + 1 + 1) = f2 := by unfold ppV; rw [if_neg (by omega), show t + 1 + 1 - 1 = t + 1 by omega, r3]
  have p2 : ppT (t + 1 + 1) = t + 1 := by unfold ppT; rw [if_neg (by omega)]; omega
  have p3 : ppV S2 (t + 1) = f1 := by unfold ppV; rw [if_neg (by omega), show t + 1 - 1 = t by omega, r4 t (by omega), q3]
  have p4 : ppT (t + 1) = t := by unfold ppT; rw [if_neg (by omega)]; omega
  have mm : C2 b % 256 = g := by rw [hb2]; omega
  rw [q1, r1, wk_s, if_neg (by omega), if_neg (by omega), if_neg (by omega), if_neg (by omega), if_neg (by omega), if_neg (by omega), p1, p2, p3, p4, mm, e]
  have e1 : psT t = t + 1 := by unfold psT; rw [if_pos (by omega)]
  have e2 : psS S2 t x = up S2 t x := by unfold psS; rw [if_pos (by omega), wz_id (by omega)]
  rw [e1, e2]
  exact ⟨k3, up S2 t x, rfl, by omega, up_e rfl, fun j hj => by rw [up_n (by omega), r4 j (by omega)]; exact q4 j hj⟩
theorem sul_1 {A Kn : Int → Int} {o v : Int} {V : Int → Int} {n : Int} {T : Int → Int} {r : Int} : sul A Kn [(o, v)] V n T r = sr1 A Kn o v V n T r := by
  show (match sr1 A Kn o v V n T r with
    | some (V2, n2, T2, r2) => some (V2, n2, T2, r2)
    | none => none) = _
  cases sr1 A Kn o v V n T r <;> rfl
theorem lapp {a : wT} {o v : Int} : (a ++ [(o, v)]).length = a.length + 1 := by simp
theorem lapp3 {a b : wT} {o v : Int} : (a ++ b ++ [(o, v)]).length = a.length + b.length + 1 := by simp [Nat.add_assoc]
theorem RMv_un {A Kn : Int → Int} {rc : wT} {f o x : Int} (h : RMv A Kn rc f) (ho : o = 5 ∨ o = 2 ∨ o = 4) (e : r1 A o f = x) : RMv A Kn (rc ++ [(o, 0)]) x := fun V n T r hb => by
  rw [lapp] at hb
  obtain ⟨V2, T2, q1, q2, q3, q4⟩ := h V n T r (by omega)
  refine ⟨up V2 n x, T2, ?_, up_e rfl, fun j hj => by rw [up_n (by omega)]; exact q3 j hj, q4⟩
  rw [sul_app _ _ _ _ _ _ _ _ _ _ q1, sul_1]
  unfold sr1
  rw [if_neg (by omega), if_neg (by omega), if_pos (by omega), if_pos (by omega), show n + 1 - 1 = n by omega, q2, e]
theorem RMv_bin {A Kn : Int → Int} {r1' r2' : wT} {f1 f2 o x : Int} (h1 : RMv A Kn r1' f1) (h2 : RMv A Kn r2' f2) (l1 : 1 ≤ r1'.length) (ho : 6 ≤ o ∧ o < 10) (e : r2 o f1 f2 = x) : RMv A Kn (r1' ++ r2' ++ [(o, 0)]) x := fun V n T r hb => by
  rw [lapp3] at hb
  obtain ⟨V1, T1, q1, q2, q3, q4⟩ := h1 V n T r (by omega)
  obtain ⟨V2, T2, p1, p2, p3, p4⟩ := h2 V1 (n + 1) T1 r (by omega)
  refine ⟨up V2 n x, T2, ?_, up_e rfl, fun j hj => by rw [up_n (by omega), p3 j (by omega)]; exact q3 j hj, fun j hj => by rw [p4 j hj]; exact q4 j hj⟩
  rw [List.append_assoc, sul_app _ _ _ _ _ _ _ _ _ _ q1, sul_app _ _ _ _ _ _ _ _ _ _ p1, sul_1]
  unfold sr1
  rw [if_neg (by omega), if_neg (by omega), if_neg (by omega), if_pos (by omega), if_pos (by omega), show n + 1 + 1 - 1 - 1 = n by omega, show n + 1 + 1 - 1 = n + 1 by omega, p2, p3 n (by omega), q2, e]
theorem RMb_cmp {A Kn : Int → Int} {r1' r2' : wT} {f1 f2 o x : Int} (h1 : RMv A Kn r1' f1) (h2 : RMv A Kn r2' f2) (l1 : 1 ≤ r1'.length) (ho : 10 ≤ o ∧ o ≤ 15) (e : rq o f1 f2 = x) : RMb A Kn (r1' ++ r2' ++ [(o, 0)]) x := fun V n T r hb => by
  rw [lapp3] at hb
  obtain ⟨V1, T1, q1, q2, q3, q4⟩ := h1 V n T r (by omega)
  obtain ⟨V2, T2, p1, p2, p3, p4⟩ := h2 V1 (n + 1) T1 r (by omega)
  refine ⟨V2, up T2 r x, ?_, up_e rfl, fun j hj => by rw [p3 j (by omega)]; exact q3 j hj, fun j hj => by rw [up_n (by omega), p4 j hj]; exact q4 j hj⟩
  rw [List.append_assoc, sul_app _ _ _ _ _ _ _ _ _ _ q1, sul_app _ _ _ _ _ _ _ _ _ _ p1, sul_1]
  unfold sr1
  rw [if_neg (by omega), if_neg (by omega), if_neg (by omega), if_neg (by omega), if_pos (by omega), if_pos (by omega), show n + 1 + 1 - 2 = n by omega, p2, p3 n (by omega), q2, e]
theorem RMb_not {A Kn : Int → Int} {rc : wT} {f x : Int} (h : RMb A Kn rc f) (e : (if f = 0 then 1 else 0) = x) : RMb A Kn (rc ++ [(20, 0)]) x := fun V n T r hb => by
  rw [lapp] at hb
  obtain ⟨V2, T2, q1, q2, q3, q4⟩ := h V n T r (by omega)
  refine ⟨V2, up T2 r x, ?_, up_e rfl, q3, fun j hj => by rw [up_n (by omega)]; exact q4 j hj⟩
  rw [sul_app _ _ _ _ _ _ _ _ _ _ q1, sul_1]
  unfold sr1
  rw [if_neg (by omega), if_neg (by omega), if_neg (by omega), if_neg (by omega), if_neg (by omega), if_pos rfl, if_pos (by omega), show r + 1 - 1 = r by omega, q2, e]
theorem RMb_join {A Kn : Int → Int} {r1' r2' : wT} {f1 f2 o x : Int} (h1 : RMb A Kn r1' f1) (h2 : RMb A Kn r2' f2) (l1 : 1 ≤ r1'.length) (ho : o = 21 ∨ o = 22) (e : rj o f1 f2 = x) : RMb A Kn (r1' ++ r2' ++ [(o, 0)]) x := fun V n T r hb => by
  rw [lapp3] at hb
  obtain ⟨V1, T1, q1, q2, q3, q4⟩ := h1 V n T r (by omega)
  obtain ⟨V2, T2, p1, p2, p3, p4⟩ := h2 V1 n T1 (r + 1) (by omega)
  refine ⟨V2, up T2 r x, ?_, up_e rfl, fun j hj => by rw [p3 j (by omega)]; exact q3 j hj, fun j hj => by rw [up_n (by omega), p4 j (by omega)]; exact q4 j hj⟩
  rw [List.append_assoc, sul_app _ _ _ _ _ _ _ _ _ _ q1, sul_app _ _ _ _ _ _ _ _ _ _ p1, sul_1]
  unfold sr1
  rw [if_neg (by omega), if_neg (by omega), if_neg (by omega), if_neg (by omega), if_neg (by omega), if_neg (by omega), if_pos (by omega), show r + 1 + 1 - 1 - 1 = r by omega, show r + 1 + 1 - 1 = r + 1 by omega, p2, p4 r (by omega), q2, e]
theorem RMv_sel {A Kn : Int → Int} {r0 r1' r2' : wT} {f0 f1 f2 : Int} (h0 : RMb A Kn r0 f0) (h1 : RMv A Kn r1' f1) (h2 : RMv A Kn r2' f2) (l0 : 1 ≤ r0.length) (l1 : 1 ≤ r1'.length) : RMv A Kn (r0 ++ r1' ++ r2' ++ [(3, 0)]) (if f0 = 0 then f2 else f1) := fun V n T r hb => by
  have hl : (r0 ++ r1' ++ r2' ++ [((3 : Int), (0 : Int))]).length = r0.length + r1'.length + r2'.length + 1 := by simp [Nat.add_assoc]
  rw [hl] at hb
  obtain ⟨V0, T0, a1, a2, a3, a4⟩ := h0 V n T r (by omega)
  obtain ⟨V1, T1, q1, q2, q3, q4⟩ := h1 V0 n T0 (r + 1) (by omega)
  obtain ⟨V2, T2, p1, p2, p3, p4⟩ := h2 V1 (n + 1) T1 (r + 1) (by omega)
  have et : T2 r = f0 := by rw [p4 r (by omega), q4 r (by omega), a2]
  refine ⟨if T2 r = 0 then up V2 n (V2 (n + 1)) else V2, T2, ?_, ?_, fun j hj => ?_, fun j hj => by rw [p4 j (by omega), q4 j (by omega)]; exact a4 j hj⟩
  · rw [List.append_assoc, List.append_assoc, sul_app _ _ _ _ _ _ _ _ _ _ a1, sul_app _ _ _ _ _ _ _ _ _ _ q1, sul_app _ _ _ _ _ _ _ _ _ _ p1, sul_1]
    unfold sr1
    rw [if_neg (by omega), if_pos rfl, if_pos (by omega), show n + 1 + 1 - 1 - 1 = n by omega, show n + 1 + 1 - 1 = n + 1 by omega, show r + 1 - 1 = r by omega]
  · rw [et]
    split
    · rw [up_e rfl]; exact p2
    · rw [p3 n (by omega)]; exact q2
  · split
    · rw [up_n (by omega), p3 j (by omega), q3 j hj]; exact a3 j hj
    · rw [p3 j (by omega), q3 j hj]; exact a3 j hj
theorem CMv_sel {N F Kc C : Int → Int} {a m1 m2 b f0 f1 f2 : Int} (h0 : CMv N F Kc C a m1 f0) (h1 : CMv N F Kc C (m1 + 1) m2 f1) (h2 : CMv N F Kc C (m2 + 1) b f2) (ha : 0 ≤ a ∧ a < m1 ∧ m1 + 1 < m2 ∧ m2 + 1 < b) (c1 : C m1 = 6 + 256 * (m2 + 1)) (c2 : C m2 = 7 + 256 * b) : CMv N F Kc C a b (if f0 = 0 then f2 else f1) := fun C2 hC n k S t hb hn hk ht => by
  obtain ⟨k1, S1, q1, q2, q3, q4⟩ := h0 C2 (fun j hj => hC j (by omega)) n k S t (by omega) hn hk ht
  obtain ⟨k3, rfl⟩ : ∃ q, k1 = q + 1 := ⟨k1 - 1, by omega⟩
  have hm1 : C2 m1 = 6 + 256 * (m2 + 1) := by rw [hC m1 (by omega), c1]
  have hm2 : C2 m2 = 7 + 256 * b := by rw [hC m2 (by omega), c2]
  have p1 : ppV S1 (t + 1) = f0 := by unfold ppV; rw [if_neg (by omega), show t + 1 - 1 = t by omega, q3]
  have p2 : ppT (t + 1) = t := by unfold ppT; rw [if_neg (by omega)]; omega
  have st : wk N F Kc C2 n (k3 + 1) m1 S1 (t + 1) = wk N F Kc C2 n k3 ((if f0 = 0 then m2 else m1) + 1) S1 t := by
    rw [wk_s, if_neg (by omega), if_neg (by omega), if_neg (by omega), if_neg (by omega), if_pos (by omega), p1, p2, show C2 m1 / 256 - 1 = m2 by omega, show max m1 m2 = m2 by omega]
  by_cases y : f0 = 0
  · rw [if_pos y] at st ⊢
    obtain ⟨k2, S2, r1, r2, r3, r4⟩ := h2 C2 (fun j hj => hC j (by omega)) n k3 S1 t (by omega) hn (by omega) (by omega)
    exact ⟨k2, S2, by rw [q1, st, r1], r2, r3, fun j hj => by rw [r4 j hj]; exact q4 j hj⟩
  · rw [if_neg y] at st ⊢
    obtain ⟨k2, S2, r1, r2, r3, r4⟩ := h1 C2 (fun j hj => hC j (by omega)) n k3 S1 t (by omega) hn (by omega) (by omega)
    obtain ⟨k4, rfl⟩ : ∃ q, k2 = q + 1 := ⟨k2 - 1, by omega⟩
    refine ⟨k4, S2, ?_, by omega, r3, fun j hj => by rw [r4 j hj]; exact q4 j hj⟩
    rw [q1, st, r1, wk_s, if_neg (by omega), if_neg (by omega), if_neg (by omega), if_pos (by omega), show C2 m2 / 256 - 1 = b - 1 by omega, show max m2 (b - 1) + 1 = b by omega]
theorem tdiv_b {x y : Int} (h : -1000000 ≤ x ∧ x ≤ 1000000) : -1000000 ≤ x.tdiv y ∧ x.tdiv y ≤ 1000000 := by
  have e : (x.tdiv y).natAbs = x.natAbs / y.natAbs := Int.natAbs_tdiv x y
  have f := Nat.div_le_self x.natAbs y.natAbs
  omega
theorem of2_r2 {g o f1 f2 : Int} (h1 : -1000000 ≤ f1 ∧ f1 ≤ 1000000) (hg : (g = 43 ∧ o = 6) ∨ (g = 45 ∧ o = 7) ∨ (g = 42 ∧ o = 8) ∨ (g = 47 ∧ o = 9)) : of2 g f1 f2 = r2 o f1 f2 ∧ -1000000 ≤ r2 o f1 f2 ∧ r2 o f1 f2 ≤ 1000000 := by
  have td := tdiv_b (y := f2) h1
  have c1 := clp_bd (v := f1 + f2)
  have c2 := clp_bd (v := f1 - f2)
  have c3 := clp_bd (v := f1 * f2)
  have c4 : clp (f1.tdiv f2) = f1.tdiv f2 := by unfold clp; omega
  rcases hg with ⟨e, f⟩ | ⟨e, f⟩ | ⟨e, f⟩ | ⟨e, f⟩ <;> subst e f <;> unfold of2 r2
  · exact ⟨rfl, c1⟩
  · exact ⟨rfl, c2⟩
  · exact ⟨rfl, c3⟩
  · simp only [Int.reduceEq, if_false, if_true]
    rw [c4]
    refine ⟨rfl, ?_⟩
    split
    · omega
    · exact td
theorem of2_rq {g o f1 f2 : Int} (hg : (g = 60 ∧ o = 10) ∨ (g = 3 ∧ o = 11) ∨ (g = 62 ∧ o = 12) ∨ (g = 4 ∧ o = 13) ∨ (g = 61 ∧ o = 14) ∨ (g = 35 ∧ o = 15)) : of2 g f1 f2 = rq o f1 f2 ∧ (rq o f1 f2 = 0 ∨ rq o f1 f2 = 1) := by
  refine ⟨?_, rq_bd⟩
  rcases hg with ⟨e, f⟩ | ⟨e, f⟩ | ⟨e, f⟩ | ⟨e, f⟩ | ⟨e, f⟩ | ⟨e, f⟩ <;> subst e f <;> unfold of2 rq <;> simp only [Int.reduceEq, if_false, if_true]
theorem of2_rj {g o f1 f2 : Int} (h1 : f1 = 0 ∨ f1 = 1) (h2 : f2 = 0 ∨ f2 = 1) (hg : (g = 142 ∧ o = 21) ∨ (g = 141 ∧ o = 22)) : of2 g f1 f2 = rj o f1 f2 ∧ (rj o f1 f2 = 0 ∨ rj o f1 f2 = 1) := by
  refine ⟨?_, rj_bd h1 h2⟩
  rcases hg with ⟨e, f⟩ | ⟨e, f⟩ <;> subst e f <;> rcases h1 with h | h <;> rcases h2 with h' | h' <;> subst h h' <;> decide
theorem SmV_un {C : Int → Int} {a b g o : Int} {rc : wT} (h : SmV C a b rc) (hb : b < 300) (hg : C b = g + 256 * 0) (gg : (g = 5 ∧ o = 5) ∨ (g = 135 ∧ o = 2) ∨ (g = 136 ∧ o = 4)) : SmV C a (b + 1) (rc ++ [(o, 0)]) := ⟨by have := h.1; omega, by rw [lapp]; omega, h.2.2.1, by omega, CRg_1 h.2.2.2.2.1 (by omega), fun N F Kc A Kn he => by
  obtain ⟨f, f1, f2, f3, f4⟩ := h.2.2.2.2.2 N F Kc A Kn he
  obtain ⟨e1, e2, e3, e4, e5⟩ := he
  have key : of1 N F g f = r1 A o f ∧ -1000000 ≤ r1 A o f ∧ r1 A o f ≤ 1000000 := by
    rcases gg with ⟨p, q⟩ | ⟨p, q⟩ | ⟨p, q⟩ <;> subst p q <;> unfold of1 r1 <;> simp only [Int.reduceEq, if_false, if_true]
    · exact ⟨trivial, by omega, by omega⟩
    · by_cases y : 0 ≤ f ∧ f < 8
      · have z := e1 f y
        rw [if_pos y, if_pos y, z.1]
        exact ⟨rfl, by omega, by omega⟩
      · rw [if_neg y, if_neg y]
        exact ⟨rfl, by omega, by omega⟩
    · rw [e2]
      by_cases y : 0 ≤ f ∧ f < A 0
      · have z := e3 f (by omega)
        rw [if_pos y, if_pos y, z.1]
        exact ⟨rfl, by omega, by omega⟩
      · rw [if_neg y, if_neg y]
        exact ⟨rfl, by omega, by omega⟩
  exact ⟨r1 A o f, key.2.1, key.2.2, CMv_un f3 h.1 key.2 (by rw [hg]; omega) (by omega) key.1, RMv_un f4 (by omega) rfl⟩⟩
theorem SmV_bin {C : Int → Int} {a m b g o : Int} {rc1 rc2 : wT} (h1 : SmV C a m rc1) (h2 : SmV C m b rc2) (hb : b < 300) (hg : C b = g + 256 * 0) (gg : (g = 43 ∧ o = 6) ∨ (g = 45 ∧ o = 7) ∨ (g = 42 ∧ o = 8) ∨ (g = 47 ∧ o = 9)) : SmV C a (b + 1) (rc1 ++ rc2 ++ [(o, 0)]) := ⟨by have := h1.1; have := h2.1; omega, by rw [lapp3]; omega, h1.2.2.1, by omega, CRg_1 (CRg_app h1.2.2.2.2.1 h2.2.2.2.2.1) (by omega), fun N F Kc A Kn he => by
  obtain ⟨f, f1, f2, f3, f4⟩ := h1.2.2.2.2.2 N F Kc A Kn he
  obtain ⟨p, p1, p2, p3, p4⟩ := h2.2.2.2.2.2 N F Kc A Kn he
  have key := of2_r2 (f2 := p) ⟨f1, f2⟩ gg
  exact ⟨r2 o f p, key.2.1, key.2.2, CMv_bin f3 p3 ⟨h1.2.2.1, h1.1, h2.1⟩ key.2 (by rw [hg]; omega) (by omega) key.1, RMv_bin f4 p4 h1.2.1 (by omega) rfl⟩⟩
theorem SmB_cmp {C : Int → Int} {a m b g o : Int} {rc1 rc2 : wT} (h1 : SmV C a m rc1) (h2 : SmV C m b rc2) (hb : b < 300) (hg : C b = g + 256 * 0) (gg : (g = 60 ∧ o = 10) ∨ (g = 3 ∧ o = 11) ∨ (g = 62 ∧ o = 12) ∨ (g = 4 ∧ o = 13) ∨ (g = 61 ∧ o = 14) ∨ (g = 35 ∧ o = 15)) : SmB C a (b + 1) (rc1 ++ rc2 ++ [(o, 0)]) := ⟨by have := h1.1; have := h2.1; omega, by rw [lapp3]; omega, h1.2.2.1, by omega, CRg_1 (CRg_app h1.2.2.2.2.1 h2.2.2.2.2.1) (by omega), fun N F Kc A Kn he => by
  obtain ⟨f, f1, f2, f3, f4⟩ := h1.2.2.2.2.2 N F Kc A Kn he
  obtain ⟨p, p1, p2, p3, p4⟩ := h2.2.2.2.2.2 N F Kc A Kn he
  have key := of2_rq (f1 := f) (f2 := p) gg
  exact ⟨rq o f p, key.2, CMv_bin f3 p3 ⟨h1.2.2.1, h1.1, h2.1⟩ (by rcases key.2 with e | e <;> rw [e] <;> decide) (by rw [hg]; omega) (by omega) key.1, RMb_cmp f4 p4 h1.2.1 (by omega) rfl⟩⟩
theorem SmB_not {C : Int → Int} {a b : Int} {rc : wT} (h : SmB C a b rc) (hb : b < 300) (hg : C b = 143 + 256 * 0) : SmB C a (b + 1) (rc ++ [(20, 0)]) := ⟨by have := h.1; omega, by rw [lapp]; omega, h.2.2.1, by omega, CRg_1 h.2.2.2.2.1 (by omega), fun N F Kc A Kn he => by
  obtain ⟨f, f1, f3, f4⟩ := h.2.2.2.2.2 N F Kc A Kn he
  have key : of1 N F 143 f = (if f = 0 then 1 else 0) ∧ ((if f = 0 then (1 : Int) else 0) = 0 ∨ (if f = 0 then (1 : Int) else 0) = 1) := by
    rcases f1 with e | e <;> subst e <;> unfold of1 <;> simp
  exact ⟨_, key.2, CMv_un f3 h.1 (by rcases key.2 with e | e <;> rw [e] <;> decide) (by rw [hg]; omega) (by omega) key.1, RMb_not f4 rfl⟩⟩
theorem SmB_join {C : Int → Int} {a m b g o : Int} {rc1 rc2 : wT} (h1 : SmB C a m rc1) (h2 : SmB C m b rc2) (hb : b < 300) (hg : C b = g + 256 * 0) (gg : (g = 142 ∧ o = 21) ∨ (g = 141 ∧ o = 22)) : SmB C a (b + 1) (rc1 ++ rc2 ++ [(o, 0)]) := ⟨by have := h1.1; have := h2.1; omega, by rw [lapp3]; omega, h1.2.2.1, by omega, CRg_1 (CRg_app h1.2.2.2.2.1 h2.2.2.2.2.1) (by omega), fun N F Kc A Kn he => by
  obtain ⟨f, f1, f3, f4⟩ := h1.2.2.2.2.2 N F Kc A Kn he
  obtain ⟨p, p1, p3, p4⟩ := h2.2.2.2.2.2 N F Kc A Kn he
  have key := of2_rj f1 p1 gg
  exact ⟨rj o f p, key.2, CMv_bin f3 p3 ⟨h1.2.2.1, h1.1, h2.1⟩ (by rcases key.2 with e | e <;> rw [e] <;> decide) (by rw [hg]; omega) (by omega) key.1, RMb_join f4 p4 h1.2.1 (by omega) rfl⟩⟩
theorem SmV_sel {C : Int → Int} {a m1 m2 b : Int} {rc0 rc1 rc2 : wT} (h0 : SmB C a m1 rc0) (h1 : SmV C (m1 + 1) m2 rc1) (h2 : SmV C (m2 + 1) b rc2) (c1 : C m1 = 6 + 256 * (m2 + 1)) (c2 : C m2 = 7 + 256 * b) : SmV C a b (rc0 ++ rc1 ++ rc2 ++ [(3, 0)]) := by
  have a1 := h0.1
  have a2 := h1.1
  have a3 := h2.1
  have a4 := h0.2.2.1
  have a5 := h2.2.2.2.1
  refine ⟨by omega, by have l := h0.2.1; simp; omega, a4, a5, ?_, fun N F Kc A Kn he => ?_⟩
  · exact CRg_app (CRg_1 (CRg_app (CRg_1 h0.2.2.2.2.1 (by omega)) h1.2.2.2.2.1) (by omega)) h2.2.2.2.2.1
  · obtain ⟨f, f1, f3, f4⟩ := h0.2.2.2.2.2 N F Kc A Kn he
    obtain ⟨p, p1, p2, p3, p4⟩ := h1.2.2.2.2.2 N F Kc A Kn he
    obtain ⟨q, q1, q2, q3, q4⟩ := h2.2.2.2.2.2 N F Kc A Kn he
    exact ⟨if f = 0 then q else p, by split <;> omega, by split <;> omega, CMv_sel f3 p3 q3 ⟨a4, a1, a2, a3⟩ c1 c2, RMv_sel f4 p4 q4 h0.2.1 h1.2.1⟩
