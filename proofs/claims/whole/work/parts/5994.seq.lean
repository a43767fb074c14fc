/-! reading sums: class and reference, the grammar side by side -/
def Gto (K V : Int → Int) (so : Int) (c : rC) (r : rR) : Prop := ∃ n : Nat, rrun K V so n c = some r
def GoX (K V : Int → Int) (so : Int) (x : rC ⊕ rR) (r : rR) : Prop := match x with
  | .inl c => Gto K V so c r
  | .inr q => r = q
theorem Gto_s {K V : Int → Int} {so : Int} {c : rC} {r : rR} (h : GoX K V so (rstep K V so c) r) : Gto K V so c r := by
  generalize e : rstep K V so c = x at h
  match x, h, e with
  | .inl c2, h, e =>
    obtain ⟨n, hn⟩ := h
    refine ⟨n + 1, ?_⟩
    show (match rstep K V so c with
      | .inl c2 => rrun K V so n c2
      | .inr r => some r) = some r
    rw [e]
    exact hn
  | .inr q, h, e =>
    refine ⟨1, ?_⟩
    show (match rstep K V so c with
      | .inl c2 => rrun K V so 0 c2
      | .inr r => some r) = some r
    rw [e]
    have h' : r = q := h
    rw [h']
theorem Gto_0 {K V : Int → Int} {so : Int} {P : List Int} {o i : Int} {W : wT} {r : rR} (h : GoX K V so (rBeg K V so P o i W) r) : Gto K V so (P, o, 0, i, W) r := Gto_s (by
  unfold rstep
  dsimp only
  rw [if_pos rfl]
  exact h)
theorem Gto_1 {K V : Int → Int} {so : Int} {P : List Int} {o i : Int} {W : wT} {r : rR} (h : GoX K V so (rBeh K P o i W) r) : Gto K V so (P, o, 1, i, W) r := Gto_s (by
  unfold rstep
  dsimp only
  rw [if_neg (by omega)]
  exact h)
/-- the rank of the top of the pile -/
def rkt : List Int → Int
  | [] => 0
  | a :: _ => rk a
def rAsk (K : Int → Int) (P : List Int) (o i : Int) (W : wT) : rC ⊕ rR := if K i = 142 then rBw 21 (stl 2 P o W) i else if K i = 141 then rBw 22 (stl 1 P o W) i else if K i = 138 then rPt 42 41 (stl 1 P o W) i else .inr (1, i, [])
def af7 (K : Int → Int) (P : List Int) (o i : Int) (W : wT) : rC ⊕ rR := rBeh K (stl 7 P o W).1 (stl 7 P o W).2.1 i (stl 7 P o W).2.2
theorem stl_id {l : Int} {P : List Int} {o : Int} {W : wT} (h : rkt P < l) : stl l P o W = (P, o, W) := by
  match P, h with
  | [], _ => rfl
  | a :: P, h =>
    have h' : rk a < l := h
    unfold stl
    rw [if_neg (by omega)]
theorem stl_c {l a : Int} {P : List Int} {o : Int} {W : wT} (h : l ≤ rk a) : stl l (a :: P) o W = stl l P (if rk a = 7 ∨ a = 20 then o - 1 else o) (W ++ [(a, 0)]) := by
  show (if l ≤ rk a then stl l P (if rk a = 7 ∨ a = 20 then o - 1 else o) (W ++ [(a, 0)]) else (a :: P, o, W)) = _
  rw [if_pos h]
theorem af7_id {K : Int → Int} {P : List Int} {o i : Int} {W : wT} (h : rkt P < 7) : af7 K P o i W = rBeh K P o i W := by
  unfold af7
  rw [stl_id h]
theorem opn_c {a : Int} {P : List Int} (h : a < 40) : opn (a :: P) = opn P := by
  show (if 40 ≤ a then a else opn P) = _
  rw [if_neg (by omega)]
theorem cmpd_c {a : Int} {P : List Int} (h : 4 < rk a) : cmpd (a :: P) = cmpd P := by
  show (if 4 < rk a then cmpd P else _) = _
  rw [if_pos h]
theorem btw_cg {k : Int} {P Q : List Int} (h1 : opn P = opn Q) (h2 : cmpd P = cmpd Q) : btw k P = btw k Q := by
  unfold btw
  rw [h1, h2]
theorem prt_cg {k op : Int} {P Q : List Int} (h2 : cmpd P = cmpd Q) : prt k op P = prt k op Q := by
  unfold prt
  rw [h2]
theorem rk_cmk (k : Int) : rk (cmk k) = if cmk k = -1 then 7 else 4 := by
  unfold cmk
  (repeat' split) <;> first | rfl | (exfalso; omega) | contradiction
theorem rk_btw (k : Int) (P : List Int) : (if rk (btw k P) = 4 then 5 else rk (btw k P)) ≤ (if k = 42 ∨ k = 47 then 6 else if btw k P = -1 then 7 else 5) := by
  unfold btw
  by_cases y1 : k = 43
  · rw [if_pos y1, if_neg (show ¬ (k = 42 ∨ k = 47) by omega)]; decide
  rw [if_neg y1]
  by_cases y2 : k = 45
  · rw [if_pos y2, if_neg (show ¬ (k = 42 ∨ k = 47) by omega)]; decide
  rw [if_neg y2]
  by_cases y3 : k = 42
  · rw [if_pos y3, if_pos (show (k = 42 ∨ k = 47) by omega)]; decide
  rw [if_neg y3]
  by_cases y4 : k = 47
  · rw [if_pos y4, if_pos (show (k = 42 ∨ k = 47) by omega)]; decide
  rw [if_neg y4, if_neg (show ¬ (k = 42 ∨ k = 47) by omega)]
  by_cases y5 : opn P = 41
  · rw [if_pos y5]
    by_cases y6 : cmpd P = 0
    · rw [if_pos y6, rk_cmk]
      by_cases y7 : cmk k = -1
      · rw [if_pos y7, if_pos y7]; decide
      · rw [if_neg y7, if_neg y7]; decide
    · rw [if_neg y6]
      by_cases y7 : k = 142
      · rw [if_pos y7]; decide
      rw [if_neg y7]
      by_cases y8 : k = 141
      · rw [if_pos y8]; decide
      rw [if_neg y8]; decide
  · rw [if_neg y5]; decide
/-- an operation that stands at the top of the pile is as good as written, unless a closer one comes -/
theorem rBeh_pend {K : Int → Int} {P : List Int} {o i b : Int} {W : wT} (hb : b = 8 ∨ b = 9 ∨ ((b = 6 ∨ b = 7) ∧ K i ≠ 42 ∧ K i ≠ 47)) : rBeh K (b :: P) o i W = rBeh K P o i (W ++ [(b, 0)]) := by
  have o1 : opn (b :: P) = opn P := opn_c (by omega)
  have r1 : rk b = if b = 6 ∨ b = 7 then 5 else 6 := by
    rcases hb with e | e | ⟨e | e, _⟩ <;> subst e <;> decide
  have r2 : ¬ (rk b = 7 ∨ b = 20) := by rw [r1]; split <;> omega
  have c1 : cmpd (b :: P) = cmpd P := cmpd_c (by rw [r1]; split <;> omega)
  have st : ∀ l : Int, l ≤ rk b → stl l (b :: P) o W = stl l P o (W ++ [(b, 0)]) := fun l h => by rw [stl_c h, if_neg r2]
  unfold rBeh
  rw [btw_cg o1 c1, prt_cg c1, o1, st 1 (by rw [r1]; split <;> omega)]
  by_cases y : 0 ≤ btw (K i) P
  · rw [if_pos y, if_pos y, st]
    have q := rk_btw (K i) P
    rw [if_neg (show ¬ btw (K i) P = -1 by omega)] at q
    refine Int.le_trans q ?_
    rw [r1]
    (repeat' split) <;> omega
  · rw [if_neg y, if_neg y]
theorem rBeh_bin {K : Int → Int} {P : List Int} {o i b : Int} {W : wT} (hp : P.length < 150) (hb : (K i = 43 ∧ b = 6 ∧ rkt P < 5) ∨ (K i = 45 ∧ b = 7 ∧ rkt P < 5) ∨ (K i = 42 ∧ b = 8 ∧ rkt P < 6) ∨ (K i = 47 ∧ b = 9 ∧ rkt P < 6)) : rBeh K P o i W = .inl (b :: P, o, 0, i + 1, W) := by
  have e : btw (K i) P = b := by
    rcases hb with ⟨e, f, _⟩ | ⟨e, f, _⟩ | ⟨e, f, _⟩ | ⟨e, f, _⟩ <;> rw [e, f] <;> rfl
  have r : rkt P < (if rk b = 4 then 5 else rk b) := by
    rcases hb with ⟨_, e, h⟩ | ⟨_, e, h⟩ | ⟨_, e, h⟩ | ⟨_, e, h⟩ <;> subst e
    · exact h
    · exact h
    · exact h
    · exact h
  unfold rBeh
  rw [e, if_pos (by omega), stl_id r]
  unfold rBw
  rw [if_neg (by show ¬ 150 ≤ P.length; omega)]
theorem btw_no {k : Int} {P : List Int} (hk : k ≠ 42 ∧ k ≠ 43 ∧ k ≠ 45 ∧ k ≠ 47) : btw k P = if opn P = 41 then (if cmpd P = 0 then cmk k else if k = 142 then 21 else if k = 141 then 22 else -1) else -1 := by
  unfold btw
  rw [if_neg hk.2.1, if_neg hk.2.2.1, if_neg hk.1, if_neg hk.2.2.2]
/-- behind a question -/
theorem rAsk_c {K : Int → Int} {P : List Int} {o i c : Int} {W : wT} (hk : K i ≠ 42 ∧ K i ≠ 43 ∧ K i ≠ 45 ∧ K i ≠ 47) (hc : 10 ≤ c ∧ c ≤ 15) (hP : opn P = 41) : rBeh K (c :: P) o i W = rAsk K P o i (W ++ [(c, 0)]) := by
  have rc : rk c = 4 := by unfold rk; rw [if_neg (show ¬ 40 ≤ c by omega), if_neg (show ¬ c = 22 by omega), if_neg (show ¬ c = 21 by omega), if_neg (show ¬ c = 20 by omega), if_pos (show 10 ≤ c by omega)]
  have o1 : opn (c :: P) = 41 := by rw [opn_c (by omega), hP]
  have c1 : cmpd (c :: P) = 1 := by
    show (if 4 < rk c then cmpd P else if rk c = 4 then 1 else 0) = 1
    rw [rc]; rfl
  have st : ∀ l : Int, l ≤ 4 → stl l (c :: P) o W = stl l P o (W ++ [(c, 0)]) := fun l h => by rw [stl_c (show l ≤ rk c by rw [rc]; exact h), if_neg (show ¬ (rk c = 7 ∨ c = 20) by omega)]
  have p1 : prt (K i) 41 (c :: P) = if K i = 138 then 42 else -1 := by
    unfold prt
    rw [if_neg (by decide), if_pos rfl, c1, if_pos rfl]
  have bt : btw (K i) (c :: P) = (if K i = 142 then 21 else if K i = 141 then 22 else -1) := by rw [btw_no hk, o1, if_pos rfl, c1, if_neg (by decide)]
  by_cases y : K i = 142
  · have e : btw (K i) (c :: P) = 21 := by rw [bt, if_pos y]
    unfold rBeh rAsk
    rw [e, if_pos (show (0 : Int) ≤ 21 by omega), if_pos y, show (if rk 21 = 4 then 5 else rk 21) = 2 from rfl, st 2 (by omega)]
  · by_cases y2 : K i = 141
    · have e : btw (K i) (c :: P) = 22 := by rw [bt, if_neg y, if_pos y2]
      unfold rBeh rAsk
      rw [e, if_pos (show (0 : Int) ≤ 22 by omega), if_neg y, if_pos y2, show (if rk 22 = 4 then 5 else rk 22) = 1 from rfl, st 1 (by omega)]
    · have e : btw (K i) (c :: P) = -1 := by rw [bt, if_neg y, if_neg y2]
      unfold rBeh rAsk
      rw [e, if_neg (show ¬ (0 : Int) ≤ -1 by omega), if_neg y, if_neg y2, o1, p1, st 1 (by omega)]
      by_cases y3 : K i = 138
      · rw [if_pos y3, if_pos y3, if_neg (show ¬ (42 : Int) < 0 by omega)]
      · rw [if_neg y3, if_neg y3, if_pos (show (-1 : Int) < 0 by omega), if_pos (show (0 : Int) ≤ 41 by omega)]
theorem rAsk_p {K : Int → Int} {P : List Int} {o o2 i c : Int} {W : wT} (hc : (c = 20 ∧ o = o2 + 1) ∨ (c = 21 ∧ o = o2) ∨ (c = 22 ∧ o = o2 ∧ K i ≠ 142)) : rAsk K (c :: P) o i W = rAsk K P o2 i (W ++ [(c, 0)]) := by
  unfold rAsk
  rcases hc with ⟨e, f⟩ | ⟨e, f⟩ | ⟨e, f, g⟩ <;> subst e f
  · have st : ∀ l : Int, l ≤ 3 → stl l (20 :: P) (o2 + 1) W = stl l P o2 (W ++ [(20, 0)]) := fun l h => by
      rw [stl_c (show l ≤ rk 20 from h), if_pos (show rk 20 = 7 ∨ (20 : Int) = 20 from Or.inr rfl), show o2 + 1 - 1 = o2 by omega]
    rw [st 2 (by omega), st 1 (by omega)]
  · have st : ∀ l : Int, l ≤ 2 → stl l (21 :: P) o W = stl l P o (W ++ [(21, 0)]) := fun l h => by
      rw [stl_c (show l ≤ rk 21 from h), if_neg (show ¬ (rk 21 = 7 ∨ (21 : Int) = 20) by decide)]
    rw [st 2 (by omega), st 1 (by omega)]
  · have st : ∀ l : Int, l ≤ 1 → stl l (22 :: P) o W = stl l P o (W ++ [(22, 0)]) := fun l h => by
      rw [stl_c (show l ≤ rk 22 from h), if_neg (show ¬ (rk 22 = 7 ∨ (22 : Int) = 20) by decide)]
    rw [if_neg g, if_neg g, st 1 (by omega)]
theorem askA_c {c : Int} {P : List Int} (hc : c < 40) : askA (c :: P) = if opn P = 41 then (if 1 ≤ rk c ∧ rk c ≤ 3 then 1 else 0) else 0 := by
  unfold askA
  rw [opn_c hc]
  by_cases y : 1 ≤ rk c ∧ rk c ≤ 3
  · rw [if_pos y, if_pos (show (40 ≤ tp (c :: P) ∨ (1 ≤ rk (tp (c :: P)) ∧ rk (tp (c :: P)) ≤ 3)) from Or.inr y)]
  · rw [if_neg y, if_neg (show ¬ (40 ≤ tp (c :: P) ∨ (1 ≤ rk (tp (c :: P)) ∧ rk (tp (c :: P)) ≤ 3)) from fun q => q.elim (fun q => by have q' : 40 ≤ c := q; omega) y)]
theorem askA_n {P : List Int} (h : opn P ≠ 41) : askA P = 0 := by
  unfold askA
  rw [if_neg h]
/-! what is read, class and reference -/
def Out (K V : Int → Int) (so : Int) (Sm : (Int → Int) → Int → Int → wT → Prop) (Q : Int → Prop) (af : List Int → Int → Int → wT → rC ⊕ rR) (P : List Int) (o : Int) (W : wT) (st st2 : pT) : Prop := (st2.1 = 0 ∧ st.2.1 < st2.2.1 ∧ st2.2.2.1 - st.2.2.1 ≤ st2.2.1 - st.2.1 ∧ (∀ j : Int, j < st.2.2.1 → st2.2.2.2 j = st.2.2.2 j) ∧ Q (K st2.2.1) ∧ ∃ rc : wT, (rc.length : Int) ≤ st2.2.1 - st.2.1 ∧ Sm st2.2.2.2 st.2.2.1 st2.2.2.1 rc ∧ ∀ r : rR, GoX K V so (af P o st2.2.1 (W ++ rc)) r → Gto K V so (P, o, 0, st.2.1, W) r) ∨ (st2.1 ≠ 0 ∧ Gto K V so (P, o, 0, st.2.1, W) (st2.1, st2.2.1, []))
def Rds (K V : Int → Int) (so N : Int) (sub : pT → pT) (Sm : (Int → Int) → Int → Int → wT → Prop) (Q : Int → Prop) (A : List Int → Int → Prop) (af : List Int → Int → Int → wT → rC ⊕ rR) (o : Int) : Prop := (∀ st : pT, st.1 ≠ 0 → sub st = st) ∧ (∀ st : pT, Wst N st → Wst N (sub st)) ∧ ∀ (P : List Int) (W : wT) (st : pT), A P (K st.2.1) → st.1 = 0 → Wst N st → st.2.2.1 ≤ st.2.1 → Out K V so Sm Q af P o W st (sub st)
theorem pFail_n {e : Int} {st : pT} (h : st.1 ≠ 0) : pFail e st = st := if_neg h
theorem pEmit_n {g m : Int} {st : pT} (h : st.1 ≠ 0) : pEmit g m st = st := if_neg (fun q => h q.1)
theorem pLead_n {a : Int} {st : pT} (h : st.1 ≠ 0) : pLead a st = st := if_neg (fun q => h q.1)
theorem pExp_n {K : Int → Int} {k : Int} {st : pT} (h : st.1 ≠ 0) : pExp K k st = st := by
  unfold pExp
  rw [if_neg (fun q => h q.1), pFail_n h]
theorem pLoop_n {K : Int → Int} {a b : Int} {sub : pT → pT} {k : Nat} {st : pT} (h : st.1 ≠ 0) : pLoop K a b sub k st = st := by
  cases k with
  | zero => rfl
  | succ k => exact if_neg (fun q => h q.1)
theorem pLoop_z {K : Int → Int} {a b : Int} {sub : pT → pT} {k : Nat} {st : pT} (h : ¬ (K st.2.1 = a ∨ K st.2.1 = b)) : pLoop K a b sub k st = st := by
  cases k with
  | zero => rfl
  | succ k => exact if_neg (fun q => h q.2)
theorem pEmit_y {g m : Int} {st : pT} (h : st.1 = 0 ∧ st.2.2.1 < 300) : pEmit g m st = (st.1, st.2.1, st.2.2.1 + 1, up st.2.2.2 st.2.2.1 (g + 256 * m)) := if_pos h
section P5994
variable {K V : Int → Int} {so N : Int} {Sm : (Int → Int) → Int → Int → wT → Prop} {Q : Int → Prop} {A A1 : List Int → Int → Prop} {af af1 : List Int → Int → Int → wT → rC ⊕ rR} {o a b : Int} {sub : pT → pT} {oc : Int → Int}
/-- one behind the other, with operations between -/
theorem seq_lp (hK : HK K V N) (hab : a ≠ 0 ∧ b ≠ 0) (hS : Rds K V so N sub Sm Q A1 af o) (hA2 : ∀ (P : List Int) (k k2 t : Int), A P k → (t = a ∨ t = b) → A1 (oc t :: P) k2)
    (f2 : ∀ (P : List Int) (k i t : Int) (W : wT), A P k → Q (K i) → (t = a ∨ t = b) → af (oc t :: P) o i W = af1 P o i (W ++ [(oc t, 0)]))
    (f3 : ∀ (P : List Int) (k i : Int) (W : wT), A P k → (K i = a ∨ K i = b) → af1 P o i W = .inl (oc (K i) :: P, o, 0, i + 1, W))
    (hM : ∀ (C : Int → Int) (s m e t : Int) (r1 r2 : wT), Sm C s m r1 → Sm C m e r2 → (t = a ∨ t = b) → C e = t + 256 * 0 → e < 300 → Sm C s (e + 1) (r1 ++ r2 ++ [(oc t, 0)]))
    (hG : ∀ (C D : Int → Int) (s m : Int) (r : wT), Sm C s m r → (∀ j : Int, s ≤ j ∧ j < m → D j = C j) → Sm D s m r) (hL : ∀ (C : Int → Int) (s m : Int) (r : wT), Sm C s m r → s < m) :
    ∀ (n : Nat) (P : List Int) (W : wT) (st s1 : pT) (k : Int), A P k → s1.1 = 0 → Wst N s1 → st.2.2.1 ≤ st.2.1 → 300 - s1.2.1 ≤ n → Out K V so Sm Q af1 P o W st s1 → Out K V so Sm (fun k => Q k ∧ k ≠ a ∧ k ≠ b) af1 P o W st (pLoop K a b sub n s1)
  | n, P, W, st, s1, k, hA, h1, hW, hs, hn, hO => by
    obtain ⟨_, o1, o2, o3, o4, rc, o5, o6, o7⟩ := hO.resolve_right (fun q => q.1 h1)
    by_cases y : K s1.2.1 = a ∨ K s1.2.1 = b
    · have kn : K s1.2.1 ≠ 0 := fun e => by rw [e] at y; rcases y with e | e; exact hab.1 e.symm; exact hab.2 e.symm
      have iN := (hK.2 s1.2.1 ⟨hW.2.2.1, hW.2.2.2.1⟩).2.2.2.2 kn
      have N3 := hK.1
      cases n with
      | zero => exact absurd hn (by omega)
      | succ n =>
        have hWa : Wst N (pAdv s1) := W_adv hK hW kn
        have q := hS.2.2 (oc (K s1.2.1) :: P) (W ++ rc) (pAdv s1) (hA2 P k _ _ hA y) h1 hWa (by show s1.2.2.1 ≤ s1.2.1 + 1; omega)
        have hWs := hS.2.1 _ hWa
        have go : ∀ r : rR, Gto K V so (oc (K s1.2.1) :: P, o, 0, s1.2.1 + 1, W ++ rc) r → Gto K V so (P, o, 0, st.2.1, W) r := fun r h => o7 r (by rw [f3 P k _ _ hA y]; exact h)
        have ex : pLoop K a b sub (n + 1) s1 = pLoop K a b sub n (pEmit (K s1.2.1) 0 (sub (pAdv s1))) := if_pos ⟨h1, y⟩
        rw [ex]
        generalize sub (pAdv s1) = s2 at q hWs ⊢
        rcases q with ⟨z, q1, q2, q3, q4, rc2, q5, q6, q7⟩ | ⟨z, q1⟩
        · have q1' : s1.2.1 + 1 < s2.2.1 := q1
          have q2' : s2.2.2.1 - s1.2.2.1 ≤ s2.2.1 - (s1.2.1 + 1) := q2
          have q5' : (rc2.length : Int) ≤ s2.2.1 - (s1.2.1 + 1) := q5
          have q3' : ∀ j : Int, j < s1.2.2.1 → s2.2.2.2 j = s1.2.2.2 j := q3
          have q6' : Sm s2.2.2.2 s1.2.2.1 s2.2.2.1 rc2 := q6
          have w3 := hWs.2.2.2.1
          have l1 := hL _ _ _ _ o6
          have l2 := hL _ _ _ _ q6'
          have e5 := pEmit_y (g := K s1.2.1) (m := 0) (st := s2) ⟨z, by omega⟩
          have hO2 : Out K V so Sm Q af1 P o W st (pEmit (K s1.2.1) 0 s2) := by
            rw [e5]
            refine Or.inl ⟨z, by show st.2.1 < s2.2.1; omega, by show s2.2.2.1 + 1 - st.2.2.1 ≤ s2.2.1 - st.2.1; omega, fun j hj => ?_, q4, rc ++ rc2 ++ [(oc (K s1.2.1), 0)], ?_, ?_, fun r h => ?_⟩
            · show up s2.2.2.2 s2.2.2.1 (K s1.2.1 + 256 * 0) j = st.2.2.2 j
              have := hWs.2.2.2.2.1
              rw [up_n (by omega), q3' j (by omega), o3 j hj]
            · rw [lapp3]
              show ((rc.length + rc2.length + 1 : Nat) : Int) ≤ s2.2.1 - st.2.1
              omega
            · show Sm (up s2.2.2.2 s2.2.2.1 (K s1.2.1 + 256 * 0)) st.2.2.1 (s2.2.2.1 + 1) _
              refine hM _ _ s1.2.2.1 _ _ _ _ (hG _ _ _ _ _ o6 (fun j hj => ?_)) (hG _ _ _ _ _ q6' (fun j hj => ?_)) y (up_e rfl) (by omega)
              · rw [up_n (by omega), q3' j (by omega)]
              · rw [up_n (by omega)]
            · refine go r (q7 r ?_)
              rw [f2 P k _ _ _ hA q4 y, List.append_assoc, List.append_assoc]
              rw [List.append_assoc] at h
              exact h
          refine seq_lp hK hab hS hA2 f2 f3 hM hG hL n P W st (pEmit (K s1.2.1) 0 s2) k hA ?_ (W_emit hWs) hs ?_ hO2
          · rw [e5]; exact z
          · rw [e5]
            show 300 - s2.2.1 ≤ (n : Int)
            omega
        · rw [pEmit_n z, pLoop_n z]
          exact Or.inr ⟨z, go _ q1⟩
    · rw [pLoop_z y]
      exact Or.inl ⟨h1, o1, o2, o3, ⟨o4, fun e => y (Or.inl e), fun e => y (Or.inr e)⟩, rc, o5, o6, o7⟩
theorem seq_rd (hK : HK K V N) (hab : a ≠ 0 ∧ b ≠ 0) (hS : Rds K V so N sub Sm Q A1 af o) (hA1 : ∀ (P : List Int) (k : Int), A P k → A1 P k) (hA2 : ∀ (P : List Int) (k k2 t : Int), A P k → (t = a ∨ t = b) → A1 (oc t :: P) k2)
    (f1 : ∀ (P : List Int) (k i : Int) (W : wT), A P k → Q (K i) → af P o i W = af1 P o i W)
    (f2 : ∀ (P : List Int) (k i t : Int) (W : wT), A P k → Q (K i) → (t = a ∨ t = b) → af (oc t :: P) o i W = af1 P o i (W ++ [(oc t, 0)]))
    (f3 : ∀ (P : List Int) (k i : Int) (W : wT), A P k → (K i = a ∨ K i = b) → af1 P o i W = .inl (oc (K i) :: P, o, 0, i + 1, W))
    (hM : ∀ (C : Int → Int) (s m e t : Int) (r1 r2 : wT), Sm C s m r1 → Sm C m e r2 → (t = a ∨ t = b) → C e = t + 256 * 0 → e < 300 → Sm C s (e + 1) (r1 ++ r2 ++ [(oc t, 0)]))
    (hG : ∀ (C D : Int → Int) (s m : Int) (r : wT), Sm C s m r → (∀ j : Int, s ≤ j ∧ j < m → D j = C j) → Sm D s m r) (hL : ∀ (C : Int → Int) (s m : Int) (r : wT), Sm C s m r → s < m) : Rds K V so N (pSeq K a b sub) Sm (fun k => Q k ∧ k ≠ a ∧ k ≠ b) A af1 o := by
  refine ⟨fun st h => ?_, fun st h => W_seq hK hab hS.2.1 st h, fun P W st hA h0 hW hs => ?_⟩
  · unfold pSeq
    rw [hS.1 st h, pLoop_n h]
  · have q := hS.2.2 P W st (hA1 _ _ hA) h0 hW hs
    have w1 := hS.2.1 st hW
    unfold pSeq
    generalize sub st = s1 at q w1 ⊢
    have q' : Out K V so Sm Q af1 P o W st s1 := by
      rcases q with ⟨z, q1, q2, q3, q4, rc, q5, q6, q7⟩ | q
      · exact Or.inl ⟨z, q1, q2, q3, q4, rc, q5, q6, fun r h => q7 r (by rw [f1 P _ _ _ hA q4]; exact h)⟩
      · exact Or.inr q
    by_cases y : s1.1 = 0
    · exact seq_lp hK hab hS hA2 f2 f3 hM hG hL 300 P W st s1 _ hA y w1 hs (by have := w1.2.2.1; omega) q'
    · rw [pLoop_n y]
      exact Or.inr (q'.resolve_left (fun q => y q.1))
end P5994
