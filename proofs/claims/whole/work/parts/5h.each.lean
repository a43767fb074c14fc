/-! each call, over the whole invariant -/
def KO (L : Nat) (xs : Nat → Int32) (cm rm : Nat) (as : List Value) : Prop := ∀ (ro : rT) (tl : List mj_C) (G : gT), IVA ro tl G → ∃ (i : Int32) (ro2 : rT) (tz : List mj_C) (G1 G2 : gT), mj_ca (mj_EE L xs) mj_bi 1000 cm (.ref 0 :: as) (mj_HN G ro tl) = some (some (.int i), mj_HN G1 ro2 (tl ++ tz)) ∧ mj_ca (mj_EE L xs) mj_bi 1000 rm (.ref 59 :: as) (mj_HN G1 ro2 (tl ++ tz)) = some (some (.int i), mj_HN G2 ro2 (tl ++ tz)) ∧ IVA ro2 (tl ++ tz) G2 ∧ tzOk tz
def KL (L : Nat) (xs : Nat → Int32) (cm rm : Nat) (as : List Value) : Prop := ∀ (ro : rT) (tl : List mj_C) (G : gT), IVA ro tl G → ∃ (i : Int64) (ro2 : rT) (tz : List mj_C) (G1 G2 : gT), mj_ca (mj_EE L xs) mj_bi 1000 cm (.ref 0 :: as) (mj_HN G ro tl) = some (some (.long i), mj_HN G1 ro2 (tl ++ tz)) ∧ mj_ca (mj_EE L xs) mj_bi 1000 rm (.ref 59 :: as) (mj_HN G1 ro2 (tl ++ tz)) = some (some (.long i), mj_HN G2 ro2 (tl ++ tz)) ∧ IVA ro2 (tl ++ tz) G2 ∧ tzOk tz
theorem KO_of {L : Nat} {xs : Nat → Int32} {cm rm : Nat} {as : List Value} (h : ∀ (ro : rT) (tl : List mj_C) (G : gT), IVA ro tl G → ∃ (i : Int32) (ro2 : rT) (G1 G2 : gT), mj_ca (mj_EE L xs) mj_bi 300 cm (.ref 0 :: as) (mj_HN G ro tl) = some (some (.int i), mj_HN G1 ro2 tl) ∧ mj_ca (mj_EE L xs) mj_bi 300 rm (.ref 59 :: as) (mj_HN G1 ro2 tl) = some (some (.int i), mj_HN G2 ro2 tl) ∧ IVA ro2 tl G2) : KO L xs cm rm as := fun ro tl G hI => by
  obtain ⟨i, ro2, G1, G2, a, b, c⟩ := h ro tl G hI
  refine ⟨i, ro2, [], G1, G2, ?_, ?_, ?_, tzOk_nil⟩
  · rw [List.append_nil]; exact mj_ca_le a (by omega)
  · rw [List.append_nil]; exact mj_ca_le b (by omega)
  · rw [List.append_nil]; exact c
theorem KL_of {L : Nat} {xs : Nat → Int32} {cm rm : Nat} {as : List Value} (h : ∀ (ro : rT) (tl : List mj_C) (G : gT), IVA ro tl G → ∃ (i : Int64) (ro2 : rT) (G1 G2 : gT), mj_ca (mj_EE L xs) mj_bi 300 cm (.ref 0 :: as) (mj_HN G ro tl) = some (some (.long i), mj_HN G1 ro2 tl) ∧ mj_ca (mj_EE L xs) mj_bi 300 rm (.ref 59 :: as) (mj_HN G1 ro2 tl) = some (some (.long i), mj_HN G2 ro2 tl) ∧ IVA ro2 tl G2) : KL L xs cm rm as := fun ro tl G hI => by
  obtain ⟨i, ro2, G1, G2, a, b, c⟩ := h ro tl G hI
  refine ⟨i, ro2, [], G1, G2, ?_, ?_, ?_, tzOk_nil⟩
  · rw [List.append_nil]; exact mj_ca_le a (by omega)
  · rw [List.append_nil]; exact mj_ca_le b (by omega)
  · rw [List.append_nil]; exact c
theorem IVA_8 {ro : rT} {tl : List mj_C} {G : gT} {a b : Int → Int} (h : IVA ro tl G) : IVA ro tl (gr (gr G 8 a) 69 b) := by
  have f : FrmO G (gr (gr G 8 a) 69 b) := ⟨fun c hc => by unfold scr at hc; rw [grc (by omega), grc (by omega)], fun j _ => by rw [grc (by decide), grc (by decide)], by rw [grc (by decide), grc (by decide)]⟩
  exact IVA_G h (PW_k h.1 f (by rw [grc (by decide), grc (by decide)]) (by rw [grc (by decide), grc (by decide)]) (by rw [grc (by decide), grc (by decide)])) (FrmG_O f)
section P5h
variable {L : Nat} {xs : Nat → Int32}
theorem K_person {x1 x2 : Int32} : KO L xs 173 239 [.int x1, .int x2] := KO_of fun ro tl G h => by
  have rx1 := i32b x1
  have rx2 := i32b x2
  obtain ⟨v, G1, G2, a, b, p, f⟩ := R_person (ro := ro) (tl := tl) (G := G) (d := 280) h.1 (a := x1.toInt) (b := x2.toInt) (by omega)
  simp only [zI_of] at a b
  exact ⟨_, ro, G1, G2, mj_ca_le a (by omega), mj_ca_le b (by omega), IVA_G h p (FrmG_P f)⟩
theorem K_behind {x1 x2 : Int32} : KO L xs 174 241 [.int x1, .int x2] := KO_of fun ro tl G h => by
  have rx1 := i32b x1
  have rx2 := i32b x2
  obtain ⟨v, G1, G2, a, b, p, f⟩ := R_behind (ro := ro) (tl := tl) (G := G) (d := 280) h.1 (a := x1.toInt) (b := x2.toInt) (by omega)
  simp only [zI_of] at a b
  exact ⟨_, ro, G1, G2, mj_ca_le a (by omega), mj_ca_le b (by omega), IVA_G h p (FrmG_P f)⟩
theorem K_joy {x1 x2 : Int32} : KO L xs 175 242 [.int x1, .int x2] := KO_of fun ro tl G h => by
  have rx1 := i32b x1
  have rx2 := i32b x2
  obtain ⟨v, G1, G2, a, b, p, f⟩ := R_joy (ro := ro) (tl := tl) (G := G) (d := 280) h.1 (a := x1.toInt) (b := x2.toInt) (by omega)
  simp only [zI_of] at a b
  exact ⟨_, ro, G1, G2, mj_ca_le a (by omega), mj_ca_le b (by omega), IVA_G h p (FrmG_P f)⟩
theorem K_feed {x1 x2 x3 x4 x5 : Int32} : KO L xs 176 244 [.int x1, .int x2, .int x3, .int x4, .int x5] := KO_of fun ro tl G h => by
  have rx1 := i32b x1
  have rx2 := i32b x2
  have rx3 := i32b x3
  have rx4 := i32b x4
  have rx5 := i32b x5
  obtain ⟨v, G1, G2, a, b, p, f⟩ := R_feed (ro := ro) (tl := tl) (G := G) (d := 280) h.2.2.2.2.2.1 (a := x1.toInt) (b := x2.toInt) (c := x3.toInt) (e := x4.toInt) (f := x5.toInt)
  simp only [zI_of] at a b
  exact ⟨_, ro, G1, G2, mj_ca_le a (by omega), mj_ca_le b (by omega), IVA_Y h p f⟩
theorem K_end {x1 : Int32} : KO L xs 177 245 [.int x1] := KO_of fun ro tl G h => by
  have rx1 := i32b x1
  obtain ⟨v, G1, G2, a, b, p, f⟩ := R_end (ro := ro) (tl := tl) (G := G) (d := 280) h.2.2.2.2.2.1 (n := x1.toInt) (by omega)
  simp only [zI_of] at a b
  exact ⟨_, ro, G1, G2, mj_ca_le a (by omega), mj_ca_le b (by omega), IVA_Y h p f⟩
theorem K_fault {x1 : Int32} : KO L xs 179 282 [.int x1] := KO_of fun ro tl G h => by
  have rx1 := i32b x1
  obtain ⟨v, a, b⟩ := R_flt (E := mj_EE L xs) (ro := ro) (tl := tl) (G := G) (d := 280) h.2.2.2.2.2.2.1 (w := x1.toInt) (by omega)
  simp only [zI_of] at a b
  exact ⟨_, ro, G, G, a, b, h⟩
theorem K_by {x1 : Int32} : KO L xs 180 283 [.int x1] := KO_of fun ro tl G h => by
  have rx1 := i32b x1
  obtain ⟨v, G1, G2, a, b, p⟩ := R_by (ro := ro) (tl := tl) (G := G) (d := 280) h (t := x1.toInt) (by omega)
  simp only [zI_of] at a b
  exact ⟨_, ro, G1, G2, mj_ca_le a (by omega), mj_ca_le b (by omega), p⟩
theorem K_bite {x1 : Int32} : KO L xs 181 308 [.int x1] := KO_of fun ro tl G h => by
  have rx1 := i32b x1
  obtain ⟨v, G1, G2, a, b, p, f⟩ := R_biteF (ro := ro) (tl := tl) (G := G) (d := 280) h.1 (p := x1.toInt) (by omega)
  simp only [zI_of] at a b
  exact ⟨_, ro, G1, G2, mj_ca_le a (by omega), mj_ca_le b (by omega), IVA_G h p (FrmG_P f)⟩
theorem K_come {x1 : Int32} : KO L xs 182 309 [.int x1] := KO_of fun ro tl G h => by
  have rx1 := i32b x1
  obtain ⟨v, G1, G2, a, b, p, f⟩ := R_comeF (ro := ro) (tl := tl) (G := G) (d := 280) h.1 (p := x1.toInt) (by omega)
  simp only [zI_of] at a b
  exact ⟨_, ro, G1, G2, mj_ca_le a (by omega), mj_ca_le b (by omega), IVA_G h p (FrmG_P f)⟩
theorem K_walk {x1 x2 : Int32} : KO L xs 183 310 [.int x1, .int x2] := KO_of fun ro tl G h => by
  have rx1 := i32b x1
  have rx2 := i32b x2
  obtain ⟨v, G1, G2, a, b, p, f⟩ := R_walkF (ro := ro) (tl := tl) (G := G) (d := 280) h.1 (p := x1.toInt) (c := x2.toInt) (by omega)
  simp only [zI_of] at a b
  exact ⟨_, ro, G1, G2, mj_ca_le a (by omega), mj_ca_le b (by omega), IVA_G h p (FrmG_P f)⟩
theorem K_buy {x1 x2 : Int32} : KO L xs 184 311 [.int x1, .int x2] := KO_of fun ro tl G h => by
  have rx1 := i32b x1
  have rx2 := i32b x2
  obtain ⟨v, G1, G2, a, b, p, f⟩ := R_buyF (ro := ro) (tl := tl) (G := G) (d := 280) h.1 (p := x1.toInt) (c := x2.toInt) (by omega)
  simp only [zI_of] at a b
  exact ⟨_, ro, G1, G2, mj_ca_le a (by omega), mj_ca_le b (by omega), IVA_G h p (FrmG_P f)⟩
theorem K_hour {x1 : Int32} : KO L xs 185 313 [.int x1] := KO_of fun ro tl G h => by
  have rx1 := i32b x1
  obtain ⟨v, G1, G2, a, b, p, f⟩ := R_hour (ro := ro) (tl := tl) (G := G) (d := 288) h.1 (n := x1.toInt) (by omega)
  simp only [zI_of] at a b
  exact ⟨_, ro, G1, G2, mj_ca_le a (by omega), mj_ca_le b (by omega), IVA_G h p (FrmG_P (Frm_P f))⟩
theorem K_played {x1 : Int32} : KO L xs 186 315 [.int x1] := KO_of fun ro tl G h => by
  have rx1 := i32b x1
  obtain ⟨v, G1, G2, a, b, p, f⟩ := R_played (ro := ro) (tl := tl) (G := G) (d := 276) h.1 (TXM_S h.2.1) (t := x1.toInt) (by omega)
  simp only [zI_of] at a b
  exact ⟨_, ro, G1, G2, mj_ca_le a (by omega), mj_ca_le b (by omega), IVA_G h p (FrmG_P f)⟩
theorem K_years {x1 x2 : Int32} : KO L xs 187 317 [.int x1, .int x2] := KO_of fun ro tl G h => by
  have rx1 := i32b x1
  have rx2 := i32b x2
  obtain ⟨v, G1, G2, a, b, p, f⟩ := R_years (ro := ro) (tl := tl) (G := G) (d := 288) h.1 (s := x1.toInt) (n := x2.toInt) (by omega)
  simp only [zI_of] at a b
  exact ⟨_, ro, G1, G2, mj_ca_le a (by omega), mj_ca_le b (by omega), IVA_G h p (FrmG_P (Frm_P f))⟩
theorem K_undo : KO L xs 188 307 [] := KO_of fun ro tl G h => by
  obtain ⟨v, G1, G2, a, b, p, f⟩ := R_undoF (ro := ro) (tl := tl) (G := G) (d := 280) h.1 
  exact ⟨_, ro, G1, G2, mj_ca_le a (by omega), mj_ca_le b (by omega), IVA_G h p (FrmG_P f)⟩
theorem K_of {x1 x2 : Int32} : KO L xs 189 318 [.int x1, .int x2] := KO_of fun ro tl G h => by
  have rx1 := i32b x1
  have rx2 := i32b x2
  obtain ⟨v, G1, G2, a, b, p, f⟩ := R_of (ro := ro) (tl := tl) (G := G) (d := 280) h.1 (p := x1.toInt) (q := x2.toInt) (by omega)
  simp only [zI_of] at a b
  exact ⟨_, ro, G1, G2, mj_ca_le a (by omega), mj_ca_le b (by omega), IVA_G h p (FrmG_O f)⟩
theorem K_place {x1 x2 : Int32} : KO L xs 190 319 [.int x1, .int x2] := KO_of fun ro tl G h => by
  have rx1 := i32b x1
  have rx2 := i32b x2
  obtain ⟨v, a, b⟩ := Q_place (E := mj_EE L xs) (ro := ro) (tl := tl) (G := G) (d := 280) h.1 (c := x1.toInt) (q := x2.toInt) (by omega)
  simp only [zI_of] at a b
  exact ⟨_, ro, G, G, a, b, h⟩
theorem K_is {x1 : Int32} : KO L xs 191 321 [.int x1] := KO_of fun ro tl G h => by
  have rx1 := i32b x1
  obtain ⟨v, a, b⟩ := Q_is (E := mj_EE L xs) (ro := ro) (tl := tl) (G := G) (d := 280) h.1 (q := x1.toInt) (by omega)
  simp only [zI_of] at a b
  exact ⟨_, ro, G, G, a, b, h⟩
theorem K_book {x1 x2 : Int32} : KO L xs 192 323 [.int x1, .int x2] := KO_of fun ro tl G h => by
  have rx1 := i32b x1
  have rx2 := i32b x2
  obtain ⟨v, a, b⟩ := Q_book (E := mj_EE L xs) (ro := ro) (tl := tl) (G := G) (d := 280) h.1 (i := x1.toInt) (q := x2.toInt) (by omega)
  simp only [zI_of] at a b
  exact ⟨_, ro, G, G, a, b, h⟩
theorem K_foretold {x1 x2 : Int32} : KO L xs 193 330 [.int x1, .int x2] := KO_of fun ro tl G h => by
  have rx1 := i32b x1
  have rx2 := i32b x2
  obtain ⟨v, G1, G2, a, b, p, f⟩ := R_foretold (ro := ro) (tl := tl) (G := G) (d := 280) h.1 (n := x1.toInt) (q := x2.toInt) (by omega)
  simp only [zI_of] at a b
  exact ⟨_, ro, G1, G2, mj_ca_le a (by omega), mj_ca_le b (by omega), IVA_G h p (FrmG_O f)⟩
theorem K_after {x1 x2 : Int32} : KO L xs 194 331 [.int x1, .int x2] := KO_of fun ro tl G h => by
  have rx1 := i32b x1
  have rx2 := i32b x2
  obtain ⟨v, a, b⟩ := Q_after (E := mj_EE L xs) (ro := ro) (tl := tl) (G := G) (d := 280) h.1.1 (c := x1.toInt) (n := x2.toInt) (by omega)
  simp only [zI_of] at a b
  exact ⟨_, ro, G, G, a, b, h⟩
theorem K_rings : KO L xs 196 336 [] := KO_of fun ro tl G h => by
  obtain ⟨v, a, b⟩ := Q_rings (E := mj_EE L xs) (ro := ro) (tl := tl) (G := G) (d := 280) h.1.1 
  exact ⟨_, ro, G, G, a, b, h⟩
theorem K_left {x1 : Int32} : KO L xs 197 337 [.int x1] := KO_of fun ro tl G h => by
  have rx1 := i32b x1
  obtain ⟨v, a, b⟩ := Q_left (E := mj_EE L xs) (ro := ro) (tl := tl) (G := G) (d := 280) h.1.1 (n := x1.toInt) (by omega)
  simp only [zI_of] at a b
  exact ⟨_, ro, G, G, a, b, h⟩
theorem K_into {x1 : Int32} : KO L xs 198 338 [.int x1] := KO_of fun ro tl G h => by
  have rx1 := i32b x1
  obtain ⟨v, a, b⟩ := Q_into (E := mj_EE L xs) (ro := ro) (tl := tl) (G := G) (d := 280) h.1.1 (c := x1.toInt) (by omega)
  simp only [zI_of] at a b
  exact ⟨_, ro, G, G, a, b, h⟩
theorem K_meet {x1 x2 x3 : Int32} : KO L xs 199 339 [.int x1, .int x2, .int x3] := KO_of fun ro tl G h => by
  have rx1 := i32b x1
  have rx2 := i32b x2
  have rx3 := i32b x3
  obtain ⟨v, a, b⟩ := Q_meet (E := mj_EE L xs) (ro := ro) (tl := tl) (G := G) (d := 280) h.1.1 (a := x1.toInt) (b := x2.toInt) (i := x3.toInt) (by omega)
  simp only [zI_of] at a b
  exact ⟨_, ro, G, G, a, b, h⟩
theorem K_game {x1 : Int32} : KO L xs 200 342 [.int x1] := KO_of fun ro tl G h => by
  have rx1 := i32b x1
  obtain ⟨v, f, g, a, b⟩ := Q_game (E := mj_EE L xs) (ro := ro) (tl := tl) (G := G) (d := 280) h.1.1 (c := x1.toInt) (by omega)
  simp only [zI_of] at a b
  exact ⟨_, ro, _, _, a, b, IVA_8 h⟩
theorem K_move {x1 : Int32} : KO L xs 201 343 [.int x1] := KO_of fun ro tl G h => by
  have rx1 := i32b x1
  obtain ⟨v, f, g, a, b⟩ := Q_move (E := mj_EE L xs) (ro := ro) (tl := tl) (G := G) (d := 280) h.1.1 (c := x1.toInt) (by omega)
  simp only [zI_of] at a b
  exact ⟨_, ro, _, _, a, b, IVA_8 h⟩
theorem K_miss {x1 x2 : Int32} : KO L xs 202 345 [.int x1, .int x2] := KO_of fun ro tl G h => by
  have rx1 := i32b x1
  have rx2 := i32b x2
  obtain ⟨v, G1, G2, a, b, p, f⟩ := R_miss (ro := ro) (tl := tl) (G := G) (d := 280) h.2.2.2.1 (f := x1.toInt) (t := x2.toInt) (by omega)
  simp only [zI_of] at a b
  exact ⟨_, ro, G1, G2, mj_ca_le a (by omega), mj_ca_le b (by omega), IVA_T h p f⟩
theorem K_meeting {x1 x2 : Int32} : KO L xs 203 346 [.int x1, .int x2] := KO_of fun ro tl G h => by
  have rx1 := i32b x1
  have rx2 := i32b x2
  obtain ⟨v, G1, G2, a, b, p, f⟩ := R_meeting (ro := ro) (tl := tl) (G := G) (d := 280) h.2.2.2.1 (f := x1.toInt) (t := x2.toInt) (by omega)
  simp only [zI_of] at a b
  exact ⟨_, ro, G1, G2, mj_ca_le a (by omega), mj_ca_le b (by omega), IVA_T h p f⟩
theorem K_plan {x1 x2 : Int32} : KO L xs 204 351 [.int x1, .int x2] := KO_of fun ro tl G h => by
  have rx1 := i32b x1
  have rx2 := i32b x2
  obtain ⟨v, f, g, a, b, hf, hg⟩ := R_plan (E := mj_EE L xs) (ro := ro) (tl := tl) (G := G) (d := 280) h.2.2.2.1 (n := x1.toInt) (i := x2.toInt) (by omega)
  simp only [zI_of] at a b
  exact ⟨_, ro, _, _, a, b, IVA_L h hf hg⟩
theorem K_need {x1 : Int32} : KO L xs 205 352 [.int x1] := KO_of fun ro tl G h => by
  have rx1 := i32b x1
  obtain ⟨v, f, g, a, b, hf, hg⟩ := R_need (E := mj_EE L xs) (ro := ro) (tl := tl) (G := G) (d := 280) h.2.2.2.1 (i := x1.toInt) (by omega)
  simp only [zI_of] at a b
  exact ⟨_, ro, _, _, a, b, IVA_L h hf hg⟩
theorem K_entry {x1 : Int32} : KO L xs 206 353 [.int x1] := KO_of fun ro tl G h => by
  have rx1 := i32b x1
  obtain ⟨v, G1, G2, a, b, p, f⟩ := R_entry (ro := ro) (tl := tl) (G := G) (d := 280) h.2.2.2.2.1 (i := x1.toInt) (by omega)
  simp only [zI_of] at a b
  exact ⟨_, ro, G1, G2, mj_ca_le a (by omega), mj_ca_le b (by omega), IVA_E h p f⟩
theorem K_law {x1 : Int32} : KO L xs 207 360 [.int x1] := KO_of fun ro tl G h => by
  have rx1 := i32b x1
  obtain ⟨v, G1, G2, a, b, f⟩ := R_lawP (ro := ro) (tl := tl) (G := G) (d := 280) h.2.2.2.2.1 (i := x1.toInt) (by omega)
  simp only [zI_of] at a b
  exact ⟨_, ro, G1, G2, mj_ca_le a (by omega), mj_ca_le b (by omega), IVA_G h (PW_W h.1 f) (FrmG_W f)⟩
theorem K_fits {x1 : Int32} : KO L xs 208 361 [.int x1] := KO_of fun ro tl G h => by
  have rx1 := i32b x1
  obtain ⟨v, G1, G2, a, b, f⟩ := R_fits (ro := ro) (tl := tl) (G := G) (d := 280) h.2.2.2.2.1 (i := x1.toInt) (by omega)
  simp only [zI_of] at a b
  exact ⟨_, ro, G1, G2, mj_ca_le a (by omega), mj_ca_le b (by omega), IVA_G h (PW_W h.1 f) (FrmG_W f)⟩
theorem K_worth {x1 x2 : Int32} : KO L xs 209 366 [.int x1, .int x2] := KO_of fun ro tl G h => by
  have rx1 := i32b x1
  have rx2 := i32b x2
  obtain ⟨v, G1, G2, a, b, p, f⟩ := R_worth (ro := ro) (tl := tl) (G := G) (d := 280) h.1 (p := x1.toInt) (n := x2.toInt) (by omega)
  simp only [zI_of] at a b
  exact ⟨_, ro, G1, G2, mj_ca_le a (by omega), mj_ca_le b (by omega), IVA_G h p (FrmG_O f)⟩
theorem K_best {x1 x2 : Int32} : KO L xs 210 367 [.int x1, .int x2] := KO_of fun ro tl G h => by
  have rx1 := i32b x1
  have rx2 := i32b x2
  obtain ⟨v, G1, G2, a, b, p, f⟩ := R_best (ro := ro) (tl := tl) (G := G) (d := 280) h.1 (p := x1.toInt) (n := x2.toInt) (by omega)
  simp only [zI_of] at a b
  exact ⟨_, ro, G1, G2, mj_ca_le a (by omega), mj_ca_le b (by omega), IVA_G h p (FrmG_O f)⟩
theorem K_said {x1 x2 : Int32} : KO L xs 213 371 [.int x1, .int x2] := KO_of fun ro tl G h => by
  have rx1 := i32b x1
  have rx2 := i32b x2
  obtain ⟨v, G1, G2, a, b, p, f⟩ := R_said (ro := ro) (tl := tl) (G := G) (d := 280) h.1 h.2.2.1 (p := x1.toInt) (v := x2.toInt) (by omega)
  simp only [zI_of] at a b
  exact ⟨_, ro, G1, G2, mj_ca_le a (by omega), mj_ca_le b (by omega), IVA_S h p f⟩
theorem K_whose : KO L xs 214 372 [] := KO_of fun ro tl G h => by
  obtain ⟨v, G1, G2, a, b, p, f⟩ := R_whose (ro := ro) (tl := tl) (G := G) (d := 280) h.1 h.2.2.1 (TXM_S h.2.1) 
  exact ⟨_, ro, G1, G2, mj_ca_le a (by omega), mj_ca_le b (by omega), IVA_G h p (FrmG_O f)⟩
theorem K_deepest : KO L xs 215 325 [] := KO_of fun ro tl G h => by
  obtain ⟨v, a, b⟩ := Q_deepest (E := mj_EE L xs) (ro := ro) (tl := tl) (G := G) (d := 280) h.1 
  exact ⟨_, ro, G, G, a, b, h⟩
theorem K_away : KO L xs 216 326 [] := KO_of fun ro tl G h => by
  obtain ⟨v, a, b⟩ := Q_away (E := mj_EE L xs) (ro := ro) (tl := tl) (G := G) (d := 280) h.1 
  exact ⟨_, ro, G, G, a, b, h⟩
theorem K_alone : KO L xs 217 327 [] := KO_of fun ro tl G h => by
  obtain ⟨v, a, b⟩ := Q_alone (E := mj_EE L xs) (ro := ro) (tl := tl) (G := G) (d := 280) h.1 
  exact ⟨_, ro, G, G, a, b, h⟩
theorem K_gladdest : KO L xs 218 329 [] := KO_of fun ro tl G h => by
  obtain ⟨v, a, b⟩ := Q_gladdest (E := mj_EE L xs) (ro := ro) (tl := tl) (G := G) (d := 280) h.1 
  exact ⟨_, ro, G, G, a, b, h⟩
theorem K_ledger {x1 : Int32} : KO L xs 219 324 [.int x1] := KO_of fun ro tl G h => by
  have rx1 := i32b x1
  obtain ⟨v, a, b⟩ := Q_ledger (E := mj_EE L xs) (ro := ro) (tl := tl) (G := G) (d := 280) h.1 (q := x1.toInt) (by omega)
  simp only [zI_of] at a b
  exact ⟨_, ro, G, G, a, b, h⟩
theorem K_image : KO L xs 220 373 [] := KO_of fun ro tl G h => by
  obtain ⟨v, ro2, G1, G2, a, b, p⟩ := R_image (E := mj_EE L xs) (ro := ro) (tl := tl) (G := G) (d := 280) h
  exact ⟨_, ro2, G1, G2, a, b, p⟩
theorem K_back : KO L xs 221 374 [] := KO_of fun ro tl G h => by
  obtain ⟨v, ro2, G1, G2, a, b, p⟩ := R_back (E := mj_EE L xs) (ro := ro) (tl := tl) (G := G) (d := 280) h
  exact ⟨_, ro2, G1, G2, a, b, p⟩
theorem K_about {x1 : Int32} : KO L xs 222 375 [.int x1] := KO_of fun ro tl G h => by
  have rx1 := i32b x1
  obtain ⟨v, a, b⟩ := R_about (E := mj_EE L xs) (ro := ro) (tl := tl) (G := G) (d := 280) h (w := x1.toInt) (by omega)
  simp only [zI_of] at a b
  exact ⟨_, ro, G, G, a, b, h⟩
theorem K_ring {x1 : Int32} {q : Int} (hq : q = 0 ∨ q = 1) : KO L xs 195 335 [.int x1, .int (zI q)] := KO_of fun ro tl G h => by
  have r1 := i32b x1
  obtain ⟨v, a, b⟩ := Q_ring (E := mj_EE L xs) (ro := ro) (tl := tl) (G := G) (d := 280) h.1.1 (c := x1.toInt) (q := q) (by omega) hq
  simp only [zI_of] at a b
  exact ⟨_, ro, G, G, a, b, h⟩
theorem K_longing {x1 : Int32} {q : Int} (hq : q = 0 ∨ q = 1) : KO L xs 212 370 [.int x1, .int (zI q)] := KO_of fun ro tl G h => by
  have r1 := i32b x1
  obtain ⟨v, G1, G2, a, b, p, f⟩ := R_longing (E := mj_EE L xs) (ro := ro) (tl := tl) (G := G) (d := 280) h.1 (p := x1.toInt) (lw := q) (by omega)
  simp only [zI_of] at a b
  exact ⟨_, ro, G1, G2, a, b, IVA_G h p (FrmG_O f)⟩
theorem K_likely {x1 x2 x3 : Int32} {q : Int} (hq : q = 0 ∨ q = 1) : KL L xs 211 369 [.int x1, .int x2, .int x3, .int (zI q)] := KL_of fun ro tl G h => by
  have r1 := i32b x1
  have r2 := i32b x2
  have r3 := i32b x3
  obtain ⟨v, G1, G2, a, b, p, f, _⟩ := R_likely (E := mj_EE L xs) (ro := ro) (tl := tl) (G := G) (d := 280) h.1 (p := x1.toInt) (n := x2.toInt) (t := x3.toInt) (lw := q) (by omega)
  simp only [zI_of] at a b
  exact ⟨_, ro, G1, G2, a, b, IVA_G h p (FrmG_O f)⟩
theorem K_text : KO L xs 178 281 [] := fun ro tl G h => by
  obtain ⟨v, ro2, tz, G1, G2, a, b, c1, c2, c3, c4, c5, c6, c7, c8, c9⟩ := R_text (L := L) (xs := xs) (ro := ro) (tl := tl) (G := G) (d := 100) h.2.2.2.2.2.1 h.2.1 h.2.2.2.2.2.2.2.1
  exact ⟨_, ro2, tz, G1, G2, mj_ca_le a (by omega), mj_ca_le b (by omega), IVA_X h c1 c2 c3 (c4 h.2.2.2.2.2.2.1) c5 c6 c7 c8, c9⟩
end P5h
