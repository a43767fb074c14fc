/-! the invariant over image and back -/
theorem cpy0 {f g : Int → Int} {n j : Int} (h : 0 ≤ j ∧ j < n) : cpy f g 0 0 n j = f j := by
  rw [cpy_i (by omega)]
  congr 1
  omega
theorem bkG_o {G : gT} {c : Nat} (h : c ≠ 4 ∧ c ≠ 6 ∧ c ≠ 7 ∧ c ≠ 10 ∧ c ≠ 12 ∧ c ≠ 13 ∧ c ≠ 15 ∧ c ≠ 16 ∧ c ≠ 19 ∧ c ≠ 20 ∧ c ≠ 22 ∧ c ≠ 23) : bkG G c = G c := by
  unfold bkG
  rw [grc (by omega), grc (by omega), grc (by omega), grc (by omega), grc (by omega), grc (by omega), grc (by omega), grc (by omega), grc (by omega), grc (by omega), grc (by omega), grc (by omega)]
theorem imG_o {G : gT} {c : Nat} (h : c < 24 ∨ 43 < c) : imG G c = G c := by
  unfold imG
  rw [grc (by omega), grc (by omega), grc (by omega), grc (by omega), grc (by omega), grc (by omega), grc (by omega), grc (by omega), grc (by omega), grc (by omega), grc (by omega), grc (by omega)]
theorem bkG_6 {G : gT} {j : Int} (h : 0 ≤ j ∧ j < 8) : bkG G 6 j = G 26 j := by
  have e : bkG G 6 = cpy (G 26) (G 6) 0 0 8 := rfl
  rw [e, cpy0 h]
theorem bkG_7 {G : gT} {j : Int} (h : 0 ≤ j ∧ j < 8) : bkG G 7 j = G 27 j := by
  have e : bkG G 7 = cpy (G 27) (G 7) 0 0 8 := rfl
  rw [e, cpy0 h]
theorem bkG_10 {G : gT} {j : Int} (h : 0 ≤ j ∧ j < 54) : bkG G 10 j = G 30 j := by
  have e : bkG G 10 = cpy (G 30) (G 10) 0 0 54 := rfl
  rw [e, cpy0 h]
theorem bkG_12 {G : gT} {j : Int} (h : 0 ≤ j ∧ j < 2) : bkG G 12 j = G 32 j := by
  have e : bkG G 12 = cpy (G 32) (G 12) 0 0 2 := rfl
  rw [e, cpy0 h]
theorem bkG_13 {G : gT} {j : Int} (h : 0 ≤ j ∧ j < 2) : bkG G 13 j = G 33 j := by
  have e : bkG G 13 = cpy (G 33) (G 13) 0 0 2 := rfl
  rw [e, cpy0 h]
theorem bkG_16 {G : gT} {j : Int} (h : 0 ≤ j ∧ j < 16) : bkG G 16 j = G 36 j := by
  have e : bkG G 16 = cpy (G 36) (G 16) 0 0 16 := rfl
  rw [e, cpy0 h]
theorem bkG_20 {G : gT} {j : Int} (h : 0 ≤ j ∧ j < 1620) : bkG G 20 j = G 40 j := by
  have e : bkG G 20 = cpy (G 40) (G 20) 0 0 1620 := rfl
  rw [e, cpy0 h]
theorem bkG_22 {G : gT} {j : Int} (h : 0 ≤ j ∧ j < 8) : bkG G 22 j = G 42 j := by
  have e : bkG G 22 = cpy (G 42) (G 22) 0 0 8 := rfl
  rw [e, cpy0 h]
theorem bkG_23 {G : gT} {j : Int} (h : 0 ≤ j ∧ j < 8) : bkG G 23 j = G 43 j := by
  have e : bkG G 23 = cpy (G 43) (G 23) 0 0 8 := rfl
  rw [e, cpy0 h]
theorem bkG_15 {G : gT} : bkG G 15 3 = G 35 3 := rfl
theorem bkG_19a {G : gT} : bkG G 19 1 = G 39 1 := rfl
theorem bkG_19b {G : gT} : bkG G 19 2 = G 39 2 := rfl
theorem bkG_4 {G : gT} {j : Int} (h : 9 ≤ j ∧ j < 12) : bkG G 4 j = G 24 j := by
  have h3 : j = 9 ∨ j = 10 ∨ j = 11 := by omega
  rcases h3 with e | e | e <;> subst e <;> rfl
theorem bkR_i {ro : rT} {j : Int} (h : 0 ≤ j ∧ j < 4) : bkR ro 21 j = ro 41 j := by
  have h3 : j = 0 ∨ j = 1 ∨ j = 2 ∨ j = 3 := by omega
  rcases h3 with e | e | e | e <;> subst e <;> rfl
theorem bkR_o {ro : rT} {c : Nat} {j : Int} (h : c ≠ 21) : bkR ro c j = ro c j := by
  unfold bkR
  rw [rs_c h, rs_c h, rs_c h, rs_c h]
theorem imG_6 {G : gT} {j : Int} (h : 0 ≤ j ∧ j < 8) : imG G 26 j = G 6 j := by
  have e : imG G 26 = cpy (G 6) (G 26) 0 0 8 := rfl
  rw [e, cpy0 h]
theorem imG_7 {G : gT} {j : Int} (h : 0 ≤ j ∧ j < 8) : imG G 27 j = G 7 j := by
  have e : imG G 27 = cpy (G 7) (G 27) 0 0 8 := rfl
  rw [e, cpy0 h]
theorem imG_10 {G : gT} {j : Int} (h : 0 ≤ j ∧ j < 54) : imG G 30 j = G 10 j := by
  have e : imG G 30 = cpy (G 10) (G 30) 0 0 54 := rfl
  rw [e, cpy0 h]
theorem imG_12 {G : gT} {j : Int} (h : 0 ≤ j ∧ j < 2) : imG G 32 j = G 12 j := by
  have e : imG G 32 = cpy (G 12) (G 32) 0 0 2 := rfl
  rw [e, cpy0 h]
theorem imG_13 {G : gT} {j : Int} (h : 0 ≤ j ∧ j < 2) : imG G 33 j = G 13 j := by
  have e : imG G 33 = cpy (G 13) (G 33) 0 0 2 := rfl
  rw [e, cpy0 h]
theorem imG_16 {G : gT} {j : Int} (h : 0 ≤ j ∧ j < 16) : imG G 36 j = G 16 j := by
  have e : imG G 36 = cpy (G 16) (G 36) 0 0 16 := rfl
  rw [e, cpy0 h]
theorem imG_20 {G : gT} {j : Int} (h : 0 ≤ j ∧ j < 1620) : imG G 40 j = G 20 j := by
  have e : imG G 40 = cpy (G 20) (G 40) 0 0 1620 := rfl
  rw [e, cpy0 h]
theorem imG_22 {G : gT} {j : Int} (h : 0 ≤ j ∧ j < 8) : imG G 42 j = G 22 j := by
  have e : imG G 42 = cpy (G 22) (G 42) 0 0 8 := rfl
  rw [e, cpy0 h]
theorem imG_23 {G : gT} {j : Int} (h : 0 ≤ j ∧ j < 8) : imG G 43 j = G 23 j := by
  have e : imG G 43 = cpy (G 23) (G 43) 0 0 8 := rfl
  rw [e, cpy0 h]
theorem imG_15 {G : gT} : imG G 35 3 = G 15 3 := rfl
theorem imG_19a {G : gT} : imG G 39 1 = G 19 1 := rfl
theorem imG_19b {G : gT} : imG G 39 2 = G 19 2 := rfl
theorem imG_4 {G : gT} {j : Int} (h : 9 ≤ j ∧ j < 12) : imG G 24 j = G 4 j := by
  have h3 : j = 9 ∨ j = 10 ∨ j = 11 := by omega
  rcases h3 with e | e | e <;> subst e <;> rfl
theorem imR_i {ro : rT} {j : Int} (h : 0 ≤ j ∧ j < 4) : imR ro 41 j = ro 21 j := by
  have h3 : j = 0 ∨ j = 1 ∨ j = 2 ∨ j = 3 := by omega
  rcases h3 with e | e | e | e <;> subst e <;> rfl
theorem imR_o {ro : rT} {c : Nat} {j : Int} (h : c ≠ 41) : imR ro c j = ro c j := by
  unfold imR
  rw [rs_c h, rs_c h, rs_c h, rs_c h]
/-- the world when the kept one is back -/
theorem WE_bk {G : gT} {n : Int} : WE n (sw G) (gr (bkG G) 60 (rng 0 1763 (G 61) (G 60))) := by
  have o : ∀ c : Nat, c ≠ 60 → (gr (bkG G) 60 (rng 0 1763 (G 61) (G 60))) c = bkG G c := fun c hc => grc hc
  have e60 : (gr (bkG G) 60 (rng 0 1763 (G 61) (G 60))) 60 = rng 0 1763 (G 61) (G 60) := gre
  unfold WE
  rw [o 6 (by omega), o 7 (by omega), o 10 (by omega), o 12 (by omega), o 13 (by omega), o 15 (by omega), o 16 (by omega), o 19 (by omega), o 20 (by omega), o 22 (by omega), o 23 (by omega), o 4 (by omega), o 62 (by omega), e60, sw_c (c := 6) (by omega), sw_c (c := 7) (by omega), sw_c (c := 10) (by omega), sw_c (c := 12) (by omega), sw_c (c := 13) (by omega), sw_c (c := 15) (by omega), sw_c (c := 16) (by omega), sw_c (c := 19) (by omega), sw_c (c := 20) (by omega), sw_c (c := 22) (by omega), sw_c (c := 23) (by omega), sw_c (c := 4) (by omega), sw_60, sw_62]
  exact ⟨fun j hj => bkG_6 hj, fun j hj => bkG_7 hj, fun j hj => bkG_10 hj, fun j hj => bkG_12 hj, fun j hj => bkG_13 hj, bkG_15, fun j hj => bkG_16 hj, bkG_19a, bkG_19b, fun j hj => bkG_20 hj, fun j hj => bkG_22 hj, fun j hj => bkG_23 hj, fun j hj => bkG_4 hj, fun j hj => rng_i hj, fun j _ => by rw [bkG_o (by decide)]⟩
/-- the kept world when the world is kept -/
theorem WE_im {G : gT} {n : Int} : WE n G (sw (gr (imG G) 61 (rng 0 1763 (G 60) (G 61)))) := by
  have o : ∀ c : Nat, c ≠ 61 → (gr (imG G) 61 (rng 0 1763 (G 60) (G 61))) c = imG G c := fun c hc => grc hc
  have e61 : (gr (imG G) 61 (rng 0 1763 (G 60) (G 61))) 61 = rng 0 1763 (G 60) (G 61) := gre
  unfold WE
  rw [sw_c (c := 6) (by omega), sw_c (c := 7) (by omega), sw_c (c := 10) (by omega), sw_c (c := 12) (by omega), sw_c (c := 13) (by omega), sw_c (c := 15) (by omega), sw_c (c := 16) (by omega), sw_c (c := 19) (by omega), sw_c (c := 20) (by omega), sw_c (c := 22) (by omega), sw_c (c := 23) (by omega), sw_c (c := 4) (by omega), sw_60, sw_62, o 26 (by omega), o 27 (by omega), o 30 (by omega), o 32 (by omega), o 33 (by omega), o 35 (by omega), o 36 (by omega), o 39 (by omega), o 40 (by omega), o 42 (by omega), o 43 (by omega), o 24 (by omega), o 62 (by omega), e61]
  exact ⟨fun j hj => imG_6 hj, fun j hj => imG_7 hj, fun j hj => imG_10 hj, fun j hj => imG_12 hj, fun j hj => imG_13 hj, imG_15, fun j hj => imG_16 hj, imG_19a, imG_19b, fun j hj => imG_20 hj, fun j hj => imG_22 hj, fun j hj => imG_23 hj, fun j hj => imG_4 hj, fun j hj => rng_i hj, fun j _ => by rw [imG_o (by omega)]⟩
theorem WE_rf {n : Int} {G : gT} : WE n G G := ⟨fun _ _ => rfl, fun _ _ => rfl, fun _ _ => rfl, fun _ _ => rfl, fun _ _ => rfl, rfl, fun _ _ => rfl, rfl, rfl, fun _ _ => rfl, fun _ _ => rfl, fun _ _ => rfl, fun _ _ => rfl, fun _ _ => rfl, fun _ _ => rfl⟩
theorem WE_sw {n : Int} {G H : gT} (e : ∀ c : Nat, (24 ≤ c ∧ c ≤ 43) ∨ c = 61 ∨ c = 62 → H c = G c) : WE n (sw G) (sw H) := by
  have s : ∀ c : Nat, 4 ≤ c ∧ c ≤ 23 → sw H c = sw G c := fun c hc => by rw [sw_c hc, sw_c hc, e (c + 20) (by omega)]
  have s60 : sw H 60 = sw G 60 := by rw [sw_60, sw_60, e 61 (by omega)]
  have s62 : sw H 62 = sw G 62 := by rw [sw_62, sw_62, e 62 (by omega)]
  unfold WE
  rw [s 6 (by omega), s 7 (by omega), s 10 (by omega), s 12 (by omega), s 13 (by omega), s 15 (by omega), s 16 (by omega), s 19 (by omega), s 20 (by omega), s 22 (by omega), s 23 (by omega), s 4 (by omega), s60, s62]
  exact WE_rf (G := sw G)
theorem IVA_back {ro : rT} {tl : List mj_C} {G : gT} (h : IVA ro tl G) : IVA (bkR ro) tl (gr (bkG G) 60 (rng 0 1763 (G 61) (G 60))) := by
  obtain ⟨i1, i2, i3, i4, i5, i6, i7, i8, k1, k2, k3⟩ := h
  obtain ⟨p1, p2, p3⟩ := PW_0 i1
  have o : ∀ c : Nat, (c ≠ 4 ∧ c ≠ 6 ∧ c ≠ 7 ∧ c ≠ 10 ∧ c ≠ 12 ∧ c ≠ 13 ∧ c ≠ 15 ∧ c ≠ 16 ∧ c ≠ 19 ∧ c ≠ 20 ∧ c ≠ 22 ∧ c ≠ 23) ∧ c ≠ 60 → (gr (bkG G) 60 (rng 0 1763 (G 61) (G 60))) c = G c := fun c hc => by rw [grc hc.2, bkG_o hc.1]
  have e49 : (gr (bkG G) 60 (rng 0 1763 (G 61) (G 60))) 4 9 = G 24 9 := rfl
  have hx : TXP ((gr (bkG G) 60 (rng 0 1763 (G 61) (G 60))) 62) := by rw [o 62 (by decide)]; exact i2.2.2.2.1
  have W := WI_cg (ro2 := bkR ro) (tl2 := tl) k1 WE_bk hx (fun j hj => by unfold rsw; rw [if_pos rfl]; exact bkR_i hj) (fun _ _ h => h)
  have K := WI_cg (ro2 := rsw (bkR ro)) (tl2 := tl) k1 (WE_sw (H := gr (bkG G) 60 (rng 0 1763 (G 61) (G 60))) (fun c hc => o c (by omega))) (by rw [sw_62]; exact hx) (fun j hj => by unfold rsw; rw [if_pos rfl, if_pos rfl]; exact bkR_o (by decide)) (fun _ _ h => h)
  have V : TV (bkR ro) tl := fun c j k hc hj hk => by
    rcases hc with e | e
    · subst e
      rw [bkR_i hj] at hk
      exact k3 41 j k (Or.inr rfl) hj hk
    · subst e
      rw [bkR_o (by decide)] at hk
      exact k3 41 j k (Or.inr rfl) hj hk
  generalize (gr (bkG G) 60 (rng 0 1763 (G 61) (G 60))) = H at *
  obtain ⟨w1, w2, w3, w4, w5, w6⟩ := W
  refine ⟨PW_re w1 w2 w3 ⟨by rw [o 3 (by decide)]; exact p3.1, by rw [o 66 (by decide)]; exact p3.2.1, by rw [o 67 (by decide)]; exact p3.2.2.1, by rw [o 59 (by decide)]; exact p3.2.2.2⟩, w3, w4, ⟨w5.1, w5.2.1, w5.2.2, by rw [o 14 (by decide)]; exact i4.2.2.2.1, by rw [o 70 (by decide)]; exact i4.2.2.2.2⟩, w6, TPE_cg i6 (by rw [o 59 (by decide)]) (by rw [o 46 (by decide)]) (o 47 (by decide)) (o 63 (by decide)), FLT_cg i7 (by rw [o 51 (by decide)]) (by rw [o 51 (by decide)]) (by rw [o 59 (by decide)]) (by rw [o 59 (by decide)]), RG_cg i8 (by rw [o 51 (by decide)]) (by rw [o 59 (by decide)]) (by rw [o 59 (by decide)]), K, ?_, V⟩
  rw [e49, o 24 (by decide)]
  exact Int.le_refl _
theorem IVA_image {ro : rT} {tl : List mj_C} {G : gT} (h : IVA ro tl G) : IVA (imR ro) tl (gr (imG G) 61 (rng 0 1763 (G 60) (G 61))) := by
  have W0 := IVA_WI h
  obtain ⟨i1, i2, i3, i4, i5, i6, i7, i8, k1, k2, k3⟩ := h
  obtain ⟨p1, p2, p3⟩ := PW_0 i1
  have o : ∀ c : Nat, (c < 24 ∨ 43 < c) ∧ c ≠ 61 → (gr (imG G) 61 (rng 0 1763 (G 60) (G 61))) c = G c := fun c hc => by rw [grc hc.2, imG_o hc.1]
  have e249 : (gr (imG G) 61 (rng 0 1763 (G 60) (G 61))) 24 9 = G 4 9 := rfl
  have K := WI_cg (ro2 := rsw (imR ro)) (tl2 := tl) W0 WE_im (by rw [sw_62, o 62 (by decide)]; exact i2.2.2.2.1) (fun j hj => by unfold rsw; rw [if_pos rfl]; exact imR_i hj) (fun _ _ h => h)
  have V : TV (imR ro) tl := fun c j k hc hj hk => by
    rcases hc with e | e
    · subst e
      rw [imR_o (by decide)] at hk
      exact k3 21 j k (Or.inl rfl) hj hk
    · subst e
      rw [imR_i hj] at hk
      exact k3 21 j k (Or.inl rfl) hj hk
  have M : TXM (imR ro) tl G := ⟨i2.1, i2.2.1, i2.2.2.1, i2.2.2.2.1, fun t ht => by rw [imR_o (by decide)]; exact i2.2.2.2.2 t ht⟩
  generalize (gr (imG G) 61 (rng 0 1763 (G 60) (G 61))) = H at *
  have e4 := o 4 (by decide)
  have e60 := o 60 (by decide)
  have e51 := o 51 (by decide)
  have e59 := o 59 (by decide)
  have M2 := TXM_cg M (by rw [e60]) (by rw [e4]) (o 62 (by decide))
  refine ⟨PW_re (PW0_of p1 (fun c hc => o c (by omega)) (fun j _ => by rw [e60])) (by rw [e4, e60]; exact p2) M2 ⟨by rw [o 3 (by decide)]; exact p3.1, by rw [o 66 (by decide)]; exact p3.2.1, by rw [o 67 (by decide)]; exact p3.2.2.1, by rw [e59]; exact p3.2.2.2⟩, M2, SD_cg i3 (by rw [e60]) (by rw [e4]) (o 22 (by decide)) (o 23 (by decide)) (by rw [e60]; exact Int.le_refl _) (fun j _ => by rw [e60]), DY_cg i4 (by rw [e60]) (by rw [e60]) (o 12 (by decide)) (o 13 (by decide)) (o 14 (by decide)) (o 70 (by decide)) (fun j _ => by rw [e60]), LDG_cg i5 (by rw [e60]) (by rw [o 15 (by decide)]) (o 16 (by decide)) (fun j _ => by rw [e60]), TPE_cg i6 (by rw [e59]) (by rw [o 46 (by decide)]) (o 47 (by decide)) (o 63 (by decide)), FLT_cg i7 (by rw [e51]) (by rw [e51]) (by rw [e59]) (by rw [e59]), RG_cg i8 (by rw [e51]) (by rw [e59]) (by rw [e59]), K, ?_, V⟩
  rw [e249, e4]
  exact Int.le_refl _
section P5g
variable {L : Nat} {xs : Nat → Int32} {E : mj_E} {G : gT} {ro : rT} {tl : List mj_C} {d : Nat}
theorem R_image (h : IVA ro tl G) : ∃ (v : Int) (ro2 : rT) (G1 G2 : gT), mj_ca E mj_bi (d + 20) 220 [.ref 0] (mj_HN G ro tl) = some (some (.int (zI v)), mj_HN G1 ro2 tl) ∧ mj_ca E mj_bi (d + 20) 373 [.ref 59] (mj_HN G1 ro2 tl) = some (some (.int (zI v)), mj_HN G2 ro2 tl) ∧ IVA ro2 tl G2 := by
  have a := c_image (E := E) (G := G) (d := d) h.2.2.2.2.2.2.2.2.2.2
  have b := m_image (E := E) (G := imG G) (ro := imR ro) (tl := tl) (d := d)
  rw [imG_o (c := 60) (by omega), imG_o (c := 61) (by omega)] at b
  have e : G 60 8 = G 10 1 := (h.1.2.2.1.2 1 (by omega)).symm
  rw [e] at b
  exact ⟨_, _, _, _, a, b, IVA_image h⟩
theorem R_back (h : IVA ro tl G) : ∃ (v : Int) (ro2 : rT) (G1 G2 : gT), mj_ca E mj_bi (d + 20) 221 [.ref 0] (mj_HN G ro tl) = some (some (.int (zI v)), mj_HN G1 ro2 tl) ∧ mj_ca E mj_bi (d + 20) 374 [.ref 59] (mj_HN G1 ro2 tl) = some (some (.int (zI v)), mj_HN G2 ro2 tl) ∧ IVA ro2 tl G2 := by
  have a := c_back (E := E) (G := G) (d := d) h.2.2.2.2.2.2.2.2.2.2
  have b := m_back (E := E) (G := bkG G) (ro := bkR ro) (tl := tl) (d := d)
  rw [bkG_o (c := 60) (by decide), bkG_o (c := 61) (by decide)] at b
  have e : G 61 8 = G 30 1 := by
    have q := h.2.2.2.2.2.2.2.2.1.1.2.2.1.2 1 (by omega)
    rw [sw_c (by omega), sw_60] at q
    exact q.symm
  rw [e] at b
  exact ⟨_, _, _, _, a, b, IVA_back h⟩
end P5g
