/-! a law read by both means the same -/
theorem EnvR_of {N J F A K Kn : Int → Int} {p : Int} (hL : LR N J A) (hF : fv F) (hR : FR1 F A) (hp : 0 ≤ p ∧ p < F 0) : EnvR N F (lrn N J F K p) A (nmd A Kn p) := by
  obtain ⟨hF0, hF1, hF2, hF3, hFP, hFZ⟩ := hF
  have hv := hFP p (by omega)
  have hF' : fv F := ⟨hF0, hF1, hF2, hF3, hFP, hFZ⟩
  have e := FR0_v hR (p := p) (by omega)
  have pe := plcE hL hF' hR (p := p) (by omega)
  have ps := fun c => pasE hL hF' hR c
  have nb := nb5_bd (s := pas N (pB F) (pD F) (F 0).toNat (plc N (pB F) (pD F) p))
  have pl : 0 ≤ plc N (pB F) (pD F) p ∧ plc N (pB F) (pD F) p < 8 := plc_bd (LR_N hL) ⟨hv.1, hv.2.1⟩
  have hN := LR_N hL
  have np := hN _ pl
  have LN := (hL (plc N (pB F) (pD F) p) pl).1.1
  have LJ := hL _ np
  refine ⟨fun v hv => ⟨(hL v hv).1.1, (hN v hv).1, (hN v hv).2⟩, hR.1, fun v hv => ?_, ?_, fun j hj => ?_⟩
  · have q := FR0_v hR (p := v) (by omega)
    have q2 := hFP v (by omega)
    exact ⟨q.2.1, q2.2.2.1, q2.2.2.2.1⟩
  · have h1 : F 1 = A 8 := hR.2 1 (by omega)
    unfold lrn nmd
    refine ⟨?_, ?_, ?_, ?_, ?_, ?_, ?_, ?_⟩
    · simp (disch := omega) only [up_e, up_n]; exact h1
    · simp (disch := omega) only [up_e, up_n]; exact pe
    · simp (disch := omega) only [up_e, up_n]; exact e.2.2.1
    · simp (disch := omega) only [up_e, up_n]
    · simp (disch := omega) only [up_e, up_n]; exact e.2.1
    · simp (disch := omega) only [up_e, up_n]; rw [ps, pe]
    · simp (disch := omega) only [up_e, up_n]; exact e.2.2.2
    · simp (disch := omega) only [up_e, up_n]; rw [LJ.2.1, LN, pe]
  · unfold lrn
    have : j = 0 ∨ j = 1 ∨ j = 2 ∨ j = 3 ∨ j = 4 ∨ j = 5 ∨ j = 6 ∨ j = 7 := by omega
    rcases this with e | e | e | e | e | e | e | e <;> subst e <;> simp (disch := omega) only [up_e, up_n] <;> omega
theorem wk_end {N F K C : Int → Int} {n : Int} {k : Nat} {S : Int → Int} {t : Int} : wk N F K C n k n S t = (S, t) := by
  cases k with
  | zero => rfl
  | succ k => rw [wk_s, if_pos (Int.le_refl n)]
theorem LSem_of {C tx : Int → Int} {n : Nat} {rc : wT} {j c w0 : Int} (h : SmV C 0 n rc) (hw : TWx tx (681 * j + 73 + 2 * w0) rc) (h1 : tx (681 * j + 1 + 3 * c + 1) = w0) (h2 : tx (681 * j + 1 + 3 * c + 2) = w0 + rc.length) (h0 : 0 ≤ w0 ∧ w0 + rc.length ≤ 302) : LSem n C tx j c ∧ cOk C n := by
  obtain ⟨s1, s2, s3, s4, s5, s6⟩ := h
  refine ⟨⟨by omega, by omega, fun N J F A K S Kn V T p hL hF hR hp hS hV hT => ?_⟩, fun i hi => s5 i hi⟩
  obtain ⟨f, f1, f2, f3, f4⟩ := s6 N F (lrn N J F K p) A (nmd A Kn p) (EnvR_of hL hF hR hp)
  obtain ⟨k2, S2, a1, a2, a3, a4⟩ := f3 C (fun _ _ => rfl) n n S 0 (Int.le_refl _) s4 (by omega) ⟨Int.le_refl 0, Int.le_refl 0⟩
  obtain ⟨V2, T2, b1, b2, b3, b4⟩ := f4 V 0 T 0 ⟨Int.le_refl 0, Int.le_refl 0, by omega⟩
  have e : sq A (nmd A Kn p) tx V T j c = some (V2, 0 + 1, T2, 0) := by
    unfold sq
    rw [h1, h2, su_sul rc _ w0 V 0 T 0 hw (by omega), b1]
  have ew : wkV N F (lrn N J F K p) C n S = f := by
    unfold wkV
    rw [a1, wk_end]
    show (if _ then _ else _) = _
    rw [if_neg (by omega)]
    exact a3
  rw [e, ew]
  exact ⟨rfl, b2⟩
