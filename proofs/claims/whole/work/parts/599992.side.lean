/-! a clause, class and reference side by side -/
def sn (b r : Option Nat) : Int := (if b = none then 0 else 1) + (if r = none then 0 else 2)
theorem sn_b {b r : Option Nat} : (b = none → sn b r / 1 % 2 = 0) ∧ (b ≠ none → sn b r / (0 + 1) % 2 = 1) ∧ (r = none → sn b r / 2 % 2 = 0) ∧ (r ≠ none → sn b r / (1 + 1) % 2 = 1) ∧ (sn b r = 0 ∨ sn b r = 1 ∨ sn b r = 2 ∨ sn b r = 3) := by
  unfold sn
  by_cases y : b = none
  · by_cases z : r = none
    · rw [if_pos y, if_pos z]
      exact ⟨fun _ => by decide, fun q => absurd y q, fun _ => by decide, fun q => absurd z q, by decide⟩
    · rw [if_pos y, if_neg z]
      exact ⟨fun _ => by decide, fun q => absurd y q, fun q => absurd q z, fun _ => by decide, by decide⟩
  · by_cases z : r = none
    · rw [if_neg y, if_pos z]
      exact ⟨fun q => absurd q y, fun _ => by decide, fun _ => by decide, fun q => absurd z q, by decide⟩
    · rw [if_neg y, if_neg z]
      exact ⟨fun q => absurd q y, fun _ => by decide, fun q => absurd q z, fun _ => by decide, by decide⟩
/-- the reference stands at token i with its text t half read -/
def HRf (X : Int → Int) (L N : Int) (H : gT) (t i w0 s : Int) : Prop := BZ X L N H ∧ TKp X L (lxp X L i.toNat) (H 59) ∧ TXP (H 62) ∧ H 59 12 = 681 * t ∧ H 59 13 = w0 ∧ w0 ≤ i ∧ H 59 19 = s
section P599992
variable {L : Nat} {xs : Nat → Int32} {E : mj_E} {G : gT} {ro : rT} {tl : List mj_C} {d : Nat}
variable {X : Int → Int} {Lt N k t : Int} {st : pT}
theorem R_cl_f (hB : BKx X Lt N G) (hw : Wst N st) (hc : 0 ≤ G 51 6 ∧ G 51 6 ≤ 24) (hk : (kdx X Lt) st.2.1 = k) (h0 : st.1 = 0) (ht : 0 ≤ t ∧ t < 4) (hbad : ¬ startK k ∨ (k = 128 ∧ ro 51 3 ≠ none) ∨ (k = 129 ∧ ro 51 4 ≠ none) ∨ G 51 6 = 24) : ∃ e : Int, (e = 1 ∨ e = 4 ∨ e = 6) ∧ mj_ca E mj_bi (d + 174) 104 [.ref 51] (mj_HN (stH G st) ro tl) = some (none, (mj_HN (stH (G7 G k) (e, st.2)) ro tl)) ∧ ∀ (E2 : mj_E) (H : gT) (ro2 : rT) (tl2 : List mj_C) (d2 : Nat) (w0 : Int), HRf X Lt N H t st.2.1 w0 (sn (ro 51 3) (ro 51 4)) → MT tl (G 53) (ro 51 3) (ro 51 4) (H 62) t (G 51 6) w0 → mj_ca E2 mj_bi (d2 + 18) 279 [.ref 59] (mj_HN H ro2 tl2) = some (some (.int (zI e)), mj_HN H ro2 tl2) := by
  have ip := hw.2.2.1
  have pf : ∀ e : Int, pFail e st = (e, st.2) := fun e => if_pos h0
  obtain ⟨n1, n2, n3, n4, n5⟩ := sn_b (b := ro 51 3) (r := ro 51 4)
  by_cases y : startK k
  · by_cases y1 : k = 128 ∧ ro 51 3 ≠ none
    · obtain ⟨q, hq⟩ : ∃ q, ro 51 3 = some q := Option.ne_none_iff_exists'.1 y1.2
      have c1 := q_cl_4 (E := E) (tl := tl) (d := d) hB hw hc hk (q := q) (Or.inl ⟨y1.1, hq⟩)
      rw [pf] at c1
      refine ⟨4, by omega, c1, fun E2 H ro2 tl2 d2 w0 hH hM => ?_⟩
      obtain ⟨r1, r2, r3, r4, r5, r6, r7⟩ := hH
      exact m_cl_4 (b := 0) r1 ip r2 hk r3 r4 (by omega) ⟨hM.2.2.2.2.2, hc⟩ r7 n5 (Or.inl ⟨y1.1, rfl⟩) (n2 y1.2)
    · by_cases y2 : k = 129 ∧ ro 51 4 ≠ none
      · obtain ⟨q, hq⟩ : ∃ q, ro 51 4 = some q := Option.ne_none_iff_exists'.1 y2.2
        have c1 := q_cl_4 (E := E) (tl := tl) (d := d) hB hw hc hk (q := q) (Or.inr ⟨y2.1, hq⟩)
        rw [pf] at c1
        refine ⟨4, by omega, c1, fun E2 H ro2 tl2 d2 w0 hH hM => ?_⟩
        obtain ⟨r1, r2, r3, r4, r5, r6, r7⟩ := hH
        exact m_cl_4 (b := 1) r1 ip r2 hk r3 r4 (by omega) ⟨hM.2.2.2.2.2, hc⟩ r7 n5 (Or.inr ⟨y2.1, rfl⟩) (n4 y2.2)
      · have h24 : G 51 6 = 24 := by
          rcases hbad with q | q | q | q
          · exact absurd y q
          · exact absurd q y1
          · exact absurd q y2
          · exact q
        have h3 : k = 128 → ro 51 3 = none := fun q => Classical.byContradiction (fun z => y1 ⟨q, z⟩)
        have h4 : k = 129 → ro 51 4 = none := fun q => Classical.byContradiction (fun z => y2 ⟨q, z⟩)
        have c1 := q_cl_6 (E := E) (tl := tl) (d := d) hB hw hc hk y h3 h4 h24
        rw [pf] at c1
        refine ⟨6, by omega, c1, fun E2 H ro2 tl2 d2 w0 hH hM => ?_⟩
        obtain ⟨r1, r2, r3, r4, r5, r6, r7⟩ := hH
        exact m_cl_6 r1 ip r2 hk r3 r4 (by omega) ⟨hM.2.2.2.2.2, hc⟩ r7 n5 y (fun q => n1 (h3 q)) (fun q => n3 (h4 q)) h24
  · have c1 := q_cl_1 (E := E) (ro := ro) (tl := tl) (d := d) hB hw hc hk y
    rw [pf] at c1
    refine ⟨1, by omega, c1, fun E2 H ro2 tl2 d2 w0 hH hM => ?_⟩
    obtain ⟨r1, r2, r3, r4, r5, r6, r7⟩ := hH
    exact m_cl_1 r1 ip r2 hk y
end P599992
