/-! the ledger's laws, class against reference, purely -/
theorem swp_v {X : Int → Int} {p q r j len : Int} (h : 0 ≤ j ∧ j ≤ len ∧ len ≤ 8) : swpX X (p * 9) (q * 9) len (r * 9 + j) = if r = p then X (q * 9 + j) else if r = q then X (p * 9 + j) else X (r * 9 + j) := by
  unfold swpX swpI
  by_cases h1 : r = p
  · rw [if_pos h1, if_pos (by omega)]
    congr 1; omega
  · rw [if_neg h1, if_neg (by omega)]
    by_cases h2 : r = q
    · rw [if_pos h2, if_pos (by omega)]
      congr 1; omega
    · rw [if_neg h2, if_neg (by omega)]
theorem scl_v {X : Int → Int} {b x r j len : Int} (h : 0 ≤ j ∧ j ≤ len ∧ len ≤ 8) : sclX X (b * 9) x len (r * 9 + j) = if r = b then X (b * 9 + j) * x % 7 else X (r * 9 + j) := by
  unfold sclX
  by_cases h1 : r = b
  · rw [if_pos h1, h1, rng_in (by omega)]
  · rw [if_neg h1, rng_out (by omega)]
theorem sub_v {X : Int → Int} {p q t r j len : Int} (h : 0 ≤ j ∧ j ≤ len ∧ len ≤ 8) : subX X (p * 9) (q * 9) t len (r * 9 + j) = if r = p then (X (p * 9 + j) + (7 - t) * X (q * 9 + j)) % 7 else X (r * 9 + j) := by
  unfold subX
  by_cases h1 : r = p
  · rw [if_pos h1, h1, rng_in (by omega), show q * 9 + (p * 9 + j - p * 9) = q * 9 + j by omega]
  · rw [if_neg h1, rng_out (by omega)]
def ph (f j : Int) : Int := if j = f then 8 else f - 1 - j
theorem ph_bd {f j : Int} (h : 0 ≤ j ∧ j ≤ f ∧ f ≤ 8) : 0 ≤ ph f j ∧ ph f j ≤ 8 := by
  unfold ph
  split <;> omega
theorem ph_f (f : Int) : ph f f = 8 := if_pos rfl
theorem ph_lt {f j : Int} (h : j < f) : ph f j = f - 1 - j := if_neg (by omega)
def RX (f n : Int) (X Y : Int → Int) : Prop := ∀ r j : Int, 0 ≤ r ∧ r < n → 0 ≤ j ∧ j ≤ f → X (r * 9 + j) = Y (r * 9 + ph f j)
theorem RX_fil {en A X Y : Int → Int} {n f : Int} (h : 0 ≤ f ∧ f ≤ 8) (e : ∀ k : Int, 0 ≤ k ∧ k < n + f ∧ 0 < n → en k = A (81 + k)) : RX f n (filX en 0 n f X) (filY A 0 n f Y) := fun r j hr hj => by
  have b := ph_bd (f := f) (j := j) (by omega)
  unfold filX filY
  rw [if_pos (by omega), if_pos (by omega), show (r * 9 + j) / 9 + (r * 9 + j) % 9 = r + j by omega, e _ (by omega)]
  by_cases h1 : j = f
  · subst h1
    rw [ph_f, if_neg (by omega), if_pos (by omega)]
    congr 1; omega
  · have e2 := ph_lt (f := f) (j := j) (by omega)
    rw [e2, if_pos (by omega)]
    congr 1; omega
theorem RX_swp {f n p q : Int} {X Y : Int → Int} (h : RX f n X Y) (b : 0 ≤ f ∧ f ≤ 8 ∧ 0 ≤ p ∧ p < n ∧ 0 ≤ q ∧ q < n) : RX f n (swpX X (p * 9) (q * 9) f) (swpX Y (9 * p) (9 * q) 8) := fun r j hr hj => by
  have e := ph_bd (f := f) (j := j) (by omega)
  rw [Int.mul_comm 9 p, Int.mul_comm 9 q, swp_v (by omega), swp_v (by omega), h q j (by omega) hj, h p j (by omega) hj, h r j hr hj]
theorem RX_scl {f n q x : Int} {X Y : Int → Int} (h : RX f n X Y) (b : 0 ≤ f ∧ f ≤ 8 ∧ 0 ≤ q ∧ q < n) : RX f n (sclX X (q * 9) x f) (sclX Y (9 * q) x 8) := fun r j hr hj => by
  have e := ph_bd (f := f) (j := j) (by omega)
  rw [Int.mul_comm 9 q, scl_v (by omega), scl_v (by omega), h q j (by omega) hj, h r j hr hj]
theorem RX_sub {f n p q t : Int} {X Y : Int → Int} (h : RX f n X Y) (b : 0 ≤ f ∧ f ≤ 8 ∧ 0 ≤ p ∧ p < n ∧ 0 ≤ q ∧ q < n) : RX f n (subX X (p * 9) (q * 9) t f) (subX Y (9 * p) (9 * q) t 8) := fun r j hr hj => by
  have e := ph_bd (f := f) (j := j) (by omega)
  rw [Int.mul_comm 9 p, Int.mul_comm 9 q, sub_v (by omega), sub_v (by omega), h q j (by omega) hj, h p j (by omega) hj, h r j hr hj]
theorem RX_sub0 {f n p q t : Int} {X Y : Int → Int} (h : RX f n X Y) (hX : bX X n f) (b : 0 ≤ f ∧ f ≤ 8 ∧ 0 ≤ p ∧ p < n ∧ 0 ≤ q ∧ q < n) (ht : t = 0) : RX f n (subX X (p * 9) (q * 9) t f) Y := fun r j hr hj => by
  rw [sub_v (by omega), ht]
  by_cases e : r = p
  · rw [if_pos e, e, ← h p j (by omega) hj]
    have := hX p (by omega) (p * 9 + j) (by omega)
    omega
  · rw [if_neg e, h r j hr hj]
theorem RX_clr {f n b c : Int} (h : 0 ≤ f ∧ f ≤ 8 ∧ 0 ≤ b ∧ b < n ∧ 0 ≤ c ∧ c < f) : ∀ (k : Nat) (r : Int) (X Y : Int → Int), 0 ≤ r ∧ r + k ≤ n → bX X n f → RX f n X Y → RX f n (clrX b c f k r X) (clrY b (f - 1 - c) k r Y)
  | 0, _, _, _, _, _, q => q
  | k + 1, r, X, Y, hr, hX, q => by
    have x := q r c (by omega) (by omega)
    rw [ph_lt (by omega)] at x
    have x2 := hX r (by omega) (r * 9 + c) (by omega)
    unfold clrX clrY
    rw [show 9 * r + (f - 1 - c) = r * 9 + (f - 1 - c) by omega, ← x]
    by_cases e : r = b
    · rw [if_pos e, if_pos e]
      exact RX_clr h k (r + 1) X Y (by omega) hX q
    · rw [if_neg e, if_neg e]
      by_cases e2 : X (r * 9 + c) = 0
      · rw [if_pos e2]
        exact RX_clr h k (r + 1) _ Y (by omega) (bX_sub hX (by omega)) (RX_sub0 q hX (by omega) e2)
      · rw [if_neg e2]
        exact RX_clr h k (r + 1) _ _ (by omega) (bX_sub hX (by omega)) (RX_sub q (by omega))
theorem fpX_cg {X Y : Int → Int} {c c2 n : Int} (e : ∀ q : Int, 0 ≤ q ∧ q < n → X (q * 9 + c) = Y (q * 9 + c2)) : ∀ (k : Nat) (p : Int), 0 ≤ p ∧ p + k ≤ n → fpX X c k p = fpX Y c2 k p
  | 0, _, _ => rfl
  | k + 1, p, h => by
    unfold fpX
    rw [e p (by omega), fpX_cg e k (p + 1) (by omega)]
theorem RX_st {f n p b c : Int} {X Y : Int → Int} (h : RX f n X Y) (hX : bX X n f) (i : 0 ≤ f ∧ f ≤ 8 ∧ 0 ≤ p ∧ p < n ∧ 0 ≤ b ∧ b < n ∧ 0 ≤ c ∧ c < f) : RX f n (stX X p b c f n) (stY Y p b (f - 1 - c) n) := by
  have h1 := RX_swp h (p := p) (q := b) (by omega)
  have b1 := bX_swp (p := p) (q := b) hX (by omega)
  have x := h1 b c (by omega) (by omega)
  have x2 := b1 b (by omega) (b * 9 + c) (by omega)
  rw [ph_lt (by omega)] at x
  unfold stX stY
  rw [show 9 * b + (f - 1 - c) = b * 9 + (f - 1 - c) by omega, ← x, show swpX X (p * 9) (b * 9) f (b * 9 + c) % 7 = swpX X (p * 9) (b * 9) f (b * 9 + c) by omega]
  have iv := ivf_bd (v := swpX X (p * 9) (b * 9) f (b * 9 + c))
  exact RX_clr (by omega) n.toNat 0 _ _ (by omega) (bX_scl b1 (by omega)) (RX_scl h1 (by omega))
theorem RX_g {f n : Int} (i : 0 ≤ f ∧ f ≤ 8 ∧ 0 ≤ n ∧ n ≤ 16) : ∀ (k : Nat) (c b : Int) (X Y Q : Int → Int), c + k = f ∧ 0 ≤ c ∧ 0 ≤ b ∧ b ≤ n ∧ b ≤ c → bX X n f → RX f n X Y → (gX f n k c b X).1 = (gY n k b Y Q).1 ∧ RX f n (gX f n k c b X).2 (gY n k b Y Q).2.1
  | 0, _, _, _, _, _, _, _, q => ⟨rfl, q⟩
  | k + 1, c, b, X, Y, Q, e, hX, q => by
    have ec : (k : Int) = f - 1 - c := by omega
    have ef : fpX X c (n - b).toNat b = fpX Y k (n - b).toNat b := fpX_cg (n := n) (fun r hr => by
      have := q r c (by omega) (by omega)
      rw [ph_lt (by omega), ← ec] at this
      exact this) _ _ (by omega)
    have bd := fpX_bd X c (n - b).toNat b
    unfold gX gY
    rw [← ef]
    by_cases y : n ≤ fpX X c (n - b).toNat b
    · rw [if_pos y, if_pos y]
      exact RX_g i k (c + 1) b X Y _ (by omega) hX q
    · rw [if_neg y, if_neg y, ec]
      exact RX_g i k (c + 1) (b + 1) _ _ _ (by omega) (bX_st hX (by omega)) (RX_st q hX (by omega))
/-- steps' form: what is done with the columns ahead of c -/
def EI (f n c b : Int) (X Q p : Int → Int) : Prop := (∀ r j : Int, b ≤ r ∧ r < n → 0 ≤ j ∧ j < c → X (r * 9 + j) = 0) ∧ (∀ r : Int, 0 ≤ r ∧ r < b → 0 ≤ p r ∧ p r < c ∧ X (r * 9 + p r) ≠ 0 ∧ (∀ j : Int, 0 ≤ j ∧ j < p r → X (r * 9 + j) = 0) ∧ Q (f - 1 - p r) = r) ∧ ∀ i : Int, f - c ≤ i ∧ i < f → Q i ≠ -1 → 0 ≤ Q i ∧ Q i < b ∧ p (Q i) = f - 1 - i
theorem clr_v {b c len : Int} {j : Int} (h : 0 ≤ j ∧ j ≤ len ∧ len ≤ 8 ∧ 0 ≤ c ∧ c ≤ len) : ∀ (k : Nat) (r0 : Int) (X : Int → Int) (r : Int), clrX b c len k r0 X (r * 9 + j) = if r0 ≤ r ∧ r < r0 + k ∧ r ≠ b then (X (r * 9 + j) + (7 - X (r * 9 + c)) * X (b * 9 + j)) % 7 else X (r * 9 + j)
  | 0, r0, X, r => by
    rw [if_neg (by omega)]; rfl
  | k + 1, r0, X, r => by
    unfold clrX
    rw [clr_v h k (r0 + 1) _ r]
    by_cases e : r0 = b
    · rw [if_pos e]
      by_cases y : r0 ≤ r ∧ r < r0 + ((k + 1 : Nat) : Int) ∧ r ≠ b
      · rw [if_pos y, if_pos (by omega)]
      · rw [if_neg y, if_neg (by omega)]
    · rw [if_neg e]
      have v1 : subX X (r0 * 9) (b * 9) (X (r0 * 9 + c)) len (b * 9 + j) = X (b * 9 + j) := by rw [sub_v (by omega), if_neg (by omega)]
      by_cases y : r = r0
      · rw [if_neg (by omega), if_pos (by omega), y, sub_v (by omega), if_pos rfl]
      · rw [v1, sub_v (by omega), if_neg y, sub_v (by omega), if_neg y]
        by_cases y2 : r0 ≤ r ∧ r < r0 + ((k + 1 : Nat) : Int) ∧ r ≠ b
        · rw [if_pos y2, if_pos (by omega)]
        · rw [if_neg y2, if_neg (by omega)]
theorem ivf_ok {v : Int} (h : 1 ≤ v ∧ v ≤ 6) : v * ivf v % 7 = 1 := by
  have e : v = 1 ∨ v = 2 ∨ v = 3 ∨ v = 4 ∨ v = 5 ∨ v = 6 := by omega
  rcases e with e | e | e | e | e | e <;> subst e <;> rfl
/-- the values behind a step -/
theorem st_v {f n p b c r j : Int} {X : Int → Int} (hX : bX X n f) (i : 0 ≤ f ∧ f ≤ 8 ∧ 0 ≤ p ∧ p < n ∧ 0 ≤ b ∧ b < n ∧ 0 ≤ c ∧ c < f) (hr : 0 ≤ r ∧ r < n) (hj : 0 ≤ j ∧ j ≤ f) : stX X p b c f n (r * 9 + j) = if r = b then X (p * 9 + j) * ivf (X (p * 9 + c)) % 7 else ((if r = p then X (b * 9 + j) else X (r * 9 + j)) + (7 - (if r = p then X (b * 9 + c) else X (r * 9 + c))) * (X (p * 9 + j) * ivf (X (p * 9 + c)) % 7)) % 7 := by
  have x := hX p (by omega) (p * 9 + c) (by omega)
  have e0 : swpX X (p * 9) (b * 9) f (b * 9 + c) = X (p * 9 + c) := by
    rw [swp_v (by omega)]
    by_cases e : b = p
    · rw [if_pos e, e]
    · rw [if_neg e, if_pos rfl]
  have e0j : swpX X (p * 9) (b * 9) f (b * 9 + j) = X (p * 9 + j) := by
    rw [swp_v (by omega)]
    by_cases e : b = p
    · rw [if_pos e, e]
    · rw [if_neg e, if_pos rfl]
  unfold stX
  rw [clr_v (by omega), e0, show X (p * 9 + c) % 7 = X (p * 9 + c) by omega, scl_v (by omega), scl_v (by omega), scl_v (by omega), if_pos rfl, e0j]
  by_cases e : r = b
  · rw [if_neg (by omega), if_pos e, if_pos e]
  · rw [if_pos (by omega), if_neg e, if_neg e, if_neg e, swp_v (by omega), swp_v (by omega), if_neg e, if_neg e]
theorem EI_g {f n : Int} (i : 0 ≤ f ∧ f ≤ 8 ∧ 0 ≤ n ∧ n ≤ 16) : ∀ (k : Nat) (c b : Int) (X Y Q p : Int → Int), c + k = f ∧ 0 ≤ c ∧ 0 ≤ b ∧ b ≤ n ∧ b ≤ c → bX X n f → RX f n X Y → EI f n c b X Q p → ∃ p2 : Int → Int, EI f n f (gX f n k c b X).1 (gX f n k c b X).2 (gY n k b Y Q).2.2 p2
  | 0, c, b, X, Y, Q, p, e, hX, q, z => ⟨p, by
    have e2 : c = f := by omega
    rw [e2] at z; exact z⟩
  | k + 1, c, b, X, Y, Q, p, e, hX, q, z => by
    have ec : (k : Int) = f - 1 - c := by omega
    have ef : fpX X c (n - b).toNat b = fpX Y k (n - b).toNat b := fpX_cg (n := n) (fun r hr => by
      have := q r c (by omega) (by omega)
      rw [ph_lt (by omega), ← ec] at this
      exact this) _ _ (by omega)
    obtain ⟨d1, d2, d3, d4⟩ := fpX_bd X c (n - b).toNat b
    obtain ⟨z1, z2, z3⟩ := z
    unfold gX gY
    rw [← ef]
    by_cases y : n ≤ fpX X c (n - b).toNat b
    · rw [if_pos y, if_pos y]
      refine EI_g i k (c + 1) b X Y _ p (by omega) hX q ⟨fun r j hr hj => ?_, fun r hr => ?_, fun a ha hq => ?_⟩
      · by_cases e2 : j = c
        · rw [e2]; exact d4 r (by omega)
        · exact z1 r j hr (by omega)
      · obtain ⟨y1, y2, y3, y4, y5⟩ := z2 r hr
        exact ⟨y1, by omega, y3, y4, by rw [up_n (by omega)]; exact y5⟩
      · by_cases e2 : a = k
        · exact absurd (up_e e2) hq
        · rw [up_n e2] at hq ⊢
          exact z3 a (by omega) hq
    · rw [if_neg y, if_neg y]
      generalize fpX X c (n - b).toNat b = g at *
      have d3' := d3 (by omega)
      have xg := hX g (by omega) (g * 9 + c) (by omega)
      have iv := ivf_ok (v := X (g * 9 + c)) (by omega)
      have q2 := RX_st q hX (p := g) (b := b) (c := c) (by omega)
      rw [← ec] at q2
      refine EI_g i k (c + 1) (b + 1) _ _ _ (up p b c) (by omega) (bX_st hX (by omega)) q2 ⟨fun r j hr hj => ?_, fun r hr => ?_, fun a ha hq => ?_⟩
      · rw [st_v hX (by omega) (by omega) (by omega), if_neg (by omega)]
        have hb0 := hX b (by omega)
        have hr0 := hX r (by omega)
        by_cases e2 : j = c
        · rw [e2, iv]
          have u1 := hb0 (b * 9 + c) (by omega)
          have u2 := hr0 (r * 9 + c) (by omega)
          by_cases e3 : r = g
          · rw [if_pos e3]; omega
          · rw [if_neg e3]; omega
        · rw [z1 g j (by omega) (by omega), z1 b j (by omega) (by omega), z1 r j (by omega) (by omega), Int.zero_mul]
          simp
      · by_cases e2 : r = b
        · rw [e2, up_e rfl]
          refine ⟨by omega, by omega, ?_, fun j hj => ?_, ?_⟩
          · rw [st_v hX (by omega) (by omega) (by omega), if_pos rfl, iv]; omega
          · rw [st_v hX (by omega) (by omega) (by omega), if_pos rfl, z1 g j (by omega) (by omega), Int.zero_mul]; rfl
          · rw [up_e (by omega)]
        · obtain ⟨y1, y2, y3, y4, y5⟩ := z2 r (by omega)
          have keep : ∀ j : Int, 0 ≤ j ∧ j < c → stX X g b c f n (r * 9 + j) = X (r * 9 + j) := fun j hj => by
            have u := hX r (by omega) (r * 9 + j) (by omega)
            rw [st_v hX (by omega) (by omega) (by omega), if_neg e2, if_neg (by omega), if_neg (by omega), z1 g j (by omega) (by omega), Int.zero_mul]
            simp; omega
          rw [up_n e2]
          exact ⟨y1, by omega, by rw [keep _ (by omega)]; exact y3, fun j hj => by rw [keep j (by omega)]; exact y4 j hj, by rw [up_n (by omega)]; exact y5⟩
      · by_cases e2 : a = k
        · rw [up_e e2]
          exact ⟨by omega, by omega, by rw [up_e rfl]; omega⟩
        · rw [up_n e2] at hq ⊢
          have := z3 a (by omega) hq
          exact ⟨this.1, by omega, by rw [up_n (by omega)]; exact this.2.2⟩
theorem fcX_is {X : Int → Int} {r p : Int} (hp : X (r * 9 + p) ≠ 0) : ∀ (k : Nat) (c : Int), c ≤ p ∧ p < c + k → (∀ j : Int, c ≤ j ∧ j < p → X (r * 9 + j) = 0) → fcX X r k c = p
  | 0, c, h, _ => by omega
  | k + 1, c, h, z => by
    unfold fcX
    by_cases e : c = p
    · rw [e, if_neg hp]
    · rw [if_pos (z c (by omega))]
      exact fcX_is hp k (c + 1) (by omega) (fun j hj => z j (by omega))
theorem rdX_no {f n b : Int} {X Q p : Int → Int} (z : EI f n f b X Q p) {a : Int} : ∀ (k : Nat) (r : Int) (F : Int → Int), 0 ≤ r ∧ r + k = b → (∀ s : Int, r ≤ s ∧ s < b → f - p s ≠ a) → rdX X f k r F a = F a
  | 0, _, _, _, _ => rfl
  | k + 1, r, F, h, g => by
    obtain ⟨y1, y2, y3, y4, y5⟩ := z.2.1 r (by omega)
    unfold rdX
    rw [fcX_is y3 f.toNat 0 (by omega) (fun j hj => y4 j (by omega)), if_pos y2, rdX_no z k (r + 1) _ (by omega) (fun s hs => g s (by omega)), up_n (fun e => g r (by omega) e.symm)]
theorem rdX_is {f n b : Int} {X Q p : Int → Int} (z : EI f n f b X Q p) {q : Int} (hq : 0 ≤ q ∧ q < b) : ∀ (k : Nat) (r : Int) (F : Int → Int), 0 ≤ r ∧ r + k = b ∧ r ≤ q → rdX X f k r F (f - p q) = X (q * 9 + f)
  | 0, _, _, h => by omega
  | k + 1, r, F, h => by
    obtain ⟨y1, y2, y3, y4, y5⟩ := z.2.1 r (by omega)
    unfold rdX
    rw [fcX_is y3 f.toNat 0 (by omega) (fun j hj => y4 j (by omega)), if_pos y2]
    by_cases e : r = q
    · rw [rdX_no z k (r + 1) _ (by omega) (fun s hs g => by
        have u := (z.2.1 s (by omega)).2.2.2.2
        have v := (z.2.1 q (by omega)).2.2.2.2
        rw [show p s = p q by omega, v] at u
        omega), e, up_e rfl]
    · exact rdX_is z hq k (r + 1) _ (by omega)
theorem ck_same {f n : Int} {X Y : Int → Int} (i : 0 ≤ f ∧ f ≤ 8) (q : RX f n X Y) : ∀ (k : Nat) (r : Int), 0 ≤ r ∧ r + k ≤ n → ckX X f k r = ckY Y k r
  | 0, _, _ => rfl
  | k + 1, r, h => by
    have x := q r f (by omega) (by omega)
    rw [ph_f] at x
    unfold ckX ckY
    rw [x, ck_same i q k (r + 1) (by omega), show 9 * r + 8 = r * 9 + 8 by omega]
def fcY (X Q : Int → Int) (j : Int) : Int := if Q (j - 1) = -1 then 0 else X (9 * Q (j - 1) + 8)
/-- the ledgers are alike -/
def LDG (G : gT) : Prop := enOk G ∧ G 60 6 = G 15 3 ∧ ∀ j : Int, 0 ≤ j ∧ j < G 15 3 → G 60 (81 + j) = G 16 j
theorem LDG_er {G : gT} (h : LDG G) : erOk (G 60) := by
  obtain ⟨⟨a, b, c⟩, d, e⟩ := h
  refine ⟨by omega, by omega, fun j hj => ?_⟩
  rw [e j (by omega)]
  exact c j (by omega)
/-- laws of so many: the same number bound, the same verdict, the same factors -/
theorem lw_same {G H : gT} {f : Int} (i : 0 ≤ f ∧ f ≤ 8 ∧ f ≤ G 15 3 + 8) (h : LDG G) (eH : H 60 = G 60) : (lwq G f).1 = (rmq H f).1 ∧ lwk G f = rmk H f ∧ 0 ≤ (lwq G f).1 ∧ (lwq G f).1 ≤ f ∧ bX (lwq G f).2 (lwn G f) f ∧ (lwq G f).1 ≤ lwn G f ∧ bY (rmq H f).2.1 (rmn H f) ∧ (∀ a : Int, 0 ≤ a ∧ a < f → -1 ≤ (rmq H f).2.2 a ∧ (rmq H f).2.2 a < rmn H f) ∧ rmn H f = lwn G f ∧ ∀ a : Int, 1 ≤ a ∧ a ≤ f → lwF G f a = fcY (rmq H f).2.1 (rmq H f).2.2 a := by
  have er := LDG_er h
  obtain ⟨⟨a1, a2, a3⟩, a4, a5⟩ := h
  have en : rmn H f = lwn G f := by unfold rmn lwn; rw [eH, a4]
  have nb : 0 ≤ lwn G f ∧ lwn G f ≤ 16 := by unfold lwn; omega
  have b0 : bX (filX (G 16) 0 (lwn G f) f (G 17)) (lwn G f) f := bX_fil (fun j hj => a3 j (by unfold lwn at hj; omega)) (by omega)
  have b1 : bY (filY (H 60) 0 (lwn G f) f (H 71)) (lwn G f) := bY_fil (fun j hj => by rw [eH]; exact er.2.2 j (by unfold lwn at hj; omega)) (by omega)
  have q0 : RX f (lwn G f) (filX (G 16) 0 (lwn G f) f (G 17)) (filY (H 60) 0 (lwn G f) f (H 71)) := RX_fil (by omega) (fun k hk => by rw [eH, a5 k (by unfold lwn at hk; omega)])
  have q1 := RX_g (f := f) (n := lwn G f) (by omega) f.toNat 0 0 _ _ (H 72) (by omega) b0 q0
  have q2 := bX_g (len := f) (n := lwn G f) (by omega) f.toNat 0 0 _ (by omega) b0
  have q3 := bY_g (n := lwn G f) (by omega) f.toNat 0 _ (H 72) (by omega) (by omega) b1
  obtain ⟨p, z⟩ := EI_g (f := f) (n := lwn G f) (by omega) f.toNat 0 0 _ _ (H 72) (fun _ => 0) (by omega) b0 q0 ⟨fun r j _ hj => by omega, fun r hr => by omega, fun a ha => by omega⟩
  unfold lwF lwk rmk
  have c1 : lwq G f = gX f (lwn G f) f.toNat 0 0 (filX (G 16) 0 (lwn G f) f (G 17)) := rfl
  have c2 : rmq H f = gY (lwn G f) f.toNat 0 (filY (H 60) 0 (lwn G f) f (H 71)) (H 72) := by unfold rmq; rw [en]
  rw [← c1] at q1 q2 z
  rw [← c2] at q1 q3 z
  rw [en]
  generalize lwq G f = u at *
  generalize rmq H f = v at *
  obtain ⟨b, X⟩ := u
  obtain ⟨b', Y, Q⟩ := v
  dsimp only at *
  obtain ⟨q1a, q1b⟩ := q1
  subst q1a
  refine ⟨rfl, ck_same (by omega) q1b _ _ (by omega), by omega, by omega, q2.1, by omega, q3.1, fun a ha => ?_, rfl, fun a ha => ?_⟩
  · by_cases y : Q a = -1
    · omega
    · have := z.2.2 a (by omega) y
      omega
  · unfold fcY
    by_cases y : Q (a - 1) = -1
    · rw [if_pos y, rdX_no z b.toNat 0 _ (by omega) (fun s hs e => by
        have u := (z.2.1 s hs).2.2.2.2
        rw [show f - 1 - p s = a - 1 by omega, y] at u
        omega)]
      unfold fil
      rw [if_pos (by omega)]
    · have y2 := z.2.2 (a - 1) (by omega) y
      rw [if_neg y, show a = f - p (Q (a - 1)) by omega, rdX_is z (by omega) b.toNat 0 _ (by omega), q1b _ f (by omega) (by omega), ph_f]
      congr 1
      rw [show f - p (Q (a - 1)) = a by omega]
      omega
