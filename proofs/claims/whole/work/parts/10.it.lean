/-! going on from place to place, purely -/
theorem gsc {G : gT} {c c' : Nat} {i v : Int} (h : c' ≠ c) : gs G c i v c' = G c' := funext fun _ => if_neg h
theorem grc {G : gT} {c c' : Nat} {f : Int → Int} (h : c' ≠ c) : gr G c f c' = G c' := funext fun _ => if_neg h
theorem gre {G : gT} {c : Nat} {f : Int → Int} : gr G c f c = f := funext fun _ => if_pos rfl
def up (v : Int → Int) (i x : Int) : Int → Int := fun j => if j = i then x else v j
theorem up_e {v : Int → Int} {i x j : Int} (h : j = i) : up v i x j = x := if_pos h
theorem up_n {v : Int → Int} {i x j : Int} (h : j ≠ i) : up v i x j = v j := if_neg h
theorem gs_gre {G : gT} {c : Nat} {f : Int → Int} {i x : Int} : gs (gr G c f) c i x = gr G c (up f i x) := by
  funext c' j
  unfold gs gr up
  by_cases h : c' = c
  · simp [h]
  · simp [h]
theorem gs_up (G : gT) (c : Nat) (i x : Int) : gs G c i x = gr G c (up (G c) i x) := by
  funext c' j
  unfold gs gr up
  by_cases h : c' = c
  · simp [h]
  · simp [h]
def fil (a b x : Int) (f : Int → Int) : Int → Int := fun j => if a ≤ j ∧ j < b then x else f j
theorem fil_s {a b x : Int} {f : Int → Int} (h : a < b) : fil (a + 1) b x (up f a x) = fil a b x f := by
  funext j
  unfold fil up
  by_cases h1 : a + 1 ≤ j ∧ j < b
  · rw [if_pos h1, if_pos (by omega)]
  · rw [if_neg h1]
    by_cases h2 : j = a
    · rw [if_pos h2, if_pos (by omega)]
    · rw [if_neg h2, if_neg (by omega)]
theorem fil_z {a b x : Int} {f : Int → Int} (h : b ≤ a) : fil a b x f = f := by
  funext j
  unfold fil
  rw [if_neg (by omega)]
theorem iO_0 {s : Int} (h : -2147483648 ≤ s ∧ s ≤ 2147483647) : iO s 0 = s := by
  unfold iO
  rw [show zI s ||| zI 0 = zI s from Int32.or_zero, zI_toInt h]
def it (f : Int → Int) : Nat → Int → Int
  | 0, c => c
  | k + 1, c => it f k (f c)
def pl8 (f : Int → Int) : Prop := ∀ j : Int, 0 ≤ j ∧ j < 8 → 0 ≤ f j ∧ f j < 8
theorem it_bd {f : Int → Int} (hf : pl8 f) : ∀ (k : Nat) (c : Int), 0 ≤ c ∧ c < 8 → 0 ≤ it f k c ∧ it f k c < 8
  | 0, _, h => h
  | k + 1, c, h => it_bd hf k (f c) (hf c h)
theorem it_add (f : Int → Int) : ∀ (a b : Nat) (c : Int), it f (a + b) c = it f b (it f a c)
  | 0, b, c => by rw [Nat.zero_add]; rfl
  | a + 1, b, c => by rw [Nat.add_right_comm]; exact it_add f a b (f c)
theorem it_s (f : Int → Int) (k : Nat) (c : Int) : it f (k + 1) c = f (it f k c) := it_add f k 1 c
theorem it_cg {f g : Int → Int} (hg : pl8 g) (e : ∀ j : Int, 0 ≤ j ∧ j < 8 → f j = g j) : ∀ (k : Nat) (c : Int), 0 ≤ c ∧ c < 8 → it f k c = it g k c
  | 0, _, _ => rfl
  | k + 1, c, h => by
    show it f k (f c) = it g k (g c)
    rw [e c h]
    exact it_cg hg e k (g c) (hg c h)
theorem php : ∀ (n : Nat) (g : Nat → Nat), (∀ i, i ≤ n → g i < n) → ∃ i j, i < j ∧ j ≤ n ∧ g i = g j
  | 0, g, h => absurd (h 0 (Nat.le_refl 0)) (by omega)
  | n + 1, g, h => by
    by_cases q : ∃ i, i ≤ n ∧ g i = g (n + 1)
    · obtain ⟨i, h1, h2⟩ := q
      exact ⟨i, n + 1, by omega, by omega, h2⟩
    · have nq : ∀ i, i ≤ n → g i ≠ g (n + 1) := fun i hi e => q ⟨i, hi, e⟩
      obtain ⟨i, j, h1, h2, h3⟩ := php n (fun i => if g i = n then g (n + 1) else g i) (fun i hi => by
        have a := h i (by omega)
        have b := h (n + 1) (by omega)
        have c := nq i hi
        split <;> omega)
      refine ⟨i, j, h1, by omega, ?_⟩
      have a := nq i (by omega)
      have b := nq j (by omega)
      split at h3 <;> split at h3 <;> omega
/-- behind eight goings on one is in a ring -/
theorem it_ring {f : Int → Int} (hf : pl8 f) {c : Int} (hc : 0 ≤ c ∧ c < 8) : ∃ p : Nat, 1 ≤ p ∧ p ≤ 8 ∧ ∀ m, 8 ≤ m → it f (m + p) c = it f m c := by
  obtain ⟨i, j, h1, h2, h3⟩ := php 8 (fun k => (it f k c).toNat) (fun k _ => by
    have := it_bd hf k c hc
    omega)
  have a := it_bd hf i c hc
  have b := it_bd hf j c hc
  have e : it f i c = it f j c := by omega
  refine ⟨j - i, by omega, by omega, fun m hm => ?_⟩
  have e1 : m + (j - i) = j + (m - i) := by omega
  have e2 : m = i + (m - i) := by omega
  rw [e1, it_add, ← e, ← it_add, ← e2]
theorem it_per {f : Int → Int} {c : Int} {p : Nat} (h : ∀ m, 8 ≤ m → it f (m + p) c = it f m c) : ∀ (q m : Nat), 8 ≤ m → it f (m + p * q) c = it f m c
  | 0, m, _ => rfl
  | q + 1, m, hm => by
    rw [Nat.mul_succ, ← Nat.add_assoc, h (m + p * q) (by omega), it_per h q m hm]
theorem it_840 {f : Int → Int} (hf : pl8 f) {c : Int} (hc : 0 ≤ c ∧ c < 8) {m : Nat} (hm : 8 ≤ m) (q : Nat) : it f (m + 840 * q) c = it f m c := by
  obtain ⟨p, h1, h2, h3⟩ := it_ring hf hc
  have : ∃ r, 840 = p * r := by
    have : p = 1 ∨ p = 2 ∨ p = 3 ∨ p = 4 ∨ p = 5 ∨ p = 6 ∨ p = 7 ∨ p = 8 := by omega
    rcases this with e | e | e | e | e | e | e | e <;> subst e
    · exact ⟨840, rfl⟩
    · exact ⟨420, rfl⟩
    · exact ⟨280, rfl⟩
    · exact ⟨210, rfl⟩
    · exact ⟨168, rfl⟩
    · exact ⟨140, rfl⟩
    · exact ⟨120, rfl⟩
    · exact ⟨105, rfl⟩
  obtain ⟨r, hr⟩ := this
  rw [hr, Nat.mul_assoc]
  exact it_per h3 (r * q) m hm
theorem it_far {f : Int → Int} (hf : pl8 f) {c n : Int} (hc : 0 ≤ c ∧ c < 8) (hn : 8 < n) : it f (8 + (n - 8) % 840).toNat c = it f n.toNat c := by
  have e : n.toNat = (8 + (n - 8) % 840).toNat + 840 * ((n - 8) / 840).toNat := by omega
  rw [e, it_840 hf hc (by omega)]
def bI (c : Prop) [Decidable c] : Int := if c then 1 else 0
theorem bI_t {c : Prop} [Decidable c] (h : c) : bI c = 1 := if_pos h
theorem bI_f {c : Prop} [Decidable c] (h : ¬ c) : bI c = 0 := if_neg h
theorem bI_bd {c : Prop} [Decidable c] : bI c = 0 ∨ bI c = 1 := by
  unfold bI
  split <;> simp
/-- the ring's length: the least n of 1 .. 8 behind which one is there again; 0 -/
def rl (f : Int → Int) (c : Int) : Nat → Int → Int
  | 0, _ => 0
  | k + 1, n => if it f n.toNat c = c then n else rl f c k (n + 1)
def wl (f : Int → Int) (c : Int) : Nat → Int → Int
  | 0, w => w
  | k + 1, w => if rl f (it f w.toNat c) 8 1 = 0 then wl f c k (w + 1) else w
def lo (f : Int → Int) (c : Int) : Nat → Int → Int
  | 0, _ => 1
  | k + 1, n => if it f n.toNat c < c then 0 else lo f c k (n + 1)
def fl (g : Int → Int → Int) : Nat → Int → Int → Int
  | 0, _, a => a
  | k + 1, i, a => fl g k (i + 1) (g i a)
theorem fl_cg {g g' : Int → Int → Int} : ∀ (k : Nat) (i a : Int), (∀ j b : Int, i ≤ j ∧ j < i + k → g j b = g' j b) → fl g k i a = fl g' k i a
  | 0, _, _, _ => rfl
  | k + 1, i, a, h => by
    show fl g k (i + 1) (g i a) = fl g' k (i + 1) (g' i a)
    rw [h i a (by omega)]
    exact fl_cg k (i + 1) _ (fun j b hj => h j b (by omega))
theorem rl_spec (f : Int → Int) (c : Int) : ∀ (k : Nat) (n : Int), 1 ≤ n → (rl f c k n = 0 ∧ ∀ m : Int, n ≤ m ∧ m < n + k → it f m.toNat c ≠ c) ∨ (n ≤ rl f c k n ∧ rl f c k n < n + k ∧ it f (rl f c k n).toNat c = c ∧ ∀ m : Int, n ≤ m ∧ m < rl f c k n → it f m.toNat c ≠ c)
  | 0, n, _ => Or.inl ⟨rfl, fun m hm => by omega⟩
  | k + 1, n, hn => by
    unfold rl
    by_cases q : it f n.toNat c = c
    · rw [if_pos q]
      exact Or.inr ⟨by omega, by omega, q, fun m hm => by omega⟩
    · rw [if_neg q]
      rcases rl_spec f c k (n + 1) (by omega) with ⟨h1, h2⟩ | ⟨h1, h2, h3, h4⟩
      · refine Or.inl ⟨h1, fun m hm => ?_⟩
        by_cases e : m = n
        · rw [e]; exact q
        · exact h2 m (by omega)
      · refine Or.inr ⟨by omega, by omega, h3, fun m hm => ?_⟩
        by_cases e : m = n
        · rw [e]; exact q
        · exact h4 m (by omega)
theorem rl_cg {f g : Int → Int} (hg : pl8 g) (e : ∀ j : Int, 0 ≤ j ∧ j < 8 → f j = g j) {c : Int} (hc : 0 ≤ c ∧ c < 8) : ∀ (k : Nat) (n : Int), rl f c k n = rl g c k n
  | 0, _ => rfl
  | k + 1, n => by
    unfold rl
    rw [it_cg hg e _ c hc, rl_cg hg e hc k (n + 1)]
theorem wl_cg {f g : Int → Int} (hg : pl8 g) (e : ∀ j : Int, 0 ≤ j ∧ j < 8 → f j = g j) {c : Int} (hc : 0 ≤ c ∧ c < 8) : ∀ (k : Nat) (n : Int), wl f c k n = wl g c k n
  | 0, _ => rfl
  | k + 1, n => by
    unfold wl
    rw [it_cg hg e _ c hc, rl_cg hg e (it_bd hg _ c hc) 8 1, wl_cg hg e hc k (n + 1)]
theorem lo_cg {f g : Int → Int} (hg : pl8 g) (e : ∀ j : Int, 0 ≤ j ∧ j < 8 → f j = g j) {c : Int} (hc : 0 ≤ c ∧ c < 8) : ∀ (k : Nat) (n : Int), lo f c k n = lo g c k n
  | 0, _ => rfl
  | k + 1, n => by
    unfold lo
    rw [it_cg hg e _ c hc, lo_cg hg e hc k (n + 1)]
theorem rl_pos {f : Int → Int} {c : Int} {p : Nat} (h1 : 1 ≤ p) (h2 : p ≤ 8) (h : it f p c = c) : rl f c 8 1 ≠ 0 := by
  intro q
  rcases rl_spec f c 8 1 (by omega) with ⟨_, h4⟩ | ⟨h4, _⟩
  · exact h4 p (by omega) (by rw [Int.toNat_natCast]; exact h)
  · omega
/-- eight times on one is in a ring -/
theorem rl_8 {f : Int → Int} (hf : pl8 f) {c : Int} (hc : 0 ≤ c ∧ c < 8) : rl f (it f 8 c) 8 1 ≠ 0 := by
  obtain ⟨p, h1, h2, h3⟩ := it_ring hf hc
  refine rl_pos h1 h2 ?_
  rw [← it_add]
  exact h3 8 (by omega)
theorem it_back {f : Int → Int} {c : Int} {p : Nat} (hp : 1 ≤ p) (h : it f p c = c) (m : Nat) : it f m (f c) = f c ↔ it f m c = c := by
  constructor
  · intro e
    have e1 : it f (p - 1) (it f m (f c)) = it f (p - 1) (f c) := by rw [e]
    have e2 : it f (p - 1) (f c) = c := by
      have : it f ((p - 1) + 1) c = c := by rw [show (p - 1) + 1 = p by omega]; exact h
      exact this
    rw [e2, ← it_add, Nat.add_comm, it_add, e2] at e1
    exact e1
  · intro e
    have : it f (m + 1) c = f c := by rw [it_s, e]
    exact this
/-- a ring's length is the same from each of its places -/
theorem rl_next {f : Int → Int} {c : Int} (h : rl f c 8 1 ≠ 0) : rl f (f c) 8 1 = rl f c 8 1 := by
  rcases rl_spec f c 8 1 (by omega) with ⟨h4, _⟩ | ⟨h4, h5, h6, _⟩
  · exact absurd h4 h
  · have key : ∀ (k : Nat) (n : Int), rl f (f c) k n = rl f c k n := by
      intro k
      induction k with
      | zero => intro n; rfl
      | succ k ih =>
        intro n
        unfold rl
        rw [ih]
        simp only [it_back (show 1 ≤ (rl f c 8 1).toNat by omega) h6]
    exact key 8 1
theorem rl_on {f : Int → Int} {c : Int} (h : rl f c 8 1 ≠ 0) : ∀ m : Nat, rl f (it f m c) 8 1 = rl f c 8 1
  | 0 => rfl
  | m + 1 => by
    show rl f (it f m (f c)) 8 1 = _
    have e := rl_next h
    rw [rl_on (c := f c) (by rw [e]; exact h) m, e]
theorem wl_spec (f : Int → Int) (c : Int) : ∀ (k : Nat) (w : Int), rl f (it f (w + k).toNat c) 8 1 ≠ 0 → w ≤ wl f c k w ∧ wl f c k w ≤ w + k ∧ rl f (it f (wl f c k w).toNat c) 8 1 ≠ 0
  | 0, w, h => by
    refine ⟨Int.le_refl _, by show w ≤ _; omega, ?_⟩
    rw [show w + ((0 : Nat) : Int) = w by omega] at h
    exact h
  | k + 1, w, h => by
    unfold wl
    by_cases q : rl f (it f w.toNat c) 8 1 = 0
    · rw [if_pos q]
      have := wl_spec f c k (w + 1) (by rw [show w + 1 + (k : Int) = w + ((k + 1 : Nat) : Int) by omega]; exact h)
      omega
    · rw [if_neg q]
      exact ⟨by omega, by omega, q⟩
theorem ring_same {f : Int → Int} (hf : pl8 f) {c : Int} (hc : 0 ≤ c ∧ c < 8) : rl f (it f 8 c) 8 1 = rl f (it f (wl f c 8 0).toNat c) 8 1 := by
  have h := wl_spec f c 8 0 (by exact rl_8 hf hc)
  have e : (8 : Nat) = (wl f c 8 0).toNat + (8 - (wl f c 8 0).toNat) := by omega
  have e2 : it f 8 c = it f (8 - (wl f c 8 0).toNat) (it f (wl f c 8 0).toNat c) := by rw [← it_add, ← e]
  rw [e2, rl_on h.2.2]
theorem lo_spec (f : Int → Int) (c : Int) : ∀ (k : Nat) (n : Int), (lo f c k n = 0 ∨ lo f c k n = 1) ∧ (lo f c k n = 1 ↔ ∀ m : Int, n ≤ m ∧ m < n + k → c ≤ it f m.toNat c)
  | 0, n => ⟨Or.inr rfl, fun _ m hm => by omega, fun _ => rfl⟩
  | k + 1, n => by
    unfold lo
    have h := lo_spec f c k (n + 1)
    by_cases q : it f n.toNat c < c
    · rw [if_pos q]
      refine ⟨Or.inl rfl, fun e => by omega, fun e => ?_⟩
      have := e n (by omega)
      omega
    · rw [if_neg q]
      refine ⟨h.1, fun e m hm => ?_, fun e => h.2.mpr (fun m hm => e m (by omega))⟩
      by_cases e2 : m = n
      · rw [e2]; omega
      · exact h.2.mp e m (by omega)
theorem it_cyc {f : Int → Int} {c : Int} {p : Nat} (h : it f p c = c) : ∀ q m : Nat, it f (m + p * q) c = it f m c
  | 0, _ => rfl
  | q + 1, m => by
    rw [Nat.mul_succ, ← Nat.add_assoc, Nat.add_comm, it_add, h]
    exact it_cyc h q m
/-- one is the lowest of one's ring: seen all along it, or seven times on -/
def mi (f : Int → Int) (a b n : Int) : Nat → Int → Int
  | 0, _ => -1
  | k + 1, i => if it f i.toNat a = it f (n - i).toNat b then i else mi f a b n k (i + 1)
def mo (f : Int → Int) (a b w : Int) : Nat → Int → Int
  | 0, _ => -1
  | k + 1, n => if mi f a b n (n + 1).toNat 0 = -1 then mo f a b w k (n + 1) else (if w = 0 then n else if w = 1 then mi f a b n (n + 1).toNat 0 else n - mi f a b n (n + 1).toNat 0)
theorem mi_cg {f g : Int → Int} (hg : pl8 g) (e : ∀ j : Int, 0 ≤ j ∧ j < 8 → f j = g j) {a b : Int} (ha : 0 ≤ a ∧ a < 8) (hb : 0 ≤ b ∧ b < 8) (n : Int) : ∀ (k : Nat) (i : Int), mi f a b n k i = mi g a b n k i
  | 0, _ => rfl
  | k + 1, i => by
    unfold mi
    rw [it_cg hg e _ a ha, it_cg hg e _ b hb, mi_cg hg e ha hb n k (i + 1)]
theorem mo_cg {f g : Int → Int} (hg : pl8 g) (e : ∀ j : Int, 0 ≤ j ∧ j < 8 → f j = g j) {a b : Int} (ha : 0 ≤ a ∧ a < 8) (hb : 0 ≤ b ∧ b < 8) (w : Int) : ∀ (k : Nat) (n : Int), mo f a b w k n = mo g a b w k n
  | 0, _ => rfl
  | k + 1, n => by
    unfold mo
    rw [mi_cg hg e ha hb, mo_cg hg e ha hb w k (n + 1)]
def mw (f v : Int → Int) (p : Int) : Int := if it f 1 p = 0 ∨ v (it f 1 p) = 0 then 1 else if it f 2 p = 0 ∨ v (it f 2 p) = 0 then 2 else -1
def jd (f v : Int → Int) (p : Int) : Int := if mw f v p = -1 then (if v (it f 1 p) = 1 ∧ v (it f 2 p) = 1 then 0 else 2) else 1
def jr (f : Int → Int) : Nat → Int → (Int → Int) → Int → Int
  | 0, _, v => v
  | k + 1, p, v => jr f k (p + 1) (up v p (jd f v p))
def jR (f : Int → Int) : Nat → (Int → Int) → Int → Int
  | 0, v => v
  | k + 1, v => jR f k (jr f 8 0 v)
/-- the reference's: what is decided stays -/
def gR1 (f : Int → Int) : Nat → Int → (Int → Int) → Int → Int
  | 0, _, v => v
  | k + 1, p, v => gR1 f k (p + 1) (if v p = 2 then up v p (jd f v p) else v)
def gRR (f : Int → Int) : Nat → (Int → Int) → Int → Int
  | 0, v => v
  | k + 1, v => gRR f k (gR1 f 8 0 v)
def v3 (v : Int → Int) : Prop := ∀ j : Int, 0 ≤ j ∧ j < 8 → 0 ≤ v j ∧ v j ≤ 2
theorem jd_bd (f v : Int → Int) (p : Int) : 0 ≤ jd f v p ∧ jd f v p ≤ 2 := by
  unfold jd
  split
  · split <;> omega
  · omega
theorem v3_up {v : Int → Int} (h : v3 v) {p x : Int} (hx : 0 ≤ x ∧ x ≤ 2) : v3 (up v p x) := by
  intro j hj
  unfold up
  split
  · exact hx
  · exact h j hj
theorem v3_fil {f : Int → Int} : v3 (fil 0 8 2 f) := by
  intro j hj
  unfold fil
  rw [if_pos hj]
  omega
theorem v3_jr (f : Int → Int) : ∀ (k : Nat) (p : Int) (v : Int → Int), v3 v → v3 (jr f k p v)
  | 0, _, _, h => h
  | k + 1, p, _, h => v3_jr f k (p + 1) _ (v3_up h (jd_bd f _ p))
theorem v3_jR (f : Int → Int) : ∀ (k : Nat) (v : Int → Int), v3 v → v3 (jR f k v)
  | 0, _, h => h
  | k + 1, _, h => v3_jR f k _ (v3_jr f 8 0 _ h)
theorem v3_gR1 (f : Int → Int) : ∀ (k : Nat) (p : Int) (v : Int → Int), v3 v → v3 (gR1 f k p v)
  | 0, _, _, h => h
  | k + 1, p, v, h => by
    refine v3_gR1 f k (p + 1) _ ?_
    split
    · exact v3_up h (jd_bd f _ p)
    · exact h
theorem v3_gRR (f : Int → Int) : ∀ (k : Nat) (v : Int → Int), v3 v → v3 (gRR f k v)
  | 0, _, h => h
  | k + 1, _, h => v3_gRR f k _ (v3_gR1 f 8 0 _ h)
theorem lo_same {f : Int → Int} {c : Int} (h : rl f c 8 1 ≠ 0) : lo f c (rl f c 8 1 - 1).toNat 1 = lo f c 7 1 := by
  rcases rl_spec f c 8 1 (by omega) with ⟨h4, _⟩ | ⟨h4, h5, h6, _⟩
  · exact absurd h4 h
  · have a := lo_spec f c (rl f c 8 1 - 1).toNat 1
    have b := lo_spec f c 7 1
    have e : lo f c (rl f c 8 1 - 1).toNat 1 = 1 ↔ lo f c 7 1 = 1 := by
      rw [a.2, b.2]
      constructor
      · intro q m hm
        have e1 : it f m.toNat c = it f (m % rl f c 8 1).toNat c := by
          have e2 : m.toNat = (m % rl f c 8 1).toNat + (rl f c 8 1).toNat * (m / rl f c 8 1).toNat := by
            have p1 := Int.emod_add_mul_ediv m (rl f c 8 1)
            have p2 := Int.emod_nonneg m (show rl f c 8 1 ≠ 0 from h)
            have p3 : 0 ≤ m / rl f c 8 1 := Int.ediv_nonneg (by omega) (by omega)
            have p4 : ((rl f c 8 1).toNat * (m / rl f c 8 1).toNat : Nat) = (rl f c 8 1 * (m / rl f c 8 1)).toNat := by
              rw [Int.toNat_mul (by omega) p3]
            have p5 : 0 ≤ rl f c 8 1 * (m / rl f c 8 1) := Int.mul_nonneg (by omega) p3
            rw [p4]
            omega
          rw [e2, it_cyc h6]
        rw [e1]
        have p2 := Int.emod_nonneg m (show rl f c 8 1 ≠ 0 from h)
        have p6 := Int.emod_lt_of_pos m (show 0 < rl f c 8 1 by omega)
        by_cases z : m % rl f c 8 1 = 0
        · rw [z]; show c ≤ c; omega
        · exact q _ (by omega)
      · intro q m hm
        exact q m (by omega)
    rcases a.1 with x | x <;> rcases b.1 with y | y <;> omega
