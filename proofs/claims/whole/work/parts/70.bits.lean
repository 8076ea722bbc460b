/-! counting bits, eight at a time -/
def pcN (x : Nat) : Nat → Nat
  | 0 => 0
  | k + 1 => pcN x k + (if x.testBit k then 1 else 0)
theorem and_split {a b c e : Nat} (hb : b < 256) (he : e < 256) : (256 * a + b) &&& (256 * c + e) = 256 * (a &&& c) + (b &&& e) := by
  apply Nat.eq_of_testBit_eq
  intro j
  have hbe : b &&& e < 2 ^ 8 := Nat.lt_of_le_of_lt Nat.and_le_left hb
  rw [Nat.testBit_and, show (256 : Nat) = 2 ^ 8 from rfl, Nat.testBit_two_pow_mul_add a (show b < 2 ^ 8 from hb), Nat.testBit_two_pow_mul_add c (show e < 2 ^ 8 from he), Nat.testBit_two_pow_mul_add (a &&& c) hbe]
  by_cases h : j < 8
  · simp [h, Nat.testBit_and]
  · simp [h, Nat.testBit_and]
def mk8 (c : Nat) : Nat → Nat
  | 0 => 0
  | k + 1 => 256 * mk8 c k + c
/-- the digits, mapped -/
def dg (g : Nat → Nat) : Nat → Nat → Nat
  | 0, _ => 0
  | k + 1, x => 256 * dg g k (x / 256) + g (x % 256)
theorem dg_lt {g : Nat → Nat} {B : Nat} (hB : B < 256) (hg : ∀ d, d < 256 → g d ≤ B) : ∀ k x, dg g k x < 256 ^ k
  | 0, _ => by show 0 < 1; decide
  | k + 1, x => by
    have ih := dg_lt hB hg k (x / 256)
    have h := hg (x % 256) (Nat.mod_lt _ (by decide))
    show 256 * dg g k (x / 256) + g (x % 256) < 256 ^ (k + 1)
    rw [Nat.pow_succ]
    omega
theorem dg_dm {g : Nat → Nat} {B : Nat} (hB : B < 256) (hg : ∀ d, d < 256 → g d ≤ B) (k x : Nat) : dg g (k + 1) x / 256 = dg g k (x / 256) ∧ dg g (k + 1) x % 256 = g (x % 256) := by
  have h := hg (x % 256) (Nat.mod_lt _ (by decide))
  show (256 * dg g k (x / 256) + g (x % 256)) / 256 = _ ∧ (256 * dg g k (x / 256) + g (x % 256)) % 256 = _
  omega
theorem dg_dg {f g : Nat → Nat} {B : Nat} (hB : B < 256) (hg : ∀ d, d < 256 → g d ≤ B) : ∀ k x, dg f k (dg g k x) = dg (fun d => f (g d)) k x
  | 0, _ => rfl
  | k + 1, x => by
    have h := dg_dm hB hg k x
    show 256 * dg f k (dg g (k + 1) x / 256) + f (dg g (k + 1) x % 256) = 256 * dg (fun d => f (g d)) k (x / 256) + f (g (x % 256))
    rw [h.1, h.2, dg_dg hB hg k]
def b1 (d : Nat) : Nat := d - ((d / 2) &&& 0x55)
def b2 (d : Nat) : Nat := (d &&& 0x33) + ((d / 4) &&& 0x33)
def b3 (d : Nat) : Nat := (d + d / 16) % 16
theorem b_facts : ∀ d, d < 256 → (b1 d ≤ 170 ∧ (d / 2) &&& 0x55 ≤ d) ∧ (∀ t, t < 2 → (128 * t + d / 2) &&& 0x55 = (d / 2) &&& 0x55) ∧ (∀ t, t < 4 → (64 * t + d / 4) &&& 0x33 = (d / 4) &&& 0x33) ∧ (b2 (b1 d) ≤ 68 ∧ b2 (b1 d) % 16 ≤ 4 ∧ b3 (b2 (b1 d)) = pcN d 8) ∧ b2 d ≤ 102 := by decide +kernel
theorem s1 : ∀ k x, x < 256 ^ k → x - ((x / 2) &&& mk8 0x55 k) = dg b1 k x ∧ (x / 2) &&& mk8 0x55 k ≤ x
  | 0, x, h => by
    have : x = 0 := by have : x < 1 := h; omega
    subst this
    exact ⟨rfl, by simp [mk8]⟩
  | k + 1, x, h => by
    have hd := Nat.mod_lt x (show 0 < 256 by decide)
    have ih := s1 k (x / 256) (by rw [Nat.pow_succ] at h; omega)
    have f := b_facts (x % 256) hd
    have e : x / 2 = 256 * (x / 256 / 2) + (128 * (x / 256 % 2) + x % 256 / 2) := by omega
    have e2 : (x / 2) &&& mk8 0x55 (k + 1) = 256 * ((x / 256 / 2) &&& mk8 0x55 k) + ((x % 256 / 2) &&& 0x55) := by
      rw [e]
      show _ &&& (256 * mk8 0x55 k + 0x55) = _
      rw [and_split (by omega) (by decide), f.2.1 _ (Nat.mod_lt _ (by decide))]
    rw [e2]
    show _ = 256 * dg b1 k (x / 256) + b1 (x % 256) ∧ _
    rw [← ih.1]
    unfold b1
    have i2 := ih.2
    have f2 := f.1.2
    generalize (x / 256 / 2) &&& mk8 0x55 k = u at *
    generalize (x % 256 / 2) &&& 0x55 = w at *
    omega
theorem s2 : ∀ k x, x < 256 ^ k → (x &&& mk8 0x33 k) + ((x / 4) &&& mk8 0x33 k) = dg b2 k x
  | 0, x, h => by
    show (x &&& 0) + ((x / 4) &&& 0) = 0
    simp
  | k + 1, x, h => by
    have hd := Nat.mod_lt x (show 0 < 256 by decide)
    have ih := s2 k (x / 256) (by rw [Nat.pow_succ] at h; omega)
    have f := b_facts (x % 256) hd
    have e : x / 4 = 256 * (x / 256 / 4) + (64 * (x / 256 % 4) + x % 256 / 4) := by omega
    have e0 : x = 256 * (x / 256) + x % 256 := by omega
    have e1 : x &&& mk8 0x33 (k + 1) = 256 * ((x / 256) &&& mk8 0x33 k) + ((x % 256) &&& 0x33) := by
      have z := and_split (a := x / 256) (b := x % 256) (c := mk8 0x33 k) (e := 0x33) hd (by decide)
      rw [← e0] at z
      exact z
    have e2 : (x / 4) &&& mk8 0x33 (k + 1) = 256 * ((x / 256 / 4) &&& mk8 0x33 k) + ((x % 256 / 4) &&& 0x33) := by
      rw [e]
      show _ &&& (256 * mk8 0x33 k + 0x33) = _
      rw [and_split (by omega) (by decide), f.2.2.1 _ (Nat.mod_lt _ (by decide))]
    rw [e1, e2]
    show _ = 256 * dg b2 k (x / 256) + b2 (x % 256)
    rw [← ih]
    unfold b2
    omega
/-- every digit's halves are at most 4 -/
def lo4 : Nat → Nat → Prop
  | 0, _ => True
  | k + 1, x => (x % 256 ≤ 68 ∧ x % 16 ≤ 4) ∧ lo4 k (x / 256)
theorem s3 : ∀ k x, x < 256 ^ k → lo4 k x → (x + x / 16) &&& mk8 0x0f k = dg b3 k x
  | 0, x, _, _ => by show _ &&& 0 = 0; simp
  | k + 1, x, h, hl => by
    have hd := Nat.mod_lt x (show 0 < 256 by decide)
    have h' : x / 256 < 256 ^ k := by rw [Nat.pow_succ] at h; omega
    have ih := s3 k (x / 256) h' hl.2
    have h1 := hl.1
    have hy : x / 256 % 16 ≤ 4 := by
      cases k with
      | zero => have : x / 256 < 1 := h'; omega
      | succ k => exact hl.2.1.2
    have e : x + x / 16 = 256 * (x / 256 + x / 256 / 16) + (x % 256 + 16 * (x / 256 % 16) + x % 256 / 16) := by omega
    rw [e]
    show _ &&& (256 * mk8 0x0f k + 0x0f) = 256 * dg b3 k (x / 256) + b3 (x % 256)
    rw [and_split (by omega) (by decide), ih, show (0x0f : Nat) = 2 ^ 4 - 1 from rfl, Nat.and_two_pow_sub_one_eq_mod]
    unfold b3
    omega
theorem lo4_dg : ∀ k x, lo4 k (dg (fun d => b2 (b1 d)) k x)
  | 0, _ => trivial
  | k + 1, x => by
    have f := (b_facts (x % 256) (Nat.mod_lt _ (by decide))).2.2.2.1
    have h := dg_dm (g := fun d => b2 (b1 d)) (B := 68) (by decide) (fun d hd => (b_facts d hd).2.2.2.1.1) k x
    have h2 : dg (fun d => b2 (b1 d)) (k + 1) x % 256 = b2 (b1 (x % 256)) := h.2
    refine ⟨⟨by rw [h2]; exact f.1, ?_⟩, by rw [h.1]; exact lo4_dg k (x / 256)⟩
    have : dg (fun d => b2 (b1 d)) (k + 1) x % 16 = dg (fun d => b2 (b1 d)) (k + 1) x % 256 % 16 := by omega
    rw [this, h2]
    exact f.2.1
theorem dg_cong {f g : Nat → Nat} (h : ∀ d, d < 256 → f d = g d) : ∀ k x, dg f k x = dg g k x
  | 0, _ => rfl
  | k + 1, x => by
    show 256 * dg f k (x / 256) + f (x % 256) = 256 * dg g k (x / 256) + g (x % 256)
    rw [dg_cong h k, h _ (Nat.mod_lt _ (by decide))]
theorem pcN_le (x : Nat) : ∀ k, pcN x k ≤ k
  | 0 => Nat.le_refl _
  | k + 1 => by
    show pcN x k + _ ≤ k + 1
    have := pcN_le x k
    by_cases h : x.testBit k = true
    · rw [if_pos h]; omega
    · rw [if_neg h]; omega
theorem pcN_split (x : Nat) : ∀ k, pcN x (8 + k) = pcN (x % 256) 8 + pcN (x / 256) k
  | 0 => by
    have : ∀ j, j ≤ 8 → pcN x j = pcN (x % 256) j := by
      intro j
      induction j with
      | zero => intro _; rfl
      | succ j ih =>
        intro hj
        show pcN x j + _ = pcN (x % 256) j + _
        rw [ih (by omega), show (256 : Nat) = 2 ^ 8 from rfl, Nat.testBit_mod_two_pow]
        simp [show j < 8 by omega]
    exact this 8 (Nat.le_refl _)
  | k + 1 => by
    show pcN x (8 + k) + (if x.testBit (8 + k) then 1 else 0) = pcN (x % 256) 8 + (pcN (x / 256) k + (if (x / 256).testBit k then 1 else 0))
    rw [pcN_split x k, show (x / 256).testBit k = x.testBit (8 + k) from by rw [show (256 : Nat) = 2 ^ 8 from rfl, Nat.testBit_div_two_pow, Nat.add_comm]]
    omega
theorem pcN_8 (y : Nat) : pcN y 8 = pcN (y % 256) 8 := (pcN_split y 0).trans (Nat.add_zero _)
/-- the steps of Long.bitCount -/
def p1 (x : Nat) : Nat := x - ((x / 2 ^ 1) &&& 6148914691236517205)
def p2 (x : Nat) : Nat := (x &&& 3689348814741910323) + ((x / 2 ^ 2) &&& 3689348814741910323)
def p3 (x : Nat) : Nat := (x + x / 2 ^ 4) &&& 1085102592571150095
def p4 (x : Nat) : Nat := x + x / 2 ^ 8
def p5 (x : Nat) : Nat := x + x / 2 ^ 16
def p6 (x : Nat) : Nat := x + x / 2 ^ 32
theorem p123 {x : Nat} (h : x < 2 ^ 64) : p1 x = dg b1 8 x ∧ (x / 2 ^ 1) &&& 6148914691236517205 ≤ x ∧ p2 (p1 x) = dg (fun d => b2 (b1 d)) 8 x ∧ p3 (p2 (p1 x)) = dg (fun d => pcN d 8) 8 x := by
  have h8 : x < 256 ^ 8 := h
  have a := s1 8 x h8
  have e1 : p1 x = dg b1 8 x := a.1
  have l1 : dg b1 8 x < 256 ^ 8 := dg_lt (B := 170) (by decide) (fun d hd => (b_facts d hd).1.1) 8 x
  have e2 : p2 (p1 x) = dg (fun d => b2 (b1 d)) 8 x := by
    rw [e1]
    exact (s2 8 _ l1).trans (dg_dg (B := 170) (by decide) (fun d hd => (b_facts d hd).1.1) 8 x)
  have l2 : dg (fun d => b2 (b1 d)) 8 x < 256 ^ 8 := dg_lt (B := 68) (by decide) (fun d hd => (b_facts d hd).2.2.2.1.1) 8 x
  refine ⟨e1, a.2, e2, ?_⟩
  rw [e2]
  refine ((s3 8 _ l2 (lo4_dg 8 x)).trans (dg_dg (B := 68) (by decide) (fun d hd => (b_facts d hd).2.2.2.1.1) 8 x)).trans (dg_cong (fun d hd => (b_facts d hd).2.2.2.1.2.2) 8 x)
theorem sd_lin {X Y P Q v w : Nat} (h0 : X = v + 256 * Y) (h1 : P = w + 256 * Q) : X + P = (v + w) + 256 * (Y + Q) := by omega
theorem sd_1 {X Y v : Nat} (h : X = v + 256 * Y) (c : v < 256) : X / 2 ^ 8 = Y := by omega
theorem sd_2 {X Y Z v w : Nat} (h : X = v + 256 * Y) (k : Y = w + 256 * Z) (c : v < 256) (d : w < 256) : X / 2 ^ 16 = Z := by omega
theorem sd_4 {X Y Z : Nat} (h : X / 2 ^ 16 = Y) (k : Y / 2 ^ 16 = Z) : X / 2 ^ 32 = Z := by omega
theorem sd_m {X K s : Nat} (h : X = s + 256 * K) (c : s < 128) : X % 128 = s := by omega
theorem fold8 {v0 v1 v2 v3 v4 v5 v6 v7 Y0 Y1 Y2 Y3 Y4 Y5 Y6 Y7 : Nat} (h7 : Y7 = v7 + 256 * 0) (h6 : Y6 = v6 + 256 * Y7) (h5 : Y5 = v5 + 256 * Y6) (h4 : Y4 = v4 + 256 * Y5) (h3 : Y3 = v3 + 256 * Y4) (h2 : Y2 = v2 + 256 * Y3) (h1 : Y1 = v1 + 256 * Y2) (h0 : Y0 = v0 + 256 * Y1) (c0 : v0 ≤ 8) (c1 : v1 ≤ 8) (c2 : v2 ≤ 8) (c3 : v3 ≤ 8) (c4 : v4 ≤ 8) (c5 : v5 ≤ 8) (c6 : v6 ≤ 8) (c7 : v7 ≤ 8) : p6 (p5 (p4 Y0)) % 128 = v0 + v1 + (v2 + v3) + (v4 + v5 + (v6 + v7)) ∧ p4 Y0 = Y0 + Y1 ∧ p5 (p4 Y0) = Y0 + Y1 + (Y2 + Y3) ∧ p6 (p5 (p4 Y0)) = Y0 + Y1 + (Y2 + Y3) + (Y4 + Y5 + (Y6 + Y7)) := by
  have z0 := sd_lin h0 h1
  have z1 := sd_lin h1 h2
  have z2 := sd_lin h2 h3
  have z3 := sd_lin h3 h4
  have z4 := sd_lin h4 h5
  have z5 := sd_lin h5 h6
  have z6 := sd_lin h6 h7
  have w0 := sd_lin z0 z2
  have w1 := sd_lin z1 z3
  have w2 := sd_lin z2 z4
  have w3 := sd_lin z3 z5
  have w4 := sd_lin z4 z6
  have e4 : p4 Y0 = Y0 + Y1 := by unfold p4; rw [sd_1 h0 (by omega)]
  have e5 : p5 (p4 Y0) = Y0 + Y1 + (Y2 + Y3) := by
    rw [e4]; unfold p5
    rw [sd_2 z0 z1 (Nat.lt_of_le_of_lt (Nat.add_le_add c0 c1) (by decide)) (Nat.lt_of_le_of_lt (Nat.add_le_add c1 c2) (by decide))]
  have b : ∀ {a b c d : Nat}, a ≤ 8 → b ≤ 8 → c ≤ 8 → d ≤ 8 → a + b + (c + d) < 256 := fun h1 h2 h3 h4 => Nat.lt_of_le_of_lt (Nat.add_le_add (Nat.add_le_add h1 h2) (Nat.add_le_add h3 h4)) (by decide)
  have e6 : p6 (p5 (p4 Y0)) = Y0 + Y1 + (Y2 + Y3) + (Y4 + Y5 + (Y6 + Y7)) := by
    rw [e5]; unfold p6
    rw [sd_4 (sd_2 w0 w1 (b c0 c1 c2 c3) (b c1 c2 c3 c4)) (sd_2 w2 w3 (b c2 c3 c4 c5) (b c3 c4 c5 c6))]
  refine ⟨?_, e4, e5, e6⟩
  rw [e6]
  refine sd_m (sd_lin w0 w4) ?_
  have := b c0 c1 c2 c3
  clear z0 z1 z2 z3 z4 z5 z6 w0 w1 w2 w3 w4 e4 e5 e6 h0 h1 h2 h3 h4 h5 h6 h7
  omega
theorem dg_pc (x : Nat) : (p6 (p5 (p4 (dg (fun d => pcN d 8) 8 x)))) % 128 = pcN x 64 ∧ p4 (dg (fun d => pcN d 8) 8 x) < 2 ^ 64 ∧ p5 (p4 (dg (fun d => pcN d 8) 8 x)) < 2 ^ 64 ∧ p6 (p5 (p4 (dg (fun d => pcN d 8) 8 x))) < 2 ^ 64 ∧ dg (fun d => pcN d 8) 8 x < 2 ^ 60 := by
  have c := fun y => pcN_le y 8
  have st : ∀ k y, dg (fun d => pcN d 8) (k + 1) y = pcN (y % 256) 8 + 256 * dg (fun d => pcN d 8) k (y / 256) := fun k y => Nat.add_comm _ _
  have f := fold8 (st 0 _) (st 1 _) (st 2 _) (st 3 _) (st 4 _) (st 5 _) (st 6 _) (st 7 x) (c _) (c _) (c _) (c _) (c _) (c _) (c _) (c _)
  have e2 : pcN x 64 = pcN (x % 256) 8 + (pcN (x / 256 % 256) 8 + (pcN (x / 256 / 256 % 256) 8 + (pcN (x / 256 / 256 / 256 % 256) 8 + (pcN (x / 256 / 256 / 256 / 256 % 256) 8 + (pcN (x / 256 / 256 / 256 / 256 / 256 % 256) 8 + (pcN (x / 256 / 256 / 256 / 256 / 256 / 256 % 256) 8 + pcN (x / 256 / 256 / 256 / 256 / 256 / 256 / 256 % 256) 8)))))) := by
    rw [show (64 : Nat) = 8 + 56 from rfl, pcN_split, show (56 : Nat) = 8 + 48 from rfl, pcN_split, show (48 : Nat) = 8 + 40 from rfl, pcN_split, show (40 : Nat) = 8 + 32 from rfl, pcN_split, show (32 : Nat) = 8 + 24 from rfl, pcN_split, show (24 : Nat) = 8 + 16 from rfl, pcN_split, show (16 : Nat) = 8 + 8 from rfl, pcN_split, pcN_8 (x / 256 / 256 / 256 / 256 / 256 / 256 / 256)]
  have bd : ∀ k y, dg (fun d => pcN d 8) k y < 9 * 256 ^ (k - 1) + (if k = 0 then 1 else 0) := by
    intro k
    induction k with
    | zero => intro y; show 0 < 9 * 256 ^ 0 + 1; decide
    | succ k ih =>
      intro y
      have h1 := ih (y / 256)
      have h2 := c (y % 256)
      rw [st, if_neg (Nat.succ_ne_zero k)]
      cases k with
      | zero => show _ + 256 * 0 < 9 * 256 ^ 0 + 0; rw [Nat.pow_zero]; omega
      | succ k =>
        rw [if_neg (Nat.succ_ne_zero k)] at h1
        show _ < 9 * 256 ^ (k + 1) + 0
        have h1 : dg (fun d => pcN d 8) (k + 1) (y / 256) < 9 * 256 ^ k + 0 := h1
        rw [Nat.pow_succ]
        omega
  have q8 := bd 8 x
  have q9 := bd (7 + 1) x
  have q7 := bd (6 + 1) (x / 256)
  have q6 := bd (5 + 1) (x / 256 / 256)
  have q5 := bd (4 + 1) (x / 256 / 256 / 256)
  have q4 := bd (3 + 1) (x / 256 / 256 / 256 / 256)
  have q3 := bd (2 + 1) (x / 256 / 256 / 256 / 256 / 256)
  have q2 := bd (1 + 1) (x / 256 / 256 / 256 / 256 / 256 / 256)
  have q1 := bd (0 + 1) (x / 256 / 256 / 256 / 256 / 256 / 256 / 256)
  rw [if_neg (by decide)] at q8 q9 q7 q6 q5 q4 q3 q2 q1
  refine ⟨by rw [f.1, e2]; omega, ?_, ?_, ?_, by omega⟩
  · rw [f.2.1]; omega
  · rw [f.2.2.1]; omega
  · rw [f.2.2.2]; omega
