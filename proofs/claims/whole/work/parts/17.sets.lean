/-! sets of states as numbers below 64 -/
def rst (X : Nat) : Nat := X &&& (X - 1)
def lowb (X : Nat) : Nat := X - rst X
theorem rst_facts : ∀ X, X < 64 → 0 < X → rst X < X ∧ (rst X = 0 → ∃ s, s < 6 ∧ X = 2 ^ s) ∧ (rst X ≠ 0 → lowb X < X) ∧ (∀ s, s < 6 → X.testBit s = ((rst X).testBit s || (lowb X).testBit s)) ∧ nI X &&& (-(nI X)) = nI (lowb X) := by decide +kernel
/-- the union of the sets g s, s in X -/
def un' (g : Nat → Nat) (X : Nat) : Nat → Nat
  | 0 => 0
  | k + 1 => un' g X k ||| (if X.testBit k then g k else 0)
def un (g : Nat → Nat) (X : Nat) : Nat := un' g X 6
theorem or_4 (a b c : Nat) : (a ||| b) ||| c = (a ||| c) ||| (b ||| c) := by
  apply Nat.eq_of_testBit_eq
  intro i
  simp only [Nat.testBit_or]
  cases a.testBit i <;> cases b.testBit i <;> cases c.testBit i <;> rfl
theorem or_5 (a b c : Nat) : (a ||| b) ||| c = (a ||| c) ||| b := by
  apply Nat.eq_of_testBit_eq
  intro i
  simp only [Nat.testBit_or]
  cases a.testBit i <;> cases b.testBit i <;> cases c.testBit i <;> rfl
theorem or_6 (a b c : Nat) : (a ||| b) ||| c = a ||| (b ||| c) := Nat.or_assoc a b c
theorem un'_split {g : Nat → Nat} {X Y Z : Nat} : ∀ k, (∀ s, s < k → X.testBit s = (Y.testBit s || Z.testBit s)) → un' g X k = un' g Y k ||| un' g Z k
  | 0, _ => by simp [un']
  | k + 1, h => by
    unfold un'
    rw [un'_split k (fun s hs => h s (by omega)), h k (by omega)]
    cases Y.testBit k <;> cases Z.testBit k
    · simp
    · simp only [Bool.false_or, if_true, Bool.false_eq_true, if_false, Nat.or_zero]; exact or_6 _ _ _
    · simp only [Bool.true_or, if_true, Bool.false_eq_true, if_false, Nat.or_zero]; exact or_5 _ _ _
    · simp only [Bool.true_or, if_true]; exact or_4 _ _ _
theorem un_split {g : Nat → Nat} {X Y Z : Nat} (h : ∀ s, s < 6 → X.testBit s = (Y.testBit s || Z.testBit s)) : un g X = un g Y ||| un g Z := un'_split 6 h
theorem un'_bit (g : Nat → Nat) (X i : Nat) : ∀ k, (un' g X k).testBit i = true ↔ ∃ s, s < k ∧ X.testBit s = true ∧ (g s).testBit i = true
  | 0 => by simp [un']
  | k + 1 => by
    unfold un'
    rw [Nat.testBit_or, Bool.or_eq_true, un'_bit g X i k]
    constructor
    · rintro (⟨s, h1, h2, h3⟩ | h)
      · exact ⟨s, by omega, h2, h3⟩
      · by_cases e : X.testBit k = true
        · rw [if_pos e] at h; exact ⟨k, by omega, e, h⟩
        · rw [if_neg e] at h; simp at h
    · rintro ⟨s, h1, h2, h3⟩
      by_cases e : s = k
      · subst e; right; rw [if_pos h2]; exact h3
      · exact Or.inl ⟨s, by omega, h2, h3⟩
theorem un_bit (g : Nat → Nat) (X i : Nat) : (un g X).testBit i = true ↔ ∃ s, s < 6 ∧ X.testBit s = true ∧ (g s).testBit i = true := un'_bit g X i 6
theorem un'_0 (g : Nat → Nat) : ∀ k, un' g 0 k = 0
  | 0 => rfl
  | k + 1 => by unfold un'; rw [un'_0 g k]; simp
theorem un_0 (g : Nat → Nat) : un g 0 = 0 := un'_0 g 6
theorem un'_1 (g : Nat → Nat) (s : Nat) : ∀ k, un' g (2 ^ s) k = if s < k then g s else 0
  | 0 => rfl
  | k + 1 => by
    unfold un'
    rw [un'_1 g s k, Nat.testBit_two_pow]
    by_cases e : s = k
    · subst e; simp
    · by_cases e2 : s < k
      · simp [e, e2, show s < k + 1 by omega]
      · simp [e, e2, show ¬ s < k + 1 by omega]
theorem un_1 (g : Nat → Nat) (s : Nat) (h : s < 6) : un g (2 ^ s) = g s := by unfold un; rw [un'_1, if_pos h]
theorem or64 {a b : Nat} (ha : a < 64) (hb : b < 64) : a ||| b < 64 := Nat.or_lt_two_pow (n := 6) ha hb
theorem un'_lt {g : Nat → Nat} (h : ∀ s, s < 6 → g s < 64) (X : Nat) : ∀ k, k ≤ 6 → un' g X k < 64
  | 0, _ => (by decide : 0 < 64)
  | k + 1, hk => by
    unfold un'
    refine or64 (un'_lt h X k (by omega)) ?_
    by_cases e : X.testBit k = true
    · rw [if_pos e]; exact h k (by omega)
    · rw [if_neg e]; decide
theorem un_lt {g : Nat → Nat} (h : ∀ s, s < 6 → g s < 64) (X : Nat) : un g X < 64 := un'_lt h X 6 (Nat.le_refl _)
theorem pow64 : ∀ s, s < 6 → 2 ^ s < 64 := by decide
theorem pow_le6 : ∀ n, n ≤ 6 → 1 * 2 ^ n < 2 ^ 32 ∧ 2 ^ n ≤ 64 := by decide
theorem pow_lt6 : ∀ n, n ≤ 6 → ∀ s, s < 6 → 2 ^ s < 2 ^ n → s < n := by decide
theorem pow_mono6 : ∀ n, n ≤ 6 → ∀ s, s < n → 2 ^ s < 2 ^ n := by decide
theorem pow_inj6 : ∀ s, s < 6 → ∀ q, q < 6 → 2 ^ s = 2 ^ q → s = q := by decide
/-- states below k that a letter leads to q -/
def bk (T : Nat → Nat) (l : Nat) : Nat → Nat → Nat
  | 0, _ => 0
  | k + 1, q => bk T l k q ||| (if T (k * 3 + l) = q then 2 ^ k else 0)
theorem bk_lt {T : Nat → Nat} {l : Nat} : ∀ (k q : Nat), k ≤ 6 → bk T l k q < 64
  | 0, _, _ => (by decide : 0 < 64)
  | k + 1, q, h => by
    have h1 := bk_lt (T := T) (l := l) k q (by omega)
    refine or64 h1 ?_
    by_cases e : T (k * 3 + l) = q
    · rw [if_pos e]; exact pow64 k (by omega)
    · rw [if_neg e]; decide
theorem bk_bit {T : Nat → Nat} {l : Nat} : ∀ (k q i : Nat), (bk T l k q).testBit i = (decide (i < k) && decide (T (i * 3 + l) = q))
  | 0, _, i => by simp [bk]
  | k + 1, q, i => by
    unfold bk
    rw [Nat.testBit_or, bk_bit k q i]
    by_cases e : i = k
    · subst e
      by_cases e2 : T (i * 3 + l) = q
      · simp [e2, Nat.testBit_two_pow]
      · simp [e2]
    · have h1 : (if T (k * 3 + l) = q then 2 ^ k else 0).testBit i = false := by
        by_cases e2 : T (k * 3 + l) = q
        · have e9 : ¬ k = i := fun z => e z.symm
          rw [if_pos e2, Nat.testBit_two_pow]; simp [e9]
        · rw [if_neg e2]; simp
      rw [h1]
      by_cases e3 : i < k
      · simp [e3, show i < k + 1 by omega]
      · simp [e3, show ¬ i < k + 1 by omega]
/-- a map of sets: its object p, its values v -/
def SMAt (S : pv_M) (p v : Nat) : Prop := pv_sh p = .inl 7 ∧ p < 106 ∧ pv_sh v = .inr (0, 192) ∧ v < 106 ∧ mR S p 0 = some v
theorem SMAt.keep {P : Nat → Prop} {S S' : pv_M} {p v : Nat} (h : SMAt S p v) (k : FN P S S') : SMAt S' p v := ⟨h.1, h.2.1, h.2.2.1, h.2.2.2.1, by rw [k.1]; exact h.2.2.2.2⟩
theorem SMAt.keepI {S : pv_M} {p v i : Nat} {f : Nat → Int32} (h : SMAt S p v) : SMAt (wI S i f) p v := h
