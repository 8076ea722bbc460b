/-! the table of keys: cells 26 (count, keys, slots, mask), 27, 28 -/
def hsh (k : Int64) : Int32 := ((k * (-7046029254386353131)).toUInt64 >>> ((nI 40).toInt64.toUInt64 &&& Int64.toUInt64 63)).toInt64.toInt32
abbrev hs (k : Int64) : Nat := xN_ (hsh k)
theorem and_mask (v : Int32) {e : Nat} (h : e ≤ 31) : v &&& nI (2 ^ e - 1) = nI (xN_ v % 2 ^ e) := by
  refine pk_and v e ?_
  refine pk_tn ?_
  have : 2 ^ e ≤ 2 ^ 31 := Nat.pow_le_pow_right (by decide) h
  omega
abbrev k3 : Nat → Prop := fun r => r = 26 ∨ r = 27 ∨ r = 28
/-- the slots E hold c keys K: each is found from its own hash -/
def KE (c m : Nat) (K : Nat → Int64) (E : Nat → Nat) : Prop := (∀ j, j < m → E j ≤ c) ∧ (∀ i j, i < m → j < m → E i = E j → E i ≠ 0 → i = j) ∧ ∀ i, i < c → ∃ d, d < m ∧ E ((hs (K i) + d) % m) = i + 1 ∧ ∀ d', d' < d → E ((hs (K i) + d') % m) ≠ 0
def KT (S : pv_M) (c e : Nat) (K : Nat → Int64) : Prop := (mR S 26 1 = some 27 ∧ mR S 26 2 = some 28) ∧ mI S 26 0 = nI c ∧ mI S 26 3 = nI (2 ^ e - 1) ∧ (4 ≤ e ∧ e ≤ 10) ∧ (∀ i, i < c → mJ S 27 i = K i) ∧ (∀ i j, i < c → j < c → K i = K j → i = j) ∧ ∃ E : Nat → Nat, (∀ j, j < 2 ^ e → mI S 28 j = nI (E j)) ∧ KE c (2 ^ e) K E
theorem pow_e : ∀ e, 4 ≤ e ∧ e ≤ 10 → 16 ≤ 2 ^ e ∧ 2 ^ e ≤ 1024 := by
  intro e h
  have : e = 4 ∨ e = 5 ∨ e = 6 ∨ e = 7 ∨ e = 8 ∨ e = 9 ∨ e = 10 := by omega
  rcases this with rfl | rfl | rfl | rfl | rfl | rfl | rfl <;> decide
/-- m places in a row from any one are all the places -/
theorem KE.free {c m h : Nat} {K : Nat → Int64} {E : Nat → Nat} (q : KE c m K E) (hc : c < m) : ¬ ∀ d, d < m → E ((h + d) % m) ≠ 0 := by
  intro hall
  have hm : 0 < m := by omega
  have := fb_holes c m (fun d => E ((h + d) % m) - 1) (fun d hd => by
    have h1 := hall d hd
    have h2 := q.1 ((h + d) % m) (Nat.mod_lt _ hm)
    show E ((h + d) % m) - 1 < c
    omega) (fun i j hij hj he => by
    have h1 := hall i (by omega)
    have h2 := hall j hj
    have he : E ((h + i) % m) - 1 = E ((h + j) % m) - 1 := he
    have h3 := q.2.1 _ _ (Nat.mod_lt _ hm) (Nat.mod_lt _ hm) (by omega : E ((h + i) % m) = E ((h + j) % m)) h1
    have h4 : (h + j) % m = (h + i) % m := h3.symm
    have h5 : (h + i + (j - i)) % m = (h + i) % m := by rw [show h + i + (j - i) = h + j by omega]; exact h4
    have h6 : (j - i) % m = 0 := by
      have h7 := Nat.sub_mod_eq_zero_of_mod_eq h5
      rwa [show h + i + (j - i) - (h + i) = j - i by omega] at h7
    rw [Nat.mod_eq_of_lt (by omega)] at h6
    omega)
  omega
/-- where a free place is met first, the key isn't there -/
theorem KE.none {c m : Nat} {K : Nat → Int64} {E : Nat → Nat} {k : Int64} {d : Nat} (q : KE c m K E) (hd : ∀ d', d' < d → E ((hs k + d') % m) ≠ 0 ∧ K (E ((hs k + d') % m) - 1) ≠ k) (h0 : E ((hs k + d) % m) = 0) : ∀ i, i < c → K i ≠ k := by
  intro i hi e
  obtain ⟨d2, h1, h2, h3⟩ := q.2.2 i hi
  rw [e] at h2 h3
  rcases Nat.lt_trichotomy d d2 with h | h | h
  · exact h3 d h h0
  · subst h; omega
  · have := (hd d2 h).2
    rw [h2, show i + 1 - 1 = i by omega] at this
    exact this e
theorem KE.add {c m : Nat} {K : Nat → Int64} {E : Nat → Nat} {k : Int64} {d : Nat} (q : KE c m K E) (hdm : d < m) (hd : ∀ d', d' < d → E ((hs k + d') % m) ≠ 0) (h0 : E ((hs k + d) % m) = 0) : KE (c + 1) m (va_up K c k) (va_up E ((hs k + d) % m) (c + 1)) := by
  refine ⟨fun j hj => ?_, fun i j hi hj he hz => ?_, fun i hi => ?_⟩
  · by_cases e : j = (hs k + d) % m
    · rw [e, up_same]; omega
    · rw [va_up_ne _ _ e]; have := q.1 j hj; omega
  · by_cases e1 : i = (hs k + d) % m <;> by_cases e2 : j = (hs k + d) % m
    · rw [e1, e2]
    · rw [e1, up_same, va_up_ne _ _ e2] at he
      have := q.1 j hj
      omega
    · rw [e2, up_same, va_up_ne _ _ e1] at he
      have := q.1 i hi
      omega
    · rw [va_up_ne _ _ e1, va_up_ne _ _ e2] at he
      rw [va_up_ne _ _ e1] at hz
      exact q.2.1 i j hi hj he hz
  · have keep : ∀ j, E j ≠ 0 → va_up E ((hs k + d) % m) (c + 1) j ≠ 0 := by
      intro j hj
      by_cases e : j = (hs k + d) % m
      · rw [e, up_same]; omega
      · rw [va_up_ne _ _ e]; exact hj
    by_cases e : i = c
    · subst e
      rw [up_same]
      refine ⟨d, hdm, by rw [up_same], fun d' h' => keep _ (hd d' h')⟩
    · rw [va_up_ne _ _ e]
      obtain ⟨d2, h1, h2, h3⟩ := q.2.2 i (by omega)
      refine ⟨d2, h1, ?_, fun d' h' => keep _ (h3 d' h')⟩
      rw [va_up_ne _ _ (fun z => by rw [z, h0] at h2; omega)]
      exact h2
