/-! the kinds of the reference: numbered as they come, by the own kind and those of the three targets -/
def kvM (kd nx : Nat → Nat) (i : Nat) : Nat := ((kd i * 1000 + kd (nx (i * 3 + 0))) * 1000 + kd (nx (i * 3 + 1))) * 1000 + kd (nx (i * 3 + 2))
def krM (k : Nat) (nx kd : Nat → Nat) (i : Nat) : Nat := (foL (kvM kd nx) k).idxOf (kvM kd nx i)
def ksM (k : Nat) (nx : Nat → Nat) (ac : Nat → Bool) : Nat → Nat → Nat
  | 0 => kd0 ac
  | r + 1 => krM k nx (ksM k nx ac r)
def ccM (k : Nat) (nx : Nat → Nat) (ac : Nat → Bool) (r : Nat) : Nat := (foL (kvM (ksM k nx ac r) nx) k).length
def alq (kd nx : Nat → Nat) (a b : Nat) : Nat → Bool
  | 0 => decide (kd a = kd b)
  | q + 1 => alq kd nx a b q && decide (kd (nx (a * 3 + q)) = kd (nx (b * 3 + q)))
theorem kvM_inj {kd nx : Nat → Nat} {k a b : Nat} (ha : a < k) (hb : b < k) (hn : ∀ p, p < 3 * k → nx p < k) (hk : ∀ j, j < k → kd j < 1000) : kvM kd nx a = kvM kd nx b ↔ kd a = kd b ∧ ∀ q, q < 3 → kd (nx (a * 3 + q)) = kd (nx (b * 3 + q)) := by
  have h1 := hk _ (hn (a * 3 + 0) (by omega))
  have h2 := hk _ (hn (a * 3 + 1) (by omega))
  have h3 := hk _ (hn (a * 3 + 2) (by omega))
  have h4 := hk _ (hn (b * 3 + 0) (by omega))
  have h5 := hk _ (hn (b * 3 + 1) (by omega))
  have h6 := hk _ (hn (b * 3 + 2) (by omega))
  unfold kvM
  constructor
  · intro e
    refine ⟨by omega, fun q hq => ?_⟩
    have : q = 0 ∨ q = 1 ∨ q = 2 := by omega
    rcases this with rfl | rfl | rfl <;> omega
  · rintro ⟨e, h⟩
    rw [e, h 0 (by omega), h 1 (by omega), h 2 (by omega)]
theorem alq_iff {kd nx : Nat → Nat} {a b : Nat} : ∀ q, alq kd nx a b q = true ↔ kd a = kd b ∧ ∀ q', q' < q → kd (nx (a * 3 + q')) = kd (nx (b * 3 + q'))
  | 0 => by simp [alq]
  | q + 1 => by
    rw [alq, Bool.and_eq_true, alq_iff q, decide_eq_true_eq]
    constructor
    · rintro ⟨⟨h1, h2⟩, h3⟩
      refine ⟨h1, fun q' h' => ?_⟩
      by_cases e : q' = q
      · rw [e]; exact h3
      · exact h2 q' (by omega)
    · rintro ⟨h1, h2⟩
      exact ⟨⟨h1, fun q' h' => h2 q' (by omega)⟩, h2 q (by omega)⟩
theorem alq_kv {kd nx : Nat → Nat} {k a b : Nat} (ha : a < k) (hb : b < k) (hn : ∀ p, p < 3 * k → nx p < k) (hk : ∀ j, j < k → kd j < 1000) : alq kd nx a b 3 = decide (kvM kd nx a = kvM kd nx b) := by
  rw [Bool.eq_iff_iff, alq_iff, decide_eq_true_eq, kvM_inj ha hb hn hk]
theorem foL_ref {v w : Nat → Nat} : ∀ k, (∀ i j, i < k → j < k → w i = w j → v i = v j) → (foL v k).length ≤ (foL w k).length
  | 0, _ => Nat.le_refl _
  | k + 1, h => by
    have ih := foL_ref k (fun i j hi hj => h i j (by omega) (by omega))
    show (addc (foL v k) (v k)).length ≤ (addc (foL w k) (w k)).length
    by_cases e : v k ∈ foL v k
    · rw [addc_in e]; exact Nat.le_trans ih (addc_len _ _)
    · have e2 : w k ∉ foL w k := fun z => by
        obtain ⟨i, hi, hz⟩ := foL_of z
        rw [h k i (by omega) (by omega) hz] at e
        exact e (foL_mem hi)
      rw [addc_out e, addc_out e2]
      simp
      exact ih
theorem krM_lt {k : Nat} {nx kd : Nat → Nat} {j : Nat} (h : j < k) : krM k nx kd j < k := Nat.lt_of_lt_of_le (idx_lt (foL_mem h)) (foL_len _ k)
theorem ksM_lt {k : Nat} {nx : Nat → Nat} {ac : Nat → Bool} (hk : k ≤ 740) : ∀ r j, j < k → ksM k nx ac r j < 1000
  | 0, j, _ => by
    show kd0 ac j < 1000
    unfold kd0
    by_cases e : ac j = ac 0
    · rw [if_pos e]; decide
    · rw [if_neg e]; decide
  | r + 1, j, h => by
    have : krM k nx (ksM k nx ac r) j < k := krM_lt h
    show krM k nx (ksM k nx ac r) j < 1000
    omega
theorem krM_inj {k : Nat} {nx kd : Nat → Nat} {i j : Nat} (hi : i < k) (hj : j < k) (h : krM k nx kd i = krM k nx kd j) : kvM kd nx i = kvM kd nx j := by
  have h1 := getD_idx (foL_mem (v := kvM kd nx) hi)
  have h2 := getD_idx (foL_mem (v := kvM kd nx) hj)
  unfold krM at h
  rw [← h1, ← h2, h]
theorem ccM_mono {k : Nat} {nx : Nat → Nat} {ac : Nat → Bool} (hk : k ≤ 740) (hn : ∀ p, p < 3 * k → nx p < k) (r : Nat) : ccM k nx ac r ≤ ccM k nx ac (r + 1) :=
  foL_ref k (fun _ _ hi hj e => krM_inj hi hj ((kvM_inj hi hj hn (ksM_lt hk (r + 1))).mp e).1)
theorem ccM_le {k : Nat} {nx : Nat → Nat} {ac : Nat → Bool} (r : Nat) : ccM k nx ac r ≤ k := foL_len _ k
/-- the picture of the kinds -/
def Gk (S : pv_M) (k : Nat) (nx kd : Nat → Nat) : Prop := GS S ∧ (∀ p, p < 3 * k → mI S 89 p = nI (nx p)) ∧ (∀ p, p < 3 * k → nx p < k) ∧ (∀ j, j < k → mI S 93 j = nI (kd j)) ∧ (∀ j, j < k → kd j < 1000) ∧ k ≤ 740 ∧ mI S 75 17 = nI k
theorem Gk.keep {S T : pv_M} {k : Nat} {nx kd : Nat → Nat} (h : Gk S k nx kd) (h0 : GS T) (h1 : mI T 89 = mI S 89) (h2 : mI T 93 = mI S 93) (h3 : mI T 75 17 = mI S 75 17) : Gk T k nx kd := ⟨h0, fun p hp => by rw [h1]; exact h.2.1 p hp, h.2.2.1, fun j hj => by rw [h2]; exact h.2.2.2.1 j hj, h.2.2.2.2.1, h.2.2.2.2.2.1, by rw [h3]; exact h.2.2.2.2.2.2⟩
theorem Gk.nx {S : pv_M} {k a q p : Nat} {nx kd : Nat → Nat} (h : Gk S k nx kd) (ha : a < k) (hq : q < 3) (e : p = 3 * a + q) : mI S 89 p = nI (nx (a * 3 + q)) := by
  subst e
  rw [Nat.mul_comm 3 a]
  exact h.2.1 _ (by omega)
theorem Gk.kx {S : pv_M} {k a q : Nat} {nx kd : Nat → Nat} (h : Gk S k nx kd) (ha : a < k) (hq : q < 3) : mI S 93 (nx (a * 3 + q)) = nI (kd (nx (a * 3 + q))) := h.2.2.2.1 _ (h.2.2.1 _ (by omega))
