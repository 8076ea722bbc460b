/-! THE REFINEMENT IS STABLE: both sides end with the same kinds -/
theorem foL_same {v w : Nat → Nat} : ∀ k, (∀ i j, i < k → j < k → (v i = v j ↔ w i = w j)) → (foL v k).length = (foL w k).length ∧ ∀ i, i < k → (foL v k).idxOf (v i) = (foL w k).idxOf (w i)
  | 0, _ => ⟨rfl, fun i hi => absurd hi (Nat.not_lt_zero i)⟩
  | k + 1, h => by
    obtain ⟨h1, h2⟩ := foL_same k (fun i j hi hj => h i j (by omega) (by omega))
    show (addc (foL v k) (v k)).length = (addc (foL w k) (w k)).length ∧ ∀ i, i < k + 1 → (addc (foL v k) (v k)).idxOf (v i) = (addc (foL w k) (w k)).idxOf (w i)
    by_cases e : v k ∈ foL v k
    · obtain ⟨i0, hi0, hv0⟩ := foL_of e
      have hw0 := (h k i0 (by omega) (by omega)).mp hv0
      have e2 : w k ∈ foL w k := by rw [hw0]; exact foL_mem hi0
      rw [addc_in e, addc_in e2]
      refine ⟨h1, fun i hi => ?_⟩
      by_cases z : i = k
      · rw [z, hv0, hw0]; exact h2 i0 hi0
      · exact h2 i (by omega)
    · have e2 : w k ∉ foL w k := fun z => by
        obtain ⟨i0, hi0, hw0⟩ := foL_of z
        exact e (by rw [(h k i0 (by omega) (by omega)).mpr hw0]; exact foL_mem hi0)
      refine ⟨by rw [addc_out e, addc_out e2]; simp [h1], fun i hi => ?_⟩
      by_cases z : i = k
      · rw [z, addc_idx_new e, addc_idx_new e2, h1]
      · rw [addc_idx (foL_mem (show i < k by omega)), addc_idx (foL_mem (show i < k by omega))]; exact h2 i (by omega)
theorem foL_tight {v w : Nat → Nat} : ∀ k, (∀ i j, i < k → j < k → w i = w j → v i = v j) → (foL w k).length ≤ (foL v k).length → ∀ i j, i < k → j < k → v i = v j → w i = w j
  | 0, _, _, i, _, hi, _, _ => absurd hi (Nat.not_lt_zero i)
  | k + 1, h, hl, i, j, hi, hj, e => by
    have h' : ∀ i j, i < k → j < k → w i = w j → v i = v j := fun i j hi hj => h i j (by omega) (by omega)
    have hr := foL_ref k h'
    have hl : (addc (foL w k) (w k)).length ≤ (addc (foL v k) (v k)).length := hl
    have key : (v k ∈ foL v k → w k ∈ foL w k) ∧ (foL w k).length ≤ (foL v k).length := by
      by_cases e1 : w k ∈ foL w k
      · obtain ⟨i0, hi0, hw0⟩ := foL_of e1
        have e2 : v k ∈ foL v k := by rw [h k i0 (by omega) (by omega) hw0]; exact foL_mem hi0
        rw [addc_in e1, addc_in e2] at hl
        exact ⟨fun _ => e1, hl⟩
      · rw [addc_out e1] at hl
        by_cases e2 : v k ∈ foL v k
        · rw [addc_in e2] at hl
          simp at hl
          omega
        · rw [addc_out e2] at hl
          simp at hl
          exact ⟨fun z => absurd z e2, hl⟩
    have ih := foL_tight k h' key.2
    have last : ∀ i, i < k → v i = v k → w i = w k := fun i hi e => by
      obtain ⟨i0, hi0, hw0⟩ := foL_of (key.1 (by rw [← e]; exact foL_mem hi))
      have hv0 := h k i0 (by omega) (by omega) hw0
      rw [hw0]
      exact ih i i0 hi hi0 (e.trans hv0)
    by_cases z1 : i = k <;> by_cases z2 : j = k
    · rw [z1, z2]
    · rw [z1] at e ⊢; exact (last j (by omega) e.symm).symm
    · rw [z2] at e ⊢; exact last i (by omega) e
    · exact ih i j (by omega) (by omega) e
theorem kvM_cong {kd kd' nx : Nat → Nat} {k i : Nat} (hi : i < k) (hn : ∀ p, p < 3 * k → nx p < k) (h : ∀ j, j < k → kd j = kd' j) : kvM kd nx i = kvM kd' nx i := by
  unfold kvM
  rw [h i hi, h _ (hn (i * 3 + 0) (by omega)), h _ (hn (i * 3 + 1) (by omega)), h _ (hn (i * 3 + 2) (by omega))]
theorem foL_cong {v w : Nat → Nat} : ∀ k, (∀ i, i < k → v i = w i) → foL v k = foL w k
  | 0, _ => rfl
  | k + 1, h => by show addc (foL v k) (v k) = addc (foL w k) (w k); rw [foL_cong k (fun i hi => h i (by omega)), h k (by omega)]
theorem krM_cong {kd kd' nx : Nat → Nat} {k i : Nat} (hi : i < k) (hn : ∀ p, p < 3 * k → nx p < k) (h : ∀ j, j < k → kd j = kd' j) : krM k nx kd i = krM k nx kd' i := by
  unfold krM
  rw [foL_cong k (fun j hj => kvM_cong hj hn h), kvM_cong hi hn h]
section RFN
variable {k : Nat} {nx : Nat → Nat} {ac : Nat → Bool}
/-- numbered as they come -/
theorem krM_fo {kd : Nat → Nat} : ∀ i, i < k → krM k nx kd i = (foL (krM k nx kd) k).idxOf (krM k nx kd i) := fun i hi =>
  (foL_same k (fun a b ha hb => ⟨fun e => by unfold krM; rw [e], fun e => krM_inj ha hb e⟩)).2 i hi
theorem kd0_fo : ∀ i, i < k → kd0 ac i = (foL (kd0 ac) k).idxOf (kd0 ac i) := by
  have h0 : ∀ k i, i < k → kd0 ac i = (foL (kd0 ac) k).idxOf (kd0 ac i) := by
    intro k
    induction k with
    | zero => intro i hi; exact absurd hi (Nat.not_lt_zero i)
    | succ k ih =>
      intro i hi
      by_cases e : i < k
      · rw [show foL (kd0 ac) (k + 1) = addc (foL (kd0 ac) k) (kd0 ac k) from rfl, addc_idx (foL_mem e)]; exact ih i e
      · have e : i = k := by omega
        subst e
        show _ = (addc (foL (kd0 ac) i) (kd0 ac i)).idxOf (kd0 ac i)
        by_cases z : kd0 ac i ∈ foL (kd0 ac) i
        · obtain ⟨j, hj, hz⟩ := foL_of z
          rw [addc_in z, hz]
          exact ih j hj
        · rw [addc_idx_new z]
          by_cases i0 : i = 0
          · subst i0; show kd0 ac 0 = 0; unfold kd0; rw [if_pos rfl]
          · have z0 : kd0 ac 0 = 0 := by unfold kd0; rw [if_pos rfl]
            have m0 : kd0 ac 0 ∈ foL (kd0 ac) i := foL_mem (by omega)
            have h1 : kd0 ac i = 1 := by
              have : kd0 ac i ≠ 0 := fun q => z (by rw [q, ← z0]; exact m0)
              unfold kd0 at this ⊢
              by_cases q : ac i = ac 0
              · rw [if_pos q] at this; exact absurd rfl this
              · rw [if_neg q]
            have hall : ∀ a, a ∈ foL (kd0 ac) i → a = 0 := fun a ha => by
              obtain ⟨j, hj, q⟩ := foL_of ha
              by_cases q2 : ac j = ac 0
              · rw [q]; unfold kd0; rw [if_pos q2]
              · exfalso; apply z; rw [h1, show (1 : Nat) = kd0 ac j from by unfold kd0; rw [if_neg q2]]; exact foL_mem hj
            have hnd := foL_nodup (kd0 ac) i
            have hle : (foL (kd0 ac) i).length ≤ 1 := nodup_le hnd (fun a ha => by rw [hall a ha]; decide)
            have hge : 0 < (foL (kd0 ac) i).length := Nat.lt_of_le_of_lt (Nat.zero_le _) (idx_lt m0)
            omega
  exact h0 k
theorem ksM_fo : ∀ r i, i < k → ksM k nx ac r i = (foL (ksM k nx ac r) k).idxOf (ksM k nx ac r i)
  | 0, i, h => kd0_fo i h
  | _ + 1, i, h => krM_fo i h
theorem ccM_ks (r : Nat) : ccM k nx ac r = (foL (ksM k nx ac (r + 1)) k).length :=
  (foL_same k (fun a b ha hb => ⟨fun e => by show krM k nx _ a = krM k nx _ b; unfold krM; rw [e], fun e => krM_inj ha hb e⟩)).1
/-- the same kinds in a round and the next: for ever -/
theorem ksM_stay (hn : ∀ p, p < 3 * k → nx p < k) {r : Nat} (h : ∀ j, j < k → ksM k nx ac (r + 1) j = ksM k nx ac r j) : ∀ d j, j < k → ksM k nx ac (r + d) j = ksM k nx ac r j
  | 0, _, _ => rfl
  | d + 1, j, hj => by
    show krM k nx (ksM k nx ac (r + d)) j = _
    rw [krM_cong hj hn (ksM_stay hn h d)]
    exact h j hj
/-- as many kinds in a round as in the next: the same kinds -/
theorem ksM_eq (hk : k ≤ 740) (hn : ∀ p, p < 3 * k → nx p < k) {r : Nat} (h : (foL (ksM k nx ac (r + 1)) k).length ≤ (foL (ksM k nx ac r) k).length) : ∀ j, j < k → ksM k nx ac (r + 1) j = ksM k nx ac r j := by
  have hf : ∀ i j, i < k → j < k → ksM k nx ac (r + 1) i = ksM k nx ac (r + 1) j → ksM k nx ac r i = ksM k nx ac r j := fun i j hi hj e => ((kvM_inj hi hj hn (ksM_lt hk r)).mp (krM_inj hi hj e)).1
  have ht := foL_tight k hf h
  intro j hj
  rw [ksM_fo (r + 1) j hj, ksM_fo r j hj]
  exact (foL_same k (fun a b ha hb => ⟨hf a b ha hb, ht a b ha hb⟩)).2 j hj
theorem fo_len_mono (hk : k ≤ 740) (hn : ∀ p, p < 3 * k → nx p < k) (r : Nat) : (foL (ksM k nx ac r) k).length ≤ (foL (ksM k nx ac (r + 1)) k).length :=
  foL_ref k (fun i j hi hj e => ((kvM_inj hi hj hn (ksM_lt hk r)).mp (krM_inj hi hj e)).1)
/-- the last kinds, and how many -/
def kdF (k : Nat) (nx : Nat → Nat) (ac : Nat → Bool) : Nat → Nat := ksM k nx ac (k + 2)
def cF (k : Nat) (nx : Nat → Nat) (ac : Nat → Bool) : Nat := (foL (kdF k nx ac) k).length
theorem stable_at (hk0 : 0 < k) (hk : k ≤ 740) (hn : ∀ p, p < 3 * k → nx p < k) : ∃ r, r < k ∧ ∀ j, j < k → ksM k nx ac (r + 1) j = ksM k nx ac r j := by
  have h1 : ∀ r, 0 < (foL (ksM k nx ac r) k).length := fun r => Nat.lt_of_le_of_lt (Nat.zero_le _) (idx_lt (foL_mem hk0))
  have key : ∀ r, r ≤ k → (∃ q, q < r ∧ ∀ j, j < k → ksM k nx ac (q + 1) j = ksM k nx ac q j) ∨ r < (foL (ksM k nx ac r) k).length := by
    intro r
    induction r with
    | zero => intro _; exact Or.inr (h1 0)
    | succ r ih =>
      intro hr
      rcases ih (by omega) with ⟨q, hq, e⟩ | h
      · exact Or.inl ⟨q, by omega, e⟩
      · by_cases z : (foL (ksM k nx ac (r + 1)) k).length ≤ (foL (ksM k nx ac r) k).length
        · exact Or.inl ⟨r, by omega, ksM_eq hk hn z⟩
        · exact Or.inr (by omega)
  rcases key k (Nat.le_refl _) with h | h
  · exact h
  · have := foL_len (ksM k nx ac k) k
    omega
/-- any two stable rounds have the same kinds -/
theorem stable_F (hk0 : 0 < k) (hk : k ≤ 740) (hn : ∀ p, p < 3 * k → nx p < k) {r : Nat} (h : ∀ j, j < k → ksM k nx ac (r + 1) j = ksM k nx ac r j) : ∀ j, j < k → ksM k nx ac r j = kdF k nx ac j := by
  obtain ⟨q, hq, e⟩ := stable_at (ac := ac) hk0 hk hn
  intro j hj
  unfold kdF
  have a := ksM_stay hn h (k + 2 + q) j hj
  have b := ksM_stay hn e (k + 2 - q) j hj
  have c := ksM_stay hn e (r + (k + 2)) j hj
  rw [show q + (k + 2 - q) = k + 2 by omega] at b
  rw [← a, b, ← c]
  congr 1
  omega
theorem late_F (hk0 : 0 < k) (hk : k ≤ 740) (hn : ∀ p, p < 3 * k → nx p < k) {r : Nat} (h : k ≤ r + 1) : ∀ j, j < k → ksM k nx ac r j = kdF k nx ac j := by
  obtain ⟨q, hq, e⟩ := stable_at (ac := ac) hk0 hk hn
  refine stable_F hk0 hk hn (fun j hj => ?_)
  have a := ksM_stay hn e (r + 1 - q) j hj
  have b := ksM_stay hn e (r - q) j hj
  rw [show q + (r + 1 - q) = r + 1 by omega] at a
  rw [show q + (r - q) = r by omega] at b
  rw [a, b]
theorem cF_of {kd : Nat → Nat} (h : ∀ j, j < k → kd j = kdF k nx ac j) : (foL kd k).length = cF k nx ac := by unfold cF; rw [foL_cong k h]
/-- what the reference ends with -/
theorem ref_end (hk0 : 0 < k) (hk : k ≤ 740) (hn : ∀ p, p < 3 * k → nx p < k) {r : Nat} (e : ccM k nx ac (r + 1) = ccM k nx ac r) : (∀ j, j < k → ksM k nx ac (r + 2) j = kdF k nx ac j) ∧ ccM k nx ac (r + 1) = cF k nx ac := by
  have h := ksM_eq (r := r + 1) hk hn (by rw [← ccM_ks, ← ccM_ks, e]; exact Nat.le_refl _)
  have h2 := stable_F hk0 hk hn h
  have h3 : ∀ j, j < k → ksM k nx ac (r + 2) j = kdF k nx ac j := fun j hj => (h j hj).trans (h2 j hj)
  exact ⟨h3, by rw [ccM_ks]; exact cF_of h3⟩
/-- the class's own rounds are the same -/
theorem kval_inj {kd : Nat → Nat} {a b : Nat} (ha : a < k) (hb : b < k) (hn : ∀ p, p < 3 * k → nx p < k) (hk : ∀ j, j < k → kd j < 384) : kval kd nx a = kval kd nx b ↔ kvM kd nx a = kvM kd nx b := by
  rw [kvM_inj ha hb hn (fun j hj => Nat.lt_trans (hk j hj) (by decide))]
  have h1 := hk _ (hn (a * 3 + 0) (by omega))
  have h2 := hk _ (hn (a * 3 + 1) (by omega))
  have h3 := hk _ (hn (a * 3 + 2) (by omega))
  have h4 := hk _ (hn (b * 3 + 0) (by omega))
  have h5 := hk _ (hn (b * 3 + 1) (by omega))
  have h6 := hk _ (hn (b * 3 + 2) (by omega))
  unfold kval
  constructor
  · intro e
    refine ⟨by omega, fun q hq => ?_⟩
    have : q = 0 ∨ q = 1 ∨ q = 2 := by omega
    rcases this with rfl | rfl | rfl <;> omega
  · rintro ⟨e, h⟩
    rw [e, h 0 (by omega), h 1 (by omega), h 2 (by omega)]
theorem kval_cong {kd kd' : Nat → Nat} {i : Nat} (hi : i < k) (hn : ∀ p, p < 3 * k → nx p < k) (h : ∀ j, j < k → kd j = kd' j) : kval kd nx i = kval kd' nx i := by
  unfold kval
  rw [h i hi, h _ (hn (i * 3 + 0) (by omega)), h _ (hn (i * 3 + 1) (by omega)), h _ (hn (i * 3 + 2) (by omega))]
theorem kds_ks (hk : k ≤ 384) (hn : ∀ p, p < 3 * k → nx p < k) : ∀ r j, j < k → kds k nx ac r j = ksM k nx ac r j
  | 0, _, _ => rfl
  | r + 1, j, hj => by
    have ih := kds_ks hk hn r
    show kref k nx (kds k nx ac r) j = krM k nx (ksM k nx ac r) j
    rw [← krM_cong hj hn ih]
    exact (foL_same k (fun a b ha hb => kval_inj ha hb hn (kds_lt hk r))).2 j hj
theorem cn_len (hk0 : 0 < k) (hk : k ≤ 384) (hn : ∀ p, p < 3 * k → nx p < k) : ∀ r, cn k nx ac r = (foL (ksM k nx ac r) k).length
  | 0 => by
    have h : ∀ k, 0 < k → (if cls (kd0 ac) k = 2 then 2 else 1) = (foL (kd0 ac) k).length := by
      intro k hk
      have hle : (foL (kd0 ac) k).length ≤ 2 := nodup_le (foL_nodup _ _) (fun a ha => by
        obtain ⟨i, _, e⟩ := foL_of ha
        rw [e]; unfold kd0
        by_cases z : ac i = ac 0
        · rw [if_pos z]; decide
        · rw [if_neg z]; decide)
      have hge : 0 < (foL (kd0 ac) k).length := Nat.lt_of_le_of_lt (Nat.zero_le _) (idx_lt (foL_mem hk))
      have hc : ∀ k, 0 < k → cls (kd0 ac) k = (foL (kd0 ac) k).length := by
        intro k hk
        induction k with
        | zero => omega
        | succ k ih =>
          have hx := kd0_fo (ac := ac) (k := k + 1) k (by omega)
          rw [cls_step]
          show _ = (addc (foL (kd0 ac) k) (kd0 ac k)).length
          have hx : kd0 ac k = (addc (foL (kd0 ac) k) (kd0 ac k)).idxOf (kd0 ac k) := hx
          by_cases k0 : k = 0
          · subst k0
            show (if kd0 ac 0 < 0 then 0 else kd0 ac 0 + 1) = ([kd0 ac 0] : List Nat).length
            rw [if_neg (by omega)]
            show kd0 ac 0 + 1 = 1
            unfold kd0
            rw [if_pos rfl]
          · have ih := ih (by omega)
            rw [ih]
            by_cases z : kd0 ac k ∈ foL (kd0 ac) k
            · rw [addc_in z] at hx ⊢
              rw [if_pos (by rw [hx]; exact idx_lt z)]
            · rw [addc_idx_new z] at hx
              rw [addc_out z, if_neg (by omega), hx]
              simp
      rw [hc k hk]
      by_cases z : (foL (kd0 ac) k).length = 2
      · rw [if_pos z]; exact z.symm
      · rw [if_neg z]; omega
    exact h k hk0
  | r + 1 => by
    show (foL (kval (kds k nx ac r) nx) k).length = _
    rw [← ccM_ks]
    have h1 := (foL_same k (fun a b ha hb => kval_inj (nx := nx) ha hb hn (kds_lt (nx := nx) (ac := ac) hk r))).1
    rw [h1]
    unfold ccM
    rw [foL_cong k (fun i hi => kvM_cong hi hn (kds_ks hk hn r))]
/-- what the class ends with -/
theorem own_end (hk0 : 0 < k) (hk : k ≤ 384) (hn : ∀ p, p < 3 * k → nx p < k) {r : Nat} (h : stopAt k nx ac r) : (∀ j, j < k → kds k nx ac r j = kdF k nx ac j) ∧ cn k nx ac r = cF k nx ac := by
  have key : ∀ j, j < k → ksM k nx ac r j = kdF k nx ac j := by
    rcases h with h | ⟨r', e, h⟩ | h
    · exact late_F hk0 (by omega) hn (by omega)
    · subst e
      rw [cn_len hk0 hk hn, cn_len hk0 hk hn] at h
      have e := ksM_eq (r := r') (ac := ac) (show k ≤ 740 by omega) hn (by omega)
      have s := stable_F hk0 (by omega) hn e
      exact fun j hj => (e j hj).trans (s j hj)
    · rw [cn_len hk0 hk hn] at h
      have := foL_len (ksM k nx ac (r + 1)) k
      exact stable_F hk0 (by omega) hn (ksM_eq (ac := ac) (by omega) hn (by omega))
  exact ⟨fun j hj => (kds_ks hk hn r j hj).trans (key j hj), by rw [cn_len hk0 hk hn]; exact cF_of key⟩
/-- the last kinds are numbered as they come -/
theorem kdF_fo : ∀ i, i < k → kdF k nx ac i = (foL (kdF k nx ac) k).idxOf (kdF k nx ac i) := ksM_fo (k + 2)
end RFN
theorem fo_cls {kd : Nat → Nat} {k : Nat} (h : ∀ i, i < k → kd i = (foL kd k).idxOf (kd i)) : ∀ i, i ≤ k → cls kd i = (foL kd i).length ∧ (i < k → kd i ≤ cls kd i)
  | 0, h0 => by
    refine ⟨rfl, fun hi => ?_⟩
    have h1 := h 0 hi
    have h2 := (foL_idx (v := kd) (k := 1) (foL_mem (show 0 < 1 by decide)) (k - 1)).1
    rw [show 1 + (k - 1) = k by omega] at h2
    rw [h1, h2]
    show ([kd 0] : List Nat).idxOf (kd 0) ≤ _
    simp
  | i + 1, hi => by
    obtain ⟨h1, h2⟩ := fo_cls h i (by omega)
    have key : ∀ i, i < k → kd i = (addc (foL kd i) (kd i)).idxOf (kd i) := fun i hi => by
      have h3 := (foL_idx (v := kd) (k := i + 1) (foL_mem (show i < i + 1 by omega)) (k - (i + 1))).1
      rw [show i + 1 + (k - (i + 1)) = k by omega] at h3
      have h4 := h i hi
      rw [h3] at h4
      exact h4
    have hc : cls kd (i + 1) = (foL kd (i + 1)).length := by
      have h3 := key i (by omega)
      rw [cls_step, h1]
      show _ = (addc (foL kd i) (kd i)).length
      by_cases z : kd i ∈ foL kd i
      · rw [addc_in z] at h3 ⊢
        rw [if_pos (by rw [h3]; exact idx_lt z)]
      · rw [addc_idx_new z] at h3
        rw [addc_out z, if_neg (by omega), h3]
        simp
    refine ⟨hc, fun hi2 => ?_⟩
    have h3 := key (i + 1) hi2
    rw [hc]
    by_cases z : kd (i + 1) ∈ foL kd (i + 1)
    · rw [addc_in z] at h3; rw [h3]; exact Nat.le_of_lt (idx_lt z)
    · rw [addc_idx_new z] at h3; omega
