/-! ONE MACHINE UNDER TWO NAMES: what both sides find is the same -/
theorem bf_more {δ : Nat → Nat → Nat} {B k0 : Nat} {Dm : Nat → Prop} (hB : ∀ c, Dm c → c < B) (hD : ∀ c q, Dm c → q < 3 → Dm (δ c q)) (h0 : Dm k0) (h741 : B ≤ 741) : bf δ k0 = bfsF δ B 0 [k0] := by
  have h := bfsF_more (δ := δ) hB hD (741 - B) B 0 [k0] (by simp) (fun a ha => by rw [List.mem_singleton.mp ha]; exact h0) (by omega)
  rw [show B + (741 - B) = 741 by omega] at h
  exact h
theorem bf_len {δ : Nat → Nat → Nat} {B k0 : Nat} {Dm : Nat → Prop} (hB : ∀ c, Dm c → c < B) (hD : ∀ c q, Dm c → q < 3 → Dm (δ c q)) (h0 : Dm k0) : (bfsF δ B 0 [k0]).length ≤ B :=
  nodup_le (bfsF_nodup δ B 0 [k0] (by simp)) (fun c hc => hB c (bfsF_dm hD B 0 [k0] (fun a ha => by rw [List.mem_singleton.mp ha]; exact h0) c hc))
theorem fi_cong {kd kd' : Nat → Nat} {k q : Nat} (h : ∀ j, j < k → kd j = kd' j) : fi kd k q = fi kd' k q := by
  have key : ∀ k, (∀ j, j < k → kd j = kd' j) → fa_first (fun j => decide (kd j = q)) k = fa_first (fun j => decide (kd' j = q)) k := by
    intro k hk
    rcases Nat.lt_trichotomy (fa_first (fun j => decide (kd j = q)) k) (fa_first (fun j => decide (kd' j = q)) k) with z | z | z
    · have l1 := fa_first_le (fun j => decide (kd' j = q)) k
      have a := fa_first_yes (fun j => decide (kd j = q)) k (by omega)
      have b := fa_first_no (fun j => decide (kd' j = q)) k _ z
      simp only [decide_eq_true_eq, decide_eq_false_iff_not] at a b
      rw [hk _ (by omega)] at a
      exact absurd a b
    · exact z
    · have l1 := fa_first_le (fun j => decide (kd j = q)) k
      have a := fa_first_yes (fun j => decide (kd' j = q)) k (by omega)
      have b := fa_first_no (fun j => decide (kd j = q)) k _ z
      simp only [decide_eq_true_eq, decide_eq_false_iff_not] at a b
      rw [← hk _ (by omega)] at a
      exact absurd a b
  exact key k h
/-- the closed list of codes that a machine meets -/
theorem nxt_lt {δ : Nat → Nat → Nat} {R : List Nat} (h : ∀ p, p < 3 * R.length → δ (R.getD (p / 3) 0) (p % 3) ∈ R) : ∀ p, p < 3 * R.length → nxt δ R p < R.length := fun p hp => idx_lt (h p hp)
theorem tie {f : Nat → Nat} {Dm : Nat → Prop} {δ δ' : Nat → Nat → Nat} {acc acc' : Nat → Bool} {k0 B : Nat} (hf : ∀ a b, Dm a → Dm b → f a = f b → a = b) (h0 : Dm k0) (hB : ∀ c, Dm c → c < B) (h741 : B ≤ 741) (hD : ∀ c q, Dm c → q < 3 → Dm (δ c q)) (hd : ∀ c q, Dm c → q < 3 → δ' (f c) q = f (δ c q)) (ha : ∀ c, Dm c → acc' (f c) = acc c) (hcl : ∀ p, p < 3 * (bfsF δ B 0 [k0]).length → δ ((bfsF δ B 0 [k0]).getD (p / 3) 0) (p % 3) ∈ bfsF δ B 0 [k0]) :
    bf δ' (f k0) = (bfsF δ B 0 [k0]).map f ∧ (∀ p, p < 3 * (bfsF δ B 0 [k0]).length → nxt δ' (bf δ' (f k0)) p = nxt δ (bfsF δ B 0 [k0]) p) ∧ (∀ i, i < (bfsF δ B 0 [k0]).length → acc' ((bf δ' (f k0)).getD i 0) = acc ((bfsF δ B 0 [k0]).getD i 0)) ∧ (∀ j, j < (bfsF δ B 0 [k0]).length → kM_ δ' acc' (bf δ' (f k0)) j = kM_ δ acc (bfsF δ B 0 [k0]) j) ∧ cM δ' acc' (bf δ' (f k0)) = cM δ acc (bfsF δ B 0 [k0]) := by
  have hL : ∀ a, a ∈ [k0] → Dm a := fun a ha => by rw [List.mem_singleton.mp ha]; exact h0
  have e1 : bf δ' (f k0) = (bf δ k0).map f := bfsF_map hf hD hd 741 0 [k0] hL
  rw [bf_more hB hD h0 h741] at e1
  have hR := bfsF_dm hD B 0 [k0] hL
  generalize bfsF δ B 0 [k0] = R at e1 hR hcl
  rw [e1]
  have hlen : (R.map f).length = R.length := List.length_map ..
  have hn := nxt_lt hcl
  have h1 : ∀ p, p < 3 * R.length → nxt δ' (R.map f) p = nxt δ R p := fun p hp => nxt_map hf hD hd hR hp
  have h2 : ∀ i, i < R.length → acc' ((R.map f).getD i 0) = acc (R.getD i 0) := fun i hi => by rw [getD_map hi, ha _ (hR _ (getD_mem hi))]
  refine ⟨rfl, h1, h2, fun j hj => ?_, ?_⟩
  · show kdF (R.map f).length _ _ j = _
    rw [hlen]
    exact (kdF_cong hn (fun p hp => (h1 p hp).symm) (fun i hi => (h2 i hi).symm) j hj).symm
  · show cF (R.map f).length _ _ = _
    rw [hlen]
    exact (cF_cong hn (fun p hp => (h1 p hp).symm) (fun i hi => (h2 i hi).symm)).symm
/-- two machines with one graph: R and R', of the same length -/
def Tied (δ δ' : Nat → Nat → Nat) (acc acc' : Nat → Bool) (R R' : List Nat) : Prop := R'.length = R.length ∧ (∀ p, p < 3 * R.length → nxt δ R p < R.length) ∧ (∀ p, p < 3 * R.length → nxt δ' R' p = nxt δ R p) ∧ (∀ i, i < R.length → acc' (R'.getD i 0) = acc (R.getD i 0)) ∧ (∀ j, j < R.length → kM_ δ' acc' R' j = kM_ δ acc R j) ∧ cM δ' acc' R' = cM δ acc R
theorem tied {f : Nat → Nat} {Dm : Nat → Prop} {δ δ' : Nat → Nat → Nat} {acc acc' : Nat → Bool} {k0 B : Nat} (hf : ∀ a b, Dm a → Dm b → f a = f b → a = b) (h0 : Dm k0) (hB : ∀ c, Dm c → c < B) (h741 : B ≤ 741) (hD : ∀ c q, Dm c → q < 3 → Dm (δ c q)) (hd : ∀ c q, Dm c → q < 3 → δ' (f c) q = f (δ c q)) (ha : ∀ c, Dm c → acc' (f c) = acc c) (hcl : ∀ p, p < 3 * (bfsF δ B 0 [k0]).length → δ ((bfsF δ B 0 [k0]).getD (p / 3) 0) (p % 3) ∈ bfsF δ B 0 [k0]) : Tied δ δ' acc acc' (bfsF δ B 0 [k0]) (bf δ' (f k0)) := by
  obtain ⟨t1, t2, t3, t4, t5⟩ := tie hf h0 hB h741 hD hd ha hcl
  exact ⟨by rw [t1, List.length_map], nxt_lt hcl, t2, t3, t4, t5⟩
theorem mnT_cong {k c : Nat} {nx nx' kd kd' : Nat → Nat} (hn : ∀ p, p < 3 * k → nx p < k) (h1 : ∀ p, p < 3 * k → nx' p = nx p) (h2 : ∀ j, j < k → kd' j = kd j) (hfi : ∀ q, q < c → fi kd k q < k) : mnT k nx' kd' c = mnT k nx kd c := by
  funext j
  unfold mnT
  by_cases h : j / 3 < c
  · have hf := hfi _ h
    rw [if_pos h, if_pos h, fi_cong h2, h1 _ (by omega), h2 _ (hn _ (by omega))]
  · rw [if_neg h, if_neg h]
theorem tied_sR {δ δ' : Nat → Nat → Nat} {acc acc' : Nat → Bool} {R R' : List Nat} (t : Tied δ δ' acc acc' R R') (F' : Nat) : sR δ' acc' R' F' = sR δ acc R F' := by
  obtain ⟨t1, tn, t2, t3, t4, t5⟩ := t
  unfold sR
  rw [t5, t1]
  rw [mnT_cong (c := cM δ acc R) tn t2 t4 (fun q hq => (fi_ok kdF_fo hq).1)]
theorem tied_sF {δ δ' : Nat → Nat → Nat} {acc acc' : Nat → Bool} {R R' : List Nat} (t : Tied δ δ' acc acc' R R') {F' : Nat} (h : sF δ acc R F') : sF δ' acc' R' F' := by
  obtain ⟨t1, tn, t2, t3, t4, t5⟩ := t
  intro q hq
  rw [h q hq, t5, t1, fi_cong t4]
  by_cases z : q < cM δ acc R
  · rw [t3 _ (fi_ok kdF_fo z).1]
  · simp [z]
/-! the last kinds are stable -/
theorem kdF_stable {k : Nat} {nx : Nat → Nat} {ac : Nat → Bool} (hk0 : 0 < k) (hk : k ≤ 740) (hn : ∀ p, p < 3 * k → nx p < k) {i j : Nat} (hi : i < k) (hj : j < k) (h : kdF k nx ac i = kdF k nx ac j) : ∀ q, q < 3 → kdF k nx ac (nx (i * 3 + q)) = kdF k nx ac (nx (j * 3 + q)) := by
  have e : ∀ a, a < k → ksM k nx ac (k + 2 + 1) a = kdF k nx ac a := late_F hk0 hk hn (by omega)
  have h2 : krM k nx (kdF k nx ac) i = krM k nx (kdF k nx ac) j := by
    have a := e i hi
    have b := e j hj
    have a : krM k nx (kdF k nx ac) i = kdF k nx ac i := a
    have b : krM k nx (kdF k nx ac) j = kdF k nx ac j := b
    rw [a, b, h]
  exact ((kvM_inj hi hj hn (ksM_lt hk (k + 2))).mp (krM_inj hi hj h2)).2
theorem kdF_acc {k : Nat} {nx : Nat → Nat} {ac : Nat → Bool} (hk : k ≤ 740) (hn : ∀ p, p < 3 * k → nx p < k) {i j : Nat} (hi : i < k) (hj : j < k) (h : kdF k nx ac i = kdF k nx ac j) : ac i = ac j := by
  have key : ∀ r, ksM k nx ac r i = ksM k nx ac r j → ac i = ac j := by
    intro r
    induction r with
    | zero =>
      intro h
      have h : kd0 ac i = kd0 ac j := h
      unfold kd0 at h
      by_cases a : ac i = ac 0 <;> by_cases b : ac j = ac 0
      · rw [a, b]
      · rw [if_pos a, if_neg b] at h; exact absurd h (by decide)
      · rw [if_neg a, if_pos b] at h; exact absurd h (by decide)
      · cases z : ac 0 <;> cases z1 : ac i <;> cases z2 : ac j <;> simp_all
    | succ r ih => intro h; exact ih ((kvM_inj hi hj hn (ksM_lt hk r)).mp (krM_inj hi hj h)).1
  exact key _ h
/-- a partition that is told by acceptance and stable under the letters is no finer than the last kinds -/
theorem kdF_coarse {k : Nat} {nx : Nat → Nat} {ac : Nat → Bool} (hk : k ≤ 740) (hn : ∀ p, p < 3 * k → nx p < k) (E : Nat → Nat → Prop) (h1 : ∀ i j, i < k → j < k → E i j → ac i = ac j) (h2 : ∀ i j, i < k → j < k → E i j → ∀ q, q < 3 → E (nx (i * 3 + q)) (nx (j * 3 + q))) : ∀ i j, i < k → j < k → E i j → kdF k nx ac i = kdF k nx ac j := by
  have key : ∀ r i j, i < k → j < k → E i j → ksM k nx ac r i = ksM k nx ac r j := by
    intro r
    induction r with
    | zero => intro i j hi hj h; show kd0 ac i = kd0 ac j; unfold kd0; rw [h1 i j hi hj h]
    | succ r ih =>
      intro i j hi hj h
      have e : kvM (ksM k nx ac r) nx i = kvM (ksM k nx ac r) nx j := (kvM_inj hi hj hn (ksM_lt hk r)).mpr ⟨ih i j hi hj h, fun q hq => ih _ _ (hn _ (by omega)) (hn _ (by omega)) (h2 i j hi hj h q hq)⟩
      show krM k nx _ i = krM k nx _ j
      unfold krM
      rw [e]
  exact key _
theorem kdF_0 {k : Nat} {nx : Nat → Nat} {ac : Nat → Bool} (hk0 : 0 < k) : kdF k nx ac 0 = 0 := by
  have h := fo_cls (kd := kdF k nx ac) (k := k) kdF_fo 0 (Nat.zero_le _)
  have := h.2 hk0
  rw [h.1] at this
  have e : (foL (kdF k nx ac) 0).length = 0 := rfl
  omega
theorem kdF_lt {k : Nat} {nx : Nat → Nat} {ac : Nat → Bool} {i : Nat} (hi : i < k) : kdF k nx ac i < cF k nx ac := by
  rw [kdF_fo i hi]; exact idx_lt (foL_mem hi)
/-- the minimal automaton follows the kinds -/
theorem mnT_kd {k : Nat} {nx : Nat → Nat} {ac : Nat → Bool} (hk0 : 0 < k) (hk : k ≤ 740) (hn : ∀ p, p < 3 * k → nx p < k) {i q : Nat} (hi : i < k) (hq : q < 3) : mnT k nx (kdF k nx ac) (cF k nx ac) (kdF k nx ac i * 3 + q) = kdF k nx ac (nx (i * 3 + q)) := by
  unfold mnT
  have h1 : (kdF k nx ac i * 3 + q) / 3 = kdF k nx ac i := by omega
  have h2 : (kdF k nx ac i * 3 + q) % 3 = q := by omega
  have hf := fi_ok (kd := kdF k nx ac) (k := k) kdF_fo (kdF_lt hi)
  rw [h1, h2, if_pos (kdF_lt hi)]
  exact kdF_stable hk0 hk hn hf.1 hi hf.2.1 q hq
theorem mnT_st {k : Nat} {nx : Nat → Nat} {ac : Nat → Bool} (hk0 : 0 < k) (hk : k ≤ 740) (hn : ∀ p, p < 3 * k → nx p < k) {L : Nat → Nat} (hL : ∀ i, L i < 3) : ∀ m, stA (mnT k nx (kdF k nx ac) (cF k nx ac)) L 0 m = kdF k nx ac (ndA nx L m)
  | 0 => (kdF_0 hk0).symm
  | m + 1 => by
    show mnT k nx (kdF k nx ac) (cF k nx ac) (stA (mnT k nx (kdF k nx ac) (cF k nx ac)) L 0 m * 3 + L m) = _
    rw [mnT_st hk0 hk hn hL m]
    exact mnT_kd hk0 hk hn (ndA_lt hk0 hn hL m) (hL m)
theorem mnT_lt {k : Nat} {nx : Nat → Nat} {ac : Nat → Bool} (hn : ∀ p, p < 3 * k → nx p < k) : ∀ j, j < cF k nx ac * 3 → mnT k nx (kdF k nx ac) (cF k nx ac) j < cF k nx ac := by
  intro j hj
  unfold mnT
  have h1 : j / 3 < cF k nx ac := by omega
  have hf := fi_ok (kd := kdF k nx ac) (k := k) kdF_fo h1
  rw [if_pos h1]
  exact kdF_lt (hn _ (by omega))
theorem cF_pos {k : Nat} {nx : Nat → Nat} {ac : Nat → Bool} (hk0 : 0 < k) : 0 < cF k nx ac := Nat.lt_of_le_of_lt (Nat.zero_le _) (kdF_lt hk0)
theorem ndA_cong {k : Nat} {nx nx' L : Nat → Nat} (h0 : 0 < k) (hn : ∀ p, p < 3 * k → nx p < k) (h : ∀ p, p < 3 * k → nx' p = nx p) (hL : ∀ i, L i < 3) : ∀ m, ndA nx' L m = ndA nx L m
  | 0 => rfl
  | m + 1 => by
    show nx' (ndA nx' L m * 3 + L m) = nx (ndA nx L m * 3 + L m)
    have := ndA_lt h0 hn hL m
    have := hL m
    rw [ndA_cong h0 hn h hL m, h _ (by omega)]
