/-! THE MACHINE OF ATOMS: sets of atoms by numbers (the reference) and by sets (the class) -/
theorem d7_bit {A : Ab} {a c l b : Nat} (hg : gdR (A.1.1 a)) (hl : l < 3) : (d7 A a c l).testBit b = (decide (b < (AL A a).length) && c.testBit ((AL A a).idxOf (sa A a ((AL A a).getD b 0) l))) := by
  rw [Bool.eq_iff_iff]
  show (orf (fun t => c.testBit t) (fun t => AN A a (3 * t + l)) (AL A a).length).testBit b = true ↔ _
  rw [orf_bit, Bool.and_eq_true, decide_eq_true_eq]
  have key : ∀ s, (AN A a (3 * s + l)).testBit b = (decide (b < (AL A a).length) && decide ((AL A a).idxOf (sa A a ((AL A a).getD b 0) l) = s)) := by
    intro s
    show (orf _ _ _).testBit b = _
    rw [orf_pow, show (3 * s + l) % 3 = l by omega, show (3 * s + l) / 3 = s by omega]
  constructor
  · rintro ⟨s, h1, h2, h3⟩
    rw [key, Bool.and_eq_true, decide_eq_true_eq, decide_eq_true_eq] at h3
    exact ⟨h3.1, by rw [h3.2]; exact h2⟩
  · rintro ⟨h1, h2⟩
    refine ⟨_, idx_lt (AL_sa hg (getD_mem h1) hl), h2, ?_⟩
    rw [key]
    simp [h1]
theorem d7_lt {A : Ab} {a c l : Nat} (hg : gdR (A.1.1 a)) (hl : l < 3) : d7 A a c l < 2 ^ (AL A a).length := by
  apply Nat.lt_pow_two_of_testBit
  intro i hi
  rw [d7_bit hg hl]
  simp [Nat.not_lt.mpr hi]
def phi (A : Ab) (a c : Nat) : Nat := mS A a (fun s => c.testBit ((AL A a).idxOf s))
theorem phi_bit {A : Ab} {a c s : Nat} : (phi A a c).testBit s = (decide (s ∈ AL A a) && c.testBit ((AL A a).idxOf s)) := mS_bit
theorem phi_lt {A : Ab} {a c : Nat} : phi A a c < 2 ^ 64 := mS_lt
theorem phi_at {A : Ab} {a c b : Nat} (hb : b < (AL A a).length) : (phi A a c).testBit ((AL A a).getD b 0) = c.testBit b := by
  rw [phi_bit, idx_getD AL_nodup hb, decide_eq_true (getD_mem hb), Bool.true_and]
theorem bits_n {c d n : Nat} (hc : c < 2 ^ n) (hd : d < 2 ^ n) (h : ∀ b, b < n → c.testBit b = d.testBit b) : c = d := by
  apply Nat.eq_of_testBit_eq
  intro b
  by_cases z : b < n
  · exact h b z
  · rw [Nat.testBit_lt_two_pow (Nat.lt_of_lt_of_le hc (Nat.pow_le_pow_right (by decide) (by omega))), Nat.testBit_lt_two_pow (Nat.lt_of_lt_of_le hd (Nat.pow_le_pow_right (by decide) (by omega)))]
theorem phi_inj {A : Ab} {a c d : Nat} (hc : c < 2 ^ (AL A a).length) (hd : d < 2 ^ (AL A a).length) (h : phi A a c = phi A a d) : c = d :=
  bits_n hc hd (fun b hb => by rw [← phi_at (c := c) hb, h, phi_at hb])
theorem phi_d {A : Ab} {a c l : Nat} (hg : gdR (A.1.1 a)) (hl : l < 3) : dL A a (phi A a c) l = phi A a (d7 A a c l) := by
  apply Nat.eq_of_testBit_eq
  intro s
  show (mS A a _).testBit s = _
  rw [mS_bit, phi_bit, phi_bit]
  by_cases z : s ∈ AL A a
  · rw [d7_bit hg hl, getD_idx z]
    simp [z, AL_sa hg z hl, idx_lt z]
  · simp [z]
theorem phi_one {A : Ab} {a p : Nat} (hp : p < (AL A a).length) : phi A a (2 ^ p) = 2 ^ ((AL A a).getD p 0) := by
  apply Nat.eq_of_testBit_eq
  intro s
  rw [phi_bit, Nat.testBit_two_pow, Nat.testBit_two_pow, Bool.eq_iff_iff, Bool.and_eq_true, decide_eq_true_eq, decide_eq_true_eq, decide_eq_true_eq]
  constructor
  · rintro ⟨h1, h2⟩
    rw [h2, getD_idx h1]
  · intro h
    rw [← h]
    exact ⟨getD_mem hp, (idx_getD AL_nodup hp).symm⟩
theorem bf_phi {A : Ab} {a c : Nat} (hg : gdR (A.1.1 a)) (hc : c < 2 ^ (AL A a).length) : bf (dL A a) (phi A a c) = (bf (d7 A a) c).map (phi A a) :=
  bfsF_map (Dm := fun c => c < 2 ^ (AL A a).length) (fun _ _ h1 h2 h => phi_inj h1 h2 h) (fun _ _ _ hq => d7_lt hg hq) (fun _ _ _ hq => phi_d hg hq) 741 0 [c] (fun x hx => by rw [List.mem_singleton.mp hx]; exact hc)
theorem bf7_dm {A : Ab} {a c : Nat} (hg : gdR (A.1.1 a)) (hc : c < 2 ^ (AL A a).length) : ∀ x, x ∈ bf (d7 A a) c → x < 2 ^ (AL A a).length := bf_ind hc (fun _ _ _ hq => d7_lt hg hq)
/-! words tell sets of atoms apart -/
theorem st7 {A : Ab} {a : Nat} (hg : gdR (A.1.1 a)) : ∀ (u : List Nat) (c : Nat), okW u → (u.foldl (d7 A a) c).testBit (la A a) = c.testBit ((AL A a).idxOf (sWd A a u))
  | [], c, _ => rfl
  | l :: u, c, h => by
    show (u.foldl (d7 A a) (d7 A a c l)).testBit (la A a) = c.testBit ((AL A a).idxOf (sa A a (sWd A a u) l))
    have hm := sWd_mem hg h.tl
    rw [st7 hg u _ h.tl, d7_bit hg h.hd, getD_idx hm]
    simp [idx_lt hm]
theorem nd_fold {δ : Nat → Nat → Nat} {R : List Nat} (hcl : ∀ c, c ∈ R → ∀ q, q < 3 → δ c q ∈ R) : ∀ (u : List Nat) (c : Nat), okW u → c ∈ R → u.foldl δ c ∈ R
  | [], _, _, hc => hc
  | l :: u, c, h, hc => nd_fold hcl u _ h.tl (hcl c hc l h.hd)
/-- equal kinds accept the same words -/
theorem kd_words {δ : Nat → Nat → Nat} {acc : Nat → Bool} {R : List Nat} (hk : R.length ≤ 740) (hcl : ∀ c, c ∈ R → ∀ q, q < 3 → δ c q ∈ R) : ∀ (u : List Nat) (i j : Nat), okW u → i < R.length → j < R.length → kM_ δ acc R i = kM_ δ acc R j → acc (u.foldl δ (R.getD i 0)) = acc (u.foldl δ (R.getD j 0)) := by
  have hn : ∀ p, p < 3 * R.length → nxt δ R p < R.length := fun p hp => idx_lt (hcl _ (getD_mem (show p / 3 < R.length by omega)) _ (by omega))
  intro u
  induction u with
  | nil => intro i j _ hi hj h; exact kdF_acc (ac := fun i => acc (R.getD i 0)) hk hn hi hj h
  | cons l u ih =>
    intro i j hu hi hj h
    have h0 : 0 < R.length := by omega
    have e := kdF_stable (ac := fun i => acc (R.getD i 0)) h0 hk hn hi hj h l hu.hd
    have hl := hu.hd
    have g : ∀ i, i < R.length → R.getD (nxt δ R (i * 3 + l)) 0 = δ (R.getD i 0) l := by
      intro i hi
      unfold nxt
      rw [show (i * 3 + l) / 3 = i by omega, show (i * 3 + l) % 3 = l by omega]
      exact getD_idx (hcl _ (getD_mem hi) l hl)
    have := ih _ _ hu.tl (hn _ (by omega)) (hn _ (by omega)) e
    rw [g i hi, g j hj] at this
    exact this
theorem foL_id : ∀ k, foL (fun i => i) k = List.range k
  | 0 => rfl
  | k + 1 => by
    show addc (foL (fun i => i) k) k = _
    rw [foL_id k, addc_out (by simp), List.range_succ]
theorem kd_id {k : Nat} {nx : Nat → Nat} {ac : Nat → Bool} (h : ∀ i j, i < k → j < k → kdF k nx ac i = kdF k nx ac j → i = j) : cF k nx ac = k ∧ ∀ i, i < k → kdF k nx ac i = i := by
  obtain ⟨h1, h2⟩ := foL_same (v := kdF k nx ac) (w := fun i => i) k (fun i j hi hj => ⟨h i j hi hj, fun e => by rw [show i = j from e]⟩)
  rw [foL_id] at h1 h2
  refine ⟨by unfold cF; rw [h1, List.length_range], fun i hi => ?_⟩
  rw [kdF_fo i hi, h2 i hi]
  have hm : i ∈ List.range k := List.mem_range.mpr hi
  have e := getD_idx hm
  have hl := idx_lt hm
  rw [List.length_range] at hl
  rw [List.getD_eq_getElem?_getD, List.getElem?_range hl] at e
  exact e
theorem k7_id {A : Ab} {a c : Nat} (hg : gdR (A.1.1 a)) (hc : c < 2 ^ (AL A a).length) (hl : (bf (d7 A a) c).length ≤ 740) : cM (d7 A a) (a7 A a) (bf (d7 A a) c) = (bf (d7 A a) c).length ∧ ∀ i, i < (bf (d7 A a) c).length → kM_ (d7 A a) (a7 A a) (bf (d7 A a) c) i = i := by
  refine kd_id (fun i j hi hj h => ?_)
  have hcl : ∀ x, x ∈ bf (d7 A a) c → ∀ q, q < 3 → d7 A a x q ∈ bf (d7 A a) c := fun x hx q hq => bf_cl hl hx hq
  have e : (bf (d7 A a) c).getD i 0 = (bf (d7 A a) c).getD j 0 := by
    refine bits_n (bf7_dm hg hc _ (getD_mem hi)) (bf7_dm hg hc _ (getD_mem hj)) (fun b hb => ?_)
    have hm := mw_ok hg (getD_mem hb)
    have := kd_words (acc := a7 A a) hl hcl (mw A a ((AL A a).getD b 0)) i j hm.1 hi hj h
    have z : ∀ x, a7 A a ((mw A a ((AL A a).getD b 0)).foldl (d7 A a) x) = x.testBit b := fun x => by
      show Nat.testBit _ (la A a) = _
      rw [st7 hg _ _ hm.1, hm.2.1, idx_getD AL_nodup hb]
    rw [z, z] at this
    exact this
  have z1 := idx_getD (bf_nodup (δ := d7 A a) (k0 := c)) hi
  have z2 := idx_getD (bf_nodup (δ := d7 A a) (k0 := c)) hj
  rw [e, z2] at z1
  exact z1.symm
/-- the size of an atom -/
theorem tie_size {A : Ab} {a p : Nat} (hg : gdR (A.1.1 a)) (hp : p < (AL A a).length) : (bf (d7 A a) (1 * 2 ^ p)).length ≤ 740 ∧ cM (d7 A a) (a7 A a) (bf (d7 A a) (1 * 2 ^ p)) = (bf (dL A a) (2 ^ ((AL A a).getD p 0))).length := by
  have hc : 1 * 2 ^ p < 2 ^ (AL A a).length := by rw [Nat.one_mul]; exact Nat.pow_lt_pow_right (by decide) hp
  have e := bf_phi hg hc
  rw [Nat.one_mul, phi_one hp] at e
  have hs := getD_mem hp
  have hcm := cmpl_ok (cQ A a) (cQ_le hg) _ (AL_c hg hs)
  have hl : (bf (dL A a) (2 ^ ((AL A a).getD p 0))).length ≤ 729 := bf_isL hg ⟨_, _, AL_c hg hs, hcm.1, hcm.2.2.2 cQ_pos, (lng_one hg hs hcm.1 hcm.2.1).symm⟩
  have el : (bf (dL A a) (2 ^ ((AL A a).getD p 0))).length = (bf (d7 A a) (1 * 2 ^ p)).length := by rw [e, List.length_map, Nat.one_mul]
  rw [el] at hl ⊢
  exact ⟨by omega, (k7_id hg hc (by omega)).1⟩
/-! FIRST WORDS by breadth -/
def IO_ (δ : Nat → Nat → Nat) (L : List Nat) (p : Nat) (O : Nat → Nat) : Prop := ∀ j, 0 < j → j < L.length → O j < p ∧ O j / 3 < j ∧ δ (L.getD (O j / 3) 0) (O j % 3) = L.getD j 0 ∧ (∀ p', p' < O j → δ (L.getD (p' / 3) 0) (p' % 3) ≠ L.getD j 0) ∧ ∀ i, 0 < i → i < j → O i < O j
theorem IO_.add {δ : Nat → Nat → Nat} {L : List Nat} {p : Nat} {O : Nat → Nat} (h : IO_ δ L p O) (hp : p / 3 < L.length) (hcl : ∀ p', p' < p → δ (L.getD (p' / 3) 0) (p' % 3) ∈ L) : ∃ O', IO_ δ (addc L (δ (L.getD (p / 3) 0) (p % 3))) (p + 1) O' := by
  by_cases hin : δ (L.getD (p / 3) 0) (p % 3) ∈ L
  · rw [addc_in hin]
    exact ⟨O, fun j h1 h2 => by have := h j h1 h2; exact ⟨by omega, this.2⟩⟩
  · refine ⟨va_up O L.length p, fun j h1 h2 => ?_⟩
    have hg : ∀ i, i < L.length → (addc L (δ (L.getD (p / 3) 0) (p % 3))).getD i 0 = L.getD i 0 := fun i hi => addc_getD hi
    rw [addc_out hin] at h2 hg ⊢
    simp only [List.length_append, List.length_cons, List.length_nil] at h2
    by_cases e : j = L.length
    · subst e
      rw [up_same, hg _ hp]
      have gl : (L ++ [δ (L.getD (p / 3) 0) (p % 3)]).getD L.length 0 = δ (L.getD (p / 3) 0) (p % 3) := by rw [getD_snoc (by omega), if_pos rfl]
      rw [gl]
      refine ⟨by omega, hp, rfl, fun p' hp' z => ?_, fun i hi hij => ?_⟩
      · rw [hg _ (by omega)] at z
        exact hin (z ▸ hcl p' hp')
      · rw [va_up_ne _ _ (by omega)]
        exact (h i hi hij).1
    · have hj : j < L.length := by omega
      obtain ⟨a1, a2, a3, a4, a5⟩ := h j h1 hj
      rw [va_up_ne _ _ e, hg j hj, hg _ (by omega)]
      refine ⟨by omega, a2, a3, fun p' hp' => ?_, fun i hi hij => ?_⟩
      · rw [hg _ (by omega)]; exact a4 p' hp'
      · rw [va_up_ne _ _ (by omega)]; exact a5 i hi hij
theorem IO_.addq {δ : Nat → Nat → Nat} {L : List Nat} {i : Nat} {O : Nat → Nat} (h : IO_ δ L (3 * i) O) (hi : i < L.length) (hcl : ∀ p', p' < 3 * i → δ (L.getD (p' / 3) 0) (p' % 3) ∈ L) : ∀ q, q ≤ 3 → (∃ O', IO_ δ (addq δ (L.getD i 0) q L) (3 * i + q) O') ∧ ∀ p', p' < 3 * i + q → δ ((addq δ (L.getD i 0) q L).getD (p' / 3) 0) (p' % 3) ∈ addq δ (L.getD i 0) q L
  | 0, _ => ⟨⟨O, h⟩, hcl⟩
  | q + 1, hq => by
    obtain ⟨⟨O', h1⟩, h2⟩ := IO_.addq h hi hcl q (by omega)
    have hlen := addq_len δ (L.getD i 0) L q
    have e : (3 * i + q) / 3 = i := by omega
    have e2 : (3 * i + q) % 3 = q := by omega
    have g := addq_getD δ (L.getD i 0) hi q
    have r := h1.add (by omega) h2
    rw [e, e2, g] at r
    refine ⟨r, fun p' hp' => ?_⟩
    have hp3 : p' / 3 < L.length := by omega
    rw [addq_getD δ _ hp3]
    by_cases z : p' < 3 * i + q
    · have := h2 p' z
      rw [addq_getD δ _ hp3] at this
      exact addc_mono this
    · rw [show p' / 3 = i by omega, show p' % 3 = q by omega]
      exact addc_self _ _
theorem bf_io {δ : Nat → Nat → Nat} : ∀ (n i : Nat) (L : List Nat) (O : Nat → Nat), i ≤ L.length → IO_ δ L (3 * i) O → (∀ p', p' < 3 * i → δ (L.getD (p' / 3) 0) (p' % 3) ∈ L) → ∃ p O', IO_ δ (bfsF δ n i L) p O'
  | 0, i, L, O, _, h, _ => ⟨3 * i, O, h⟩
  | n + 1, i, L, O, hi, h, hcl => by
    by_cases z : i < L.length
    · have e : bfsF δ (n + 1) i L = bfsF δ n (i + 1) (addq δ (L.getD i 0) 3 L) := by rw [bfsF, if_pos z]
      rw [e]
      obtain ⟨⟨O', h1⟩, h2⟩ := h.addq z hcl 3 (Nat.le_refl _)
      have := addq_len δ (L.getD i 0) L 3
      exact bf_io n (i + 1) _ O' (by omega) (by rw [show 3 * (i + 1) = 3 * i + 3 by omega]; exact h1) (by rw [show 3 * (i + 1) = 3 * i + 3 by omega]; exact h2)
    · rw [bfsF_end (by omega)]
      exact ⟨3 * i, O, h⟩
theorem bf_or {δ : Nat → Nat → Nat} {k0 : Nat} (hl : (bf δ k0).length ≤ 740) : ∃ O, Or_ (bf δ k0).length (nxt δ (bf δ k0)) O ∧ ∀ i j, 0 < i → i < j → j < (bf δ k0).length → O i < O j := by
  obtain ⟨p, O, h⟩ := bf_io (δ := δ) 741 0 [k0] (fun _ => 0) (Nat.zero_le _) (fun j h1 h2 => by simp only [List.length_cons, List.length_nil] at h2; omega) (fun p' hp' => absurd hp' (by omega))
  refine ⟨va_up O 0 0, ⟨up_same, fun j h1 h2 => ?_⟩, fun i j hi hij hj => ?_⟩
  · rw [va_up_ne _ _ (by omega)]
    obtain ⟨a1, a2, a3, a4, a5⟩ := h j h1 h2
    refine ⟨by omega, a2, ?_, fun p' hp' z => ?_⟩
    · unfold nxt
      rw [a3]
      exact idx_getD bf_nodup h2
    · refine a4 p' hp' ?_
      have hm : δ ((bf δ k0).getD (p' / 3) 0) (p' % 3) ∈ bf δ k0 := bf_cl hl (getD_mem (by omega)) (by omega)
      have z : (bf δ k0).idxOf (δ ((bf δ k0).getD (p' / 3) 0) (p' % 3)) = j := z
      rw [← z, getD_idx hm]
  · rw [va_up_ne _ _ (by omega), va_up_ne _ _ (by omega)]
    exact (h j (by omega) hj).2.2.2.2 i hi hij
theorem bfsF_get {δ : Nat → Nat → Nat} : ∀ (n i : Nat) (L : List Nat) (j : Nat), j < L.length → (bfsF δ n i L).getD j 0 = L.getD j 0
  | 0, _, _, _, _ => rfl
  | n + 1, i, L, j, hj => by
    unfold bfsF
    by_cases z : i < L.length
    · rw [if_pos z, bfsF_get n (i + 1) _ j (Nat.lt_of_lt_of_le hj (addq_len δ _ L 3)), addq_getD δ _ hj]
    · rw [if_neg z]
theorem bf_get0 {δ : Nat → Nat → Nat} {k0 : Nat} : (bf δ k0).getD 0 0 = k0 := bfsF_get 741 0 [k0] 0 (by simp)
/-- the word of a node -/
def wdn (O : Nat → Nat) (k s : Nat) : List Nat := (List.range (wl O k s)).map (fun p => O (anc O s (wl O k s - 1 - p)) % 3)
theorem anc_up (O : Nat → Nat) (s : Nat) : ∀ j, anc O s (j + 1) = anc O (O s / 3) j
  | 0 => rfl
  | j + 1 => by show O (anc O s (j + 1)) / 3 = O (anc O (O s / 3) j) / 3; rw [anc_up O s j]
theorem wdn_0 {O : Nat → Nat} {k : Nat} : wdn O k 0 = [] := by unfold wdn; rw [wl_0]; rfl
theorem wdn_s {O : Nat → Nat} {k s : Nat} (hO : ∀ j, 0 < j → j < k → O j / 3 < j) (h0 : 0 < s) (hs : s < k) : wdn O k s = wdn O k (O s / 3) ++ [O s % 3] := by
  unfold wdn
  rw [wl_step hO hs h0, List.range_succ, List.map_append]
  congr 1
  · apply List.map_congr_left
    intro p hp
    have hp := List.mem_range.mp hp
    rw [show wl O k (O s / 3) + 1 - 1 - p = (wl O k (O s / 3) - 1 - p) + 1 by omega, anc_up]
  · show [O (anc O s (wl O k (O s / 3) + 1 - 1 - wl O k (O s / 3))) % 3] = _
    rw [show wl O k (O s / 3) + 1 - 1 - wl O k (O s / 3) = 0 by omega]
    rfl
theorem wdn_len {O : Nat → Nat} {k s : Nat} : (wdn O k s).length = wl O k s := by unfold wdn; rw [List.length_map, List.length_range]
theorem wdn_ok {O : Nat → Nat} {k s : Nat} : okW (wdn O k s) := fun x hx => by
  unfold wdn at hx
  obtain ⟨p, _, rfl⟩ := List.mem_map.mp hx
  omega
theorem wdn_fw {O : Nat → Nat} {k s : Nat} {L : Nat → Nat} : fw O k s L = fun q => if q < (wdn O k s).length then (wdn O k s).getD q 0 else L q := by
  funext q
  unfold fw
  rw [wdn_len]
  by_cases h : q < wl O k s
  · rw [if_pos h, if_pos h]
    unfold wdn
    rw [List.getD_eq_getElem?_getD, List.getElem?_map, List.getElem?_range h]
    rfl
  · rw [if_neg h, if_neg h]
theorem Or_.lt {k : Nat} {nx O : Nat → Nat} (h : Or_ k nx O) : ∀ j, 0 < j → j < k → O j / 3 < j := fun j h1 h2 => (h.2 j h1 h2).2.1
/-- it leads there -/
theorem wdn_to {δ : Nat → Nat → Nat} {k0 : Nat} {O : Nat → Nat} (hl : (bf δ k0).length ≤ 740) (h : Or_ (bf δ k0).length (nxt δ (bf δ k0)) O) (h00 : (bf δ k0).getD 0 0 = k0) : ∀ n s, s ≤ n → s < (bf δ k0).length → (wdn O (bf δ k0).length s).foldl δ k0 = (bf δ k0).getD s 0 := by
  intro n
  induction n with
  | zero => intro s h1 h2; obtain rfl : s = 0 := by omega
            rw [wdn_0, h00]; rfl
  | succ n ih =>
    intro s h1 h2
    by_cases z : s = 0
    · subst z; rw [wdn_0, h00]; rfl
    · have hs := h.2 s (by omega) h2
      rw [wdn_s h.lt (by omega) h2, List.foldl_append, ih _ (by omega) (by omega)]
      show δ _ _ = _
      have hm : δ ((bf δ k0).getD (O s / 3) 0) (O s % 3) ∈ bf δ k0 := bf_cl hl (getD_mem (by omega)) (by omega)
      have e : (bf δ k0).idxOf (δ ((bf δ k0).getD (O s / 3) 0) (O s % 3)) = s := hs.2.2.1
      rw [← getD_idx hm, e]
theorem E_s {O : Nat → Nat} {k s : Nat} (hO : ∀ j, 0 < j → j < k → O j / 3 < j) (h0 : 0 < s) (hs : s < k) : eW (wdn O k s) = 3 * eW (wdn O k (O s / 3)) + O s % 3 := by rw [wdn_s hO h0 hs, eW_snoc]
theorem E_pos {O : Nat → Nat} {k s : Nat} : 1 ≤ eW (wdn O k s) := Nat.le_trans (Nat.one_le_pow _ _ (by decide)) (eW_bd wdn_ok).1
theorem E_mono {k : Nat} {nx O : Nat → Nat} (h : Or_ k nx O) (hi : ∀ i j, 0 < i → i < j → j < k → O i < O j) : ∀ n j, j ≤ n → j < k → ∀ i, i < j → eW (wdn O k i) < eW (wdn O k j) := by
  intro n
  induction n with
  | zero => intro j h1 _ i hij; omega
  | succ n ih =>
    intro j h1 h2 i hij
    have hj := h.lt j (by omega) h2
    rw [E_s h.lt (by omega) h2]
    by_cases z : i = 0
    · subst z
      rw [wdn_0]
      have := E_pos (O := O) (k := k) (s := O j / 3)
      show 1 < _
      omega
    · rw [E_s h.lt (by omega) (by omega)]
      have ho := hi i j (by omega) hij h2
      rcases Nat.lt_or_ge (O i / 3) (O j / 3) with w | w
      · have := ih (O j / 3) (by omega) (by omega) (O i / 3) w
        omega
      · have e : O i / 3 = O j / 3 := by omega
        rw [e]
        omega
/-- and none is earlier -/
theorem E_le {δ : Nat → Nat → Nat} {k0 : Nat} {O : Nat → Nat} (hl : (bf δ k0).length ≤ 740) (h : Or_ (bf δ k0).length (nxt δ (bf δ k0)) O) (hi : ∀ i j, 0 < i → i < j → j < (bf δ k0).length → O i < O j) : ∀ v : List Nat, okW v → v.reverse.foldl δ k0 ∈ bf δ k0 ∧ eW (wdn O (bf δ k0).length ((bf δ k0).idxOf (v.reverse.foldl δ k0))) ≤ eW v.reverse
  | [], _ => by
    have h0 : (bf δ k0).idxOf k0 = 0 := by
      have h1 : (bf δ k0).length ≠ 0 := fun z => by have := idx_lt (bf_0 (δ := δ) (k0 := k0)); omega
      apply Classical.byContradiction
      intro z
      have hlt := idx_lt (bf_0 (δ := δ) (k0 := k0))
      have h00 := bf_get0 (δ := δ) (k0 := k0)
      have e := idx_getD (bf_nodup (δ := δ) (k0 := k0)) (show 0 < (bf δ k0).length by omega)
      rw [h00] at e
      exact z e
    refine ⟨bf_0, ?_⟩
    show eW (wdn O _ ((bf δ k0).idxOf k0)) ≤ 1
    rw [h0, wdn_0]
    exact Nat.le_refl _
  | x :: v, hu => by
    obtain ⟨m1, m2⟩ := E_le hl h hi v hu.tl
    have hx := hu.hd
    rw [List.reverse_cons, List.foldl_append, eW_snoc]
    show δ _ x ∈ _ ∧ eW (wdn O _ ((bf δ k0).idxOf (δ _ x))) ≤ _
    generalize v.reverse.foldl δ k0 = c at m1 m2 ⊢
    have hd : δ c x ∈ bf δ k0 := bf_cl hl m1 hx
    refine ⟨hd, ?_⟩
    have hm := idx_lt m1
    have hj := idx_lt hd
    have en : nxt δ (bf δ k0) (3 * (bf δ k0).idxOf c + x) = (bf δ k0).idxOf (δ c x) := by
      unfold nxt
      rw [show (3 * (bf δ k0).idxOf c + x) / 3 = (bf δ k0).idxOf c by omega, show (3 * (bf δ k0).idxOf c + x) % 3 = x by omega, getD_idx m1]
    generalize (bf δ k0).idxOf (δ c x) = j at hj en ⊢
    generalize (bf δ k0).idxOf c = m at hm m2 en
    by_cases z : j = 0
    · subst z
      rw [wdn_0]
      have := E_pos (O := O) (k := (bf δ k0).length) (s := m)
      show 1 ≤ _
      omega
    · obtain ⟨o1, o2, o3, o4⟩ := h.2 j (by omega) hj
      have ho : O j ≤ 3 * m + x := Nat.le_of_not_lt (fun w => o4 _ w en)
      rw [E_s h.lt (by omega) hj]
      rcases Nat.lt_or_ge (O j / 3) m with w | w
      · have := E_mono h hi m m (Nat.le_refl _) hm _ w
        omega
      · have e : O j / 3 = m := by omega
        rw [e]
        omega
/-- the first word of an atom, as the reference finds it -/
theorem tie_word {A : Ab} {a p : Nat} (hg : gdR (A.1.1 a)) (hp : p < (AL A a).length) : ∃ O s, Or_ (bf (d7 A a) (1 * 2 ^ p)).length (nxt (d7 A a) (bf (d7 A a) (1 * 2 ^ p))) O ∧ s < (bf (d7 A a) (1 * 2 ^ p)).length ∧ a7 A a ((bf (d7 A a) (1 * 2 ^ p)).getD s 0) = true ∧ (∀ j, j < s → a7 A a ((bf (d7 A a) (1 * 2 ^ p)).getD j 0) = false) ∧ wdn O (bf (d7 A a) (1 * 2 ^ p)).length s = mw A a ((AL A a).getD p 0) := by
  have hl := (tie_size hg hp).1
  obtain ⟨O, hO, hi⟩ := bf_or hl
  have hc1 : 1 * 2 ^ p = 2 ^ p := Nat.one_mul _
  have acc : ∀ u, okW u → (a7 A a (u.foldl (d7 A a) (1 * 2 ^ p)) = true ↔ sWd A a u = (AL A a).getD p 0) := by
    intro u hu
    have hm := sWd_mem hg hu
    show Nat.testBit _ (la A a) = true ↔ _
    rw [st7 hg u _ hu, hc1, Nat.testBit_two_pow, decide_eq_true_eq]
    constructor
    · intro h; rw [h, getD_idx hm]
    · intro h; rw [h, idx_getD AL_nodup hp]
  have hw := mw_ok hg (getD_mem hp)
  have ew := E_le hl hO hi (mw A a ((AL A a).getD p 0)).reverse (fun x hx => hw.1 x (List.mem_reverse.mp hx))
  rw [List.reverse_reverse] at ew
  have hf := fa_first_le (fun i => a7 A a ((bf (d7 A a) (1 * 2 ^ p)).getD i 0)) (bf (d7 A a) (1 * 2 ^ p)).length
  have hlt : fa_first (fun i => a7 A a ((bf (d7 A a) (1 * 2 ^ p)).getD i 0)) (bf (d7 A a) (1 * 2 ^ p)).length < (bf (d7 A a) (1 * 2 ^ p)).length := by
    rcases Nat.lt_or_ge (fa_first (fun i => a7 A a ((bf (d7 A a) (1 * 2 ^ p)).getD i 0)) (bf (d7 A a) (1 * 2 ^ p)).length) (bf (d7 A a) (1 * 2 ^ p)).length with w | w
    · exact w
    · have n := fa_first_no (fun i => a7 A a ((bf (d7 A a) (1 * 2 ^ p)).getD i 0)) (bf (d7 A a) (1 * 2 ^ p)).length _ (Nat.lt_of_lt_of_le (idx_lt ew.1) w)
      have n : a7 A a ((bf (d7 A a) (1 * 2 ^ p)).getD ((bf (d7 A a) (1 * 2 ^ p)).idxOf ((mw A a ((AL A a).getD p 0)).foldl (d7 A a) (1 * 2 ^ p))) 0) = false := n
      rw [getD_idx ew.1, (acc _ hw.1).mpr hw.2.1] at n
      exact absurd n (by decide)
  have hy := fa_first_yes (fun i => a7 A a ((bf (d7 A a) (1 * 2 ^ p)).getD i 0)) (bf (d7 A a) (1 * 2 ^ p)).length hlt
  have hn := fa_first_no (fun i => a7 A a ((bf (d7 A a) (1 * 2 ^ p)).getD i 0)) (bf (d7 A a) (1 * 2 ^ p)).length
  generalize fa_first (fun i => a7 A a ((bf (d7 A a) (1 * 2 ^ p)).getD i 0)) (bf (d7 A a) (1 * 2 ^ p)).length = s at hlt hy hn hf
  refine ⟨O, s, hO, hlt, hy, hn, ?_⟩
  have to := wdn_to hl hO bf_get0 s s (Nat.le_refl _) hlt
  refine (mw_of hg ⟨wdn_ok, (acc _ wdn_ok).mp (by rw [to]; exact hy), fun v hv hs => ?_⟩).symm
  have ev := E_le hl hO hi v.reverse (fun x hx => hv x (List.mem_reverse.mp hx))
  rw [List.reverse_reverse] at ev
  refine Nat.le_trans ?_ ev.2
  have hj := idx_lt ev.1
  have ha : a7 A a ((bf (d7 A a) (1 * 2 ^ p)).getD ((bf (d7 A a) (1 * 2 ^ p)).idxOf (v.foldl (d7 A a) (1 * 2 ^ p))) 0) = true := by rw [getD_idx ev.1]; exact (acc v hv).mpr hs
  rcases Nat.lt_trichotomy s ((bf (d7 A a) (1 * 2 ^ p)).idxOf (v.foldl (d7 A a) (1 * 2 ^ p))) with w | w | w
  · exact Nat.le_of_lt (E_mono hO hi _ _ (Nat.le_refl _) hj s w)
  · rw [← w]; exact Nat.le_refl _
  · have := hn _ w
    have this : a7 A a ((bf (d7 A a) (1 * 2 ^ p)).getD ((bf (d7 A a) (1 * 2 ^ p)).idxOf (v.foldl (d7 A a) (1 * 2 ^ p))) 0) = false := this
    rw [ha] at this
    exact absurd this (by decide)
