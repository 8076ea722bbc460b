/-- the first number below k with p, or k -/
def fst_ (p : Nat → Bool) (k : Nat) : Nat := fa_first p k
/-- how many steps back to 0 -/
def wl (O : Nat → Nat) : Nat → Nat → Nat
  | 0, _ => 0
  | f + 1, j => if j = 0 then 0 else wl O f (O j / 3) + 1
theorem wl_eq {O : Nat → Nat} {k : Nat} (h : ∀ j, 0 < j → j < k → O j / 3 < j) : ∀ f g j, j < k → j ≤ f → j ≤ g → wl O f j = wl O g j
  | 0, g, j, hk, hf, hg => by
    have : j = 0 := by omega
    subst this
    cases g <;> simp [wl]
  | f + 1, 0, j, hk, hf, hg => by
    have : j = 0 := by omega
    subst this
    simp [wl]
  | f + 1, g + 1, j, hk, hf, hg => by
    unfold wl
    by_cases e : j = 0
    · rw [if_pos e, if_pos e]
    · rw [if_neg e, if_neg e, wl_eq h f g (O j / 3) (by have := h j (by omega) hk; omega) (by have := h j (by omega) hk; omega) (by have := h j (by omega) hk; omega)]
theorem wl_le {O : Nat → Nat} {k : Nat} (h : ∀ j, 0 < j → j < k → O j / 3 < j) : ∀ f j, j < k → wl O f j ≤ j
  | 0, j, _ => by simp [wl]
  | f + 1, j, hk => by
    unfold wl
    by_cases e : j = 0
    · rw [if_pos e]; omega
    · rw [if_neg e]
      have h1 := h j (by omega) hk
      have h2 := wl_le h f (O j / 3) (by omega)
      omega
theorem wl_step {O : Nat → Nat} {k j : Nat} (h : ∀ j, 0 < j → j < k → O j / 3 < j) (hk : j < k) (h0 : 0 < j) : wl O k j = wl O k (O j / 3) + 1 := by
  have h1 := h j h0 hk
  cases k with
  | zero => omega
  | succ k =>
    rw [wl, if_neg (by omega), wl_eq h k (k + 1) (O j / 3) (by omega) (by omega) (by omega)]
theorem wl_0 {O : Nat → Nat} {k : Nat} : wl O k 0 = 0 := by cases k <;> simp [wl]

set_option maxRecDepth 100000 in
theorem lp_X5_firstAccepting {x : Cx} (hR : xR x = MX5_firstAccepting.rm) (hmL : (xc x).maxLocals = MX5_firstAccepting.nL) (C : BX x cX5_firstAccepting RX5) {S : pv_M} {k : Nat} {nx : Nat → Nat} {ac : Nat → Bool} (hG : Gr S k nx ac) (E : EX x 106 (some .int) (fun v S' => S' = S ∧ ((∃ i, i < k ∧ ac i = true ∧ (∀ j, j < i → ac j = false) ∧ v = some (.int (nI i))) ∨ ((∀ j, j < k → ac j = false) ∧ v = some (.int (-1)))))) : ∀ z i, i + z = k → (∀ j, j < i → ac j = false) → GG x 106 0 0 [.ref 29, .int (nI (i))] [] (S) 2 := by
  have hk4 := hG.2.2.2.1
  intro z
  induction z with
  | zero =>
    intro i hz hn
    obtain rfl : i = k := by omega
    refine g_iload_n C dX5_firstAccepting_2 rfl ?_
    refine g_aload_n C dX5_firstAccepting_3 rfl ?_
    refine g_getI C fo_X5_9 dX5_firstAccepting_4 rfl (by decide) (fun _ => rfl) hG.2.1 ?_
    refine n_ic_ge C 27 dX5_firstAccepting_7 (fun h7 => ?_) (fun h7 => absurd h7 (by omega))
    refine g_iconst C (-1) dX5_firstAccepting_27 (by decide) ?_
    exact g_iret C E dX5_firstAccepting_28 (by rw [hR]; decide) (by rw [hR]; decide) ⟨rfl, Or.inr ⟨hn, rfl⟩⟩
  | succ z ih =>
    intro i hz hn
    refine g_iload_n C dX5_firstAccepting_2 rfl ?_
    refine g_aload_n C dX5_firstAccepting_3 rfl ?_
    refine g_getI C fo_X5_9 dX5_firstAccepting_4 rfl (by decide) (fun _ => rfl) hG.2.1 ?_
    refine n_ic_ge C 27 dX5_firstAccepting_7 (fun h7 => absurd h7 (by omega)) (fun h7 => ?_)
    refine g_aload_n C dX5_firstAccepting_10 rfl ?_
    refine g_getR C fo_X5_28 dX5_firstAccepting_11 rfl (by decide) (fun _ => rfl) hG.1.2.2.2.2.2 ?_
    refine g_iload_n C dX5_firstAccepting_14 rfl ?_
    refine n_zald C dX5_firstAccepting_15 rfl (by decide) (hG.2.2.2.2.2 i (by omega)) ?_ (by omega)
    refine b_if_eq C 21 dX5_firstAccepting_16 (fun h16 => ?_) (fun h16 => ?_)
    · refine n_iinc C (by rw [hmL]; decide) dX5_firstAccepting_21 rfl (n_i1 _) [.ref 29, .int (nI (i + 1))] ?_
      refine g_goto C 2 dX5_firstAccepting_24 (by decide) ?_
      refine ih (i + 1) (by omega) (fun j hj => ?_)
      by_cases e : j = i
      · rw [e]; exact h16
      · exact hn j (by omega)
    · refine g_iload_n C dX5_firstAccepting_19 rfl ?_
      exact g_iret C E dX5_firstAccepting_20 (by rw [hR]; decide) (by rw [hR]; decide) ⟨rfl, Or.inl ⟨i, by omega, h16, hn, rfl⟩⟩

set_option maxRecDepth 100000 in
theorem c_X5_firstAccepting (l : Launch) {S : pv_M} {k : Nat} {nx : Nat → Nat} {ac : Nat → Bool} (hG : Gr S k nx ac) : mt l MX5_firstAccepting 106 [.ref 29] S (fun v S' => S' = S ∧ ((∃ i, i < k ∧ ac i = true ∧ (∀ j, j < i → ac j = false) ∧ v = some (.int (nI i))) ∨ ((∀ j, j < k → ac j = false) ∧ v = some (.int (-1))))) := by
  refine mt_of (by decide) (Nat.le_of_ble_eq_true rfl) ?_
  intro x hl hR hmL C E
  show GG x 106 0 0 [.ref 29, unk] [] S 0
  refine n_iconst C 0 dX5_firstAccepting_0 ?_
  refine g_istore_n C (by rw [hmL]; decide) dX5_firstAccepting_1 [.ref 29, .int (nI (0))] rfl ?_
  exact lp_X5_firstAccepting hR hmL C hG E k 0 (by omega) (fun j hj => absurd hj (Nat.not_lt_zero j))

set_option maxRecDepth 100000 in
theorem lp_X5_firstWordLength {x : Cx} (hR : xR x = MX5_firstWordLength.rm) (hmL : (xc x).maxLocals = MX5_firstWordLength.nL) (C : BX x cX5_firstWordLength RX5) {S : pv_M} {k : Nat} {O : Nat → Nat} (t5 : mR S 29 5 = some 33) (h33 : ∀ i, i < k → mI S 33 i = nI (O i)) (hO : ∀ j, 0 < j → j < k → O j / 3 < j) (hO2 : ∀ j, j < k → O j < 3000) (hk4 : k ≤ 384) {s : Nat} (kk : ∀ at_, GG x 106 0 0 [.ref 29, .int (nI (s)), .int (nI (wl O k s)), .int (nI (at_))] [] (S) 30) : ∀ z at_ len, at_ ≤ z → at_ < k → len + wl O k at_ = wl O k s → len + at_ ≤ k → GG x 106 0 0 [.ref 29, .int (nI (s)), .int (nI (len)), .int (nI (at_))] [] (S) 4 := by
  intro z
  induction z with
  | zero =>
    intro at_ len hz hk hw hl
    obtain rfl : at_ = 0 := by omega
    rw [wl_0] at hw
    obtain rfl : len = wl O k s := by omega
    refine g_iload_n C dX5_firstWordLength_4 rfl ?_
    refine g_if_le C 30 dX5_firstWordLength_5 (by decide) (fun _ => ?_) (fun h => absurd (show nI 0 ≤ 0 by decide) h)
    exact kk 0
  | succ z ih =>
    intro at_ len hz hk hw hl
    by_cases h0 : at_ = 0
    · subst h0
      rw [wl_0] at hw
      obtain rfl : len = wl O k s := by omega
      refine g_iload_n C dX5_firstWordLength_4 rfl ?_
      refine g_if_le C 30 dX5_firstWordLength_5 (by decide) (fun _ => ?_) (fun h => absurd (show nI 0 ≤ 0 by decide) h)
      exact kk 0
    · have h0 : 0 < at_ := by omega
      have h1 := hO at_ h0 hk
      have h2 := wl_step hO hk h0
      have h3 := hO2 at_ hk
      refine g_iload_n C dX5_firstWordLength_4 rfl ?_
      refine g_if_le C 30 dX5_firstWordLength_5 (by decide) (fun h => absurd h (nI_nle h0 (by omega))) (fun _ => ?_)
      refine g_iload_n C dX5_firstWordLength_8 rfl ?_
      refine n_sipush C 384 dX5_firstWordLength_9 ?_
      refine n_ic_ge C 30 dX5_firstWordLength_12 (fun h12 => absurd h12 (by omega)) (fun h12 => ?_)
      refine g_aload_n C dX5_firstWordLength_15 rfl ?_
      refine g_getR C fo_X5_25 dX5_firstWordLength_16 rfl (by decide) (fun _ => rfl) t5 ?_
      refine g_iload_n C dX5_firstWordLength_19 rfl ?_
      refine n_iald C dX5_firstWordLength_20 rfl (by decide) (h33 at_ hk) ?_ (by omega)
      refine n_iconst C 3 dX5_firstWordLength_21 ?_
      refine n_idiv C dX5_firstWordLength_22 ?_
      refine g_istore_n C (by rw [hmL]; decide) dX5_firstWordLength_23 [.ref 29, .int (nI (s)), .int (nI (len)), .int (nI ((O at_) / (3)))] rfl ?_
      refine n_iinc C (by rw [hmL]; decide) dX5_firstWordLength_24 rfl (n_i1 _) [.ref 29, .int (nI (s)), .int (nI (len + 1)), .int (nI ((O at_) / (3)))] ?_
      refine g_goto C 4 dX5_firstWordLength_27 (by decide) ?_
      exact ih (O at_ / 3) (len + 1) (by omega) (by omega) (by omega) (by omega)

set_option maxRecDepth 100000 in
theorem c_X5_firstWordLength (l : Launch) {S : pv_M} {k : Nat} {O : Nat → Nat} (t5 : mR S 29 5 = some 33) (h33 : ∀ i, i < k → mI S 33 i = nI (O i)) (hO : ∀ j, 0 < j → j < k → O j / 3 < j) (hO2 : ∀ j, j < k → O j < 3000) (hk4 : k ≤ 384) {s : Nat} (hs : s < k) : mt l MX5_firstWordLength 106 [.ref 29, .int (nI (s))] S (fun v S' => v = some (.int (nI (wl O k s))) ∧ S' = S) := by
  refine mt_of (by decide) (Nat.le_of_ble_eq_true rfl) ?_
  intro x hl hR hmL C E
  show GG x 106 0 0 [.ref 29, .int (nI (s)), unk, unk] [] S 0
  refine n_iconst C 0 dX5_firstWordLength_0 ?_
  refine g_istore_n C (by rw [hmL]; decide) dX5_firstWordLength_1 [.ref 29, .int (nI (s)), .int (nI (0)), unk] rfl ?_
  refine g_iload_n C dX5_firstWordLength_2 rfl ?_
  refine g_istore_n C (by rw [hmL]; decide) dX5_firstWordLength_3 [.ref 29, .int (nI (s)), .int (nI (0)), .int (nI (s))] rfl ?_
  exact lp_X5_firstWordLength hR hmL C t5 h33 hO hO2 hk4 (s := s) (fun at_ => g_iload_n C dX5_firstWordLength_30 rfl (g_iret C E dX5_firstWordLength_31 (by rw [hR]; decide) (by rw [hR]; decide) ⟨rfl, rfl⟩)) s s 0 (Nat.le_refl _) hs (by omega) (by omega)
