/-! sums over the atoms -/
def accS (L : List Nat) (p : Nat → Bool) (k : Nat) : Nat := orf (fun i => p (L.getD i 0)) (fun i => 2 ^ (L.getD i 0)) k
def accN (A : Ab) (a : Nat) (L : List Nat) (p : Nat → Bool) (k : Nat) : Nat := orf (fun i => p (L.getD i 0)) (fun i => 2 ^ ((AL A a).idxOf (L.getD i 0))) k
theorem accS_y {L : List Nat} {p : Nat → Bool} {i : Nat} (h : p (L.getD i 0) = true) : accS L p i ||| 1 * 2 ^ (L.getD i 0) = accS L p (i + 1) := by
  show _ = accS L p i ||| (if p (L.getD i 0) then 2 ^ (L.getD i 0) else 0)
  rw [if_pos h, Nat.one_mul]
theorem accS_n {L : List Nat} {p : Nat → Bool} {i : Nat} (h : p (L.getD i 0) = false) : accS L p (i + 1) = accS L p i := by
  show accS L p i ||| (if p (L.getD i 0) then 2 ^ (L.getD i 0) else 0) = _
  rw [if_neg (by rw [h]; decide), Nat.or_zero]
theorem accN_y {A : Ab} {a : Nat} {L : List Nat} {p : Nat → Bool} {i : Nat} (h : p (L.getD i 0) = true) : accN A a L p i ||| 1 * 2 ^ ((AL A a).idxOf (L.getD i 0)) = accN A a L p (i + 1) := by
  show _ = accN A a L p i ||| (if p (L.getD i 0) then 2 ^ ((AL A a).idxOf (L.getD i 0)) else 0)
  rw [if_pos h, Nat.one_mul]
theorem accN_n {A : Ab} {a : Nat} {L : List Nat} {p : Nat → Bool} {i : Nat} (h : p (L.getD i 0) = false) : accN A a L p (i + 1) = accN A a L p i := by
  show accN A a L p i ||| (if p (L.getD i 0) then 2 ^ ((AL A a).idxOf (L.getD i 0)) else 0) = _
  rw [if_neg (by rw [h]; decide), Nat.or_zero]
/-- the atoms that p allows, as bits by their sets; by their numbers -/
def mS (A : Ab) (a : Nat) (p : Nat → Bool) : Nat := accS (AL A a) p (AL A a).length
def mN (A : Ab) (a : Nat) (p : Nat → Bool) : Nat := orf (fun b => p ((AL A a).getD b 0)) (fun b => 2 ^ b) (AL A a).length
theorem accS_bit {L : List Nat} {p : Nat → Bool} {s : Nat} : (accS L p L.length).testBit s = (decide (s ∈ L) && p s) := by
  rw [Bool.eq_iff_iff]
  unfold accS
  rw [orf_bit, Bool.and_eq_true, decide_eq_true_eq]
  constructor
  · rintro ⟨i, h1, h2, h3⟩
    rw [Nat.testBit_two_pow, decide_eq_true_eq] at h3
    rw [h3] at h2
    exact ⟨by rw [← h3]; exact getD_mem h1, h2⟩
  · rintro ⟨h1, h2⟩
    exact ⟨L.idxOf s, idx_lt h1, by rw [getD_idx h1]; exact h2, by rw [getD_idx h1, Nat.testBit_two_pow]; simp⟩
theorem mS_bit {A : Ab} {a : Nat} {p : Nat → Bool} {s : Nat} : (mS A a p).testBit s = (decide (s ∈ AL A a) && p s) := accS_bit
theorem mN_bit {A : Ab} {a : Nat} {p : Nat → Bool} {b : Nat} : (mN A a p).testBit b = (decide (b < (AL A a).length) && p ((AL A a).getD b 0)) := orf_pow _
theorem mS_lt {A : Ab} {a : Nat} {p : Nat → Bool} : mS A a p < 2 ^ 64 := orf_lt (B := 64) _ (fun s hs _ => Nat.pow_lt_pow_right (by decide) (AL_lt (getD_mem hs)))
theorem mN_lt {A : Ab} {a : Nat} {p : Nat → Bool} : mN A a p < 2 ^ (AL A a).length := pw_n (Nat.le_refl _)
theorem accS_mS {A : Ab} {a : Nat} {L : List Nat} {P : Nat} {p : Nat → Bool} (h : AtP A a L P) : accS L p L.length = mS A a p := by
  apply Nat.eq_of_testBit_eq
  intro s
  rw [accS_bit, mS_bit, decide_eq_decide.mpr (h.2.1 s)]
theorem accN_mN {A : Ab} {a : Nat} {L : List Nat} {P : Nat} {p : Nat → Bool} (h : AtP A a L P) : accN A a L p L.length = mN A a p := by
  apply Nat.eq_of_testBit_eq
  intro b
  rw [mN_bit, Bool.eq_iff_iff]
  unfold accN
  rw [orf_bit, Bool.and_eq_true, decide_eq_true_eq]
  constructor
  · rintro ⟨i, h1, h2, h3⟩
    rw [Nat.testBit_two_pow, decide_eq_true_eq] at h3
    have hm := h.at h1
    rw [← h3]
    exact ⟨idx_lt hm, by rw [getD_idx hm]; exact h2⟩
  · rintro ⟨h1, h2⟩
    have hm := getD_mem h1
    have hl := (h.2.1 _).mpr hm
    refine ⟨L.idxOf ((AL A a).getD b 0), idx_lt hl, by rw [getD_idx hl]; exact h2, ?_⟩
    rw [getD_idx hl, Nat.testBit_two_pow, idx_getD AL_nodup h1]
    simp
theorem AN_mN {A : Ab} {a p q : Nat} (hp : p < (AL A a).length) (hq : q < 3) : mN A a (fun s => decide (sa A a s q = (AL A a).getD p 0)) = AN A a (3 * p + q) := by
  unfold mN AN ANb
  refine orf_cong _ (fun b hb => ⟨?_, fun _ => rfl⟩)
  rw [show (3 * p + q) % 3 = q by omega, show (3 * p + q) / 3 = p by omega]
  rw [Bool.eq_iff_iff, decide_eq_true_eq, decide_eq_true_eq]
  constructor
  · intro e; rw [e]; exact idx_getD AL_nodup hp
  · intro e
    rw [← e]
    by_cases z : sa A a ((AL A a).getD b 0) q ∈ AL A a
    · exact (getD_idx z).symm
    · have := List.idxOf_eq_length z
      omega
theorem iA_mN {A : Ab} {a : Nat} : mN A a (fun s => s.testBit 0) = iA A a (AL A a).length := rfl

set_option maxRecDepth 100000 in
theorem lp_targetsOf {x : Cx} (hR : xR x = MX0_targetsOf.rm) (hmL : (xc x).maxLocals = MX0_targetsOf.nL) (C : BX x cX0_targetsOf RX0) {S : pv_M} {A : Ab} {a : Nat} {L : List Nat} {P : Nat} (hg : gdR (A.1.1 a)) (hC : AtC A a L P S) (hP : AtP A a L P) {s q : Nat} (hs : s < 64) (hq : q < 3) (kk : GG x 106 0 0 [.ref 37, .int (nI (s)), .int (nI (q)), .long (lN (accN A a L (fun s2 => decide (sa A a s2 q = s)) (L.length))), unk, .int (nI (L.length))] [] (S) 52) : ∀ z i, i + z = L.length → GG x 106 0 0 [.ref 37, .int (nI (s)), .int (nI (q)), .long (lN (accN A a L (fun s2 => decide (sa A a s2 q = s)) (i))), unk, .int (nI (i))] [] (S) 5 := by
  have hl64 := hP.len
  intro z
  induction z with
  | zero =>
    intro i hz
    obtain rfl : L.length = i := by omega
    refine g_iload C dX0_targetsOf_5 rfl ?_
    refine g_aload_n C dX0_targetsOf_7 rfl ?_
    refine g_getI C fo_X0_31 dX0_targetsOf_8 rfl (by decide) (fun _ => rfl) hC.2.2.2.1 ?_
    refine n_ic_ge C 52 dX0_targetsOf_11 (fun h11 => ?_) (fun h11 => absurd h11 (by omega))
    exact kk
  | succ z ih =>
    intro i hz
    have hm := hP.at (i := i) (by omega)
    have hm64 := AL_lt hm
    have hlc : L.getD i 0 = L.getD i 0 := rfl
    have hix : (AL A a).idxOf (L.getD i 0) < 64 := Nat.lt_of_lt_of_le (idx_lt hm) AL_len
    have hsa := sa_lt hg (X := L.getD i 0) (l := q)
    refine g_iload C dX0_targetsOf_5 rfl ?_
    refine g_aload_n C dX0_targetsOf_7 rfl ?_
    refine g_getI C fo_X0_31 dX0_targetsOf_8 rfl (by decide) (fun _ => rfl) hC.2.2.2.1 ?_
    refine n_ic_ge C 52 dX0_targetsOf_11 (fun h11 => absurd h11 (by omega)) (fun h11 => ?_)
    refine g_aload_n C dX0_targetsOf_14 rfl ?_
    refine g_aload_n C dX0_targetsOf_15 rfl ?_
    refine g_getR C fo_X0_35 dX0_targetsOf_16 rfl (by decide) (fun _ => rfl) (gs_37_6 hC.1) ?_
    refine g_iload C dX0_targetsOf_19 rfl ?_
    refine n_iald C dX0_targetsOf_21 rfl (by decide) (hC.2.2.2.2.1 _ (by omega)) ?_ (by omega)
    refine g_iload_n C dX0_targetsOf_22 rfl ?_
    refine g_callV C (As := [.int (nI (L.getD i 0)), .int (nI (q))]) (k_fol _ hg hC hm hq) vo_X0_85 dX0_targetsOf_23 rfl rfl (by decide) rfl (rm_ok (M' := MX0_targetsOf) hR (by decide)) (Nat.le_of_ble_eq_true rfl) (fun v9 S5 h9 => ?_)
    obtain ⟨rfl, h9⟩ := h9
    refine g_S S h9 ?_
    refine g_n0 [.int (nI (sa A a (L.getD i 0) q))] rfl rfl rfl ?_
    refine g_iload_n C dX0_targetsOf_26 rfl ?_
    refine n_ic_ne C 46 dX0_targetsOf_27 (fun h27 => ?_) (fun h27 => ?_)
    · refine n_iinc C (by rw [hmL]; decide) dX0_targetsOf_46 rfl (n_i1 _) [.ref 37, .int (nI (s)), .int (nI (q)), .long (lN (accN A a L (fun s2 => decide (sa A a s2 q = s)) (i))), unk, .int (nI (i + 1))] ?_
      refine g_goto C 5 dX0_targetsOf_49 (by decide) ?_
      have k9 := ih (i + 1) (by omega)
      rw [accN_n (p := fun s2 => decide (sa A a s2 q = s)) (by exact decide_eq_false h27)] at k9
      exact k9
    · refine g_lload_n C dX0_targetsOf_30 rfl ?_
      refine n_lconst C 1 dX0_targetsOf_31 ?_
      refine g_aload_n C dX0_targetsOf_32 rfl ?_
      refine g_aload_n C dX0_targetsOf_33 rfl ?_
      refine g_getR C fo_X0_35 dX0_targetsOf_34 rfl (by decide) (fun _ => rfl) (gs_37_6 hC.1) ?_
      refine g_iload C dX0_targetsOf_37 rfl ?_
      refine n_iald C dX0_targetsOf_39 rfl (by decide) (hC.2.2.2.2.1 _ (by omega)) ?_ (by omega)
      refine g_callV C (As := [.int (nI (L.getD i 0))]) (k_number _ hg hC hP hm) vo_X0_106 dX0_targetsOf_40 rfl rfl (by decide) rfl (rm_ok (M' := MX0_targetsOf) hR (by decide)) (Nat.le_of_ble_eq_true rfl) (fun v9 S5 h9 => ?_)
      obtain ⟨rfl, h9⟩ := h9
      refine g_S S h9 ?_
      refine g_n0 [.int (nI ((AL A a).idxOf (L.getD i 0))), .long (lN (1)), .long (lN (accN A a L (fun s2 => decide (sa A a s2 q = s)) (i)))] rfl rfl rfl ?_
      refine n_lshl C dX0_targetsOf_43 ?_ (by omega)
      refine n_lor C dX0_targetsOf_44 ?_
      refine g_lstore_n C (by rw [hmL]; decide) dX0_targetsOf_45 [.ref 37, .int (nI (s)), .int (nI (q)), .long (lN ((accN A a L (fun s2 => decide (sa A a s2 q = s)) (i)) ||| ((1) * 2 ^ ((AL A a).idxOf (L.getD i 0))))), unk, .int (nI (i))] rfl ?_
      refine n_iinc C (by rw [hmL]; decide) dX0_targetsOf_46 rfl (n_i1 _) [.ref 37, .int (nI (s)), .int (nI (q)), .long (lN ((accN A a L (fun s2 => decide (sa A a s2 q = s)) (i)) ||| ((1) * 2 ^ ((AL A a).idxOf (L.getD i 0))))), unk, .int (nI (i + 1))] ?_
      refine g_goto C 5 dX0_targetsOf_49 (by decide) ?_
      rw [accN_y (p := fun s2 => decide (sa A a s2 q = s)) (by exact decide_eq_true h27)]
      exact ih (i + 1) (by omega)

set_option maxRecDepth 100000 in
theorem k_targetsOf (l : Launch) {S : pv_M} {A : Ab} {a : Nat} {L : List Nat} {P : Nat} (hg : gdR (A.1.1 a)) (hC : AtC A a L P S) (hP : AtP A a L P) {s q : Nat} (hs : s < 64) (hq : q < 3) : mt l MX0_targetsOf 106 [.ref 37, .int (nI (s)), .int (nI (q))] S (fun v S' => v = some (.long (lN (mN A a (fun s2 => decide (sa A a s2 q = s))))) ∧ S' = S) := by
  refine mt_of (by decide) (Nat.le_of_ble_eq_true rfl) ?_
  intro x hl hR hmL C E
  show GG x 106 0 0 [.ref 37, .int (nI (s)), .int (nI (q)), unk, unk, unk] [] S 0
  refine n_lconst C 0 dX0_targetsOf_0 ?_
  refine g_lstore_n C (by rw [hmL]; decide) dX0_targetsOf_1 [.ref 37, .int (nI (s)), .int (nI (q)), .long (lN (0)), unk, unk] rfl ?_
  refine n_iconst C 0 dX0_targetsOf_2 ?_
  refine g_istore C (by rw [hmL]; decide) dX0_targetsOf_3 [.ref 37, .int (nI (s)), .int (nI (q)), .long (lN (0)), unk, .int (nI (0))] rfl ?_
  refine lp_targetsOf hR hmL C hg hC hP hs hq ?_ L.length 0 (Nat.zero_add _)
  refine g_lload_n C dX0_targetsOf_52 rfl ?_
  exact g_lret C E dX0_targetsOf_53 (by rw [hR]; decide) (by rw [hR]; decide) ⟨by rw [accN_mN hP], rfl⟩

set_option maxRecDepth 100000 in
theorem lp_initialOnes {x : Cx} (hR : xR x = MX0_initialOnes.rm) (hmL : (xc x).maxLocals = MX0_initialOnes.nL) (C : BX x cX0_initialOnes RX0) {S : pv_M} {A : Ab} {a : Nat} {L : List Nat} {P : Nat} (hg : gdR (A.1.1 a)) (hC : AtC A a L P S) (hP : AtP A a L P) (kk : GG x 106 0 0 [.ref 37, .long (lN (accN A a L (fun s2 => decide (s2 &&& 1 = 1)) (L.length))), unk, .int (nI (L.length))] [] (S) 46) : ∀ z i, i + z = L.length → GG x 106 0 0 [.ref 37, .long (lN (accN A a L (fun s2 => decide (s2 &&& 1 = 1)) (i))), unk, .int (nI (i))] [] (S) 4 := by
  have hl64 := hP.len
  intro z
  induction z with
  | zero =>
    intro i hz
    obtain rfl : L.length = i := by omega
    refine g_iload_n C dX0_initialOnes_4 rfl ?_
    refine g_aload_n C dX0_initialOnes_5 rfl ?_
    refine g_getI C fo_X0_31 dX0_initialOnes_6 rfl (by decide) (fun _ => rfl) hC.2.2.2.1 ?_
    refine n_ic_ge C 46 dX0_initialOnes_9 (fun h9 => ?_) (fun h9 => absurd h9 (by omega))
    exact kk
  | succ z ih =>
    intro i hz
    have hm := hP.at (i := i) (by omega)
    have hm64 := AL_lt hm
    have hlc : L.getD i 0 = L.getD i 0 := rfl
    have hix : (AL A a).idxOf (L.getD i 0) < 64 := Nat.lt_of_lt_of_le (idx_lt hm) AL_len
    refine g_iload_n C dX0_initialOnes_4 rfl ?_
    refine g_aload_n C dX0_initialOnes_5 rfl ?_
    refine g_getI C fo_X0_31 dX0_initialOnes_6 rfl (by decide) (fun _ => rfl) hC.2.2.2.1 ?_
    refine n_ic_ge C 46 dX0_initialOnes_9 (fun h9 => absurd h9 (by omega)) (fun h9 => ?_)
    refine g_aload_n C dX0_initialOnes_12 rfl ?_
    refine g_aload_n C dX0_initialOnes_13 rfl ?_
    refine g_getR C fo_X0_35 dX0_initialOnes_14 rfl (by decide) (fun _ => rfl) (gs_37_6 hC.1) ?_
    refine g_iload_n C dX0_initialOnes_17 rfl ?_
    refine n_iald C dX0_initialOnes_18 rfl (by decide) (hC.2.2.2.2.1 _ (by omega)) ?_ (by omega)
    refine g_callV C (As := [.int (nI (L.getD i 0))]) (c_X0_isAccepting _ hm64) vo_X0_110 dX0_initialOnes_19 rfl rfl (by decide) rfl (rm_ok (M' := MX0_initialOnes) hR (by decide)) (Nat.le_of_ble_eq_true rfl) (fun v9 S5 h9 => ?_)
    obtain ⟨rfl, h9⟩ := h9
    refine g_S S h9 ?_
    refine g_n0 [.int (bI (decide (L.getD i 0 &&& 1 = 1)))] rfl rfl rfl ?_
    refine b_if_eq C 40 dX0_initialOnes_22 (fun h22 => ?_) (fun h22 => ?_)
    · refine n_iinc C (by rw [hmL]; decide) dX0_initialOnes_40 rfl (n_i1 _) [.ref 37, .long (lN (accN A a L (fun s2 => decide (s2 &&& 1 = 1)) (i))), unk, .int (nI (i + 1))] ?_
      refine g_goto C 4 dX0_initialOnes_43 (by decide) ?_
      have k9 := ih (i + 1) (by omega)
      rw [accN_n (p := fun s2 => decide (s2 &&& 1 = 1)) (by exact h22)] at k9
      exact k9
    · refine g_lload_n C dX0_initialOnes_25 rfl ?_
      refine n_lconst C 1 dX0_initialOnes_26 ?_
      refine g_aload_n C dX0_initialOnes_27 rfl ?_
      refine g_aload_n C dX0_initialOnes_28 rfl ?_
      refine g_getR C fo_X0_35 dX0_initialOnes_29 rfl (by decide) (fun _ => rfl) (gs_37_6 hC.1) ?_
      refine g_iload_n C dX0_initialOnes_32 rfl ?_
      refine n_iald C dX0_initialOnes_33 rfl (by decide) (hC.2.2.2.2.1 _ (by omega)) ?_ (by omega)
      refine g_callV C (As := [.int (nI (L.getD i 0))]) (k_number _ hg hC hP hm) vo_X0_106 dX0_initialOnes_34 rfl rfl (by decide) rfl (rm_ok (M' := MX0_initialOnes) hR (by decide)) (Nat.le_of_ble_eq_true rfl) (fun v9 S5 h9 => ?_)
      obtain ⟨rfl, h9⟩ := h9
      refine g_S S h9 ?_
      refine g_n0 [.int (nI ((AL A a).idxOf (L.getD i 0))), .long (lN (1)), .long (lN (accN A a L (fun s2 => decide (s2 &&& 1 = 1)) (i)))] rfl rfl rfl ?_
      refine n_lshl C dX0_initialOnes_37 ?_ (by omega)
      refine n_lor C dX0_initialOnes_38 ?_
      refine g_lstore_n C (by rw [hmL]; decide) dX0_initialOnes_39 [.ref 37, .long (lN ((accN A a L (fun s2 => decide (s2 &&& 1 = 1)) (i)) ||| ((1) * 2 ^ ((AL A a).idxOf (L.getD i 0))))), unk, .int (nI (i))] rfl ?_
      refine n_iinc C (by rw [hmL]; decide) dX0_initialOnes_40 rfl (n_i1 _) [.ref 37, .long (lN ((accN A a L (fun s2 => decide (s2 &&& 1 = 1)) (i)) ||| ((1) * 2 ^ ((AL A a).idxOf (L.getD i 0))))), unk, .int (nI (i + 1))] ?_
      refine g_goto C 4 dX0_initialOnes_43 (by decide) ?_
      rw [accN_y (p := fun s2 => decide (s2 &&& 1 = 1)) (by exact h22)]
      exact ih (i + 1) (by omega)

set_option maxRecDepth 100000 in
theorem k_initialOnes (l : Launch) {S : pv_M} {A : Ab} {a : Nat} {L : List Nat} {P : Nat} (hg : gdR (A.1.1 a)) (hC : AtC A a L P S) (hP : AtP A a L P) : mt l MX0_initialOnes 106 [.ref 37] S (fun v S' => v = some (.long (lN (mN A a (fun s2 => decide (s2 &&& 1 = 1))))) ∧ S' = S) := by
  refine mt_of (by decide) (Nat.le_of_ble_eq_true rfl) ?_
  intro x hl hR hmL C E
  show GG x 106 0 0 [.ref 37, unk, unk, unk] [] S 0
  refine n_lconst C 0 dX0_initialOnes_0 ?_
  refine g_lstore_n C (by rw [hmL]; decide) dX0_initialOnes_1 [.ref 37, .long (lN (0)), unk, unk] rfl ?_
  refine n_iconst C 0 dX0_initialOnes_2 ?_
  refine g_istore_n C (by rw [hmL]; decide) dX0_initialOnes_3 [.ref 37, .long (lN (0)), unk, .int (nI (0))] rfl ?_
  refine lp_initialOnes hR hmL C hg hC hP ?_ L.length 0 (Nat.zero_add _)
  refine g_lload_n C dX0_initialOnes_46 rfl ?_
  exact g_lret C E dX0_initialOnes_47 (by rw [hR]; decide) (by rw [hR]; decide) ⟨by rw [accN_mN hP], rfl⟩

set_option maxRecDepth 100000 in
theorem lp_atomsWith {x : Cx} (hR : xR x = MX0_atomsWith.rm) (hmL : (xc x).maxLocals = MX0_atomsWith.nL) (C : BX x cX0_atomsWith RX0) {S : pv_M} {A : Ab} {a : Nat} {L : List Nat} {P : Nat} (hg : gdR (A.1.1 a)) (hC : AtC A a L P S) (hP : AtP A a L P) {w : Nat} (hw : w < 64) (kk : GG x 106 0 0 [.ref 37, .int (nI (w)), .long (lN (accS L (fun s2 => decide (¬ (s2 &&& w) = 0)) (L.length))), unk, .int (nI (L.length))] [] (S) 44) : ∀ z i, i + z = L.length → GG x 106 0 0 [.ref 37, .int (nI (w)), .long (lN (accS L (fun s2 => decide (¬ (s2 &&& w) = 0)) (i))), unk, .int (nI (i))] [] (S) 5 := by
  have hl64 := hP.len
  intro z
  induction z with
  | zero =>
    intro i hz
    obtain rfl : L.length = i := by omega
    refine g_iload C dX0_atomsWith_5 rfl ?_
    refine g_aload_n C dX0_atomsWith_7 rfl ?_
    refine g_getI C fo_X0_31 dX0_atomsWith_8 rfl (by decide) (fun _ => rfl) hC.2.2.2.1 ?_
    refine n_ic_ge C 44 dX0_atomsWith_11 (fun h11 => ?_) (fun h11 => absurd h11 (by omega))
    exact kk
  | succ z ih =>
    intro i hz
    have hm := hP.at (i := i) (by omega)
    have hm64 := AL_lt hm
    have hlc : L.getD i 0 = L.getD i 0 := rfl
    have hand := and64 (b := w) hm64
    refine g_iload C dX0_atomsWith_5 rfl ?_
    refine g_aload_n C dX0_atomsWith_7 rfl ?_
    refine g_getI C fo_X0_31 dX0_atomsWith_8 rfl (by decide) (fun _ => rfl) hC.2.2.2.1 ?_
    refine n_ic_ge C 44 dX0_atomsWith_11 (fun h11 => absurd h11 (by omega)) (fun h11 => ?_)
    refine g_aload_n C dX0_atomsWith_14 rfl ?_
    refine g_getR C fo_X0_35 dX0_atomsWith_15 rfl (by decide) (fun _ => rfl) (gs_37_6 hC.1) ?_
    refine g_iload C dX0_atomsWith_18 rfl ?_
    refine n_iald C dX0_atomsWith_20 rfl (by decide) (hC.2.2.2.2.1 _ (by omega)) ?_ (by omega)
    refine g_iload_n C dX0_atomsWith_21 rfl ?_
    refine n_iand C dX0_atomsWith_22 ?_
    refine n_if_eq C 38 dX0_atomsWith_23 (fun h23 => ?_) (fun h23 => ?_)
    · refine n_iinc C (by rw [hmL]; decide) dX0_atomsWith_38 rfl (n_i1 _) [.ref 37, .int (nI (w)), .long (lN (accS L (fun s2 => decide (¬ (s2 &&& w) = 0)) (i))), unk, .int (nI (i + 1))] ?_
      refine g_goto C 5 dX0_atomsWith_41 (by decide) ?_
      have k9 := ih (i + 1) (by omega)
      rw [accS_n (p := fun s2 => decide (¬ (s2 &&& w) = 0)) (by exact decide_eq_false (fun z => z h23))] at k9
      exact k9
    · refine g_lload_n C dX0_atomsWith_26 rfl ?_
      refine n_lconst C 1 dX0_atomsWith_27 ?_
      refine g_aload_n C dX0_atomsWith_28 rfl ?_
      refine g_getR C fo_X0_35 dX0_atomsWith_29 rfl (by decide) (fun _ => rfl) (gs_37_6 hC.1) ?_
      refine g_iload C dX0_atomsWith_32 rfl ?_
      refine n_iald C dX0_atomsWith_34 rfl (by decide) (hC.2.2.2.2.1 _ (by omega)) ?_ (by omega)
      refine n_lshl C dX0_atomsWith_35 ?_ (by omega)
      refine n_lor C dX0_atomsWith_36 ?_
      refine g_lstore_n C (by rw [hmL]; decide) dX0_atomsWith_37 [.ref 37, .int (nI (w)), .long (lN ((accS L (fun s2 => decide (¬ (s2 &&& w) = 0)) (i)) ||| ((1) * 2 ^ (L.getD i 0)))), unk, .int (nI (i))] rfl ?_
      refine n_iinc C (by rw [hmL]; decide) dX0_atomsWith_38 rfl (n_i1 _) [.ref 37, .int (nI (w)), .long (lN ((accS L (fun s2 => decide (¬ (s2 &&& w) = 0)) (i)) ||| ((1) * 2 ^ (L.getD i 0)))), unk, .int (nI (i + 1))] ?_
      refine g_goto C 5 dX0_atomsWith_41 (by decide) ?_
      rw [accS_y (p := fun s2 => decide (¬ (s2 &&& w) = 0)) (by exact decide_eq_true h23)]
      exact ih (i + 1) (by omega)

set_option maxRecDepth 100000 in
theorem k_atomsWith (l : Launch) {S : pv_M} {A : Ab} {a : Nat} {L : List Nat} {P : Nat} (hg : gdR (A.1.1 a)) (hC : AtC A a L P S) (hP : AtP A a L P) {w : Nat} (hw : w < 64) : mt l MX0_atomsWith 106 [.ref 37, .int (nI (w))] S (fun v S' => v = some (.long (lN (mS A a (fun s2 => decide (¬ (s2 &&& w) = 0))))) ∧ S' = S) := by
  refine mt_of (by decide) (Nat.le_of_ble_eq_true rfl) ?_
  intro x hl hR hmL C E
  show GG x 106 0 0 [.ref 37, .int (nI (w)), unk, unk, unk] [] S 0
  refine n_lconst C 0 dX0_atomsWith_0 ?_
  refine g_lstore_n C (by rw [hmL]; decide) dX0_atomsWith_1 [.ref 37, .int (nI (w)), .long (lN (0)), unk, unk] rfl ?_
  refine n_iconst C 0 dX0_atomsWith_2 ?_
  refine g_istore C (by rw [hmL]; decide) dX0_atomsWith_3 [.ref 37, .int (nI (w)), .long (lN (0)), unk, .int (nI (0))] rfl ?_
  refine lp_atomsWith hR hmL C hg hC hP hw ?_ L.length 0 (Nat.zero_add _)
  refine g_lload_n C dX0_atomsWith_44 rfl ?_
  exact g_lret C E dX0_atomsWith_45 (by rw [hR]; decide) (by rw [hR]; decide) ⟨by rw [accS_mS hP], rfl⟩

set_option maxRecDepth 100000 in
theorem lp_languageOf {x : Cx} (hR : xR x = MX0_languageOf.rm) (hmL : (xc x).maxLocals = MX0_languageOf.nL) (C : BX x cX0_languageOf RX0) {S : pv_M} {A : Ab} {a : Nat} {L : List Nat} {P : Nat} (hg : gdR (A.1.1 a)) (hC : AtC A a L P S) (hP : AtP A a L P) {X : Nat} (hX : X < 2 ^ 64) (kk : GG x 106 0 0 [.ref 37, .long (lN (X)), unk, .long (lN (accS L (fun s2 => X.testBit ((AL A a).idxOf s2)) (L.length))), unk, .int (nI (L.length))] [] (S) 50) : ∀ z i, i + z = L.length → GG x 106 0 0 [.ref 37, .long (lN (X)), unk, .long (lN (accS L (fun s2 => X.testBit ((AL A a).idxOf s2)) (i))), unk, .int (nI (i))] [] (S) 5 := by
  have hl64 := hP.len
  intro z
  induction z with
  | zero =>
    intro i hz
    obtain rfl : L.length = i := by omega
    refine g_iload C dX0_languageOf_5 rfl ?_
    refine g_aload_n C dX0_languageOf_7 rfl ?_
    refine g_getI C fo_X0_31 dX0_languageOf_8 rfl (by decide) (fun _ => rfl) hC.2.2.2.1 ?_
    refine n_ic_ge C 50 dX0_languageOf_11 (fun h11 => ?_) (fun h11 => absurd h11 (by omega))
    exact kk
  | succ z ih =>
    intro i hz
    have hm := hP.at (i := i) (by omega)
    have hm64 := AL_lt hm
    have hlc : L.getD i 0 = L.getD i 0 := rfl
    have hix : (AL A a).idxOf (L.getD i 0) < 64 := Nat.lt_of_lt_of_le (idx_lt hm) AL_len
    refine g_iload C dX0_languageOf_5 rfl ?_
    refine g_aload_n C dX0_languageOf_7 rfl ?_
    refine g_getI C fo_X0_31 dX0_languageOf_8 rfl (by decide) (fun _ => rfl) hC.2.2.2.1 ?_
    refine n_ic_ge C 50 dX0_languageOf_11 (fun h11 => absurd h11 (by omega)) (fun h11 => ?_)
    refine g_lload_n C dX0_languageOf_14 rfl ?_
    refine g_aload_n C dX0_languageOf_15 rfl ?_
    refine g_aload_n C dX0_languageOf_16 rfl ?_
    refine g_getR C fo_X0_35 dX0_languageOf_17 rfl (by decide) (fun _ => rfl) (gs_37_6 hC.1) ?_
    refine g_iload C dX0_languageOf_20 rfl ?_
    refine n_iald C dX0_languageOf_22 rfl (by decide) (hC.2.2.2.2.1 _ (by omega)) ?_ (by omega)
    refine g_callV C (As := [.int (nI (L.getD i 0))]) (k_number _ hg hC hP hm) vo_X0_106 dX0_languageOf_23 rfl rfl (by decide) rfl (rm_ok (M' := MX0_languageOf) hR (by decide)) (Nat.le_of_ble_eq_true rfl) (fun v9 S5 h9 => ?_)
    obtain ⟨rfl, h9⟩ := h9
    refine g_S S h9 ?_
    refine g_n0 [.int (nI ((AL A a).idxOf (L.getD i 0))), .long (lN (X))] rfl rfl rfl ?_
    refine g_callS C (k_holds _ hX hix) so_X0_88 dX0_languageOf_26 rfl rfl (rm_ok (M' := MX0_languageOf) hR (by decide)) (Nat.le_of_ble_eq_true rfl) (fun v9 S5 h9 => ?_)
    obtain ⟨rfl, h9⟩ := h9
    refine g_S S h9 ?_
    refine g_n0 [.int (bI (X.testBit ((AL A a).idxOf (L.getD i 0))))] rfl rfl rfl ?_
    refine b_if_eq C 44 dX0_languageOf_29 (fun h29 => ?_) (fun h29 => ?_)
    · refine n_iinc C (by rw [hmL]; decide) dX0_languageOf_44 rfl (n_i1 _) [.ref 37, .long (lN (X)), unk, .long (lN (accS L (fun s2 => X.testBit ((AL A a).idxOf s2)) (i))), unk, .int (nI (i + 1))] ?_
      refine g_goto C 5 dX0_languageOf_47 (by decide) ?_
      have k9 := ih (i + 1) (by omega)
      rw [accS_n (p := fun s2 => X.testBit ((AL A a).idxOf s2)) (by exact h29)] at k9
      exact k9
    · refine g_lload_n C dX0_languageOf_32 rfl ?_
      refine n_lconst C 1 dX0_languageOf_33 ?_
      refine g_aload_n C dX0_languageOf_34 rfl ?_
      refine g_getR C fo_X0_35 dX0_languageOf_35 rfl (by decide) (fun _ => rfl) (gs_37_6 hC.1) ?_
      refine g_iload C dX0_languageOf_38 rfl ?_
      refine n_iald C dX0_languageOf_40 rfl (by decide) (hC.2.2.2.2.1 _ (by omega)) ?_ (by omega)
      refine n_lshl C dX0_languageOf_41 ?_ (by omega)
      refine n_lor C dX0_languageOf_42 ?_
      refine g_lstore_n C (by rw [hmL]; decide) dX0_languageOf_43 [.ref 37, .long (lN (X)), unk, .long (lN ((accS L (fun s2 => X.testBit ((AL A a).idxOf s2)) (i)) ||| ((1) * 2 ^ (L.getD i 0)))), unk, .int (nI (i))] rfl ?_
      refine n_iinc C (by rw [hmL]; decide) dX0_languageOf_44 rfl (n_i1 _) [.ref 37, .long (lN (X)), unk, .long (lN ((accS L (fun s2 => X.testBit ((AL A a).idxOf s2)) (i)) ||| ((1) * 2 ^ (L.getD i 0)))), unk, .int (nI (i + 1))] ?_
      refine g_goto C 5 dX0_languageOf_47 (by decide) ?_
      rw [accS_y (p := fun s2 => X.testBit ((AL A a).idxOf s2)) (by exact h29)]
      exact ih (i + 1) (by omega)

set_option maxRecDepth 100000 in
theorem k_languageOf (l : Launch) {S : pv_M} {A : Ab} {a : Nat} {L : List Nat} {P : Nat} (hg : gdR (A.1.1 a)) (hC : AtC A a L P S) (hP : AtP A a L P) {X : Nat} (hX : X < 2 ^ 64) : mt l MX0_languageOf 106 [.ref 37, .long (lN (X))] S (fun v S' => v = some (.long (lN (mS A a (fun s2 => X.testBit ((AL A a).idxOf s2))))) ∧ S' = S) := by
  refine mt_of (by decide) (Nat.le_of_ble_eq_true rfl) ?_
  intro x hl hR hmL C E
  show GG x 106 0 0 [.ref 37, .long (lN (X)), unk, unk, unk, unk] [] S 0
  refine n_lconst C 0 dX0_languageOf_0 ?_
  refine g_lstore_n C (by rw [hmL]; decide) dX0_languageOf_1 [.ref 37, .long (lN (X)), unk, .long (lN (0)), unk, unk] rfl ?_
  refine n_iconst C 0 dX0_languageOf_2 ?_
  refine g_istore C (by rw [hmL]; decide) dX0_languageOf_3 [.ref 37, .long (lN (X)), unk, .long (lN (0)), unk, .int (nI (0))] rfl ?_
  refine lp_languageOf hR hmL C hg hC hP hX ?_ L.length 0 (Nat.zero_add _)
  refine g_lload_n C dX0_languageOf_50 rfl ?_
  exact g_lret C E dX0_languageOf_51 (by rw [hR]; decide) (by rw [hR]; decide) ⟨by rw [accS_mS hP], rfl⟩

set_option maxRecDepth 100000 in
theorem lp_quotient {x : Cx} (hR : xR x = MX0_quotient.rm) (hmL : (xc x).maxLocals = MX0_quotient.nL) (C : BX x cX0_quotient RX0) {S : pv_M} {A : Ab} {a : Nat} {L : List Nat} {P : Nat} (hg : gdR (A.1.1 a)) (hC : AtC A a L P S) (hP : AtP A a L P) {X q : Nat} (hX : X < 2 ^ 64) (hq : q < 3) (kk : GG x 106 0 0 [.ref 37, .long (lN (X)), unk, .int (nI (q)), .long (lN (accS L (fun s2 => X.testBit (sa A a s2 q)) (L.length))), unk, .int (nI (L.length))] [] (S) 54) : ∀ z i, i + z = L.length → GG x 106 0 0 [.ref 37, .long (lN (X)), unk, .int (nI (q)), .long (lN (accS L (fun s2 => X.testBit (sa A a s2 q)) (i))), unk, .int (nI (i))] [] (S) 6 := by
  have hl64 := hP.len
  intro z
  induction z with
  | zero =>
    intro i hz
    obtain rfl : L.length = i := by omega
    refine g_iload C dX0_quotient_6 rfl ?_
    refine g_aload_n C dX0_quotient_8 rfl ?_
    refine g_getI C fo_X0_31 dX0_quotient_9 rfl (by decide) (fun _ => rfl) hC.2.2.2.1 ?_
    refine n_ic_ge C 54 dX0_quotient_12 (fun h12 => ?_) (fun h12 => absurd h12 (by omega))
    exact kk
  | succ z ih =>
    intro i hz
    have hm := hP.at (i := i) (by omega)
    have hm64 := AL_lt hm
    have hlc : L.getD i 0 = L.getD i 0 := rfl
    
    refine g_iload C dX0_quotient_6 rfl ?_
    refine g_aload_n C dX0_quotient_8 rfl ?_
    refine g_getI C fo_X0_31 dX0_quotient_9 rfl (by decide) (fun _ => rfl) hC.2.2.2.1 ?_
    refine n_ic_ge C 54 dX0_quotient_12 (fun h12 => absurd h12 (by omega)) (fun h12 => ?_)
    refine g_lload_n C dX0_quotient_15 rfl ?_
    refine g_aload_n C dX0_quotient_16 rfl ?_
    refine g_aload_n C dX0_quotient_17 rfl ?_
    refine g_getR C fo_X0_35 dX0_quotient_18 rfl (by decide) (fun _ => rfl) (gs_37_6 hC.1) ?_
    refine g_iload C dX0_quotient_21 rfl ?_
    refine n_iald C dX0_quotient_23 rfl (by decide) (hC.2.2.2.2.1 _ (by omega)) ?_ (by omega)
    refine g_iload_n C dX0_quotient_24 rfl ?_
    refine g_callV C (As := [.int (nI (L.getD i 0)), .int (nI (q))]) (k_fol _ hg hC hm hq) vo_X0_85 dX0_quotient_25 rfl rfl (by decide) rfl (rm_ok (M' := MX0_quotient) hR (by decide)) (Nat.le_of_ble_eq_true rfl) (fun v9 S5 h9 => ?_)
    obtain ⟨rfl, h9⟩ := h9
    refine g_S S h9 ?_
    refine g_n0 [.int (nI (sa A a (L.getD i 0) q)), .long (lN (X))] rfl rfl rfl ?_
    refine g_callS C (k_holds _ hX (sa_lt hg)) so_X0_88 dX0_quotient_28 rfl rfl (rm_ok (M' := MX0_quotient) hR (by decide)) (Nat.le_of_ble_eq_true rfl) (fun v9 S5 h9 => ?_)
    obtain ⟨rfl, h9⟩ := h9
    refine g_S S h9 ?_
    refine g_n0 [.int (bI (X.testBit (sa A a (L.getD i 0) q)))] rfl rfl rfl ?_
    refine b_if_eq C 48 dX0_quotient_31 (fun h31 => ?_) (fun h31 => ?_)
    · refine n_iinc C (by rw [hmL]; decide) dX0_quotient_48 rfl (n_i1 _) [.ref 37, .long (lN (X)), unk, .int (nI (q)), .long (lN (accS L (fun s2 => X.testBit (sa A a s2 q)) (i))), unk, .int (nI (i + 1))] ?_
      refine g_goto C 6 dX0_quotient_51 (by decide) ?_
      have k9 := ih (i + 1) (by omega)
      rw [accS_n (p := fun s2 => X.testBit (sa A a s2 q)) (by exact h31)] at k9
      exact k9
    · refine g_lload C dX0_quotient_34 rfl ?_
      refine n_lconst C 1 dX0_quotient_36 ?_
      refine g_aload_n C dX0_quotient_37 rfl ?_
      refine g_getR C fo_X0_35 dX0_quotient_38 rfl (by decide) (fun _ => rfl) (gs_37_6 hC.1) ?_
      refine g_iload C dX0_quotient_41 rfl ?_
      refine n_iald C dX0_quotient_43 rfl (by decide) (hC.2.2.2.2.1 _ (by omega)) ?_ (by omega)
      refine n_lshl C dX0_quotient_44 ?_ (by omega)
      refine n_lor C dX0_quotient_45 ?_
      refine g_lstore C (by rw [hmL]; decide) dX0_quotient_46 [.ref 37, .long (lN (X)), unk, .int (nI (q)), .long (lN ((accS L (fun s2 => X.testBit (sa A a s2 q)) (i)) ||| ((1) * 2 ^ (L.getD i 0)))), unk, .int (nI (i))] rfl ?_
      refine n_iinc C (by rw [hmL]; decide) dX0_quotient_48 rfl (n_i1 _) [.ref 37, .long (lN (X)), unk, .int (nI (q)), .long (lN ((accS L (fun s2 => X.testBit (sa A a s2 q)) (i)) ||| ((1) * 2 ^ (L.getD i 0)))), unk, .int (nI (i + 1))] ?_
      refine g_goto C 6 dX0_quotient_51 (by decide) ?_
      rw [accS_y (p := fun s2 => X.testBit (sa A a s2 q)) (by exact h31)]
      exact ih (i + 1) (by omega)

set_option maxRecDepth 100000 in
theorem k_quotient (l : Launch) {S : pv_M} {A : Ab} {a : Nat} {L : List Nat} {P : Nat} (hg : gdR (A.1.1 a)) (hC : AtC A a L P S) (hP : AtP A a L P) {X q : Nat} (hX : X < 2 ^ 64) (hq : q < 3) : mt l MX0_quotient 106 [.ref 37, .long (lN (X)), .int (nI (q))] S (fun v S' => v = some (.long (lN (mS A a (fun s2 => X.testBit (sa A a s2 q))))) ∧ S' = S) := by
  refine mt_of (by decide) (Nat.le_of_ble_eq_true rfl) ?_
  intro x hl hR hmL C E
  show GG x 106 0 0 [.ref 37, .long (lN (X)), unk, .int (nI (q)), unk, unk, unk] [] S 0
  refine n_lconst C 0 dX0_quotient_0 ?_
  refine g_lstore C (by rw [hmL]; decide) dX0_quotient_1 [.ref 37, .long (lN (X)), unk, .int (nI (q)), .long (lN (0)), unk, unk] rfl ?_
  refine n_iconst C 0 dX0_quotient_3 ?_
  refine g_istore C (by rw [hmL]; decide) dX0_quotient_4 [.ref 37, .long (lN (X)), unk, .int (nI (q)), .long (lN (0)), unk, .int (nI (0))] rfl ?_
  refine lp_quotient hR hmL C hg hC hP hX hq ?_ L.length 0 (Nat.zero_add _)
  refine g_lload C dX0_quotient_54 rfl ?_
  exact g_lret C E dX0_quotient_56 (by rw [hR]; decide) (by rw [hR]; decide) ⟨by rw [accS_mS hP], rfl⟩

/-- the set of the last k letters of a word -/
def bS (A : Ab) (a m : Nat) (W : Nat → Nat) : Nat → Nat
  | 0 => fA A a
  | k + 1 => sa A a (bS A a m W k) (W (m - 1 - k))
theorem bS_mem {A : Ab} {a m : Nat} {W : Nat → Nat} (hg : gdR (A.1.1 a)) (hW : ∀ i, W i < 3) : ∀ k, bS A a m W k ∈ AL A a
  | 0 => AL_fA hg
  | k + 1 => AL_sa hg (bS_mem hg hW k) (hW _)
/-- the state behind the last k letters -/
def rnk (A : Ab) (a m : Nat) (W : Nat → Nat) : Nat → Nat → Nat
  | 0, s => s
  | k + 1, s => rnk A a m W k (rT A a (s * 3 + W (m - 1 - k)))
theorem rnk_st {A : Ab} {a m : Nat} {W : Nat → Nat} (s : Nat) : ∀ j, j ≤ m → rnk A a m W (m - j) (stA (rT A a) W s j) = rnk A a m W m s
  | 0, _ => rfl
  | j + 1, h => by
    have ih := rnk_st (A := A) (a := a) (m := m) (W := W) s j (by omega)
    rw [show m - j = m - (j + 1) + 1 by omega] at ih
    rw [← ih]
    show _ = rnk A a m W (m - (j + 1)) (rT A a (stA (rT A a) W s j * 3 + W (m - 1 - (m - (j + 1)))))
    rw [show m - 1 - (m - (j + 1)) = j by omega]
    rfl
theorem bS_bit {A : Ab} {a m : Nat} {W : Nat → Nat} (hg : gdR (A.1.1 a)) (hW : ∀ i, W i < 3) : ∀ k s, s ∈ Rm A a → (bS A a m W k).testBit (co A a s) = (rF A a).testBit (rnk A a m W k s)
  | 0, s, hs => by
    show (ofS A a (k6 A a)).testBit (co A a s) = (rF A a).testBit s
    rw [ofS_co hg bf_0 hs, k6_bit (Rm_dm hg s hs)]
  | k + 1, s, hs => by
    show (sa A a (bS A a m W k) (W (m - 1 - k))).testBit (co A a s) = (rF A a).testBit (rnk A a m W k (rT A a (s * 3 + W (m - 1 - k))))
    have hl := hW (m - 1 - k)
    have hc := co_lt hs
    rw [sa_bit, ← bS_bit hg hW k _ (Rm_cl hg hs hl), co_step hg (qS_mem hc) hs hl (co_qS hc)]
    simp [hc]
theorem bS_wS {A : Ab} {a : Nat} (hg : gdR (A.1.1 a)) (hW : ∀ i, wL A i < 3) : bS A a (wM A) (wL A) (wM A) = wSi A a (cQ A a) := by
  have hlt : bS A a (wM A) (wL A) (wM A) < 2 ^ cQ A a := AL_c hg (bS_mem hg hW _)
  apply Nat.eq_of_testBit_eq
  intro q
  unfold wSi
  rw [orf_pow]
  by_cases h : q < cQ A a
  · have e := bS_bit (m := wM A) hg hW (wM A) (qS A a q) (qS_mem h)
    rw [co_qS h] at e
    rw [e, ← rnk_st (qS A a q) (wM A) (Nat.le_refl _), Nat.sub_self]
    simp [h]
    rfl
  · rw [Nat.testBit_lt_two_pow (Nat.lt_of_lt_of_le hlt (Nat.pow_le_pow_right (by decide) (by omega)))]
    simp [h]

set_option maxRecDepth 100000 in
theorem lp_setOfWord {x : Cx} (hR : xR x = MX0_setOfWord.rm) (hmL : (xc x).maxLocals = MX0_setOfWord.nL) (C : BX x cX0_setOfWord RX0) {S : pv_M} {A : Ab} {a : Nat} {L : List Nat} {P : Nat} (hg : gdR (A.1.1 a)) (hC : AtC A a L P S) (hP : AtP A a L P) {m : Nat} {W : Nat → Nat} (hw : WordAt S 3 4 m W) (hW : ∀ i, W i < 3) (kk : GG x 106 0 0 [.ref 37, .ref 3, .int (nI (bS A a m W m)), .int (nI 0 - 1)] [] (S) 34) : ∀ j, j ≤ m → GG x 106 0 0 [.ref 37, .ref 3, .int (nI (bS A a m W (m - (j)))), .int (nI (j) - 1)] [] (S) 12 := by
  have hm12 := hw.2.2.2.2.2.2.1
  intro j
  induction j with
  | zero =>
    intro hj
    refine g_iload_n C dX0_setOfWord_12 rfl ?_
    refine g_if_lt C 34 dX0_setOfWord_13 (by decide) (fun _ => ?_) (fun h => absurd (show nI 0 - 1 < 0 by decide) h)
    exact kk
  | succ j ih =>
    intro hj
    rw [nI_pred]
    have hmem := bS_mem (m := m) hg hW (m - (j + 1))
    refine g_iload_n C dX0_setOfWord_12 rfl ?_
    refine g_if_lt C 34 dX0_setOfWord_13 (by decide) (fun h => absurd h (nI_pos (by omega))) (fun _ => ?_)
    refine g_aload_n C dX0_setOfWord_16 rfl ?_
    refine g_iload_n C dX0_setOfWord_17 rfl ?_
    refine g_aload_n C dX0_setOfWord_18 rfl ?_
    refine g_getR C fo_X0_103 dX0_setOfWord_19 rfl (by decide) (fun _ => rfl) hw.2.2.2.2.1 ?_
    refine g_iload_n C dX0_setOfWord_22 rfl ?_
    refine n_iald C dX0_setOfWord_23 rfl (by decide) (hw.2.2.2.2.2.2.2 j (by omega)) ?_ (by omega)
    refine g_callV C (As := [.int (nI (bS A a m W (m - (j + 1)))), .int (nI (W j))]) (k_fol _ hg hC hmem (hW j)) vo_X0_85 dX0_setOfWord_24 rfl rfl (by decide) rfl (rm_ok (M' := MX0_setOfWord) hR (by decide)) (Nat.le_of_ble_eq_true rfl) (fun v9 S9 h9 => ?_)
    obtain ⟨rfl, h9⟩ := h9
    refine g_S S h9 ?_
    refine g_n0 [.int (nI (sa A a (bS A a m W (m - (j + 1))) (W j)))] rfl rfl rfl ?_
    refine g_istore_n C (by rw [hmL]; decide) dX0_setOfWord_27 [.ref 37, .ref 3, .int (nI (sa A a (bS A a m W (m - (j + 1))) (W j))), .int (nI (j))] rfl ?_
    refine g_iinc C (by rw [hmL]; decide) dX0_setOfWord_28 rfl [.ref 37, .ref 3, .int (nI (sa A a (bS A a m W (m - (j + 1))) (W j))), .int (nI (j) - 1)] (by rw [show nI j + Int32.ofInt (-1) = nI j - 1 from nI_sub1 _]; rfl) ?_
    refine g_goto C 12 dX0_setOfWord_31 (by decide) ?_
    have e : sa A a (bS A a m W (m - (j + 1))) (W j) = bS A a m W (m - j) := by
      rw [show m - j = m - (j + 1) + 1 by omega]
      show _ = sa A a (bS A a m W (m - (j + 1))) (W (m - 1 - (m - (j + 1))))
      rw [show m - 1 - (m - (j + 1)) = j by omega]
    rw [e]
    exact ih (by omega)

set_option maxRecDepth 100000 in
theorem k_setOfWord (l : Launch) {S : pv_M} {A : Ab} {a : Nat} {L : List Nat} {P : Nat} (hg : gdR (A.1.1 a)) (hC : AtC A a L P S) (hP : AtP A a L P) {m : Nat} {W : Nat → Nat} (hw : WordAt S 3 4 m W) (hW : ∀ i, W i < 3) : mt l MX0_setOfWord 106 [.ref 37, .ref 3] S (fun v S' => v = some (.int (nI (bS A a m W m))) ∧ S' = S) := by
  refine mt_of (by decide) (Nat.le_of_ble_eq_true rfl) ?_
  intro x hl hR hmL C E
  show GG x 106 0 0 [.ref 37, .ref 3, unk, unk] [] S 0
  refine g_aload_n C dX0_setOfWord_0 rfl ?_
  refine g_callV C (As := []) (c_X0_startCode _ (gs_37_0 hC.1) hC.2.1) vo_X0_77 dX0_setOfWord_1 rfl rfl (by decide) rfl (rm_ok (M' := MX0_setOfWord) hR (by decide)) (Nat.le_of_ble_eq_true rfl) (fun v9 S9 h9 => ?_)
  obtain ⟨rfl, h9⟩ := h9
  refine g_S S h9 ?_
  refine g_n0 [.int (nI (fA A a))] rfl rfl rfl ?_
  refine g_istore_n C (by rw [hmL]; decide) dX0_setOfWord_4 [.ref 37, .ref 3, .int (nI (fA A a)), unk] rfl ?_
  refine g_aload_n C dX0_setOfWord_5 rfl ?_
  refine g_getI C fo_X0_98 dX0_setOfWord_6 rfl (by decide) (fun _ => rfl) hw.2.2.2.2.2.1 ?_
  refine g_iconst C (1) dX0_setOfWord_9 (by decide) ?_
  refine g_isub C dX0_setOfWord_10 ?_
  refine g_istore_n C (by rw [hmL]; decide) dX0_setOfWord_11 [.ref 37, .ref 3, .int (nI (fA A a)), .int ((nI (m)) - ((1)))] rfl ?_
  have key := lp_setOfWord hR hmL C hg hC hP hw hW ?_ m (Nat.le_refl _)
  · rw [Nat.sub_self] at key
    exact key
  · refine g_iload_n C dX0_setOfWord_34 rfl ?_
    exact g_iret C E dX0_setOfWord_35 (by rw [hR]; decide) (by rw [hR]; decide) ⟨rfl, rfl⟩
