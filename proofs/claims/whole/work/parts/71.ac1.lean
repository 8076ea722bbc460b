set_option maxRecDepth 100000 in
theorem k_bitCount (l : Launch) {S : pv_M} {X : Nat} (hX : X < 2 ^ 64) : mt l MJ13_bitCount_95d88 106 [.long (lN (X))] S (fun v S' => v = some (.int (nI (pcN X 64))) ∧ S' = S) := by
  refine mt_of (by decide) (Nat.le_of_ble_eq_true rfl) ?_
  intro x hl hR hmL C E
  show GG x 106 0 0 [.long (lN (X)), unk] [] S 0
  have q := p123 hX
  have r := dg_pc X
  have h1 : p1 X < 2 ^ 64 := Nat.lt_of_le_of_lt (Nat.sub_le _ _) hX
  have h2 : p2 (p1 X) < 2 ^ 64 := by rw [q.2.2.1]; exact dg_lt (B := 68) (by decide) (fun d hd => (b_facts d hd).2.2.2.1.1) 8 X
  have h3 : p3 (p2 (p1 X)) < 2 ^ 64 := by rw [q.2.2.2]; have := r.2.2.2.2; omega
  have h4 : p4 (p3 (p2 (p1 X))) < 2 ^ 64 := by rw [q.2.2.2]; exact r.2.1
  have h5 : p5 (p4 (p3 (p2 (p1 X)))) < 2 ^ 64 := by rw [q.2.2.2]; exact r.2.2.1
  refine g_lload_n C dJ13_bitCount_95d88_0 rfl ?_
  refine g_lload_n C dJ13_bitCount_95d88_1 rfl ?_
  refine n_iconst C 1 dJ13_bitCount_95d88_2 ?_
  refine n_lushr C dJ13_bitCount_95d88_3 ?_ (by omega) hX
  refine g_ldc2 C (v := lN 6148914691236517205) dJ13_bitCount_95d88_4 kc_J13_314 ?_
  refine n_land C dJ13_bitCount_95d88_7 ?_
  refine n_lsub C dJ13_bitCount_95d88_8 ?_ q.2.1
  refine g_lstore_n C (by rw [hmL]; decide) dJ13_bitCount_95d88_9 [.long (lN ((X) - (((X) / 2 ^ (1)) &&& (6148914691236517205)))), unk] rfl ?_
  show GG x 106 0 0 [.long (lN (p1 X)), unk] [] S 10
  refine g_lload_n C dJ13_bitCount_95d88_10 rfl ?_
  refine g_ldc2 C (v := lN 3689348814741910323) dJ13_bitCount_95d88_11 kc_J13_316 ?_
  refine n_land C dJ13_bitCount_95d88_14 ?_
  refine g_lload_n C dJ13_bitCount_95d88_15 rfl ?_
  refine n_iconst C 2 dJ13_bitCount_95d88_16 ?_
  refine n_lushr C dJ13_bitCount_95d88_17 ?_ (by omega) h1
  refine g_ldc2 C (v := lN 3689348814741910323) dJ13_bitCount_95d88_18 kc_J13_316 ?_
  refine n_land C dJ13_bitCount_95d88_21 ?_
  refine n_ladd C dJ13_bitCount_95d88_22 ?_
  refine g_lstore_n C (by rw [hmL]; decide) dJ13_bitCount_95d88_23 [.long (lN (((p1 X) &&& (3689348814741910323)) + (((p1 X) / 2 ^ (2)) &&& (3689348814741910323)))), unk] rfl ?_
  show GG x 106 0 0 [.long (lN (p2 (p1 X))), unk] [] S 24
  refine g_lload_n C dJ13_bitCount_95d88_24 rfl ?_
  refine g_lload_n C dJ13_bitCount_95d88_25 rfl ?_
  refine n_iconst C 4 dJ13_bitCount_95d88_26 ?_
  refine n_lushr C dJ13_bitCount_95d88_27 ?_ (by omega) h2
  refine n_ladd C dJ13_bitCount_95d88_28 ?_
  refine g_ldc2 C (v := lN 1085102592571150095) dJ13_bitCount_95d88_29 kc_J13_318 ?_
  refine n_land C dJ13_bitCount_95d88_32 ?_
  refine g_lstore_n C (by rw [hmL]; decide) dJ13_bitCount_95d88_33 [.long (lN (((p2 (p1 X)) + ((p2 (p1 X)) / 2 ^ (4))) &&& (1085102592571150095))), unk] rfl ?_
  show GG x 106 0 0 [.long (lN (p3 (p2 (p1 X)))), unk] [] S 34
  refine g_lload_n C dJ13_bitCount_95d88_34 rfl ?_
  refine g_lload_n C dJ13_bitCount_95d88_35 rfl ?_
  refine n_bipush C 8 dJ13_bitCount_95d88_36 ?_
  refine n_lushr C dJ13_bitCount_95d88_38 ?_ (by omega) h3
  refine n_ladd C dJ13_bitCount_95d88_39 ?_
  refine g_lstore_n C (by rw [hmL]; decide) dJ13_bitCount_95d88_40 [.long (lN ((p3 (p2 (p1 X))) + ((p3 (p2 (p1 X))) / 2 ^ (8)))), unk] rfl ?_
  show GG x 106 0 0 [.long (lN (p4 (p3 (p2 (p1 X))))), unk] [] S 41
  refine g_lload_n C dJ13_bitCount_95d88_41 rfl ?_
  refine g_lload_n C dJ13_bitCount_95d88_42 rfl ?_
  refine n_bipush C 16 dJ13_bitCount_95d88_43 ?_
  refine n_lushr C dJ13_bitCount_95d88_45 ?_ (by omega) h4
  refine n_ladd C dJ13_bitCount_95d88_46 ?_
  refine g_lstore_n C (by rw [hmL]; decide) dJ13_bitCount_95d88_47 [.long (lN ((p4 (p3 (p2 (p1 X)))) + ((p4 (p3 (p2 (p1 X)))) / 2 ^ (16)))), unk] rfl ?_
  show GG x 106 0 0 [.long (lN (p5 (p4 (p3 (p2 (p1 X)))))), unk] [] S 48
  refine g_lload_n C dJ13_bitCount_95d88_48 rfl ?_
  refine g_lload_n C dJ13_bitCount_95d88_49 rfl ?_
  refine n_bipush C 32 dJ13_bitCount_95d88_50 ?_
  refine n_lushr C dJ13_bitCount_95d88_52 ?_ (by omega) h5
  refine n_ladd C dJ13_bitCount_95d88_53 ?_
  refine g_lstore_n C (by rw [hmL]; decide) dJ13_bitCount_95d88_54 [.long (lN ((p5 (p4 (p3 (p2 (p1 X))))) + ((p5 (p4 (p3 (p2 (p1 X))))) / 2 ^ (32)))), unk] rfl ?_
  show GG x 106 0 0 [.long (lN (p6 (p5 (p4 (p3 (p2 (p1 X))))))), unk] [] S 55
  refine g_lload_n C dJ13_bitCount_95d88_55 rfl ?_
  refine n_l2i C dJ13_bitCount_95d88_56 ?_
  refine n_bipush C 127 dJ13_bitCount_95d88_57 ?_
  refine n_iand C dJ13_bitCount_95d88_59 ?_
  exact g_iret C E dJ13_bitCount_95d88_60 (by rw [hR]; decide) (by rw [hR]; decide) ⟨by rw [show (127 : Nat) = 2 ^ 7 - 1 from rfl, Nat.and_two_pow_sub_one_eq_mod, q.2.2.2]; exact congrArg (fun z => some (Value.int (nI z))) r.1, rfl⟩

set_option maxRecDepth 100000 in
theorem k_holds (l : Launch) {S : pv_M} {X s : Nat} (hX : X < 2 ^ 64) (hs : s < 64) : mt l MX0_holds 106 [.long (lN (X)), .int (nI (s))] S (fun v S' => v = some (.int (bI (X.testBit s))) ∧ S' = S) := by
  refine mt_of (by decide) (Nat.le_of_ble_eq_true rfl) ?_
  intro x hl hR hmL C E
  show GG x 106 0 0 [.long (lN (X)), unk, .int (nI (s))] [] S 0
  refine g_lload_n C dX0_holds_0 rfl ?_
  refine g_iload_n C dX0_holds_1 rfl ?_
  refine n_lushr C dX0_holds_2 ?_ (by omega) hX
  refine n_lconst C 1 dX0_holds_3 ?_
  refine n_land C dX0_holds_4 ?_
  refine n_lconst C 1 dX0_holds_5 ?_
  refine g_lcmp C dX0_holds_6 ?_
  suffices K15 : GG x 106 0 0 [.long (lN (X)), unk, .int (nI (s))] [.int (bI (X.testBit s))] S 15 from by
    refine t_if_ne C 14 dX0_holds_7 (fun h7 => ?_) (fun h7 => ?_)
    · refine n_iconst C 0 dX0_holds_14 ?_
      rw [h7] at K15; exact K15
    · refine n_iconst C 1 dX0_holds_10 ?_
      refine g_goto C 15 dX0_holds_11 (by decide) ?_
      rw [h7] at K15; exact K15
  exact g_zret C E dX0_holds_15 (bI_01 _) (by rw [hR]; decide) (by rw [hR]; decide) ⟨rfl, rfl⟩

/-- the class's minimal automaton of a register -/
def tQ (A : Ab) (a : Nat) : Nat → Nat := mnT (Rm A a).length (nxt (d8 A a) (Rm A a)) (kQ A a) (cQ A a)
/-- the class's atoms: the automaton, the steps backwards, the atoms in the order of their first words, as bits -/
def AtC (A : Ab) (a : Nat) (L : List Nat) (P : Nat) (S : pv_M) : Prop := GS S ∧ AutoAt S 38 39 (cQ A a) (tQ A a) (fA A a) ∧ (∀ l, l < 3 → ∀ X, X < 2 ^ cQ A a → mI S 43 (l * 64 + X) = nI (sa A a X l)) ∧ mI S 37 5 = nI L.length ∧ (∀ i, i < L.length → mI S 46 i = nI (L.getD i 0)) ∧ mJ S 37 7 = lN P
def AtP (A : Ab) (a : Nat) (L : List Nat) (P : Nat) : Prop := L.Nodup ∧ (∀ s, s ∈ L ↔ s ∈ AL A a) ∧ P < 2 ^ 64 ∧ ∀ s, P.testBit s = decide (s ∈ AL A a)
theorem AL_c {A : Ab} {a s : Nat} (hg : gdR (A.1.1 a)) (h : s ∈ AL A a) : s < 2 ^ cQ A a := AL_ind hg (P := fun s => s < 2 ^ cQ A a) (pw_n (Nat.le_refl _)) (fun _ _ _ _ _ => pw_n (Nat.le_refl _)) s h
theorem AtP.len {A : Ab} {a : Nat} {L : List Nat} {P : Nat} (h : AtP A a L P) : L.length ≤ 64 := nodup_le h.1 (fun s hs => AL_lt ((h.2.1 s).mp hs))
theorem AtP.at {A : Ab} {a : Nat} {L : List Nat} {P i : Nat} (h : AtP A a L P) (hi : i < L.length) : L.getD i 0 ∈ AL A a := (h.2.1 _).mp (getD_mem hi)
theorem AtC.keepR {A : Ab} {a : Nat} {L : List Nat} {P : Nat} {S S' : pv_M} {Q : Nat → Prop} (h : AtC A a L P S) (k : FR Q S S') (g : GS S') (q : ¬ Q 37 ∧ ¬ Q 38 ∧ ¬ Q 39 ∧ ¬ Q 43 ∧ ¬ Q 46) : AtC A a L P S' :=
  ⟨g, h.2.1.keepR k q.2.1 q.2.2.1, by rw [(k 43 q.2.2.2.1).2.1]; exact h.2.2.1, by rw [(k 37 q.1).2.1]; exact h.2.2.2.1, by rw [(k 46 q.2.2.2.2).2.1]; exact h.2.2.2.2.1, by rw [(k 37 q.1).2.2.1]; exact h.2.2.2.2.2⟩
theorem AtC.sm {A : Ab} {a : Nat} {L : List Nat} {P : Nat} {S : pv_M} (h : AtC A a L P S) : SMAt S 42 43 := ⟨rfl, by decide, rfl, by decide, gs_42_0 h.1⟩
/-- a step backwards from an atom -/
theorem k_fol (l : Launch) {A : Ab} {a : Nat} {L : List Nat} {P : Nat} {S : pv_M} (hg : gdR (A.1.1 a)) (h : AtC A a L P S) {X q : Nat} (hX : X ∈ AL A a) (hq : q < 3) : mt l MX0_follow 106 [.ref 37, .int (nI X), .int (nI q)] S (fun v S' => v = some (.int (nI (sa A a X q))) ∧ S' = S) := c_X0_follow l (gs_37_3 h.1) h.sm hq (AL_lt hX) (h.2.2.1 q hq X (AL_c hg hX))
theorem pcN_and {P k : Nat} (j : Nat) : pcN (P &&& (2 ^ k - 1)) j = pcN P (min j k) := by
  induction j with
  | zero => rw [Nat.zero_min]; rfl
  | succ j ih =>
    show pcN (P &&& (2 ^ k - 1)) j + (if (P &&& (2 ^ k - 1)).testBit j then 1 else 0) = _
    rw [ih, Nat.testBit_and, Nat.testBit_two_pow_sub_one]
    by_cases h : j < k
    · rw [show min j k = j by omega, show min (j + 1) k = j + 1 by omega]
      simp [h]
      rfl
    · rw [show min j k = k by omega, show min (j + 1) k = k by omega]
      simp [h]
/-- the atoms below a set are as many as its number says -/
theorem pc_filter {P : Nat} {p : Nat → Bool} (h : ∀ s, P.testBit s = p s) : ∀ k, pcN P k = ((List.range k).filter p).length
  | 0 => rfl
  | k + 1 => by
    show pcN P k + _ = _
    rw [pc_filter h k, List.range_succ, List.filter_append, List.length_append, h k]
    by_cases hk : p k = true
    · rw [if_pos hk, List.filter_cons, if_pos hk, List.filter_nil]; rfl
    · rw [if_neg hk, List.filter_cons, if_neg hk, List.filter_nil]; rfl
theorem pc_y {P i : Nat} (h : P.testBit i = true) : pcN P (i + 1) = pcN P i + 1 := by show pcN P i + (if P.testBit i then 1 else 0) = _; rw [if_pos h]
theorem pc_n {P i : Nat} (h : P.testBit i = false) : pcN P (i + 1) = pcN P i := by show pcN P i + (if P.testBit i then 1 else 0) = _; rw [if_neg (by rw [h]; decide)]; rfl
theorem idx_filter {p : Nat → Bool} {s : Nat} (hp : p s = true) : ∀ n, s < n → ((List.range n).filter p).idxOf s = ((List.range s).filter p).length ∧ ((List.range n).filter p).getD ((List.range s).filter p).length 0 = s
  | 0, h => absurd h (Nat.not_lt_zero _)
  | n + 1, h => by
    rw [List.range_succ, List.filter_append]
    by_cases e : s = n
    · subst e
      have hn : s ∉ (List.range s).filter p := fun z => by have := List.mem_range.mp (List.mem_filter.mp z).1; omega
      rw [List.filter_cons, if_pos hp, List.filter_nil]
      refine ⟨by rw [List.idxOf_append, if_neg hn]; simp, ?_⟩
      rw [getD_snoc (by omega), if_pos rfl]
    · have ih := idx_filter hp n (by omega)
      have hm : s ∈ (List.range n).filter p := List.mem_filter.mpr ⟨List.mem_range.mpr (by omega), hp⟩
      have hl : ((List.range s).filter p).length < ((List.range n).filter p).length := by rw [← ih.1]; exact idx_lt hm
      refine ⟨by rw [List.idxOf_append, if_pos hm]; exact ih.1, ?_⟩
      rw [List.getD_eq_getElem?_getD, List.getElem?_append_left hl, ← List.getD_eq_getElem?_getD]
      exact ih.2
theorem pc_AL {A : Ab} {a : Nat} {P s : Nat} (h : ∀ s, P.testBit s = decide (s ∈ AL A a)) (hs : s ∈ AL A a) : pcN P s = (AL A a).idxOf s := by
  have hp : ∀ t, P.testBit t = (decide (t < 64) && decide (t ∈ (Rb A a).map (ofS A a))) := fun t => by
    rw [h t, Bool.eq_iff_iff, decide_eq_true_eq, Bool.and_eq_true, decide_eq_true_eq]
    unfold AL
    rw [List.mem_filter, List.mem_range]
  have key : ∀ k, k ≤ 64 → pcN P k = ((List.range k).filter (fun s => decide (s ∈ (Rb A a).map (ofS A a)))).length := fun k hk => by
    rw [pc_filter hp k]
    congr 1
    exact List.filter_congr (fun t ht => by have := List.mem_range.mp ht; simp [show t < 64 by omega])
  rw [key s (Nat.le_of_lt (AL_lt hs))]
  exact (idx_filter (p := fun s => decide (s ∈ (Rb A a).map (ofS A a))) (List.mem_filter.mp hs).2 64 (AL_lt hs)).1.symm
theorem AL_getD {A : Ab} {a : Nat} {P s : Nat} (h : ∀ s, P.testBit s = decide (s ∈ AL A a)) (hs : s ∈ AL A a) : (AL A a).getD (pcN P s) 0 = s := by rw [pc_AL h hs]; exact getD_idx hs

set_option maxRecDepth 100000 in
theorem k_number (l : Launch) {S : pv_M} {A : Ab} {a : Nat} {L : List Nat} {P : Nat} (hg : gdR (A.1.1 a)) (hC : AtC A a L P S) (hP : AtP A a L P) {s : Nat} (hs : s ∈ AL A a) : mt l MX0_numberOf 106 [.ref 37, .int (nI (s))] S (fun v S' => v = some (.int (nI ((AL A a).idxOf s))) ∧ S' = S) := by
  refine mt_of (by decide) (Nat.le_of_ble_eq_true rfl) ?_
  intro x hl hR hmL C E
  show GG x 106 0 0 [.ref 37, .int (nI (s))] [] S 0
  have h64 := AL_lt hs
  have hp1 : 1 ≤ 1 * 2 ^ s := by rw [Nat.one_mul]; exact Nat.one_le_two_pow
  have e : pcN (P &&& (1 * 2 ^ s - 1)) 64 = (AL A a).idxOf s := by rw [Nat.one_mul, pcN_and, show min 64 s = s by omega]; exact pc_AL hP.2.2.2 hs
  refine g_aload_n C dX0_numberOf_0 rfl ?_
  refine g_getJ C fo_X0_39 dX0_numberOf_1 rfl (by decide) (fun _ => rfl) hC.2.2.2.2.2 ?_
  refine n_lconst C 1 dX0_numberOf_4 ?_
  refine g_iload_n C dX0_numberOf_5 rfl ?_
  refine n_lshl C dX0_numberOf_6 ?_ (by omega)
  refine n_lconst C 1 dX0_numberOf_7 ?_
  refine n_lsub C dX0_numberOf_8 ?_ hp1
  refine n_land C dX0_numberOf_9 ?_
  refine g_callS C (k_bitCount _ (Nat.lt_of_le_of_lt Nat.and_le_left hP.2.2.1)) so_X0_92 dX0_numberOf_10 rfl rfl (rm_ok (M' := MX0_numberOf) hR (by decide)) (Nat.le_of_ble_eq_true rfl) (fun v9 S9 h9 => ?_)
  obtain ⟨rfl, h9⟩ := h9
  refine g_S S h9 ?_
  refine g_n0 [.int (nI (pcN ((P) &&& ((1) * 2 ^ (s) - (1))) 64))] rfl rfl rfl ?_
  exact g_iret C E dX0_numberOf_13 (by rw [hR]; decide) (by rw [hR]; decide) ⟨by rw [e], rfl⟩

set_option maxRecDepth 100000 in
theorem lp_setOf {x : Cx} (hR : xR x = MX0_setOf.rm) (hmL : (xc x).maxLocals = MX0_setOf.nL) (C : BX x cX0_setOf RX0) {S : pv_M} {A : Ab} {a : Nat} {L : List Nat} {P : Nat} (hg : gdR (A.1.1 a)) (hC : AtC A a L P S) (hP : AtP A a L P) {p : Nat} (hp : p < (AL A a).length) (E : EX x 106 (some .int) (fun v S' => v = some (.int (nI ((AL A a).getD p 0))) ∧ S' = S)) : ∀ z i, i + z = (AL A a).getD p 0 → GG x 106 0 0 [.ref 37, .int (nI (p)), .int (nI (pcN P (i))), .int (nI (i))] [] (S) 4 := by
  have hmem := getD_mem hp
  have h64 := AL_lt hmem
  have hpc : pcN P ((AL A a).getD p 0) = p := by rw [pc_AL hP.2.2.2 hmem]; exact idx_getD AL_nodup hp
  have hp64 := AL_len (A := A) (a := a)
  intro z
  induction z with
  | zero =>
    intro i hz
    obtain rfl : i = (AL A a).getD p 0 := by omega
    have hb : P.testBit ((AL A a).getD p 0) = true := by rw [hP.2.2.2]; exact decide_eq_true hmem
    refine g_iload_n C dX0_setOf_4 rfl ?_
    refine n_bipush C 64 dX0_setOf_5 ?_
    refine n_ic_ge C 37 dX0_setOf_7 (fun h7 => absurd h7 (by omega)) (fun h7 => ?_)
    refine g_aload_n C dX0_setOf_10 rfl ?_
    refine g_getJ C fo_X0_39 dX0_setOf_11 rfl (by decide) (fun _ => rfl) hC.2.2.2.2.2 ?_
    refine g_iload_n C dX0_setOf_14 rfl ?_
    refine g_callS C (k_holds _ hP.2.2.1 (by omega)) so_X0_88 dX0_setOf_15 rfl rfl (rm_ok (M' := MX0_setOf) hR (by decide)) (Nat.le_of_ble_eq_true rfl) (fun v9 S9 h9 => ?_)
    obtain ⟨rfl, h9⟩ := h9
    refine g_S S h9 ?_
    refine g_n0 [.int (bI (P.testBit ((AL A a).getD p 0)))] rfl rfl rfl ?_
    refine b_if_eq C 31 dX0_setOf_18 (fun h18 => absurd hb (by rw [h18]; decide)) (fun h18 => ?_)
    refine g_iload_n C dX0_setOf_21 rfl ?_
    refine g_iload_n C dX0_setOf_22 rfl ?_
    refine n_ic_ne C 28 dX0_setOf_23 (fun h23 => absurd hpc h23) (fun h23 => ?_) (by decide) (by omega) (by omega)
    refine g_iload_n C dX0_setOf_26 rfl ?_
    exact g_iret C E dX0_setOf_27 (by rw [hR]; decide) (by rw [hR]; decide) ⟨rfl, rfl⟩
  | succ z ih =>
    intro i hz
    have hlt : P.testBit i = true → ¬ pcN P i = p := fun hb e => by
      have hm : i ∈ AL A a := by rw [hP.2.2.2] at hb; exact of_decide_eq_true hb
      have := AL_getD hP.2.2.2 hm
      rw [e] at this
      omega
    have hpi := pcN_le P i
    refine g_iload_n C dX0_setOf_4 rfl ?_
    refine n_bipush C 64 dX0_setOf_5 ?_
    refine n_ic_ge C 37 dX0_setOf_7 (fun h7 => absurd h7 (by omega)) (fun h7 => ?_)
    refine g_aload_n C dX0_setOf_10 rfl ?_
    refine g_getJ C fo_X0_39 dX0_setOf_11 rfl (by decide) (fun _ => rfl) hC.2.2.2.2.2 ?_
    refine g_iload_n C dX0_setOf_14 rfl ?_
    refine g_callS C (k_holds _ hP.2.2.1 (by omega)) so_X0_88 dX0_setOf_15 rfl rfl (rm_ok (M' := MX0_setOf) hR (by decide)) (Nat.le_of_ble_eq_true rfl) (fun v9 S9 h9 => ?_)
    obtain ⟨rfl, h9⟩ := h9
    refine g_S S h9 ?_
    refine g_n0 [.int (bI (P.testBit (i)))] rfl rfl rfl ?_
    refine b_if_eq C 31 dX0_setOf_18 (fun h18 => ?_) (fun h18 => ?_)
    · refine n_iinc C (by rw [hmL]; decide) dX0_setOf_31 rfl (n_i1 _) [.ref 37, .int (nI (p)), .int (nI (pcN P (i))), .int (nI (i + 1))] ?_
      refine g_goto C 4 dX0_setOf_34 (by decide) ?_
      have k := ih (i + 1) (by omega)
      rw [pc_n h18] at k
      exact k
    · refine g_iload_n C dX0_setOf_21 rfl ?_
      refine g_iload_n C dX0_setOf_22 rfl ?_
      refine n_ic_ne C 28 dX0_setOf_23 (fun h23 => ?_) (fun h23 => absurd h23 (hlt h18))
      refine n_iinc C (by rw [hmL]; decide) dX0_setOf_28 rfl (n_i1 _) [.ref 37, .int (nI (p)), .int (nI (pcN P (i) + 1)), .int (nI (i))] ?_
      refine n_iinc C (by rw [hmL]; decide) dX0_setOf_31 rfl (n_i1 _) [.ref 37, .int (nI (p)), .int (nI (pcN P (i) + 1)), .int (nI (i + 1))] ?_
      refine g_goto C 4 dX0_setOf_34 (by decide) ?_
      rw [← pc_y h18]
      exact ih (i + 1) (by omega)

set_option maxRecDepth 100000 in
theorem k_setOf (l : Launch) {S : pv_M} {A : Ab} {a : Nat} {L : List Nat} {P : Nat} (hg : gdR (A.1.1 a)) (hC : AtC A a L P S) (hP : AtP A a L P) {p : Nat} (hp : p < (AL A a).length) : mt l MX0_setOf 106 [.ref 37, .int (nI (p))] S (fun v S' => v = some (.int (nI ((AL A a).getD p 0))) ∧ S' = S) := by
  refine mt_of (by decide) (Nat.le_of_ble_eq_true rfl) ?_
  intro x hl hR hmL C E
  show GG x 106 0 0 [.ref 37, .int (nI (p)), unk, unk] [] S 0
  refine n_iconst C 0 dX0_setOf_0 ?_
  refine g_istore_n C (by rw [hmL]; decide) dX0_setOf_1 [.ref 37, .int (nI (p)), .int (nI (0)), unk] rfl ?_
  refine n_iconst C 0 dX0_setOf_2 ?_
  refine g_istore_n C (by rw [hmL]; decide) dX0_setOf_3 [.ref 37, .int (nI (p)), .int (nI (0)), .int (nI (0))] rfl ?_
  exact lp_setOf hR hmL C hg hC hP hp E ((AL A a).getD p 0) 0 (Nat.zero_add _)
