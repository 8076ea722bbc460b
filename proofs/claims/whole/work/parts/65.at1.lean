/-- the reference's quotients: how many, and a state of each -/
def QA (c : Nat) (qs : Nat → Nat) (S : pv_M) : Prop := mI S 75 30 = nI c ∧ (∀ q, q < c → mI S 95 q = nI (qs q)) ∧ c ≤ 6 ∧ ∀ q, q < c → qs q < 6
/-- the reference's atoms -/
def AT (L : List Nat) (S : pv_M) : Prop := mI S 75 33 = nI L.length ∧ (∀ i, i < L.length → mI S 96 i = nI (L.getD i 0)) ∧ L.length ≤ 64 ∧ 0 < L.length ∧ ∀ s, s ∈ L → s < 64
theorem QA.keep {c : Nat} {qs : Nat → Nat} {S T : pv_M} (h : QA c qs S) (h1 : mI T 75 30 = mI S 75 30) (h2 : mI T 95 = mI S 95) : QA c qs T := ⟨by rw [h1]; exact h.1, by rw [h2]; exact h.2.1, h.2.2⟩
theorem AT.keep {L : List Nat} {S T : pv_M} (h : AT L S) (h1 : mI T 75 33 = mI S 75 33) (h2 : mI T 96 = mI S 96) : AT L T := ⟨by rw [h1]; exact h.1, by rw [h2]; exact h.2.1, h.2.2⟩
/-- telling the atoms: scratch alone -/
def FT (S T : pv_M) : Prop := FS S T ∧ mI T 75 0 = mI S 75 0
theorem FT.rf {S : pv_M} : FT S S := ⟨FS.rf, rfl⟩
theorem FT.tr {S T U : pv_M} (h : FT S T) (k : FT T U) : FT S U := ⟨h.1.tr k.1, k.2.trans h.2⟩
theorem FQ.ft {S T : pv_M} (h : FQ k5 S T) : FT S T := ⟨h.fs, h.2.1 0 (by decide)⟩
theorem FT.cI {S : pv_M} {i : Nat} {f : Nat → Int32} (h : 88 ≤ i ∧ i ≤ 103) : FT S (wI S i f) := ⟨FS.cI h, by rw [mI_wI_ne (by omega)]⟩
theorem FT.w75 {S : pv_M} {k : Nat} {a : Int32} (h : k ≠ 0 ∧ k ≠ 4 ∧ k ≠ 10 ∧ k ≠ 14) : FT S (wI S 75 (va_up (mI S 75) k a)) := ⟨FS.w75 h.2, rI_k (fun e => h.1 e.symm) rfl⟩
theorem FT.fn {P : Nat → Prop} {S T : pv_M} (h : FN P S T) (hp : ∀ r, P r → 88 ≤ r ∧ r ≤ 103) : FT S T := ⟨⟨h.mono (fun r z => Or.inr (hp r z)), congrFun (h.2 75 (fun z => by have := (hp 75 z).1; omega)).1 4, congrFun (h.2 75 (fun z => by have := (hp 75 z).1; omega)).1 10, congrFun (h.2 75 (fun z => by have := (hp 75 z).1; omega)).1 14⟩, congrFun (h.2 75 (fun z => by have := (hp 75 z).1; omega)).1 0⟩

theorem ofM_1 {i X : Nat} {qs : Nat → Nat} : (ofM i qs X ||| if X.testBit (qs i) = true then 1 * 2 ^ i else 0) = ofM (i + 1) qs X := by rw [Nat.one_mul]; rfl

set_option maxRecDepth 100000 in
theorem lp_ofStates {x : Cx} (hR : xR x = MX12_ofStates.rm) (hmL : (xc x).maxLocals = MX12_ofStates.nL) (C : BX x cX12_ofStates RX12) {S : pv_M} {c : Nat} {qs : Nat → Nat} (hS : GS S) (hQ : QA c qs S) {X : Nat} (hX : X < 2 ^ 63) (kk : GG x 106 0 0 [.ref 75, .long (lN (X)), unk, .int (nI (ofM (c) qs X)), .int (nI (c))] [] (S) 47) : ∀ z i, i + z = c → GG x 106 0 0 [.ref 75, .long (lN (X)), unk, .int (nI (ofM (i) qs X)), .int (nI (i))] [] (S) 5 := by
  have hc6 := hQ.2.2.1
  intro z
  induction z with
  | zero =>
    intro i hz
    obtain rfl : c = i := by omega
    refine g_iload C dX12_ofStates_5 rfl ?_
    refine g_aload_n C dX12_ofStates_7 rfl ?_
    refine g_getI C (a := (nI (c))) fo_X12_238 dX12_ofStates_8 rfl (by decide) (fun _ => rfl) hQ.1 ?_
    refine n_ic_ge C 47 dX12_ofStates_11 (fun h11 => ?_) (fun h11 => absurd h11 (by omega))
    exact kk
  | succ z ih =>
    intro i hz
    have hqi := hQ.2.2.2 i (by omega)
    have hp6 := pow6 i (by omega)
    refine g_iload C dX12_ofStates_5 rfl ?_
    refine g_aload_n C dX12_ofStates_7 rfl ?_
    refine g_getI C (a := (nI (c))) fo_X12_238 dX12_ofStates_8 rfl (by decide) (fun _ => rfl) hQ.1 ?_
    refine n_ic_ge C 47 dX12_ofStates_11 (fun h11 => absurd h11 (by omega)) (fun h11 => ?_)
    refine g_iload_n C dX12_ofStates_14 rfl ?_
    refine g_lload_n C dX12_ofStates_15 rfl ?_
    refine g_aload_n C dX12_ofStates_16 rfl ?_
    refine g_getR C fo_X12_71 dX12_ofStates_17 rfl (by decide) (fun _ => rfl) (gs_75_31 hS) ?_
    refine g_iload C dX12_ofStates_20 rfl ?_
    refine n_iald C (v := (nI (qs i))) dX12_ofStates_22 rfl (by decide) (hQ.2.1 i (by omega)) ?_ (by omega)
    refine n_lshr C dX12_ofStates_23 ?_ (by omega) (by omega)
    refine n_lconst C 1 dX12_ofStates_24 ?_
    refine n_land C dX12_ofStates_25 ?_
    refine n_lconst C 1 dX12_ofStates_26 ?_
    refine g_lcmp C dX12_ofStates_27 ?_
    suffices K39 : GG x 106 0 0 [.ref 75, .long (lN (X)), unk, .int (nI (ofM (i) qs X)), .int (nI (i))] [.int (nI (if X.testBit (qs i) then 1 * 2 ^ (i) else 0)), .int (nI (ofM (i) qs X))] S 39 from by
      refine t_if_ne C 38 dX12_ofStates_28 (fun h28 => ?_) (fun h28 => ?_)
      · refine n_iconst C 0 dX12_ofStates_38 ?_
        rw [if_neg (by rw [h28]; decide)] at K39; exact K39
      · refine n_iconst C 1 dX12_ofStates_31 ?_
        refine g_iload C dX12_ofStates_32 rfl ?_
        refine n_ishl C dX12_ofStates_34 ?_ (by omega) hp6
        refine g_goto C 39 dX12_ofStates_35 (by decide) ?_
        rw [if_pos h28] at K39; exact K39
    refine n_ior C dX12_ofStates_39 ?_
    refine g_istore_n C (by rw [hmL]; decide) dX12_ofStates_40 [.ref 75, .long (lN (X)), unk, .int (nI ((ofM (i) qs X) ||| (if X.testBit (qs i) then 1 * 2 ^ (i) else 0))), .int (nI (i))] rfl ?_
    refine n_iinc C (by rw [hmL]; decide) dX12_ofStates_41 rfl (n_i1 _) [.ref 75, .long (lN (X)), unk, .int (nI ((ofM (i) qs X) ||| (if X.testBit (qs i) then 1 * 2 ^ (i) else 0))), .int (nI (i + 1))] ?_
    refine g_goto C 5 dX12_ofStates_44 (by decide) ?_
    rw [ofM_1]
    exact ih (i + 1) (by omega)

set_option maxRecDepth 100000 in
theorem k_ofStates (l : Launch) {S : pv_M} {c : Nat} {qs : Nat → Nat} (hS : GS S) (hQ : QA c qs S) {X : Nat} (hX : X < 2 ^ 63) : mt l MX12_ofStates 106 [.ref 75, .long (lN (X))] S (fun v S' => v = some (.int (nI (ofM c qs X))) ∧ S' = S) := by
  refine mt_of (by decide) (Nat.le_of_ble_eq_true rfl) ?_
  intro x hl hR hmL C E
  show GG x 106 0 0 [.ref 75, .long (lN (X)), unk, unk, unk] [] S 0
  refine n_iconst C 0 dX12_ofStates_0 ?_
  refine g_istore_n C (by rw [hmL]; decide) dX12_ofStates_1 [.ref 75, .long (lN (X)), unk, .int (nI (0)), unk] rfl ?_
  refine n_iconst C 0 dX12_ofStates_2 ?_
  refine g_istore C (by rw [hmL]; decide) dX12_ofStates_3 [.ref 75, .long (lN (X)), unk, .int (nI (0)), .int (nI (0))] rfl ?_
  refine lp_ofStates hR hmL C hS hQ hX ?_ c 0 (Nat.zero_add _)
  refine g_iload_n C dX12_ofStates_47 rfl ?_
  exact g_iret C E dX12_ofStates_48 (by rw [hR]; decide) (by rw [hR]; decide) ⟨rfl, rfl⟩

theorem idx_first : ∀ {L : List Nat} {i s : Nat}, i < L.length → L.getD i 0 = s → L.idxOf s ≤ i
  | [], _, _, h, _ => absurd h (Nat.not_lt_zero _)
  | x :: L, 0, s, _, e => by
    have e : x = s := e
    rw [e, List.idxOf_cons_self]
    exact Nat.le_refl 0
  | x :: L, i + 1, s, h, e => by
    rw [List.idxOf_cons]
    have ih := idx_first (L := L) (i := i) (s := s) (by simpa using h) e
    by_cases z : x = s
    · simp [z]
    · rw [beq_false_of_ne z]
      show L.idxOf s + 1 ≤ i + 1
      omega

set_option maxRecDepth 100000 in
theorem lp_numberOf {x : Cx} (hR : xR x = MX12_numberOf.rm) (hmL : (xc x).maxLocals = MX12_numberOf.nL) (C : BX x cX12_numberOf RX12) {S : pv_M} {L : List Nat} (hS : GS S) (hA : AT L S) {s : Nat} (hs : s < 64) (kk : GG x 106 0 0 [.ref 75, .int (nI (s)), .int (nI (L.idxOf s))] [] (S) 26) : ∀ z i, i + z = L.idxOf s → GG x 106 0 0 [.ref 75, .int (nI (s)), .int (nI (i))] [] (S) 2 := by
  have h64 := hA.2.2.1
  have hix : L.idxOf s ≤ L.length := List.idxOf_le_length
  have h63 : ∀ i, i < L.length → L.getD i 0 < 64 := fun i hi => hA.2.2.2.2 _ (getD_mem hi)
  intro z
  induction z with
  | zero =>
    intro i hz
    obtain rfl : L.idxOf s = i := by omega
    by_cases hlt : L.idxOf s < L.length
    · refine g_iload_n C dX12_numberOf_2 rfl ?_
      refine g_aload_n C dX12_numberOf_3 rfl ?_
      refine g_getI C (a := (nI (L.length))) fo_X12_195 dX12_numberOf_4 rfl (by decide) (fun _ => rfl) hA.1 ?_
      refine n_ic_ge C 26 dX12_numberOf_7 (fun h7 => absurd h7 (by omega)) (fun h7 => ?_)
      refine g_aload_n C dX12_numberOf_10 rfl ?_
      refine g_getR C fo_X12_74 dX12_numberOf_11 rfl (by decide) (fun _ => rfl) (gs_75_32 hS) ?_
      refine g_iload_n C dX12_numberOf_14 rfl ?_
      refine n_iald C (v := (nI (L.getD (L.idxOf s) 0))) dX12_numberOf_15 rfl (by decide) (hA.2.1 _ (by omega)) ?_ (by omega)
      refine g_iload_n C dX12_numberOf_16 rfl ?_
      refine n_ic_eq C 26 dX12_numberOf_17 (fun h17 => ?_) (fun h17 => absurd (getD_idx (List.idxOf_lt_length_iff.mp hlt)) h17) (by decide) (by have := h63 _ hlt; omega) (by omega)
      exact kk
    · refine g_iload_n C dX12_numberOf_2 rfl ?_
      refine g_aload_n C dX12_numberOf_3 rfl ?_
      refine g_getI C (a := (nI (L.length))) fo_X12_195 dX12_numberOf_4 rfl (by decide) (fun _ => rfl) hA.1 ?_
      refine n_ic_ge C 26 dX12_numberOf_7 (fun h7 => ?_) (fun h7 => absurd h7 (by omega))
      exact kk
  | succ z ih =>
    intro i hz
    have hne : L.getD i 0 ≠ s := fun e => by
      have := idx_first (L := L) (i := i) (by omega) e
      omega
    have h6i := h63 i (by omega)
    refine g_iload_n C dX12_numberOf_2 rfl ?_
    refine g_aload_n C dX12_numberOf_3 rfl ?_
    refine g_getI C (a := (nI (L.length))) fo_X12_195 dX12_numberOf_4 rfl (by decide) (fun _ => rfl) hA.1 ?_
    refine n_ic_ge C 26 dX12_numberOf_7 (fun h7 => absurd h7 (by omega)) (fun h7 => ?_)
    refine g_aload_n C dX12_numberOf_10 rfl ?_
    refine g_getR C fo_X12_74 dX12_numberOf_11 rfl (by decide) (fun _ => rfl) (gs_75_32 hS) ?_
    refine g_iload_n C dX12_numberOf_14 rfl ?_
    refine n_iald C (v := (nI (L.getD (i) 0))) dX12_numberOf_15 rfl (by decide) (hA.2.1 _ (by omega)) ?_ (by omega)
    refine g_iload_n C dX12_numberOf_16 rfl ?_
    refine n_ic_eq C 26 dX12_numberOf_17 (fun h17 => absurd h17 hne) (fun h17 => ?_)
    refine n_iinc C (by rw [hmL]; decide) dX12_numberOf_20 rfl (n_i1 _) [.ref 75, .int (nI (s)), .int (nI (i + 1))] ?_
    refine g_goto C 2 dX12_numberOf_23 (by decide) ?_
    exact ih (i + 1) (by omega)

set_option maxRecDepth 100000 in
theorem k_numberOf (l : Launch) {S : pv_M} {L : List Nat} (hS : GS S) (hA : AT L S) {s : Nat} (hs : s < 64) : mt l MX12_numberOf 106 [.ref 75, .int (nI (s))] S (fun v S' => v = some (.int (nI (L.idxOf s))) ∧ S' = S) := by
  refine mt_of (by decide) (Nat.le_of_ble_eq_true rfl) ?_
  intro x hl hR hmL C E
  show GG x 106 0 0 [.ref 75, .int (nI (s)), unk] [] S 0
  refine n_iconst C 0 dX12_numberOf_0 ?_
  refine g_istore_n C (by rw [hmL]; decide) dX12_numberOf_1 [.ref 75, .int (nI (s)), .int (nI (0))] rfl ?_
  refine lp_numberOf hR hmL C hS hA hs ?_ (L.idxOf s) 0 (Nat.zero_add _)
  refine g_iload_n C dX12_numberOf_26 rfl ?_
  exact g_iret C E dX12_numberOf_27 (by rw [hR]; decide) (by rw [hR]; decide) ⟨rfl, rfl⟩

set_option maxRecDepth 100000 in
theorem k_isAtom (l : Launch) {S : pv_M} {L : List Nat} (hS : GS S) (hA : AT L S) {p : Nat} (hp : p < L.length) : mt l MX12_isAtom 106 [.ref 75, .int (nI (p))] S (fun v S' => v = some (.int (bI true)) ∧ S' = S) := by
  refine mt_of (by decide) (Nat.le_of_ble_eq_true rfl) ?_
  intro x hl hR hmL C E
  show GG x 106 0 0 [.ref 75, .int (nI (p))] [] S 0
  have h64 := hA.2.2.1
  refine g_iload_n C dX12_isAtom_0 rfl ?_
  refine n_iconst C 0 dX12_isAtom_1 ?_
  refine g_aload_n C dX12_isAtom_2 rfl ?_
  refine g_getI C (a := (nI (L.length))) fo_X12_195 dX12_isAtom_3 rfl (by decide) (fun _ => rfl) hA.1 ?_
  refine n_iconst C 1 dX12_isAtom_6 ?_
  refine n_isub C dX12_isAtom_7 ?_ (by omega)
  refine g_callS C (k_in _ (in_lo (by omega)) (in_hi hp (by omega))) so_X12_102 dX12_isAtom_8 rfl rfl (rm_ok (M' := MX12_isAtom) hR (by decide)) (Nat.le_of_ble_eq_true rfl) (fun v9 S9 h9 => ?_)
  obtain ⟨rfl, h9⟩ := h9
  refine g_S S h9 ?_
  refine g_n0 [.int (bI (true))] rfl rfl rfl ?_
  exact g_zret C E dX12_isAtom_11 (bI_01 _) (by rw [hR]; decide) (by rw [hR]; decide) ⟨rfl, rfl⟩

set_option maxRecDepth 100000 in
theorem k_isAtomF (l : Launch) {S : pv_M} {L : List Nat} (hS : GS S) (hA : AT L S) {p : Int32} (hp : badI p L.length) : mt l MX12_isAtom 106 [.ref 75, .int (p)] S (fun v S' => v = some (.int (bI false)) ∧ S' = S) := by
  refine mt_of (by decide) (Nat.le_of_ble_eq_true rfl) ?_
  intro x hl hR hmL C E
  show GG x 106 0 0 [.ref 75, .int (p)] [] S 0
  have h64 := hA.2.2.1
  have h0 := hA.2.2.2.1
  refine g_iload_n C dX12_isAtom_0 rfl ?_
  refine n_iconst C 0 dX12_isAtom_1 ?_
  refine g_aload_n C dX12_isAtom_2 rfl ?_
  refine g_getI C (a := (nI (L.length))) fo_X12_195 dX12_isAtom_3 rfl (by decide) (fun _ => rfl) hA.1 ?_
  refine n_iconst C 1 dX12_isAtom_6 ?_
  refine n_isub C dX12_isAtom_7 ?_ (by omega)
  refine g_callS C (k_inF _ (in_badP hp h0 (by omega))) so_X12_102 dX12_isAtom_8 rfl rfl (rm_ok (M' := MX12_isAtom) hR (by decide)) (Nat.le_of_ble_eq_true rfl) (fun v9 S9 h9 => ?_)
  obtain ⟨rfl, h9⟩ := h9
  refine g_S S h9 ?_
  refine g_n0 [.int (bI (false))] rfl rfl rfl ?_
  exact g_zret C E dX12_isAtom_11 (bI_01 _) (by rw [hR]; decide) (by rw [hR]; decide) ⟨rfl, rfl⟩

theorem AT.of {A : Ab} {a : Nat} {S : pv_M} (hg : gdR (A.1.1 a)) (h1 : mI S 75 33 = nI (AL A a).length) (h2 : ∀ i, i < (AL A a).length → mI S 96 i = nI ((AL A a).getD i 0)) : AT (AL A a) S := ⟨h1, h2, AL_len, AL_pos hg, fun _ h => AL_lt h⟩
/-- the atoms among the sets below i -/
def ALi (A : Ab) (a i : Nat) : List Nat := (List.range i).filter (fun s => decide (s ∈ (Rb A a).map (ofS A a)))
theorem ALi_succ (A : Ab) (a i : Nat) : ALi A a (i + 1) = ALi A a i ++ (if i ∈ (Rb A a).map (ofS A a) then [i] else []) := by
  unfold ALi
  rw [List.range_succ, List.filter_append]
  congr 1
  by_cases e : i ∈ (Rb A a).map (ofS A a)
  · rw [if_pos e, List.filter_cons, if_pos (decide_eq_true e), List.filter_nil]
  · rw [if_neg e, List.filter_cons, if_neg (by rw [decide_eq_false e]; decide), List.filter_nil]
theorem ALi_len (A : Ab) (a i : Nat) : (ALi A a i).length ≤ i := Nat.le_trans (List.length_filter_le _ _) (by rw [List.length_range]; exact Nat.le_refl _)
/-- is it one of the first i sets? -/
def isI (A : Ab) (a i s : Nat) : Bool := decide (s ∈ ((Rb A a).take i).map (ofS A a))
theorem isI_succ {A : Ab} {a i s : Nat} (hi : i < (Rb A a).length) : isI A a (i + 1) s = (isI A a i s || decide (s = ofS A a ((Rb A a).getD i 0))) := by
  unfold isI
  have e : (Rb A a).take (i + 1) = (Rb A a).take i ++ [(Rb A a).getD i 0] := by
    rw [List.take_add_one, List.getD_eq_getElem?_getD, List.getElem?_eq_getElem hi]
    rfl
  rw [e, List.map_append]
  by_cases z : s ∈ ((Rb A a).take i).map (ofS A a) <;> by_cases z2 : s = ofS A a ((Rb A a).getD i 0) <;> simp [z, z2]

set_option maxRecDepth 100000 in
theorem l1_tell {x : Cx} (hR : xR x = MX12_tellAtoms.rm) (hmL : (xc x).maxLocals = MX12_tellAtoms.nL) (C : BX x cX12_tellAtoms RX12) {S0 : pv_M} {A : Ab} {a : Nat} (hg : gdR (A.1.1 a)) (g1 : MkF (d8 A a) (a8 A a) (fun c => c < rN A a) S0 (Rm A a)) (h30 : mI S0 75 30 = nI (cQ A a)) (kk : ∀ S : pv_M, GS S → FN (fun r => r = 95) S0 S → mI S 95 = reg 0 (cQ A a) (fun q => nI (qS A a q)) (mI S0 95) → GG x 106 0 0 [.ref 75, .int (nI (a)), .int (nI (cQ A a))] [] (S) 49) : ∀ z i (S : pv_M), i + z = cQ A a → GS S → FN (fun r => r = 95) S0 S → mI S 95 = reg 0 (i) (fun q => nI (qS A a q)) (mI S0 95) → GG x 106 0 0 [.ref 75, .int (nI (a)), .int (nI (i))] [] (S) 18 := by
  intro z
  induction z with
  | zero =>
    intro i S hz hS hf h5
    obtain rfl : cQ A a = i := by omega
    have hc6 := cQ_le hg
    have hl6 := Rm_len hg
    refine g_iload_n C dX12_tellAtoms_18 rfl ?_
    refine g_aload_n C dX12_tellAtoms_19 rfl ?_
    refine g_getI C (a := (nI (cQ A a))) fo_X12_238 dX12_tellAtoms_20 rfl (by decide) (fun _ => rfl) ((congrFun (hf.2 75 (by decide)).1 30).trans h30) ?_
    refine n_ic_ge C 49 dX12_tellAtoms_23 (fun h23 => ?_) (fun h23 => absurd h23 (by omega))
    exact kk S hS hf h5
  | succ z ih =>
    intro i S hz hS hf h5
    have hfi := fi_Q (A := A) (a := a) (q := i) (by omega)
    have hq6 := qS_lt hg (q := i) (by omega)
    have hc6 := cQ_le hg
    have hl6 := Rm_len hg
    refine g_iload_n C dX12_tellAtoms_18 rfl ?_
    refine g_aload_n C dX12_tellAtoms_19 rfl ?_
    refine g_getI C (a := (nI (cQ A a))) fo_X12_238 dX12_tellAtoms_20 rfl (by decide) (fun _ => rfl) ((congrFun (hf.2 75 (by decide)).1 30).trans h30) ?_
    refine n_ic_ge C 49 dX12_tellAtoms_23 (fun h23 => absurd h23 (by omega)) (fun h23 => ?_)
    refine g_aload_n C dX12_tellAtoms_26 rfl ?_
    refine g_getR C fo_X12_71 dX12_tellAtoms_27 rfl (by decide) (fun _ => rfl) (gs_75_31 hS) ?_
    refine g_iload_n C dX12_tellAtoms_30 rfl ?_
    refine g_aload_n C dX12_tellAtoms_31 rfl ?_
    refine g_getR C fo_X12_49 dX12_tellAtoms_32 rfl (by decide) (fun _ => rfl) (gs_75_18 hS) ?_
    refine g_aload_n C dX12_tellAtoms_35 rfl ?_
    refine g_iload_n C dX12_tellAtoms_36 rfl ?_
    refine g_callV C (As := [.int (nI (i))]) (k_nodeOfClass _ (g1.2.2.2.2.2.2.1.fn hf (by decide) (by decide) (by decide)) (m := fi (kQ A a) (Rm A a).length i) hfi.1 hfi.2.1 hfi.2.2) vo_X12_228 dX12_tellAtoms_37 rfl rfl (by decide) rfl (rm_ok (M' := MX12_tellAtoms) hR (by decide)) (Nat.le_of_ble_eq_true rfl) (fun v9 S9 h9 => ?_)
    obtain ⟨rfl, h9⟩ := h9
    refine g_S S h9 ?_
    refine g_n0 [.int (nI (fi (kQ A a) (Rm A a).length i)), .ref 88, .int (nI (i)), .ref 95] rfl rfl rfl ?_
    refine n_lald C (v := (lN (qS A a i))) dX12_tellAtoms_40 rfl (by decide) ((congrFun (hf.2 88 (by decide)).2.1 _).trans (g1.1.2.1 _ hfi.1)) ?_ (by omega)
    refine n_l2i C dX12_tellAtoms_41 ?_
    refine g_iast C dX12_tellAtoms_42 rfl (by decide) (by omega) rfl ?_
    refine n_iinc C (by rw [hmL]; decide) dX12_tellAtoms_43 rfl (n_i1 _) [.ref 75, .int (nI (a)), .int (nI (i + 1))] ?_
    refine g_goto C 18 dX12_tellAtoms_46 (by decide) ?_
    refine ih (i + 1) _ (by omega) (hS.fn (FN.wI (P := fun r => r = 95) rfl)) (hf.tr (FN.wI rfl)) (by rw [mI_wI, h5]; exact reg_up (by omega) rfl)

set_option maxRecDepth 100000 in
theorem l2_tell {x : Cx} (hR : xR x = MX12_tellAtoms.rm) (hmL : (xc x).maxLocals = MX12_tellAtoms.nL) (C : BX x cX12_tellAtoms RX12) {S0 : pv_M} {a : Nat} (kk : ∀ S : pv_M, GS S → FN (fun r => r = 97) S0 S → mI S 97 = reg 0 (64) (fun _ => bI false) (mI S0 97) → GG x 106 0 0 [.ref 75, .int (nI (a)), .int (nI (64))] [] (S) 78) : ∀ z i (S : pv_M), i + z = 64 → GS S → FN (fun r => r = 97) S0 S → mI S 97 = reg 0 (i) (fun _ => bI false) (mI S0 97) → GG x 106 0 0 [.ref 75, .int (nI (a)), .int (nI (i))] [] (S) 59 := by
  intro z
  induction z with
  | zero =>
    intro i S hz hS hf h7
    obtain rfl : 64 = i := by omega
    refine g_iload_n C dX12_tellAtoms_59 rfl ?_
    refine n_bipush C 64 dX12_tellAtoms_60 ?_
    refine n_ic_ge C 78 dX12_tellAtoms_62 (fun h62 => ?_) (fun h62 => absurd h62 (by omega))
    exact kk S hS hf h7
  | succ z ih =>
    intro i S hz hS hf h7
    refine g_iload_n C dX12_tellAtoms_59 rfl ?_
    refine n_bipush C 64 dX12_tellAtoms_60 ?_
    refine n_ic_ge C 78 dX12_tellAtoms_62 (fun h62 => absurd h62 (by omega)) (fun h62 => ?_)
    refine g_aload_n C dX12_tellAtoms_65 rfl ?_
    refine g_getR C fo_X12_77 dX12_tellAtoms_66 rfl (by decide) (fun _ => rfl) (gs_75_34 hS) ?_
    refine g_iload_n C dX12_tellAtoms_69 rfl ?_
    refine g_iconst C (bI false) dX12_tellAtoms_70 (by decide) ?_
    refine g_zast C dX12_tellAtoms_71 rfl (by decide) (by omega) rfl (bI_nar _) ?_
    refine n_iinc C (by rw [hmL]; decide) dX12_tellAtoms_72 rfl (n_i1 _) [.ref 75, .int (nI (a)), .int (nI (i + 1))] ?_
    refine g_goto C 59 dX12_tellAtoms_75 (by decide) ?_
    refine ih (i + 1) _ (by omega) (hS.fn (FN.wI (P := fun r => r = 97) rfl)) (hf.tr (FN.wI rfl)) (by rw [mI_wI, h7]; exact reg_up (by omega) rfl)

set_option maxRecDepth 100000 in
theorem l3_tell {x : Cx} (hR : xR x = MX12_tellAtoms.rm) (hmL : (xc x).maxLocals = MX12_tellAtoms.nL) (C : BX x cX12_tellAtoms RX12) {S0 : pv_M} {A : Ab} {a : Nat} (hg : gdR (A.1.1 a)) (hN : NdAt S0 (Rb A a)) (hQ : QA (cQ A a) (qS A a) S0) (kk : ∀ S : pv_M, GS S → FN (fun r => r = 97) S0 S → (∀ s, s < 64 → mI S 97 s = bI (isI A a ((Rb A a).length) s)) → GG x 106 0 0 [.ref 75, .int (nI (a)), .int (nI ((Rb A a).length))] [] (S) 110) : ∀ z i (S : pv_M), i + z = (Rb A a).length → GS S → FN (fun r => r = 97) S0 S → (∀ s, s < 64 → mI S 97 s = bI (isI A a (i) s)) → GG x 106 0 0 [.ref 75, .int (nI (a)), .int (nI (i))] [] (S) 80 := by
  intro z
  induction z with
  | zero =>
    intro i S hz hS hf h7
    obtain rfl : (Rb A a).length = i := by omega
    have hl64 := Rb_len hg
    refine g_iload_n C dX12_tellAtoms_80 rfl ?_
    refine g_aload_n C dX12_tellAtoms_81 rfl ?_
    refine g_getI C (a := (nI ((Rb A a).length))) fo_X12_153 dX12_tellAtoms_82 rfl (by decide) (fun _ => rfl) ((congrFun (hf.2 75 (by decide)).1 17).trans hN.1) ?_
    refine n_ic_ge C 110 dX12_tellAtoms_85 (fun h85 => ?_) (fun h85 => absurd h85 (by omega))
    exact kk S hS hf h7
  | succ z ih =>
    intro i S hz hS hf h7
    have hX := lt64_n hg (Rb_dm _ (getD_mem (show i < (Rb A a).length by omega)))
    have ho := ofS_lt hg (X := (Rb A a).getD i 0)
    have hl64 := Rb_len hg
    refine g_iload_n C dX12_tellAtoms_80 rfl ?_
    refine g_aload_n C dX12_tellAtoms_81 rfl ?_
    refine g_getI C (a := (nI ((Rb A a).length))) fo_X12_153 dX12_tellAtoms_82 rfl (by decide) (fun _ => rfl) ((congrFun (hf.2 75 (by decide)).1 17).trans hN.1) ?_
    refine n_ic_ge C 110 dX12_tellAtoms_85 (fun h85 => absurd h85 (by omega)) (fun h85 => ?_)
    refine g_aload_n C dX12_tellAtoms_88 rfl ?_
    refine g_getR C fo_X12_77 dX12_tellAtoms_89 rfl (by decide) (fun _ => rfl) (gs_75_34 hS) ?_
    refine g_aload_n C dX12_tellAtoms_92 rfl ?_
    refine g_aload_n C dX12_tellAtoms_93 rfl ?_
    refine g_getR C fo_X12_49 dX12_tellAtoms_94 rfl (by decide) (fun _ => rfl) (gs_75_18 hS) ?_
    refine g_iload_n C dX12_tellAtoms_97 rfl ?_
    refine n_lald C (v := (lN ((Rb A a).getD i 0))) dX12_tellAtoms_98 rfl (by decide) ((congrFun (hf.2 88 (by decide)).2.1 _).trans (hN.2.1 _ (by omega))) ?_ (by omega)
    refine g_callV C (As := [.long (lN ((Rb A a).getD i 0))]) (k_ofStates _ hS (hQ.keep (congrFun (hf.2 75 (by decide)).1 30) (hf.2 95 (by decide)).1) (by omega)) vo_X12_241 dX12_tellAtoms_99 rfl rfl (by decide) rfl (rm_ok (M' := MX12_tellAtoms) hR (by decide)) (Nat.le_of_ble_eq_true rfl) (fun v9 S9 h9 => ?_)
    obtain ⟨rfl, h9⟩ := h9
    refine g_S S h9 ?_
    refine g_n0 [.int (nI (ofS A a ((Rb A a).getD i 0))), .ref 97] rfl rfl rfl ?_
    refine g_iconst C (bI true) dX12_tellAtoms_102 (by decide) ?_
    refine g_zast C dX12_tellAtoms_103 rfl (by decide) (by omega) rfl (bI_nar _) ?_
    refine n_iinc C (by rw [hmL]; decide) dX12_tellAtoms_104 rfl (n_i1 _) [.ref 75, .int (nI (a)), .int (nI (i + 1))] ?_
    refine g_goto C 80 dX12_tellAtoms_107 (by decide) ?_
    refine ih (i + 1) _ (by omega) (hS.fn (FN.wI (P := fun r => r = 97) rfl)) (hf.tr (FN.wI rfl)) (fun s hs => ?_)
    rw [mI_wI, isI_succ (by omega)]
    by_cases e : s = ofS A a ((Rb A a).getD i 0)
    · rw [e, up_same]; simp
    · rw [va_up_ne _ _ e, h7 s hs, decide_eq_false e, Bool.or_false]

theorem isI_all {A : Ab} {a s : Nat} : isI A a (Rb A a).length s = decide (s ∈ (Rb A a).map (ofS A a)) := by unfold isI; rw [List.take_length]
theorem ALi_y {A : Ab} {a i : Nat} (h : isI A a (Rb A a).length i = true) : ALi A a (i + 1) = ALi A a i ++ [i] := by
  rw [isI_all, decide_eq_true_eq] at h
  rw [ALi_succ, if_pos h]
theorem ALi_n {A : Ab} {a i : Nat} (h : isI A a (Rb A a).length i = false) : ALi A a (i + 1) = ALi A a i := by
  rw [isI_all, decide_eq_false_iff_not] at h
  rw [ALi_succ, if_neg h, List.append_nil]
theorem getD_snoc {L : List Nat} {c p : Nat} (h : p < L.length + 1) : (L ++ [c]).getD p 0 = if p = L.length then c else L.getD p 0 := by
  rw [List.getD_eq_getElem?_getD]
  by_cases e : p = L.length
  · rw [if_pos e, e, List.getElem?_append_right (Nat.le_refl _)]; simp
  · rw [if_neg e, List.getElem?_append_left (by omega), ← List.getD_eq_getElem?_getD]

set_option maxRecDepth 100000 in
theorem l4_tell {x : Cx} (hR : xR x = MX12_tellAtoms.rm) (hmL : (xc x).maxLocals = MX12_tellAtoms.nL) (C : BX x cX12_tellAtoms RX12) {S0 : pv_M} {A : Ab} {a : Nat} (h7 : ∀ s, s < 64 → mI S0 97 s = bI (isI A a (Rb A a).length s)) (kk : ∀ S : pv_M, GS S → FN (fun r => r = 75 ∨ r = 96) S0 S → (∀ k, k ≠ 33 → mI S 75 k = mI S0 75 k) → mI S 75 33 = nI (ALi A a (64)).length → (∀ p, p < (ALi A a (64)).length → mI S 96 p = nI ((ALi A a (64)).getD p 0)) → GG x 106 0 0 [.ref 75, .int (nI (a)), .int (nI (64))] [] (S) 158) : ∀ z i (S : pv_M), i + z = 64 → GS S → FN (fun r => r = 75 ∨ r = 96) S0 S → (∀ k, k ≠ 33 → mI S 75 k = mI S0 75 k) → mI S 75 33 = nI (ALi A a (i)).length → (∀ p, p < (ALi A a (i)).length → mI S 96 p = nI ((ALi A a (i)).getD p 0)) → GG x 106 0 0 [.ref 75, .int (nI (a)), .int (nI (i))] [] (S) 117 := by
  intro z
  induction z with
  | zero =>
    intro i S hz hS hf h0 h3 h6
    obtain rfl : 64 = i := by omega
    refine g_iload_n C dX12_tellAtoms_117 rfl ?_
    refine n_bipush C 64 dX12_tellAtoms_118 ?_
    refine n_ic_ge C 158 dX12_tellAtoms_120 (fun h120 => ?_) (fun h120 => absurd h120 (by omega))
    exact kk S hS hf h0 h3 h6
  | succ z ih =>
    intro i S hz hS hf h0 h3 h6
    have hal := ALi_len A a i
    refine g_iload_n C dX12_tellAtoms_117 rfl ?_
    refine n_bipush C 64 dX12_tellAtoms_118 ?_
    refine n_ic_ge C 158 dX12_tellAtoms_120 (fun h120 => absurd h120 (by omega)) (fun h120 => ?_)
    refine g_aload_n C dX12_tellAtoms_123 rfl ?_
    refine g_getR C fo_X12_77 dX12_tellAtoms_124 rfl (by decide) (fun _ => rfl) (gs_75_34 hS) ?_
    refine g_iload_n C dX12_tellAtoms_127 rfl ?_
    refine n_zald C (v := (bI (isI A a (Rb A a).length i))) dX12_tellAtoms_128 rfl (by decide) ((congrFun (hf.2 97 (by decide)).1 _).trans (h7 i (by omega))) ?_ (by omega)
    refine b_if_eq C 152 dX12_tellAtoms_129 (fun h129 => ?_) (fun h129 => ?_)
    · refine n_iinc C (by rw [hmL]; decide) dX12_tellAtoms_152 rfl (n_i1 _) [.ref 75, .int (nI (a)), .int (nI (i + 1))] ?_
      refine g_goto C 117 dX12_tellAtoms_155 (by decide) ?_
      refine ih (i + 1) S (by omega) hS hf h0 (by rw [ALi_n h129]; exact h3) (by rw [ALi_n h129]; exact h6)
    · refine g_aload_n C dX12_tellAtoms_132 rfl ?_
      refine g_getR C fo_X12_74 dX12_tellAtoms_133 rfl (by decide) (fun _ => rfl) (gs_75_32 hS) ?_
      refine g_aload_n C dX12_tellAtoms_136 rfl ?_
      refine g_getI C (a := (nI ((ALi A a i).length))) fo_X12_195 dX12_tellAtoms_137 rfl (by decide) (fun _ => rfl) h3 ?_
      refine g_iload_n C dX12_tellAtoms_140 rfl ?_
      refine g_iast C dX12_tellAtoms_141 rfl (by decide) (by omega) rfl ?_
      refine g_aload_n C dX12_tellAtoms_142 rfl ?_
      refine g_dup C dX12_tellAtoms_143 rfl ?_
      refine g_getI C (a := (nI ((ALi A a i).length))) fo_X12_195 dX12_tellAtoms_144 rfl (by decide) (fun _ => rfl) h3 ?_
      refine n_iconst C 1 dX12_tellAtoms_147 ?_
      refine n_iadd C dX12_tellAtoms_148 ?_
      refine g_putI C fo_X12_195 dX12_tellAtoms_149 rfl (by decide) rfl ?_
      refine n_iinc C (by rw [hmL]; decide) dX12_tellAtoms_152 rfl (n_i1 _) [.ref 75, .int (nI (a)), .int (nI (i + 1))] ?_
      refine g_goto C 117 dX12_tellAtoms_155 (by decide) ?_
      have ey := ALi_y h129
      refine ih (i + 1) _ (by omega) ((hS.fn (FN.wI (P := fun r => r = 75 ∨ r = 96) (Or.inr rfl))).fn (FN.wI (P := fun r => r = 75 ∨ r = 96) (Or.inl rfl))) ((hf.tr (FN.wI (Or.inr rfl))).tr (FN.wI (Or.inl rfl))) (fun k hk => by rw [mI_wI, va_up_ne _ _ hk]; exact h0 k hk) (by rw [ey, mI_wI, up_same]; simp) (fun p hp => ?_)
      rw [ey] at hp ⊢
      simp only [List.length_append, List.length_cons, List.length_nil] at hp
      rw [getD_snoc hp]
      show va_up (mI S 96) (ALi A a i).length (nI i) p = _
      by_cases e : p = (ALi A a i).length
      · rw [if_pos e, e, up_same]
      · rw [if_neg e, va_up_ne _ _ e]; exact h6 p (by omega)

set_option maxRecDepth 100000 in
theorem k_tellAtoms (l : Launch) {S : pv_M} {A : Ab} (hS : GS S) (hM : MSt S A) {a : Nat} (ha : a < 3) (hg : gdR (A.1.1 a)) : mt l MX12_tellAtoms 106 [.ref 75, .int (nI (a))] S (fun v S' => v = none ∧ QA (cQ A a) (qS A a) S' ∧ AT (AL A a) S' ∧ FT S S') := by
  refine mt_of (by decide) (Nat.le_of_ble_eq_true rfl) ?_
  intro x hl hR hmL C E
  show GG x 106 0 0 [.ref 75, .int (nI (a)), unk] [] S 0
  subst hl
  refine g_aload_n C dX12_tellAtoms_0 rfl ?_
  refine n_bipush C 8 dX12_tellAtoms_1 ?_
  refine g_iload_n C dX12_tellAtoms_3 rfl ?_
  refine g_iload_n C dX12_tellAtoms_4 rfl ?_
  refine g_callV C (As := [.int (nI (8)), .int (nI (a)), .int (nI (a))]) (m_makes (mm_8 _ ha hg) hS hM trivial (Nat.le_trans (Rm_len hg) (by decide))) vo_X12_231 dX12_tellAtoms_5 rfl rfl (by decide) rfl (rm_ok (M' := MX12_tellAtoms) hR (by decide)) (Nat.le_of_ble_eq_true rfl) (fun v9 S1 h9 => ?_)
  obtain ⟨rfl, g1, g2⟩ := h9
  replace g1 : MkF (d8 A a) (a8 A a) (fun c => c < rN A a) S1 (Rm A a) := g1
  have hS1 : GS S1 := hS.fn g2.1
  have hM1 : MSt S1 A := hM.fs g2.fs
  refine g_n0 [] rfl rfl rfl ?_
  refine g_aload_n C dX12_tellAtoms_8 rfl ?_
  refine g_aload_n C dX12_tellAtoms_9 rfl ?_
  refine g_getI C (a := (nI (cQ A a))) fo_X12_222 dX12_tellAtoms_10 rfl (by decide) (fun _ => rfl) g1.2.2.2.2.2.2.2 ?_
  refine g_putI C fo_X12_238 dX12_tellAtoms_13 rfl (by decide) rfl ?_
  refine n_iconst C 0 dX12_tellAtoms_16 ?_
  refine g_istore_n C (by rw [hmL]; decide) dX12_tellAtoms_17 [.ref 75, .int (nI (a)), .int (nI (0))] rfl ?_
  have f2 : FN (fun r => r = 75) S1 (wI S1 75 (va_up (mI S1 75) 30 (nI (cQ A a)))) := FN.wI rfl
  have g1b : MkF (d8 A a) (a8 A a) (fun c => c < rN A a) (wI S1 75 (va_up (mI S1 75) 30 (nI (cQ A a)))) (Rm A a) := ⟨g1.1.keep (rI_k (by decide) rfl) rfl, g1.2.1, g1.2.2.1, g1.2.2.2.1, g1.2.2.2.2.1, g1.2.2.2.2.2.1, g1.2.2.2.2.2.2.1.keep (hS1.fn f2) rfl rfl (rI_k (by decide) rfl), (rI_k (by decide) g1.2.2.2.2.2.2.2)⟩
  refine l1_tell hR hmL C hg g1b rI_s (fun S3 hS3 hf3 h53 => ?_) (cQ A a) 0 _ (Nat.zero_add _) (hS1.fn f2) FN.rf reg_0.symm
  have q3 : QA (cQ A a) (qS A a) S3 := ⟨(congrFun (hf3.2 75 (by decide)).1 30).trans rI_s, fun q hq => by rw [h53]; exact reg0 hq, cQ_le hg, fun q hq => qS_lt hg hq⟩
  have t3 : FT S S3 := (g2.ft.tr (FT.w75 (by decide))).tr (FT.fn hf3 (fun r z => by rw [z]; decide))
  have hM3 : MSt S3 A := hM.fs t3.1
  refine g_aload_n C dX12_tellAtoms_49 rfl ?_
  refine n_bipush C 6 dX12_tellAtoms_50 ?_
  refine g_iload_n C dX12_tellAtoms_52 rfl ?_
  refine g_iload_n C dX12_tellAtoms_53 rfl ?_
  refine g_callV C (As := [.int (nI (6)), .int (nI (a)), .int (nI (a))]) (m_makes (mm_6 _ ha hg) hS3 hM3 trivial (Nat.le_trans (Rb_len hg) (by decide))) vo_X12_231 dX12_tellAtoms_54 rfl rfl (by decide) rfl (rm_ok (M' := MX12_tellAtoms) hR (by decide)) (Nat.le_of_ble_eq_true rfl) (fun v9 S4 h9 => ?_)
  obtain ⟨rfl, u1, u2⟩ := h9
  replace u1 : MkF (d6 A a) a6 (fun c => c < 2 ^ rN A a) S4 (Rb A a) := u1
  have hS4 : GS S4 := hS3.fn u2.1
  have q4 : QA (cQ A a) (qS A a) S4 := q3.keep (u2.2.1 30 (by decide)) (u2.1.2 95 (by decide)).1
  have t4 : FT S S4 := t3.tr u2.ft
  refine g_n0 [] rfl rfl rfl ?_
  refine n_iconst C 0 dX12_tellAtoms_57 ?_
  refine g_istore_n C (by rw [hmL]; decide) dX12_tellAtoms_58 [.ref 75, .int (nI (a)), .int (nI (0))] rfl ?_
  refine l2_tell hR hmL C (S0 := S4) (fun S5 hS5 hf5 h75 => ?_) 64 0 S4 rfl hS4 FN.rf reg_0.symm
  have n5 : NdAt S5 (Rb A a) := u1.1.keep (congrFun (hf5.2 75 (by decide)).1 17) (hf5.2 88 (by decide)).2.1
  have q5 : QA (cQ A a) (qS A a) S5 := q4.keep (congrFun (hf5.2 75 (by decide)).1 30) (hf5.2 95 (by decide)).1
  have t5 : FT S S5 := t4.tr (FT.fn hf5 (fun r z => by rw [z]; decide))
  refine n_iconst C 0 dX12_tellAtoms_78 ?_
  refine g_istore_n C (by rw [hmL]; decide) dX12_tellAtoms_79 [.ref 75, .int (nI (a)), .int (nI (0))] rfl ?_
  refine l3_tell hR hmL C hg (S0 := S5) n5 q5 (fun S6 hS6 hf6 h76 => ?_) (Rb A a).length 0 S5 (Nat.zero_add _) hS5 FN.rf (fun s hs => by rw [h75, reg0 hs]; unfold isI; simp)
  have q6 : QA (cQ A a) (qS A a) S6 := q5.keep (congrFun (hf6.2 75 (by decide)).1 30) (hf6.2 95 (by decide)).1
  have t6 : FT S S6 := t5.tr (FT.fn hf6 (fun r z => by rw [z]; decide))
  refine g_aload_n C dX12_tellAtoms_110 rfl ?_
  refine n_iconst C 0 dX12_tellAtoms_111 ?_
  refine g_putI C fo_X12_195 dX12_tellAtoms_112 rfl (by decide) rfl ?_
  refine n_iconst C 0 dX12_tellAtoms_115 ?_
  refine g_istore_n C (by rw [hmL]; decide) dX12_tellAtoms_116 [.ref 75, .int (nI (a)), .int (nI (0))] rfl ?_
  have f7 : FN (fun r => r = 75) S6 (wI S6 75 (va_up (mI S6 75) 33 (nI 0))) := FN.wI rfl
  refine l4_tell hR hmL C (S0 := (wI S6 75 (va_up (mI S6 75) 33 (nI 0)))) h76 (fun S8 hS8 hf8 h08 h38 h68 => ?_) 64 0 _ rfl (hS6.fn f7) FN.rf (fun _ _ => rfl) rI_s (fun p hp => absurd hp (Nat.not_lt_zero _))
  have e75 : ∀ k, k ≠ 33 → mI S8 75 k = mI S6 75 k := fun k hk => (h08 k hk).trans (rI_k hk rfl)
  have t8 : FT S6 S8 := ⟨⟨(f7.mono (fun r z => Or.inl z)).tr (hf8.mono (fun r z => by rcases z with z | z; exact Or.inl z; exact Or.inr (by omega))), e75 4 (by decide), e75 10 (by decide), e75 14 (by decide)⟩, e75 0 (by decide)⟩
  exact g_vret C E dX12_tellAtoms_158 (by rw [hR]; decide) (by rw [hR]; decide) ⟨rfl, q6.keep (e75 30 (by decide)) ((hf8.2 95 (by decide)).1.trans (f7.2 95 (by decide)).1), AT.of hg h38 h68, t6.tr t8⟩
