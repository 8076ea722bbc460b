abbrev fP : Nat → Prop := fun r => r = 37 ∨ r = 46 ∨ r = 47 ∨ r = 48
/-- the first words, told by the first letter and the atom of the rest -/
def FWd (A : Ab) (a : Nat) (L : List Nat) (S : pv_M) : Prop := ∀ s, s ∈ L → s ≠ fA A a → mI S 47 s = nI (hdw A a s) ∧ mI S 48 s = nI (tlw A a s)
/-- while the atoms are found: L so far -/
def FnS (A : Ab) (a : Nat) (L : List Nat) (P : Nat) (S : pv_M) : Prop := AtC A a L P S ∧ P < 2 ^ 64 ∧ (∀ s, P.testBit s = decide (s ∈ L)) ∧ FWd A a L S
theorem FnS.add {A : Ab} {a : Nat} {L : List Nat} {P s l f : Nat} {S : pv_M} (h : FnS A a L P S) (hn : s ∉ L) (h64 : s < 64) (hw : s ≠ fA A a → hdw A a s = l ∧ tlw A a s = f) : FnS A a (L ++ [s]) (P ||| 1 * 2 ^ s) (wI (wI (wI (wI (wJ S 37 (va_up (mJ S 37) 7 (lN (P ||| 1 * 2 ^ s)))) 47 (va_up (mI S 47) s (nI l))) 48 (va_up (mI S 48) s (nI f))) 46 (va_up (mI S 46) L.length (nI s))) 37 (va_up (mI S 37) 5 (nI (L.length + 1)))) := by
  obtain ⟨⟨g, c1, c2, c3, c4, c5⟩, hP, hb, hf⟩ := h
  have k : FN fP S (wI (wI (wI (wI (wJ S 37 (va_up (mJ S 37) 7 (lN (P ||| 1 * 2 ^ s)))) 47 (va_up (mI S 47) s (nI l))) 48 (va_up (mI S 48) s (nI f))) 46 (va_up (mI S 46) L.length (nI s))) 37 (va_up (mI S 37) 5 (nI (L.length + 1)))) := ((((FN.wJ (by decide)).tr (FN.wI (by decide))).tr (FN.wI (by decide))).tr (FN.wI (by decide))).tr (FN.wI (by decide))
  refine ⟨⟨g.fn k, c1.keep k (by decide) (by decide), c2, by rw [mI_wI, up_same]; simp, fun i hi => ?_, up_same (f := mJ S 37) (k := 7) (a := lN (P ||| 1 * 2 ^ s))⟩, ?_, fun t => ?_, fun t ht hne => ?_⟩
  · show va_up (mI S 46) L.length (nI s) i = _
    simp only [List.length_append, List.length_cons, List.length_nil] at hi
    rw [getD_snoc hi]
    by_cases e : i = L.length
    · rw [if_pos e, e, up_same]
    · rw [if_neg e, va_up_ne _ _ e]; exact c4 i (by omega)
  · rw [Nat.one_mul]; exact Nat.or_lt_two_pow hP (Nat.pow_lt_pow_right (by decide) h64)
  · rw [Nat.one_mul, Nat.testBit_or, hb t, Nat.testBit_two_pow]
    by_cases e : s = t
    · simp [e]
    · have e2 : ¬ t = s := fun z => e z.symm
      simp [e, e2]
  · show va_up (mI S 47) s (nI l) t = _ ∧ va_up (mI S 48) s (nI f) t = _
    by_cases e : t = s
    · subst e
      rw [up_same, up_same, (hw hne).1, (hw hne).2]
      exact ⟨rfl, rfl⟩
    · rw [va_up_ne _ _ e, va_up_ne _ _ e]
      rcases List.mem_append.mp ht with z | z
      · exact hf t z hne
      · exact absurd (List.mem_singleton.mp z) e

set_option maxRecDepth 100000 in
theorem k_addAtom_in (l : Launch) {S : pv_M} {A : Ab} {a : Nat} {L : List Nat} {P : Nat} (hF : FnS A a L P S) {s le f : Nat} (hs : s < 64) (hin : s ∈ L) : mt l MX0_addAtom 106 [.ref 37, .int (nI (s)), .int (nI (le)), .int (nI (f))] S (fun v S' => v = none ∧ S' = S) := by
  refine mt_of (by decide) (Nat.le_of_ble_eq_true rfl) ?_
  intro x hl hR hmL C E
  show GG x 106 0 0 [.ref 37, .int (nI (s)), .int (nI (le)), .int (nI (f))] [] S 0
  refine g_aload_n C dX0_addAtom_0 rfl ?_
  refine g_getJ C fo_X0_39 dX0_addAtom_1 rfl (by decide) (fun _ => rfl) hF.1.2.2.2.2.2 ?_
  refine g_iload_n C dX0_addAtom_4 rfl ?_
  refine g_callS C (k_holds _ hF.2.1 hs) so_X0_88 dX0_addAtom_5 rfl rfl (rm_ok (M' := MX0_addAtom) hR (by decide)) (Nat.le_of_ble_eq_true rfl) (fun v9 S9 h9 => ?_)
  obtain ⟨rfl, h9⟩ := h9
  refine g_S S h9 ?_
  refine g_n0 [.int (bI (P.testBit s))] rfl rfl rfl ?_
  refine b_if_ne C 57 dX0_addAtom_8 (fun h8 => ?_) (fun h8 => absurd (decide_eq_true hin) (by rw [← hF.2.2.1 s, h8]; decide))
  exact g_vret C E dX0_addAtom_57 (by rw [hR]; decide) (by rw [hR]; decide) ⟨rfl, rfl⟩

set_option maxRecDepth 100000 in
theorem k_addAtom_out (l : Launch) {S : pv_M} {A : Ab} {a : Nat} {L : List Nat} {P : Nat} (hF : FnS A a L P S) {s le f : Nat} (hs : s < 64) (hin : s ∉ L) (hL : L.length < 64) (hw : s ≠ fA A a → hdw A a s = le ∧ tlw A a s = f) : mt l MX0_addAtom 106 [.ref 37, .int (nI (s)), .int (nI (le)), .int (nI (f))] S (fun v S' => v = none ∧ FnS A a (L ++ [s]) (P ||| 1 * 2 ^ s) S' ∧ FN fP S S') := by
  refine mt_of (by decide) (Nat.le_of_ble_eq_true rfl) ?_
  intro x hl hR hmL C E
  show GG x 106 0 0 [.ref 37, .int (nI (s)), .int (nI (le)), .int (nI (f))] [] S 0
  refine g_aload_n C dX0_addAtom_0 rfl ?_
  refine g_getJ C fo_X0_39 dX0_addAtom_1 rfl (by decide) (fun _ => rfl) hF.1.2.2.2.2.2 ?_
  refine g_iload_n C dX0_addAtom_4 rfl ?_
  refine g_callS C (k_holds _ hF.2.1 hs) so_X0_88 dX0_addAtom_5 rfl rfl (rm_ok (M' := MX0_addAtom) hR (by decide)) (Nat.le_of_ble_eq_true rfl) (fun v9 S9 h9 => ?_)
  obtain ⟨rfl, h9⟩ := h9
  refine g_S S h9 ?_
  refine g_n0 [.int (bI (P.testBit s))] rfl rfl rfl ?_
  refine b_if_ne C 57 dX0_addAtom_8 (fun h8 => absurd (of_decide_eq_true (by rw [← hF.2.2.1 s]; exact h8)) hin) (fun h8 => ?_)
  refine g_aload_n C dX0_addAtom_11 rfl ?_
  refine g_dup C dX0_addAtom_12 rfl ?_
  refine g_getJ C fo_X0_39 dX0_addAtom_13 rfl (by decide) (fun _ => rfl) hF.1.2.2.2.2.2 ?_
  refine n_lconst C 1 dX0_addAtom_16 ?_
  refine g_iload_n C dX0_addAtom_17 rfl ?_
  refine n_lshl C dX0_addAtom_18 ?_ (by omega)
  refine n_lor C dX0_addAtom_19 ?_
  refine g_putJ C fo_X0_39 dX0_addAtom_20 rfl (by decide) rfl ?_
  refine g_aload_n C dX0_addAtom_23 rfl ?_
  refine g_getR C fo_X0_43 dX0_addAtom_24 rfl (by decide) (fun _ => rfl) (gs_37_8 hF.1.1) ?_
  refine g_iload_n C dX0_addAtom_27 rfl ?_
  refine g_iload_n C dX0_addAtom_28 rfl ?_
  refine g_iast C dX0_addAtom_29 rfl (by decide) (by omega) rfl ?_
  refine g_aload_n C dX0_addAtom_30 rfl ?_
  refine g_getR C fo_X0_46 dX0_addAtom_31 rfl (by decide) (fun _ => rfl) (gs_37_9 hF.1.1) ?_
  refine g_iload_n C dX0_addAtom_34 rfl ?_
  refine g_iload_n C dX0_addAtom_35 rfl ?_
  refine g_iast C dX0_addAtom_36 rfl (by decide) (by omega) rfl ?_
  refine g_aload_n C dX0_addAtom_37 rfl ?_
  refine g_getR C fo_X0_35 dX0_addAtom_38 rfl (by decide) (fun _ => rfl) (gs_37_6 hF.1.1) ?_
  refine g_aload_n C dX0_addAtom_41 rfl ?_
  refine g_getI C fo_X0_31 dX0_addAtom_42 rfl (by decide) (fun _ => rfl) hF.1.2.2.2.1 ?_
  refine g_iload_n C dX0_addAtom_45 rfl ?_
  refine g_iast C dX0_addAtom_46 rfl (by decide) (by omega) rfl ?_
  refine g_aload_n C dX0_addAtom_47 rfl ?_
  refine g_dup C dX0_addAtom_48 rfl ?_
  refine g_getI C fo_X0_31 dX0_addAtom_49 rfl (by decide) (fun _ => rfl) hF.1.2.2.2.1 ?_
  refine n_iconst C 1 dX0_addAtom_52 ?_
  refine n_iadd C dX0_addAtom_53 ?_
  refine g_putI C fo_X0_31 dX0_addAtom_54 rfl (by decide) rfl ?_
  exact g_vret C E dX0_addAtom_57 (by rw [hR]; decide) (by rw [hR]; decide) ⟨rfl, hF.add hin hs hw, ((((FN.wJ (by decide)).tr (FN.wI (by decide))).tr (FN.wI (by decide))).tr (FN.wI (by decide))).tr (FN.wI (by decide))⟩

theorem k_addAtom (l' : Launch) {S : pv_M} {A : Ab} {a : Nat} {L : List Nat} {P : Nat} (hF : FnS A a L P S) {s l f : Nat} (hs : s < 64) (hl : s ∉ L → L.length < 64 ∧ (s ≠ fA A a → hdw A a s = l ∧ tlw A a s = f)) : mt l' MX0_addAtom 106 [.ref 37, .int (nI s), .int (nI l), .int (nI f)] S (fun v S' => v = none ∧ (∃ P', FnS A a (addc L s) P' S') ∧ FN fP S S') := by
  by_cases z : s ∈ L
  · refine mt_post (k_addAtom_in l' hF hs z) (fun v S' q => ?_)
    rw [q.2, addc_in z]
    exact ⟨q.1, ⟨P, hF⟩, FN.rf⟩
  · refine mt_post (k_addAtom_out l' hF hs z (hl z).1 (hl z).2) (fun v S' q => ?_)
    rw [addc_out z]
    exact ⟨q.1, ⟨_, q.2.1⟩, q.2.2⟩
theorem PI.l64 {A : Ab} {a d b e l i : Nat} {L : List Nat} (h : PI A a d b e l i L) : L.length ≤ 64 := nodup_le h.1 (fun s hs => AL_lt (h.2.1 s hs))
theorem PI.new {A : Ab} {a d b e l i s : Nat} {L : List Nat} (h : PI A a d b e l i L) (hs : s ∈ AL A a) (hn : s ∉ L) : L.length < 64 := by
  have h1 := addc_nodup s h.1
  have := nodup_le (B := 64) h1 (fun t ht => by rcases addc_mem ht with z | z; exact AL_lt (h.2.1 t z); rw [z]; exact AL_lt hs)
  rw [addc_out hn] at this
  simp at this
  omega
theorem PI.step {A : Ab} {a d b e l i : Nat} {L : List Nat} (hg : gdR (A.1.1 a)) (h : PI A a d b e l i L) (hb : b ≤ i) (hi : i < e) (hl : l < 3) : PI A a d b e l (i + 1) (addc L (sa A a (L.getD i 0) l)) := by
  by_cases z : sa A a (L.getD i 0) l ∈ L
  · rw [addc_in z]; exact h.step_in hg hi z
  · rw [addc_out z]; exact (h.step_out hg hb hi hl z).1

set_option maxRecDepth 100000 in
theorem li_find {x : Cx} (hR : xR x = MX0_find.rm) (hmL : (xc x).maxLocals = MX0_find.nL) (C : BX x cX0_find RX0) {S0 : pv_M} {A : Ab} {a : Nat} (hg : gdR (A.1.1 a)) {b d e l : Nat} (hl : l < 3) (kk : ∀ S L P, FnS A a L P S → FN fP S0 S → PI A a d b e l e L → GG x 106 0 0 [.ref 37, .int (nI (b)), .int (nI (d)), .int (nI (e)), .int (nI (l)), .int (nI (e))] [] (S) 107) : ∀ z i S L P, i + z = e → b ≤ i → FnS A a L P S → FN fP S0 S → PI A a d b e l i L → GG x 106 0 0 [.ref 37, .int (nI (b)), .int (nI (d)), .int (nI (e)), .int (nI (l)), .int (nI (i))] [] (S) 69 := by
  intro z
  induction z with
  | zero =>
    intro i S L P hz hbi hF hf hI
    have h64 := hI.l64
    have heL := hI.2.2.2.1.2.1
    obtain rfl : e = i := by omega
    refine g_iload C dX0_find_69 rfl ?_
    refine g_iload_n C dX0_find_71 rfl ?_
    refine n_ic_ge C 107 dX0_find_72 (fun h72 => ?_) (fun h72 => absurd h72 (by omega))
    exact kk S L P hF hf hI
  | succ z ih =>
    intro i S L P hz hbi hF hf hI
    have h64 := hI.l64
    have heL := hI.2.2.2.1.2.1
    have hmA := hI.2.1 _ (getD_mem (show i < L.length by omega))
    have hsA := AL_sa hg hmA hl
    refine g_iload C dX0_find_69 rfl ?_
    refine g_iload_n C dX0_find_71 rfl ?_
    refine n_ic_ge C 107 dX0_find_72 (fun h72 => absurd h72 (by omega)) (fun h72 => ?_)
    refine g_aload_n C dX0_find_75 rfl ?_
    refine g_aload_n C dX0_find_76 rfl ?_
    refine g_aload_n C dX0_find_77 rfl ?_
    refine g_getR C fo_X0_35 dX0_find_78 rfl (by decide) (fun _ => rfl) (gs_37_6 hF.1.1) ?_
    refine g_iload C dX0_find_81 rfl ?_
    refine n_iald C dX0_find_83 rfl (by decide) (hF.1.2.2.2.2.1 _ (by omega)) ?_ (by omega)
    refine g_iload C dX0_find_84 rfl ?_
    refine g_callV C (As := [.int (nI (L.getD i 0)), .int (nI (l))]) (k_fol _ hg hF.1 hmA hl) vo_X0_85 dX0_find_86 rfl rfl (by decide) rfl (rm_ok (M' := MX0_find) hR (by decide)) (Nat.le_of_ble_eq_true rfl) (fun v9 S5 h9 => ?_)
    obtain ⟨rfl, h9⟩ := h9
    refine g_S S h9 ?_
    refine g_n0 [.int (nI (sa A a (L.getD i 0) l)), .ref 37] rfl rfl rfl ?_
    refine g_iload C dX0_find_89 rfl ?_
    refine g_aload_n C dX0_find_91 rfl ?_
    refine g_getR C fo_X0_35 dX0_find_92 rfl (by decide) (fun _ => rfl) (gs_37_6 hF.1.1) ?_
    refine g_iload C dX0_find_95 rfl ?_
    refine n_iald C dX0_find_97 rfl (by decide) (hF.1.2.2.2.2.1 _ (by omega)) ?_ (by omega)
    refine g_callV C (As := [.int (nI (sa A a (L.getD i 0) l)), .int (nI (l)), .int (nI (L.getD i 0))]) (k_addAtom _ hF (AL_lt hsA) (fun hn => ⟨hI.new hsA hn, fun _ => (hI.step_out hg hbi (by omega) hl hn).2⟩)) vo_X0_81 dX0_find_98 rfl rfl (by decide) rfl (rm_ok (M' := MX0_find) hR (by decide)) (Nat.le_of_ble_eq_true rfl) (fun v9 S9 h9 => ?_)
    obtain ⟨rfl, ⟨P9, f1⟩, f2⟩ := h9
    refine g_n0 [] rfl rfl rfl ?_
    refine n_iinc C (by rw [hmL]; decide) dX0_find_101 rfl (n_i1 _) [.ref 37, .int (nI (b)), .int (nI (d)), .int (nI (e)), .int (nI (l)), .int (nI (i + 1))] ?_
    refine g_goto C 69 dX0_find_104 (by decide) ?_
    exact ih (i + 1) S9 _ P9 (by omega) (by omega) f1 (hf.tr f2) (hI.step hg hbi (by omega) hl)

set_option maxRecDepth 100000 in
theorem ll_find {x : Cx} (hR : xR x = MX0_find.rm) (hmL : (xc x).maxLocals = MX0_find.nL) (C : BX x cX0_find RX0) {S0 : pv_M} {A : Ab} {a : Nat} (hg : gdR (A.1.1 a)) {b d e : Nat} (kk : ∀ S L P, FnS A a L P S → FN fP S0 S → PI A a d b e 3 b L → GG x 106 0 0 [.ref 37, .int (nI (b)), .int (nI (d)), .int (nI (e)), .int (nI (3)), unk] [] (S) 113) : ∀ z l S L P, l + z = 3 → FnS A a L P S → FN fP S0 S → PI A a d b e l b L → GG x 106 0 0 [.ref 37, .int (nI (b)), .int (nI (d)), .int (nI (e)), .int (nI (l)), unk] [] (S) 60 := by
  intro z
  induction z with
  | zero =>
    intro l S L P hz hF hf hI
    obtain rfl : l = 3 := by omega
    refine g_iload C dX0_find_60 rfl ?_
    refine n_iconst C 3 dX0_find_62 ?_
    refine n_ic_ge C 113 dX0_find_63 (fun h63 => ?_) (fun h63 => absurd h63 (by omega))
    exact kk S L P hF hf hI
  | succ z ih =>
    intro l S L P hz hF hf hI
    have h64 := hI.l64
    have heL := hI.2.2.2.1.2.1
    have hbe := hI.2.2.2.1.1
    refine g_iload C dX0_find_60 rfl ?_
    refine n_iconst C 3 dX0_find_62 ?_
    refine n_ic_ge C 113 dX0_find_63 (fun h63 => absurd h63 (by omega)) (fun h63 => ?_)
    refine g_iload_n C dX0_find_66 rfl ?_
    refine g_istore C (by rw [hmL]; decide) dX0_find_67 [.ref 37, .int (nI (b)), .int (nI (d)), .int (nI (e)), .int (nI (l)), .int (nI (b))] rfl ?_
    refine li_find hR hmL C hg (by omega) (fun S2 L2 P2 hF2 hf2 hI2 => ?_) (e - b) b S L P (by omega) (Nat.le_refl _) hF hf hI
    refine n_iinc C (by rw [hmL]; decide) dX0_find_107 rfl (n_i1 _) [.ref 37, .int (nI (b)), .int (nI (d)), .int (nI (e)), .int (nI (l + 1)), .int (nI (e))] ?_
    refine g_goto C 60 dX0_find_110 (by decide) ?_
    refine g_frg [.ref 37, .int (nI (b)), .int (nI (d)), .int (nI (e)), .int (nI (l + 1)), unk] ⟨Or.inr rfl, Or.inr rfl, Or.inr rfl, Or.inr rfl, Or.inr rfl, Or.inl rfl, trivial⟩ ?_
    exact ih (l + 1) S2 L2 P2 (by omega) hF2 hf2 (hI2.letter hg)
    

/-- the atoms in the order of their first words -/
def OrL (A : Ab) (a : Nat) (L : List Nat) : Prop := ∀ j k, j < k → k < L.length → eW (mw A a (L.getD j 0)) < eW (mw A a (L.getD k 0))

set_option maxRecDepth 100000 in
theorem lv_find {x : Cx} (hR : xR x = MX0_find.rm) (hmL : (xc x).maxLocals = MX0_find.nL) (C : BX x cX0_find RX0) {S0 : pv_M} {A : Ab} {a : Nat} (hg : gdR (A.1.1 a)) (kk : ∀ S L P b d, FnS A a L P S → FN fP S0 S → L.Nodup ∧ (∀ s, s ∈ L ↔ s ∈ AL A a) ∧ OrL A a L → GG x 106 0 0 [.ref 37, .int (nI (b)), .int (nI (d)), unk, unk, unk] [] (S) 121) : ∀ z d b S L P, d + z = 64 → FnS A a L P S → FN fP S0 S → PI A a d b L.length 0 b L → GG x 106 0 0 [.ref 37, .int (nI (b)), .int (nI (d)), unk, unk, unk] [] (S) 38 := by
  intro z
  induction z with
  | zero =>
    intro d b S L P hz hF hf hI
    obtain rfl : d = 64 := by omega
    refine g_iload_n C dX0_find_38 rfl ?_
    refine n_bipush C 64 dX0_find_39 ?_
    refine n_ic_ge C 121 dX0_find_41 (fun h41 => ?_) (fun h41 => absurd h41 (by omega))
    exact kk S L P _ _ hF hf ⟨hI.1, hI.all hg (Or.inl rfl), hI.2.2.1⟩
  | succ z ih =>
    intro d b S L P hz hF hf hI
    have h64 := hI.l64
    have hbe := hI.2.2.2.1.1
    refine g_iload_n C dX0_find_38 rfl ?_
    refine n_bipush C 64 dX0_find_39 ?_
    refine n_ic_ge C 121 dX0_find_41 (fun h41 => absurd h41 (by omega)) (fun h41 => ?_)
    refine g_iload_n C dX0_find_44 rfl ?_
    refine g_aload_n C dX0_find_45 rfl ?_
    refine g_getI C fo_X0_31 dX0_find_46 rfl (by decide) (fun _ => rfl) hF.1.2.2.2.1 ?_
    refine n_ic_ge C 121 dX0_find_49 (fun h49 => ?_) (fun h49 => ?_)
    · exact kk S L P _ _ hF hf ⟨hI.1, hI.all hg (Or.inr h49), hI.2.2.1⟩
    · refine g_aload_n C dX0_find_52 rfl ?_
      refine g_getI C fo_X0_31 dX0_find_53 rfl (by decide) (fun _ => rfl) hF.1.2.2.2.1 ?_
      refine g_istore_n C (by rw [hmL]; decide) dX0_find_56 [.ref 37, .int (nI (b)), .int (nI (d)), .int (nI (L.length)), unk, unk] rfl ?_
      refine n_iconst C 0 dX0_find_57 ?_
      refine g_istore C (by rw [hmL]; decide) dX0_find_58 [.ref 37, .int (nI (b)), .int (nI (d)), .int (nI (L.length)), .int (nI (0)), unk] rfl ?_
      refine ll_find hR hmL C hg (fun S2 L2 P2 hF2 hf2 hI2 => ?_) 3 0 S L P rfl hF hf hI
      refine g_iload_n C dX0_find_113 rfl ?_
      refine g_istore_n C (by rw [hmL]; decide) dX0_find_114 [.ref 37, .int (nI (L.length)), .int (nI (d)), .int (nI (L.length)), .int (nI (3)), unk] rfl ?_
      refine n_iinc C (by rw [hmL]; decide) dX0_find_115 rfl (n_i1 _) [.ref 37, .int (nI (L.length)), .int (nI (d + 1)), .int (nI (L.length)), .int (nI (3)), unk] ?_
      refine g_goto C 38 dX0_find_118 (by decide) ?_
      refine g_frg [.ref 37, .int (nI (L.length)), .int (nI (d + 1)), unk, unk, unk] ⟨Or.inr rfl, Or.inr rfl, Or.inr rfl, Or.inl rfl, Or.inl rfl, Or.inl rfl, trivial⟩ ?_
      exact ih (d + 1) L.length S2 L2 P2 (by omega) hF2 hf2 (hI2.level hg)
      

theorem tQ_co {A : Ab} {a i l : Nat} (hi : i < cQ A a) (hl : l < 3) : tQ A a (i * 3 + l) = co A a (rT A a (qS A a i * 3 + l)) := by
  unfold tQ mnT
  rw [show (i * 3 + l) / 3 = i by omega, show (i * 3 + l) % 3 = l by omega, if_pos hi]
  have h := nxt_Q (A := A) (a := a) (qS_mem hi) hl
  have e : (Rm A a).idxOf (qS A a i) = fi (kQ A a) (Rm A a).length i := idx_getD bf_nodup (fi_Q hi).1
  rw [e] at h
  rw [h]
  rfl
theorem tQ_lt {A : Ab} {a : Nat} (hg : gdR (A.1.1 a)) : ∀ j, j < cQ A a * 3 → tQ A a j < cQ A a := mnT_lt (Rm_n hg)
theorem bk_sa {A : Ab} {a l X : Nat} (hg : gdR (A.1.1 a)) (hl : l < 3) : un (bk (tQ A a) l (cQ A a)) X = sa A a X l := by
  apply Nat.eq_of_testBit_eq
  intro i
  rw [sa_bit, Bool.eq_iff_iff, un_bit, Bool.and_eq_true, decide_eq_true_eq]
  constructor
  · rintro ⟨s, h1, h2, h3⟩
    rw [bk_bit, Bool.and_eq_true, decide_eq_true_eq, decide_eq_true_eq] at h3
    refine ⟨h3.1, ?_⟩
    rw [← tQ_co h3.1 hl, h3.2]
    exact h2
  · rintro ⟨h1, h2⟩
    refine ⟨tQ A a (i * 3 + l), Nat.lt_of_lt_of_le (tQ_lt hg _ (by omega)) (cQ_le hg), ?_, ?_⟩
    · rw [tQ_co h1 hl]; exact h2
    · rw [bk_bit]; simp [h1]
theorem F_fA {A : Ab} {a F' : Nat} (hg : gdR (A.1.1 a)) (h64 : F' < 64) (h : sF (d8 A a) (a8 A a) (Rm A a) F') : F' = fA A a := by
  apply Nat.eq_of_testBit_eq
  intro q
  rw [ofM_bit]
  by_cases hq : q < 6
  · rw [h q hq]
    by_cases hc : q < cQ A a
    · have hc' : q < cM (d8 A a) (a8 A a) (Rm A a) := hc
      simp only [hc, hc', decide_true, Bool.true_and]
      exact (k6_bit (Rm_dm hg _ (qS_mem hc))).symm
    · have hc' : ¬ q < cM (d8 A a) (a8 A a) (Rm A a) := hc
      simp [hc, hc']
  · have := cQ_le hg
    rw [Nat.testBit_lt_two_pow (Nat.lt_of_lt_of_le h64 (show 2 ^ 6 ≤ 2 ^ q from Nat.pow_le_pow_right (by decide) (by omega)))]
    simp [show ¬ q < cQ A a by omega]

set_option maxRecDepth 100000 in
theorem k_find (l : Launch) {S : pv_M} {A : Ab} {a : Nat} (hg : gdR (A.1.1 a)) (hS : GS S) (hA : AutoAt S 38 39 (cQ A a) (tQ A a) (fA A a)) : mt l MX0_find 106 [.ref 37] S (fun v S' => v = none ∧ (∃ L P, AtC A a L P S' ∧ AtP A a L P ∧ FWd A a (AL A a) S' ∧ OrL A a L) ∧ FN (fun r => r = 43 ∨ fP r) S S') := by
  refine mt_of (by decide) (Nat.le_of_ble_eq_true rfl) ?_
  intro x hl hR hmL C E
  show GG x 106 0 0 [.ref 37, unk, unk, unk, unk, unk] [] S 0
  refine g_aload_n C dX0_find_0 rfl ?_
  refine g_getR C fo_X0_25 dX0_find_1 rfl (by decide) (fun _ => rfl) (gs_37_3 hS) ?_
  refine g_aload_n C dX0_find_4 rfl ?_
  refine g_getR C fo_X0_12 dX0_find_5 rfl (by decide) (fun _ => rfl) (gs_37_0 hS) ?_
  refine g_callV C (As := [.ref 38]) (c_X8_fillBackward _ (p := 42) (v := 43) ⟨rfl, by decide, rfl, by decide, gs_42_0 hS⟩ hA (cQ_le hg) (tQ_lt hg)) vo_X0_73 dX0_find_8 rfl rfl (by decide) rfl (rm_ok (M' := MX0_find) hR (by decide)) (Nat.le_of_ble_eq_true rfl) (fun v9 S1 h9 => ?_)
  obtain ⟨rfl, b1_, b2_, b3_⟩ := h9
  have hS1 : GS S1 := hS.fn b2_
  have hA1 : AutoAt S1 38 39 (cQ A a) (tQ A a) (fA A a) := hA.keep b2_ (by decide) (by decide)
  refine g_n0 [] rfl rfl rfl ?_
  refine g_aload_n C dX0_find_11 rfl ?_
  refine n_lconst C 0 dX0_find_12 ?_
  refine g_putJ C fo_X0_39 dX0_find_13 rfl (by decide) rfl ?_
  refine g_aload_n C dX0_find_16 rfl ?_
  refine n_iconst C 0 dX0_find_17 ?_
  refine g_putI C fo_X0_31 dX0_find_18 rfl (by decide) rfl ?_
  have f0 : FnS A a [] 0 (wI (wJ S1 37 (va_up (mJ S1 37) 7 (lN 0))) 37 (va_up (mI S1 37) 5 (nI 0))) := ⟨⟨(hS1.fn (FN.wJ (P := fP) (by decide))).fn (FN.wI (P := fP) (by decide)), (hA1.keep (FN.wJ (P := fP) (by decide)) (by decide) (by decide)).keep (FN.wI (P := fP) (by decide)) (by decide) (by decide), fun l hl X hX => (b3_ l hl X hX).trans (by rw [bk_sa hg hl]), rI_s, fun i hi => absurd hi (Nat.not_lt_zero _), by show va_up (mJ S1 37) 7 (lN 0) 7 = _; rw [up_same]⟩, by decide, fun s => by simp, fun s hs => absurd hs List.not_mem_nil⟩
  refine g_aload_n C dX0_find_21 rfl ?_
  refine g_aload_n C dX0_find_22 rfl ?_
  refine g_callV C (As := []) (c_X0_startCode _ (gs_37_0 f0.1.1) f0.1.2.1) vo_X0_77 dX0_find_23 rfl rfl (by decide) rfl (rm_ok (M' := MX0_find) hR (by decide)) (Nat.le_of_ble_eq_true rfl) (fun v9 S5 h9 => ?_)
  obtain ⟨rfl, h9⟩ := h9
  refine g_S (wI (wJ S1 37 (va_up (mJ S1 37) 7 (lN (0)))) 37 (va_up (mI (wJ S1 37 (va_up (mJ S1 37) 7 (lN (0)))) 37) 5 (nI (0)))) h9 ?_
  refine g_n0 [.int (nI (fA A a)), .ref 37] rfl rfl rfl ?_
  refine n_iconst C 0 dX0_find_26 ?_
  refine g_aload_n C dX0_find_27 rfl ?_
  refine g_callV C (As := []) (c_X0_startCode _ (gs_37_0 f0.1.1) f0.1.2.1) vo_X0_77 dX0_find_28 rfl rfl (by decide) rfl (rm_ok (M' := MX0_find) hR (by decide)) (Nat.le_of_ble_eq_true rfl) (fun v9 S5 h9 => ?_)
  obtain ⟨rfl, h9⟩ := h9
  refine g_S (wI (wJ S1 37 (va_up (mJ S1 37) 7 (lN (0)))) 37 (va_up (mI (wJ S1 37 (va_up (mJ S1 37) 7 (lN (0)))) 37) 5 (nI (0)))) h9 ?_
  refine g_n0 [.int (nI (fA A a)), .int (nI (0)), .int (nI (fA A a)), .ref 37] rfl rfl rfl ?_
  refine g_callV C (As := [.int (nI (fA A a)), .int (nI (0)), .int (nI (fA A a))]) (k_addAtom _ f0 (AL_lt (AL_fA hg)) (fun _ => ⟨by decide, fun z => absurd rfl z⟩)) vo_X0_81 dX0_find_31 rfl rfl (by decide) rfl (rm_ok (M' := MX0_find) hR (by decide)) (Nat.le_of_ble_eq_true rfl) (fun v9 S2 h9 => ?_)
  obtain ⟨rfl, ⟨P2, n1⟩, n2⟩ := h9
  replace n1 : FnS A a [fA A a] P2 S2 := n1
  refine g_n0 [] rfl rfl rfl ?_
  refine n_iconst C 0 dX0_find_34 ?_
  refine g_istore_n C (by rw [hmL]; decide) dX0_find_35 [.ref 37, .int (nI (0)), unk, unk, unk, unk] rfl ?_
  refine n_iconst C 0 dX0_find_36 ?_
  refine g_istore_n C (by rw [hmL]; decide) dX0_find_37 [.ref 37, .int (nI (0)), .int (nI (0)), unk, unk, unk] rfl ?_
  refine lv_find hR hmL C hg (S0 := S1) (fun S6 L6 P6 b6 d6_ hF6 hf6 hL6 => ?_) 64 0 0 S2 [fA A a] P2 rfl n1 ((FN.wJ (P := fP) (by decide)).tr ((FN.wI (by decide)).tr n2)) (PI.start hg)
  exact g_vret C E dX0_find_121 (by rw [hR]; decide) (by rw [hR]; decide) ⟨rfl, ⟨L6, P6, hF6.1, ⟨hL6.1, hL6.2.1, hF6.2.1, fun s => by rw [hF6.2.2.1 s, decide_eq_decide.mpr (hL6.2.1 s)]⟩, fun s hs hn => hF6.2.2.2 s ((hL6.2.1 s).mpr hs) hn, hL6.2.2⟩, (b2_.mono (fun r z => Or.inl z)).tr (hf6.mono (fun r z => Or.inr z))⟩

set_option maxRecDepth 100000 in
theorem lp_fwl {x : Cx} (hR : xR x = MX0_firstWordLength.rm) (hmL : (xc x).maxLocals = MX0_firstWordLength.nL) (C : BX x cX0_firstWordLength RX0) {S : pv_M} {A : Ab} {a : Nat} {L : List Nat} {P : Nat} (hg : gdR (A.1.1 a)) (hC : AtC A a L P S) (hw : FWd A a (AL A a) S) {s : Nat} (hs : s ∈ AL A a) (kk : GG x 106 0 0 [.ref 37, .int (nI (s)), .int (nI (lw_ A a s)), .int (nI (fA A a))] [] (S) 31) : ∀ z j, j + z = lw_ A a s → GG x 106 0 0 [.ref 37, .int (nI (s)), .int (nI (j)), .int (nI (dw A a s j))] [] (S) 4 := by
  have hfa := AL_lt (AL_fA hg)
  have hl64 := lw_lt hg hs
  intro z
  induction z with
  | zero =>
    intro j hz
    obtain rfl : lw_ A a s = j := by omega
    have hd := dw_ok hg hs (lw_ A a s) (Nat.le_refl _)
    have e : dw A a s (lw_ A a s) = fA A a := (lw_0 hg hd.1).mp (by omega)
    rw [e]
    refine g_iload_n C dX0_firstWordLength_4 rfl ?_
    refine g_aload_n C dX0_firstWordLength_5 rfl ?_
    refine g_callV C (As := []) (c_X0_startCode _ (gs_37_0 hC.1) hC.2.1) vo_X0_77 dX0_firstWordLength_6 rfl rfl (by decide) rfl (rm_ok (M' := MX0_firstWordLength) hR (by decide)) (Nat.le_of_ble_eq_true rfl) (fun v9 S5 h9 => ?_)
    obtain ⟨rfl, h9⟩ := h9
    refine g_S S h9 ?_
    refine g_n0 [.int (nI (fA A a)), .int (nI (fA A a))] rfl rfl rfl ?_
    refine n_ic_eq C 31 dX0_firstWordLength_9 (fun h9 => ?_) (fun h9 => absurd rfl h9)
    exact kk
  | succ z ih =>
    intro j hz
    have hd := dw_ok hg hs j (by omega)
    have hd64 := AL_lt hd.1
    have hne : dw A a s j ≠ fA A a := fun e => by have := (lw_0 hg hd.1).mpr e; omega
    have h48 := (hw _ hd.1 hne).2
    refine g_iload_n C dX0_firstWordLength_4 rfl ?_
    refine g_aload_n C dX0_firstWordLength_5 rfl ?_
    refine g_callV C (As := []) (c_X0_startCode _ (gs_37_0 hC.1) hC.2.1) vo_X0_77 dX0_firstWordLength_6 rfl rfl (by decide) rfl (rm_ok (M' := MX0_firstWordLength) hR (by decide)) (Nat.le_of_ble_eq_true rfl) (fun v9 S5 h9 => ?_)
    obtain ⟨rfl, h9⟩ := h9
    refine g_S S h9 ?_
    refine g_n0 [.int (nI (fA A a)), .int (nI (dw A a s j))] rfl rfl rfl ?_
    refine n_ic_eq C 31 dX0_firstWordLength_9 (fun h9 => absurd h9 hne) (fun h9 => ?_)
    refine g_iload_n C dX0_firstWordLength_12 rfl ?_
    refine n_bipush C 64 dX0_firstWordLength_13 ?_
    refine n_ic_ge C 31 dX0_firstWordLength_15 (fun h15 => absurd h15 (by omega)) (fun h15 => ?_)
    refine g_aload_n C dX0_firstWordLength_18 rfl ?_
    refine g_getR C fo_X0_46 dX0_firstWordLength_19 rfl (by decide) (fun _ => rfl) (gs_37_9 hC.1) ?_
    refine g_iload_n C dX0_firstWordLength_22 rfl ?_
    refine n_iald C dX0_firstWordLength_23 rfl (by decide) h48 ?_ (by omega)
    refine g_istore_n C (by rw [hmL]; decide) dX0_firstWordLength_24 [.ref 37, .int (nI (s)), .int (nI (j)), .int (nI (tlw A a (dw A a s j)))] rfl ?_
    refine n_iinc C (by rw [hmL]; decide) dX0_firstWordLength_25 rfl (n_i1 _) [.ref 37, .int (nI (s)), .int (nI (j + 1)), .int (nI (tlw A a (dw A a s j)))] ?_
    refine g_goto C 4 dX0_firstWordLength_28 (by decide) ?_
    exact ih (j + 1) (by omega)

set_option maxRecDepth 100000 in
theorem k_fwl (l : Launch) {S : pv_M} {A : Ab} {a : Nat} {L : List Nat} {P : Nat} (hg : gdR (A.1.1 a)) (hC : AtC A a L P S) (hw : FWd A a (AL A a) S) {s : Nat} (hs : s ∈ AL A a) : mt l MX0_firstWordLength 106 [.ref 37, .int (nI (s))] S (fun v S' => v = some (.int (nI (lw_ A a s))) ∧ S' = S) := by
  refine mt_of (by decide) (Nat.le_of_ble_eq_true rfl) ?_
  intro x hl hR hmL C E
  show GG x 106 0 0 [.ref 37, .int (nI (s)), unk, unk] [] S 0
  refine n_iconst C 0 dX0_firstWordLength_0 ?_
  refine g_istore_n C (by rw [hmL]; decide) dX0_firstWordLength_1 [.ref 37, .int (nI (s)), .int (nI (0)), unk] rfl ?_
  refine g_iload_n C dX0_firstWordLength_2 rfl ?_
  refine g_istore_n C (by rw [hmL]; decide) dX0_firstWordLength_3 [.ref 37, .int (nI (s)), .int (nI (0)), .int (nI (s))] rfl ?_
  refine lp_fwl hR hmL C hg hC hw hs ?_ (lw_ A a s) 0 (Nat.zero_add _)
  refine g_iload_n C dX0_firstWordLength_31 rfl ?_
  exact g_iret C E dX0_firstWordLength_32 (by rw [hR]; decide) (by rw [hR]; decide) ⟨rfl, rfl⟩

set_option maxRecDepth 100000 in
theorem lp_wfw {x : Cx} (hR : xR x = MX0_writeFirstWord.rm) (hmL : (xc x).maxLocals = MX0_writeFirstWord.nL) (C : BX x cX0_writeFirstWord RX0) {S0 : pv_M} {A : Ab} {a : Nat} {L : List Nat} {P : Nat} (hg : gdR (A.1.1 a)) (hC0 : AtC A a L P S0) (hw0 : FWd A a (AL A a) S0) {s : Nat} (hs : s ∈ AL A a) (h12 : lw_ A a s ≤ 12) {L0 : Nat → Nat} (kk : ∀ S at_, WordAt S 3 4 (lw_ A a s) (fun p => if p < lw_ A a s then (mw A a s).getD p 0 else L0 p) → FN (two 3 4) S0 S → GG x 106 0 0 [.ref 37, .int (nI (s)), .ref 3, .int (nI (lw_ A a s)), .int (nI (at_)), .int (nI (lw_ A a s))] [] (S) 49) : ∀ z j S, j + z = lw_ A a s → WordAt S 3 4 j (fun p => if p < j then (mw A a s).getD p 0 else L0 p) → FN (two 3 4) S0 S → GG x 106 0 0 [.ref 37, .int (nI (s)), .ref 3, .int (nI (lw_ A a s)), .int (nI (dw A a s j)), .int (nI (j))] [] (S) 17 := by
  intro z
  induction z with
  | zero =>
    intro j S hz hW hf
    obtain rfl : lw_ A a s = j := by omega
    refine g_iload C dX0_writeFirstWord_17 rfl ?_
    refine g_iload_n C dX0_writeFirstWord_19 rfl ?_
    refine n_ic_ge C 49 dX0_writeFirstWord_20 (fun h20 => ?_) (fun h20 => absurd h20 (by omega))
    exact kk S _ hW hf
  | succ z ih =>
    intro j S hz hW hf
    have hC : AtC A a L P S := hC0.keepR hf.fr (hC0.1.fn hf) (by decide)
    have hd := dw_ok hg hs j (by omega)
    have hd64 := AL_lt hd.1
    have hne : dw A a s j ≠ fA A a := fun e => by have := (lw_0 hg hd.1).mpr e; omega
    have h47 : mI S 47 (dw A a s j) = nI (hdw A a (dw A a s j)) := (congrFun (hf.2 47 (by decide)).1 _).trans (hw0 _ hd.1 hne).1
    have h48 : mI S0 48 (dw A a s j) = nI (tlw A a (dw A a s j)) := (hw0 _ hd.1 hne).2
    have hat := mw_at hg hs (j := j) (by omega)
    refine g_iload C dX0_writeFirstWord_17 rfl ?_
    refine g_iload_n C dX0_writeFirstWord_19 rfl ?_
    refine n_ic_ge C 49 dX0_writeFirstWord_20 (fun h20 => absurd h20 (by omega)) (fun h20 => ?_)
    refine g_aload_n C dX0_writeFirstWord_23 rfl ?_
    refine g_aload_n C dX0_writeFirstWord_24 rfl ?_
    refine g_getR C fo_X0_43 dX0_writeFirstWord_25 rfl (by decide) (fun _ => rfl) (gs_37_8 hC.1) ?_
    refine g_iload C dX0_writeFirstWord_28 rfl ?_
    refine n_iald C dX0_writeFirstWord_30 rfl (by decide) h47 ?_ (by omega)
    refine g_callV C (As := [.int (nI (hdw A a (dw A a s j)))]) (c_X10_add _ hW (by omega)) vo_X0_117 dX0_writeFirstWord_31 rfl rfl (by decide) rfl (rm_ok (M' := MX0_writeFirstWord) hR (by decide)) (Nat.le_of_ble_eq_true rfl) (fun v9 S9 h9 => ?_)
    obtain ⟨rfl, w1, w2⟩ := h9
    have hS9 : GS S9 := hC.1.fn w2
    have h49 : mI S9 48 (dw A a s j) = nI (tlw A a (dw A a s j)) := ((congrFun (w2.2 48 (by decide)).1 _).trans (congrFun (hf.2 48 (by decide)).1 _)).trans h48
    refine g_n0 [] rfl rfl rfl ?_
    refine g_aload_n C dX0_writeFirstWord_34 rfl ?_
    refine g_getR C fo_X0_46 dX0_writeFirstWord_35 rfl (by decide) (fun _ => rfl) (gs_37_9 hS9) ?_
    refine g_iload C dX0_writeFirstWord_38 rfl ?_
    refine n_iald C dX0_writeFirstWord_40 rfl (by decide) h49 ?_ (by omega)
    refine g_istore C (by rw [hmL]; decide) dX0_writeFirstWord_41 [.ref 37, .int (nI (s)), .ref 3, .int (nI (lw_ A a s)), .int (nI (tlw A a (dw A a s j))), .int (nI (j))] rfl ?_
    refine n_iinc C (by rw [hmL]; decide) dX0_writeFirstWord_43 rfl (n_i1 _) [.ref 37, .int (nI (s)), .ref 3, .int (nI (lw_ A a s)), .int (nI (tlw A a (dw A a s j))), .int (nI (j + 1))] ?_
    refine g_goto C 17 dX0_writeFirstWord_46 (by decide) ?_
    refine ih (j + 1) S9 (by omega) (w1.ext (fun p hp => ?_)) (hf.tr w2)
    by_cases e : p = j
    · rw [e, up_same, if_pos (by omega), hat]
    · rw [va_up_ne _ _ e]
      by_cases e2 : p < j
      · rw [if_pos e2, if_pos (by omega)]
      · rw [if_neg e2, if_neg (by omega)]

set_option maxRecDepth 100000 in
theorem k_wfw (l : Launch) {S : pv_M} {A : Ab} {a : Nat} {L : List Nat} {P : Nat} (hg : gdR (A.1.1 a)) (hC : AtC A a L P S) (hw : FWd A a (AL A a) S) {s : Nat} (hs : s ∈ AL A a) (h12 : lw_ A a s ≤ 12) {m0 : Nat} {L0 : Nat → Nat} (hW : WordAt S 3 4 m0 L0) : mt l MX0_writeFirstWord 106 [.ref 37, .int (nI (s)), .ref 3] S (fun v S' => v = none ∧ WordAt S' 3 4 (lw_ A a s) (fun p => if p < lw_ A a s then (mw A a s).getD p 0 else L0 p) ∧ FN (two 3 4) S S') := by
  refine mt_of (by decide) (Nat.le_of_ble_eq_true rfl) ?_
  intro x hl hR hmL C E
  show GG x 106 0 0 [.ref 37, .int (nI (s)), .ref 3, unk, unk, unk] [] S 0
  refine g_aload_n C dX0_writeFirstWord_0 rfl ?_
  refine g_iload_n C dX0_writeFirstWord_1 rfl ?_
  refine g_callV C (As := [.int (nI (s))]) (k_fwl _ hg hC hw hs) vo_X0_114 dX0_writeFirstWord_2 rfl rfl (by decide) rfl (rm_ok (M' := MX0_writeFirstWord) hR (by decide)) (Nat.le_of_ble_eq_true rfl) (fun v9 S9 h9 => ?_)
  obtain ⟨rfl, h9⟩ := h9
  refine g_S S h9 ?_
  refine g_n0 [.int (nI (lw_ A a s))] rfl rfl rfl ?_
  refine g_istore_n C (by rw [hmL]; decide) dX0_writeFirstWord_5 [.ref 37, .int (nI (s)), .ref 3, .int (nI (lw_ A a s)), unk, unk] rfl ?_
  refine g_iload_n C dX0_writeFirstWord_6 rfl ?_
  refine g_istore C (by rw [hmL]; decide) dX0_writeFirstWord_7 [.ref 37, .int (nI (s)), .ref 3, .int (nI (lw_ A a s)), .int (nI (s)), unk] rfl ?_
  refine g_aload_n C dX0_writeFirstWord_9 rfl ?_
  refine n_iconst C 0 dX0_writeFirstWord_10 ?_
  refine g_putI C fo_X0_98 dX0_writeFirstWord_11 rfl (by decide) rfl ?_
  refine n_iconst C 0 dX0_writeFirstWord_14 ?_
  refine g_istore C (by rw [hmL]; decide) dX0_writeFirstWord_15 [.ref 37, .int (nI (s)), .ref 3, .int (nI (lw_ A a s)), .int (nI (s)), .int (nI (0))] rfl ?_
  refine lp_wfw hR hmL C (S0 := S) hg hC hw hs h12 (L0 := L0) (fun S6 at_ hW6 hf6 => ?_) (lw_ A a s) 0 _ (Nat.zero_add _) ((hW.putN (Nat.zero_le _)).ext (fun p hp => by rw [if_neg (Nat.not_lt_zero p)])) (FN.wI (Or.inl rfl))
  exact g_vret C E dX0_writeFirstWord_49 (by rw [hR]; decide) (by rw [hR]; decide) ⟨rfl, hW6, hf6⟩

set_option maxRecDepth 100000 in
theorem c_findAtoms (l : Launch) {S : pv_M} {A : Ab} (hC : CSt S A) {j : Nat} (hj : j < 3) (gj : gdR (A.1.1 j)) : mt l MX11_findAtoms 106 [.ref 0, .int (nI (j))] S (fun v S' => v = none ∧ CSt S' A ∧ FR cC S S' ∧ ∃ L P, AtC A j L P S' ∧ AtP A j L P ∧ FWd A j (AL A j) S' ∧ OrL A j L) := by
  refine mt_of (by decide) (Nat.le_of_ble_eq_true rfl) ?_
  intro x hl hR hmL C E
  show GG x 106 0 0 [.ref 0, .int (nI (j))] [] S 0
  have hS := hC.1
  have hA0 := hC.2.2.2.1 j hj
  have hc6 : cM (d8 A j) (a8 A j) (R8 A j) ≤ 6 := Nat.le_trans cM_le (R8_len gj)
  refine g_iload_n C dX11_findAtoms_0 rfl ?_
  refine g_callS C (k_checkRegister _ hj) so_X11_88 dX11_findAtoms_1 rfl rfl (rm_ok (M' := MX11_findAtoms) hR (by decide)) (Nat.le_of_ble_eq_true rfl) (fun v9 S9 h9 => ?_)
  obtain ⟨rfl, h9⟩ := h9
  refine g_S S h9 ?_
  refine g_n0 [] rfl rfl rfl ?_
  refine g_aload_n C dX11_findAtoms_4 rfl ?_
  refine g_getR C fo_X11_77 dX11_findAtoms_5 rfl (by decide) (fun _ => rfl) (gs_0_6 hS) ?_
  refine g_aload_n C dX11_findAtoms_8 rfl ?_
  refine g_getR C fo_X11_11 dX11_findAtoms_9 rfl (by decide) (fun _ => rfl) (gs_0_0 hS) ?_
  refine g_iload_n C dX11_findAtoms_12 rfl ?_
  refine g_aald C dX11_findAtoms_13 rfl (Or.inl rfl) (by decide) (by omega) rfl (hS.reg hj) ?_
  refine g_callV C (As := [.ref (53 + 4 * j)]) (c_run (mach_reg _ hA0 (fun z => absurd z.2 (by omega)) (fun z => absurd z.2 (by omega)) gj.1 gj.2.1 gj.2.2.1 gj.2.2.2) hA0 hS hC.2.1) vo_X11_151 dX11_findAtoms_14 rfl rfl (by decide) rfl (rm_ok (M' := MX11_findAtoms) hR (by decide)) (Nat.le_of_ble_eq_true rfl) (fun v9 S9 h9 => ?_)
  obtain ⟨rfl, g1, g2, g3, g4⟩ := h9
  obtain ⟨hC9, hF9⟩ := hC.run g2 g3 g4
  refine g_n0 [.int (nI (cM (d8 A j) (a8 A j) (R8 A j)))] rfl rfl rfl ?_
  refine g_pop C dX11_findAtoms_17 rfl ?_
  refine g_aload_n C dX11_findAtoms_18 rfl ?_
  refine g_getR C fo_X11_77 dX11_findAtoms_19 rfl (by decide) (fun _ => rfl) (gs_0_6 g3) ?_
  refine g_aload_n C dX11_findAtoms_22 rfl ?_
  refine g_getR C fo_X11_84 dX11_findAtoms_23 rfl (by decide) (fun _ => rfl) (gs_0_10 g3) ?_
  refine g_getR C fo_X11_300 dX11_findAtoms_26 rfl (by decide) (fun _ => rfl) (gs_37_0 g3) ?_
  refine g_callV C (As := [.ref 38]) (c_store (AutoAt.any rfl (by decide) rfl (by decide) (gs_38_1 g3)) (by decide) (by decide) g1 hc6) vo_X11_155 dX11_findAtoms_29 rfl rfl (by decide) rfl (rm_ok (M' := MX11_findAtoms) hR (by decide)) (Nat.le_of_ble_eq_true rfl) (fun v9 S8 h9 => ?_)
  obtain ⟨rfl, q2, F9, q3, q4, q5⟩ := h9
  have hS8 := g3.fn q2
  have hC8 : CSt S8 A := hC9.frP q2.fr (fun r z => Or.inl (by rcases z with z | z <;> omega)) hS8 (g4.of (congrFun q2.1 29)) (hC9.2.2.1.keepR q2.fr (by decide))
  have hA8 : AutoAt S8 38 39 (cQ A j) (tQ A j) (fA A j) := by
    replace q4 : sF (d8 A j) (a8 A j) (R8 A j) F9 := q4
    replace q5 : AutoAt S8 38 39 (cM (d8 A j) (a8 A j) (R8 A j)) (mnT (R8 A j).length (nxt (d8 A j) (R8 A j)) (kM_ (d8 A j) (a8 A j) (R8 A j)) (cM (d8 A j) (a8 A j) (R8 A j))) F9 := q5
    rw [← Rm_eq gj] at q4 q5
    rw [← F_fA gj q3 q4]
    exact q5
  refine g_n0 [] rfl rfl rfl ?_
  refine g_aload_n C dX11_findAtoms_32 rfl ?_
  refine g_getR C fo_X11_84 dX11_findAtoms_33 rfl (by decide) (fun _ => rfl) (gs_0_10 hS8) ?_
  refine g_callV C (As := []) (k_find _ gj hS8 hA8) vo_X11_303 dX11_findAtoms_36 rfl rfl (by decide) rfl (rm_ok (M' := MX11_findAtoms) hR (by decide)) (Nat.le_of_ble_eq_true rfl) (fun v9 S6 h9 => ?_)
  obtain ⟨rfl, f1, f2⟩ := h9
  refine g_n0 [] rfl rfl rfl ?_
  exact g_vret C E dX11_findAtoms_39 (by rw [hR]; decide) (by rw [hR]; decide) ⟨rfl, hC8.frP f2.fr (fun r z => Or.inl (by rcases z with z | z | z | z | z <;> omega)) (hS8.fn f2) (hC8.2.1.of (congrFun f2.1 29)) (hC8.2.2.1.of (congrFun f2.1 21)), (hF9.tr (q2.fr.mono (fun r z => by rcases z with z | z <;> (show r ≤ 74; omega)))).tr (f2.fr.mono (fun r z => by rcases z with z | z | z | z | z <;> (show r ≤ 74; omega))), f1⟩

set_option maxRecDepth 100000 in
theorem t_findAtoms_r {l : Launch} (hst : l.stackTraces = false) {S : pv_M} {p : Int32} (h : badI p 3) : mth l MX11_findAtoms.th 106 [.ref 0, .int (p)] S "java/lang/IndexOutOfBoundsException" (fun S' => S' = S) := by
  refine mth_of hst (by decide) (Nat.le_of_ble_eq_true rfl) ?_
  intro x hl hR hmL C X
  have hst' : x.1.2.1.stackTraces = false := by rw [hl]; exact hst
  show GG x 106 0 0 [.ref 0, .int (p)] [] S 0
  refine g_iload_n C dX11_findAtoms_0 rfl ?_
  exact g_thrS C X (t_checkRegister hst' h) so_X11_88 dX11_findAtoms_1 rfl rfl (rm_ok (M' := MX11_findAtoms.th) hR (by decide)) (Nat.le_of_ble_eq_true rfl) (fun _ h => h)
