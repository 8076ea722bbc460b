abbrev gP : Nat → Prop := fun r => r = 49 ∨ r = 50
def LGs (A : Ab) (a X : Nat) (S : pv_M) : Prop := ∀ Y, Y < X → mJ S 49 Y = lN (cnT A a Y) ∧ mJ S 50 Y = lN (avD A a Y)
theorem LGs.put {A : Ab} {a X : Nat} {S : pv_M} {u w : Nat} (h : LGs A a X S) (hu : u = cnT A a X) (hw : w = avD A a X) : LGs A a (X + 1) (wJ (wJ S 49 (va_up (mJ S 49) X (lN u))) 50 (va_up (mJ S 50) X (lN w))) := by
  intro Y hY
  show va_up (mJ S 49) X (lN u) Y = _ ∧ va_up (mJ S 50) X (lN w) Y = _
  by_cases e : Y = X
  · subst e; rw [up_same, up_same, hu, hw]; exact ⟨rfl, rfl⟩
  · rw [va_up_ne _ _ e, va_up_ne _ _ e]; exact h Y (by omega)

set_option maxRecDepth 100000 in
theorem lp_fill {x : Cx} (hR : xR x = MX0_fillLanguages.rm) (hmL : (xc x).maxLocals = MX0_fillLanguages.nL) (C : BX x cX0_fillLanguages RX0) {S0 : pv_M} {A : Ab} {a : Nat} {L : List Nat} {P : Nat} (hg : gdR (A.1.1 a)) (hC0 : AtC A a L P S0) (hP : AtP A a L P) (kk : ∀ S, AtC A a L P S → LGs A a (2 ^ cQ A a) S → FN gP S0 S → GG x 106 0 0 [.ref 37, .int (nI (2 ^ cQ A a)), unk, unk] [] (S) 129) : ∀ z X S, X + z = 2 ^ cQ A a → 0 < X → LGs A a X S → FN gP S0 S → GG x 106 0 0 [.ref 37, .int (nI (X)), unk, unk] [] (S) 22 := by
  obtain ⟨hk1, hk2⟩ := pow_le6 (cQ A a) (cQ_le hg)
  have hc6 := cQ_le hg
  intro z
  induction z with
  | zero =>
    intro X S hz h0 hL hf
    have hC : AtC A a L P S := hC0.keepR hf.fr (hC0.1.fn hf) (by decide)
    obtain rfl : 2 ^ cQ A a = X := by omega
    refine g_iload_n C dX0_fillLanguages_22 rfl ?_
    refine n_iconst C 1 dX0_fillLanguages_23 ?_
    refine g_aload_n C dX0_fillLanguages_24 rfl ?_
    refine g_getR C fo_X0_12 dX0_fillLanguages_25 rfl (by decide) (fun _ => rfl) (gs_37_0 hC.1) ?_
    refine g_getI C fo_X0_132 dX0_fillLanguages_28 rfl (by decide) (fun _ => rfl) hC.2.1.2.2.2.2.2.1 ?_
    refine n_ishl C dX0_fillLanguages_31 ?_ (by omega) hk1
    refine n_ic_ge C 129 dX0_fillLanguages_32 (fun h32 => ?_) (fun h32 => absurd h32 (by omega))
    exact kk S hC hL hf
  | succ z ih =>
    intro X S hz h0 hL hf
    have hC : AtC A a L P S := hC0.keepR hf.fr (hC0.1.fn hf) (by decide)
    have hX64 : X < 64 := by omega
    obtain ⟨r1, r2, r3, r4, r5⟩ := rst_facts X hX64 h0
    have hle : X &&& (X - 1) = rst X := rfl
    refine g_iload_n C dX0_fillLanguages_22 rfl ?_
    refine n_iconst C 1 dX0_fillLanguages_23 ?_
    refine g_aload_n C dX0_fillLanguages_24 rfl ?_
    refine g_getR C fo_X0_12 dX0_fillLanguages_25 rfl (by decide) (fun _ => rfl) (gs_37_0 hC.1) ?_
    refine g_getI C fo_X0_132 dX0_fillLanguages_28 rfl (by decide) (fun _ => rfl) hC.2.1.2.2.2.2.2.1 ?_
    refine n_ishl C dX0_fillLanguages_31 ?_ (by omega) hk1
    refine n_ic_ge C 129 dX0_fillLanguages_32 (fun h32 => absurd h32 (by omega)) (fun h32 => ?_)
    refine g_iload_n C dX0_fillLanguages_35 rfl ?_
    refine g_iload_n C dX0_fillLanguages_36 rfl ?_
    refine n_iconst C 1 dX0_fillLanguages_37 ?_
    refine n_isub C dX0_fillLanguages_38 ?_
    refine n_iand C dX0_fillLanguages_39 ?_
    refine g_istore_n C (by rw [hmL]; decide) dX0_fillLanguages_40 [.ref 37, .int (nI (X)), .int (nI ((X) &&& ((X) - (1)))), unk] rfl ?_
    refine g_iload_n C dX0_fillLanguages_41 rfl ?_
    refine g_iload_n C dX0_fillLanguages_42 rfl ?_
    refine g_ineg C dX0_fillLanguages_43 ?_
    refine g_iand C dX0_fillLanguages_44 ?_
    rw [r5]
    refine g_istore_n C (by rw [hmL]; decide) dX0_fillLanguages_45 [.ref 37, .int (nI (X)), .int (nI ((X) &&& ((X) - (1)))), .int (nI (lowb X))] rfl ?_
    show GG x 106 0 0 [.ref 37, .int (nI (X)), .int (nI (rst X)), .int (nI (lowb X))] [] S 46
    refine g_iload_n C dX0_fillLanguages_46 rfl ?_
    refine n_if_ne C 85 dX0_fillLanguages_47 (fun h47 => ?_) (fun h47 => ?_)
    · refine g_aload_n C dX0_fillLanguages_85 rfl ?_
      refine g_getR C fo_X0_49 dX0_fillLanguages_86 rfl (by decide) (fun _ => rfl) (gs_37_10 hC.1) ?_
      refine g_iload_n C dX0_fillLanguages_89 rfl ?_
      refine g_aload_n C dX0_fillLanguages_90 rfl ?_
      refine g_getR C fo_X0_49 dX0_fillLanguages_91 rfl (by decide) (fun _ => rfl) (gs_37_10 hC.1) ?_
      refine g_iload_n C dX0_fillLanguages_94 rfl ?_
      refine n_lald C dX0_fillLanguages_95 rfl (by decide) (hL _ (by omega)).1 ?_ (by omega)
      refine g_aload_n C dX0_fillLanguages_96 rfl ?_
      refine g_getR C fo_X0_49 dX0_fillLanguages_97 rfl (by decide) (fun _ => rfl) (gs_37_10 hC.1) ?_
      refine g_iload_n C dX0_fillLanguages_100 rfl ?_
      refine n_lald C dX0_fillLanguages_101 rfl (by decide) (hL _ (r3 h47)).1 ?_ (by have := r3 h47; omega)
      refine n_land C dX0_fillLanguages_102 ?_
      refine g_last C dX0_fillLanguages_103 rfl (by decide) (by omega) rfl ?_
      refine g_aload_n C dX0_fillLanguages_104 rfl ?_
      refine g_getR C fo_X0_53 dX0_fillLanguages_105 rfl (by decide) (fun _ => rfl) (gs_37_11 hC.1) ?_
      refine g_iload_n C dX0_fillLanguages_108 rfl ?_
      refine g_aload_n C dX0_fillLanguages_109 rfl ?_
      refine g_getR C fo_X0_53 dX0_fillLanguages_110 rfl (by decide) (fun _ => rfl) (gs_37_11 hC.1) ?_
      refine g_iload_n C dX0_fillLanguages_113 rfl ?_
      refine n_lald C dX0_fillLanguages_114 rfl (by decide) (hL _ (by omega)).2 ?_ (by omega)
      refine g_aload_n C dX0_fillLanguages_115 rfl ?_
      refine g_getR C fo_X0_53 dX0_fillLanguages_116 rfl (by decide) (fun _ => rfl) (gs_37_11 hC.1) ?_
      refine g_iload_n C dX0_fillLanguages_119 rfl ?_
      refine n_lald C dX0_fillLanguages_120 rfl (by decide) (hL _ (r3 h47)).2 ?_ (by have := r3 h47; omega)
      refine n_land C dX0_fillLanguages_121 ?_
      refine g_last C dX0_fillLanguages_122 rfl (by decide) (by omega) rfl ?_
      refine n_iinc C (by rw [hmL]; decide) dX0_fillLanguages_123 rfl (n_i1 _) [.ref 37, .int (nI (X + 1)), .int (nI (rst X)), .int (nI (lowb X))] ?_
      refine g_goto C 22 dX0_fillLanguages_126 (by decide) ?_
      refine g_frg [.ref 37, .int (nI (X + 1)), unk, unk] ⟨Or.inr rfl, Or.inr rfl, Or.inl rfl, Or.inl rfl, trivial⟩ ?_
      exact ih (X + 1) _ (by omega) (by omega) (hL.put (cn_split h0 hX64).1.symm (cn_split h0 hX64).2.symm) ((hf.tr (FN.wJ (by decide))).tr (FN.wJ (by decide)))
    · refine g_aload_n C dX0_fillLanguages_50 rfl ?_
      refine g_getR C fo_X0_49 dX0_fillLanguages_51 rfl (by decide) (fun _ => rfl) (gs_37_10 hC.1) ?_
      refine g_iload_n C dX0_fillLanguages_54 rfl ?_
      refine g_aload_n C dX0_fillLanguages_55 rfl ?_
      refine g_iload_n C dX0_fillLanguages_56 rfl ?_
      refine g_callV C (As := [.int (nI (X))]) (k_atomsWith _ hg hC hP hX64) vo_X0_143 dX0_fillLanguages_57 rfl rfl (by decide) rfl (rm_ok (M' := MX0_fillLanguages) hR (by decide)) (Nat.le_of_ble_eq_true rfl) (fun v9 S5 h9 => ?_)
      obtain ⟨rfl, h9⟩ := h9
      refine g_S S h9 ?_
      refine g_n0 [.long (lN (mS A a (fun s2 => decide (¬ (s2 &&& X) = 0)))), .int (nI (X)), .ref 49] rfl rfl rfl ?_
      refine g_last C dX0_fillLanguages_60 rfl (by decide) (by omega) rfl ?_
      refine g_aload_n C dX0_fillLanguages_61 rfl ?_
      refine g_getR C fo_X0_53 dX0_fillLanguages_62 rfl (by decide) (fun _ => rfl) (gs_37_11 hC.1) ?_
      refine g_iload_n C dX0_fillLanguages_65 rfl ?_
      refine g_aload_n C dX0_fillLanguages_66 rfl ?_
      refine g_getJ C fo_X0_39 dX0_fillLanguages_67 rfl (by decide) (fun _ => rfl) hC.2.2.2.2.2 ?_
      refine g_aload_n C dX0_fillLanguages_70 rfl ?_
      refine g_getR C fo_X0_49 dX0_fillLanguages_71 rfl (by decide) (fun _ => rfl) (gs_37_10 hC.1) ?_
      refine g_iload_n C dX0_fillLanguages_74 rfl ?_
      refine n_lald C dX0_fillLanguages_75 rfl (by decide) (up_same (f := mJ S 49)) ?_ (by omega)
      refine g_ldc2 C (v := lN (2 ^ 64 - 1)) dX0_fillLanguages_76 (by rw [show lN (2 ^ 64 - 1) = -1 from by decide]; exact kc_X0_147) ?_
      refine g_lxor C dX0_fillLanguages_79 ?_
      rw [lN_xor]
      refine n_land C dX0_fillLanguages_80 ?_
      refine g_last C dX0_fillLanguages_81 rfl (by decide) (by omega) rfl ?_
      refine g_goto C 123 dX0_fillLanguages_82 (by decide) ?_
      refine n_iinc C (by rw [hmL]; decide) dX0_fillLanguages_123 rfl (n_i1 _) [.ref 37, .int (nI (X + 1)), .int (nI (rst X)), .int (nI (lowb X))] ?_
      refine g_goto C 22 dX0_fillLanguages_126 (by decide) ?_
      refine g_frg [.ref 37, .int (nI (X + 1)), unk, unk] ⟨Or.inr rfl, Or.inr rfl, Or.inl rfl, Or.inl rfl, trivial⟩ ?_
      exact ih (X + 1) _ (by omega) (by omega) (hL.put (cn_single h0 hX64 h47 hP.2.2.2).1 (by rw [(cn_single h0 hX64 h47 hP.2.2.2).1]; exact (cn_single h0 hX64 h47 hP.2.2.2).2)) ((hf.tr (FN.wJ (by decide))).tr (FN.wJ (by decide)))

set_option maxRecDepth 100000 in
theorem k_fill (l : Launch) {S : pv_M} {A : Ab} {a : Nat} {L : List Nat} {P : Nat} (hg : gdR (A.1.1 a)) (hC : AtC A a L P S) (hP : AtP A a L P) : mt l MX0_fillLanguages 106 [.ref 37] S (fun v S' => v = none ∧ LGs A a (2 ^ cQ A a) S' ∧ FN gP S S') := by
  refine mt_of (by decide) (Nat.le_of_ble_eq_true rfl) ?_
  intro x hl hR hmL C E
  show GG x 106 0 0 [.ref 37, unk, unk, unk] [] S 0
  refine g_aload_n C dX0_fillLanguages_0 rfl ?_
  refine g_getR C fo_X0_49 dX0_fillLanguages_1 rfl (by decide) (fun _ => rfl) (gs_37_10 hC.1) ?_
  refine n_iconst C 0 dX0_fillLanguages_4 ?_
  refine g_aload_n C dX0_fillLanguages_5 rfl ?_
  refine g_getJ C fo_X0_39 dX0_fillLanguages_6 rfl (by decide) (fun _ => rfl) hC.2.2.2.2.2 ?_
  refine g_last C dX0_fillLanguages_9 rfl (by decide) (by omega) rfl ?_
  refine g_aload_n C dX0_fillLanguages_10 rfl ?_
  refine g_getR C fo_X0_53 dX0_fillLanguages_11 rfl (by decide) (fun _ => rfl) (gs_37_11 hC.1) ?_
  refine n_iconst C 0 dX0_fillLanguages_14 ?_
  refine g_aload_n C dX0_fillLanguages_15 rfl ?_
  refine g_getJ C fo_X0_39 dX0_fillLanguages_16 rfl (by decide) (fun _ => rfl) hC.2.2.2.2.2 ?_
  refine g_last C dX0_fillLanguages_19 rfl (by decide) (by omega) rfl ?_
  refine n_iconst C 1 dX0_fillLanguages_20 ?_
  refine g_istore_n C (by rw [hmL]; decide) dX0_fillLanguages_21 [.ref 37, .int (nI (1)), unk, unk] rfl ?_
  have hp1 := Nat.one_le_two_pow (n := cQ A a)
  refine lp_fill hR hmL C hg hC hP (fun S6 hC6 hL6 hf6 => ?_) (2 ^ cQ A a - 1) 1 _ (by omega) (by decide) (LGs.put (X := 0) (fun Y hY => absurd hY (Nat.not_lt_zero _)) (cn_0 hP.2.2.2).1 (cn_0 hP.2.2.2).2) ((FN.wJ (by decide)).tr (FN.wJ (by decide)))
  exact g_vret C E dX0_fillLanguages_129 (by rw [hR]; decide) (by rw [hR]; decide) ⟨rfl, hL6, hf6⟩

def KTL (KL : List Nat) (e : Nat) (S : pv_M) : Prop := KT S KL.length e (fun i => lN (KL.getD i 0)) ∧ KL.Nodup ∧ ∀ K, K ∈ KL → K < 2 ^ 64
theorem KTL.nodup {KL : List Nat} {e : Nat} {S : pv_M} (h : KTL KL e S) : KL.Nodup := h.2.1
theorem k_plc (l : Launch) {S : pv_M} {KL : List Nat} {e x : Nat} (h : KTL KL e S) (hx : x < 2 ^ 64) (hc : KL.length < 2 ^ e) (h730 : KL.length < 730) : mt l MX3_place 106 [.ref 26, .long (lN x)] S (fun v S' => v = some (.int (nI ((addc KL x).idxOf x))) ∧ KTL (addc KL x) e S' ∧ FN k3 S S') := by
  refine mt_post (c_X3_place l h.1 hc h730) (fun v S' q => ?_)
  rcases q with ⟨i, hi, hk, hv, hS⟩ | ⟨hno, hv, hK, hf⟩
  · have e1 : KL.getD i 0 = x := (l_eq (h.2.2 _ (getD_mem hi)) hx).mp hk
    have hm : x ∈ KL := by rw [← e1]; exact getD_mem hi
    have e2 : KL.idxOf x = i := by rw [← e1]; exact idx_getD h.nodup hi
    rw [addc_in hm, e2, hS]
    exact ⟨hv, h, FN.rf⟩
  · have hm : x ∉ KL := fun z => hno _ (idx_lt z) (by show lN (KL.getD (KL.idxOf x) 0) = _; rw [getD_idx z])
    rw [addc_idx_new hm, addc_out hm]
    have hnd := addc_nodup x h.2.1
    rw [addc_out hm] at hnd
    refine ⟨hv, ⟨?_, hnd, fun K hKm => ?_⟩, hf⟩
    · rw [List.length_append, List.length_singleton]
      refine hK.ext (fun i hi => ?_)
      show va_up (fun i => lN (KL.getD i 0)) KL.length (lN x) i = lN ((KL ++ [x]).getD i 0)
      rw [getD_snoc hi]
      by_cases z : i = KL.length
      · rw [if_pos z, z, up_same]
      · rw [if_neg z, va_up_ne _ _ z]
    · rcases List.mem_append.mp hKm with z | z
      · exact h.2.2 K z
      · rw [List.mem_singleton.mp z]; exact hx
abbrev qP : Nat → Prop := fun r => r = 26 ∨ r = 27 ∨ r = 28 ∨ r = 51
/-- the pairs of sets that stand for the languages -/
def PRs (A : Ab) (a : Nat) (KL : List Nat) (S : pv_M) : Prop := ∀ i, i < KL.length → ∃ I O, I < 2 ^ cQ A a ∧ O < 2 ^ cQ A a ∧ I ||| O ≠ 0 ∧ mI S 51 i = nI (I * 64 + O) ∧ KL.getD i 0 = lng A a I O
theorem lng_lt {A : Ab} {a I O : Nat} : lng A a I O < 2 ^ 64 := mS_lt
theorem PRs.isL {A : Ab} {a : Nat} {KL : List Nat} {S : pv_M} (h : PRs A a KL S) : ∀ K, K ∈ KL → isL A a K := fun K hK => by
  obtain ⟨I, O, h1, h2, h3, _, h5⟩ := h _ (idx_lt hK)
  rw [getD_idx hK] at h5
  exact ⟨I, O, h1, h2, h3, h5⟩

theorem PRs.in_ {A : Ab} {a x : Nat} {KL : List Nat} {S S9 : pv_M} (h : PRs A a KL S) (n2 : FN k3 S S9) (h37 : (addc KL x).length ≤ KL.length) : PRs A a (addc KL x) S9 := by
  have hm : x ∈ KL := by
    apply Classical.byContradiction
    intro z
    rw [addc_out z] at h37
    simp only [List.length_append, List.length_cons, List.length_nil] at h37
    omega
  rw [addc_in hm]
  intro i hi
  obtain ⟨I2, O2, q1, q2, q3, q4, q5⟩ := h i hi
  exact ⟨I2, O2, q1, q2, q3, by rw [(n2.2 51 (by decide)).1]; exact q4, q5⟩
theorem PRs.out_ {A : Ab} {a I O : Nat} {KL : List Nat} {S S9 : pv_M} (h : PRs A a KL S) (n2 : FN k3 S S9) (h37 : KL.length < (addc KL (lng A a I O)).length) (hI : I < 2 ^ cQ A a) (hO : O < 2 ^ cQ A a) (hnz : I ||| O ≠ 0) : PRs A a (addc KL (lng A a I O)) (wI S9 51 (va_up (mI S9 51) KL.length (nI (I * 64 + O)))) := by
  have hm : lng A a I O ∉ KL := fun z => by rw [addc_in z] at h37; omega
  intro i hi
  rw [addc_out hm] at hi ⊢
  simp only [List.length_append, List.length_cons, List.length_nil] at hi
  rw [getD_snoc hi, mI_wI]
  by_cases z : i = KL.length
  · rw [if_pos z, z]
    exact ⟨I, O, hI, hO, hnz, up_same, rfl⟩
  · rw [if_neg z]
    obtain ⟨I2, O2, q1, q2, q3, q4, q5⟩ := h i (by omega)
    exact ⟨I2, O2, q1, q2, q3, by rw [va_up_ne _ _ z, (n2.2 51 (by decide)).1]; exact q4, q5⟩

set_option maxRecDepth 100000 in
theorem k_addPair (l : Launch) {S : pv_M} {A : Ab} {a : Nat} {KL : List Nat} {e I O : Nat} (hg : gdR (A.1.1 a)) (hS : GS S) (hK : KTL KL e S) (he : 730 ≤ 2 ^ e) (hR0 : PRs A a KL S) (hL : LGs A a (2 ^ cQ A a) S) (hI : I < 2 ^ cQ A a) (hO : O < 2 ^ cQ A a) (hnz : I ||| O ≠ 0) : mt l MX0_addPair 106 [.ref 37, .int (nI (I)), .int (nI (O))] S (fun v S' => v = none ∧ KTL (addc KL (lng A a I O)) e S' ∧ PRs A a (addc KL (lng A a I O)) S' ∧ FN qP S S') := by
  refine mt_of (by decide) (Nat.le_of_ble_eq_true rfl) ?_
  intro x hl hR hmL C E
  show GG x 106 0 0 [.ref 37, .int (nI (I)), .int (nI (O)), unk] [] S 0
  have h729 : KL.length ≤ 729 := isL_len hg hK.nodup hR0.isL
  have hk2 := (pow_le6 (cQ A a) (cQ_le hg)).2
  have hle := addc_le KL (lng A a I O)
  have hge := addc_len KL (lng A a I O)
  refine g_aload_n C dX0_addPair_0 rfl ?_
  refine g_getR C fo_X0_62 dX0_addPair_1 rfl (by decide) (fun _ => rfl) (gs_37_1 hS) ?_
  refine g_getI C fo_X0_139 dX0_addPair_4 rfl (by decide) (fun _ => rfl) hK.1.2.1 ?_
  refine g_istore_n C (by rw [hmL]; decide) dX0_addPair_7 [.ref 37, .int (nI (I)), .int (nI (O)), .int (nI (KL.length))] rfl ?_
  refine g_aload_n C dX0_addPair_8 rfl ?_
  refine g_getR C fo_X0_62 dX0_addPair_9 rfl (by decide) (fun _ => rfl) (gs_37_1 hS) ?_
  refine g_aload_n C dX0_addPair_12 rfl ?_
  refine g_getR C fo_X0_49 dX0_addPair_13 rfl (by decide) (fun _ => rfl) (gs_37_10 hS) ?_
  refine g_iload_n C dX0_addPair_16 rfl ?_
  refine n_lald C dX0_addPair_17 rfl (by decide) (hL I hI).1 ?_ (by omega)
  refine g_aload_n C dX0_addPair_18 rfl ?_
  refine g_getR C fo_X0_53 dX0_addPair_19 rfl (by decide) (fun _ => rfl) (gs_37_11 hS) ?_
  refine g_iload_n C dX0_addPair_22 rfl ?_
  refine n_lald C dX0_addPair_23 rfl (by decide) (hL O hO).2 ?_ (by omega)
  refine n_land C dX0_addPair_24 ?_
  rw [lng_and]
  refine g_callV C (As := [.long (lN (lng A a I O))]) (k_plc _ hK lng_lt (by omega) (by omega)) vo_X0_140 dX0_addPair_25 rfl rfl (by decide) rfl (rm_ok (M' := MX0_addPair) hR (by decide)) (Nat.le_of_ble_eq_true rfl) (fun v9 S9 h9 => ?_)
  obtain ⟨rfl, n1, n2⟩ := h9
  have hS9 := hS.fn n2
  refine g_n0 [.int (nI ((addc KL (lng A a I O)).idxOf (lng A a I O)))] rfl rfl rfl ?_
  refine g_pop C dX0_addPair_28 rfl ?_
  refine g_aload_n C dX0_addPair_29 rfl ?_
  refine g_getR C fo_X0_62 dX0_addPair_30 rfl (by decide) (fun _ => rfl) (gs_37_1 hS9) ?_
  refine g_getI C fo_X0_139 dX0_addPair_33 rfl (by decide) (fun _ => rfl) n1.1.2.1 ?_
  refine g_iload_n C dX0_addPair_36 rfl ?_
  refine n_ic_le C 52 dX0_addPair_37 (fun h37 => ?_) (fun h37 => ?_)
  · exact g_vret C E dX0_addPair_52 (by rw [hR]; decide) (by rw [hR]; decide) (by first | exact ⟨rfl, n1, hR0.in_ n2 h37, n2.mono (fun r z => by rcases z with z | z | z <;> (show qP r; omega))⟩ | exact ⟨rfl, n1, hR0.out_ n2 h37 hI hO hnz, (n2.mono (fun r z => by rcases z with z | z | z <;> (show qP r; omega))).tr (FN.wI (by decide))⟩)
  · refine g_aload_n C dX0_addPair_40 rfl ?_
    refine g_getR C fo_X0_56 dX0_addPair_41 rfl (by decide) (fun _ => rfl) (gs_37_12 hS9) ?_
    refine g_iload_n C dX0_addPair_44 rfl ?_
    refine g_iload_n C dX0_addPair_45 rfl ?_
    refine n_bipush C 64 dX0_addPair_46 ?_
    refine n_imul C dX0_addPair_48 ?_
    refine g_iload_n C dX0_addPair_49 rfl ?_
    refine n_iadd C dX0_addPair_50 ?_
    refine g_iast C dX0_addPair_51 rfl (by decide) (by omega) rfl ?_
    exact g_vret C E dX0_addPair_52 (by rw [hR]; decide) (by rw [hR]; decide) (by first | exact ⟨rfl, n1, hR0.in_ n2 h37, n2.mono (fun r z => by rcases z with z | z | z <;> (show qP r; omega))⟩ | exact ⟨rfl, n1, hR0.out_ n2 h37 hI hO hnz, (n2.mono (fun r z => by rcases z with z | z | z <;> (show qP r; omega))).tr (FN.wI (by decide))⟩)

def cmpl (c s : Nat) : Nat := (2 ^ c - 1) ^^^ s
theorem cmpl_ok : ∀ c, c ≤ 6 → ∀ s, s < 2 ^ c → cmpl c s < 2 ^ c ∧ (∀ i, i < c → (cmpl c s).testBit i = !s.testBit i) ∧ nI (1 * 2 ^ c - 1) &&& (nI s ^^^ (-1)) = nI (cmpl c s) ∧ (0 < c → s ||| cmpl c s ≠ 0) := by decide +kernel
def FWs (A : Ab) (a : Nat) (S : pv_M) : Prop := SMAt S 40 41 ∧ ∀ l, l < 3 → ∀ Y, Y < 2 ^ cQ A a → mI S 41 (l * 64 + Y) = nI (fwd A a l Y)
theorem FWs.keep {A : Ab} {a : Nat} {P : Nat → Prop} {S S' : pv_M} (h : FWs A a S) (k : FN P S S') (q : ¬ P 41) : FWs A a S' := ⟨h.1.keep k, by rw [(k.2 41 q).1]; exact h.2⟩
theorem LGs.keep {A : Ab} {a X : Nat} {P : Nat → Prop} {S S' : pv_M} (h : LGs A a X S) (k : FN P S S') (q : ¬ P 49) (q2 : ¬ P 50) : LGs A a X S' := fun Y hY => by rw [(k.2 49 q).2.1, (k.2 50 q2).2.1]; exact h Y hY

set_option maxRecDepth 100000 in
theorem li_cq {x : Cx} (hR : xR x = MX0_countQuotients.rm) (hmL : (xc x).maxLocals = MX0_countQuotients.nL) (C : BX x cX0_countQuotients RX0) {S0 : pv_M} {A : Ab} {a s e : Nat} (hg : gdR (A.1.1 a)) (hF0 : FWs A a S0) (hL0 : LGs A a (2 ^ cQ A a) S0) (he : 730 ≤ 2 ^ e) {m I O : Nat} {KL : List Nat} (hI : I < 2 ^ cQ A a) (hO : O < 2 ^ cQ A a) (hnz : I ||| O ≠ 0) (kk : ∀ S : pv_M, GS S → KTL (addq (dL A a) (lng A a I O) (3) KL) e S → PRs A a (addq (dL A a) (lng A a I O) (3) KL) S → FN qP S0 S → GG x 106 0 0 [.ref 37, .int (nI (s)), .int (nI (m)), .int (nI (I)), .int (nI (O)), .int (nI (3))] [] (S) 126) : ∀ z i (S : pv_M), i + z = 3 → GS S → KTL (addq (dL A a) (lng A a I O) (i) KL) e S → PRs A a (addq (dL A a) (lng A a I O) (i) KL) S → FN qP S0 S → GG x 106 0 0 [.ref 37, .int (nI (s)), .int (nI (m)), .int (nI (I)), .int (nI (O)), .int (nI (i))] [] (S) 89 := by
  intro z
  induction z with
  | zero =>
    intro i S hz hS hK hP hf
    obtain rfl : 3 = i := by omega
    refine g_iload C dX0_countQuotients_89 rfl ?_
    refine n_iconst C 3 dX0_countQuotients_91 ?_
    refine n_ic_ge C 126 dX0_countQuotients_92 (fun h92 => ?_) (fun h92 => absurd h92 (by omega))
    exact kk S hS hK hP hf
  | succ z ih =>
    intro i S hz hS hK hP hf
    have hk2 := (pow_le6 (cQ A a) (cQ_le hg)).2
    refine g_iload C dX0_countQuotients_89 rfl ?_
    refine n_iconst C 3 dX0_countQuotients_91 ?_
    refine n_ic_ge C 126 dX0_countQuotients_92 (fun h92 => absurd h92 (by omega)) (fun h92 => ?_)
    refine g_aload_n C dX0_countQuotients_95 rfl ?_
    refine g_aload_n C dX0_countQuotients_96 rfl ?_
    refine g_getR C fo_X0_21 dX0_countQuotients_97 rfl (by decide) (fun _ => rfl) (gs_37_2 hS) ?_
    refine g_iload C dX0_countQuotients_100 rfl ?_
    refine g_iload_n C dX0_countQuotients_102 rfl ?_
    refine g_callV C (As := [.int (nI (i)), .int (nI (I))]) (c_X8_of _ (hF0.keep hf (by decide)).1 (by omega) (by omega) ((hF0.keep hf (by decide)).2 i (by omega) I hI)) vo_X0_69 dX0_countQuotients_103 rfl rfl (by decide) rfl (rm_ok (M' := MX0_countQuotients) hR (by decide)) (Nat.le_of_ble_eq_true rfl) (fun v9 S5 h9 => ?_)
    obtain ⟨rfl, h9⟩ := h9
    refine g_S S h9 ?_
    refine g_n0 [.int (nI (fwd A a i I)), .ref 37] rfl rfl rfl ?_
    refine g_aload_n C dX0_countQuotients_106 rfl ?_
    refine g_getR C fo_X0_21 dX0_countQuotients_107 rfl (by decide) (fun _ => rfl) (gs_37_2 hS) ?_
    refine g_iload C dX0_countQuotients_110 rfl ?_
    refine g_iload C dX0_countQuotients_112 rfl ?_
    refine g_callV C (As := [.int (nI (i)), .int (nI (O))]) (c_X8_of _ (hF0.keep hf (by decide)).1 (by omega) (by omega) ((hF0.keep hf (by decide)).2 i (by omega) O hO)) vo_X0_69 dX0_countQuotients_114 rfl rfl (by decide) rfl (rm_ok (M' := MX0_countQuotients) hR (by decide)) (Nat.le_of_ble_eq_true rfl) (fun v9 S5 h9 => ?_)
    obtain ⟨rfl, h9⟩ := h9
    refine g_S S h9 ?_
    refine g_n0 [.int (nI (fwd A a i O)), .int (nI (fwd A a i I)), .ref 37] rfl rfl rfl ?_
    refine g_callV C (As := [.int (nI (fwd A a i I)), .int (nI (fwd A a i O))]) (k_addPair _ hg hS hK he hP (hL0.keep hf (by decide) (by decide)) (fwd_lt hg (by omega)) (fwd_lt hg (by omega)) (fwd_nz hg hI hO hnz)) vo_X0_135 dX0_countQuotients_117 rfl rfl (by decide) rfl (rm_ok (M' := MX0_countQuotients) hR (by decide)) (Nat.le_of_ble_eq_true rfl) (fun v9 S9 h9 => ?_)
    obtain ⟨rfl, n1, n2, n3⟩ := h9
    refine g_n0 [] rfl rfl rfl ?_
    refine n_iinc C (by rw [hmL]; decide) dX0_countQuotients_120 rfl (n_i1 _) [.ref 37, .int (nI (s)), .int (nI (m)), .int (nI (I)), .int (nI (O)), .int (nI (i + 1))] ?_
    refine g_goto C 89 dX0_countQuotients_123 (by decide) ?_
    exact ih (i + 1) S9 (by omega) (hS.fn n3) (by rw [show addq (dL A a) (lng A a I O) (i + 1) KL = addc (addq (dL A a) (lng A a I O) i KL) (lng A a (fwd A a i I) (fwd A a i O)) from by rw [← dL_lng hg (by omega) hI hO]; rfl]; exact n1) (by rw [show addq (dL A a) (lng A a I O) (i + 1) KL = addc (addq (dL A a) (lng A a I O) i KL) (lng A a (fwd A a i I) (fwd A a i O)) from by rw [← dL_lng hg (by omega) hI hO]; rfl]; exact n2) (hf.tr n3)

set_option maxRecDepth 100000 in
theorem lo_cq {x : Cx} (hR : xR x = MX0_countQuotients.rm) (hmL : (xc x).maxLocals = MX0_countQuotients.nL) (C : BX x cX0_countQuotients RX0) {S0 : pv_M} {A : Ab} {a s e : Nat} (hg : gdR (A.1.1 a)) (hF0 : FWs A a S0) (hL0 : LGs A a (2 ^ cQ A a) S0) (he : 730 ≤ 2 ^ e) {K0 : Nat} (kk : ∀ S i, GS S → KTL (bf (dL A a) K0) e S → FN qP S0 S → GG x 106 0 0 [.ref 37, .int (nI (s)), .int (nI (i)), unk, unk, unk] [] (S) 132) : ∀ z i S KL, i + z = 731 → i ≤ KL.length → GS S → KTL KL e S → PRs A a KL S → FN qP S0 S → bf (dL A a) K0 = bfsF (dL A a) (741 - i) i KL → GG x 106 0 0 [.ref 37, .int (nI (s)), .int (nI (i)), unk, unk, unk] [] (S) 47 := by
  intro z
  induction z with
  | zero =>
    intro i S KL hz hi hS hK hP hf hb
    have h729 : KL.length ≤ 729 := isL_len hg hK.nodup hP.isL
    omega
  | succ z ih =>
    intro i S KL hz hi hS hK hP hf hb
    have h729 : KL.length ≤ 729 := isL_len hg hK.nodup hP.isL
    by_cases hend : KL.length ≤ i
    · refine g_iload_n C dX0_countQuotients_47 rfl ?_
      refine g_aload_n C dX0_countQuotients_48 rfl ?_
      refine g_getR C fo_X0_62 dX0_countQuotients_49 rfl (by decide) (fun _ => rfl) (gs_37_1 hS) ?_
      refine g_getI C fo_X0_139 dX0_countQuotients_52 rfl (by decide) (fun _ => rfl) hK.1.2.1 ?_
      refine n_ic_ge C 132 dX0_countQuotients_55 (fun h55 => ?_) (fun h55 => absurd h55 (by omega))
      have e : bf (dL A a) K0 = KL := by rw [hb, bfsF_end hend]
      exact kk S i hS (by rw [e]; exact hK) hf
    · obtain ⟨I, O, h1, h2, h3, h4, h5⟩ := hP i (by omega)
      have hk2 := (pow_le6 (cQ A a) (cQ_le hg)).2
      refine g_iload_n C dX0_countQuotients_47 rfl ?_
      refine g_aload_n C dX0_countQuotients_48 rfl ?_
      refine g_getR C fo_X0_62 dX0_countQuotients_49 rfl (by decide) (fun _ => rfl) (gs_37_1 hS) ?_
      refine g_getI C fo_X0_139 dX0_countQuotients_52 rfl (by decide) (fun _ => rfl) hK.1.2.1 ?_
      refine n_ic_ge C 132 dX0_countQuotients_55 (fun h55 => absurd h55 (by omega)) (fun h55 => ?_)
      refine g_iload_n C dX0_countQuotients_58 rfl ?_
      refine n_sipush C 730 dX0_countQuotients_59 ?_
      refine n_ic_ge C 132 dX0_countQuotients_62 (fun h62 => absurd h62 (by omega)) (fun h62 => ?_)
      refine g_aload_n C dX0_countQuotients_65 rfl ?_
      refine g_getR C fo_X0_56 dX0_countQuotients_66 rfl (by decide) (fun _ => rfl) (gs_37_12 hS) ?_
      refine g_iload_n C dX0_countQuotients_69 rfl ?_
      refine n_iald C dX0_countQuotients_70 rfl (by decide) h4 ?_ (by omega)
      refine n_bipush C 64 dX0_countQuotients_71 ?_
      refine n_idiv C dX0_countQuotients_73 ?_
      refine g_istore_n C (by rw [hmL]; decide) dX0_countQuotients_74 [.ref 37, .int (nI (s)), .int (nI (i)), .int (nI ((I * 64 + O) / (64))), unk, unk] rfl ?_
      refine g_aload_n C dX0_countQuotients_75 rfl ?_
      refine g_getR C fo_X0_56 dX0_countQuotients_76 rfl (by decide) (fun _ => rfl) (gs_37_12 hS) ?_
      refine g_iload_n C dX0_countQuotients_79 rfl ?_
      refine n_iald C dX0_countQuotients_80 rfl (by decide) h4 ?_ (by omega)
      refine n_bipush C 64 dX0_countQuotients_81 ?_
      refine n_irem C dX0_countQuotients_83 ?_
      refine g_istore C (by rw [hmL]; decide) dX0_countQuotients_84 [.ref 37, .int (nI (s)), .int (nI (i)), .int (nI ((I * 64 + O) / (64))), .int (nI ((I * 64 + O) % (64))), unk] rfl ?_
      refine n_iconst C 0 dX0_countQuotients_86 ?_
      refine g_istore C (by rw [hmL]; decide) dX0_countQuotients_87 [.ref 37, .int (nI (s)), .int (nI (i)), .int (nI ((I * 64 + O) / (64))), .int (nI ((I * 64 + O) % (64))), .int (nI (0))] rfl ?_
      rw [show (I * 64 + O) / 64 = I by omega, show (I * 64 + O) % 64 = O by omega]
      refine li_cq hR hmL C hg hF0 hL0 he (m := i) (KL := KL) h1 h2 h3 (fun S2 hS2 hK2 hP2 hf2 => ?_) 3 0 S rfl hS hK hP hf
      refine n_iinc C (by rw [hmL]; decide) dX0_countQuotients_126 rfl (n_i1 _) [.ref 37, .int (nI (s)), .int (nI (i + 1)), .int (nI (I)), .int (nI (O)), .int (nI (3))] ?_
      refine g_goto C 47 dX0_countQuotients_129 (by decide) ?_
      refine g_frg [.ref 37, .int (nI (s)), .int (nI (i + 1)), unk, unk, unk] ⟨Or.inr rfl, Or.inr rfl, Or.inr rfl, Or.inl rfl, Or.inl rfl, Or.inl rfl, trivial⟩ ?_
      have hln := addq_len (dL A a) (lng A a I O) KL 3
      refine ih (i + 1) S2 _ (by omega) (by omega) hS2 hK2 hP2 hf2 ?_
      rw [hb, bfsF_step (by omega) (by omega), show 741 - i - 1 = 741 - (i + 1) by omega, h5]
      

abbrev hP9 : Nat → Prop := fun r => r = 41 ∨ r = 49 ∨ r = 50 ∨ r = 26 ∨ r = 27 ∨ r = 28 ∨ r = 51

set_option maxRecDepth 100000 in
theorem k_countQ (l : Launch) {S : pv_M} {A : Ab} {a : Nat} {L : List Nat} {P : Nat} (hg : gdR (A.1.1 a)) (hC : AtC A a L P S) (hP : AtP A a L P) {s : Nat} (hs : s ∈ AL A a) : mt l MX0_countQuotients 106 [.ref 37, .int (nI (s))] S (fun v S' => v = some (.int (nI ((bf (dL A a) (2 ^ s)).length))) ∧ FN hP9 S S') := by
  refine mt_of (by decide) (Nat.le_of_ble_eq_true rfl) ?_
  intro x hl hR hmL C E
  show GG x 106 0 0 [.ref 37, .int (nI (s)), unk, unk, unk, unk] [] S 0
  refine g_aload_n C dX0_countQuotients_0 rfl ?_
  refine g_getR C fo_X0_21 dX0_countQuotients_1 rfl (by decide) (fun _ => rfl) (gs_37_2 hC.1) ?_
  refine g_aload_n C dX0_countQuotients_4 rfl ?_
  refine g_getR C fo_X0_12 dX0_countQuotients_5 rfl (by decide) (fun _ => rfl) (gs_37_0 hC.1) ?_
  refine g_callV C (As := [.ref 38]) (c_X8_fillForward _ (p := 40) (v := 41) ⟨rfl, by decide, rfl, by decide, gs_40_0 hC.1⟩ hC.2.1 (cQ_le hg) (fun j hj => Nat.lt_of_lt_of_le (tQ_lt hg j hj) (cQ_le hg))) vo_X0_121 dX0_countQuotients_8 rfl rfl (by decide) rfl (rm_ok (M' := MX0_countQuotients) hR (by decide)) (Nat.le_of_ble_eq_true rfl) (fun v9 S1 h9 => ?_)
  obtain ⟨rfl, u1, u2, u3⟩ := h9
  have hS1 := hC.1.fn u2
  have hC1 : AtC A a L P S1 := hC.keepR u2.fr hS1 (by decide)
  refine g_n0 [] rfl rfl rfl ?_
  refine g_aload_n C dX0_countQuotients_11 rfl ?_
  refine g_callV C (As := []) (k_fill _ hg hC1 hP) vo_X0_124 dX0_countQuotients_12 rfl rfl (by decide) rfl (rm_ok (M' := MX0_countQuotients) hR (by decide)) (Nat.le_of_ble_eq_true rfl) (fun v9 S2 h9 => ?_)
  obtain ⟨rfl, l1_, l2_⟩ := h9
  have hS2 := hS1.fn l2_
  have hF2 : FWs A a S2 := FWs.keep ⟨u1, u3⟩ l2_ (by decide)
  have hC2 : AtC A a L P S2 := hC1.keepR l2_.fr hS2 (by decide)
  refine g_n0 [] rfl rfl rfl ?_
  refine g_aload_n C dX0_countQuotients_15 rfl ?_
  refine g_getR C fo_X0_62 dX0_countQuotients_16 rfl (by decide) (fun _ => rfl) (gs_37_1 hS2) ?_
  refine n_sipush C 730 dX0_countQuotients_19 ?_
  refine g_callV C (As := [.int (nI (730))]) (c_X3_begin _ (gs_26_1 hS2) (gs_26_2 hS2) (by decide)) vo_X0_127 dX0_countQuotients_22 rfl rfl (by decide) rfl (rm_ok (M' := MX0_countQuotients) hR (by decide)) (Nat.le_of_ble_eq_true rfl) (fun v9 S5 h9 => ?_)
  obtain ⟨rfl, b1_, e, b2_, b3_, b4_⟩ := h9
  have hS5 := hS2.fn b1_
  have he : 730 ≤ 2 ^ e := by rcases b3_ with z | z; omega; rw [z]; decide
  have hF5 : FWs A a S5 := hF2.keep b1_ (by decide)
  have hL5 := l1_.keep b1_ (by decide) (by decide)
  have hC5 : AtC A a L P S5 := hC2.keepR b1_.fr hS5 (by decide)
  have hs2 := AL_c hg hs
  have hc6 := cQ_le hg
  have hs64 := AL_lt hs
  have hcm := cmpl_ok (cQ A a) (cQ_le hg) s hs2
  have hcmp := hcm.2.2.1
  have h2s := lng_one hg hs hcm.1 hcm.2.1
  have hk1 := (pow_le6 (cQ A a) (cQ_le hg)).1
  have hp1 := Nat.one_le_two_pow (n := cQ A a)
  have f5 : FN hP9 S S5 := ((u2.mono (fun r z => Or.inl z)).tr (l2_.mono (fun r z => by rcases z with z | z <;> (show hP9 r; omega)))).tr (b1_.mono (fun r z => by rcases z with z | z | z <;> (show hP9 r; omega)))
  refine g_n0 [] rfl rfl rfl ?_
  refine g_aload_n C dX0_countQuotients_25 rfl ?_
  refine g_iload_n C dX0_countQuotients_26 rfl ?_
  refine n_iconst C 1 dX0_countQuotients_27 ?_
  refine g_aload_n C dX0_countQuotients_28 rfl ?_
  refine g_getR C fo_X0_12 dX0_countQuotients_29 rfl (by decide) (fun _ => rfl) (gs_37_0 hS5) ?_
  refine g_getI C fo_X0_132 dX0_countQuotients_32 rfl (by decide) (fun _ => rfl) hC5.2.1.2.2.2.2.2.1 ?_
  refine n_ishl C dX0_countQuotients_35 ?_ (by omega) hk1
  refine n_iconst C 1 dX0_countQuotients_36 ?_
  refine n_isub C dX0_countQuotients_37 ?_ (by omega)
  refine g_iload_n C dX0_countQuotients_38 rfl ?_
  refine g_iconst C (-1) dX0_countQuotients_39 (by decide) ?_
  refine g_ixor C dX0_countQuotients_40 ?_
  refine g_iand C dX0_countQuotients_41 ?_
  rw [hcmp]
  refine g_callV C (As := [.int (nI (s)), .int (nI (cmpl (cQ A a) s))]) (k_addPair _ hg hS5 (KL := []) ⟨b4_.ext (fun i hi => absurd hi (Nat.not_lt_zero _)), List.nodup_nil, fun K hK => absurd hK List.not_mem_nil⟩ he (fun i hi => absurd hi (Nat.not_lt_zero _)) hL5 hs2 hcm.1 (hcm.2.2.2 cQ_pos)) vo_X0_135 dX0_countQuotients_42 rfl rfl (by decide) rfl (rm_ok (M' := MX0_countQuotients) hR (by decide)) (Nat.le_of_ble_eq_true rfl) (fun v9 S4 h9 => ?_)
  obtain ⟨rfl, n1, n2, n3⟩ := h9
  rw [h2s] at n1 n2
  have hS4 := hS5.fn n3
  refine g_n0 [] rfl rfl rfl ?_
  refine n_iconst C 0 dX0_countQuotients_45 ?_
  refine g_istore_n C (by rw [hmL]; decide) dX0_countQuotients_46 [.ref 37, .int (nI (s)), .int (nI (0)), unk, unk, unk] rfl ?_
  refine lo_cq hR hmL C (S0 := S5) hg hF5 hL5 he (K0 := 2 ^ s) (fun S6 i hS6 hK6 hf6 => ?_) 731 0 S4 _ rfl (Nat.zero_le _) hS4 n1 n2 n3 rfl
  have hl9 : (bf (dL A a) (2 ^ s)).length ≤ 729 := bf_isL hg ⟨s, cmpl (cQ A a) s, hs2, hcm.1, hcm.2.2.2 cQ_pos, h2s.symm⟩
  refine g_aload_n C dX0_countQuotients_132 rfl ?_
  refine g_getR C fo_X0_62 dX0_countQuotients_133 rfl (by decide) (fun _ => rfl) (gs_37_1 hS6) ?_
  refine g_getI C fo_X0_139 dX0_countQuotients_136 rfl (by decide) (fun _ => rfl) hK6.1.2.1 ?_
  exact g_iret C E dX0_countQuotients_139 (by rw [hR]; decide) (by rw [hR]; decide) ⟨rfl, f5.tr (hf6.mono (fun r z => by rcases z with z | z | z | z <;> (show hP9 r; omega)))⟩
  

set_option maxRecDepth 100000 in
theorem c_atomSize (l : Launch) {S : pv_M} {A : Ab} (hC : CSt S A) {j : Nat} (hj : j < 3) (gj : gdR (A.1.1 j)) {p : Nat} (hp : p < (AL A j).length) : mt l MX11_atomSize 106 [.ref 0, .int (nI (j)), .int (nI (p))] S (fun v S' => v = some (.int (nI ((bf (dL A j) (2 ^ ((AL A j).getD p 0))).length))) ∧ CSt S' A ∧ FR cC S S') := by
  refine mt_of (by decide) (Nat.le_of_ble_eq_true rfl) ?_
  intro x hl hR hmL C E
  show GG x 106 0 0 [.ref 0, .int (nI (j)), .int (nI (p))] [] S 0
  refine g_aload_n C dX11_atomSize_0 rfl ?_
  refine g_iload_n C dX11_atomSize_1 rfl ?_
  refine g_callV C (As := [.int (nI (j))]) (c_findAtoms _ hC hj gj) vo_X11_159 dX11_atomSize_2 rfl rfl (by decide) rfl (rm_ok (M' := MX11_atomSize) hR (by decide)) (Nat.le_of_ble_eq_true rfl) (fun v9 S6 h9 => ?_)
  obtain ⟨rfl, hC6, hF6, L, P, c6, p6, w6, o6⟩ := h9
  have hS6 := hC6.1
  have hcn := p6.cnt
  have h64 := AL_len (A := A) (a := j)
  refine g_n0 [] rfl rfl rfl ?_
  refine g_iload_n C dX11_atomSize_5 rfl ?_
  refine g_aload_n C dX11_atomSize_6 rfl ?_
  refine g_getR C fo_X11_84 dX11_atomSize_7 rfl (by decide) (fun _ => rfl) (gs_0_10 hS6) ?_
  refine g_getI C fo_X11_162 dX11_atomSize_10 rfl (by decide) (fun _ => rfl) (c6.2.2.2.1.trans (by rw [hcn])) ?_
  refine g_callS C (k_checkIndex _ hp (by omega)) so_X11_140 dX11_atomSize_13 rfl rfl (rm_ok (M' := MX11_atomSize) hR (by decide)) (Nat.le_of_ble_eq_true rfl) (fun v9 S5 h9 => ?_)
  obtain ⟨rfl, h9⟩ := h9
  refine g_S S6 h9 ?_
  refine g_n0 [] rfl rfl rfl ?_
  refine g_aload_n C dX11_atomSize_16 rfl ?_
  refine g_getR C fo_X11_84 dX11_atomSize_17 rfl (by decide) (fun _ => rfl) (gs_0_10 hS6) ?_
  refine g_aload_n C dX11_atomSize_20 rfl ?_
  refine g_getR C fo_X11_84 dX11_atomSize_21 rfl (by decide) (fun _ => rfl) (gs_0_10 hS6) ?_
  refine g_iload_n C dX11_atomSize_24 rfl ?_
  refine g_callV C (As := [.int (nI (p))]) (k_setOf _ gj c6 p6 hp) vo_X11_165 dX11_atomSize_25 rfl rfl (by decide) rfl (rm_ok (M' := MX11_atomSize) hR (by decide)) (Nat.le_of_ble_eq_true rfl) (fun v9 S5 h9 => ?_)
  obtain ⟨rfl, h9⟩ := h9
  refine g_S S6 h9 ?_
  refine g_n0 [.int (nI ((AL A j).getD p 0)), .ref 37] rfl rfl rfl ?_
  refine g_callV C (As := [.int (nI ((AL A j).getD p 0))]) (k_countQ _ gj c6 p6 (getD_mem hp)) vo_X11_194 dX11_atomSize_28 rfl rfl (by decide) rfl (rm_ok (M' := MX11_atomSize) hR (by decide)) (Nat.le_of_ble_eq_true rfl) (fun v9 S8 h9 => ?_)
  obtain ⟨rfl, y1⟩ := h9
  refine g_n0 [.int (nI ((bf (dL A j) (2 ^ ((AL A j).getD p 0))).length))] rfl rfl rfl ?_
  exact g_iret C E dX11_atomSize_31 (by rw [hR]; decide) (by rw [hR]; decide) ⟨rfl, hC6.frP y1.fr (fun r z => Or.inl (by rcases z with z | z | z | z | z | z | z <;> omega)) (hS6.fn y1) (hC6.2.1.of (congrFun y1.1 29)) (hC6.2.2.1.of (congrFun y1.1 21)), hF6.tr (y1.fr.mono (fun r z => by rcases z with z | z | z | z | z | z | z <;> (show r ≤ 74; omega)))⟩
