theorem aaM_lt {AN : Nat → Nat} {X q at_ : Nat} (h64 : at_ ≤ 64) (hAN : ∀ p, p < 192 → AN p < 2 ^ 64) (hq : q < 3) : aaM AN X q at_ < 2 ^ 64 := orf_lt (B := 64) _ (fun s hs _ => hAN _ (by omega))

theorem addc_le (L : List Nat) (c : Nat) : (addc L c).length ≤ L.length + 1 := by
  by_cases h : c ∈ L
  · rw [addc_in h]; omega
  · rw [addc_out h]; simp
theorem addq_le (δ : Nat → Nat → Nat) (c : Nat) (L : List Nat) : ∀ q, (addq δ c q L).length ≤ L.length + q
  | 0 => Nat.le_refl _
  | q + 1 => Nat.le_trans (addc_le _ _) (by have := addq_le δ c L q; omega)

set_option maxRecDepth 100000 in
theorem lq_sm {x : Cx} (hR : xR x = MX12_isSmall.rm) (hmL : (xc x).maxLocals = MX12_isSmall.nL) (C : BX x cX12_isSmall RX12) {S0 : pv_M} {at_ la as_ : Nat} {AN : Nat → Nat} (hX0 : XA at_ AN la as_ S0) (h64 : at_ ≤ 64) (hAN : ∀ p, p < 192 → AN p < 2 ^ 64) {m : Nat} {L : List Nat} (hi : m < L.length) (h6 : L.length ≤ 6) (hL : ∀ c, c ∈ L → c < 2 ^ 64) (kk : ∀ S : pv_M, GS S → NdAt S (addq (fun c q => aaM AN c q at_) (L.getD m 0) (3) L) → FQ k17 S0 S → GG x 106 0 0 [.ref 75, .int (nI (m)), .int (nI (3))] [] (S) 62) : ∀ z i (S : pv_M), i + z = 3 → GS S → NdAt S (addq (fun c q => aaM AN c q at_) (L.getD m 0) (i) L) → FQ k17 S0 S → GG x 106 0 0 [.ref 75, .int (nI (m)), .int (nI (i))] [] (S) 35 := by
  intro z
  induction z with
  | zero =>
    intro i S hz hS hN hf
    obtain rfl : 3 = i := by omega
    refine g_iload_n C dX12_isSmall_35 rfl ?_
    refine n_iconst C 3 dX12_isSmall_36 ?_
    refine n_ic_ge C 62 dX12_isSmall_37 (fun h37 => ?_) (fun h37 => absurd h37 (by omega))
    exact kk S hS hN hf
  | succ z ih =>
    intro i S hz hS hN hf
    have hlen := addq_len (fun c q => aaM AN c q at_) (L.getD m 0) L i
    have hle9 := addq_le (fun c q => aaM AN c q at_) (L.getD m 0) L i
    have hk64 := aaM_lt (X := L.getD m 0) h64 hAN (show i < 3 by omega)
    refine g_iload_n C dX12_isSmall_35 rfl ?_
    refine n_iconst C 3 dX12_isSmall_36 ?_
    refine n_ic_ge C 62 dX12_isSmall_37 (fun h37 => absurd h37 (by omega)) (fun h37 => ?_)
    refine g_aload_n C dX12_isSmall_40 rfl ?_
    refine g_aload_n C dX12_isSmall_41 rfl ?_
    refine g_aload_n C dX12_isSmall_42 rfl ?_
    refine g_getR C fo_X12_49 dX12_isSmall_43 rfl (by decide) (fun _ => rfl) (gs_75_18 hS) ?_
    refine g_iload_n C dX12_isSmall_46 rfl ?_
    refine n_lald C (v := (lN (L.getD m 0))) dX12_isSmall_47 rfl (by decide) ((hN.2.1 _ (by omega)).trans (by rw [addq_getD _ _ hi])) ?_ (by omega)
    refine g_iload_n C dX12_isSmall_48 rfl ?_
    refine g_callV C (As := [.long (lN (L.getD m 0)), .int (nI (i))]) (k_atomsAfter _ hS (hX0.keep hf.w5) h64 (hL _ (getD_mem hi)) (by omega)) vo_X12_192 dX12_isSmall_49 rfl rfl (by decide) rfl (rm_ok (M' := MX12_isSmall) hR (by decide)) (Nat.le_of_ble_eq_true rfl) (fun v9 S5 h9 => ?_)
    obtain ⟨rfl, h9⟩ := h9
    refine g_S S h9 ?_
    refine g_n0 [.long (lN (aaM AN (L.getD m 0) i at_)), .ref 75] rfl rfl rfl ?_
    refine g_callV C (As := [.long (lN (aaM AN (L.getD m 0) i at_))]) (k_nodeOf _ hS hN hk64 (Or.inr (by omega))) vo_X12_208 dX12_isSmall_52 rfl rfl (by decide) rfl (rm_ok (M' := MX12_isSmall) hR (by decide)) (Nat.le_of_ble_eq_true rfl) (fun v9 S9 h9 => ?_)
    obtain ⟨rfl, n1, n2, n3⟩ := h9
    refine g_n0 [.int (nI ((addc (addq (fun c q => aaM AN c q at_) (L.getD m 0) (i) L) (aaM AN (L.getD m 0) i at_)).idxOf (aaM AN (L.getD m 0) i at_)))] rfl rfl rfl ?_
    refine g_pop C dX12_isSmall_55 rfl ?_
    refine n_iinc C (by rw [hmL]; decide) dX12_isSmall_56 rfl (n_i1 _) [.ref 75, .int (nI (m)), .int (nI (i + 1))] ?_
    refine g_goto C 35 dX12_isSmall_59 (by decide) ?_
    exact ih (i + 1) S9 (by omega) (hS.fn n3.1) n1 (hf.tr n3)

set_option maxRecDepth 100000 in
theorem lp_sm {x : Cx} (hR : xR x = MX12_isSmall.rm) (hmL : (xc x).maxLocals = MX12_isSmall.nL) (C : BX x cX12_isSmall RX12) {S0 : pv_M} {at_ la as_ : Nat} {AN : Nat → Nat} (hX0 : XA at_ AN la as_ S0) (h64 : at_ ≤ 64) (hAN : ∀ p, p < 192 → AN p < 2 ^ 64) (kk : ∀ S L i, GS S → NdAt S L → FQ k17 S0 S → ((bf (fun c q => aaM AN c q at_) as_).length ≤ 6 ∧ L.length = (bf (fun c q => aaM AN c q at_) as_).length ∨ 6 < (bf (fun c q => aaM AN c q at_) as_).length ∧ 6 < L.length) → GG x 106 0 0 [.ref 75, .int (nI (i)), unk] [] (S) 68) : ∀ z i (S : pv_M) (L : List Nat), i + z = 7 → i ≤ L.length → GS S → NdAt S L → FQ k17 S0 S → bf (fun c q => aaM AN c q at_) as_ = bfsF (fun c q => aaM AN c q at_) (741 - i) i L → GG x 106 0 0 [.ref 75, .int (nI (i)), unk] [] (S) 16 := by
  intro z
  induction z with
  | zero =>
    intro i S L hz hil hS hN hf hb
    obtain rfl : i = 7 := by omega
    have hl7 := hN.2.2.2.2
    have hbl := bfsF_len (fun c q => aaM AN c q at_) (741 - 7) 7 L
    rw [← hb] at hbl
    refine g_iload_n C dX12_isSmall_16 rfl ?_
    refine g_aload_n C dX12_isSmall_17 rfl ?_
    refine g_getI C (a := (nI (L.length))) fo_X12_153 dX12_isSmall_18 rfl (by decide) (fun _ => rfl) hN.1 ?_
    refine n_ic_ge C 68 dX12_isSmall_21 (fun h21 => ?_) (fun h21 => ?_)
    · first | exact kk S L _ hS hN hf (Or.inr ⟨by omega, by omega⟩)
    · refine g_aload_n C dX12_isSmall_24 rfl ?_
      refine g_getI C (a := (nI (L.length))) fo_X12_153 dX12_isSmall_25 rfl (by decide) (fun _ => rfl) hN.1 ?_
      refine n_bipush C 6 dX12_isSmall_28 ?_
      refine n_ic_gt C 68 dX12_isSmall_30 (fun h30 => ?_) (fun h30 => absurd h30 (by omega))
      first | exact kk S L _ hS hN hf (Or.inr ⟨by omega, by omega⟩)
  | succ z ih =>
    intro i S L hz hil hS hN hf hb
    have hl7 := hN.2.2.2.2
    have hbl := bfsF_len (fun c q => aaM AN c q at_) (741 - i) i L
    rw [← hb] at hbl
    refine g_iload_n C dX12_isSmall_16 rfl ?_
    refine g_aload_n C dX12_isSmall_17 rfl ?_
    refine g_getI C (a := (nI (L.length))) fo_X12_153 dX12_isSmall_18 rfl (by decide) (fun _ => rfl) hN.1 ?_
    refine n_ic_ge C 68 dX12_isSmall_21 (fun h21 => ?_) (fun h21 => ?_)
    · by_cases hx : L.length ≤ i
      · have e : bf (fun c q => aaM AN c q at_) as_ = L := by rw [hb, bfsF_end hx]
        exact kk S L _ hS hN hf (by rw [e]; omega)
      · exact kk S L _ hS hN hf (Or.inr ⟨by omega, by omega⟩)
    · refine g_aload_n C dX12_isSmall_24 rfl ?_
      refine g_getI C (a := (nI (L.length))) fo_X12_153 dX12_isSmall_25 rfl (by decide) (fun _ => rfl) hN.1 ?_
      refine n_bipush C 6 dX12_isSmall_28 ?_
      refine n_ic_gt C 68 dX12_isSmall_30 (fun h30 => ?_) (fun h30 => ?_)
      · by_cases hx : L.length ≤ i
        · have e : bf (fun c q => aaM AN c q at_) as_ = L := by rw [hb, bfsF_end hx]
          exact kk S L _ hS hN hf (by rw [e]; omega)
        · exact kk S L _ hS hN hf (Or.inr ⟨by omega, by omega⟩)
      · refine n_iconst C 0 dX12_isSmall_33 ?_
        refine g_istore_n C (by rw [hmL]; decide) dX12_isSmall_34 [.ref 75, .int (nI (i)), .int (nI (0))] rfl ?_
        refine lq_sm hR hmL C hX0 h64 hAN (m := i) (L := L) (by omega) (by omega) hN.2.2.2.1 (fun S2 hS2 hN2 hf2 => ?_) 3 0 S rfl hS hN hf
        refine n_iinc C (by rw [hmL]; decide) dX12_isSmall_62 rfl (n_i1 _) [.ref 75, .int (nI (i + 1)), .int (nI (3))] ?_
        refine g_goto C 16 dX12_isSmall_65 (by decide) ?_
        refine g_frg [.ref 75, .int (nI (i + 1)), unk] ⟨Or.inr rfl, Or.inr rfl, Or.inl rfl, trivial⟩ ?_
        have hln := addq_len (fun c q => aaM AN c q at_) (L.getD i 0) L 3
        refine ih (i + 1) S2 _ (by omega) (by omega) hS2 hN2 hf2 ?_
        rw [hb, bfsF_step (by omega) (by omega), show 741 - i - 1 = 741 - (i + 1) by omega]
        

set_option maxRecDepth 100000 in
theorem k_isSmall (l : Launch) {S : pv_M} (hS : GS S) {at_ la as_ : Nat} {AN : Nat → Nat} (hX : XA at_ AN la as_ S) (h64 : at_ ≤ 64) (hAN : ∀ p, p < 192 → AN p < 2 ^ 64) (has : as_ < 2 ^ 64) : mt l MX12_isSmall 106 [.ref 75] S (fun v S' => v = some (.int (bI (decide ((bf (fun c q => aaM AN c q at_) as_).length ≤ 6)))) ∧ FQ k17 S S') := by
  refine mt_of (by decide) (Nat.le_of_ble_eq_true rfl) ?_
  intro x hl hR hmL C E
  show GG x 106 0 0 [.ref 75, unk, unk] [] S 0
  refine g_aload_n C dX12_isSmall_0 rfl ?_
  refine n_iconst C 0 dX12_isSmall_1 ?_
  refine g_putI C fo_X12_153 dX12_isSmall_2 rfl (by decide) rfl ?_
  have hnil : NdAt (wI S 75 (va_up (mI S 75) 17 (nI 0))) [] := ⟨rI_s, fun i hi => absurd hi (Nat.not_lt_zero _), List.nodup_nil, fun c hc => absurd hc (List.not_mem_nil), Nat.zero_le _⟩
  refine g_aload_n C dX12_isSmall_5 rfl ?_
  refine g_aload_n C dX12_isSmall_6 rfl ?_
  refine g_getJ C (a := (lN (as_))) fo_X12_169 dX12_isSmall_7 rfl (by decide) (fun _ => rfl) hX.2.2.2 ?_
  refine g_callV C (As := [.long (lN (as_))]) (k_nodeOf _ (hS.fn (FN.wI (P := mC) (by decide))) (L := []) hnil has (Or.inr (by decide))) vo_X12_208 dX12_isSmall_10 rfl rfl (by decide) rfl (rm_ok (M' := MX12_isSmall) hR (by decide)) (Nat.le_of_ble_eq_true rfl) (fun v9 S1 h9 => ?_)
  obtain ⟨rfl, n1, n2, n3⟩ := h9
  have hS1 : GS S1 := (hS.fn (FN.wI (P := mC) (by decide))).fn n3.1
  have f1 : FQ k17 S S1 := (FQ.w75 (K := k17) rfl).tr n3
  refine g_n0 [.int (nI ((addc [] as_).idxOf as_))] rfl rfl rfl ?_
  refine g_pop C dX12_isSmall_13 rfl ?_
  refine n_iconst C 0 dX12_isSmall_14 ?_
  refine g_istore_n C (by rw [hmL]; decide) dX12_isSmall_15 [.ref 75, .int (nI (0)), unk] rfl ?_
  refine lp_sm hR hmL C hX h64 hAN (fun S2 L i hS2 hN2 hf2 hex => ?_) 7 0 S1 _ rfl (Nat.zero_le _) hS1 n1 f1 rfl
  have hl7 := hN2.2.2.2.2
  refine g_aload_n C dX12_isSmall_68 rfl ?_
  refine g_getI C (a := (nI (L.length))) fo_X12_153 dX12_isSmall_69 rfl (by decide) (fun _ => rfl) hN2.1 ?_
  refine n_bipush C 6 dX12_isSmall_72 ?_
  suffices K82 : GG x 106 0 0 [.ref 75, .int (nI (i)), unk] [.int (bI (decide ((bf (fun c q => aaM AN c q at_) as_).length ≤ 6)))] S2 82 from by
    refine n_ic_gt C 81 dX12_isSmall_74 (fun h74 => ?_) (fun h74 => ?_)
    · refine n_iconst C 0 dX12_isSmall_81 ?_
      rw [decide_eq_false (by omega)] at K82; exact K82
    · refine n_iconst C 1 dX12_isSmall_77 ?_
      refine g_goto C 82 dX12_isSmall_78 (by decide) ?_
      rw [decide_eq_true (by omega)] at K82; exact K82
  exact g_zret C E dX12_isSmall_82 (bI_01 _) (by rw [hR]; decide) (by rw [hR]; decide) ⟨rfl, hf2⟩

set_option maxRecDepth 100000 in
theorem m_uniteAtoms_big (l : Launch) {S : pv_M} {A : Ab} (hS : GS S) (hM : MSt S A) {a : Nat} (ha : a < 3) (hg : gdR (A.1.1 a)) {t : Nat} (ht : t < 3) {v : Nat} (hv64 : v < 2 ^ 64) (hv : v < 2 ^ (AL A a).length) (hb : 6 < (bf (d7 A a) v).length) : mt l MX12_uniteAtoms 106 [.ref 75, .int (nI (a)), .long (lN (v)), .int (nI (t))] S (fun v S' => v = some (.int (nI 0)) ∧ mI S' 75 0 = nI 3 ∧ MSt S' A ∧ FN mC S S') := by
  refine mt_of (by decide) (Nat.le_of_ble_eq_true rfl) ?_
  intro x hl hR hmL C E
  show GG x 106 0 0 [.ref 75, .int (nI (a)), .long (lN (v)), unk, .int (nI (t))] [] S 0
  subst hl
  refine g_iload_n C dX12_uniteAtoms_0 rfl ?_
  refine g_callS C (k_isRegister _ ha) so_X12_106 dX12_uniteAtoms_1 rfl rfl (rm_ok (M' := MX12_uniteAtoms) hR (by decide)) (Nat.le_of_ble_eq_true rfl) (fun v9 S9 h9 => ?_)
  obtain ⟨rfl, h9⟩ := h9
  refine g_S S h9 ?_
  refine g_n0 [.int (bI (true))] rfl rfl rfl ?_
  refine b_if_eq C 15 dX12_uniteAtoms_4 (fun h4 => absurd h4 (by decide)) (fun h4 => ?_)
  refine g_iload C dX12_uniteAtoms_7 rfl ?_
  refine g_callS C (k_isRegister _ ht) so_X12_106 dX12_uniteAtoms_9 rfl rfl (rm_ok (M' := MX12_uniteAtoms) hR (by decide)) (Nat.le_of_ble_eq_true rfl) (fun v9 S9 h9 => ?_)
  obtain ⟨rfl, h9⟩ := h9
  refine g_S S h9 ?_
  refine g_n0 [.int (bI (true))] rfl rfl rfl ?_
  refine b_if_ne C 21 dX12_uniteAtoms_12 (fun h12 => ?_) (fun h12 => absurd h12 (by decide))
  refine g_aload_n C dX12_uniteAtoms_21 rfl ?_
  refine g_iload_n C dX12_uniteAtoms_22 rfl ?_
  refine g_callV C (As := [.int (nI (a))]) (k_tellAtomMachine _ hS hM ha hg) vo_X12_257 dX12_uniteAtoms_23 rfl rfl (by decide) rfl (rm_ok (M' := MX12_uniteAtoms) hR (by decide)) (Nat.le_of_ble_eq_true rfl) (fun v9 S1 h9 => ?_)
  obtain ⟨rfl, m1, t1⟩ := h9
  have hS1 : GS S1 := hS.fn t1.1.1
  have hM1 : MSt S1 A := hM.fs t1.1
  have a1 := m1.2.1
  have h64 := a1.2.2.1
  have hXA : XA (AL A a).length (AN A a) (la A a) v (wJ S1 75 (va_up (mJ S1 75) 24 (lN (v)))) := m1.xa
  refine g_n0 [] rfl rfl rfl ?_
  refine g_aload_n C dX12_uniteAtoms_26 rfl ?_
  refine g_getI C (a := (nI ((AL A a).length))) fo_X12_195 dX12_uniteAtoms_27 rfl (by decide) (fun _ => rfl) a1.1 ?_
  refine n_bipush C 64 dX12_uniteAtoms_30 ?_
  suffices K52 : GG x 106 0 0 [.ref 75, .int (nI (a)), .long (lN (v)), unk, .int (nI (t))] [] S1 52 from by
    refine n_ic_ge C 52 dX12_uniteAtoms_32 (fun h32 => K52) (fun h32 => ?_)
    refine g_lload_n C dX12_uniteAtoms_35 rfl ?_
    refine g_aload_n C dX12_uniteAtoms_36 rfl ?_
    refine g_getI C (a := (nI ((AL A a).length))) fo_X12_195 dX12_uniteAtoms_37 rfl (by decide) (fun _ => rfl) a1.1 ?_
    refine n_lushr C dX12_uniteAtoms_40 ?_ (by omega) (by omega)
    refine n_lconst C 0 dX12_uniteAtoms_41 ?_
    refine g_lcmp C dX12_uniteAtoms_42 ?_
    refine c_if_eq C 52 dX12_uniteAtoms_43 (fun h43 => ?_) (fun h43 => absurd (show (v) / 2 ^ ((AL A a).length) = 0 from Nat.div_eq_of_lt hv) h43) (by decide) (Nat.lt_of_le_of_lt (Nat.div_le_self _ _) hv64) (by decide)
    exact K52
  refine g_aload_n C dX12_uniteAtoms_52 rfl ?_
  refine g_lload_n C dX12_uniteAtoms_53 rfl ?_
  refine g_putJ C fo_X12_169 dX12_uniteAtoms_54 rfl (by decide) rfl ?_
  refine g_aload_n C dX12_uniteAtoms_57 rfl ?_
  refine n_bipush C 7 dX12_uniteAtoms_58 ?_
  refine g_putI C fo_X12_156 dX12_uniteAtoms_60 rfl (by decide) rfl ?_
  refine g_aload_n C dX12_uniteAtoms_63 rfl ?_
  refine g_iload_n C dX12_uniteAtoms_64 rfl ?_
  refine g_putI C fo_X12_173 dX12_uniteAtoms_65 rfl (by decide) rfl ?_
  have fX : FT (wJ S1 75 (va_up (mJ S1 75) 24 (lN (v)))) (wI (wI (wJ S1 75 (va_up (mJ S1 75) 24 (lN (v)))) 75 (va_up (mI (wJ S1 75 (va_up (mJ S1 75) 24 (lN (v)))) 75) 21 (nI (7)))) 75 (va_up (mI (wI (wJ S1 75 (va_up (mJ S1 75) 24 (lN (v)))) 75 (va_up (mI (wJ S1 75 (va_up (mJ S1 75) 24 (lN (v)))) 75) 21 (nI (7)))) 75) 22 (nI (a)))) := (FT.w75 (by decide)).tr (FT.w75 (by decide))
  have hXB : XA (AL A a).length (AN A a) (la A a) v (wI (wI (wJ S1 75 (va_up (mJ S1 75) 24 (lN (v)))) 75 (va_up (mI (wJ S1 75 (va_up (mJ S1 75) 24 (lN (v)))) 75) 21 (nI (7)))) 75 (va_up (mI (wI (wJ S1 75 (va_up (mJ S1 75) 24 (lN (v)))) 75 (va_up (mI (wJ S1 75 (va_up (mJ S1 75) 24 (lN (v)))) 75) 21 (nI (7)))) 75) 22 (nI (a)))) := ⟨(rI_k (by decide) (rI_k (by decide) hXA.1)), hXA.2.1, (rI_k (by decide) (rI_k (by decide) hXA.2.2.1)), hXA.2.2.2⟩
  have t2 : FT S (wI (wI (wJ S1 75 (va_up (mJ S1 75) 24 (lN (v)))) 75 (va_up (mI (wJ S1 75 (va_up (mJ S1 75) 24 (lN (v)))) 75) 21 (nI (7)))) 75 (va_up (mI (wI (wJ S1 75 (va_up (mJ S1 75) 24 (lN (v)))) 75 (va_up (mI (wJ S1 75 (va_up (mJ S1 75) 24 (lN (v)))) 75) 21 (nI (7)))) 75) 22 (nI (a)))) := (t1.tr FT.cJ).tr fX
  have hSb : GS (wI (wI (wJ S1 75 (va_up (mJ S1 75) 24 (lN (v)))) 75 (va_up (mI (wJ S1 75 (va_up (mJ S1 75) 24 (lN (v)))) 75) 21 (nI (7)))) 75 (va_up (mI (wI (wJ S1 75 (va_up (mJ S1 75) 24 (lN (v)))) 75 (va_up (mI (wJ S1 75 (va_up (mJ S1 75) 24 (lN (v)))) 75) 21 (nI (7)))) 75) 22 (nI (a)))) := hS.fn t2.1.1
  refine g_aload_n C dX12_uniteAtoms_68 rfl ?_
  refine g_callV C (As := []) (k_isSmall _ hSb hXB AL_len (fun _ _ => AN_lt) hv64) vo_X12_264 dX12_uniteAtoms_69 rfl rfl (by decide) rfl (rm_ok (M' := MX12_uniteAtoms) hR (by decide)) (Nat.le_of_ble_eq_true rfl) (fun v9 S4 h9 => ?_)
  obtain ⟨rfl, f4⟩ := h9
  have t4 : FT S S4 := t2.tr f4.w5.ft
  have hS4 : GS S4 := hS.fn t4.1.1
  have hM4 : MSt S4 A := hM.fs t4.1
  refine g_n0 [.int (bI (decide ((bf (d7 A a) v).length ≤ 6)))] rfl rfl rfl ?_
  refine b_if_ne C 81 dX12_uniteAtoms_72 (fun h72 => absurd (of_decide_eq_true h72) (by omega)) (fun h72 => ?_)
  refine g_aload_n C dX12_uniteAtoms_75 rfl ?_
  refine n_iconst C 3 dX12_uniteAtoms_76 ?_
  refine g_callV C (As := [.int (nI (3))]) (k_fails _ hS4) vo_X12_136 dX12_uniteAtoms_77 rfl rfl (by decide) rfl (rm_ok (M' := MX12_uniteAtoms) hR (by decide)) (Nat.le_of_ble_eq_true rfl) (fun v9 S9 h9 => ?_)
  obtain ⟨rfl, h9⟩ := h9
  refine g_S (wI S4 75 (va_up (mI S4 75) 0 (nI 3))) h9 ?_
  refine g_n0 [.int (nI (0))] rfl rfl rfl ?_
  exact g_iret C E dX12_uniteAtoms_80 (by rw [hR]; decide) (by rw [hR]; decide) ⟨rfl, th_0, hM4.fs th_fs, t4.1.mC.tr th_fs.mC⟩

set_option maxRecDepth 100000 in
theorem m_uniteAtoms (l : Launch) {S : pv_M} {A : Ab} (hS : GS S) (hM : MSt S A) {a : Nat} (ha : a < 3) (hg : gdR (A.1.1 a)) {t : Nat} (ht : t < 3) {v : Nat} (hv64 : v < 2 ^ 64) (hv : v < 2 ^ (AL A a).length) (hb : (bf (d7 A a) v).length ≤ 6) : mt l MX12_uniteAtoms 106 [.ref 75, .int (nI (a)), .long (lN (v)), .int (nI (t))] S (fun v2 S' => v2 = some (.int (nI (cM (d7 A a) (a7 A a) (bf (d7 A a) v)))) ∧ mI S' 75 0 = nI 0 ∧ FN mC S S' ∧ ∀ F', sF (d7 A a) (a7 A a) (bf (d7 A a) v) F' → MSt S' (setR A t (sR (d7 A a) (a7 A a) (bf (d7 A a) v) F'))) := by
  refine mt_of (by decide) (Nat.le_of_ble_eq_true rfl) ?_
  intro x hl hR hmL C E
  show GG x 106 0 0 [.ref 75, .int (nI (a)), .long (lN (v)), unk, .int (nI (t))] [] S 0
  subst hl
  refine g_iload_n C dX12_uniteAtoms_0 rfl ?_
  refine g_callS C (k_isRegister _ ha) so_X12_106 dX12_uniteAtoms_1 rfl rfl (rm_ok (M' := MX12_uniteAtoms) hR (by decide)) (Nat.le_of_ble_eq_true rfl) (fun v9 S9 h9 => ?_)
  obtain ⟨rfl, h9⟩ := h9
  refine g_S S h9 ?_
  refine g_n0 [.int (bI (true))] rfl rfl rfl ?_
  refine b_if_eq C 15 dX12_uniteAtoms_4 (fun h4 => absurd h4 (by decide)) (fun h4 => ?_)
  refine g_iload C dX12_uniteAtoms_7 rfl ?_
  refine g_callS C (k_isRegister _ ht) so_X12_106 dX12_uniteAtoms_9 rfl rfl (rm_ok (M' := MX12_uniteAtoms) hR (by decide)) (Nat.le_of_ble_eq_true rfl) (fun v9 S9 h9 => ?_)
  obtain ⟨rfl, h9⟩ := h9
  refine g_S S h9 ?_
  refine g_n0 [.int (bI (true))] rfl rfl rfl ?_
  refine b_if_ne C 21 dX12_uniteAtoms_12 (fun h12 => ?_) (fun h12 => absurd h12 (by decide))
  refine g_aload_n C dX12_uniteAtoms_21 rfl ?_
  refine g_iload_n C dX12_uniteAtoms_22 rfl ?_
  refine g_callV C (As := [.int (nI (a))]) (k_tellAtomMachine _ hS hM ha hg) vo_X12_257 dX12_uniteAtoms_23 rfl rfl (by decide) rfl (rm_ok (M' := MX12_uniteAtoms) hR (by decide)) (Nat.le_of_ble_eq_true rfl) (fun v9 S1 h9 => ?_)
  obtain ⟨rfl, m1, t1⟩ := h9
  have hS1 : GS S1 := hS.fn t1.1.1
  have hM1 : MSt S1 A := hM.fs t1.1
  have a1 := m1.2.1
  have h64 := a1.2.2.1
  have hXA : XA (AL A a).length (AN A a) (la A a) v (wJ S1 75 (va_up (mJ S1 75) 24 (lN (v)))) := m1.xa
  refine g_n0 [] rfl rfl rfl ?_
  refine g_aload_n C dX12_uniteAtoms_26 rfl ?_
  refine g_getI C (a := (nI ((AL A a).length))) fo_X12_195 dX12_uniteAtoms_27 rfl (by decide) (fun _ => rfl) a1.1 ?_
  refine n_bipush C 64 dX12_uniteAtoms_30 ?_
  suffices K52 : GG x 106 0 0 [.ref 75, .int (nI (a)), .long (lN (v)), unk, .int (nI (t))] [] S1 52 from by
    refine n_ic_ge C 52 dX12_uniteAtoms_32 (fun h32 => K52) (fun h32 => ?_)
    refine g_lload_n C dX12_uniteAtoms_35 rfl ?_
    refine g_aload_n C dX12_uniteAtoms_36 rfl ?_
    refine g_getI C (a := (nI ((AL A a).length))) fo_X12_195 dX12_uniteAtoms_37 rfl (by decide) (fun _ => rfl) a1.1 ?_
    refine n_lushr C dX12_uniteAtoms_40 ?_ (by omega) (by omega)
    refine n_lconst C 0 dX12_uniteAtoms_41 ?_
    refine g_lcmp C dX12_uniteAtoms_42 ?_
    refine c_if_eq C 52 dX12_uniteAtoms_43 (fun h43 => ?_) (fun h43 => absurd (show (v) / 2 ^ ((AL A a).length) = 0 from Nat.div_eq_of_lt hv) h43) (by decide) (Nat.lt_of_le_of_lt (Nat.div_le_self _ _) hv64) (by decide)
    exact K52
  refine g_aload_n C dX12_uniteAtoms_52 rfl ?_
  refine g_lload_n C dX12_uniteAtoms_53 rfl ?_
  refine g_putJ C fo_X12_169 dX12_uniteAtoms_54 rfl (by decide) rfl ?_
  refine g_aload_n C dX12_uniteAtoms_57 rfl ?_
  refine n_bipush C 7 dX12_uniteAtoms_58 ?_
  refine g_putI C fo_X12_156 dX12_uniteAtoms_60 rfl (by decide) rfl ?_
  refine g_aload_n C dX12_uniteAtoms_63 rfl ?_
  refine g_iload_n C dX12_uniteAtoms_64 rfl ?_
  refine g_putI C fo_X12_173 dX12_uniteAtoms_65 rfl (by decide) rfl ?_
  have fX : FT (wJ S1 75 (va_up (mJ S1 75) 24 (lN (v)))) (wI (wI (wJ S1 75 (va_up (mJ S1 75) 24 (lN (v)))) 75 (va_up (mI (wJ S1 75 (va_up (mJ S1 75) 24 (lN (v)))) 75) 21 (nI (7)))) 75 (va_up (mI (wI (wJ S1 75 (va_up (mJ S1 75) 24 (lN (v)))) 75 (va_up (mI (wJ S1 75 (va_up (mJ S1 75) 24 (lN (v)))) 75) 21 (nI (7)))) 75) 22 (nI (a)))) := (FT.w75 (by decide)).tr (FT.w75 (by decide))
  have hXB : XA (AL A a).length (AN A a) (la A a) v (wI (wI (wJ S1 75 (va_up (mJ S1 75) 24 (lN (v)))) 75 (va_up (mI (wJ S1 75 (va_up (mJ S1 75) 24 (lN (v)))) 75) 21 (nI (7)))) 75 (va_up (mI (wI (wJ S1 75 (va_up (mJ S1 75) 24 (lN (v)))) 75 (va_up (mI (wJ S1 75 (va_up (mJ S1 75) 24 (lN (v)))) 75) 21 (nI (7)))) 75) 22 (nI (a)))) := ⟨(rI_k (by decide) (rI_k (by decide) hXA.1)), hXA.2.1, (rI_k (by decide) (rI_k (by decide) hXA.2.2.1)), hXA.2.2.2⟩
  have t2 : FT S (wI (wI (wJ S1 75 (va_up (mJ S1 75) 24 (lN (v)))) 75 (va_up (mI (wJ S1 75 (va_up (mJ S1 75) 24 (lN (v)))) 75) 21 (nI (7)))) 75 (va_up (mI (wI (wJ S1 75 (va_up (mJ S1 75) 24 (lN (v)))) 75 (va_up (mI (wJ S1 75 (va_up (mJ S1 75) 24 (lN (v)))) 75) 21 (nI (7)))) 75) 22 (nI (a)))) := (t1.tr FT.cJ).tr fX
  have hSb : GS (wI (wI (wJ S1 75 (va_up (mJ S1 75) 24 (lN (v)))) 75 (va_up (mI (wJ S1 75 (va_up (mJ S1 75) 24 (lN (v)))) 75) 21 (nI (7)))) 75 (va_up (mI (wI (wJ S1 75 (va_up (mJ S1 75) 24 (lN (v)))) 75 (va_up (mI (wJ S1 75 (va_up (mJ S1 75) 24 (lN (v)))) 75) 21 (nI (7)))) 75) 22 (nI (a)))) := hS.fn t2.1.1
  refine g_aload_n C dX12_uniteAtoms_68 rfl ?_
  refine g_callV C (As := []) (k_isSmall _ hSb hXB AL_len (fun _ _ => AN_lt) hv64) vo_X12_264 dX12_uniteAtoms_69 rfl rfl (by decide) rfl (rm_ok (M' := MX12_uniteAtoms) hR (by decide)) (Nat.le_of_ble_eq_true rfl) (fun v9 S4 h9 => ?_)
  obtain ⟨rfl, f4⟩ := h9
  have t4 : FT S S4 := t2.tr f4.w5.ft
  have hS4 : GS S4 := hS.fn t4.1.1
  have hM4 : MSt S4 A := hM.fs t4.1
  refine g_n0 [.int (bI (decide ((bf (d7 A a) v).length ≤ 6)))] rfl rfl rfl ?_
  refine b_if_ne C 81 dX12_uniteAtoms_72 (fun h72 => ?_) (fun h72 => absurd (decide_eq_true hb) (by rw [h72]; decide))
  refine g_aload_n C dX12_uniteAtoms_81 rfl ?_
  refine n_bipush C 7 dX12_uniteAtoms_82 ?_
  refine g_iload_n C dX12_uniteAtoms_84 rfl ?_
  refine g_iload_n C dX12_uniteAtoms_85 rfl ?_
  refine g_callV C (As := [.int (nI (7)), .int (nI (a)), .int (nI (a))]) (m_makes (mm7 _ hg hv64) hS4 hM4 (hXB.keep f4.w5) (Nat.le_trans hb (by decide))) vo_X12_231 dX12_uniteAtoms_86 rfl rfl (by decide) rfl (rm_ok (M' := MX12_uniteAtoms) hR (by decide)) (Nat.le_of_ble_eq_true rfl) (fun v9 SM h9 => ?_)
  obtain ⟨rfl, g1, g2⟩ := h9
  replace g1 : MkF (d7 A a) (a7 A a) (fun c => c < 2 ^ 64) SM (bf (d7 A a) v) := g1
  have t5 : FT S SM := t4.tr g2.ft
  have hS9 : GS SM := hS.fn t5.1.1
  have hM9 : MSt SM A := hM.fs t5.1
  have hc6 : cM (d7 A a) (a7 A a) (bf (d7 A a) v) ≤ 6 := Nat.le_trans cM_le hb
  refine g_n0 [] rfl rfl rfl ?_
  refine g_aload_n C dX12_uniteAtoms_89 rfl ?_
  refine g_iload C dX12_uniteAtoms_90 rfl ?_
  refine g_callV C (As := [.int (nI (t))]) (m_stores hM9 ht g1 hc6) vo_X12_235 dX12_uniteAtoms_92 rfl rfl (by decide) rfl (rm_ok (M' := MX12_uniteAtoms) hR (by decide)) (Nat.le_of_ble_eq_true rfl) (fun v9 S8 h9 => ?_)
  obtain ⟨rfl, s1, s2, s3⟩ := h9
  refine g_n0 [.int (nI (cM (d7 A a) (a7 A a) (bf (d7 A a) v)))] rfl rfl rfl ?_
  exact g_iret C E dX12_uniteAtoms_95 (by rw [hR]; decide) (by rw [hR]; decide) ⟨rfl, s1, t5.1.mC.tr s2, s3⟩

set_option maxRecDepth 100000 in
theorem m_uniteAtoms_n (l : Launch) {S : pv_M} {A : Ab} (hS : GS S) (hM : MSt S A) {a : Nat} (ha : a < 3) (hg : gdR (A.1.1 a)) {t : Nat} (ht : t < 3) {v : Nat} (hv64 : v < 2 ^ 64) (hv : 2 ^ (AL A a).length ≤ v) : mt l MX12_uniteAtoms 106 [.ref 75, .int (nI (a)), .long (lN (v)), .int (nI (t))] S (fun v S' => v = some (.int (nI 0)) ∧ mI S' 75 0 = nI 2 ∧ MSt S' A ∧ FN mC S S') := by
  refine mt_of (by decide) (Nat.le_of_ble_eq_true rfl) ?_
  intro x hl hR hmL C E
  show GG x 106 0 0 [.ref 75, .int (nI (a)), .long (lN (v)), unk, .int (nI (t))] [] S 0
  subst hl
  have hnz : ¬ (v) / 2 ^ ((AL A a).length) = 0 := by
    intro e
    have := (Nat.div_eq_zero_iff_lt (Nat.two_pow_pos _)).mp e
    omega
  have hlt : (AL A a).length < 64 := by
    rcases Nat.lt_or_ge (AL A a).length 64 with z | z
    · exact z
    · have := Nat.pow_le_pow_right (show 0 < 2 by decide) z; omega
  refine g_iload_n C dX12_uniteAtoms_0 rfl ?_
  refine g_callS C (k_isRegister _ ha) so_X12_106 dX12_uniteAtoms_1 rfl rfl (rm_ok (M' := MX12_uniteAtoms) hR (by decide)) (Nat.le_of_ble_eq_true rfl) (fun v9 S9 h9 => ?_)
  obtain ⟨rfl, h9⟩ := h9
  refine g_S S h9 ?_
  refine g_n0 [.int (bI (true))] rfl rfl rfl ?_
  refine b_if_eq C 15 dX12_uniteAtoms_4 (fun h4 => absurd h4 (by decide)) (fun h4 => ?_)
  refine g_iload C dX12_uniteAtoms_7 rfl ?_
  refine g_callS C (k_isRegister _ ht) so_X12_106 dX12_uniteAtoms_9 rfl rfl (rm_ok (M' := MX12_uniteAtoms) hR (by decide)) (Nat.le_of_ble_eq_true rfl) (fun v9 S9 h9 => ?_)
  obtain ⟨rfl, h9⟩ := h9
  refine g_S S h9 ?_
  refine g_n0 [.int (bI (true))] rfl rfl rfl ?_
  refine b_if_ne C 21 dX12_uniteAtoms_12 (fun h12 => ?_) (fun h12 => absurd h12 (by decide))
  refine g_aload_n C dX12_uniteAtoms_21 rfl ?_
  refine g_iload_n C dX12_uniteAtoms_22 rfl ?_
  refine g_callV C (As := [.int (nI (a))]) (k_tellAtomMachine _ hS hM ha hg) vo_X12_257 dX12_uniteAtoms_23 rfl rfl (by decide) rfl (rm_ok (M' := MX12_uniteAtoms) hR (by decide)) (Nat.le_of_ble_eq_true rfl) (fun v9 S1 h9 => ?_)
  obtain ⟨rfl, m1, t1⟩ := h9
  have hS1 : GS S1 := hS.fn t1.1.1
  have hM1 : MSt S1 A := hM.fs t1.1
  have a1 := m1.2.1
  have h64 := a1.2.2.1
  have hXA : XA (AL A a).length (AN A a) (la A a) v (wJ S1 75 (va_up (mJ S1 75) 24 (lN (v)))) := m1.xa
  refine g_n0 [] rfl rfl rfl ?_
  refine g_aload_n C dX12_uniteAtoms_26 rfl ?_
  refine g_getI C (a := (nI ((AL A a).length))) fo_X12_195 dX12_uniteAtoms_27 rfl (by decide) (fun _ => rfl) a1.1 ?_
  refine n_bipush C 64 dX12_uniteAtoms_30 ?_
  refine n_ic_ge C 52 dX12_uniteAtoms_32 (fun h32 => absurd h32 (by omega)) (fun h32 => ?_)
  refine g_lload_n C dX12_uniteAtoms_35 rfl ?_
  refine g_aload_n C dX12_uniteAtoms_36 rfl ?_
  refine g_getI C (a := (nI ((AL A a).length))) fo_X12_195 dX12_uniteAtoms_37 rfl (by decide) (fun _ => rfl) a1.1 ?_
  refine n_lushr C dX12_uniteAtoms_40 ?_ (by omega) (by omega)
  refine n_lconst C 0 dX12_uniteAtoms_41 ?_
  refine g_lcmp C dX12_uniteAtoms_42 ?_
  refine c_if_eq C 52 dX12_uniteAtoms_43 (fun h43 => absurd h43 hnz) (fun h43 => ?_) (by decide) (Nat.lt_of_le_of_lt (Nat.div_le_self _ _) hv64) (by decide)
  refine g_aload_n C dX12_uniteAtoms_46 rfl ?_
  refine n_iconst C 2 dX12_uniteAtoms_47 ?_
  refine g_callV C (As := [.int (nI (2))]) (k_fails _ hS1) vo_X12_136 dX12_uniteAtoms_48 rfl rfl (by decide) rfl (rm_ok (M' := MX12_uniteAtoms) hR (by decide)) (Nat.le_of_ble_eq_true rfl) (fun v9 S9 h9 => ?_)
  obtain ⟨rfl, h9⟩ := h9
  refine g_S (wI S1 75 (va_up (mI S1 75) 0 (nI 2))) h9 ?_
  refine g_n0 [.int (nI (0))] rfl rfl rfl ?_
  exact g_iret C E dX12_uniteAtoms_51 (by rw [hR]; decide) (by rw [hR]; decide) ⟨rfl, th_0, hM1.fs th_fs, t1.1.mC.tr th_fs.mC⟩

set_option maxRecDepth 100000 in
theorem m_uniteAtoms_r (l : Launch) {S : pv_M} {p q : Int32} {v : Nat} (hS : GS S) (h : badI p 3) : mt l MX12_uniteAtoms 106 [.ref 75, .int (p), .long (lN (v)), .int (q)] S (fun v2 S' => v2 = some (.int (nI 0)) ∧ S' = th S 1) := by
  refine mt_of (by decide) (Nat.le_of_ble_eq_true rfl) ?_
  intro x hl hR hmL C E
  show GG x 106 0 0 [.ref 75, .int (p), .long (lN (v)), unk, .int (q)] [] S 0
  refine g_iload_n C dX12_uniteAtoms_0 rfl ?_
  refine g_callS C (k_isRegisterF _ h) so_X12_106 dX12_uniteAtoms_1 rfl rfl (rm_ok (M' := MX12_uniteAtoms) hR (by decide)) (Nat.le_of_ble_eq_true rfl) (fun v9 S9 h9 => ?_)
  obtain ⟨rfl, h9⟩ := h9
  refine g_S S h9 ?_
  refine g_n0 [.int (bI (false))] rfl rfl rfl ?_
  refine b_if_eq C 15 dX12_uniteAtoms_4 (fun h4 => ?_) (fun h4 => absurd h4 (by decide))
  refine g_aload_n C dX12_uniteAtoms_15 rfl ?_
  refine n_iconst C 1 dX12_uniteAtoms_16 ?_
  refine g_callV C (As := [.int (nI (1))]) (k_fails _ hS) vo_X12_136 dX12_uniteAtoms_17 rfl rfl (by decide) rfl (rm_ok (M' := MX12_uniteAtoms) hR (by decide)) (Nat.le_of_ble_eq_true rfl) (fun v9 S9 h9 => ?_)
  obtain ⟨rfl, h9⟩ := h9
  refine g_S (wI S 75 (va_up (mI S 75) 0 (nI 1))) h9 ?_
  refine g_n0 [.int (nI (0))] rfl rfl rfl ?_
  exact g_iret C E dX12_uniteAtoms_20 (by rw [hR]; decide) (by rw [hR]; decide) ⟨rfl, rfl⟩

set_option maxRecDepth 100000 in
theorem m_uniteAtoms_t (l : Launch) {S : pv_M} {a : Nat} {p : Int32} {v : Nat} (hS : GS S) (ha : a < 3) (h : badI p 3) : mt l MX12_uniteAtoms 106 [.ref 75, .int (nI (a)), .long (lN (v)), .int (p)] S (fun v2 S' => v2 = some (.int (nI 0)) ∧ S' = th S 1) := by
  refine mt_of (by decide) (Nat.le_of_ble_eq_true rfl) ?_
  intro x hl hR hmL C E
  show GG x 106 0 0 [.ref 75, .int (nI (a)), .long (lN (v)), unk, .int (p)] [] S 0
  refine g_iload_n C dX12_uniteAtoms_0 rfl ?_
  refine g_callS C (k_isRegister _ ha) so_X12_106 dX12_uniteAtoms_1 rfl rfl (rm_ok (M' := MX12_uniteAtoms) hR (by decide)) (Nat.le_of_ble_eq_true rfl) (fun v9 S9 h9 => ?_)
  obtain ⟨rfl, h9⟩ := h9
  refine g_S S h9 ?_
  refine g_n0 [.int (bI (true))] rfl rfl rfl ?_
  refine b_if_eq C 15 dX12_uniteAtoms_4 (fun h4 => absurd h4 (by decide)) (fun h4 => ?_)
  refine g_iload C dX12_uniteAtoms_7 rfl ?_
  refine g_callS C (k_isRegisterF _ h) so_X12_106 dX12_uniteAtoms_9 rfl rfl (rm_ok (M' := MX12_uniteAtoms) hR (by decide)) (Nat.le_of_ble_eq_true rfl) (fun v9 S9 h9 => ?_)
  obtain ⟨rfl, h9⟩ := h9
  refine g_S S h9 ?_
  refine g_n0 [.int (bI (false))] rfl rfl rfl ?_
  refine b_if_ne C 21 dX12_uniteAtoms_12 (fun h12 => absurd h12 (by decide)) (fun h12 => ?_)
  refine g_aload_n C dX12_uniteAtoms_15 rfl ?_
  refine n_iconst C 1 dX12_uniteAtoms_16 ?_
  refine g_callV C (As := [.int (nI (1))]) (k_fails _ hS) vo_X12_136 dX12_uniteAtoms_17 rfl rfl (by decide) rfl (rm_ok (M' := MX12_uniteAtoms) hR (by decide)) (Nat.le_of_ble_eq_true rfl) (fun v9 S9 h9 => ?_)
  obtain ⟨rfl, h9⟩ := h9
  refine g_S (wI S 75 (va_up (mI S 75) 0 (nI 1))) h9 ?_
  refine g_n0 [.int (nI (0))] rfl rfl rfl ?_
  exact g_iret C E dX12_uniteAtoms_20 (by rw [hR]; decide) (by rw [hR]; decide) ⟨rfl, rfl⟩
