theorem ExM.keep {δ : Nat → Nat → Nat} {Dm : Nat → Prop} {S0 S S9 : pv_M} {L : List Nat} {O : Nat → Nat} {t : Nat} (h : ExM δ Dm S0 S L O t) (g1 : NdAt S9 L) (g2 : FQ k17 S S9) (g3 : ∀ r, r ≠ 75 → r ≠ 88 → mI S9 r = mI S r) : ExM δ Dm S0 S9 L O t :=
  ⟨g1, h.2.1.tr g2, h.2.2.1, fun p hp => by rw [g3 89 (by decide) (by decide)]; exact h.2.2.2.1 p hp, fun j h1 h2 => by rw [g3 91 (by decide) (by decide), g3 92 (by decide) (by decide)]; exact h.2.2.2.2.1 j h1 h2, h.2.2.2.2.2⟩
theorem addq_mono (δ : Nat → Nat → Nat) (c : Nat) (L : List Nat) (q : Nat) : ∀ d, (addq δ c q L).length ≤ (addq δ c (q + d) L).length
  | 0 => Nat.le_refl _
  | d + 1 => Nat.le_trans (addq_mono δ c L q d) (addc_len _ _)
theorem up_id {α : Type} {f : Nat → α} {k : Nat} {v : α} (h : v = f k) : va_up f k v = f := by
  funext j
  by_cases e : j = k
  · rw [e, up_same]; exact h
  · rw [va_up_ne _ _ e]

set_option maxRecDepth 100000 in
theorem lq_makes {x : Cx} (hR : xR x = MX12_makes.rm) (hmL : (xc x).maxLocals = MX12_makes.nL) (C : BX x cX12_makes RX12) {A : Ab} {h a b k0 : Nat} {δ : Nat → Nat → Nat} {acc : Nat → Bool} {Dm : Nat → Prop} {X : pv_M → Prop} {S0 : pv_M} (hMa : MMach x.1.2.1 A h a b k0 δ acc Dm X) (hP0 : PM A h a b S0) (hX0 : X S0) {i : Nat} {L0 : List Nat} (hi0 : i < L0.length) (hB : (addq δ (L0.getD i 0) 3 L0).length ≤ 740) (kk : ∀ S L O, L = addq δ (L0.getD i 0) 3 L0 → ExM δ Dm S0 S L O (i * 3 + 3) → i < L.length → GG x 106 0 0 [.ref 75, .int (nI (h)), .int (nI (a)), .int (nI (b)), .int (nI (i)), .int (nI (3)), unk, unk] [] (S) 147) : ∀ z q (S : pv_M) (L : List Nat) (O : Nat → Nat), q + z = 3 → L = addq δ (L0.getD i 0) q L0 → ExM δ Dm S0 S L O (i * 3 + q) → i < L.length → L.getD i 0 = L0.getD i 0 → GG x 106 0 0 [.ref 75, .int (nI (h)), .int (nI (a)), .int (nI (b)), .int (nI (i)), .int (nI (q)), unk, unk] [] (S) 44 := by
  intro z
  induction z with
  | zero =>
    intro q S L O hz hL hE hi hg
    obtain rfl : 3 = q := by omega
    refine g_iload C dX12_makes_44 rfl ?_
    refine n_iconst C 3 dX12_makes_46 ?_
    refine n_ic_ge C 147 dX12_makes_47 (fun h47 => ?_) (fun h47 => absurd h47 (by omega))
    exact kk S L O hL hE hi
  | succ z ih =>
    intro q S L O hz hL hE hi hg
    have hP := hP0.keep hE.2.1
    have hX := hMa.2.2.2.2.2.2 S0 S hX0 hE.2.1.w5
    have hS := hP.1
    have hl7 := hE.1.2.2.2.2
    have hDi := hE.2.2.1 _ (getD_mem hi)
    have hDn := hMa.2.2.2.2.1 _ q hDi (by omega)
    have h64 := hMa.2.2.1 _ hDn
    have hnx : addq δ (L0.getD i 0) (q + 1) L0 = addc L (δ (L.getD i 0) q) := by show addc (addq δ (L0.getD i 0) q L0) (δ (L0.getD i 0) q) = _; rw [← hL, hg]
    have hroom : (δ (L.getD i 0) q) ∈ L ∨ L.length < 740 := by
      by_cases e : (δ (L.getD i 0) q) ∈ L
      · exact Or.inl e
      · have h1 := addq_mono δ (L0.getD i 0) L0 (q + 1) (3 - (q + 1))
        rw [show q + 1 + (3 - (q + 1)) = 3 by omega, hnx, addc_out e] at h1
        simp only [List.length_append, List.length_cons, List.length_nil] at h1
        exact Or.inr (by omega)
    refine g_iload C dX12_makes_44 rfl ?_
    refine n_iconst C 3 dX12_makes_46 ?_
    refine n_ic_ge C 147 dX12_makes_47 (fun h47 => absurd h47 (by omega)) (fun h47 => ?_)
    refine g_aload_n C dX12_makes_50 rfl ?_
    refine g_getI C fo_X12_153 dX12_makes_51 rfl (by decide) (fun _ => rfl) hE.1.1 ?_
    refine g_istore C (by rw [hmL]; decide) dX12_makes_54 [.ref 75, .int (nI (h)), .int (nI (a)), .int (nI (b)), .int (nI (i)), .int (nI (q)), .int (nI (L.length)), unk] rfl ?_
    refine g_aload_n C dX12_makes_56 rfl ?_
    refine g_aload_n C dX12_makes_57 rfl ?_
    refine g_aload_n C dX12_makes_58 rfl ?_
    refine g_getR C fo_X12_49 dX12_makes_59 rfl (by decide) (fun _ => rfl) (gs_75_18 hS) ?_
    refine g_iload C dX12_makes_62 rfl ?_
    refine n_lald C dX12_makes_64 rfl (by decide) (hE.1.2.1 i (by omega)) ?_ (by omega)
    refine g_iload C dX12_makes_65 rfl ?_
    refine g_callV C (As := [.long (lN (L.getD i 0)), .int (nI (q))]) (hMa.2.2.2.1 S _ q hP hX hDi (by omega)) vo_X12_212 dX12_makes_67 rfl rfl (by decide) rfl (rm_ok (M' := MX12_makes) hR (by decide)) (Nat.le_of_ble_eq_true rfl) (fun v9 S9 h9 => ?_)
    obtain ⟨rfl, h9⟩ := h9
    refine g_S S h9 ?_
    refine g_n0 [.long (lN (δ (L.getD i 0) q)), .ref 75] rfl rfl rfl ?_
    refine g_callV C (As := [.long (lN (δ (L.getD i 0) q))]) (k_nodeOf _ hS hE.1 h64 hroom) vo_X12_208 dX12_makes_70 rfl rfl (by decide) rfl (rm_ok (M' := MX12_makes) hR (by decide)) (Nat.le_of_ble_eq_true rfl) (fun v9 S9 h9 => ?_)
    obtain ⟨rfl, g1, g2, g3⟩ := h9
    refine g_n0 [.int (nI ((addc L (δ (L.getD i 0) q)).idxOf (δ (L.getD i 0) q)))] rfl rfl rfl ?_
    have g4 : ∀ r, r ≠ 75 → r ≠ 88 → mI S9 r = mI S r := fun r h1 h2 => (g2.2 r (fun z => by rcases z with z | z; exact h1 z; exact h2 z)).1
    have hS9 : GS S9 := hS.fn g2
    by_cases hin : (δ (L.getD i 0) q) ∈ L
    · rw [addc_in hin] at g1
      have hix := idx_lt hin
      have hE9 := hE.keep g1 g3 g4
      refine g_st [.int (nI (L.idxOf (δ (L.getD i 0) q)))] (by rw [addc_in hin]) ?_
      refine g_istore C (by rw [hmL]; decide) dX12_makes_73 [.ref 75, .int (nI (h)), .int (nI (a)), .int (nI (b)), .int (nI (i)), .int (nI (q)), .int (nI (L.length)), .int (nI (L.idxOf (δ (L.getD i 0) q)))] rfl ?_
      refine g_aload_n C dX12_makes_75 rfl ?_
      refine g_getR C fo_X12_53 dX12_makes_76 rfl (by decide) (fun _ => rfl) (gs_75_19 hS9) ?_
      refine n_iconst C 3 dX12_makes_79 ?_
      refine g_iload C dX12_makes_80 rfl ?_
      refine n_imul C dX12_makes_82 ?_
      refine g_iload C dX12_makes_83 rfl ?_
      refine n_iadd C dX12_makes_85 ?_
      refine g_iload C dX12_makes_86 rfl ?_
      refine g_iast C dX12_makes_88 rfl (by decide) (by omega) rfl ?_
      refine g_S (wI S9 89 (va_up (mI S9 89) (i * 3 + q) (nI (L.idxOf (δ (L.getD i 0) q))))) (by rw [Nat.mul_comm 3 i]) ?_
      refine g_aload_n C dX12_makes_89 rfl ?_
      refine g_getR C fo_X12_59 dX12_makes_90 rfl (by decide) (fun _ => rfl) (gs_75_25 hS9) ?_
      refine g_iload C dX12_makes_93 rfl ?_
      refine g_iload C dX12_makes_95 rfl ?_
      refine g_iload C dX12_makes_97 rfl ?_
      refine n_ic_ne C 107 dX12_makes_99 (fun h99 => ?_) (fun h99 => absurd h99 (by omega))
      refine g_aload_n C dX12_makes_107 rfl ?_
      refine g_getR C fo_X12_59 dX12_makes_108 rfl (by decide) (fun _ => rfl) (gs_75_25 hS9) ?_
      refine g_iload C dX12_makes_111 rfl ?_
      refine n_iald C dX12_makes_113 rfl (by decide) rfl ?_ (by omega)
      refine g_iast C dX12_makes_114 rfl (by decide) (by omega) rfl ?_
      refine g_aload_n C dX12_makes_115 rfl ?_
      refine g_getR C fo_X12_62 dX12_makes_116 rfl (by decide) (fun _ => rfl) (gs_75_26 hS9) ?_
      refine g_iload C dX12_makes_119 rfl ?_
      refine g_iload C dX12_makes_121 rfl ?_
      refine g_iload C dX12_makes_123 rfl ?_
      refine n_ic_ne C 133 dX12_makes_125 (fun h125 => ?_) (fun h125 => absurd h125 (by omega))
      refine g_aload_n C dX12_makes_133 rfl ?_
      refine g_getR C fo_X12_62 dX12_makes_134 rfl (by decide) (fun _ => rfl) (gs_75_26 hS9) ?_
      refine g_iload C dX12_makes_137 rfl ?_
      refine n_iald C dX12_makes_139 rfl (by decide) rfl ?_ (by omega)
      refine g_iast C dX12_makes_140 rfl (by decide) (by omega) rfl ?_
      refine n_iinc C (by rw [hmL]; decide) dX12_makes_141 rfl (n_i1 _) [.ref 75, .int (nI (h)), .int (nI (a)), .int (nI (b)), .int (nI (i)), .int (nI (q + 1)), .int (nI (L.length)), .int (nI (L.idxOf (δ (L.getD i 0) q)))] ?_
      refine g_goto C 44 dX12_makes_144 (by decide) ?_
      refine g_frg [.ref 75, .int (nI (h)), .int (nI (a)), .int (nI (b)), .int (nI (i)), .int (nI (q + 1)), unk, unk] ⟨Or.inr rfl, Or.inr rfl, Or.inr rfl, Or.inr rfl, Or.inr rfl, Or.inr rfl, Or.inl rfl, Or.inl rfl, trivial⟩ ?_
      exact ih (q + 1) _ L O (by omega) (by rw [hnx, addc_in hin]) ((hE9.step_in (by omega) hin).w (fun j h1 h2 => by rw [up_id rfl]; exact (hE9.2.2.2.2.1 j h1 h2).1) (fun j h1 h2 => by rw [up_id rfl]; exact (hE9.2.2.2.2.1 j h1 h2).2)) hi hg
    · have hix := addc_idx_new hin
      rw [addc_out hin] at g1
      have h74 := hroom.resolve_left hin
      refine g_st [.int (nI L.length)] (by rw [hix]) ?_
      refine g_istore C (by rw [hmL]; decide) dX12_makes_73 [.ref 75, .int (nI (h)), .int (nI (a)), .int (nI (b)), .int (nI (i)), .int (nI (q)), .int (nI (L.length)), .int (nI (L.length))] rfl ?_
      refine g_aload_n C dX12_makes_75 rfl ?_
      refine g_getR C fo_X12_53 dX12_makes_76 rfl (by decide) (fun _ => rfl) (gs_75_19 hS9) ?_
      refine n_iconst C 3 dX12_makes_79 ?_
      refine g_iload C dX12_makes_80 rfl ?_
      refine n_imul C dX12_makes_82 ?_
      refine g_iload C dX12_makes_83 rfl ?_
      refine n_iadd C dX12_makes_85 ?_
      refine g_iload C dX12_makes_86 rfl ?_
      refine g_iast C dX12_makes_88 rfl (by decide) (by omega) rfl ?_
      refine g_S (wI S9 89 (va_up (mI S9 89) (i * 3 + q) (nI L.length))) (by rw [Nat.mul_comm 3 i]) ?_
      refine g_aload_n C dX12_makes_89 rfl ?_
      refine g_getR C fo_X12_59 dX12_makes_90 rfl (by decide) (fun _ => rfl) (gs_75_25 hS9) ?_
      refine g_iload C dX12_makes_93 rfl ?_
      refine g_iload C dX12_makes_95 rfl ?_
      refine g_iload C dX12_makes_97 rfl ?_
      refine n_ic_ne C 107 dX12_makes_99 (fun h99 => absurd rfl h99) (fun h99 => ?_)
      refine g_iload C dX12_makes_102 rfl ?_
      refine g_goto C 114 dX12_makes_104 (by decide) ?_
      refine g_iast C dX12_makes_114 rfl (by decide) (by omega) rfl ?_
      refine g_aload_n C dX12_makes_115 rfl ?_
      refine g_getR C fo_X12_62 dX12_makes_116 rfl (by decide) (fun _ => rfl) (gs_75_26 hS9) ?_
      refine g_iload C dX12_makes_119 rfl ?_
      refine g_iload C dX12_makes_121 rfl ?_
      refine g_iload C dX12_makes_123 rfl ?_
      refine n_ic_ne C 133 dX12_makes_125 (fun h125 => absurd rfl h125) (fun h125 => ?_)
      refine g_iload C dX12_makes_128 rfl ?_
      refine g_goto C 140 dX12_makes_130 (by decide) ?_
      refine g_iast C dX12_makes_140 rfl (by decide) (by omega) rfl ?_
      refine n_iinc C (by rw [hmL]; decide) dX12_makes_141 rfl (n_i1 _) [.ref 75, .int (nI (h)), .int (nI (a)), .int (nI (b)), .int (nI (i)), .int (nI (q + 1)), .int (nI (L.length)), .int (nI (L.length))] ?_
      refine g_goto C 44 dX12_makes_144 (by decide) ?_
      refine g_frg [.ref 75, .int (nI (h)), .int (nI (a)), .int (nI (b)), .int (nI (i)), .int (nI (q + 1)), unk, unk] ⟨Or.inr rfl, Or.inr rfl, Or.inr rfl, Or.inr rfl, Or.inr rfl, Or.inr rfl, Or.inl rfl, Or.inl rfl, trivial⟩ ?_
      refine ih (q + 1) _ (L ++ [(δ (L.getD i 0) q)]) (va_up O L.length (i * 3 + q)) (by omega) (by rw [hnx, addc_out hin]) (hE.step_out hi (by omega) (by omega) hDn hin g1 g3 g4 (fun j => by show va_up (mI S9 91) L.length _ j = _; by_cases e : j = L.length; rw [e, up_same, if_pos rfl]; rw [va_up_ne _ _ e, if_neg e, g4 91 (by decide) (by decide)]) (fun j => by show va_up (mI S9 92) L.length _ j = _; by_cases e : j = L.length; rw [e, up_same, if_pos rfl]; rw [va_up_ne _ _ e, if_neg e, g4 92 (by decide) (by decide)])) (by simp; omega) ?_
      have z9 := addc_getD (c := (δ (L.getD i 0) q)) hi
      rw [addc_out hin] at z9
      rw [z9]
      exact hg
    

set_option maxRecDepth 100000 in
theorem lp_makes {x : Cx} (hR : xR x = MX12_makes.rm) (hmL : (xc x).maxLocals = MX12_makes.nL) (C : BX x cX12_makes RX12) {A : Ab} {h a b k0 : Nat} {δ : Nat → Nat → Nat} {acc : Nat → Bool} {Dm : Nat → Prop} {X : pv_M → Prop} {S0 : pv_M} (hMa : MMach x.1.2.1 A h a b k0 δ acc Dm X) (hP0 : PM A h a b S0) (hX0 : X S0) {R : List Nat} (hR7 : R.length ≤ 740) (kk : ∀ S O, ExM δ Dm S0 S R O (3 * R.length) → GG x 106 0 0 [.ref 75, .int (nI (h)), .int (nI (a)), .int (nI (b)), .int (nI (R.length)), unk, unk, unk] [] (S) 153) : ∀ z i (S : pv_M) (L : List Nat) (O : Nat → Nat), i + z = 741 → ExM δ Dm S0 S L O (i * 3) → i ≤ L.length → bfsF δ z i L = R → GG x 106 0 0 [.ref 75, .int (nI (h)), .int (nI (a)), .int (nI (b)), .int (nI (i)), unk, unk, unk] [] (S) 32 := by
  intro z
  induction z with
  | zero =>
    intro i S L O hz hE hi hb
    have := hE.1.2.2.2.2
    omega
  | succ z ih =>
    intro i S L O hz hE hi hb
    have hl7 := hE.1.2.2.2.2
    have hS := (hP0.keep hE.2.1).1
    by_cases hil : i < L.length
    · have hstep : bfsF δ z (i + 1) (addq δ (L.getD i 0) 3 L) = R := by rw [← hb, bfsF_step hil (by omega)]; rfl
      have hlen := bfsF_len δ z (i + 1) (addq δ (L.getD i 0) 3 L)
      rw [hstep] at hlen
      refine g_iload C dX12_makes_32 rfl ?_
      refine g_aload_n C dX12_makes_34 rfl ?_
      refine g_getI C fo_X12_153 dX12_makes_35 rfl (by decide) (fun _ => rfl) hE.1.1 ?_
      refine n_ic_ge C 153 dX12_makes_38 (fun h38 => absurd h38 (by omega)) (fun h38 => ?_)
      refine n_iconst C 0 dX12_makes_41 ?_
      refine g_istore C (by rw [hmL]; decide) dX12_makes_42 [.ref 75, .int (nI (h)), .int (nI (a)), .int (nI (b)), .int (nI (i)), .int (nI (0)), unk, unk] rfl ?_
      refine lq_makes hR hmL C hMa hP0 hX0 hil (by omega) (fun S1 L1 O1 hL1 hE1 hi1 => ?_) 3 0 S L O rfl rfl hE hil rfl
      refine n_iinc C (by rw [hmL]; decide) dX12_makes_147 rfl (n_i1 _) [.ref 75, .int (nI (h)), .int (nI (a)), .int (nI (b)), .int (nI (i + 1)), .int (nI (3)), unk, unk] ?_
      refine g_goto C 32 dX12_makes_150 (by decide) ?_
      refine g_frg [.ref 75, .int (nI (h)), .int (nI (a)), .int (nI (b)), .int (nI (i + 1)), unk, unk, unk] ⟨Or.inr rfl, Or.inr rfl, Or.inr rfl, Or.inr rfl, Or.inr rfl, Or.inl rfl, Or.inl rfl, Or.inl rfl, trivial⟩ ?_
      exact ih (i + 1) S1 L1 O1 (by omega) (by rw [show (i + 1) * 3 = i * 3 + 3 by omega]; exact hE1) (by omega) (by rw [hL1]; exact hstep)
      
    · obtain rfl : i = L.length := by omega
      rw [bfsF_end (Nat.le_refl _)] at hb
      subst hb
      refine g_iload C dX12_makes_32 rfl ?_
      refine g_aload_n C dX12_makes_34 rfl ?_
      refine g_getI C fo_X12_153 dX12_makes_35 rfl (by decide) (fun _ => rfl) hE.1.1 ?_
      refine n_ic_ge C 153 dX12_makes_38 (fun h38 => ?_) (fun h38 => absurd h38 (by omega))
      exact kk S O (by rw [Nat.mul_comm]; exact hE)

set_option maxRecDepth 100000 in
theorem le_makes {x : Cx} (hR : xR x = MX12_makes.rm) (hmL : (xc x).maxLocals = MX12_makes.nL) (C : BX x cX12_makes RX12) {A : Ab} {h a b k0 : Nat} {δ : Nat → Nat → Nat} {acc : Nat → Bool} {Dm : Nat → Prop} {X : pv_M → Prop} {S0 : pv_M} (hMa : MMach x.1.2.1 A h a b k0 δ acc Dm X) (hP0 : PM A h a b S0) (hX0 : X S0) {S1 : pv_M} {R : List Nat} {O : Nat → Nat} (hE : ExM δ Dm S0 S1 R O (3 * R.length)) (kk : ∀ S : pv_M, GS S → FN (fun r => r = 90) S1 S → mI S 90 = reg 0 (R.length) (fun j => bI (acc (R.getD j 0))) (mI S1 90) → GG x 106 0 0 [.ref 75, .int (nI (h)), .int (nI (a)), .int (nI (b)), .int (nI (R.length)), unk, unk, unk] [] (S) 189) : ∀ z i (S : pv_M), i + z = R.length → GS S → FN (fun r => r = 90) S1 S → mI S 90 = reg 0 (i) (fun j => bI (acc (R.getD j 0))) (mI S1 90) → GG x 106 0 0 [.ref 75, .int (nI (h)), .int (nI (a)), .int (nI (b)), .int (nI (i)), unk, unk, unk] [] (S) 156 := by
  intro z
  induction z with
  | zero =>
    intro i S hz hS hf hd
    obtain rfl : R.length = i := by omega
    have hl7 := hE.1.2.2.2.2
    refine g_iload C dX12_makes_156 rfl ?_
    refine g_aload_n C dX12_makes_158 rfl ?_
    refine g_getI C fo_X12_153 dX12_makes_159 rfl (by decide) (fun _ => rfl) ((congrFun (hf.2 75 (by decide)).1 17).trans hE.1.1) ?_
    refine n_ic_ge C 189 dX12_makes_162 (fun h162 => ?_) (fun h162 => absurd h162 (by omega))
    exact kk S hS hf hd
  | succ z ih =>
    intro i S hz hS hf hd
    have hFQ : FQ k17 S1 S := ⟨hf.mono (fun r h => by rw [h]; decide), fun q _ => congrFun (hf.2 75 (by decide)).1 q, (hf.2 75 (by decide)).2.1⟩
    have hP := (hP0.keep hE.2.1).keep hFQ
    have hX := hMa.2.2.2.2.2.2 S0 S hX0 (hE.2.1.tr hFQ).w5
    have hDi := hE.2.2.1 _ (getD_mem (show i < R.length by omega))
    have hl7 := hE.1.2.2.2.2
    refine g_iload C dX12_makes_156 rfl ?_
    refine g_aload_n C dX12_makes_158 rfl ?_
    refine g_getI C fo_X12_153 dX12_makes_159 rfl (by decide) (fun _ => rfl) ((congrFun (hf.2 75 (by decide)).1 17).trans hE.1.1) ?_
    refine n_ic_ge C 189 dX12_makes_162 (fun h162 => absurd h162 (by omega)) (fun h162 => ?_)
    refine g_aload_n C dX12_makes_165 rfl ?_
    refine g_getR C fo_X12_56 dX12_makes_166 rfl (by decide) (fun _ => rfl) (gs_75_20 hS) ?_
    refine g_iload C dX12_makes_169 rfl ?_
    refine g_aload_n C dX12_makes_171 rfl ?_
    refine g_aload_n C dX12_makes_172 rfl ?_
    refine g_getR C fo_X12_49 dX12_makes_173 rfl (by decide) (fun _ => rfl) (gs_75_18 hS) ?_
    refine g_iload C dX12_makes_176 rfl ?_
    refine n_lald C dX12_makes_178 rfl (by decide) ((congrFun (hf.2 88 (by decide)).2.1 _).trans (hE.1.2.1 i (by omega))) ?_ (by omega)
    refine g_callV C (As := [.long (lN (R.getD i 0))]) (hMa.2.2.2.2.2.1 S _ hP hX hDi) vo_X12_215 dX12_makes_179 rfl rfl (by decide) rfl (rm_ok (M' := MX12_makes) hR (by decide)) (Nat.le_of_ble_eq_true rfl) (fun v9 S9 h9 => ?_)
    obtain ⟨rfl, h9⟩ := h9
    refine g_S S h9 ?_
    refine g_n0 [.int (bI (acc (R.getD i 0))), .int (nI (i)), .ref 90] rfl rfl rfl ?_
    refine g_zast C dX12_makes_182 rfl (by decide) (by omega) rfl (bI_nar _) ?_
    refine n_iinc C (by rw [hmL]; decide) dX12_makes_183 rfl (n_i1 _) [.ref 75, .int (nI (h)), .int (nI (a)), .int (nI (b)), .int (nI (i + 1)), unk, unk, unk] ?_
    refine g_goto C 156 dX12_makes_186 (by decide) ?_
    exact ih (i + 1) _ (by omega) (hS.fn (FN.wI (P := fun r => r = 90) rfl)) (hf.tr (FN.wI rfl)) (reg_I hd (by omega) rfl)

/-- what a made machine is -/
def MkP (δ : Nat → Nat → Nat) (acc : Nat → Bool) (Dm : Nat → Prop) (S' : pv_M) (R : List Nat) : Prop := NdAt S' R ∧ 0 < R.length ∧ (∀ c, c ∈ R → Dm c) ∧ (∀ p, p < 3 * R.length → δ (R.getD (p / 3) 0) (p % 3) ∈ R) ∧ (∀ i, i < R.length → mI S' 90 i = bI (acc (R.getD i 0))) ∧ (∃ O, O 0 = 0 ∧ Or_ R.length (nxt δ R) O ∧ ∀ j, 0 < j → j < R.length → mI S' 91 j = nI (O j / 3) ∧ mI S' 92 j = nI (O j % 3)) ∧ ∃ r, ccM R.length (nxt δ R) (fun i => acc (R.getD i 0)) (r + 1) = ccM R.length (nxt δ R) (fun i => acc (R.getD i 0)) r ∧ Gk S' R.length (nxt δ R) (ksM R.length (nxt δ R) (fun i => acc (R.getD i 0)) (r + 2)) ∧ mI S' 75 29 = nI (ccM R.length (nxt δ R) (fun i => acc (R.getD i 0)) (r + 1))

set_option maxRecDepth 100000 in
theorem k_makes (l : Launch) {S : pv_M} {A : Ab} {h a b k0 : Nat} {δ : Nat → Nat → Nat} {acc : Nat → Bool} {Dm : Nat → Prop} {X : pv_M → Prop} (hMa : MMach l A h a b k0 δ acc Dm X) (hS : GS S) (hM : MSt S A) (hX : X S) (hB : (bfsF δ 741 0 [k0]).length ≤ 740) : mt l MX12_makes 106 [.ref 75, .int (nI (h)), .int (nI (a)), .int (nI (b))] S (fun v S' => v = none ∧ MkP δ acc Dm S' (bfsF δ 741 0 [k0]) ∧ FQ k5 S S') := by
  refine mt_of (by decide) (Nat.le_of_ble_eq_true rfl) ?_
  intro x hl hR hmL C E
  show GG x 106 0 0 [.ref 75, .int (nI (h)), .int (nI (a)), .int (nI (b)), unk, unk, unk, unk] [] S 0
  subst hl
  refine g_aload_n C dX12_makes_0 rfl ?_
  refine g_iload_n C dX12_makes_1 rfl ?_
  refine g_putI C fo_X12_156 dX12_makes_2 rfl (by decide) rfl ?_
  refine g_aload_n C dX12_makes_5 rfl ?_
  refine g_iload_n C dX12_makes_6 rfl ?_
  refine g_putI C fo_X12_173 dX12_makes_7 rfl (by decide) rfl ?_
  refine g_aload_n C dX12_makes_10 rfl ?_
  refine g_iload_n C dX12_makes_11 rfl ?_
  refine g_putI C fo_X12_178 dX12_makes_12 rfl (by decide) rfl ?_
  refine g_aload_n C dX12_makes_15 rfl ?_
  refine n_iconst C 0 dX12_makes_16 ?_
  refine g_putI C fo_X12_153 dX12_makes_17 rfl (by decide) rfl ?_
  have hQ0 : FQ k5 S (wI (wI (wI (wI S 75 (va_up (mI S 75) 21 (nI (h)))) 75 (va_up (mI (wI S 75 (va_up (mI S 75) 21 (nI (h)))) 75) 22 (nI (a)))) 75 (va_up (mI (wI (wI S 75 (va_up (mI S 75) 21 (nI (h)))) 75 (va_up (mI (wI S 75 (va_up (mI S 75) 21 (nI (h)))) 75) 22 (nI (a)))) 75) 23 (nI (b)))) 75 (va_up (mI (wI (wI (wI S 75 (va_up (mI S 75) 21 (nI (h)))) 75 (va_up (mI (wI S 75 (va_up (mI S 75) 21 (nI (h)))) 75) 22 (nI (a)))) 75 (va_up (mI (wI (wI S 75 (va_up (mI S 75) 21 (nI (h)))) 75 (va_up (mI (wI S 75 (va_up (mI S 75) 21 (nI (h)))) 75) 22 (nI (a)))) 75) 23 (nI (b)))) 75) 17 (nI (0)))) := ((((FQ.w75 (by decide)).tr (FQ.w75 (by decide))).tr (FQ.w75 (by decide))).tr (FQ.w75 (by decide)))
  have hP0 : PM A h a b (wI (wI (wI (wI S 75 (va_up (mI S 75) 21 (nI (h)))) 75 (va_up (mI (wI S 75 (va_up (mI S 75) 21 (nI (h)))) 75) 22 (nI (a)))) 75 (va_up (mI (wI (wI S 75 (va_up (mI S 75) 21 (nI (h)))) 75 (va_up (mI (wI S 75 (va_up (mI S 75) 21 (nI (h)))) 75) 22 (nI (a)))) 75) 23 (nI (b)))) 75 (va_up (mI (wI (wI (wI S 75 (va_up (mI S 75) 21 (nI (h)))) 75 (va_up (mI (wI S 75 (va_up (mI S 75) 21 (nI (h)))) 75) 22 (nI (a)))) 75 (va_up (mI (wI (wI S 75 (va_up (mI S 75) 21 (nI (h)))) 75 (va_up (mI (wI S 75 (va_up (mI S 75) 21 (nI (h)))) 75) 22 (nI (a)))) 75) 23 (nI (b)))) 75) 17 (nI (0)))) := ⟨hS.fn hQ0.1, hM.fs hQ0.fs, rfl, rfl, rfl⟩
  have hX0 : X (wI (wI (wI (wI S 75 (va_up (mI S 75) 21 (nI (h)))) 75 (va_up (mI (wI S 75 (va_up (mI S 75) 21 (nI (h)))) 75) 22 (nI (a)))) 75 (va_up (mI (wI (wI S 75 (va_up (mI S 75) 21 (nI (h)))) 75 (va_up (mI (wI S 75 (va_up (mI S 75) 21 (nI (h)))) 75) 22 (nI (a)))) 75) 23 (nI (b)))) 75 (va_up (mI (wI (wI (wI S 75 (va_up (mI S 75) 21 (nI (h)))) 75 (va_up (mI (wI S 75 (va_up (mI S 75) 21 (nI (h)))) 75) 22 (nI (a)))) 75 (va_up (mI (wI (wI S 75 (va_up (mI S 75) 21 (nI (h)))) 75 (va_up (mI (wI S 75 (va_up (mI S 75) 21 (nI (h)))) 75) 22 (nI (a)))) 75) 23 (nI (b)))) 75) 17 (nI (0)))) := hMa.2.2.2.2.2.2 S _ hX hQ0
  have hN0 : NdAt (wI (wI (wI (wI S 75 (va_up (mI S 75) 21 (nI (h)))) 75 (va_up (mI (wI S 75 (va_up (mI S 75) 21 (nI (h)))) 75) 22 (nI (a)))) 75 (va_up (mI (wI (wI S 75 (va_up (mI S 75) 21 (nI (h)))) 75 (va_up (mI (wI S 75 (va_up (mI S 75) 21 (nI (h)))) 75) 22 (nI (a)))) 75) 23 (nI (b)))) 75 (va_up (mI (wI (wI (wI S 75 (va_up (mI S 75) 21 (nI (h)))) 75 (va_up (mI (wI S 75 (va_up (mI S 75) 21 (nI (h)))) 75) 22 (nI (a)))) 75 (va_up (mI (wI (wI S 75 (va_up (mI S 75) 21 (nI (h)))) 75 (va_up (mI (wI S 75 (va_up (mI S 75) 21 (nI (h)))) 75) 22 (nI (a)))) 75) 23 (nI (b)))) 75) 17 (nI (0)))) [] := ⟨rfl, fun i hi => absurd hi (Nat.not_lt_zero i), List.nodup_nil, fun c hc => absurd hc List.not_mem_nil, Nat.zero_le _⟩
  refine g_aload_n C dX12_makes_20 rfl ?_
  refine g_aload_n C dX12_makes_21 rfl ?_
  refine g_callV C (As := []) (hMa.1 _ hP0 hX0) vo_X12_205 dX12_makes_22 rfl rfl (by decide) rfl (rm_ok (M' := MX12_makes) hR (by decide)) (Nat.le_of_ble_eq_true rfl) (fun v9 S9 h9 => ?_)
  obtain ⟨rfl, h9⟩ := h9
  refine g_S (wI (wI (wI (wI S 75 (va_up (mI S 75) 21 (nI (h)))) 75 (va_up (mI (wI S 75 (va_up (mI S 75) 21 (nI (h)))) 75) 22 (nI (a)))) 75 (va_up (mI (wI (wI S 75 (va_up (mI S 75) 21 (nI (h)))) 75 (va_up (mI (wI S 75 (va_up (mI S 75) 21 (nI (h)))) 75) 22 (nI (a)))) 75) 23 (nI (b)))) 75 (va_up (mI (wI (wI (wI S 75 (va_up (mI S 75) 21 (nI (h)))) 75 (va_up (mI (wI S 75 (va_up (mI S 75) 21 (nI (h)))) 75) 22 (nI (a)))) 75 (va_up (mI (wI (wI S 75 (va_up (mI S 75) 21 (nI (h)))) 75 (va_up (mI (wI S 75 (va_up (mI S 75) 21 (nI (h)))) 75) 22 (nI (a)))) 75) 23 (nI (b)))) 75) 17 (nI (0)))) h9 ?_
  refine g_n0 [.long (lN (k0)), .ref 75] rfl rfl rfl ?_
  refine g_callV C (As := [.long (lN (k0))]) (k_nodeOf _ hP0.1 hN0 (hMa.2.2.1 _ hMa.2.1) (Or.inr (by decide))) vo_X12_208 dX12_makes_25 rfl rfl (by decide) rfl (rm_ok (M' := MX12_makes) hR (by decide)) (Nat.le_of_ble_eq_true rfl) (fun v9 S9 h9 => ?_)
  obtain ⟨rfl, g1, g2, g3⟩ := h9
  refine g_n0 [.int (nI ((addc [] k0).idxOf k0))] rfl rfl rfl ?_
  refine g_pop C dX12_makes_28 rfl ?_
  refine n_iconst C 0 dX12_makes_29 ?_
  refine g_istore C (by rw [hmL]; decide) dX12_makes_30 [.ref 75, .int (nI (h)), .int (nI (a)), .int (nI (b)), .int (nI (0)), unk, unk, unk] rfl ?_
  have hE0 : ExM δ Dm (wI (wI (wI (wI S 75 (va_up (mI S 75) 21 (nI (h)))) 75 (va_up (mI (wI S 75 (va_up (mI S 75) 21 (nI (h)))) 75) 22 (nI (a)))) 75 (va_up (mI (wI (wI S 75 (va_up (mI S 75) 21 (nI (h)))) 75 (va_up (mI (wI S 75 (va_up (mI S 75) 21 (nI (h)))) 75) 22 (nI (a)))) 75) 23 (nI (b)))) 75 (va_up (mI (wI (wI (wI S 75 (va_up (mI S 75) 21 (nI (h)))) 75 (va_up (mI (wI S 75 (va_up (mI S 75) 21 (nI (h)))) 75) 22 (nI (a)))) 75 (va_up (mI (wI (wI S 75 (va_up (mI S 75) 21 (nI (h)))) 75 (va_up (mI (wI S 75 (va_up (mI S 75) 21 (nI (h)))) 75) 22 (nI (a)))) 75) 23 (nI (b)))) 75) 17 (nI (0)))) S9 [k0] (fun _ => 0) (0 * 3) := ⟨g1, g3, fun c hc => by simp at hc; rw [hc]; exact hMa.2.1, fun p hp => absurd hp (by omega), fun j h1 h2 => absurd h2 (by simp; omega), fun j h1 h2 => absurd h2 (by simp; omega)⟩
  refine lp_makes hR hmL C hMa hP0 hX0 (R := bfsF δ 741 0 [k0]) hB (fun S1 O hE1 => ?_) 741 0 S9 [k0] (fun _ => 0) rfl hE0 (Nat.zero_le _) rfl
  have hS1 : GS S1 := (hP0.keep hE1.2.1).1
  have hR0 : 0 < (bfsF δ 741 0 [k0]).length := Nat.lt_of_lt_of_le (show 0 < [k0].length from Nat.zero_lt_one) (bfsF_len δ 741 0 [k0])
  refine n_iconst C 0 dX12_makes_153 ?_
  refine g_istore C (by rw [hmL]; decide) dX12_makes_154 [.ref 75, .int (nI h), .int (nI a), .int (nI b), .int (nI 0), unk, unk, unk] rfl ?_
  refine le_makes hR hmL C hMa hP0 hX0 hE1 (fun S2 hS2 hf2 hd2 => ?_) _ 0 S1 (Nat.zero_add _) hS1 FN.rf reg_0.symm
  have e75 : mI S2 75 = mI S1 75 := (hf2.2 75 (by decide)).1
  have e89 : mI S2 89 = mI S1 89 := (hf2.2 89 (by decide)).1
  refine g_aload_n C dX12_makes_189 rfl ?_
  refine g_callV C (As := []) (k_parts _ (nx := nxt δ (bfsF δ 741 0 [k0])) (ac := fun i => acc ((bfsF δ 741 0 [k0]).getD i 0)) hS2 (by rw [e75]; exact hE1.1.1) hB (fun p hp => by rw [e89]; exact (hE1.2.2.2.1 p hp).1) (fun p hp => idx_lt (hE1.2.2.2.1 p hp).2) (fun j hj => by rw [hd2, reg0 hj])) vo_X12_219 dX12_makes_190 rfl rfl (by decide) rfl (rm_ok (M' := MX12_makes) hR (by decide)) (Nat.le_of_ble_eq_true rfl) (fun v3 S3 h3 => ?_)
  obtain ⟨rfl, r, e, hG3, hc3, hF3, hfn3, hs3⟩ := h3
  refine g_n0 [] rfl rfl rfl ?_
  have hQ2 : FQ k5 S1 S2 := ⟨hf2.mono (fun r h => by rw [h]; decide), fun q _ => congrFun e75 q, (hf2.2 75 (by decide)).2.1⟩
  have hQA := (hQ0.tr (hE1.2.1.w5)).tr (hQ2.tr hF3)
  have hO : ∃ O', O' 0 = 0 ∧ Or_ (bfsF δ 741 0 [k0]).length (nxt δ (bfsF δ 741 0 [k0])) O' ∧ ∀ j, 0 < j → j < (bfsF δ 741 0 [k0]).length → O' j = O j := ⟨va_up O 0 0, up_same, ⟨up_same, fun j h1 h2 => by rw [va_up_ne _ _ (by omega)]; exact hE1.2.2.2.2.2 j h1 h2⟩, fun j h1 _ => va_up_ne _ _ (by omega)⟩
  obtain ⟨O', hO0, hO1, hO2⟩ := hO
  refine g_vret C E dX12_makes_193 (by rw [hR]; decide) (by rw [hR]; decide) ⟨rfl, ⟨hE1.1.keep (by rw [hs3 17 (by decide), e75]) (by rw [(hfn3.2 88 (by decide)).2.1, (hf2.2 88 (by decide)).2.1]), hR0, hE1.2.2.1, fun p hp => (hE1.2.2.2.1 p hp).2, fun i hi => by rw [(hfn3.2 90 (by decide)).1, hd2, reg0 hi], ⟨O', hO0, hO1, fun j h1 h2 => by rw [(hfn3.2 91 (by decide)).1, (hf2.2 91 (by decide)).1, (hfn3.2 92 (by decide)).1, (hf2.2 92 (by decide)).1, hO2 j h1 h2]; exact hE1.2.2.2.2.1 j h1 h2⟩, r, e, hG3, hc3⟩, hQA⟩
