set_option maxRecDepth 100000 in
theorem lp_nodeOf {x : Cx} (hR : xR x = MX12_nodeOf.rm) (hmL : (xc x).maxLocals = MX12_nodeOf.nL) (C : BX x cX12_nodeOf RX12) {S : pv_M} {L : List Nat} {c : Nat} (hS : GS S) (hN : NdAt S L) (hc : c < 2 ^ 64) (kk : ∀ i, i ≤ L.length → (∀ p, p < i → L.getD p 0 ≠ c) → (i < L.length → L.getD i 0 = c) → GG x 106 0 0 [.ref 75, .long (lN (c)), unk, .int (nI (i))] [] (S) 27) : ∀ z i, i + z = L.length → (∀ p, p < i → L.getD p 0 ≠ c) → GG x 106 0 0 [.ref 75, .long (lN (c)), unk, .int (nI (i))] [] (S) 2 := by
  have hl7 := hN.2.2.2.2
  intro z
  induction z with
  | zero =>
    intro i hz hp
    refine g_iload_n C dX12_nodeOf_2 rfl ?_
    refine g_aload_n C dX12_nodeOf_3 rfl ?_
    refine g_getI C fo_X12_153 dX12_nodeOf_4 rfl (by decide) (fun _ => rfl) hN.1 ?_
    refine n_ic_ge C 27 dX12_nodeOf_7 (fun h7 => ?_) (fun h7 => absurd h7 (by omega))
    exact kk i (by omega) hp (fun h => absurd h (by omega))
  | succ z ih =>
    intro i hz hp
    have hci := hN.2.2.2.1 _ (getD_mem (show i < L.length by omega))
    refine g_iload_n C dX12_nodeOf_2 rfl ?_
    refine g_aload_n C dX12_nodeOf_3 rfl ?_
    refine g_getI C fo_X12_153 dX12_nodeOf_4 rfl (by decide) (fun _ => rfl) hN.1 ?_
    refine n_ic_ge C 27 dX12_nodeOf_7 (fun h7 => absurd h7 (by omega)) (fun h7 => ?_)
    refine g_aload_n C dX12_nodeOf_10 rfl ?_
    refine g_getR C fo_X12_49 dX12_nodeOf_11 rfl (by decide) (fun _ => rfl) (gs_75_18 hS) ?_
    refine g_iload_n C dX12_nodeOf_14 rfl ?_
    refine n_lald C dX12_nodeOf_15 rfl (by decide) (hN.2.1 _ (by omega)) ?_ (by omega)
    refine g_lload_n C dX12_nodeOf_16 rfl ?_
    refine g_lcmp C dX12_nodeOf_17 ?_
    refine c_if_eq C 27 dX12_nodeOf_18 (fun h18 => ?_) (fun h18 => ?_) (by decide) hci hc
    · exact kk i (by omega) hp (fun _ => h18)
    · refine n_iinc C (by rw [hmL]; decide) dX12_nodeOf_21 rfl (n_i1 _) [.ref 75, .long (lN (c)), unk, .int (nI (i + 1))] ?_
      refine g_goto C 2 dX12_nodeOf_24 (by decide) ?_
      exact ih (i + 1) (by omega) (fun p hp2 => by
        by_cases e : p = i
        · rw [e]; exact h18
        · exact hp p (by omega))

set_option maxRecDepth 100000 in
theorem k_nodeOf (l : Launch) {S : pv_M} {L : List Nat} {c : Nat} (hS : GS S) (hN : NdAt S L) (hc : c < 2 ^ 64) (hr : c ∈ L ∨ L.length < 740) : mt l MX12_nodeOf 106 [.ref 75, .long (lN (c))] S (fun v S' => v = some (.int (nI ((addc L c).idxOf c))) ∧ NdAt S' (addc L c) ∧ FN (fun r => r = 75 ∨ r = 88) S S' ∧ FQ k17 S S') := by
  refine mt_of (by decide) (Nat.le_of_ble_eq_true rfl) ?_
  intro x hl hR hmL C E
  show GG x 106 0 0 [.ref 75, .long (lN (c)), unk, unk] [] S 0
  refine n_iconst C 0 dX12_nodeOf_0 ?_
  refine g_istore_n C (by rw [hmL]; decide) dX12_nodeOf_1 [.ref 75, .long (lN (c)), unk, .int (nI (0))] rfl ?_
  refine lp_nodeOf hR hmL C hS hN hc (fun i hi hp hf => ?_) L.length 0 (Nat.zero_add _) (fun p hp => absurd hp (Nat.not_lt_zero p))
  have hl7 := hN.2.2.2.2
  by_cases hin : c ∈ L
  · have hil : i < L.length := by
      rcases Nat.lt_or_ge i L.length with z | z
      · exact z
      · exact absurd hin (not_mem_of (fun p hp2 => hp p (by omega)))
    have hix : L.idxOf c = i := by rw [← hf hil]; exact idx_getD hN.2.2.1 hil
    refine g_iload_n C dX12_nodeOf_27 rfl ?_
    refine g_aload_n C dX12_nodeOf_28 rfl ?_
    refine g_getI C fo_X12_153 dX12_nodeOf_29 rfl (by decide) (fun _ => rfl) hN.1 ?_
    refine n_ic_ne C 52 dX12_nodeOf_32 (fun h32 => ?_) (fun h32 => absurd h32 (by omega))
    refine g_iload_n C dX12_nodeOf_52 rfl ?_
    exact g_iret C E dX12_nodeOf_53 (by rw [hR]; decide) (by rw [hR]; decide) ⟨by rw [addc_in hin, hix], by rw [addc_in hin]; exact hN, FN.rf, FQ.rf⟩
  · have hil : i = L.length := by
      rcases Nat.lt_or_ge i L.length with z | z
      · exact absurd (hf z ▸ getD_mem z) hin
      · omega
    subst hil
    have h74 := hr.resolve_left hin
    refine g_iload_n C dX12_nodeOf_27 rfl ?_
    refine g_aload_n C dX12_nodeOf_28 rfl ?_
    refine g_getI C fo_X12_153 dX12_nodeOf_29 rfl (by decide) (fun _ => rfl) hN.1 ?_
    refine n_ic_ne C 52 dX12_nodeOf_32 (fun h32 => absurd h32 (by omega)) (fun h32 => ?_)
    refine g_aload_n C dX12_nodeOf_35 rfl ?_
    refine g_getR C fo_X12_49 dX12_nodeOf_36 rfl (by decide) (fun _ => rfl) (gs_75_18 hS) ?_
    refine g_iload_n C dX12_nodeOf_39 rfl ?_
    refine g_lload_n C dX12_nodeOf_40 rfl ?_
    refine g_last C dX12_nodeOf_41 rfl (by decide) (by omega) rfl ?_
    refine g_aload_n C dX12_nodeOf_42 rfl ?_
    refine g_dup C dX12_nodeOf_43 rfl ?_
    refine g_getI C fo_X12_153 dX12_nodeOf_44 rfl (by decide) (fun _ => rfl) hN.1 ?_
    refine n_iconst C 1 dX12_nodeOf_47 ?_
    refine n_iadd C dX12_nodeOf_48 ?_
    refine g_putI C fo_X12_153 dX12_nodeOf_49 rfl (by decide) rfl ?_
    refine g_iload_n C dX12_nodeOf_52 rfl ?_
    exact g_iret C E dX12_nodeOf_53 (by rw [hR]; decide) (by rw [hR]; decide) ⟨by rw [addc_idx_new hin], by rw [addc_out hin]; exact hN.add hin hc h74, (FN.wJ (by decide)).tr (FN.wI (by decide)), (FQ.cJ (by omega)).tr (FQ.w75 rfl)⟩
  
