set_option maxRecDepth 100000 in
theorem c_X5_numberOf_in (l : Launch) {S : pv_M} {B c p : Nat} {L : List Nat} {O : Nat → Nat} (hN : NuAt S B L O) (hcB : c < B) (hin : c ∈ L) : mt l MX5_numberOf 106 [.ref 29, .int (nI (c)), .int (nI (p))] S (fun v S' => v = some (.int (nI (L.idxOf c))) ∧ S' = S) := by
  refine mt_of (by decide) (Nat.le_of_ble_eq_true rfl) ?_
  intro x hl hR hmL C E
  show GG x 106 0 0 [.ref 29, .int (nI (c)), .int (nI (p))] [] S 0
  obtain ⟨⟨t0, t2, t3, t4, t5, t6⟩, hc, h30, h31, h33, hn, hB, h384⟩ := id hN
  have hlen := hN.len
  have hi := idx_lt hin
  have h9 : mI S 31 c = nI (L.idxOf c) := by rw [h31 c hcB, if_pos hin]
  refine g_aload_n C dX5_numberOf_0 rfl ?_
  refine g_getR C fo_X5_19 dX5_numberOf_1 rfl (by decide) (fun _ => rfl) t3 ?_
  refine g_iload_n C dX5_numberOf_4 rfl ?_
  refine n_iald C dX5_numberOf_5 rfl (by decide) h9 ?_ (by omega)
  refine g_iconst C (-1) dX5_numberOf_6 (by decide) ?_
  refine g_ic_ne C 50 dX5_numberOf_7 (by decide) (fun h7 => ?_) (fun h7 => absurd h7 (nI_nm1 (by omega)))
  refine g_aload_n C dX5_numberOf_50 rfl ?_
  refine g_getR C fo_X5_19 dX5_numberOf_51 rfl (by decide) (fun _ => rfl) t3 ?_
  refine g_iload_n C dX5_numberOf_54 rfl ?_
  refine n_iald C dX5_numberOf_55 rfl (by decide) h9 ?_ (by omega)
  exact g_iret C E dX5_numberOf_56 (by rw [hR]; decide) (by rw [hR]; decide) ⟨rfl, rfl⟩

set_option maxRecDepth 100000 in
theorem c_X5_numberOf_out (l : Launch) {S : pv_M} {B c p : Nat} {L : List Nat} {O : Nat → Nat} (hN : NuAt S B L O) (hcB : c < B) (hin : c ∉ L) : mt l MX5_numberOf 106 [.ref 29, .int (nI (c)), .int (nI (p))] S (fun v S' => v = some (.int (nI L.length)) ∧ NuAt S' B (L ++ [c]) (va_up O L.length p) ∧ FN kM S S' ∧ (∀ r, r ≠ 29 → r ≠ 30 → r ≠ 31 → r ≠ 33 → mI S' r = mI S r) ∧ ∀ k, k ≠ 1 → mI S' 29 k = mI S 29 k) := by
  refine mt_of (by decide) (Nat.le_of_ble_eq_true rfl) ?_
  intro x hl hR hmL C E
  show GG x 106 0 0 [.ref 29, .int (nI (c)), .int (nI (p))] [] S 0
  obtain ⟨⟨t0, t2, t3, t4, t5, t6⟩, hc, h30, h31, h33, hn, hB, h384⟩ := id hN
  have hlen := hN.len
  have h9 : mI S 31 c = -1 := by rw [h31 c hcB, if_neg hin]
  have hl2 : L.length < B := by
    have h8 := nodup_le (L := L ++ [c]) (B := B) (by rw [← addc_out hin]; exact addc_nodup c hn) (fun a ha => by rcases List.mem_append.mp ha with h | h; exact hB a h; rw [List.mem_singleton.mp h]; exact hcB)
    simp at h8
    omega
  refine g_aload_n C dX5_numberOf_0 rfl ?_
  refine g_getR C fo_X5_19 dX5_numberOf_1 rfl (by decide) (fun _ => rfl) t3 ?_
  refine g_iload_n C dX5_numberOf_4 rfl ?_
  refine n_iald C dX5_numberOf_5 rfl (by decide) h9 ?_ (by omega)
  refine g_iconst C (-1) dX5_numberOf_6 (by decide) ?_
  refine g_ic_ne C 50 dX5_numberOf_7 (by decide) (fun h7 => absurd rfl h7) (fun h7 => ?_)
  refine g_aload_n C dX5_numberOf_10 rfl ?_
  refine g_getR C fo_X5_19 dX5_numberOf_11 rfl (by decide) (fun _ => rfl) t3 ?_
  refine g_iload_n C dX5_numberOf_14 rfl ?_
  refine g_aload_n C dX5_numberOf_15 rfl ?_
  refine g_getI C fo_X5_9 dX5_numberOf_16 rfl (by decide) (fun _ => rfl) hc ?_
  refine g_iast C dX5_numberOf_19 rfl (by decide) (by omega) rfl ?_
  refine g_aload_n C dX5_numberOf_20 rfl ?_
  refine g_getR C fo_X5_15 dX5_numberOf_21 rfl (by decide) (fun _ => rfl) t2 ?_
  refine g_aload_n C dX5_numberOf_24 rfl ?_
  refine g_getI C fo_X5_9 dX5_numberOf_25 rfl (by decide) (fun _ => rfl) hc ?_
  refine g_iload_n C dX5_numberOf_28 rfl ?_
  refine g_iast C dX5_numberOf_29 rfl (by decide) (by omega) rfl ?_
  refine g_aload_n C dX5_numberOf_30 rfl ?_
  refine g_getR C fo_X5_25 dX5_numberOf_31 rfl (by decide) (fun _ => rfl) t5 ?_
  refine g_aload_n C dX5_numberOf_34 rfl ?_
  refine g_getI C fo_X5_9 dX5_numberOf_35 rfl (by decide) (fun _ => rfl) hc ?_
  refine g_iload_n C dX5_numberOf_38 rfl ?_
  refine g_iast C dX5_numberOf_39 rfl (by decide) (by omega) rfl ?_
  refine g_aload_n C dX5_numberOf_40 rfl ?_
  refine g_dup C dX5_numberOf_41 rfl ?_
  refine g_getI C fo_X5_9 dX5_numberOf_42 rfl (by decide) (fun _ => rfl) hc ?_
  refine n_iconst C 1 dX5_numberOf_45 ?_
  refine n_iadd C dX5_numberOf_46 ?_
  refine g_putI C fo_X5_9 dX5_numberOf_47 rfl (by decide) rfl ?_
  refine g_aload_n C dX5_numberOf_50 rfl ?_
  refine g_getR C fo_X5_19 dX5_numberOf_51 rfl (by decide) (fun _ => rfl) t3 ?_
  refine g_iload_n C dX5_numberOf_54 rfl ?_
  refine n_iald (v := nI L.length) C dX5_numberOf_55 rfl (by decide) (up_same (f := mI S 31)) ?_ (by omega)
  refine g_iret C E dX5_numberOf_56 (by rw [hR]; decide) (by rw [hR]; decide) ⟨rfl, ⟨⟨t0, t2, t3, t4, t5, t6⟩, ?_, fun i hi => ?_, fun a ha => ?_, fun i hi => ?_, ?_, fun a ha => ?_, h384⟩, ((((FN.wI (P := kM) (by decide)).tr (FN.wI (by decide))).tr (FN.wI (by decide))).tr (FN.wI (by decide))), fun r r1 r2 r3 r4 => ?_, fun k hk => ?_⟩
  · show nI (L.length + 1) = _
    simp
  · show va_up (mI S 30) L.length (nI c) i = _
    rw [← addc_out hin] at hi ⊢
    by_cases e : i = L.length
    · rw [e, up_same, addc_out hin, List.getD_eq_getElem?_getD, List.getElem?_append_right (Nat.le_refl _)]
      simp
    · have h3 : i < L.length := by rw [addc_out hin] at hi; simp at hi; omega
      rw [va_up_ne _ _ e, addc_getD h3]
      exact h30 i h3
  · show va_up (mI S 31) c (nI L.length) a = _
    by_cases e : a = c
    · rw [e, up_same, if_pos (by simp), List.idxOf_append, if_neg hin]
      simp
    · rw [va_up_ne _ _ e, h31 a ha]
      by_cases e2 : a ∈ L
      · rw [if_pos e2, if_pos (by simp [e2]), List.idxOf_append, if_pos e2]
      · rw [if_neg e2, if_neg (by simp [e, e2])]
  · show va_up (mI S 33) L.length (nI p) i = _
    by_cases e : i = L.length
    · rw [e, up_same, up_same]
    · rw [va_up_ne _ _ e, va_up_ne _ _ e]
      exact h33 i (by simp at hi; omega)
  · rw [← addc_out hin]; exact addc_nodup c hn
  · rcases List.mem_append.mp ha with h | h
    · exact hB a h
    · rw [List.mem_singleton.mp h]; exact hcB
  · rw [mI_wI_ne r1, mI_wI_ne r4, mI_wI_ne r2, mI_wI_ne r3]
  · show va_up (mI S 29) 1 (nI (L.length + 1)) k = _
    rw [va_up_ne _ _ hk]
