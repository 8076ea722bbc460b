/-- what exploring leaves: the graph, and by which place each state came first -/
def Expl (δ : Nat → Nat → Nat) (acc : Nat → Bool) (Dm : Nat → Prop) (S' : pv_M) (R : List Nat) : Prop := Gr S' R.length (nxt δ R) (fun i => acc (R.getD i 0)) ∧ R.Nodup ∧ (∀ c, c ∈ R → Dm c) ∧ (∀ p, p < 3 * R.length → δ (R.getD (p / 3) 0) (p % 3) ∈ R) ∧ ∃ O, Or_ R.length (nxt δ R) O ∧ ∀ i, i < R.length → mI S' 33 i = nI (O i)
theorem ExP.fin {δ : Nat → Nat → Nat} {acc : Nat → Bool} {Dm : Nat → Prop} {S0 S : pv_M} {B : Nat} {R : List Nat} {O : Nat → Nat} (h : ExP δ acc Dm S0 S B R O (3 * R.length) R.length) (h0 : 0 < R.length) : Expl δ acc Dm S R := by
  obtain ⟨h1, h2, h3, h4, h5, h6, h7⟩ := h
  have hl := h1.len
  have h384 := h1.2.2.2.2.2.2.2
  exact ⟨⟨h1.1, h1.2.1, h0, by omega, fun p hp => ⟨(h4 p hp).1, idx_lt (h4 p hp).2⟩, h5⟩, h1.2.2.2.2.2.1, h3, fun p hp => (h4 p hp).2, O, ⟨h6, h7⟩, h1.2.2.2.2.1⟩
theorem addq_len (δ : Nat → Nat → Nat) (c : Nat) (L : List Nat) : ∀ q, L.length ≤ (addq δ c q L).length
  | 0 => Nat.le_refl _
  | q + 1 => Nat.le_trans (addq_len δ c L q) (addc_len _ _)
theorem bfsF_len (δ : Nat → Nat → Nat) : ∀ (n i : Nat) (L : List Nat), L.length ≤ (bfsF δ n i L).length
  | 0, _, _ => Nat.le_refl _
  | n + 1, i, L => by
    unfold bfsF
    by_cases h : i < L.length
    · rw [if_pos h]; exact Nat.le_trans (addq_len δ _ L 3) (bfsF_len δ n (i + 1) _)
    · rw [if_neg h]; exact Nat.le_refl _

set_option maxRecDepth 100000 in
theorem c_X5_explore (l : Launch) {S : pv_M} {m B c0 : Nat} {δ : Nat → Nat → Nat} {acc : Nat → Bool} {Dm : Nat → Prop} {P : pv_M → Prop} (hMa : Mach l m B c0 δ acc Dm P) (hP0 : P S) (hMR : MRf S) : mt l MX5_explore 106 [.ref 29, .ref m] S (fun v S' => v = none ∧ FN kM S S' ∧ Expl δ acc Dm S' (bfsF δ B 0 [c0])) := by
  refine mt_of (by decide) (Nat.le_of_ble_eq_true rfl) ?_
  intro x hl hR hmL C E
  subst hl
  obtain ⟨mm, m384, mD0, mlt, mD, mP, ci, M1, M2, M3, M4, ms, ⟨q1, q2, q3, q4⟩, u1, u2, u3, u4, k1, k2, k3_, k4⟩ := id hMa
  show GG x 106 0 0 [.ref 29, .ref m, unk, unk, unk, unk] [] S 0
  refine g_aload_n C dX5_explore_0 rfl ?_
  refine g_callU C (As := []) (k1 S hP0) u1 dX5_explore_1 rfl ms mm rfl (rq_ok q1 hR) (Nat.le_of_ble_eq_true rfl) (fun v9 S9 h9 => ?_)
  obtain ⟨rfl, h9⟩ := h9
  refine g_S S h9 ?_
  refine g_n0 [.int (nI (B))] (by rw [q1.2.2.1]) (by rw [q1.2.2.2]) rfl ?_
  refine g_istore_n C (by rw [hmL]; decide) dX5_explore_4 [.ref 29, .ref m, .int (nI (B)), unk, unk, unk] rfl ?_
  refine n_iconst C 0 dX5_explore_5 ?_
  refine g_istore_n C (by rw [hmL]; decide) dX5_explore_6 [.ref 29, .ref m, .int (nI (B)), .int (nI (0)), unk, unk] rfl ?_
  refine lp_X5_explore_7 hR hmL C m384 hMR.2.2.1 (fun S1 hf1 hz1 => ?_) B 0 S (by omega) FN.rf (fun j hj => absurd hj (Nat.not_lt_zero j))
  refine g_aload_n C dX5_explore_25 rfl ?_
  refine n_iconst C 0 dX5_explore_26 ?_
  refine g_putI C fo_X5_9 dX5_explore_27 rfl (by decide) rfl ?_
  have hMR1 : MRf (wI S1 29 (va_up (mI S1 29) 1 (nI 0))) := by unfold MRf; rw [show mR (wI S1 29 (va_up (mI S1 29) 1 (nI 0))) = mR S from hf1.1]; exact hMR
  have hN : NuAt (wI S1 29 (va_up (mI S1 29) 1 (nI 0))) B [] (fun _ => 0) := ⟨hMR1, rfl, fun i hi => absurd hi (Nat.not_lt_zero i), fun c hc => by rw [if_neg List.not_mem_nil]; exact hz1 c hc, fun i hi => absurd hi (Nat.not_lt_zero i), List.nodup_nil, fun c hc => absurd hc List.not_mem_nil, m384⟩
  have hf2 : FN kM S (wI S1 29 (va_up (mI S1 29) 1 (nI 0))) := hf1.tr (FN.wI (by decide))
  generalize wI S1 29 (va_up (mI S1 29) 1 (nI 0)) = S2 at hN hf2 hMR1 ⊢
  refine g_aload_n C dX5_explore_30 rfl ?_
  refine g_aload_n C dX5_explore_31 rfl ?_
  refine g_callU C (As := []) (k2 S2 (mP S S2 hP0 hf2.fr)) u2 dX5_explore_32 rfl ms mm rfl (rq_ok q2 hR) (Nat.le_of_ble_eq_true rfl) (fun v9 S9 h9 => ?_)
  obtain ⟨rfl, h9⟩ := h9
  refine g_S S2 h9 ?_
  refine g_n0 [.int (nI c0), .ref 29] (by rw [q2.2.2.1]) (by rw [q2.2.2.2]) rfl ?_
  refine n_iconst C 0 dX5_explore_35 ?_
  refine g_callV C (As := [.int (nI c0), .int (nI 0)]) (c_X5_numberOf_out _ hN (mlt _ mD0) List.not_mem_nil) vo_X5_65 dX5_explore_36 rfl rfl (by decide) rfl (rm_ok (M' := MX5_explore) hR (by decide)) (Nat.le_of_ble_eq_true rfl) (fun v9 S9 h9 => ?_)
  obtain ⟨rfl, g1, g2, g3, g4⟩ := h9
  refine g_n0 [.int (nI 0)] rfl rfl rfl ?_
  refine g_pop C dX5_explore_39 rfl ?_
  refine n_iconst C 0 dX5_explore_40 ?_
  refine g_istore_n C (by rw [hmL]; decide) dX5_explore_41 [.ref 29, .ref m, .int (nI B), .int (nI 0), unk, unk] rfl ?_
  refine lp_X5_explore_42 hR hmL C hMa hP0 (R := bfsF δ B 0 [c0]) (fun S3 h3 => ?_) B 0 S9 [c0] _ (by omega) ⟨g1, hf2.tr g2, fun c hc => by rw [List.mem_singleton.mp hc]; exact mD0, fun p hp => absurd hp (by omega), fun j hj => absurd hj (Nat.not_lt_zero j), rfl, fun j j1 j2 => absurd j2 (by simp; omega)⟩ (by omega) rfl
  obtain ⟨O, hO⟩ := h3
  have h0 : 0 < (bfsF δ B 0 [c0]).length := Nat.lt_of_lt_of_le (Nat.zero_lt_one : 0 < [c0].length) (bfsF_len δ B 0 [c0])
  exact g_vret C E dX5_explore_127 (by rw [hR]; decide) (by rw [hR]; decide) ⟨rfl, hO.2.1, hO.fin h0⟩
