/-! refining: kinds numbered as they come -/
def kd0 (ac : Nat → Bool) (i : Nat) : Nat := if ac i = ac 0 then 0 else 1
/-- how many kinds the first k states have, when kinds are numbered as they come -/
def cls (f : Nat → Nat) : Nat → Nat
  | 0 => 0
  | k + 1 => if f k < cls f k then cls f k else f k + 1
def foL (v : Nat → Nat) : Nat → List Nat
  | 0 => []
  | i + 1 => addc (foL v i) (v i)
def kval (kd nx : Nat → Nat) (i : Nat) : Nat := ((kd i * 384 + kd (nx (i * 3 + 0))) * 384 + kd (nx (i * 3 + 1))) * 384 + kd (nx (i * 3 + 2))
def kref (k : Nat) (nx kd : Nat → Nat) (i : Nat) : Nat := (foL (kval kd nx) k).idxOf (kval kd nx i)
theorem foL_mem {v : Nat → Nat} : ∀ {k i : Nat}, i < k → v i ∈ foL v k
  | 0, i, h => absurd h (Nat.not_lt_zero i)
  | k + 1, i, h => by
    unfold foL
    by_cases e : i = k
    · rw [e]; exact addc_self _ _
    · exact addc_mono (foL_mem (by omega))
theorem foL_nodup (v : Nat → Nat) : ∀ k, (foL v k).Nodup
  | 0 => List.nodup_nil
  | k + 1 => addc_nodup _ (foL_nodup v k)
theorem foL_len (v : Nat → Nat) : ∀ k, (foL v k).length ≤ k
  | 0 => Nat.le_refl _
  | k + 1 => by
    have h := foL_len v k
    unfold foL
    by_cases hc : v k ∈ foL v k
    · rw [addc_in hc]; omega
    · rw [addc_out hc]; simp; omega
theorem foL_of {v : Nat → Nat} {a : Nat} : ∀ {k : Nat}, a ∈ foL v k → ∃ i, i < k ∧ a = v i
  | 0, h => absurd h List.not_mem_nil
  | k + 1, h => by
    unfold foL at h
    rcases addc_mem h with h | h
    · obtain ⟨i, h1, h2⟩ := foL_of h
      exact ⟨i, by omega, h2⟩
    · exact ⟨k, by omega, h⟩
theorem foL_idx {v : Nat → Nat} {k a : Nat} (h : a ∈ foL v k) : ∀ d, (foL v (k + d)).idxOf a = (foL v k).idxOf a ∧ a ∈ foL v (k + d)
  | 0 => ⟨rfl, h⟩
  | d + 1 => by
    obtain ⟨h1, h2⟩ := foL_idx h d
    show (addc (foL v (k + d)) (v (k + d))).idxOf a = _ ∧ a ∈ addc (foL v (k + d)) (v (k + d))
    exact ⟨by rw [addc_idx h2]; exact h1, addc_mono h2⟩
theorem kval_lt {kd nx : Nat → Nat} {i k : Nat} (hi : i < k) (hk : ∀ j, j < k → kd j < 384) (hn : ∀ p, p < 3 * k → nx p < k) : kval kd nx i < 384 * 384 * 384 * 384 := by
  have h0 := hk i hi
  have h1 := hk _ (hn (i * 3 + 0) (by omega))
  have h2 := hk _ (hn (i * 3 + 1) (by omega))
  have h3 := hk _ (hn (i * 3 + 2) (by omega))
  unfold kval
  omega
def KdAt (S : pv_M) (u w : Nat) : Prop := mR S 29 8 = some u ∧ mR S 29 9 = some w
theorem Gr.keep {P : Nat → Prop} {S S' : pv_M} {k : Nat} {nx : Nat → Nat} {ac : Nat → Bool} (h : Gr S k nx ac) (q1 : mR S' 29 = mR S 29) (q2 : mI S' 29 1 = mI S 29 1) (q3 : mI S' 32 = mI S 32) (q4 : mI S' 34 = mI S 34) : Gr S' k nx ac := by
  obtain ⟨h1, h2, h3, h4, h5, h6⟩ := h
  refine ⟨?_, by rw [q2]; exact h2, h3, h4, by rw [q3]; exact h5, by rw [q4]; exact h6⟩
  unfold MRf at h1 ⊢
  rw [q1]
  exact h1

theorem cls_kd0 (ac : Nat → Bool) : ∀ k, cls (kd0 ac) k ≤ 2 ∧ (0 < k → 1 ≤ cls (kd0 ac) k)
  | 0 => ⟨(by decide : 0 ≤ 2), fun h => absurd h (by decide)⟩
  | k + 1 => by
    obtain ⟨h1, h2⟩ := cls_kd0 ac k
    have h3 : kd0 ac k = 0 ∨ kd0 ac k = 1 := by unfold kd0; by_cases e : ac k = ac 0; rw [if_pos e]; exact Or.inl rfl; rw [if_neg e]; exact Or.inr rfl
    unfold cls
    by_cases e : kd0 ac k < cls (kd0 ac) k
    · rw [if_pos e]; omega
    · rw [if_neg e]; omega
theorem bI_inj {a b : Bool} : bI a = bI b ↔ a = b := by cases a <;> cases b <;> decide

set_option maxRecDepth 100000 in
theorem lp_X5_splitByAcceptance_a {x : Cx} (hR : xR x = MX5_splitByAcceptance.rm) (hmL : (xc x).maxLocals = MX5_splitByAcceptance.nL) (C : BX x cX5_splitByAcceptance RX5) {k : Nat} {nx : Nat → Nat} {ac : Nat → Bool} {S0 : pv_M} (kk : ∀ S c, Gr S k nx ac → KdAt S 35 36 → FN kM S0 S → mI S 29 7 = nI c → (∀ j, j < k → mI S 35 j = nI (kd0 ac j)) → (c = if cls (kd0 ac) k = 2 then 2 else 1) → (∀ j, j < k → mI S 33 j = mI S0 33 j) → GG x 106 0 0 [.ref 29, .int (nI (k)), unk] [] (S) 73) : ∀ z i c (S : pv_M), i + z = k → Gr S k nx ac → KdAt S 35 36 → FN kM S0 S → mI S 29 7 = nI c → (∀ j, j < i → mI S 35 j = nI (kd0 ac j)) → (c = if cls (kd0 ac) i = 2 then 2 else 1) → (∀ j, j < k → mI S 33 j = mI S0 33 j) → GG x 106 0 0 [.ref 29, .int (nI (i)), unk] [] (S) 7 := by
  intro z
  induction z with
  | zero =>
    intro i c S hi hG hK hf hc hz hm h33
    have hk4 := hG.2.2.2.1
    obtain rfl : i = k := by omega
    refine g_iload_n C dX5_splitByAcceptance_7 rfl ?_
    refine g_aload_n C dX5_splitByAcceptance_8 rfl ?_
    refine g_getI C fo_X5_9 dX5_splitByAcceptance_9 rfl (by decide) (fun _ => rfl) hG.2.1 ?_
    refine n_ic_ge C 73 dX5_splitByAcceptance_12 (fun h12 => ?_) (fun h12 => absurd h12 (by omega))
    exact kk S c hG hK hf hc hz hm h33
  | succ z ih =>
    intro i c S hi hG hK hf hc hz hm h33
    have hk4 := hG.2.2.2.1
    have hacc := hG.2.2.2.2.2
    have hcl : cls (kd0 ac) (i + 1) = (if kd0 ac i < cls (kd0 ac) i then cls (kd0 ac) i else kd0 ac i + 1) := rfl
    have hc2 := cls_kd0 ac i
    refine g_iload_n C dX5_splitByAcceptance_7 rfl ?_
    refine g_aload_n C dX5_splitByAcceptance_8 rfl ?_
    refine g_getI C fo_X5_9 dX5_splitByAcceptance_9 rfl (by decide) (fun _ => rfl) hG.2.1 ?_
    refine n_ic_ge C 73 dX5_splitByAcceptance_12 (fun h12 => absurd h12 (by omega)) (fun h12 => ?_)
    refine g_aload_n C dX5_splitByAcceptance_15 rfl ?_
    refine g_getR C fo_X5_28 dX5_splitByAcceptance_16 rfl (by decide) (fun _ => rfl) hG.1.2.2.2.2.2 ?_
    refine g_iload_n C dX5_splitByAcceptance_19 rfl ?_
    refine n_zald C dX5_splitByAcceptance_20 rfl (by decide) (hacc _ (by omega)) ?_ (by omega)
    refine g_aload_n C dX5_splitByAcceptance_21 rfl ?_
    refine g_getR C fo_X5_28 dX5_splitByAcceptance_22 rfl (by decide) (fun _ => rfl) hG.1.2.2.2.2.2 ?_
    refine n_iconst C 0 dX5_splitByAcceptance_25 ?_
    refine n_zald C dX5_splitByAcceptance_26 rfl (by decide) (hacc _ (by omega)) ?_ (by omega)
    by_cases e0 : ac i = ac 0
    · refine g_ic_eq C 34 dX5_splitByAcceptance_27 (by decide) (fun _ => ?_) (fun h => absurd (bI_inj.mpr e0) h)
      refine n_iconst C 0 dX5_splitByAcceptance_34 ?_
      refine g_istore_n C (by rw [hmL]; decide) dX5_splitByAcceptance_35 [.ref 29, .int (nI (i)), .int (nI (0))] rfl ?_
      refine g_aload_n C dX5_splitByAcceptance_36 rfl ?_
      refine g_getR C fo_X5_35 dX5_splitByAcceptance_37 rfl (by decide) (fun _ => rfl) hK.1 ?_
      refine g_iload_n C dX5_splitByAcceptance_40 rfl ?_
      refine g_iload_n C dX5_splitByAcceptance_41 rfl ?_
      refine n_if_eq C 49 dX5_splitByAcceptance_42 (fun h42 => ?_) (fun h42 => absurd rfl h42)
      refine n_iconst C 0 dX5_splitByAcceptance_49 ?_
      refine g_iast C dX5_splitByAcceptance_50 rfl (by decide) (by omega) rfl ?_
      refine g_aload_n C dX5_splitByAcceptance_51 rfl ?_
      refine g_iload_n C dX5_splitByAcceptance_52 rfl ?_
      refine n_if_eq C 60 dX5_splitByAcceptance_53 (fun h53 => ?_) (fun h53 => absurd rfl h53)
      refine g_aload_n C dX5_splitByAcceptance_60 rfl ?_
      refine g_getI C fo_X5_32 dX5_splitByAcceptance_61 rfl (by decide) (fun _ => rfl) hc ?_
      refine g_putI C fo_X5_32 dX5_splitByAcceptance_64 rfl (by decide) rfl ?_
      refine n_iinc C (by rw [hmL]; decide) dX5_splitByAcceptance_67 rfl (n_i1 _) [.ref 29, .int (nI (i + 1)), .int (nI (0))] ?_
      refine g_goto C 7 dX5_splitByAcceptance_70 (by decide) ?_
      refine g_less [.ref 29, .int (nI (i + 1)), unk] (fun a w hw => ?_) (ih (i + 1) _ _ (by omega) (hG.keep (P := kM) rfl rfl rfl rfl) hK (hf.tr ((FN.wI (by decide)).tr (FN.wI (by decide)))) rfl (fun j hj => ?_) ?_ h33)
      · match a, hw with
        | 0, hw => exact Or.inr hw
        | 1, hw => exact Or.inr hw
        | 2, hw => exact Or.inl (Option.some.inj hw).symm
      · show va_up (mI S 35) i _ j = _
        by_cases e : j = i
        · rw [e, up_same]; unfold kd0; first | rw [if_pos e0] | rw [if_neg e0]
        · rw [va_up_ne _ _ e]; exact hz j (by omega)
      · have e1 : kd0 ac i = (if ac i = ac 0 then 0 else 1) := rfl
        first | rw [if_pos e0] at e1 | rw [if_neg e0] at e1
        rw [hcl, e1]
        revert hc2 hm
        generalize cls (kd0 ac) i = cc
        rintro ⟨h1, h2⟩ hm
        have h3 : cc = 0 ∨ cc = 1 ∨ cc = 2 := by omega
        rcases h3 with rfl | rfl | rfl <;> simp_all
    · refine g_ic_eq C 34 dX5_splitByAcceptance_27 (by decide) (fun h => absurd (bI_inj.mp h) e0) (fun _ => ?_)
      refine n_iconst C 1 dX5_splitByAcceptance_30 ?_
      refine g_goto C 35 dX5_splitByAcceptance_31 (by decide) ?_
      refine g_istore_n C (by rw [hmL]; decide) dX5_splitByAcceptance_35 [.ref 29, .int (nI (i)), .int (nI (1))] rfl ?_
      refine g_aload_n C dX5_splitByAcceptance_36 rfl ?_
      refine g_getR C fo_X5_35 dX5_splitByAcceptance_37 rfl (by decide) (fun _ => rfl) hK.1 ?_
      refine g_iload_n C dX5_splitByAcceptance_40 rfl ?_
      refine g_iload_n C dX5_splitByAcceptance_41 rfl ?_
      refine n_if_eq C 49 dX5_splitByAcceptance_42 (fun h42 => absurd h42 (by decide)) (fun h42 => ?_)
      refine n_iconst C 1 dX5_splitByAcceptance_45 ?_
      refine g_goto C 50 dX5_splitByAcceptance_46 (by decide) ?_
      refine g_iast C dX5_splitByAcceptance_50 rfl (by decide) (by omega) rfl ?_
      refine g_aload_n C dX5_splitByAcceptance_51 rfl ?_
      refine g_iload_n C dX5_splitByAcceptance_52 rfl ?_
      refine n_if_eq C 60 dX5_splitByAcceptance_53 (fun h53 => absurd h53 (by decide)) (fun h53 => ?_)
      refine n_iconst C 2 dX5_splitByAcceptance_56 ?_
      refine g_goto C 64 dX5_splitByAcceptance_57 (by decide) ?_
      refine g_putI C fo_X5_32 dX5_splitByAcceptance_64 rfl (by decide) rfl ?_
      refine n_iinc C (by rw [hmL]; decide) dX5_splitByAcceptance_67 rfl (n_i1 _) [.ref 29, .int (nI (i + 1)), .int (nI (1))] ?_
      refine g_goto C 7 dX5_splitByAcceptance_70 (by decide) ?_
      refine g_less [.ref 29, .int (nI (i + 1)), unk] (fun a w hw => ?_) (ih (i + 1) _ _ (by omega) (hG.keep (P := kM) rfl rfl rfl rfl) hK (hf.tr ((FN.wI (by decide)).tr (FN.wI (by decide)))) rfl (fun j hj => ?_) ?_ h33)
      · match a, hw with
        | 0, hw => exact Or.inr hw
        | 1, hw => exact Or.inr hw
        | 2, hw => exact Or.inl (Option.some.inj hw).symm
      · show va_up (mI S 35) i _ j = _
        by_cases e : j = i
        · rw [e, up_same]; unfold kd0; first | rw [if_pos e0] | rw [if_neg e0]
        · rw [va_up_ne _ _ e]; exact hz j (by omega)
      · have e1 : kd0 ac i = (if ac i = ac 0 then 0 else 1) := rfl
        first | rw [if_pos e0] at e1 | rw [if_neg e0] at e1
        rw [hcl, e1]
        revert hc2 hm
        generalize cls (kd0 ac) i = cc
        rintro ⟨h1, h2⟩ hm
        have h3 : cc = 0 ∨ cc = 1 ∨ cc = 2 := by omega
        rcases h3 with rfl | rfl | rfl <;> simp_all

set_option maxRecDepth 100000 in
theorem c_X5_splitByAcceptance_a (l : Launch) {S : pv_M} {k : Nat} {nx : Nat → Nat} {ac : Nat → Bool} (hG : Gr S k nx ac) (hK : KdAt S 35 36) : mt l MX5_splitByAcceptance 106 [.ref 29] S (fun v S' => v = none ∧ Gr S' k nx ac ∧ KdAt S' 35 36 ∧ FN kM S S' ∧ mI S' 29 7 = nI (if cls (kd0 ac) k = 2 then 2 else 1) ∧ (∀ j, j < k → mI S' 35 j = nI (kd0 ac j)) ∧ ∀ j, j < k → mI S' 33 j = mI S 33 j) := by
  refine mt_of (by decide) (Nat.le_of_ble_eq_true rfl) ?_
  intro x hl hR hmL C E
  show GG x 106 0 0 [.ref 29, unk, unk] [] S 0
  refine g_aload_n C dX5_splitByAcceptance_0 rfl ?_
  refine n_iconst C 1 dX5_splitByAcceptance_1 ?_
  refine g_putI C fo_X5_32 dX5_splitByAcceptance_2 rfl (by decide) rfl ?_
  refine n_iconst C 0 dX5_splitByAcceptance_5 ?_
  refine g_istore_n C (by rw [hmL]; decide) dX5_splitByAcceptance_6 [.ref 29, .int (nI (0)), unk] rfl ?_
  exact lp_X5_splitByAcceptance_a hR hmL C (S0 := S) (k := k) (nx := nx) (ac := ac) (fun S1 c g1 g2 g3 g4 g5 g6 g7 => g_vret C E dX5_splitByAcceptance_73 (by rw [hR]; decide) (by rw [hR]; decide) ⟨rfl, g1, g2, g3, by rw [g4, g6], g5, g7⟩) k 0 1 _ (by omega) (hG.keep (P := kM) rfl rfl rfl rfl) hK (FN.wI (by decide)) rfl (fun j hj => absurd hj (Nat.not_lt_zero j)) rfl (fun j hj => rfl)

set_option maxRecDepth 100000 in
theorem lp_X5_splitByAcceptance_b {x : Cx} (hR : xR x = MX5_splitByAcceptance.rm) (hmL : (xc x).maxLocals = MX5_splitByAcceptance.nL) (C : BX x cX5_splitByAcceptance RX5) {k : Nat} {nx : Nat → Nat} {ac : Nat → Bool} {S0 : pv_M} (kk : ∀ S c, Gr S k nx ac → KdAt S 36 35 → FN kM S0 S → mI S 29 7 = nI c → (∀ j, j < k → mI S 36 j = nI (kd0 ac j)) → (c = if cls (kd0 ac) k = 2 then 2 else 1) → (∀ j, j < k → mI S 33 j = mI S0 33 j) → GG x 106 0 0 [.ref 29, .int (nI (k)), unk] [] (S) 73) : ∀ z i c (S : pv_M), i + z = k → Gr S k nx ac → KdAt S 36 35 → FN kM S0 S → mI S 29 7 = nI c → (∀ j, j < i → mI S 36 j = nI (kd0 ac j)) → (c = if cls (kd0 ac) i = 2 then 2 else 1) → (∀ j, j < k → mI S 33 j = mI S0 33 j) → GG x 106 0 0 [.ref 29, .int (nI (i)), unk] [] (S) 7 := by
  intro z
  induction z with
  | zero =>
    intro i c S hi hG hK hf hc hz hm h33
    have hk4 := hG.2.2.2.1
    obtain rfl : i = k := by omega
    refine g_iload_n C dX5_splitByAcceptance_7 rfl ?_
    refine g_aload_n C dX5_splitByAcceptance_8 rfl ?_
    refine g_getI C fo_X5_9 dX5_splitByAcceptance_9 rfl (by decide) (fun _ => rfl) hG.2.1 ?_
    refine n_ic_ge C 73 dX5_splitByAcceptance_12 (fun h12 => ?_) (fun h12 => absurd h12 (by omega))
    exact kk S c hG hK hf hc hz hm h33
  | succ z ih =>
    intro i c S hi hG hK hf hc hz hm h33
    have hk4 := hG.2.2.2.1
    have hacc := hG.2.2.2.2.2
    have hcl : cls (kd0 ac) (i + 1) = (if kd0 ac i < cls (kd0 ac) i then cls (kd0 ac) i else kd0 ac i + 1) := rfl
    have hc2 := cls_kd0 ac i
    refine g_iload_n C dX5_splitByAcceptance_7 rfl ?_
    refine g_aload_n C dX5_splitByAcceptance_8 rfl ?_
    refine g_getI C fo_X5_9 dX5_splitByAcceptance_9 rfl (by decide) (fun _ => rfl) hG.2.1 ?_
    refine n_ic_ge C 73 dX5_splitByAcceptance_12 (fun h12 => absurd h12 (by omega)) (fun h12 => ?_)
    refine g_aload_n C dX5_splitByAcceptance_15 rfl ?_
    refine g_getR C fo_X5_28 dX5_splitByAcceptance_16 rfl (by decide) (fun _ => rfl) hG.1.2.2.2.2.2 ?_
    refine g_iload_n C dX5_splitByAcceptance_19 rfl ?_
    refine n_zald C dX5_splitByAcceptance_20 rfl (by decide) (hacc _ (by omega)) ?_ (by omega)
    refine g_aload_n C dX5_splitByAcceptance_21 rfl ?_
    refine g_getR C fo_X5_28 dX5_splitByAcceptance_22 rfl (by decide) (fun _ => rfl) hG.1.2.2.2.2.2 ?_
    refine n_iconst C 0 dX5_splitByAcceptance_25 ?_
    refine n_zald C dX5_splitByAcceptance_26 rfl (by decide) (hacc _ (by omega)) ?_ (by omega)
    by_cases e0 : ac i = ac 0
    · refine g_ic_eq C 34 dX5_splitByAcceptance_27 (by decide) (fun _ => ?_) (fun h => absurd (bI_inj.mpr e0) h)
      refine n_iconst C 0 dX5_splitByAcceptance_34 ?_
      refine g_istore_n C (by rw [hmL]; decide) dX5_splitByAcceptance_35 [.ref 29, .int (nI (i)), .int (nI (0))] rfl ?_
      refine g_aload_n C dX5_splitByAcceptance_36 rfl ?_
      refine g_getR C fo_X5_35 dX5_splitByAcceptance_37 rfl (by decide) (fun _ => rfl) hK.1 ?_
      refine g_iload_n C dX5_splitByAcceptance_40 rfl ?_
      refine g_iload_n C dX5_splitByAcceptance_41 rfl ?_
      refine n_if_eq C 49 dX5_splitByAcceptance_42 (fun h42 => ?_) (fun h42 => absurd rfl h42)
      refine n_iconst C 0 dX5_splitByAcceptance_49 ?_
      refine g_iast C dX5_splitByAcceptance_50 rfl (by decide) (by omega) rfl ?_
      refine g_aload_n C dX5_splitByAcceptance_51 rfl ?_
      refine g_iload_n C dX5_splitByAcceptance_52 rfl ?_
      refine n_if_eq C 60 dX5_splitByAcceptance_53 (fun h53 => ?_) (fun h53 => absurd rfl h53)
      refine g_aload_n C dX5_splitByAcceptance_60 rfl ?_
      refine g_getI C fo_X5_32 dX5_splitByAcceptance_61 rfl (by decide) (fun _ => rfl) hc ?_
      refine g_putI C fo_X5_32 dX5_splitByAcceptance_64 rfl (by decide) rfl ?_
      refine n_iinc C (by rw [hmL]; decide) dX5_splitByAcceptance_67 rfl (n_i1 _) [.ref 29, .int (nI (i + 1)), .int (nI (0))] ?_
      refine g_goto C 7 dX5_splitByAcceptance_70 (by decide) ?_
      refine g_less [.ref 29, .int (nI (i + 1)), unk] (fun a w hw => ?_) (ih (i + 1) _ _ (by omega) (hG.keep (P := kM) rfl rfl rfl rfl) hK (hf.tr ((FN.wI (by decide)).tr (FN.wI (by decide)))) rfl (fun j hj => ?_) ?_ h33)
      · match a, hw with
        | 0, hw => exact Or.inr hw
        | 1, hw => exact Or.inr hw
        | 2, hw => exact Or.inl (Option.some.inj hw).symm
      · show va_up (mI S 36) i _ j = _
        by_cases e : j = i
        · rw [e, up_same]; unfold kd0; first | rw [if_pos e0] | rw [if_neg e0]
        · rw [va_up_ne _ _ e]; exact hz j (by omega)
      · have e1 : kd0 ac i = (if ac i = ac 0 then 0 else 1) := rfl
        first | rw [if_pos e0] at e1 | rw [if_neg e0] at e1
        rw [hcl, e1]
        revert hc2 hm
        generalize cls (kd0 ac) i = cc
        rintro ⟨h1, h2⟩ hm
        have h3 : cc = 0 ∨ cc = 1 ∨ cc = 2 := by omega
        rcases h3 with rfl | rfl | rfl <;> simp_all
    · refine g_ic_eq C 34 dX5_splitByAcceptance_27 (by decide) (fun h => absurd (bI_inj.mp h) e0) (fun _ => ?_)
      refine n_iconst C 1 dX5_splitByAcceptance_30 ?_
      refine g_goto C 35 dX5_splitByAcceptance_31 (by decide) ?_
      refine g_istore_n C (by rw [hmL]; decide) dX5_splitByAcceptance_35 [.ref 29, .int (nI (i)), .int (nI (1))] rfl ?_
      refine g_aload_n C dX5_splitByAcceptance_36 rfl ?_
      refine g_getR C fo_X5_35 dX5_splitByAcceptance_37 rfl (by decide) (fun _ => rfl) hK.1 ?_
      refine g_iload_n C dX5_splitByAcceptance_40 rfl ?_
      refine g_iload_n C dX5_splitByAcceptance_41 rfl ?_
      refine n_if_eq C 49 dX5_splitByAcceptance_42 (fun h42 => absurd h42 (by decide)) (fun h42 => ?_)
      refine n_iconst C 1 dX5_splitByAcceptance_45 ?_
      refine g_goto C 50 dX5_splitByAcceptance_46 (by decide) ?_
      refine g_iast C dX5_splitByAcceptance_50 rfl (by decide) (by omega) rfl ?_
      refine g_aload_n C dX5_splitByAcceptance_51 rfl ?_
      refine g_iload_n C dX5_splitByAcceptance_52 rfl ?_
      refine n_if_eq C 60 dX5_splitByAcceptance_53 (fun h53 => absurd h53 (by decide)) (fun h53 => ?_)
      refine n_iconst C 2 dX5_splitByAcceptance_56 ?_
      refine g_goto C 64 dX5_splitByAcceptance_57 (by decide) ?_
      refine g_putI C fo_X5_32 dX5_splitByAcceptance_64 rfl (by decide) rfl ?_
      refine n_iinc C (by rw [hmL]; decide) dX5_splitByAcceptance_67 rfl (n_i1 _) [.ref 29, .int (nI (i + 1)), .int (nI (1))] ?_
      refine g_goto C 7 dX5_splitByAcceptance_70 (by decide) ?_
      refine g_less [.ref 29, .int (nI (i + 1)), unk] (fun a w hw => ?_) (ih (i + 1) _ _ (by omega) (hG.keep (P := kM) rfl rfl rfl rfl) hK (hf.tr ((FN.wI (by decide)).tr (FN.wI (by decide)))) rfl (fun j hj => ?_) ?_ h33)
      · match a, hw with
        | 0, hw => exact Or.inr hw
        | 1, hw => exact Or.inr hw
        | 2, hw => exact Or.inl (Option.some.inj hw).symm
      · show va_up (mI S 36) i _ j = _
        by_cases e : j = i
        · rw [e, up_same]; unfold kd0; first | rw [if_pos e0] | rw [if_neg e0]
        · rw [va_up_ne _ _ e]; exact hz j (by omega)
      · have e1 : kd0 ac i = (if ac i = ac 0 then 0 else 1) := rfl
        first | rw [if_pos e0] at e1 | rw [if_neg e0] at e1
        rw [hcl, e1]
        revert hc2 hm
        generalize cls (kd0 ac) i = cc
        rintro ⟨h1, h2⟩ hm
        have h3 : cc = 0 ∨ cc = 1 ∨ cc = 2 := by omega
        rcases h3 with rfl | rfl | rfl <;> simp_all

set_option maxRecDepth 100000 in
theorem c_X5_splitByAcceptance_b (l : Launch) {S : pv_M} {k : Nat} {nx : Nat → Nat} {ac : Nat → Bool} (hG : Gr S k nx ac) (hK : KdAt S 36 35) : mt l MX5_splitByAcceptance 106 [.ref 29] S (fun v S' => v = none ∧ Gr S' k nx ac ∧ KdAt S' 36 35 ∧ FN kM S S' ∧ mI S' 29 7 = nI (if cls (kd0 ac) k = 2 then 2 else 1) ∧ (∀ j, j < k → mI S' 36 j = nI (kd0 ac j)) ∧ ∀ j, j < k → mI S' 33 j = mI S 33 j) := by
  refine mt_of (by decide) (Nat.le_of_ble_eq_true rfl) ?_
  intro x hl hR hmL C E
  show GG x 106 0 0 [.ref 29, unk, unk] [] S 0
  refine g_aload_n C dX5_splitByAcceptance_0 rfl ?_
  refine n_iconst C 1 dX5_splitByAcceptance_1 ?_
  refine g_putI C fo_X5_32 dX5_splitByAcceptance_2 rfl (by decide) rfl ?_
  refine n_iconst C 0 dX5_splitByAcceptance_5 ?_
  refine g_istore_n C (by rw [hmL]; decide) dX5_splitByAcceptance_6 [.ref 29, .int (nI (0)), unk] rfl ?_
  exact lp_X5_splitByAcceptance_b hR hmL C (S0 := S) (k := k) (nx := nx) (ac := ac) (fun S1 c g1 g2 g3 g4 g5 g6 g7 => g_vret C E dX5_splitByAcceptance_73 (by rw [hR]; decide) (by rw [hR]; decide) ⟨rfl, g1, g2, g3, by rw [g4, g6], g5, g7⟩) k 0 1 _ (by omega) (hG.keep (P := kM) rfl rfl rfl rfl) hK (FN.wI (by decide)) rfl (fun j hj => absurd hj (Nat.not_lt_zero j)) rfl (fun j hj => rfl)
