section LR
variable {x : Cx} {cc : ByteArray} {own : String} {N cs sl : Nat} {lv st : List Value} {S : pv_M} {pc : Nat}
theorem n_i2l (C : BX x cc own) {a : Nat} (d : decode cc pc = .ok (.i2l, 1)) (k : GG x N cs sl lv (.long (lN a) :: st) S (pc + 1)) (h : a < 2 ^ 31 := by omega) : GG x N cs sl lv (.int (nI a) :: st) S pc := g_i2l C d (by rw [nI_l h]; exact k)
theorem n_ladd (C : BX x cc own) {a b : Nat} (d : decode cc pc = .ok (.ladd, 1)) (k : GG x N cs sl lv (.long (lN (a + b)) :: st) S (pc + 1)) : GG x N cs sl lv (.long (lN b) :: .long (lN a) :: st) S pc := g_ladd C d (by rw [lN_add]; exact k)
theorem n_lmul (C : BX x cc own) {a b : Nat} (d : decode cc pc = .ok (.lmul, 1)) (k : GG x N cs sl lv (.long (lN (a * b)) :: st) S (pc + 1)) : GG x N cs sl lv (.long (lN b) :: .long (lN a) :: st) S pc := g_lmul C d (by rw [lN_mul]; exact k)
end LR
theorem KT.ext {S : pv_M} {c e : Nat} {K K' : Nat → Int64} (h : KT S c e K) (q : ∀ i, i < c → K i = K' i) : KT S c e K' := by
  obtain ⟨h1, h2, h3, h4, h5, h6, E, h7, h8, h9, h10⟩ := h
  refine ⟨h1, h2, h3, h4, fun i hi => by rw [← q i hi]; exact h5 i hi, fun i j hi hj he => h6 i j hi hj (by rw [q i hi, q j hj]; exact he), E, h7, h8, h9, fun i hi => ?_⟩
  rw [← q i hi]
  exact h10 i hi
theorem KT.keep {S S' : pv_M} {c e : Nat} {K : Nat → Int64} (h : KT S c e K) (q1 : mR S' 26 = mR S 26) (q2 : mI S' 26 = mI S 26) (q3 : mI S' 28 = mI S 28) (q4 : mJ S' 27 = mJ S 27) : KT S' c e K := by
  unfold KT at h ⊢
  rw [q1, q2, q3, q4]
  exact h
def kpre (kd nx : Nat → Nat) (i : Nat) : Nat → Nat
  | 0 => kd i
  | q + 1 => kpre kd nx i q * 384 + kd (nx (i * 3 + q))
/-- the keys of the first i states are in the table -/
abbrev kK (v : Nat → Nat) (i : Nat) : Nat → Int64 := fun j => lN ((foL v i).getD j 0)

set_option maxRecDepth 100000 in
theorem lp_X5_splitByTargets_32a {x : Cx} (hR : xR x = MX5_splitByTargets.rm) (hmL : (xc x).maxLocals = MX5_splitByTargets.nL) (C : BX x cX5_splitByTargets RX5) {S : pv_M} {k i : Nat} {nx kd : Nat → Nat} {ac : Nat → Bool} (hG : Gr S k nx ac) (hK : KdAt S 35 36) (hkd : ∀ j, j < k → mI S 35 j = nI (kd j)) (h384 : ∀ j, j < k → kd j < 384) (hi : i < k) (kk : GG x 106 0 0 [.ref 29, .int (nI (i)), .long (lN (kpre kd nx i 3)), unk, .int (nI (3))] [] (S) 68) : ∀ z q, q + z = 3 → GG x 106 0 0 [.ref 29, .int (nI (i)), .long (lN (kpre kd nx i q)), unk, .int (nI (q))] [] (S) 32 := by
  have hk4 := hG.2.2.2.1
  intro z
  induction z with
  | zero =>
    intro q hq
    obtain rfl : q = 3 := by omega
    refine g_iload C dX5_splitByTargets_32 rfl ?_
    refine n_iconst C 3 dX5_splitByTargets_34 ?_
    refine n_ic_ge C 68 dX5_splitByTargets_35 (fun h35 => ?_) (fun h35 => absurd h35 (by omega))
    exact kk
  | succ z ih =>
    intro q hq
    have hnx := (hG.2.2.2.2.1 (i * 3 + q) (by omega)).2
    have hkx := h384 _ hnx
    refine g_iload C dX5_splitByTargets_32 rfl ?_
    refine n_iconst C 3 dX5_splitByTargets_34 ?_
    refine n_ic_ge C 68 dX5_splitByTargets_35 (fun h35 => absurd h35 (by omega)) (fun h35 => ?_)
    refine g_lload_n C dX5_splitByTargets_38 rfl ?_
    refine g_ldc2 C dX5_splitByTargets_39 kc_X5_82 ?_
    refine n_lmul (b := 384) C dX5_splitByTargets_42 ?_
    refine g_aload_n C dX5_splitByTargets_43 rfl ?_
    refine g_getR C fo_X5_35 dX5_splitByTargets_44 rfl (by decide) (fun _ => rfl) hK.1 ?_
    refine g_aload_n C dX5_splitByTargets_47 rfl ?_
    refine g_getR C fo_X5_22 dX5_splitByTargets_48 rfl (by decide) (fun _ => rfl) hG.1.2.2.2.1 ?_
    refine g_iload_n C dX5_splitByTargets_51 rfl ?_
    refine n_iconst C 3 dX5_splitByTargets_52 ?_
    refine n_imul C dX5_splitByTargets_53 ?_
    refine g_iload C dX5_splitByTargets_54 rfl ?_
    refine n_iadd C dX5_splitByTargets_56 ?_
    refine n_iald C dX5_splitByTargets_57 rfl (by decide) (hG.2.2.2.2.1 _ (by omega)).1 ?_ (by omega)
    refine n_iald C dX5_splitByTargets_58 rfl (by decide) (hkd _ (by omega)) ?_ (by omega)
    refine n_i2l C dX5_splitByTargets_59 ?_
    refine n_ladd C dX5_splitByTargets_60 ?_
    refine g_lstore_n C (by rw [hmL]; decide) dX5_splitByTargets_61 [.ref 29, .int (nI (i)), .long (lN (kpre kd nx i (q + 1))), unk, .int (nI (q))] rfl ?_
    refine n_iinc C (by rw [hmL]; decide) dX5_splitByTargets_62 rfl (n_i1 _) [.ref 29, .int (nI (i)), .long (lN (kpre kd nx i (q + 1))), unk, .int (nI (q + 1))] ?_
    refine g_goto C 32 dX5_splitByTargets_65 (by decide) ?_
    exact ih (q + 1) (by omega)

set_option maxRecDepth 100000 in
theorem lp_X5_splitByTargets_13a {x : Cx} (hR : xR x = MX5_splitByTargets.rm) (hmL : (xc x).maxLocals = MX5_splitByTargets.nL) (C : BX x cX5_splitByTargets RX5) {k e : Nat} {nx kd : Nat → Nat} {ac : Nat → Bool} {S0 : pv_M} (h384 : ∀ j, j < k → kd j < 384) (he : k < 2 ^ e) (kk : ∀ S, Gr S k nx ac → KdAt S 35 36 → (∀ j, j < k → mI S 35 j = nI (kd j)) → FN kM S0 S → mI S 29 7 = mI S0 29 7 → KT S (foL (kval kd nx) k).length e (kK (kval kd nx) k) → (∀ j, j < k → mI S 36 j = nI ((foL (kval kd nx) k).idxOf ((kval kd nx) j))) → (∀ j, j < k → mI S 33 j = mI S0 33 j) → GG x 106 0 0 [.ref 29, .int (nI (k)), unk, unk, unk] [] (S) 88) : ∀ z i (S : pv_M), i + z = k → Gr S k nx ac → KdAt S 35 36 → (∀ j, j < k → mI S 35 j = nI (kd j)) → FN kM S0 S → mI S 29 7 = mI S0 29 7 → KT S (foL (kval kd nx) i).length e (kK (kval kd nx) i) → (∀ j, j < i → mI S 36 j = nI ((foL (kval kd nx) i).idxOf ((kval kd nx) j))) → (∀ j, j < k → mI S 33 j = mI S0 33 j) → GG x 106 0 0 [.ref 29, .int (nI (i)), unk, unk, unk] [] (S) 13 := by
  intro z
  induction z with
  | zero =>
    intro i S hi hG hK hkd hf h7 hT hz h33
    have hk4 := hG.2.2.2.1
    obtain rfl : i = k := by omega
    refine g_iload_n C dX5_splitByTargets_13 rfl ?_
    refine g_aload_n C dX5_splitByTargets_14 rfl ?_
    refine g_getI C fo_X5_9 dX5_splitByTargets_15 rfl (by decide) (fun _ => rfl) hG.2.1 ?_
    refine n_ic_ge C 88 dX5_splitByTargets_18 (fun h18 => ?_) (fun h18 => absurd h18 (by omega))
    exact kk S hG hK hkd hf h7 hT hz h33
  | succ z ih =>
    intro i S hi hG hK hkd hf h7 hT hz h33
    have hk4 := hG.2.2.2.1
    have hik : i < k := by omega
    have hkx := h384 i hik
    have hlen := foL_len (kval kd nx) i
    have hvlt := kval_lt hik h384 (fun p hp => (hG.2.2.2.2.1 p hp).2)
    refine g_iload_n C dX5_splitByTargets_13 rfl ?_
    refine g_aload_n C dX5_splitByTargets_14 rfl ?_
    refine g_getI C fo_X5_9 dX5_splitByTargets_15 rfl (by decide) (fun _ => rfl) hG.2.1 ?_
    refine n_ic_ge C 88 dX5_splitByTargets_18 (fun h18 => absurd h18 (by omega)) (fun h18 => ?_)
    refine g_aload_n C dX5_splitByTargets_21 rfl ?_
    refine g_getR C fo_X5_35 dX5_splitByTargets_22 rfl (by decide) (fun _ => rfl) hK.1 ?_
    refine g_iload_n C dX5_splitByTargets_25 rfl ?_
    refine n_iald C dX5_splitByTargets_26 rfl (by decide) (hkd _ (by omega)) ?_ (by omega)
    refine n_i2l C dX5_splitByTargets_27 ?_
    refine g_lstore_n C (by rw [hmL]; decide) dX5_splitByTargets_28 [.ref 29, .int (nI (i)), .long (lN (kd (i))), unk, unk] rfl ?_
    refine n_iconst C 0 dX5_splitByTargets_29 ?_
    refine g_istore C (by rw [hmL]; decide) dX5_splitByTargets_30 [.ref 29, .int (nI (i)), .long (lN (kd (i))), unk, .int (nI (0))] rfl ?_
    refine lp_X5_splitByTargets_32a hR hmL C hG hK hkd h384 hik ?_ 3 0 rfl
    refine g_aload_n C dX5_splitByTargets_68 rfl ?_
    refine g_getR C fo_X5_38 dX5_splitByTargets_69 rfl (by decide) (fun _ => rfl) hK.2 ?_
    refine g_iload_n C dX5_splitByTargets_72 rfl ?_
    refine g_aload_n C dX5_splitByTargets_73 rfl ?_
    refine g_getR C fo_X5_41 dX5_splitByTargets_74 rfl (by decide) (fun _ => rfl) hG.1.1 ?_
    refine g_lload_n C dX5_splitByTargets_77 rfl ?_
    refine g_callV C (As := [.long (lN (kpre kd nx i 3))]) (c_X3_place _ hT (by omega) (by omega)) vo_X5_84 dX5_splitByTargets_78 rfl rfl (by decide) rfl (rm_ok (M' := MX5_splitByTargets) hR (by decide)) (Nat.le_of_ble_eq_true rfl) (fun v9 S9 h9 => ?_)
    have hkp : kpre kd nx i 3 = (kval kd nx) i := rfl
    rw [hkp] at h9
    rcases h9 with ⟨j, j1, j2, rfl, h9⟩ | ⟨j1, rfl, j2, j3⟩
    · have hm : (foL (kval kd nx) i).getD j 0 ∈ foL (kval kd nx) i := getD_mem j1
      have hjv : (foL (kval kd nx) i).getD j 0 = (kval kd nx) i := by
        have h8 := foL_of hm
        obtain ⟨i2, i3, i4⟩ := h8
        have i5 := kval_lt (show i2 < k by omega) h384 (fun p hp => (hG.2.2.2.2.1 p hp).2)
        exact (pk_lEQ (by rw [i4]; omega) (by omega)).mp j2
      have hin : (kval kd nx) i ∈ foL (kval kd nx) i := by rw [← hjv]; exact hm
      have hjx : (foL (kval kd nx) i).idxOf ((kval kd nx) i) = j := by rw [← hjv]; exact idx_getD (foL_nodup _ i) j1
      have hL1 : foL (kval kd nx) (i + 1) = foL (kval kd nx) i := addc_in hin
      refine g_S S h9 ?_
      refine g_n0 [.int (nI j), .int (nI i), .ref 36] rfl rfl rfl ?_
      refine g_iast C dX5_splitByTargets_81 rfl (by decide) (by omega) rfl ?_
      refine n_iinc C (by rw [hmL]; decide) dX5_splitByTargets_82 rfl (n_i1 _) [.ref 29, .int (nI (i + 1)), .long (lN (kpre kd nx i 3)), unk, .int (nI 3)] ?_
      refine g_goto C 13 dX5_splitByTargets_85 (by decide) ?_
      refine g_less [.ref 29, .int (nI (i + 1)), unk, unk, unk] (fun a w hw => ?_) (ih (i + 1) _ (by omega) (hG.keep (P := kM) rfl rfl rfl rfl) hK hkd (hf.tr (FN.wI (by decide))) h7 (by rw [show kK (kval kd nx) (i + 1) = kK (kval kd nx) i from funext fun j => by show lN _ = lN _; rw [hL1], hL1]; exact hT.keep rfl rfl rfl rfl) (fun j' hj' => ?_) h33)
      · match a, hw with
        | 0, hw => exact Or.inr hw
        | 1, hw => exact Or.inr hw
        | 2, hw => exact Or.inl (Option.some.inj hw).symm
        | 3, hw => exact Or.inr hw
        | 4, hw => exact Or.inl (Option.some.inj hw).symm
      · show va_up (mI S 36) i (nI j) j' = _
        rw [hL1]
        by_cases e9 : j' = i
        · rw [e9, up_same, hjx]
        · rw [va_up_ne _ _ e9]; exact hz j' (by omega)
    · have hout : (kval kd nx) i ∉ foL (kval kd nx) i := fun hin => by
        have h8 := idx_lt hin
        exact j1 _ h8 (by show lN _ = _; rw [getD_idx hin])
      have hL1 : foL (kval kd nx) (i + 1) = foL (kval kd nx) i ++ [(kval kd nx) i] := addc_out hout
      refine g_n0 [.int (nI (foL (kval kd nx) i).length), .int (nI i), .ref 36] rfl rfl rfl ?_
      refine g_iast C dX5_splitByTargets_81 rfl (by decide) (by omega) rfl ?_
      refine n_iinc C (by rw [hmL]; decide) dX5_splitByTargets_82 rfl (n_i1 _) [.ref 29, .int (nI (i + 1)), .long (lN (kpre kd nx i 3)), unk, .int (nI 3)] ?_
      refine g_goto C 13 dX5_splitByTargets_85 (by decide) ?_
      have q29 : mI S9 29 = mI S 29 := (j3.2 29 (by decide)).1
      have q32 : mI S9 32 = mI S 32 := (j3.2 32 (by decide)).1
      have q34 : mI S9 34 = mI S 34 := (j3.2 34 (by decide)).1
      have q33 : mI S9 33 = mI S 33 := (j3.2 33 (by decide)).1
      have qu : mI S9 35 = mI S 35 := (j3.2 35 (by decide)).1
      have qw : mI S9 36 = mI S 36 := (j3.2 36 (by decide)).1
      refine g_less [.ref 29, .int (nI (i + 1)), unk, unk, unk] (fun a w hw => ?_) (ih (i + 1) _ (by omega) (hG.keep (P := kM) (by show mR S9 29 = _; rw [j3.1]) (by show mI S9 29 1 = _; rw [q29]) q32 q34) ⟨by show mR S9 29 8 = _; rw [j3.1]; exact hK.1, by show mR S9 29 9 = _; rw [j3.1]; exact hK.2⟩ (fun j hj => by show mI S9 35 j = _; rw [qu]; exact hkd j hj) (hf.tr ((j3.mono (fun r hr => by rcases hr with rfl | rfl | rfl <;> decide)).tr (FN.wI (by decide)))) (by show mI S9 29 7 = _; rw [q29]; exact h7) ?_ (fun j' hj' => ?_) (fun j hj => by show mI S9 33 j = _; rw [q33]; exact h33 j hj))
      · match a, hw with
        | 0, hw => exact Or.inr hw
        | 1, hw => exact Or.inr hw
        | 2, hw => exact Or.inl (Option.some.inj hw).symm
        | 3, hw => exact Or.inr hw
        | 4, hw => exact Or.inl (Option.some.inj hw).symm
      · rw [hL1, List.length_append]
        refine (j2.ext (fun a ha => ?_)).keep rfl rfl rfl rfl
        by_cases e9 : a = (foL (kval kd nx) i).length
        · rw [e9, up_same]
          show _ = lN _
          rw [hL1, List.getD_eq_getElem?_getD, List.getElem?_append_right (Nat.le_refl _)]
          simp
        · rw [va_up_ne _ _ e9]
          show lN _ = lN _
          rw [hL1, List.getD_eq_getElem?_getD, List.getD_eq_getElem?_getD, List.getElem?_append_left (show a < (foL (kval kd nx) i).length by omega)]
      · show va_up (mI S9 36) i (nI (foL (kval kd nx) i).length) j' = _
        rw [qw]
        by_cases e9 : j' = i
        · rw [e9, up_same, show foL (kval kd nx) (i + 1) = addc (foL (kval kd nx) i) ((kval kd nx) i) from rfl, addc_idx_new hout]
        · rw [va_up_ne _ _ e9, show foL (kval kd nx) (i + 1) = addc (foL (kval kd nx) i) ((kval kd nx) i) from rfl, addc_idx (foL_mem (by omega))]
          exact hz j' (by omega)

set_option maxRecDepth 100000 in
theorem lp_X5_splitByTargets_32b {x : Cx} (hR : xR x = MX5_splitByTargets.rm) (hmL : (xc x).maxLocals = MX5_splitByTargets.nL) (C : BX x cX5_splitByTargets RX5) {S : pv_M} {k i : Nat} {nx kd : Nat → Nat} {ac : Nat → Bool} (hG : Gr S k nx ac) (hK : KdAt S 36 35) (hkd : ∀ j, j < k → mI S 36 j = nI (kd j)) (h384 : ∀ j, j < k → kd j < 384) (hi : i < k) (kk : GG x 106 0 0 [.ref 29, .int (nI (i)), .long (lN (kpre kd nx i 3)), unk, .int (nI (3))] [] (S) 68) : ∀ z q, q + z = 3 → GG x 106 0 0 [.ref 29, .int (nI (i)), .long (lN (kpre kd nx i q)), unk, .int (nI (q))] [] (S) 32 := by
  have hk4 := hG.2.2.2.1
  intro z
  induction z with
  | zero =>
    intro q hq
    obtain rfl : q = 3 := by omega
    refine g_iload C dX5_splitByTargets_32 rfl ?_
    refine n_iconst C 3 dX5_splitByTargets_34 ?_
    refine n_ic_ge C 68 dX5_splitByTargets_35 (fun h35 => ?_) (fun h35 => absurd h35 (by omega))
    exact kk
  | succ z ih =>
    intro q hq
    have hnx := (hG.2.2.2.2.1 (i * 3 + q) (by omega)).2
    have hkx := h384 _ hnx
    refine g_iload C dX5_splitByTargets_32 rfl ?_
    refine n_iconst C 3 dX5_splitByTargets_34 ?_
    refine n_ic_ge C 68 dX5_splitByTargets_35 (fun h35 => absurd h35 (by omega)) (fun h35 => ?_)
    refine g_lload_n C dX5_splitByTargets_38 rfl ?_
    refine g_ldc2 C dX5_splitByTargets_39 kc_X5_82 ?_
    refine n_lmul (b := 384) C dX5_splitByTargets_42 ?_
    refine g_aload_n C dX5_splitByTargets_43 rfl ?_
    refine g_getR C fo_X5_35 dX5_splitByTargets_44 rfl (by decide) (fun _ => rfl) hK.1 ?_
    refine g_aload_n C dX5_splitByTargets_47 rfl ?_
    refine g_getR C fo_X5_22 dX5_splitByTargets_48 rfl (by decide) (fun _ => rfl) hG.1.2.2.2.1 ?_
    refine g_iload_n C dX5_splitByTargets_51 rfl ?_
    refine n_iconst C 3 dX5_splitByTargets_52 ?_
    refine n_imul C dX5_splitByTargets_53 ?_
    refine g_iload C dX5_splitByTargets_54 rfl ?_
    refine n_iadd C dX5_splitByTargets_56 ?_
    refine n_iald C dX5_splitByTargets_57 rfl (by decide) (hG.2.2.2.2.1 _ (by omega)).1 ?_ (by omega)
    refine n_iald C dX5_splitByTargets_58 rfl (by decide) (hkd _ (by omega)) ?_ (by omega)
    refine n_i2l C dX5_splitByTargets_59 ?_
    refine n_ladd C dX5_splitByTargets_60 ?_
    refine g_lstore_n C (by rw [hmL]; decide) dX5_splitByTargets_61 [.ref 29, .int (nI (i)), .long (lN (kpre kd nx i (q + 1))), unk, .int (nI (q))] rfl ?_
    refine n_iinc C (by rw [hmL]; decide) dX5_splitByTargets_62 rfl (n_i1 _) [.ref 29, .int (nI (i)), .long (lN (kpre kd nx i (q + 1))), unk, .int (nI (q + 1))] ?_
    refine g_goto C 32 dX5_splitByTargets_65 (by decide) ?_
    exact ih (q + 1) (by omega)

set_option maxRecDepth 100000 in
theorem lp_X5_splitByTargets_13b {x : Cx} (hR : xR x = MX5_splitByTargets.rm) (hmL : (xc x).maxLocals = MX5_splitByTargets.nL) (C : BX x cX5_splitByTargets RX5) {k e : Nat} {nx kd : Nat → Nat} {ac : Nat → Bool} {S0 : pv_M} (h384 : ∀ j, j < k → kd j < 384) (he : k < 2 ^ e) (kk : ∀ S, Gr S k nx ac → KdAt S 36 35 → (∀ j, j < k → mI S 36 j = nI (kd j)) → FN kM S0 S → mI S 29 7 = mI S0 29 7 → KT S (foL (kval kd nx) k).length e (kK (kval kd nx) k) → (∀ j, j < k → mI S 35 j = nI ((foL (kval kd nx) k).idxOf ((kval kd nx) j))) → (∀ j, j < k → mI S 33 j = mI S0 33 j) → GG x 106 0 0 [.ref 29, .int (nI (k)), unk, unk, unk] [] (S) 88) : ∀ z i (S : pv_M), i + z = k → Gr S k nx ac → KdAt S 36 35 → (∀ j, j < k → mI S 36 j = nI (kd j)) → FN kM S0 S → mI S 29 7 = mI S0 29 7 → KT S (foL (kval kd nx) i).length e (kK (kval kd nx) i) → (∀ j, j < i → mI S 35 j = nI ((foL (kval kd nx) i).idxOf ((kval kd nx) j))) → (∀ j, j < k → mI S 33 j = mI S0 33 j) → GG x 106 0 0 [.ref 29, .int (nI (i)), unk, unk, unk] [] (S) 13 := by
  intro z
  induction z with
  | zero =>
    intro i S hi hG hK hkd hf h7 hT hz h33
    have hk4 := hG.2.2.2.1
    obtain rfl : i = k := by omega
    refine g_iload_n C dX5_splitByTargets_13 rfl ?_
    refine g_aload_n C dX5_splitByTargets_14 rfl ?_
    refine g_getI C fo_X5_9 dX5_splitByTargets_15 rfl (by decide) (fun _ => rfl) hG.2.1 ?_
    refine n_ic_ge C 88 dX5_splitByTargets_18 (fun h18 => ?_) (fun h18 => absurd h18 (by omega))
    exact kk S hG hK hkd hf h7 hT hz h33
  | succ z ih =>
    intro i S hi hG hK hkd hf h7 hT hz h33
    have hk4 := hG.2.2.2.1
    have hik : i < k := by omega
    have hkx := h384 i hik
    have hlen := foL_len (kval kd nx) i
    have hvlt := kval_lt hik h384 (fun p hp => (hG.2.2.2.2.1 p hp).2)
    refine g_iload_n C dX5_splitByTargets_13 rfl ?_
    refine g_aload_n C dX5_splitByTargets_14 rfl ?_
    refine g_getI C fo_X5_9 dX5_splitByTargets_15 rfl (by decide) (fun _ => rfl) hG.2.1 ?_
    refine n_ic_ge C 88 dX5_splitByTargets_18 (fun h18 => absurd h18 (by omega)) (fun h18 => ?_)
    refine g_aload_n C dX5_splitByTargets_21 rfl ?_
    refine g_getR C fo_X5_35 dX5_splitByTargets_22 rfl (by decide) (fun _ => rfl) hK.1 ?_
    refine g_iload_n C dX5_splitByTargets_25 rfl ?_
    refine n_iald C dX5_splitByTargets_26 rfl (by decide) (hkd _ (by omega)) ?_ (by omega)
    refine n_i2l C dX5_splitByTargets_27 ?_
    refine g_lstore_n C (by rw [hmL]; decide) dX5_splitByTargets_28 [.ref 29, .int (nI (i)), .long (lN (kd (i))), unk, unk] rfl ?_
    refine n_iconst C 0 dX5_splitByTargets_29 ?_
    refine g_istore C (by rw [hmL]; decide) dX5_splitByTargets_30 [.ref 29, .int (nI (i)), .long (lN (kd (i))), unk, .int (nI (0))] rfl ?_
    refine lp_X5_splitByTargets_32b hR hmL C hG hK hkd h384 hik ?_ 3 0 rfl
    refine g_aload_n C dX5_splitByTargets_68 rfl ?_
    refine g_getR C fo_X5_38 dX5_splitByTargets_69 rfl (by decide) (fun _ => rfl) hK.2 ?_
    refine g_iload_n C dX5_splitByTargets_72 rfl ?_
    refine g_aload_n C dX5_splitByTargets_73 rfl ?_
    refine g_getR C fo_X5_41 dX5_splitByTargets_74 rfl (by decide) (fun _ => rfl) hG.1.1 ?_
    refine g_lload_n C dX5_splitByTargets_77 rfl ?_
    refine g_callV C (As := [.long (lN (kpre kd nx i 3))]) (c_X3_place _ hT (by omega) (by omega)) vo_X5_84 dX5_splitByTargets_78 rfl rfl (by decide) rfl (rm_ok (M' := MX5_splitByTargets) hR (by decide)) (Nat.le_of_ble_eq_true rfl) (fun v9 S9 h9 => ?_)
    have hkp : kpre kd nx i 3 = (kval kd nx) i := rfl
    rw [hkp] at h9
    rcases h9 with ⟨j, j1, j2, rfl, h9⟩ | ⟨j1, rfl, j2, j3⟩
    · have hm : (foL (kval kd nx) i).getD j 0 ∈ foL (kval kd nx) i := getD_mem j1
      have hjv : (foL (kval kd nx) i).getD j 0 = (kval kd nx) i := by
        have h8 := foL_of hm
        obtain ⟨i2, i3, i4⟩ := h8
        have i5 := kval_lt (show i2 < k by omega) h384 (fun p hp => (hG.2.2.2.2.1 p hp).2)
        exact (pk_lEQ (by rw [i4]; omega) (by omega)).mp j2
      have hin : (kval kd nx) i ∈ foL (kval kd nx) i := by rw [← hjv]; exact hm
      have hjx : (foL (kval kd nx) i).idxOf ((kval kd nx) i) = j := by rw [← hjv]; exact idx_getD (foL_nodup _ i) j1
      have hL1 : foL (kval kd nx) (i + 1) = foL (kval kd nx) i := addc_in hin
      refine g_S S h9 ?_
      refine g_n0 [.int (nI j), .int (nI i), .ref 35] rfl rfl rfl ?_
      refine g_iast C dX5_splitByTargets_81 rfl (by decide) (by omega) rfl ?_
      refine n_iinc C (by rw [hmL]; decide) dX5_splitByTargets_82 rfl (n_i1 _) [.ref 29, .int (nI (i + 1)), .long (lN (kpre kd nx i 3)), unk, .int (nI 3)] ?_
      refine g_goto C 13 dX5_splitByTargets_85 (by decide) ?_
      refine g_less [.ref 29, .int (nI (i + 1)), unk, unk, unk] (fun a w hw => ?_) (ih (i + 1) _ (by omega) (hG.keep (P := kM) rfl rfl rfl rfl) hK hkd (hf.tr (FN.wI (by decide))) h7 (by rw [show kK (kval kd nx) (i + 1) = kK (kval kd nx) i from funext fun j => by show lN _ = lN _; rw [hL1], hL1]; exact hT.keep rfl rfl rfl rfl) (fun j' hj' => ?_) h33)
      · match a, hw with
        | 0, hw => exact Or.inr hw
        | 1, hw => exact Or.inr hw
        | 2, hw => exact Or.inl (Option.some.inj hw).symm
        | 3, hw => exact Or.inr hw
        | 4, hw => exact Or.inl (Option.some.inj hw).symm
      · show va_up (mI S 35) i (nI j) j' = _
        rw [hL1]
        by_cases e9 : j' = i
        · rw [e9, up_same, hjx]
        · rw [va_up_ne _ _ e9]; exact hz j' (by omega)
    · have hout : (kval kd nx) i ∉ foL (kval kd nx) i := fun hin => by
        have h8 := idx_lt hin
        exact j1 _ h8 (by show lN _ = _; rw [getD_idx hin])
      have hL1 : foL (kval kd nx) (i + 1) = foL (kval kd nx) i ++ [(kval kd nx) i] := addc_out hout
      refine g_n0 [.int (nI (foL (kval kd nx) i).length), .int (nI i), .ref 35] rfl rfl rfl ?_
      refine g_iast C dX5_splitByTargets_81 rfl (by decide) (by omega) rfl ?_
      refine n_iinc C (by rw [hmL]; decide) dX5_splitByTargets_82 rfl (n_i1 _) [.ref 29, .int (nI (i + 1)), .long (lN (kpre kd nx i 3)), unk, .int (nI 3)] ?_
      refine g_goto C 13 dX5_splitByTargets_85 (by decide) ?_
      have q29 : mI S9 29 = mI S 29 := (j3.2 29 (by decide)).1
      have q32 : mI S9 32 = mI S 32 := (j3.2 32 (by decide)).1
      have q34 : mI S9 34 = mI S 34 := (j3.2 34 (by decide)).1
      have q33 : mI S9 33 = mI S 33 := (j3.2 33 (by decide)).1
      have qu : mI S9 36 = mI S 36 := (j3.2 36 (by decide)).1
      have qw : mI S9 35 = mI S 35 := (j3.2 35 (by decide)).1
      refine g_less [.ref 29, .int (nI (i + 1)), unk, unk, unk] (fun a w hw => ?_) (ih (i + 1) _ (by omega) (hG.keep (P := kM) (by show mR S9 29 = _; rw [j3.1]) (by show mI S9 29 1 = _; rw [q29]) q32 q34) ⟨by show mR S9 29 8 = _; rw [j3.1]; exact hK.1, by show mR S9 29 9 = _; rw [j3.1]; exact hK.2⟩ (fun j hj => by show mI S9 36 j = _; rw [qu]; exact hkd j hj) (hf.tr ((j3.mono (fun r hr => by rcases hr with rfl | rfl | rfl <;> decide)).tr (FN.wI (by decide)))) (by show mI S9 29 7 = _; rw [q29]; exact h7) ?_ (fun j' hj' => ?_) (fun j hj => by show mI S9 33 j = _; rw [q33]; exact h33 j hj))
      · match a, hw with
        | 0, hw => exact Or.inr hw
        | 1, hw => exact Or.inr hw
        | 2, hw => exact Or.inl (Option.some.inj hw).symm
        | 3, hw => exact Or.inr hw
        | 4, hw => exact Or.inl (Option.some.inj hw).symm
      · rw [hL1, List.length_append]
        refine (j2.ext (fun a ha => ?_)).keep rfl rfl rfl rfl
        by_cases e9 : a = (foL (kval kd nx) i).length
        · rw [e9, up_same]
          show _ = lN _
          rw [hL1, List.getD_eq_getElem?_getD, List.getElem?_append_right (Nat.le_refl _)]
          simp
        · rw [va_up_ne _ _ e9]
          show lN _ = lN _
          rw [hL1, List.getD_eq_getElem?_getD, List.getD_eq_getElem?_getD, List.getElem?_append_left (show a < (foL (kval kd nx) i).length by omega)]
      · show va_up (mI S9 35) i (nI (foL (kval kd nx) i).length) j' = _
        rw [qw]
        by_cases e9 : j' = i
        · rw [e9, up_same, show foL (kval kd nx) (i + 1) = addc (foL (kval kd nx) i) ((kval kd nx) i) from rfl, addc_idx_new hout]
        · rw [va_up_ne _ _ e9, show foL (kval kd nx) (i + 1) = addc (foL (kval kd nx) i) ((kval kd nx) i) from rfl, addc_idx (foL_mem (by omega))]
          exact hz j' (by omega)
