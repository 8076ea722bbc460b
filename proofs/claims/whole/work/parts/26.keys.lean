set_option maxRecDepth 100000 in
theorem c_X3_insert (l : Launch) {S : pv_M} {s c : Nat} {k : Int64} (h1 : mR S 26 1 = some 27) (h2 : mR S 26 2 = some 28) (h0 : mI S 26 0 = nI c) (hc : c < 730) (hs : s < 1024) : mt l MX3_insert 106 [.ref 26, .int (nI (s)), .long (k)] S (fun v S' => v = some (.int (nI c)) ∧ FN k3 S S' ∧ mI S' 26 0 = nI (c + 1) ∧ mI S' 26 3 = mI S 26 3 ∧ mI S' 28 = va_up (mI S 28) s (nI (c + 1)) ∧ mJ S' 27 = va_up (mJ S 27) c k) := by
  refine mt_of (by decide) (Nat.le_of_ble_eq_true rfl) ?_
  intro x hl hR hmL C E
  show GG x 106 0 0 [.ref 26, .int (nI (s)), .long (k), unk] [] S 0
  refine g_aload_n C dX3_insert_0 rfl ?_
  refine g_getI C fo_X3_9 dX3_insert_1 rfl (by decide) (fun _ => rfl) h0 ?_
  refine n_sipush C 730 dX3_insert_4 ?_
  refine n_ic_lt C 12 dX3_insert_7 (fun h7 => ?_) (fun h7 => absurd h7 (by omega))
  refine g_aload_n C dX3_insert_12 rfl ?_
  refine g_getR C fo_X3_15 dX3_insert_13 rfl (by decide) (fun _ => rfl) h1 ?_
  refine g_aload_n C dX3_insert_16 rfl ?_
  refine g_getI C fo_X3_9 dX3_insert_17 rfl (by decide) (fun _ => rfl) h0 ?_
  refine g_lload_n C dX3_insert_20 rfl ?_
  refine g_last C dX3_insert_21 rfl (by decide) (by omega) rfl ?_
  refine g_aload_n C dX3_insert_22 rfl ?_
  refine g_dup C dX3_insert_23 rfl ?_
  refine g_getI C fo_X3_9 dX3_insert_24 rfl (by decide) (fun _ => rfl) h0 ?_
  refine n_iconst C 1 dX3_insert_27 ?_
  refine n_iadd C dX3_insert_28 ?_
  refine g_putI C fo_X3_9 dX3_insert_29 rfl (by decide) rfl ?_
  refine g_aload_n C dX3_insert_32 rfl ?_
  refine g_getR C fo_X3_19 dX3_insert_33 rfl (by decide) (fun _ => rfl) h2 ?_
  refine g_iload_n C dX3_insert_36 rfl ?_
  refine g_aload_n C dX3_insert_37 rfl ?_
  refine g_getI C fo_X3_9 dX3_insert_38 rfl (by decide) (fun _ => rfl) rfl ?_
  refine g_iast C dX3_insert_41 rfl (by decide) (by omega) rfl ?_
  refine g_aload_n C dX3_insert_42 rfl ?_
  refine g_getI C fo_X3_9 dX3_insert_43 rfl (by decide) (fun _ => rfl) rfl ?_
  refine n_iconst C 1 dX3_insert_46 ?_
  refine n_isub C dX3_insert_47 ?_
  exact g_iret C E dX3_insert_48 (by rw [hR]; decide) (by rw [hR]; decide) ⟨by rw [Nat.add_sub_cancel], ((FN.wJ (P := k3) (Or.inr (Or.inl rfl))).tr (FN.wI (Or.inl rfl))).tr (FN.wI (Or.inr (Or.inr rfl))), rfl, rfl, rfl, rfl⟩

theorem hsh_def (k : Int64) : ((k * (-7046029254386353131)).toUInt64 >>> ((nI 40).toInt64.toUInt64 &&& Int64.toUInt64 63)).toInt64.toInt32 = hsh k := rfl
theorem and_mod (a e : Nat) : a &&& (2 ^ e - 1) = a % 2 ^ e := Nat.and_two_pow_sub_one_eq_mod a e
theorem mod_step (a d m : Nat) : ((a + d) % m + 1) % m = (a + (d + 1)) % m := by rw [Nat.mod_add_mod, Nat.add_assoc]

set_option maxRecDepth 100000 in
theorem lp_X3_place {x : Cx} (hR : xR x = MX3_place.rm) (hmL : (xc x).maxLocals = MX3_place.nL) (C : BX x cX3_place RX3) {S : pv_M} {c e : Nat} {K : Nat → Int64} {k : Int64} (hT : KT S c e K) (hc : c < 2 ^ e) (h730 : c < 730) {E : Nat → Nat} (hE : ∀ j, j < 2 ^ e → mI S 28 j = nI (E j)) (hK : KE c (2 ^ e) K E) (EE : EX x 106 (some .int) (fun v S' => (∃ i, i < c ∧ K i = k ∧ v = some (.int (nI i)) ∧ S' = S) ∨ ((∀ i, i < c → K i ≠ k) ∧ v = some (.int (nI c)) ∧ KT S' (c + 1) e (va_up K c k) ∧ FN k3 S S'))) : ∀ z d, d + z = 2 ^ e → (∀ d', d' < d → E ((hs k + d') % 2 ^ e) ≠ 0 ∧ K (E ((hs k + d') % 2 ^ e) - 1) ≠ k) → GG x 106 0 0 [.ref 26, .long (k), unk, .int (nI ((hs k + (d)) % 2 ^ e)), .int (nI (d)), unk] [] (S) 18 := by
  obtain ⟨⟨t1, t2⟩, t3, t4, t5, t6, t7, -⟩ := id hT
  obtain ⟨e1, e2⟩ := pow_e e t5
  have E9 := EE
  intro z
  induction z with
  | zero =>
    intro d hd hz
    exact absurd (fun d' h' => (hz d' (by omega)).1) (hK.free (h := hs k) hc)
  | succ z ih =>
    intro d hd hz
    have hm : (hs k + d) % 2 ^ e < 2 ^ e := Nat.mod_lt _ (by omega)
    have hEc := hK.1 _ hm
    refine g_iload C dX3_place_18 rfl ?_
    refine g_aload_n C dX3_place_20 rfl ?_
    refine g_getI C fo_X3_23 dX3_place_21 rfl (by decide) (fun _ => rfl) t4 ?_
    refine n_ic_gt C 81 dX3_place_24 (fun h24 => absurd h24 (by omega)) (fun h24 => ?_)
    refine g_aload_n C dX3_place_27 rfl ?_
    refine g_getR C fo_X3_19 dX3_place_28 rfl (by decide) (fun _ => rfl) t2 ?_
    refine g_iload_n C dX3_place_31 rfl ?_
    refine n_iald C dX3_place_32 rfl (by decide) (hE _ hm) ?_ (by omega)
    refine g_istore C (by rw [hmL]; decide) dX3_place_33 [.ref 26, .long (k), unk, .int (nI ((hs k + (d)) % 2 ^ e)), .int (nI (d)), .int (nI (E ((hs k + d) % 2 ^ e)))] rfl ?_
    refine g_iload C dX3_place_35 rfl ?_
    refine n_if_ne C 47 dX3_place_37 (fun h37 => ?_) (fun h37 => ?_)
    · refine g_aload_n C dX3_place_47 rfl ?_
      refine g_getR C fo_X3_15 dX3_place_48 rfl (by decide) (fun _ => rfl) t1 ?_
      refine g_iload C dX3_place_51 rfl ?_
      refine n_iconst C 1 dX3_place_53 ?_
      refine n_isub C dX3_place_54 ?_
      refine n_lald C dX3_place_55 rfl (by decide) (t6 _ (by omega)) ?_ (by omega)
      refine g_lload_n C dX3_place_56 rfl ?_
      refine g_lcmp C dX3_place_57 ?_
      refine g_if_ne C 66 dX3_place_58 (by decide) (fun h58 => ?_) (fun h58 => ?_)
      · refine g_iload_n C dX3_place_66 rfl ?_
        refine n_iconst C 1 dX3_place_67 ?_
        refine n_iadd C dX3_place_68 ?_
        refine g_aload_n C dX3_place_69 rfl ?_
        refine g_getI C fo_X3_23 dX3_place_70 rfl (by decide) (fun _ => rfl) t4 ?_
        refine n_iand C dX3_place_73 ?_
        rw [and_mod, mod_step]
        refine g_istore_n C (by rw [hmL]; decide) dX3_place_74 [.ref 26, .long (k), unk, .int (nI ((hs k + (d + 1)) % 2 ^ e)), .int (nI (d)), .int (nI (E ((hs k + d) % 2 ^ e)))] rfl ?_
        refine n_iinc C (by rw [hmL]; decide) dX3_place_75 rfl (n_i1 _) [.ref 26, .long (k), unk, .int (nI ((hs k + (d + 1)) % 2 ^ e)), .int (nI (d + 1)), .int (nI (E ((hs k + d) % 2 ^ e)))] ?_
        refine g_goto C 18 dX3_place_78 (by decide) ?_
        refine g_less [.ref 26, .long k, unk, .int (nI ((hs k + (d + 1)) % 2 ^ e)), .int (nI (d + 1)), unk] (fun i w hw => ?_) (ih (d + 1) (by omega) (fun d' h' => ?_))
        · match i, hw with
          | 0, hw => exact Or.inr hw
          | 1, hw => exact Or.inr hw
          | 2, hw => exact Or.inr hw
          | 3, hw => exact Or.inr hw
          | 4, hw => exact Or.inr hw
          | 5, hw => exact Or.inl (Option.some.inj hw).symm
        · by_cases e9 : d' = d
          · subst e9
            exact ⟨h37, fun q => h58 ((lg_cmp_eq _ _).mpr q)⟩
          · exact hz d' (by omega)
      · refine g_iload C dX3_place_61 rfl ?_
        refine n_iconst C 1 dX3_place_63 ?_
        refine n_isub C dX3_place_64 ?_
        exact g_iret C E9 dX3_place_65 (by rw [hR]; decide) (by rw [hR]; decide) (Or.inl ⟨E ((hs k + d) % 2 ^ e) - 1, by omega, (lg_cmp_eq _ _).mp h58, rfl, rfl⟩)
    · refine g_aload_n C dX3_place_40 rfl ?_
      refine g_iload_n C dX3_place_41 rfl ?_
      refine g_lload_n C dX3_place_42 rfl ?_
      refine g_callV C (As := [.int (nI ((hs k + (d)) % 2 ^ e)), .long (k)]) (c_X3_insert _ t1 t2 t3 h730 (by omega)) vo_X3_28 dX3_place_43 rfl rfl (by decide) rfl (rm_ok (M' := MX3_place) hR (by decide)) (Nat.le_of_ble_eq_true rfl) (fun v9 S9 h9 => ?_)
      obtain ⟨rfl, f1, f2, f3, f4, f5⟩ := h9
      refine g_n0 [.int (nI (c))] rfl rfl rfl ?_
      refine g_iret C E9 dX3_place_46 (by rw [hR]; decide) (by rw [hR]; decide) (Or.inr ⟨hK.none hz h37, rfl, ⟨⟨by rw [f1.1]; exact t1, by rw [f1.1]; exact t2⟩, f2, by rw [f3]; exact t4, t5, fun i hi => ?_, fun i j hi hj he => ?_, va_up E ((hs k + d) % 2 ^ e) (c + 1), fun j hj => ?_, hK.add (by omega) (fun d' h' => (hz d' h').1) h37⟩, f1⟩)
      · rw [f5]
        by_cases e9 : i = c
        · rw [e9, up_same, up_same]
        · rw [va_up_ne _ _ e9, va_up_ne _ _ e9]; exact t6 i (by omega)
      · have hn := hK.none hz h37
        by_cases e9 : i = c <;> by_cases e8 : j = c
        · omega
        · rw [e9, up_same, va_up_ne _ _ e8] at he
          exact absurd he.symm (hn j (by omega))
        · rw [e8, up_same, va_up_ne _ _ e9] at he
          exact absurd he (hn i (by omega))
        · rw [va_up_ne _ _ e9, va_up_ne _ _ e8] at he
          exact t7 i j (by omega) (by omega) he
      · rw [f4]
        by_cases e9 : j = (hs k + d) % 2 ^ e
        · rw [e9, up_same, up_same]
        · rw [va_up_ne _ _ e9, va_up_ne _ _ e9]; exact hE j hj

set_option maxRecDepth 100000 in
theorem c_X3_place (l : Launch) {S : pv_M} {c e : Nat} {K : Nat → Int64} {k : Int64} (hT : KT S c e K) (hc : c < 2 ^ e) (h730 : c < 730) : mt l MX3_place 106 [.ref 26, .long k] S (fun v S' => (∃ i, i < c ∧ K i = k ∧ v = some (.int (nI i)) ∧ S' = S) ∨ ((∀ i, i < c → K i ≠ k) ∧ v = some (.int (nI c)) ∧ KT S' (c + 1) e (va_up K c k) ∧ FN k3 S S')) := by
  obtain ⟨⟨t1, t2⟩, t3, t4, t5, t6, t7, EE, hE, hK⟩ := id hT
  refine mt_of (by decide) (Nat.le_of_ble_eq_true rfl) ?_
  intro x hl hR hmL C E
  show GG x 106 0 0 [.ref 26, .long k, unk, unk, unk, unk] [] S 0
  refine g_lload_n C dX3_place_0 rfl ?_
  refine g_ldc2 C dX3_place_1 kc_X3_26 ?_
  refine g_lmul C dX3_place_4 ?_
  refine n_bipush C 40 dX3_place_5 ?_
  refine g_lushr C dX3_place_7 ?_
  refine g_l2i C dX3_place_8 ?_
  refine g_aload_n C dX3_place_9 rfl ?_
  refine g_getI C fo_X3_23 dX3_place_10 rfl (by decide) (fun _ => rfl) t4 ?_
  refine g_iand C dX3_place_13 ?_
  rw [hsh_def, and_mask _ (by omega)]
  refine g_istore_n C (by rw [hmL]; decide) dX3_place_14 [.ref 26, .long k, unk, .int (nI (hs k % 2 ^ e)), unk, unk] rfl ?_
  refine n_iconst C 0 dX3_place_15 ?_
  refine g_istore C (by rw [hmL]; decide) dX3_place_16 [.ref 26, .long k, unk, .int (nI (hs k % 2 ^ e)), .int (nI 0), unk] rfl ?_
  have key := lp_X3_place hR hmL C hT hc h730 hE hK E (2 ^ e) 0 (by omega) (fun d' h' => absurd h' (Nat.not_lt_zero _))
  rw [Nat.add_zero] at key
  exact key

theorem ten_of : ∀ e, e ≤ 10 → 1024 ≤ 2 ^ e → e = 10 := by
  intro e h h2
  have : e = 0 ∨ e = 1 ∨ e = 2 ∨ e = 3 ∨ e = 4 ∨ e = 5 ∨ e = 6 ∨ e = 7 ∨ e = 8 ∨ e = 9 ∨ e = 10 := by omega
  rcases this with rfl | rfl | rfl | rfl | rfl | rfl | rfl | rfl | rfl | rfl | rfl <;> first | rfl | exact absurd h2 (by decide)

set_option maxRecDepth 100000 in
theorem lp_X3_begin_3 {x : Cx} (hR : xR x = MX3_begin.rm) (hmL : (xc x).maxLocals = MX3_begin.nL) (C : BX x cX3_begin RX3) {q : Nat} (hq : q < 100000) {S : pv_M} (kk : ∀ e, 4 ≤ e ∧ e ≤ 10 → (2 * q ≤ 2 ^ e ∨ e = 10) → GG x 106 0 0 [.ref 26, .int (nI (q)), .int (nI (2 ^ e)), unk] [] (S) 24) : ∀ z e, e + z = 10 → 4 ≤ e → GG x 106 0 0 [.ref 26, .int (nI (q)), .int (nI (2 ^ e)), unk] [] (S) 3 := by
  intro z
  induction z with
  | zero =>
    intro e he h4
    obtain rfl : e = 10 := by omega
    obtain ⟨e1, e2⟩ := pow_e 10 ⟨by omega, by omega⟩
    have e3 : 2 ^ 10 = 1024 := by decide
    refine g_iload_n C dX3_begin_3 rfl ?_
    refine n_sipush C 1024 dX3_begin_4 ?_
    refine n_ic_ge C 24 dX3_begin_7 (fun h7 => ?_) (fun h7 => absurd h7 (by omega))
    exact kk 10 (by omega) (Or.inr rfl)
  | succ z ih =>
    intro e he h4
    obtain ⟨e1, e2⟩ := pow_e e ⟨by omega, by omega⟩
    refine g_iload_n C dX3_begin_3 rfl ?_
    refine n_sipush C 1024 dX3_begin_4 ?_
    refine n_ic_ge C 24 dX3_begin_7 (fun h7 => ?_) (fun h7 => ?_)
    · exact kk e ⟨by omega, by omega⟩ (by first | (left; omega) | (right; exact ten_of e (by omega) (by omega)))
    · refine g_iload_n C dX3_begin_10 rfl ?_
      refine n_iconst C 2 dX3_begin_11 ?_
      refine g_iload_n C dX3_begin_12 rfl ?_
      refine n_imul C dX3_begin_13 ?_
      refine n_ic_ge C 24 dX3_begin_14 (fun h14 => ?_) (fun h14 => ?_)
      · exact kk e ⟨by omega, by omega⟩ (by first | (left; omega) | (right; exact ten_of e (by omega) (by omega)))
      · refine n_iconst C 2 dX3_begin_17 ?_
        refine g_iload_n C dX3_begin_18 rfl ?_
        refine n_imul C dX3_begin_19 ?_
        refine g_istore_n C (by rw [hmL]; decide) dX3_begin_20 [.ref 26, .int (nI (q)), .int (nI ((2) * (2 ^ e))), unk] rfl ?_
        refine g_goto C 3 dX3_begin_21 (by decide) ?_
        rw [show 2 * 2 ^ e = 2 ^ (e + 1) from Nat.pow_succ'.symm]
        exact ih (e + 1) (by omega) (by omega)

set_option maxRecDepth 100000 in
theorem lp_X3_begin_26 {x : Cx} (hR : xR x = MX3_begin.rm) (hmL : (xc x).maxLocals = MX3_begin.nL) (C : BX x cX3_begin RX3) {q : Nat} {S0 : pv_M} (hq : q < 100000) {e : Nat} (he : 4 ≤ e ∧ e ≤ 10) (kk : ∀ S, FN k3 S0 S → (∀ j, j < 2 ^ e → mI S 28 j = nI 0) → GG x 106 0 0 [.ref 26, .int (nI (q)), .int (nI (2 ^ e)), .int (nI (2 ^ e))] [] (S) 44) (t2 : mR S0 26 2 = some 28) : ∀ z i (S : pv_M), i + z = 2 ^ e → FN k3 S0 S → (∀ j, j < i → mI S 28 j = nI 0) → GG x 106 0 0 [.ref 26, .int (nI (q)), .int (nI (2 ^ e)), .int (nI (i))] [] (S) 26 := by
  obtain ⟨e1, e2⟩ := pow_e e he
  intro z
  induction z with
  | zero =>
    intro i S hi hf hz
    obtain rfl : i = 2 ^ e := by omega
    refine g_iload_n C dX3_begin_26 rfl ?_
    refine g_iload_n C dX3_begin_27 rfl ?_
    refine n_ic_ge C 44 dX3_begin_28 (fun h28 => ?_) (fun h28 => absurd h28 (by omega))
    exact kk S hf hz
  | succ z ih =>
    intro i S hi hf hz
    have t3 : mR S 26 2 = some 28 := by rw [hf.1]; exact t2
    refine g_iload_n C dX3_begin_26 rfl ?_
    refine g_iload_n C dX3_begin_27 rfl ?_
    refine n_ic_ge C 44 dX3_begin_28 (fun h28 => absurd h28 (by omega)) (fun h28 => ?_)
    refine g_aload_n C dX3_begin_31 rfl ?_
    refine g_getR C fo_X3_19 dX3_begin_32 rfl (by decide) (fun _ => rfl) t3 ?_
    refine g_iload_n C dX3_begin_35 rfl ?_
    refine n_iconst C 0 dX3_begin_36 ?_
    refine g_iast C dX3_begin_37 rfl (by decide) (by omega) rfl ?_
    refine n_iinc C (by rw [hmL]; decide) dX3_begin_38 rfl (n_i1 _) [.ref 26, .int (nI (q)), .int (nI (2 ^ e)), .int (nI (i + 1))] ?_
    refine g_goto C 26 dX3_begin_41 (by decide) ?_
    refine ih (i + 1) _ (by omega) (hf.tr (FN.wI (Or.inr (Or.inr rfl)))) (fun j hj => ?_)
    rw [mI_wI]
    by_cases e9 : j = i
    · rw [e9, up_same]
    · rw [va_up_ne _ _ e9]; exact hz j (by omega)

set_option maxRecDepth 100000 in
theorem c_X3_begin (l : Launch) {S : pv_M} {q : Nat} (t1 : mR S 26 1 = some 27) (t2 : mR S 26 2 = some 28) (hq : q < 100000) : mt l MX3_begin 106 [.ref 26, .int (nI (q))] S (fun v S' => v = none ∧ FN k3 S S' ∧ ∃ e, (4 ≤ e ∧ e ≤ 10) ∧ (2 * q ≤ 2 ^ e ∨ e = 10) ∧ KT S' 0 e (fun _ => 0)) := by
  refine mt_of (by decide) (Nat.le_of_ble_eq_true rfl) ?_
  intro x hl hR hmL C E
  show GG x 106 0 0 [.ref 26, .int (nI (q)), unk, unk] [] S 0
  refine n_bipush C 16 dX3_begin_0 ?_
  refine g_istore_n C (by rw [hmL]; decide) dX3_begin_2 [.ref 26, .int (nI (q)), .int (nI (16)), unk] rfl ?_
  refine lp_X3_begin_3 hR hmL C hq (fun e he hee => ?_) 6 4 rfl (by omega)
  obtain ⟨e1, e2⟩ := pow_e e he
  refine n_iconst C 0 dX3_begin_24 ?_
  refine g_istore_n C (by rw [hmL]; decide) dX3_begin_25 [.ref 26, .int (nI q), .int (nI (2 ^ e)), .int (nI 0)] rfl ?_
  refine lp_X3_begin_26 hR hmL C hq (S0 := S) he (fun S1 hf1 hz1 => ?_) t2 (2 ^ e) 0 S (by omega) FN.rf (fun j hj => absurd hj (Nat.not_lt_zero j))
  refine g_aload_n C dX3_begin_44 rfl ?_
  refine g_iload_n C dX3_begin_45 rfl ?_
  refine n_iconst C 1 dX3_begin_46 ?_
  refine n_isub C dX3_begin_47 ?_
  refine g_putI C fo_X3_23 dX3_begin_48 rfl (by decide) rfl ?_
  refine g_aload_n C dX3_begin_51 rfl ?_
  refine n_iconst C 0 dX3_begin_52 ?_
  refine g_putI C fo_X3_9 dX3_begin_53 rfl (by decide) rfl ?_
  refine g_vret C E dX3_begin_56 (by rw [hR]; decide) (by rw [hR]; decide) ⟨rfl, (hf1.tr (FN.wI (Or.inl rfl))).tr (FN.wI (Or.inl rfl)), e, he, hee, ⟨by show mR S1 26 1 = _; rw [hf1.1]; exact t1, by show mR S1 26 2 = _; rw [hf1.1]; exact t2⟩, rfl, rfl, he, fun i hi => absurd hi (Nat.not_lt_zero i), fun i j hi => absurd hi (Nat.not_lt_zero i), fun _ => 0, hz1, fun j hj => Nat.le_refl 0, fun i j hi hj he hz => absurd rfl hz, fun i hi => absurd hi (Nat.not_lt_zero i)⟩
