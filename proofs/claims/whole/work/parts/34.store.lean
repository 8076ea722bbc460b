/-- kinds are numbered as they come -/
def FOk (kd : Nat → Nat) (k : Nat) : Prop := ∀ i, i < k → kd i ≤ cls kd i
theorem cls_step (f : Nat → Nat) (k : Nat) : cls f (k + 1) = if f k < cls f k then cls f k else f k + 1 := rfl
theorem cls_mono (f : Nat → Nat) (k : Nat) : ∀ d, cls f k ≤ cls f (k + d)
  | 0 => Nat.le_refl _
  | d + 1 => by
    have h := cls_mono f k d
    rw [← Nat.add_assoc, cls_step]
    by_cases e : f (k + d) < cls f (k + d)
    · rw [if_pos e]; exact h
    · rw [if_neg e]; omega
theorem cls_lt (f : Nat → Nat) : ∀ k i, i < k → f i < cls f k
  | 0, i, h => absurd h (Nat.not_lt_zero i)
  | k + 1, i, h => by
    rw [cls_step]
    by_cases e : i = k
    · subst e
      by_cases e2 : f i < cls f i
      · rw [if_pos e2]; exact e2
      · rw [if_neg e2]; omega
    · have := cls_lt f k i (by omega)
      by_cases e2 : f k < cls f k
      · rw [if_pos e2]; exact this
      · rw [if_neg e2]; omega
/-- the first state of a kind -/
def fi (kd : Nat → Nat) (k q : Nat) : Nat := fa_first (fun j => decide (kd j = q)) k
theorem fi_new {kd : Nat → Nat} {k i : Nat} (hi : i < k) (h : ∀ j, j < i → kd j ≠ kd i) : fi kd k (kd i) = i := by
  unfold fi
  have h1 := fa_first_no (fun j => decide (kd j = kd i)) k
  have h2 := fa_first_yes (fun j => decide (kd j = kd i)) k
  have h3 := fa_first_le (fun j => decide (kd j = kd i)) k
  rcases Nat.lt_trichotomy (fa_first (fun j => decide (kd j = kd i)) k) i with q | q | q
  · exact absurd (of_decide_eq_true (h2 (by omega))) (h _ q)
  · exact q
  · have := h1 i q
    simp at this
/-- the minimal automaton by kinds -/
def mnT (k : Nat) (nx kd : Nat → Nat) (c j : Nat) : Nat := if j / 3 < c then kd (nx (fi kd k (j / 3) * 3 + j % 3)) else 0

set_option maxRecDepth 100000 in
theorem keep_a {S S' : pv_M} {a t k : Nat} {nx kd : Nat → Nat} {ac : Nat → Bool} (na : ¬ kM a) (nt : ¬ kM t) (hG : Gr S k nx ac) (hK : KdAt S 35 36) (hkd : ∀ j, j < k → mI S 35 j = nI (kd j)) (hf : FN (two a t) S S') : Gr S' k nx ac ∧ KdAt S' 35 36 ∧ ∀ j, j < k → mI S' 35 j = nI (kd j) := by
  have q : ∀ r, kM r → mI S' r = mI S r := fun r hr => (hf.2 r (fun h => by rcases h with rfl | rfl; exact na hr; exact nt hr)).1
  refine ⟨hG.keep (P := kM) (by rw [hf.1]) (by rw [q 29 (by decide)]) (q 32 (by decide)) (q 34 (by decide)), ⟨by rw [hf.1]; exact hK.1, by rw [hf.1]; exact hK.2⟩, fun j hj => by rw [q 35 (by decide)]; exact hkd j hj⟩
set_option maxRecDepth 100000 in
theorem lp_X5_storeIn_39a {x : Cx} (hR : xR x = MX5_storeIn.rm) (hmL : (xc x).maxLocals = MX5_storeIn.nL) (C : BX x cX5_storeIn RX5) {a t k c F s i : Nat} {nx kd : Nat → Nat} {ac : Nat → Bool} {S0 : pv_M} (na : ¬ kM a) (nt : ¬ kM t) (hfo : FOk kd k) (h384 : ∀ j, j < k → kd j < 384) (hs : s < 6) (hi : i < k) (hfi : fi kd k s = i) (kk : ∀ S T, Gr S k nx ac → KdAt S 35 36 → (∀ j, j < k → mI S 35 j = nI (kd j)) → FN (two a t) S0 S → AutoAt S a t c T F → (∀ j, j < 18 → T j = mnT k nx kd (s + 1) j) → GG x 106 0 0 [.ref 29, .ref a, .int (nI (s)), .int (nI (i)), .int (nI (3))] [] (S) 74) : ∀ z q (S : pv_M) (T : Nat → Nat), q + z = 3 → Gr S k nx ac → KdAt S 35 36 → (∀ j, j < k → mI S 35 j = nI (kd j)) → FN (two a t) S0 S → AutoAt S a t c T F → (∀ j, j < 18 → T j = if j < s * 3 + q then mnT k nx kd (s + 1) j else 0) → GG x 106 0 0 [.ref 29, .ref a, .int (nI (s)), .int (nI (i)), .int (nI (q))] [] (S) 39 := by
  intro z
  induction z with
  | zero =>
    intro q S T hz hG hK hkd hf hA hT
    obtain rfl : q = 3 := by omega
    refine g_iload C dX5_storeIn_39 rfl ?_
    refine n_iconst C 3 dX5_storeIn_41 ?_
    refine n_ic_ge C 74 dX5_storeIn_42 (fun h42 => ?_) (fun h42 => absurd h42 (by omega))
    refine kk S T hG hK hkd hf hA (fun j hj => ?_)
    rw [hT j hj]
    by_cases e : j < s * 3 + 3
    · rw [if_pos e]
    · rw [if_neg e]
      unfold mnT
      rw [if_neg (by omega)]
  | succ z ih =>
    intro q S T hz hG hK hkd hf hA hT
    have hk4 := hG.2.2.2.1
    have hnx := (hG.2.2.2.2.1 (i * 3 + q) (by omega)).2
    refine g_iload C dX5_storeIn_39 rfl ?_
    refine n_iconst C 3 dX5_storeIn_41 ?_
    refine n_ic_ge C 74 dX5_storeIn_42 (fun h42 => absurd h42 (by omega)) (fun h42 => ?_)
    refine g_aload_n C dX5_storeIn_45 rfl ?_
    refine g_iload_n C dX5_storeIn_46 rfl ?_
    refine g_iload C dX5_storeIn_47 rfl ?_
    refine g_aload_n C dX5_storeIn_49 rfl ?_
    refine g_getR C fo_X5_35 dX5_storeIn_50 rfl (by decide) (fun _ => rfl) hK.1 ?_
    refine g_aload_n C dX5_storeIn_53 rfl ?_
    refine g_getR C fo_X5_22 dX5_storeIn_54 rfl (by decide) (fun _ => rfl) hG.1.2.2.2.1 ?_
    refine g_iload_n C dX5_storeIn_57 rfl ?_
    refine n_iconst C 3 dX5_storeIn_58 ?_
    refine n_imul C dX5_storeIn_59 ?_
    refine g_iload C dX5_storeIn_60 rfl ?_
    refine n_iadd C dX5_storeIn_62 ?_
    refine n_iald C dX5_storeIn_63 rfl (by decide) (hG.2.2.2.2.1 _ (by omega)).1 ?_ (by omega)
    refine n_iald C dX5_storeIn_64 rfl (by decide) (hkd _ (by omega)) ?_ (by omega)
    refine g_callV C (As := [.int (nI (s)), .int (nI (q)), .int (nI (kd (nx (((i) * (3)) + (q)))))]) (c_X1_lead _ hA (by omega)) vo_X5_94 dX5_storeIn_65 rfl hA.1 hA.2.1 rfl (rm_ok (M' := MX5_storeIn) hR (by decide)) (Nat.le_of_ble_eq_true rfl) (fun v9 S9 h9 => ?_)
    obtain ⟨rfl, hA9, hf9⟩ := h9
    obtain ⟨hG9, hK9, hkd9⟩ := keep_a na nt hG hK hkd hf9
    refine g_n0 [] rfl rfl rfl ?_
    refine n_iinc C (by rw [hmL]; decide) dX5_storeIn_68 rfl (n_i1 _) [.ref 29, .ref a, .int (nI (s)), .int (nI (i)), .int (nI (q + 1))] ?_
    refine g_goto C 39 dX5_storeIn_71 (by decide) ?_
    refine ih (q + 1) S9 _ (by omega) hG9 hK9 hkd9 (hf.tr hf9) hA9 (fun j hj => ?_)
    by_cases e : j = s * 3 + q
    · rw [e, up_same, if_pos (by omega)]
      unfold mnT
      rw [show (s * 3 + q) / 3 = s by omega, show (s * 3 + q) % 3 = q by omega, if_pos (by omega), hfi]
    · rw [va_up_ne _ _ e, hT j hj]
      by_cases e2 : j < s * 3 + q
      · rw [if_pos e2, if_pos (by omega)]
      · rw [if_neg e2, if_neg (by omega)]

set_option maxRecDepth 100000 in
theorem lp_X5_storeIn_12a {x : Cx} (hR : xR x = MX5_storeIn.rm) (hmL : (xc x).maxLocals = MX5_storeIn.nL) (C : BX x cX5_storeIn RX5) {a t k c : Nat} {nx kd : Nat → Nat} {ac : Nat → Bool} {S0 : pv_M} (na : ¬ kM a) (nt : ¬ kM t) (hfo : FOk kd k) (h384 : ∀ j, j < k → kd j < 384) (hcc : cls kd k = c) (hc6 : c ≤ 6) (kk : ∀ S T F s i, Gr S k nx ac → KdAt S 35 36 → (∀ j, j < k → mI S 35 j = nI (kd j)) → FN (two a t) S0 S → AutoAt S a t c T F → (∀ j, j < 18 → T j = mnT k nx kd c j) → (F < 64 ∧ ∀ q, q < 6 → F.testBit q = (decide (q < c) && ac (fi kd k q))) → GG x 106 0 0 [.ref 29, .ref a, .int (nI (s)), .int (nI (i)), unk] [] (S) 94) : ∀ z i (S : pv_M) (T : Nat → Nat) (F : Nat), i + z = k → Gr S k nx ac → KdAt S 35 36 → (∀ j, j < k → mI S 35 j = nI (kd j)) → FN (two a t) S0 S → AutoAt S a t c T F → (∀ j, j < 18 → T j = mnT k nx kd (cls kd i) j) → (F < 64 ∧ ∀ q, q < 6 → F.testBit q = (decide (q < cls kd i) && ac (fi kd k q))) → GG x 106 0 0 [.ref 29, .ref a, .int (nI (cls kd i)), .int (nI (i)), unk] [] (S) 12 := by
  intro z
  induction z with
  | zero =>
    intro i S T F hz hG hK hkd hf hA hT hF
    have hk4 := hG.2.2.2.1
    obtain rfl : i = k := by omega
    rw [hcc] at hT hF ⊢
    refine g_iload_n C dX5_storeIn_12 rfl ?_
    refine g_aload_n C dX5_storeIn_13 rfl ?_
    refine g_getI C fo_X5_9 dX5_storeIn_14 rfl (by decide) (fun _ => rfl) hG.2.1 ?_
    refine n_ic_ge C 94 dX5_storeIn_17 (fun h17 => ?_) (fun h17 => absurd h17 (by omega))
    exact kk S T F _ _ hG hK hkd hf hA hT hF
  | succ z ih =>
    intro i S T F hz hG hK hkd hf hA hT hF
    have hk4 := hG.2.2.2.1
    have hik : i < k := by omega
    have hm := cls_mono kd i (z + 1)
    rw [hz, hcc] at hm
    have hfo' := hfo i hik
    have hst := cls_step kd i
    have hkx := h384 i hik
    refine g_iload_n C dX5_storeIn_12 rfl ?_
    refine g_aload_n C dX5_storeIn_13 rfl ?_
    refine g_getI C fo_X5_9 dX5_storeIn_14 rfl (by decide) (fun _ => rfl) hG.2.1 ?_
    refine n_ic_ge C 94 dX5_storeIn_17 (fun h17 => absurd h17 (by omega)) (fun h17 => ?_)
    refine g_iload_n C dX5_storeIn_20 rfl ?_
    refine n_bipush C 6 dX5_storeIn_21 ?_
    refine n_ic_ge C 94 dX5_storeIn_23 (fun h23 => ?_) (fun h23 => ?_)
    · have e6 : cls kd i = c := by omega
      rw [e6] at hT hF
      exact kk S T F _ _ hG hK hkd hf hA hT hF
    · refine g_aload_n C dX5_storeIn_26 rfl ?_
      refine g_getR C fo_X5_35 dX5_storeIn_27 rfl (by decide) (fun _ => rfl) hK.1 ?_
      refine g_iload_n C dX5_storeIn_30 rfl ?_
      refine n_iald C dX5_storeIn_31 rfl (by decide) (hkd _ (by omega)) ?_ (by omega)
      refine g_iload_n C dX5_storeIn_32 rfl ?_
      refine n_ic_ne C 88 dX5_storeIn_33 (fun h33 => ?_) (fun h33 => ?_)
      · refine n_iinc C (by rw [hmL]; decide) dX5_storeIn_88 rfl (n_i1 _) [.ref 29, .ref a, .int (nI (cls kd i)), .int (nI (i + 1)), unk] ?_
        refine g_goto C 12 dX5_storeIn_91 (by decide) ?_
        rw [show cls kd i = cls kd (i + 1) by rw [hst, if_pos (by omega)]] at hT hF ⊢
        exact ih (i + 1) S T F (by omega) hG hK hkd hf hA hT hF
      · refine n_iconst C 0 dX5_storeIn_36 ?_
        refine g_istore C (by rw [hmL]; decide) dX5_storeIn_37 [.ref 29, .ref a, .int (nI (cls kd i)), .int (nI (i)), .int (nI (0))] rfl ?_
        have hnew : ∀ j, j < i → kd j ≠ kd i := fun j hj e => by have := cls_lt kd i j hj; omega
        have hfi : fi kd k (cls kd i) = i := by rw [← h33]; exact fi_new hik hnew
        refine lp_X5_storeIn_39a hR hmL C (S0 := S0) (F := F) na nt hfo h384 (s := cls kd i) (by omega) hik hfi (fun S1 T1 hG1 hK1 hkd1 hf1 hA1 hT1 => ?_) 3 0 S T rfl hG hK hkd hf hA (fun j hj => ?_)
        · refine g_aload_n C dX5_storeIn_74 rfl ?_
          refine g_iload_n C dX5_storeIn_75 rfl ?_
          refine g_aload_n C dX5_storeIn_76 rfl ?_
          refine g_getR C fo_X5_28 dX5_storeIn_77 rfl (by decide) (fun _ => rfl) hG1.1.2.2.2.2.2 ?_
          refine g_iload_n C dX5_storeIn_80 rfl ?_
          refine n_zald C dX5_storeIn_81 rfl (by decide) (hG1.2.2.2.2.2 i hik) ?_ (by omega)
          refine g_callV C (As := [.int (nI (cls kd i)), .int (bI (ac i))]) (c_X1_mark _ hA1 hF.1 (by omega)) vo_X5_98 dX5_storeIn_82 rfl hA1.1 hA1.2.1 rfl (rm_ok (M' := MX5_storeIn) hR (by decide)) (Nat.le_of_ble_eq_true rfl) (fun v9 S9 h9 => ?_)
          obtain ⟨rfl, hA9, hf9⟩ := h9
          obtain ⟨hG9, hK9, hkd9⟩ := keep_a na nt hG1 hK1 hkd1 hf9
          refine g_n0 [] rfl rfl rfl ?_
          refine n_iinc C (by rw [hmL]; decide) dX5_storeIn_85 rfl (n_i1 _) [.ref 29, .ref a, .int (nI (cls kd i + 1)), .int (nI i), .int (nI 3)] ?_
          refine n_iinc C (by rw [hmL]; decide) dX5_storeIn_88 rfl (n_i1 _) [.ref 29, .ref a, .int (nI (cls kd i + 1)), .int (nI (i + 1)), .int (nI 3)] ?_
          refine g_goto C 12 dX5_storeIn_91 (by decide) ?_
          have hs1 : cls kd (i + 1) = cls kd i + 1 := by rw [hst, if_neg (by omega), h33]
          refine g_less [.ref 29, .ref a, .int (nI (cls kd i + 1)), .int (nI (i + 1)), unk] (fun a w hw => ?_) ?_
          · match a, hw with
            | 0, hw => exact Or.inr hw
            | 1, hw => exact Or.inr hw
            | 2, hw => exact Or.inr hw
            | 3, hw => exact Or.inr hw
            | 4, hw => exact Or.inl (Option.some.inj hw).symm
          rw [← hs1]
          have hq := fset_ok F hF.1 (cls kd i) (by omega) (ac i)
          refine ih (i + 1) S9 _ _ (by omega) hG9 hK9 hkd9 (hf1.tr hf9) hA9 (by rw [hs1]; exact hT1) ⟨hq.1, fun q hq6 => ?_⟩
          rw [hq.2 q hq6, hs1]
          by_cases e : q = cls kd i
          · rw [if_pos e, e, hfi]
            simp
          · rw [if_neg e, hF.2 q hq6]
            by_cases e2 : q < cls kd i
            · rw [decide_eq_true e2, decide_eq_true (show q < cls kd i + 1 by omega)]
            · rw [decide_eq_false e2, decide_eq_false (show ¬ q < cls kd i + 1 by omega)]
        · rw [hT j hj]
          unfold mnT
          by_cases e : j / 3 < cls kd i
          · rw [if_pos e, if_pos (show j < cls kd i * 3 + 0 by omega), if_pos (show j / 3 < cls kd i + 1 by omega)]
          · rw [if_neg e, if_neg (show ¬ j < cls kd i * 3 + 0 by omega)]

set_option maxRecDepth 100000 in
theorem c_X5_storeIn_a (l : Launch) {S : pv_M} {a t n F k c : Nat} {T nx kd : Nat → Nat} {ac : Nat → Bool} (hA : AutoAt S a t n T F) (na : ¬ kM a) (nt : ¬ kM t) (hG : Gr S k nx ac) (hK : KdAt S 35 36) (hkd : ∀ j, j < k → mI S 35 j = nI (kd j)) (hfo : FOk kd k) (h384 : ∀ j, j < k → kd j < 384) (hc : mI S 29 7 = nI c) (hcc : cls kd k = c) (hc6 : c ≤ 6) : mt l MX5_storeIn 106 [.ref 29, .ref a] S (fun v S' => v = none ∧ FN (two a t) S S' ∧ ∃ F', F' < 64 ∧ AutoAt S' a t c (mnT k nx kd c) F' ∧ ∀ q, q < 6 → F'.testBit q = (decide (q < c) && ac (fi kd k q))) := by
  refine mt_of (by decide) (Nat.le_of_ble_eq_true rfl) ?_
  intro x hl hR hmL C E
  show GG x 106 0 0 [.ref 29, .ref a, unk, unk, unk] [] S 0
  refine g_aload_n C dX5_storeIn_0 rfl ?_
  refine g_aload_n C dX5_storeIn_1 rfl ?_
  refine g_getI C fo_X5_32 dX5_storeIn_2 rfl (by decide) (fun _ => rfl) hc ?_
  refine g_callV C (As := [.int (nI (c))]) (c_X1_clear _ hA) vo_X5_89 dX5_storeIn_5 rfl hA.1 hA.2.1 rfl (rm_ok (M' := MX5_storeIn) hR (by decide)) (Nat.le_of_ble_eq_true rfl) (fun v9 S9 h9 => ?_)
  obtain ⟨rfl, hA9, hf9⟩ := h9
  obtain ⟨hG9, hK9, hkd9⟩ := keep_a na nt hG hK hkd hf9
  refine g_n0 [] rfl rfl rfl ?_
  refine n_iconst C 0 dX5_storeIn_8 ?_
  refine g_istore_n C (by rw [hmL]; decide) dX5_storeIn_9 [.ref 29, .ref a, .int (nI (0)), unk, unk] rfl ?_
  refine n_iconst C 0 dX5_storeIn_10 ?_
  refine g_istore_n C (by rw [hmL]; decide) dX5_storeIn_11 [.ref 29, .ref a, .int (nI (0)), .int (nI (0)), unk] rfl ?_
  refine lp_X5_storeIn_12a hR hmL C (S0 := S) na nt hfo h384 hcc hc6 (fun S1 T1 F1 s i hG1 hK1 hkd1 hf1 hA1 hT1 hF1 => ?_) k 0 S9 (fun _ => 0) 0 (by omega) hG9 hK9 hkd9 hf9 hA9 (fun j hj => ?_) ⟨by decide, fun q hq => ?_⟩
  · exact g_vret C E dX5_storeIn_94 (by rw [hR]; decide) (by rw [hR]; decide) ⟨rfl, hf1, F1, hF1.1, hA1.ext hT1, hF1.2⟩
  · unfold mnT
    rw [show cls kd 0 = 0 from rfl, if_neg (Nat.not_lt_zero _)]
  · rw [show cls kd 0 = 0 from rfl]
    simp

set_option maxRecDepth 100000 in
theorem keep_b {S S' : pv_M} {a t k : Nat} {nx kd : Nat → Nat} {ac : Nat → Bool} (na : ¬ kM a) (nt : ¬ kM t) (hG : Gr S k nx ac) (hK : KdAt S 36 35) (hkd : ∀ j, j < k → mI S 36 j = nI (kd j)) (hf : FN (two a t) S S') : Gr S' k nx ac ∧ KdAt S' 36 35 ∧ ∀ j, j < k → mI S' 36 j = nI (kd j) := by
  have q : ∀ r, kM r → mI S' r = mI S r := fun r hr => (hf.2 r (fun h => by rcases h with rfl | rfl; exact na hr; exact nt hr)).1
  refine ⟨hG.keep (P := kM) (by rw [hf.1]) (by rw [q 29 (by decide)]) (q 32 (by decide)) (q 34 (by decide)), ⟨by rw [hf.1]; exact hK.1, by rw [hf.1]; exact hK.2⟩, fun j hj => by rw [q 36 (by decide)]; exact hkd j hj⟩
set_option maxRecDepth 100000 in
theorem lp_X5_storeIn_39b {x : Cx} (hR : xR x = MX5_storeIn.rm) (hmL : (xc x).maxLocals = MX5_storeIn.nL) (C : BX x cX5_storeIn RX5) {a t k c F s i : Nat} {nx kd : Nat → Nat} {ac : Nat → Bool} {S0 : pv_M} (na : ¬ kM a) (nt : ¬ kM t) (hfo : FOk kd k) (h384 : ∀ j, j < k → kd j < 384) (hs : s < 6) (hi : i < k) (hfi : fi kd k s = i) (kk : ∀ S T, Gr S k nx ac → KdAt S 36 35 → (∀ j, j < k → mI S 36 j = nI (kd j)) → FN (two a t) S0 S → AutoAt S a t c T F → (∀ j, j < 18 → T j = mnT k nx kd (s + 1) j) → GG x 106 0 0 [.ref 29, .ref a, .int (nI (s)), .int (nI (i)), .int (nI (3))] [] (S) 74) : ∀ z q (S : pv_M) (T : Nat → Nat), q + z = 3 → Gr S k nx ac → KdAt S 36 35 → (∀ j, j < k → mI S 36 j = nI (kd j)) → FN (two a t) S0 S → AutoAt S a t c T F → (∀ j, j < 18 → T j = if j < s * 3 + q then mnT k nx kd (s + 1) j else 0) → GG x 106 0 0 [.ref 29, .ref a, .int (nI (s)), .int (nI (i)), .int (nI (q))] [] (S) 39 := by
  intro z
  induction z with
  | zero =>
    intro q S T hz hG hK hkd hf hA hT
    obtain rfl : q = 3 := by omega
    refine g_iload C dX5_storeIn_39 rfl ?_
    refine n_iconst C 3 dX5_storeIn_41 ?_
    refine n_ic_ge C 74 dX5_storeIn_42 (fun h42 => ?_) (fun h42 => absurd h42 (by omega))
    refine kk S T hG hK hkd hf hA (fun j hj => ?_)
    rw [hT j hj]
    by_cases e : j < s * 3 + 3
    · rw [if_pos e]
    · rw [if_neg e]
      unfold mnT
      rw [if_neg (by omega)]
  | succ z ih =>
    intro q S T hz hG hK hkd hf hA hT
    have hk4 := hG.2.2.2.1
    have hnx := (hG.2.2.2.2.1 (i * 3 + q) (by omega)).2
    refine g_iload C dX5_storeIn_39 rfl ?_
    refine n_iconst C 3 dX5_storeIn_41 ?_
    refine n_ic_ge C 74 dX5_storeIn_42 (fun h42 => absurd h42 (by omega)) (fun h42 => ?_)
    refine g_aload_n C dX5_storeIn_45 rfl ?_
    refine g_iload_n C dX5_storeIn_46 rfl ?_
    refine g_iload C dX5_storeIn_47 rfl ?_
    refine g_aload_n C dX5_storeIn_49 rfl ?_
    refine g_getR C fo_X5_35 dX5_storeIn_50 rfl (by decide) (fun _ => rfl) hK.1 ?_
    refine g_aload_n C dX5_storeIn_53 rfl ?_
    refine g_getR C fo_X5_22 dX5_storeIn_54 rfl (by decide) (fun _ => rfl) hG.1.2.2.2.1 ?_
    refine g_iload_n C dX5_storeIn_57 rfl ?_
    refine n_iconst C 3 dX5_storeIn_58 ?_
    refine n_imul C dX5_storeIn_59 ?_
    refine g_iload C dX5_storeIn_60 rfl ?_
    refine n_iadd C dX5_storeIn_62 ?_
    refine n_iald C dX5_storeIn_63 rfl (by decide) (hG.2.2.2.2.1 _ (by omega)).1 ?_ (by omega)
    refine n_iald C dX5_storeIn_64 rfl (by decide) (hkd _ (by omega)) ?_ (by omega)
    refine g_callV C (As := [.int (nI (s)), .int (nI (q)), .int (nI (kd (nx (((i) * (3)) + (q)))))]) (c_X1_lead _ hA (by omega)) vo_X5_94 dX5_storeIn_65 rfl hA.1 hA.2.1 rfl (rm_ok (M' := MX5_storeIn) hR (by decide)) (Nat.le_of_ble_eq_true rfl) (fun v9 S9 h9 => ?_)
    obtain ⟨rfl, hA9, hf9⟩ := h9
    obtain ⟨hG9, hK9, hkd9⟩ := keep_b na nt hG hK hkd hf9
    refine g_n0 [] rfl rfl rfl ?_
    refine n_iinc C (by rw [hmL]; decide) dX5_storeIn_68 rfl (n_i1 _) [.ref 29, .ref a, .int (nI (s)), .int (nI (i)), .int (nI (q + 1))] ?_
    refine g_goto C 39 dX5_storeIn_71 (by decide) ?_
    refine ih (q + 1) S9 _ (by omega) hG9 hK9 hkd9 (hf.tr hf9) hA9 (fun j hj => ?_)
    by_cases e : j = s * 3 + q
    · rw [e, up_same, if_pos (by omega)]
      unfold mnT
      rw [show (s * 3 + q) / 3 = s by omega, show (s * 3 + q) % 3 = q by omega, if_pos (by omega), hfi]
    · rw [va_up_ne _ _ e, hT j hj]
      by_cases e2 : j < s * 3 + q
      · rw [if_pos e2, if_pos (by omega)]
      · rw [if_neg e2, if_neg (by omega)]

set_option maxRecDepth 100000 in
theorem lp_X5_storeIn_12b {x : Cx} (hR : xR x = MX5_storeIn.rm) (hmL : (xc x).maxLocals = MX5_storeIn.nL) (C : BX x cX5_storeIn RX5) {a t k c : Nat} {nx kd : Nat → Nat} {ac : Nat → Bool} {S0 : pv_M} (na : ¬ kM a) (nt : ¬ kM t) (hfo : FOk kd k) (h384 : ∀ j, j < k → kd j < 384) (hcc : cls kd k = c) (hc6 : c ≤ 6) (kk : ∀ S T F s i, Gr S k nx ac → KdAt S 36 35 → (∀ j, j < k → mI S 36 j = nI (kd j)) → FN (two a t) S0 S → AutoAt S a t c T F → (∀ j, j < 18 → T j = mnT k nx kd c j) → (F < 64 ∧ ∀ q, q < 6 → F.testBit q = (decide (q < c) && ac (fi kd k q))) → GG x 106 0 0 [.ref 29, .ref a, .int (nI (s)), .int (nI (i)), unk] [] (S) 94) : ∀ z i (S : pv_M) (T : Nat → Nat) (F : Nat), i + z = k → Gr S k nx ac → KdAt S 36 35 → (∀ j, j < k → mI S 36 j = nI (kd j)) → FN (two a t) S0 S → AutoAt S a t c T F → (∀ j, j < 18 → T j = mnT k nx kd (cls kd i) j) → (F < 64 ∧ ∀ q, q < 6 → F.testBit q = (decide (q < cls kd i) && ac (fi kd k q))) → GG x 106 0 0 [.ref 29, .ref a, .int (nI (cls kd i)), .int (nI (i)), unk] [] (S) 12 := by
  intro z
  induction z with
  | zero =>
    intro i S T F hz hG hK hkd hf hA hT hF
    have hk4 := hG.2.2.2.1
    obtain rfl : i = k := by omega
    rw [hcc] at hT hF ⊢
    refine g_iload_n C dX5_storeIn_12 rfl ?_
    refine g_aload_n C dX5_storeIn_13 rfl ?_
    refine g_getI C fo_X5_9 dX5_storeIn_14 rfl (by decide) (fun _ => rfl) hG.2.1 ?_
    refine n_ic_ge C 94 dX5_storeIn_17 (fun h17 => ?_) (fun h17 => absurd h17 (by omega))
    exact kk S T F _ _ hG hK hkd hf hA hT hF
  | succ z ih =>
    intro i S T F hz hG hK hkd hf hA hT hF
    have hk4 := hG.2.2.2.1
    have hik : i < k := by omega
    have hm := cls_mono kd i (z + 1)
    rw [hz, hcc] at hm
    have hfo' := hfo i hik
    have hst := cls_step kd i
    have hkx := h384 i hik
    refine g_iload_n C dX5_storeIn_12 rfl ?_
    refine g_aload_n C dX5_storeIn_13 rfl ?_
    refine g_getI C fo_X5_9 dX5_storeIn_14 rfl (by decide) (fun _ => rfl) hG.2.1 ?_
    refine n_ic_ge C 94 dX5_storeIn_17 (fun h17 => absurd h17 (by omega)) (fun h17 => ?_)
    refine g_iload_n C dX5_storeIn_20 rfl ?_
    refine n_bipush C 6 dX5_storeIn_21 ?_
    refine n_ic_ge C 94 dX5_storeIn_23 (fun h23 => ?_) (fun h23 => ?_)
    · have e6 : cls kd i = c := by omega
      rw [e6] at hT hF
      exact kk S T F _ _ hG hK hkd hf hA hT hF
    · refine g_aload_n C dX5_storeIn_26 rfl ?_
      refine g_getR C fo_X5_35 dX5_storeIn_27 rfl (by decide) (fun _ => rfl) hK.1 ?_
      refine g_iload_n C dX5_storeIn_30 rfl ?_
      refine n_iald C dX5_storeIn_31 rfl (by decide) (hkd _ (by omega)) ?_ (by omega)
      refine g_iload_n C dX5_storeIn_32 rfl ?_
      refine n_ic_ne C 88 dX5_storeIn_33 (fun h33 => ?_) (fun h33 => ?_)
      · refine n_iinc C (by rw [hmL]; decide) dX5_storeIn_88 rfl (n_i1 _) [.ref 29, .ref a, .int (nI (cls kd i)), .int (nI (i + 1)), unk] ?_
        refine g_goto C 12 dX5_storeIn_91 (by decide) ?_
        rw [show cls kd i = cls kd (i + 1) by rw [hst, if_pos (by omega)]] at hT hF ⊢
        exact ih (i + 1) S T F (by omega) hG hK hkd hf hA hT hF
      · refine n_iconst C 0 dX5_storeIn_36 ?_
        refine g_istore C (by rw [hmL]; decide) dX5_storeIn_37 [.ref 29, .ref a, .int (nI (cls kd i)), .int (nI (i)), .int (nI (0))] rfl ?_
        have hnew : ∀ j, j < i → kd j ≠ kd i := fun j hj e => by have := cls_lt kd i j hj; omega
        have hfi : fi kd k (cls kd i) = i := by rw [← h33]; exact fi_new hik hnew
        refine lp_X5_storeIn_39b hR hmL C (S0 := S0) (F := F) na nt hfo h384 (s := cls kd i) (by omega) hik hfi (fun S1 T1 hG1 hK1 hkd1 hf1 hA1 hT1 => ?_) 3 0 S T rfl hG hK hkd hf hA (fun j hj => ?_)
        · refine g_aload_n C dX5_storeIn_74 rfl ?_
          refine g_iload_n C dX5_storeIn_75 rfl ?_
          refine g_aload_n C dX5_storeIn_76 rfl ?_
          refine g_getR C fo_X5_28 dX5_storeIn_77 rfl (by decide) (fun _ => rfl) hG1.1.2.2.2.2.2 ?_
          refine g_iload_n C dX5_storeIn_80 rfl ?_
          refine n_zald C dX5_storeIn_81 rfl (by decide) (hG1.2.2.2.2.2 i hik) ?_ (by omega)
          refine g_callV C (As := [.int (nI (cls kd i)), .int (bI (ac i))]) (c_X1_mark _ hA1 hF.1 (by omega)) vo_X5_98 dX5_storeIn_82 rfl hA1.1 hA1.2.1 rfl (rm_ok (M' := MX5_storeIn) hR (by decide)) (Nat.le_of_ble_eq_true rfl) (fun v9 S9 h9 => ?_)
          obtain ⟨rfl, hA9, hf9⟩ := h9
          obtain ⟨hG9, hK9, hkd9⟩ := keep_b na nt hG1 hK1 hkd1 hf9
          refine g_n0 [] rfl rfl rfl ?_
          refine n_iinc C (by rw [hmL]; decide) dX5_storeIn_85 rfl (n_i1 _) [.ref 29, .ref a, .int (nI (cls kd i + 1)), .int (nI i), .int (nI 3)] ?_
          refine n_iinc C (by rw [hmL]; decide) dX5_storeIn_88 rfl (n_i1 _) [.ref 29, .ref a, .int (nI (cls kd i + 1)), .int (nI (i + 1)), .int (nI 3)] ?_
          refine g_goto C 12 dX5_storeIn_91 (by decide) ?_
          have hs1 : cls kd (i + 1) = cls kd i + 1 := by rw [hst, if_neg (by omega), h33]
          refine g_less [.ref 29, .ref a, .int (nI (cls kd i + 1)), .int (nI (i + 1)), unk] (fun a w hw => ?_) ?_
          · match a, hw with
            | 0, hw => exact Or.inr hw
            | 1, hw => exact Or.inr hw
            | 2, hw => exact Or.inr hw
            | 3, hw => exact Or.inr hw
            | 4, hw => exact Or.inl (Option.some.inj hw).symm
          rw [← hs1]
          have hq := fset_ok F hF.1 (cls kd i) (by omega) (ac i)
          refine ih (i + 1) S9 _ _ (by omega) hG9 hK9 hkd9 (hf1.tr hf9) hA9 (by rw [hs1]; exact hT1) ⟨hq.1, fun q hq6 => ?_⟩
          rw [hq.2 q hq6, hs1]
          by_cases e : q = cls kd i
          · rw [if_pos e, e, hfi]
            simp
          · rw [if_neg e, hF.2 q hq6]
            by_cases e2 : q < cls kd i
            · rw [decide_eq_true e2, decide_eq_true (show q < cls kd i + 1 by omega)]
            · rw [decide_eq_false e2, decide_eq_false (show ¬ q < cls kd i + 1 by omega)]
        · rw [hT j hj]
          unfold mnT
          by_cases e : j / 3 < cls kd i
          · rw [if_pos e, if_pos (show j < cls kd i * 3 + 0 by omega), if_pos (show j / 3 < cls kd i + 1 by omega)]
          · rw [if_neg e, if_neg (show ¬ j < cls kd i * 3 + 0 by omega)]

set_option maxRecDepth 100000 in
theorem c_X5_storeIn_b (l : Launch) {S : pv_M} {a t n F k c : Nat} {T nx kd : Nat → Nat} {ac : Nat → Bool} (hA : AutoAt S a t n T F) (na : ¬ kM a) (nt : ¬ kM t) (hG : Gr S k nx ac) (hK : KdAt S 36 35) (hkd : ∀ j, j < k → mI S 36 j = nI (kd j)) (hfo : FOk kd k) (h384 : ∀ j, j < k → kd j < 384) (hc : mI S 29 7 = nI c) (hcc : cls kd k = c) (hc6 : c ≤ 6) : mt l MX5_storeIn 106 [.ref 29, .ref a] S (fun v S' => v = none ∧ FN (two a t) S S' ∧ ∃ F', F' < 64 ∧ AutoAt S' a t c (mnT k nx kd c) F' ∧ ∀ q, q < 6 → F'.testBit q = (decide (q < c) && ac (fi kd k q))) := by
  refine mt_of (by decide) (Nat.le_of_ble_eq_true rfl) ?_
  intro x hl hR hmL C E
  show GG x 106 0 0 [.ref 29, .ref a, unk, unk, unk] [] S 0
  refine g_aload_n C dX5_storeIn_0 rfl ?_
  refine g_aload_n C dX5_storeIn_1 rfl ?_
  refine g_getI C fo_X5_32 dX5_storeIn_2 rfl (by decide) (fun _ => rfl) hc ?_
  refine g_callV C (As := [.int (nI (c))]) (c_X1_clear _ hA) vo_X5_89 dX5_storeIn_5 rfl hA.1 hA.2.1 rfl (rm_ok (M' := MX5_storeIn) hR (by decide)) (Nat.le_of_ble_eq_true rfl) (fun v9 S9 h9 => ?_)
  obtain ⟨rfl, hA9, hf9⟩ := h9
  obtain ⟨hG9, hK9, hkd9⟩ := keep_b na nt hG hK hkd hf9
  refine g_n0 [] rfl rfl rfl ?_
  refine n_iconst C 0 dX5_storeIn_8 ?_
  refine g_istore_n C (by rw [hmL]; decide) dX5_storeIn_9 [.ref 29, .ref a, .int (nI (0)), unk, unk] rfl ?_
  refine n_iconst C 0 dX5_storeIn_10 ?_
  refine g_istore_n C (by rw [hmL]; decide) dX5_storeIn_11 [.ref 29, .ref a, .int (nI (0)), .int (nI (0)), unk] rfl ?_
  refine lp_X5_storeIn_12b hR hmL C (S0 := S) na nt hfo h384 hcc hc6 (fun S1 T1 F1 s i hG1 hK1 hkd1 hf1 hA1 hT1 hF1 => ?_) k 0 S9 (fun _ => 0) 0 (by omega) hG9 hK9 hkd9 hf9 hA9 (fun j hj => ?_) ⟨by decide, fun q hq => ?_⟩
  · exact g_vret C E dX5_storeIn_94 (by rw [hR]; decide) (by rw [hR]; decide) ⟨rfl, hf1, F1, hF1.1, hA1.ext hT1, hF1.2⟩
  · unfold mnT
    rw [show cls kd 0 = 0 from rfl, if_neg (Nat.not_lt_zero _)]
  · rw [show cls kd 0 = 0 from rfl]
    simp

theorem c_X5_storeIn (l : Launch) {S : pv_M} {a t n F k c : Nat} {T nx kd : Nat → Nat} {ac : Nat → Bool} (hA : AutoAt S a t n T F) (na : ¬ kM a) (nt : ¬ kM t) (hG : Gr S k nx ac) (hK : KN S k kd) (hfo : FOk kd k) (h384 : ∀ j, j < k → kd j < 384) (hc : mI S 29 7 = nI c) (hcc : cls kd k = c) (hc6 : c ≤ 6) : mt l MX5_storeIn 106 [.ref 29, .ref a] S (fun v S' => v = none ∧ FN (two a t) S S' ∧ ∃ F', F' < 64 ∧ AutoAt S' a t c (mnT k nx kd c) F' ∧ ∀ q, q < 6 → F'.testBit q = (decide (q < c) && ac (fi kd k q))) := by
  rcases hK with ⟨h1, h2⟩ | ⟨h1, h2⟩
  · exact c_X5_storeIn_a l hA na nt hG h1 h2 hfo h384 hc hcc hc6
  · exact c_X5_storeIn_b l hA na nt hG h1 h2 hfo h384 hc hcc hc6
