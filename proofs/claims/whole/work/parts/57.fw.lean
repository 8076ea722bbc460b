set_option maxRecDepth 100000 in
theorem lp_fw1 {x : Cx} (hR : xR x = MX12_firstWord.rm) (hmL : (xc x).maxLocals = MX12_firstWord.nL) (C : BX x cX12_firstWord RX12) {S : pv_M} {k : Nat} {ac : Nat → Bool} (hS : GS S) (h17 : mI S 75 17 = nI k) (hk7 : k ≤ 740) (hE : ∀ i, i < k → mI S 90 i = bI (ac i)) {m : Nat} (hm : m ≤ k) (hm1 : m < k → ac m = true) (hm2 : ∀ j, j < m → ac j = false) (kk : GG x 106 0 0 [.ref 75, .int (nI (m)), unk, unk, unk] [] (S) 25) : ∀ z i, i + z = m → GG x 106 0 0 [.ref 75, .int (nI (i)), unk, unk, unk] [] (S) 2 := by
  intro z
  induction z with
  | zero =>
    intro i hz
    obtain rfl : m = i := by omega
    by_cases hmk : m < k
    · refine g_iload_n C dX12_firstWord_2 rfl ?_
      refine g_aload_n C dX12_firstWord_3 rfl ?_
      refine g_getI C fo_X12_153 dX12_firstWord_4 rfl (by decide) (fun _ => rfl) h17 ?_
      refine n_ic_ge C 25 dX12_firstWord_7 (fun h7 => absurd h7 (by omega)) (fun h7 => ?_)
      refine g_aload_n C dX12_firstWord_10 rfl ?_
      refine g_getR C fo_X12_56 dX12_firstWord_11 rfl (by decide) (fun _ => rfl) (gs_75_20 hS) ?_
      refine g_iload_n C dX12_firstWord_14 rfl ?_
      refine n_zald C dX12_firstWord_15 rfl (by decide) (hE _ (by omega)) ?_ (by omega)
      refine b_if_ne C 25 dX12_firstWord_16 (fun h16 => ?_) (fun h16 => absurd (hm1 hmk) (by rw [h16]; decide))
      exact kk
    · refine g_iload_n C dX12_firstWord_2 rfl ?_
      refine g_aload_n C dX12_firstWord_3 rfl ?_
      refine g_getI C fo_X12_153 dX12_firstWord_4 rfl (by decide) (fun _ => rfl) h17 ?_
      refine n_ic_ge C 25 dX12_firstWord_7 (fun h7 => ?_) (fun h7 => absurd h7 (by omega))
      exact kk
  | succ z ih =>
    intro i hz
    refine g_iload_n C dX12_firstWord_2 rfl ?_
    refine g_aload_n C dX12_firstWord_3 rfl ?_
    refine g_getI C fo_X12_153 dX12_firstWord_4 rfl (by decide) (fun _ => rfl) h17 ?_
    refine n_ic_ge C 25 dX12_firstWord_7 (fun h7 => absurd h7 (by omega)) (fun h7 => ?_)
    refine g_aload_n C dX12_firstWord_10 rfl ?_
    refine g_getR C fo_X12_56 dX12_firstWord_11 rfl (by decide) (fun _ => rfl) (gs_75_20 hS) ?_
    refine g_iload_n C dX12_firstWord_14 rfl ?_
    refine n_zald C dX12_firstWord_15 rfl (by decide) (hE _ (by omega)) ?_ (by omega)
    refine b_if_ne C 25 dX12_firstWord_16 (fun h16 => absurd h16 (by rw [hm2 i (by omega)]; decide)) (fun h16 => ?_)
    refine n_iinc C (by rw [hmL]; decide) dX12_firstWord_19 rfl (n_i1 _) [.ref 75, .int (nI (i + 1)), unk, unk, unk] ?_
    refine g_goto C 2 dX12_firstWord_22 (by decide) ?_
    exact ih (i + 1) (by omega)

set_option maxRecDepth 100000 in
theorem k_fw_none (l : Launch) {S : pv_M} {k : Nat} {ac : Nat → Bool} (hS : GS S) (h17 : mI S 75 17 = nI k) (hk7 : k ≤ 740) (hE : ∀ i, i < k → mI S 90 i = bI (ac i)) (hno : ∀ j, j < k → ac j = false) : mt l MX12_firstWord 106 [.ref 75] S (fun v S' => v = some (.int (-1)) ∧ S' = S) := by
  refine mt_of (by decide) (Nat.le_of_ble_eq_true rfl) ?_
  intro x hl hR hmL C E
  show GG x 106 0 0 [.ref 75, unk, unk, unk, unk] [] S 0
  refine n_iconst C 0 dX12_firstWord_0 ?_
  refine g_istore_n C (by rw [hmL]; decide) dX12_firstWord_1 [.ref 75, .int (nI (0)), unk, unk, unk] rfl ?_
  refine lp_fw1 hR hmL C hS h17 hk7 hE (m := k) (Nat.le_refl _) (fun h => absurd h (by omega)) hno ?_ k 0 (Nat.zero_add _)
  refine g_iload_n C dX12_firstWord_25 rfl ?_
  refine g_aload_n C dX12_firstWord_26 rfl ?_
  refine g_getI C fo_X12_153 dX12_firstWord_27 rfl (by decide) (fun _ => rfl) h17 ?_
  refine n_ic_ne C 35 dX12_firstWord_30 (fun h30 => absurd rfl h30) (fun h30 => ?_)
  refine g_iconst C (-1) dX12_firstWord_33 (by decide) ?_
  exact g_iret C E dX12_firstWord_34 (by rw [hR]; decide) (by rw [hR]; decide) ⟨rfl, rfl⟩

set_option maxRecDepth 100000 in
theorem lp_fw2 {x : Cx} (hR : xR x = MX12_firstWord.rm) (hmL : (xc x).maxLocals = MX12_firstWord.nL) (C : BX x cX12_firstWord RX12) {S : pv_M} {k : Nat} {ac : Nat → Bool} (hS : GS S) (h17 : mI S 75 17 = nI k) (hk7 : k ≤ 740) (hE : ∀ i, i < k → mI S 90 i = bI (ac i)) {O : Nat → Nat} (hO : ∀ j, 0 < j → j < k → O j / 3 < j) (h91 : ∀ j, 0 < j → j < k → mI S 91 j = nI (O j / 3)) {s : Nat} (hs : s < k) (hs1 : ac s = true) (hs2 : ∀ j, j < s → ac j = false) (kk : GG x 106 0 0 [.ref 75, .int (nI (s)), .int (nI (wl O k s)), .int (nI (0)), unk] [] (S) 56) : ∀ z sz at_, z = wl O k at_ → at_ < k → sz + z = wl O k s → GG x 106 0 0 [.ref 75, .int (nI (s)), .int (nI (sz)), .int (nI (at_)), unk] [] (S) 39 := by
  have hwk := wl_le hO k s hs
  intro z
  induction z with
  | zero =>
    intro sz at_ hz hat hsz
    have h0 : at_ = 0 := by
      rcases Nat.eq_zero_or_pos at_ with q | q
      · exact q
      · have := wl_step hO hat q; omega
    subst h0
    obtain rfl : wl O k s = sz := by omega
    refine g_iload_n C dX12_firstWord_39 rfl ?_
    refine n_if_eq C 56 dX12_firstWord_40 (fun h40 => ?_) (fun h40 => absurd rfl h40)
    exact kk
  | succ z ih =>
    intro sz at_ hz hat hsz
    have h0 : 0 < at_ := by
      rcases Nat.eq_zero_or_pos at_ with q | q
      · rw [q, wl_0] at hz; omega
      · exact q
    have hst := wl_step hO hat h0
    have hlt := hO at_ h0 hat
    refine g_iload_n C dX12_firstWord_39 rfl ?_
    refine n_if_eq C 56 dX12_firstWord_40 (fun h40 => absurd h40 (by omega)) (fun h40 => ?_)
    refine n_iinc C (by rw [hmL]; decide) dX12_firstWord_43 rfl (n_i1 _) [.ref 75, .int (nI (s)), .int (nI (sz + 1)), .int (nI (at_)), unk] ?_
    refine g_aload_n C dX12_firstWord_46 rfl ?_
    refine g_getR C fo_X12_59 dX12_firstWord_47 rfl (by decide) (fun _ => rfl) (gs_75_25 hS) ?_
    refine g_iload_n C dX12_firstWord_50 rfl ?_
    refine n_iald C dX12_firstWord_51 rfl (by decide) (h91 _ (by omega) (by omega)) ?_ (by omega)
    refine g_istore_n C (by rw [hmL]; decide) dX12_firstWord_52 [.ref 75, .int (nI (s)), .int (nI (sz + 1)), .int (nI (O (at_) / 3)), unk] rfl ?_
    refine g_goto C 39 dX12_firstWord_53 (by decide) ?_
    exact ih (sz + 1) (O (at_) / 3) (by omega) (by omega) (by omega)

set_option maxRecDepth 100000 in
theorem k_fw_long (l : Launch) {S : pv_M} {k : Nat} {ac : Nat → Bool} (hS : GS S) (h17 : mI S 75 17 = nI k) (hk7 : k ≤ 740) (hE : ∀ i, i < k → mI S 90 i = bI (ac i)) {O : Nat → Nat} (hO : ∀ j, 0 < j → j < k → O j / 3 < j) (h91 : ∀ j, 0 < j → j < k → mI S 91 j = nI (O j / 3)) {s : Nat} (hs : s < k) (hs1 : ac s = true) (hs2 : ∀ j, j < s → ac j = false) (hW : 12 < wl O k s) : mt l MX12_firstWord 106 [.ref 75] S (fun v S' => v = some (.int (-2)) ∧ S' = S) := by
  refine mt_of (by decide) (Nat.le_of_ble_eq_true rfl) ?_
  intro x hl hR hmL C E
  show GG x 106 0 0 [.ref 75, unk, unk, unk, unk] [] S 0
  refine n_iconst C 0 dX12_firstWord_0 ?_
  refine g_istore_n C (by rw [hmL]; decide) dX12_firstWord_1 [.ref 75, .int (nI (0)), unk, unk, unk] rfl ?_
  refine lp_fw1 hR hmL C hS h17 hk7 hE (m := s) (Nat.le_of_lt hs) (fun _ => hs1) hs2 ?_ s 0 (Nat.zero_add _)
  refine g_iload_n C dX12_firstWord_25 rfl ?_
  refine g_aload_n C dX12_firstWord_26 rfl ?_
  refine g_getI C fo_X12_153 dX12_firstWord_27 rfl (by decide) (fun _ => rfl) h17 ?_
  refine n_ic_ne C 35 dX12_firstWord_30 (fun h30 => ?_) (fun h30 => absurd h30 (by omega))
  refine n_iconst C 0 dX12_firstWord_35 ?_
  refine g_istore_n C (by rw [hmL]; decide) dX12_firstWord_36 [.ref 75, .int (nI (s)), .int (nI (0)), unk, unk] rfl ?_
  refine g_iload_n C dX12_firstWord_37 rfl ?_
  refine g_istore_n C (by rw [hmL]; decide) dX12_firstWord_38 [.ref 75, .int (nI (s)), .int (nI (0)), .int (nI (s)), unk] rfl ?_
  refine lp_fw2 hR hmL C hS h17 hk7 hE hO h91 hs hs1 hs2 ?_ (wl O k s) 0 s rfl hs (Nat.zero_add _)
  have hwk := wl_le hO k s hs
  refine g_iload_n C dX12_firstWord_56 rfl ?_
  refine n_bipush C 12 dX12_firstWord_57 ?_
  refine n_ic_le C 65 dX12_firstWord_59 (fun h59 => absurd h59 (by omega)) (fun h59 => ?_)
  refine g_bipush C (-2) dX12_firstWord_62 (by decide) ?_
  exact g_iret C E dX12_firstWord_64 (by rw [hR]; decide) (by rw [hR]; decide) ⟨rfl, rfl⟩

set_option maxRecDepth 100000 in
theorem lp_fw3 {x : Cx} (hR : xR x = MX12_firstWord.rm) (hmL : (xc x).maxLocals = MX12_firstWord.nL) (C : BX x cX12_firstWord RX12) {S0 : pv_M} {k W s : Nat} {O L : Nat → Nat} (hk7 : k ≤ 740) (hO : ∀ j, 0 < j → j < k → O j / 3 < j) (h91 : ∀ j, 0 < j → j < k → mI S0 91 j = nI (O j / 3)) (h92 : ∀ j, 0 < j → j < k → mI S0 92 j = nI (O j % 3)) (hs : s < k) (hWs : wl O k s = W) (hW : W ≤ 12) (h0 : anc O s W = 0) (kk : ∀ S, GS S → FN (fun r => r = 79) S0 S → (∀ p, p < 12 → mI S 79 p = nI (if W - (W) ≤ p ∧ p < W then O (anc O s (W - 1 - p)) % 3 else L p)) → GG x 106 0 0 [.ref 75, .int (nI (s)), .int (nI (W)), .int (nI (0)), .int (nI (0))] [] (S) 103) : ∀ z j (S : pv_M), j + z = W → GS S → FN (fun r => r = 79) S0 S → (∀ p, p < 12 → mI S 79 p = nI (if W - (j) ≤ p ∧ p < W then O (anc O s (W - 1 - p)) % 3 else L p)) → GG x 106 0 0 [.ref 75, .int (nI (s)), .int (nI (W)), .int (nI (W - j)), .int (nI (anc O s j))] [] (S) 70 := by
  intro z
  induction z with
  | zero =>
    intro j S hz hS hf hd
    obtain rfl : W = j := by omega
    rw [h0, Nat.sub_self]
    refine g_iload C dX12_firstWord_70 rfl ?_
    refine n_if_eq C 103 dX12_firstWord_72 (fun h72 => ?_) (fun h72 => absurd rfl h72)
    exact kk S hS hf hd
  | succ z ih =>
    intro j S hz hS hf hd
    have hanc := anc_lt hO hs j (by omega)
    have han1 := hanc.1
    have han2 := hanc.2.1
    refine g_iload C dX12_firstWord_70 rfl ?_
    refine n_if_eq C 103 dX12_firstWord_72 (fun h72 => absurd h72 (by omega)) (fun h72 => ?_)
    refine n_iinc C (by rw [hmL]; decide) dX12_firstWord_75 rfl (n_im (by omega)) [.ref 75, .int (nI (s)), .int (nI (W)), .int (nI (W - j - 1)), .int (nI (anc O s j))] ?_
    refine g_aload_n C dX12_firstWord_78 rfl ?_
    refine g_getR C fo_X12_20 dX12_firstWord_79 rfl (by decide) (fun _ => rfl) (gs_75_5 hS) ?_
    refine g_iload_n C dX12_firstWord_82 rfl ?_
    refine g_aload_n C dX12_firstWord_83 rfl ?_
    refine g_getR C fo_X12_62 dX12_firstWord_84 rfl (by decide) (fun _ => rfl) (gs_75_26 hS) ?_
    refine g_iload C dX12_firstWord_87 rfl ?_
    refine n_iald C dX12_firstWord_89 rfl (by decide) ((congrFun (hf.2 92 (by decide)).1 _).trans (h92 _ hanc.1 hanc.2.1)) ?_ (by omega)
    refine g_iast C dX12_firstWord_90 rfl (by decide) (by omega) rfl ?_
    refine g_aload_n C dX12_firstWord_91 rfl ?_
    refine g_getR C fo_X12_59 dX12_firstWord_92 rfl (by decide) (fun _ => rfl) (gs_75_25 hS) ?_
    refine g_iload C dX12_firstWord_95 rfl ?_
    refine n_iald C dX12_firstWord_97 rfl (by decide) ((congrFun (hf.2 91 (by decide)).1 _).trans (h91 _ hanc.1 hanc.2.1)) ?_ (by omega)
    refine g_istore C (by rw [hmL]; decide) dX12_firstWord_98 [.ref 75, .int (nI (s)), .int (nI (W)), .int (nI (W - j - 1)), .int (nI (O (anc O s j) / 3))] rfl ?_
    refine g_goto C 70 dX12_firstWord_100 (by decide) ?_
    have e1 : W - j - 1 = W - (j + 1) := by omega
    have e2 : O (anc O s j) / 3 = anc O s (j + 1) := rfl
    rw [e1, e2]
    refine ih (j + 1) _ (by omega) (hS.fn (FN.wI (P := fun r => r = 79) rfl)) (hf.tr (FN.wI rfl)) (fun p hp => ?_)
    rw [mI_wI]
    by_cases e : p = W - j - 1
    · rw [e, ← e1, up_same, if_pos (by omega), show W - 1 - (W - j - 1) = j by omega]
    · rw [← e1, va_up_ne _ _ e, hd p hp]
      by_cases q : W - j ≤ p ∧ p < W
      · rw [if_pos q, if_pos (by omega)]
      · rw [if_neg q, if_neg (by omega)]

theorem anc_end {O : Nat → Nat} {k s : Nat} (hO : ∀ j, 0 < j → j < k → O j / 3 < j) (hs : s < k) : anc O s (wl O k s) = 0 := by
  rcases Nat.eq_zero_or_pos (wl O k s) with h | h
  · rcases Nat.eq_zero_or_pos s with q | q
    · rw [h]; exact q
    · have := wl_step hO hs q; omega
  · have a := anc_lt hO hs (wl O k s - 1) (by omega)
    have e : anc O s (wl O k s) = O (anc O s (wl O k s - 1)) / 3 := by
      have : wl O k s = wl O k s - 1 + 1 := by omega
      rw [this]; rfl
    have b := wl_step hO a.2.1 a.1
    rcases Nat.eq_zero_or_pos (O (anc O s (wl O k s - 1)) / 3) with q | q
    · rw [e]; exact q
    · have c := wl_step hO (show O (anc O s (wl O k s - 1)) / 3 < k by have := hO _ a.1 a.2.1; omega) q
      omega

set_option maxRecDepth 100000 in
theorem k_fw_ok (l : Launch) {S : pv_M} {k : Nat} {ac : Nat → Bool} (hS : GS S) (h17 : mI S 75 17 = nI k) (hk7 : k ≤ 740) (hE : ∀ i, i < k → mI S 90 i = bI (ac i)) {O : Nat → Nat} (hO : ∀ j, 0 < j → j < k → O j / 3 < j) (h91 : ∀ j, 0 < j → j < k → mI S 91 j = nI (O j / 3)) {s : Nat} (hs : s < k) (hs1 : ac s = true) (hs2 : ∀ j, j < s → ac j = false) {A : Ab} (hM : MSt S A) (h92 : ∀ j, 0 < j → j < k → mI S 92 j = nI (O j % 3)) (hW : wl O k s ≤ 12) : mt l MX12_firstWord 106 [.ref 75] S (fun v S' => v = some (.int (nI (wl O k s))) ∧ MSt S' (setW A (wl O k s, fw O k s (wL A))) ∧ FN mC S S') := by
  refine mt_of (by decide) (Nat.le_of_ble_eq_true rfl) ?_
  intro x hl hR hmL C E
  show GG x 106 0 0 [.ref 75, unk, unk, unk, unk] [] S 0
  refine n_iconst C 0 dX12_firstWord_0 ?_
  refine g_istore_n C (by rw [hmL]; decide) dX12_firstWord_1 [.ref 75, .int (nI (0)), unk, unk, unk] rfl ?_
  refine lp_fw1 hR hmL C hS h17 hk7 hE (m := s) (Nat.le_of_lt hs) (fun _ => hs1) hs2 ?_ s 0 (Nat.zero_add _)
  refine g_iload_n C dX12_firstWord_25 rfl ?_
  refine g_aload_n C dX12_firstWord_26 rfl ?_
  refine g_getI C fo_X12_153 dX12_firstWord_27 rfl (by decide) (fun _ => rfl) h17 ?_
  refine n_ic_ne C 35 dX12_firstWord_30 (fun h30 => ?_) (fun h30 => absurd h30 (by omega))
  refine n_iconst C 0 dX12_firstWord_35 ?_
  refine g_istore_n C (by rw [hmL]; decide) dX12_firstWord_36 [.ref 75, .int (nI (s)), .int (nI (0)), unk, unk] rfl ?_
  refine g_iload_n C dX12_firstWord_37 rfl ?_
  refine g_istore_n C (by rw [hmL]; decide) dX12_firstWord_38 [.ref 75, .int (nI (s)), .int (nI (0)), .int (nI (s)), unk] rfl ?_
  refine lp_fw2 hR hmL C hS h17 hk7 hE hO h91 hs hs1 hs2 ?_ (wl O k s) 0 s rfl hs (Nat.zero_add _)
  have hwk := wl_le hO k s hs
  refine g_iload_n C dX12_firstWord_56 rfl ?_
  refine n_bipush C 12 dX12_firstWord_57 ?_
  refine n_ic_le C 65 dX12_firstWord_59 (fun h59 => ?_) (fun h59 => absurd h59 (by omega))
  refine g_iload_n C dX12_firstWord_65 rfl ?_
  refine g_istore_n C (by rw [hmL]; decide) dX12_firstWord_66 [.ref 75, .int (nI (s)), .int (nI (wl O k s)), .int (nI (wl O k s)), unk] rfl ?_
  refine g_iload_n C dX12_firstWord_67 rfl ?_
  refine g_istore C (by rw [hmL]; decide) dX12_firstWord_68 [.ref 75, .int (nI (s)), .int (nI (wl O k s)), .int (nI (wl O k s)), .int (nI (s))] rfl ?_
  refine lp_fw3 hR hmL C (S0 := S) (L := wL A) hk7 hO h91 h92 hs rfl hW (anc_end hO hs) (fun S2 hS2 hf2 hd2 => ?_) (wl O k s) 0 S (Nat.zero_add _) hS FN.rf (fun p hp => by rw [if_neg (by omega)]; exact hM.2.1.2 p hp)
  refine g_aload_n C dX12_firstWord_103 rfl ?_
  refine g_iload_n C dX12_firstWord_104 rfl ?_
  refine g_putI C fo_X12_146 dX12_firstWord_105 rfl (by decide) rfl ?_
  refine g_iload_n C dX12_firstWord_108 rfl ?_
  have e75 : mI S2 75 = mI S 75 := (hf2.2 75 (by decide)).1
  refine g_iret C E dX12_firstWord_109 (by rw [hR]; decide) (by rw [hR]; decide) ⟨rfl, ?_, ?_⟩
  · refine hM.setW ⟨rfl, fun p hp => ?_⟩ ((hf2.mono (fun r h => Or.inr h)).tr (FN.wI (by decide))) (by show mI S2 75 10 = _; rw [e75]) (by show mI S2 75 14 = _; rw [e75])
    show mI S2 79 p = nI (fw O k s (wL A) p)
    rw [hd2 p hp]
    unfold fw
    by_cases q : p < wl O k s
    · rw [if_pos q, if_pos (by omega)]
    · rw [if_neg q, if_neg (by omega)]
  · exact (hf2.mono (fun r h => by rw [h]; decide)).tr (FN.wI (by decide))
