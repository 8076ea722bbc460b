theorem WordAt.putL {S : pv_M} {w u m j v : Nat} {L : Nat → Nat} (h : WordAt S w u m L) : WordAt (wI S u (va_up (mI S u) j (nI v))) w u m (va_up L j v) :=
  ⟨h.1, h.2.1, h.2.2.1, h.2.2.2.1, h.2.2.2.2.1, rI_n h.ne h.2.2.2.2.2.1, h.2.2.2.2.2.2.1, fun i hi => by
    rw [mI_wI]
    by_cases e : i = j
    · subst e; simp [va_up]
    · rw [va_up_ne _ _ e, va_up_ne _ _ e]; exact h.2.2.2.2.2.2.2 i hi⟩
theorem WordAt.putN {S : pv_M} {w u m v : Nat} {L : Nat → Nat} (h : WordAt S w u m L) (hv : v ≤ 12) : WordAt (wI S w (va_up (mI S w) 0 (nI v))) w u v L :=
  ⟨h.1, h.2.1, h.2.2.1, h.2.2.2.1, h.2.2.2.2.1, rI_s, hv, fun i hi => rI_n h.ne.symm (h.2.2.2.2.2.2.2 i hi)⟩
theorem WordAt.ext {S : pv_M} {w u m : Nat} {L L' : Nat → Nat} (h : WordAt S w u m L) (e : ∀ j, j < 12 → L j = L' j) : WordAt S w u m L' :=
  ⟨h.1, h.2.1, h.2.2.1, h.2.2.2.1, h.2.2.2.2.1, h.2.2.2.2.2.1, h.2.2.2.2.2.2.1, fun j hj => by rw [← e j hj]; exact h.2.2.2.2.2.2.2 j hj⟩

set_option maxRecDepth 100000 in
theorem c_X10_add (l : Launch) {S : pv_M} {w u m v : Nat} {L : Nat → Nat} (hW : WordAt S w u m L) (hm : m < 12) : mt l MX10_add 106 [.ref w, .int (nI (v))] S (fun q S' => q = none ∧ WordAt S' w u (m + 1) (va_up L m v) ∧ FN (two w u) S S') := by
  refine mt_of (by decide) (Nat.le_of_ble_eq_true rfl) ?_
  intro x hl hR hmL C E
  show GG x 106 0 0 [.ref w, .int (nI (v))] [] S 0
  refine g_aload_n C dX10_add_0 rfl ?_
  refine g_getI C fo_X10_9 dX10_add_1 hW.1 hW.2.1 (fun _ => rfl) hW.2.2.2.2.2.1 ?_
  refine n_bipush C 12 dX10_add_4 ?_
  refine n_ic_ge C 29 dX10_add_6 (fun h6 => absurd h6 (by omega)) (fun h6 => ?_)
  refine g_aload_n C dX10_add_9 rfl ?_
  refine g_getR C fo_X10_15 dX10_add_10 hW.1 hW.2.1 (fun _ => rfl) hW.2.2.2.2.1 ?_
  refine g_aload_n C dX10_add_13 rfl ?_
  refine g_getI C fo_X10_9 dX10_add_14 hW.1 hW.2.1 (fun _ => rfl) hW.2.2.2.2.2.1 ?_
  refine g_iload_n C dX10_add_17 rfl ?_
  refine g_iast C dX10_add_18 hW.2.2.1 hW.2.2.2.1 (by omega) rfl ?_
  refine g_aload_n C dX10_add_19 rfl ?_
  refine g_dup C dX10_add_20 rfl ?_
  refine g_getI C fo_X10_9 dX10_add_21 hW.1 hW.2.1 (fun _ => rfl) (rI_n hW.ne hW.2.2.2.2.2.1) ?_
  refine n_iconst C 1 dX10_add_24 ?_
  refine n_iadd C dX10_add_25 ?_
  refine g_putI C fo_X10_9 dX10_add_26 hW.1 hW.2.1 rfl ?_
  exact g_vret C E dX10_add_29 (by rw [hR]; decide) (by rw [hR]; decide) ⟨rfl, hW.putL.putN (by omega), (FN.wI (Or.inr rfl)).tr (FN.wI (Or.inl rfl))⟩

set_option maxRecDepth 100000 in
theorem c_X10_copyFrom (l : Launch) {w u m b c m2 : Nat} {L L2 : Nat → Nat} {S : pv_M} (hW : WordAt S w u m L) (hB : WordAt S b c m2 L2) (hwb : w ≠ b) (huc : u ≠ c) : mt l MX10_copyFrom 106 [.ref w, .ref b] S (fun v S' => v = none ∧ WordAt S' w u m2 L2 ∧ FN (two w u) S S') := by
  have hcw : c ≠ w := fun e => by have h1 := hW.1; rw [← e, hB.2.2.1] at h1; cases h1
  refine mt_of (by decide) (Nat.le_of_ble_eq_true rfl) ?_
  intro x hl hR hmL C E
  show GG x 106 0 0 [.ref w, .ref b] [] S 0
  refine g_aload_n C dX10_copyFrom_0 rfl ?_
  refine g_aload_n C dX10_copyFrom_1 rfl ?_
  refine g_getI C fo_X10_9 dX10_copyFrom_2 hB.1 hB.2.1 (fun _ => rfl) hB.2.2.2.2.2.1 ?_
  refine g_putI C fo_X10_9 dX10_copyFrom_5 hW.1 hW.2.1 rfl ?_
  refine g_aload_n C dX10_copyFrom_8 rfl ?_
  refine g_getR C fo_X10_15 dX10_copyFrom_9 hB.1 hB.2.1 (fun _ => rfl) hB.2.2.2.2.1 ?_
  refine n_iconst C 0 dX10_copyFrom_12 ?_
  refine g_aload_n C dX10_copyFrom_13 rfl ?_
  refine g_getR C fo_X10_15 dX10_copyFrom_14 hW.1 hW.2.1 (fun _ => rfl) hW.2.2.2.2.1 ?_
  refine n_iconst C 0 dX10_copyFrom_17 ?_
  refine n_bipush C 12 dX10_copyFrom_18 ?_
  refine g_acopy C ao_X10_19 dX10_copyFrom_20 hB.2.2.1 hB.2.2.2.1 hW.2.2.1 hW.2.2.2.1 (by rw [hR]; decide) (by rw [hR]; decide) ?_
  have f1 : FN (two w u) S (wI S w (va_up (mI S w) 0 (nI m2))) := FN.wI (Or.inl rfl)
  refine g_vret C E dX10_copyFrom_23 (by rw [hR]; decide) (by rw [hR]; decide) ⟨rfl, ?_, f1.tr (FN.wI (Or.inr rfl))⟩
  have hW2 : WordAt _ w u m2 L := hW.putN hB.2.2.2.2.2.2.1
  have hu : ¬ two w u c := fun h => h.elim hcw (fun e => huc e.symm)
  refine ⟨hW.1, hW.2.1, hW.2.2.1, hW.2.2.2.1, hW.2.2.2.2.1, rI_n hW.ne hW2.2.2.2.2.2.1, hB.2.2.2.2.2.2.1, fun j hj => ?_⟩
  rw [mI_wI, pk_cpy_in (Nat.zero_le _) (by omega), Nat.sub_zero, Nat.zero_add, (f1.2 c hu).1]
  exact hB.2.2.2.2.2.2.2 j hj

def anc (O : Nat → Nat) (s : Nat) : Nat → Nat
  | 0 => s
  | j + 1 => O (anc O s j) / 3
theorem anc_lt {O : Nat → Nat} {k s : Nat} (hO : ∀ j, 0 < j → j < k → O j / 3 < j) (hs : s < k) : ∀ j, j < wl O k s → 0 < anc O s j ∧ anc O s j < k ∧ wl O k (anc O s j) + j = wl O k s
  | 0, h => by
    show 0 < s ∧ s < k ∧ _
    refine ⟨?_, hs, rfl⟩
    by_cases e : s = 0
    · rw [e, wl_0] at h; omega
    · omega
  | j + 1, h => by
    obtain ⟨h1, h2, h3⟩ := anc_lt hO hs j (by omega)
    have h4 := wl_step hO h2 h1
    have h5 := hO _ h1 h2
    show 0 < O (anc O s j) / 3 ∧ O (anc O s j) / 3 < k ∧ wl O k (O (anc O s j) / 3) + (j + 1) = _
    refine ⟨?_, by omega, by omega⟩
    by_cases e : O (anc O s j) / 3 = 0
    · rw [e, wl_0] at h4; omega
    · omega
/-- the word by which the state s was met first, where a word was before -/
def fw (O : Nat → Nat) (k s : Nat) (L : Nat → Nat) (p : Nat) : Nat := if p < wl O k s then O (anc O s (wl O k s - 1 - p)) % 3 else L p

theorem nI_sub1 (v : Int32) : v + Int32.ofInt (-1) = v - 1 := by
  rw [show Int32.ofInt (-1) = -1 from rfl, Int32.sub_eq_add_neg]

set_option maxRecDepth 100000 in
theorem lp_X5_writeFirstWord {x : Cx} (hR : xR x = MX5_writeFirstWord.rm) (hmL : (xc x).maxLocals = MX5_writeFirstWord.nL) (C : BX x cX5_writeFirstWord RX5) {k : Nat} {O : Nat → Nat} (hO : ∀ j, 0 < j → j < k → O j / 3 < j) (hO2 : ∀ j, j < k → O j < 3000) (hk4 : k ≤ 384) {s w u : Nat} {L : Nat → Nat} {S0 : pv_M} (hs : s < k) (h12 : wl O k s ≤ 12) (nw : ¬ kM w) (nu : ¬ kM u) (kk : ∀ S Lc at_, WordAt S w u (wl O k s) Lc → mR S 29 5 = some 33 → (∀ i, i < k → mI S 33 i = nI (O i)) → FN (two w u) S0 S → (∀ p, p < 12 → Lc p = fw O k s L p) → GG x 106 0 0 [.ref 29, .int (nI (s)), .ref w, .int (nI (at_)), .int (nI 0 - 1)] [] (S) 54) : ∀ j (S : pv_M) (Lc : Nat → Nat), j ≤ wl O k s → WordAt S w u (wl O k s) Lc → mR S 29 5 = some 33 → (∀ i, i < k → mI S 33 i = nI (O i)) → FN (two w u) S0 S → (∀ p, p < 12 → Lc p = if j ≤ p then fw O k s L p else L p) → GG x 106 0 0 [.ref 29, .int (nI (s)), .ref w, .int (nI (anc O s (wl O k s - j))), .int (nI (j) - 1)] [] (S) 19 := by
  intro j
  induction j with
  | zero =>
    intro S Lc hj hW t5 h33 hf hL
    refine g_iload C dX5_writeFirstWord_19 rfl ?_
    refine g_if_lt C 54 dX5_writeFirstWord_21 (by decide) (fun _ => ?_) (fun h => absurd (show nI 0 - 1 < 0 by decide) h)
    exact kk S Lc _ hW t5 h33 hf (fun p hp => by rw [hL p hp, if_pos (Nat.zero_le p)])
  | succ j ih =>
    intro S Lc hj hW t5 h33 hf hL
    rw [nI_pred]
    obtain ⟨a1, a2, a3⟩ := anc_lt hO hs (wl O k s - (j + 1)) (by omega)
    have a4 := hO2 _ a2
    refine g_iload C dX5_writeFirstWord_19 rfl ?_
    refine g_if_lt C 54 dX5_writeFirstWord_21 (by decide) (fun h => absurd h (nI_pos (by omega))) (fun _ => ?_)
    have n33 : (33 : Nat) ≠ u := fun e => nu (by rw [← e]; decide)
    refine g_aload_n C dX5_writeFirstWord_24 rfl ?_
    refine g_getR C fo_X5_111 dX5_writeFirstWord_25 hW.1 hW.2.1 (fun _ => rfl) hW.2.2.2.2.1 ?_
    refine g_iload C dX5_writeFirstWord_28 rfl ?_
    refine g_aload_n C dX5_writeFirstWord_30 rfl ?_
    refine g_getR C fo_X5_25 dX5_writeFirstWord_31 rfl (by decide) (fun _ => rfl) t5 ?_
    refine g_iload_n C dX5_writeFirstWord_34 rfl ?_
    refine n_iald C dX5_writeFirstWord_35 rfl (by decide) (h33 _ a2) ?_ (by omega)
    refine n_iconst C 3 dX5_writeFirstWord_36 ?_
    refine n_irem C dX5_writeFirstWord_37 ?_
    refine g_iast C dX5_writeFirstWord_38 hW.2.2.1 hW.2.2.2.1 (by omega) rfl ?_
    refine g_aload_n C dX5_writeFirstWord_39 rfl ?_
    refine g_getR C fo_X5_25 dX5_writeFirstWord_40 rfl (by decide) (fun _ => rfl) t5 ?_
    refine g_iload_n C dX5_writeFirstWord_43 rfl ?_
    refine n_iald C dX5_writeFirstWord_44 rfl (by decide) (rI_n n33 (h33 _ a2)) ?_ (by omega)
    refine n_iconst C 3 dX5_writeFirstWord_45 ?_
    refine n_idiv C dX5_writeFirstWord_46 ?_
    refine g_istore_n C (by rw [hmL]; decide) dX5_writeFirstWord_47 [.ref 29, .int (nI (s)), .ref w, .int (nI ((O (anc O s (wl O k s - (j + 1)))) / (3))), .int (nI (j))] rfl ?_
    refine g_iinc C (by rw [hmL]; decide) dX5_writeFirstWord_48 rfl [.ref 29, .int (nI (s)), .ref w, .int (nI ((O (anc O s (wl O k s - (j + 1)))) / (3))), .int (nI (j) - 1)] (by rw [show nI j + Int32.ofInt (-1) = nI j - 1 from nI_sub1 _]; rfl) ?_
    refine g_goto C 19 dX5_writeFirstWord_51 (by decide) ?_
    rw [show O (anc O s (wl O k s - (j + 1))) / 3 = anc O s (wl O k s - j) by rw [show wl O k s - j = wl O k s - (j + 1) + 1 by omega]; rfl]
    refine ih _ _ (by omega) hW.putL t5 (fun i hi => rI_n n33 (h33 i hi)) (hf.tr (FN.wI (Or.inr rfl))) (fun p hp => ?_)
    by_cases e : p = j
    · rw [e, up_same, if_pos (Nat.le_refl _)]
      unfold fw
      rw [if_pos (by omega), show wl O k s - 1 - j = wl O k s - (j + 1) by omega]
    · rw [va_up_ne _ _ e, hL p hp]
      by_cases e2 : j + 1 ≤ p
      · rw [if_pos e2, if_pos (by omega)]
      · rw [if_neg e2, if_neg (by omega)]

set_option maxRecDepth 100000 in
theorem c_X5_writeFirstWord (l : Launch) {S : pv_M} {w u m s : Nat} {L : Nat → Nat} (hW : WordAt S w u m L) (t5 : mR S 29 5 = some 33) {k : Nat} {O : Nat → Nat} (hO : ∀ j, 0 < j → j < k → O j / 3 < j) (hO2 : ∀ j, j < k → O j < 3000) (hk4 : k ≤ 384) (h33 : ∀ i, i < k → mI S 33 i = nI (O i)) (hs : s < k) (h12 : wl O k s ≤ 12) (nw : ¬ kM w) (nu : ¬ kM u) : mt l MX5_writeFirstWord 106 [.ref 29, .int (nI (s)), .ref w] S (fun v S' => v = none ∧ WordAt S' w u (wl O k s) (fw O k s L) ∧ FN (two w u) S S') := by
  refine mt_of (by decide) (Nat.le_of_ble_eq_true rfl) ?_
  intro x hl hR hmL C E
  show GG x 106 0 0 [.ref 29, .int (nI (s)), .ref w, unk, unk] [] S 0
  refine g_aload_n C dX5_writeFirstWord_0 rfl ?_
  refine g_aload_n C dX5_writeFirstWord_1 rfl ?_
  refine g_iload_n C dX5_writeFirstWord_2 rfl ?_
  refine g_callV C (As := [.int (nI (s))]) (c_X5_firstWordLength _ t5 h33 hO hO2 hk4 hs) vo_X5_102 dX5_writeFirstWord_3 rfl rfl (by decide) rfl (rm_ok (M' := MX5_writeFirstWord) hR (by decide)) (Nat.le_of_ble_eq_true rfl) (fun v9 S9 h9 => ?_)
  obtain ⟨rfl, h9⟩ := h9
  refine g_S S h9 ?_
  refine g_n0 [.int (nI (wl O k s)), .ref w] rfl rfl rfl ?_
  refine g_putI C fo_X5_106 dX5_writeFirstWord_6 hW.1 hW.2.1 rfl ?_
  refine g_iload_n C dX5_writeFirstWord_9 rfl ?_
  refine g_istore_n C (by rw [hmL]; decide) dX5_writeFirstWord_10 [.ref 29, .int (nI (s)), .ref w, .int (nI (s)), unk] rfl ?_
  have n33 : (33 : Nat) ≠ w := fun e => nw (by rw [← e]; decide)
  refine g_aload_n C dX5_writeFirstWord_11 rfl ?_
  refine g_getI C fo_X5_106 dX5_writeFirstWord_12 hW.1 hW.2.1 (fun _ => rfl) rI_s ?_
  refine g_iconst C 1 dX5_writeFirstWord_15 (by decide) ?_
  refine g_isub C dX5_writeFirstWord_16 ?_
  refine g_istore C (by rw [hmL]; decide) dX5_writeFirstWord_17 [.ref 29, .int (nI s), .ref w, .int (nI s), .int (nI (wl O k s) - 1)] rfl ?_
  have key := lp_X5_writeFirstWord hR hmL C hO hO2 hk4 (L := L) (S0 := S) hs h12 nw nu (fun S1 Lc at_ hW1 q1 q2 q3 q4 => g_vret C E dX5_writeFirstWord_54 (by rw [hR]; decide) (by rw [hR]; decide) ⟨rfl, hW1.ext q4, q3⟩) (wl O k s) _ L (Nat.le_refl _) (hW.putN h12) t5 (fun i hi => rI_n n33 (h33 i hi)) (FN.wI (Or.inl rfl)) (fun p hp => by
    by_cases e : wl O k s ≤ p
    · rw [if_pos e]
      unfold fw
      rw [if_neg (by omega)]
    · rw [if_neg e])
  rw [Nat.sub_self] at key
  exact key
