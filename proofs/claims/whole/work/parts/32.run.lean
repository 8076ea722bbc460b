def KN (S : pv_M) (k : Nat) (kd : Nat → Nat) : Prop := (KdAt S 35 36 ∧ ∀ j, j < k → mI S 35 j = nI (kd j)) ∨ (KdAt S 36 35 ∧ ∀ j, j < k → mI S 36 j = nI (kd j))
def KR (S : pv_M) : Prop := mR S 26 1 = some 27 ∧ mR S 26 2 = some 28

set_option maxRecDepth 100000 in
theorem c_X5_splitByTargets_a (l : Launch) {S : pv_M} {k c : Nat} {nx kd : Nat → Nat} {ac : Nat → Bool} (hG : Gr S k nx ac) (hK : KdAt S 35 36) (hkd : ∀ j, j < k → mI S 35 j = nI (kd j)) (h384 : ∀ j, j < k → kd j < 384) (hKR : KR S) (hc : mI S 29 7 = nI c) (hc9 : c < 1000) : mt l MX5_splitByTargets 106 [.ref 29] S (fun v S' => v = some (.int (bI (decide (c < (foL (kval kd nx) k).length)))) ∧ Gr S' k nx ac ∧ KdAt S' 36 35 ∧ FR kM S S' ∧ KR S' ∧ mI S' 29 7 = nI (foL (kval kd nx) k).length ∧ (∀ j, j < k → mI S' 36 j = nI (kref k nx kd j)) ∧ ∀ j, j < k → mI S' 33 j = mI S 33 j) := by
  have hk4 := hG.2.2.2.1
  refine mt_of (by decide) (Nat.le_of_ble_eq_true rfl) ?_
  intro x hl hR hmL C E
  show GG x 106 0 0 [.ref 29, unk, unk, unk, unk] [] S 0
  refine g_aload_n C dX5_splitByTargets_0 rfl ?_
  refine g_getR C fo_X5_41 dX5_splitByTargets_1 rfl (by decide) (fun _ => rfl) hG.1.1 ?_
  refine g_aload_n C dX5_splitByTargets_4 rfl ?_
  refine g_getI C fo_X5_9 dX5_splitByTargets_5 rfl (by decide) (fun _ => rfl) hG.2.1 ?_
  refine g_callV C (As := [.int (nI (k))]) (c_X3_begin _ hKR.1 hKR.2 (by omega)) vo_X5_76 dX5_splitByTargets_8 rfl rfl (by decide) rfl (rm_ok (M' := MX5_splitByTargets) hR (by decide)) (Nat.le_of_ble_eq_true rfl) (fun v9 S9 h9 => ?_)
  obtain ⟨rfl, f0, e, he, hee, hT⟩ := h9
  refine g_n0 [] rfl rfl rfl ?_
  refine n_iconst C 0 dX5_splitByTargets_11 ?_
  refine g_istore_n C (by rw [hmL]; decide) dX5_splitByTargets_12 [.ref 29, .int (nI (0)), unk, unk, unk] rfl ?_
  have hke : k < 2 ^ e := by
    have := pow_e e he
    rcases hee with h | h
    · have := hG.2.2.1; omega
    · subst h; have : 2 ^ 10 = 1024 := by decide
      omega
  have q29 : mI S9 29 = mI S 29 := (f0.2 29 (by decide)).1
  have f0' : FN kM S S9 := f0.mono (fun r hr => by rcases hr with rfl | rfl | rfl <;> decide)
  refine lp_X5_splitByTargets_13a hR hmL C (S0 := S) (k := k) (nx := nx) (kd := kd) (ac := ac) (e := e) h384 hke (fun S1 g1 g2 g3 g4 g5 g6 g7 g8 => ?_) k 0 S9 (by omega) (hG.keep (P := kM) (by rw [f0.1]) (by rw [q29]) (f0.2 32 (by decide)).1 (f0.2 34 (by decide)).1) ⟨by rw [f0.1]; exact hK.1, by rw [f0.1]; exact hK.2⟩ (fun j hj => by rw [(f0.2 35 (by decide)).1]; exact hkd j hj) f0' (by rw [q29]) (hT.ext (fun i hi => absurd hi (Nat.not_lt_zero i))) (fun j hj => absurd hj (Nat.not_lt_zero j)) (fun j hj => by rw [(f0.2 33 (by decide)).1])
  have hlen := foL_len (kval kd nx) k
  have g5c : mI S1 29 7 = nI c := by rw [g5]; exact hc
  
  refine g_aload_n C dX5_splitByTargets_88 rfl ?_
  refine g_getR C fo_X5_35 dX5_splitByTargets_89 rfl (by decide) (fun _ => rfl) g2.1 ?_
  refine g_astore_n C (by rw [hmL]; decide) dX5_splitByTargets_92 [.ref 29, .ref 35, unk, unk, unk] rfl ?_
  refine g_aload_n C dX5_splitByTargets_93 rfl ?_
  refine g_aload_n C dX5_splitByTargets_94 rfl ?_
  refine g_getR C fo_X5_38 dX5_splitByTargets_95 rfl (by decide) (fun _ => rfl) g2.2 ?_
  refine g_putR C fo_X5_35 dX5_splitByTargets_98 rfl (by decide) (by decide) (Or.inr ⟨_, rfl⟩) ?_
  refine g_aload_n C dX5_splitByTargets_101 rfl ?_
  refine g_aload_n C dX5_splitByTargets_102 rfl ?_
  refine g_putR C fo_X5_38 dX5_splitByTargets_103 rfl (by decide) (by decide) (Or.inr ⟨_, rfl⟩) ?_
  refine g_aload_n C dX5_splitByTargets_106 rfl ?_
  refine g_getR C fo_X5_41 dX5_splitByTargets_107 rfl (by decide) (fun _ => rfl) g1.1.1 ?_
  refine g_getI C fo_X5_88 dX5_splitByTargets_110 rfl (by decide) (fun _ => rfl) g6.2.1 ?_
  refine g_aload_n C dX5_splitByTargets_113 rfl ?_
  refine g_getI C fo_X5_32 dX5_splitByTargets_114 rfl (by decide) (fun _ => rfl) g5c ?_
  suffices K125 : GG x 106 0 0 [.ref 29, .ref 35, unk, unk, unk] [.int (bI (decide (c < (foL (kval kd nx) k).length)))] (wR (wR S1 29 (va_up (mR S1 29) 8 (some 36))) 29 (va_up (mR (wR S1 29 (va_up (mR S1 29) 8 (some 36))) 29) 9 (some 35))) 125 from by
    refine n_ic_le C 124 dX5_splitByTargets_117 (fun h117 => ?_) (fun h117 => ?_)
    · refine n_iconst C 0 dX5_splitByTargets_124 ?_
      rw [decide_eq_false (by omega)] at K125
      exact K125
    · refine n_iconst C 1 dX5_splitByTargets_120 ?_
      refine g_goto C 125 dX5_splitByTargets_121 (by decide) ?_
      rw [decide_eq_true (by omega)] at K125
      exact K125
  refine g_istore_n C (by rw [hmL]; decide) dX5_splitByTargets_125 [.ref 29, .ref 35, .int (bI (decide (c < (foL (kval kd nx) k).length))), unk, unk] rfl ?_
  refine g_aload_n C dX5_splitByTargets_126 rfl ?_
  refine g_aload_n C dX5_splitByTargets_127 rfl ?_
  refine g_getR C fo_X5_41 dX5_splitByTargets_128 rfl (by decide) (fun _ => rfl) g1.1.1 ?_
  refine g_getI C fo_X5_88 dX5_splitByTargets_131 rfl (by decide) (fun _ => rfl) g6.2.1 ?_
  refine g_putI C fo_X5_32 dX5_splitByTargets_134 rfl (by decide) rfl ?_
  refine g_iload_n C dX5_splitByTargets_137 rfl ?_
  refine g_zret C E dX5_splitByTargets_138 (bI_01 _) (by rw [hR]; decide) (by rw [hR]; decide) ⟨rfl, ⟨g1.1, g1.2⟩, ⟨rfl, rfl⟩, (g4.fr.tr ((FR.wR (by decide)).tr (FR.wR (by decide)))).tr (FN.wI (by decide)).fr, ?_, rfl, g7, g8⟩
  show mR S1 26 1 = some 27 ∧ mR S1 26 2 = some 28
  rw [g4.1]
  exact hKR

set_option maxRecDepth 100000 in
theorem c_X5_splitByTargets_b (l : Launch) {S : pv_M} {k c : Nat} {nx kd : Nat → Nat} {ac : Nat → Bool} (hG : Gr S k nx ac) (hK : KdAt S 36 35) (hkd : ∀ j, j < k → mI S 36 j = nI (kd j)) (h384 : ∀ j, j < k → kd j < 384) (hKR : KR S) (hc : mI S 29 7 = nI c) (hc9 : c < 1000) : mt l MX5_splitByTargets 106 [.ref 29] S (fun v S' => v = some (.int (bI (decide (c < (foL (kval kd nx) k).length)))) ∧ Gr S' k nx ac ∧ KdAt S' 35 36 ∧ FR kM S S' ∧ KR S' ∧ mI S' 29 7 = nI (foL (kval kd nx) k).length ∧ (∀ j, j < k → mI S' 35 j = nI (kref k nx kd j)) ∧ ∀ j, j < k → mI S' 33 j = mI S 33 j) := by
  have hk4 := hG.2.2.2.1
  refine mt_of (by decide) (Nat.le_of_ble_eq_true rfl) ?_
  intro x hl hR hmL C E
  show GG x 106 0 0 [.ref 29, unk, unk, unk, unk] [] S 0
  refine g_aload_n C dX5_splitByTargets_0 rfl ?_
  refine g_getR C fo_X5_41 dX5_splitByTargets_1 rfl (by decide) (fun _ => rfl) hG.1.1 ?_
  refine g_aload_n C dX5_splitByTargets_4 rfl ?_
  refine g_getI C fo_X5_9 dX5_splitByTargets_5 rfl (by decide) (fun _ => rfl) hG.2.1 ?_
  refine g_callV C (As := [.int (nI (k))]) (c_X3_begin _ hKR.1 hKR.2 (by omega)) vo_X5_76 dX5_splitByTargets_8 rfl rfl (by decide) rfl (rm_ok (M' := MX5_splitByTargets) hR (by decide)) (Nat.le_of_ble_eq_true rfl) (fun v9 S9 h9 => ?_)
  obtain ⟨rfl, f0, e, he, hee, hT⟩ := h9
  refine g_n0 [] rfl rfl rfl ?_
  refine n_iconst C 0 dX5_splitByTargets_11 ?_
  refine g_istore_n C (by rw [hmL]; decide) dX5_splitByTargets_12 [.ref 29, .int (nI (0)), unk, unk, unk] rfl ?_
  have hke : k < 2 ^ e := by
    have := pow_e e he
    rcases hee with h | h
    · have := hG.2.2.1; omega
    · subst h; have : 2 ^ 10 = 1024 := by decide
      omega
  have q29 : mI S9 29 = mI S 29 := (f0.2 29 (by decide)).1
  have f0' : FN kM S S9 := f0.mono (fun r hr => by rcases hr with rfl | rfl | rfl <;> decide)
  refine lp_X5_splitByTargets_13b hR hmL C (S0 := S) (k := k) (nx := nx) (kd := kd) (ac := ac) (e := e) h384 hke (fun S1 g1 g2 g3 g4 g5 g6 g7 g8 => ?_) k 0 S9 (by omega) (hG.keep (P := kM) (by rw [f0.1]) (by rw [q29]) (f0.2 32 (by decide)).1 (f0.2 34 (by decide)).1) ⟨by rw [f0.1]; exact hK.1, by rw [f0.1]; exact hK.2⟩ (fun j hj => by rw [(f0.2 36 (by decide)).1]; exact hkd j hj) f0' (by rw [q29]) (hT.ext (fun i hi => absurd hi (Nat.not_lt_zero i))) (fun j hj => absurd hj (Nat.not_lt_zero j)) (fun j hj => by rw [(f0.2 33 (by decide)).1])
  have hlen := foL_len (kval kd nx) k
  have g5c : mI S1 29 7 = nI c := by rw [g5]; exact hc
  
  refine g_aload_n C dX5_splitByTargets_88 rfl ?_
  refine g_getR C fo_X5_35 dX5_splitByTargets_89 rfl (by decide) (fun _ => rfl) g2.1 ?_
  refine g_astore_n C (by rw [hmL]; decide) dX5_splitByTargets_92 [.ref 29, .ref 36, unk, unk, unk] rfl ?_
  refine g_aload_n C dX5_splitByTargets_93 rfl ?_
  refine g_aload_n C dX5_splitByTargets_94 rfl ?_
  refine g_getR C fo_X5_38 dX5_splitByTargets_95 rfl (by decide) (fun _ => rfl) g2.2 ?_
  refine g_putR C fo_X5_35 dX5_splitByTargets_98 rfl (by decide) (by decide) (Or.inr ⟨_, rfl⟩) ?_
  refine g_aload_n C dX5_splitByTargets_101 rfl ?_
  refine g_aload_n C dX5_splitByTargets_102 rfl ?_
  refine g_putR C fo_X5_38 dX5_splitByTargets_103 rfl (by decide) (by decide) (Or.inr ⟨_, rfl⟩) ?_
  refine g_aload_n C dX5_splitByTargets_106 rfl ?_
  refine g_getR C fo_X5_41 dX5_splitByTargets_107 rfl (by decide) (fun _ => rfl) g1.1.1 ?_
  refine g_getI C fo_X5_88 dX5_splitByTargets_110 rfl (by decide) (fun _ => rfl) g6.2.1 ?_
  refine g_aload_n C dX5_splitByTargets_113 rfl ?_
  refine g_getI C fo_X5_32 dX5_splitByTargets_114 rfl (by decide) (fun _ => rfl) g5c ?_
  suffices K125 : GG x 106 0 0 [.ref 29, .ref 36, unk, unk, unk] [.int (bI (decide (c < (foL (kval kd nx) k).length)))] (wR (wR S1 29 (va_up (mR S1 29) 8 (some 35))) 29 (va_up (mR (wR S1 29 (va_up (mR S1 29) 8 (some 35))) 29) 9 (some 36))) 125 from by
    refine n_ic_le C 124 dX5_splitByTargets_117 (fun h117 => ?_) (fun h117 => ?_)
    · refine n_iconst C 0 dX5_splitByTargets_124 ?_
      rw [decide_eq_false (by omega)] at K125
      exact K125
    · refine n_iconst C 1 dX5_splitByTargets_120 ?_
      refine g_goto C 125 dX5_splitByTargets_121 (by decide) ?_
      rw [decide_eq_true (by omega)] at K125
      exact K125
  refine g_istore_n C (by rw [hmL]; decide) dX5_splitByTargets_125 [.ref 29, .ref 36, .int (bI (decide (c < (foL (kval kd nx) k).length))), unk, unk] rfl ?_
  refine g_aload_n C dX5_splitByTargets_126 rfl ?_
  refine g_aload_n C dX5_splitByTargets_127 rfl ?_
  refine g_getR C fo_X5_41 dX5_splitByTargets_128 rfl (by decide) (fun _ => rfl) g1.1.1 ?_
  refine g_getI C fo_X5_88 dX5_splitByTargets_131 rfl (by decide) (fun _ => rfl) g6.2.1 ?_
  refine g_putI C fo_X5_32 dX5_splitByTargets_134 rfl (by decide) rfl ?_
  refine g_iload_n C dX5_splitByTargets_137 rfl ?_
  refine g_zret C E dX5_splitByTargets_138 (bI_01 _) (by rw [hR]; decide) (by rw [hR]; decide) ⟨rfl, ⟨g1.1, g1.2⟩, ⟨rfl, rfl⟩, (g4.fr.tr ((FR.wR (by decide)).tr (FR.wR (by decide)))).tr (FN.wI (by decide)).fr, ?_, rfl, g7, g8⟩
  show mR S1 26 1 = some 27 ∧ mR S1 26 2 = some 28
  rw [g4.1]
  exact hKR

theorem mt_post {l : Launch} {M : Me} {N : Nat} {As : List Value} {S : pv_M} {post post' : Option Value → pv_M → Prop} (h : mt l M N As S post) (k : ∀ v S', post v S' → post' v S') : mt l M N As S post' := by
  intro D ay b α sz
  have h0 := h D ay b α sz
  unfold Met MetFree at h0 ⊢
  intro p e a1 a2 a3 s m args below a4 a5 a6 a7
  obtain ⟨n, o, b1, b2, b3, ⟨⟨r, S', h1, h2, h3⟩, h4⟩, b5⟩ := h0 p e a1 a2 a3 s m args below a4 a5 a6 a7
  exact ⟨n, o, b1, b2, b3, ⟨⟨r, S', h1, k r S' h2, h3⟩, h4⟩, b5⟩

theorem c_X5_splitByTargets (l : Launch) {S : pv_M} {k c : Nat} {nx kd : Nat → Nat} {ac : Nat → Bool} (hG : Gr S k nx ac) (hK : KN S k kd) (h384 : ∀ j, j < k → kd j < 384) (hKR : KR S) (hc : mI S 29 7 = nI c) (hc9 : c < 1000) : mt l MX5_splitByTargets 106 [.ref 29] S (fun v S' => v = some (.int (bI (decide (c < (foL (kval kd nx) k).length)))) ∧ Gr S' k nx ac ∧ KN S' k (kref k nx kd) ∧ FR kM S S' ∧ KR S' ∧ mI S' 29 7 = nI (foL (kval kd nx) k).length ∧ ∀ j, j < k → mI S' 33 j = mI S 33 j) := by
  rcases hK with ⟨h1, h2⟩ | ⟨h1, h2⟩
  · exact mt_post (c_X5_splitByTargets_a l hG h1 h2 h384 hKR hc hc9) (fun v S' q => ⟨q.1, q.2.1, Or.inr ⟨q.2.2.1, q.2.2.2.2.2.2.1⟩, q.2.2.2.1, q.2.2.2.2.1, q.2.2.2.2.2.1, q.2.2.2.2.2.2.2⟩)
  · exact mt_post (c_X5_splitByTargets_b l hG h1 h2 h384 hKR hc hc9) (fun v S' q => ⟨q.1, q.2.1, Or.inl ⟨q.2.2.1, q.2.2.2.2.2.2.1⟩, q.2.2.2.1, q.2.2.2.2.1, q.2.2.2.2.2.1, q.2.2.2.2.2.2.2⟩)
theorem c_X5_splitByAcceptance (l : Launch) {S : pv_M} {k : Nat} {nx : Nat → Nat} {ac : Nat → Bool} (hG : Gr S k nx ac) (hK : KdAt S 35 36 ∨ KdAt S 36 35) : mt l MX5_splitByAcceptance 106 [.ref 29] S (fun v S' => v = none ∧ Gr S' k nx ac ∧ KN S' k (kd0 ac) ∧ FN kM S S' ∧ mI S' 29 7 = nI (if cls (kd0 ac) k = 2 then 2 else 1) ∧ ∀ j, j < k → mI S' 33 j = mI S 33 j) := by
  rcases hK with h1 | h1
  · exact mt_post (c_X5_splitByAcceptance_a l hG h1) (fun v S' q => ⟨q.1, q.2.1, Or.inl ⟨q.2.2.1, q.2.2.2.2.2.1⟩, q.2.2.2.1, q.2.2.2.2.1, q.2.2.2.2.2.2⟩)
  · exact mt_post (c_X5_splitByAcceptance_b l hG h1) (fun v S' q => ⟨q.1, q.2.1, Or.inr ⟨q.2.2.1, q.2.2.2.2.2.1⟩, q.2.2.2.1, q.2.2.2.2.1, q.2.2.2.2.2.2⟩)
/-- the refinements one after the other, and how many kinds each has -/
def kds (k : Nat) (nx : Nat → Nat) (ac : Nat → Bool) : Nat → Nat → Nat
  | 0 => kd0 ac
  | r + 1 => kref k nx (kds k nx ac r)
def cn (k : Nat) (nx : Nat → Nat) (ac : Nat → Bool) : Nat → Nat
  | 0 => if cls (kd0 ac) k = 2 then 2 else 1
  | r + 1 => (foL (kval (kds k nx ac r) nx) k).length
theorem kds_lt {k : Nat} {nx : Nat → Nat} {ac : Nat → Bool} (hk : k ≤ 384) : ∀ r j, j < k → kds k nx ac r j < 384
  | 0, j, hj => by
    show kd0 ac j < 384
    unfold kd0
    by_cases e : ac j = ac 0
    · rw [if_pos e]; decide
    · rw [if_neg e]; decide
  | r + 1, j, hj => by
    show (foL (kval (kds k nx ac r) nx) k).idxOf (kval (kds k nx ac r) nx j) < 384
    have h1 := idx_lt (foL_mem (v := kval (kds k nx ac r) nx) hj)
    have h2 := foL_len (kval (kds k nx ac r) nx) k
    omega
theorem cn_lt {k : Nat} {nx : Nat → Nat} {ac : Nat → Bool} (hk : k ≤ 384) : ∀ r, cn k nx ac r < 1000
  | 0 => by
    show (if cls (kd0 ac) k = 2 then 2 else 1) < 1000
    by_cases e : cls (kd0 ac) k = 2
    · rw [if_pos e]; decide
    · rw [if_neg e]; decide
  | r + 1 => by
    have h2 := foL_len (kval (kds k nx ac r) nx) k
    show (foL (kval (kds k nx ac r) nx) k).length < 1000
    omega
/-- the minimizer in round r -/
def RunAt (S0 S : pv_M) (k : Nat) (nx : Nat → Nat) (ac : Nat → Bool) (r : Nat) : Prop := Gr S k nx ac ∧ KN S k (kds k nx ac r) ∧ FR kM S0 S ∧ KR S ∧ mI S 29 7 = nI (cn k nx ac r) ∧ ∀ j, j < k → mI S 33 j = mI S0 33 j
/-- where the rounds stop -/
def stopAt (k : Nat) (nx : Nat → Nat) (ac : Nat → Bool) (r : Nat) : Prop := r = 384 ∨ (∃ r', r = r' + 1 ∧ ¬ cn k nx ac r' < cn k nx ac r) ∨ k ≤ cn k nx ac r

set_option maxRecDepth 100000 in
theorem lp_X5_run {x : Cx} (hR : xR x = MX5_run.rm) (hmL : (xc x).maxLocals = MX5_run.nL) (C : BX x cX5_run RX5) {m k : Nat} {nx : Nat → Nat} {ac : Nat → Bool} {S0 : pv_M} (kk : ∀ S r g, RunAt S0 S k nx ac r → stopAt k nx ac r → GG x 106 0 0 [.ref 29, .ref m, .int (bI (g)), .int (nI (r))] [] (S) 46) : ∀ z r g (S : pv_M), r + z = 384 → RunAt S0 S k nx ac r → (g = false → ∃ r', r = r' + 1 ∧ ¬ cn k nx ac r' < cn k nx ac r) → GG x 106 0 0 [.ref 29, .ref m, .int (bI (g)), .int (nI (r))] [] (S) 13 := by
  intro z
  induction z with
  | zero =>
    intro r g S hz hA hg
    obtain rfl : r = 384 := by omega
    refine g_iload_n C dX5_run_13 rfl ?_
    refine n_sipush C 384 dX5_run_14 ?_
    refine n_ic_ge C 46 dX5_run_17 (fun h17 => ?_) (fun h17 => absurd h17 (by omega))
    exact kk S 384 g hA (Or.inl rfl)
  | succ z ih =>
    intro r g S hz hA hg
    obtain ⟨h1, h2, h3, h4, h5, h6⟩ := id hA
    have hk4 := h1.2.2.2.1
    have hcn := cn_lt (nx := nx) (ac := ac) hk4 r
    refine g_iload_n C dX5_run_13 rfl ?_
    refine n_sipush C 384 dX5_run_14 ?_
    refine n_ic_ge C 46 dX5_run_17 (fun h17 => absurd h17 (by omega)) (fun h17 => ?_)
    refine g_iload_n C dX5_run_20 rfl ?_
    refine b_if_eq C 46 dX5_run_21 (fun h21 => ?_) (fun h21 => ?_)
    · first | exact kk S r g hA (Or.inr (Or.inl (hg h21))) | exact kk S r g hA (Or.inr (Or.inr h32))
    · refine g_aload_n C dX5_run_24 rfl ?_
      refine g_getI C fo_X5_32 dX5_run_25 rfl (by decide) (fun _ => rfl) h5 ?_
      refine g_aload_n C dX5_run_28 rfl ?_
      refine g_getI C fo_X5_9 dX5_run_29 rfl (by decide) (fun _ => rfl) h1.2.1 ?_
      refine n_ic_ge C 46 dX5_run_32 (fun h32 => ?_) (fun h32 => ?_)
      · first | exact kk S r g hA (Or.inr (Or.inl (hg h21))) | exact kk S r g hA (Or.inr (Or.inr h32))
      · refine g_aload_n C dX5_run_35 rfl ?_
        refine g_callV C (As := []) (c_X5_splitByTargets _ h1 h2 (kds_lt hk4 r) h4 h5 hcn) vo_X5_52 dX5_run_36 rfl rfl (by decide) rfl (rm_ok (M' := MX5_run) hR (by decide)) (Nat.le_of_ble_eq_true rfl) (fun v9 S9 h9 => ?_)
        obtain ⟨rfl, g1, g2, g3, g4, g5, g6⟩ := h9
        refine g_n0 [.int (bI (decide (cn k nx ac r < (foL (kval (kds k nx ac r) nx) k).length)))] rfl rfl rfl ?_
        refine g_istore_n C (by rw [hmL]; decide) dX5_run_39 [.ref 29, .ref m, .int (bI (decide (cn k nx ac r < (foL (kval (kds k nx ac r) nx) k).length))), .int (nI (r))] rfl ?_
        refine n_iinc C (by rw [hmL]; decide) dX5_run_40 rfl (n_i1 _) [.ref 29, .ref m, .int (bI (decide (cn k nx ac r < (foL (kval (kds k nx ac r) nx) k).length))), .int (nI (r + 1))] ?_
        refine g_goto C 13 dX5_run_43 (by decide) ?_
        exact ih (r + 1) _ S9 (by omega) ⟨g1, g2, h3.tr g3, g4, g5, fun j hj => by rw [g6 j hj]; exact h6 j hj⟩ (fun q => ⟨r, rfl, of_decide_eq_false q⟩)

set_option maxRecDepth 100000 in
/-- what minimizing leaves: the graph of the machine, and the kinds of a round where it stopped -/
def MinP (δ : Nat → Nat → Nat) (acc : Nat → Bool) (Dm : Nat → Prop) (S S' : pv_M) (R : List Nat) (r : Nat) : Prop := Expl δ acc Dm S' R ∧ KN S' R.length (kds R.length (nxt δ R) (fun i => acc (R.getD i 0)) r) ∧ FR kM S S' ∧ KR S' ∧ mI S' 29 7 = nI (cn R.length (nxt δ R) (fun i => acc (R.getD i 0)) r) ∧ stopAt R.length (nxt δ R) (fun i => acc (R.getD i 0)) r
theorem c_X5_run (l : Launch) {S : pv_M} {m B c0 : Nat} {δ : Nat → Nat → Nat} {acc : Nat → Bool} {Dm : Nat → Prop} {P : pv_M → Prop} (hMa : Mach l m B c0 δ acc Dm P) (hP0 : P S) (hMR : MRf S) (hKX : KdAt S 35 36 ∨ KdAt S 36 35) (hKR : KR S) : mt l MX5_run 106 [.ref 29, .ref m] S (fun v S' => ∃ r, v = some (.int (nI (cn (bfsF δ B 0 [c0]).length (nxt δ (bfsF δ B 0 [c0])) (fun i => acc ((bfsF δ B 0 [c0]).getD i 0)) r))) ∧ MinP δ acc Dm S S' (bfsF δ B 0 [c0]) r) := by
  refine mt_of (by decide) (Nat.le_of_ble_eq_true rfl) ?_
  intro x hl hR hmL C E
  subst hl
  show GG x 106 0 0 [.ref 29, .ref m, unk, unk] [] S 0
  refine g_aload_n C dX5_run_0 rfl ?_
  refine g_aload_n C dX5_run_1 rfl ?_
  refine g_callV C (As := [.ref m]) (c_X5_explore _ hMa hP0 hMR) vo_X5_45 dX5_run_2 rfl rfl (by decide) rfl (rm_ok (M' := MX5_run) hR (by decide)) (Nat.le_of_ble_eq_true rfl) (fun v9 S9 h9 => ?_)
  obtain ⟨rfl, f1, e1, e2, e3, e4, O, e5, e6⟩ := h9
  obtain ⟨S1, rfl⟩ : ∃ z, z = S9 := ⟨_, rfl⟩
  refine g_n0 [] rfl rfl rfl ?_
  refine g_aload_n C dX5_run_5 rfl ?_
  refine g_callV C (As := []) (c_X5_splitByAcceptance _ e1 (hKX.imp (fun h => ⟨by rw [f1.1]; exact h.1, by rw [f1.1]; exact h.2⟩) (fun h => ⟨by rw [f1.1]; exact h.1, by rw [f1.1]; exact h.2⟩))) vo_X5_49 dX5_run_6 rfl rfl (by decide) rfl (rm_ok (M' := MX5_run) hR (by decide)) (Nat.le_of_ble_eq_true rfl) (fun v9 S9 h9 => ?_)
  obtain ⟨rfl, g1, g2, g3, g4, g5⟩ := h9
  refine g_n0 [] rfl rfl rfl ?_
  refine n_iconst C 1 dX5_run_9 ?_
  refine g_istore_n C (by rw [hmL]; decide) dX5_run_10 [.ref 29, .ref m, .int (nI (1)), unk] rfl ?_
  refine n_iconst C 0 dX5_run_11 ?_
  refine g_istore_n C (by rw [hmL]; decide) dX5_run_12 [.ref 29, .ref m, .int (nI (1)), .int (nI (0))] rfl ?_
  have hKR9 : KR S9 := by unfold KR; rw [g3.1, f1.1]; exact hKR
  refine lp_X5_run hR hmL C (S0 := S1) (fun S2 r g hA hst => ?_) 384 0 true S9 rfl ⟨g1, g2, g3.fr, hKR9, g4, g5⟩ (fun q => Bool.noConfusion q)
  obtain ⟨a1, a2, a3, a4, a5, a6⟩ := hA
  refine g_aload_n C dX5_run_46 rfl ?_
  refine g_getI C fo_X5_32 dX5_run_47 rfl (by decide) (fun _ => rfl) a5 ?_
  exact g_iret C E dX5_run_50 (by rw [hR]; decide) (by rw [hR]; decide) ⟨r, rfl, ⟨a1, e2, e3, e4, O, e5, fun i hi => by rw [a6 i hi]; exact e6 i hi⟩, a2, f1.fr.tr a3, a4, a5, hst⟩
