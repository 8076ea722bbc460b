theorem AtP.cnt {A : Ab} {a : Nat} {L : List Nat} {P : Nat} (h : AtP A a L P) : L.length = (AL A a).length := by
  apply Nat.le_antisymm
  · refine fb_holes _ _ (fun i => (AL A a).idxOf (L.getD i 0)) (fun i hi => idx_lt (h.at hi)) (fun i j hij hj e => ?_)
    have e : (AL A a).idxOf (L.getD i 0) = (AL A a).idxOf (L.getD j 0) := e
    have e1 := getD_idx (h.at (show i < L.length by omega))
    have e2 := getD_idx (h.at hj)
    rw [e, e2] at e1
    have z1 := idx_getD h.1 (show i < L.length by omega)
    have z2 := idx_getD h.1 hj
    rw [e1] at z2
    omega
  · have hm : ∀ i, i < (AL A a).length → (AL A a).getD i 0 ∈ L := fun i hi => (h.2.1 _).mpr (getD_mem hi)
    refine fb_holes _ _ (fun i => L.idxOf ((AL A a).getD i 0)) (fun i hi => idx_lt (hm i hi)) (fun i j hij hj e => ?_)
    have e : L.idxOf ((AL A a).getD i 0) = L.idxOf ((AL A a).getD j 0) := e
    have e1 := getD_idx (hm i (by omega))
    have e2 := getD_idx (hm j hj)
    rw [e, e2] at e1
    have z1 := idx_getD (AL_nodup (A := A) (a := a)) (show i < (AL A a).length by omega)
    have z2 := idx_getD (AL_nodup (A := A) (a := a)) hj
    rw [e1] at z2
    omega

set_option maxRecDepth 100000 in
theorem c_atomCount (l : Launch) {S : pv_M} {A : Ab} (hC : CSt S A) {j : Nat} (hj : j < 3) (gj : gdR (A.1.1 j)) : mt l MX11_atomCount 106 [.ref 0, .int (nI (j))] S (fun v S' => v = some (.int (nI ((AL A j).length))) ∧ CSt S' A ∧ FR cC S S') := by
  refine mt_of (by decide) (Nat.le_of_ble_eq_true rfl) ?_
  intro x hl hR hmL C E
  show GG x 106 0 0 [.ref 0, .int (nI (j))] [] S 0
  refine g_aload_n C dX11_atomCount_0 rfl ?_
  refine g_iload_n C dX11_atomCount_1 rfl ?_
  refine g_callV C (As := [.int (nI (j))]) (c_findAtoms _ hC hj gj) vo_X11_159 dX11_atomCount_2 rfl rfl (by decide) rfl (rm_ok (M' := MX11_atomCount) hR (by decide)) (Nat.le_of_ble_eq_true rfl) (fun v9 S6 h9 => ?_)
  obtain ⟨rfl, hC6, hF6, L, P, c6, p6, w6, o6⟩ := h9
  have hS6 := hC6.1
  have hcn := p6.cnt
  have h64 := AL_len (A := A) (a := j)
  refine g_n0 [] rfl rfl rfl ?_
  refine g_aload_n C dX11_atomCount_5 rfl ?_
  refine g_getR C fo_X11_84 dX11_atomCount_6 rfl (by decide) (fun _ => rfl) (gs_0_10 hS6) ?_
  refine g_getI C fo_X11_162 dX11_atomCount_9 rfl (by decide) (fun _ => rfl) (c6.2.2.2.1.trans (by rw [hcn])) ?_
  exact g_iret C E dX11_atomCount_12 (by rw [hR]; decide) (by rw [hR]; decide) ⟨rfl, hC6, hF6⟩

set_option maxRecDepth 100000 in
theorem c_atomSet (l : Launch) {S : pv_M} {A : Ab} (hC : CSt S A) {j : Nat} (hj : j < 3) (gj : gdR (A.1.1 j)) {p : Nat} (hp : p < (AL A j).length) : mt l MX11_atomSet 106 [.ref 0, .int (nI (j)), .int (nI (p))] S (fun v S' => v = some (.int (nI ((AL A j).getD p 0))) ∧ CSt S' A ∧ FR cC S S') := by
  refine mt_of (by decide) (Nat.le_of_ble_eq_true rfl) ?_
  intro x hl hR hmL C E
  show GG x 106 0 0 [.ref 0, .int (nI (j)), .int (nI (p))] [] S 0
  refine g_aload_n C dX11_atomSet_0 rfl ?_
  refine g_iload_n C dX11_atomSet_1 rfl ?_
  refine g_callV C (As := [.int (nI (j))]) (c_findAtoms _ hC hj gj) vo_X11_159 dX11_atomSet_2 rfl rfl (by decide) rfl (rm_ok (M' := MX11_atomSet) hR (by decide)) (Nat.le_of_ble_eq_true rfl) (fun v9 S6 h9 => ?_)
  obtain ⟨rfl, hC6, hF6, L, P, c6, p6, w6, o6⟩ := h9
  have hS6 := hC6.1
  have hcn := p6.cnt
  have h64 := AL_len (A := A) (a := j)
  refine g_n0 [] rfl rfl rfl ?_
  refine g_iload_n C dX11_atomSet_5 rfl ?_
  refine g_aload_n C dX11_atomSet_6 rfl ?_
  refine g_getR C fo_X11_84 dX11_atomSet_7 rfl (by decide) (fun _ => rfl) (gs_0_10 hS6) ?_
  refine g_getI C fo_X11_162 dX11_atomSet_10 rfl (by decide) (fun _ => rfl) (c6.2.2.2.1.trans (by rw [hcn])) ?_
  refine g_callS C (k_checkIndex _ hp (by omega)) so_X11_140 dX11_atomSet_13 rfl rfl (rm_ok (M' := MX11_atomSet) hR (by decide)) (Nat.le_of_ble_eq_true rfl) (fun v9 S5 h9 => ?_)
  obtain ⟨rfl, h9⟩ := h9
  refine g_S S6 h9 ?_
  refine g_n0 [] rfl rfl rfl ?_
  refine g_aload_n C dX11_atomSet_16 rfl ?_
  refine g_getR C fo_X11_84 dX11_atomSet_17 rfl (by decide) (fun _ => rfl) (gs_0_10 hS6) ?_
  refine g_iload_n C dX11_atomSet_20 rfl ?_
  refine g_callV C (As := [.int (nI (p))]) (k_setOf _ gj c6 p6 hp) vo_X11_165 dX11_atomSet_21 rfl rfl (by decide) rfl (rm_ok (M' := MX11_atomSet) hR (by decide)) (Nat.le_of_ble_eq_true rfl) (fun v9 S5 h9 => ?_)
  obtain ⟨rfl, h9⟩ := h9
  refine g_S S6 h9 ?_
  refine g_n0 [.int (nI ((AL A j).getD p 0))] rfl rfl rfl ?_
  exact g_iret C E dX11_atomSet_24 (by rw [hR]; decide) (by rw [hR]; decide) ⟨rfl, hC6, hF6⟩

set_option maxRecDepth 100000 in
theorem c_atomOfWord (l : Launch) {S : pv_M} {A : Ab} (hC : CSt S A) {j : Nat} (hj : j < 3) (gj : gdR (A.1.1 j)) (hL : ∀ i, wL A i < 3) : mt l MX11_atomOfWord 106 [.ref 0, .int (nI (j))] S (fun v S' => v = some (.int (nI ((AL A j).idxOf (wSi A j (cQ A j))))) ∧ CSt S' A ∧ FR cC S S') := by
  refine mt_of (by decide) (Nat.le_of_ble_eq_true rfl) ?_
  intro x hl hR hmL C E
  show GG x 106 0 0 [.ref 0, .int (nI (j))] [] S 0
  refine g_aload_n C dX11_atomOfWord_0 rfl ?_
  refine g_iload_n C dX11_atomOfWord_1 rfl ?_
  refine g_callV C (As := [.int (nI (j))]) (c_findAtoms _ hC hj gj) vo_X11_159 dX11_atomOfWord_2 rfl rfl (by decide) rfl (rm_ok (M' := MX11_atomOfWord) hR (by decide)) (Nat.le_of_ble_eq_true rfl) (fun v9 S6 h9 => ?_)
  obtain ⟨rfl, hC6, hF6, L, P, c6, p6, w6, o6⟩ := h9
  have hS6 := hC6.1
  have hcn := p6.cnt
  have h64 := AL_len (A := A) (a := j)
  refine g_n0 [] rfl rfl rfl ?_
  refine g_aload_n C dX11_atomOfWord_5 rfl ?_
  refine g_getR C fo_X11_84 dX11_atomOfWord_6 rfl (by decide) (fun _ => rfl) (gs_0_10 hS6) ?_
  refine g_aload_n C dX11_atomOfWord_9 rfl ?_
  refine g_getR C fo_X11_84 dX11_atomOfWord_10 rfl (by decide) (fun _ => rfl) (gs_0_10 hS6) ?_
  refine g_aload_n C dX11_atomOfWord_13 rfl ?_
  refine g_getR C fo_X11_21 dX11_atomOfWord_14 rfl (by decide) (fun _ => rfl) (gs_0_2 hS6) ?_
  refine g_callV C (As := [.ref 3]) (k_setOfWord _ gj c6 p6 hC6.2.2.2.2.1 hL) vo_X11_169 dX11_atomOfWord_17 rfl rfl (by decide) rfl (rm_ok (M' := MX11_atomOfWord) hR (by decide)) (Nat.le_of_ble_eq_true rfl) (fun v9 S5 h9 => ?_)
  obtain ⟨rfl, h9⟩ := h9
  refine g_S S6 h9 ?_
  refine g_n0 [.int (nI (bS A j (wM A) (wL A) (wM A))), .ref 37] rfl rfl rfl ?_
  refine g_callV C (As := [.int (nI (bS A j (wM A) (wL A) (wM A)))]) (k_number _ gj c6 p6 (bS_mem gj hL _)) vo_X11_172 dX11_atomOfWord_20 rfl rfl (by decide) rfl (rm_ok (M' := MX11_atomOfWord) hR (by decide)) (Nat.le_of_ble_eq_true rfl) (fun v9 S5 h9 => ?_)
  obtain ⟨rfl, h9⟩ := h9
  refine g_S S6 h9 ?_
  refine g_n0 [.int (nI ((AL A j).idxOf (bS A j (wM A) (wL A) (wM A))))] rfl rfl rfl ?_
  exact g_iret C E dX11_atomOfWord_23 (by rw [hR]; decide) (by rw [hR]; decide) ⟨by rw [bS_wS gj hL], hC6, hF6⟩

set_option maxRecDepth 100000 in
theorem c_atomTargets (l : Launch) {S : pv_M} {A : Ab} (hC : CSt S A) {j : Nat} (hj : j < 3) (gj : gdR (A.1.1 j)) {p : Nat} (hp : p < (AL A j).length) {q : Nat} (hq : q < 3) : mt l MX11_atomTargets 106 [.ref 0, .int (nI (j)), .int (nI (p)), .int (nI (q))] S (fun v S' => v = some (.long (lN (AN A j (3 * p + q)))) ∧ CSt S' A ∧ FR cC S S') := by
  refine mt_of (by decide) (Nat.le_of_ble_eq_true rfl) ?_
  intro x hl hR hmL C E
  show GG x 106 0 0 [.ref 0, .int (nI (j)), .int (nI (p)), .int (nI (q))] [] S 0
  refine g_iload_n C dX11_atomTargets_0 rfl ?_
  refine g_callS C (k_checkLetter _ hq) so_X11_102 dX11_atomTargets_1 rfl rfl (rm_ok (M' := MX11_atomTargets) hR (by decide)) (Nat.le_of_ble_eq_true rfl) (fun v9 S9 h9 => ?_)
  obtain ⟨rfl, h9⟩ := h9
  refine g_S S h9 ?_
  refine g_n0 [] rfl rfl rfl ?_
  refine g_aload_n C dX11_atomTargets_4 rfl ?_
  refine g_iload_n C dX11_atomTargets_5 rfl ?_
  refine g_callV C (As := [.int (nI (j))]) (c_findAtoms _ hC hj gj) vo_X11_159 dX11_atomTargets_6 rfl rfl (by decide) rfl (rm_ok (M' := MX11_atomTargets) hR (by decide)) (Nat.le_of_ble_eq_true rfl) (fun v9 S6 h9 => ?_)
  obtain ⟨rfl, hC6, hF6, L, P, c6, p6, w6, o6⟩ := h9
  have hS6 := hC6.1
  have hcn := p6.cnt
  have h64 := AL_len (A := A) (a := j)
  refine g_n0 [] rfl rfl rfl ?_
  refine g_iload_n C dX11_atomTargets_9 rfl ?_
  refine g_aload_n C dX11_atomTargets_10 rfl ?_
  refine g_getR C fo_X11_84 dX11_atomTargets_11 rfl (by decide) (fun _ => rfl) (gs_0_10 hS6) ?_
  refine g_getI C fo_X11_162 dX11_atomTargets_14 rfl (by decide) (fun _ => rfl) (c6.2.2.2.1.trans (by rw [hcn])) ?_
  refine g_callS C (k_checkIndex _ hp (by omega)) so_X11_140 dX11_atomTargets_17 rfl rfl (rm_ok (M' := MX11_atomTargets) hR (by decide)) (Nat.le_of_ble_eq_true rfl) (fun v9 S5 h9 => ?_)
  obtain ⟨rfl, h9⟩ := h9
  refine g_S S6 h9 ?_
  refine g_n0 [] rfl rfl rfl ?_
  refine g_aload_n C dX11_atomTargets_20 rfl ?_
  refine g_getR C fo_X11_84 dX11_atomTargets_21 rfl (by decide) (fun _ => rfl) (gs_0_10 hS6) ?_
  refine g_aload_n C dX11_atomTargets_24 rfl ?_
  refine g_getR C fo_X11_84 dX11_atomTargets_25 rfl (by decide) (fun _ => rfl) (gs_0_10 hS6) ?_
  refine g_iload_n C dX11_atomTargets_28 rfl ?_
  refine g_callV C (As := [.int (nI (p))]) (k_setOf _ gj c6 p6 hp) vo_X11_165 dX11_atomTargets_29 rfl rfl (by decide) rfl (rm_ok (M' := MX11_atomTargets) hR (by decide)) (Nat.le_of_ble_eq_true rfl) (fun v9 S5 h9 => ?_)
  obtain ⟨rfl, h9⟩ := h9
  refine g_S S6 h9 ?_
  refine g_n0 [.int (nI ((AL A j).getD p 0)), .ref 37] rfl rfl rfl ?_
  refine g_iload_n C dX11_atomTargets_32 rfl ?_
  refine g_callV C (As := [.int (nI ((AL A j).getD p 0)), .int (nI (q))]) (k_targetsOf _ gj c6 p6 (AL_lt (getD_mem hp)) hq) vo_X11_175 dX11_atomTargets_33 rfl rfl (by decide) rfl (rm_ok (M' := MX11_atomTargets) hR (by decide)) (Nat.le_of_ble_eq_true rfl) (fun v9 S5 h9 => ?_)
  obtain ⟨rfl, h9⟩ := h9
  refine g_S S6 h9 ?_
  refine g_n0 [.long (lN (mN A j (fun s2 => decide (sa A j s2 q = (AL A j).getD p 0))))] rfl rfl rfl ?_
  exact g_lret C E dX11_atomTargets_36 (by rw [hR]; decide) (by rw [hR]; decide) ⟨by rw [AN_mN hp hq], hC6, hF6⟩

theorem iA_m1 {A : Ab} {a : Nat} : mN A a (fun s2 => decide (s2 &&& 1 = 1)) = iA A a (AL A a).length := by
  rw [← iA_mN]
  unfold mN
  refine orf_cong _ (fun b hb => ⟨?_, fun _ => rfl⟩)
  rw [Bool.eq_iff_iff, decide_eq_true_eq]
  exact tb0 _

set_option maxRecDepth 100000 in
theorem c_initialAtoms (l : Launch) {S : pv_M} {A : Ab} (hC : CSt S A) {j : Nat} (hj : j < 3) (gj : gdR (A.1.1 j)) : mt l MX11_initialAtoms 106 [.ref 0, .int (nI (j))] S (fun v S' => v = some (.long (lN (iA A j (AL A j).length))) ∧ CSt S' A ∧ FR cC S S') := by
  refine mt_of (by decide) (Nat.le_of_ble_eq_true rfl) ?_
  intro x hl hR hmL C E
  show GG x 106 0 0 [.ref 0, .int (nI (j))] [] S 0
  refine g_aload_n C dX11_initialAtoms_0 rfl ?_
  refine g_iload_n C dX11_initialAtoms_1 rfl ?_
  refine g_callV C (As := [.int (nI (j))]) (c_findAtoms _ hC hj gj) vo_X11_159 dX11_initialAtoms_2 rfl rfl (by decide) rfl (rm_ok (M' := MX11_initialAtoms) hR (by decide)) (Nat.le_of_ble_eq_true rfl) (fun v9 S6 h9 => ?_)
  obtain ⟨rfl, hC6, hF6, L, P, c6, p6, w6, o6⟩ := h9
  have hS6 := hC6.1
  have hcn := p6.cnt
  have h64 := AL_len (A := A) (a := j)
  refine g_n0 [] rfl rfl rfl ?_
  refine g_aload_n C dX11_initialAtoms_5 rfl ?_
  refine g_getR C fo_X11_84 dX11_initialAtoms_6 rfl (by decide) (fun _ => rfl) (gs_0_10 hS6) ?_
  refine g_callV C (As := []) (k_initialOnes _ gj c6 p6) vo_X11_179 dX11_initialAtoms_9 rfl rfl (by decide) rfl (rm_ok (M' := MX11_initialAtoms) hR (by decide)) (Nat.le_of_ble_eq_true rfl) (fun v9 S5 h9 => ?_)
  obtain ⟨rfl, h9⟩ := h9
  refine g_S S6 h9 ?_
  refine g_n0 [.long (lN (mN A j (fun s2 => decide (s2 &&& 1 = 1))))] rfl rfl rfl ?_
  exact g_lret C E dX11_initialAtoms_12 (by rw [hR]; decide) (by rw [hR]; decide) ⟨by rw [iA_m1], hC6, hF6⟩

set_option maxRecDepth 100000 in
theorem c_finalAtom (l : Launch) {S : pv_M} {A : Ab} (hC : CSt S A) {j : Nat} (hj : j < 3) (gj : gdR (A.1.1 j)) : mt l MX11_finalAtom 106 [.ref 0, .int (nI (j))] S (fun v S' => v = some (.int (nI (la A j))) ∧ CSt S' A ∧ FR cC S S') := by
  refine mt_of (by decide) (Nat.le_of_ble_eq_true rfl) ?_
  intro x hl hR hmL C E
  show GG x 106 0 0 [.ref 0, .int (nI (j))] [] S 0
  refine g_aload_n C dX11_finalAtom_0 rfl ?_
  refine g_iload_n C dX11_finalAtom_1 rfl ?_
  refine g_callV C (As := [.int (nI (j))]) (c_findAtoms _ hC hj gj) vo_X11_159 dX11_finalAtom_2 rfl rfl (by decide) rfl (rm_ok (M' := MX11_finalAtom) hR (by decide)) (Nat.le_of_ble_eq_true rfl) (fun v9 S6 h9 => ?_)
  obtain ⟨rfl, hC6, hF6, L, P, c6, p6, w6, o6⟩ := h9
  have hS6 := hC6.1
  have hcn := p6.cnt
  have h64 := AL_len (A := A) (a := j)
  refine g_n0 [] rfl rfl rfl ?_
  refine g_aload_n C dX11_finalAtom_5 rfl ?_
  refine g_getR C fo_X11_84 dX11_finalAtom_6 rfl (by decide) (fun _ => rfl) (gs_0_10 hS6) ?_
  refine g_aload_n C dX11_finalAtom_9 rfl ?_
  refine g_getR C fo_X11_84 dX11_finalAtom_10 rfl (by decide) (fun _ => rfl) (gs_0_10 hS6) ?_
  refine g_callV C (As := []) (c_X0_startCode _ (gs_37_0 c6.1) c6.2.1) vo_X11_183 dX11_finalAtom_13 rfl rfl (by decide) rfl (rm_ok (M' := MX11_finalAtom) hR (by decide)) (Nat.le_of_ble_eq_true rfl) (fun v9 S5 h9 => ?_)
  obtain ⟨rfl, h9⟩ := h9
  refine g_S S6 h9 ?_
  refine g_n0 [.int (nI (fA A j)), .ref 37] rfl rfl rfl ?_
  refine g_callV C (As := [.int (nI (fA A j))]) (k_number _ gj c6 p6 (AL_fA gj)) vo_X11_172 dX11_finalAtom_16 rfl rfl (by decide) rfl (rm_ok (M' := MX11_finalAtom) hR (by decide)) (Nat.le_of_ble_eq_true rfl) (fun v9 S5 h9 => ?_)
  obtain ⟨rfl, h9⟩ := h9
  refine g_S S6 h9 ?_
  refine g_n0 [.int (nI ((AL A j).idxOf (fA A j)))] rfl rfl rfl ?_
  exact g_iret C E dX11_finalAtom_19 (by rw [hR]; decide) (by rw [hR]; decide) ⟨rfl, hC6, hF6⟩

set_option maxRecDepth 100000 in
theorem c_takeAtomWord (l : Launch) {S : pv_M} {A : Ab} (hC : CSt S A) {j : Nat} (hj : j < 3) (gj : gdR (A.1.1 j)) {p : Nat} (hp : p < (AL A j).length) (h12 : lw_ A j ((AL A j).getD p 0) ≤ 12) : mt l MX11_takeAtomWord 106 [.ref 0, .int (nI (j)), .int (nI (p))] S (fun v S' => v = some (.int (nI (lw_ A j ((AL A j).getD p 0)))) ∧ CSt S' (setW A (lw_ A j ((AL A j).getD p 0), (fun q => if q < lw_ A j ((AL A j).getD p 0) then (mw A j ((AL A j).getD p 0)).getD q 0 else wL A q))) ∧ FR cC S S') := by
  refine mt_of (by decide) (Nat.le_of_ble_eq_true rfl) ?_
  intro x hl hR hmL C E
  show GG x 106 0 0 [.ref 0, .int (nI (j)), .int (nI (p)), unk] [] S 0
  refine g_aload_n C dX11_takeAtomWord_0 rfl ?_
  refine g_iload_n C dX11_takeAtomWord_1 rfl ?_
  refine g_callV C (As := [.int (nI (j))]) (c_findAtoms _ hC hj gj) vo_X11_159 dX11_takeAtomWord_2 rfl rfl (by decide) rfl (rm_ok (M' := MX11_takeAtomWord) hR (by decide)) (Nat.le_of_ble_eq_true rfl) (fun v9 S6 h9 => ?_)
  obtain ⟨rfl, hC6, hF6, L, P, c6, p6, w6, o6⟩ := h9
  have hS6 := hC6.1
  have hcn := p6.cnt
  have h64 := AL_len (A := A) (a := j)
  refine g_n0 [] rfl rfl rfl ?_
  refine g_iload_n C dX11_takeAtomWord_5 rfl ?_
  refine g_aload_n C dX11_takeAtomWord_6 rfl ?_
  refine g_getR C fo_X11_84 dX11_takeAtomWord_7 rfl (by decide) (fun _ => rfl) (gs_0_10 hS6) ?_
  refine g_getI C fo_X11_162 dX11_takeAtomWord_10 rfl (by decide) (fun _ => rfl) (c6.2.2.2.1.trans (by rw [hcn])) ?_
  refine g_callS C (k_checkIndex _ hp (by omega)) so_X11_140 dX11_takeAtomWord_13 rfl rfl (rm_ok (M' := MX11_takeAtomWord) hR (by decide)) (Nat.le_of_ble_eq_true rfl) (fun v9 S5 h9 => ?_)
  obtain ⟨rfl, h9⟩ := h9
  refine g_S S6 h9 ?_
  refine g_n0 [] rfl rfl rfl ?_
  refine g_aload_n C dX11_takeAtomWord_16 rfl ?_
  refine g_getR C fo_X11_84 dX11_takeAtomWord_17 rfl (by decide) (fun _ => rfl) (gs_0_10 hS6) ?_
  refine g_iload_n C dX11_takeAtomWord_20 rfl ?_
  refine g_callV C (As := [.int (nI (p))]) (k_setOf _ gj c6 p6 hp) vo_X11_165 dX11_takeAtomWord_21 rfl rfl (by decide) rfl (rm_ok (M' := MX11_takeAtomWord) hR (by decide)) (Nat.le_of_ble_eq_true rfl) (fun v9 S5 h9 => ?_)
  obtain ⟨rfl, h9⟩ := h9
  refine g_S S6 h9 ?_
  refine g_n0 [.int (nI ((AL A j).getD p 0))] rfl rfl rfl ?_
  refine g_istore_n C (by rw [hmL]; decide) dX11_takeAtomWord_24 [.ref 0, .int (nI (j)), .int (nI (p)), .int (nI ((AL A j).getD p 0))] rfl ?_
  refine g_aload_n C dX11_takeAtomWord_25 rfl ?_
  refine g_getR C fo_X11_84 dX11_takeAtomWord_26 rfl (by decide) (fun _ => rfl) (gs_0_10 hS6) ?_
  refine g_iload_n C dX11_takeAtomWord_29 rfl ?_
  refine g_callV C (As := [.int (nI ((AL A j).getD p 0))]) (k_fwl _ gj c6 w6 (getD_mem hp)) vo_X11_187 dX11_takeAtomWord_30 rfl rfl (by decide) rfl (rm_ok (M' := MX11_takeAtomWord) hR (by decide)) (Nat.le_of_ble_eq_true rfl) (fun v9 S5 h9 => ?_)
  obtain ⟨rfl, h9⟩ := h9
  refine g_S S6 h9 ?_
  refine g_n0 [.int (nI (lw_ A j ((AL A j).getD p 0)))] rfl rfl rfl ?_
  refine g_callS C (k_checkWordLength _ h12) so_X11_134 dX11_takeAtomWord_33 rfl rfl (rm_ok (M' := MX11_takeAtomWord) hR (by decide)) (Nat.le_of_ble_eq_true rfl) (fun v9 S5 h9 => ?_)
  obtain ⟨rfl, h9⟩ := h9
  refine g_S S6 h9 ?_
  refine g_n0 [] rfl rfl rfl ?_
  refine g_aload_n C dX11_takeAtomWord_36 rfl ?_
  refine g_getR C fo_X11_84 dX11_takeAtomWord_37 rfl (by decide) (fun _ => rfl) (gs_0_10 hS6) ?_
  refine g_iload_n C dX11_takeAtomWord_40 rfl ?_
  refine g_aload_n C dX11_takeAtomWord_41 rfl ?_
  refine g_getR C fo_X11_21 dX11_takeAtomWord_42 rfl (by decide) (fun _ => rfl) (gs_0_2 hS6) ?_
  refine g_callV C (As := [.int (nI ((AL A j).getD p 0)), .ref 3]) (k_wfw _ gj c6 w6 (getD_mem hp) h12 hC6.2.2.2.2.1) vo_X11_190 dX11_takeAtomWord_45 rfl rfl (by decide) rfl (rm_ok (M' := MX11_takeAtomWord) hR (by decide)) (Nat.le_of_ble_eq_true rfl) (fun v9 S8 h9 => ?_)
  obtain ⟨rfl, w1, w2⟩ := h9
  have hS8 := hS6.fn w2
  refine g_n0 [] rfl rfl rfl ?_
  refine g_aload_n C dX11_takeAtomWord_48 rfl ?_
  refine g_getR C fo_X11_21 dX11_takeAtomWord_49 rfl (by decide) (fun _ => rfl) (gs_0_2 hS8) ?_
  refine g_getI C fo_X11_131 dX11_takeAtomWord_52 rfl (by decide) (fun _ => rfl) w1.2.2.2.2.2.1 ?_
  exact g_iret C E dX11_takeAtomWord_55 (by rw [hR]; decide) (by rw [hR]; decide) ⟨rfl, hC6.setW w2.fr (fun r z => Or.inr z) hS8 (hC6.2.1.of (congrFun w2.1 29)) (hC6.2.2.1.of (congrFun w2.1 21)) w1, hF6.tr (w2.fr.mono (fun r z => by rcases z with z | z <;> (show r ≤ 74; omega)))⟩

set_option maxRecDepth 100000 in
theorem t_takeAtomWord_long {l : Launch} (hst : l.stackTraces = false) {S : pv_M} {A : Ab} (hC : CSt S A) {j : Nat} (hj : j < 3) (gj : gdR (A.1.1 j)) {p : Nat} (hp : p < (AL A j).length) (h12 : 12 < lw_ A j ((AL A j).getD p 0)) : mth l MX11_takeAtomWord.th 106 [.ref 0, .int (nI (j)), .int (nI (p))] S "java/lang/IllegalStateException" (fun S' => CSt S' A ∧ FR cC S S') := by
  refine mth_of hst (by decide) (Nat.le_of_ble_eq_true rfl) ?_
  intro x hl hR hmL C X
  have hst' : x.1.2.1.stackTraces = false := by rw [hl]; exact hst
  show GG x 106 0 0 [.ref 0, .int (nI (j)), .int (nI (p)), unk] [] S 0
  refine g_aload_n C dX11_takeAtomWord_0 rfl ?_
  refine g_iload_n C dX11_takeAtomWord_1 rfl ?_
  refine g_callV C (As := [.int (nI (j))]) (c_findAtoms _ hC hj gj) vo_X11_159 dX11_takeAtomWord_2 rfl rfl (by decide) rfl (rm_ok (M' := MX11_takeAtomWord.th) hR (by decide)) (Nat.le_of_ble_eq_true rfl) (fun v9 S6 h9 => ?_)
  obtain ⟨rfl, hC6, hF6, L, P, c6, p6, w6, o6⟩ := h9
  have hS6 := hC6.1
  have hcn := p6.cnt
  have h64 := AL_len (A := A) (a := j)
  refine g_n0 [] rfl rfl rfl ?_
  refine g_iload_n C dX11_takeAtomWord_5 rfl ?_
  refine g_aload_n C dX11_takeAtomWord_6 rfl ?_
  refine g_getR C fo_X11_84 dX11_takeAtomWord_7 rfl (by decide) (fun _ => rfl) (gs_0_10 hS6) ?_
  refine g_getI C fo_X11_162 dX11_takeAtomWord_10 rfl (by decide) (fun _ => rfl) (c6.2.2.2.1.trans (by rw [hcn])) ?_
  refine g_callS C (k_checkIndex _ hp (by omega)) so_X11_140 dX11_takeAtomWord_13 rfl rfl (rm_ok (M' := MX11_takeAtomWord.th) hR (by decide)) (Nat.le_of_ble_eq_true rfl) (fun v9 S5 h9 => ?_)
  obtain ⟨rfl, h9⟩ := h9
  refine g_S S6 h9 ?_
  refine g_n0 [] rfl rfl rfl ?_
  refine g_aload_n C dX11_takeAtomWord_16 rfl ?_
  refine g_getR C fo_X11_84 dX11_takeAtomWord_17 rfl (by decide) (fun _ => rfl) (gs_0_10 hS6) ?_
  refine g_iload_n C dX11_takeAtomWord_20 rfl ?_
  refine g_callV C (As := [.int (nI (p))]) (k_setOf _ gj c6 p6 hp) vo_X11_165 dX11_takeAtomWord_21 rfl rfl (by decide) rfl (rm_ok (M' := MX11_takeAtomWord.th) hR (by decide)) (Nat.le_of_ble_eq_true rfl) (fun v9 S5 h9 => ?_)
  obtain ⟨rfl, h9⟩ := h9
  refine g_S S6 h9 ?_
  refine g_n0 [.int (nI ((AL A j).getD p 0))] rfl rfl rfl ?_
  refine g_istore_n C (by rw [hmL]; decide) dX11_takeAtomWord_24 [.ref 0, .int (nI (j)), .int (nI (p)), .int (nI ((AL A j).getD p 0))] rfl ?_
  refine g_aload_n C dX11_takeAtomWord_25 rfl ?_
  refine g_getR C fo_X11_84 dX11_takeAtomWord_26 rfl (by decide) (fun _ => rfl) (gs_0_10 hS6) ?_
  refine g_iload_n C dX11_takeAtomWord_29 rfl ?_
  refine g_callV C (As := [.int (nI ((AL A j).getD p 0))]) (k_fwl _ gj c6 w6 (getD_mem hp)) vo_X11_187 dX11_takeAtomWord_30 rfl rfl (by decide) rfl (rm_ok (M' := MX11_takeAtomWord.th) hR (by decide)) (Nat.le_of_ble_eq_true rfl) (fun v9 S5 h9 => ?_)
  obtain ⟨rfl, h9⟩ := h9
  refine g_S S6 h9 ?_
  refine g_n0 [.int (nI (lw_ A j ((AL A j).getD p 0)))] rfl rfl rfl ?_
  exact g_thrS C X (t_checkWordLength hst' h12 (by have := lw_lt gj (getD_mem hp); omega)) so_X11_134 dX11_takeAtomWord_33 rfl rfl (rm_ok (M' := MX11_takeAtomWord.th) hR (by decide)) (Nat.le_of_ble_eq_true rfl) (fun S2 h2 => by rw [h2]; exact ⟨hC6, hF6⟩)

set_option maxRecDepth 100000 in
theorem t_atomSet_a {l : Launch} (hst : l.stackTraces = false) {S : pv_M} {A : Ab} (hC : CSt S A) {j : Nat} (hj : j < 3) (gj : gdR (A.1.1 j)) {p : Int32} (hp : badI p (AL A j).length) : mth l MX11_atomSet.th 106 [.ref 0, .int (nI (j)), .int (p)] S "java/lang/IndexOutOfBoundsException" (fun S' => CSt S' A ∧ FR cC S S') := by
  refine mth_of hst (by decide) (Nat.le_of_ble_eq_true rfl) ?_
  intro x hl hR hmL C X
  have hst' : x.1.2.1.stackTraces = false := by rw [hl]; exact hst
  show GG x 106 0 0 [.ref 0, .int (nI (j)), .int (p)] [] S 0
  refine g_aload_n C dX11_atomSet_0 rfl ?_
  refine g_iload_n C dX11_atomSet_1 rfl ?_
  refine g_callV C (As := [.int (nI (j))]) (c_findAtoms _ hC hj gj) vo_X11_159 dX11_atomSet_2 rfl rfl (by decide) rfl (rm_ok (M' := MX11_atomSet.th) hR (by decide)) (Nat.le_of_ble_eq_true rfl) (fun v9 S6 h9 => ?_)
  obtain ⟨rfl, hC6, hF6, L, P, c6, p6, w6, o6⟩ := h9
  have hS6 := hC6.1
  have hcn := p6.cnt
  have h64 := AL_len (A := A) (a := j)
  refine g_n0 [] rfl rfl rfl ?_
  refine g_iload_n C dX11_atomSet_5 rfl ?_
  refine g_aload_n C dX11_atomSet_6 rfl ?_
  refine g_getR C fo_X11_84 dX11_atomSet_7 rfl (by decide) (fun _ => rfl) (gs_0_10 hS6) ?_
  refine g_getI C fo_X11_162 dX11_atomSet_10 rfl (by decide) (fun _ => rfl) (c6.2.2.2.1.trans (by rw [hcn])) ?_
  exact g_thrS C X (t_checkIndex hst' hp) so_X11_140 dX11_atomSet_13 rfl rfl (rm_ok (M' := MX11_atomSet.th) hR (by decide)) (Nat.le_of_ble_eq_true rfl) (fun S2 h2 => by rw [h2]; exact ⟨hC6, hF6⟩)

set_option maxRecDepth 100000 in
theorem t_atomSet_r {l : Launch} (hst : l.stackTraces = false) {S : pv_M} {p : Int32} (h : badI p 3) {q : Int32} : mth l MX11_atomSet.th 106 [.ref 0, .int (p), .int (q)] S "java/lang/IndexOutOfBoundsException" (fun S' => S' = S) := by
  refine mth_of hst (by decide) (Nat.le_of_ble_eq_true rfl) ?_
  intro x hl hR hmL C X
  have hst' : x.1.2.1.stackTraces = false := by rw [hl]; exact hst
  show GG x 106 0 0 [.ref 0, .int (p), .int (q)] [] S 0
  refine g_aload_n C dX11_atomSet_0 rfl ?_
  refine g_iload_n C dX11_atomSet_1 rfl ?_
  exact g_thrV C X (As := [.int (p)]) (t_findAtoms_r hst' h) vo_X11_159 dX11_atomSet_2 rfl rfl (by decide) rfl (rm_ok (M' := MX11_atomSet.th) hR (by decide)) (Nat.le_of_ble_eq_true rfl) (fun _ h => h)

set_option maxRecDepth 100000 in
theorem t_takeAtomWord_a {l : Launch} (hst : l.stackTraces = false) {S : pv_M} {A : Ab} (hC : CSt S A) {j : Nat} (hj : j < 3) (gj : gdR (A.1.1 j)) {p : Int32} (hp : badI p (AL A j).length) : mth l MX11_takeAtomWord.th 106 [.ref 0, .int (nI (j)), .int (p)] S "java/lang/IndexOutOfBoundsException" (fun S' => CSt S' A ∧ FR cC S S') := by
  refine mth_of hst (by decide) (Nat.le_of_ble_eq_true rfl) ?_
  intro x hl hR hmL C X
  have hst' : x.1.2.1.stackTraces = false := by rw [hl]; exact hst
  show GG x 106 0 0 [.ref 0, .int (nI (j)), .int (p), unk] [] S 0
  refine g_aload_n C dX11_takeAtomWord_0 rfl ?_
  refine g_iload_n C dX11_takeAtomWord_1 rfl ?_
  refine g_callV C (As := [.int (nI (j))]) (c_findAtoms _ hC hj gj) vo_X11_159 dX11_takeAtomWord_2 rfl rfl (by decide) rfl (rm_ok (M' := MX11_takeAtomWord.th) hR (by decide)) (Nat.le_of_ble_eq_true rfl) (fun v9 S6 h9 => ?_)
  obtain ⟨rfl, hC6, hF6, L, P, c6, p6, w6, o6⟩ := h9
  have hS6 := hC6.1
  have hcn := p6.cnt
  have h64 := AL_len (A := A) (a := j)
  refine g_n0 [] rfl rfl rfl ?_
  refine g_iload_n C dX11_takeAtomWord_5 rfl ?_
  refine g_aload_n C dX11_takeAtomWord_6 rfl ?_
  refine g_getR C fo_X11_84 dX11_takeAtomWord_7 rfl (by decide) (fun _ => rfl) (gs_0_10 hS6) ?_
  refine g_getI C fo_X11_162 dX11_takeAtomWord_10 rfl (by decide) (fun _ => rfl) (c6.2.2.2.1.trans (by rw [hcn])) ?_
  exact g_thrS C X (t_checkIndex hst' hp) so_X11_140 dX11_takeAtomWord_13 rfl rfl (rm_ok (M' := MX11_takeAtomWord.th) hR (by decide)) (Nat.le_of_ble_eq_true rfl) (fun S2 h2 => by rw [h2]; exact ⟨hC6, hF6⟩)

set_option maxRecDepth 100000 in
theorem t_takeAtomWord_r {l : Launch} (hst : l.stackTraces = false) {S : pv_M} {p : Int32} (h : badI p 3) {q : Int32} : mth l MX11_takeAtomWord.th 106 [.ref 0, .int (p), .int (q)] S "java/lang/IndexOutOfBoundsException" (fun S' => S' = S) := by
  refine mth_of hst (by decide) (Nat.le_of_ble_eq_true rfl) ?_
  intro x hl hR hmL C X
  have hst' : x.1.2.1.stackTraces = false := by rw [hl]; exact hst
  show GG x 106 0 0 [.ref 0, .int (p), .int (q), unk] [] S 0
  refine g_aload_n C dX11_takeAtomWord_0 rfl ?_
  refine g_iload_n C dX11_takeAtomWord_1 rfl ?_
  exact g_thrV C X (As := [.int (p)]) (t_findAtoms_r hst' h) vo_X11_159 dX11_takeAtomWord_2 rfl rfl (by decide) rfl (rm_ok (M' := MX11_takeAtomWord.th) hR (by decide)) (Nat.le_of_ble_eq_true rfl) (fun _ h => h)

set_option maxRecDepth 100000 in
theorem t_atomSize_a {l : Launch} (hst : l.stackTraces = false) {S : pv_M} {A : Ab} (hC : CSt S A) {j : Nat} (hj : j < 3) (gj : gdR (A.1.1 j)) {p : Int32} (hp : badI p (AL A j).length) : mth l MX11_atomSize.th 106 [.ref 0, .int (nI (j)), .int (p)] S "java/lang/IndexOutOfBoundsException" (fun S' => CSt S' A ∧ FR cC S S') := by
  refine mth_of hst (by decide) (Nat.le_of_ble_eq_true rfl) ?_
  intro x hl hR hmL C X
  have hst' : x.1.2.1.stackTraces = false := by rw [hl]; exact hst
  show GG x 106 0 0 [.ref 0, .int (nI (j)), .int (p)] [] S 0
  refine g_aload_n C dX11_atomSize_0 rfl ?_
  refine g_iload_n C dX11_atomSize_1 rfl ?_
  refine g_callV C (As := [.int (nI (j))]) (c_findAtoms _ hC hj gj) vo_X11_159 dX11_atomSize_2 rfl rfl (by decide) rfl (rm_ok (M' := MX11_atomSize.th) hR (by decide)) (Nat.le_of_ble_eq_true rfl) (fun v9 S6 h9 => ?_)
  obtain ⟨rfl, hC6, hF6, L, P, c6, p6, w6, o6⟩ := h9
  have hS6 := hC6.1
  have hcn := p6.cnt
  have h64 := AL_len (A := A) (a := j)
  refine g_n0 [] rfl rfl rfl ?_
  refine g_iload_n C dX11_atomSize_5 rfl ?_
  refine g_aload_n C dX11_atomSize_6 rfl ?_
  refine g_getR C fo_X11_84 dX11_atomSize_7 rfl (by decide) (fun _ => rfl) (gs_0_10 hS6) ?_
  refine g_getI C fo_X11_162 dX11_atomSize_10 rfl (by decide) (fun _ => rfl) (c6.2.2.2.1.trans (by rw [hcn])) ?_
  exact g_thrS C X (t_checkIndex hst' hp) so_X11_140 dX11_atomSize_13 rfl rfl (rm_ok (M' := MX11_atomSize.th) hR (by decide)) (Nat.le_of_ble_eq_true rfl) (fun S2 h2 => by rw [h2]; exact ⟨hC6, hF6⟩)

set_option maxRecDepth 100000 in
theorem t_atomSize_r {l : Launch} (hst : l.stackTraces = false) {S : pv_M} {p : Int32} (h : badI p 3) {q : Int32} : mth l MX11_atomSize.th 106 [.ref 0, .int (p), .int (q)] S "java/lang/IndexOutOfBoundsException" (fun S' => S' = S) := by
  refine mth_of hst (by decide) (Nat.le_of_ble_eq_true rfl) ?_
  intro x hl hR hmL C X
  have hst' : x.1.2.1.stackTraces = false := by rw [hl]; exact hst
  show GG x 106 0 0 [.ref 0, .int (p), .int (q)] [] S 0
  refine g_aload_n C dX11_atomSize_0 rfl ?_
  refine g_iload_n C dX11_atomSize_1 rfl ?_
  exact g_thrV C X (As := [.int (p)]) (t_findAtoms_r hst' h) vo_X11_159 dX11_atomSize_2 rfl rfl (by decide) rfl (rm_ok (M' := MX11_atomSize.th) hR (by decide)) (Nat.le_of_ble_eq_true rfl) (fun _ h => h)

set_option maxRecDepth 100000 in
theorem t_atomTargets_a {l : Launch} (hst : l.stackTraces = false) {S : pv_M} {A : Ab} (hC : CSt S A) {j : Nat} (hj : j < 3) (gj : gdR (A.1.1 j)) {p : Int32} (hp : badI p (AL A j).length) {q : Nat} (hq : q < 3) : mth l MX11_atomTargets.th 106 [.ref 0, .int (nI (j)), .int (p), .int (nI (q))] S "java/lang/IndexOutOfBoundsException" (fun S' => CSt S' A ∧ FR cC S S') := by
  refine mth_of hst (by decide) (Nat.le_of_ble_eq_true rfl) ?_
  intro x hl hR hmL C X
  have hst' : x.1.2.1.stackTraces = false := by rw [hl]; exact hst
  show GG x 106 0 0 [.ref 0, .int (nI (j)), .int (p), .int (nI (q))] [] S 0
  refine g_iload_n C dX11_atomTargets_0 rfl ?_
  refine g_callS C (k_checkLetter _ hq) so_X11_102 dX11_atomTargets_1 rfl rfl (rm_ok (M' := MX11_atomTargets.th) hR (by decide)) (Nat.le_of_ble_eq_true rfl) (fun v9 S9 h9 => ?_)
  obtain ⟨rfl, h9⟩ := h9
  refine g_S S h9 ?_
  refine g_n0 [] rfl rfl rfl ?_
  refine g_aload_n C dX11_atomTargets_4 rfl ?_
  refine g_iload_n C dX11_atomTargets_5 rfl ?_
  refine g_callV C (As := [.int (nI (j))]) (c_findAtoms _ hC hj gj) vo_X11_159 dX11_atomTargets_6 rfl rfl (by decide) rfl (rm_ok (M' := MX11_atomTargets.th) hR (by decide)) (Nat.le_of_ble_eq_true rfl) (fun v9 S6 h9 => ?_)
  obtain ⟨rfl, hC6, hF6, L, P, c6, p6, w6, o6⟩ := h9
  have hS6 := hC6.1
  have hcn := p6.cnt
  have h64 := AL_len (A := A) (a := j)
  refine g_n0 [] rfl rfl rfl ?_
  refine g_iload_n C dX11_atomTargets_9 rfl ?_
  refine g_aload_n C dX11_atomTargets_10 rfl ?_
  refine g_getR C fo_X11_84 dX11_atomTargets_11 rfl (by decide) (fun _ => rfl) (gs_0_10 hS6) ?_
  refine g_getI C fo_X11_162 dX11_atomTargets_14 rfl (by decide) (fun _ => rfl) (c6.2.2.2.1.trans (by rw [hcn])) ?_
  exact g_thrS C X (t_checkIndex hst' hp) so_X11_140 dX11_atomTargets_17 rfl rfl (rm_ok (M' := MX11_atomTargets.th) hR (by decide)) (Nat.le_of_ble_eq_true rfl) (fun S2 h2 => by rw [h2]; exact ⟨hC6, hF6⟩)

set_option maxRecDepth 100000 in
theorem t_atomTargets_r {l : Launch} (hst : l.stackTraces = false) {S : pv_M} {p : Int32} (h : badI p 3) {q1 : Int32} {q : Nat} (hq : q < 3) : mth l MX11_atomTargets.th 106 [.ref 0, .int (p), .int (q1), .int (nI (q))] S "java/lang/IndexOutOfBoundsException" (fun S' => S' = S) := by
  refine mth_of hst (by decide) (Nat.le_of_ble_eq_true rfl) ?_
  intro x hl hR hmL C X
  have hst' : x.1.2.1.stackTraces = false := by rw [hl]; exact hst
  show GG x 106 0 0 [.ref 0, .int (p), .int (q1), .int (nI (q))] [] S 0
  refine g_iload_n C dX11_atomTargets_0 rfl ?_
  refine g_callS C (k_checkLetter _ hq) so_X11_102 dX11_atomTargets_1 rfl rfl (rm_ok (M' := MX11_atomTargets.th) hR (by decide)) (Nat.le_of_ble_eq_true rfl) (fun v9 S9 h9 => ?_)
  obtain ⟨rfl, h9⟩ := h9
  refine g_S S h9 ?_
  refine g_n0 [] rfl rfl rfl ?_
  refine g_aload_n C dX11_atomTargets_4 rfl ?_
  refine g_iload_n C dX11_atomTargets_5 rfl ?_
  exact g_thrV C X (As := [.int (p)]) (t_findAtoms_r hst' h) vo_X11_159 dX11_atomTargets_6 rfl rfl (by decide) rfl (rm_ok (M' := MX11_atomTargets.th) hR (by decide)) (Nat.le_of_ble_eq_true rfl) (fun _ h => h)

set_option maxRecDepth 100000 in
theorem t_atomTargets_l {l : Launch} (hst : l.stackTraces = false) {S : pv_M} {p : Int32} (h : badI p 3) {q1 q2 : Int32} : mth l MX11_atomTargets.th 106 [.ref 0, .int (q1), .int (q2), .int (p)] S "java/lang/IndexOutOfBoundsException" (fun S' => S' = S) := by
  refine mth_of hst (by decide) (Nat.le_of_ble_eq_true rfl) ?_
  intro x hl hR hmL C X
  have hst' : x.1.2.1.stackTraces = false := by rw [hl]; exact hst
  show GG x 106 0 0 [.ref 0, .int (q1), .int (q2), .int (p)] [] S 0
  refine g_iload_n C dX11_atomTargets_0 rfl ?_
  exact g_thrS C X (t_checkLetter hst' h) so_X11_102 dX11_atomTargets_1 rfl rfl (rm_ok (M' := MX11_atomTargets.th) hR (by decide)) (Nat.le_of_ble_eq_true rfl) (fun _ h => h)

set_option maxRecDepth 100000 in
theorem t_atomCount_r {l : Launch} (hst : l.stackTraces = false) {S : pv_M} {p : Int32} (h : badI p 3) : mth l MX11_atomCount.th 106 [.ref 0, .int (p)] S "java/lang/IndexOutOfBoundsException" (fun S' => S' = S) := by
  refine mth_of hst (by decide) (Nat.le_of_ble_eq_true rfl) ?_
  intro x hl hR hmL C X
  have hst' : x.1.2.1.stackTraces = false := by rw [hl]; exact hst
  show GG x 106 0 0 [.ref 0, .int (p)] [] S 0
  refine g_aload_n C dX11_atomCount_0 rfl ?_
  refine g_iload_n C dX11_atomCount_1 rfl ?_
  exact g_thrV C X (As := [.int (p)]) (t_findAtoms_r hst' h) vo_X11_159 dX11_atomCount_2 rfl rfl (by decide) rfl (rm_ok (M' := MX11_atomCount.th) hR (by decide)) (Nat.le_of_ble_eq_true rfl) (fun _ h => h)

set_option maxRecDepth 100000 in
theorem t_atomOfWord_r {l : Launch} (hst : l.stackTraces = false) {S : pv_M} {p : Int32} (h : badI p 3) : mth l MX11_atomOfWord.th 106 [.ref 0, .int (p)] S "java/lang/IndexOutOfBoundsException" (fun S' => S' = S) := by
  refine mth_of hst (by decide) (Nat.le_of_ble_eq_true rfl) ?_
  intro x hl hR hmL C X
  have hst' : x.1.2.1.stackTraces = false := by rw [hl]; exact hst
  show GG x 106 0 0 [.ref 0, .int (p)] [] S 0
  refine g_aload_n C dX11_atomOfWord_0 rfl ?_
  refine g_iload_n C dX11_atomOfWord_1 rfl ?_
  exact g_thrV C X (As := [.int (p)]) (t_findAtoms_r hst' h) vo_X11_159 dX11_atomOfWord_2 rfl rfl (by decide) rfl (rm_ok (M' := MX11_atomOfWord.th) hR (by decide)) (Nat.le_of_ble_eq_true rfl) (fun _ h => h)

set_option maxRecDepth 100000 in
theorem t_initialAtoms_r {l : Launch} (hst : l.stackTraces = false) {S : pv_M} {p : Int32} (h : badI p 3) : mth l MX11_initialAtoms.th 106 [.ref 0, .int (p)] S "java/lang/IndexOutOfBoundsException" (fun S' => S' = S) := by
  refine mth_of hst (by decide) (Nat.le_of_ble_eq_true rfl) ?_
  intro x hl hR hmL C X
  have hst' : x.1.2.1.stackTraces = false := by rw [hl]; exact hst
  show GG x 106 0 0 [.ref 0, .int (p)] [] S 0
  refine g_aload_n C dX11_initialAtoms_0 rfl ?_
  refine g_iload_n C dX11_initialAtoms_1 rfl ?_
  exact g_thrV C X (As := [.int (p)]) (t_findAtoms_r hst' h) vo_X11_159 dX11_initialAtoms_2 rfl rfl (by decide) rfl (rm_ok (M' := MX11_initialAtoms.th) hR (by decide)) (Nat.le_of_ble_eq_true rfl) (fun _ h => h)

set_option maxRecDepth 100000 in
theorem t_finalAtom_r {l : Launch} (hst : l.stackTraces = false) {S : pv_M} {p : Int32} (h : badI p 3) : mth l MX11_finalAtom.th 106 [.ref 0, .int (p)] S "java/lang/IndexOutOfBoundsException" (fun S' => S' = S) := by
  refine mth_of hst (by decide) (Nat.le_of_ble_eq_true rfl) ?_
  intro x hl hR hmL C X
  have hst' : x.1.2.1.stackTraces = false := by rw [hl]; exact hst
  show GG x 106 0 0 [.ref 0, .int (p)] [] S 0
  refine g_aload_n C dX11_finalAtom_0 rfl ?_
  refine g_iload_n C dX11_finalAtom_1 rfl ?_
  exact g_thrV C X (As := [.int (p)]) (t_findAtoms_r hst' h) vo_X11_159 dX11_finalAtom_2 rfl rfl (by decide) rfl (rm_ok (M' := MX11_finalAtom.th) hR (by decide)) (Nat.le_of_ble_eq_true rfl) (fun _ h => h)

set_option maxRecDepth 100000 in
theorem k_checkAtoms (l : Launch) {S : pv_M} {A : Ab} {a : Nat} {L : List Nat} {P : Nat} (hS : GS S) (hC : AtC A a L P S) (hP : AtP A a L P) {v : Nat} (hv64 : v < 2 ^ 64) (hv : v < 2 ^ (AL A a).length) : mt l MX11_checkAtoms 106 [.ref 0, .long (lN (v))] S (fun v S' => v = none ∧ S' = S) := by
  refine mt_of (by decide) (Nat.le_of_ble_eq_true rfl) ?_
  intro x hl hR hmL C E
  show GG x 106 0 0 [.ref 0, .long (lN (v)), unk] [] S 0
  have h64 := AL_len (A := A) (a := a)
  have hz : (v) / 2 ^ ((AL A a).length) = 0 := Nat.div_eq_of_lt hv
  refine g_aload_n C dX11_checkAtoms_0 rfl ?_
  refine g_getR C fo_X11_84 dX11_checkAtoms_1 rfl (by decide) (fun _ => rfl) (gs_0_10 hS) ?_
  refine g_getI C fo_X11_162 dX11_checkAtoms_4 rfl (by decide) (fun _ => rfl) (hC.2.2.2.1.trans (by rw [hP.cnt])) ?_
  refine n_bipush C 64 dX11_checkAtoms_7 ?_
  refine n_ic_ge C 37 dX11_checkAtoms_9 (fun h9 => ?_) (fun h9 => ?_)
  · exact g_vret C E dX11_checkAtoms_37 (by rw [hR]; decide) (by rw [hR]; decide) ⟨rfl, rfl⟩
  · refine g_lload_n C dX11_checkAtoms_12 rfl ?_
    refine g_aload_n C dX11_checkAtoms_13 rfl ?_
    refine g_getR C fo_X11_84 dX11_checkAtoms_14 rfl (by decide) (fun _ => rfl) (gs_0_10 hS) ?_
    refine g_getI C fo_X11_162 dX11_checkAtoms_17 rfl (by decide) (fun _ => rfl) (hC.2.2.2.1.trans (by rw [hP.cnt])) ?_
    refine n_lushr C dX11_checkAtoms_20 ?_ (by omega) (by omega)
    refine n_lconst C 0 dX11_checkAtoms_21 ?_
    refine g_lcmp C dX11_checkAtoms_22 ?_
    refine c_if_eq C 37 dX11_checkAtoms_23 (fun h23 => ?_) (fun h23 => absurd hz h23) (by decide) (Nat.lt_of_le_of_lt (Nat.div_le_self _ _) hv64) (by decide)
    exact g_vret C E dX11_checkAtoms_37 (by rw [hR]; decide) (by rw [hR]; decide) ⟨rfl, rfl⟩

set_option maxRecDepth 100000 in
theorem t_checkAtoms {l : Launch} (hst : l.stackTraces = false) {S : pv_M} {A : Ab} {a : Nat} {L : List Nat} {P : Nat} (hS : GS S) (hC : AtC A a L P S) (hP : AtP A a L P) {v : Nat} (hv64 : v < 2 ^ 64) (hv : 2 ^ (AL A a).length ≤ v) : mth l MX11_checkAtoms.th 106 [.ref 0, .long (lN (v))] S "java/lang/IllegalArgumentException" (fun S' => S' = S) := by
  refine mth_of hst (by decide) (Nat.le_of_ble_eq_true rfl) ?_
  intro x hl hR hmL C X
  have hst' : x.1.2.1.stackTraces = false := by rw [hl]; exact hst
  show GG x 106 0 0 [.ref 0, .long (lN (v)), unk] [] S 0
  have hnz : ¬ (v) / 2 ^ ((AL A a).length) = 0 := by
    intro e
    have := (Nat.div_eq_zero_iff_lt (Nat.two_pow_pos _)).mp e
    omega
  have hlt : (AL A a).length < 64 := by
    rcases Nat.lt_or_ge (AL A a).length 64 with z | z
    · exact z
    · have := Nat.pow_le_pow_right (show 0 < 2 by decide) z; omega
  refine g_aload_n C dX11_checkAtoms_0 rfl ?_
  refine g_getR C fo_X11_84 dX11_checkAtoms_1 rfl (by decide) (fun _ => rfl) (gs_0_10 hS) ?_
  refine g_getI C fo_X11_162 dX11_checkAtoms_4 rfl (by decide) (fun _ => rfl) (hC.2.2.2.1.trans (by rw [hP.cnt])) ?_
  refine n_bipush C 64 dX11_checkAtoms_7 ?_
  refine n_ic_ge C 37 dX11_checkAtoms_9 (fun h9 => absurd h9 (by omega)) (fun h9 => ?_)
  refine g_lload_n C dX11_checkAtoms_12 rfl ?_
  refine g_aload_n C dX11_checkAtoms_13 rfl ?_
  refine g_getR C fo_X11_84 dX11_checkAtoms_14 rfl (by decide) (fun _ => rfl) (gs_0_10 hS) ?_
  refine g_getI C fo_X11_162 dX11_checkAtoms_17 rfl (by decide) (fun _ => rfl) (hC.2.2.2.1.trans (by rw [hP.cnt])) ?_
  refine n_lushr C dX11_checkAtoms_20 ?_ (by omega) (by omega)
  refine n_lconst C 0 dX11_checkAtoms_21 ?_
  refine g_lcmp C dX11_checkAtoms_22 ?_
  refine c_if_eq C 37 dX11_checkAtoms_23 (fun h23 => absurd h23 hnz) (fun h23 => ?_) (by decide) (Nat.lt_of_le_of_lt (Nat.div_le_self _ _) hv64) (by decide)
  exact g_throwW C X to_294 dX11_checkAtoms_26 dX11_checkAtoms_29 dX11_checkAtoms_30 dX11_checkAtoms_33 dX11_checkAtoms_36 (by rw [hR]; decide) rfl
