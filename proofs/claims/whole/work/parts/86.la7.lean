/-! the union in the reference's words -/
theorem fi_id {k q : Nat} {kd : Nat → Nat} (h : ∀ i, i < k → kd i = (foL kd k).idxOf (kd i)) (hid : ∀ i, i < k → kd i = i) (hc : (foL kd k).length = k) (hq : q < k) : fi kd k q = q := by
  have a := fi_ok h (by rw [hc]; exact hq)
  rw [← hid _ a.1]
  exact a.2.1
theorem phi_la {A : Ab} {a c : Nat} (hg : gdR (A.1.1 a)) : (phi A a c).testBit (fA A a) = c.testBit (la A a) := by
  unfold la
  rw [phi_bit, decide_eq_true (AL_fA hg), Bool.true_and]
theorem tie_un {A : Ab} {a v : Nat} (hg : gdR (A.1.1 a)) (hv : v < 2 ^ (AL A a).length) (h6 : (bf (dL A a) (phi A a v)).length ≤ 6) : (bf (d7 A a) v).length = (bf (dL A a) (phi A a v)).length ∧ cM (d7 A a) (a7 A a) (bf (d7 A a) v) = (bf (dL A a) (phi A a v)).length ∧ (∀ F', sR (d7 A a) (a7 A a) (bf (d7 A a) v) F' = ((bf (dL A a) (phi A a v)).length, TW A a (bf (dL A a) (phi A a v)) ((bf (dL A a) (phi A a v)).length * 3), F')) ∧ ∀ F', (∀ q, q < 6 → F'.testBit q = (decide (q < (bf (dL A a) (phi A a v)).length) && ((bf (dL A a) (phi A a v)).getD q 0).testBit (fA A a))) → sF (d7 A a) (a7 A a) (bf (d7 A a) v) F' := by
  have e := bf_phi hg hv
  have el : (bf (d7 A a) v).length = (bf (dL A a) (phi A a v)).length := by rw [e, List.length_map]
  obtain ⟨k1, k2⟩ := k7_id hg hv (by omega)
  have hfi : ∀ q, q < (bf (d7 A a) v).length → fi (kM_ (d7 A a) (a7 A a) (bf (d7 A a) v)) (bf (d7 A a) v).length q = q := fun q hq => fi_id kdF_fo k2 k1 hq
  have hcl : ∀ p, p < 3 * (bf (d7 A a) v).length → nxt (d7 A a) (bf (d7 A a) v) p < (bf (d7 A a) v).length := fun p hp => idx_lt (bf_cl (by omega) (getD_mem (show p / 3 < (bf (d7 A a) v).length by omega)) (by omega))
  refine ⟨el, by rw [k1, el], fun F' => ?_, fun F' h q hq => ?_⟩
  · have hm : mnT (bf (d7 A a) v).length (nxt (d7 A a) (bf (d7 A a) v)) (kM_ (d7 A a) (a7 A a) (bf (d7 A a) v)) (cM (d7 A a) (a7 A a) (bf (d7 A a) v)) = TW A a (bf (dL A a) (phi A a v)) ((bf (dL A a) (phi A a v)).length * 3) := by
      rw [k1]
      funext j
      unfold mnT TW
      by_cases z : j / 3 < (bf (d7 A a) v).length
      · rw [if_pos z, if_pos (by omega), hfi _ z, show j / 3 * 3 + j % 3 = j by omega, k2 _ (hcl j (by omega)), e]
        exact (nxt_map (f := phi A a) (Dm := fun c => c < 2 ^ (AL A a).length) (fun _ _ h1 h2 h => phi_inj h1 h2 h) (fun _ _ _ hq => d7_lt hg hq) (fun _ _ _ hq => phi_d hg hq) (bf7_dm hg hv) (by omega)).symm
      · rw [if_neg z, if_neg (by omega)]
    unfold sR
    rw [hm, k1, el]
  · rw [h q hq, k1]
    by_cases z : q < (bf (d7 A a) v).length
    · rw [hfi q z, ← el, e, getD_map z, phi_la hg]
    · rw [decide_eq_false (show ¬ q < (bf (dL A a) (phi A a v)).length by omega), decide_eq_false z, Bool.false_and, Bool.false_and]

set_option maxRecDepth 100000 in
theorem c_uniteAtoms (l : Launch) {S : pv_M} {A : Ab} (hC : CSt S A) {j : Nat} (hj : j < 3) (gj : gdR (A.1.1 j)) {t : Nat} (ht : t < 3) {v : Nat} (hv64 : v < 2 ^ 64) (hv : v < 2 ^ (AL A j).length) (h6 : (bf (d7 A j) v).length ≤ 6) : mt l MX11_uniteAtoms 106 [.ref 0, .int (nI (j)), .long (lN (v)), .int (nI (t))] S (fun v9 S' => ∃ F', F' < 64 ∧ sF (d7 A j) (a7 A j) (bf (d7 A j) v) F' ∧ v9 = some (.int (nI (cM (d7 A j) (a7 A j) (bf (d7 A j) v)))) ∧ CSt S' (setR A t (sR (d7 A j) (a7 A j) (bf (d7 A j) v) F')) ∧ FR cC S S') := by
  refine mt_of (by decide) (Nat.le_of_ble_eq_true rfl) ?_
  intro x hl hR hmL C E
  show GG x 106 0 0 [.ref 0, .int (nI (j)), .long (lN (v)), unk, .int (nI (t))] [] S 0
  have hS := hC.1
  have e9 := bf_phi gj hv
  have el9 : (bf (d7 A j) v).length = (bf (dL A j) (phi A j v)).length := by rw [e9, List.length_map]
  refine g_iload C dX11_uniteAtoms_0 rfl ?_
  refine g_callS C (k_checkRegister _ ht) so_X11_88 dX11_uniteAtoms_2 rfl rfl (rm_ok (M' := MX11_uniteAtoms) hR (by decide)) (Nat.le_of_ble_eq_true rfl) (fun v9 S9 h9 => ?_)
  obtain ⟨rfl, h9⟩ := h9
  refine g_S S h9 ?_
  refine g_n0 [] rfl rfl rfl ?_
  refine g_aload_n C dX11_uniteAtoms_5 rfl ?_
  refine g_iload_n C dX11_uniteAtoms_6 rfl ?_
  refine g_callV C (As := [.int (nI (j))]) (c_findAtoms _ hC hj gj) vo_X11_159 dX11_uniteAtoms_7 rfl rfl (by decide) rfl (rm_ok (M' := MX11_uniteAtoms) hR (by decide)) (Nat.le_of_ble_eq_true rfl) (fun v9 S6 h9 => ?_)
  obtain ⟨rfl, hC6, hF6, L, P, c6, p6, w6, o6⟩ := h9
  have hS6 := hC6.1
  have hcn := p6.cnt
  have h64 := AL_len (A := A) (a := j)
  refine g_n0 [] rfl rfl rfl ?_
  refine g_aload_n C dX11_uniteAtoms_10 rfl ?_
  refine g_lload_n C dX11_uniteAtoms_11 rfl ?_
  refine g_callV C (As := [.long (lN (v))]) (k_checkAtoms _ hS6 c6 p6 hv64 hv) vo_X11_210 dX11_uniteAtoms_12 rfl rfl (by decide) rfl (rm_ok (M' := MX11_uniteAtoms) hR (by decide)) (Nat.le_of_ble_eq_true rfl) (fun v9 S5 h9 => ?_)
  obtain ⟨rfl, h9⟩ := h9
  refine g_S S6 h9 ?_
  refine g_n0 [] rfl rfl rfl ?_
  refine g_aload_n C dX11_uniteAtoms_15 rfl ?_
  refine g_getR C fo_X11_84 dX11_uniteAtoms_16 rfl (by decide) (fun _ => rfl) (gs_0_10 hS6) ?_
  refine g_lload_n C dX11_uniteAtoms_19 rfl ?_
  refine g_aload_n C dX11_uniteAtoms_20 rfl ?_
  refine g_getR C fo_X11_60 dX11_uniteAtoms_21 rfl (by decide) (fun _ => rfl) (gs_0_11 hS6) ?_
  refine g_callV C (As := [.long (lN (v)), .ref 19]) (k_writeUnion _ gj c6 p6 hv64 (AutoAt.any rfl (by decide) rfl (by decide) (gs_19_1 hS6))) vo_X11_214 dX11_uniteAtoms_24 rfl rfl (by decide) rfl (rm_ok (M' := MX11_uniteAtoms) hR (by decide)) (Nat.le_of_ble_eq_true rfl) (fun v9 S8 h9 => ?_)
  rcases h9 with ⟨h9a, _⟩ | ⟨_, rfl, y1, F9, F64, FB, A8⟩
  · omega
  have hS8 := hS6.fn y1
  have hC8 : CSt S8 A := hC6.frP y1.fr (fun r z => Or.inl (by rcases z with z | z | z | z | z <;> omega)) hS8 (hC6.2.1.of (congrFun y1.1 29)) (hC6.2.2.1.of (congrFun y1.1 21))
  have hF8 := hF6.tr (y1.fr.mono (fun r z => by rcases z with z | z | z | z | z <;> (show cC r; omega)))
  obtain ⟨el, ec, eR, eF⟩ := tie_un gj hv (by omega)
  have h6' : (bf (dL A j) (phi A j v)).length ≤ 6 := by omega
  refine g_n0 [.int (nI ((bf (dL A j) (phi A j v)).length))] rfl rfl rfl ?_
  refine g_callS C (k_checkResult _ h6') so_X11_207 dX11_uniteAtoms_27 rfl rfl (rm_ok (M' := MX11_uniteAtoms) hR (by decide)) (Nat.le_of_ble_eq_true rfl) (fun v9 S5 h9 => ?_)
  obtain ⟨rfl, h9⟩ := h9
  refine g_S S8 h9 ?_
  refine g_n0 [] rfl rfl rfl ?_
  refine g_aload_n C dX11_uniteAtoms_30 rfl ?_
  refine g_getR C fo_X11_11 dX11_uniteAtoms_31 rfl (by decide) (fun _ => rfl) (gs_0_0 hS8) ?_
  refine g_iload C dX11_uniteAtoms_34 rfl ?_
  refine g_aald C dX11_uniteAtoms_36 rfl (Or.inl rfl) (by decide) (by omega) rfl (hS8.reg ht) ?_
  refine g_aload_n C dX11_uniteAtoms_37 rfl ?_
  refine g_getR C fo_X11_60 dX11_uniteAtoms_38 rfl (by decide) (fun _ => rfl) (gs_0_11 hS8) ?_
  refine g_callV C (As := [.ref 19]) (c_X1_copyFrom _ (hC8.2.2.2.1 t ht) A8 (by omega) (by omega)) vo_X11_218 dX11_uniteAtoms_41 rfl (hC.2.2.2.1 t ht).1 (hC.2.2.2.1 t ht).2.1 rfl (rm_ok (M' := MX11_uniteAtoms) hR (by decide)) (Nat.le_of_ble_eq_true rfl) (fun v9 S7 h9 => ?_)
  obtain ⟨rfl, z1, z2⟩ := h9
  have hS7 := hS8.fn z2
  have hA7 := A8.keep z2 (fun z => by rcases z with z | z <;> omega) (fun z => by rcases z with z | z <;> omega)
  refine g_n0 [] rfl rfl rfl ?_
  refine g_aload_n C dX11_uniteAtoms_44 rfl ?_
  refine g_getR C fo_X11_60 dX11_uniteAtoms_45 rfl (by decide) (fun _ => rfl) (gs_0_11 hS7) ?_
  refine g_getI C fo_X11_117 dX11_uniteAtoms_48 rfl (by decide) (fun _ => rfl) hA7.2.2.2.2.2.1 ?_
  exact g_iret C E dX11_uniteAtoms_51 (by rw [hR]; decide) (by rw [hR]; decide) ⟨F9, F64, eF F9 FB, by rw [ec], by
    rw [eR F9]
    exact hC8.setR ht z2.fr (fun r z => Or.inr z) hS7 (hC8.2.1.of (congrFun z2.1 29)) (hC8.2.2.1.keepR z2.fr (fun z => by rcases z with z | z <;> omega)) z1, hF8.tr (z2.fr.mono (fun r z => by rcases z with z | z <;> (show r ≤ 74; omega)))⟩

set_option maxRecDepth 100000 in
theorem t_uniteAtoms_big {l : Launch} (hst : l.stackTraces = false) {S : pv_M} {A : Ab} (hC : CSt S A) {j : Nat} (hj : j < 3) (gj : gdR (A.1.1 j)) {t : Nat} (ht : t < 3) {v : Nat} (hv64 : v < 2 ^ 64) (hv : v < 2 ^ (AL A j).length) (h6 : 6 < (bf (d7 A j) v).length) : mth l MX11_uniteAtoms.th 106 [.ref 0, .int (nI (j)), .long (lN (v)), .int (nI (t))] S "java/lang/IllegalStateException" (fun S' => CSt S' A ∧ FR cC S S') := by
  refine mth_of hst (by decide) (Nat.le_of_ble_eq_true rfl) ?_
  intro x hl hR hmL C X
  have hst' : x.1.2.1.stackTraces = false := by rw [hl]; exact hst
  show GG x 106 0 0 [.ref 0, .int (nI (j)), .long (lN (v)), unk, .int (nI (t))] [] S 0
  have hS := hC.1
  have e9 := bf_phi gj hv
  have el9 : (bf (d7 A j) v).length = (bf (dL A j) (phi A j v)).length := by rw [e9, List.length_map]
  refine g_iload C dX11_uniteAtoms_0 rfl ?_
  refine g_callS C (k_checkRegister _ ht) so_X11_88 dX11_uniteAtoms_2 rfl rfl (rm_ok (M' := MX11_uniteAtoms.th) hR (by decide)) (Nat.le_of_ble_eq_true rfl) (fun v9 S9 h9 => ?_)
  obtain ⟨rfl, h9⟩ := h9
  refine g_S S h9 ?_
  refine g_n0 [] rfl rfl rfl ?_
  refine g_aload_n C dX11_uniteAtoms_5 rfl ?_
  refine g_iload_n C dX11_uniteAtoms_6 rfl ?_
  refine g_callV C (As := [.int (nI (j))]) (c_findAtoms _ hC hj gj) vo_X11_159 dX11_uniteAtoms_7 rfl rfl (by decide) rfl (rm_ok (M' := MX11_uniteAtoms.th) hR (by decide)) (Nat.le_of_ble_eq_true rfl) (fun v9 S6 h9 => ?_)
  obtain ⟨rfl, hC6, hF6, L, P, c6, p6, w6, o6⟩ := h9
  have hS6 := hC6.1
  have hcn := p6.cnt
  have h64 := AL_len (A := A) (a := j)
  refine g_n0 [] rfl rfl rfl ?_
  refine g_aload_n C dX11_uniteAtoms_10 rfl ?_
  refine g_lload_n C dX11_uniteAtoms_11 rfl ?_
  refine g_callV C (As := [.long (lN (v))]) (k_checkAtoms _ hS6 c6 p6 hv64 hv) vo_X11_210 dX11_uniteAtoms_12 rfl rfl (by decide) rfl (rm_ok (M' := MX11_uniteAtoms.th) hR (by decide)) (Nat.le_of_ble_eq_true rfl) (fun v9 S5 h9 => ?_)
  obtain ⟨rfl, h9⟩ := h9
  refine g_S S6 h9 ?_
  refine g_n0 [] rfl rfl rfl ?_
  refine g_aload_n C dX11_uniteAtoms_15 rfl ?_
  refine g_getR C fo_X11_84 dX11_uniteAtoms_16 rfl (by decide) (fun _ => rfl) (gs_0_10 hS6) ?_
  refine g_lload_n C dX11_uniteAtoms_19 rfl ?_
  refine g_aload_n C dX11_uniteAtoms_20 rfl ?_
  refine g_getR C fo_X11_60 dX11_uniteAtoms_21 rfl (by decide) (fun _ => rfl) (gs_0_11 hS6) ?_
  refine g_callV C (As := [.long (lN (v)), .ref 19]) (k_writeUnion _ gj c6 p6 hv64 (AutoAt.any rfl (by decide) rfl (by decide) (gs_19_1 hS6))) vo_X11_214 dX11_uniteAtoms_24 rfl rfl (by decide) rfl (rm_ok (M' := MX11_uniteAtoms.th) hR (by decide)) (Nat.le_of_ble_eq_true rfl) (fun v9 S8 h9 => ?_)
  rcases h9 with ⟨h9a, rfl, y1⟩ | ⟨h9a, _⟩
  rotate_left
  · omega
  have hS8 := hS6.fn y1
  have hC8 : CSt S8 A := hC6.frP y1.fr (fun r z => Or.inl (by rcases z with z | z | z | z | z <;> omega)) hS8 (hC6.2.1.of (congrFun y1.1 29)) (hC6.2.2.1.of (congrFun y1.1 21))
  have hF8 := hF6.tr (y1.fr.mono (fun r z => by rcases z with z | z | z | z | z <;> (show cC r; omega)))
  refine g_n0 [.int (nI (7))] rfl rfl rfl ?_
  exact g_thrS C X (t_checkResult hst' (j := 7) (by decide) (by decide)) so_X11_207 dX11_uniteAtoms_27 rfl rfl (rm_ok (M' := MX11_uniteAtoms.th) hR (by decide)) (Nat.le_of_ble_eq_true rfl) (fun S2 h2 => by rw [h2]; exact ⟨hC8, hF8⟩)

set_option maxRecDepth 100000 in
theorem t_uniteAtoms_n {l : Launch} (hst : l.stackTraces = false) {S : pv_M} {A : Ab} (hC : CSt S A) {j : Nat} (hj : j < 3) (gj : gdR (A.1.1 j)) {t : Nat} (ht : t < 3) {v : Nat} (hv64 : v < 2 ^ 64) (hv : 2 ^ (AL A j).length ≤ v) : mth l MX11_uniteAtoms.th 106 [.ref 0, .int (nI (j)), .long (lN (v)), .int (nI (t))] S "java/lang/IllegalArgumentException" (fun S' => CSt S' A ∧ FR cC S S') := by
  refine mth_of hst (by decide) (Nat.le_of_ble_eq_true rfl) ?_
  intro x hl hR hmL C X
  have hst' : x.1.2.1.stackTraces = false := by rw [hl]; exact hst
  show GG x 106 0 0 [.ref 0, .int (nI (j)), .long (lN (v)), unk, .int (nI (t))] [] S 0
  have hS := hC.1
  refine g_iload C dX11_uniteAtoms_0 rfl ?_
  refine g_callS C (k_checkRegister _ ht) so_X11_88 dX11_uniteAtoms_2 rfl rfl (rm_ok (M' := MX11_uniteAtoms.th) hR (by decide)) (Nat.le_of_ble_eq_true rfl) (fun v9 S9 h9 => ?_)
  obtain ⟨rfl, h9⟩ := h9
  refine g_S S h9 ?_
  refine g_n0 [] rfl rfl rfl ?_
  refine g_aload_n C dX11_uniteAtoms_5 rfl ?_
  refine g_iload_n C dX11_uniteAtoms_6 rfl ?_
  refine g_callV C (As := [.int (nI (j))]) (c_findAtoms _ hC hj gj) vo_X11_159 dX11_uniteAtoms_7 rfl rfl (by decide) rfl (rm_ok (M' := MX11_uniteAtoms.th) hR (by decide)) (Nat.le_of_ble_eq_true rfl) (fun v9 S6 h9 => ?_)
  obtain ⟨rfl, hC6, hF6, L, P, c6, p6, w6, o6⟩ := h9
  have hS6 := hC6.1
  have hcn := p6.cnt
  have h64 := AL_len (A := A) (a := j)
  refine g_n0 [] rfl rfl rfl ?_
  refine g_aload_n C dX11_uniteAtoms_10 rfl ?_
  refine g_lload_n C dX11_uniteAtoms_11 rfl ?_
  exact g_thrV C X (As := [.long (lN (v))]) (t_checkAtoms hst' hS6 c6 p6 hv64 hv) vo_X11_210 dX11_uniteAtoms_12 rfl rfl (by decide) rfl (rm_ok (M' := MX11_uniteAtoms.th) hR (by decide)) (Nat.le_of_ble_eq_true rfl) (fun S2 h2 => by rw [h2]; exact ⟨hC6, hF6⟩)

set_option maxRecDepth 100000 in
theorem t_uniteAtoms_t {l : Launch} (hst : l.stackTraces = false) {S : pv_M} {p : Int32} (h : badI p 3) {q : Int32} {v : Nat} : mth l MX11_uniteAtoms.th 106 [.ref 0, .int (q), .long (lN (v)), .int (p)] S "java/lang/IndexOutOfBoundsException" (fun S' => S' = S) := by
  refine mth_of hst (by decide) (Nat.le_of_ble_eq_true rfl) ?_
  intro x hl hR hmL C X
  have hst' : x.1.2.1.stackTraces = false := by rw [hl]; exact hst
  show GG x 106 0 0 [.ref 0, .int (q), .long (lN (v)), unk, .int (p)] [] S 0
  refine g_iload C dX11_uniteAtoms_0 rfl ?_
  exact g_thrS C X (t_checkRegister hst' h) so_X11_88 dX11_uniteAtoms_2 rfl rfl (rm_ok (M' := MX11_uniteAtoms.th) hR (by decide)) (Nat.le_of_ble_eq_true rfl) (fun _ h => h)

set_option maxRecDepth 100000 in
theorem t_uniteAtoms_r {l : Launch} (hst : l.stackTraces = false) {S : pv_M} {p : Int32} (h : badI p 3) {t v : Nat} (ht : t < 3) : mth l MX11_uniteAtoms.th 106 [.ref 0, .int (p), .long (lN (v)), .int (nI (t))] S "java/lang/IndexOutOfBoundsException" (fun S' => S' = S) := by
  refine mth_of hst (by decide) (Nat.le_of_ble_eq_true rfl) ?_
  intro x hl hR hmL C X
  have hst' : x.1.2.1.stackTraces = false := by rw [hl]; exact hst
  show GG x 106 0 0 [.ref 0, .int (p), .long (lN (v)), unk, .int (nI (t))] [] S 0
  refine g_iload C dX11_uniteAtoms_0 rfl ?_
  refine g_callS C (k_checkRegister _ ht) so_X11_88 dX11_uniteAtoms_2 rfl rfl (rm_ok (M' := MX11_uniteAtoms.th) hR (by decide)) (Nat.le_of_ble_eq_true rfl) (fun v9 S9 h9 => ?_)
  obtain ⟨rfl, h9⟩ := h9
  refine g_S S h9 ?_
  refine g_n0 [] rfl rfl rfl ?_
  refine g_aload_n C dX11_uniteAtoms_5 rfl ?_
  refine g_iload_n C dX11_uniteAtoms_6 rfl ?_
  exact g_thrV C X (As := [.int (p)]) (t_findAtoms_r hst' h) vo_X11_159 dX11_uniteAtoms_7 rfl rfl (by decide) rfl (rm_ok (M' := MX11_uniteAtoms.th) hR (by decide)) (Nat.le_of_ble_eq_true rfl) (fun _ h => h)
