theorem GS.wR {S : pv_M} {i0 k0 q : Nat} (h : GS S) (hm : mutR i0 k0 = true) : GS (wR S i0 (va_up (mR S i0) k0 (some q))) := h.of (fun i k hmu => by
  by_cases e : i = i0
  · subst e
    rw [mR_wR]
    by_cases e2 : k = k0
    · subst e2; rw [hm] at hmu; exact absurd hmu (by decide)
    · exact va_up_ne _ _ e2
  · rw [mR_wR_ne e])
theorem FR.cX {P : Nat → Prop} {S T : pv_M} (h : FR P S T) (q : ∀ r, P r → r ≤ 74) : FR cC S T := h.mono q

set_option maxRecDepth 100000 in
theorem c_X2_prepare (l : Launch) {S : pv_M} {a t n F b u m G : Nat} {T V : Nat → Nat} (hS : GS S) (hA : AutoAt S a t n T F) (hB : AutoAt S b u m V G) (ha : ¬ (a = 11 ∨ a = 15) ∧ ¬ (t = 11 ∨ t = 15)) (hb : ¬ (b = 11 ∨ b = 15) ∧ ¬ (u = 11 ∨ u = 15)) (h6 : m ≤ 6) (hV : ∀ i, i < m * 3 → V i < m) : mt l MX2_prepare 106 [.ref 11, .ref a, .ref b] S (fun v S' => v = none ∧ PCt a t n F m G T V S' ∧ FR (fun r => r = 11 ∨ r = 15) S S' ∧ GS S' ∧ mR S' 29 = mR S 29 ∧ mR S' 21 = mR S 21) := by
  refine mt_of (by decide) (Nat.le_of_ble_eq_true rfl) ?_
  intro x hl hR hmL C E
  show GG x 106 0 0 [.ref 11, .ref a, .ref b] [] S 0
  have t2 : mR S 11 2 = some 14 := gs_11_2 hS
  have t14 : mR S 14 0 = some 15 := gs_14_0 hS
  refine g_aload_n C dX2_prepare_0 rfl ?_
  refine g_aload_n C dX2_prepare_1 rfl ?_
  refine g_putR C fo_X2_12 dX2_prepare_2 rfl (by decide) hA.2.1 (Or.inl ⟨_, rfl⟩) ?_
  refine g_aload_n C dX2_prepare_5 rfl ?_
  refine g_aload_n C dX2_prepare_6 rfl ?_
  refine g_getI C fo_X2_29 dX2_prepare_7 hB.1 hB.2.1 (fun _ => rfl) hB.2.2.2.2.2.2.1 ?_
  refine g_putI C fo_X2_18 dX2_prepare_10 rfl (by decide) rfl ?_
  refine g_aload_n C dX2_prepare_13 rfl ?_
  refine g_getR C fo_X2_25 dX2_prepare_14 rfl (by decide) (fun _ => rfl) t2 ?_
  refine g_aload_n C dX2_prepare_17 rfl ?_
  refine g_callV C (As := [.ref b]) (c_X8_fillForward _ (p := 14) (v := 15) ⟨rfl, by decide, rfl, by decide, t14⟩ (hB.keepR (P := fun r => r = 11 ∨ r = 15) ((FR.wR (Or.inl rfl)).tr (FN.wI (Or.inl rfl)).fr) hb.1 hb.2) h6 (fun j hj => Nat.lt_of_lt_of_le (hV j hj) h6)) vo_X2_32 dX2_prepare_18 rfl rfl (by decide) rfl (rm_ok (M' := MX2_prepare) hR (by decide)) (Nat.le_of_ble_eq_true rfl) (fun v9 S9 h9 => ?_)
  obtain ⟨rfl, g1, g2, g3⟩ := h9
  have k1 : FR (fun r => r = 11 ∨ r = 15) S S9 := ((FR.wR (Or.inl rfl)).tr (FN.wI (Or.inl rfl)).fr).tr (g2.fr.mono (fun r z => Or.inr z))
  refine g_n0 [] rfl rfl rfl ?_
  exact g_vret C E dX2_prepare_21 (by rw [hR]; decide) (by rw [hR]; decide) ⟨rfl, ⟨by rw [g2.1]; rfl, hA.keepR k1 ha.1 ha.2, by rw [(g2.2 11 (by decide)).1]; exact rI_s, by rw [g2.1]; exact t2, g1, g3⟩, k1, ((hS.wR (i0 := 11) (k0 := 0) (by decide)).fn (FN.wI (P := fun r => r = 11) rfl)).fn g2, by rw [g2.1]; rfl, by rw [g2.1]; rfl⟩

set_option maxRecDepth 100000 in
theorem c_operate_4 (l : Launch) {S : pv_M} {A : Ab} (hC : CSt S A) {a : Nat} (ha : a < 3) (ga : gdR (A.1.1 a)) {b : Nat} (hb : b < 3) (gb : gdR (A.1.1 b)) : mt l MX11_operate 106 [.ref 0, .int (nI (4)), .int (nI (a)), .int (nI (b))] S (fun v S' => v = some (.int (nI (cM (d4 A a b) (a4 A b) (bfsF (d4 A a b) 384 0 [cEnter (rF A a) 0 0])))) ∧ MinF (d4 A a b) (a4 A b) (fun c => c / 64 < rN A a ∧ c % 64 < 2 ^ rN A b) S' (bfsF (d4 A a b) 384 0 [cEnter (rF A a) 0 0]) ∧ CSt S' A ∧ FR cC S S') := by
  refine mt_of (by decide) (Nat.le_of_ble_eq_true rfl) ?_
  intro x hl hR hmL C E
  show GG x 106 0 0 [.ref 0, .int (nI (4)), .int (nI (a)), .int (nI (b))] [] S 0
  have hS := hC.1
  refine g_iload_n C dX11_operate_0 rfl ?_
  refine n_iconst C 4 dX11_operate_1 ?_
  refine n_ic_ne C 36 dX11_operate_2 (fun h2 => absurd rfl h2) (fun h2 => ?_)
  refine g_aload_n C dX11_operate_5 rfl ?_
  refine g_getR C fo_X11_48 dX11_operate_6 rfl (by decide) (fun _ => rfl) (gs_0_8 hS) ?_
  refine g_aload_n C dX11_operate_9 rfl ?_
  refine g_getR C fo_X11_11 dX11_operate_10 rfl (by decide) (fun _ => rfl) (gs_0_0 hS) ?_
  refine g_iload_n C dX11_operate_13 rfl ?_
  refine g_aald C dX11_operate_14 rfl (Or.inl rfl) (by decide) (by omega) rfl (hS.reg ha) ?_
  refine g_aload_n C dX11_operate_15 rfl ?_
  refine g_getR C fo_X11_11 dX11_operate_16 rfl (by decide) (fun _ => rfl) (gs_0_0 hS) ?_
  refine g_iload_n C dX11_operate_19 rfl ?_
  refine g_aald C dX11_operate_20 rfl (Or.inl rfl) (by decide) (by omega) rfl (hS.reg hb) ?_
  refine g_callV C (As := [.ref (53 + 4 * a), .ref (53 + 4 * b)]) (c_X2_prepare _ hS (hC.2.2.2.1 a ha) (hC.2.2.2.1 b hb) ⟨by omega, by omega⟩ ⟨by omega, by omega⟩ gb.2.1 gb.2.2.1) vo_X11_306 dX11_operate_21 rfl rfl (by decide) rfl (rm_ok (M' := MX11_operate) hR (by decide)) (Nat.le_of_ble_eq_true rfl) (fun v9 S7 h9 => ?_)
  obtain ⟨rfl, p1, p2, p3, p4, p5⟩ := h9
  have hC7 : CSt S7 A := hC.frP p2 (fun r z => Or.inl (by rcases z with z | z <;> omega)) p3 (hC.2.1.of p4) (hC.2.2.1.of p5)
  have hF7 : FR cC S S7 := p2.mono (fun r z => by rcases z with z | z <;> (show r ≤ 74; omega))
  refine g_n0 [] rfl rfl rfl ?_
  refine g_aload_n C dX11_operate_24 rfl ?_
  refine g_getR C fo_X11_77 dX11_operate_25 rfl (by decide) (fun _ => rfl) (gs_0_6 p3) ?_
  refine g_aload_n C dX11_operate_28 rfl ?_
  refine g_getR C fo_X11_48 dX11_operate_29 rfl (by decide) (fun _ => rfl) (gs_0_8 p3) ?_
  refine g_callV C (As := [.ref 11]) (c_run (mach_ct _ (fun z => absurd z.2 (by omega)) (fun z => absurd z.2 (by omega)) ga.1 ga.2.1 ga.2.2.1 ga.2.2.2 gb.1 gb.2.1 gb.2.2.1 gb.2.2.2) p1 p3 hC7.2.1) vo_X11_151 dX11_operate_32 rfl rfl (by decide) rfl (rm_ok (M' := MX11_operate) hR (by decide)) (Nat.le_of_ble_eq_true rfl) (fun v9 S9 h9 => ?_)
  obtain ⟨rfl, g1, g2, g3, g4⟩ := h9
  obtain ⟨hC9, hF9⟩ := hC7.run g2 g3 g4
  have hT := tie_4 ga gb g1.1.2.2.2.1
  refine g_n0 [.int (nI (cM (d4 A a b) (a4 A b) (bfsF (d4 A a b) 384 0 [cEnter (rF A a) 0 0])))] rfl rfl rfl ?_
  exact g_iret C E dX11_operate_35 (by rw [hR]; decide) (by rw [hR]; decide) ⟨rfl, g1, hC9, hF7.tr hF9⟩

set_option maxRecDepth 100000 in
theorem c_resultSize_4 (l : Launch) {S : pv_M} {A : Ab} (hC : CSt S A) {a : Nat} (ha : a < 3) (ga : gdR (A.1.1 a)) {b : Nat} (hb : b < 3) (gb : gdR (A.1.1 b)) : mt l MX11_resultSize 106 [.ref 0, .int (nI (4)), .int (nI (a)), .int (nI (b))] S (fun v S' => v = some (.int (nI (cM (d4' A a b) (a4' A b) (bf (d4' A a b) (catM A a 0 0))))) ∧ CSt S' A ∧ FR cC S S') := by
  refine mt_of (by decide) (Nat.le_of_ble_eq_true rfl) ?_
  intro x hl hR hmL C E
  show GG x 106 0 0 [.ref 0, .int (nI (4)), .int (nI (a)), .int (nI (b))] [] S 0
  refine g_iload_n C dX11_resultSize_0 rfl ?_
  refine g_callS C (k_checkOperation _ (by decide)) so_X11_197 dX11_resultSize_1 rfl rfl (rm_ok (M' := MX11_resultSize) hR (by decide)) (Nat.le_of_ble_eq_true rfl) (fun v9 S9 h9 => ?_)
  obtain ⟨rfl, h9⟩ := h9
  refine g_S S h9 ?_
  refine g_n0 [] rfl rfl rfl ?_
  refine g_iload_n C dX11_resultSize_4 rfl ?_
  refine g_callS C (k_checkRegister _ ha) so_X11_88 dX11_resultSize_5 rfl rfl (rm_ok (M' := MX11_resultSize) hR (by decide)) (Nat.le_of_ble_eq_true rfl) (fun v9 S9 h9 => ?_)
  obtain ⟨rfl, h9⟩ := h9
  refine g_S S h9 ?_
  refine g_n0 [] rfl rfl rfl ?_
  refine g_iload_n C dX11_resultSize_8 rfl ?_
  refine g_callS C (k_checkRegister _ hb) so_X11_88 dX11_resultSize_9 rfl rfl (rm_ok (M' := MX11_resultSize) hR (by decide)) (Nat.le_of_ble_eq_true rfl) (fun v9 S9 h9 => ?_)
  obtain ⟨rfl, h9⟩ := h9
  refine g_S S h9 ?_
  refine g_n0 [] rfl rfl rfl ?_
  refine g_aload_n C dX11_resultSize_12 rfl ?_
  refine g_iload_n C dX11_resultSize_13 rfl ?_
  refine g_iload_n C dX11_resultSize_14 rfl ?_
  refine g_iload_n C dX11_resultSize_15 rfl ?_
  refine g_callV C (As := [.int (nI (4)), .int (nI (a)), .int (nI (b))]) (c_operate_4 _ hC ha ga hb gb) vo_X11_200 dX11_resultSize_16 rfl rfl (by decide) rfl (rm_ok (M' := MX11_resultSize) hR (by decide)) (Nat.le_of_ble_eq_true rfl) (fun v9 S9 h9 => ?_)
  obtain ⟨rfl, g1, hC9, hF9⟩ := h9
  have hT := tie_4 ga gb g1.1.2.2.2.1
  have g3 := hC9.1
  have g4 := hC9.2.1
  refine g_n0 [.int (nI (cM (d4 A a b) (a4 A b) (bfsF (d4 A a b) 384 0 [cEnter (rF A a) 0 0])))] rfl rfl rfl ?_
  exact g_iret C E dX11_resultSize_19 (by rw [hR]; decide) (by rw [hR]; decide) ⟨by rw [hT.2.2.2.2.2], hC9, hF9⟩

set_option maxRecDepth 100000 in
theorem c_combine_4 (l : Launch) {S : pv_M} {A : Ab} (hC : CSt S A) {a : Nat} (ha : a < 3) (ga : gdR (A.1.1 a)) {b : Nat} (hb : b < 3) (gb : gdR (A.1.1 b)) {t : Nat} (ht : t < 3) (hc5 : cM (d4' A a b) (a4' A b) (bf (d4' A a b) (catM A a 0 0)) ≤ 6) : mt l MX11_combine 106 [.ref 0, .int (nI (4)), .int (nI (a)), .int (nI (b)), .int (nI (t))] S (fun v S' => ∃ F', F' < 64 ∧ sF (d4' A a b) (a4' A b) (bf (d4' A a b) (catM A a 0 0)) F' ∧ v = some (.int (nI (cM (d4' A a b) (a4' A b) (bf (d4' A a b) (catM A a 0 0))))) ∧ CSt S' (setR A t (sR (d4' A a b) (a4' A b) (bf (d4' A a b) (catM A a 0 0)) F')) ∧ FR cC S S') := by
  refine mt_of (by decide) (Nat.le_of_ble_eq_true rfl) ?_
  intro x hl hR hmL C E
  show GG x 106 0 0 [.ref 0, .int (nI (4)), .int (nI (a)), .int (nI (b)), .int (nI (t))] [] S 0
  have hS := hC.1
  refine g_iload_n C dX11_combine_0 rfl ?_
  refine g_callS C (k_checkOperation _ (by decide)) so_X11_197 dX11_combine_1 rfl rfl (rm_ok (M' := MX11_combine) hR (by decide)) (Nat.le_of_ble_eq_true rfl) (fun v9 S9 h9 => ?_)
  obtain ⟨rfl, h9⟩ := h9
  refine g_S S h9 ?_
  refine g_n0 [] rfl rfl rfl ?_
  refine g_iload_n C dX11_combine_4 rfl ?_
  refine g_callS C (k_checkRegister _ ha) so_X11_88 dX11_combine_5 rfl rfl (rm_ok (M' := MX11_combine) hR (by decide)) (Nat.le_of_ble_eq_true rfl) (fun v9 S9 h9 => ?_)
  obtain ⟨rfl, h9⟩ := h9
  refine g_S S h9 ?_
  refine g_n0 [] rfl rfl rfl ?_
  refine g_iload_n C dX11_combine_8 rfl ?_
  refine g_callS C (k_checkRegister _ hb) so_X11_88 dX11_combine_9 rfl rfl (rm_ok (M' := MX11_combine) hR (by decide)) (Nat.le_of_ble_eq_true rfl) (fun v9 S9 h9 => ?_)
  obtain ⟨rfl, h9⟩ := h9
  refine g_S S h9 ?_
  refine g_n0 [] rfl rfl rfl ?_
  refine g_iload C dX11_combine_12 rfl ?_
  refine g_callS C (k_checkRegister _ ht) so_X11_88 dX11_combine_14 rfl rfl (rm_ok (M' := MX11_combine) hR (by decide)) (Nat.le_of_ble_eq_true rfl) (fun v9 S9 h9 => ?_)
  obtain ⟨rfl, h9⟩ := h9
  refine g_S S h9 ?_
  refine g_n0 [] rfl rfl rfl ?_
  refine g_aload_n C dX11_combine_17 rfl ?_
  refine g_iload_n C dX11_combine_18 rfl ?_
  refine g_iload_n C dX11_combine_19 rfl ?_
  refine g_iload_n C dX11_combine_20 rfl ?_
  refine g_callV C (As := [.int (nI (4)), .int (nI (a)), .int (nI (b))]) (c_operate_4 _ hC ha ga hb gb) vo_X11_200 dX11_combine_21 rfl rfl (by decide) rfl (rm_ok (M' := MX11_combine) hR (by decide)) (Nat.le_of_ble_eq_true rfl) (fun v9 S9 h9 => ?_)
  obtain ⟨rfl, g1, hC9, hF9⟩ := h9
  have hT := tie_4 ga gb g1.1.2.2.2.1
  have g3 := hC9.1
  have g4 := hC9.2.1
  have hc6 : cM (d4 A a b) (a4 A b) (bfsF (d4 A a b) 384 0 [cEnter (rF A a) 0 0]) ≤ 6 := by rw [← hT.2.2.2.2.2]; exact hc5
  refine g_n0 [.int (nI (cM (d4 A a b) (a4 A b) (bfsF (d4 A a b) 384 0 [cEnter (rF A a) 0 0])))] rfl rfl rfl ?_
  refine g_callS C (k_checkResult _ hc6) so_X11_207 dX11_combine_24 rfl rfl (rm_ok (M' := MX11_combine) hR (by decide)) (Nat.le_of_ble_eq_true rfl) (fun v9 S5 h9 => ?_)
  obtain ⟨rfl, h9⟩ := h9
  refine g_S S9 h9 ?_
  refine g_n0 [] rfl rfl rfl ?_
  refine g_aload_n C dX11_combine_27 rfl ?_
  refine g_getR C fo_X11_77 dX11_combine_28 rfl (by decide) (fun _ => rfl) (gs_0_6 g3) ?_
  refine g_aload_n C dX11_combine_31 rfl ?_
  refine g_getR C fo_X11_11 dX11_combine_32 rfl (by decide) (fun _ => rfl) (gs_0_0 g3) ?_
  refine g_iload C dX11_combine_35 rfl ?_
  refine g_aald C dX11_combine_37 rfl (Or.inl rfl) (by decide) (by omega) rfl (g3.reg ht) ?_
  refine g_callV C (As := [.ref (53 + 4 * t)]) (c_store (hC9.2.2.2.1 t ht) (fun z => absurd z.2 (by omega)) (fun z => absurd z.2 (by omega)) g1 hc6) vo_X11_155 dX11_combine_38 rfl rfl (by decide) rfl (rm_ok (M' := MX11_combine) hR (by decide)) (Nat.le_of_ble_eq_true rfl) (fun v9 S8 h9 => ?_)
  obtain ⟨rfl, q2, F9, q3, q4, q5⟩ := h9
  have hS8 := g3.fn q2
  have g48 := g4.of (congrFun q2.1 29)
  refine g_n0 [] rfl rfl rfl ?_
  refine g_aload_n C dX11_combine_41 rfl ?_
  refine g_getR C fo_X11_11 dX11_combine_42 rfl (by decide) (fun _ => rfl) (gs_0_0 hS8) ?_
  refine g_iload C dX11_combine_45 rfl ?_
  refine g_aald C dX11_combine_47 rfl (Or.inl rfl) (by decide) (by omega) rfl (hS8.reg ht) ?_
  refine g_getI C fo_X11_117 dX11_combine_48 (hC.2.2.2.1 t ht).1 (hC.2.2.2.1 t ht).2.1 (fun _ => rfl) q5.2.2.2.2.2.1 ?_
  exact g_iret C E dX11_combine_51 (by rw [hR]; decide) (by rw [hR]; decide) ⟨F9, q3, tied_sF hT q4, by rw [hT.2.2.2.2.2], by
    rw [tied_sR hT F9]
    exact hC9.setR ht q2.fr (fun r z => Or.inr z) hS8 g48 (hC9.2.2.1.keepR q2.fr (fun z => by rcases z with z | z <;> omega)) q5, hF9.tr (q2.fr.mono (fun r z => by rcases z with z | z <;> (show r ≤ 74; omega)))⟩

set_option maxRecDepth 100000 in
theorem t_combine_big_4 {l : Launch} (hst : l.stackTraces = false) {S : pv_M} {A : Ab} (hC : CSt S A) {a : Nat} (ha : a < 3) (ga : gdR (A.1.1 a)) {b : Nat} (hb : b < 3) (gb : gdR (A.1.1 b)) {t : Nat} (ht : t < 3) (hc5 : 6 < cM (d4' A a b) (a4' A b) (bf (d4' A a b) (catM A a 0 0))) : mth l MX11_combine.th 106 [.ref 0, .int (nI (4)), .int (nI (a)), .int (nI (b)), .int (nI (t))] S "java/lang/IllegalStateException" (fun S' => CSt S' A ∧ FR cC S S') := by
  refine mth_of hst (by decide) (Nat.le_of_ble_eq_true rfl) ?_
  intro x hl hR hmL C X
  have hst' : x.1.2.1.stackTraces = false := by rw [hl]; exact hst
  show GG x 106 0 0 [.ref 0, .int (nI (4)), .int (nI (a)), .int (nI (b)), .int (nI (t))] [] S 0
  have hS := hC.1
  refine g_iload_n C dX11_combine_0 rfl ?_
  refine g_callS C (k_checkOperation _ (by decide)) so_X11_197 dX11_combine_1 rfl rfl (rm_ok (M' := MX11_combine.th) hR (by decide)) (Nat.le_of_ble_eq_true rfl) (fun v9 S9 h9 => ?_)
  obtain ⟨rfl, h9⟩ := h9
  refine g_S S h9 ?_
  refine g_n0 [] rfl rfl rfl ?_
  refine g_iload_n C dX11_combine_4 rfl ?_
  refine g_callS C (k_checkRegister _ ha) so_X11_88 dX11_combine_5 rfl rfl (rm_ok (M' := MX11_combine.th) hR (by decide)) (Nat.le_of_ble_eq_true rfl) (fun v9 S9 h9 => ?_)
  obtain ⟨rfl, h9⟩ := h9
  refine g_S S h9 ?_
  refine g_n0 [] rfl rfl rfl ?_
  refine g_iload_n C dX11_combine_8 rfl ?_
  refine g_callS C (k_checkRegister _ hb) so_X11_88 dX11_combine_9 rfl rfl (rm_ok (M' := MX11_combine.th) hR (by decide)) (Nat.le_of_ble_eq_true rfl) (fun v9 S9 h9 => ?_)
  obtain ⟨rfl, h9⟩ := h9
  refine g_S S h9 ?_
  refine g_n0 [] rfl rfl rfl ?_
  refine g_iload C dX11_combine_12 rfl ?_
  refine g_callS C (k_checkRegister _ ht) so_X11_88 dX11_combine_14 rfl rfl (rm_ok (M' := MX11_combine.th) hR (by decide)) (Nat.le_of_ble_eq_true rfl) (fun v9 S9 h9 => ?_)
  obtain ⟨rfl, h9⟩ := h9
  refine g_S S h9 ?_
  refine g_n0 [] rfl rfl rfl ?_
  refine g_aload_n C dX11_combine_17 rfl ?_
  refine g_iload_n C dX11_combine_18 rfl ?_
  refine g_iload_n C dX11_combine_19 rfl ?_
  refine g_iload_n C dX11_combine_20 rfl ?_
  refine g_callV C (As := [.int (nI (4)), .int (nI (a)), .int (nI (b))]) (c_operate_4 _ hC ha ga hb gb) vo_X11_200 dX11_combine_21 rfl rfl (by decide) rfl (rm_ok (M' := MX11_combine.th) hR (by decide)) (Nat.le_of_ble_eq_true rfl) (fun v9 S9 h9 => ?_)
  obtain ⟨rfl, g1, hC9, hF9⟩ := h9
  have hT := tie_4 ga gb g1.1.2.2.2.1
  have g3 := hC9.1
  have g4 := hC9.2.1
  have hc6 : 6 < cM (d4 A a b) (a4 A b) (bfsF (d4 A a b) 384 0 [cEnter (rF A a) 0 0]) := by rw [← hT.2.2.2.2.2]; exact hc5
  have hc9 : cM (d4 A a b) (a4 A b) (bfsF (d4 A a b) 384 0 [cEnter (rF A a) 0 0]) ≤ 384 := Nat.le_trans cM_le g1.k9
  refine g_n0 [.int (nI (cM (d4 A a b) (a4 A b) (bfsF (d4 A a b) 384 0 [cEnter (rF A a) 0 0])))] rfl rfl rfl ?_
  exact g_thrS C X (t_checkResult hst' hc6 (by omega)) so_X11_207 dX11_combine_24 rfl rfl (rm_ok (M' := MX11_combine.th) hR (by decide)) (Nat.le_of_ble_eq_true rfl) (fun S2 h2 => by rw [h2]; exact ⟨hC9, hF9⟩)

set_option maxRecDepth 100000 in
theorem c_operate_p (l : Launch) {S : pv_M} {A : Ab} (hC : CSt S A) {a : Nat} (ha : a < 3) (ga : gdR (A.1.1 a)) {b : Nat} (hb : b < 3) (gb : gdR (A.1.1 b)) {op : Nat} (hp : op < 4) : mt l MX11_operate 106 [.ref 0, .int (nI (op)), .int (nI (a)), .int (nI (b))] S (fun v S' => v = some (.int (nI (cM (dP A a b) (aP A op a b) (bfsF (dP A a b) 36 0 [0])))) ∧ MinF (dP A a b) (aP A op a b) (fun c => c / 6 < rN A a ∧ c % 6 < rN A b) S' (bfsF (dP A a b) 36 0 [0]) ∧ CSt S' A ∧ FR cC S S') := by
  refine mt_of (by decide) (Nat.le_of_ble_eq_true rfl) ?_
  intro x hl hR hmL C E
  show GG x 106 0 0 [.ref 0, .int (nI (op)), .int (nI (a)), .int (nI (b))] [] S 0
  have hS := hC.1
  refine g_iload_n C dX11_operate_0 rfl ?_
  refine n_iconst C 4 dX11_operate_1 ?_
  refine n_ic_ne C 36 dX11_operate_2 (fun h2 => ?_) (fun h2 => absurd h2 (by omega))
  refine g_aload_n C dX11_operate_36 rfl ?_
  refine g_getR C fo_X11_41 dX11_operate_37 rfl (by decide) (fun _ => rfl) (gs_0_7 hS) ?_
  refine g_iload_n C dX11_operate_40 rfl ?_
  refine g_aload_n C dX11_operate_41 rfl ?_
  refine g_getR C fo_X11_11 dX11_operate_42 rfl (by decide) (fun _ => rfl) (gs_0_0 hS) ?_
  refine g_iload_n C dX11_operate_45 rfl ?_
  refine g_aald C dX11_operate_46 rfl (Or.inl rfl) (by decide) (by omega) rfl (hS.reg ha) ?_
  refine g_aload_n C dX11_operate_47 rfl ?_
  refine g_getR C fo_X11_11 dX11_operate_48 rfl (by decide) (fun _ => rfl) (gs_0_0 hS) ?_
  refine g_iload_n C dX11_operate_51 rfl ?_
  refine g_aald C dX11_operate_52 rfl (Or.inl rfl) (by decide) (by omega) rfl (hS.reg hb) ?_
  refine g_callV C (As := [.int (nI (op)), .ref (53 + 4 * a), .ref (53 + 4 * b)]) (c_X6_prepare _ (by omega) (by omega)) vo_X11_225 dX11_operate_53 rfl rfl (by decide) rfl (rm_ok (M' := MX11_operate) hR (by decide)) (Nat.le_of_ble_eq_true rfl) (fun v9 S7 h9 => ?_)
  obtain ⟨rfl, hz⟩ := h9
  have p2 : FR (fun r => r = 8) S S7 := by rw [hz]; exact ((FN.wI (P := fun r => r = 8) rfl).fr.tr (FR.wR rfl)).tr (FR.wR rfl)
  have p3 : GS S7 := by rw [hz]; exact ((hS.fn (FN.wI (P := fun r => r = 8) rfl)).wR (by decide)).wR (by decide)
  have p4 : mR S7 29 = mR S 29 := (p2 29 (by decide)).1
  have p5 : mR S7 21 = mR S 21 := (p2 21 (by decide)).1
  have p1 : PPr op (53 + 4 * a) (54 + 4 * a) (rN A a) (rF A a) (53 + 4 * b) (54 + 4 * b) (rN A b) (rF A b) (rT A a) (rT A b) S7 := ⟨by rw [hz]; rfl, by rw [hz]; rfl, by rw [hz]; rfl, (hC.2.2.2.1 a ha).keepR p2 (by omega) (by omega), (hC.2.2.2.1 b hb).keepR p2 (by omega) (by omega)⟩
  have hC7 : CSt S7 A := hC.frP p2 (fun r z => Or.inl (by omega)) p3 (hC.2.1.of p4) (hC.2.2.1.of p5)
  have hF7 : FR cC S S7 := p2.mono (fun r z => by show r ≤ 74; omega)
  refine g_n0 [] rfl rfl rfl ?_
  refine g_aload_n C dX11_operate_56 rfl ?_
  refine g_getR C fo_X11_77 dX11_operate_57 rfl (by decide) (fun _ => rfl) (gs_0_6 p3) ?_
  refine g_aload_n C dX11_operate_60 rfl ?_
  refine g_getR C fo_X11_41 dX11_operate_61 rfl (by decide) (fun _ => rfl) (gs_0_7 p3) ?_
  refine g_callV C (As := [.ref 8]) (c_run (mach_pr _ (fun z => absurd z.2 (by omega)) (fun z => absurd z.2 (by omega)) (fun z => absurd z.2 (by omega)) (fun z => absurd z.2 (by omega)) hp ga.1 ga.2.1 ga.2.2.1 ga.2.2.2 gb.1 gb.2.1 gb.2.2.1 gb.2.2.2) p1 p3 hC7.2.1) vo_X11_151 dX11_operate_64 rfl rfl (by decide) rfl (rm_ok (M' := MX11_operate) hR (by decide)) (Nat.le_of_ble_eq_true rfl) (fun v9 S9 h9 => ?_)
  obtain ⟨rfl, g1, g2, g3, g4⟩ := h9
  obtain ⟨hC9, hF9⟩ := hC7.run g2 g3 g4
  have hT := tie_p hp ga gb g1.1.2.2.2.1
  refine g_n0 [.int (nI (cM (dP A a b) (aP A op a b) (bfsF (dP A a b) 36 0 [0])))] rfl rfl rfl ?_
  exact g_iret C E dX11_operate_67 (by rw [hR]; decide) (by rw [hR]; decide) ⟨rfl, g1, hC9, hF7.tr hF9⟩

set_option maxRecDepth 100000 in
theorem c_resultSize_p (l : Launch) {S : pv_M} {A : Ab} (hC : CSt S A) {a : Nat} (ha : a < 3) (ga : gdR (A.1.1 a)) {b : Nat} (hb : b < 3) (gb : gdR (A.1.1 b)) {op : Nat} (hp : op < 4) : mt l MX11_resultSize 106 [.ref 0, .int (nI (op)), .int (nI (a)), .int (nI (b))] S (fun v S' => v = some (.int (nI (cM (dP' A a b) (aP' A op a b) (bf (dP' A a b) 0)))) ∧ CSt S' A ∧ FR cC S S') := by
  refine mt_of (by decide) (Nat.le_of_ble_eq_true rfl) ?_
  intro x hl hR hmL C E
  show GG x 106 0 0 [.ref 0, .int (nI (op)), .int (nI (a)), .int (nI (b))] [] S 0
  refine g_iload_n C dX11_resultSize_0 rfl ?_
  refine g_callS C (k_checkOperation _ (by omega)) so_X11_197 dX11_resultSize_1 rfl rfl (rm_ok (M' := MX11_resultSize) hR (by decide)) (Nat.le_of_ble_eq_true rfl) (fun v9 S9 h9 => ?_)
  obtain ⟨rfl, h9⟩ := h9
  refine g_S S h9 ?_
  refine g_n0 [] rfl rfl rfl ?_
  refine g_iload_n C dX11_resultSize_4 rfl ?_
  refine g_callS C (k_checkRegister _ ha) so_X11_88 dX11_resultSize_5 rfl rfl (rm_ok (M' := MX11_resultSize) hR (by decide)) (Nat.le_of_ble_eq_true rfl) (fun v9 S9 h9 => ?_)
  obtain ⟨rfl, h9⟩ := h9
  refine g_S S h9 ?_
  refine g_n0 [] rfl rfl rfl ?_
  refine g_iload_n C dX11_resultSize_8 rfl ?_
  refine g_callS C (k_checkRegister _ hb) so_X11_88 dX11_resultSize_9 rfl rfl (rm_ok (M' := MX11_resultSize) hR (by decide)) (Nat.le_of_ble_eq_true rfl) (fun v9 S9 h9 => ?_)
  obtain ⟨rfl, h9⟩ := h9
  refine g_S S h9 ?_
  refine g_n0 [] rfl rfl rfl ?_
  refine g_aload_n C dX11_resultSize_12 rfl ?_
  refine g_iload_n C dX11_resultSize_13 rfl ?_
  refine g_iload_n C dX11_resultSize_14 rfl ?_
  refine g_iload_n C dX11_resultSize_15 rfl ?_
  refine g_callV C (As := [.int (nI (op)), .int (nI (a)), .int (nI (b))]) (c_operate_p _ hC ha ga hb gb hp) vo_X11_200 dX11_resultSize_16 rfl rfl (by decide) rfl (rm_ok (M' := MX11_resultSize) hR (by decide)) (Nat.le_of_ble_eq_true rfl) (fun v9 S9 h9 => ?_)
  obtain ⟨rfl, g1, hC9, hF9⟩ := h9
  have hT := tie_p hp ga gb g1.1.2.2.2.1
  have g3 := hC9.1
  have g4 := hC9.2.1
  refine g_n0 [.int (nI (cM (dP A a b) (aP A op a b) (bfsF (dP A a b) 36 0 [0])))] rfl rfl rfl ?_
  exact g_iret C E dX11_resultSize_19 (by rw [hR]; decide) (by rw [hR]; decide) ⟨by rw [hT.2.2.2.2.2], hC9, hF9⟩

set_option maxRecDepth 100000 in
theorem c_combine_p (l : Launch) {S : pv_M} {A : Ab} (hC : CSt S A) {a : Nat} (ha : a < 3) (ga : gdR (A.1.1 a)) {b : Nat} (hb : b < 3) (gb : gdR (A.1.1 b)) {op : Nat} (hp : op < 4) {t : Nat} (ht : t < 3) (hc5 : cM (dP' A a b) (aP' A op a b) (bf (dP' A a b) 0) ≤ 6) : mt l MX11_combine 106 [.ref 0, .int (nI (op)), .int (nI (a)), .int (nI (b)), .int (nI (t))] S (fun v S' => ∃ F', F' < 64 ∧ sF (dP' A a b) (aP' A op a b) (bf (dP' A a b) 0) F' ∧ v = some (.int (nI (cM (dP' A a b) (aP' A op a b) (bf (dP' A a b) 0)))) ∧ CSt S' (setR A t (sR (dP' A a b) (aP' A op a b) (bf (dP' A a b) 0) F')) ∧ FR cC S S') := by
  refine mt_of (by decide) (Nat.le_of_ble_eq_true rfl) ?_
  intro x hl hR hmL C E
  show GG x 106 0 0 [.ref 0, .int (nI (op)), .int (nI (a)), .int (nI (b)), .int (nI (t))] [] S 0
  have hS := hC.1
  refine g_iload_n C dX11_combine_0 rfl ?_
  refine g_callS C (k_checkOperation _ (by omega)) so_X11_197 dX11_combine_1 rfl rfl (rm_ok (M' := MX11_combine) hR (by decide)) (Nat.le_of_ble_eq_true rfl) (fun v9 S9 h9 => ?_)
  obtain ⟨rfl, h9⟩ := h9
  refine g_S S h9 ?_
  refine g_n0 [] rfl rfl rfl ?_
  refine g_iload_n C dX11_combine_4 rfl ?_
  refine g_callS C (k_checkRegister _ ha) so_X11_88 dX11_combine_5 rfl rfl (rm_ok (M' := MX11_combine) hR (by decide)) (Nat.le_of_ble_eq_true rfl) (fun v9 S9 h9 => ?_)
  obtain ⟨rfl, h9⟩ := h9
  refine g_S S h9 ?_
  refine g_n0 [] rfl rfl rfl ?_
  refine g_iload_n C dX11_combine_8 rfl ?_
  refine g_callS C (k_checkRegister _ hb) so_X11_88 dX11_combine_9 rfl rfl (rm_ok (M' := MX11_combine) hR (by decide)) (Nat.le_of_ble_eq_true rfl) (fun v9 S9 h9 => ?_)
  obtain ⟨rfl, h9⟩ := h9
  refine g_S S h9 ?_
  refine g_n0 [] rfl rfl rfl ?_
  refine g_iload C dX11_combine_12 rfl ?_
  refine g_callS C (k_checkRegister _ ht) so_X11_88 dX11_combine_14 rfl rfl (rm_ok (M' := MX11_combine) hR (by decide)) (Nat.le_of_ble_eq_true rfl) (fun v9 S9 h9 => ?_)
  obtain ⟨rfl, h9⟩ := h9
  refine g_S S h9 ?_
  refine g_n0 [] rfl rfl rfl ?_
  refine g_aload_n C dX11_combine_17 rfl ?_
  refine g_iload_n C dX11_combine_18 rfl ?_
  refine g_iload_n C dX11_combine_19 rfl ?_
  refine g_iload_n C dX11_combine_20 rfl ?_
  refine g_callV C (As := [.int (nI (op)), .int (nI (a)), .int (nI (b))]) (c_operate_p _ hC ha ga hb gb hp) vo_X11_200 dX11_combine_21 rfl rfl (by decide) rfl (rm_ok (M' := MX11_combine) hR (by decide)) (Nat.le_of_ble_eq_true rfl) (fun v9 S9 h9 => ?_)
  obtain ⟨rfl, g1, hC9, hF9⟩ := h9
  have hT := tie_p hp ga gb g1.1.2.2.2.1
  have g3 := hC9.1
  have g4 := hC9.2.1
  have hc6 : cM (dP A a b) (aP A op a b) (bfsF (dP A a b) 36 0 [0]) ≤ 6 := by rw [← hT.2.2.2.2.2]; exact hc5
  refine g_n0 [.int (nI (cM (dP A a b) (aP A op a b) (bfsF (dP A a b) 36 0 [0])))] rfl rfl rfl ?_
  refine g_callS C (k_checkResult _ hc6) so_X11_207 dX11_combine_24 rfl rfl (rm_ok (M' := MX11_combine) hR (by decide)) (Nat.le_of_ble_eq_true rfl) (fun v9 S5 h9 => ?_)
  obtain ⟨rfl, h9⟩ := h9
  refine g_S S9 h9 ?_
  refine g_n0 [] rfl rfl rfl ?_
  refine g_aload_n C dX11_combine_27 rfl ?_
  refine g_getR C fo_X11_77 dX11_combine_28 rfl (by decide) (fun _ => rfl) (gs_0_6 g3) ?_
  refine g_aload_n C dX11_combine_31 rfl ?_
  refine g_getR C fo_X11_11 dX11_combine_32 rfl (by decide) (fun _ => rfl) (gs_0_0 g3) ?_
  refine g_iload C dX11_combine_35 rfl ?_
  refine g_aald C dX11_combine_37 rfl (Or.inl rfl) (by decide) (by omega) rfl (g3.reg ht) ?_
  refine g_callV C (As := [.ref (53 + 4 * t)]) (c_store (hC9.2.2.2.1 t ht) (fun z => absurd z.2 (by omega)) (fun z => absurd z.2 (by omega)) g1 hc6) vo_X11_155 dX11_combine_38 rfl rfl (by decide) rfl (rm_ok (M' := MX11_combine) hR (by decide)) (Nat.le_of_ble_eq_true rfl) (fun v9 S8 h9 => ?_)
  obtain ⟨rfl, q2, F9, q3, q4, q5⟩ := h9
  have hS8 := g3.fn q2
  have g48 := g4.of (congrFun q2.1 29)
  refine g_n0 [] rfl rfl rfl ?_
  refine g_aload_n C dX11_combine_41 rfl ?_
  refine g_getR C fo_X11_11 dX11_combine_42 rfl (by decide) (fun _ => rfl) (gs_0_0 hS8) ?_
  refine g_iload C dX11_combine_45 rfl ?_
  refine g_aald C dX11_combine_47 rfl (Or.inl rfl) (by decide) (by omega) rfl (hS8.reg ht) ?_
  refine g_getI C fo_X11_117 dX11_combine_48 (hC.2.2.2.1 t ht).1 (hC.2.2.2.1 t ht).2.1 (fun _ => rfl) q5.2.2.2.2.2.1 ?_
  exact g_iret C E dX11_combine_51 (by rw [hR]; decide) (by rw [hR]; decide) ⟨F9, q3, tied_sF hT q4, by rw [hT.2.2.2.2.2], by
    rw [tied_sR hT F9]
    exact hC9.setR ht q2.fr (fun r z => Or.inr z) hS8 g48 (hC9.2.2.1.keepR q2.fr (fun z => by rcases z with z | z <;> omega)) q5, hF9.tr (q2.fr.mono (fun r z => by rcases z with z | z <;> (show r ≤ 74; omega)))⟩

set_option maxRecDepth 100000 in
theorem t_combine_big_p {l : Launch} (hst : l.stackTraces = false) {S : pv_M} {A : Ab} (hC : CSt S A) {a : Nat} (ha : a < 3) (ga : gdR (A.1.1 a)) {b : Nat} (hb : b < 3) (gb : gdR (A.1.1 b)) {op : Nat} (hp : op < 4) {t : Nat} (ht : t < 3) (hc5 : 6 < cM (dP' A a b) (aP' A op a b) (bf (dP' A a b) 0)) : mth l MX11_combine.th 106 [.ref 0, .int (nI (op)), .int (nI (a)), .int (nI (b)), .int (nI (t))] S "java/lang/IllegalStateException" (fun S' => CSt S' A ∧ FR cC S S') := by
  refine mth_of hst (by decide) (Nat.le_of_ble_eq_true rfl) ?_
  intro x hl hR hmL C X
  have hst' : x.1.2.1.stackTraces = false := by rw [hl]; exact hst
  show GG x 106 0 0 [.ref 0, .int (nI (op)), .int (nI (a)), .int (nI (b)), .int (nI (t))] [] S 0
  have hS := hC.1
  refine g_iload_n C dX11_combine_0 rfl ?_
  refine g_callS C (k_checkOperation _ (by omega)) so_X11_197 dX11_combine_1 rfl rfl (rm_ok (M' := MX11_combine.th) hR (by decide)) (Nat.le_of_ble_eq_true rfl) (fun v9 S9 h9 => ?_)
  obtain ⟨rfl, h9⟩ := h9
  refine g_S S h9 ?_
  refine g_n0 [] rfl rfl rfl ?_
  refine g_iload_n C dX11_combine_4 rfl ?_
  refine g_callS C (k_checkRegister _ ha) so_X11_88 dX11_combine_5 rfl rfl (rm_ok (M' := MX11_combine.th) hR (by decide)) (Nat.le_of_ble_eq_true rfl) (fun v9 S9 h9 => ?_)
  obtain ⟨rfl, h9⟩ := h9
  refine g_S S h9 ?_
  refine g_n0 [] rfl rfl rfl ?_
  refine g_iload_n C dX11_combine_8 rfl ?_
  refine g_callS C (k_checkRegister _ hb) so_X11_88 dX11_combine_9 rfl rfl (rm_ok (M' := MX11_combine.th) hR (by decide)) (Nat.le_of_ble_eq_true rfl) (fun v9 S9 h9 => ?_)
  obtain ⟨rfl, h9⟩ := h9
  refine g_S S h9 ?_
  refine g_n0 [] rfl rfl rfl ?_
  refine g_iload C dX11_combine_12 rfl ?_
  refine g_callS C (k_checkRegister _ ht) so_X11_88 dX11_combine_14 rfl rfl (rm_ok (M' := MX11_combine.th) hR (by decide)) (Nat.le_of_ble_eq_true rfl) (fun v9 S9 h9 => ?_)
  obtain ⟨rfl, h9⟩ := h9
  refine g_S S h9 ?_
  refine g_n0 [] rfl rfl rfl ?_
  refine g_aload_n C dX11_combine_17 rfl ?_
  refine g_iload_n C dX11_combine_18 rfl ?_
  refine g_iload_n C dX11_combine_19 rfl ?_
  refine g_iload_n C dX11_combine_20 rfl ?_
  refine g_callV C (As := [.int (nI (op)), .int (nI (a)), .int (nI (b))]) (c_operate_p _ hC ha ga hb gb hp) vo_X11_200 dX11_combine_21 rfl rfl (by decide) rfl (rm_ok (M' := MX11_combine.th) hR (by decide)) (Nat.le_of_ble_eq_true rfl) (fun v9 S9 h9 => ?_)
  obtain ⟨rfl, g1, hC9, hF9⟩ := h9
  have hT := tie_p hp ga gb g1.1.2.2.2.1
  have g3 := hC9.1
  have g4 := hC9.2.1
  have hc6 : 6 < cM (dP A a b) (aP A op a b) (bfsF (dP A a b) 36 0 [0]) := by rw [← hT.2.2.2.2.2]; exact hc5
  have hc9 : cM (dP A a b) (aP A op a b) (bfsF (dP A a b) 36 0 [0]) ≤ 384 := Nat.le_trans cM_le g1.k9
  refine g_n0 [.int (nI (cM (dP A a b) (aP A op a b) (bfsF (dP A a b) 36 0 [0])))] rfl rfl rfl ?_
  exact g_thrS C X (t_checkResult hst' hc6 (by omega)) so_X11_207 dX11_combine_24 rfl rfl (rm_ok (M' := MX11_combine.th) hR (by decide)) (Nat.le_of_ble_eq_true rfl) (fun S2 h2 => by rw [h2]; exact ⟨hC9, hF9⟩)

set_option maxRecDepth 100000 in
theorem t_resultSize_o {l : Launch} (hst : l.stackTraces = false) {S : pv_M} {p q1 q2 : Int32} (h : badI p 5) : mth l MX11_resultSize.th 106 [.ref 0, .int (p), .int (q1), .int (q2)] S "java/lang/IllegalArgumentException" (fun S' => S' = S) := by
  refine mth_of hst (by decide) (Nat.le_of_ble_eq_true rfl) ?_
  intro x hl hR hmL C X
  have hst' : x.1.2.1.stackTraces = false := by rw [hl]; exact hst
  show GG x 106 0 0 [.ref 0, .int (p), .int (q1), .int (q2)] [] S 0
  refine g_iload_n C dX11_resultSize_0 rfl ?_
  exact g_thrS C X (t_checkOperation hst' h) so_X11_197 dX11_resultSize_1 rfl rfl (rm_ok (M' := MX11_resultSize.th) hR (by decide)) (Nat.le_of_ble_eq_true rfl) (fun _ h => h)

set_option maxRecDepth 100000 in
theorem t_resultSize_a {l : Launch} (hst : l.stackTraces = false) {S : pv_M} {op : Nat} {p q2 : Int32} (hp : op < 5) (h : badI p 3) : mth l MX11_resultSize.th 106 [.ref 0, .int (nI (op)), .int (p), .int (q2)] S "java/lang/IndexOutOfBoundsException" (fun S' => S' = S) := by
  refine mth_of hst (by decide) (Nat.le_of_ble_eq_true rfl) ?_
  intro x hl hR hmL C X
  have hst' : x.1.2.1.stackTraces = false := by rw [hl]; exact hst
  show GG x 106 0 0 [.ref 0, .int (nI (op)), .int (p), .int (q2)] [] S 0
  refine g_iload_n C dX11_resultSize_0 rfl ?_
  refine g_callS C (k_checkOperation _ hp) so_X11_197 dX11_resultSize_1 rfl rfl (rm_ok (M' := MX11_resultSize.th) hR (by decide)) (Nat.le_of_ble_eq_true rfl) (fun v9 S9 h9 => ?_)
  obtain ⟨rfl, h9⟩ := h9
  refine g_S S h9 ?_
  refine g_n0 [] rfl rfl rfl ?_
  refine g_iload_n C dX11_resultSize_4 rfl ?_
  exact g_thrS C X (t_checkRegister hst' h) so_X11_88 dX11_resultSize_5 rfl rfl (rm_ok (M' := MX11_resultSize.th) hR (by decide)) (Nat.le_of_ble_eq_true rfl) (fun _ h => h)

set_option maxRecDepth 100000 in
theorem t_resultSize_b {l : Launch} (hst : l.stackTraces = false) {S : pv_M} {op a : Nat} {p  : Int32} (hp : op < 5) (ha : a < 3) (h : badI p 3) : mth l MX11_resultSize.th 106 [.ref 0, .int (nI (op)), .int (nI (a)), .int (p)] S "java/lang/IndexOutOfBoundsException" (fun S' => S' = S) := by
  refine mth_of hst (by decide) (Nat.le_of_ble_eq_true rfl) ?_
  intro x hl hR hmL C X
  have hst' : x.1.2.1.stackTraces = false := by rw [hl]; exact hst
  show GG x 106 0 0 [.ref 0, .int (nI (op)), .int (nI (a)), .int (p)] [] S 0
  refine g_iload_n C dX11_resultSize_0 rfl ?_
  refine g_callS C (k_checkOperation _ hp) so_X11_197 dX11_resultSize_1 rfl rfl (rm_ok (M' := MX11_resultSize.th) hR (by decide)) (Nat.le_of_ble_eq_true rfl) (fun v9 S9 h9 => ?_)
  obtain ⟨rfl, h9⟩ := h9
  refine g_S S h9 ?_
  refine g_n0 [] rfl rfl rfl ?_
  refine g_iload_n C dX11_resultSize_4 rfl ?_
  refine g_callS C (k_checkRegister _ ha) so_X11_88 dX11_resultSize_5 rfl rfl (rm_ok (M' := MX11_resultSize.th) hR (by decide)) (Nat.le_of_ble_eq_true rfl) (fun v9 S9 h9 => ?_)
  obtain ⟨rfl, h9⟩ := h9
  refine g_S S h9 ?_
  refine g_n0 [] rfl rfl rfl ?_
  refine g_iload_n C dX11_resultSize_8 rfl ?_
  exact g_thrS C X (t_checkRegister hst' h) so_X11_88 dX11_resultSize_9 rfl rfl (rm_ok (M' := MX11_resultSize.th) hR (by decide)) (Nat.le_of_ble_eq_true rfl) (fun _ h => h)

set_option maxRecDepth 100000 in
theorem t_combine_o {l : Launch} (hst : l.stackTraces = false) {S : pv_M} {p q1 q2 q3 : Int32} (h : badI p 5) : mth l MX11_combine.th 106 [.ref 0, .int (p), .int (q1), .int (q2), .int (q3)] S "java/lang/IllegalArgumentException" (fun S' => S' = S) := by
  refine mth_of hst (by decide) (Nat.le_of_ble_eq_true rfl) ?_
  intro x hl hR hmL C X
  have hst' : x.1.2.1.stackTraces = false := by rw [hl]; exact hst
  show GG x 106 0 0 [.ref 0, .int (p), .int (q1), .int (q2), .int (q3)] [] S 0
  refine g_iload_n C dX11_combine_0 rfl ?_
  exact g_thrS C X (t_checkOperation hst' h) so_X11_197 dX11_combine_1 rfl rfl (rm_ok (M' := MX11_combine.th) hR (by decide)) (Nat.le_of_ble_eq_true rfl) (fun _ h => h)

set_option maxRecDepth 100000 in
theorem t_combine_a {l : Launch} (hst : l.stackTraces = false) {S : pv_M} {op : Nat} {p q2 q3 : Int32} (hp : op < 5) (h : badI p 3) : mth l MX11_combine.th 106 [.ref 0, .int (nI (op)), .int (p), .int (q2), .int (q3)] S "java/lang/IndexOutOfBoundsException" (fun S' => S' = S) := by
  refine mth_of hst (by decide) (Nat.le_of_ble_eq_true rfl) ?_
  intro x hl hR hmL C X
  have hst' : x.1.2.1.stackTraces = false := by rw [hl]; exact hst
  show GG x 106 0 0 [.ref 0, .int (nI (op)), .int (p), .int (q2), .int (q3)] [] S 0
  refine g_iload_n C dX11_combine_0 rfl ?_
  refine g_callS C (k_checkOperation _ hp) so_X11_197 dX11_combine_1 rfl rfl (rm_ok (M' := MX11_combine.th) hR (by decide)) (Nat.le_of_ble_eq_true rfl) (fun v9 S9 h9 => ?_)
  obtain ⟨rfl, h9⟩ := h9
  refine g_S S h9 ?_
  refine g_n0 [] rfl rfl rfl ?_
  refine g_iload_n C dX11_combine_4 rfl ?_
  exact g_thrS C X (t_checkRegister hst' h) so_X11_88 dX11_combine_5 rfl rfl (rm_ok (M' := MX11_combine.th) hR (by decide)) (Nat.le_of_ble_eq_true rfl) (fun _ h => h)

set_option maxRecDepth 100000 in
theorem t_combine_b {l : Launch} (hst : l.stackTraces = false) {S : pv_M} {op a : Nat} {p q3 : Int32} (hp : op < 5) (ha : a < 3) (h : badI p 3) : mth l MX11_combine.th 106 [.ref 0, .int (nI (op)), .int (nI (a)), .int (p), .int (q3)] S "java/lang/IndexOutOfBoundsException" (fun S' => S' = S) := by
  refine mth_of hst (by decide) (Nat.le_of_ble_eq_true rfl) ?_
  intro x hl hR hmL C X
  have hst' : x.1.2.1.stackTraces = false := by rw [hl]; exact hst
  show GG x 106 0 0 [.ref 0, .int (nI (op)), .int (nI (a)), .int (p), .int (q3)] [] S 0
  refine g_iload_n C dX11_combine_0 rfl ?_
  refine g_callS C (k_checkOperation _ hp) so_X11_197 dX11_combine_1 rfl rfl (rm_ok (M' := MX11_combine.th) hR (by decide)) (Nat.le_of_ble_eq_true rfl) (fun v9 S9 h9 => ?_)
  obtain ⟨rfl, h9⟩ := h9
  refine g_S S h9 ?_
  refine g_n0 [] rfl rfl rfl ?_
  refine g_iload_n C dX11_combine_4 rfl ?_
  refine g_callS C (k_checkRegister _ ha) so_X11_88 dX11_combine_5 rfl rfl (rm_ok (M' := MX11_combine.th) hR (by decide)) (Nat.le_of_ble_eq_true rfl) (fun v9 S9 h9 => ?_)
  obtain ⟨rfl, h9⟩ := h9
  refine g_S S h9 ?_
  refine g_n0 [] rfl rfl rfl ?_
  refine g_iload_n C dX11_combine_8 rfl ?_
  exact g_thrS C X (t_checkRegister hst' h) so_X11_88 dX11_combine_9 rfl rfl (rm_ok (M' := MX11_combine.th) hR (by decide)) (Nat.le_of_ble_eq_true rfl) (fun _ h => h)

set_option maxRecDepth 100000 in
theorem t_combine_t {l : Launch} (hst : l.stackTraces = false) {S : pv_M} {op a b : Nat} {p : Int32} (hp : op < 5) (ha : a < 3) (hb : b < 3) (h : badI p 3) : mth l MX11_combine.th 106 [.ref 0, .int (nI (op)), .int (nI (a)), .int (nI (b)), .int (p)] S "java/lang/IndexOutOfBoundsException" (fun S' => S' = S) := by
  refine mth_of hst (by decide) (Nat.le_of_ble_eq_true rfl) ?_
  intro x hl hR hmL C X
  have hst' : x.1.2.1.stackTraces = false := by rw [hl]; exact hst
  show GG x 106 0 0 [.ref 0, .int (nI (op)), .int (nI (a)), .int (nI (b)), .int (p)] [] S 0
  refine g_iload_n C dX11_combine_0 rfl ?_
  refine g_callS C (k_checkOperation _ hp) so_X11_197 dX11_combine_1 rfl rfl (rm_ok (M' := MX11_combine.th) hR (by decide)) (Nat.le_of_ble_eq_true rfl) (fun v9 S9 h9 => ?_)
  obtain ⟨rfl, h9⟩ := h9
  refine g_S S h9 ?_
  refine g_n0 [] rfl rfl rfl ?_
  refine g_iload_n C dX11_combine_4 rfl ?_
  refine g_callS C (k_checkRegister _ ha) so_X11_88 dX11_combine_5 rfl rfl (rm_ok (M' := MX11_combine.th) hR (by decide)) (Nat.le_of_ble_eq_true rfl) (fun v9 S9 h9 => ?_)
  obtain ⟨rfl, h9⟩ := h9
  refine g_S S h9 ?_
  refine g_n0 [] rfl rfl rfl ?_
  refine g_iload_n C dX11_combine_8 rfl ?_
  refine g_callS C (k_checkRegister _ hb) so_X11_88 dX11_combine_9 rfl rfl (rm_ok (M' := MX11_combine.th) hR (by decide)) (Nat.le_of_ble_eq_true rfl) (fun v9 S9 h9 => ?_)
  obtain ⟨rfl, h9⟩ := h9
  refine g_S S h9 ?_
  refine g_n0 [] rfl rfl rfl ?_
  refine g_iload C dX11_combine_12 rfl ?_
  exact g_thrS C X (t_checkRegister hst' h) so_X11_88 dX11_combine_14 rfl rfl (rm_ok (M' := MX11_combine.th) hR (by decide)) (Nat.le_of_ble_eq_true rfl) (fun _ h => h)

set_option maxRecDepth 100000 in
theorem t_takeDifference_r {l : Launch} (hst : l.stackTraces = false) {S : pv_M} {p : Int32} (h : badI p 3) {q : Int32} : mth l MX11_takeDifference.th 106 [.ref 0, .int (p), .int (q)] S "java/lang/IndexOutOfBoundsException" (fun S' => S' = S) := by
  refine mth_of hst (by decide) (Nat.le_of_ble_eq_true rfl) ?_
  intro x hl hR hmL C X
  have hst' : x.1.2.1.stackTraces = false := by rw [hl]; exact hst
  show GG x 106 0 0 [.ref 0, .int (p), .int (q), unk] [] S 0
  refine g_iload_n C dX11_takeDifference_0 rfl ?_
  exact g_thrS C X (t_checkRegister hst' h) so_X11_88 dX11_takeDifference_1 rfl rfl (rm_ok (M' := MX11_takeDifference.th) hR (by decide)) (Nat.le_of_ble_eq_true rfl) (fun _ h => h)

set_option maxRecDepth 100000 in
theorem t_takeDifference_t {l : Launch} (hst : l.stackTraces = false) {S : pv_M} {j : Nat} {p : Int32} (hj : j < 3) (h : badI p 3) : mth l MX11_takeDifference.th 106 [.ref 0, .int (nI (j)), .int (p)] S "java/lang/IndexOutOfBoundsException" (fun S' => S' = S) := by
  refine mth_of hst (by decide) (Nat.le_of_ble_eq_true rfl) ?_
  intro x hl hR hmL C X
  have hst' : x.1.2.1.stackTraces = false := by rw [hl]; exact hst
  show GG x 106 0 0 [.ref 0, .int (nI (j)), .int (p), unk] [] S 0
  refine g_iload_n C dX11_takeDifference_0 rfl ?_
  refine g_callS C (k_checkRegister _ hj) so_X11_88 dX11_takeDifference_1 rfl rfl (rm_ok (M' := MX11_takeDifference.th) hR (by decide)) (Nat.le_of_ble_eq_true rfl) (fun v9 S9 h9 => ?_)
  obtain ⟨rfl, h9⟩ := h9
  refine g_S S h9 ?_
  refine g_n0 [] rfl rfl rfl ?_
  refine g_iload_n C dX11_takeDifference_4 rfl ?_
  exact g_thrS C X (t_checkRegister hst' h) so_X11_88 dX11_takeDifference_5 rfl rfl (rm_ok (M' := MX11_takeDifference.th) hR (by decide)) (Nat.le_of_ble_eq_true rfl) (fun _ h => h)
