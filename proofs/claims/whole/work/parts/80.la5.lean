set_option maxRecDepth 100000 in
theorem k_isZeroT (l : Launch) {S : pv_M} {c f g w v : Nat} (hW : RwAt S c f g w v) (h0 : mI S c 0 = bI true) {i m : Nat} (hi : i < 21) {u : UInt32} (hu : mF S f i = u) (pu : PF u m) : mt l MX7_isZero 106 [.ref c, .int (nI (i))] S (fun v S' => v = some (.int (bI (decide (m = 0)))) ∧ S' = S) := by
  refine mt_of (by decide) (Nat.le_of_ble_eq_true rfl) ?_
  intro x hl hR hmL C E
  show GG x 106 0 0 [.ref c, .int (nI (i))] [] S 0
  refine g_aload_n C dX7_isZero_0 rfl ?_
  refine g_getI C fo_X7_9 dX7_isZero_1 hW.1.1 hW.1.2 (fun _ => rfl) h0 ?_
  refine b_if_eq C 26 dX7_isZero_4 (fun h4 => absurd h4 (by decide)) (fun h4 => ?_)
  refine g_aload_n C dX7_isZero_7 rfl ?_
  refine g_getR C fo_X7_19 dX7_isZero_8 hW.1.1 hW.1.2 (fun _ => rfl) hW.2.2.2.2.2.2.1 ?_
  refine g_iload_n C dX7_isZero_11 rfl ?_
  refine n_fald C (v := u) dX7_isZero_12 hW.2.1.1 hW.2.1.2 hu ?_ (by omega)
  refine g_fconst0 C dX7_isZero_13 ?_
  refine g_fcmp C dX7_isZero_14 ?_
  refine fv_if_ne C 22 dX7_isZero_15 pu PF.z0 (fun h15 => ?_) (fun h15 => ?_)
  · refine g_iconst C (bI false) dX7_isZero_22 (by decide) ?_
    refine g_goto C 42 dX7_isZero_23 (by decide) ?_
    exact g_zret C E dX7_isZero_42 (bI_01 _) (by rw [hR]; decide) (by rw [hR]; decide) ⟨by first | rw [decide_eq_true h15] | rw [decide_eq_false h15], rfl⟩
  · refine g_iconst C (bI true) dX7_isZero_18 (by decide) ?_
    refine g_goto C 42 dX7_isZero_19 (by decide) ?_
    exact g_zret C E dX7_isZero_42 (bI_01 _) (by rw [hR]; decide) (by rw [hR]; decide) ⟨by first | rw [decide_eq_true h15] | rw [decide_eq_false h15], rfl⟩

set_option maxRecDepth 100000 in
theorem k_restT (l : Launch) {S : pv_M} {c f g w v : Nat} (hW : RwAt S c f g w v) (h0 : mI S c 0 = bI true) {i j D E : Nat} (hi : i < 21) (hj : j < 21) {u y : UInt32} (hu : mF S f i = u) (hy : mF S f j = y) (pu : PF u D) (py : PF y E) (h1 : 0 < E) (hD : D ≤ E * 2 ^ 32) (hB : D < 2 ^ 200) : mt l MX7_rest 106 [.ref c, .int (nI (i)), .int (nI (j))] S (fun v S' => v = some (.double (FP.f2d (FP.frem u y))) ∧ S' = S) := by
  refine mt_of (by decide) (Nat.le_of_ble_eq_true rfl) ?_
  intro x hl hR hmL C E
  show GG x 106 0 0 [.ref c, .int (nI (i)), .int (nI (j))] [] S 0
  refine g_aload_n C dX7_rest_0 rfl ?_
  refine g_getI C fo_X7_9 dX7_rest_1 hW.1.1 hW.1.2 (fun _ => rfl) h0 ?_
  refine b_if_eq C 24 dX7_rest_4 (fun h4 => absurd h4 (by decide)) (fun h4 => ?_)
  refine g_aload_n C dX7_rest_7 rfl ?_
  refine g_getR C fo_X7_19 dX7_rest_8 hW.1.1 hW.1.2 (fun _ => rfl) hW.2.2.2.2.2.2.1 ?_
  refine g_iload_n C dX7_rest_11 rfl ?_
  refine n_fald C (v := u) dX7_rest_12 hW.2.1.1 hW.2.1.2 hu ?_ (by omega)
  refine g_aload_n C dX7_rest_13 rfl ?_
  refine g_getR C fo_X7_19 dX7_rest_14 hW.1.1 hW.1.2 (fun _ => rfl) hW.2.2.2.2.2.2.1 ?_
  refine g_iload_n C dX7_rest_17 rfl ?_
  refine n_fald C (v := y) dX7_rest_18 hW.2.1.1 hW.2.1.2 hy ?_ (by omega)
  refine g_callS C (k_floatRest _ pu py h1 hD hB) so_X7_57 dX7_rest_19 rfl rfl (rm_ok (M' := MX7_rest) hR (by decide)) (Nat.le_of_ble_eq_true rfl) (fun v9 S5 h9 => ?_)
  obtain ⟨rfl, h9⟩ := h9
  refine g_S S h9 ?_
  refine g_n0 [.float (FP.frem u y)] rfl rfl rfl ?_
  refine g_f2d C dX7_rest_22 (f2d_ok (pu.rem py h1)) ?_
  exact g_dret C E dX7_rest_23 (by rw [hR]; decide) (by rw [hR]; decide) ⟨rfl, rfl⟩

set_option maxRecDepth 100000 in
theorem k_isZeroF (l : Launch) {S : pv_M} {c f g w v : Nat} (hW : RwAt S c f g w v) (h0 : mI S c 0 = bI false) {i m : Nat} (hi : i < 21) {u : UInt64} (hu : mD S g i = u) (pu : PV u m) : mt l MX7_isZero 106 [.ref c, .int (nI (i))] S (fun v S' => v = some (.int (bI (decide (m = 0)))) ∧ S' = S) := by
  refine mt_of (by decide) (Nat.le_of_ble_eq_true rfl) ?_
  intro x hl hR hmL C E
  show GG x 106 0 0 [.ref c, .int (nI (i))] [] S 0
  refine g_aload_n C dX7_isZero_0 rfl ?_
  refine g_getI C fo_X7_9 dX7_isZero_1 hW.1.1 hW.1.2 (fun _ => rfl) h0 ?_
  refine b_if_eq C 26 dX7_isZero_4 (fun h4 => ?_) (fun h4 => absurd h4 (by decide))
  refine g_aload_n C dX7_isZero_26 rfl ?_
  refine g_getR C fo_X7_23 dX7_isZero_27 hW.1.1 hW.1.2 (fun _ => rfl) hW.2.2.2.2.2.2.2.1 ?_
  refine g_iload_n C dX7_isZero_30 rfl ?_
  refine n_dald C (v := u) dX7_isZero_31 hW.2.2.1.1 hW.2.2.1.2 hu ?_ (by omega)
  refine g_dconst0 C dX7_isZero_32 ?_
  refine g_dcmp C dX7_isZero_33 ?_
  refine dv_if_ne C 41 dX7_isZero_34 pu PV.z0 (fun h34 => ?_) (fun h34 => ?_)
  · refine g_iconst C (bI false) dX7_isZero_41 (by decide) ?_
    exact g_zret C E dX7_isZero_42 (bI_01 _) (by rw [hR]; decide) (by rw [hR]; decide) ⟨by first | rw [decide_eq_true h34] | rw [decide_eq_false h34], rfl⟩
  · refine g_iconst C (bI true) dX7_isZero_37 (by decide) ?_
    refine g_goto C 42 dX7_isZero_38 (by decide) ?_
    exact g_zret C E dX7_isZero_42 (bI_01 _) (by rw [hR]; decide) (by rw [hR]; decide) ⟨by first | rw [decide_eq_true h34] | rw [decide_eq_false h34], rfl⟩

set_option maxRecDepth 100000 in
theorem k_restF (l : Launch) {S : pv_M} {c f g w v : Nat} (hW : RwAt S c f g w v) (h0 : mI S c 0 = bI false) {i j D E : Nat} (hi : i < 21) (hj : j < 21) {u y : UInt64} (hu : mD S g i = u) (hy : mD S g j = y) (pu : PV u D) (py : PV y E) (h1 : 0 < E) (hD : D ≤ E * 2 ^ 32) (hB : D < 2 ^ 2000) : mt l MX7_rest 106 [.ref c, .int (nI (i)), .int (nI (j))] S (fun v S' => v = some (.double (FP.drem u y)) ∧ S' = S) := by
  refine mt_of (by decide) (Nat.le_of_ble_eq_true rfl) ?_
  intro x hl hR hmL C E
  show GG x 106 0 0 [.ref c, .int (nI (i)), .int (nI (j))] [] S 0
  refine g_aload_n C dX7_rest_0 rfl ?_
  refine g_getI C fo_X7_9 dX7_rest_1 hW.1.1 hW.1.2 (fun _ => rfl) h0 ?_
  refine b_if_eq C 24 dX7_rest_4 (fun h4 => ?_) (fun h4 => absurd h4 (by decide))
  refine g_aload_n C dX7_rest_24 rfl ?_
  refine g_getR C fo_X7_23 dX7_rest_25 hW.1.1 hW.1.2 (fun _ => rfl) hW.2.2.2.2.2.2.2.1 ?_
  refine g_iload_n C dX7_rest_28 rfl ?_
  refine n_dald C (v := u) dX7_rest_29 hW.2.2.1.1 hW.2.2.1.2 hu ?_ (by omega)
  refine g_aload_n C dX7_rest_30 rfl ?_
  refine g_getR C fo_X7_23 dX7_rest_31 hW.1.1 hW.1.2 (fun _ => rfl) hW.2.2.2.2.2.2.2.1 ?_
  refine g_iload_n C dX7_rest_34 rfl ?_
  refine n_dald C (v := y) dX7_rest_35 hW.2.2.1.1 hW.2.2.1.2 hy ?_ (by omega)
  refine g_callS C (k_doubleRest _ pu py h1 hD hB) so_X7_61 dX7_rest_36 rfl rfl (rm_ok (M' := MX7_rest) hR (by decide)) (Nat.le_of_ble_eq_true rfl) (fun v9 S5 h9 => ?_)
  obtain ⟨rfl, h9⟩ := h9
  refine g_S S h9 ?_
  refine g_n0 [.double (FP.drem u y)] rfl rfl rfl ?_
  exact g_dret C E dX7_rest_39 (by rw [hR]; decide) (by rw [hR]; decide) ⟨rfl, rfl⟩

/-! what a call leaves when it has filled a row -/
theorem GS.rowp {S : pv_M} (h : GS S) {p : Nat} (hp : p < 2) : mR S 7 p = some (65 + 5 * p) := by
  rcases (show p = 0 ∨ p = 1 by omega) with rfl | rfl
  · exact gs_7_0 h
  · exact gs_7_1 h
theorem rw_c {S : pv_M} {c : Nat} (hc : c = 21 ∨ c = 65 ∨ c = 70) (h : GS S) (w : WY S c) : ∃ a b, RwAt S c (c + 1) (c + 2) a b ∧ Sd a b (c + 3) (c + 4) := by
  rcases w with w | w
  · refine ⟨c + 3, c + 4, ?_, Or.inl ⟨rfl, rfl⟩⟩
    rcases hc with rfl | rfl | rfl
    · exact ⟨⟨rfl, by decide⟩, ⟨rfl, by decide⟩, ⟨rfl, by decide⟩, ⟨rfl, by decide⟩, ⟨rfl, by decide⟩, by decide, gs_21_2 h, gs_21_3 h, w.1, w.2⟩
    · exact ⟨⟨rfl, by decide⟩, ⟨rfl, by decide⟩, ⟨rfl, by decide⟩, ⟨rfl, by decide⟩, ⟨rfl, by decide⟩, by decide, gs_65_2 h, gs_65_3 h, w.1, w.2⟩
    · exact ⟨⟨rfl, by decide⟩, ⟨rfl, by decide⟩, ⟨rfl, by decide⟩, ⟨rfl, by decide⟩, ⟨rfl, by decide⟩, by decide, gs_70_2 h, gs_70_3 h, w.1, w.2⟩
  · refine ⟨c + 4, c + 3, ?_, Or.inr ⟨rfl, rfl⟩⟩
    rcases hc with rfl | rfl | rfl
    · exact ⟨⟨rfl, by decide⟩, ⟨rfl, by decide⟩, ⟨rfl, by decide⟩, ⟨rfl, by decide⟩, ⟨rfl, by decide⟩, by decide, gs_21_2 h, gs_21_3 h, w.1, w.2⟩
    · exact ⟨⟨rfl, by decide⟩, ⟨rfl, by decide⟩, ⟨rfl, by decide⟩, ⟨rfl, by decide⟩, ⟨rfl, by decide⟩, by decide, gs_65_2 h, gs_65_3 h, w.1, w.2⟩
    · exact ⟨⟨rfl, by decide⟩, ⟨rfl, by decide⟩, ⟨rfl, by decide⟩, ⟨rfl, by decide⟩, ⟨rfl, by decide⟩, by decide, gs_70_2 h, gs_70_3 h, w.1, w.2⟩
theorem RwAt.wy {S : pv_M} {c f g w v w0 v0 : Nat} (h : RwAt S c f g w v) (d : Sd w v w0 v0) (d0 : Sd w0 v0 (c + 3) (c + 4)) : WY S c := by
  have h4 := h.2.2.2.2.2.2.2.2.1
  have h5 := h.2.2.2.2.2.2.2.2.2
  rcases d with ⟨rfl, rfl⟩ | ⟨rfl, rfl⟩ <;> rcases d0 with ⟨rfl, rfl⟩ | ⟨rfl, rfl⟩
  · exact Or.inl ⟨h4, h5⟩
  · exact Or.inr ⟨h4, h5⟩
  · exact Or.inr ⟨h4, h5⟩
  · exact Or.inl ⟨h4, h5⟩
theorem P5.rng {c w v r : Nat} (d : Sd w v (c + 3) (c + 4)) (h : P5 c (c + 1) (c + 2) w v r) : c ≤ r ∧ r ≤ c + 4 := by
  rcases d with ⟨rfl, rfl⟩ | ⟨rfl, rfl⟩ <;> rcases h with h | h | h | h | h <;> omega
theorem GS.row {S S' : pv_M} {c w v : Nat} (h : GS S) (hc : c = 21 ∨ c = 65 ∨ c = 70) (k : FR (fun r => c ≤ r ∧ r ≤ c + 4) S S') (hW : RwAt S' c (c + 1) (c + 2) w v) : GS S' := by
  have k21 : ∀ e ∈ pv_stl, 21 ≤ e.1 ∧ e.1 ≤ 21 + 4 → e = (21, 2, 22) ∨ e = (21, 3, 23) := by decide +kernel
  have k65 : ∀ e ∈ pv_stl, 65 ≤ e.1 ∧ e.1 ≤ 65 + 4 → e = (65, 2, 66) ∨ e = (65, 3, 67) := by decide +kernel
  have k70 : ∀ e ∈ pv_stl, 70 ≤ e.1 ∧ e.1 ≤ 70 + 4 → e = (70, 2, 71) ∨ e = (70, 3, 72) := by decide +kernel
  intro e he
  by_cases z : c ≤ e.1 ∧ e.1 ≤ c + 4
  · have h2 := hW.2.2.2.2.2.2.1
    have h3 := hW.2.2.2.2.2.2.2.1
    rcases hc with rfl | rfl | rfl
    · rcases k21 e he z with rfl | rfl
      · exact h2
      · exact h3
    · rcases k65 e he z with rfl | rfl
      · exact h2
      · exact h3
    · rcases k70 e he z with rfl | rfl
      · exact h2
      · exact h3
  · rw [(k e.1 z).1]; exact h e he

set_option maxRecDepth 100000 in
theorem c_share (l : Launch) {S : pv_M} {A : Ab} (hC : CSt S A) {j : Nat} (hj : j < 3) (gj : gdR (A.1.1 j)) {m : Nat} (hm : m ≤ 20) : mt l MX11_share 106 [.ref 0, .int (nI (j)), .int (nI (m))] S (fun v S' => v = some (.double (shV (rT A j) (rF A j) m)) ∧ CSt S' A ∧ FR cC S S') := by
  refine mt_of (by decide) (Nat.le_of_ble_eq_true rfl) ?_
  intro x hl hR hmL C E
  show GG x 106 0 0 [.ref 0, .int (nI (j)), .int (nI (m))] [] S 0
  have hS := hC.1
  have hcc : (21 : Nat) = 21 ∨ (21 : Nat) = 65 ∨ (21 : Nat) = 70 := Or.inl rfl
  obtain ⟨w, v, hW, hd⟩ := rw_c hcc hS hC.2.2.1
  refine g_iload_n C dX11_share_0 rfl ?_
  refine g_callS C (k_checkRegister _ hj) so_X11_88 dX11_share_1 rfl rfl (rm_ok (M' := MX11_share) hR (by decide)) (Nat.le_of_ble_eq_true rfl) (fun v9 S9 h9 => ?_)
  obtain ⟨rfl, h9⟩ := h9
  refine g_S S h9 ?_
  refine g_n0 [] rfl rfl rfl ?_
  refine g_iload_n C dX11_share_4 rfl ?_
  refine g_callS C (k_checkLength _ (by omega)) so_X11_244 dX11_share_5 rfl rfl (rm_ok (M' := MX11_share) hR (by decide)) (Nat.le_of_ble_eq_true rfl) (fun v9 S9 h9 => ?_)
  obtain ⟨rfl, h9⟩ := h9
  refine g_S S h9 ?_
  refine g_n0 [] rfl rfl rfl ?_
  refine g_aload_n C dX11_share_8 rfl ?_
  refine g_getR C fo_X11_65 dX11_share_9 rfl (by decide) (fun _ => rfl) (gs_0_12 hS) ?_
  refine g_aload_n C dX11_share_12 rfl ?_
  refine g_getR C fo_X11_11 dX11_share_13 rfl (by decide) (fun _ => rfl) (gs_0_0 hS) ?_
  refine g_iload_n C dX11_share_16 rfl ?_
  refine g_aald C dX11_share_17 rfl (Or.inl rfl) (by decide) (by omega) rfl (hS.reg hj) ?_
  refine g_iload_n C dX11_share_18 rfl ?_
  refine g_iconst C (bI false) dX11_share_19 (by decide) ?_
  refine g_callV C (As := [.ref (53 + 4 * j), .int (nI (m)), .int (bI (false))]) (k_fillR _ (b := false) hW (hC.2.2.2.1 j hj) gj.1 gj.2.1 gj.2.2.1 gj.2.2.2 hm) vo_X11_247 dX11_share_20 rfl rfl (by decide) rfl (rm_ok (M' := MX11_share) hR (by decide)) (Nat.le_of_ble_eq_true rfl) (fun v9 S6 h9 => ?_)
  obtain ⟨rfl, ⟨w6, v6, hW6, d6_⟩, i0, i1, rv, fr6⟩ := h9
  have fq := fr6.mono (fun r z => P5.rng hd z)
  have hS6 := hS.row hcc fq hW6
  have hw6 := hW6.wy d6_ hd
  refine g_n0 [] rfl rfl rfl ?_
  refine g_aload_n C dX11_share_23 rfl ?_
  refine g_getR C fo_X11_65 dX11_share_24 rfl (by decide) (fun _ => rfl) (gs_0_12 hS6) ?_
  refine g_getR C fo_X11_251 dX11_share_27 rfl (by decide) (fun _ => rfl) (gs_21_3 hS6) ?_
  refine g_iload_n C dX11_share_30 rfl ?_
  refine n_dald C (v := shV (rT A j) (rF A j) m) dX11_share_31 rfl (by decide) (rv.2 rfl m (by omega)) ?_ (by omega)
  exact g_dret C E dX11_share_32 (by rw [hR]; decide) (by rw [hR]; decide) ⟨rfl, hC.frP fq (fun r z => Or.inl (by omega)) hS6 (hC.2.1.of (fq 29 (by decide)).1) hw6, fq.mono (fun r z => by show r ≤ 74; omega)⟩

set_option maxRecDepth 100000 in
theorem t_share_r {l : Launch} (hst : l.stackTraces = false) {S : pv_M} {p : Int32} (h : badI p 3) {q : Int32} : mth l MX11_share.th 106 [.ref 0, .int (p), .int (q)] S "java/lang/IndexOutOfBoundsException" (fun S' => S' = S) := by
  refine mth_of hst (by decide) (Nat.le_of_ble_eq_true rfl) ?_
  intro x hl hR hmL C X
  have hst' : x.1.2.1.stackTraces = false := by rw [hl]; exact hst
  show GG x 106 0 0 [.ref 0, .int (p), .int (q)] [] S 0
  refine g_iload_n C dX11_share_0 rfl ?_
  exact g_thrS C X (t_checkRegister hst' h) so_X11_88 dX11_share_1 rfl rfl (rm_ok (M' := MX11_share.th) hR (by decide)) (Nat.le_of_ble_eq_true rfl) (fun _ h => h)

set_option maxRecDepth 100000 in
theorem t_share_n {l : Launch} (hst : l.stackTraces = false) {S : pv_M} {j : Nat} (hj : j < 3) {p : Int32} (h : badI p 21) : mth l MX11_share.th 106 [.ref 0, .int (nI (j)), .int (p)] S "java/lang/IllegalArgumentException" (fun S' => S' = S) := by
  refine mth_of hst (by decide) (Nat.le_of_ble_eq_true rfl) ?_
  intro x hl hR hmL C X
  have hst' : x.1.2.1.stackTraces = false := by rw [hl]; exact hst
  show GG x 106 0 0 [.ref 0, .int (nI (j)), .int (p)] [] S 0
  refine g_iload_n C dX11_share_0 rfl ?_
  refine g_callS C (k_checkRegister _ hj) so_X11_88 dX11_share_1 rfl rfl (rm_ok (M' := MX11_share.th) hR (by decide)) (Nat.le_of_ble_eq_true rfl) (fun v9 S9 h9 => ?_)
  obtain ⟨rfl, h9⟩ := h9
  refine g_S S h9 ?_
  refine g_n0 [] rfl rfl rfl ?_
  refine g_iload_n C dX11_share_4 rfl ?_
  exact g_thrS C X (t_checkLength hst' h) so_X11_244 dX11_share_5 rfl rfl (rm_ok (M' := MX11_share.th) hR (by decide)) (Nat.le_of_ble_eq_true rfl) (fun _ h => h)

/-! the rows -/
def kRw (r : Rw) (p : Nat) (b : Bool) (T : Nat → Nat) (F m : Nat) : Rw := (va_up r.1 p (if b then 1 else 2, m + 1), reg (21 * p) (m + 1) (fun i => FP.d2f (shV T F i)) r.2.1, reg (21 * p) (m + 1) (fun i => shV T F i) r.2.2)
def gdW (r : Rw) : Prop := ∀ j, j < 2 → (r.1 j).1 ≤ 2 ∧ ((r.1 j).1 ≠ 0 → 0 < (r.1 j).2 ∧ (r.1 j).2 ≤ 21) ∧ ((r.1 j).1 = 1 → ∀ i, i < (r.1 j).2 → ∃ n, PF (r.2.1 (21 * j + i)) n ∧ n ≤ 2 ^ 149 ∧ (n = 0 ∨ 2 ^ 117 ≤ n)) ∧ ((r.1 j).1 = 2 → ∀ i, i < (r.1 j).2 → ∃ n, PV (r.2.2 (21 * j + i)) n ∧ n ≤ 2 ^ 1074 ∧ (n = 0 ∨ 2 ^ 1042 ≤ n))
theorem kRw_o {r : Rw} {p j F m : Nat} {b : Bool} {T : Nat → Nat} (hp : p < 2) (hj : j < 2) (hm : m ≤ 20) (e : j ≠ p) : (kRw r p b T F m).1 j = r.1 j ∧ ∀ i, i < 21 → (kRw r p b T F m).2.1 (21 * j + i) = r.2.1 (21 * j + i) ∧ (kRw r p b T F m).2.2 (21 * j + i) = r.2.2 (21 * j + i) := by
  refine ⟨va_up_ne _ _ e, fun i hi => ⟨?_, ?_⟩⟩
  · show reg (21 * p) (m + 1) (fun i => FP.d2f (shV T F i)) r.2.1 (21 * j + i) = _
    exact reg_out (by omega)
  · show reg (21 * p) (m + 1) (fun i => shV T F i) r.2.2 (21 * j + i) = _
    exact reg_out (by omega)
theorem kRw_p {r : Rw} {p F m : Nat} {b : Bool} {T : Nat → Nat} : (kRw r p b T F m).1 p = (if b then 1 else 2, m + 1) ∧ ∀ i, i < m + 1 → (kRw r p b T F m).2.1 (21 * p + i) = FP.d2f (shV T F i) ∧ (kRw r p b T F m).2.2 (21 * p + i) = shV T F i := by
  refine ⟨up_same, fun i hi => ⟨?_, ?_⟩⟩
  · show reg (21 * p) (m + 1) (fun i => FP.d2f (shV T F i)) r.2.1 (21 * p + i) = _
    exact reg_in (f := fun i => FP.d2f (shV T F i)) hi rfl
  · show reg (21 * p) (m + 1) (fun i => shV T F i) r.2.2 (21 * p + i) = _
    exact reg_in (f := fun i => shV T F i) hi rfl
theorem kRw_gd {r : Rw} {p F m : Nat} {b : Bool} {T : Nat → Nat} (h : gdW r) (hp : p < 2) (hm : m ≤ 20) : gdW (kRw r p b T F m) := by
  intro j hj
  by_cases e : j = p
  · subst e
    obtain ⟨e1, e2⟩ := kRw_p (r := r) (p := j) (F := F) (m := m) (b := b) (T := T)
    rw [e1]
    refine ⟨by cases b <;> (show _ ≤ 2; simp), fun _ => ⟨by show 0 < m + 1; omega, by show m + 1 ≤ 21; omega⟩, fun _ i hi => ?_, fun _ i hi => ?_⟩
    · have hi : i < m + 1 := hi
      rw [(e2 i hi).1]; exact shF_ok (by omega)
    · have hi : i < m + 1 := hi
      rw [(e2 i hi).2]; exact shV_ok (by omega)
  · obtain ⟨e1, e2⟩ := kRw_o (r := r) (F := F) (b := b) (T := T) hp hj hm e
    obtain ⟨h1, h2, h3, h4⟩ := h j hj
    rw [e1]
    refine ⟨h1, h2, fun z i hi => ?_, fun z i hi => ?_⟩
    · rw [(e2 i (by have := (h2 (by omega)).2; omega)).1]; exact h3 z i hi
    · rw [(e2 i (by have := (h2 (by omega)).2; omega)).2]; exact h4 z i hi
theorem RowC.out {S : pv_M} {r : Rw} {p j F m : Nat} {b : Bool} {T : Nat → Nat} (h : RowC S j r) (hg : gdW r) (hp : p < 2) (hj : j < 2) (hm : m ≤ 20) (e : j ≠ p) : RowC S j (kRw r p b T F m) := by
  obtain ⟨e1, e2⟩ := kRw_o (r := r) (F := F) (b := b) (T := T) hp hj hm e
  obtain ⟨_, g2, _, _⟩ := hg j hj
  refine ⟨h.1, fun z => h.2.1 (by rw [← e1]; exact z), fun z => ?_, fun z => ?_⟩
  · rw [e1] at z ⊢
    obtain ⟨a1, a2, a3⟩ := h.2.2.1 z
    exact ⟨a1, a2, fun i hi => by rw [(e2 i (by have := (g2 (by omega)).2; omega)).1]; exact a3 i hi⟩
  · rw [e1] at z ⊢
    obtain ⟨a1, a2, a3⟩ := h.2.2.2 z
    exact ⟨a1, a2, fun i hi => by rw [(e2 i (by have := (g2 (by omega)).2; omega)).2]; exact a3 i hi⟩
theorem CSt.setK {S S' : pv_M} {A : Ab} {p F m : Nat} {b : Bool} {T : Nat → Nat} (h : CSt S A) (hg : gdW A.2.2) (hp : p < 2) (hm : m ≤ 20) (k : FR (fun r => 65 + 5 * p ≤ r ∧ r ≤ 65 + 5 * p + 4) S S') (g : GS S') (hw : WY S' (65 + 5 * p)) (i0 : mI S' (65 + 5 * p) 0 = bI b) (i1 : mI S' (65 + 5 * p) 1 = nI (m + 1)) (rv : RV T F b S' (65 + 5 * p + 1) (65 + 5 * p + 2) (m + 1)) : CSt S' (A.1, A.2.1, kRw A.2.2 p b T F m) := by
  have q : ∀ r, ¬ (65 + 5 * p ≤ r ∧ r ≤ 65 + 5 * p + 4) → ¬ (65 + 5 * p ≤ r ∧ r ≤ 65 + 5 * p + 4) := fun _ z => z
  refine ⟨g, h.2.1.of (k 29 (by omega)).1, h.2.2.1.of (k 21 (by omega)).1, fun j hj => (h.2.2.2.1 j hj).keepR k (by omega) (by omega), h.2.2.2.2.1.keepR k (by omega) (by omega), by rw [(k 0 (by omega)).2.1]; exact h.2.2.2.2.2.1, h.2.2.2.2.2.2.1.keepR k (fun j hj => ⟨by omega, by omega⟩) (by omega) (by omega), fun e => (h.2.2.2.2.2.2.2.1 e).keepR k (fun j hj => ⟨by omega, by omega⟩) (by omega) (by omega), fun j hj => ?_⟩
  by_cases e : j = p
  · subst e
    obtain ⟨e1, e2⟩ := kRw_p (r := A.2.2) (p := j) (F := F) (m := m) (b := b) (T := T)
    refine ⟨hw, fun z => ?_, fun z => ?_, fun z => ?_⟩
    · rw [e1] at z; cases b <;> simp at z
    · rw [e1] at z ⊢
      have hb : b = true := by cases b; simp at z; rfl
      refine ⟨i1, by rw [i0, hb], fun i hi => ?_⟩
      rw [(e2 i hi).1, show 66 + 5 * j = 65 + 5 * j + 1 by omega]
      exact rv.1 hb i hi
    · rw [e1] at z ⊢
      have hb : b = false := by cases b; rfl; simp at z
      refine ⟨i1, by rw [i0, hb], fun i hi => ?_⟩
      rw [(e2 i hi).2, show 67 + 5 * j = 65 + 5 * j + 2 by omega]
      exact rv.2 hb i hi
  · exact ((h.2.2.2.2.2.2.2.2 j hj).keepR k (by omega) (by omega) (by omega)).out hg hp hj hm e

set_option maxRecDepth 100000 in
theorem c_keepShares (l : Launch) {S : pv_M} {A : Ab} (hC : CSt S A) {j : Nat} (hj : j < 3) (gj : gdR (A.1.1 j)) (hg : gdW A.2.2) {p m : Nat} (hp : p < 2) (hm : m ≤ 20) {b : Bool} : mt l MX11_keepShares 106 [.ref 0, .int (nI (p)), .int (nI (j)), .int (nI (m)), .int (bI (b))] S (fun v S' => v = none ∧ CSt S' (A.1, A.2.1, kRw A.2.2 p b (rT A j) (rF A j) m) ∧ FR cC S S') := by
  refine mt_of (by decide) (Nat.le_of_ble_eq_true rfl) ?_
  intro x hl hR hmL C E
  show GG x 106 0 0 [.ref 0, .int (nI (p)), .int (nI (j)), .int (nI (m)), .int (bI (b))] [] S 0
  have hS := hC.1
  have hcc : 65 + 5 * p = 21 ∨ 65 + 5 * p = 65 ∨ 65 + 5 * p = 70 := by omega
  obtain ⟨w, v, hW, hd⟩ := rw_c hcc hS (hC.2.2.2.2.2.2.2.2 p hp).1
  refine g_iload_n C dX11_keepShares_0 rfl ?_
  refine n_iconst C 2 dX11_keepShares_1 ?_
  refine g_callS C (k_checkIndex _ hp (by decide)) so_X11_140 dX11_keepShares_2 rfl rfl (rm_ok (M' := MX11_keepShares) hR (by decide)) (Nat.le_of_ble_eq_true rfl) (fun v9 S9 h9 => ?_)
  obtain ⟨rfl, h9⟩ := h9
  refine g_S S h9 ?_
  refine g_n0 [] rfl rfl rfl ?_
  refine g_iload_n C dX11_keepShares_5 rfl ?_
  refine g_callS C (k_checkRegister _ hj) so_X11_88 dX11_keepShares_6 rfl rfl (rm_ok (M' := MX11_keepShares) hR (by decide)) (Nat.le_of_ble_eq_true rfl) (fun v9 S9 h9 => ?_)
  obtain ⟨rfl, h9⟩ := h9
  refine g_S S h9 ?_
  refine g_n0 [] rfl rfl rfl ?_
  refine g_iload_n C dX11_keepShares_9 rfl ?_
  refine g_callS C (k_checkLength _ (by omega)) so_X11_244 dX11_keepShares_10 rfl rfl (rm_ok (M' := MX11_keepShares) hR (by decide)) (Nat.le_of_ble_eq_true rfl) (fun v9 S9 h9 => ?_)
  obtain ⟨rfl, h9⟩ := h9
  refine g_S S h9 ?_
  refine g_n0 [] rfl rfl rfl ?_
  refine g_aload_n C dX11_keepShares_13 rfl ?_
  refine g_getR C fo_X11_34 dX11_keepShares_14 rfl (by decide) (fun _ => rfl) (gs_0_5 hS) ?_
  refine g_iload_n C dX11_keepShares_17 rfl ?_
  refine g_aald C dX11_keepShares_18 rfl (Or.inr rfl) (by decide) (by omega) rfl (hS.rowp hp) ?_
  refine g_aload_n C dX11_keepShares_19 rfl ?_
  refine g_getR C fo_X11_11 dX11_keepShares_20 rfl (by decide) (fun _ => rfl) (gs_0_0 hS) ?_
  refine g_iload_n C dX11_keepShares_23 rfl ?_
  refine g_aald C dX11_keepShares_24 rfl (Or.inl rfl) (by decide) (by omega) rfl (hS.reg hj) ?_
  refine g_iload_n C dX11_keepShares_25 rfl ?_
  refine g_iload C dX11_keepShares_26 rfl ?_
  refine g_callV C (As := [.ref (53 + 4 * j), .int (nI (m)), .int (bI (b))]) (k_fillR _ (b := b) hW (hC.2.2.2.1 j hj) gj.1 gj.2.1 gj.2.2.1 gj.2.2.2 hm) vo_X11_247 dX11_keepShares_28 rfl hW.1.1 hW.1.2 rfl (rm_ok (M' := MX11_keepShares) hR (by decide)) (Nat.le_of_ble_eq_true rfl) (fun v9 S6 h9 => ?_)
  obtain ⟨rfl, ⟨w6, v6, hW6, d6_⟩, i0, i1, rv, fr6⟩ := h9
  have fq := fr6.mono (fun r z => P5.rng hd z)
  have hS6 := hS.row hcc fq hW6
  have hw6 := hW6.wy d6_ hd
  refine g_n0 [] rfl rfl rfl ?_
  exact g_vret C E dX11_keepShares_31 (by rw [hR]; decide) (by rw [hR]; decide) ⟨rfl, hC.setK hg hp hm fq hS6 hw6 i0 i1 rv, fq.mono (fun r z => by show r ≤ 74; omega)⟩

set_option maxRecDepth 100000 in
theorem t_keepShares_p {l : Launch} (hst : l.stackTraces = false) {S : pv_M} {p : Int32} (h : badI p 2) {q1 q2 q3 : Int32} : mth l MX11_keepShares.th 106 [.ref 0, .int (p), .int (q1), .int (q2), .int (q3)] S "java/lang/IndexOutOfBoundsException" (fun S' => S' = S) := by
  refine mth_of hst (by decide) (Nat.le_of_ble_eq_true rfl) ?_
  intro x hl hR hmL C X
  have hst' : x.1.2.1.stackTraces = false := by rw [hl]; exact hst
  show GG x 106 0 0 [.ref 0, .int (p), .int (q1), .int (q2), .int (q3)] [] S 0
  refine g_iload_n C dX11_keepShares_0 rfl ?_
  refine n_iconst C 2 dX11_keepShares_1 ?_
  exact g_thrS C X (t_checkIndex hst' h) so_X11_140 dX11_keepShares_2 rfl rfl (rm_ok (M' := MX11_keepShares.th) hR (by decide)) (Nat.le_of_ble_eq_true rfl) (fun _ h => h)

set_option maxRecDepth 100000 in
theorem t_keepShares_r {l : Launch} (hst : l.stackTraces = false) {S : pv_M} {p : Nat} (hp : p < 2) {q : Int32} (h : badI q 3) {q2 q3 : Int32} : mth l MX11_keepShares.th 106 [.ref 0, .int (nI (p)), .int (q), .int (q2), .int (q3)] S "java/lang/IndexOutOfBoundsException" (fun S' => S' = S) := by
  refine mth_of hst (by decide) (Nat.le_of_ble_eq_true rfl) ?_
  intro x hl hR hmL C X
  have hst' : x.1.2.1.stackTraces = false := by rw [hl]; exact hst
  show GG x 106 0 0 [.ref 0, .int (nI (p)), .int (q), .int (q2), .int (q3)] [] S 0
  refine g_iload_n C dX11_keepShares_0 rfl ?_
  refine n_iconst C 2 dX11_keepShares_1 ?_
  refine g_callS C (k_checkIndex _ hp (by decide)) so_X11_140 dX11_keepShares_2 rfl rfl (rm_ok (M' := MX11_keepShares.th) hR (by decide)) (Nat.le_of_ble_eq_true rfl) (fun v9 S9 h9 => ?_)
  obtain ⟨rfl, h9⟩ := h9
  refine g_S S h9 ?_
  refine g_n0 [] rfl rfl rfl ?_
  refine g_iload_n C dX11_keepShares_5 rfl ?_
  exact g_thrS C X (t_checkRegister hst' h) so_X11_88 dX11_keepShares_6 rfl rfl (rm_ok (M' := MX11_keepShares.th) hR (by decide)) (Nat.le_of_ble_eq_true rfl) (fun _ h => h)

set_option maxRecDepth 100000 in
theorem t_keepShares_n {l : Launch} (hst : l.stackTraces = false) {S : pv_M} {p j : Nat} (hp : p < 2) (hj : j < 3) {q : Int32} (h : badI q 21) {q3 : Int32} : mth l MX11_keepShares.th 106 [.ref 0, .int (nI (p)), .int (nI (j)), .int (q), .int (q3)] S "java/lang/IllegalArgumentException" (fun S' => S' = S) := by
  refine mth_of hst (by decide) (Nat.le_of_ble_eq_true rfl) ?_
  intro x hl hR hmL C X
  have hst' : x.1.2.1.stackTraces = false := by rw [hl]; exact hst
  show GG x 106 0 0 [.ref 0, .int (nI (p)), .int (nI (j)), .int (q), .int (q3)] [] S 0
  refine g_iload_n C dX11_keepShares_0 rfl ?_
  refine n_iconst C 2 dX11_keepShares_1 ?_
  refine g_callS C (k_checkIndex _ hp (by decide)) so_X11_140 dX11_keepShares_2 rfl rfl (rm_ok (M' := MX11_keepShares.th) hR (by decide)) (Nat.le_of_ble_eq_true rfl) (fun v9 S9 h9 => ?_)
  obtain ⟨rfl, h9⟩ := h9
  refine g_S S h9 ?_
  refine g_n0 [] rfl rfl rfl ?_
  refine g_iload_n C dX11_keepShares_5 rfl ?_
  refine g_callS C (k_checkRegister _ hj) so_X11_88 dX11_keepShares_6 rfl rfl (rm_ok (M' := MX11_keepShares.th) hR (by decide)) (Nat.le_of_ble_eq_true rfl) (fun v9 S9 h9 => ?_)
  obtain ⟨rfl, h9⟩ := h9
  refine g_S S h9 ?_
  refine g_n0 [] rfl rfl rfl ?_
  refine g_iload_n C dX11_keepShares_9 rfl ?_
  exact g_thrS C X (t_checkLength hst' h) so_X11_244 dX11_keepShares_10 rfl rfl (rm_ok (M' := MX11_keepShares.th) hR (by decide)) (Nat.le_of_ble_eq_true rfl) (fun _ h => h)

set_option maxRecDepth 100000 in
theorem c_remainder_1 (l : Launch) {S : pv_M} {A : Ab} (hC : CSt S A) (hg : gdW A.2.2) {p : Nat} (hp : p < 2) (hk : (A.2.2.1 p).1 = 1) {u e D G : Nat} (hu : u < (A.2.2.1 p).2) (hw : e < (A.2.2.1 p).2) (pu : PF (A.2.2.2.1 (21 * p + u)) D) (pe : PF (A.2.2.2.1 (21 * p + e)) G) (h0 : 0 < G) (hD : D ≤ G * 2 ^ 32) (hB : D < 2 ^ 200) : mt l MX11_remainder 106 [.ref 0, .int (nI (p)), .int (nI (u)), .int (nI (e))] S (fun v S' => v = some (.double (FP.f2d (FP.frem (A.2.2.2.1 (21 * p + u)) (A.2.2.2.1 (21 * p + e))))) ∧ S' = S) := by
  refine mt_of (by decide) (Nat.le_of_ble_eq_true rfl) ?_
  intro x hl hR hmL C E
  show GG x 106 0 0 [.ref 0, .int (nI (p)), .int (nI (u)), .int (nI (e))] [] S 0
  have hS := hC.1
  have hcc : 65 + 5 * p = 21 ∨ 65 + 5 * p = 65 ∨ 65 + 5 * p = 70 := by omega
  obtain ⟨w, v, hW, hd⟩ := rw_c hcc hS (hC.2.2.2.2.2.2.2.2 p hp).1
  have hr := hC.2.2.2.2.2.2.2.2 p hp
  have hq := hg p hp
  obtain ⟨a1, a2, a3⟩ := hr.2.2.1 hk
  obtain ⟨z1, z2⟩ := hq.2.1 (by rw [hk]; decide)
  refine g_iload_n C dX11_remainder_0 rfl ?_
  refine g_if_lt C 9 dX11_remainder_1 (by decide) (fun h1 => absurd h1 (in_lo (by omega))) (fun h1 => ?_)
  refine g_iload_n C dX11_remainder_4 rfl ?_
  refine n_iconst C 2 dX11_remainder_5 ?_
  refine n_ic_lt C 20 dX11_remainder_6 (fun h6 => ?_) (fun h6 => absurd h6 (by omega))
  refine g_aload_n C dX11_remainder_20 rfl ?_
  refine g_getR C fo_X11_34 dX11_remainder_21 rfl (by decide) (fun _ => rfl) (gs_0_5 hS) ?_
  refine g_iload_n C dX11_remainder_24 rfl ?_
  refine g_aald C dX11_remainder_25 rfl (Or.inr rfl) (by decide) (by omega) rfl (hS.rowp hp) ?_
  refine g_getI C fo_X11_260 dX11_remainder_26 hW.1.1 hW.1.2 (fun _ => rfl) a1 ?_
  refine n_if_ne C 43 dX11_remainder_29 (fun h29 => ?_) (fun h29 => absurd h29 (by omega))
  refine g_iload_n C dX11_remainder_43 rfl ?_
  refine g_aload_n C dX11_remainder_44 rfl ?_
  refine g_getR C fo_X11_34 dX11_remainder_45 rfl (by decide) (fun _ => rfl) (gs_0_5 hS) ?_
  refine g_iload_n C dX11_remainder_48 rfl ?_
  refine g_aald C dX11_remainder_49 rfl (Or.inr rfl) (by decide) (by omega) rfl (hS.rowp hp) ?_
  refine g_getI C fo_X11_260 dX11_remainder_50 hW.1.1 hW.1.2 (fun _ => rfl) a1 ?_
  refine g_callS C (k_checkIndex _ hu (by omega)) so_X11_140 dX11_remainder_53 rfl rfl (rm_ok (M' := MX11_remainder) hR (by decide)) (Nat.le_of_ble_eq_true rfl) (fun v9 S9 h9 => ?_)
  obtain ⟨rfl, h9⟩ := h9
  refine g_S S h9 ?_
  refine g_n0 [] rfl rfl rfl ?_
  refine g_iload_n C dX11_remainder_56 rfl ?_
  refine g_aload_n C dX11_remainder_57 rfl ?_
  refine g_getR C fo_X11_34 dX11_remainder_58 rfl (by decide) (fun _ => rfl) (gs_0_5 hS) ?_
  refine g_iload_n C dX11_remainder_61 rfl ?_
  refine g_aald C dX11_remainder_62 rfl (Or.inr rfl) (by decide) (by omega) rfl (hS.rowp hp) ?_
  refine g_getI C fo_X11_260 dX11_remainder_63 hW.1.1 hW.1.2 (fun _ => rfl) a1 ?_
  refine g_callS C (k_checkIndex _ hw (by omega)) so_X11_140 dX11_remainder_66 rfl rfl (rm_ok (M' := MX11_remainder) hR (by decide)) (Nat.le_of_ble_eq_true rfl) (fun v9 S9 h9 => ?_)
  obtain ⟨rfl, h9⟩ := h9
  refine g_S S h9 ?_
  refine g_n0 [] rfl rfl rfl ?_
  refine g_aload_n C dX11_remainder_69 rfl ?_
  refine g_getR C fo_X11_34 dX11_remainder_70 rfl (by decide) (fun _ => rfl) (gs_0_5 hS) ?_
  refine g_iload_n C dX11_remainder_73 rfl ?_
  refine g_aald C dX11_remainder_74 rfl (Or.inr rfl) (by decide) (by omega) rfl (hS.rowp hp) ?_
  refine g_iload_n C dX11_remainder_75 rfl ?_
  refine g_callV C (As := [.int (nI (e))]) (k_isZeroT _ hW a2 (m := G) (by omega) ((show mF S (65 + 5 * p + 1) e = mF S (66 + 5 * p) e from by rw [show 65 + 5 * p + 1 = 66 + 5 * p by omega]).trans (a3 e hw)) pe) vo_X11_266 dX11_remainder_76 rfl hW.1.1 hW.1.2 rfl (rm_ok (M' := MX11_remainder) hR (by decide)) (Nat.le_of_ble_eq_true rfl) (fun v9 S5 h9 => ?_)
  obtain ⟨rfl, h9⟩ := h9
  refine g_S S h9 ?_
  refine g_n0 [.int (bI (decide (G = 0)))] rfl rfl rfl ?_
  refine b_if_eq C 93 dX11_remainder_79 (fun h79 => ?_) (fun h79 => absurd (of_decide_eq_true h79) (by omega))
  refine g_aload_n C dX11_remainder_93 rfl ?_
  refine g_getR C fo_X11_34 dX11_remainder_94 rfl (by decide) (fun _ => rfl) (gs_0_5 hS) ?_
  refine g_iload_n C dX11_remainder_97 rfl ?_
  refine g_aald C dX11_remainder_98 rfl (Or.inr rfl) (by decide) (by omega) rfl (hS.rowp hp) ?_
  refine g_iload_n C dX11_remainder_99 rfl ?_
  refine g_iload_n C dX11_remainder_100 rfl ?_
  refine g_callV C (As := [.int (nI (u)), .int (nI (e))]) (k_restT _ hW a2 (by omega) (by omega) ((show mF S (65 + 5 * p + 1) u = mF S (66 + 5 * p) u from by rw [show 65 + 5 * p + 1 = 66 + 5 * p by omega]).trans (a3 u hu)) ((show mF S (65 + 5 * p + 1) e = mF S (66 + 5 * p) e from by rw [show 65 + 5 * p + 1 = 66 + 5 * p by omega]).trans (a3 e hw)) pu pe h0 hD hB) vo_X11_274 dX11_remainder_101 rfl hW.1.1 hW.1.2 rfl (rm_ok (M' := MX11_remainder) hR (by decide)) (Nat.le_of_ble_eq_true rfl) (fun v9 S5 h9 => ?_)
  obtain ⟨rfl, h9⟩ := h9
  refine g_S S h9 ?_
  refine g_n0 [.double (FP.f2d (FP.frem (A.2.2.2.1 (21 * p + u)) (A.2.2.2.1 (21 * p + e))))] rfl rfl rfl ?_
  exact g_dret C E dX11_remainder_104 (by rw [hR]; decide) (by rw [hR]; decide) ⟨rfl, rfl⟩

set_option maxRecDepth 100000 in
theorem t_remainder_z1 {l : Launch} (hst : l.stackTraces = false) {S : pv_M} {A : Ab} (hC : CSt S A) (hg : gdW A.2.2) {p : Nat} (hp : p < 2) (hk : (A.2.2.1 p).1 = 1) {u e : Nat} (hu : u < (A.2.2.1 p).2) (hw : e < (A.2.2.1 p).2) (pe : PF (A.2.2.2.1 (21 * p + e)) 0) : mth l MX11_remainder.th 106 [.ref 0, .int (nI (p)), .int (nI (u)), .int (nI (e))] S "java/lang/ArithmeticException" (fun S' => S' = S) := by
  refine mth_of hst (by decide) (Nat.le_of_ble_eq_true rfl) ?_
  intro x hl hR hmL C X
  have hst' : x.1.2.1.stackTraces = false := by rw [hl]; exact hst
  show GG x 106 0 0 [.ref 0, .int (nI (p)), .int (nI (u)), .int (nI (e))] [] S 0
  have hS := hC.1
  have hcc : 65 + 5 * p = 21 ∨ 65 + 5 * p = 65 ∨ 65 + 5 * p = 70 := by omega
  obtain ⟨w, v, hW, hd⟩ := rw_c hcc hS (hC.2.2.2.2.2.2.2.2 p hp).1
  have hr := hC.2.2.2.2.2.2.2.2 p hp
  have hq := hg p hp
  obtain ⟨a1, a2, a3⟩ := hr.2.2.1 hk
  obtain ⟨z1, z2⟩ := hq.2.1 (by rw [hk]; decide)
  refine g_iload_n C dX11_remainder_0 rfl ?_
  refine g_if_lt C 9 dX11_remainder_1 (by decide) (fun h1 => absurd h1 (in_lo (by omega))) (fun h1 => ?_)
  refine g_iload_n C dX11_remainder_4 rfl ?_
  refine n_iconst C 2 dX11_remainder_5 ?_
  refine n_ic_lt C 20 dX11_remainder_6 (fun h6 => ?_) (fun h6 => absurd h6 (by omega))
  refine g_aload_n C dX11_remainder_20 rfl ?_
  refine g_getR C fo_X11_34 dX11_remainder_21 rfl (by decide) (fun _ => rfl) (gs_0_5 hS) ?_
  refine g_iload_n C dX11_remainder_24 rfl ?_
  refine g_aald C dX11_remainder_25 rfl (Or.inr rfl) (by decide) (by omega) rfl (hS.rowp hp) ?_
  refine g_getI C fo_X11_260 dX11_remainder_26 hW.1.1 hW.1.2 (fun _ => rfl) a1 ?_
  refine n_if_ne C 43 dX11_remainder_29 (fun h29 => ?_) (fun h29 => absurd h29 (by omega))
  refine g_iload_n C dX11_remainder_43 rfl ?_
  refine g_aload_n C dX11_remainder_44 rfl ?_
  refine g_getR C fo_X11_34 dX11_remainder_45 rfl (by decide) (fun _ => rfl) (gs_0_5 hS) ?_
  refine g_iload_n C dX11_remainder_48 rfl ?_
  refine g_aald C dX11_remainder_49 rfl (Or.inr rfl) (by decide) (by omega) rfl (hS.rowp hp) ?_
  refine g_getI C fo_X11_260 dX11_remainder_50 hW.1.1 hW.1.2 (fun _ => rfl) a1 ?_
  refine g_callS C (k_checkIndex _ hu (by omega)) so_X11_140 dX11_remainder_53 rfl rfl (rm_ok (M' := MX11_remainder.th) hR (by decide)) (Nat.le_of_ble_eq_true rfl) (fun v9 S9 h9 => ?_)
  obtain ⟨rfl, h9⟩ := h9
  refine g_S S h9 ?_
  refine g_n0 [] rfl rfl rfl ?_
  refine g_iload_n C dX11_remainder_56 rfl ?_
  refine g_aload_n C dX11_remainder_57 rfl ?_
  refine g_getR C fo_X11_34 dX11_remainder_58 rfl (by decide) (fun _ => rfl) (gs_0_5 hS) ?_
  refine g_iload_n C dX11_remainder_61 rfl ?_
  refine g_aald C dX11_remainder_62 rfl (Or.inr rfl) (by decide) (by omega) rfl (hS.rowp hp) ?_
  refine g_getI C fo_X11_260 dX11_remainder_63 hW.1.1 hW.1.2 (fun _ => rfl) a1 ?_
  refine g_callS C (k_checkIndex _ hw (by omega)) so_X11_140 dX11_remainder_66 rfl rfl (rm_ok (M' := MX11_remainder.th) hR (by decide)) (Nat.le_of_ble_eq_true rfl) (fun v9 S9 h9 => ?_)
  obtain ⟨rfl, h9⟩ := h9
  refine g_S S h9 ?_
  refine g_n0 [] rfl rfl rfl ?_
  refine g_aload_n C dX11_remainder_69 rfl ?_
  refine g_getR C fo_X11_34 dX11_remainder_70 rfl (by decide) (fun _ => rfl) (gs_0_5 hS) ?_
  refine g_iload_n C dX11_remainder_73 rfl ?_
  refine g_aald C dX11_remainder_74 rfl (Or.inr rfl) (by decide) (by omega) rfl (hS.rowp hp) ?_
  refine g_iload_n C dX11_remainder_75 rfl ?_
  refine g_callV C (As := [.int (nI (e))]) (k_isZeroT _ hW a2 (m := 0) (by omega) ((show mF S (65 + 5 * p + 1) e = mF S (66 + 5 * p) e from by rw [show 65 + 5 * p + 1 = 66 + 5 * p by omega]).trans (a3 e hw)) pe) vo_X11_266 dX11_remainder_76 rfl hW.1.1 hW.1.2 rfl (rm_ok (M' := MX11_remainder.th) hR (by decide)) (Nat.le_of_ble_eq_true rfl) (fun v9 S5 h9 => ?_)
  obtain ⟨rfl, h9⟩ := h9
  refine g_S S h9 ?_
  refine g_n0 [.int (bI (decide (0 = 0)))] rfl rfl rfl ?_
  refine b_if_eq C 93 dX11_remainder_79 (fun h79 => absurd h79 (by decide)) (fun h79 => ?_)
  exact g_throwW C X to_271 dX11_remainder_82 dX11_remainder_85 dX11_remainder_86 dX11_remainder_89 dX11_remainder_92 (by rw [hR]; decide) rfl

set_option maxRecDepth 100000 in
theorem t_remainder_u1 {l : Launch} (hst : l.stackTraces = false) {S : pv_M} {A : Ab} (hC : CSt S A) (hg : gdW A.2.2) {p : Nat} (hp : p < 2) (hk : (A.2.2.1 p).1 = 1) {u e : Int32} (h : badI u (A.2.2.1 p).2) : mth l MX11_remainder.th 106 [.ref 0, .int (nI (p)), .int (u), .int (e)] S "java/lang/IndexOutOfBoundsException" (fun S' => S' = S) := by
  refine mth_of hst (by decide) (Nat.le_of_ble_eq_true rfl) ?_
  intro x hl hR hmL C X
  have hst' : x.1.2.1.stackTraces = false := by rw [hl]; exact hst
  show GG x 106 0 0 [.ref 0, .int (nI (p)), .int (u), .int (e)] [] S 0
  have hS := hC.1
  have hcc : 65 + 5 * p = 21 ∨ 65 + 5 * p = 65 ∨ 65 + 5 * p = 70 := by omega
  obtain ⟨w, v, hW, hd⟩ := rw_c hcc hS (hC.2.2.2.2.2.2.2.2 p hp).1
  have hr := hC.2.2.2.2.2.2.2.2 p hp
  have hq := hg p hp
  obtain ⟨a1, a2, a3⟩ := hr.2.2.1 hk
  obtain ⟨z1, z2⟩ := hq.2.1 (by rw [hk]; decide)
  refine g_iload_n C dX11_remainder_0 rfl ?_
  refine g_if_lt C 9 dX11_remainder_1 (by decide) (fun h1 => absurd h1 (in_lo (by omega))) (fun h1 => ?_)
  refine g_iload_n C dX11_remainder_4 rfl ?_
  refine n_iconst C 2 dX11_remainder_5 ?_
  refine n_ic_lt C 20 dX11_remainder_6 (fun h6 => ?_) (fun h6 => absurd h6 (by omega))
  refine g_aload_n C dX11_remainder_20 rfl ?_
  refine g_getR C fo_X11_34 dX11_remainder_21 rfl (by decide) (fun _ => rfl) (gs_0_5 hS) ?_
  refine g_iload_n C dX11_remainder_24 rfl ?_
  refine g_aald C dX11_remainder_25 rfl (Or.inr rfl) (by decide) (by omega) rfl (hS.rowp hp) ?_
  refine g_getI C fo_X11_260 dX11_remainder_26 hW.1.1 hW.1.2 (fun _ => rfl) a1 ?_
  refine n_if_ne C 43 dX11_remainder_29 (fun h29 => ?_) (fun h29 => absurd h29 (by omega))
  refine g_iload_n C dX11_remainder_43 rfl ?_
  refine g_aload_n C dX11_remainder_44 rfl ?_
  refine g_getR C fo_X11_34 dX11_remainder_45 rfl (by decide) (fun _ => rfl) (gs_0_5 hS) ?_
  refine g_iload_n C dX11_remainder_48 rfl ?_
  refine g_aald C dX11_remainder_49 rfl (Or.inr rfl) (by decide) (by omega) rfl (hS.rowp hp) ?_
  refine g_getI C fo_X11_260 dX11_remainder_50 hW.1.1 hW.1.2 (fun _ => rfl) a1 ?_
  exact g_thrS C X (t_checkIndex hst' h) so_X11_140 dX11_remainder_53 rfl rfl (rm_ok (M' := MX11_remainder.th) hR (by decide)) (Nat.le_of_ble_eq_true rfl) (fun _ h => h)

set_option maxRecDepth 100000 in
theorem t_remainder_w1 {l : Launch} (hst : l.stackTraces = false) {S : pv_M} {A : Ab} (hC : CSt S A) (hg : gdW A.2.2) {p : Nat} (hp : p < 2) (hk : (A.2.2.1 p).1 = 1) {u : Nat} {e : Int32} (hu : u < (A.2.2.1 p).2) (h : badI e (A.2.2.1 p).2) : mth l MX11_remainder.th 106 [.ref 0, .int (nI (p)), .int (nI (u)), .int (e)] S "java/lang/IndexOutOfBoundsException" (fun S' => S' = S) := by
  refine mth_of hst (by decide) (Nat.le_of_ble_eq_true rfl) ?_
  intro x hl hR hmL C X
  have hst' : x.1.2.1.stackTraces = false := by rw [hl]; exact hst
  show GG x 106 0 0 [.ref 0, .int (nI (p)), .int (nI (u)), .int (e)] [] S 0
  have hS := hC.1
  have hcc : 65 + 5 * p = 21 ∨ 65 + 5 * p = 65 ∨ 65 + 5 * p = 70 := by omega
  obtain ⟨w, v, hW, hd⟩ := rw_c hcc hS (hC.2.2.2.2.2.2.2.2 p hp).1
  have hr := hC.2.2.2.2.2.2.2.2 p hp
  have hq := hg p hp
  obtain ⟨a1, a2, a3⟩ := hr.2.2.1 hk
  obtain ⟨z1, z2⟩ := hq.2.1 (by rw [hk]; decide)
  refine g_iload_n C dX11_remainder_0 rfl ?_
  refine g_if_lt C 9 dX11_remainder_1 (by decide) (fun h1 => absurd h1 (in_lo (by omega))) (fun h1 => ?_)
  refine g_iload_n C dX11_remainder_4 rfl ?_
  refine n_iconst C 2 dX11_remainder_5 ?_
  refine n_ic_lt C 20 dX11_remainder_6 (fun h6 => ?_) (fun h6 => absurd h6 (by omega))
  refine g_aload_n C dX11_remainder_20 rfl ?_
  refine g_getR C fo_X11_34 dX11_remainder_21 rfl (by decide) (fun _ => rfl) (gs_0_5 hS) ?_
  refine g_iload_n C dX11_remainder_24 rfl ?_
  refine g_aald C dX11_remainder_25 rfl (Or.inr rfl) (by decide) (by omega) rfl (hS.rowp hp) ?_
  refine g_getI C fo_X11_260 dX11_remainder_26 hW.1.1 hW.1.2 (fun _ => rfl) a1 ?_
  refine n_if_ne C 43 dX11_remainder_29 (fun h29 => ?_) (fun h29 => absurd h29 (by omega))
  refine g_iload_n C dX11_remainder_43 rfl ?_
  refine g_aload_n C dX11_remainder_44 rfl ?_
  refine g_getR C fo_X11_34 dX11_remainder_45 rfl (by decide) (fun _ => rfl) (gs_0_5 hS) ?_
  refine g_iload_n C dX11_remainder_48 rfl ?_
  refine g_aald C dX11_remainder_49 rfl (Or.inr rfl) (by decide) (by omega) rfl (hS.rowp hp) ?_
  refine g_getI C fo_X11_260 dX11_remainder_50 hW.1.1 hW.1.2 (fun _ => rfl) a1 ?_
  refine g_callS C (k_checkIndex _ hu (by omega)) so_X11_140 dX11_remainder_53 rfl rfl (rm_ok (M' := MX11_remainder.th) hR (by decide)) (Nat.le_of_ble_eq_true rfl) (fun v9 S9 h9 => ?_)
  obtain ⟨rfl, h9⟩ := h9
  refine g_S S h9 ?_
  refine g_n0 [] rfl rfl rfl ?_
  refine g_iload_n C dX11_remainder_56 rfl ?_
  refine g_aload_n C dX11_remainder_57 rfl ?_
  refine g_getR C fo_X11_34 dX11_remainder_58 rfl (by decide) (fun _ => rfl) (gs_0_5 hS) ?_
  refine g_iload_n C dX11_remainder_61 rfl ?_
  refine g_aald C dX11_remainder_62 rfl (Or.inr rfl) (by decide) (by omega) rfl (hS.rowp hp) ?_
  refine g_getI C fo_X11_260 dX11_remainder_63 hW.1.1 hW.1.2 (fun _ => rfl) a1 ?_
  exact g_thrS C X (t_checkIndex hst' h) so_X11_140 dX11_remainder_66 rfl rfl (rm_ok (M' := MX11_remainder.th) hR (by decide)) (Nat.le_of_ble_eq_true rfl) (fun _ h => h)

set_option maxRecDepth 100000 in
theorem c_remainder_2 (l : Launch) {S : pv_M} {A : Ab} (hC : CSt S A) (hg : gdW A.2.2) {p : Nat} (hp : p < 2) (hk : (A.2.2.1 p).1 = 2) {u e D G : Nat} (hu : u < (A.2.2.1 p).2) (hw : e < (A.2.2.1 p).2) (pu : PV (A.2.2.2.2 (21 * p + u)) D) (pe : PV (A.2.2.2.2 (21 * p + e)) G) (h0 : 0 < G) (hD : D ≤ G * 2 ^ 32) (hB : D < 2 ^ 2000) : mt l MX11_remainder 106 [.ref 0, .int (nI (p)), .int (nI (u)), .int (nI (e))] S (fun v S' => v = some (.double (FP.drem (A.2.2.2.2 (21 * p + u)) (A.2.2.2.2 (21 * p + e)))) ∧ S' = S) := by
  refine mt_of (by decide) (Nat.le_of_ble_eq_true rfl) ?_
  intro x hl hR hmL C E
  show GG x 106 0 0 [.ref 0, .int (nI (p)), .int (nI (u)), .int (nI (e))] [] S 0
  have hS := hC.1
  have hcc : 65 + 5 * p = 21 ∨ 65 + 5 * p = 65 ∨ 65 + 5 * p = 70 := by omega
  obtain ⟨w, v, hW, hd⟩ := rw_c hcc hS (hC.2.2.2.2.2.2.2.2 p hp).1
  have hr := hC.2.2.2.2.2.2.2.2 p hp
  have hq := hg p hp
  obtain ⟨a1, a2, a3⟩ := hr.2.2.2 hk
  obtain ⟨z1, z2⟩ := hq.2.1 (by rw [hk]; decide)
  refine g_iload_n C dX11_remainder_0 rfl ?_
  refine g_if_lt C 9 dX11_remainder_1 (by decide) (fun h1 => absurd h1 (in_lo (by omega))) (fun h1 => ?_)
  refine g_iload_n C dX11_remainder_4 rfl ?_
  refine n_iconst C 2 dX11_remainder_5 ?_
  refine n_ic_lt C 20 dX11_remainder_6 (fun h6 => ?_) (fun h6 => absurd h6 (by omega))
  refine g_aload_n C dX11_remainder_20 rfl ?_
  refine g_getR C fo_X11_34 dX11_remainder_21 rfl (by decide) (fun _ => rfl) (gs_0_5 hS) ?_
  refine g_iload_n C dX11_remainder_24 rfl ?_
  refine g_aald C dX11_remainder_25 rfl (Or.inr rfl) (by decide) (by omega) rfl (hS.rowp hp) ?_
  refine g_getI C fo_X11_260 dX11_remainder_26 hW.1.1 hW.1.2 (fun _ => rfl) a1 ?_
  refine n_if_ne C 43 dX11_remainder_29 (fun h29 => ?_) (fun h29 => absurd h29 (by omega))
  refine g_iload_n C dX11_remainder_43 rfl ?_
  refine g_aload_n C dX11_remainder_44 rfl ?_
  refine g_getR C fo_X11_34 dX11_remainder_45 rfl (by decide) (fun _ => rfl) (gs_0_5 hS) ?_
  refine g_iload_n C dX11_remainder_48 rfl ?_
  refine g_aald C dX11_remainder_49 rfl (Or.inr rfl) (by decide) (by omega) rfl (hS.rowp hp) ?_
  refine g_getI C fo_X11_260 dX11_remainder_50 hW.1.1 hW.1.2 (fun _ => rfl) a1 ?_
  refine g_callS C (k_checkIndex _ hu (by omega)) so_X11_140 dX11_remainder_53 rfl rfl (rm_ok (M' := MX11_remainder) hR (by decide)) (Nat.le_of_ble_eq_true rfl) (fun v9 S9 h9 => ?_)
  obtain ⟨rfl, h9⟩ := h9
  refine g_S S h9 ?_
  refine g_n0 [] rfl rfl rfl ?_
  refine g_iload_n C dX11_remainder_56 rfl ?_
  refine g_aload_n C dX11_remainder_57 rfl ?_
  refine g_getR C fo_X11_34 dX11_remainder_58 rfl (by decide) (fun _ => rfl) (gs_0_5 hS) ?_
  refine g_iload_n C dX11_remainder_61 rfl ?_
  refine g_aald C dX11_remainder_62 rfl (Or.inr rfl) (by decide) (by omega) rfl (hS.rowp hp) ?_
  refine g_getI C fo_X11_260 dX11_remainder_63 hW.1.1 hW.1.2 (fun _ => rfl) a1 ?_
  refine g_callS C (k_checkIndex _ hw (by omega)) so_X11_140 dX11_remainder_66 rfl rfl (rm_ok (M' := MX11_remainder) hR (by decide)) (Nat.le_of_ble_eq_true rfl) (fun v9 S9 h9 => ?_)
  obtain ⟨rfl, h9⟩ := h9
  refine g_S S h9 ?_
  refine g_n0 [] rfl rfl rfl ?_
  refine g_aload_n C dX11_remainder_69 rfl ?_
  refine g_getR C fo_X11_34 dX11_remainder_70 rfl (by decide) (fun _ => rfl) (gs_0_5 hS) ?_
  refine g_iload_n C dX11_remainder_73 rfl ?_
  refine g_aald C dX11_remainder_74 rfl (Or.inr rfl) (by decide) (by omega) rfl (hS.rowp hp) ?_
  refine g_iload_n C dX11_remainder_75 rfl ?_
  refine g_callV C (As := [.int (nI (e))]) (k_isZeroF _ hW a2 (m := G) (by omega) ((show mD S (65 + 5 * p + 2) e = mD S (67 + 5 * p) e from by rw [show 65 + 5 * p + 2 = 67 + 5 * p by omega]).trans (a3 e hw)) pe) vo_X11_266 dX11_remainder_76 rfl hW.1.1 hW.1.2 rfl (rm_ok (M' := MX11_remainder) hR (by decide)) (Nat.le_of_ble_eq_true rfl) (fun v9 S5 h9 => ?_)
  obtain ⟨rfl, h9⟩ := h9
  refine g_S S h9 ?_
  refine g_n0 [.int (bI (decide (G = 0)))] rfl rfl rfl ?_
  refine b_if_eq C 93 dX11_remainder_79 (fun h79 => ?_) (fun h79 => absurd (of_decide_eq_true h79) (by omega))
  refine g_aload_n C dX11_remainder_93 rfl ?_
  refine g_getR C fo_X11_34 dX11_remainder_94 rfl (by decide) (fun _ => rfl) (gs_0_5 hS) ?_
  refine g_iload_n C dX11_remainder_97 rfl ?_
  refine g_aald C dX11_remainder_98 rfl (Or.inr rfl) (by decide) (by omega) rfl (hS.rowp hp) ?_
  refine g_iload_n C dX11_remainder_99 rfl ?_
  refine g_iload_n C dX11_remainder_100 rfl ?_
  refine g_callV C (As := [.int (nI (u)), .int (nI (e))]) (k_restF _ hW a2 (by omega) (by omega) ((show mD S (65 + 5 * p + 2) u = mD S (67 + 5 * p) u from by rw [show 65 + 5 * p + 2 = 67 + 5 * p by omega]).trans (a3 u hu)) ((show mD S (65 + 5 * p + 2) e = mD S (67 + 5 * p) e from by rw [show 65 + 5 * p + 2 = 67 + 5 * p by omega]).trans (a3 e hw)) pu pe h0 hD hB) vo_X11_274 dX11_remainder_101 rfl hW.1.1 hW.1.2 rfl (rm_ok (M' := MX11_remainder) hR (by decide)) (Nat.le_of_ble_eq_true rfl) (fun v9 S5 h9 => ?_)
  obtain ⟨rfl, h9⟩ := h9
  refine g_S S h9 ?_
  refine g_n0 [.double (FP.drem (A.2.2.2.2 (21 * p + u)) (A.2.2.2.2 (21 * p + e)))] rfl rfl rfl ?_
  exact g_dret C E dX11_remainder_104 (by rw [hR]; decide) (by rw [hR]; decide) ⟨rfl, rfl⟩

set_option maxRecDepth 100000 in
theorem t_remainder_z2 {l : Launch} (hst : l.stackTraces = false) {S : pv_M} {A : Ab} (hC : CSt S A) (hg : gdW A.2.2) {p : Nat} (hp : p < 2) (hk : (A.2.2.1 p).1 = 2) {u e : Nat} (hu : u < (A.2.2.1 p).2) (hw : e < (A.2.2.1 p).2) (pe : PV (A.2.2.2.2 (21 * p + e)) 0) : mth l MX11_remainder.th 106 [.ref 0, .int (nI (p)), .int (nI (u)), .int (nI (e))] S "java/lang/ArithmeticException" (fun S' => S' = S) := by
  refine mth_of hst (by decide) (Nat.le_of_ble_eq_true rfl) ?_
  intro x hl hR hmL C X
  have hst' : x.1.2.1.stackTraces = false := by rw [hl]; exact hst
  show GG x 106 0 0 [.ref 0, .int (nI (p)), .int (nI (u)), .int (nI (e))] [] S 0
  have hS := hC.1
  have hcc : 65 + 5 * p = 21 ∨ 65 + 5 * p = 65 ∨ 65 + 5 * p = 70 := by omega
  obtain ⟨w, v, hW, hd⟩ := rw_c hcc hS (hC.2.2.2.2.2.2.2.2 p hp).1
  have hr := hC.2.2.2.2.2.2.2.2 p hp
  have hq := hg p hp
  obtain ⟨a1, a2, a3⟩ := hr.2.2.2 hk
  obtain ⟨z1, z2⟩ := hq.2.1 (by rw [hk]; decide)
  refine g_iload_n C dX11_remainder_0 rfl ?_
  refine g_if_lt C 9 dX11_remainder_1 (by decide) (fun h1 => absurd h1 (in_lo (by omega))) (fun h1 => ?_)
  refine g_iload_n C dX11_remainder_4 rfl ?_
  refine n_iconst C 2 dX11_remainder_5 ?_
  refine n_ic_lt C 20 dX11_remainder_6 (fun h6 => ?_) (fun h6 => absurd h6 (by omega))
  refine g_aload_n C dX11_remainder_20 rfl ?_
  refine g_getR C fo_X11_34 dX11_remainder_21 rfl (by decide) (fun _ => rfl) (gs_0_5 hS) ?_
  refine g_iload_n C dX11_remainder_24 rfl ?_
  refine g_aald C dX11_remainder_25 rfl (Or.inr rfl) (by decide) (by omega) rfl (hS.rowp hp) ?_
  refine g_getI C fo_X11_260 dX11_remainder_26 hW.1.1 hW.1.2 (fun _ => rfl) a1 ?_
  refine n_if_ne C 43 dX11_remainder_29 (fun h29 => ?_) (fun h29 => absurd h29 (by omega))
  refine g_iload_n C dX11_remainder_43 rfl ?_
  refine g_aload_n C dX11_remainder_44 rfl ?_
  refine g_getR C fo_X11_34 dX11_remainder_45 rfl (by decide) (fun _ => rfl) (gs_0_5 hS) ?_
  refine g_iload_n C dX11_remainder_48 rfl ?_
  refine g_aald C dX11_remainder_49 rfl (Or.inr rfl) (by decide) (by omega) rfl (hS.rowp hp) ?_
  refine g_getI C fo_X11_260 dX11_remainder_50 hW.1.1 hW.1.2 (fun _ => rfl) a1 ?_
  refine g_callS C (k_checkIndex _ hu (by omega)) so_X11_140 dX11_remainder_53 rfl rfl (rm_ok (M' := MX11_remainder.th) hR (by decide)) (Nat.le_of_ble_eq_true rfl) (fun v9 S9 h9 => ?_)
  obtain ⟨rfl, h9⟩ := h9
  refine g_S S h9 ?_
  refine g_n0 [] rfl rfl rfl ?_
  refine g_iload_n C dX11_remainder_56 rfl ?_
  refine g_aload_n C dX11_remainder_57 rfl ?_
  refine g_getR C fo_X11_34 dX11_remainder_58 rfl (by decide) (fun _ => rfl) (gs_0_5 hS) ?_
  refine g_iload_n C dX11_remainder_61 rfl ?_
  refine g_aald C dX11_remainder_62 rfl (Or.inr rfl) (by decide) (by omega) rfl (hS.rowp hp) ?_
  refine g_getI C fo_X11_260 dX11_remainder_63 hW.1.1 hW.1.2 (fun _ => rfl) a1 ?_
  refine g_callS C (k_checkIndex _ hw (by omega)) so_X11_140 dX11_remainder_66 rfl rfl (rm_ok (M' := MX11_remainder.th) hR (by decide)) (Nat.le_of_ble_eq_true rfl) (fun v9 S9 h9 => ?_)
  obtain ⟨rfl, h9⟩ := h9
  refine g_S S h9 ?_
  refine g_n0 [] rfl rfl rfl ?_
  refine g_aload_n C dX11_remainder_69 rfl ?_
  refine g_getR C fo_X11_34 dX11_remainder_70 rfl (by decide) (fun _ => rfl) (gs_0_5 hS) ?_
  refine g_iload_n C dX11_remainder_73 rfl ?_
  refine g_aald C dX11_remainder_74 rfl (Or.inr rfl) (by decide) (by omega) rfl (hS.rowp hp) ?_
  refine g_iload_n C dX11_remainder_75 rfl ?_
  refine g_callV C (As := [.int (nI (e))]) (k_isZeroF _ hW a2 (m := 0) (by omega) ((show mD S (65 + 5 * p + 2) e = mD S (67 + 5 * p) e from by rw [show 65 + 5 * p + 2 = 67 + 5 * p by omega]).trans (a3 e hw)) pe) vo_X11_266 dX11_remainder_76 rfl hW.1.1 hW.1.2 rfl (rm_ok (M' := MX11_remainder.th) hR (by decide)) (Nat.le_of_ble_eq_true rfl) (fun v9 S5 h9 => ?_)
  obtain ⟨rfl, h9⟩ := h9
  refine g_S S h9 ?_
  refine g_n0 [.int (bI (decide (0 = 0)))] rfl rfl rfl ?_
  refine b_if_eq C 93 dX11_remainder_79 (fun h79 => absurd h79 (by decide)) (fun h79 => ?_)
  exact g_throwW C X to_271 dX11_remainder_82 dX11_remainder_85 dX11_remainder_86 dX11_remainder_89 dX11_remainder_92 (by rw [hR]; decide) rfl

set_option maxRecDepth 100000 in
theorem t_remainder_u2 {l : Launch} (hst : l.stackTraces = false) {S : pv_M} {A : Ab} (hC : CSt S A) (hg : gdW A.2.2) {p : Nat} (hp : p < 2) (hk : (A.2.2.1 p).1 = 2) {u e : Int32} (h : badI u (A.2.2.1 p).2) : mth l MX11_remainder.th 106 [.ref 0, .int (nI (p)), .int (u), .int (e)] S "java/lang/IndexOutOfBoundsException" (fun S' => S' = S) := by
  refine mth_of hst (by decide) (Nat.le_of_ble_eq_true rfl) ?_
  intro x hl hR hmL C X
  have hst' : x.1.2.1.stackTraces = false := by rw [hl]; exact hst
  show GG x 106 0 0 [.ref 0, .int (nI (p)), .int (u), .int (e)] [] S 0
  have hS := hC.1
  have hcc : 65 + 5 * p = 21 ∨ 65 + 5 * p = 65 ∨ 65 + 5 * p = 70 := by omega
  obtain ⟨w, v, hW, hd⟩ := rw_c hcc hS (hC.2.2.2.2.2.2.2.2 p hp).1
  have hr := hC.2.2.2.2.2.2.2.2 p hp
  have hq := hg p hp
  obtain ⟨a1, a2, a3⟩ := hr.2.2.2 hk
  obtain ⟨z1, z2⟩ := hq.2.1 (by rw [hk]; decide)
  refine g_iload_n C dX11_remainder_0 rfl ?_
  refine g_if_lt C 9 dX11_remainder_1 (by decide) (fun h1 => absurd h1 (in_lo (by omega))) (fun h1 => ?_)
  refine g_iload_n C dX11_remainder_4 rfl ?_
  refine n_iconst C 2 dX11_remainder_5 ?_
  refine n_ic_lt C 20 dX11_remainder_6 (fun h6 => ?_) (fun h6 => absurd h6 (by omega))
  refine g_aload_n C dX11_remainder_20 rfl ?_
  refine g_getR C fo_X11_34 dX11_remainder_21 rfl (by decide) (fun _ => rfl) (gs_0_5 hS) ?_
  refine g_iload_n C dX11_remainder_24 rfl ?_
  refine g_aald C dX11_remainder_25 rfl (Or.inr rfl) (by decide) (by omega) rfl (hS.rowp hp) ?_
  refine g_getI C fo_X11_260 dX11_remainder_26 hW.1.1 hW.1.2 (fun _ => rfl) a1 ?_
  refine n_if_ne C 43 dX11_remainder_29 (fun h29 => ?_) (fun h29 => absurd h29 (by omega))
  refine g_iload_n C dX11_remainder_43 rfl ?_
  refine g_aload_n C dX11_remainder_44 rfl ?_
  refine g_getR C fo_X11_34 dX11_remainder_45 rfl (by decide) (fun _ => rfl) (gs_0_5 hS) ?_
  refine g_iload_n C dX11_remainder_48 rfl ?_
  refine g_aald C dX11_remainder_49 rfl (Or.inr rfl) (by decide) (by omega) rfl (hS.rowp hp) ?_
  refine g_getI C fo_X11_260 dX11_remainder_50 hW.1.1 hW.1.2 (fun _ => rfl) a1 ?_
  exact g_thrS C X (t_checkIndex hst' h) so_X11_140 dX11_remainder_53 rfl rfl (rm_ok (M' := MX11_remainder.th) hR (by decide)) (Nat.le_of_ble_eq_true rfl) (fun _ h => h)

set_option maxRecDepth 100000 in
theorem t_remainder_w2 {l : Launch} (hst : l.stackTraces = false) {S : pv_M} {A : Ab} (hC : CSt S A) (hg : gdW A.2.2) {p : Nat} (hp : p < 2) (hk : (A.2.2.1 p).1 = 2) {u : Nat} {e : Int32} (hu : u < (A.2.2.1 p).2) (h : badI e (A.2.2.1 p).2) : mth l MX11_remainder.th 106 [.ref 0, .int (nI (p)), .int (nI (u)), .int (e)] S "java/lang/IndexOutOfBoundsException" (fun S' => S' = S) := by
  refine mth_of hst (by decide) (Nat.le_of_ble_eq_true rfl) ?_
  intro x hl hR hmL C X
  have hst' : x.1.2.1.stackTraces = false := by rw [hl]; exact hst
  show GG x 106 0 0 [.ref 0, .int (nI (p)), .int (nI (u)), .int (e)] [] S 0
  have hS := hC.1
  have hcc : 65 + 5 * p = 21 ∨ 65 + 5 * p = 65 ∨ 65 + 5 * p = 70 := by omega
  obtain ⟨w, v, hW, hd⟩ := rw_c hcc hS (hC.2.2.2.2.2.2.2.2 p hp).1
  have hr := hC.2.2.2.2.2.2.2.2 p hp
  have hq := hg p hp
  obtain ⟨a1, a2, a3⟩ := hr.2.2.2 hk
  obtain ⟨z1, z2⟩ := hq.2.1 (by rw [hk]; decide)
  refine g_iload_n C dX11_remainder_0 rfl ?_
  refine g_if_lt C 9 dX11_remainder_1 (by decide) (fun h1 => absurd h1 (in_lo (by omega))) (fun h1 => ?_)
  refine g_iload_n C dX11_remainder_4 rfl ?_
  refine n_iconst C 2 dX11_remainder_5 ?_
  refine n_ic_lt C 20 dX11_remainder_6 (fun h6 => ?_) (fun h6 => absurd h6 (by omega))
  refine g_aload_n C dX11_remainder_20 rfl ?_
  refine g_getR C fo_X11_34 dX11_remainder_21 rfl (by decide) (fun _ => rfl) (gs_0_5 hS) ?_
  refine g_iload_n C dX11_remainder_24 rfl ?_
  refine g_aald C dX11_remainder_25 rfl (Or.inr rfl) (by decide) (by omega) rfl (hS.rowp hp) ?_
  refine g_getI C fo_X11_260 dX11_remainder_26 hW.1.1 hW.1.2 (fun _ => rfl) a1 ?_
  refine n_if_ne C 43 dX11_remainder_29 (fun h29 => ?_) (fun h29 => absurd h29 (by omega))
  refine g_iload_n C dX11_remainder_43 rfl ?_
  refine g_aload_n C dX11_remainder_44 rfl ?_
  refine g_getR C fo_X11_34 dX11_remainder_45 rfl (by decide) (fun _ => rfl) (gs_0_5 hS) ?_
  refine g_iload_n C dX11_remainder_48 rfl ?_
  refine g_aald C dX11_remainder_49 rfl (Or.inr rfl) (by decide) (by omega) rfl (hS.rowp hp) ?_
  refine g_getI C fo_X11_260 dX11_remainder_50 hW.1.1 hW.1.2 (fun _ => rfl) a1 ?_
  refine g_callS C (k_checkIndex _ hu (by omega)) so_X11_140 dX11_remainder_53 rfl rfl (rm_ok (M' := MX11_remainder.th) hR (by decide)) (Nat.le_of_ble_eq_true rfl) (fun v9 S9 h9 => ?_)
  obtain ⟨rfl, h9⟩ := h9
  refine g_S S h9 ?_
  refine g_n0 [] rfl rfl rfl ?_
  refine g_iload_n C dX11_remainder_56 rfl ?_
  refine g_aload_n C dX11_remainder_57 rfl ?_
  refine g_getR C fo_X11_34 dX11_remainder_58 rfl (by decide) (fun _ => rfl) (gs_0_5 hS) ?_
  refine g_iload_n C dX11_remainder_61 rfl ?_
  refine g_aald C dX11_remainder_62 rfl (Or.inr rfl) (by decide) (by omega) rfl (hS.rowp hp) ?_
  refine g_getI C fo_X11_260 dX11_remainder_63 hW.1.1 hW.1.2 (fun _ => rfl) a1 ?_
  exact g_thrS C X (t_checkIndex hst' h) so_X11_140 dX11_remainder_66 rfl rfl (rm_ok (M' := MX11_remainder.th) hR (by decide)) (Nat.le_of_ble_eq_true rfl) (fun _ h => h)

set_option maxRecDepth 100000 in
theorem t_remainder_m {l : Launch} (hst : l.stackTraces = false) {S : pv_M} {A : Ab} (hC : CSt S A) (hg : gdW A.2.2) {p : Nat} (hp : p < 2) (hk : (A.2.2.1 p).1 = 0) {u e : Int32} : mth l MX11_remainder.th 106 [.ref 0, .int (nI (p)), .int (u), .int (e)] S "java/lang/IllegalStateException" (fun S' => S' = S) := by
  refine mth_of hst (by decide) (Nat.le_of_ble_eq_true rfl) ?_
  intro x hl hR hmL C X
  have hst' : x.1.2.1.stackTraces = false := by rw [hl]; exact hst
  show GG x 106 0 0 [.ref 0, .int (nI (p)), .int (u), .int (e)] [] S 0
  have hS := hC.1
  have hcc : 65 + 5 * p = 21 ∨ 65 + 5 * p = 65 ∨ 65 + 5 * p = 70 := by omega
  obtain ⟨w, v, hW, hd⟩ := rw_c hcc hS (hC.2.2.2.2.2.2.2.2 p hp).1
  have hr := hC.2.2.2.2.2.2.2.2 p hp
  have hq := hg p hp
  refine g_iload_n C dX11_remainder_0 rfl ?_
  refine g_if_lt C 9 dX11_remainder_1 (by decide) (fun h1 => absurd h1 (in_lo (by omega))) (fun h1 => ?_)
  refine g_iload_n C dX11_remainder_4 rfl ?_
  refine n_iconst C 2 dX11_remainder_5 ?_
  refine n_ic_lt C 20 dX11_remainder_6 (fun h6 => ?_) (fun h6 => absurd h6 (by omega))
  refine g_aload_n C dX11_remainder_20 rfl ?_
  refine g_getR C fo_X11_34 dX11_remainder_21 rfl (by decide) (fun _ => rfl) (gs_0_5 hS) ?_
  refine g_iload_n C dX11_remainder_24 rfl ?_
  refine g_aald C dX11_remainder_25 rfl (Or.inr rfl) (by decide) (by omega) rfl (hS.rowp hp) ?_
  refine g_getI C fo_X11_260 dX11_remainder_26 hW.1.1 hW.1.2 (fun _ => rfl) (hr.2.1 hk) ?_
  refine n_if_ne C 43 dX11_remainder_29 (fun h29 => absurd h29 (by omega)) (fun h29 => ?_)
  exact g_throwW C X to_263 dX11_remainder_32 dX11_remainder_35 dX11_remainder_36 dX11_remainder_39 dX11_remainder_42 (by rw [hR]; decide) rfl

set_option maxRecDepth 100000 in
theorem t_remainder_p {l : Launch} (hst : l.stackTraces = false) {S : pv_M} {p : Int32} (h : badI p 2) {u e : Int32} : mth l MX11_remainder.th 106 [.ref 0, .int (p), .int (u), .int (e)] S "java/lang/IllegalArgumentException" (fun S' => S' = S) := by
  refine mth_of hst (by decide) (Nat.le_of_ble_eq_true rfl) ?_
  intro x hl hR hmL C X
  have hst' : x.1.2.1.stackTraces = false := by rw [hl]; exact hst
  show GG x 106 0 0 [.ref 0, .int (p), .int (u), .int (e)] [] S 0
  refine g_iload_n C dX11_remainder_0 rfl ?_
  refine g_if_lt C 9 dX11_remainder_1 (by decide) (fun h1 => ?_) (fun h1 => ?_)
  · exact g_throwW C X to_257 dX11_remainder_9 dX11_remainder_12 dX11_remainder_13 dX11_remainder_16 dX11_remainder_19 (by rw [hR]; decide) rfl
  · refine g_iload_n C dX11_remainder_4 rfl ?_
    refine n_iconst C 2 dX11_remainder_5 ?_
    refine g_ic_lt C 20 dX11_remainder_6 (by decide) (fun h6 => absurd (h.resolve_left h1) (Int32.not_le.mpr h6)) (fun h6 => ?_)
    exact g_throwW C X to_257 dX11_remainder_9 dX11_remainder_12 dX11_remainder_13 dX11_remainder_16 dX11_remainder_19 (by rw [hR]; decide) rfl
