/-! the state at the loop's start -/
def zS : pv_M := (fun _ _ => 0, fun _ _ => 0, fun _ _ => 0, fun _ _ => 0, fun _ _ => none)
theorem zf_z (N : Nat) : ZF N zS := fun _ _ => ⟨rfl, rfl, rfl, rfl, rfl⟩
def iS : pv_M := sX12 (sX11 zS)
def Ab0 : Ab := (((fun _ => (1, (fun _ => 0), 0)), (0, fun _ => 0)), (false, ((fun _ => (0, (fun _ => 0), 0)), (0, fun _ => 0))), ((fun _ => (0, 0)), (fun _ => 0), (fun _ => 0)))
set_option maxRecDepth 100000 in
theorem i_gs : GS iS := by unfold GS; decide +kernel
set_option maxRecDepth 100000 in
theorem i_kx : KX iS := Or.inl (by unfold KdAt; decide +kernel)
set_option maxRecDepth 100000 in
theorem i_wy : ∀ c ∈ [21, 65, 70], WY iS c := by
  have h : ∀ c ∈ [21, 65, 70], mR iS c 4 = some (c + 3) ∧ mR iS c 5 = some (c + 4) := by decide +kernel
  exact fun c hc => Or.inl (h c hc)
set_option maxRecDepth 100000 in
theorem i_au : ∀ j, j < 3 → AutoAt iS (53 + 4 * j) (54 + 4 * j) 1 (fun _ => 0) 0 := by unfold AutoAt; decide +kernel
set_option maxRecDepth 100000 in
theorem i_sv : ∀ j, j < 3 → AutoAt iS (55 + 4 * j) (56 + 4 * j) 1 (fun _ => 0) 0 := by unfold AutoAt; decide +kernel
set_option maxRecDepth 100000 in
theorem i_w3 : WordAt iS 3 4 0 (fun _ => 0) := by unfold WordAt; decide +kernel
set_option maxRecDepth 100000 in
theorem i_w5 : WordAt iS 5 6 0 (fun _ => 0) := by unfold WordAt; decide +kernel
set_option maxRecDepth 100000 in
theorem i_0 : mI iS 0 4 = bI false ∧ mI iS 65 1 = nI 0 ∧ mI iS 70 1 = nI 0 := by decide +kernel
theorem i_c : CSt iS Ab0 := by
  refine ⟨i_gs, i_kx, i_wy 21 (by decide), i_au, i_w3, i_0.1, ⟨fun j hj => ⟨_, _, _, i_sv j hj⟩, _, _, i_w5⟩, fun e => absurd e (by decide), fun j hj => ?_⟩
  rcases (show j = 0 ∨ j = 1 by omega) with rfl | rfl
  · exact ⟨i_wy 65 (by decide), fun _ => i_0.2.1, fun e => absurd e (by decide), fun e => absurd e (by decide)⟩
  · exact ⟨i_wy 70 (by decide), fun _ => i_0.2.2, fun e => absurd e (by decide), fun e => absurd e (by decide)⟩
set_option maxRecDepth 100000 in
theorem i_rg : RgM iS 76 77 78 Ab0.1.1 := by unfold RgM; decide +kernel
set_option maxRecDepth 100000 in
theorem i_rs : RgM iS 84 85 86 Ab0.2.1.2.1 := by unfold RgM; decide +kernel
set_option maxRecDepth 100000 in
theorem i_wd : WdM iS 4 79 Ab0.1.2 ∧ WdM iS 14 87 Ab0.2.1.2.2 ∧ mI iS 75 10 = bI Ab0.2.1.1 := by unfold WdM; decide +kernel
set_option maxRecDepth 100000 in
theorem i_rw : ∀ j, j < 2 → mI iS 80 j = nI (Ab0.2.2.1 j).1 ∧ mI iS 81 j = nI (Ab0.2.2.1 j).2 := by decide +kernel
theorem i_m : MSt iS Ab0 := ⟨i_rg, i_wd.1, i_wd.2.2, i_rs, i_wd.2.1, i_rw, rfl, rfl⟩
theorem i_g : Gd Ab0 := ⟨⟨fun j _ => ⟨show 0 < 1 by decide, show 1 ≤ 6 by decide, fun _ _ => show 0 < 1 by decide, show 0 < 64 by decide⟩, Nat.zero_le _, fun _ => show 0 < 3 by decide⟩, fun e => absurd e (by decide), fun j _ => ⟨Nat.zero_le _, fun e => absurd rfl e, fun e => absurd e (show ¬ (0 = 1) by decide), fun e => absurd e (show ¬ (0 = 2) by decide)⟩⟩
theorem i_inv : INV iS := ⟨Ab0, i_c, i_m, i_g⟩
/-! the loop -/
set_option maxRecDepth 100000 in
theorem lw_sw {x : Cx} (L : LX x) {cs sl i : Nat} {S : pv_M} (hi : i + 5 ≤ xL x) (hI : INV S) (hc : cs + 1 ≤ 603072) (hs : sl + 6 ≤ 7178346) (kk : ∀ S' : pv_M, INV S' → GG x 106 (cs + 1) (sl + 6) (lvL i) [] S' 2528) (n : Nat) (hn : n < 64) : GG x 106 cs sl (lvL i) [.int (nI n)] S 44 := by
  have C := L.C
  match n, hn with
  | 0, _ => exact g_table C 204 dL_law_44 (by decide) (by decide) rfl (by decide) (lw_c0 L hi hI hc hs kk)
  | 1, _ => exact g_table C 252 dL_law_44 (by decide) (by decide) rfl (by decide) (lw_c1 L hi hI hc hs kk)
  | 2, _ => exact g_table C 324 dL_law_44 (by decide) (by decide) rfl (by decide) (lw_c2 L hi hI hc hs kk)
  | 3, _ => exact g_table C 427 dL_law_44 (by decide) (by decide) rfl (by decide) (lw_c3 L hi hI hc hs kk)
  | 4, _ => exact g_table C 483 dL_law_44 (by decide) (by decide) rfl (by decide) (lw_c4 L hi hI hc hs kk)
  | 5, _ => exact g_table C 563 dL_law_44 (by decide) (by decide) rfl (by decide) (lw_c5 L hi hI hc hs kk)
  | 6, _ => exact g_table C 638 dL_law_44 (by decide) (by decide) rfl (by decide) (lw_c6 L hi hI hc hs kk)
  | 7, _ => exact g_table C 686 dL_law_44 (by decide) (by decide) rfl (by decide) (lw_c7 L hi hI hc hs kk)
  | 8, _ => exact g_table C 734 dL_law_44 (by decide) (by decide) rfl (by decide) (lw_c8 L hi hI hc hs kk)
  | 9, _ => exact g_table C 790 dL_law_44 (by decide) (by decide) rfl (by decide) (lw_c9 L hi hI hc hs kk)
  | 10, _ => exact g_table C 803 dL_law_44 (by decide) (by decide) rfl (by decide) (lw_c10 L hi hI hc hs kk)
  | 11, _ => exact g_table C 859 dL_law_44 (by decide) (by decide) rfl (by decide) (lw_c11 L hi hI hc hs kk)
  | 12, _ => exact g_table C 922 dL_law_44 (by decide) (by decide) rfl (by decide) (lw_c12 L hi hI hc hs kk)
  | 13, _ => exact g_table C 978 dL_law_44 (by decide) (by decide) rfl (by decide) (lw_c13 L hi hI hc hs kk)
  | 14, _ => exact g_table C 1034 dL_law_44 (by decide) (by decide) rfl (by decide) (lw_c14 L hi hI hc hs kk)
  | 15, _ => exact g_table C 1090 dL_law_44 (by decide) (by decide) rfl (by decide) (lw_c15 L hi hI hc hs kk)
  | 16, _ => exact g_table C 1146 dL_law_44 (by decide) (by decide) rfl (by decide) (lw_c16 L hi hI hc hs kk)
  | 17, _ => exact g_table C 1214 dL_law_44 (by decide) (by decide) rfl (by decide) (lw_c17 L hi hI hc hs kk)
  | 18, _ => exact g_table C 1270 dL_law_44 (by decide) (by decide) rfl (by decide) (lw_c18 L hi hI hc hs kk)
  | 19, _ => exact g_table C 1349 dL_law_44 (by decide) (by decide) rfl (by decide) (lw_c19 L hi hI hc hs kk)
  | 20, _ => exact g_table C 1404 dL_law_44 (by decide) (by decide) rfl (by decide) (lw_c20 L hi hI hc hs kk)
  | 21, _ => exact g_table C 1460 dL_law_44 (by decide) (by decide) rfl (by decide) (lw_c21 L hi hI hc hs kk)
  | 22, _ => exact g_table C 1528 dL_law_44 (by decide) (by decide) rfl (by decide) (lw_c22 L hi hI hc hs kk)
  | 23, _ => exact g_table C 1596 dL_law_44 (by decide) (by decide) rfl (by decide) (lw_c23 L hi hI hc hs kk)
  | 24, _ => exact g_table C 1676 dL_law_44 (by decide) (by decide) rfl (by decide) (lw_c24 L hi hI hc hs kk)
  | 25, _ => exact g_table C 1732 dL_law_44 (by decide) (by decide) rfl (by decide) (lw_c25 L hi hI hc hs kk)
  | 26, _ => exact g_table C 1824 dL_law_44 (by decide) (by decide) rfl (by decide) (lw_c26 L hi hI hc hs kk)
  | 27, _ => exact g_table C 1892 dL_law_44 (by decide) (by decide) rfl (by decide) (lw_c27 L hi hI hc hs kk)
  | 28, _ => exact g_table C 1960 dL_law_44 (by decide) (by decide) rfl (by decide) (lw_c28 L hi hI hc hs kk)
  | 29, _ => exact g_table C 2072 dL_law_44 (by decide) (by decide) rfl (by decide) (lw_c29 L hi hI hc hs kk)
  | 30, _ => exact g_table C 2147 dL_law_44 (by decide) (by decide) rfl (by decide) (lw_c30 L hi hI hc hs kk)
  | 31, _ => exact g_table C 2215 dL_law_44 (by decide) (by decide) rfl (by decide) (lw_c31 L hi hI hc hs kk)
  | 32, _ => exact g_table C 2304 dL_law_44 (by decide) (by decide) rfl (by decide) (lw_c32 L hi hI hc hs kk)
  | 33, _ => exact g_table C 2392 dL_law_44 (by decide) (by decide) rfl (by decide) (lw_c33 L hi hI hc hs kk)
  | 34, _ => exact g_table C 2493 dL_law_44 (by decide) (by decide) rfl (by decide) (lw_c34 L hi hI hc hs kk)
  | 35, _ => exact g_table C 2504 dL_law_44 (by decide) (by decide) rfl (by decide) (lw_c35 L hi hI hc hs kk)
  | k + 36, hk =>
    refine g_tableX C 2528 dL_law_44 (Or.inr ?_) (by decide) (g_wid (by omega) (by omega) (kk S hI))
    rw [nI_toInt (by omega)]
    omega
theorem lw_head {x : Cx} (L : LX x) {cs sl t : Nat} {S : pv_M} (ht : t ≤ xL x / 5) (k1 : t < xL x / 5 → GG x 106 cs sl (lvL (5 * t)) [] S 37) (k2 : t = xL x / 5 → GG x 106 cs sl (lvL (5 * t)) [] S 2534) : GG x 106 cs sl (lvL (5 * t)) [] S 28 := by
  have C := L.C
  have hn := L.n
  refine g_iload C dL_law_28 rfl ?_
  refine g_sload_n C dL_law_30 rfl ?_
  refine g_slen C L.X L.bl L.bA dL_law_31 ?_
  refine n_iconst C 5 dL_law_32 ?_
  by_cases h5 : 5 ≤ xL x
  · refine n_isub C dL_law_33 ?_ h5
    refine n_ic_gt C 2534 dL_law_34 (fun h => k2 (by omega)) (fun h => k1 (by omega)) (by decide) (by omega) (by omega)
  · refine g_isub C dL_law_33 ?_
    have e : t = 0 := by omega
    have hlt : nI (xL x) - nI 5 < nI (5 * t) := by
      rw [e]
      rcases (show xL x = 0 ∨ xL x = 1 ∨ xL x = 2 ∨ xL x = 3 ∨ xL x = 4 by omega) with h | h | h | h | h <;> rw [h] <;> decide
    exact g_ic_gt C 2534 dL_law_34 (by decide) (fun _ => k2 (by omega)) (fun h => absurd hlt h)
theorem lw_loop {x : Cx} (L : LX x) (fin : ∀ (cs sl : Nat) (lv : List Value) (S : pv_M), cs ≤ 603072 → sl ≤ 7178346 → GG x 106 cs sl lv [] S 2534) : ∀ (z t cs sl : Nat) (S : pv_M), t + z = xL x / 5 → INV S → cs + z ≤ 603072 → sl + 6 * z ≤ 7178346 → GG x 106 cs sl (lvL (5 * t)) [] S 28 := by
  intro z
  induction z with
  | zero =>
    intro t cs sl S h hI hc hs
    exact lw_head L (by omega) (fun h2 => absurd h (by omega)) (fun _ => fin _ _ _ _ (by omega) (by omega))
  | succ z ih =>
    intro t cs sl S h hI hc hs
    have C := L.C
    have h31 : xL x < 2 ^ 31 := Nat.lt_of_le_of_lt L.n (by decide)
    refine lw_head L (by omega) (fun h2 => ?_) (fun h2 => absurd h (by omega))
    refine g_sload_n C dL_law_37 rfl ?_
    refine g_iload C dL_law_38 rfl ?_
    refine g_sld C L.X L.bl L.bA (j := 5 * t) (by omega) h31 dL_law_40 ?_
    refine n_bipush C 63 dL_law_41 ?_
    refine g_iand C dL_law_43 ?_
    rw [show nI 63 = nI (2 ^ 6 - 1) from rfl, and_mask _ (by decide)]
    refine lw_sw L (by omega) hI (by omega) (by omega) (fun S' hI' => ?_) _ (Nat.mod_lt _ (by decide))
    refine n_iinc C (by rw [L.mL]; decide) dL_law_2528 rfl (n_i5 _) (lvL (5 * t + 5)) ?_
    refine g_goto C 28 dL_law_2531 (by decide) ?_
    rw [show 5 * t + 5 = 5 * (t + 1) by omega]
    exact ih (t + 1) (cs + 1) (sl + 6) S' (by omega) hI' (by omega) (by omega)
theorem cno_L_8 : CNO RL 8 10 := ⟨_, ko_X11, tb_in 80 (by decide +kernel) (by decide +kernel), tb_in 81 (by decide +kernel) (by decide +kernel), tb_in 55 (by decide +kernel) (by decide +kernel), by decide +kernel⟩
theorem cno_L_137 : CNO RL 137 11 := ⟨_, ko_X12, tb_in 1180 (by decide +kernel) (by decide +kernel), tb_in 1181 (by decide +kernel) (by decide +kernel), tb_in 67 (by decide +kernel) (by decide +kernel), by decide +kernel⟩
theorem io_L_136 : IO RL 136 NX11 0 := ⟨Or.inl (tb_in 82 (by decide +kernel) (by decide +kernel)), tb_all _ [83, 55, 84] (by decide +kernel) (by decide +kernel), rfl, rfl, by decide +kernel⟩
theorem io_L_139 : IO RL 139 NX12 0 := ⟨Or.inl (tb_in 1182 (by decide +kernel) (by decide +kernel)), tb_all _ [1183, 67, 1184] (by decide +kernel) (by decide +kernel), rfl, rfl, by decide +kernel⟩
set_option maxRecDepth 100000 in
theorem lw_pro {x : Cx} (L : LX x) (hN : xN x = 0) (kk : GG x 106 106 23267 (lvL 0) [] iS 28) : GG x 0 0 0 [.retAddr 1, unk, unk, unk, unk, unk, unk, unk, unk] [] zS 0 := by
  have C := L.C
  refine g_new C cno_L_8 dL_law_0 rfl (by rw [hN]; decide) (zf_z 0) ⟨trivial, trivial, trivial, trivial, trivial, trivial, trivial, trivial, trivial, trivial⟩ trivial (by rw [L.R]; decide) (by rw [L.R]; decide) ?_
  refine g_dup C dL_law_3 rfl ?_
  refine g_callI C (As := []) (i_X11 x.1.2.1 (zf_z 1)) io_L_136 dL_law_4 rfl (by rw [hN]; decide) ⟨trivial, trivial, trivial, trivial, trivial, trivial, trivial, trivial, trivial, trivial⟩ ⟨rl_i (by decide), trivial⟩ rfl (rm_L L.R (by decide) (by decide) (by decide)) (Nat.le_of_ble_eq_true rfl) (fun S9 h9 => ?_)
  obtain ⟨h9, z9⟩ := h9
  subst h9
  refine g_astore_n C (by rw [L.mL]; decide) dL_law_7 [.retAddr 1, .ref 0, unk, unk, unk, unk, unk, unk, unk] rfl ?_
  refine g_new C cno_L_137 dL_law_8 rfl (by rw [hN]; decide) z9 ⟨trivial, rl_i (by decide), trivial, trivial, trivial, trivial, trivial, trivial, trivial, trivial⟩ trivial (by rw [L.R]; decide) (by rw [L.R]; decide) ?_
  refine g_dup C dL_law_11 rfl ?_
  refine g_callI C (As := []) (i_X12 x.1.2.1 z9.up) io_L_139 dL_law_12 rfl (by rw [hN]; decide) ⟨trivial, rl_i (by decide), trivial, trivial, trivial, trivial, trivial, trivial, trivial, trivial⟩ ⟨rl_i (by decide), trivial⟩ rfl (rm_L L.R (by decide) (by decide) (by decide)) (Nat.le_of_ble_eq_true rfl) (fun S8 h8 => ?_)
  obtain ⟨h8, z8⟩ := h8
  have e8 : S8 = iS := h8
  subst e8
  refine g_astore_n C (by rw [L.mL]; decide) dL_law_15 [.retAddr 1, .ref 0, .ref 75, unk, unk, unk, unk, unk, unk] rfl ?_
  refine n_iconst C 1 dL_law_16 ?_
  refine g_newJ C aw_J dL_law_17 (by decide) rfl (by rw [hN]; decide) z8 ⟨trivial, rl_i (by decide), rl_i (by decide), trivial, trivial, trivial, trivial, trivial, trivial, trivial⟩ trivial (by rw [L.R]; decide) (by rw [L.R]; decide) ?_
  refine g_astore_n C (by rw [L.mL]; decide) dL_law_19 [.retAddr 1, .ref 0, .ref 75, .ref 104, unk, unk, unk, unk, unk] rfl ?_
  refine n_iconst C 1 dL_law_20 ?_
  refine g_newD C aw_D dL_law_21 (by decide) rfl (by rw [hN]; decide) z8.up ⟨trivial, rl_i (by decide), rl_i (by decide), rl_i (by decide), trivial, trivial, trivial, trivial, trivial, trivial⟩ trivial (by rw [L.R]; decide) (by rw [L.R]; decide) ?_
  refine g_astore C (by rw [L.mL]; decide) dL_law_23 [.retAddr 1, .ref 0, .ref 75, .ref 104, .ref 105, unk, unk, unk, unk] rfl ?_
  refine n_iconst C 0 dL_law_25 ?_
  refine g_istore C (by rw [L.mL]; decide) dL_law_26 (lvL 0) rfl ?_
  exact g_wid (by decide) (by decide) kk
theorem cl_ok : ∀ q ∈ pv_cl, (∀ w ∈ u_ws q.1 q.2.1 q.2.2, w ∈ TB) ∧ Cond.instantiable q.1 q.2.2 ∈ TB := List.forall_mem_cons.mpr ⟨⟨ko_X0.2.2.1, tb_in 290 (by decide +kernel) (by decide +kernel)⟩, List.forall_mem_cons.mpr ⟨⟨ko_X1.2.2.1, tb_in 124 (by decide +kernel) (by decide +kernel)⟩, List.forall_mem_cons.mpr ⟨⟨ko_X2.2.2.1, tb_in 157 (by decide +kernel) (by decide +kernel)⟩, List.forall_mem_cons.mpr ⟨⟨ko_X3.2.2.1, tb_in 230 (by decide +kernel) (by decide +kernel)⟩, List.forall_mem_cons.mpr ⟨⟨ko_X5.2.2.1, tb_in 252 (by decide +kernel) (by decide +kernel)⟩, List.forall_mem_cons.mpr ⟨⟨ko_X6.2.2.1, tb_in 115 (by decide +kernel) (by decide +kernel)⟩, List.forall_mem_cons.mpr ⟨⟨ko_X7.2.2.1, tb_in 200 (by decide +kernel) (by decide +kernel)⟩, List.forall_mem_cons.mpr ⟨⟨ko_X8.2.2.1, tb_in 165 (by decide +kernel) (by decide +kernel)⟩, List.forall_mem_cons.mpr ⟨⟨ko_X9.2.2.1, tb_in 185 (by decide +kernel) (by decide +kernel)⟩, List.forall_mem_cons.mpr ⟨⟨ko_X10.2.2.1, tb_in 91 (by decide +kernel) (by decide +kernel)⟩, List.forall_mem_cons.mpr ⟨⟨ko_X11.2.2.1, tb_in 81 (by decide +kernel) (by decide +kernel)⟩, List.forall_mem_cons.mpr ⟨⟨ko_X12.2.2.1, tb_in 1181 (by decide +kernel) (by decide +kernel)⟩, fun _ h => absurd h List.not_mem_nil⟩⟩⟩⟩⟩⟩⟩⟩⟩⟩⟩⟩
theorem str_ok : ∀ q ∈ pv_strs, Cond.stringRef RX11 q.1 q.2 ∈ lw_tbl := List.forall_mem_cons.mpr ⟨List.mem_of_getElem? (i := 1083) (by decide +kernel), List.forall_mem_cons.mpr ⟨List.mem_of_getElem? (i := 1153) (by decide +kernel), List.forall_mem_cons.mpr ⟨List.mem_of_getElem? (i := 1154) (by decide +kernel), List.forall_mem_cons.mpr ⟨List.mem_of_getElem? (i := 1160) (by decide +kernel), List.forall_mem_cons.mpr ⟨List.mem_of_getElem? (i := 1179) (by decide +kernel), List.forall_mem_cons.mpr ⟨List.mem_of_getElem? (i := 506) (by decide +kernel), List.forall_mem_cons.mpr ⟨List.mem_of_getElem? (i := 522) (by decide +kernel), List.forall_mem_cons.mpr ⟨List.mem_of_getElem? (i := 972) (by decide +kernel), List.forall_mem_cons.mpr ⟨List.mem_of_getElem? (i := 1109) (by decide +kernel), List.forall_mem_cons.mpr ⟨List.mem_of_getElem? (i := 1034) (by decide +kernel), List.forall_mem_cons.mpr ⟨List.mem_of_getElem? (i := 643) (by decide +kernel), List.forall_mem_cons.mpr ⟨List.mem_of_getElem? (i := 1008) (by decide +kernel), fun _ h => absurd h List.not_mem_nil⟩⟩⟩⟩⟩⟩⟩⟩⟩⟩⟩⟩
section AR
variable {args : Array Value} {s : State}
theorem ar_p {ty : FieldType} (hty : ∀ C, ty ≠ .object C) (h : (Cond.arrayClass ty).before args s = true) : ∃ c, ArrOfT s c ty ∧ va_RA s c ty := by
  obtain ⟨c, k, comp, h1, h2, h3⟩ := Cond.arrayClass_spec h
  refine ⟨c, fun n z => ⟨fun k h => (by cases h), k, h2, comp, h3⟩, ?_⟩
  cases ty with
  | object C => exact absurd rfl (hty C)
  | _ => exact h1
theorem ar_o {C : String} (h : (Cond.arrayOver (.object C)).before args s = true) : ∃ c, ArrOfT s c (.object C) ∧ va_RA s c (.object C) := by
  obtain ⟨comp, c, k, h1, -, h3, h4, h5⟩ := Cond.arrayOver_spec h
  exact ⟨c, fun n z => ⟨fun k h => (by cases h), k, h3, comp, h4⟩, k, comp, h3, h4, h1, h5⟩
end AR
set_option maxRecDepth 100000 in
theorem whole_start {p : Program} {e : Env} {s : State} {m : MethodId} {below : List Frame} {meth : Method} {c : Code} (l : Launch) (hflags : l.flags = flags0) {b L : Nat} {xs : Nat → Int32} (hL : L ≤ 2560) (C0 : lw_At p s m meth c b L xs) : W p l e room_1 s m #[Value.ref b] below meth c s.heap [] 0 0 (lw_Z below #[Value.ref b] s) (entryFrame m ([Value.ref b] : List Value).toArray 9) := by
  obtain ⟨hx, hb, hr, hml, hown, hts, hX, hbl, hlocks, hgv⟩ := C0
  have hgs := flat_of_before _ hgv
  have hst : l.stackTraces = false := by unfold Launch.stackTraces; rw [hflags]; decide
  have hTB : ∀ w ∈ TB, w.before #[Value.ref b] s = true := fun w hw => hts w (List.mem_filter.mp hw).1
  -- the classes
  have hD : ∀ k : Nat, ∃ z : ClassId × (Nat → Nat), ∀ q : vw_C, pv_cl[k]? = some q → u_Kn s q.1 q.2.1 q.2.2 z.1 z.2 := fun k => by
    cases h : pv_cl[k]? with
    | none => exact ⟨(0, fun _ => 0), fun q hq => nomatch hq⟩
    | some q =>
      obtain ⟨w1, w2⟩ := cl_ok q (List.mem_of_getElem? h)
      obtain ⟨cC, iS, hK⟩ := u_known (n := q.2.2) hTB w1 (hTB _ w2)
      exact ⟨(cC, iS), fun q' hq => by cases hq; exact hK⟩
  have hy : ∀ k : Nat, ∃ z : ClassId, ∀ ty : FieldType, ([.int, .long, .float, .double, .boolean, .object RX1, .object RX7] : List FieldType)[k]? = some ty → ArrOfT s z ty ∧ va_RA s z ty := fun k => by
    match k with
    | 0 => exact (ar_p (ty := .int) (fun _ h => by cases h) (hTB _ aw_I)).imp (fun z h ty e => by cases e; exact h)
    | 1 => exact (ar_p (ty := .long) (fun _ h => by cases h) (hTB _ aw_J)).imp (fun z h ty e => by cases e; exact h)
    | 2 => exact (ar_p (ty := .float) (fun _ h => by cases h) (hTB _ aw_F)).imp (fun z h ty e => by cases e; exact h)
    | 3 => exact (ar_p (ty := .double) (fun _ h => by cases h) (hTB _ aw_D)).imp (fun z h ty e => by cases e; exact h)
    | 4 => exact (ar_p (ty := .boolean) (fun _ h => by cases h) (hTB _ aw_Z)).imp (fun z h ty e => by cases e; exact h)
    | 5 => exact (ar_o (C := RX1) (hts _ (List.mem_of_getElem? (i := 89) (by decide +kernel)))).imp (fun z h ty e => by cases e; exact h)
    | 6 => exact (ar_o (C := RX7) (hts _ (List.mem_of_getElem? (i := 113) (by decide +kernel)))).imp (fun z h ty e => by cases e; exact h)
    | k + 7 => exact ⟨0, fun ty e => by cases e⟩
  obtain ⟨D, hD⟩ : ∃ D : va_G, ∀ (k : Nat) (q : vw_C), pv_cl[k]? = some q → u_Kn s q.1 q.2.1 q.2.2 (D.1 k) (D.2 k) := ⟨(fun k => (Classical.choose (hD k)).1, fun k => (Classical.choose (hD k)).2), fun k q hq => Classical.choose_spec (hD k) q hq⟩
  obtain ⟨ay, hy⟩ : ∃ ay : Nat → ClassId, ∀ (k : Nat) (ty : FieldType), ([.int, .long, .float, .double, .boolean, .object RX1, .object RX7] : List FieldType)[k]? = some ty → ArrOfT s (ay k) ty ∧ va_RA s (ay k) ty := ⟨fun k => Classical.choose (hy k), fun k ty hq => Classical.choose_spec (hy k) ty hq⟩
  have hK : va_K D pv_cl (pv_tys ay) s := ⟨hD, fun k q hq => by
    match k with
    | 0 => cases hq; exact hy 0 _ rfl
    | 1 => cases hq; exact hy 1 _ rfl
    | 2 => cases hq; exact hy 2 _ rfl
    | 3 => cases hq; exact hy 3 _ rfl
    | 4 => cases hq; exact hy 4 _ rfl
    | 5 => cases hq; exact hy 5 _ rfl
    | 6 => cases hq; exact hy 6 _ rfl
    | k + 7 => cases hq⟩
  have hA : ∀ a : Nat, a < s.heap.size → ¬ (s.heap.size ≤ a) := fun a h z => absurd h (by omega)
  have hBU : BU (fun q => s.heap.size ≤ q) s s.heap := by
    refine ⟨vx_Zqof (hts _ (List.mem_of_getElem? (i := 425) (by decide +kernel))) (hts _ (List.mem_of_getElem? (i := 68) (by decide +kernel))) (hgs _ (by decide +kernel)) hA, vx_Zqof (hts _ (List.mem_of_getElem? (i := 427) (by decide +kernel))) (hts _ (List.mem_of_getElem? (i := 68) (by decide +kernel))) (hgs _ (by decide +kernel)) hA, fun q hq => ?_, fun w hw => va_Nw.of (nb_on hw) (hts w (List.mem_filter.mp hw).1), va_AO.of (A := #[Value.ref b]) (hts _ (List.mem_of_getElem? (i := 89) (by decide +kernel))), va_AO.of (A := #[Value.ref b]) (hts _ (List.mem_of_getElem? (i := 113) (by decide +kernel)))⟩
    have h1 := hts _ (str_ok q hq)
    obtain ⟨k, cf, i, a, -, -, -, -, -, h6⟩ := Cond.stringRef_spec (hD 10 _ rfl).2.1 h1
    exact ⟨a, vk_R.of h1 h6⟩
  have LXx : LX ((p, l, e, room_1), (s, m, #[Value.ref b], below), (meth, c), (D, ay, (fun q => s.heap.size ≤ q), (fun _ => 0), 0), (b, L, xs), lw_Z below #[Value.ref b] s) :=
    ⟨⟨hx, hb, hown, hTB, hK, fun q hq => hq, hBU⟩, List.forall_mem_cons.mpr ⟨va_Nc.of (args := #[Value.ref b]) (hgs (Cond.not (.castable nIA nIB)) (by decide +kernel)), List.forall_mem_cons.mpr ⟨va_Nc.of (args := #[Value.ref b]) (hgs (Cond.not (.castable nIS nIB)) (by decide +kernel)), List.forall_mem_cons.mpr ⟨va_Nc.of (args := #[Value.ref b]) (hgs (Cond.not (.castable nIB nIA)) (by decide +kernel)), List.forall_mem_cons.mpr ⟨va_Nc.of (args := #[Value.ref b]) (hgs (Cond.not (.castable nIS nIA)) (by decide +kernel)), List.forall_mem_cons.mpr ⟨va_Nc.of (args := #[Value.ref b]) (hgs (Cond.not (.castable nNS nIB)) (by decide +kernel)), List.forall_mem_cons.mpr ⟨va_Nc.of (args := #[Value.ref b]) (hgs (Cond.not (.castable nIS nNS)) (by decide +kernel)), List.forall_mem_cons.mpr ⟨va_Nc.of (args := #[Value.ref b]) (hgs (Cond.not (.castable nIB nIS)) (by decide +kernel)), List.forall_mem_cons.mpr ⟨va_Nc.of (args := #[Value.ref b]) (hgs (Cond.not (.castable nAR nIA)) (by decide +kernel)), List.forall_mem_cons.mpr ⟨va_Nc.of (args := #[Value.ref b]) (hgs (Cond.not (.castable nAR nIS)) (by decide +kernel)), List.forall_mem_cons.mpr ⟨va_Nc.of (args := #[Value.ref b]) (hgs (Cond.not (.castable nAR nIB)) (by decide +kernel)), fun _ h => absurd h List.not_mem_nil⟩⟩⟩⟩⟩⟩⟩⟩⟩⟩, rfl, hml, hst, hX, hbl, hA b hbl, hL⟩
  generalize hxx : (((p, l, e, room_1), (s, m, #[Value.ref b], below), (meth, c), (D, ay, (fun q => s.heap.size ≤ q), (fun _ => 0), 0), (b, L, xs), lw_Z below #[Value.ref b] s) : Cx) = x9 at LXx
  have fin : ∀ (cs sl : Nat) (lv : List Value) (S : pv_M), cs ≤ 603072 → sl ≤ 7178346 → GG x9 106 cs sl lv [] S 2534 := by
    intro cs sl lv S hc hs
    refine n_iconst LXx.C 1 dL_law_2534 ?_
    intro α H locs ls h1 h2
    subst hxx
    refine W.widen hc hs ?_
    refine va_forget (fun q hq => h1.2.2.1.2.2 q hq) ?_
    exact lw_ret (d0 := s.drawn) (Drawn.sameBut.refl s.drawn lw_cs) hx hb hr hlocks dL_law_2535
  have key := lw_pro LXx (by rw [← hxx]) (lw_loop LXx fin (xL x9 / 5) 0 106 23267 iS (by omega) i_inv (by have := LXx.n; omega) (by have := LXx.n; omega))
  subst hxx
  have hl := lv_entry [Value.ref b] (n := 9) (Nat.le_of_ble_eq_true rfl)
  rw [lg_entry_eq]
  generalize (lg_sl [Value.ref b] ++ List.replicate (9 - (lg_sl [Value.ref b]).length) Slot.unset).toArray = ls at hl ⊢
  refine key (fun _ => 0) s.heap [] ls ⟨fun k q hq => by simp [pv_wd] at hq, ⟨fun i j p q hp => by simp [pv_wd] at hp, fun k q hq => by simp [pv_wd] at hq⟩, va_S.rf, fun i hi => absurd hi (Nat.not_lt_zero i), fun i hi => absurd hi (Nat.not_lt_zero i)⟩ ⟨hl.1.trans hml.symm, hl.2.1, fun i v hi hv => ?_⟩
  match i with
  | 0 =>
    cases hi
    exact hl.2.2 (0, Value.ref b) (by simp [lv_args])
  | 1 => cases hi; exact absurd rfl hv
  | 2 => cases hi; exact absurd rfl hv
  | 3 => cases hi; exact absurd rfl hv
  | 4 => cases hi; exact absurd rfl hv
  | 5 => cases hi; exact absurd rfl hv
  | 6 => cases hi; exact absurd rfl hv
  | 7 => cases hi; exact absurd rfl hv
  | 8 => cases hi; exact absurd rfl hv
  | k + 9 => cases hi
