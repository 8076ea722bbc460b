theorem CSt.run {S S' : pv_M} {A : Ab} (h : CSt S A) (g2 : FR kM S S') (g3 : GS S') (g4 : KX S') : CSt S' A ∧ FR cC S S' := ⟨h.frP g2 (fun r z => Or.inl ⟨by have := z.1; omega, by have := z.2; omega⟩) g3 g4 (h.2.2.1.keepR g2 (by decide)), g2.mono (fun r z => by have := z.2; show r ≤ 74; omega)⟩
theorem nI_xN (v : Int32) : v = nI (xN_ v) := by
  apply Int32.toBitVec_inj.mp
  apply BitVec.eq_of_toNat_eq
  rw [pk_tn (xN_lt v)]
/-- an automaton whatever it holds -/
theorem AutoAt.any {S : pv_M} {a t : Nat} (h1 : pv_sh a = .inl 1) (h2 : a < 106) (h3 : pv_sh t = .inr (0, 18)) (h4 : t < 106) (h5 : mR S a 1 = some t) : AutoAt S a t (xN_ (mI S a 0)) (fun j => xN_ (mI S t j)) (xN_ (mI S a 2)) := ⟨h1, h2, h3, h4, h5, nI_xN _, nI_xN _, fun _ _ => nI_xN _⟩
abbrev d8 (A : Ab) (a : Nat) : Nat → Nat → Nat := fun c q => rT A a (c * 3 + q)
abbrev a8 (A : Ab) (a : Nat) : Nat → Bool := fun c => (rF A a).testBit c
abbrev R8 (A : Ab) (a : Nat) : List Nat := bfsF (d8 A a) 6 0 [0]
theorem R8_len {A : Ab} {a : Nat} (hg : gdR (A.1.1 a)) : (R8 A a).length ≤ 6 := bf_len (Dm := fun c => c < rN A a) (fun c h => Nat.lt_of_lt_of_le h hg.2.1) (fun c q h hq => hg.2.2.1 _ (by show c * 3 + q < (A.1.1 a).1 * 3; have h : c < (A.1.1 a).1 := h; omega)) hg.1

set_option maxRecDepth 100000 in
theorem c_size (l : Launch) {S : pv_M} {A : Ab} (hC : CSt S A) {j : Nat} (hj : j < 3) (gj : gdR (A.1.1 j)) : mt l MX11_size 106 [.ref 0, .int (nI (j))] S (fun v S' => v = some (.int (nI (cM (d8 A j) (a8 A j) (bf (d8 A j) 0)))) ∧ CSt S' A ∧ FR cC S S') := by
  refine mt_of (by decide) (Nat.le_of_ble_eq_true rfl) ?_
  intro x hl hR hmL C E
  show GG x 106 0 0 [.ref 0, .int (nI (j))] [] S 0
  have hS := hC.1
  have hA0 := hC.2.2.2.1 j hj
  refine g_iload_n C dX11_size_0 rfl ?_
  refine g_callS C (k_checkRegister _ hj) so_X11_88 dX11_size_1 rfl rfl (rm_ok (M' := MX11_size) hR (by decide)) (Nat.le_of_ble_eq_true rfl) (fun v9 S9 h9 => ?_)
  obtain ⟨rfl, h9⟩ := h9
  refine g_S S h9 ?_
  refine g_n0 [] rfl rfl rfl ?_
  refine g_aload_n C dX11_size_4 rfl ?_
  refine g_getR C fo_X11_77 dX11_size_5 rfl (by decide) (fun _ => rfl) (gs_0_6 hS) ?_
  refine g_aload_n C dX11_size_8 rfl ?_
  refine g_getR C fo_X11_11 dX11_size_9 rfl (by decide) (fun _ => rfl) (gs_0_0 hS) ?_
  refine g_iload_n C dX11_size_12 rfl ?_
  refine g_aald C dX11_size_13 rfl (Or.inl rfl) (by decide) (by omega) rfl (hS.reg hj) ?_
  refine g_callV C (As := [.ref (53 + 4 * j)]) (c_run (mach_reg _ hA0 (fun z => absurd z.2 (by omega)) (fun z => absurd z.2 (by omega)) gj.1 gj.2.1 gj.2.2.1 gj.2.2.2) hA0 hS hC.2.1) vo_X11_151 dX11_size_14 rfl rfl (by decide) rfl (rm_ok (M' := MX11_size) hR (by decide)) (Nat.le_of_ble_eq_true rfl) (fun v9 S9 h9 => ?_)
  obtain ⟨rfl, g1, g2, g3, g4⟩ := h9
  obtain ⟨hC9, hF9⟩ := hC.run g2 g3 g4
  have hT := tie_8 gj g1.1.2.2.2.1
  refine g_n0 [.int (nI (cM (d8 A j) (a8 A j) (R8 A j)))] rfl rfl rfl ?_
  exact g_iret C E dX11_size_17 (by rw [hR]; decide) (by rw [hR]; decide) ⟨by rw [hT.2.2.2.2.2], hC9, hF9⟩

set_option maxRecDepth 100000 in
theorem c_minimize (l : Launch) {S : pv_M} {A : Ab} (hC : CSt S A) {j : Nat} (hj : j < 3) (gj : gdR (A.1.1 j)) : mt l MX11_minimize 106 [.ref 0, .int (nI (j))] S (fun v S' => ∃ F', F' < 64 ∧ sF (d8 A j) (a8 A j) (bf (d8 A j) 0) F' ∧ v = some (.int (nI (cM (d8 A j) (a8 A j) (bf (d8 A j) 0)))) ∧ CSt S' (setR A j (sR (d8 A j) (a8 A j) (bf (d8 A j) 0) F')) ∧ FR cC S S') := by
  refine mt_of (by decide) (Nat.le_of_ble_eq_true rfl) ?_
  intro x hl hR hmL C E
  show GG x 106 0 0 [.ref 0, .int (nI (j))] [] S 0
  have hS := hC.1
  have hA0 := hC.2.2.2.1 j hj
  have hc6 : cM (d8 A j) (a8 A j) (R8 A j) ≤ 6 := Nat.le_trans cM_le (R8_len gj)
  refine g_iload_n C dX11_minimize_0 rfl ?_
  refine g_callS C (k_checkRegister _ hj) so_X11_88 dX11_minimize_1 rfl rfl (rm_ok (M' := MX11_minimize) hR (by decide)) (Nat.le_of_ble_eq_true rfl) (fun v9 S9 h9 => ?_)
  obtain ⟨rfl, h9⟩ := h9
  refine g_S S h9 ?_
  refine g_n0 [] rfl rfl rfl ?_
  refine g_aload_n C dX11_minimize_4 rfl ?_
  refine g_getR C fo_X11_77 dX11_minimize_5 rfl (by decide) (fun _ => rfl) (gs_0_6 hS) ?_
  refine g_aload_n C dX11_minimize_8 rfl ?_
  refine g_getR C fo_X11_11 dX11_minimize_9 rfl (by decide) (fun _ => rfl) (gs_0_0 hS) ?_
  refine g_iload_n C dX11_minimize_12 rfl ?_
  refine g_aald C dX11_minimize_13 rfl (Or.inl rfl) (by decide) (by omega) rfl (hS.reg hj) ?_
  refine g_callV C (As := [.ref (53 + 4 * j)]) (c_run (mach_reg _ hA0 (fun z => absurd z.2 (by omega)) (fun z => absurd z.2 (by omega)) gj.1 gj.2.1 gj.2.2.1 gj.2.2.2) hA0 hS hC.2.1) vo_X11_151 dX11_minimize_14 rfl rfl (by decide) rfl (rm_ok (M' := MX11_minimize) hR (by decide)) (Nat.le_of_ble_eq_true rfl) (fun v9 S9 h9 => ?_)
  obtain ⟨rfl, g1, g2, g3, g4⟩ := h9
  obtain ⟨hC9, hF9⟩ := hC.run g2 g3 g4
  have hT := tie_8 gj g1.1.2.2.2.1
  refine g_n0 [.int (nI (cM (d8 A j) (a8 A j) (R8 A j)))] rfl rfl rfl ?_
  refine g_pop C dX11_minimize_17 rfl ?_
  refine g_aload_n C dX11_minimize_18 rfl ?_
  refine g_getR C fo_X11_77 dX11_minimize_19 rfl (by decide) (fun _ => rfl) (gs_0_6 g3) ?_
  refine g_aload_n C dX11_minimize_22 rfl ?_
  refine g_getR C fo_X11_11 dX11_minimize_23 rfl (by decide) (fun _ => rfl) (gs_0_0 g3) ?_
  refine g_iload_n C dX11_minimize_26 rfl ?_
  refine g_aald C dX11_minimize_27 rfl (Or.inl rfl) (by decide) (by omega) rfl (g3.reg hj) ?_
  refine g_callV C (As := [.ref (53 + 4 * j)]) (c_store (hC9.2.2.2.1 j hj) (fun z => absurd z.2 (by omega)) (fun z => absurd z.2 (by omega)) g1 hc6) vo_X11_155 dX11_minimize_28 rfl rfl (by decide) rfl (rm_ok (M' := MX11_minimize) hR (by decide)) (Nat.le_of_ble_eq_true rfl) (fun v9 S8 h9 => ?_)
  obtain ⟨rfl, q2, F9, q3, q4, q5⟩ := h9
  have hS8 := g3.fn q2
  have g48 := g4.of (congrFun q2.1 29)
  refine g_n0 [] rfl rfl rfl ?_
  refine g_aload_n C dX11_minimize_31 rfl ?_
  refine g_getR C fo_X11_11 dX11_minimize_32 rfl (by decide) (fun _ => rfl) (gs_0_0 hS8) ?_
  refine g_iload_n C dX11_minimize_35 rfl ?_
  refine g_aald C dX11_minimize_36 rfl (Or.inl rfl) (by decide) (by omega) rfl (hS8.reg hj) ?_
  refine g_getI C fo_X11_117 dX11_minimize_37 (hC.2.2.2.1 j hj).1 (hC.2.2.2.1 j hj).2.1 (fun _ => rfl) q5.2.2.2.2.2.1 ?_
  exact g_iret C E dX11_minimize_40 (by rw [hR]; decide) (by rw [hR]; decide) ⟨F9, q3, tied_sF hT q4, by rw [hT.2.2.2.2.2], by
    rw [tied_sR hT F9]
    exact hC9.setR hj q2.fr (fun r z => Or.inr z) hS8 g48 (hC9.2.2.1.keepR q2.fr (fun z => by rcases z with z | z <;> omega)) q5, hF9.tr (q2.fr.mono (fun r z => by rcases z with z | z <;> (show r ≤ 74; omega)))⟩

set_option maxRecDepth 100000 in
theorem c_quotientOfWord (l : Launch) {S : pv_M} {A : Ab} (hC : CSt S A) {j : Nat} (hj : j < 3) (gj : gdR (A.1.1 j)) (hL : ∀ i, wL A i < 3) : mt l MX11_quotientOfWord 106 [.ref 0, .int (nI (j))] S (fun v S' => v = some (.int (nI (kM_ (d8 A j) (a8 A j) (bf (d8 A j) 0) (ndA (nxt (d8 A j) (bf (d8 A j) 0)) (wL A) (wM A))))) ∧ CSt S' A ∧ FR cC S S') := by
  refine mt_of (by decide) (Nat.le_of_ble_eq_true rfl) ?_
  intro x hl hR hmL C E
  show GG x 106 0 0 [.ref 0, .int (nI (j))] [] S 0
  have hS := hC.1
  have hA0 := hC.2.2.2.1 j hj
  have hc6 : cM (d8 A j) (a8 A j) (R8 A j) ≤ 6 := Nat.le_trans cM_le (R8_len gj)
  refine g_iload_n C dX11_quotientOfWord_0 rfl ?_
  refine g_callS C (k_checkRegister _ hj) so_X11_88 dX11_quotientOfWord_1 rfl rfl (rm_ok (M' := MX11_quotientOfWord) hR (by decide)) (Nat.le_of_ble_eq_true rfl) (fun v9 S9 h9 => ?_)
  obtain ⟨rfl, h9⟩ := h9
  refine g_S S h9 ?_
  refine g_n0 [] rfl rfl rfl ?_
  refine g_aload_n C dX11_quotientOfWord_4 rfl ?_
  refine g_getR C fo_X11_77 dX11_quotientOfWord_5 rfl (by decide) (fun _ => rfl) (gs_0_6 hS) ?_
  refine g_aload_n C dX11_quotientOfWord_8 rfl ?_
  refine g_getR C fo_X11_11 dX11_quotientOfWord_9 rfl (by decide) (fun _ => rfl) (gs_0_0 hS) ?_
  refine g_iload_n C dX11_quotientOfWord_12 rfl ?_
  refine g_aald C dX11_quotientOfWord_13 rfl (Or.inl rfl) (by decide) (by omega) rfl (hS.reg hj) ?_
  refine g_callV C (As := [.ref (53 + 4 * j)]) (c_run (mach_reg _ hA0 (fun z => absurd z.2 (by omega)) (fun z => absurd z.2 (by omega)) gj.1 gj.2.1 gj.2.2.1 gj.2.2.2) hA0 hS hC.2.1) vo_X11_151 dX11_quotientOfWord_14 rfl rfl (by decide) rfl (rm_ok (M' := MX11_quotientOfWord) hR (by decide)) (Nat.le_of_ble_eq_true rfl) (fun v9 S9 h9 => ?_)
  obtain ⟨rfl, g1, g2, g3, g4⟩ := h9
  obtain ⟨hC9, hF9⟩ := hC.run g2 g3 g4
  have hT := tie_8 gj g1.1.2.2.2.1
  refine g_n0 [.int (nI (cM (d8 A j) (a8 A j) (R8 A j)))] rfl rfl rfl ?_
  refine g_pop C dX11_quotientOfWord_17 rfl ?_
  refine g_aload_n C dX11_quotientOfWord_18 rfl ?_
  refine g_getR C fo_X11_77 dX11_quotientOfWord_19 rfl (by decide) (fun _ => rfl) (gs_0_6 g3) ?_
  refine g_aload_n C dX11_quotientOfWord_22 rfl ?_
  refine g_getR C fo_X11_60 dX11_quotientOfWord_23 rfl (by decide) (fun _ => rfl) (gs_0_11 g3) ?_
  refine g_callV C (As := [.ref 19]) (c_store (AutoAt.any rfl (by decide) rfl (by decide) (gs_19_1 g3)) (fun z => absurd z.2 (by omega)) (fun z => absurd z.2 (by omega)) g1 hc6) vo_X11_155 dX11_quotientOfWord_26 rfl rfl (by decide) rfl (rm_ok (M' := MX11_quotientOfWord) hR (by decide)) (Nat.le_of_ble_eq_true rfl) (fun v9 S8 h9 => ?_)
  obtain ⟨rfl, q2, F9, q3, q4, q5⟩ := h9
  have hS8 := g3.fn q2
  have g48 := g4.of (congrFun q2.1 29)
  have hC8 : CSt S8 A := hC9.frP q2.fr (fun r z => Or.inl (by rcases z with z | z <;> omega)) hS8 g48 (hC9.2.2.1.keepR q2.fr (by decide))
  refine g_n0 [] rfl rfl rfl ?_
  refine g_aload_n C dX11_quotientOfWord_29 rfl ?_
  refine g_getR C fo_X11_60 dX11_quotientOfWord_30 rfl (by decide) (fun _ => rfl) (gs_0_11 hS8) ?_
  refine g_aload_n C dX11_quotientOfWord_33 rfl ?_
  refine g_getR C fo_X11_21 dX11_quotientOfWord_34 rfl (by decide) (fun _ => rfl) (gs_0_2 hS8) ?_
  refine g_callV C (As := [.ref 3]) (c_X1_stateAfter _ q5 hC8.2.2.2.2.1 (fun k => Nat.lt_of_lt_of_le (stA_lt (cF_pos g1.k0) hc6 (mnT_lt g1.n) hL k) hc6) (fun j _ => hL j)) vo_X11_147 dX11_quotientOfWord_37 rfl rfl (by decide) rfl (rm_ok (M' := MX11_quotientOfWord) hR (by decide)) (Nat.le_of_ble_eq_true rfl) (fun v9 S9 h9 => ?_)
  obtain ⟨rfl, h9⟩ := h9
  refine g_S S8 h9 ?_
  refine g_n0 [.int (nI (stA (mnT (R8 A j).length (nxt (d8 A j) (R8 A j)) (kM_ (d8 A j) (a8 A j) (R8 A j)) (cM (d8 A j) (a8 A j) (R8 A j))) (wL A) 0 (wM A)))] rfl rfl rfl ?_
  exact g_iret C E dX11_quotientOfWord_40 (by rw [hR]; decide) (by rw [hR]; decide) ⟨by
    have hk7 : (R8 A j).length ≤ 740 := by have := R8_len gj; omega
    have e1 := mnT_st g1.k0 hk7 g1.n (ac := fun i => a8 A j ((R8 A j).getD i 0)) hL (wM A)
    have e2 := ndA_cong g1.k0 g1.n hT.2.2.1 hL (wM A)
    rw [e2, hT.2.2.2.2.1 _ (ndA_lt g1.k0 g1.n hL _)]
    exact congrArg (fun z => some (Value.int (nI z))) e1, hC8, hF9.tr (q2.fr.mono (fun r z => by rcases z with z | z <;> (show r ≤ 74; omega)))⟩

set_option maxRecDepth 100000 in
theorem c_X9_prepare (l : Launch) {S : pv_M} {a t n G : Nat} {T : Nat → Nat} (hS : GS S) (hA : AutoAt S a t n T G) (ha : a ≠ 16 ∧ t ≠ 16) (h6 : n ≤ 6) (hT : ∀ i, i < n * 3 → T i < n) : mt l MX9_prepare 106 [.ref 16, .ref a] S (fun v S' => v = none ∧ PSr n G T S' ∧ FN (fun r => r = 16 ∨ r = 18) S S') := by
  refine mt_of (by decide) (Nat.le_of_ble_eq_true rfl) ?_
  intro x hl hR hmL C E
  show GG x 106 0 0 [.ref 16, .ref a] [] S 0
  refine g_aload_n C dX9_prepare_0 rfl ?_
  refine g_aload_n C dX9_prepare_1 rfl ?_
  refine g_getI C fo_X9_22 dX9_prepare_2 hA.1 hA.2.1 (fun _ => rfl) hA.2.2.2.2.2.2.1 ?_
  refine g_putI C fo_X9_9 dX9_prepare_5 rfl (by decide) rfl ?_
  refine g_aload_n C dX9_prepare_8 rfl ?_
  refine g_getR C fo_X9_18 dX9_prepare_9 rfl (by decide) (fun _ => rfl) (gs_16_1 hS) ?_
  refine g_aload_n C dX9_prepare_12 rfl ?_
  refine g_callV C (As := [.ref a]) (c_X8_fillForward _ (p := 17) (v := 18) ⟨rfl, by decide, rfl, by decide, gs_17_0 hS⟩ (hA.keep (P := fun r => r = 16) (FN.wI rfl) ha.1 ha.2) h6 (fun j hj => Nat.lt_of_lt_of_le (hT j hj) h6)) vo_X9_25 dX9_prepare_13 rfl rfl (by decide) rfl (rm_ok (M' := MX9_prepare) hR (by decide)) (Nat.le_of_ble_eq_true rfl) (fun v9 S9 h9 => ?_)
  obtain ⟨rfl, g1, g2, g3⟩ := h9
  refine g_n0 [] rfl rfl rfl ?_
  exact g_vret C E dX9_prepare_16 (by rw [hR]; decide) (by rw [hR]; decide) ⟨rfl, ⟨by rw [(g2.2 16 (by decide)).1]; exact rI_s, by rw [g2.1]; exact gs_16_1 hS, g1, g3⟩, (FN.wI (Or.inl rfl)).tr (g2.mono (fun r z => Or.inr z))⟩

set_option maxRecDepth 100000 in
theorem c_starSize (l : Launch) {S : pv_M} {A : Ab} (hC : CSt S A) {j : Nat} (hj : j < 3) (gj : gdR (A.1.1 j)) : mt l MX11_starSize 106 [.ref 0, .int (nI (j))] S (fun v S' => v = some (.int (nI (cM (fun c q => stM A j c q) (a5' A j) (bf (fun c q => stM A j c q) 64)))) ∧ CSt S' A ∧ FR cC S S') := by
  refine mt_of (by decide) (Nat.le_of_ble_eq_true rfl) ?_
  intro x hl hR hmL C E
  show GG x 106 0 0 [.ref 0, .int (nI (j))] [] S 0
  have hS := hC.1
  refine g_iload_n C dX11_starSize_0 rfl ?_
  refine g_callS C (k_checkRegister _ hj) so_X11_88 dX11_starSize_1 rfl rfl (rm_ok (M' := MX11_starSize) hR (by decide)) (Nat.le_of_ble_eq_true rfl) (fun v9 S9 h9 => ?_)
  obtain ⟨rfl, h9⟩ := h9
  refine g_S S h9 ?_
  refine g_n0 [] rfl rfl rfl ?_
  refine g_aload_n C dX11_starSize_4 rfl ?_
  refine g_getR C fo_X11_55 dX11_starSize_5 rfl (by decide) (fun _ => rfl) (gs_0_9 hS) ?_
  refine g_aload_n C dX11_starSize_8 rfl ?_
  refine g_getR C fo_X11_11 dX11_starSize_9 rfl (by decide) (fun _ => rfl) (gs_0_0 hS) ?_
  refine g_iload_n C dX11_starSize_12 rfl ?_
  refine g_aald C dX11_starSize_13 rfl (Or.inl rfl) (by decide) (by omega) rfl (hS.reg hj) ?_
  refine g_callV C (As := [.ref (53 + 4 * j)]) (c_X9_prepare _ hS (hC.2.2.2.1 j hj) ⟨by omega, by omega⟩ gj.2.1 gj.2.2.1) vo_X11_204 dX11_starSize_14 rfl rfl (by decide) rfl (rm_ok (M' := MX11_starSize) hR (by decide)) (Nat.le_of_ble_eq_true rfl) (fun v9 S7 h9 => ?_)
  obtain ⟨rfl, p1, p2⟩ := h9
  have hS7 := hS.fn p2
  have hC7 : CSt S7 A := hC.frP p2.fr (fun r z => Or.inl (by rcases z with z | z <;> omega)) hS7 (hC.2.1.of (congrFun p2.1 29)) (hC.2.2.1.of (congrFun p2.1 21))
  have hF7 : FR cC S S7 := p2.fr.mono (fun r z => by rcases z with z | z <;> (show r ≤ 74; omega))
  refine g_n0 [] rfl rfl rfl ?_
  refine g_aload_n C dX11_starSize_17 rfl ?_
  refine g_getR C fo_X11_77 dX11_starSize_18 rfl (by decide) (fun _ => rfl) (gs_0_6 hS7) ?_
  refine g_aload_n C dX11_starSize_21 rfl ?_
  refine g_getR C fo_X11_55 dX11_starSize_22 rfl (by decide) (fun _ => rfl) (gs_0_9 hS7) ?_
  refine g_callV C (As := [.ref 16]) (c_run (mach_sr _ gj.1 gj.2.1 gj.2.2.1 gj.2.2.2) p1 hS7 hC7.2.1) vo_X11_151 dX11_starSize_25 rfl rfl (by decide) rfl (rm_ok (M' := MX11_starSize) hR (by decide)) (Nat.le_of_ble_eq_true rfl) (fun v9 S9 h9 => ?_)
  obtain ⟨rfl, g1, g2, g3, g4⟩ := h9
  obtain ⟨hC9, hF9⟩ := hC7.run g2 g3 g4
  have hT := tie_5 gj g1.1.2.2.2.1
  refine g_n0 [.int (nI (cM (d5 A j) (a5 A j) (bfsF (d5 A j) 65 0 [64])))] rfl rfl rfl ?_
  exact g_iret C E dX11_starSize_28 (by rw [hR]; decide) (by rw [hR]; decide) ⟨by rw [hT.2.2.2.2.2], hC9, hF7.tr hF9⟩

set_option maxRecDepth 100000 in
theorem c_star (l : Launch) {S : pv_M} {A : Ab} (hC : CSt S A) {j : Nat} (hj : j < 3) (gj : gdR (A.1.1 j)) {t : Nat} (ht : t < 3) (hc5 : cM (fun c q => stM A j c q) (a5' A j) (bf (fun c q => stM A j c q) 64) ≤ 6) : mt l MX11_star 106 [.ref 0, .int (nI (j)), .int (nI (t))] S (fun v S' => ∃ F', F' < 64 ∧ sF (fun c q => stM A j c q) (a5' A j) (bf (fun c q => stM A j c q) 64) F' ∧ v = some (.int (nI (cM (fun c q => stM A j c q) (a5' A j) (bf (fun c q => stM A j c q) 64)))) ∧ CSt S' (setR A t (sR (fun c q => stM A j c q) (a5' A j) (bf (fun c q => stM A j c q) 64) F')) ∧ FR cC S S') := by
  refine mt_of (by decide) (Nat.le_of_ble_eq_true rfl) ?_
  intro x hl hR hmL C E
  show GG x 106 0 0 [.ref 0, .int (nI (j)), .int (nI (t))] [] S 0
  have hS := hC.1
  refine g_iload_n C dX11_star_0 rfl ?_
  refine g_callS C (k_checkRegister _ hj) so_X11_88 dX11_star_1 rfl rfl (rm_ok (M' := MX11_star) hR (by decide)) (Nat.le_of_ble_eq_true rfl) (fun v9 S9 h9 => ?_)
  obtain ⟨rfl, h9⟩ := h9
  refine g_S S h9 ?_
  refine g_n0 [] rfl rfl rfl ?_
  refine g_iload_n C dX11_star_4 rfl ?_
  refine g_callS C (k_checkRegister _ ht) so_X11_88 dX11_star_5 rfl rfl (rm_ok (M' := MX11_star) hR (by decide)) (Nat.le_of_ble_eq_true rfl) (fun v9 S9 h9 => ?_)
  obtain ⟨rfl, h9⟩ := h9
  refine g_S S h9 ?_
  refine g_n0 [] rfl rfl rfl ?_
  refine g_aload_n C dX11_star_8 rfl ?_
  refine g_getR C fo_X11_55 dX11_star_9 rfl (by decide) (fun _ => rfl) (gs_0_9 hS) ?_
  refine g_aload_n C dX11_star_12 rfl ?_
  refine g_getR C fo_X11_11 dX11_star_13 rfl (by decide) (fun _ => rfl) (gs_0_0 hS) ?_
  refine g_iload_n C dX11_star_16 rfl ?_
  refine g_aald C dX11_star_17 rfl (Or.inl rfl) (by decide) (by omega) rfl (hS.reg hj) ?_
  refine g_callV C (As := [.ref (53 + 4 * j)]) (c_X9_prepare _ hS (hC.2.2.2.1 j hj) ⟨by omega, by omega⟩ gj.2.1 gj.2.2.1) vo_X11_204 dX11_star_18 rfl rfl (by decide) rfl (rm_ok (M' := MX11_star) hR (by decide)) (Nat.le_of_ble_eq_true rfl) (fun v9 S7 h9 => ?_)
  obtain ⟨rfl, p1, p2⟩ := h9
  have hS7 := hS.fn p2
  have hC7 : CSt S7 A := hC.frP p2.fr (fun r z => Or.inl (by rcases z with z | z <;> omega)) hS7 (hC.2.1.of (congrFun p2.1 29)) (hC.2.2.1.of (congrFun p2.1 21))
  have hF7 : FR cC S S7 := p2.fr.mono (fun r z => by rcases z with z | z <;> (show r ≤ 74; omega))
  refine g_n0 [] rfl rfl rfl ?_
  refine g_aload_n C dX11_star_21 rfl ?_
  refine g_getR C fo_X11_77 dX11_star_22 rfl (by decide) (fun _ => rfl) (gs_0_6 hS7) ?_
  refine g_aload_n C dX11_star_25 rfl ?_
  refine g_getR C fo_X11_55 dX11_star_26 rfl (by decide) (fun _ => rfl) (gs_0_9 hS7) ?_
  refine g_callV C (As := [.ref 16]) (c_run (mach_sr _ gj.1 gj.2.1 gj.2.2.1 gj.2.2.2) p1 hS7 hC7.2.1) vo_X11_151 dX11_star_29 rfl rfl (by decide) rfl (rm_ok (M' := MX11_star) hR (by decide)) (Nat.le_of_ble_eq_true rfl) (fun v9 S9 h9 => ?_)
  obtain ⟨rfl, g1, g2, g3, g4⟩ := h9
  obtain ⟨hC9, hF9⟩ := hC7.run g2 g3 g4
  have hT := tie_5 gj g1.1.2.2.2.1
  have hc6 : cM (d5 A j) (a5 A j) (bfsF (d5 A j) 65 0 [64]) ≤ 6 := by rw [← hT.2.2.2.2.2]; exact hc5
  refine g_n0 [.int (nI (cM (d5 A j) (a5 A j) (bfsF (d5 A j) 65 0 [64])))] rfl rfl rfl ?_
  refine g_callS C (k_checkResult _ hc6) so_X11_207 dX11_star_32 rfl rfl (rm_ok (M' := MX11_star) hR (by decide)) (Nat.le_of_ble_eq_true rfl) (fun v9 S5 h9 => ?_)
  obtain ⟨rfl, h9⟩ := h9
  refine g_S S9 h9 ?_
  refine g_n0 [] rfl rfl rfl ?_
  refine g_aload_n C dX11_star_35 rfl ?_
  refine g_getR C fo_X11_77 dX11_star_36 rfl (by decide) (fun _ => rfl) (gs_0_6 g3) ?_
  refine g_aload_n C dX11_star_39 rfl ?_
  refine g_getR C fo_X11_11 dX11_star_40 rfl (by decide) (fun _ => rfl) (gs_0_0 g3) ?_
  refine g_iload_n C dX11_star_43 rfl ?_
  refine g_aald C dX11_star_44 rfl (Or.inl rfl) (by decide) (by omega) rfl (g3.reg ht) ?_
  refine g_callV C (As := [.ref (53 + 4 * t)]) (c_store (hC9.2.2.2.1 t ht) (fun z => absurd z.2 (by omega)) (fun z => absurd z.2 (by omega)) g1 hc6) vo_X11_155 dX11_star_45 rfl rfl (by decide) rfl (rm_ok (M' := MX11_star) hR (by decide)) (Nat.le_of_ble_eq_true rfl) (fun v9 S8 h9 => ?_)
  obtain ⟨rfl, q2, F9, q3, q4, q5⟩ := h9
  have hS8 := g3.fn q2
  have g48 := g4.of (congrFun q2.1 29)
  refine g_n0 [] rfl rfl rfl ?_
  refine g_aload_n C dX11_star_48 rfl ?_
  refine g_getR C fo_X11_11 dX11_star_49 rfl (by decide) (fun _ => rfl) (gs_0_0 hS8) ?_
  refine g_iload_n C dX11_star_52 rfl ?_
  refine g_aald C dX11_star_53 rfl (Or.inl rfl) (by decide) (by omega) rfl (hS8.reg ht) ?_
  refine g_getI C fo_X11_117 dX11_star_54 (hC.2.2.2.1 t ht).1 (hC.2.2.2.1 t ht).2.1 (fun _ => rfl) q5.2.2.2.2.2.1 ?_
  exact g_iret C E dX11_star_57 (by rw [hR]; decide) (by rw [hR]; decide) ⟨F9, q3, tied_sF hT q4, by rw [hT.2.2.2.2.2], by
    rw [tied_sR hT F9]
    exact hC9.setR ht q2.fr (fun r z => Or.inr z) hS8 g48 (hC9.2.2.1.keepR q2.fr (fun z => by rcases z with z | z <;> omega)) q5, (hF7.tr hF9).tr (q2.fr.mono (fun r z => by rcases z with z | z <;> (show r ≤ 74; omega)))⟩

set_option maxRecDepth 100000 in
theorem t_star_big {l : Launch} (hst : l.stackTraces = false) {S : pv_M} {A : Ab} (hC : CSt S A) {j : Nat} (hj : j < 3) (gj : gdR (A.1.1 j)) {t : Nat} (ht : t < 3) (hc5 : 6 < cM (fun c q => stM A j c q) (a5' A j) (bf (fun c q => stM A j c q) 64)) : mth l MX11_star.th 106 [.ref 0, .int (nI (j)), .int (nI (t))] S "java/lang/IllegalStateException" (fun S' => CSt S' A ∧ FR cC S S') := by
  refine mth_of hst (by decide) (Nat.le_of_ble_eq_true rfl) ?_
  intro x hl hR hmL C X
  have hst' : x.1.2.1.stackTraces = false := by rw [hl]; exact hst
  show GG x 106 0 0 [.ref 0, .int (nI (j)), .int (nI (t))] [] S 0
  have hS := hC.1
  refine g_iload_n C dX11_star_0 rfl ?_
  refine g_callS C (k_checkRegister _ hj) so_X11_88 dX11_star_1 rfl rfl (rm_ok (M' := MX11_star.th) hR (by decide)) (Nat.le_of_ble_eq_true rfl) (fun v9 S9 h9 => ?_)
  obtain ⟨rfl, h9⟩ := h9
  refine g_S S h9 ?_
  refine g_n0 [] rfl rfl rfl ?_
  refine g_iload_n C dX11_star_4 rfl ?_
  refine g_callS C (k_checkRegister _ ht) so_X11_88 dX11_star_5 rfl rfl (rm_ok (M' := MX11_star.th) hR (by decide)) (Nat.le_of_ble_eq_true rfl) (fun v9 S9 h9 => ?_)
  obtain ⟨rfl, h9⟩ := h9
  refine g_S S h9 ?_
  refine g_n0 [] rfl rfl rfl ?_
  refine g_aload_n C dX11_star_8 rfl ?_
  refine g_getR C fo_X11_55 dX11_star_9 rfl (by decide) (fun _ => rfl) (gs_0_9 hS) ?_
  refine g_aload_n C dX11_star_12 rfl ?_
  refine g_getR C fo_X11_11 dX11_star_13 rfl (by decide) (fun _ => rfl) (gs_0_0 hS) ?_
  refine g_iload_n C dX11_star_16 rfl ?_
  refine g_aald C dX11_star_17 rfl (Or.inl rfl) (by decide) (by omega) rfl (hS.reg hj) ?_
  refine g_callV C (As := [.ref (53 + 4 * j)]) (c_X9_prepare _ hS (hC.2.2.2.1 j hj) ⟨by omega, by omega⟩ gj.2.1 gj.2.2.1) vo_X11_204 dX11_star_18 rfl rfl (by decide) rfl (rm_ok (M' := MX11_star.th) hR (by decide)) (Nat.le_of_ble_eq_true rfl) (fun v9 S7 h9 => ?_)
  obtain ⟨rfl, p1, p2⟩ := h9
  have hS7 := hS.fn p2
  have hC7 : CSt S7 A := hC.frP p2.fr (fun r z => Or.inl (by rcases z with z | z <;> omega)) hS7 (hC.2.1.of (congrFun p2.1 29)) (hC.2.2.1.of (congrFun p2.1 21))
  have hF7 : FR cC S S7 := p2.fr.mono (fun r z => by rcases z with z | z <;> (show r ≤ 74; omega))
  refine g_n0 [] rfl rfl rfl ?_
  refine g_aload_n C dX11_star_21 rfl ?_
  refine g_getR C fo_X11_77 dX11_star_22 rfl (by decide) (fun _ => rfl) (gs_0_6 hS7) ?_
  refine g_aload_n C dX11_star_25 rfl ?_
  refine g_getR C fo_X11_55 dX11_star_26 rfl (by decide) (fun _ => rfl) (gs_0_9 hS7) ?_
  refine g_callV C (As := [.ref 16]) (c_run (mach_sr _ gj.1 gj.2.1 gj.2.2.1 gj.2.2.2) p1 hS7 hC7.2.1) vo_X11_151 dX11_star_29 rfl rfl (by decide) rfl (rm_ok (M' := MX11_star.th) hR (by decide)) (Nat.le_of_ble_eq_true rfl) (fun v9 S9 h9 => ?_)
  obtain ⟨rfl, g1, g2, g3, g4⟩ := h9
  obtain ⟨hC9, hF9⟩ := hC7.run g2 g3 g4
  have hT := tie_5 gj g1.1.2.2.2.1
  have hc6 : 6 < cM (d5 A j) (a5 A j) (bfsF (d5 A j) 65 0 [64]) := by rw [← hT.2.2.2.2.2]; exact hc5
  have hc9 : cM (d5 A j) (a5 A j) (bfsF (d5 A j) 65 0 [64]) ≤ 384 := Nat.le_trans cM_le g1.k9
  refine g_n0 [.int (nI (cM (d5 A j) (a5 A j) (bfsF (d5 A j) 65 0 [64])))] rfl rfl rfl ?_
  exact g_thrS C X (t_checkResult hst' hc6 (by omega)) so_X11_207 dX11_star_32 rfl rfl (rm_ok (M' := MX11_star.th) hR (by decide)) (Nat.le_of_ble_eq_true rfl) (fun S2 h2 => by rw [h2]; exact ⟨hC9, hF7.tr hF9⟩)

set_option maxRecDepth 100000 in
theorem t_size_r {l : Launch} (hst : l.stackTraces = false) {S : pv_M} {p : Int32} (h : badI p 3) : mth l MX11_size.th 106 [.ref 0, .int (p)] S "java/lang/IndexOutOfBoundsException" (fun S' => S' = S) := by
  refine mth_of hst (by decide) (Nat.le_of_ble_eq_true rfl) ?_
  intro x hl hR hmL C X
  have hst' : x.1.2.1.stackTraces = false := by rw [hl]; exact hst
  show GG x 106 0 0 [.ref 0, .int (p)] [] S 0
  refine g_iload_n C dX11_size_0 rfl ?_
  exact g_thrS C X (t_checkRegister hst' h) so_X11_88 dX11_size_1 rfl rfl (rm_ok (M' := MX11_size.th) hR (by decide)) (Nat.le_of_ble_eq_true rfl) (fun _ h => h)

set_option maxRecDepth 100000 in
theorem t_minimize_r {l : Launch} (hst : l.stackTraces = false) {S : pv_M} {p : Int32} (h : badI p 3) : mth l MX11_minimize.th 106 [.ref 0, .int (p)] S "java/lang/IndexOutOfBoundsException" (fun S' => S' = S) := by
  refine mth_of hst (by decide) (Nat.le_of_ble_eq_true rfl) ?_
  intro x hl hR hmL C X
  have hst' : x.1.2.1.stackTraces = false := by rw [hl]; exact hst
  show GG x 106 0 0 [.ref 0, .int (p)] [] S 0
  refine g_iload_n C dX11_minimize_0 rfl ?_
  exact g_thrS C X (t_checkRegister hst' h) so_X11_88 dX11_minimize_1 rfl rfl (rm_ok (M' := MX11_minimize.th) hR (by decide)) (Nat.le_of_ble_eq_true rfl) (fun _ h => h)

set_option maxRecDepth 100000 in
theorem t_quotientOfWord_r {l : Launch} (hst : l.stackTraces = false) {S : pv_M} {p : Int32} (h : badI p 3) : mth l MX11_quotientOfWord.th 106 [.ref 0, .int (p)] S "java/lang/IndexOutOfBoundsException" (fun S' => S' = S) := by
  refine mth_of hst (by decide) (Nat.le_of_ble_eq_true rfl) ?_
  intro x hl hR hmL C X
  have hst' : x.1.2.1.stackTraces = false := by rw [hl]; exact hst
  show GG x 106 0 0 [.ref 0, .int (p)] [] S 0
  refine g_iload_n C dX11_quotientOfWord_0 rfl ?_
  exact g_thrS C X (t_checkRegister hst' h) so_X11_88 dX11_quotientOfWord_1 rfl rfl (rm_ok (M' := MX11_quotientOfWord.th) hR (by decide)) (Nat.le_of_ble_eq_true rfl) (fun _ h => h)

set_option maxRecDepth 100000 in
theorem t_starSize_r {l : Launch} (hst : l.stackTraces = false) {S : pv_M} {p : Int32} (h : badI p 3) : mth l MX11_starSize.th 106 [.ref 0, .int (p)] S "java/lang/IndexOutOfBoundsException" (fun S' => S' = S) := by
  refine mth_of hst (by decide) (Nat.le_of_ble_eq_true rfl) ?_
  intro x hl hR hmL C X
  have hst' : x.1.2.1.stackTraces = false := by rw [hl]; exact hst
  show GG x 106 0 0 [.ref 0, .int (p)] [] S 0
  refine g_iload_n C dX11_starSize_0 rfl ?_
  exact g_thrS C X (t_checkRegister hst' h) so_X11_88 dX11_starSize_1 rfl rfl (rm_ok (M' := MX11_starSize.th) hR (by decide)) (Nat.le_of_ble_eq_true rfl) (fun _ h => h)

set_option maxRecDepth 100000 in
theorem t_star_r {l : Launch} (hst : l.stackTraces = false) {S : pv_M} {p : Int32} (h : badI p 3) {q : Int32} : mth l MX11_star.th 106 [.ref 0, .int (p), .int (q)] S "java/lang/IndexOutOfBoundsException" (fun S' => S' = S) := by
  refine mth_of hst (by decide) (Nat.le_of_ble_eq_true rfl) ?_
  intro x hl hR hmL C X
  have hst' : x.1.2.1.stackTraces = false := by rw [hl]; exact hst
  show GG x 106 0 0 [.ref 0, .int (p), .int (q)] [] S 0
  refine g_iload_n C dX11_star_0 rfl ?_
  exact g_thrS C X (t_checkRegister hst' h) so_X11_88 dX11_star_1 rfl rfl (rm_ok (M' := MX11_star.th) hR (by decide)) (Nat.le_of_ble_eq_true rfl) (fun _ h => h)

set_option maxRecDepth 100000 in
theorem t_star_t {l : Launch} (hst : l.stackTraces = false) {S : pv_M} {j : Nat} {p : Int32} (hj : j < 3) (h : badI p 3) : mth l MX11_star.th 106 [.ref 0, .int (nI (j)), .int (p)] S "java/lang/IndexOutOfBoundsException" (fun S' => S' = S) := by
  refine mth_of hst (by decide) (Nat.le_of_ble_eq_true rfl) ?_
  intro x hl hR hmL C X
  have hst' : x.1.2.1.stackTraces = false := by rw [hl]; exact hst
  show GG x 106 0 0 [.ref 0, .int (nI (j)), .int (p)] [] S 0
  refine g_iload_n C dX11_star_0 rfl ?_
  refine g_callS C (k_checkRegister _ hj) so_X11_88 dX11_star_1 rfl rfl (rm_ok (M' := MX11_star.th) hR (by decide)) (Nat.le_of_ble_eq_true rfl) (fun v9 S9 h9 => ?_)
  obtain ⟨rfl, h9⟩ := h9
  refine g_S S h9 ?_
  refine g_n0 [] rfl rfl rfl ?_
  refine g_iload_n C dX11_star_4 rfl ?_
  exact g_thrS C X (t_checkRegister hst' h) so_X11_88 dX11_star_5 rfl rfl (rm_ok (M' := MX11_star.th) hR (by decide)) (Nat.le_of_ble_eq_true rfl) (fun _ h => h)
