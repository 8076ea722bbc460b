abbrev bf (δ : Nat → Nat → Nat) (k0 : Nat) : List Nat := bfsF δ 741 0 [k0]
/-- the node behind the first letters of the word -/
def ndA (nx : Nat → Nat) (L : Nat → Nat) : Nat → Nat
  | 0 => 0
  | i + 1 => nx (ndA nx L i * 3 + L i)
theorem ndA_lt {k : Nat} {nx L : Nat → Nat} (h0 : 0 < k) (hn : ∀ p, p < 3 * k → nx p < k) (hL : ∀ i, L i < 3) : ∀ i, ndA nx L i < k
  | 0 => h0
  | i + 1 => hn _ (by have := ndA_lt h0 hn hL i; have := hL i; omega)

set_option maxRecDepth 100000 in
theorem m_size (l : Launch) {j : Nat} (hj : j < 3) {S : pv_M} {A : Ab} {k0 : Nat} {δ : Nat → Nat → Nat} {acc : Nat → Bool} {Dm : Nat → Prop} {X : pv_M → Prop} (hS : GS S) (hM : MSt S A) (hX : X S) (hMa : MMach l A 8 j j k0 δ acc Dm X) (hB : (bf δ k0).length ≤ 740) : mt l MX12_size 106 [.ref 75, .int (nI (j))] S (fun v S' => v = some (.int (nI (cM δ acc (bf δ k0)))) ∧ mI S' 75 0 = nI 0 ∧ MSt S' A ∧ FN mC S S') := by
  refine mt_of (by decide) (Nat.le_of_ble_eq_true rfl) ?_
  intro x hl hR hmL C E
  show GG x 106 0 0 [.ref 75, .int (nI (j))] [] S 0
  subst hl
  refine g_iload_n C dX12_size_0 rfl ?_
  refine g_callS C (k_isRegister _ hj) so_X12_106 dX12_size_1 rfl rfl (rm_ok (M' := MX12_size) hR (by decide)) (Nat.le_of_ble_eq_true rfl) (fun v9 S9 h9 => ?_)
  obtain ⟨rfl, h9⟩ := h9
  refine g_S S h9 ?_
  refine g_n0 [.int (bI (true))] rfl rfl rfl ?_
  refine b_if_ne C 13 dX12_size_4 (fun h4 => ?_) (fun h4 => absurd h4 (by decide))
  refine g_aload_n C dX12_size_13 rfl ?_
  refine n_bipush C 8 dX12_size_14 ?_
  refine g_iload_n C dX12_size_16 rfl ?_
  refine g_iload_n C dX12_size_17 rfl ?_
  refine g_callV C (As := [.int (nI (8)), .int (nI (j)), .int (nI (j))]) (m_makes hMa hS hM hX hB) vo_X12_231 dX12_size_18 rfl rfl (by decide) rfl (rm_ok (M' := MX12_size) hR (by decide)) (Nat.le_of_ble_eq_true rfl) (fun v9 SM h9 => ?_)
  obtain ⟨rfl, g1, g2⟩ := h9
  replace g1 : MkF δ acc Dm SM (bf δ k0) := g1
  have hS9 : GS SM := hS.fn g2.1
  have hM9 : MSt SM A := hM.fs g2.fs
  have hc9 : cM δ acc (bf δ k0) ≤ 740 := g1.c9
  refine g_n0 [] rfl rfl rfl ?_
  refine g_aload_n C dX12_size_21 rfl ?_
  refine g_aload_n C dX12_size_22 rfl ?_
  refine g_getI C (a := (nI (cM δ acc (bf δ k0)))) fo_X12_222 dX12_size_23 rfl (by decide) (fun _ => rfl) g1.2.2.2.2.2.2.2 ?_
  refine g_callV C (As := [.int (nI (cM δ acc (bf δ k0)))]) (k_done _ hS9) vo_X12_132 dX12_size_26 rfl rfl (by decide) rfl (rm_ok (M' := MX12_size) hR (by decide)) (Nat.le_of_ble_eq_true rfl) (fun v9 S9 h9 => ?_)
  obtain ⟨rfl, h9⟩ := h9
  refine g_S (wI SM 75 (va_up (mI SM 75) 0 (nI 0))) h9 ?_
  refine g_n0 [.int (nI (cM δ acc (bf δ k0)))] rfl rfl rfl ?_
  exact g_iret C E dX12_size_29 (by rw [hR]; decide) (by rw [hR]; decide) ⟨rfl, th_0, hM9.fs th_fs, g2.fs.mC.tr th_fs.mC⟩

set_option maxRecDepth 100000 in
theorem m_minimize (l : Launch) {j : Nat} (hj : j < 3) {S : pv_M} {A : Ab} {k0 : Nat} {δ : Nat → Nat → Nat} {acc : Nat → Bool} {Dm : Nat → Prop} {X : pv_M → Prop} (hS : GS S) (hM : MSt S A) (hX : X S) (hMa : MMach l A 8 j j k0 δ acc Dm X) (hB : (bf δ k0).length ≤ 740) (hc6 : cM δ acc (bf δ k0) ≤ 6) : mt l MX12_minimize 106 [.ref 75, .int (nI (j))] S (fun v S' => v = some (.int (nI (cM δ acc (bf δ k0)))) ∧ mI S' 75 0 = nI 0 ∧ FN mC S S' ∧ ∀ F', sF δ acc (bf δ k0) F' → MSt S' (setR A j (sR δ acc (bf δ k0) F'))) := by
  refine mt_of (by decide) (Nat.le_of_ble_eq_true rfl) ?_
  intro x hl hR hmL C E
  show GG x 106 0 0 [.ref 75, .int (nI (j))] [] S 0
  subst hl
  refine g_iload_n C dX12_minimize_0 rfl ?_
  refine g_callS C (k_isRegister _ hj) so_X12_106 dX12_minimize_1 rfl rfl (rm_ok (M' := MX12_minimize) hR (by decide)) (Nat.le_of_ble_eq_true rfl) (fun v9 S9 h9 => ?_)
  obtain ⟨rfl, h9⟩ := h9
  refine g_S S h9 ?_
  refine g_n0 [.int (bI (true))] rfl rfl rfl ?_
  refine b_if_ne C 13 dX12_minimize_4 (fun h4 => ?_) (fun h4 => absurd h4 (by decide))
  refine g_aload_n C dX12_minimize_13 rfl ?_
  refine n_bipush C 8 dX12_minimize_14 ?_
  refine g_iload_n C dX12_minimize_16 rfl ?_
  refine g_iload_n C dX12_minimize_17 rfl ?_
  refine g_callV C (As := [.int (nI (8)), .int (nI (j)), .int (nI (j))]) (m_makes hMa hS hM hX hB) vo_X12_231 dX12_minimize_18 rfl rfl (by decide) rfl (rm_ok (M' := MX12_minimize) hR (by decide)) (Nat.le_of_ble_eq_true rfl) (fun v9 SM h9 => ?_)
  obtain ⟨rfl, g1, g2⟩ := h9
  replace g1 : MkF δ acc Dm SM (bf δ k0) := g1
  have hS9 : GS SM := hS.fn g2.1
  have hM9 : MSt SM A := hM.fs g2.fs
  have hc9 : cM δ acc (bf δ k0) ≤ 740 := g1.c9
  refine g_n0 [] rfl rfl rfl ?_
  refine g_aload_n C dX12_minimize_21 rfl ?_
  refine g_iload_n C dX12_minimize_22 rfl ?_
  refine g_callV C (As := [.int (nI (j))]) (m_stores hM9 hj g1 hc6) vo_X12_235 dX12_minimize_23 rfl rfl (by decide) rfl (rm_ok (M' := MX12_minimize) hR (by decide)) (Nat.le_of_ble_eq_true rfl) (fun v9 S8 h9 => ?_)
  obtain ⟨rfl, s1, s2, s3⟩ := h9
  refine g_n0 [.int (nI (cM δ acc (bf δ k0)))] rfl rfl rfl ?_
  exact g_iret C E dX12_minimize_26 (by rw [hR]; decide) (by rw [hR]; decide) ⟨rfl, s1, g2.fs.mC.tr s2, s3⟩

set_option maxRecDepth 100000 in
theorem m_size_r (l : Launch) {S : pv_M} {p : Int32} (hS : GS S) (h : badI p 3) : mt l MX12_size 106 [.ref 75, .int (p)] S (fun v S' => v = some (.int (nI 0)) ∧ S' = th S 1) := by
  refine mt_of (by decide) (Nat.le_of_ble_eq_true rfl) ?_
  intro x hl hR hmL C E
  show GG x 106 0 0 [.ref 75, .int (p)] [] S 0
  refine g_iload_n C dX12_size_0 rfl ?_
  refine g_callS C (k_isRegisterF _ h) so_X12_106 dX12_size_1 rfl rfl (rm_ok (M' := MX12_size) hR (by decide)) (Nat.le_of_ble_eq_true rfl) (fun v9 S9 h9 => ?_)
  obtain ⟨rfl, h9⟩ := h9
  refine g_S S h9 ?_
  refine g_n0 [.int (bI (false))] rfl rfl rfl ?_
  refine b_if_ne C 13 dX12_size_4 (fun h4 => absurd h4 (by decide)) (fun h4 => ?_)
  refine g_aload_n C dX12_size_7 rfl ?_
  refine n_iconst C 1 dX12_size_8 ?_
  refine g_callV C (As := [.int (nI (1))]) (k_fails _ hS) vo_X12_136 dX12_size_9 rfl rfl (by decide) rfl (rm_ok (M' := MX12_size) hR (by decide)) (Nat.le_of_ble_eq_true rfl) (fun v9 S9 h9 => ?_)
  obtain ⟨rfl, h9⟩ := h9
  refine g_S (wI S 75 (va_up (mI S 75) 0 (nI 1))) h9 ?_
  refine g_n0 [.int (nI (0))] rfl rfl rfl ?_
  exact g_iret C E dX12_size_12 (by rw [hR]; decide) (by rw [hR]; decide) ⟨rfl, rfl⟩

set_option maxRecDepth 100000 in
theorem m_minimize_r (l : Launch) {S : pv_M} {p : Int32} (hS : GS S) (h : badI p 3) : mt l MX12_minimize 106 [.ref 75, .int (p)] S (fun v S' => v = some (.int (nI 0)) ∧ S' = th S 1) := by
  refine mt_of (by decide) (Nat.le_of_ble_eq_true rfl) ?_
  intro x hl hR hmL C E
  show GG x 106 0 0 [.ref 75, .int (p)] [] S 0
  refine g_iload_n C dX12_minimize_0 rfl ?_
  refine g_callS C (k_isRegisterF _ h) so_X12_106 dX12_minimize_1 rfl rfl (rm_ok (M' := MX12_minimize) hR (by decide)) (Nat.le_of_ble_eq_true rfl) (fun v9 S9 h9 => ?_)
  obtain ⟨rfl, h9⟩ := h9
  refine g_S S h9 ?_
  refine g_n0 [.int (bI (false))] rfl rfl rfl ?_
  refine b_if_ne C 13 dX12_minimize_4 (fun h4 => absurd h4 (by decide)) (fun h4 => ?_)
  refine g_aload_n C dX12_minimize_7 rfl ?_
  refine n_iconst C 1 dX12_minimize_8 ?_
  refine g_callV C (As := [.int (nI (1))]) (k_fails _ hS) vo_X12_136 dX12_minimize_9 rfl rfl (by decide) rfl (rm_ok (M' := MX12_minimize) hR (by decide)) (Nat.le_of_ble_eq_true rfl) (fun v9 S9 h9 => ?_)
  obtain ⟨rfl, h9⟩ := h9
  refine g_S (wI S 75 (va_up (mI S 75) 0 (nI 1))) h9 ?_
  refine g_n0 [.int (nI (0))] rfl rfl rfl ?_
  exact g_iret C E dX12_minimize_12 (by rw [hR]; decide) (by rw [hR]; decide) ⟨rfl, rfl⟩

set_option maxRecDepth 100000 in
theorem m_quotientOfWord_r (l : Launch) {S : pv_M} {p : Int32} (hS : GS S) (h : badI p 3) : mt l MX12_quotientOfWord 106 [.ref 75, .int (p)] S (fun v S' => v = some (.int (nI 0)) ∧ S' = th S 1) := by
  refine mt_of (by decide) (Nat.le_of_ble_eq_true rfl) ?_
  intro x hl hR hmL C E
  show GG x 106 0 0 [.ref 75, .int (p), unk, unk] [] S 0
  refine g_iload_n C dX12_quotientOfWord_0 rfl ?_
  refine g_callS C (k_isRegisterF _ h) so_X12_106 dX12_quotientOfWord_1 rfl rfl (rm_ok (M' := MX12_quotientOfWord) hR (by decide)) (Nat.le_of_ble_eq_true rfl) (fun v9 S9 h9 => ?_)
  obtain ⟨rfl, h9⟩ := h9
  refine g_S S h9 ?_
  refine g_n0 [.int (bI (false))] rfl rfl rfl ?_
  refine b_if_ne C 13 dX12_quotientOfWord_4 (fun h4 => absurd h4 (by decide)) (fun h4 => ?_)
  refine g_aload_n C dX12_quotientOfWord_7 rfl ?_
  refine n_iconst C 1 dX12_quotientOfWord_8 ?_
  refine g_callV C (As := [.int (nI (1))]) (k_fails _ hS) vo_X12_136 dX12_quotientOfWord_9 rfl rfl (by decide) rfl (rm_ok (M' := MX12_quotientOfWord) hR (by decide)) (Nat.le_of_ble_eq_true rfl) (fun v9 S9 h9 => ?_)
  obtain ⟨rfl, h9⟩ := h9
  refine g_S (wI S 75 (va_up (mI S 75) 0 (nI 1))) h9 ?_
  refine g_n0 [.int (nI (0))] rfl rfl rfl ?_
  exact g_iret C E dX12_quotientOfWord_12 (by rw [hR]; decide) (by rw [hR]; decide) ⟨rfl, rfl⟩

set_option maxRecDepth 100000 in
theorem m_starSize_r (l : Launch) {S : pv_M} {p : Int32} (hS : GS S) (h : badI p 3) : mt l MX12_starSize 106 [.ref 75, .int (p)] S (fun v S' => v = some (.int (nI 0)) ∧ S' = th S 1) := by
  refine mt_of (by decide) (Nat.le_of_ble_eq_true rfl) ?_
  intro x hl hR hmL C E
  show GG x 106 0 0 [.ref 75, .int (p)] [] S 0
  refine g_iload_n C dX12_starSize_0 rfl ?_
  refine g_callS C (k_isRegisterF _ h) so_X12_106 dX12_starSize_1 rfl rfl (rm_ok (M' := MX12_starSize) hR (by decide)) (Nat.le_of_ble_eq_true rfl) (fun v9 S9 h9 => ?_)
  obtain ⟨rfl, h9⟩ := h9
  refine g_S S h9 ?_
  refine g_n0 [.int (bI (false))] rfl rfl rfl ?_
  refine b_if_ne C 13 dX12_starSize_4 (fun h4 => absurd h4 (by decide)) (fun h4 => ?_)
  refine g_aload_n C dX12_starSize_7 rfl ?_
  refine n_iconst C 1 dX12_starSize_8 ?_
  refine g_callV C (As := [.int (nI (1))]) (k_fails _ hS) vo_X12_136 dX12_starSize_9 rfl rfl (by decide) rfl (rm_ok (M' := MX12_starSize) hR (by decide)) (Nat.le_of_ble_eq_true rfl) (fun v9 S9 h9 => ?_)
  obtain ⟨rfl, h9⟩ := h9
  refine g_S (wI S 75 (va_up (mI S 75) 0 (nI 1))) h9 ?_
  refine g_n0 [.int (nI (0))] rfl rfl rfl ?_
  exact g_iret C E dX12_starSize_12 (by rw [hR]; decide) (by rw [hR]; decide) ⟨rfl, rfl⟩

set_option maxRecDepth 100000 in
theorem lp_qow {x : Cx} (hR : xR x = MX12_quotientOfWord.rm) (hmL : (xc x).maxLocals = MX12_quotientOfWord.nL) (C : BX x cX12_quotientOfWord RX12) {S9 : pv_M} {A : Ab} {j k0 : Nat} {δ : Nat → Nat → Nat} {acc : Nat → Bool} {Dm : Nat → Prop} (hS9 : GS S9) (hM9 : MSt S9 A) (g1 : MkF δ acc Dm S9 (bf δ k0)) (h12 : wM A ≤ 12) (hL : ∀ i, wL A i < 3) (kk : GG x 106 0 0 [.ref 75, .int (nI (j)), .int (nI (ndA (nxt δ (bf δ k0)) (wL A) (wM A))), .int (nI (wM A))] [] (S9) 55) : ∀ z i, i + z = wM A → GG x 106 0 0 [.ref 75, .int (nI (j)), .int (nI (ndA (nxt δ (bf δ k0)) (wL A) (i))), .int (nI (i))] [] (S9) 25 := by
  have hwm : wM A = A.1.2.1 := rfl
  have hl7 := g1.1.2.2.2.2
  intro z
  induction z with
  | zero =>
    intro i hz
    obtain rfl : wM A = i := by omega
    refine g_iload_n C dX12_quotientOfWord_25 rfl ?_
    refine g_aload_n C dX12_quotientOfWord_26 rfl ?_
    refine g_getI C (a := (nI (wM A))) fo_X12_146 dX12_quotientOfWord_27 rfl (by decide) (fun _ => rfl) hM9.2.1.1 ?_
    refine n_ic_ge C 55 dX12_quotientOfWord_30 (fun h30 => ?_) (fun h30 => absurd h30 (by omega))
    exact kk
  | succ z ih =>
    intro i hz
    have hnd := ndA_lt (L := wL A) g1.2.1 g1.2.2.2.2.2.2.1.2.2.1 hL i
    have hli := hL i
    have hli2 : A.1.2.2 i = wL A i := rfl
    refine g_iload_n C dX12_quotientOfWord_25 rfl ?_
    refine g_aload_n C dX12_quotientOfWord_26 rfl ?_
    refine g_getI C (a := (nI (wM A))) fo_X12_146 dX12_quotientOfWord_27 rfl (by decide) (fun _ => rfl) hM9.2.1.1 ?_
    refine n_ic_ge C 55 dX12_quotientOfWord_30 (fun h30 => absurd h30 (by omega)) (fun h30 => ?_)
    refine g_aload_n C dX12_quotientOfWord_33 rfl ?_
    refine g_getR C fo_X12_53 dX12_quotientOfWord_34 rfl (by decide) (fun _ => rfl) (gs_75_19 hS9) ?_
    refine n_iconst C 3 dX12_quotientOfWord_37 ?_
    refine g_iload_n C dX12_quotientOfWord_38 rfl ?_
    refine n_imul C dX12_quotientOfWord_39 ?_
    refine g_aload_n C dX12_quotientOfWord_40 rfl ?_
    refine g_getR C fo_X12_20 dX12_quotientOfWord_41 rfl (by decide) (fun _ => rfl) (gs_75_5 hS9) ?_
    refine g_iload_n C dX12_quotientOfWord_44 rfl ?_
    refine n_iald C (v := (nI (wL A i))) dX12_quotientOfWord_45 rfl (by decide) (hM9.2.1.2 i (by omega)) ?_ (by omega)
    refine n_iadd C dX12_quotientOfWord_46 ?_
    refine n_iald C (v := (nI (nxt δ (bf δ k0) (ndA (nxt δ (bf δ k0)) (wL A) (i) * 3 + wL A i)))) dX12_quotientOfWord_47 rfl (by decide) (g1.2.2.2.2.2.2.1.nx (a := ndA (nxt δ (bf δ k0)) (wL A) (i)) (q := wL A i) hnd (hL i) rfl) ?_ (by omega)
    refine g_istore_n C (by rw [hmL]; decide) dX12_quotientOfWord_48 [.ref 75, .int (nI (j)), .int (nI (nxt δ (bf δ k0) (ndA (nxt δ (bf δ k0)) (wL A) (i) * 3 + wL A i))), .int (nI (i))] rfl ?_
    refine n_iinc C (by rw [hmL]; decide) dX12_quotientOfWord_49 rfl (n_i1 _) [.ref 75, .int (nI (j)), .int (nI (nxt δ (bf δ k0) (ndA (nxt δ (bf δ k0)) (wL A) (i) * 3 + wL A i))), .int (nI (i + 1))] ?_
    refine g_goto C 25 dX12_quotientOfWord_52 (by decide) ?_
    exact ih (i + 1) (by omega)

set_option maxRecDepth 100000 in
theorem m_quotientOfWord (l : Launch) {j : Nat} (hj : j < 3) {S : pv_M} {A : Ab} {k0 : Nat} {δ : Nat → Nat → Nat} {acc : Nat → Bool} {Dm : Nat → Prop} {X : pv_M → Prop} (hS : GS S) (hM : MSt S A) (hX : X S) (hMa : MMach l A 8 j j k0 δ acc Dm X) (hB : (bf δ k0).length ≤ 740) (h12 : wM A ≤ 12) (hL : ∀ i, wL A i < 3) : mt l MX12_quotientOfWord 106 [.ref 75, .int (nI (j))] S (fun v S' => v = some (.int (nI (kM_ δ acc (bf δ k0) (ndA (nxt δ (bf δ k0)) (wL A) (wM A))))) ∧ mI S' 75 0 = nI 0 ∧ MSt S' A ∧ FN mC S S') := by
  refine mt_of (by decide) (Nat.le_of_ble_eq_true rfl) ?_
  intro x hl hR hmL C E
  show GG x 106 0 0 [.ref 75, .int (nI (j)), unk, unk] [] S 0
  subst hl
  refine g_iload_n C dX12_quotientOfWord_0 rfl ?_
  refine g_callS C (k_isRegister _ hj) so_X12_106 dX12_quotientOfWord_1 rfl rfl (rm_ok (M' := MX12_quotientOfWord) hR (by decide)) (Nat.le_of_ble_eq_true rfl) (fun v9 S9 h9 => ?_)
  obtain ⟨rfl, h9⟩ := h9
  refine g_S S h9 ?_
  refine g_n0 [.int (bI (true))] rfl rfl rfl ?_
  refine b_if_ne C 13 dX12_quotientOfWord_4 (fun h4 => ?_) (fun h4 => absurd h4 (by decide))
  refine g_aload_n C dX12_quotientOfWord_13 rfl ?_
  refine n_bipush C 8 dX12_quotientOfWord_14 ?_
  refine g_iload_n C dX12_quotientOfWord_16 rfl ?_
  refine g_iload_n C dX12_quotientOfWord_17 rfl ?_
  refine g_callV C (As := [.int (nI (8)), .int (nI (j)), .int (nI (j))]) (m_makes hMa hS hM hX hB) vo_X12_231 dX12_quotientOfWord_18 rfl rfl (by decide) rfl (rm_ok (M' := MX12_quotientOfWord) hR (by decide)) (Nat.le_of_ble_eq_true rfl) (fun v9 SM h9 => ?_)
  obtain ⟨rfl, g1, g2⟩ := h9
  replace g1 : MkF δ acc Dm SM (bf δ k0) := g1
  have hS9 : GS SM := hS.fn g2.1
  have hM9 : MSt SM A := hM.fs g2.fs
  have hc9 : cM δ acc (bf δ k0) ≤ 740 := g1.c9
  refine g_n0 [] rfl rfl rfl ?_
  refine n_iconst C 0 dX12_quotientOfWord_21 ?_
  refine g_istore_n C (by rw [hmL]; decide) dX12_quotientOfWord_22 [.ref 75, .int (nI (j)), .int (nI (0)), unk] rfl ?_
  refine n_iconst C 0 dX12_quotientOfWord_23 ?_
  refine g_istore_n C (by rw [hmL]; decide) dX12_quotientOfWord_24 [.ref 75, .int (nI (j)), .int (nI (0)), .int (nI (0))] rfl ?_
  have hnd : ndA (nxt δ (bf δ k0)) (wL A) (wM A) < (bf δ k0).length := ndA_lt (L := wL A) g1.2.1 g1.2.2.2.2.2.2.1.2.2.1 hL (wM A)
  have hl7 := g1.1.2.2.2.2
  refine lp_qow hR hmL C hS9 hM9 g1 h12 hL ?_ (wM A) 0 (Nat.zero_add _)
  refine g_aload_n C dX12_quotientOfWord_55 rfl ?_
  refine g_aload_n C dX12_quotientOfWord_56 rfl ?_
  refine g_getR C fo_X12_65 dX12_quotientOfWord_57 rfl (by decide) (fun _ => rfl) (gs_75_27 hS9) ?_
  refine g_iload_n C dX12_quotientOfWord_60 rfl ?_
  refine n_iald C (v := (nI (kM_ δ acc (bf δ k0) (ndA (nxt δ (bf δ k0)) (wL A) (wM A))))) dX12_quotientOfWord_61 rfl (by decide) (g1.2.2.2.2.2.2.1.2.2.2.1 _ hnd) ?_ (by omega)
  refine g_callV C (As := [.int (nI (kM_ δ acc (bf δ k0) (ndA (nxt δ (bf δ k0)) (wL A) (wM A))))]) (k_done _ hS9) vo_X12_132 dX12_quotientOfWord_62 rfl rfl (by decide) rfl (rm_ok (M' := MX12_quotientOfWord) hR (by decide)) (Nat.le_of_ble_eq_true rfl) (fun v9 S9 h9 => ?_)
  obtain ⟨rfl, h9⟩ := h9
  refine g_S (wI SM 75 (va_up (mI SM 75) 0 (nI 0))) h9 ?_
  refine g_n0 [.int (nI (kM_ δ acc (bf δ k0) (ndA (nxt δ (bf δ k0)) (wL A) (wM A))))] rfl rfl rfl ?_
  exact g_iret C E dX12_quotientOfWord_65 (by rw [hR]; decide) (by rw [hR]; decide) ⟨rfl, th_0, hM9.fs th_fs, g2.fs.mC.tr th_fs.mC⟩

set_option maxRecDepth 100000 in
theorem m_starSize (l : Launch) {j : Nat} (hj : j < 3) {S : pv_M} {A : Ab} {k0 : Nat} {δ : Nat → Nat → Nat} {acc : Nat → Bool} {Dm : Nat → Prop} {X : pv_M → Prop} (hS : GS S) (hM : MSt S A) (hX : X S) (hMa : MMach l A 5 j j k0 δ acc Dm X) (hB : (bf δ k0).length ≤ 740) : mt l MX12_starSize 106 [.ref 75, .int (nI (j))] S (fun v S' => v = some (.int (nI (cM δ acc (bf δ k0)))) ∧ mI S' 75 0 = nI 0 ∧ MSt S' A ∧ FN mC S S') := by
  refine mt_of (by decide) (Nat.le_of_ble_eq_true rfl) ?_
  intro x hl hR hmL C E
  show GG x 106 0 0 [.ref 75, .int (nI (j))] [] S 0
  subst hl
  refine g_iload_n C dX12_starSize_0 rfl ?_
  refine g_callS C (k_isRegister _ hj) so_X12_106 dX12_starSize_1 rfl rfl (rm_ok (M' := MX12_starSize) hR (by decide)) (Nat.le_of_ble_eq_true rfl) (fun v9 S9 h9 => ?_)
  obtain ⟨rfl, h9⟩ := h9
  refine g_S S h9 ?_
  refine g_n0 [.int (bI (true))] rfl rfl rfl ?_
  refine b_if_ne C 13 dX12_starSize_4 (fun h4 => ?_) (fun h4 => absurd h4 (by decide))
  refine g_aload_n C dX12_starSize_13 rfl ?_
  refine n_iconst C 5 dX12_starSize_14 ?_
  refine g_iload_n C dX12_starSize_15 rfl ?_
  refine g_iload_n C dX12_starSize_16 rfl ?_
  refine g_callV C (As := [.int (nI (5)), .int (nI (j)), .int (nI (j))]) (m_makes hMa hS hM hX hB) vo_X12_231 dX12_starSize_17 rfl rfl (by decide) rfl (rm_ok (M' := MX12_starSize) hR (by decide)) (Nat.le_of_ble_eq_true rfl) (fun v9 SM h9 => ?_)
  obtain ⟨rfl, g1, g2⟩ := h9
  replace g1 : MkF δ acc Dm SM (bf δ k0) := g1
  have hS9 : GS SM := hS.fn g2.1
  have hM9 : MSt SM A := hM.fs g2.fs
  have hc9 : cM δ acc (bf δ k0) ≤ 740 := g1.c9
  refine g_n0 [] rfl rfl rfl ?_
  refine g_aload_n C dX12_starSize_20 rfl ?_
  refine g_aload_n C dX12_starSize_21 rfl ?_
  refine g_getI C (a := (nI (cM δ acc (bf δ k0)))) fo_X12_222 dX12_starSize_22 rfl (by decide) (fun _ => rfl) g1.2.2.2.2.2.2.2 ?_
  refine g_callV C (As := [.int (nI (cM δ acc (bf δ k0)))]) (k_done _ hS9) vo_X12_132 dX12_starSize_25 rfl rfl (by decide) rfl (rm_ok (M' := MX12_starSize) hR (by decide)) (Nat.le_of_ble_eq_true rfl) (fun v9 S9 h9 => ?_)
  obtain ⟨rfl, h9⟩ := h9
  refine g_S (wI SM 75 (va_up (mI SM 75) 0 (nI 0))) h9 ?_
  refine g_n0 [.int (nI (cM δ acc (bf δ k0)))] rfl rfl rfl ?_
  exact g_iret C E dX12_starSize_28 (by rw [hR]; decide) (by rw [hR]; decide) ⟨rfl, th_0, hM9.fs th_fs, g2.fs.mC.tr th_fs.mC⟩

set_option maxRecDepth 100000 in
theorem m_star (l : Launch) {j t : Nat} (hj : j < 3) (ht : t < 3) {S : pv_M} {A : Ab} {k0 : Nat} {δ : Nat → Nat → Nat} {acc : Nat → Bool} {Dm : Nat → Prop} {X : pv_M → Prop} (hS : GS S) (hM : MSt S A) (hX : X S) (hMa : MMach l A 5 j j k0 δ acc Dm X) (hB : (bf δ k0).length ≤ 740) (hc6 : cM δ acc (bf δ k0) ≤ 6) : mt l MX12_star 106 [.ref 75, .int (nI (j)), .int (nI (t))] S (fun v S' => v = some (.int (nI (cM δ acc (bf δ k0)))) ∧ mI S' 75 0 = nI 0 ∧ FN mC S S' ∧ ∀ F', sF δ acc (bf δ k0) F' → MSt S' (setR A t (sR δ acc (bf δ k0) F'))) := by
  refine mt_of (by decide) (Nat.le_of_ble_eq_true rfl) ?_
  intro x hl hR hmL C E
  show GG x 106 0 0 [.ref 75, .int (nI (j)), .int (nI (t))] [] S 0
  subst hl
  refine g_iload_n C dX12_star_0 rfl ?_
  refine g_callS C (k_isRegister _ hj) so_X12_106 dX12_star_1 rfl rfl (rm_ok (M' := MX12_star) hR (by decide)) (Nat.le_of_ble_eq_true rfl) (fun v9 S9 h9 => ?_)
  obtain ⟨rfl, h9⟩ := h9
  refine g_S S h9 ?_
  refine g_n0 [.int (bI (true))] rfl rfl rfl ?_
  refine b_if_eq C 14 dX12_star_4 (fun h4 => absurd h4 (by decide)) (fun h4 => ?_)
  refine g_iload_n C dX12_star_7 rfl ?_
  refine g_callS C (k_isRegister _ ht) so_X12_106 dX12_star_8 rfl rfl (rm_ok (M' := MX12_star) hR (by decide)) (Nat.le_of_ble_eq_true rfl) (fun v9 S9 h9 => ?_)
  obtain ⟨rfl, h9⟩ := h9
  refine g_S S h9 ?_
  refine g_n0 [.int (bI (true))] rfl rfl rfl ?_
  refine b_if_ne C 20 dX12_star_11 (fun h11 => ?_) (fun h11 => absurd h11 (by decide))
  refine g_aload_n C dX12_star_20 rfl ?_
  refine n_iconst C 5 dX12_star_21 ?_
  refine g_iload_n C dX12_star_22 rfl ?_
  refine g_iload_n C dX12_star_23 rfl ?_
  refine g_callV C (As := [.int (nI (5)), .int (nI (j)), .int (nI (j))]) (m_makes hMa hS hM hX hB) vo_X12_231 dX12_star_24 rfl rfl (by decide) rfl (rm_ok (M' := MX12_star) hR (by decide)) (Nat.le_of_ble_eq_true rfl) (fun v9 SM h9 => ?_)
  obtain ⟨rfl, g1, g2⟩ := h9
  replace g1 : MkF δ acc Dm SM (bf δ k0) := g1
  have hS9 : GS SM := hS.fn g2.1
  have hM9 : MSt SM A := hM.fs g2.fs
  have hc9 : cM δ acc (bf δ k0) ≤ 740 := g1.c9
  refine g_n0 [] rfl rfl rfl ?_
  refine g_aload_n C dX12_star_27 rfl ?_
  refine g_getI C (a := (nI (cM δ acc (bf δ k0)))) fo_X12_222 dX12_star_28 rfl (by decide) (fun _ => rfl) g1.2.2.2.2.2.2.2 ?_
  refine n_bipush C 6 dX12_star_31 ?_
  refine n_ic_le C 44 dX12_star_33 (fun h33 => ?_) (fun h33 => absurd h33 (by omega))
  refine g_aload_n C dX12_star_44 rfl ?_
  refine g_iload_n C dX12_star_45 rfl ?_
  refine g_callV C (As := [.int (nI (t))]) (m_stores hM9 ht g1 hc6) vo_X12_235 dX12_star_46 rfl rfl (by decide) rfl (rm_ok (M' := MX12_star) hR (by decide)) (Nat.le_of_ble_eq_true rfl) (fun v9 S8 h9 => ?_)
  obtain ⟨rfl, s1, s2, s3⟩ := h9
  refine g_n0 [.int (nI (cM δ acc (bf δ k0)))] rfl rfl rfl ?_
  exact g_iret C E dX12_star_49 (by rw [hR]; decide) (by rw [hR]; decide) ⟨rfl, s1, g2.fs.mC.tr s2, s3⟩

set_option maxRecDepth 100000 in
theorem m_star_big (l : Launch) {j t : Nat} (hj : j < 3) (ht : t < 3) {S : pv_M} {A : Ab} {k0 : Nat} {δ : Nat → Nat → Nat} {acc : Nat → Bool} {Dm : Nat → Prop} {X : pv_M → Prop} (hS : GS S) (hM : MSt S A) (hX : X S) (hMa : MMach l A 5 j j k0 δ acc Dm X) (hB : (bf δ k0).length ≤ 740) (hc6 : 6 < cM δ acc (bf δ k0)) : mt l MX12_star 106 [.ref 75, .int (nI (j)), .int (nI (t))] S (fun v S' => v = some (.int (nI 0)) ∧ mI S' 75 0 = nI 2 ∧ MSt S' A ∧ FN mC S S') := by
  refine mt_of (by decide) (Nat.le_of_ble_eq_true rfl) ?_
  intro x hl hR hmL C E
  show GG x 106 0 0 [.ref 75, .int (nI (j)), .int (nI (t))] [] S 0
  subst hl
  refine g_iload_n C dX12_star_0 rfl ?_
  refine g_callS C (k_isRegister _ hj) so_X12_106 dX12_star_1 rfl rfl (rm_ok (M' := MX12_star) hR (by decide)) (Nat.le_of_ble_eq_true rfl) (fun v9 S9 h9 => ?_)
  obtain ⟨rfl, h9⟩ := h9
  refine g_S S h9 ?_
  refine g_n0 [.int (bI (true))] rfl rfl rfl ?_
  refine b_if_eq C 14 dX12_star_4 (fun h4 => absurd h4 (by decide)) (fun h4 => ?_)
  refine g_iload_n C dX12_star_7 rfl ?_
  refine g_callS C (k_isRegister _ ht) so_X12_106 dX12_star_8 rfl rfl (rm_ok (M' := MX12_star) hR (by decide)) (Nat.le_of_ble_eq_true rfl) (fun v9 S9 h9 => ?_)
  obtain ⟨rfl, h9⟩ := h9
  refine g_S S h9 ?_
  refine g_n0 [.int (bI (true))] rfl rfl rfl ?_
  refine b_if_ne C 20 dX12_star_11 (fun h11 => ?_) (fun h11 => absurd h11 (by decide))
  refine g_aload_n C dX12_star_20 rfl ?_
  refine n_iconst C 5 dX12_star_21 ?_
  refine g_iload_n C dX12_star_22 rfl ?_
  refine g_iload_n C dX12_star_23 rfl ?_
  refine g_callV C (As := [.int (nI (5)), .int (nI (j)), .int (nI (j))]) (m_makes hMa hS hM hX hB) vo_X12_231 dX12_star_24 rfl rfl (by decide) rfl (rm_ok (M' := MX12_star) hR (by decide)) (Nat.le_of_ble_eq_true rfl) (fun v9 SM h9 => ?_)
  obtain ⟨rfl, g1, g2⟩ := h9
  replace g1 : MkF δ acc Dm SM (bf δ k0) := g1
  have hS9 : GS SM := hS.fn g2.1
  have hM9 : MSt SM A := hM.fs g2.fs
  have hc9 : cM δ acc (bf δ k0) ≤ 740 := g1.c9
  refine g_n0 [] rfl rfl rfl ?_
  refine g_aload_n C dX12_star_27 rfl ?_
  refine g_getI C (a := (nI (cM δ acc (bf δ k0)))) fo_X12_222 dX12_star_28 rfl (by decide) (fun _ => rfl) g1.2.2.2.2.2.2.2 ?_
  refine n_bipush C 6 dX12_star_31 ?_
  refine n_ic_le C 44 dX12_star_33 (fun h33 => absurd h33 (by omega)) (fun h33 => ?_)
  refine g_aload_n C dX12_star_36 rfl ?_
  refine n_iconst C 2 dX12_star_37 ?_
  refine g_callV C (As := [.int (nI (2))]) (k_fails _ hS9) vo_X12_136 dX12_star_38 rfl rfl (by decide) rfl (rm_ok (M' := MX12_star) hR (by decide)) (Nat.le_of_ble_eq_true rfl) (fun v9 S9 h9 => ?_)
  obtain ⟨rfl, h9⟩ := h9
  refine g_S (wI SM 75 (va_up (mI SM 75) 0 (nI 2))) h9 ?_
  refine g_n0 [.int (nI (0))] rfl rfl rfl ?_
  refine g_goto C 49 dX12_star_41 (by decide) ?_
  exact g_iret C E dX12_star_49 (by rw [hR]; decide) (by rw [hR]; decide) ⟨rfl, th_0, hM9.fs th_fs, g2.fs.mC.tr th_fs.mC⟩

set_option maxRecDepth 100000 in
theorem m_star_r (l : Launch) {S : pv_M} {p : Int32} (hS : GS S) (h : badI p 3) {q : Int32} : mt l MX12_star 106 [.ref 75, .int (p), .int (q)] S (fun v S' => v = some (.int (nI 0)) ∧ S' = th S 1) := by
  refine mt_of (by decide) (Nat.le_of_ble_eq_true rfl) ?_
  intro x hl hR hmL C E
  show GG x 106 0 0 [.ref 75, .int (p), .int (q)] [] S 0
  refine g_iload_n C dX12_star_0 rfl ?_
  refine g_callS C (k_isRegisterF _ h) so_X12_106 dX12_star_1 rfl rfl (rm_ok (M' := MX12_star) hR (by decide)) (Nat.le_of_ble_eq_true rfl) (fun v9 S9 h9 => ?_)
  obtain ⟨rfl, h9⟩ := h9
  refine g_S S h9 ?_
  refine g_n0 [.int (bI (false))] rfl rfl rfl ?_
  refine b_if_eq C 14 dX12_star_4 (fun h4 => ?_) (fun h4 => absurd h4 (by decide))
  refine g_aload_n C dX12_star_14 rfl ?_
  refine n_iconst C 1 dX12_star_15 ?_
  refine g_callV C (As := [.int (nI (1))]) (k_fails _ hS) vo_X12_136 dX12_star_16 rfl rfl (by decide) rfl (rm_ok (M' := MX12_star) hR (by decide)) (Nat.le_of_ble_eq_true rfl) (fun v9 S9 h9 => ?_)
  obtain ⟨rfl, h9⟩ := h9
  refine g_S (wI S 75 (va_up (mI S 75) 0 (nI 1))) h9 ?_
  refine g_n0 [.int (nI (0))] rfl rfl rfl ?_
  exact g_iret C E dX12_star_19 (by rw [hR]; decide) (by rw [hR]; decide) ⟨rfl, rfl⟩

set_option maxRecDepth 100000 in
theorem m_star_t (l : Launch) {S : pv_M} {j : Nat} {p : Int32} (hS : GS S) (hj : j < 3) (h : badI p 3) : mt l MX12_star 106 [.ref 75, .int (nI (j)), .int (p)] S (fun v S' => v = some (.int (nI 0)) ∧ S' = th S 1) := by
  refine mt_of (by decide) (Nat.le_of_ble_eq_true rfl) ?_
  intro x hl hR hmL C E
  show GG x 106 0 0 [.ref 75, .int (nI (j)), .int (p)] [] S 0
  refine g_iload_n C dX12_star_0 rfl ?_
  refine g_callS C (k_isRegister _ hj) so_X12_106 dX12_star_1 rfl rfl (rm_ok (M' := MX12_star) hR (by decide)) (Nat.le_of_ble_eq_true rfl) (fun v9 S9 h9 => ?_)
  obtain ⟨rfl, h9⟩ := h9
  refine g_S S h9 ?_
  refine g_n0 [.int (bI (true))] rfl rfl rfl ?_
  refine b_if_eq C 14 dX12_star_4 (fun h4 => absurd h4 (by decide)) (fun h4 => ?_)
  refine g_iload_n C dX12_star_7 rfl ?_
  refine g_callS C (k_isRegisterF _ h) so_X12_106 dX12_star_8 rfl rfl (rm_ok (M' := MX12_star) hR (by decide)) (Nat.le_of_ble_eq_true rfl) (fun v9 S9 h9 => ?_)
  obtain ⟨rfl, h9⟩ := h9
  refine g_S S h9 ?_
  refine g_n0 [.int (bI (false))] rfl rfl rfl ?_
  refine b_if_ne C 20 dX12_star_11 (fun h11 => absurd h11 (by decide)) (fun h11 => ?_)
  refine g_aload_n C dX12_star_14 rfl ?_
  refine n_iconst C 1 dX12_star_15 ?_
  refine g_callV C (As := [.int (nI (1))]) (k_fails _ hS) vo_X12_136 dX12_star_16 rfl rfl (by decide) rfl (rm_ok (M' := MX12_star) hR (by decide)) (Nat.le_of_ble_eq_true rfl) (fun v9 S9 h9 => ?_)
  obtain ⟨rfl, h9⟩ := h9
  refine g_S (wI S 75 (va_up (mI S 75) 0 (nI 1))) h9 ?_
  refine g_n0 [.int (nI (0))] rfl rfl rfl ?_
  exact g_iret C E dX12_star_19 (by rw [hR]; decide) (by rw [hR]; decide) ⟨rfl, rfl⟩

set_option maxRecDepth 100000 in
theorem m_reverse (l : Launch) {j t : Nat} (hj : j < 3) (ht : t < 3) {S : pv_M} {A : Ab} {k0 : Nat} {δ : Nat → Nat → Nat} {acc : Nat → Bool} {Dm : Nat → Prop} {X : pv_M → Prop} (hS : GS S) (hM : MSt S A) (hX : X S) (hMa : MMach l A 6 j j k0 δ acc Dm X) (hB : (bf δ k0).length ≤ 740) (hc6 : cM δ acc (bf δ k0) ≤ 6) : mt l MX12_reverse 106 [.ref 75, .int (nI (j)), .int (nI (t))] S (fun v S' => v = some (.int (nI (cM δ acc (bf δ k0)))) ∧ mI S' 75 0 = nI 0 ∧ FN mC S S' ∧ ∀ F', sF δ acc (bf δ k0) F' → MSt S' (setR A t (sR δ acc (bf δ k0) F'))) := by
  refine mt_of (by decide) (Nat.le_of_ble_eq_true rfl) ?_
  intro x hl hR hmL C E
  show GG x 106 0 0 [.ref 75, .int (nI (j)), .int (nI (t))] [] S 0
  subst hl
  refine g_iload_n C dX12_reverse_0 rfl ?_
  refine g_callS C (k_isRegister _ hj) so_X12_106 dX12_reverse_1 rfl rfl (rm_ok (M' := MX12_reverse) hR (by decide)) (Nat.le_of_ble_eq_true rfl) (fun v9 S9 h9 => ?_)
  obtain ⟨rfl, h9⟩ := h9
  refine g_S S h9 ?_
  refine g_n0 [.int (bI (true))] rfl rfl rfl ?_
  refine b_if_eq C 14 dX12_reverse_4 (fun h4 => absurd h4 (by decide)) (fun h4 => ?_)
  refine g_iload_n C dX12_reverse_7 rfl ?_
  refine g_callS C (k_isRegister _ ht) so_X12_106 dX12_reverse_8 rfl rfl (rm_ok (M' := MX12_reverse) hR (by decide)) (Nat.le_of_ble_eq_true rfl) (fun v9 S9 h9 => ?_)
  obtain ⟨rfl, h9⟩ := h9
  refine g_S S h9 ?_
  refine g_n0 [.int (bI (true))] rfl rfl rfl ?_
  refine b_if_ne C 20 dX12_reverse_11 (fun h11 => ?_) (fun h11 => absurd h11 (by decide))
  refine g_aload_n C dX12_reverse_20 rfl ?_
  refine n_bipush C 6 dX12_reverse_21 ?_
  refine g_iload_n C dX12_reverse_23 rfl ?_
  refine g_iload_n C dX12_reverse_24 rfl ?_
  refine g_callV C (As := [.int (nI (6)), .int (nI (j)), .int (nI (j))]) (m_makes hMa hS hM hX hB) vo_X12_231 dX12_reverse_25 rfl rfl (by decide) rfl (rm_ok (M' := MX12_reverse) hR (by decide)) (Nat.le_of_ble_eq_true rfl) (fun v9 SM h9 => ?_)
  obtain ⟨rfl, g1, g2⟩ := h9
  replace g1 : MkF δ acc Dm SM (bf δ k0) := g1
  have hS9 : GS SM := hS.fn g2.1
  have hM9 : MSt SM A := hM.fs g2.fs
  have hc9 : cM δ acc (bf δ k0) ≤ 740 := g1.c9
  refine g_n0 [] rfl rfl rfl ?_
  refine g_aload_n C dX12_reverse_28 rfl ?_
  refine g_getI C (a := (nI (cM δ acc (bf δ k0)))) fo_X12_222 dX12_reverse_29 rfl (by decide) (fun _ => rfl) g1.2.2.2.2.2.2.2 ?_
  refine n_bipush C 6 dX12_reverse_32 ?_
  refine n_ic_le C 45 dX12_reverse_34 (fun h34 => ?_) (fun h34 => absurd h34 (by omega))
  refine g_aload_n C dX12_reverse_45 rfl ?_
  refine g_iload_n C dX12_reverse_46 rfl ?_
  refine g_callV C (As := [.int (nI (t))]) (m_stores hM9 ht g1 hc6) vo_X12_235 dX12_reverse_47 rfl rfl (by decide) rfl (rm_ok (M' := MX12_reverse) hR (by decide)) (Nat.le_of_ble_eq_true rfl) (fun v9 S8 h9 => ?_)
  obtain ⟨rfl, s1, s2, s3⟩ := h9
  refine g_n0 [.int (nI (cM δ acc (bf δ k0)))] rfl rfl rfl ?_
  exact g_iret C E dX12_reverse_50 (by rw [hR]; decide) (by rw [hR]; decide) ⟨rfl, s1, g2.fs.mC.tr s2, s3⟩

set_option maxRecDepth 100000 in
theorem m_reverse_big (l : Launch) {j t : Nat} (hj : j < 3) (ht : t < 3) {S : pv_M} {A : Ab} {k0 : Nat} {δ : Nat → Nat → Nat} {acc : Nat → Bool} {Dm : Nat → Prop} {X : pv_M → Prop} (hS : GS S) (hM : MSt S A) (hX : X S) (hMa : MMach l A 6 j j k0 δ acc Dm X) (hB : (bf δ k0).length ≤ 740) (hc6 : 6 < cM δ acc (bf δ k0)) : mt l MX12_reverse 106 [.ref 75, .int (nI (j)), .int (nI (t))] S (fun v S' => v = some (.int (nI 0)) ∧ mI S' 75 0 = nI 2 ∧ MSt S' A ∧ FN mC S S') := by
  refine mt_of (by decide) (Nat.le_of_ble_eq_true rfl) ?_
  intro x hl hR hmL C E
  show GG x 106 0 0 [.ref 75, .int (nI (j)), .int (nI (t))] [] S 0
  subst hl
  refine g_iload_n C dX12_reverse_0 rfl ?_
  refine g_callS C (k_isRegister _ hj) so_X12_106 dX12_reverse_1 rfl rfl (rm_ok (M' := MX12_reverse) hR (by decide)) (Nat.le_of_ble_eq_true rfl) (fun v9 S9 h9 => ?_)
  obtain ⟨rfl, h9⟩ := h9
  refine g_S S h9 ?_
  refine g_n0 [.int (bI (true))] rfl rfl rfl ?_
  refine b_if_eq C 14 dX12_reverse_4 (fun h4 => absurd h4 (by decide)) (fun h4 => ?_)
  refine g_iload_n C dX12_reverse_7 rfl ?_
  refine g_callS C (k_isRegister _ ht) so_X12_106 dX12_reverse_8 rfl rfl (rm_ok (M' := MX12_reverse) hR (by decide)) (Nat.le_of_ble_eq_true rfl) (fun v9 S9 h9 => ?_)
  obtain ⟨rfl, h9⟩ := h9
  refine g_S S h9 ?_
  refine g_n0 [.int (bI (true))] rfl rfl rfl ?_
  refine b_if_ne C 20 dX12_reverse_11 (fun h11 => ?_) (fun h11 => absurd h11 (by decide))
  refine g_aload_n C dX12_reverse_20 rfl ?_
  refine n_bipush C 6 dX12_reverse_21 ?_
  refine g_iload_n C dX12_reverse_23 rfl ?_
  refine g_iload_n C dX12_reverse_24 rfl ?_
  refine g_callV C (As := [.int (nI (6)), .int (nI (j)), .int (nI (j))]) (m_makes hMa hS hM hX hB) vo_X12_231 dX12_reverse_25 rfl rfl (by decide) rfl (rm_ok (M' := MX12_reverse) hR (by decide)) (Nat.le_of_ble_eq_true rfl) (fun v9 SM h9 => ?_)
  obtain ⟨rfl, g1, g2⟩ := h9
  replace g1 : MkF δ acc Dm SM (bf δ k0) := g1
  have hS9 : GS SM := hS.fn g2.1
  have hM9 : MSt SM A := hM.fs g2.fs
  have hc9 : cM δ acc (bf δ k0) ≤ 740 := g1.c9
  refine g_n0 [] rfl rfl rfl ?_
  refine g_aload_n C dX12_reverse_28 rfl ?_
  refine g_getI C (a := (nI (cM δ acc (bf δ k0)))) fo_X12_222 dX12_reverse_29 rfl (by decide) (fun _ => rfl) g1.2.2.2.2.2.2.2 ?_
  refine n_bipush C 6 dX12_reverse_32 ?_
  refine n_ic_le C 45 dX12_reverse_34 (fun h34 => absurd h34 (by omega)) (fun h34 => ?_)
  refine g_aload_n C dX12_reverse_37 rfl ?_
  refine n_iconst C 2 dX12_reverse_38 ?_
  refine g_callV C (As := [.int (nI (2))]) (k_fails _ hS9) vo_X12_136 dX12_reverse_39 rfl rfl (by decide) rfl (rm_ok (M' := MX12_reverse) hR (by decide)) (Nat.le_of_ble_eq_true rfl) (fun v9 S9 h9 => ?_)
  obtain ⟨rfl, h9⟩ := h9
  refine g_S (wI SM 75 (va_up (mI SM 75) 0 (nI 2))) h9 ?_
  refine g_n0 [.int (nI (0))] rfl rfl rfl ?_
  refine g_goto C 50 dX12_reverse_42 (by decide) ?_
  exact g_iret C E dX12_reverse_50 (by rw [hR]; decide) (by rw [hR]; decide) ⟨rfl, th_0, hM9.fs th_fs, g2.fs.mC.tr th_fs.mC⟩

set_option maxRecDepth 100000 in
theorem m_reverse_r (l : Launch) {S : pv_M} {p : Int32} (hS : GS S) (h : badI p 3) {q : Int32} : mt l MX12_reverse 106 [.ref 75, .int (p), .int (q)] S (fun v S' => v = some (.int (nI 0)) ∧ S' = th S 1) := by
  refine mt_of (by decide) (Nat.le_of_ble_eq_true rfl) ?_
  intro x hl hR hmL C E
  show GG x 106 0 0 [.ref 75, .int (p), .int (q)] [] S 0
  refine g_iload_n C dX12_reverse_0 rfl ?_
  refine g_callS C (k_isRegisterF _ h) so_X12_106 dX12_reverse_1 rfl rfl (rm_ok (M' := MX12_reverse) hR (by decide)) (Nat.le_of_ble_eq_true rfl) (fun v9 S9 h9 => ?_)
  obtain ⟨rfl, h9⟩ := h9
  refine g_S S h9 ?_
  refine g_n0 [.int (bI (false))] rfl rfl rfl ?_
  refine b_if_eq C 14 dX12_reverse_4 (fun h4 => ?_) (fun h4 => absurd h4 (by decide))
  refine g_aload_n C dX12_reverse_14 rfl ?_
  refine n_iconst C 1 dX12_reverse_15 ?_
  refine g_callV C (As := [.int (nI (1))]) (k_fails _ hS) vo_X12_136 dX12_reverse_16 rfl rfl (by decide) rfl (rm_ok (M' := MX12_reverse) hR (by decide)) (Nat.le_of_ble_eq_true rfl) (fun v9 S9 h9 => ?_)
  obtain ⟨rfl, h9⟩ := h9
  refine g_S (wI S 75 (va_up (mI S 75) 0 (nI 1))) h9 ?_
  refine g_n0 [.int (nI (0))] rfl rfl rfl ?_
  exact g_iret C E dX12_reverse_19 (by rw [hR]; decide) (by rw [hR]; decide) ⟨rfl, rfl⟩

set_option maxRecDepth 100000 in
theorem m_reverse_t (l : Launch) {S : pv_M} {j : Nat} {p : Int32} (hS : GS S) (hj : j < 3) (h : badI p 3) : mt l MX12_reverse 106 [.ref 75, .int (nI (j)), .int (p)] S (fun v S' => v = some (.int (nI 0)) ∧ S' = th S 1) := by
  refine mt_of (by decide) (Nat.le_of_ble_eq_true rfl) ?_
  intro x hl hR hmL C E
  show GG x 106 0 0 [.ref 75, .int (nI (j)), .int (p)] [] S 0
  refine g_iload_n C dX12_reverse_0 rfl ?_
  refine g_callS C (k_isRegister _ hj) so_X12_106 dX12_reverse_1 rfl rfl (rm_ok (M' := MX12_reverse) hR (by decide)) (Nat.le_of_ble_eq_true rfl) (fun v9 S9 h9 => ?_)
  obtain ⟨rfl, h9⟩ := h9
  refine g_S S h9 ?_
  refine g_n0 [.int (bI (true))] rfl rfl rfl ?_
  refine b_if_eq C 14 dX12_reverse_4 (fun h4 => absurd h4 (by decide)) (fun h4 => ?_)
  refine g_iload_n C dX12_reverse_7 rfl ?_
  refine g_callS C (k_isRegisterF _ h) so_X12_106 dX12_reverse_8 rfl rfl (rm_ok (M' := MX12_reverse) hR (by decide)) (Nat.le_of_ble_eq_true rfl) (fun v9 S9 h9 => ?_)
  obtain ⟨rfl, h9⟩ := h9
  refine g_S S h9 ?_
  refine g_n0 [.int (bI (false))] rfl rfl rfl ?_
  refine b_if_ne C 20 dX12_reverse_11 (fun h11 => absurd h11 (by decide)) (fun h11 => ?_)
  refine g_aload_n C dX12_reverse_14 rfl ?_
  refine n_iconst C 1 dX12_reverse_15 ?_
  refine g_callV C (As := [.int (nI (1))]) (k_fails _ hS) vo_X12_136 dX12_reverse_16 rfl rfl (by decide) rfl (rm_ok (M' := MX12_reverse) hR (by decide)) (Nat.le_of_ble_eq_true rfl) (fun v9 S9 h9 => ?_)
  obtain ⟨rfl, h9⟩ := h9
  refine g_S (wI S 75 (va_up (mI S 75) 0 (nI 1))) h9 ?_
  refine g_n0 [.int (nI (0))] rfl rfl rfl ?_
  exact g_iret C E dX12_reverse_19 (by rw [hR]; decide) (by rw [hR]; decide) ⟨rfl, rfl⟩

set_option maxRecDepth 100000 in
theorem m_resultSize (l : Launch) {op a b : Nat} (hp : op < 5) (hja : a < 3) (hjb : b < 3) {S : pv_M} {A : Ab} {k0 : Nat} {δ : Nat → Nat → Nat} {acc : Nat → Bool} {Dm : Nat → Prop} {X : pv_M → Prop} (hS : GS S) (hM : MSt S A) (hX : X S) (hMa : MMach l A op a b k0 δ acc Dm X) (hB : (bf δ k0).length ≤ 740) : mt l MX12_resultSize 106 [.ref 75, .int (nI (op)), .int (nI (a)), .int (nI (b))] S (fun v S' => v = some (.int (nI (cM δ acc (bf δ k0)))) ∧ mI S' 75 0 = nI 0 ∧ MSt S' A ∧ FN mC S S') := by
  refine mt_of (by decide) (Nat.le_of_ble_eq_true rfl) ?_
  intro x hl hR hmL C E
  show GG x 106 0 0 [.ref 75, .int (nI (op)), .int (nI (a)), .int (nI (b))] [] S 0
  subst hl
  refine g_iload_n C dX12_resultSize_0 rfl ?_
  refine n_iconst C 0 dX12_resultSize_1 ?_
  refine n_iconst C 4 dX12_resultSize_2 ?_
  refine g_callS C (k_in _ (in_lo (by omega)) (in_hi (m := 5) hp (by decide))) so_X12_102 dX12_resultSize_3 rfl rfl (rm_ok (M' := MX12_resultSize) hR (by decide)) (Nat.le_of_ble_eq_true rfl) (fun v9 S9 h9 => ?_)
  obtain ⟨rfl, h9⟩ := h9
  refine g_S S h9 ?_
  refine g_n0 [.int (bI (true))] rfl rfl rfl ?_
  refine b_if_ne C 15 dX12_resultSize_6 (fun h6 => ?_) (fun h6 => absurd h6 (by decide))
  refine g_iload_n C dX12_resultSize_15 rfl ?_
  refine g_callS C (k_isRegister _ hja) so_X12_106 dX12_resultSize_16 rfl rfl (rm_ok (M' := MX12_resultSize) hR (by decide)) (Nat.le_of_ble_eq_true rfl) (fun v9 S9 h9 => ?_)
  obtain ⟨rfl, h9⟩ := h9
  refine g_S S h9 ?_
  refine g_n0 [.int (bI (true))] rfl rfl rfl ?_
  refine b_if_eq C 29 dX12_resultSize_19 (fun h19 => absurd h19 (by decide)) (fun h19 => ?_)
  refine g_iload_n C dX12_resultSize_22 rfl ?_
  refine g_callS C (k_isRegister _ hjb) so_X12_106 dX12_resultSize_23 rfl rfl (rm_ok (M' := MX12_resultSize) hR (by decide)) (Nat.le_of_ble_eq_true rfl) (fun v9 S9 h9 => ?_)
  obtain ⟨rfl, h9⟩ := h9
  refine g_S S h9 ?_
  refine g_n0 [.int (bI (true))] rfl rfl rfl ?_
  refine b_if_ne C 35 dX12_resultSize_26 (fun h26 => ?_) (fun h26 => absurd h26 (by decide))
  refine g_aload_n C dX12_resultSize_35 rfl ?_
  refine g_iload_n C dX12_resultSize_36 rfl ?_
  refine g_iload_n C dX12_resultSize_37 rfl ?_
  refine g_iload_n C dX12_resultSize_38 rfl ?_
  refine g_callV C (As := [.int (nI (op)), .int (nI (a)), .int (nI (b))]) (m_makes hMa hS hM hX hB) vo_X12_231 dX12_resultSize_39 rfl rfl (by decide) rfl (rm_ok (M' := MX12_resultSize) hR (by decide)) (Nat.le_of_ble_eq_true rfl) (fun v9 SM h9 => ?_)
  obtain ⟨rfl, g1, g2⟩ := h9
  replace g1 : MkF δ acc Dm SM (bf δ k0) := g1
  have hS9 : GS SM := hS.fn g2.1
  have hM9 : MSt SM A := hM.fs g2.fs
  have hc9 : cM δ acc (bf δ k0) ≤ 740 := g1.c9
  refine g_n0 [] rfl rfl rfl ?_
  refine g_aload_n C dX12_resultSize_42 rfl ?_
  refine g_aload_n C dX12_resultSize_43 rfl ?_
  refine g_getI C (a := (nI (cM δ acc (bf δ k0)))) fo_X12_222 dX12_resultSize_44 rfl (by decide) (fun _ => rfl) g1.2.2.2.2.2.2.2 ?_
  refine g_callV C (As := [.int (nI (cM δ acc (bf δ k0)))]) (k_done _ hS9) vo_X12_132 dX12_resultSize_47 rfl rfl (by decide) rfl (rm_ok (M' := MX12_resultSize) hR (by decide)) (Nat.le_of_ble_eq_true rfl) (fun v9 S9 h9 => ?_)
  obtain ⟨rfl, h9⟩ := h9
  refine g_S (wI SM 75 (va_up (mI SM 75) 0 (nI 0))) h9 ?_
  refine g_n0 [.int (nI (cM δ acc (bf δ k0)))] rfl rfl rfl ?_
  exact g_iret C E dX12_resultSize_50 (by rw [hR]; decide) (by rw [hR]; decide) ⟨rfl, th_0, hM9.fs th_fs, g2.fs.mC.tr th_fs.mC⟩

set_option maxRecDepth 100000 in
theorem m_resultSize_o (l : Launch) {S : pv_M} {p : Int32} (hS : GS S) {q1 q2 : Int32} (h : badI p 5) : mt l MX12_resultSize 106 [.ref 75, .int (p), .int (q1), .int (q2)] S (fun v S' => v = some (.int (nI 0)) ∧ S' = th S 1) := by
  refine mt_of (by decide) (Nat.le_of_ble_eq_true rfl) ?_
  intro x hl hR hmL C E
  show GG x 106 0 0 [.ref 75, .int (p), .int (q1), .int (q2)] [] S 0
  refine g_iload_n C dX12_resultSize_0 rfl ?_
  refine n_iconst C 0 dX12_resultSize_1 ?_
  refine n_iconst C 4 dX12_resultSize_2 ?_
  refine g_callS C (k_inF _ (in_badP (m := 5) h (by decide) (by decide))) so_X12_102 dX12_resultSize_3 rfl rfl (rm_ok (M' := MX12_resultSize) hR (by decide)) (Nat.le_of_ble_eq_true rfl) (fun v9 S9 h9 => ?_)
  obtain ⟨rfl, h9⟩ := h9
  refine g_S S h9 ?_
  refine g_n0 [.int (bI (false))] rfl rfl rfl ?_
  refine b_if_ne C 15 dX12_resultSize_6 (fun h6 => absurd h6 (by decide)) (fun h6 => ?_)
  refine g_aload_n C dX12_resultSize_9 rfl ?_
  refine n_iconst C 1 dX12_resultSize_10 ?_
  refine g_callV C (As := [.int (nI (1))]) (k_fails _ hS) vo_X12_136 dX12_resultSize_11 rfl rfl (by decide) rfl (rm_ok (M' := MX12_resultSize) hR (by decide)) (Nat.le_of_ble_eq_true rfl) (fun v9 S9 h9 => ?_)
  obtain ⟨rfl, h9⟩ := h9
  refine g_S (wI S 75 (va_up (mI S 75) 0 (nI 1))) h9 ?_
  refine g_n0 [.int (nI (0))] rfl rfl rfl ?_
  exact g_iret C E dX12_resultSize_14 (by rw [hR]; decide) (by rw [hR]; decide) ⟨rfl, rfl⟩

set_option maxRecDepth 100000 in
theorem m_resultSize_a (l : Launch) {S : pv_M} {p : Int32} (hS : GS S) {op : Nat} {q2 : Int32} (hp : op < 5) (h : badI p 3) : mt l MX12_resultSize 106 [.ref 75, .int (nI (op)), .int (p), .int (q2)] S (fun v S' => v = some (.int (nI 0)) ∧ S' = th S 2) := by
  refine mt_of (by decide) (Nat.le_of_ble_eq_true rfl) ?_
  intro x hl hR hmL C E
  show GG x 106 0 0 [.ref 75, .int (nI (op)), .int (p), .int (q2)] [] S 0
  refine g_iload_n C dX12_resultSize_0 rfl ?_
  refine n_iconst C 0 dX12_resultSize_1 ?_
  refine n_iconst C 4 dX12_resultSize_2 ?_
  refine g_callS C (k_in _ (in_lo (by omega)) (in_hi (m := 5) hp (by decide))) so_X12_102 dX12_resultSize_3 rfl rfl (rm_ok (M' := MX12_resultSize) hR (by decide)) (Nat.le_of_ble_eq_true rfl) (fun v9 S9 h9 => ?_)
  obtain ⟨rfl, h9⟩ := h9
  refine g_S S h9 ?_
  refine g_n0 [.int (bI (true))] rfl rfl rfl ?_
  refine b_if_ne C 15 dX12_resultSize_6 (fun h6 => ?_) (fun h6 => absurd h6 (by decide))
  refine g_iload_n C dX12_resultSize_15 rfl ?_
  refine g_callS C (k_isRegisterF _ h) so_X12_106 dX12_resultSize_16 rfl rfl (rm_ok (M' := MX12_resultSize) hR (by decide)) (Nat.le_of_ble_eq_true rfl) (fun v9 S9 h9 => ?_)
  obtain ⟨rfl, h9⟩ := h9
  refine g_S S h9 ?_
  refine g_n0 [.int (bI (false))] rfl rfl rfl ?_
  refine b_if_eq C 29 dX12_resultSize_19 (fun h19 => ?_) (fun h19 => absurd h19 (by decide))
  refine g_aload_n C dX12_resultSize_29 rfl ?_
  refine n_iconst C 2 dX12_resultSize_30 ?_
  refine g_callV C (As := [.int (nI (2))]) (k_fails _ hS) vo_X12_136 dX12_resultSize_31 rfl rfl (by decide) rfl (rm_ok (M' := MX12_resultSize) hR (by decide)) (Nat.le_of_ble_eq_true rfl) (fun v9 S9 h9 => ?_)
  obtain ⟨rfl, h9⟩ := h9
  refine g_S (wI S 75 (va_up (mI S 75) 0 (nI 2))) h9 ?_
  refine g_n0 [.int (nI (0))] rfl rfl rfl ?_
  exact g_iret C E dX12_resultSize_34 (by rw [hR]; decide) (by rw [hR]; decide) ⟨rfl, rfl⟩

set_option maxRecDepth 100000 in
theorem m_resultSize_b (l : Launch) {S : pv_M} {p : Int32} (hS : GS S) {op a : Nat} (hp : op < 5) (hja : a < 3) (h : badI p 3) : mt l MX12_resultSize 106 [.ref 75, .int (nI (op)), .int (nI (a)), .int (p)] S (fun v S' => v = some (.int (nI 0)) ∧ S' = th S 2) := by
  refine mt_of (by decide) (Nat.le_of_ble_eq_true rfl) ?_
  intro x hl hR hmL C E
  show GG x 106 0 0 [.ref 75, .int (nI (op)), .int (nI (a)), .int (p)] [] S 0
  refine g_iload_n C dX12_resultSize_0 rfl ?_
  refine n_iconst C 0 dX12_resultSize_1 ?_
  refine n_iconst C 4 dX12_resultSize_2 ?_
  refine g_callS C (k_in _ (in_lo (by omega)) (in_hi (m := 5) hp (by decide))) so_X12_102 dX12_resultSize_3 rfl rfl (rm_ok (M' := MX12_resultSize) hR (by decide)) (Nat.le_of_ble_eq_true rfl) (fun v9 S9 h9 => ?_)
  obtain ⟨rfl, h9⟩ := h9
  refine g_S S h9 ?_
  refine g_n0 [.int (bI (true))] rfl rfl rfl ?_
  refine b_if_ne C 15 dX12_resultSize_6 (fun h6 => ?_) (fun h6 => absurd h6 (by decide))
  refine g_iload_n C dX12_resultSize_15 rfl ?_
  refine g_callS C (k_isRegister _ hja) so_X12_106 dX12_resultSize_16 rfl rfl (rm_ok (M' := MX12_resultSize) hR (by decide)) (Nat.le_of_ble_eq_true rfl) (fun v9 S9 h9 => ?_)
  obtain ⟨rfl, h9⟩ := h9
  refine g_S S h9 ?_
  refine g_n0 [.int (bI (true))] rfl rfl rfl ?_
  refine b_if_eq C 29 dX12_resultSize_19 (fun h19 => absurd h19 (by decide)) (fun h19 => ?_)
  refine g_iload_n C dX12_resultSize_22 rfl ?_
  refine g_callS C (k_isRegisterF _ h) so_X12_106 dX12_resultSize_23 rfl rfl (rm_ok (M' := MX12_resultSize) hR (by decide)) (Nat.le_of_ble_eq_true rfl) (fun v9 S9 h9 => ?_)
  obtain ⟨rfl, h9⟩ := h9
  refine g_S S h9 ?_
  refine g_n0 [.int (bI (false))] rfl rfl rfl ?_
  refine b_if_ne C 35 dX12_resultSize_26 (fun h26 => absurd h26 (by decide)) (fun h26 => ?_)
  refine g_aload_n C dX12_resultSize_29 rfl ?_
  refine n_iconst C 2 dX12_resultSize_30 ?_
  refine g_callV C (As := [.int (nI (2))]) (k_fails _ hS) vo_X12_136 dX12_resultSize_31 rfl rfl (by decide) rfl (rm_ok (M' := MX12_resultSize) hR (by decide)) (Nat.le_of_ble_eq_true rfl) (fun v9 S9 h9 => ?_)
  obtain ⟨rfl, h9⟩ := h9
  refine g_S (wI S 75 (va_up (mI S 75) 0 (nI 2))) h9 ?_
  refine g_n0 [.int (nI (0))] rfl rfl rfl ?_
  exact g_iret C E dX12_resultSize_34 (by rw [hR]; decide) (by rw [hR]; decide) ⟨rfl, rfl⟩

set_option maxRecDepth 100000 in
theorem m_combine (l : Launch) {t : Nat} (ht : t < 3) {op a b : Nat} (hp : op < 5) (hja : a < 3) (hjb : b < 3) {S : pv_M} {A : Ab} {k0 : Nat} {δ : Nat → Nat → Nat} {acc : Nat → Bool} {Dm : Nat → Prop} {X : pv_M → Prop} (hS : GS S) (hM : MSt S A) (hX : X S) (hMa : MMach l A op a b k0 δ acc Dm X) (hB : (bf δ k0).length ≤ 740) (hc6 : cM δ acc (bf δ k0) ≤ 6) : mt l MX12_combine 106 [.ref 75, .int (nI (op)), .int (nI (a)), .int (nI (b)), .int (nI (t))] S (fun v S' => v = some (.int (nI (cM δ acc (bf δ k0)))) ∧ mI S' 75 0 = nI 0 ∧ FN mC S S' ∧ ∀ F', sF δ acc (bf δ k0) F' → MSt S' (setR A t (sR δ acc (bf δ k0) F'))) := by
  refine mt_of (by decide) (Nat.le_of_ble_eq_true rfl) ?_
  intro x hl hR hmL C E
  show GG x 106 0 0 [.ref 75, .int (nI (op)), .int (nI (a)), .int (nI (b)), .int (nI (t))] [] S 0
  subst hl
  refine g_iload_n C dX12_combine_0 rfl ?_
  refine n_iconst C 0 dX12_combine_1 ?_
  refine n_iconst C 4 dX12_combine_2 ?_
  refine g_callS C (k_in _ (in_lo (by omega)) (in_hi (m := 5) hp (by decide))) so_X12_102 dX12_combine_3 rfl rfl (rm_ok (M' := MX12_combine) hR (by decide)) (Nat.le_of_ble_eq_true rfl) (fun v9 S9 h9 => ?_)
  obtain ⟨rfl, h9⟩ := h9
  refine g_S S h9 ?_
  refine g_n0 [.int (bI (true))] rfl rfl rfl ?_
  refine b_if_ne C 15 dX12_combine_6 (fun h6 => ?_) (fun h6 => absurd h6 (by decide))
  refine g_iload_n C dX12_combine_15 rfl ?_
  refine g_callS C (k_isRegister _ hja) so_X12_106 dX12_combine_16 rfl rfl (rm_ok (M' := MX12_combine) hR (by decide)) (Nat.le_of_ble_eq_true rfl) (fun v9 S9 h9 => ?_)
  obtain ⟨rfl, h9⟩ := h9
  refine g_S S h9 ?_
  refine g_n0 [.int (bI (true))] rfl rfl rfl ?_
  refine b_if_eq C 37 dX12_combine_19 (fun h19 => absurd h19 (by decide)) (fun h19 => ?_)
  refine g_iload_n C dX12_combine_22 rfl ?_
  refine g_callS C (k_isRegister _ hjb) so_X12_106 dX12_combine_23 rfl rfl (rm_ok (M' := MX12_combine) hR (by decide)) (Nat.le_of_ble_eq_true rfl) (fun v9 S9 h9 => ?_)
  obtain ⟨rfl, h9⟩ := h9
  refine g_S S h9 ?_
  refine g_n0 [.int (bI (true))] rfl rfl rfl ?_
  refine b_if_eq C 37 dX12_combine_26 (fun h26 => absurd h26 (by decide)) (fun h26 => ?_)
  refine g_iload C dX12_combine_29 rfl ?_
  refine g_callS C (k_isRegister _ ht) so_X12_106 dX12_combine_31 rfl rfl (rm_ok (M' := MX12_combine) hR (by decide)) (Nat.le_of_ble_eq_true rfl) (fun v9 S9 h9 => ?_)
  obtain ⟨rfl, h9⟩ := h9
  refine g_S S h9 ?_
  refine g_n0 [.int (bI (true))] rfl rfl rfl ?_
  refine b_if_ne C 43 dX12_combine_34 (fun h34 => ?_) (fun h34 => absurd h34 (by decide))
  refine g_aload_n C dX12_combine_43 rfl ?_
  refine g_iload_n C dX12_combine_44 rfl ?_
  refine g_iload_n C dX12_combine_45 rfl ?_
  refine g_iload_n C dX12_combine_46 rfl ?_
  refine g_callV C (As := [.int (nI (op)), .int (nI (a)), .int (nI (b))]) (m_makes hMa hS hM hX hB) vo_X12_231 dX12_combine_47 rfl rfl (by decide) rfl (rm_ok (M' := MX12_combine) hR (by decide)) (Nat.le_of_ble_eq_true rfl) (fun v9 SM h9 => ?_)
  obtain ⟨rfl, g1, g2⟩ := h9
  replace g1 : MkF δ acc Dm SM (bf δ k0) := g1
  have hS9 : GS SM := hS.fn g2.1
  have hM9 : MSt SM A := hM.fs g2.fs
  have hc9 : cM δ acc (bf δ k0) ≤ 740 := g1.c9
  refine g_n0 [] rfl rfl rfl ?_
  refine g_aload_n C dX12_combine_50 rfl ?_
  refine g_getI C (a := (nI (cM δ acc (bf δ k0)))) fo_X12_222 dX12_combine_51 rfl (by decide) (fun _ => rfl) g1.2.2.2.2.2.2.2 ?_
  refine n_bipush C 6 dX12_combine_54 ?_
  refine n_ic_le C 67 dX12_combine_56 (fun h56 => ?_) (fun h56 => absurd h56 (by omega))
  refine g_aload_n C dX12_combine_67 rfl ?_
  refine g_iload C dX12_combine_68 rfl ?_
  refine g_callV C (As := [.int (nI (t))]) (m_stores hM9 ht g1 hc6) vo_X12_235 dX12_combine_70 rfl rfl (by decide) rfl (rm_ok (M' := MX12_combine) hR (by decide)) (Nat.le_of_ble_eq_true rfl) (fun v9 S8 h9 => ?_)
  obtain ⟨rfl, s1, s2, s3⟩ := h9
  refine g_n0 [.int (nI (cM δ acc (bf δ k0)))] rfl rfl rfl ?_
  exact g_iret C E dX12_combine_73 (by rw [hR]; decide) (by rw [hR]; decide) ⟨rfl, s1, g2.fs.mC.tr s2, s3⟩

set_option maxRecDepth 100000 in
theorem m_combine_big (l : Launch) {t : Nat} (ht : t < 3) {op a b : Nat} (hp : op < 5) (hja : a < 3) (hjb : b < 3) {S : pv_M} {A : Ab} {k0 : Nat} {δ : Nat → Nat → Nat} {acc : Nat → Bool} {Dm : Nat → Prop} {X : pv_M → Prop} (hS : GS S) (hM : MSt S A) (hX : X S) (hMa : MMach l A op a b k0 δ acc Dm X) (hB : (bf δ k0).length ≤ 740) (hc6 : 6 < cM δ acc (bf δ k0)) : mt l MX12_combine 106 [.ref 75, .int (nI (op)), .int (nI (a)), .int (nI (b)), .int (nI (t))] S (fun v S' => v = some (.int (nI 0)) ∧ mI S' 75 0 = nI 3 ∧ MSt S' A ∧ FN mC S S') := by
  refine mt_of (by decide) (Nat.le_of_ble_eq_true rfl) ?_
  intro x hl hR hmL C E
  show GG x 106 0 0 [.ref 75, .int (nI (op)), .int (nI (a)), .int (nI (b)), .int (nI (t))] [] S 0
  subst hl
  refine g_iload_n C dX12_combine_0 rfl ?_
  refine n_iconst C 0 dX12_combine_1 ?_
  refine n_iconst C 4 dX12_combine_2 ?_
  refine g_callS C (k_in _ (in_lo (by omega)) (in_hi (m := 5) hp (by decide))) so_X12_102 dX12_combine_3 rfl rfl (rm_ok (M' := MX12_combine) hR (by decide)) (Nat.le_of_ble_eq_true rfl) (fun v9 S9 h9 => ?_)
  obtain ⟨rfl, h9⟩ := h9
  refine g_S S h9 ?_
  refine g_n0 [.int (bI (true))] rfl rfl rfl ?_
  refine b_if_ne C 15 dX12_combine_6 (fun h6 => ?_) (fun h6 => absurd h6 (by decide))
  refine g_iload_n C dX12_combine_15 rfl ?_
  refine g_callS C (k_isRegister _ hja) so_X12_106 dX12_combine_16 rfl rfl (rm_ok (M' := MX12_combine) hR (by decide)) (Nat.le_of_ble_eq_true rfl) (fun v9 S9 h9 => ?_)
  obtain ⟨rfl, h9⟩ := h9
  refine g_S S h9 ?_
  refine g_n0 [.int (bI (true))] rfl rfl rfl ?_
  refine b_if_eq C 37 dX12_combine_19 (fun h19 => absurd h19 (by decide)) (fun h19 => ?_)
  refine g_iload_n C dX12_combine_22 rfl ?_
  refine g_callS C (k_isRegister _ hjb) so_X12_106 dX12_combine_23 rfl rfl (rm_ok (M' := MX12_combine) hR (by decide)) (Nat.le_of_ble_eq_true rfl) (fun v9 S9 h9 => ?_)
  obtain ⟨rfl, h9⟩ := h9
  refine g_S S h9 ?_
  refine g_n0 [.int (bI (true))] rfl rfl rfl ?_
  refine b_if_eq C 37 dX12_combine_26 (fun h26 => absurd h26 (by decide)) (fun h26 => ?_)
  refine g_iload C dX12_combine_29 rfl ?_
  refine g_callS C (k_isRegister _ ht) so_X12_106 dX12_combine_31 rfl rfl (rm_ok (M' := MX12_combine) hR (by decide)) (Nat.le_of_ble_eq_true rfl) (fun v9 S9 h9 => ?_)
  obtain ⟨rfl, h9⟩ := h9
  refine g_S S h9 ?_
  refine g_n0 [.int (bI (true))] rfl rfl rfl ?_
  refine b_if_ne C 43 dX12_combine_34 (fun h34 => ?_) (fun h34 => absurd h34 (by decide))
  refine g_aload_n C dX12_combine_43 rfl ?_
  refine g_iload_n C dX12_combine_44 rfl ?_
  refine g_iload_n C dX12_combine_45 rfl ?_
  refine g_iload_n C dX12_combine_46 rfl ?_
  refine g_callV C (As := [.int (nI (op)), .int (nI (a)), .int (nI (b))]) (m_makes hMa hS hM hX hB) vo_X12_231 dX12_combine_47 rfl rfl (by decide) rfl (rm_ok (M' := MX12_combine) hR (by decide)) (Nat.le_of_ble_eq_true rfl) (fun v9 SM h9 => ?_)
  obtain ⟨rfl, g1, g2⟩ := h9
  replace g1 : MkF δ acc Dm SM (bf δ k0) := g1
  have hS9 : GS SM := hS.fn g2.1
  have hM9 : MSt SM A := hM.fs g2.fs
  have hc9 : cM δ acc (bf δ k0) ≤ 740 := g1.c9
  refine g_n0 [] rfl rfl rfl ?_
  refine g_aload_n C dX12_combine_50 rfl ?_
  refine g_getI C (a := (nI (cM δ acc (bf δ k0)))) fo_X12_222 dX12_combine_51 rfl (by decide) (fun _ => rfl) g1.2.2.2.2.2.2.2 ?_
  refine n_bipush C 6 dX12_combine_54 ?_
  refine n_ic_le C 67 dX12_combine_56 (fun h56 => absurd h56 (by omega)) (fun h56 => ?_)
  refine g_aload_n C dX12_combine_59 rfl ?_
  refine n_iconst C 3 dX12_combine_60 ?_
  refine g_callV C (As := [.int (nI (3))]) (k_fails _ hS9) vo_X12_136 dX12_combine_61 rfl rfl (by decide) rfl (rm_ok (M' := MX12_combine) hR (by decide)) (Nat.le_of_ble_eq_true rfl) (fun v9 S9 h9 => ?_)
  obtain ⟨rfl, h9⟩ := h9
  refine g_S (wI SM 75 (va_up (mI SM 75) 0 (nI 3))) h9 ?_
  refine g_n0 [.int (nI (0))] rfl rfl rfl ?_
  refine g_goto C 73 dX12_combine_64 (by decide) ?_
  exact g_iret C E dX12_combine_73 (by rw [hR]; decide) (by rw [hR]; decide) ⟨rfl, th_0, hM9.fs th_fs, g2.fs.mC.tr th_fs.mC⟩

set_option maxRecDepth 100000 in
theorem m_combine_o (l : Launch) {S : pv_M} {p : Int32} (hS : GS S) {q1 q2 q3 : Int32} (h : badI p 5) : mt l MX12_combine 106 [.ref 75, .int (p), .int (q1), .int (q2), .int (q3)] S (fun v S' => v = some (.int (nI 0)) ∧ S' = th S 1) := by
  refine mt_of (by decide) (Nat.le_of_ble_eq_true rfl) ?_
  intro x hl hR hmL C E
  show GG x 106 0 0 [.ref 75, .int (p), .int (q1), .int (q2), .int (q3)] [] S 0
  refine g_iload_n C dX12_combine_0 rfl ?_
  refine n_iconst C 0 dX12_combine_1 ?_
  refine n_iconst C 4 dX12_combine_2 ?_
  refine g_callS C (k_inF _ (in_badP (m := 5) h (by decide) (by decide))) so_X12_102 dX12_combine_3 rfl rfl (rm_ok (M' := MX12_combine) hR (by decide)) (Nat.le_of_ble_eq_true rfl) (fun v9 S9 h9 => ?_)
  obtain ⟨rfl, h9⟩ := h9
  refine g_S S h9 ?_
  refine g_n0 [.int (bI (false))] rfl rfl rfl ?_
  refine b_if_ne C 15 dX12_combine_6 (fun h6 => absurd h6 (by decide)) (fun h6 => ?_)
  refine g_aload_n C dX12_combine_9 rfl ?_
  refine n_iconst C 1 dX12_combine_10 ?_
  refine g_callV C (As := [.int (nI (1))]) (k_fails _ hS) vo_X12_136 dX12_combine_11 rfl rfl (by decide) rfl (rm_ok (M' := MX12_combine) hR (by decide)) (Nat.le_of_ble_eq_true rfl) (fun v9 S9 h9 => ?_)
  obtain ⟨rfl, h9⟩ := h9
  refine g_S (wI S 75 (va_up (mI S 75) 0 (nI 1))) h9 ?_
  refine g_n0 [.int (nI (0))] rfl rfl rfl ?_
  exact g_iret C E dX12_combine_14 (by rw [hR]; decide) (by rw [hR]; decide) ⟨rfl, rfl⟩

set_option maxRecDepth 100000 in
theorem m_combine_a (l : Launch) {S : pv_M} {p : Int32} (hS : GS S) {op : Nat} {q2 q3 : Int32} (hp : op < 5) (h : badI p 3) : mt l MX12_combine 106 [.ref 75, .int (nI (op)), .int (p), .int (q2), .int (q3)] S (fun v S' => v = some (.int (nI 0)) ∧ S' = th S 2) := by
  refine mt_of (by decide) (Nat.le_of_ble_eq_true rfl) ?_
  intro x hl hR hmL C E
  show GG x 106 0 0 [.ref 75, .int (nI (op)), .int (p), .int (q2), .int (q3)] [] S 0
  refine g_iload_n C dX12_combine_0 rfl ?_
  refine n_iconst C 0 dX12_combine_1 ?_
  refine n_iconst C 4 dX12_combine_2 ?_
  refine g_callS C (k_in _ (in_lo (by omega)) (in_hi (m := 5) hp (by decide))) so_X12_102 dX12_combine_3 rfl rfl (rm_ok (M' := MX12_combine) hR (by decide)) (Nat.le_of_ble_eq_true rfl) (fun v9 S9 h9 => ?_)
  obtain ⟨rfl, h9⟩ := h9
  refine g_S S h9 ?_
  refine g_n0 [.int (bI (true))] rfl rfl rfl ?_
  refine b_if_ne C 15 dX12_combine_6 (fun h6 => ?_) (fun h6 => absurd h6 (by decide))
  refine g_iload_n C dX12_combine_15 rfl ?_
  refine g_callS C (k_isRegisterF _ h) so_X12_106 dX12_combine_16 rfl rfl (rm_ok (M' := MX12_combine) hR (by decide)) (Nat.le_of_ble_eq_true rfl) (fun v9 S9 h9 => ?_)
  obtain ⟨rfl, h9⟩ := h9
  refine g_S S h9 ?_
  refine g_n0 [.int (bI (false))] rfl rfl rfl ?_
  refine b_if_eq C 37 dX12_combine_19 (fun h19 => ?_) (fun h19 => absurd h19 (by decide))
  refine g_aload_n C dX12_combine_37 rfl ?_
  refine n_iconst C 2 dX12_combine_38 ?_
  refine g_callV C (As := [.int (nI (2))]) (k_fails _ hS) vo_X12_136 dX12_combine_39 rfl rfl (by decide) rfl (rm_ok (M' := MX12_combine) hR (by decide)) (Nat.le_of_ble_eq_true rfl) (fun v9 S9 h9 => ?_)
  obtain ⟨rfl, h9⟩ := h9
  refine g_S (wI S 75 (va_up (mI S 75) 0 (nI 2))) h9 ?_
  refine g_n0 [.int (nI (0))] rfl rfl rfl ?_
  exact g_iret C E dX12_combine_42 (by rw [hR]; decide) (by rw [hR]; decide) ⟨rfl, rfl⟩

set_option maxRecDepth 100000 in
theorem m_combine_b (l : Launch) {S : pv_M} {p : Int32} (hS : GS S) {op a : Nat} {q3 : Int32} (hp : op < 5) (hja : a < 3) (h : badI p 3) : mt l MX12_combine 106 [.ref 75, .int (nI (op)), .int (nI (a)), .int (p), .int (q3)] S (fun v S' => v = some (.int (nI 0)) ∧ S' = th S 2) := by
  refine mt_of (by decide) (Nat.le_of_ble_eq_true rfl) ?_
  intro x hl hR hmL C E
  show GG x 106 0 0 [.ref 75, .int (nI (op)), .int (nI (a)), .int (p), .int (q3)] [] S 0
  refine g_iload_n C dX12_combine_0 rfl ?_
  refine n_iconst C 0 dX12_combine_1 ?_
  refine n_iconst C 4 dX12_combine_2 ?_
  refine g_callS C (k_in _ (in_lo (by omega)) (in_hi (m := 5) hp (by decide))) so_X12_102 dX12_combine_3 rfl rfl (rm_ok (M' := MX12_combine) hR (by decide)) (Nat.le_of_ble_eq_true rfl) (fun v9 S9 h9 => ?_)
  obtain ⟨rfl, h9⟩ := h9
  refine g_S S h9 ?_
  refine g_n0 [.int (bI (true))] rfl rfl rfl ?_
  refine b_if_ne C 15 dX12_combine_6 (fun h6 => ?_) (fun h6 => absurd h6 (by decide))
  refine g_iload_n C dX12_combine_15 rfl ?_
  refine g_callS C (k_isRegister _ hja) so_X12_106 dX12_combine_16 rfl rfl (rm_ok (M' := MX12_combine) hR (by decide)) (Nat.le_of_ble_eq_true rfl) (fun v9 S9 h9 => ?_)
  obtain ⟨rfl, h9⟩ := h9
  refine g_S S h9 ?_
  refine g_n0 [.int (bI (true))] rfl rfl rfl ?_
  refine b_if_eq C 37 dX12_combine_19 (fun h19 => absurd h19 (by decide)) (fun h19 => ?_)
  refine g_iload_n C dX12_combine_22 rfl ?_
  refine g_callS C (k_isRegisterF _ h) so_X12_106 dX12_combine_23 rfl rfl (rm_ok (M' := MX12_combine) hR (by decide)) (Nat.le_of_ble_eq_true rfl) (fun v9 S9 h9 => ?_)
  obtain ⟨rfl, h9⟩ := h9
  refine g_S S h9 ?_
  refine g_n0 [.int (bI (false))] rfl rfl rfl ?_
  refine b_if_eq C 37 dX12_combine_26 (fun h26 => ?_) (fun h26 => absurd h26 (by decide))
  refine g_aload_n C dX12_combine_37 rfl ?_
  refine n_iconst C 2 dX12_combine_38 ?_
  refine g_callV C (As := [.int (nI (2))]) (k_fails _ hS) vo_X12_136 dX12_combine_39 rfl rfl (by decide) rfl (rm_ok (M' := MX12_combine) hR (by decide)) (Nat.le_of_ble_eq_true rfl) (fun v9 S9 h9 => ?_)
  obtain ⟨rfl, h9⟩ := h9
  refine g_S (wI S 75 (va_up (mI S 75) 0 (nI 2))) h9 ?_
  refine g_n0 [.int (nI (0))] rfl rfl rfl ?_
  exact g_iret C E dX12_combine_42 (by rw [hR]; decide) (by rw [hR]; decide) ⟨rfl, rfl⟩

set_option maxRecDepth 100000 in
theorem m_combine_t (l : Launch) {S : pv_M} {p : Int32} (hS : GS S) {op a b : Nat} (hp : op < 5) (hja : a < 3) (hjb : b < 3) (h : badI p 3) : mt l MX12_combine 106 [.ref 75, .int (nI (op)), .int (nI (a)), .int (nI (b)), .int (p)] S (fun v S' => v = some (.int (nI 0)) ∧ S' = th S 2) := by
  refine mt_of (by decide) (Nat.le_of_ble_eq_true rfl) ?_
  intro x hl hR hmL C E
  show GG x 106 0 0 [.ref 75, .int (nI (op)), .int (nI (a)), .int (nI (b)), .int (p)] [] S 0
  refine g_iload_n C dX12_combine_0 rfl ?_
  refine n_iconst C 0 dX12_combine_1 ?_
  refine n_iconst C 4 dX12_combine_2 ?_
  refine g_callS C (k_in _ (in_lo (by omega)) (in_hi (m := 5) hp (by decide))) so_X12_102 dX12_combine_3 rfl rfl (rm_ok (M' := MX12_combine) hR (by decide)) (Nat.le_of_ble_eq_true rfl) (fun v9 S9 h9 => ?_)
  obtain ⟨rfl, h9⟩ := h9
  refine g_S S h9 ?_
  refine g_n0 [.int (bI (true))] rfl rfl rfl ?_
  refine b_if_ne C 15 dX12_combine_6 (fun h6 => ?_) (fun h6 => absurd h6 (by decide))
  refine g_iload_n C dX12_combine_15 rfl ?_
  refine g_callS C (k_isRegister _ hja) so_X12_106 dX12_combine_16 rfl rfl (rm_ok (M' := MX12_combine) hR (by decide)) (Nat.le_of_ble_eq_true rfl) (fun v9 S9 h9 => ?_)
  obtain ⟨rfl, h9⟩ := h9
  refine g_S S h9 ?_
  refine g_n0 [.int (bI (true))] rfl rfl rfl ?_
  refine b_if_eq C 37 dX12_combine_19 (fun h19 => absurd h19 (by decide)) (fun h19 => ?_)
  refine g_iload_n C dX12_combine_22 rfl ?_
  refine g_callS C (k_isRegister _ hjb) so_X12_106 dX12_combine_23 rfl rfl (rm_ok (M' := MX12_combine) hR (by decide)) (Nat.le_of_ble_eq_true rfl) (fun v9 S9 h9 => ?_)
  obtain ⟨rfl, h9⟩ := h9
  refine g_S S h9 ?_
  refine g_n0 [.int (bI (true))] rfl rfl rfl ?_
  refine b_if_eq C 37 dX12_combine_26 (fun h26 => absurd h26 (by decide)) (fun h26 => ?_)
  refine g_iload C dX12_combine_29 rfl ?_
  refine g_callS C (k_isRegisterF _ h) so_X12_106 dX12_combine_31 rfl rfl (rm_ok (M' := MX12_combine) hR (by decide)) (Nat.le_of_ble_eq_true rfl) (fun v9 S9 h9 => ?_)
  obtain ⟨rfl, h9⟩ := h9
  refine g_S S h9 ?_
  refine g_n0 [.int (bI (false))] rfl rfl rfl ?_
  refine b_if_ne C 43 dX12_combine_34 (fun h34 => absurd h34 (by decide)) (fun h34 => ?_)
  refine g_aload_n C dX12_combine_37 rfl ?_
  refine n_iconst C 2 dX12_combine_38 ?_
  refine g_callV C (As := [.int (nI (2))]) (k_fails _ hS) vo_X12_136 dX12_combine_39 rfl rfl (by decide) rfl (rm_ok (M' := MX12_combine) hR (by decide)) (Nat.le_of_ble_eq_true rfl) (fun v9 S9 h9 => ?_)
  obtain ⟨rfl, h9⟩ := h9
  refine g_S (wI S 75 (va_up (mI S 75) 0 (nI 2))) h9 ?_
  refine g_n0 [.int (nI (0))] rfl rfl rfl ?_
  exact g_iret C E dX12_combine_42 (by rw [hR]; decide) (by rw [hR]; decide) ⟨rfl, rfl⟩

set_option maxRecDepth 100000 in
theorem m_takeDifference_eq (l : Launch) {a b : Nat} (hja : a < 3) (hjb : b < 3) {S : pv_M} {A : Ab} {k0 : Nat} {δ : Nat → Nat → Nat} {acc : Nat → Bool} {Dm : Nat → Prop} {X : pv_M → Prop} (hS : GS S) (hM : MSt S A) (hX : X S) (hMa : MMach l A 3 a b k0 δ acc Dm X) (hB : (bf δ k0).length ≤ 740) (hno : ∀ j, j < (bf δ k0).length → acc ((bf δ k0).getD j 0) = false) : mt l MX12_takeDifference 106 [.ref 75, .int (nI (a)), .int (nI (b))] S (fun v S' => v = some (.int (nI 0)) ∧ mI S' 75 0 = nI 2 ∧ MSt S' A ∧ FN mC S S') := by
  refine mt_of (by decide) (Nat.le_of_ble_eq_true rfl) ?_
  intro x hl hR hmL C E
  show GG x 106 0 0 [.ref 75, .int (nI (a)), .int (nI (b)), unk] [] S 0
  subst hl
  refine g_iload_n C dX12_takeDifference_0 rfl ?_
  refine g_callS C (k_isRegister _ hja) so_X12_106 dX12_takeDifference_1 rfl rfl (rm_ok (M' := MX12_takeDifference) hR (by decide)) (Nat.le_of_ble_eq_true rfl) (fun v9 S9 h9 => ?_)
  obtain ⟨rfl, h9⟩ := h9
  refine g_S S h9 ?_
  refine g_n0 [.int (bI (true))] rfl rfl rfl ?_
  refine b_if_eq C 14 dX12_takeDifference_4 (fun h4 => absurd h4 (by decide)) (fun h4 => ?_)
  refine g_iload_n C dX12_takeDifference_7 rfl ?_
  refine g_callS C (k_isRegister _ hjb) so_X12_106 dX12_takeDifference_8 rfl rfl (rm_ok (M' := MX12_takeDifference) hR (by decide)) (Nat.le_of_ble_eq_true rfl) (fun v9 S9 h9 => ?_)
  obtain ⟨rfl, h9⟩ := h9
  refine g_S S h9 ?_
  refine g_n0 [.int (bI (true))] rfl rfl rfl ?_
  refine b_if_ne C 20 dX12_takeDifference_11 (fun h11 => ?_) (fun h11 => absurd h11 (by decide))
  refine g_aload_n C dX12_takeDifference_20 rfl ?_
  refine n_iconst C 3 dX12_takeDifference_21 ?_
  refine g_iload_n C dX12_takeDifference_22 rfl ?_
  refine g_iload_n C dX12_takeDifference_23 rfl ?_
  refine g_callV C (As := [.int (nI (3)), .int (nI (a)), .int (nI (b))]) (m_makes hMa hS hM hX hB) vo_X12_231 dX12_takeDifference_24 rfl rfl (by decide) rfl (rm_ok (M' := MX12_takeDifference) hR (by decide)) (Nat.le_of_ble_eq_true rfl) (fun v9 SM h9 => ?_)
  obtain ⟨rfl, g1, g2⟩ := h9
  replace g1 : MkF δ acc Dm SM (bf δ k0) := g1
  have hS9 : GS SM := hS.fn g2.1
  have hM9 : MSt SM A := hM.fs g2.fs
  have hc9 : cM δ acc (bf δ k0) ≤ 740 := g1.c9
  refine g_n0 [] rfl rfl rfl ?_
  refine g_aload_n C dX12_takeDifference_27 rfl ?_
  refine g_callV C (As := []) (k_fw_none _ hS9 g1.1.1 g1.1.2.2.2.2 g1.2.2.2.2.1 hno) vo_X12_260 dX12_takeDifference_28 rfl rfl (by decide) rfl (rm_ok (M' := MX12_takeDifference) hR (by decide)) (Nat.le_of_ble_eq_true rfl) (fun v9 S9 h9 => ?_)
  obtain ⟨rfl, h9⟩ := h9
  refine g_S SM h9 ?_
  refine g_n0 [.int (-1)] rfl rfl rfl ?_
  refine g_istore_n C (by rw [hmL]; decide) dX12_takeDifference_31 [.ref 75, .int (nI (a)), .int (nI (b)), .int (-1)] rfl ?_
  refine g_iload_n C dX12_takeDifference_32 rfl ?_
  refine g_if_ge C 53 dX12_takeDifference_33 (by decide) (fun h33 => absurd h33 (by decide)) (fun h33 => ?_)
  refine g_aload_n C dX12_takeDifference_36 rfl ?_
  refine g_iload_n C dX12_takeDifference_37 rfl ?_
  refine g_iconst C (-1) dX12_takeDifference_38 (by decide) ?_
  refine g_ic_ne C 46 dX12_takeDifference_39 (by decide) (fun h39 => absurd rfl h39) (fun h39 => ?_)
  refine n_iconst C 2 dX12_takeDifference_42 ?_
  refine g_goto C 47 dX12_takeDifference_43 (by decide) ?_
  refine g_callV C (As := [.int (nI (2))]) (k_fails _ hS9) vo_X12_136 dX12_takeDifference_47 rfl rfl (by decide) rfl (rm_ok (M' := MX12_takeDifference) hR (by decide)) (Nat.le_of_ble_eq_true rfl) (fun v9 S9 h9 => ?_)
  obtain ⟨rfl, h9⟩ := h9
  refine g_S (wI SM 75 (va_up (mI SM 75) 0 (nI 2))) h9 ?_
  refine g_n0 [.int (nI (0))] rfl rfl rfl ?_
  refine g_goto C 58 dX12_takeDifference_50 (by decide) ?_
  exact g_iret C E dX12_takeDifference_58 (by rw [hR]; decide) (by rw [hR]; decide) ⟨rfl, th_0, hM9.fs th_fs, g2.fs.mC.tr th_fs.mC⟩

/-- by which place each number came first: told by the graph alone -/
theorem Or_uniq {k : Nat} {nx O O' : Nat → Nat} (h : Or_ k nx O) (h' : Or_ k nx O') : ∀ j, j < k → O j = O' j := by
  intro j hj
  by_cases e : j = 0
  · rw [e, h.1, h'.1]
  · have a := h.2 j (by omega) hj
    have b := h'.2 j (by omega) hj
    rcases Nat.lt_trichotomy (O j) (O' j) with q | q | q
    · exact absurd a.2.2.1 (b.2.2.2 _ q)
    · exact q
    · exact absurd b.2.2.1 (a.2.2.2 _ q)

set_option maxRecDepth 100000 in
theorem m_takeDifference_long (l : Launch) {a b : Nat} (hja : a < 3) (hjb : b < 3) {S : pv_M} {A : Ab} {k0 : Nat} {δ : Nat → Nat → Nat} {acc : Nat → Bool} {Dm : Nat → Prop} {X : pv_M → Prop} (hS : GS S) (hM : MSt S A) (hX : X S) (hMa : MMach l A 3 a b k0 δ acc Dm X) (hB : (bf δ k0).length ≤ 740) {s : Nat} (hs : s < (bf δ k0).length) (hs1 : acc ((bf δ k0).getD s 0) = true) (hs2 : ∀ j, j < s → acc ((bf δ k0).getD j 0) = false) {O : Nat → Nat} (hOr : Or_ (bf δ k0).length (nxt δ (bf δ k0)) O) (hW : 12 < wl O (bf δ k0).length s) : mt l MX12_takeDifference 106 [.ref 75, .int (nI (a)), .int (nI (b))] S (fun v S' => v = some (.int (nI 0)) ∧ mI S' 75 0 = nI 3 ∧ MSt S' A ∧ FN mC S S') := by
  refine mt_of (by decide) (Nat.le_of_ble_eq_true rfl) ?_
  intro x hl hR hmL C E
  show GG x 106 0 0 [.ref 75, .int (nI (a)), .int (nI (b)), unk] [] S 0
  subst hl
  refine g_iload_n C dX12_takeDifference_0 rfl ?_
  refine g_callS C (k_isRegister _ hja) so_X12_106 dX12_takeDifference_1 rfl rfl (rm_ok (M' := MX12_takeDifference) hR (by decide)) (Nat.le_of_ble_eq_true rfl) (fun v9 S9 h9 => ?_)
  obtain ⟨rfl, h9⟩ := h9
  refine g_S S h9 ?_
  refine g_n0 [.int (bI (true))] rfl rfl rfl ?_
  refine b_if_eq C 14 dX12_takeDifference_4 (fun h4 => absurd h4 (by decide)) (fun h4 => ?_)
  refine g_iload_n C dX12_takeDifference_7 rfl ?_
  refine g_callS C (k_isRegister _ hjb) so_X12_106 dX12_takeDifference_8 rfl rfl (rm_ok (M' := MX12_takeDifference) hR (by decide)) (Nat.le_of_ble_eq_true rfl) (fun v9 S9 h9 => ?_)
  obtain ⟨rfl, h9⟩ := h9
  refine g_S S h9 ?_
  refine g_n0 [.int (bI (true))] rfl rfl rfl ?_
  refine b_if_ne C 20 dX12_takeDifference_11 (fun h11 => ?_) (fun h11 => absurd h11 (by decide))
  refine g_aload_n C dX12_takeDifference_20 rfl ?_
  refine n_iconst C 3 dX12_takeDifference_21 ?_
  refine g_iload_n C dX12_takeDifference_22 rfl ?_
  refine g_iload_n C dX12_takeDifference_23 rfl ?_
  refine g_callV C (As := [.int (nI (3)), .int (nI (a)), .int (nI (b))]) (m_makes hMa hS hM hX hB) vo_X12_231 dX12_takeDifference_24 rfl rfl (by decide) rfl (rm_ok (M' := MX12_takeDifference) hR (by decide)) (Nat.le_of_ble_eq_true rfl) (fun v9 SM h9 => ?_)
  obtain ⟨rfl, g1, g2⟩ := h9
  replace g1 : MkF δ acc Dm SM (bf δ k0) := g1
  have hS9 : GS SM := hS.fn g2.1
  have hM9 : MSt SM A := hM.fs g2.fs
  have hc9 : cM δ acc (bf δ k0) ≤ 740 := g1.c9
  refine g_n0 [] rfl rfl rfl ?_
  obtain ⟨O2, o0, o1, o2⟩ := g1.2.2.2.2.2.1
  have hO9 : ∀ j, 0 < j → j < (bf δ k0).length → mI SM 91 j = nI (O j / 3) ∧ mI SM 92 j = nI (O j % 3) := fun j h1 h2 => by rw [Or_uniq hOr o1 j h2]; exact o2 j h1 h2
  have hOl : ∀ j, 0 < j → j < (bf δ k0).length → O j / 3 < j := fun j h1 h2 => (hOr.2 j h1 h2).2.1
  refine g_aload_n C dX12_takeDifference_27 rfl ?_
  refine g_callV C (As := []) (k_fw_long _ hS9 g1.1.1 g1.1.2.2.2.2 g1.2.2.2.2.1 hOl (fun j h1 h2 => (hO9 j h1 h2).1) hs hs1 hs2 hW) vo_X12_260 dX12_takeDifference_28 rfl rfl (by decide) rfl (rm_ok (M' := MX12_takeDifference) hR (by decide)) (Nat.le_of_ble_eq_true rfl) (fun v9 S9 h9 => ?_)
  obtain ⟨rfl, h9⟩ := h9
  refine g_S SM h9 ?_
  refine g_n0 [.int (-2)] rfl rfl rfl ?_
  refine g_istore_n C (by rw [hmL]; decide) dX12_takeDifference_31 [.ref 75, .int (nI (a)), .int (nI (b)), .int (-2)] rfl ?_
  refine g_iload_n C dX12_takeDifference_32 rfl ?_
  refine g_if_ge C 53 dX12_takeDifference_33 (by decide) (fun h33 => absurd h33 (by decide)) (fun h33 => ?_)
  refine g_aload_n C dX12_takeDifference_36 rfl ?_
  refine g_iload_n C dX12_takeDifference_37 rfl ?_
  refine g_iconst C (-1) dX12_takeDifference_38 (by decide) ?_
  refine g_ic_ne C 46 dX12_takeDifference_39 (by decide) (fun h39 => ?_) (fun h39 => absurd h39 (by decide))
  refine n_iconst C 3 dX12_takeDifference_46 ?_
  refine g_callV C (As := [.int (nI (3))]) (k_fails _ hS9) vo_X12_136 dX12_takeDifference_47 rfl rfl (by decide) rfl (rm_ok (M' := MX12_takeDifference) hR (by decide)) (Nat.le_of_ble_eq_true rfl) (fun v9 S9 h9 => ?_)
  obtain ⟨rfl, h9⟩ := h9
  refine g_S (wI SM 75 (va_up (mI SM 75) 0 (nI 3))) h9 ?_
  refine g_n0 [.int (nI (0))] rfl rfl rfl ?_
  refine g_goto C 58 dX12_takeDifference_50 (by decide) ?_
  exact g_iret C E dX12_takeDifference_58 (by rw [hR]; decide) (by rw [hR]; decide) ⟨rfl, th_0, hM9.fs th_fs, g2.fs.mC.tr th_fs.mC⟩

set_option maxRecDepth 100000 in
theorem m_takeDifference (l : Launch) {a b : Nat} (hja : a < 3) (hjb : b < 3) {S : pv_M} {A : Ab} {k0 : Nat} {δ : Nat → Nat → Nat} {acc : Nat → Bool} {Dm : Nat → Prop} {X : pv_M → Prop} (hS : GS S) (hM : MSt S A) (hX : X S) (hMa : MMach l A 3 a b k0 δ acc Dm X) (hB : (bf δ k0).length ≤ 740) {s : Nat} (hs : s < (bf δ k0).length) (hs1 : acc ((bf δ k0).getD s 0) = true) (hs2 : ∀ j, j < s → acc ((bf δ k0).getD j 0) = false) {O : Nat → Nat} (hOr : Or_ (bf δ k0).length (nxt δ (bf δ k0)) O) (hW : wl O (bf δ k0).length s ≤ 12) : mt l MX12_takeDifference 106 [.ref 75, .int (nI (a)), .int (nI (b))] S (fun v S' => v = some (.int (nI (wl O (bf δ k0).length s))) ∧ mI S' 75 0 = nI 0 ∧ MSt S' (setW A (wl O (bf δ k0).length s, fw O (bf δ k0).length s (wL A))) ∧ FN mC S S') := by
  refine mt_of (by decide) (Nat.le_of_ble_eq_true rfl) ?_
  intro x hl hR hmL C E
  show GG x 106 0 0 [.ref 75, .int (nI (a)), .int (nI (b)), unk] [] S 0
  subst hl
  refine g_iload_n C dX12_takeDifference_0 rfl ?_
  refine g_callS C (k_isRegister _ hja) so_X12_106 dX12_takeDifference_1 rfl rfl (rm_ok (M' := MX12_takeDifference) hR (by decide)) (Nat.le_of_ble_eq_true rfl) (fun v9 S9 h9 => ?_)
  obtain ⟨rfl, h9⟩ := h9
  refine g_S S h9 ?_
  refine g_n0 [.int (bI (true))] rfl rfl rfl ?_
  refine b_if_eq C 14 dX12_takeDifference_4 (fun h4 => absurd h4 (by decide)) (fun h4 => ?_)
  refine g_iload_n C dX12_takeDifference_7 rfl ?_
  refine g_callS C (k_isRegister _ hjb) so_X12_106 dX12_takeDifference_8 rfl rfl (rm_ok (M' := MX12_takeDifference) hR (by decide)) (Nat.le_of_ble_eq_true rfl) (fun v9 S9 h9 => ?_)
  obtain ⟨rfl, h9⟩ := h9
  refine g_S S h9 ?_
  refine g_n0 [.int (bI (true))] rfl rfl rfl ?_
  refine b_if_ne C 20 dX12_takeDifference_11 (fun h11 => ?_) (fun h11 => absurd h11 (by decide))
  refine g_aload_n C dX12_takeDifference_20 rfl ?_
  refine n_iconst C 3 dX12_takeDifference_21 ?_
  refine g_iload_n C dX12_takeDifference_22 rfl ?_
  refine g_iload_n C dX12_takeDifference_23 rfl ?_
  refine g_callV C (As := [.int (nI (3)), .int (nI (a)), .int (nI (b))]) (m_makes hMa hS hM hX hB) vo_X12_231 dX12_takeDifference_24 rfl rfl (by decide) rfl (rm_ok (M' := MX12_takeDifference) hR (by decide)) (Nat.le_of_ble_eq_true rfl) (fun v9 SM h9 => ?_)
  obtain ⟨rfl, g1, g2⟩ := h9
  replace g1 : MkF δ acc Dm SM (bf δ k0) := g1
  have hS9 : GS SM := hS.fn g2.1
  have hM9 : MSt SM A := hM.fs g2.fs
  have hc9 : cM δ acc (bf δ k0) ≤ 740 := g1.c9
  refine g_n0 [] rfl rfl rfl ?_
  obtain ⟨O2, o0, o1, o2⟩ := g1.2.2.2.2.2.1
  have hO9 : ∀ j, 0 < j → j < (bf δ k0).length → mI SM 91 j = nI (O j / 3) ∧ mI SM 92 j = nI (O j % 3) := fun j h1 h2 => by rw [Or_uniq hOr o1 j h2]; exact o2 j h1 h2
  have hOl : ∀ j, 0 < j → j < (bf δ k0).length → O j / 3 < j := fun j h1 h2 => (hOr.2 j h1 h2).2.1
  refine g_aload_n C dX12_takeDifference_27 rfl ?_
  refine g_callV C (As := []) (k_fw_ok _ hS9 g1.1.1 g1.1.2.2.2.2 g1.2.2.2.2.1 hOl (fun j h1 h2 => (hO9 j h1 h2).1) hs hs1 hs2 hM9 (fun j h1 h2 => (hO9 j h1 h2).2) hW) vo_X12_260 dX12_takeDifference_28 rfl rfl (by decide) rfl (rm_ok (M' := MX12_takeDifference) hR (by decide)) (Nat.le_of_ble_eq_true rfl) (fun v9 S7 h9 => ?_)
  obtain ⟨rfl, w1, w2⟩ := h9
  have hS7 : GS S7 := hS9.fn w2
  refine g_n0 [.int (nI (wl O (bf δ k0).length s))] rfl rfl rfl ?_
  refine g_istore_n C (by rw [hmL]; decide) dX12_takeDifference_31 [.ref 75, .int (nI (a)), .int (nI (b)), .int (nI (wl O (bf δ k0).length s))] rfl ?_
  refine g_iload_n C dX12_takeDifference_32 rfl ?_
  refine g_if_ge C 53 dX12_takeDifference_33 (by decide) (fun h33 => ?_) (fun h33 => absurd (show nI 0 ≤ nI (wl O (bf δ k0).length s) from (nI_leI (by decide) (by omega)).mpr (Nat.zero_le _)) h33)
  refine g_aload_n C dX12_takeDifference_53 rfl ?_
  refine g_iload_n C dX12_takeDifference_54 rfl ?_
  refine g_callV C (As := [.int (nI (wl O (bf δ k0).length s))]) (k_done _ hS7) vo_X12_132 dX12_takeDifference_55 rfl rfl (by decide) rfl (rm_ok (M' := MX12_takeDifference) hR (by decide)) (Nat.le_of_ble_eq_true rfl) (fun v9 S9 h9 => ?_)
  obtain ⟨rfl, h9⟩ := h9
  refine g_S (wI S7 75 (va_up (mI S7 75) 0 (nI 0))) h9 ?_
  refine g_n0 [.int (nI (wl O (bf δ k0).length s))] rfl rfl rfl ?_
  exact g_iret C E dX12_takeDifference_58 (by rw [hR]; decide) (by rw [hR]; decide) ⟨rfl, th_0, w1.fs th_fs, (g2.fs.mC.tr w2).tr th_fs.mC⟩

set_option maxRecDepth 100000 in
theorem m_takeDifference_r (l : Launch) {S : pv_M} {p : Int32} (hS : GS S) (h : badI p 3) {q : Int32} : mt l MX12_takeDifference 106 [.ref 75, .int (p), .int (q)] S (fun v S' => v = some (.int (nI 0)) ∧ S' = th S 1) := by
  refine mt_of (by decide) (Nat.le_of_ble_eq_true rfl) ?_
  intro x hl hR hmL C E
  show GG x 106 0 0 [.ref 75, .int (p), .int (q), unk] [] S 0
  refine g_iload_n C dX12_takeDifference_0 rfl ?_
  refine g_callS C (k_isRegisterF _ h) so_X12_106 dX12_takeDifference_1 rfl rfl (rm_ok (M' := MX12_takeDifference) hR (by decide)) (Nat.le_of_ble_eq_true rfl) (fun v9 S9 h9 => ?_)
  obtain ⟨rfl, h9⟩ := h9
  refine g_S S h9 ?_
  refine g_n0 [.int (bI (false))] rfl rfl rfl ?_
  refine b_if_eq C 14 dX12_takeDifference_4 (fun h4 => ?_) (fun h4 => absurd h4 (by decide))
  refine g_aload_n C dX12_takeDifference_14 rfl ?_
  refine n_iconst C 1 dX12_takeDifference_15 ?_
  refine g_callV C (As := [.int (nI (1))]) (k_fails _ hS) vo_X12_136 dX12_takeDifference_16 rfl rfl (by decide) rfl (rm_ok (M' := MX12_takeDifference) hR (by decide)) (Nat.le_of_ble_eq_true rfl) (fun v9 S9 h9 => ?_)
  obtain ⟨rfl, h9⟩ := h9
  refine g_S (wI S 75 (va_up (mI S 75) 0 (nI 1))) h9 ?_
  refine g_n0 [.int (nI (0))] rfl rfl rfl ?_
  exact g_iret C E dX12_takeDifference_19 (by rw [hR]; decide) (by rw [hR]; decide) ⟨rfl, rfl⟩

set_option maxRecDepth 100000 in
theorem m_takeDifference_t (l : Launch) {S : pv_M} {j : Nat} {p : Int32} (hS : GS S) (hj : j < 3) (h : badI p 3) : mt l MX12_takeDifference 106 [.ref 75, .int (nI (j)), .int (p)] S (fun v S' => v = some (.int (nI 0)) ∧ S' = th S 1) := by
  refine mt_of (by decide) (Nat.le_of_ble_eq_true rfl) ?_
  intro x hl hR hmL C E
  show GG x 106 0 0 [.ref 75, .int (nI (j)), .int (p), unk] [] S 0
  refine g_iload_n C dX12_takeDifference_0 rfl ?_
  refine g_callS C (k_isRegister _ hj) so_X12_106 dX12_takeDifference_1 rfl rfl (rm_ok (M' := MX12_takeDifference) hR (by decide)) (Nat.le_of_ble_eq_true rfl) (fun v9 S9 h9 => ?_)
  obtain ⟨rfl, h9⟩ := h9
  refine g_S S h9 ?_
  refine g_n0 [.int (bI (true))] rfl rfl rfl ?_
  refine b_if_eq C 14 dX12_takeDifference_4 (fun h4 => absurd h4 (by decide)) (fun h4 => ?_)
  refine g_iload_n C dX12_takeDifference_7 rfl ?_
  refine g_callS C (k_isRegisterF _ h) so_X12_106 dX12_takeDifference_8 rfl rfl (rm_ok (M' := MX12_takeDifference) hR (by decide)) (Nat.le_of_ble_eq_true rfl) (fun v9 S9 h9 => ?_)
  obtain ⟨rfl, h9⟩ := h9
  refine g_S S h9 ?_
  refine g_n0 [.int (bI (false))] rfl rfl rfl ?_
  refine b_if_ne C 20 dX12_takeDifference_11 (fun h11 => absurd h11 (by decide)) (fun h11 => ?_)
  refine g_aload_n C dX12_takeDifference_14 rfl ?_
  refine n_iconst C 1 dX12_takeDifference_15 ?_
  refine g_callV C (As := [.int (nI (1))]) (k_fails _ hS) vo_X12_136 dX12_takeDifference_16 rfl rfl (by decide) rfl (rm_ok (M' := MX12_takeDifference) hR (by decide)) (Nat.le_of_ble_eq_true rfl) (fun v9 S9 h9 => ?_)
  obtain ⟨rfl, h9⟩ := h9
  refine g_S (wI S 75 (va_up (mI S 75) 0 (nI 1))) h9 ?_
  refine g_n0 [.int (nI (0))] rfl rfl rfl ?_
  exact g_iret C E dX12_takeDifference_19 (by rw [hR]; decide) (by rw [hR]; decide) ⟨rfl, rfl⟩
