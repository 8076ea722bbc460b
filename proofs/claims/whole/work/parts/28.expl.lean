abbrev zCB : MethodName := ⟨"LanguageAtoms$Machine", "codeBound", "()I"⟩
abbrev zSC : MethodName := ⟨"LanguageAtoms$Machine", "startCode", "()I"⟩
abbrev zIA : MethodName := ⟨"LanguageAtoms$Machine", "isAccepting", "(I)Z"⟩
abbrev zFo : MethodName := ⟨"LanguageAtoms$Machine", "follow", "(II)I"⟩
def rq (M : Me) : Prop := M.rm.frames + 1 ≤ MX5_explore.rm.frames ∧ 8 + (M.nL + 11) + M.rm.locals ≤ MX5_explore.rm.locals ∧ M.rm.cells = 0 ∧ M.rm.slots = 0
theorem rq_ok {M : Me} {x : Cx} (h : rq M) (hR : xR x = MX5_explore.rm) : rmOk M x 0 0 := by
  unfold rmOk
  rw [hR, h.2.2.1, h.2.2.2]
  exact ⟨⟨h.1, h.2.1⟩, Nat.le_refl _, Nat.le_refl _⟩
/-- a machine that can be explored: cell m; codes below B, the start c0, the step δ, which codes accept; Dm: the codes that matter; P: what must hold of the state, and isn't touched by the minimizer -/
def Mach (l : Launch) (m B c0 : Nat) (δ : Nat → Nat → Nat) (acc : Nat → Bool) (Dm : Nat → Prop) (P : pv_M → Prop) : Prop :=
  m < 106 ∧ B ≤ 384 ∧ Dm c0 ∧ (∀ c, Dm c → c < B) ∧ (∀ c q, Dm c → q < 3 → Dm (δ c q)) ∧ (∀ S S', P S → FR kM S S' → P S') ∧ ∃ (ci : Nat) (M1 M2 M3 M4 : Me), pv_sh m = .inl ci ∧ (rq M1 ∧ rq M2 ∧ rq M3 ∧ rq M4) ∧ UO RX5 56 ci zCB M1 0 ∧ UO RX5 62 ci zSC M2 0 ∧ UO RX5 69 ci zIA M3 1 ∧ UO RX5 73 ci zFo M4 2 ∧
    (∀ S, P S → mt l M1 106 [.ref m] S (fun v S' => v = some (.int (nI B)) ∧ S' = S)) ∧ (∀ S, P S → mt l M2 106 [.ref m] S (fun v S' => v = some (.int (nI c0)) ∧ S' = S)) ∧
    (∀ S c, P S → Dm c → mt l M3 106 [.ref m, .int (nI c)] S (fun v S' => v = some (.int (bI (acc c))) ∧ S' = S)) ∧ ∀ S c q, P S → Dm c → q < 3 → mt l M4 106 [.ref m, .int (nI c), .int (nI q)] S (fun v S' => v = some (.int (nI (δ c q))) ∧ S' = S)
/-- while the machine is explored: the first t places are filled, the first a states' acceptances -/
def ExP (δ : Nat → Nat → Nat) (acc : Nat → Bool) (Dm : Nat → Prop) (S0 S : pv_M) (B : Nat) (L : List Nat) (O : Nat → Nat) (t a : Nat) : Prop := NuAt S B L O ∧ FN kM S0 S ∧ (∀ c, c ∈ L → Dm c) ∧ (∀ p, p < t → mI S 32 p = nI (nxt δ L p) ∧ δ (L.getD (p / 3) 0) (p % 3) ∈ L) ∧ (∀ j, j < a → mI S 34 j = bI (acc (L.getD j 0))) ∧ O 0 = 0 ∧ ∀ j, 0 < j → j < L.length → O j < t ∧ O j / 3 < j ∧ nxt δ L (O j) = j ∧ ∀ p, p < O j → nxt δ L p ≠ j
theorem NuAt.w32 {S : pv_M} {B : Nat} {L : List Nat} {O : Nat → Nat} {f : Nat → Int32} (h : NuAt S B L O) : NuAt (wI S 32 f) B L O := h
theorem NuAt.w34 {S : pv_M} {B : Nat} {L : List Nat} {O : Nat → Nat} {f : Nat → Int32} (h : NuAt S B L O) : NuAt (wI S 34 f) B L O := h
theorem ExP.step_in {δ : Nat → Nat → Nat} {acc : Nat → Bool} {Dm : Nat → Prop} {S0 S : pv_M} {B : Nat} {L : List Nat} {O : Nat → Nat} {i q a : Nat} (h : ExP δ acc Dm S0 S B L O (i * 3 + q) a) (hq : q < 3) (hin : δ (L.getD i 0) q ∈ L) : ExP δ acc Dm S0 (wI S 32 (va_up (mI S 32) (i * 3 + q) (nI (L.idxOf (δ (L.getD i 0) q))))) B L O (i * 3 + q + 1) a := by
  obtain ⟨h1, h2, h3, h4, h5, h6, h7⟩ := h
  have e1 : (i * 3 + q) / 3 = i := by omega
  have e2 : (i * 3 + q) % 3 = q := by omega
  refine ⟨h1.w32, h2.tr (FN.wI (by decide)), h3, fun p hp => ?_, h5, h6, fun j j1 j2 => ?_⟩
  · by_cases e : p = i * 3 + q
    · subst e
      rw [mI_wI, up_same]
      unfold nxt
      rw [e1, e2]
      exact ⟨rfl, hin⟩
    · rw [mI_wI, va_up_ne _ _ e]
      exact h4 p (by omega)
  · obtain ⟨a1, a2, a3, a4⟩ := h7 j j1 j2
    exact ⟨by omega, a2, a3, a4⟩
theorem nxt_app {δ : Nat → Nat → Nat} {L : List Nat} {c p : Nat} (hc : c ∉ L) (hp : p / 3 < L.length) (hm : δ (L.getD (p / 3) 0) (p % 3) ∈ L) : nxt δ (L ++ [c]) p = nxt δ L p := by
  unfold nxt
  rw [← addc_out hc, addc_getD hp, addc_idx hm]
theorem ExP.step_out {δ : Nat → Nat → Nat} {acc : Nat → Bool} {Dm : Nat → Prop} {S0 S S9 : pv_M} {B : Nat} {L : List Nat} {O : Nat → Nat} {i q a : Nat} (h : ExP δ acc Dm S0 S B L O (i * 3 + q) a) (hi : i < L.length) (ha : a ≤ L.length) (hq : q < 3) (hD : Dm (δ (L.getD i 0) q)) (hin : δ (L.getD i 0) q ∉ L) (g1 : NuAt S9 B (L ++ [δ (L.getD i 0) q]) (va_up O L.length (i * 3 + q))) (g2 : FN kM S S9) (g3 : ∀ r, r ≠ 29 → r ≠ 30 → r ≠ 31 → r ≠ 33 → mI S9 r = mI S r) : ExP δ acc Dm S0 (wI S9 32 (va_up (mI S9 32) (i * 3 + q) (nI L.length))) B (L ++ [δ (L.getD i 0) q]) (va_up O L.length (i * 3 + q)) (i * 3 + q + 1) a := by
  obtain ⟨h1, h2, h3, h4, h5, h6, h7⟩ := h
  have e1 : (i * 3 + q) / 3 = i := by omega
  have e2 : (i * 3 + q) % 3 = q := by omega
  have en : nxt δ (L ++ [δ (L.getD i 0) q]) (i * 3 + q) = L.length := by
    unfold nxt
    rw [e1, e2, ← addc_out hin, addc_getD hi, addc_idx_new hin]
  have eo : ∀ p, p < i * 3 + q → nxt δ (L ++ [δ (L.getD i 0) q]) p = nxt δ L p ∧ nxt δ L p < L.length := fun p hp => ⟨nxt_app hin (by omega) (h4 p hp).2, idx_lt (h4 p hp).2⟩
  refine ⟨g1.w32, (h2.tr g2).tr (FN.wI (by decide)), fun c hc => ?_, fun p hp => ?_, fun j hj => ?_, ?_, fun j j1 j2 => ?_⟩
  · rcases List.mem_append.mp hc with hc | hc
    · exact h3 c hc
    · rw [List.mem_singleton.mp hc]; exact hD
  · by_cases e : p = i * 3 + q
    · subst e
      rw [mI_wI, up_same, en]
      refine ⟨rfl, ?_⟩
      rw [e1, e2, ← addc_out hin, addc_getD hi]
      exact addc_self _ _
    · rw [mI_wI, va_up_ne _ _ e, g3 32 (by decide) (by decide) (by decide) (by decide), (eo p (by omega)).1, ← addc_out hin, addc_getD (by omega)]
      exact ⟨(h4 p (by omega)).1, addc_mono (h4 p (by omega)).2⟩
  · show mI S9 34 j = _
    rw [g3 34 (by decide) (by decide) (by decide) (by decide), ← addc_out hin, addc_getD (by omega)]
    exact h5 j hj
  · rw [va_up_ne _ _ (by omega)]; exact h6
  · by_cases e : j = L.length
    · rw [e, up_same]
      refine ⟨by omega, by omega, en, fun p hp => ?_⟩
      have := eo p hp
      omega
    · have j3 : j < L.length := by simp at j2; omega
      obtain ⟨a1, a2, a3, a4⟩ := h7 j j1 j3
      rw [va_up_ne _ _ e]
      exact ⟨by omega, a2, by rw [(eo _ a1).1]; exact a3, fun p hp => by rw [(eo p (by omega)).1]; exact a4 p hp⟩

set_option maxRecDepth 100000 in
theorem lp_X5_explore_7 {x : Cx} (hR : xR x = MX5_explore.rm) (hmL : (xc x).maxLocals = MX5_explore.nL) (C : BX x cX5_explore RX5) {m B : Nat} {S0 : pv_M} (h384 : B ≤ 384) (t30 : mR S0 29 3 = some 31) (kk : ∀ S, FN kM S0 S → (∀ j, j < B → mI S 31 j = -1) → GG x 106 0 0 [.ref 29, .ref m, .int (nI (B)), .int (nI (B)), unk, unk] [] (S) 25) : ∀ z i (S : pv_M), i + z = B → FN kM S0 S → (∀ j, j < i → mI S 31 j = -1) → GG x 106 0 0 [.ref 29, .ref m, .int (nI (B)), .int (nI (i)), unk, unk] [] (S) 7 := by
  intro z
  induction z with
  | zero =>
    intro i S hi hf hz
    obtain rfl : i = B := by omega
    refine g_iload_n C dX5_explore_7 rfl ?_
    refine g_iload_n C dX5_explore_8 rfl ?_
    refine n_ic_ge C 25 dX5_explore_9 (fun h9 => ?_) (fun h9 => absurd h9 (by omega))
    exact kk S hf hz
  | succ z ih =>
    intro i S hi hf hz
    have t3 : mR S 29 3 = some 31 := by rw [hf.1]; exact t30
    refine g_iload_n C dX5_explore_7 rfl ?_
    refine g_iload_n C dX5_explore_8 rfl ?_
    refine n_ic_ge C 25 dX5_explore_9 (fun h9 => absurd h9 (by omega)) (fun h9 => ?_)
    refine g_aload_n C dX5_explore_12 rfl ?_
    refine g_getR C fo_X5_19 dX5_explore_13 rfl (by decide) (fun _ => rfl) t3 ?_
    refine g_iload_n C dX5_explore_16 rfl ?_
    refine g_iconst C (-1) dX5_explore_17 (by decide) ?_
    refine g_iast C dX5_explore_18 rfl (by decide) (by omega) rfl ?_
    refine n_iinc C (by rw [hmL]; decide) dX5_explore_19 rfl (n_i1 _) [.ref 29, .ref m, .int (nI (B)), .int (nI (i + 1)), unk, unk] ?_
    refine g_goto C 7 dX5_explore_22 (by decide) ?_
    refine ih (i + 1) _ (by omega) (hf.tr (FN.wI (by decide))) (fun j hj => ?_)
    rw [mI_wI]
    by_cases e : j = i
    · rw [e, up_same]
    · rw [va_up_ne _ _ e]; exact hz j (by omega)

set_option maxRecDepth 100000 in
theorem lp_X5_explore_76 {x : Cx} (hR : xR x = MX5_explore.rm) (hmL : (xc x).maxLocals = MX5_explore.nL) (C : BX x cX5_explore RX5) {m B c0 : Nat} {δ : Nat → Nat → Nat} {acc : Nat → Bool} {Dm : Nat → Prop} {P : pv_M → Prop} {S0 : pv_M} (hMa : Mach x.1.2.1 m B c0 δ acc Dm P) (hP0 : P S0) {i : Nat} {L0 : List Nat} (hi0 : i < L0.length) (kk : ∀ S L O, L = addq δ (L0.getD i 0) 3 L0 → ExP δ acc Dm S0 S B L O (i * 3 + 3) (i + 1) → i < L.length → GG x 106 0 0 [.ref 29, .ref m, .int (nI (B)), .int (nI (i)), .int (nI (3)), unk] [] (S) 121) : ∀ z q (S : pv_M) (L : List Nat) (O : Nat → Nat), q + z = 3 → L = addq δ (L0.getD i 0) q L0 → ExP δ acc Dm S0 S B L O (i * 3 + q) (i + 1) → i < L.length → L.getD i 0 = L0.getD i 0 → GG x 106 0 0 [.ref 29, .ref m, .int (nI (B)), .int (nI (i)), .int (nI (q)), unk] [] (S) 76 := by
  obtain ⟨mm, m384, mD0, mlt, mD, mP, ci, M1, M2, M3, M4, ms, ⟨q1, q2, q3, q4⟩, u1, u2, u3, u4, k1, k2, k3_, k4⟩ := id hMa
  intro z
  induction z with
  | zero =>
    intro q S L O hq hL hE hil hci
    obtain rfl : q = 3 := by omega
    refine g_iload C dX5_explore_76 rfl ?_
    refine n_iconst C 3 dX5_explore_78 ?_
    refine n_ic_ge C 121 dX5_explore_79 (fun h79 => ?_) (fun h79 => absurd h79 (by omega))
    exact kk S L O hL hE hil
  | succ z ih =>
    intro q S L O hq hL hE hil hci
    obtain ⟨⟨t0, t2, t3, t4, t5, t6⟩, hc, h30, h31, h33, hn, hB, h384⟩ := id hE.1
    have hlen := hE.1.len
    have hPS := mP S0 S hP0 hE.2.1.fr
    have hDi : Dm (L.getD i 0) := hE.2.2.1 _ (getD_mem hil)
    have hDn := mD _ q hDi (by omega)
    have hcB := mlt _ hDn
    refine g_iload C dX5_explore_76 rfl ?_
    refine n_iconst C 3 dX5_explore_78 ?_
    refine n_ic_ge C 121 dX5_explore_79 (fun h79 => absurd h79 (by omega)) (fun h79 => ?_)
    refine g_iload_n C dX5_explore_82 rfl ?_
    refine n_iconst C 3 dX5_explore_83 ?_
    refine n_imul C dX5_explore_84 ?_
    refine g_iload C dX5_explore_85 rfl ?_
    refine n_iadd C dX5_explore_87 ?_
    refine g_istore C (by rw [hmL]; decide) dX5_explore_88 [.ref 29, .ref m, .int (nI (B)), .int (nI (i)), .int (nI (q)), .int (nI (((i) * (3)) + (q)))] rfl ?_
    refine g_aload_n C dX5_explore_90 rfl ?_
    refine g_getR C fo_X5_22 dX5_explore_91 rfl (by decide) (fun _ => rfl) t4 ?_
    refine g_iload C dX5_explore_94 rfl ?_
    refine g_aload_n C dX5_explore_96 rfl ?_
    refine g_aload_n C dX5_explore_97 rfl ?_
    refine g_aload_n C dX5_explore_98 rfl ?_
    refine g_getR C fo_X5_15 dX5_explore_99 rfl (by decide) (fun _ => rfl) t2 ?_
    refine g_iload_n C dX5_explore_102 rfl ?_
    refine n_iald C dX5_explore_103 rfl (by decide) (h30 i hil) ?_ (by omega)
    refine g_iload C dX5_explore_104 rfl ?_
    refine g_callU C (As := [.int (nI (L.getD i 0)), .int (nI (q))]) (k4 S _ q hPS hDi (by omega)) u4 dX5_explore_106 rfl ms mm rfl (rq_ok q4 hR) (Nat.le_of_ble_eq_true rfl) (fun v9 S9 h9 => ?_)
    obtain ⟨rfl, h9⟩ := h9
    refine g_S S h9 ?_
    refine g_n0 [.int (nI (δ (L.getD i 0) q)), .ref 29, .int (nI (((i) * (3)) + (q))), .ref 32] (by rw [q4.2.2.1]) (by rw [q4.2.2.2]) rfl ?_
    refine g_iload C dX5_explore_109 rfl ?_
    by_cases hin : δ (L.getD i 0) q ∈ L
    · refine g_callV C (As := [.int (nI (δ (L.getD i 0) q)), .int (nI (i * 3 + q))]) (c_X5_numberOf_in _ hE.1 hcB hin) vo_X5_65 dX5_explore_111 rfl rfl (by decide) rfl (rm_ok (M' := MX5_explore) hR (by decide)) (Nat.le_of_ble_eq_true rfl) (fun v9 S9 h9 => ?_)
      obtain ⟨rfl, h9⟩ := h9
      refine g_S S h9 ?_
      refine g_n0 [.int (nI (L.idxOf (δ (L.getD i 0) q))), .int (nI (i * 3 + q)), .ref 32] rfl rfl rfl ?_
      refine g_iast C dX5_explore_114 rfl (by decide) (by omega) rfl ?_
      refine n_iinc C (by rw [hmL]; decide) dX5_explore_115 rfl (n_i1 _) [.ref 29, .ref m, .int (nI B), .int (nI i), .int (nI (q + 1)), .int (nI (i * 3 + q))] ?_
      refine g_goto C 76 dX5_explore_118 (by decide) ?_
      refine g_less [.ref 29, .ref m, .int (nI B), .int (nI i), .int (nI (q + 1)), unk] (fun a w hw => ?_) (ih (q + 1) _ L O (by omega) ?_ (hE.step_in (by omega) hin) hil hci)
      · match a, hw with
        | 0, hw => exact Or.inr hw
        | 1, hw => exact Or.inr hw
        | 2, hw => exact Or.inr hw
        | 3, hw => exact Or.inr hw
        | 4, hw => exact Or.inr hw
        | 5, hw => exact Or.inl (Option.some.inj hw).symm
      · rw [addq, ← hL, ← hci, addc_in hin]
    · refine g_callV C (As := [.int (nI (δ (L.getD i 0) q)), .int (nI (i * 3 + q))]) (c_X5_numberOf_out _ hE.1 hcB hin) vo_X5_65 dX5_explore_111 rfl rfl (by decide) rfl (rm_ok (M' := MX5_explore) hR (by decide)) (Nat.le_of_ble_eq_true rfl) (fun v9 S9 h9 => ?_)
      obtain ⟨rfl, g1, g2, g3, g4⟩ := h9
      refine g_n0 [.int (nI L.length), .int (nI (i * 3 + q)), .ref 32] rfl rfl rfl ?_
      refine g_iast C dX5_explore_114 rfl (by decide) (by omega) rfl ?_
      refine n_iinc C (by rw [hmL]; decide) dX5_explore_115 rfl (n_i1 _) [.ref 29, .ref m, .int (nI B), .int (nI i), .int (nI (q + 1)), .int (nI (i * 3 + q))] ?_
      refine g_goto C 76 dX5_explore_118 (by decide) ?_
      refine g_less [.ref 29, .ref m, .int (nI B), .int (nI i), .int (nI (q + 1)), unk] (fun a w hw => ?_) (ih (q + 1) _ (L ++ [δ (L.getD i 0) q]) _ (by omega) ?_ (hE.step_out hil (by omega) (by omega) hDn hin g1 g2 g3) (by simp; omega) ?_)
      · match a, hw with
        | 0, hw => exact Or.inr hw
        | 1, hw => exact Or.inr hw
        | 2, hw => exact Or.inr hw
        | 3, hw => exact Or.inr hw
        | 4, hw => exact Or.inr hw
        | 5, hw => exact Or.inl (Option.some.inj hw).symm
      · rw [addq, ← hL, ← hci, addc_out hin]
      · rw [← addc_out hin, addc_getD hil]; exact hci

set_option maxRecDepth 100000 in
theorem lp_X5_explore_42 {x : Cx} (hR : xR x = MX5_explore.rm) (hmL : (xc x).maxLocals = MX5_explore.nL) (C : BX x cX5_explore RX5) {m B c0 : Nat} {δ : Nat → Nat → Nat} {acc : Nat → Bool} {Dm : Nat → Prop} {P : pv_M → Prop} {S0 : pv_M} (hMa : Mach x.1.2.1 m B c0 δ acc Dm P) (hP0 : P S0) {R : List Nat} (kk : ∀ S, (∃ O, ExP δ acc Dm S0 S B R O (3 * R.length) R.length) → GG x 106 0 0 [.ref 29, .ref m, .int (nI (B)), .int (nI (R.length)), unk, unk] [] (S) 127) : ∀ z i (S : pv_M) (L : List Nat) (O : Nat → Nat), i + z = B → ExP δ acc Dm S0 S B L O (i * 3) i → i ≤ L.length → bfsF δ z i L = R → GG x 106 0 0 [.ref 29, .ref m, .int (nI (B)), .int (nI (i)), unk, unk] [] (S) 42 := by
  obtain ⟨mm, m384, mD0, mlt, mD, mP, ci, M1, M2, M3, M4, ms, ⟨q1, q2, q3, q4⟩, u1, u2, u3, u4, k1, k2, k3_, k4⟩ := id hMa
  intro z
  induction z with
  | zero =>
    intro i S L O hz hE hi hb
    obtain ⟨⟨t0, t2, t3, t4, t5, t6⟩, hc, h30, h31, h33, hn, hB, h384⟩ := id hE.1
    have hlen := hE.1.len
    have hil : i = L.length := by omega
    have hLR : L = R := hb
    subst hLR
    subst hil
    refine g_iload_n C dX5_explore_42 rfl ?_
    refine g_aload_n C dX5_explore_43 rfl ?_
    refine g_getI C fo_X5_9 dX5_explore_44 rfl (by decide) (fun _ => rfl) hc ?_
    refine n_ic_ge C 127 dX5_explore_47 (fun h47 => ?_) (fun h47 => absurd h47 (by omega))
    exact kk S ⟨O, by rw [Nat.mul_comm]; exact hE⟩
  | succ z ih =>
    intro i S L O hz hE hi hb
    obtain ⟨⟨t0, t2, t3, t4, t5, t6⟩, hc, h30, h31, h33, hn, hB, h384⟩ := id hE.1
    have hlen := hE.1.len
    by_cases hil : L.length ≤ i
    · have hil : i = L.length := by omega
      have hLR : L = R := by rw [← hb, bfsF_end (by omega)]
      subst hLR
      subst hil
      refine g_iload_n C dX5_explore_42 rfl ?_
      refine g_aload_n C dX5_explore_43 rfl ?_
      refine g_getI C fo_X5_9 dX5_explore_44 rfl (by decide) (fun _ => rfl) hc ?_
      refine n_ic_ge C 127 dX5_explore_47 (fun h47 => ?_) (fun h47 => absurd h47 (by omega))
      exact kk S ⟨O, by rw [Nat.mul_comm]; exact hE⟩
    · have hil : i < L.length := by omega
      have hPS := mP S0 S hP0 hE.2.1.fr
      have hDi : Dm (L.getD i 0) := hE.2.2.1 _ (getD_mem hil)
      refine g_iload_n C dX5_explore_42 rfl ?_
      refine g_aload_n C dX5_explore_43 rfl ?_
      refine g_getI C fo_X5_9 dX5_explore_44 rfl (by decide) (fun _ => rfl) hc ?_
      refine n_ic_ge C 127 dX5_explore_47 (fun h47 => absurd h47 (by omega)) (fun h47 => ?_)
      refine g_iload_n C dX5_explore_50 rfl ?_
      refine n_sipush C 384 dX5_explore_51 ?_
      refine n_ic_ge C 127 dX5_explore_54 (fun h54 => absurd h54 (by omega)) (fun h54 => ?_)
      refine g_aload_n C dX5_explore_57 rfl ?_
      refine g_getR C fo_X5_28 dX5_explore_58 rfl (by decide) (fun _ => rfl) t6 ?_
      refine g_iload_n C dX5_explore_61 rfl ?_
      refine g_aload_n C dX5_explore_62 rfl ?_
      refine g_aload_n C dX5_explore_63 rfl ?_
      refine g_getR C fo_X5_15 dX5_explore_64 rfl (by decide) (fun _ => rfl) t2 ?_
      refine g_iload_n C dX5_explore_67 rfl ?_
      refine n_iald C dX5_explore_68 rfl (by decide) (h30 i hil) ?_ (by omega)
      refine g_callU C (As := [.int (nI (L.getD i 0))]) (k3_ S _ hPS hDi) u3 dX5_explore_69 rfl ms mm rfl (rq_ok q3 hR) (Nat.le_of_ble_eq_true rfl) (fun v9 S9 h9 => ?_)
      obtain ⟨rfl, h9⟩ := h9
      refine g_S S h9 ?_
      refine g_n0 [.int (bI (acc (L.getD i 0))), .int (nI (i)), .ref 34] (by rw [q3.2.2.1]) (by rw [q3.2.2.2]) rfl ?_
      refine g_zast C dX5_explore_72 rfl (by decide) (by omega) rfl (bI_nar _) ?_
      refine n_iconst C 0 dX5_explore_73 ?_
      refine g_istore C (by rw [hmL]; decide) dX5_explore_74 [.ref 29, .ref m, .int (nI (B)), .int (nI (i)), .int (nI (0)), unk] rfl ?_
      have hE1 : ExP δ acc Dm S0 (wI S 34 (va_up (mI S 34) i (bI (acc (L.getD i 0))))) B L O (i * 3 + 0) (i + 1) := ⟨hE.1.w34, hE.2.1.tr (FN.wI (by decide)), hE.2.2.1, hE.2.2.2.1, fun j hj => by
        rw [mI_wI]
        by_cases e : j = i
        · rw [e, up_same]
        · rw [va_up_ne _ _ e]; exact hE.2.2.2.2.1 j (by omega), hE.2.2.2.2.2⟩
      refine lp_X5_explore_76 hR hmL C hMa hP0 (L0 := L) hil (fun S1 L1 O1 hL1 hE2 hi1 => ?_) 3 0 _ L O rfl rfl hE1 hil rfl
      refine n_iinc C (by rw [hmL]; decide) dX5_explore_121 rfl (n_i1 _) [.ref 29, .ref m, .int (nI B), .int (nI (i + 1)), .int (nI 3), unk] ?_
      refine g_goto C 42 dX5_explore_124 (by decide) ?_
      refine g_less [.ref 29, .ref m, .int (nI B), .int (nI (i + 1)), unk, unk] (fun a w hw => ?_) (ih (i + 1) S1 L1 O1 (by omega) (by rw [Nat.add_mul]; exact hE2) (by omega) ?_)
      · match a, hw with
        | 0, hw => exact Or.inr hw
        | 1, hw => exact Or.inr hw
        | 2, hw => exact Or.inr hw
        | 3, hw => exact Or.inr hw
        | 4, hw => exact Or.inl (Option.some.inj hw).symm
        | 5, hw => exact Or.inr hw
      · rw [hL1, ← hb, bfsF_step hil (by omega)]
        rfl
