/-! the machine of the atoms -/
def PAt (A : Ab) (a : Nat) (S : pv_M) : Prop := mR S 37 0 = some 38 ∧ AutoAt S 38 39 (cQ A a) (tQ A a) (fA A a) ∧ mR S 37 3 = some 42 ∧ SMAt S 42 43 ∧ ∀ l, l < 3 → ∀ X, X < 2 ^ cQ A a → mI S 43 (l * 64 + X) = nI (sa A a X l)
theorem AtC.pat {A : Ab} {a : Nat} {L : List Nat} {P : Nat} {S : pv_M} (h : AtC A a L P S) : PAt A a S := ⟨gs_37_0 h.1, h.2.1, gs_37_3 h.1, h.sm, h.2.2.1⟩
theorem mach_at (l : Launch) {A : Ab} {a : Nat} (hg : gdR (A.1.1 a)) : Mach l 37 64 (fA A a) (sa A a) a6 (fun c => c ∈ AL A a) (PAt A a) :=
  ⟨by decide, by decide, AL_fA hg, fun c h => AL_lt h, fun c q h hq => AL_sa hg h hq, fun S S' p k => ⟨by rw [(k 37 (by decide)).1]; exact p.1, p.2.1.keepR k (by decide) (by decide), by rw [(k 37 (by decide)).1]; exact p.2.2.1, ⟨p.2.2.2.1.1, p.2.2.2.1.2.1, p.2.2.2.1.2.2.1, p.2.2.2.1.2.2.2.1, by rw [(k 42 (by decide)).1]; exact p.2.2.2.1.2.2.2.2⟩, fun l hl X hX => by rw [(k 43 (by decide)).2.1]; exact p.2.2.2.2 l hl X hX⟩, 0, MX0_codeBound, MX0_startCode, MX0_isAccepting, MX0_follow, rfl, ⟨⟨Nat.le_of_ble_eq_true rfl, Nat.le_of_ble_eq_true rfl, rfl, rfl⟩, ⟨Nat.le_of_ble_eq_true rfl, Nat.le_of_ble_eq_true rfl, rfl, rfl⟩, ⟨Nat.le_of_ble_eq_true rfl, Nat.le_of_ble_eq_true rfl, rfl, rfl⟩, ⟨Nat.le_of_ble_eq_true rfl, Nat.le_of_ble_eq_true rfl, rfl, rfl⟩⟩, uo_X5_56_X0, uo_X5_62_X0, uo_X5_69_X0, uo_X5_73_X0, fun S p => c_X0_codeBound l, fun S p => c_X0_startCode l p.1 p.2.1, fun S c p h => mt_post (c_X0_isAccepting l (AL_lt h)) (fun v S' q => ⟨by rw [q.1]; congr 3; rw [Bool.eq_iff_iff, decide_eq_true_eq]; exact tb0 c, q.2⟩), fun S c q p h hq => c_X0_follow l p.2.2.1 p.2.2.2.1 hq (AL_lt h) (p.2.2.2.2 q hq c (AL_c hg h))⟩
theorem bf_at {A : Ab} {a : Nat} (hg : gdR (A.1.1 a)) : bf (sa A a) (fA A a) = bfsF (sa A a) 64 0 [fA A a] := bf_more (Dm := fun c => c ∈ AL A a) (fun c h => AL_lt h) (fun c q h hq => AL_sa hg h hq) (AL_fA hg) (by decide)

set_option maxRecDepth 100000 in
theorem c_reverse (l : Launch) {S : pv_M} {A : Ab} (hC : CSt S A) {j : Nat} (hj : j < 3) (gj : gdR (A.1.1 j)) {t : Nat} (ht : t < 3) (hc : (AL A j).length ≤ 6) : mt l MX11_reverse 106 [.ref 0, .int (nI (j)), .int (nI (t))] S (fun v S' => ∃ F', F' < 64 ∧ sF (d6 A j) (a6) (bf (d6 A j) (k6 A j)) F' ∧ v = some (.int (nI (cM (d6 A j) (a6) (bf (d6 A j) (k6 A j))))) ∧ CSt S' (setR A t (sR (d6 A j) (a6) (bf (d6 A j) (k6 A j)) F')) ∧ FR cC S S') := by
  refine mt_of (by decide) (Nat.le_of_ble_eq_true rfl) ?_
  intro x hl hR hmL C E
  show GG x 106 0 0 [.ref 0, .int (nI (j)), .int (nI (t))] [] S 0
  have hS := hC.1
  refine g_iload_n C dX11_reverse_0 rfl ?_
  refine g_callS C (k_checkRegister _ ht) so_X11_88 dX11_reverse_1 rfl rfl (rm_ok (M' := MX11_reverse) hR (by decide)) (Nat.le_of_ble_eq_true rfl) (fun v9 S9 h9 => ?_)
  obtain ⟨rfl, h9⟩ := h9
  refine g_S S h9 ?_
  refine g_n0 [] rfl rfl rfl ?_
  refine g_aload_n C dX11_reverse_4 rfl ?_
  refine g_iload_n C dX11_reverse_5 rfl ?_
  refine g_callV C (As := [.int (nI (j))]) (c_findAtoms _ hC hj gj) vo_X11_159 dX11_reverse_6 rfl rfl (by decide) rfl (rm_ok (M' := MX11_reverse) hR (by decide)) (Nat.le_of_ble_eq_true rfl) (fun v9 S6 h9 => ?_)
  obtain ⟨rfl, hC6, hF6, L, P, c6, p6, w6, o6⟩ := h9
  have hS6 := hC6.1
  have hcn := p6.cnt
  have h64 := AL_len (A := A) (a := j)
  refine g_n0 [] rfl rfl rfl ?_
  refine g_aload_n C dX11_reverse_9 rfl ?_
  refine g_getR C fo_X11_84 dX11_reverse_10 rfl (by decide) (fun _ => rfl) (gs_0_10 hS6) ?_
  refine g_getI C fo_X11_162 dX11_reverse_13 rfl (by decide) (fun _ => rfl) (c6.2.2.2.1.trans (by rw [hcn])) ?_
  refine g_callS C (k_checkResult _ hc) so_X11_207 dX11_reverse_16 rfl rfl (rm_ok (M' := MX11_reverse) hR (by decide)) (Nat.le_of_ble_eq_true rfl) (fun v9 S5 h9 => ?_)
  obtain ⟨rfl, h9⟩ := h9
  refine g_S S6 h9 ?_
  refine g_n0 [] rfl rfl rfl ?_
  refine g_aload_n C dX11_reverse_19 rfl ?_
  refine g_getR C fo_X11_77 dX11_reverse_20 rfl (by decide) (fun _ => rfl) (gs_0_6 hS6) ?_
  refine g_aload_n C dX11_reverse_23 rfl ?_
  refine g_getR C fo_X11_84 dX11_reverse_24 rfl (by decide) (fun _ => rfl) (gs_0_10 hS6) ?_
  refine g_callV C (As := [.ref 37]) (c_run (mach_at _ gj) c6.pat hS6 hC6.2.1) vo_X11_151 dX11_reverse_27 rfl rfl (by decide) rfl (rm_ok (M' := MX11_reverse) hR (by decide)) (Nat.le_of_ble_eq_true rfl) (fun v9 S9 h9 => ?_)
  obtain ⟨rfl, g1, g2, g3, g4⟩ := h9
  obtain ⟨hC9, hF9⟩ := hC6.run g2 g3 g4
  have eR := bf_at gj
  have hr := rv_id gj
  rw [eR] at hr
  have hc6 : cM (sa A j) a6 (bfsF (sa A j) 64 0 [fA A j]) ≤ 6 := by rw [hr]; exact hc
  refine g_n0 [.int (nI (cM (sa A j) a6 (bfsF (sa A j) 64 0 [fA A j])))] rfl rfl rfl ?_
  refine g_pop C dX11_reverse_30 rfl ?_
  refine g_aload_n C dX11_reverse_31 rfl ?_
  refine g_getR C fo_X11_77 dX11_reverse_32 rfl (by decide) (fun _ => rfl) (gs_0_6 g3) ?_
  refine g_aload_n C dX11_reverse_35 rfl ?_
  refine g_getR C fo_X11_11 dX11_reverse_36 rfl (by decide) (fun _ => rfl) (gs_0_0 g3) ?_
  refine g_iload_n C dX11_reverse_39 rfl ?_
  refine g_aald C dX11_reverse_40 rfl (Or.inl rfl) (by decide) (by omega) rfl (g3.reg ht) ?_
  refine g_callV C (As := [.ref (53 + 4 * t)]) (c_store (hC9.2.2.2.1 t ht) (fun z => absurd z.2 (by omega)) (fun z => absurd z.2 (by omega)) g1 hc6) vo_X11_155 dX11_reverse_41 rfl rfl (by decide) rfl (rm_ok (M' := MX11_reverse) hR (by decide)) (Nat.le_of_ble_eq_true rfl) (fun v9 S8 h9 => ?_)
  obtain ⟨rfl, q2, F9, q3, q4, q5⟩ := h9
  have hS8 := g3.fn q2
  have g48 := g4.of (congrFun q2.1 29)
  refine g_n0 [] rfl rfl rfl ?_
  refine g_aload_n C dX11_reverse_44 rfl ?_
  refine g_getR C fo_X11_11 dX11_reverse_45 rfl (by decide) (fun _ => rfl) (gs_0_0 hS8) ?_
  refine g_iload_n C dX11_reverse_48 rfl ?_
  refine g_aald C dX11_reverse_49 rfl (Or.inl rfl) (by decide) (by omega) rfl (hS8.reg ht) ?_
  refine g_getI C fo_X11_117 dX11_reverse_50 (hC.2.2.2.1 t ht).1 (hC.2.2.2.1 t ht).2.1 (fun _ => rfl) q5.2.2.2.2.2.1 ?_
  exact g_iret C E dX11_reverse_53 (by rw [hR]; decide) (by rw [hR]; decide) ⟨F9, q3, ((tie_rev gj).2 F9).2 (by rw [eR]; exact q4), by rw [(tie_rev gj).1, ← hr], by
    rw [((tie_rev gj).2 F9).1, eR]
    exact hC9.setR ht q2.fr (fun r z => Or.inr z) hS8 g48 (hC9.2.2.1.keepR q2.fr (fun z => by rcases z with z | z <;> omega)) q5, (hF6.tr hF9).tr (q2.fr.mono (fun r z => by rcases z with z | z <;> (show r ≤ 74; omega)))⟩

set_option maxRecDepth 100000 in
theorem t_reverse_big {l : Launch} (hst : l.stackTraces = false) {S : pv_M} {A : Ab} (hC : CSt S A) {j : Nat} (hj : j < 3) (gj : gdR (A.1.1 j)) {t : Nat} (ht : t < 3) (hc : 6 < (AL A j).length) : mth l MX11_reverse.th 106 [.ref 0, .int (nI (j)), .int (nI (t))] S "java/lang/IllegalStateException" (fun S' => CSt S' A ∧ FR cC S S') := by
  refine mth_of hst (by decide) (Nat.le_of_ble_eq_true rfl) ?_
  intro x hl hR hmL C X
  have hst' : x.1.2.1.stackTraces = false := by rw [hl]; exact hst
  show GG x 106 0 0 [.ref 0, .int (nI (j)), .int (nI (t))] [] S 0
  have hS := hC.1
  refine g_iload_n C dX11_reverse_0 rfl ?_
  refine g_callS C (k_checkRegister _ ht) so_X11_88 dX11_reverse_1 rfl rfl (rm_ok (M' := MX11_reverse.th) hR (by decide)) (Nat.le_of_ble_eq_true rfl) (fun v9 S9 h9 => ?_)
  obtain ⟨rfl, h9⟩ := h9
  refine g_S S h9 ?_
  refine g_n0 [] rfl rfl rfl ?_
  refine g_aload_n C dX11_reverse_4 rfl ?_
  refine g_iload_n C dX11_reverse_5 rfl ?_
  refine g_callV C (As := [.int (nI (j))]) (c_findAtoms _ hC hj gj) vo_X11_159 dX11_reverse_6 rfl rfl (by decide) rfl (rm_ok (M' := MX11_reverse.th) hR (by decide)) (Nat.le_of_ble_eq_true rfl) (fun v9 S6 h9 => ?_)
  obtain ⟨rfl, hC6, hF6, L, P, c6, p6, w6, o6⟩ := h9
  have hS6 := hC6.1
  have hcn := p6.cnt
  have h64 := AL_len (A := A) (a := j)
  refine g_n0 [] rfl rfl rfl ?_
  refine g_aload_n C dX11_reverse_9 rfl ?_
  refine g_getR C fo_X11_84 dX11_reverse_10 rfl (by decide) (fun _ => rfl) (gs_0_10 hS6) ?_
  refine g_getI C fo_X11_162 dX11_reverse_13 rfl (by decide) (fun _ => rfl) (c6.2.2.2.1.trans (by rw [hcn])) ?_
  exact g_thrS C X (t_checkResult hst' hc (by omega)) so_X11_207 dX11_reverse_16 rfl rfl (rm_ok (M' := MX11_reverse.th) hR (by decide)) (Nat.le_of_ble_eq_true rfl) (fun S2 h2 => by rw [h2]; exact ⟨hC6, hF6⟩)

set_option maxRecDepth 100000 in
theorem t_reverse_t {l : Launch} (hst : l.stackTraces = false) {S : pv_M} {p : Int32} (h : badI p 3) {q : Int32} : mth l MX11_reverse.th 106 [.ref 0, .int (q), .int (p)] S "java/lang/IndexOutOfBoundsException" (fun S' => S' = S) := by
  refine mth_of hst (by decide) (Nat.le_of_ble_eq_true rfl) ?_
  intro x hl hR hmL C X
  have hst' : x.1.2.1.stackTraces = false := by rw [hl]; exact hst
  show GG x 106 0 0 [.ref 0, .int (q), .int (p)] [] S 0
  refine g_iload_n C dX11_reverse_0 rfl ?_
  exact g_thrS C X (t_checkRegister hst' h) so_X11_88 dX11_reverse_1 rfl rfl (rm_ok (M' := MX11_reverse.th) hR (by decide)) (Nat.le_of_ble_eq_true rfl) (fun _ h => h)

set_option maxRecDepth 100000 in
theorem t_reverse_r {l : Launch} (hst : l.stackTraces = false) {S : pv_M} {p : Int32} (h : badI p 3) {t : Nat} (ht : t < 3) : mth l MX11_reverse.th 106 [.ref 0, .int (p), .int (nI (t))] S "java/lang/IndexOutOfBoundsException" (fun S' => S' = S) := by
  refine mth_of hst (by decide) (Nat.le_of_ble_eq_true rfl) ?_
  intro x hl hR hmL C X
  have hst' : x.1.2.1.stackTraces = false := by rw [hl]; exact hst
  show GG x 106 0 0 [.ref 0, .int (p), .int (nI (t))] [] S 0
  refine g_iload_n C dX11_reverse_0 rfl ?_
  refine g_callS C (k_checkRegister _ ht) so_X11_88 dX11_reverse_1 rfl rfl (rm_ok (M' := MX11_reverse.th) hR (by decide)) (Nat.le_of_ble_eq_true rfl) (fun v9 S9 h9 => ?_)
  obtain ⟨rfl, h9⟩ := h9
  refine g_S S h9 ?_
  refine g_n0 [] rfl rfl rfl ?_
  refine g_aload_n C dX11_reverse_4 rfl ?_
  refine g_iload_n C dX11_reverse_5 rfl ?_
  exact g_thrV C X (As := [.int (p)]) (t_findAtoms_r hst' h) vo_X11_159 dX11_reverse_6 rfl rfl (by decide) rfl (rm_ok (M' := MX11_reverse.th) hR (by decide)) (Nat.le_of_ble_eq_true rfl) (fun _ h => h)

/-! a union of atoms -/
theorem bfsF_ln {δ : Nat → Nat → Nat} : ∀ (n i : Nat) (L : List Nat), L.length ≤ (bfsF δ n i L).length
  | 0, _, _ => Nat.le_refl _
  | n + 1, i, L => by
    unfold bfsF
    by_cases z : i < L.length
    · rw [if_pos z]; exact Nat.le_trans (addq_len δ _ L 3) (bfsF_ln n (i + 1) _)
    · rw [if_neg z]; exact Nat.le_refl _
theorem addq_idx (δ : Nat → Nat → Nat) (c : Nat) {L : List Nat} {x q : Nat} (h : x ∈ addq δ c q L) : ∀ d, (addq δ c (q + d) L).idxOf x = (addq δ c q L).idxOf x ∧ x ∈ addq δ c (q + d) L
  | 0 => ⟨rfl, h⟩
  | d + 1 => by
    obtain ⟨h1, h2⟩ := addq_idx δ c h d
    show (addc (addq δ c (q + d) L) (δ c (q + d))).idxOf x = _ ∧ x ∈ addc _ _
    exact ⟨by rw [addc_idx h2, h1], addc_mono h2⟩
theorem bfsF_idx {δ : Nat → Nat → Nat} {x : Nat} : ∀ (n i : Nat) (L : List Nat), x ∈ L → (bfsF δ n i L).idxOf x = L.idxOf x
  | 0, _, _, _ => rfl
  | n + 1, i, L, h => by
    unfold bfsF
    by_cases z : i < L.length
    · have h0 : x ∈ addq δ (L.getD i 0) 0 L := h
      have := addq_idx δ (L.getD i 0) h0 3
      rw [Nat.zero_add] at this
      rw [if_pos z, bfsF_idx n (i + 1) _ this.2, this.1]
      rfl
    · rw [if_neg z]
theorem KTL.kp {KL : List Nat} {e : Nat} {P : Nat → Prop} {S S' : pv_M} (h : KTL KL e S) (k : FN P S S') (q : ¬ P 26 ∧ ¬ P 27 ∧ ¬ P 28) : KTL KL e S' := ⟨h.1.keep (congrFun k.1 26) (k.2 26 q.1).1 (k.2 28 q.2.2).1 (k.2 27 q.2.1).2.1, h.2⟩
abbrev wuP : Nat → Prop := fun r => r = 19 ∨ r = 20 ∨ r = 26 ∨ r = 27 ∨ r = 28
def TW (A : Ab) (a : Nat) (R : List Nat) (m : Nat) : Nat → Nat := fun j => if j < m then nxt (dL A a) R j else 0
theorem TW_up {A : Ab} {a m : Nat} {R : List Nat} : va_up (TW A a R m) m (nxt (dL A a) R m) = TW A a R (m + 1) := by
  funext j
  unfold TW
  by_cases e : j = m
  · rw [e, up_same, if_pos (by omega)]
  · rw [va_up_ne _ _ e]
    by_cases z : j < m
    · rw [if_pos z, if_pos (by omega)]
    · rw [if_neg z, if_neg (by omega)]
theorem wu_nx {A : Ab} {a i q n : Nat} {KL R : List Nat} (hi : i < KL.length) (hq : q < 3) (hR : R = bfsF (dL A a) n (i + 1) (addq (dL A a) (KL.getD i 0) 3 KL)) : (addq (dL A a) (KL.getD i 0) (q + 1) KL).idxOf (dL A a (KL.getD i 0) q) = nxt (dL A a) R (i * 3 + q) ∧ (addq (dL A a) (KL.getD i 0) (q + 1) KL).length ≤ R.length := by
  have hx : dL A a (KL.getD i 0) q ∈ addq (dL A a) (KL.getD i 0) (q + 1) KL := addq_has _ _ _ (q + 1) q (by omega)
  have e1 := addq_idx (dL A a) (KL.getD i 0) hx (2 - q)
  rw [show q + 1 + (2 - q) = 3 by omega] at e1
  have e2 := bfsF_idx (δ := dL A a) n (i + 1) _ e1.2
  have hlen := addq_len (dL A a) (KL.getD i 0) KL 3
  have e3 := bfsF_get (δ := dL A a) n (i + 1) (addq (dL A a) (KL.getD i 0) 3 KL) i (by omega)
  rw [addq_getD _ _ hi] at e3
  constructor
  · unfold nxt
    rw [show (i * 3 + q) / 3 = i by omega, show (i * 3 + q) % 3 = q by omega, hR, e3, e2, e1.1]
  · rw [hR]
    refine Nat.le_trans ?_ (bfsF_ln n (i + 1) _)
    have key : ∀ d, (addq (dL A a) (KL.getD i 0) (q + 1) KL).length ≤ (addq (dL A a) (KL.getD i 0) (q + 1 + d) KL).length := by
      intro d
      induction d with
      | zero => exact Nat.le_refl _
      | succ d ih => exact Nat.le_trans ih (addc_len _ _)
    have := key (2 - q)
    rwa [show q + 1 + (2 - q) = 3 by omega] at this

set_option maxRecDepth 100000 in
theorem li_wu {x : Cx} (hR : xR x = MX0_writeUnion.rm) (hmL : (xc x).maxLocals = MX0_writeUnion.nL) (C : BX x cX0_writeUnion RX0) {S0 : pv_M} {A : Ab} {a e X : Nat} {L R : List Nat} {P : Nat} (hg : gdR (A.1.1 a)) (hC0 : AtC A a L P S0) (hP : AtP A a L P) (he : 16 ≤ 2 ^ e) {i n9 F : Nat} {KL : List Nat} (hi : i < KL.length) (h6 : KL.length ≤ 6) (hk64 : ∀ K, K ∈ KL → K < 2 ^ 64) (hRb : R = bfsF (dL A a) n9 (i + 1) (addq (dL A a) (KL.getD i 0) 3 KL)) (kk7 : ∀ S q nx, FN wuP S0 S → 6 < R.length → GG x 106 0 0 [.ref 37, .long (lN (X)), unk, .ref 19, .int (nI (i)), .long (lN (KL.getD i 0)), unk, .int (nI (q)), .int (nI (nx))] [] (S) 109) (kk : ∀ S, GS S → KTL (addq (dL A a) (KL.getD i 0) (3) KL) e S → AutoAt S 19 20 1 (TW A a R (i * 3 + 3)) F → FN wuP S0 S → (addq (dL A a) (KL.getD i 0) (3) KL).length ≤ 6 → GG x 106 0 0 [.ref 37, .long (lN (X)), unk, .ref 19, .int (nI (i)), .long (lN (KL.getD i 0)), unk, .int (nI (3)), unk] [] (S) 128) : ∀ z q S, q + z = 3 → GS S → KTL (addq (dL A a) (KL.getD i 0) (q) KL) e S → AutoAt S 19 20 1 (TW A a R (i * 3 + q)) F → FN wuP S0 S → (addq (dL A a) (KL.getD i 0) (q) KL).length ≤ 6 → GG x 106 0 0 [.ref 37, .long (lN (X)), unk, .ref 19, .int (nI (i)), .long (lN (KL.getD i 0)), unk, .int (nI (q)), unk] [] (S) 79 := by
  intro z
  induction z with
  | zero =>
    intro q S hz hS hK hA hf hl
    obtain rfl : q = 3 := by omega
    refine g_iload C dX0_writeUnion_79 rfl ?_
    refine n_iconst C 3 dX0_writeUnion_81 ?_
    refine n_ic_ge C 128 dX0_writeUnion_82 (fun h82 => ?_) (fun h82 => absurd h82 (by omega))
    exact kk S hS hK hA hf hl
  | succ z ih =>
    intro q S hz hS hK hA hf hl
    have hC : AtC A a L P S := hC0.keepR hf.fr hS (by decide)
    have hKi := hk64 _ (getD_mem hi)
    obtain ⟨nx1, nx2⟩ := wu_nx hi (show q < 3 by omega) hRb
    have hnm : addc (addq (dL A a) (KL.getD i 0) (q) KL) (dL A a (KL.getD i 0) q) = addq (dL A a) (KL.getD i 0) (q + 1) KL := rfl
    refine g_iload C dX0_writeUnion_79 rfl ?_
    refine n_iconst C 3 dX0_writeUnion_81 ?_
    refine n_ic_ge C 128 dX0_writeUnion_82 (fun h82 => absurd h82 (by omega)) (fun h82 => ?_)
    refine g_aload_n C dX0_writeUnion_85 rfl ?_
    refine g_getR C fo_X0_62 dX0_writeUnion_86 rfl (by decide) (fun _ => rfl) (gs_37_1 hS) ?_
    refine g_aload_n C dX0_writeUnion_89 rfl ?_
    refine g_lload C dX0_writeUnion_90 rfl ?_
    refine g_iload C dX0_writeUnion_92 rfl ?_
    refine g_callV C (As := [.long (lN (KL.getD i 0)), .int (nI (q))]) (k_quotient _ hg hC hP hKi (by omega)) vo_X0_162 dX0_writeUnion_94 rfl rfl (by decide) rfl (rm_ok (M' := MX0_writeUnion) hR (by decide)) (Nat.le_of_ble_eq_true rfl) (fun v9 S5 h9 => ?_)
    obtain ⟨rfl, h9⟩ := h9
    refine g_S S h9 ?_
    refine g_n0 [.long (lN (dL A a (KL.getD i 0) q)), .ref 26] rfl rfl rfl ?_
    refine g_callV C (As := [.long (lN (dL A a (KL.getD i 0) q))]) (k_plc _ hK mS_lt (by omega) (by omega)) vo_X0_140 dX0_writeUnion_97 rfl rfl (by decide) rfl (rm_ok (M' := MX0_writeUnion) hR (by decide)) (Nat.le_of_ble_eq_true rfl) (fun v9 S7 h9 => ?_)
    obtain ⟨rfl, n1, n2⟩ := h9
    have hS7 := hS.fn n2
    have f7 : FN wuP S0 S7 := hf.tr (n2.mono (fun r z => by rcases z with z | z | z <;> (show wuP r; omega)))
    have hA7 : AutoAt S7 19 20 1 (TW A a R (i * 3 + q)) F := hA.keep n2 (by decide) (by decide)
    have hx9 := idx_lt (addq_has (dL A a) (KL.getD i 0) KL (q + 1) q (by omega))
    have hle9 := addc_le (addq (dL A a) (KL.getD i 0) q KL) (dL A a (KL.getD i 0) q)
    replace hle9 : (addq (dL A a) (KL.getD i 0) (q + 1) KL).length ≤ (addq (dL A a) (KL.getD i 0) q KL).length + 1 := hle9
    refine g_n0 [.int (nI ((addq (dL A a) (KL.getD i 0) (q + 1) KL).idxOf (dL A a (KL.getD i 0) q)))] rfl rfl rfl ?_
    refine g_istore C (by rw [hmL]; decide) dX0_writeUnion_100 [.ref 37, .long (lN (X)), unk, .ref 19, .int (nI (i)), .long (lN (KL.getD i 0)), unk, .int (nI (q)), .int (nI ((addq (dL A a) (KL.getD i 0) (q + 1) KL).idxOf (dL A a (KL.getD i 0) q)))] rfl ?_
    refine g_iload C dX0_writeUnion_102 rfl ?_
    refine n_bipush C 6 dX0_writeUnion_104 ?_
    refine n_ic_lt C 112 dX0_writeUnion_106 (fun h106 => ?_) (fun h106 => ?_)
    · refine g_aload_n C dX0_writeUnion_112 rfl ?_
      refine g_iload C dX0_writeUnion_113 rfl ?_
      refine g_iload C dX0_writeUnion_115 rfl ?_
      refine g_iload C dX0_writeUnion_117 rfl ?_
      refine g_callV C (As := [.int (nI (i)), .int (nI (q)), .int (nI ((addq (dL A a) (KL.getD i 0) (q + 1) KL).idxOf (dL A a (KL.getD i 0) q)))]) (c_X1_lead _ hA7 (by omega)) vo_X0_166 dX0_writeUnion_119 rfl rfl (by decide) rfl (rm_ok (M' := MX0_writeUnion) hR (by decide)) (Nat.le_of_ble_eq_true rfl) (fun v9 S8 h9 => ?_)
      obtain ⟨rfl, a1, a2⟩ := h9
      rw [nx1, TW_up] at a1
      refine g_n0 [] rfl rfl rfl ?_
      refine n_iinc C (by rw [hmL]; decide) dX0_writeUnion_122 rfl (n_i1 _) [.ref 37, .long (lN (X)), unk, .ref 19, .int (nI (i)), .long (lN (KL.getD i 0)), unk, .int (nI (q + 1)), .int (nI ((addq (dL A a) (KL.getD i 0) (q + 1) KL).idxOf (dL A a (KL.getD i 0) q)))] ?_
      refine g_goto C 79 dX0_writeUnion_125 (by decide) ?_
      refine g_frg [.ref 37, .long (lN (X)), unk, .ref 19, .int (nI (i)), .long (lN (KL.getD i 0)), unk, .int (nI (q + 1)), unk] ⟨Or.inr rfl, Or.inr rfl, Or.inl rfl, Or.inr rfl, Or.inr rfl, Or.inr rfl, Or.inl rfl, Or.inr rfl, Or.inl rfl, trivial⟩ ?_
      have hl9 : (addq (dL A a) (KL.getD i 0) (q + 1) KL).length ≤ 6 := by
        apply Classical.byContradiction
        intro w9
        have hmem : dL A a (KL.getD i 0) q ∉ addq (dL A a) (KL.getD i 0) q KL := fun z9 => by
          have : addq (dL A a) (KL.getD i 0) (q + 1) KL = addq (dL A a) (KL.getD i 0) q KL := addc_in z9
          rw [this] at w9
          exact w9 hl
        have e9 : (addq (dL A a) (KL.getD i 0) (q + 1) KL).idxOf (dL A a (KL.getD i 0) q) = (addq (dL A a) (KL.getD i 0) q KL).length := addc_idx_new hmem
        have e8 : addq (dL A a) (KL.getD i 0) (q + 1) KL = addq (dL A a) (KL.getD i 0) q KL ++ [dL A a (KL.getD i 0) q] := addc_out hmem
        rw [e8] at w9
        simp only [List.length_append, List.length_cons, List.length_nil] at w9
        omega
      exact ih (q + 1) S8 (by omega) (hS7.fn a2) (n1.kp a2 (by decide)) a1 (f7.tr (a2.mono (fun r z => by rcases z with z | z <;> (show wuP r; omega)))) hl9
    · exact kk7 S7 q _ f7 (by omega)

set_option maxRecDepth 100000 in
theorem lo_wu {x : Cx} (hR : xR x = MX0_writeUnion.rm) (hmL : (xc x).maxLocals = MX0_writeUnion.nL) (C : BX x cX0_writeUnion RX0) {S0 : pv_M} {A : Ab} {a e X : Nat} {L R : List Nat} {P : Nat} (hg : gdR (A.1.1 a)) (hC0 : AtC A a L P S0) (hP : AtP A a L P) (he : 16 ≤ 2 ^ e) {K0 : Nat} (hR0 : R = bf (dL A a) K0) (kk7 : ∀ S i K q nx, FN wuP S0 S → 6 < R.length → GG x 106 0 0 [.ref 37, .long (lN (X)), unk, .ref 19, .int (nI (i)), .long (lN (K)), unk, .int (nI (q)), .int (nI (nx))] [] (S) 109) (kk : ∀ S i F, GS S → KTL R e S → AutoAt S 19 20 1 (TW A a R (R.length * 3)) F → F < 64 → (∀ q, q < 6 → F.testBit q = (decide (q < R.length) && (R.getD q 0).testBit (fA A a))) → FN wuP S0 S → R.length ≤ 6 → GG x 106 0 0 [.ref 37, .long (lN (X)), unk, .ref 19, .int (nI (i)), unk, unk, unk, unk] [] (S) 134) : ∀ z i S KL F, i + z = 7 → i ≤ KL.length → KL.length ≤ 6 → GS S → KTL KL e S → AutoAt S 19 20 1 (TW A a R (i * 3)) F → F < 64 → (∀ q, q < 6 → F.testBit q = (decide (q < i) && (R.getD q 0).testBit (fA A a))) → FN wuP S0 S → R = bfsF (dL A a) (741 - i) i KL → GG x 106 0 0 [.ref 37, .long (lN (X)), unk, .ref 19, .int (nI (i)), unk, unk, unk, unk] [] (S) 30 := by
  intro z
  induction z with
  | zero =>
    intro i S KL F hz hi h6 hS hK hA hF hB hf hb
    omega
  | succ z ih =>
    intro i S KL F hz hi h6 hS hK hA hF hB hf hb
    by_cases hend : KL.length ≤ i
    · refine g_iload C dX0_writeUnion_30 rfl ?_
      refine g_aload_n C dX0_writeUnion_32 rfl ?_
      refine g_getR C fo_X0_62 dX0_writeUnion_33 rfl (by decide) (fun _ => rfl) (gs_37_1 hS) ?_
      refine g_getI C fo_X0_139 dX0_writeUnion_36 rfl (by decide) (fun _ => rfl) hK.1.2.1 ?_
      refine n_ic_ge C 134 dX0_writeUnion_39 (fun h39 => ?_) (fun h39 => absurd h39 (by omega))
      have e : R = KL := by rw [hb, bfsF_end hend]
      have ei : i = R.length := by rw [e]; omega
      exact kk S i F hS (by rw [e]; exact hK) (by rw [← ei]; exact hA) hF (by rw [← ei]; exact hB) hf (by rw [e]; exact h6)
    · have hC : AtC A a L P S := hC0.keepR hf.fr hS (by decide)
      have hKi := hK.2.2 _ (getD_mem (show i < KL.length by omega))
      have hR9 : R = bfsF (dL A a) (741 - i - 1) (i + 1) (addq (dL A a) (KL.getD i 0) 3 KL) := by rw [hb, bfsF_step (by omega) (by omega)]
      have hRi : R.getD i 0 = KL.getD i 0 := by rw [hb]; exact bfsF_get _ _ _ _ (by omega)
      refine g_iload C dX0_writeUnion_30 rfl ?_
      refine g_aload_n C dX0_writeUnion_32 rfl ?_
      refine g_getR C fo_X0_62 dX0_writeUnion_33 rfl (by decide) (fun _ => rfl) (gs_37_1 hS) ?_
      refine g_getI C fo_X0_139 dX0_writeUnion_36 rfl (by decide) (fun _ => rfl) hK.1.2.1 ?_
      refine n_ic_ge C 134 dX0_writeUnion_39 (fun h39 => absurd h39 (by omega)) (fun h39 => ?_)
      refine g_iload C dX0_writeUnion_42 rfl ?_
      refine n_bipush C 6 dX0_writeUnion_44 ?_
      refine n_ic_ge C 134 dX0_writeUnion_46 (fun h46 => absurd h46 (by omega)) (fun h46 => ?_)
      refine g_aload_n C dX0_writeUnion_49 rfl ?_
      refine g_getR C fo_X0_62 dX0_writeUnion_50 rfl (by decide) (fun _ => rfl) (gs_37_1 hS) ?_
      refine g_getR C fo_X0_156 dX0_writeUnion_53 rfl (by decide) (fun _ => rfl) hK.1.1.1 ?_
      refine g_iload C dX0_writeUnion_56 rfl ?_
      refine n_lald C dX0_writeUnion_58 rfl (by decide) (hK.1.2.2.2.2.1 i (by omega)) ?_ (by omega)
      refine g_lstore C (by rw [hmL]; decide) dX0_writeUnion_59 [.ref 37, .long (lN (X)), unk, .ref 19, .int (nI (i)), .long (lN (KL.getD i 0)), unk, unk, unk] rfl ?_
      refine g_aload_n C dX0_writeUnion_61 rfl ?_
      refine g_iload C dX0_writeUnion_62 rfl ?_
      refine g_lload C dX0_writeUnion_64 rfl ?_
      refine g_aload_n C dX0_writeUnion_66 rfl ?_
      refine g_callV C (As := []) (c_X0_startCode _ (gs_37_0 hS) hC.2.1) vo_X0_77 dX0_writeUnion_67 rfl rfl (by decide) rfl (rm_ok (M' := MX0_writeUnion) hR (by decide)) (Nat.le_of_ble_eq_true rfl) (fun v9 S5 h9 => ?_)
      obtain ⟨rfl, h9⟩ := h9
      refine g_S S h9 ?_
      refine g_n0 [.int (nI (fA A a)), .long (lN (KL.getD i 0)), .int (nI (i)), .ref 19] rfl rfl rfl ?_
      refine g_callS C (k_holds _ hKi (AL_lt (AL_fA hg))) so_X0_88 dX0_writeUnion_70 rfl rfl (rm_ok (M' := MX0_writeUnion) hR (by decide)) (Nat.le_of_ble_eq_true rfl) (fun v9 S5 h9 => ?_)
      obtain ⟨rfl, h9⟩ := h9
      refine g_S S h9 ?_
      refine g_n0 [.int (bI ((KL.getD i 0).testBit (fA A a))), .int (nI (i)), .ref 19] rfl rfl rfl ?_
      refine g_callV C (As := [.int (nI (i)), .int (bI ((KL.getD i 0).testBit (fA A a)))]) (c_X1_mark _ hA hF (by omega)) vo_X0_158 dX0_writeUnion_73 rfl rfl (by decide) rfl (rm_ok (M' := MX0_writeUnion) hR (by decide)) (Nat.le_of_ble_eq_true rfl) (fun v9 S7 h9 => ?_)
      obtain ⟨rfl, m1, m2⟩ := h9
      have hS7 := hS.fn m2
      have hC7 : AtC A a L P S7 := hC.keepR m2.fr hS7 (by decide)
      have hK7 : KTL KL e S7 := (hK.kp m2 (by decide))
      have f7 : FN wuP S0 S7 := hf.tr (m2.mono (fun r z => by rcases z with z | z <;> (show wuP r; omega)))
      obtain ⟨F64, hFb⟩ := fset_ok F hF i (by omega) ((KL.getD i 0).testBit (fA A a))
      refine g_n0 [] rfl rfl rfl ?_
      refine n_iconst C 0 dX0_writeUnion_76 ?_
      refine g_istore C (by rw [hmL]; decide) dX0_writeUnion_77 [.ref 37, .long (lN (X)), unk, .ref 19, .int (nI (i)), .long (lN (KL.getD i 0)), unk, .int (nI (0)), unk] rfl ?_
      refine li_wu hR hmL C hg hC0 hP he (n9 := 741 - i - 1) (by omega) h6 hK.2.2 hR9 (fun S q nx => kk7 S i _ q nx) (fun S2 hS2 hK2 hA2 hf2 hl2 => ?_) 3 0 S7 rfl hS7 hK7 m1 f7 h6
      refine n_iinc C (by rw [hmL]; decide) dX0_writeUnion_128 rfl (n_i1 _) [.ref 37, .long (lN (X)), unk, .ref 19, .int (nI (i + 1)), .long (lN (KL.getD i 0)), unk, .int (nI (3)), unk] ?_
      refine g_goto C 30 dX0_writeUnion_131 (by decide) ?_
      refine g_frg [.ref 37, .long (lN (X)), unk, .ref 19, .int (nI (i + 1)), unk, unk, unk, unk] ⟨Or.inr rfl, Or.inr rfl, Or.inl rfl, Or.inr rfl, Or.inr rfl, Or.inl rfl, Or.inl rfl, Or.inl rfl, Or.inl rfl, trivial⟩ ?_
      have hln := addq_len (dL A a) (KL.getD i 0) KL 3
      refine ih (i + 1) S2 _ _ (by omega) (by omega) hl2 hS2 hK2 (by rw [show (i + 1) * 3 = i * 3 + 3 by omega]; exact hA2) F64 (fun q hq => ?_) hf2 (by rw [show 741 - (i + 1) = 741 - i - 1 by omega]; exact hR9)
      rw [hFb q hq]
      by_cases e9 : q = i
      · rw [if_pos e9, e9, hRi, decide_eq_true (show i < i + 1 by omega), Bool.true_and]
      · rw [if_neg e9, hB q hq]
        by_cases e8 : q < i
        · rw [decide_eq_true e8, decide_eq_true (show q < i + 1 by omega)]
        · rw [decide_eq_false e8, decide_eq_false (show ¬ q < i + 1 by omega)]
      

set_option maxRecDepth 100000 in
theorem k_writeUnion (l : Launch) {S : pv_M} {A : Ab} {a : Nat} {L : List Nat} {P : Nat} (hg : gdR (A.1.1 a)) (hC : AtC A a L P S) (hP : AtP A a L P) {X n0 F0 : Nat} {T0 : Nat → Nat} (hX : X < 2 ^ 64) (hA : AutoAt S 19 20 n0 T0 F0) : mt l MX0_writeUnion 106 [.ref 37, .long (lN (X)), .ref 19] S (fun v S' => (6 < (bf (dL A a) (phi A a X)).length ∧ v = some (.int (nI 7)) ∧ FN wuP S S') ∨ ((bf (dL A a) (phi A a X)).length ≤ 6 ∧ v = some (.int (nI (bf (dL A a) (phi A a X)).length)) ∧ FN wuP S S' ∧ ∃ F, F < 64 ∧ (∀ q, q < 6 → F.testBit q = (decide (q < (bf (dL A a) (phi A a X)).length) && ((bf (dL A a) (phi A a X)).getD q 0).testBit (fA A a))) ∧ AutoAt S' 19 20 (bf (dL A a) (phi A a X)).length (TW A a (bf (dL A a) (phi A a X)) ((bf (dL A a) (phi A a X)).length * 3)) F)) := by
  refine mt_of (by decide) (Nat.le_of_ble_eq_true rfl) ?_
  intro x hl hR hmL C E
  show GG x 106 0 0 [.ref 37, .long (lN (X)), unk, .ref 19, unk, unk, unk, unk, unk] [] S 0
  refine g_aload_n C dX0_writeUnion_0 rfl ?_
  refine g_getR C fo_X0_62 dX0_writeUnion_1 rfl (by decide) (fun _ => rfl) (gs_37_1 hC.1) ?_
  refine n_bipush C 7 dX0_writeUnion_4 ?_
  refine g_callV C (As := [.int (nI (7))]) (c_X3_begin _ (gs_26_1 hC.1) (gs_26_2 hC.1) (by decide)) vo_X0_127 dX0_writeUnion_6 rfl rfl (by decide) rfl (rm_ok (M' := MX0_writeUnion) hR (by decide)) (Nat.le_of_ble_eq_true rfl) (fun v9 S1 h9 => ?_)
  obtain ⟨rfl, b1_, e, b2_, b3_, b4_⟩ := h9
  have hS1 := hC.1.fn b1_
  have he : 16 ≤ 2 ^ e := Nat.pow_le_pow_right (n := 2) (i := 4) (by decide) b2_.1
  have hC1 : AtC A a L P S1 := hC.keepR b1_.fr hS1 (by decide)
  have hK1 : KTL [] e S1 := ⟨b4_.ext (fun i hi => absurd hi (Nat.not_lt_zero _)), List.nodup_nil, fun K hK => absurd hK List.not_mem_nil⟩
  refine g_n0 [] rfl rfl rfl ?_
  refine g_aload_n C dX0_writeUnion_9 rfl ?_
  refine g_getR C fo_X0_62 dX0_writeUnion_10 rfl (by decide) (fun _ => rfl) (gs_37_1 hS1) ?_
  refine g_aload_n C dX0_writeUnion_13 rfl ?_
  refine g_lload_n C dX0_writeUnion_14 rfl ?_
  refine g_callV C (As := [.long (lN (X))]) (k_languageOf _ hg hC1 hP hX) vo_X0_149 dX0_writeUnion_15 rfl rfl (by decide) rfl (rm_ok (M' := MX0_writeUnion) hR (by decide)) (Nat.le_of_ble_eq_true rfl) (fun v9 S5 h9 => ?_)
  obtain ⟨rfl, h9⟩ := h9
  refine g_S S1 h9 ?_
  refine g_n0 [.long (lN (phi A a X)), .ref 26] rfl rfl rfl ?_
  refine g_callV C (As := [.long (lN (phi A a X))]) (k_plc _ hK1 phi_lt (Nat.lt_of_lt_of_le (by decide) he) (by decide)) vo_X0_140 dX0_writeUnion_18 rfl rfl (by decide) rfl (rm_ok (M' := MX0_writeUnion) hR (by decide)) (Nat.le_of_ble_eq_true rfl) (fun v9 S2 h9 => ?_)
  obtain ⟨rfl, n1, n2⟩ := h9
  have hS2 := hS1.fn n2
  have hA2 : AutoAt S2 19 20 n0 T0 F0 := (hA.keep b1_ (by decide) (by decide)).keep n2 (by decide) (by decide)
  replace n1 : KTL [phi A a X] e S2 := n1
  refine g_n0 [.int (nI ((addc [] (phi A a X)).idxOf (phi A a X)))] rfl rfl rfl ?_
  refine g_pop C dX0_writeUnion_21 rfl ?_
  refine g_aload_n C dX0_writeUnion_22 rfl ?_
  refine n_iconst C 1 dX0_writeUnion_23 ?_
  refine g_callV C (As := [.int (nI (1))]) (c_X1_clear _ hA2) vo_X0_153 dX0_writeUnion_24 rfl rfl (by decide) rfl (rm_ok (M' := MX0_writeUnion) hR (by decide)) (Nat.le_of_ble_eq_true rfl) (fun v9 S4 h9 => ?_)
  obtain ⟨rfl, a1, a2⟩ := h9
  have hS4 := hS2.fn a2
  have hK4 : KTL [phi A a X] e S4 := (n1.kp a2 (by decide))
  have hA4 : AutoAt S4 19 20 1 (TW A a (bf (dL A a) (phi A a X)) (0 * 3)) 0 := a1.ext (fun j hj => by unfold TW; rw [if_neg (by omega)])
  have hf4 : FN wuP S S4 := ((b1_.mono (fun r z => by rcases z with z | z | z <;> (show wuP r; omega))).tr (n2.mono (fun r z => by rcases z with z | z | z <;> (show wuP r; omega)))).tr (a2.mono (fun r z => by rcases z with z | z <;> (show wuP r; omega)))
  refine g_n0 [] rfl rfl rfl ?_
  refine n_iconst C 0 dX0_writeUnion_27 ?_
  refine g_istore C (by rw [hmL]; decide) dX0_writeUnion_28 [.ref 37, .long (lN (X)), unk, .ref 19, .int (nI (0)), unk, unk, unk, unk] rfl ?_
  have hl1 : [phi A a X].length = 1 := rfl
  refine lo_wu hR hmL C (R := (bf (dL A a) (phi A a X))) hg hC hP he (K0 := phi A a X) rfl (fun S8 i K q nx h8 h68 => ?_) (fun S8 i F h8 hK8 hA8 hF8 hB8 hf8 h68 => ?_) 7 0 S4 [phi A a X] 0 rfl (Nat.zero_le _) (by rw [hl1]; decide) hS4 hK4 hA4 (by decide) (fun q hq => by simp) hf4 rfl
  · refine n_bipush C 7 dX0_writeUnion_109 ?_
    exact g_iret C E dX0_writeUnion_111 (by rw [hR]; decide) (by rw [hR]; decide) (Or.inl ⟨h68, rfl, h8⟩)
  · refine g_aload_n C dX0_writeUnion_134 rfl ?_
    refine g_aload_n C dX0_writeUnion_135 rfl ?_
    refine g_getR C fo_X0_62 dX0_writeUnion_136 rfl (by decide) (fun _ => rfl) (gs_37_1 h8) ?_
    refine g_getI C fo_X0_139 dX0_writeUnion_139 rfl (by decide) (fun _ => rfl) hK8.1.2.1 ?_
    refine g_putI C fo_X0_132 dX0_writeUnion_142 rfl (by decide) rfl ?_
    refine g_aload_n C dX0_writeUnion_145 rfl ?_
    refine g_getR C fo_X0_62 dX0_writeUnion_146 rfl (by decide) (fun _ => rfl) (gs_37_1 h8) ?_
    refine g_getI C fo_X0_139 dX0_writeUnion_149 rfl (by decide) (fun _ => rfl) hK8.1.2.1 ?_
    exact g_iret C E dX0_writeUnion_152 (by rw [hR]; decide) (by rw [hR]; decide) (Or.inr ⟨h68, rfl, hf8.tr (FN.wI (Or.inl rfl)), F, hF8, hB8, hA8.putN⟩)
  
