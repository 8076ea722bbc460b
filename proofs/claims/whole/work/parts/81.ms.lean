/-! SHARES in the reference: counted forwards -/
/-- what comes to the state t from the first p edges -/
def mp (T g : Nat → Nat) (t : Nat) : Nat → Nat
  | 0 => 0
  | p + 1 => mp T g t p + if T p = t then g (p / 3) else 0
def ct (T : Nat → Nat) (N : Nat) : Nat → Nat → Nat
  | 0, s => if s = 0 then 1 else 0
  | k + 1, t => mp T (ct T N k) t (3 * N)
theorem w3_add (f g : Nat → Nat) : ∀ M, w3 (fun t => f t + g t) M = w3 f M + w3 g M
  | 0 => rfl
  | M + 1 => by show w3 _ M + (f M + g M) = (w3 f M + f M) + (w3 g M + g M); rw [w3_add f g M]; omega
theorem w3_cong {f g : Nat → Nat} : ∀ M, (∀ t, t < M → f t = g t) → w3 f M = w3 g M
  | 0, _ => rfl
  | M + 1, h => by show w3 f M + f M = w3 g M + g M; rw [w3_cong M (fun t ht => h t (by omega)), h M (by omega)]
theorem w3_0 : ∀ M, w3 (fun _ => 0) M = 0
  | 0 => rfl
  | M + 1 => by show w3 _ M + 0 = 0; rw [w3_0 M]
theorem w3_one {u v : Nat} {h : Nat → Nat} : ∀ M, w3 (fun t => (if u = t then v else 0) * h t) M = if u < M then v * h u else 0
  | 0 => rfl
  | M + 1 => by
    show w3 _ M + (if u = M then v else 0) * h M = _
    rw [w3_one M]
    by_cases e : u = M
    · subst e; simp
    · by_cases z : u < M
      · rw [if_pos z, if_neg e, if_pos (by omega)]; simp
      · rw [if_neg z, if_neg e, if_neg (by omega)]; simp
theorem mp_sum {T g h : Nat → Nat} {M : Nat} : ∀ P, (∀ p, p < P → T p < M) → w3 (fun t => mp T g t P * h t) M = w3 (fun p => g (p / 3) * h (T p)) P
  | 0, _ => (w3_cong (g := fun _ => 0) M (fun t _ => Nat.zero_mul _)).trans (w3_0 M)
  | P + 1, hT => by
    have e : w3 (fun t => mp T g t (P + 1) * h t) M = w3 (fun t => mp T g t P * h t + (if T P = t then g (P / 3) else 0) * h t) M := w3_cong M (fun t _ => Nat.add_mul _ _ _)
    rw [e, w3_add, mp_sum P (fun p hp => hT p (by omega)), w3_one, if_pos (hT P (by omega))]
    rfl
theorem w3_three {f : Nat → Nat} : ∀ N, w3 f (3 * N) = w3 (fun s => w3 (fun q => f (s * 3 + q)) 3) N
  | 0 => rfl
  | N + 1 => by
    rw [show 3 * (N + 1) = 3 * N + 1 + 1 + 1 by omega]
    show w3 f (3 * N) + f (3 * N) + f (3 * N + 1) + f (3 * N + 2) = w3 _ N + (0 + f (N * 3 + 0) + f (N * 3 + 1) + f (N * 3 + 2))
    rw [w3_three N, show N * 3 = 3 * N by omega]
    simp only [Nat.add_zero]
    omega
theorem ct_wy {T : Nat → Nat} {F N : Nat} (h0 : 0 < N) (hT : ∀ p, p < N * 3 → T p < N) : ∀ k m, w3 (fun s => ct T N k s * wy T F m s) N = wy T F (k + m) 0
  | 0, m => by
    have e := w3_one (u := 0) (v := 1) (h := wy T F m) N
    rw [if_pos h0, Nat.one_mul] at e
    rw [Nat.zero_add, ← e]
    refine w3_cong N (fun t _ => ?_)
    show (if t = 0 then 1 else 0) * _ = _
    by_cases z : t = 0
    · rw [if_pos z, if_pos z.symm]
    · rw [if_neg z, if_neg (fun q => z q.symm)]
  | k + 1, m => by
    rw [show k + 1 + m = k + (m + 1) by omega, ← ct_wy h0 hT k (m + 1)]
    show w3 (fun t => mp T (ct T N k) t (3 * N) * wy T F m t) N = _
    rw [mp_sum (3 * N) (fun p hp => hT p (by omega)), w3_three]
    refine w3_cong N (fun s hs => ?_)
    show 0 + ct T N k ((s * 3 + 0) / 3) * wy T F m (T (s * 3 + 0)) + ct T N k ((s * 3 + 1) / 3) * wy T F m (T (s * 3 + 1)) + ct T N k ((s * 3 + 2) / 3) * wy T F m (T (s * 3 + 2)) = ct T N k s * (0 + wy T F m (T (s * 3 + 0)) + wy T F m (T (s * 3 + 1)) + wy T F m (T (s * 3 + 2)))
    rw [show (s * 3 + 0) / 3 = s by omega, show (s * 3 + 1) / 3 = s by omega, show (s * 3 + 2) / 3 = s by omega, Nat.mul_add, Nat.mul_add, Nat.mul_add, Nat.mul_zero]
theorem ct_in {T : Nat → Nat} {F N : Nat} (h0 : 0 < N) (hT : ∀ p, p < N * 3 → T p < N) (k : Nat) : w3 (fun s => if F.testBit s then ct T N k s else 0) N = wy T F k 0 := by
  have e := ct_wy (F := F) h0 hT k 0
  rw [Nat.add_zero] at e
  rw [← e]
  refine w3_cong N (fun s _ => ?_)
  show _ = _ * (if F.testBit s then 1 else 0)
  by_cases e : F.testBit s = true
  · rw [if_pos e, if_pos e, Nat.mul_one]
  · rw [if_neg e, if_neg e, Nat.mul_zero]

set_option maxRecDepth 100000 in
theorem l1_so {x : Cx} (hR : xR x = MX12_shareOf.rm) (hmL : (xc x).maxLocals = MX12_shareOf.nL) (C : BX x cX12_shareOf RX12) {S0 : pv_M} {A : Ab} {j m : Nat} (hS0 : GS S0) (hM0 : MSt S0 A) (kk : ∀ S : pv_M, FN (fun r => r = 102) S0 S → (∀ s, s < 6 → mJ S 102 s = lN (ct (rT A j) (rN A j) (0) (s))) → GG x 106 0 0 [.ref 75, .int (nI (j)), .int (nI (m)), .int (nI (6)), unk, unk, unk, unk] [] (S) 29) : ∀ z i (S : pv_M), i + z = 6 → FN (fun r => r = 102) S0 S → (∀ s, s < i → mJ S 102 s = lN (ct (rT A j) (rN A j) (0) (s))) → GG x 106 0 0 [.ref 75, .int (nI (j)), .int (nI (m)), .int (nI (i)), unk, unk, unk, unk] [] (S) 2 := by
  intro z
  induction z with
  | zero =>
    intro i S hz hf hv
    obtain rfl : 6 = i := by omega
    have hS := hS0.fn hf
    have hM : MSt S A := hM0.fs (FT.fn hf (fun r z => by have z : r = 102 := z; omega)).1
    refine g_iload_n C dX12_shareOf_2 rfl ?_
    refine n_bipush C 6 dX12_shareOf_3 ?_
    refine n_ic_ge C 29 dX12_shareOf_5 (fun h5 => ?_) (fun h5 => absurd h5 (by omega))
    exact kk S hf hv
  | succ z ih =>
    intro i S hz hf hv
    have hS := hS0.fn hf
    have hM : MSt S A := hM0.fs (FT.fn hf (fun r z => by have z : r = 102 := z; omega)).1
    refine g_iload_n C dX12_shareOf_2 rfl ?_
    refine n_bipush C 6 dX12_shareOf_3 ?_
    refine n_ic_ge C 29 dX12_shareOf_5 (fun h5 => absurd h5 (by omega)) (fun h5 => ?_)
    refine g_aload_n C dX12_shareOf_8 rfl ?_
    refine g_getR C fo_X12_92 dX12_shareOf_9 rfl (by decide) (fun _ => rfl) (gs_75_41 hS) ?_
    refine g_iload_n C dX12_shareOf_12 rfl ?_
    refine g_iload_n C dX12_shareOf_13 rfl ?_
    suffices K22 : GG x 106 0 0 [.ref 75, .int (nI (j)), .int (nI (m)), .int (nI (i)), unk, unk, unk, unk] [.long (lN (if i = 0 then 1 else 0)), .int (nI (i)), .ref 102] S 22 from by
      refine n_if_ne C 21 dX12_shareOf_14 (fun h14 => ?_) (fun h14 => ?_)
      · refine n_lconst C 0 dX12_shareOf_21 ?_
        first | (rw [if_pos (by omega)] at K22; exact K22) | (rw [if_neg (by omega)] at K22; exact K22)
      · refine n_lconst C 1 dX12_shareOf_17 ?_
        refine g_goto C 22 dX12_shareOf_18 (by decide) ?_
        first | (rw [if_pos (by omega)] at K22; exact K22) | (rw [if_neg (by omega)] at K22; exact K22)
    refine g_last C dX12_shareOf_22 rfl (by decide) (by omega) rfl ?_
    refine n_iinc C (by rw [hmL]; decide) dX12_shareOf_23 rfl (n_i1 _) [.ref 75, .int (nI (j)), .int (nI (m)), .int (nI (i + 1)), unk, unk, unk, unk] ?_
    refine g_goto C 2 dX12_shareOf_26 (by decide) ?_
    refine ih (i + 1) _ (by omega) (hf.tr (FN.wJ (by decide))) (fun s hs => ?_)
    rw [mJ_wJ]
    by_cases e : s = i
    · rw [e, up_same]; rfl
    · rw [va_up_ne _ _ e]; exact hv s (by omega)

set_option maxRecDepth 100000 in
theorem la_so {x : Cx} (hR : xR x = MX12_shareOf.rm) (hmL : (xc x).maxLocals = MX12_shareOf.nL) (C : BX x cX12_shareOf RX12) {S0 : pv_M} {A : Ab} {j m : Nat} (hS0 : GS S0) (hM0 : MSt S0 A) {al k : Nat} (kk : ∀ S : pv_M, FN (fun r => r = 103) S0 S → (∀ s, s < 6 → mJ S 103 s = lN 0) → GG x 106 0 0 [.ref 75, .int (nI (j)), .int (nI (m)), .long (lN (al)), unk, .int (nI (k)), .int (nI (6)), unk] [] (S) 64) : ∀ z i (S : pv_M), i + z = 6 → FN (fun r => r = 103) S0 S → (∀ s, s < i → mJ S 103 s = lN 0) → GG x 106 0 0 [.ref 75, .int (nI (j)), .int (nI (m)), .long (lN (al)), unk, .int (nI (k)), .int (nI (i)), unk] [] (S) 43 := by
  intro z
  induction z with
  | zero =>
    intro i S hz hf hv
    obtain rfl : 6 = i := by omega
    have hS := hS0.fn hf
    have hM : MSt S A := hM0.fs (FT.fn hf (fun r z => by have z : r = 103 := z; omega)).1
    refine g_iload C dX12_shareOf_43 rfl ?_
    refine n_bipush C 6 dX12_shareOf_45 ?_
    refine n_ic_ge C 64 dX12_shareOf_47 (fun h47 => ?_) (fun h47 => absurd h47 (by omega))
    exact kk S hf hv
  | succ z ih =>
    intro i S hz hf hv
    have hS := hS0.fn hf
    have hM : MSt S A := hM0.fs (FT.fn hf (fun r z => by have z : r = 103 := z; omega)).1
    refine g_iload C dX12_shareOf_43 rfl ?_
    refine n_bipush C 6 dX12_shareOf_45 ?_
    refine n_ic_ge C 64 dX12_shareOf_47 (fun h47 => absurd h47 (by omega)) (fun h47 => ?_)
    refine g_aload_n C dX12_shareOf_50 rfl ?_
    refine g_getR C fo_X12_95 dX12_shareOf_51 rfl (by decide) (fun _ => rfl) (gs_75_42 hS) ?_
    refine g_iload C dX12_shareOf_54 rfl ?_
    refine n_lconst C 0 dX12_shareOf_56 ?_
    refine g_last C dX12_shareOf_57 rfl (by decide) (by omega) rfl ?_
    refine n_iinc C (by rw [hmL]; decide) dX12_shareOf_58 rfl (n_i1 _) [.ref 75, .int (nI (j)), .int (nI (m)), .long (lN (al)), unk, .int (nI (k)), .int (nI (i + 1)), unk] ?_
    refine g_goto C 43 dX12_shareOf_61 (by decide) ?_
    refine ih (i + 1) _ (by omega) (hf.tr (FN.wJ (by decide))) (fun s hs => ?_)
    rw [mJ_wJ]
    by_cases e : s = i
    · rw [e, up_same]
    · rw [va_up_ne _ _ e]; exact hv s (by omega)

set_option maxRecDepth 100000 in
theorem lq_so {x : Cx} (hR : xR x = MX12_shareOf.rm) (hmL : (xc x).maxLocals = MX12_shareOf.nL) (C : BX x cX12_shareOf RX12) {S0 : pv_M} {A : Ab} {j m : Nat} (hS0 : GS S0) (hM0 : MSt S0 A) (hj : j < 3) (hG : gdR (A.1.1 j)) {al k s : Nat} (hs : s < rN A j) (hc0 : ∀ s, s < 6 → mJ S0 102 s = lN (ct (rT A j) (rN A j) (k) (s))) (kk : ∀ S : pv_M, FN (fun r => r = 103) S0 S → (∀ t, t < 6 → mJ S 103 t = lN (mp (rT A j) (ct (rT A j) (rN A j) k) t (3 * s + 3))) → GG x 106 0 0 [.ref 75, .int (nI (j)), .int (nI (m)), .long (lN (al)), unk, .int (nI (k)), .int (nI (s)), .int (nI (3))] [] (S) 121) : ∀ z i (S : pv_M), i + z = 3 → FN (fun r => r = 103) S0 S → (∀ t, t < 6 → mJ S 103 t = lN (mp (rT A j) (ct (rT A j) (rN A j) k) t (3 * s + i))) → GG x 106 0 0 [.ref 75, .int (nI (j)), .int (nI (m)), .long (lN (al)), unk, .int (nI (k)), .int (nI (s)), .int (nI (i))] [] (S) 81 := by
  intro z
  induction z with
  | zero =>
    intro i S hz hf hv
    obtain rfl : 3 = i := by omega
    have hS := hS0.fn hf
    have hM : MSt S A := hM0.fs (FT.fn hf (fun r z => by have z : r = 103 := z; omega)).1
    have hG6 : rN A j ≤ 6 := hG.2.1
    refine g_iload C dX12_shareOf_81 rfl ?_
    refine n_iconst C 3 dX12_shareOf_83 ?_
    refine n_ic_ge C 121 dX12_shareOf_84 (fun h84 => ?_) (fun h84 => absurd h84 (by omega))
    exact kk S hf hv
  | succ z ih =>
    intro i S hz hf hv
    have hTi : rT A j (3 * s + i) < rN A j := hG.2.2.1 _ (by show 3 * s + i < rN A j * 3; omega)
    have hS := hS0.fn hf
    have hM : MSt S A := hM0.fs (FT.fn hf (fun r z => by have z : r = 103 := z; omega)).1
    have hG6 : rN A j ≤ 6 := hG.2.1
    refine g_iload C dX12_shareOf_81 rfl ?_
    refine n_iconst C 3 dX12_shareOf_83 ?_
    refine n_ic_ge C 121 dX12_shareOf_84 (fun h84 => absurd h84 (by omega)) (fun h84 => ?_)
    refine g_aload_n C dX12_shareOf_87 rfl ?_
    refine g_getR C fo_X12_95 dX12_shareOf_88 rfl (by decide) (fun _ => rfl) (gs_75_42 hS) ?_
    refine g_aload_n C dX12_shareOf_91 rfl ?_
    refine g_getR C fo_X12_13 dX12_shareOf_92 rfl (by decide) (fun _ => rfl) (gs_75_2 hS) ?_
    refine g_iload_n C dX12_shareOf_95 rfl ?_
    refine g_iload C dX12_shareOf_96 rfl ?_
    refine g_iload C dX12_shareOf_98 rfl ?_
    refine g_callS C (k_place _) so_X12_110 dX12_shareOf_100 rfl rfl (rm_ok (M' := MX12_shareOf) hR (by decide)) (Nat.le_of_ble_eq_true rfl) (fun v9 S9 h9 => ?_)
    obtain ⟨rfl, h9⟩ := h9
    refine g_S S h9 ?_
    refine g_n0 [.int (nI (18 * j + 3 * s + i)), .ref 77, .ref 103] rfl rfl rfl ?_
    refine n_iald C (v := (nI (rT A j (3 * s + i)))) dX12_shareOf_103 rfl (by decide) (hM.1.t hj (i := 3 * s + i) (by omega) (by omega)) ?_ (by omega)
    refine g_dup2 C dX12_shareOf_104 rfl rfl ?_
    refine n_lald C (v := (lN (mp (rT A j) (ct (rT A j) (rN A j) k) (rT A j (3 * s + i)) (3 * s + i)))) dX12_shareOf_105 rfl (by decide) (hv _ (by omega)) ?_ (by omega)
    refine g_aload_n C dX12_shareOf_106 rfl ?_
    refine g_getR C fo_X12_92 dX12_shareOf_107 rfl (by decide) (fun _ => rfl) (gs_75_41 hS) ?_
    refine g_iload C dX12_shareOf_110 rfl ?_
    refine n_lald C (v := (lN (ct (rT A j) (rN A j) (k) (s)))) dX12_shareOf_112 rfl (by decide) (by rw [(hf.2 102 (by decide)).2.1]; exact hc0 s (by omega)) ?_ (by omega)
    refine n_ladd C dX12_shareOf_113 ?_
    refine g_last C dX12_shareOf_114 rfl (by decide) (by omega) rfl ?_
    refine n_iinc C (by rw [hmL]; decide) dX12_shareOf_115 rfl (n_i1 _) [.ref 75, .int (nI (j)), .int (nI (m)), .long (lN (al)), unk, .int (nI (k)), .int (nI (s)), .int (nI (i + 1))] ?_
    refine g_goto C 81 dX12_shareOf_118 (by decide) ?_
    refine ih (i + 1) _ (by omega) (hf.tr (FN.wJ (by decide))) (fun t ht => ?_)
    rw [mJ_wJ]
    show _ = lN (mp (rT A j) (ct (rT A j) (rN A j) k) t (3 * s + i) + if (rT A j) (3 * s + i) = t then ct (rT A j) (rN A j) k ((3 * s + i) / 3) else 0)
    by_cases e : t = rT A j (3 * s + i)
    · rw [e, up_same, if_pos rfl, show (3 * s + i) / 3 = s by omega]
    · rw [va_up_ne _ _ e, if_neg (fun z => e z.symm), Nat.add_zero]; exact hv t ht

set_option maxRecDepth 100000 in
theorem lb_so {x : Cx} (hR : xR x = MX12_shareOf.rm) (hmL : (xc x).maxLocals = MX12_shareOf.nL) (C : BX x cX12_shareOf RX12) {S0 : pv_M} {A : Ab} {j m : Nat} (hS0 : GS S0) (hM0 : MSt S0 A) (hj : j < 3) (hG : gdR (A.1.1 j)) {al k : Nat} (hc0 : ∀ s, s < 6 → mJ S0 102 s = lN (ct (rT A j) (rN A j) (k) (s))) (kk : ∀ S : pv_M, FN (fun r => r = 103) S0 S → (∀ t, t < 6 → mJ S 103 t = lN (mp (rT A j) (ct (rT A j) (rN A j) k) t (3 * rN A j))) → GG x 106 0 0 [.ref 75, .int (nI (j)), .int (nI (m)), .long (lN (al)), unk, .int (nI (k)), .int (nI (rN A j)), unk] [] (S) 127) : ∀ z i (S : pv_M), i + z = rN A j → FN (fun r => r = 103) S0 S → (∀ t, t < 6 → mJ S 103 t = lN (mp (rT A j) (ct (rT A j) (rN A j) k) t (3 * i))) → GG x 106 0 0 [.ref 75, .int (nI (j)), .int (nI (m)), .long (lN (al)), unk, .int (nI (k)), .int (nI (i)), unk] [] (S) 67 := by
  intro z
  induction z with
  | zero =>
    intro i S hz hf hv
    obtain rfl : rN A j = i := by omega
    have hS := hS0.fn hf
    have hM : MSt S A := hM0.fs (FT.fn hf (fun r z => by have z : r = 103 := z; omega)).1
    have hG6 : rN A j ≤ 6 := hG.2.1
    refine g_iload C dX12_shareOf_67 rfl ?_
    refine g_aload_n C dX12_shareOf_69 rfl ?_
    refine g_getR C fo_X12_7 dX12_shareOf_70 rfl (by decide) (fun _ => rfl) (gs_75_1 hS) ?_
    refine g_iload_n C dX12_shareOf_73 rfl ?_
    refine n_iald C (v := (nI (rN A j))) dX12_shareOf_74 rfl (by decide) (hM.1.n hj) ?_ (by omega)
    refine n_ic_ge C 127 dX12_shareOf_75 (fun h75 => ?_) (fun h75 => absurd h75 (by omega))
    exact kk S hf hv
  | succ z ih =>
    intro i S hz hf hv
    have hS := hS0.fn hf
    have hM : MSt S A := hM0.fs (FT.fn hf (fun r z => by have z : r = 103 := z; omega)).1
    have hG6 : rN A j ≤ 6 := hG.2.1
    refine g_iload C dX12_shareOf_67 rfl ?_
    refine g_aload_n C dX12_shareOf_69 rfl ?_
    refine g_getR C fo_X12_7 dX12_shareOf_70 rfl (by decide) (fun _ => rfl) (gs_75_1 hS) ?_
    refine g_iload_n C dX12_shareOf_73 rfl ?_
    refine n_iald C (v := (nI (rN A j))) dX12_shareOf_74 rfl (by decide) (hM.1.n hj) ?_ (by omega)
    refine n_ic_ge C 127 dX12_shareOf_75 (fun h75 => absurd h75 (by omega)) (fun h75 => ?_)
    refine n_iconst C 0 dX12_shareOf_78 ?_
    refine g_istore C (by rw [hmL]; decide) dX12_shareOf_79 [.ref 75, .int (nI (j)), .int (nI (m)), .long (lN (al)), unk, .int (nI (k)), .int (nI (i)), .int (nI (0))] rfl ?_
    refine lq_so hR hmL C hS0 hM0 hj hG (s := i) (by omega) hc0 (fun S2 hf2 hv2 => ?_) 3 0 S rfl hf hv
    refine n_iinc C (by rw [hmL]; decide) dX12_shareOf_121 rfl (n_i1 _) [.ref 75, .int (nI (j)), .int (nI (m)), .long (lN (al)), unk, .int (nI (k)), .int (nI (i + 1)), .int (nI (3))] ?_
    refine g_goto C 67 dX12_shareOf_124 (by decide) ?_
    refine g_frg [.ref 75, .int (nI (j)), .int (nI (m)), .long (lN (al)), unk, .int (nI (k)), .int (nI (i + 1)), unk] ⟨Or.inr rfl, Or.inr rfl, Or.inr rfl, Or.inr rfl, Or.inl rfl, Or.inr rfl, Or.inr rfl, Or.inl rfl, trivial⟩ ?_
    exact ih (i + 1) S2 (by omega) hf2 (by rw [show 3 * (i + 1) = 3 * i + 3 by omega]; exact hv2)
    

set_option maxRecDepth 100000 in
theorem lc_so {x : Cx} (hR : xR x = MX12_shareOf.rm) (hmL : (xc x).maxLocals = MX12_shareOf.nL) (C : BX x cX12_shareOf RX12) {S0 : pv_M} {A : Ab} {j m : Nat} (hS0 : GS S0) (hM0 : MSt S0 A) {al k : Nat} (hm0 : ∀ t, t < 6 → mJ S0 103 t = lN (ct (rT A j) (rN A j) (k + 1) (t))) (kk : ∀ S : pv_M, FN (fun r => r = 102) S0 S → (∀ s, s < 6 → mJ S 102 s = lN (ct (rT A j) (rN A j) (k + 1) (s))) → GG x 106 0 0 [.ref 75, .int (nI (j)), .int (nI (m)), .long (lN (al)), unk, .int (nI (k)), .int (nI (6)), unk] [] (S) 157) : ∀ z i (S : pv_M), i + z = 6 → FN (fun r => r = 102) S0 S → (∀ s, s < i → mJ S 102 s = lN (ct (rT A j) (rN A j) (k + 1) (s))) → GG x 106 0 0 [.ref 75, .int (nI (j)), .int (nI (m)), .long (lN (al)), unk, .int (nI (k)), .int (nI (i)), unk] [] (S) 130 := by
  intro z
  induction z with
  | zero =>
    intro i S hz hf hv
    obtain rfl : 6 = i := by omega
    have hS := hS0.fn hf
    have hM : MSt S A := hM0.fs (FT.fn hf (fun r z => by have z : r = 102 := z; omega)).1
    refine g_iload C dX12_shareOf_130 rfl ?_
    refine n_bipush C 6 dX12_shareOf_132 ?_
    refine n_ic_ge C 157 dX12_shareOf_134 (fun h134 => ?_) (fun h134 => absurd h134 (by omega))
    exact kk S hf hv
  | succ z ih =>
    intro i S hz hf hv
    have hS := hS0.fn hf
    have hM : MSt S A := hM0.fs (FT.fn hf (fun r z => by have z : r = 102 := z; omega)).1
    refine g_iload C dX12_shareOf_130 rfl ?_
    refine n_bipush C 6 dX12_shareOf_132 ?_
    refine n_ic_ge C 157 dX12_shareOf_134 (fun h134 => absurd h134 (by omega)) (fun h134 => ?_)
    refine g_aload_n C dX12_shareOf_137 rfl ?_
    refine g_getR C fo_X12_92 dX12_shareOf_138 rfl (by decide) (fun _ => rfl) (gs_75_41 hS) ?_
    refine g_iload C dX12_shareOf_141 rfl ?_
    refine g_aload_n C dX12_shareOf_143 rfl ?_
    refine g_getR C fo_X12_95 dX12_shareOf_144 rfl (by decide) (fun _ => rfl) (gs_75_42 hS) ?_
    refine g_iload C dX12_shareOf_147 rfl ?_
    refine n_lald C (v := (lN (ct (rT A j) (rN A j) (k + 1) (i)))) dX12_shareOf_149 rfl (by decide) (by rw [(hf.2 103 (by decide)).2.1]; exact hm0 i (by omega)) ?_ (by omega)
    refine g_last C dX12_shareOf_150 rfl (by decide) (by omega) rfl ?_
    refine n_iinc C (by rw [hmL]; decide) dX12_shareOf_151 rfl (n_i1 _) [.ref 75, .int (nI (j)), .int (nI (m)), .long (lN (al)), unk, .int (nI (k)), .int (nI (i + 1)), unk] ?_
    refine g_goto C 130 dX12_shareOf_154 (by decide) ?_
    refine ih (i + 1) _ (by omega) (hf.tr (FN.wJ (by decide))) (fun s hs => ?_)
    rw [mJ_wJ]
    by_cases e : s = i
    · rw [e, up_same]
    · rw [va_up_ne _ _ e]; exact hv s (by omega)

set_option maxRecDepth 100000 in
theorem l2_so {x : Cx} (hR : xR x = MX12_shareOf.rm) (hmL : (xc x).maxLocals = MX12_shareOf.nL) (C : BX x cX12_shareOf RX12) {S0 : pv_M} {A : Ab} {j m : Nat} (hS0 : GS S0) (hM0 : MSt S0 A) (hj : j < 3) (hG : gdR (A.1.1 j)) (hm : m ≤ 20) (kk : ∀ S : pv_M, FN (fun r => r = 102 ∨ r = 103) S0 S → (∀ s, s < 6 → mJ S 102 s = lN (ct (rT A j) (rN A j) (m) (s))) → GG x 106 0 0 [.ref 75, .int (nI (j)), .int (nI (m)), .long (lN (3 ^ (m))), unk, .int (nI (m)), unk, unk] [] (S) 169) : ∀ z i (S : pv_M), i + z = m → FN (fun r => r = 102 ∨ r = 103) S0 S → (∀ s, s < 6 → mJ S 102 s = lN (ct (rT A j) (rN A j) (i) (s))) → GG x 106 0 0 [.ref 75, .int (nI (j)), .int (nI (m)), .long (lN (3 ^ (i))), unk, .int (nI (i)), unk, unk] [] (S) 34 := by
  intro z
  induction z with
  | zero =>
    intro i S hz hf hv
    obtain rfl : m = i := by omega
    have hS := hS0.fn hf
    have hM : MSt S A := hM0.fs (FT.fn hf (fun r z => by have z : r = 102 ∨ r = 103 := z; omega)).1
    refine g_iload C dX12_shareOf_34 rfl ?_
    refine g_iload_n C dX12_shareOf_36 rfl ?_
    refine n_ic_ge C 169 dX12_shareOf_37 (fun h37 => ?_) (fun h37 => absurd h37 (by omega)) (by decide) (by omega) (by omega)
    exact kk S hf hv
  | succ z ih =>
    intro i S hz hf hv
    have hS := hS0.fn hf
    have hM : MSt S A := hM0.fs (FT.fn hf (fun r z => by have z : r = 102 ∨ r = 103 := z; omega)).1
    refine g_iload C dX12_shareOf_34 rfl ?_
    refine g_iload_n C dX12_shareOf_36 rfl ?_
    refine n_ic_ge C 169 dX12_shareOf_37 (fun h37 => absurd h37 (by omega)) (fun h37 => ?_) (by decide) (by omega) (by omega)
    refine n_iconst C 0 dX12_shareOf_40 ?_
    refine g_istore C (by rw [hmL]; decide) dX12_shareOf_41 [.ref 75, .int (nI (j)), .int (nI (m)), .long (lN (3 ^ (i))), unk, .int (nI (i)), .int (nI (0)), unk] rfl ?_
    refine la_so hR hmL C hS hM (fun S1 f1 v1 => ?_) 6 0 S rfl FN.rf (fun s hs => absurd hs (Nat.not_lt_zero _))
    have hS1 := hS.fn f1
    have hM1 : MSt S1 A := hM.fs (FT.fn f1 (fun r z => by have z : r = 103 := z; omega)).1
    have hc1 : ∀ s, s < 6 → mJ S1 102 s = lN (ct (rT A j) (rN A j) (i) (s)) := fun s hs => by rw [(f1.2 102 (by decide)).2.1]; exact hv s hs
    refine n_iconst C 0 dX12_shareOf_64 ?_
    refine g_istore C (by rw [hmL]; decide) dX12_shareOf_65 [.ref 75, .int (nI (j)), .int (nI (m)), .long (lN (3 ^ (i))), unk, .int (nI (i)), .int (nI (0)), unk] rfl ?_
    refine lb_so hR hmL C hS1 hM1 hj hG hc1 (fun S2 f2 v2 => ?_) (rN A j) 0 S1 (Nat.zero_add _) FN.rf (fun t ht => v1 t ht)
    have hS2 := hS1.fn f2
    have hM2 : MSt S2 A := hM1.fs (FT.fn f2 (fun r z => by have z : r = 103 := z; omega)).1
    refine n_iconst C 0 dX12_shareOf_127 ?_
    refine g_istore C (by rw [hmL]; decide) dX12_shareOf_128 [.ref 75, .int (nI (j)), .int (nI (m)), .long (lN (3 ^ (i))), unk, .int (nI (i)), .int (nI (0)), unk] rfl ?_
    refine lc_so hR hmL C hS2 hM2 (k := i) v2 (fun S3 f3 v3 => ?_) 6 0 S2 rfl FN.rf (fun s hs => absurd hs (Nat.not_lt_zero _))
    refine g_lload_n C dX12_shareOf_157 rfl ?_
    refine g_ldc2 C (v := lN 3) dX12_shareOf_158 kc_X12_280 ?_
    refine n_lmul C dX12_shareOf_161 ?_
    refine g_lstore_n C (by rw [hmL]; decide) dX12_shareOf_162 [.ref 75, .int (nI (j)), .int (nI (m)), .long (lN ((3 ^ (i)) * (3))), unk, .int (nI (i)), .int (nI (6)), unk] rfl ?_
    refine n_iinc C (by rw [hmL]; decide) dX12_shareOf_163 rfl (n_i1 _) [.ref 75, .int (nI (j)), .int (nI (m)), .long (lN ((3 ^ (i)) * (3))), unk, .int (nI (i + 1)), .int (nI (6)), unk] ?_
    refine g_goto C 34 dX12_shareOf_166 (by decide) ?_
    refine g_frg [.ref 75, .int (nI (j)), .int (nI (m)), .long (lN ((3 ^ (i)) * (3))), unk, .int (nI (i + 1)), unk, unk] ⟨Or.inr rfl, Or.inr rfl, Or.inr rfl, Or.inr rfl, Or.inl rfl, Or.inr rfl, Or.inl rfl, Or.inl rfl, trivial⟩ ?_
    exact ih (i + 1) S3 (by omega) (((hf.tr (f1.mono (fun r z => Or.inr z))).tr (f2.mono (fun r z => Or.inr z))).tr (f3.mono (fun r z => Or.inl z))) v3
    
    
    

set_option maxRecDepth 100000 in
theorem l3_so {x : Cx} (hR : xR x = MX12_shareOf.rm) (hmL : (xc x).maxLocals = MX12_shareOf.nL) (C : BX x cX12_shareOf RX12) {S : pv_M} {A : Ab} {j m : Nat} (hS : GS S) (hM : MSt S A) (hj : j < 3) (hG : gdR (A.1.1 j)) (hv : ∀ s, s < 6 → mJ S 102 s = lN (ct (rT A j) (rN A j) (m) (s))) (kk : GG x 106 0 0 [.ref 75, .int (nI (j)), .int (nI (m)), .long (lN (3 ^ (m))), unk, .long (lN (w3 (fun s => if (rF A j).testBit s then ct (rT A j) (rN A j) (m) (s) else 0) (rN A j))), unk, .int (nI (rN A j))] [] (S) 223) : ∀ z i, i + z = rN A j → GG x 106 0 0 [.ref 75, .int (nI (j)), .int (nI (m)), .long (lN (3 ^ (m))), unk, .long (lN (w3 (fun s => if (rF A j).testBit s then ct (rT A j) (rN A j) (m) (s) else 0) (i))), unk, .int (nI (i))] [] (S) 175 := by
  have hG6 : rN A j ≤ 6 := hG.2.1
  intro z
  induction z with
  | zero =>
    intro i hz
    obtain rfl : rN A j = i := by omega
    refine g_iload C dX12_shareOf_175 rfl ?_
    refine g_aload_n C dX12_shareOf_177 rfl ?_
    refine g_getR C fo_X12_7 dX12_shareOf_178 rfl (by decide) (fun _ => rfl) (gs_75_1 hS) ?_
    refine g_iload_n C dX12_shareOf_181 rfl ?_
    refine n_iald C (v := (nI (rN A j))) dX12_shareOf_182 rfl (by decide) (hM.1.n hj) ?_ (by omega)
    refine n_ic_ge C 223 dX12_shareOf_183 (fun h183 => ?_) (fun h183 => absurd h183 (by omega))
    exact kk
  | succ z ih =>
    intro i hz
    refine g_iload C dX12_shareOf_175 rfl ?_
    refine g_aload_n C dX12_shareOf_177 rfl ?_
    refine g_getR C fo_X12_7 dX12_shareOf_178 rfl (by decide) (fun _ => rfl) (gs_75_1 hS) ?_
    refine g_iload_n C dX12_shareOf_181 rfl ?_
    refine n_iald C (v := (nI (rN A j))) dX12_shareOf_182 rfl (by decide) (hM.1.n hj) ?_ (by omega)
    refine n_ic_ge C 223 dX12_shareOf_183 (fun h183 => absurd h183 (by omega)) (fun h183 => ?_)
    refine g_lload C dX12_shareOf_186 rfl ?_
    refine g_aload_n C dX12_shareOf_188 rfl ?_
    refine g_getR C fo_X12_16 dX12_shareOf_189 rfl (by decide) (fun _ => rfl) (gs_75_3 hS) ?_
    refine n_bipush C 6 dX12_shareOf_192 ?_
    refine g_iload_n C dX12_shareOf_194 rfl ?_
    refine n_imul C dX12_shareOf_195 ?_
    refine g_iload C dX12_shareOf_196 rfl ?_
    refine n_iadd C dX12_shareOf_198 ?_
    refine n_zald C (v := (bI ((rF A j).testBit i))) dX12_shareOf_199 rfl (by decide) (hM.1.f hj (i := i) (by omega) (by omega)) ?_ (by omega)
    suffices K214 : GG x 106 0 0 [.ref 75, .int (nI (j)), .int (nI (m)), .long (lN (3 ^ (m))), unk, .long (lN (w3 (fun s => if (rF A j).testBit s then ct (rT A j) (rN A j) (m) (s) else 0) (i))), unk, .int (nI (i))] [.long (lN (if (rF A j).testBit i then ct (rT A j) (rN A j) (m) (i) else 0)), .long (lN (w3 (fun s => if (rF A j).testBit s then ct (rT A j) (rN A j) (m) (s) else 0) (i)))] S 214 from by
      refine b_if_eq C 213 dX12_shareOf_200 (fun h200 => ?_) (fun h200 => ?_)
      · refine n_lconst C 0 dX12_shareOf_213 ?_
        first | (rw [if_pos (by assumption)] at K214; exact K214) | (rw [if_neg (by simp_all)] at K214; exact K214)
      · refine g_aload_n C dX12_shareOf_203 rfl ?_
        refine g_getR C fo_X12_92 dX12_shareOf_204 rfl (by decide) (fun _ => rfl) (gs_75_41 hS) ?_
        refine g_iload C dX12_shareOf_207 rfl ?_
        refine n_lald C (v := (lN (ct (rT A j) (rN A j) (m) (i)))) dX12_shareOf_209 rfl (by decide) (hv i (by omega)) ?_ (by omega)
        refine g_goto C 214 dX12_shareOf_210 (by decide) ?_
        first | (rw [if_pos (by assumption)] at K214; exact K214) | (rw [if_neg (by simp_all)] at K214; exact K214)
    refine n_ladd C dX12_shareOf_214 ?_
    refine g_lstore C (by rw [hmL]; decide) dX12_shareOf_215 [.ref 75, .int (nI (j)), .int (nI (m)), .long (lN (3 ^ (m))), unk, .long (lN ((w3 (fun s => if (rF A j).testBit s then ct (rT A j) (rN A j) (m) (s) else 0) (i)) + (if (rF A j).testBit i then ct (rT A j) (rN A j) (m) (i) else 0))), unk, .int (nI (i))] rfl ?_
    refine n_iinc C (by rw [hmL]; decide) dX12_shareOf_217 rfl (n_i1 _) [.ref 75, .int (nI (j)), .int (nI (m)), .long (lN (3 ^ (m))), unk, .long (lN ((w3 (fun s => if (rF A j).testBit s then ct (rT A j) (rN A j) (m) (s) else 0) (i)) + (if (rF A j).testBit i then ct (rT A j) (rN A j) (m) (i) else 0))), unk, .int (nI (i + 1))] ?_
    refine g_goto C 175 dX12_shareOf_220 (by decide) ?_
    exact ih (i + 1) (by omega)

set_option maxRecDepth 100000 in
theorem k_shareOf (l : Launch) {S : pv_M} {A : Ab} {j m : Nat} (hS : GS S) (hM : MSt S A) (hj : j < 3) (hG : gdR (A.1.1 j)) (hm : m ≤ 20) : mt l MX12_shareOf 106 [.ref 75, .int (nI (j)), .int (nI (m))] S (fun v S' => v = some (.double (shV (rT A j) (rF A j) m)) ∧ FN (fun r => r = 102 ∨ r = 103) S S') := by
  refine mt_of (by decide) (Nat.le_of_ble_eq_true rfl) ?_
  intro x hl hR hmL C E
  show GG x 106 0 0 [.ref 75, .int (nI (j)), .int (nI (m)), unk, unk, unk, unk, unk] [] S 0
  refine n_iconst C 0 dX12_shareOf_0 ?_
  refine g_istore_n C (by rw [hmL]; decide) dX12_shareOf_1 [.ref 75, .int (nI (j)), .int (nI (m)), .int (nI (0)), unk, unk, unk, unk] rfl ?_
  refine l1_so hR hmL C hS hM (fun S1 f1 v1 => ?_) 6 0 S rfl FN.rf (fun s hs => absurd hs (Nat.not_lt_zero _))
  refine n_lconst C 1 dX12_shareOf_29 ?_
  refine g_lstore_n C (by rw [hmL]; decide) dX12_shareOf_30 [.ref 75, .int (nI (j)), .int (nI (m)), .long (lN (1)), unk, unk, unk, unk] rfl ?_
  refine n_iconst C 0 dX12_shareOf_31 ?_
  refine g_istore C (by rw [hmL]; decide) dX12_shareOf_32 [.ref 75, .int (nI (j)), .int (nI (m)), .long (lN (1)), unk, .int (nI (0)), unk, unk] rfl ?_
  have g1 : FN (fun r => r = 102 ∨ r = 103) S S1 := f1.mono (fun r z => Or.inl z)
  refine l2_so hR hmL C hS hM hj hG hm (fun S2 f2 v2 => ?_) m 0 S1 (Nat.zero_add _) g1 v1
  have hS2 := hS.fn f2
  have hM2 : MSt S2 A := hM.fs (FT.fn f2 (fun r z => by have z : r = 102 ∨ r = 103 := z; omega)).1
  refine n_lconst C 0 dX12_shareOf_169 ?_
  refine g_lstore C (by rw [hmL]; decide) dX12_shareOf_170 [.ref 75, .int (nI (j)), .int (nI (m)), .long (lN (3 ^ (m))), unk, .long (lN (0)), unk, unk] rfl ?_
  refine n_iconst C 0 dX12_shareOf_172 ?_
  refine g_istore C (by rw [hmL]; decide) dX12_shareOf_173 [.ref 75, .int (nI (j)), .int (nI (m)), .long (lN (3 ^ (m))), unk, .long (lN (0)), unk, .int (nI (0))] rfl ?_
  refine l3_so hR hmL C hS2 hM2 hj hG v2 ?_ (rN A j) 0 (Nat.zero_add _)
  have ein := ct_in (F := rF A j) hG.1 hG.2.2.1 m
  obtain ⟨nn, hpv, _, _⟩ := shV_ok (T := rT A j) (F := rF A j) (k := m) hm
  rw [ein]
  refine g_lload C dX12_shareOf_223 rfl ?_
  refine g_l2d C dX12_shareOf_225 ?_
  refine g_lload_n C dX12_shareOf_226 rfl ?_
  refine g_l2d C dX12_shareOf_227 ?_
  refine g_ddiv C dX12_shareOf_228 hpv.ok ?_
  exact g_dret C E dX12_shareOf_229 (by rw [hR]; decide) (by rw [hR]; decide) ⟨rfl, f2⟩
  
  
  
