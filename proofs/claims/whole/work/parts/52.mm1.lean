abbrev fsM (A : Ab) (a k : Nat) : Nat := orf (fun s => (rF A a).testBit s) (fun s => 2 ^ s) k
abbrev ldM (A : Ab) (a X q k : Nat) : Nat := orf (fun s => X.testBit s) (fun s => 2 ^ (rT A a (s * 3 + q))) k
abbrev lbM (A : Ab) (a X q k : Nat) : Nat := orf (fun s => X.testBit (rT A a (s * 3 + q))) (fun s => 2 ^ s) k
theorem orf_1 {c : Nat → Bool} {g : Nat → Nat} {k : Nat} : orf c g k ||| (if c k then g k else 0) = orf c g (k + 1) := rfl

set_option maxRecDepth 100000 in
theorem lp_finalStates {x : Cx} (hR : xR x = MX12_finalStates.rm) (hmL : (xc x).maxLocals = MX12_finalStates.nL) (C : BX x cX12_finalStates RX12) {S : pv_M} {A : Ab} {a : Nat} (hS : GS S) (hM : MSt S A) (hja : a < 3) (hga : gdR (A.1.1 a)) (h22 : mI S 75 22 = nI a) (kk : GG x 106 0 0 [.ref 75, .long (lN (fsM A a (rN A a))), unk, .int (nI (rN A a))] [] (S) 50) : ∀ z i, i + z = rN A a → GG x 106 0 0 [.ref 75, .long (lN (fsM A a (i))), unk, .int (nI (i))] [] (S) 4 := by
  have hn6a : rN A a ≤ 6 := hga.2.1
  have hn0a : 0 < rN A a := hga.1
  have hrna : rN A a = (A.1.1 a).1 := rfl
  intro z
  induction z with
  | zero =>
    intro i hz
    obtain rfl : rN A a = i := by omega
    refine g_iload_n C dX12_finalStates_4 rfl ?_
    refine g_aload_n C dX12_finalStates_5 rfl ?_
    refine g_getR C fo_X12_7 dX12_finalStates_6 rfl (by decide) (fun _ => rfl) (gs_75_1 hS) ?_
    refine g_aload_n C dX12_finalStates_9 rfl ?_
    refine g_getI C fo_X12_173 dX12_finalStates_10 rfl (by decide) (fun _ => rfl) h22 ?_
    refine n_iald C dX12_finalStates_13 rfl (by decide) (hM.1.n hja) ?_ (by omega)
    refine n_ic_ge C 50 dX12_finalStates_14 (fun h14 => ?_) (fun h14 => absurd h14 (by omega))
    exact kk
  | succ z ih =>
    intro i hz
    refine g_iload_n C dX12_finalStates_4 rfl ?_
    refine g_aload_n C dX12_finalStates_5 rfl ?_
    refine g_getR C fo_X12_7 dX12_finalStates_6 rfl (by decide) (fun _ => rfl) (gs_75_1 hS) ?_
    refine g_aload_n C dX12_finalStates_9 rfl ?_
    refine g_getI C fo_X12_173 dX12_finalStates_10 rfl (by decide) (fun _ => rfl) h22 ?_
    refine n_iald C dX12_finalStates_13 rfl (by decide) (hM.1.n hja) ?_ (by omega)
    refine n_ic_ge C 50 dX12_finalStates_14 (fun h14 => absurd h14 (by omega)) (fun h14 => ?_)
    refine g_lload_n C dX12_finalStates_17 rfl ?_
    refine g_aload_n C dX12_finalStates_18 rfl ?_
    refine g_getR C fo_X12_16 dX12_finalStates_19 rfl (by decide) (fun _ => rfl) (gs_75_3 hS) ?_
    refine n_bipush C 6 dX12_finalStates_22 ?_
    refine g_aload_n C dX12_finalStates_24 rfl ?_
    refine g_getI C fo_X12_173 dX12_finalStates_25 rfl (by decide) (fun _ => rfl) h22 ?_
    refine n_imul C dX12_finalStates_28 ?_
    refine g_iload_n C dX12_finalStates_29 rfl ?_
    refine n_iadd C dX12_finalStates_30 ?_
    refine n_zald C dX12_finalStates_31 rfl (by decide) (hM.1.f hja (i := i) (by omega) rfl) ?_ (by omega)
    suffices K42 : GG x 106 0 0 [.ref 75, .long (lN (fsM A a (i))), unk, .int (nI (i))] [.long (lN (if (rF A a).testBit i then 2 ^ i else 0)), .long (lN (fsM A a (i)))] S 42 from by
      refine b_if_eq C 41 dX12_finalStates_32 (fun h32 => ?_) (fun h32 => ?_)
      · refine n_lconst C 0 dX12_finalStates_41 ?_
        rw [if_neg (by rw [h32]; decide)] at K42; exact K42
      · refine n_lconst C 1 dX12_finalStates_35 ?_
        refine g_iload_n C dX12_finalStates_36 rfl ?_
        refine n_lshl C dX12_finalStates_37 ?_ (by omega)
        refine g_goto C 42 dX12_finalStates_38 (by decide) ?_
        rw [if_pos h32, ← Nat.one_mul (2 ^ i)] at K42; exact K42
    refine n_lor C dX12_finalStates_42 ?_
    refine g_lstore_n C (by rw [hmL]; decide) dX12_finalStates_43 [.ref 75, .long (lN ((fsM A a (i)) ||| (if (rF A a).testBit i then 2 ^ i else 0))), unk, .int (nI (i))] rfl ?_
    refine n_iinc C (by rw [hmL]; decide) dX12_finalStates_44 rfl (n_i1 _) [.ref 75, .long (lN ((fsM A a (i)) ||| (if (rF A a).testBit i then 2 ^ i else 0))), unk, .int (nI (i + 1))] ?_
    refine g_goto C 4 dX12_finalStates_47 (by decide) ?_
    exact ih (i + 1) (by omega)

set_option maxRecDepth 100000 in
theorem k_finalStates (l : Launch) {S : pv_M} {A : Ab} {a : Nat} (hS : GS S) (hM : MSt S A) (hja : a < 3) (hga : gdR (A.1.1 a)) (h22 : mI S 75 22 = nI a) : mt l MX12_finalStates 106 [.ref 75] S (fun v S' => v = some (.long (lN (fsM A a (rN A a)))) ∧ S' = S) := by
  refine mt_of (by decide) (Nat.le_of_ble_eq_true rfl) ?_
  intro x hl hR hmL C E
  show GG x 106 0 0 [.ref 75, unk, unk, unk] [] S 0
  refine n_lconst C 0 dX12_finalStates_0 ?_
  refine g_lstore_n C (by rw [hmL]; decide) dX12_finalStates_1 [.ref 75, .long (lN (0)), unk, unk] rfl ?_
  refine n_iconst C 0 dX12_finalStates_2 ?_
  refine g_istore_n C (by rw [hmL]; decide) dX12_finalStates_3 [.ref 75, .long (lN (0)), unk, .int (nI (0))] rfl ?_
  refine lp_finalStates hR hmL C hS hM hja hga h22 ?_ (rN A a) 0 (Nat.zero_add _)
  refine g_lload_n C dX12_finalStates_50 rfl ?_
  exact g_lret C E dX12_finalStates_51 (by rw [hR]; decide) (by rw [hR]; decide) ⟨rfl, rfl⟩

set_option maxRecDepth 100000 in
theorem lp_led {x : Cx} (hR : xR x = MX12_led.rm) (hmL : (xc x).maxLocals = MX12_led.nL) (C : BX x cX12_led RX12) {S : pv_M} {A : Ab} {a : Nat} (hS : GS S) (hM : MSt S A) (hja : a < 3) (hga : gdR (A.1.1 a)) {X q : Nat} (hX : X < 64) (hq : q < 3) (kk : GG x 106 0 0 [.ref 75, .int (nI (a)), .long (lN (X)), unk, .int (nI (q)), .long (lN (ldM A a X q (rN A a))), unk, .int (nI (rN A a))] [] (S) 58) : ∀ z i, i + z = rN A a → GG x 106 0 0 [.ref 75, .int (nI (a)), .long (lN (X)), unk, .int (nI (q)), .long (lN (ldM A a X q (i))), unk, .int (nI (i))] [] (S) 6 := by
  have hn6a : rN A a ≤ 6 := hga.2.1
  have hn0a : 0 < rN A a := hga.1
  have hrna : rN A a = (A.1.1 a).1 := rfl
  intro z
  induction z with
  | zero =>
    intro i hz
    obtain rfl : rN A a = i := by omega
    refine g_iload C dX12_led_6 rfl ?_
    refine g_aload_n C dX12_led_8 rfl ?_
    refine g_getR C fo_X12_7 dX12_led_9 rfl (by decide) (fun _ => rfl) (gs_75_1 hS) ?_
    refine g_iload_n C dX12_led_12 rfl ?_
    refine n_iald C dX12_led_13 rfl (by decide) (hM.1.n hja) ?_ (by omega)
    refine n_ic_ge C 58 dX12_led_14 (fun h14 => ?_) (fun h14 => absurd h14 (by omega))
    exact kk
  | succ z ih =>
    intro i hz
    have hti := hga.2.2.1 (i * 3 + q) (by omega)
    have hti2 : (A.1.1 a).2.1 (i * 3 + q) = rT A a (i * 3 + q) := rfl
    refine g_iload C dX12_led_6 rfl ?_
    refine g_aload_n C dX12_led_8 rfl ?_
    refine g_getR C fo_X12_7 dX12_led_9 rfl (by decide) (fun _ => rfl) (gs_75_1 hS) ?_
    refine g_iload_n C dX12_led_12 rfl ?_
    refine n_iald C dX12_led_13 rfl (by decide) (hM.1.n hja) ?_ (by omega)
    refine n_ic_ge C 58 dX12_led_14 (fun h14 => absurd h14 (by omega)) (fun h14 => ?_)
    refine g_lload C dX12_led_17 rfl ?_
    refine g_lload_n C dX12_led_19 rfl ?_
    refine g_iload C dX12_led_20 rfl ?_
    refine n_lshr C dX12_led_22 ?_ (by omega) (by omega)
    refine n_lconst C 1 dX12_led_23 ?_
    refine n_land C dX12_led_24 ?_
    refine n_lconst C 1 dX12_led_25 ?_
    refine g_lcmp C dX12_led_26 ?_
    suffices K49 : GG x 106 0 0 [.ref 75, .int (nI (a)), .long (lN (X)), unk, .int (nI (q)), .long (lN (ldM A a X q (i))), unk, .int (nI (i))] [.long (lN (if X.testBit i then 2 ^ (rT A a (i * 3 + q)) else 0)), .long (lN (ldM A a X q (i)))] S 49 from by
      refine t_if_ne C 48 dX12_led_27 (fun h27 => ?_) (fun h27 => ?_)
      · refine n_lconst C 0 dX12_led_48 ?_
        rw [if_neg (by rw [h27]; decide)] at K49; exact K49
      · refine n_lconst C 1 dX12_led_30 ?_
        refine g_aload_n C dX12_led_31 rfl ?_
        refine g_getR C fo_X12_13 dX12_led_32 rfl (by decide) (fun _ => rfl) (gs_75_2 hS) ?_
        refine g_iload_n C dX12_led_35 rfl ?_
        refine g_iload C dX12_led_36 rfl ?_
        refine g_iload C dX12_led_38 rfl ?_
        refine g_callS C (k_place _) so_X12_110 dX12_led_40 rfl rfl (rm_ok (M' := MX12_led) hR (by decide)) (Nat.le_of_ble_eq_true rfl) (fun v9 S9 h9 => ?_)
        obtain ⟨rfl, h9⟩ := h9
        refine g_S S h9 ?_
        refine g_n0 [.int (nI (18 * a + 3 * i + q)), .ref 77, .long (lN (1)), .long (lN (ldM A a X q (i)))] rfl rfl rfl ?_
        refine n_iald C dX12_led_43 rfl (by decide) (hM.1.t hja (i := i * 3 + q) (by omega) (by omega)) ?_ (by omega)
        refine n_lshl C dX12_led_44 ?_ (by omega)
        refine g_goto C 49 dX12_led_45 (by decide) ?_
        rw [if_pos h27, ← Nat.one_mul (2 ^ (rT A a (i * 3 + q)))] at K49; exact K49
    refine n_lor C dX12_led_49 ?_
    refine g_lstore C (by rw [hmL]; decide) dX12_led_50 [.ref 75, .int (nI (a)), .long (lN (X)), unk, .int (nI (q)), .long (lN ((ldM A a X q (i)) ||| (if X.testBit i then 2 ^ (rT A a (i * 3 + q)) else 0))), unk, .int (nI (i))] rfl ?_
    refine n_iinc C (by rw [hmL]; decide) dX12_led_52 rfl (n_i1 _) [.ref 75, .int (nI (a)), .long (lN (X)), unk, .int (nI (q)), .long (lN ((ldM A a X q (i)) ||| (if X.testBit i then 2 ^ (rT A a (i * 3 + q)) else 0))), unk, .int (nI (i + 1))] ?_
    refine g_goto C 6 dX12_led_55 (by decide) ?_
    exact ih (i + 1) (by omega)

set_option maxRecDepth 100000 in
theorem k_led (l : Launch) {S : pv_M} {A : Ab} {a : Nat} (hS : GS S) (hM : MSt S A) (hja : a < 3) (hga : gdR (A.1.1 a)) {X q : Nat} (hX : X < 64) (hq : q < 3) : mt l MX12_led 106 [.ref 75, .int (nI (a)), .long (lN (X)), .int (nI (q))] S (fun v S' => v = some (.long (lN (ldM A a X q (rN A a)))) ∧ S' = S) := by
  refine mt_of (by decide) (Nat.le_of_ble_eq_true rfl) ?_
  intro x hl hR hmL C E
  show GG x 106 0 0 [.ref 75, .int (nI (a)), .long (lN (X)), unk, .int (nI (q)), unk, unk, unk] [] S 0
  refine n_lconst C 0 dX12_led_0 ?_
  refine g_lstore C (by rw [hmL]; decide) dX12_led_1 [.ref 75, .int (nI (a)), .long (lN (X)), unk, .int (nI (q)), .long (lN (0)), unk, unk] rfl ?_
  refine n_iconst C 0 dX12_led_3 ?_
  refine g_istore C (by rw [hmL]; decide) dX12_led_4 [.ref 75, .int (nI (a)), .long (lN (X)), unk, .int (nI (q)), .long (lN (0)), unk, .int (nI (0))] rfl ?_
  refine lp_led hR hmL C hS hM hja hga hX hq ?_ (rN A a) 0 (Nat.zero_add _)
  refine g_lload C dX12_led_58 rfl ?_
  exact g_lret C E dX12_led_60 (by rw [hR]; decide) (by rw [hR]; decide) ⟨rfl, rfl⟩

set_option maxRecDepth 100000 in
theorem lp_ledBack {x : Cx} (hR : xR x = MX12_ledBack.rm) (hmL : (xc x).maxLocals = MX12_ledBack.nL) (C : BX x cX12_ledBack RX12) {S : pv_M} {A : Ab} {a : Nat} (hS : GS S) (hM : MSt S A) (hja : a < 3) (hga : gdR (A.1.1 a)) (h22 : mI S 75 22 = nI a) {X q : Nat} (hX : X < 64) (hq : q < 3) (kk : GG x 106 0 0 [.ref 75, .long (lN (X)), unk, .int (nI (q)), .long (lN (lbM A a X q (rN A a))), unk, .int (nI (rN A a))] [] (S) 63) : ∀ z i, i + z = rN A a → GG x 106 0 0 [.ref 75, .long (lN (X)), unk, .int (nI (q)), .long (lN (lbM A a X q (i))), unk, .int (nI (i))] [] (S) 6 := by
  have hn6a : rN A a ≤ 6 := hga.2.1
  have hn0a : 0 < rN A a := hga.1
  have hrna : rN A a = (A.1.1 a).1 := rfl
  intro z
  induction z with
  | zero =>
    intro i hz
    obtain rfl : rN A a = i := by omega
    refine g_iload C dX12_ledBack_6 rfl ?_
    refine g_aload_n C dX12_ledBack_8 rfl ?_
    refine g_getR C fo_X12_7 dX12_ledBack_9 rfl (by decide) (fun _ => rfl) (gs_75_1 hS) ?_
    refine g_aload_n C dX12_ledBack_12 rfl ?_
    refine g_getI C fo_X12_173 dX12_ledBack_13 rfl (by decide) (fun _ => rfl) h22 ?_
    refine n_iald C dX12_ledBack_16 rfl (by decide) (hM.1.n hja) ?_ (by omega)
    refine n_ic_ge C 63 dX12_ledBack_17 (fun h17 => ?_) (fun h17 => absurd h17 (by omega))
    exact kk
  | succ z ih =>
    intro i hz
    have hti := hga.2.2.1 (i * 3 + q) (by omega)
    have hti2 : (A.1.1 a).2.1 (i * 3 + q) = rT A a (i * 3 + q) := rfl
    refine g_iload C dX12_ledBack_6 rfl ?_
    refine g_aload_n C dX12_ledBack_8 rfl ?_
    refine g_getR C fo_X12_7 dX12_ledBack_9 rfl (by decide) (fun _ => rfl) (gs_75_1 hS) ?_
    refine g_aload_n C dX12_ledBack_12 rfl ?_
    refine g_getI C fo_X12_173 dX12_ledBack_13 rfl (by decide) (fun _ => rfl) h22 ?_
    refine n_iald C dX12_ledBack_16 rfl (by decide) (hM.1.n hja) ?_ (by omega)
    refine n_ic_ge C 63 dX12_ledBack_17 (fun h17 => absurd h17 (by omega)) (fun h17 => ?_)
    refine g_lload C dX12_ledBack_20 rfl ?_
    refine g_lload_n C dX12_ledBack_22 rfl ?_
    refine g_aload_n C dX12_ledBack_23 rfl ?_
    refine g_getR C fo_X12_13 dX12_ledBack_24 rfl (by decide) (fun _ => rfl) (gs_75_2 hS) ?_
    refine g_aload_n C dX12_ledBack_27 rfl ?_
    refine g_getI C fo_X12_173 dX12_ledBack_28 rfl (by decide) (fun _ => rfl) h22 ?_
    refine g_iload C dX12_ledBack_31 rfl ?_
    refine g_iload_n C dX12_ledBack_33 rfl ?_
    refine g_callS C (k_place _) so_X12_110 dX12_ledBack_34 rfl rfl (rm_ok (M' := MX12_ledBack) hR (by decide)) (Nat.le_of_ble_eq_true rfl) (fun v9 S9 h9 => ?_)
    obtain ⟨rfl, h9⟩ := h9
    refine g_S S h9 ?_
    refine g_n0 [.int (nI (18 * a + 3 * i + q)), .ref 77, .long (lN (X)), .long (lN (lbM A a X q (i)))] rfl rfl rfl ?_
    refine n_iald C dX12_ledBack_37 rfl (by decide) (hM.1.t hja (i := i * 3 + q) (by omega) (by omega)) ?_ (by omega)
    refine n_lshr C dX12_ledBack_38 ?_ (by omega) (by omega)
    refine n_lconst C 1 dX12_ledBack_39 ?_
    refine n_land C dX12_ledBack_40 ?_
    refine n_lconst C 1 dX12_ledBack_41 ?_
    refine g_lcmp C dX12_ledBack_42 ?_
    suffices K54 : GG x 106 0 0 [.ref 75, .long (lN (X)), unk, .int (nI (q)), .long (lN (lbM A a X q (i))), unk, .int (nI (i))] [.long (lN (if X.testBit (rT A a (i * 3 + q)) then 2 ^ i else 0)), .long (lN (lbM A a X q (i)))] S 54 from by
      refine t_if_ne C 53 dX12_ledBack_43 (fun h43 => ?_) (fun h43 => ?_)
      · refine n_lconst C 0 dX12_ledBack_53 ?_
        rw [if_neg (by rw [h43]; decide)] at K54; exact K54
      · refine n_lconst C 1 dX12_ledBack_46 ?_
        refine g_iload C dX12_ledBack_47 rfl ?_
        refine n_lshl C dX12_ledBack_49 ?_ (by omega)
        refine g_goto C 54 dX12_ledBack_50 (by decide) ?_
        rw [if_pos h43, ← Nat.one_mul (2 ^ i)] at K54; exact K54
    refine n_lor C dX12_ledBack_54 ?_
    refine g_lstore C (by rw [hmL]; decide) dX12_ledBack_55 [.ref 75, .long (lN (X)), unk, .int (nI (q)), .long (lN ((lbM A a X q (i)) ||| (if X.testBit (rT A a (i * 3 + q)) then 2 ^ i else 0))), unk, .int (nI (i))] rfl ?_
    refine n_iinc C (by rw [hmL]; decide) dX12_ledBack_57 rfl (n_i1 _) [.ref 75, .long (lN (X)), unk, .int (nI (q)), .long (lN ((lbM A a X q (i)) ||| (if X.testBit (rT A a (i * 3 + q)) then 2 ^ i else 0))), unk, .int (nI (i + 1))] ?_
    refine g_goto C 6 dX12_ledBack_60 (by decide) ?_
    exact ih (i + 1) (by omega)

set_option maxRecDepth 100000 in
theorem k_ledBack (l : Launch) {S : pv_M} {A : Ab} {a : Nat} (hS : GS S) (hM : MSt S A) (hja : a < 3) (hga : gdR (A.1.1 a)) (h22 : mI S 75 22 = nI a) {X q : Nat} (hX : X < 64) (hq : q < 3) : mt l MX12_ledBack 106 [.ref 75, .long (lN (X)), .int (nI (q))] S (fun v S' => v = some (.long (lN (lbM A a X q (rN A a)))) ∧ S' = S) := by
  refine mt_of (by decide) (Nat.le_of_ble_eq_true rfl) ?_
  intro x hl hR hmL C E
  show GG x 106 0 0 [.ref 75, .long (lN (X)), unk, .int (nI (q)), unk, unk, unk] [] S 0
  refine n_lconst C 0 dX12_ledBack_0 ?_
  refine g_lstore C (by rw [hmL]; decide) dX12_ledBack_1 [.ref 75, .long (lN (X)), unk, .int (nI (q)), .long (lN (0)), unk, unk] rfl ?_
  refine n_iconst C 0 dX12_ledBack_3 ?_
  refine g_istore C (by rw [hmL]; decide) dX12_ledBack_4 [.ref 75, .long (lN (X)), unk, .int (nI (q)), .long (lN (0)), unk, .int (nI (0))] rfl ?_
  refine lp_ledBack hR hmL C hS hM hja hga h22 hX hq ?_ (rN A a) 0 (Nat.zero_add _)
  refine g_lload C dX12_ledBack_63 rfl ?_
  exact g_lret C E dX12_ledBack_65 (by rw [hR]; decide) (by rw [hR]; decide) ⟨rfl, rfl⟩

def catM (A : Ab) (a s X : Nat) : Nat := (if (rF A a).testBit s then X ||| 1 else X) * 2 ^ 3 ||| s

set_option maxRecDepth 100000 in
theorem k_concatenated (l : Launch) {S : pv_M} {A : Ab} {a : Nat} (hS : GS S) (hM : MSt S A) (hja : a < 3) (hga : gdR (A.1.1 a)) (h22 : mI S 75 22 = nI a) {s X : Nat} (hs : s < 6) : mt l MX12_concatenated 106 [.ref 75, .int (nI (s)), .long (lN (X))] S (fun v S' => v = some (.long (lN (catM A a s X))) ∧ S' = S) := by
  refine mt_of (by decide) (Nat.le_of_ble_eq_true rfl) ?_
  intro x hl hR hmL C E
  show GG x 106 0 0 [.ref 75, .int (nI (s)), .long (lN (X)), unk] [] S 0
  refine g_aload_n C dX12_concatenated_0 rfl ?_
  refine g_getR C fo_X12_16 dX12_concatenated_1 rfl (by decide) (fun _ => rfl) (gs_75_3 hS) ?_
  refine n_bipush C 6 dX12_concatenated_4 ?_
  refine g_aload_n C dX12_concatenated_6 rfl ?_
  refine g_getI C fo_X12_173 dX12_concatenated_7 rfl (by decide) (fun _ => rfl) h22 ?_
  refine n_imul C dX12_concatenated_10 ?_
  refine g_iload_n C dX12_concatenated_11 rfl ?_
  refine n_iadd C dX12_concatenated_12 ?_
  refine n_zald C dX12_concatenated_13 rfl (by decide) (hM.1.f hja (i := s) (by omega) rfl) ?_ (by omega)
  suffices K24 : GG x 106 0 0 [.ref 75, .int (nI (s)), .long (lN (X)), unk] [.long (lN (if (rF A a).testBit s then X ||| 1 else X))] S 24 from by
    refine b_if_eq C 23 dX12_concatenated_14 (fun h14 => ?_) (fun h14 => ?_)
    · refine g_lload_n C dX12_concatenated_23 rfl ?_
      rw [if_neg (by rw [h14]; decide)] at K24; exact K24
    · refine g_lload_n C dX12_concatenated_17 rfl ?_
      refine n_lconst C 1 dX12_concatenated_18 ?_
      refine n_lor C dX12_concatenated_19 ?_
      refine g_goto C 24 dX12_concatenated_20 (by decide) ?_
      rw [if_pos h14] at K24; exact K24
  refine n_iconst C 3 dX12_concatenated_24 ?_
  refine n_lshl C dX12_concatenated_25 ?_ (by omega)
  refine g_iload_n C dX12_concatenated_26 rfl ?_
  refine n_i2l C dX12_concatenated_27 ?_ (by omega)
  refine n_lor C dX12_concatenated_28 ?_
  exact g_lret C E dX12_concatenated_29 (by rw [hR]; decide) (by rw [hR]; decide) ⟨rfl, rfl⟩

abbrev aaM (AN : Nat → Nat) (X q k : Nat) : Nat := orf (fun t => X.testBit t) (fun t => AN (3 * t + q)) k
/-- the automaton of the atoms: how many, where they lead, which is the last -/
def XA (at_ : Nat) (AN : Nat → Nat) (la as_ : Nat) (S : pv_M) : Prop := mI S 75 33 = nI at_ ∧ (∀ p, p < 192 → mJ S 98 p = lN (AN p)) ∧ mI S 75 36 = nI la ∧ mJ S 75 24 = lN as_
theorem XA.keep {at_ la as_ : Nat} {AN : Nat → Nat} {S S' : pv_M} (h : XA at_ AN la as_ S) (k : FQ k5 S S') : XA at_ AN la as_ S' := ⟨by rw [k.2.1 33 (by decide)]; exact h.1, fun p hp => by rw [(k.1.2 98 (by decide)).2.1]; exact h.2.1 p hp, by rw [k.2.1 36 (by decide)]; exact h.2.2.1, by rw [k.2.2]; exact h.2.2.2⟩

set_option maxRecDepth 100000 in
theorem lp_atomsAfter {x : Cx} (hR : xR x = MX12_atomsAfter.rm) (hmL : (xc x).maxLocals = MX12_atomsAfter.nL) (C : BX x cX12_atomsAfter RX12) {S : pv_M} {at_ la as_ : Nat} {AN : Nat → Nat} (hS : GS S) (hA : XA at_ AN la as_ S) (h64 : at_ ≤ 64) {X q : Nat} (hX : X < 2 ^ 64) (hq : q < 3) (kk : GG x 106 0 0 [.ref 75, .long (lN (X)), unk, .int (nI (q)), .long (lN (aaM AN X q (at_))), unk, .int (nI (at_))] [] (S) 52) : ∀ z i, i + z = at_ → GG x 106 0 0 [.ref 75, .long (lN (X)), unk, .int (nI (q)), .long (lN (aaM AN X q (i))), unk, .int (nI (i))] [] (S) 6 := by
  intro z
  induction z with
  | zero =>
    intro i hz
    obtain rfl : at_ = i := by omega
    refine g_iload C dX12_atomsAfter_6 rfl ?_
    refine g_aload_n C dX12_atomsAfter_8 rfl ?_
    refine g_getI C fo_X12_195 dX12_atomsAfter_9 rfl (by decide) (fun _ => rfl) hA.1 ?_
    refine n_ic_ge C 52 dX12_atomsAfter_12 (fun h12 => ?_) (fun h12 => absurd h12 (by omega))
    exact kk
  | succ z ih =>
    intro i hz
    refine g_iload C dX12_atomsAfter_6 rfl ?_
    refine g_aload_n C dX12_atomsAfter_8 rfl ?_
    refine g_getI C fo_X12_195 dX12_atomsAfter_9 rfl (by decide) (fun _ => rfl) hA.1 ?_
    refine n_ic_ge C 52 dX12_atomsAfter_12 (fun h12 => absurd h12 (by omega)) (fun h12 => ?_)
    refine g_lload C dX12_atomsAfter_15 rfl ?_
    refine g_lload_n C dX12_atomsAfter_17 rfl ?_
    refine g_iload C dX12_atomsAfter_18 rfl ?_
    refine n_lushr C dX12_atomsAfter_20 ?_ (by omega) (by omega)
    refine n_lconst C 1 dX12_atomsAfter_21 ?_
    refine n_land C dX12_atomsAfter_22 ?_
    refine n_lconst C 1 dX12_atomsAfter_23 ?_
    refine g_lcmp C dX12_atomsAfter_24 ?_
    suffices K43 : GG x 106 0 0 [.ref 75, .long (lN (X)), unk, .int (nI (q)), .long (lN (aaM AN X q (i))), unk, .int (nI (i))] [.long (lN (if X.testBit i then AN (3 * i + q) else 0)), .long (lN (aaM AN X q (i)))] S 43 from by
      refine t_if_ne C 42 dX12_atomsAfter_25 (fun h25 => ?_) (fun h25 => ?_)
      · refine n_lconst C 0 dX12_atomsAfter_42 ?_
        rw [if_neg (by rw [h25]; decide)] at K43; exact K43
      · refine g_aload_n C dX12_atomsAfter_28 rfl ?_
        refine g_getR C fo_X12_80 dX12_atomsAfter_29 rfl (by decide) (fun _ => rfl) (gs_75_35 hS) ?_
        refine n_iconst C 3 dX12_atomsAfter_32 ?_
        refine g_iload C dX12_atomsAfter_33 rfl ?_
        refine n_imul C dX12_atomsAfter_35 ?_
        refine g_iload_n C dX12_atomsAfter_36 rfl ?_
        refine n_iadd C dX12_atomsAfter_37 ?_
        refine n_lald C dX12_atomsAfter_38 rfl (by decide) (hA.2.1 (3 * i + q) (by omega)) ?_ (by omega)
        refine g_goto C 43 dX12_atomsAfter_39 (by decide) ?_
        rw [if_pos h25] at K43; exact K43
    refine n_lor C dX12_atomsAfter_43 ?_
    refine g_lstore C (by rw [hmL]; decide) dX12_atomsAfter_44 [.ref 75, .long (lN (X)), unk, .int (nI (q)), .long (lN ((aaM AN X q (i)) ||| (if X.testBit i then AN (3 * i + q) else 0))), unk, .int (nI (i))] rfl ?_
    refine n_iinc C (by rw [hmL]; decide) dX12_atomsAfter_46 rfl (n_i1 _) [.ref 75, .long (lN (X)), unk, .int (nI (q)), .long (lN ((aaM AN X q (i)) ||| (if X.testBit i then AN (3 * i + q) else 0))), unk, .int (nI (i + 1))] ?_
    refine g_goto C 6 dX12_atomsAfter_49 (by decide) ?_
    exact ih (i + 1) (by omega)

set_option maxRecDepth 100000 in
theorem k_atomsAfter (l : Launch) {S : pv_M} {at_ la as_ : Nat} {AN : Nat → Nat} (hS : GS S) (hA : XA at_ AN la as_ S) (h64 : at_ ≤ 64) {X q : Nat} (hX : X < 2 ^ 64) (hq : q < 3) : mt l MX12_atomsAfter 106 [.ref 75, .long (lN (X)), .int (nI (q))] S (fun v S' => v = some (.long (lN (aaM AN X q at_))) ∧ S' = S) := by
  refine mt_of (by decide) (Nat.le_of_ble_eq_true rfl) ?_
  intro x hl hR hmL C E
  show GG x 106 0 0 [.ref 75, .long (lN (X)), unk, .int (nI (q)), unk, unk, unk] [] S 0
  refine n_lconst C 0 dX12_atomsAfter_0 ?_
  refine g_lstore C (by rw [hmL]; decide) dX12_atomsAfter_1 [.ref 75, .long (lN (X)), unk, .int (nI (q)), .long (lN (0)), unk, unk] rfl ?_
  refine n_iconst C 0 dX12_atomsAfter_3 ?_
  refine g_istore C (by rw [hmL]; decide) dX12_atomsAfter_4 [.ref 75, .long (lN (X)), unk, .int (nI (q)), .long (lN (0)), unk, .int (nI (0))] rfl ?_
  refine lp_atomsAfter hR hmL C hS hA h64 hX hq ?_ at_ 0 (Nat.zero_add _)
  refine g_lload C dX12_atomsAfter_52 rfl ?_
  exact g_lret C E dX12_atomsAfter_54 (by rw [hR]; decide) (by rw [hR]; decide) ⟨rfl, rfl⟩

def hfM (A : Ab) (a X : Nat) : Nat → Bool
  | 0 => false
  | k + 1 => hfM A a X k || (X.testBit k && (rF A a).testBit k)

set_option maxRecDepth 100000 in
theorem lp_hasFinal {x : Cx} (hR : xR x = MX12_hasFinal.rm) (hmL : (xc x).maxLocals = MX12_hasFinal.nL) (C : BX x cX12_hasFinal RX12) {S : pv_M} {A : Ab} {a : Nat} (hS : GS S) (hM : MSt S A) (hja : a < 3) (hga : gdR (A.1.1 a)) {X : Nat} (hX : X < 64) (kk : GG x 106 0 0 [.ref 75, .int (nI (a)), .long (lN (X)), unk, .int (bI (hfM A a X (rN A a))), .int (nI (rN A a))] [] (S) 61) : ∀ z i, i + z = rN A a → GG x 106 0 0 [.ref 75, .int (nI (a)), .long (lN (X)), unk, .int (bI (hfM A a X (i))), .int (nI (i))] [] (S) 6 := by
  have hn6a : rN A a ≤ 6 := hga.2.1
  have hn0a : 0 < rN A a := hga.1
  have hrna : rN A a = (A.1.1 a).1 := rfl
  intro z
  induction z with
  | zero =>
    intro i hz
    obtain rfl : rN A a = i := by omega
    refine g_iload C dX12_hasFinal_6 rfl ?_
    refine g_aload_n C dX12_hasFinal_8 rfl ?_
    refine g_getR C fo_X12_7 dX12_hasFinal_9 rfl (by decide) (fun _ => rfl) (gs_75_1 hS) ?_
    refine g_iload_n C dX12_hasFinal_12 rfl ?_
    refine n_iald C dX12_hasFinal_13 rfl (by decide) (hM.1.n hja) ?_ (by omega)
    refine n_ic_ge C 61 dX12_hasFinal_14 (fun h14 => ?_) (fun h14 => absurd h14 (by omega))
    exact kk
  | succ z ih =>
    intro i hz
    refine g_iload C dX12_hasFinal_6 rfl ?_
    refine g_aload_n C dX12_hasFinal_8 rfl ?_
    refine g_getR C fo_X12_7 dX12_hasFinal_9 rfl (by decide) (fun _ => rfl) (gs_75_1 hS) ?_
    refine g_iload_n C dX12_hasFinal_12 rfl ?_
    refine n_iald C dX12_hasFinal_13 rfl (by decide) (hM.1.n hja) ?_ (by omega)
    refine n_ic_ge C 61 dX12_hasFinal_14 (fun h14 => absurd h14 (by omega)) (fun h14 => ?_)
    refine g_iload C dX12_hasFinal_17 rfl ?_
    suffices K53 : GG x 106 0 0 [.ref 75, .int (nI (a)), .long (lN (X)), unk, .int (bI (hfM A a X (i))), .int (nI (i))] [.int (bI (hfM A a X (i + 1)))] S 53 from by
      refine b_if_ne C 48 dX12_hasFinal_19 (fun h19 => ?_) (fun h19 => ?_)
      · refine n_iconst C 1 dX12_hasFinal_48 ?_
        refine g_goto C 53 dX12_hasFinal_49 (by decide) ?_
        have e : hfM A a X (i + 1) = true := by rw [hfM, h19, Bool.true_or]
        rw [e] at K53; exact K53
      · refine g_lload_n C dX12_hasFinal_22 rfl ?_
        refine g_iload C dX12_hasFinal_23 rfl ?_
        refine n_lshr C dX12_hasFinal_25 ?_ (by omega) (by omega)
        refine n_lconst C 1 dX12_hasFinal_26 ?_
        refine n_land C dX12_hasFinal_27 ?_
        refine n_lconst C 1 dX12_hasFinal_28 ?_
        refine g_lcmp C dX12_hasFinal_29 ?_
        refine t_if_ne C 52 dX12_hasFinal_30 (fun h30 => ?_) (fun h30 => ?_)
        · refine n_iconst C 0 dX12_hasFinal_52 ?_
          first
          | (have e : hfM A a X (i + 1) = false := by rw [hfM, h19, h30]; rfl
             rw [e] at K53; exact K53)
          | (have e : hfM A a X (i + 1) = false := by rw [hfM, h19, h30, h45]; rfl
             rw [e] at K53; exact K53)
          | (have e : hfM A a X (i + 1) = true := by rw [hfM, h19, h30, h45]; rfl
             rw [e] at K53; exact K53)
        · refine g_aload_n C dX12_hasFinal_33 rfl ?_
          refine g_getR C fo_X12_16 dX12_hasFinal_34 rfl (by decide) (fun _ => rfl) (gs_75_3 hS) ?_
          refine n_bipush C 6 dX12_hasFinal_37 ?_
          refine g_iload_n C dX12_hasFinal_39 rfl ?_
          refine n_imul C dX12_hasFinal_40 ?_
          refine g_iload C dX12_hasFinal_41 rfl ?_
          refine n_iadd C dX12_hasFinal_43 ?_
          refine n_zald C dX12_hasFinal_44 rfl (by decide) (hM.1.f hja (i := i) (by omega) rfl) ?_ (by omega)
          refine b_if_eq C 52 dX12_hasFinal_45 (fun h45 => ?_) (fun h45 => ?_)
          · refine n_iconst C 0 dX12_hasFinal_52 ?_
            first
            | (have e : hfM A a X (i + 1) = false := by rw [hfM, h19, h30]; rfl
               rw [e] at K53; exact K53)
            | (have e : hfM A a X (i + 1) = false := by rw [hfM, h19, h30, h45]; rfl
               rw [e] at K53; exact K53)
            | (have e : hfM A a X (i + 1) = true := by rw [hfM, h19, h30, h45]; rfl
               rw [e] at K53; exact K53)
          · refine n_iconst C 1 dX12_hasFinal_48 ?_
            refine g_goto C 53 dX12_hasFinal_49 (by decide) ?_
            first
            | (have e : hfM A a X (i + 1) = false := by rw [hfM, h19, h30]; rfl
               rw [e] at K53; exact K53)
            | (have e : hfM A a X (i + 1) = false := by rw [hfM, h19, h30, h45]; rfl
               rw [e] at K53; exact K53)
            | (have e : hfM A a X (i + 1) = true := by rw [hfM, h19, h30, h45]; rfl
               rw [e] at K53; exact K53)
    refine g_istore C (by rw [hmL]; decide) dX12_hasFinal_53 [.ref 75, .int (nI (a)), .long (lN (X)), unk, .int (bI (hfM A a X (i + 1))), .int (nI (i))] rfl ?_
    refine n_iinc C (by rw [hmL]; decide) dX12_hasFinal_55 rfl (n_i1 _) [.ref 75, .int (nI (a)), .long (lN (X)), unk, .int (bI (hfM A a X (i + 1))), .int (nI (i + 1))] ?_
    refine g_goto C 6 dX12_hasFinal_58 (by decide) ?_
    exact ih (i + 1) (by omega)

set_option maxRecDepth 100000 in
theorem k_hasFinal (l : Launch) {S : pv_M} {A : Ab} {a : Nat} (hS : GS S) (hM : MSt S A) (hja : a < 3) (hga : gdR (A.1.1 a)) {X : Nat} (hX : X < 64) : mt l MX12_hasFinal 106 [.ref 75, .int (nI (a)), .long (lN (X))] S (fun v S' => v = some (.int (bI (hfM A a X (rN A a)))) ∧ S' = S) := by
  refine mt_of (by decide) (Nat.le_of_ble_eq_true rfl) ?_
  intro x hl hR hmL C E
  show GG x 106 0 0 [.ref 75, .int (nI (a)), .long (lN (X)), unk, unk, unk] [] S 0
  refine g_iconst C (bI false) dX12_hasFinal_0 (by decide) ?_
  refine g_istore C (by rw [hmL]; decide) dX12_hasFinal_1 [.ref 75, .int (nI (a)), .long (lN (X)), unk, .int (bI (false)), unk] rfl ?_
  refine n_iconst C 0 dX12_hasFinal_3 ?_
  refine g_istore C (by rw [hmL]; decide) dX12_hasFinal_4 [.ref 75, .int (nI (a)), .long (lN (X)), unk, .int (bI (false)), .int (nI (0))] rfl ?_
  refine lp_hasFinal hR hmL C hS hM hja hga hX ?_ (rN A a) 0 (Nat.zero_add _)
  refine g_iload C dX12_hasFinal_61 rfl ?_
  exact g_zret C E dX12_hasFinal_63 (bI_01 _) (by rw [hR]; decide) (by rw [hR]; decide) ⟨rfl, rfl⟩

def stM (A : Ab) (a c q : Nat) : Nat := if (ldM A a (if c = 64 then 1 else c) q (rN A a) &&& fsM A a (rN A a)) = 0 then ldM A a (if c = 64 then 1 else c) q (rN A a) else ldM A a (if c = 64 then 1 else c) q (rN A a) ||| 1
theorem ldM_lt {A : Ab} {a X q k : Nat} (hg : gdR (A.1.1 a)) (hk : k ≤ rN A a) (hq : q < 3) : ldM A a X q k < 64 := orf_lt (B := 6) k (fun s hs _ => by
  have h1 := hg.2.2.1 (s * 3 + q) (by have : k ≤ (A.1.1 a).1 := hk; omega)
  have h2 := hg.2.1
  exact Nat.pow_lt_pow_right (by decide) (show rT A a (s * 3 + q) < 6 by have : rT A a (s * 3 + q) = (A.1.1 a).2.1 (s * 3 + q) := rfl; omega))
theorem pw_lt {c : Nat → Bool} {k : Nat} (hk : k ≤ 6) : orf c (fun s => 2 ^ s) k < 64 := orf_lt (B := 6) k (fun s hs _ => Nat.pow_lt_pow_right (by decide) (by omega))

set_option maxRecDepth 100000 in
theorem k_starAfter (l : Launch) {S : pv_M} {A : Ab} {a : Nat} (hS : GS S) (hM : MSt S A) (hja : a < 3) (hga : gdR (A.1.1 a)) (h22 : mI S 75 22 = nI a) {c q : Nat} (hc : c = 64 ∨ c < 64) (hq : q < 3) : mt l MX12_starAfter 106 [.ref 75, .long (lN (c)), .int (nI (q))] S (fun v S' => v = some (.long (lN (stM A a c q))) ∧ S' = S) := by
  refine mt_of (by decide) (Nat.le_of_ble_eq_true rfl) ?_
  intro x hl hR hmL C E
  show GG x 106 0 0 [.ref 75, .long (lN (c)), unk, .int (nI (q)), unk, unk] [] S 0
  have hld := ldM_lt (A := A) (X := if c = 64 then 1 else c) hga (Nat.le_refl _) hq
  have hX : (if c = 64 then 1 else c) < 64 := by by_cases e : c = 64; rw [if_pos e]; decide; rw [if_neg e]; omega
  refine g_aload_n C dX12_starAfter_0 rfl ?_
  refine g_aload_n C dX12_starAfter_1 rfl ?_
  refine g_getI C fo_X12_173 dX12_starAfter_2 rfl (by decide) (fun _ => rfl) h22 ?_
  refine g_lload_n C dX12_starAfter_5 rfl ?_
  refine g_ldc2 C (v := lN 64) dX12_starAfter_6 kc_X12_163 ?_
  refine g_lcmp C dX12_starAfter_9 ?_
  suffices K18 : GG x 106 0 0 [.ref 75, .long (lN (c)), unk, .int (nI (q)), unk, unk] [.long (lN (if c = 64 then 1 else c)), .int (nI (a)), .ref 75] S 18 from by
    refine c_if_ne C 17 dX12_starAfter_10 (fun h10 => ?_) (fun h10 => ?_)
    · refine g_lload_n C dX12_starAfter_17 rfl ?_
      rw [if_neg h10] at K18; exact K18
    · refine n_lconst C 1 dX12_starAfter_13 ?_
      refine g_goto C 18 dX12_starAfter_14 (by decide) ?_
      rw [if_pos h10] at K18; exact K18
  refine g_iload_n C dX12_starAfter_18 rfl ?_
  refine g_callS C (k_led _ hS hM hja hga hX hq) so_X12_181 dX12_starAfter_19 rfl rfl (rm_ok (M' := MX12_starAfter) hR (by decide)) (Nat.le_of_ble_eq_true rfl) (fun v9 S9 h9 => ?_)
  obtain ⟨rfl, h9⟩ := h9
  refine g_S S h9 ?_
  refine g_n0 [.long (lN (ldM A a (if c = 64 then 1 else c) q (rN A a)))] rfl rfl rfl ?_
  refine g_lstore C (by rw [hmL]; decide) dX12_starAfter_22 [.ref 75, .long (lN (c)), unk, .int (nI (q)), .long (lN (ldM A a (if c = 64 then 1 else c) q (rN A a))), unk] rfl ?_
  refine g_lload C dX12_starAfter_24 rfl ?_
  refine g_aload_n C dX12_starAfter_26 rfl ?_
  refine g_callV C (As := []) (k_finalStates _ hS hM hja hga h22) vo_X12_165 dX12_starAfter_27 rfl rfl (by decide) rfl (rm_ok (M' := MX12_starAfter) hR (by decide)) (Nat.le_of_ble_eq_true rfl) (fun v9 S9 h9 => ?_)
  obtain ⟨rfl, h9⟩ := h9
  refine g_S S h9 ?_
  refine g_n0 [.long (lN (fsM A a (rN A a))), .long (lN (ldM A a (if c = 64 then 1 else c) q (rN A a)))] rfl rfl rfl ?_
  refine n_land C dX12_starAfter_30 ?_
  refine n_lconst C 0 dX12_starAfter_31 ?_
  refine g_lcmp C dX12_starAfter_32 ?_
  refine c_if_eq C 43 dX12_starAfter_33 (fun h33 => ?_) (fun h33 => ?_) (by decide) (Nat.lt_of_le_of_lt Nat.and_le_left (by omega)) (by decide)
  · refine g_lload C dX12_starAfter_43 rfl ?_
    exact g_lret C E dX12_starAfter_45 (by rw [hR]; decide) (by rw [hR]; decide) ⟨congrArg some (congrArg Value.long (congrArg lN (show _ = stM A a c q from by unfold stM; first | rw [if_pos h33] | rw [if_neg h33]))), rfl⟩
  · refine g_lload C dX12_starAfter_36 rfl ?_
    refine n_lconst C 1 dX12_starAfter_38 ?_
    refine n_lor C dX12_starAfter_39 ?_
    refine g_goto C 45 dX12_starAfter_40 (by decide) ?_
    exact g_lret C E dX12_starAfter_45 (by rw [hR]; decide) (by rw [hR]; decide) ⟨congrArg some (congrArg Value.long (congrArg lN (show _ = stM A a c q from by unfold stM; first | rw [if_pos h33] | rw [if_neg h33]))), rfl⟩
