theorem sw_lt {p : Nat} (h : p < 4) : (nI p).toInt < 4 := by rw [nI_toInt (by omega)]; omega
theorem or8 {x y : Nat} (h : x < 8) : (y * 2 ^ 3 ||| x) &&& 7 = x ∧ (y * 2 ^ 3 ||| x) / 2 ^ 3 = y := by
  have e : y * 2 ^ 3 ||| x = y * 8 + x := by rw [Nat.mul_comm, ← Nat.two_pow_add_eq_or_of_lt (show x < 2 ^ 3 from h)]
  rw [e, show (7 : Nat) = 2 ^ 3 - 1 from rfl, Nat.and_two_pow_sub_one_eq_mod]
  omega
theorem or8' {x y : Nat} (h : x < 8) : (x ||| y * 2 ^ 3) &&& 7 = x ∧ (x ||| y * 2 ^ 3) / 2 ^ 3 = y := by rw [Nat.or_comm]; exact or8 h
theorem and7 (c : Nat) : c &&& 7 = c % 8 := Nat.and_two_pow_sub_one_eq_mod c 3

set_option maxRecDepth 100000 in
theorem fk_8 (l : Launch) {S : pv_M} (hS : GS S) (h21 : mI S 75 21 = nI 8) : mt l MX12_firstKey 106 [.ref 75] S (fun v S' => v = some (.long (lN (0))) ∧ S' = S) := by
  refine mt_of (by decide) (Nat.le_of_ble_eq_true rfl) ?_
  intro x hl hR hmL C E
  show GG x 106 0 0 [.ref 75] [] S 0
  refine g_aload_n C dX12_firstKey_0 rfl ?_
  refine g_getI C fo_X12_156 dX12_firstKey_1 rfl (by decide) (fun _ => rfl) h21 ?_
  refine g_tableX C 57 dX12_firstKey_4 (Or.inr (by decide)) (by decide) ?_
  refine n_lconst C 0 dX12_firstKey_57 ?_
  exact g_lret C E dX12_firstKey_58 (by rw [hR]; decide) (by rw [hR]; decide) ⟨rfl, rfl⟩

set_option maxRecDepth 100000 in
theorem fk_p (l : Launch) {S : pv_M} (hS : GS S) {p : Nat} (hp : p < 4) (h21 : mI S 75 21 = nI p) : mt l MX12_firstKey 106 [.ref 75] S (fun v S' => v = some (.long (lN (0))) ∧ S' = S) := by
  refine mt_of (by decide) (Nat.le_of_ble_eq_true rfl) ?_
  intro x hl hR hmL C E
  show GG x 106 0 0 [.ref 75] [] S 0
  refine g_aload_n C dX12_firstKey_0 rfl ?_
  refine g_getI C fo_X12_156 dX12_firstKey_1 rfl (by decide) (fun _ => rfl) h21 ?_
  refine g_tableX C 57 dX12_firstKey_4 (Or.inl (sw_lt hp)) (by decide) ?_
  refine n_lconst C 0 dX12_firstKey_57 ?_
  exact g_lret C E dX12_firstKey_58 (by rw [hR]; decide) (by rw [hR]; decide) ⟨rfl, rfl⟩

set_option maxRecDepth 100000 in
theorem fk_4 (l : Launch) {S : pv_M} {A : Ab} {a : Nat} (hS : GS S) (hM : MSt S A) (hja : a < 3) (hga : gdR (A.1.1 a)) (h21 : mI S 75 21 = nI 4) (h22 : mI S 75 22 = nI a) : mt l MX12_firstKey 106 [.ref 75] S (fun v S' => v = some (.long (lN (catM A a 0 0))) ∧ S' = S) := by
  refine mt_of (by decide) (Nat.le_of_ble_eq_true rfl) ?_
  intro x hl hR hmL C E
  show GG x 106 0 0 [.ref 75] [] S 0
  refine g_aload_n C dX12_firstKey_0 rfl ?_
  refine g_getI C fo_X12_156 dX12_firstKey_1 rfl (by decide) (fun _ => rfl) h21 ?_
  refine g_table C 36 dX12_firstKey_4 (by decide) (by decide) rfl (by decide) ?_
  refine g_aload_n C dX12_firstKey_36 rfl ?_
  refine n_iconst C 0 dX12_firstKey_37 ?_
  refine n_lconst C 0 dX12_firstKey_38 ?_
  refine g_callV C (As := [.int (nI (0)), .long (lN (0))]) (k_concatenated _ hS hM hja hga h22 (by decide)) vo_X12_159 dX12_firstKey_39 rfl rfl (by decide) rfl (rm_ok (M' := MX12_firstKey) hR (by decide)) (Nat.le_of_ble_eq_true rfl) (fun v9 S9 h9 => ?_)
  obtain ⟨rfl, h9⟩ := h9
  refine g_S S h9 ?_
  refine g_n0 [.long (lN (catM A a 0 0))] rfl rfl rfl ?_
  exact g_lret C E dX12_firstKey_42 (by rw [hR]; decide) (by rw [hR]; decide) ⟨rfl, rfl⟩

set_option maxRecDepth 100000 in
theorem fk_5 (l : Launch) {S : pv_M} (hS : GS S) (h21 : mI S 75 21 = nI 5) : mt l MX12_firstKey 106 [.ref 75] S (fun v S' => v = some (.long (lN (64))) ∧ S' = S) := by
  refine mt_of (by decide) (Nat.le_of_ble_eq_true rfl) ?_
  intro x hl hR hmL C E
  show GG x 106 0 0 [.ref 75] [] S 0
  refine g_aload_n C dX12_firstKey_0 rfl ?_
  refine g_getI C fo_X12_156 dX12_firstKey_1 rfl (by decide) (fun _ => rfl) h21 ?_
  refine g_table C 43 dX12_firstKey_4 (by decide) (by decide) rfl (by decide) ?_
  refine g_ldc2 C (v := lN 64) dX12_firstKey_43 kc_X12_163 ?_
  exact g_lret C E dX12_firstKey_46 (by rw [hR]; decide) (by rw [hR]; decide) ⟨rfl, rfl⟩

set_option maxRecDepth 100000 in
theorem fk_6 (l : Launch) {S : pv_M} {A : Ab} {a : Nat} (hS : GS S) (hM : MSt S A) (hja : a < 3) (hga : gdR (A.1.1 a)) (h21 : mI S 75 21 = nI 6) (h22 : mI S 75 22 = nI a) : mt l MX12_firstKey 106 [.ref 75] S (fun v S' => v = some (.long (lN (fsM A a (rN A a)))) ∧ S' = S) := by
  refine mt_of (by decide) (Nat.le_of_ble_eq_true rfl) ?_
  intro x hl hR hmL C E
  show GG x 106 0 0 [.ref 75] [] S 0
  refine g_aload_n C dX12_firstKey_0 rfl ?_
  refine g_getI C fo_X12_156 dX12_firstKey_1 rfl (by decide) (fun _ => rfl) h21 ?_
  refine g_table C 47 dX12_firstKey_4 (by decide) (by decide) rfl (by decide) ?_
  refine g_aload_n C dX12_firstKey_47 rfl ?_
  refine g_callV C (As := []) (k_finalStates _ hS hM hja hga h22) vo_X12_165 dX12_firstKey_48 rfl rfl (by decide) rfl (rm_ok (M' := MX12_firstKey) hR (by decide)) (Nat.le_of_ble_eq_true rfl) (fun v9 S9 h9 => ?_)
  obtain ⟨rfl, h9⟩ := h9
  refine g_S S h9 ?_
  refine g_n0 [.long (lN (fsM A a (rN A a)))] rfl rfl rfl ?_
  exact g_lret C E dX12_firstKey_51 (by rw [hR]; decide) (by rw [hR]; decide) ⟨rfl, rfl⟩

set_option maxRecDepth 100000 in
theorem fk_7 (l : Launch) {S : pv_M} (hS : GS S) (h21 : mI S 75 21 = nI 7) {as_ : Nat} (h24 : mJ S 75 24 = lN as_) : mt l MX12_firstKey 106 [.ref 75] S (fun v S' => v = some (.long (lN (as_))) ∧ S' = S) := by
  refine mt_of (by decide) (Nat.le_of_ble_eq_true rfl) ?_
  intro x hl hR hmL C E
  show GG x 106 0 0 [.ref 75] [] S 0
  refine g_aload_n C dX12_firstKey_0 rfl ?_
  refine g_getI C fo_X12_156 dX12_firstKey_1 rfl (by decide) (fun _ => rfl) h21 ?_
  refine g_table C 52 dX12_firstKey_4 (by decide) (by decide) rfl (by decide) ?_
  refine g_aload_n C dX12_firstKey_52 rfl ?_
  refine g_getJ C fo_X12_169 dX12_firstKey_53 rfl (by decide) (fun _ => rfl) h24 ?_
  exact g_lret C E dX12_firstKey_56 (by rw [hR]; decide) (by rw [hR]; decide) ⟨rfl, rfl⟩

set_option maxRecDepth 100000 in
theorem ka_8 (l : Launch) {S : pv_M} {A : Ab} {a : Nat} (hS : GS S) (hM : MSt S A) (hja : a < 3) (hga : gdR (A.1.1 a)) (h21 : mI S 75 21 = nI 8) (h22 : mI S 75 22 = nI a) {c q : Nat} (hc : c < rN A a) (hq : q < 3) : mt l MX12_keyAfter 106 [.ref 75, .long (lN (c)), .int (nI (q))] S (fun v S' => v = some (.long (lN (rT A a (c * 3 + q)))) ∧ S' = S) := by
  refine mt_of (by decide) (Nat.le_of_ble_eq_true rfl) ?_
  intro x hl hR hmL C E
  show GG x 106 0 0 [.ref 75, .long (lN (c)), unk, .int (nI (q))] [] S 0
  have hn6a : rN A a ≤ 6 := hga.2.1
  have hn0a : 0 < rN A a := hga.1
  have hrna : rN A a = (A.1.1 a).1 := rfl
  have hti := hga.2.2.1 (c * 3 + q) (by omega)
  have hti2 : (A.1.1 a).2.1 (c * 3 + q) = rT A a (c * 3 + q) := rfl
  refine g_aload_n C dX12_keyAfter_0 rfl ?_
  refine g_getI C fo_X12_156 dX12_keyAfter_1 rfl (by decide) (fun _ => rfl) h21 ?_
  refine g_table C 97 dX12_keyAfter_4 (by decide) (by decide) rfl (by decide) ?_
  refine g_aload_n C dX12_keyAfter_97 rfl ?_
  refine g_getR C fo_X12_13 dX12_keyAfter_98 rfl (by decide) (fun _ => rfl) (gs_75_2 hS) ?_
  refine g_aload_n C dX12_keyAfter_101 rfl ?_
  refine g_getI C fo_X12_173 dX12_keyAfter_102 rfl (by decide) (fun _ => rfl) h22 ?_
  refine g_lload_n C dX12_keyAfter_105 rfl ?_
  refine n_l2i C dX12_keyAfter_106 ?_
  refine g_iload_n C dX12_keyAfter_107 rfl ?_
  refine g_callS C (k_place _) so_X12_110 dX12_keyAfter_108 rfl rfl (rm_ok (M' := MX12_keyAfter) hR (by decide)) (Nat.le_of_ble_eq_true rfl) (fun v9 S9 h9 => ?_)
  obtain ⟨rfl, h9⟩ := h9
  refine g_S S h9 ?_
  refine g_n0 [.int (nI (18 * a + 3 * c + q)), .ref 77] rfl rfl rfl ?_
  refine n_iald C dX12_keyAfter_111 rfl (by decide) (hM.1.t hja (i := c * 3 + q) (by omega) (by omega)) ?_ (by omega)
  refine n_i2l C dX12_keyAfter_112 ?_ (by omega)
  exact g_lret C E dX12_keyAfter_113 (by rw [hR]; decide) (by rw [hR]; decide) ⟨rfl, rfl⟩

set_option maxRecDepth 100000 in
theorem ka_p (l : Launch) {S : pv_M} {A : Ab} {a b : Nat} (hS : GS S) (hM : MSt S A) (hja : a < 3) (hga : gdR (A.1.1 a)) (hjb : b < 3) (hgb : gdR (A.1.1 b)) {p : Nat} (hp : p < 4) (h21 : mI S 75 21 = nI p) (h22 : mI S 75 22 = nI a) (h23 : mI S 75 23 = nI b) {c q : Nat} (hc1 : c &&& 7 < rN A a) (hc2 : c / 2 ^ 3 < rN A b) (hc9 : c < 2 ^ 63) (hq : q < 3) : mt l MX12_keyAfter 106 [.ref 75, .long (lN (c)), .int (nI (q))] S (fun v S' => v = some (.long (lN (rT A a ((c &&& 7) * 3 + q) ||| rT A b ((c / 2 ^ 3) * 3 + q) * 2 ^ 3))) ∧ S' = S) := by
  refine mt_of (by decide) (Nat.le_of_ble_eq_true rfl) ?_
  intro x hl hR hmL C E
  show GG x 106 0 0 [.ref 75, .long (lN (c)), unk, .int (nI (q))] [] S 0
  have hn6a : rN A a ≤ 6 := hga.2.1
  have hn0a : 0 < rN A a := hga.1
  have hrna : rN A a = (A.1.1 a).1 := rfl
  have hn6b : rN A b ≤ 6 := hgb.2.1
  have hn0b : 0 < rN A b := hgb.1
  have hrnb : rN A b = (A.1.1 b).1 := rfl
  have hta := hga.2.2.1 ((c &&& 7) * 3 + q) (by omega)
  have hta2 : (A.1.1 a).2.1 ((c &&& 7) * 3 + q) = rT A a ((c &&& 7) * 3 + q) := rfl
  have htb := hgb.2.2.1 ((c / 2 ^ 3) * 3 + q) (by omega)
  have htb2 : (A.1.1 b).2.1 ((c / 2 ^ 3) * 3 + q) = rT A b ((c / 2 ^ 3) * 3 + q) := rfl
  refine g_aload_n C dX12_keyAfter_0 rfl ?_
  refine g_getI C fo_X12_156 dX12_keyAfter_1 rfl (by decide) (fun _ => rfl) h21 ?_
  refine g_tableX C 114 dX12_keyAfter_4 (Or.inl (sw_lt hp)) (by decide) ?_
  refine g_aload_n C dX12_keyAfter_114 rfl ?_
  refine g_getR C fo_X12_13 dX12_keyAfter_115 rfl (by decide) (fun _ => rfl) (gs_75_2 hS) ?_
  refine g_aload_n C dX12_keyAfter_118 rfl ?_
  refine g_getI C fo_X12_173 dX12_keyAfter_119 rfl (by decide) (fun _ => rfl) h22 ?_
  refine g_lload_n C dX12_keyAfter_122 rfl ?_
  refine g_ldc2 C (v := lN 7) dX12_keyAfter_123 kc_X12_176 ?_
  refine n_land C dX12_keyAfter_126 ?_
  refine n_l2i C dX12_keyAfter_127 ?_
  refine g_iload_n C dX12_keyAfter_128 rfl ?_
  refine g_callS C (k_place _) so_X12_110 dX12_keyAfter_129 rfl rfl (rm_ok (M' := MX12_keyAfter) hR (by decide)) (Nat.le_of_ble_eq_true rfl) (fun v9 S9 h9 => ?_)
  obtain ⟨rfl, h9⟩ := h9
  refine g_S S h9 ?_
  refine g_n0 [.int (nI (18 * a + 3 * (c &&& 7) + q)), .ref 77] rfl rfl rfl ?_
  refine n_iald C dX12_keyAfter_132 rfl (by decide) (hM.1.t hja (i := (c &&& 7) * 3 + q) (by omega) (by omega)) ?_ (by omega)
  refine n_i2l C dX12_keyAfter_133 ?_ (by omega)
  refine g_aload_n C dX12_keyAfter_134 rfl ?_
  refine g_getR C fo_X12_13 dX12_keyAfter_135 rfl (by decide) (fun _ => rfl) (gs_75_2 hS) ?_
  refine g_aload_n C dX12_keyAfter_138 rfl ?_
  refine g_getI C fo_X12_178 dX12_keyAfter_139 rfl (by decide) (fun _ => rfl) h23 ?_
  refine g_lload_n C dX12_keyAfter_142 rfl ?_
  refine n_iconst C 3 dX12_keyAfter_143 ?_
  refine n_lshr C dX12_keyAfter_144 ?_ (by omega) (by omega)
  refine n_l2i C dX12_keyAfter_145 ?_
  refine g_iload_n C dX12_keyAfter_146 rfl ?_
  refine g_callS C (k_place _) so_X12_110 dX12_keyAfter_147 rfl rfl (rm_ok (M' := MX12_keyAfter) hR (by decide)) (Nat.le_of_ble_eq_true rfl) (fun v9 S9 h9 => ?_)
  obtain ⟨rfl, h9⟩ := h9
  refine g_S S h9 ?_
  refine g_n0 [.int (nI (18 * b + 3 * (c / 2 ^ 3) + q)), .ref 77, .long (lN (rT A a ((c &&& 7) * 3 + q)))] rfl rfl rfl ?_
  refine n_iald C dX12_keyAfter_150 rfl (by decide) (hM.1.t hjb (i := (c / 2 ^ 3) * 3 + q) (by omega) (by omega)) ?_ (by omega)
  refine n_i2l C dX12_keyAfter_151 ?_ (by omega)
  refine n_iconst C 3 dX12_keyAfter_152 ?_
  refine n_lshl C dX12_keyAfter_153 ?_ (by omega)
  refine n_lor C dX12_keyAfter_154 ?_
  exact g_lret C E dX12_keyAfter_155 (by rw [hR]; decide) (by rw [hR]; decide) ⟨rfl, rfl⟩

set_option maxRecDepth 100000 in
theorem ka_4 (l : Launch) {S : pv_M} {A : Ab} {a b : Nat} (hS : GS S) (hM : MSt S A) (hja : a < 3) (hga : gdR (A.1.1 a)) (hjb : b < 3) (hgb : gdR (A.1.1 b)) (h21 : mI S 75 21 = nI 4) (h22 : mI S 75 22 = nI a) (h23 : mI S 75 23 = nI b) {c q : Nat} (hc1 : c &&& 7 < rN A a) (hc2 : c / 2 ^ 3 < 64) (hc9 : c < 2 ^ 63) (hq : q < 3) : mt l MX12_keyAfter 106 [.ref 75, .long (lN (c)), .int (nI (q))] S (fun v S' => v = some (.long (lN (catM A a (rT A a ((c &&& 7) * 3 + q)) (ldM A b (c / 2 ^ 3) q (rN A b))))) ∧ S' = S) := by
  refine mt_of (by decide) (Nat.le_of_ble_eq_true rfl) ?_
  intro x hl hR hmL C E
  show GG x 106 0 0 [.ref 75, .long (lN (c)), unk, .int (nI (q))] [] S 0
  have hn6a : rN A a ≤ 6 := hga.2.1
  have hn0a : 0 < rN A a := hga.1
  have hrna : rN A a = (A.1.1 a).1 := rfl
  have hn6b : rN A b ≤ 6 := hgb.2.1
  have hn0b : 0 < rN A b := hgb.1
  have hrnb : rN A b = (A.1.1 b).1 := rfl
  have hta := hga.2.2.1 ((c &&& 7) * 3 + q) (by omega)
  have hta2 : (A.1.1 a).2.1 ((c &&& 7) * 3 + q) = rT A a ((c &&& 7) * 3 + q) := rfl
  refine g_aload_n C dX12_keyAfter_0 rfl ?_
  refine g_getI C fo_X12_156 dX12_keyAfter_1 rfl (by decide) (fun _ => rfl) h21 ?_
  refine g_table C 40 dX12_keyAfter_4 (by decide) (by decide) rfl (by decide) ?_
  refine g_aload_n C dX12_keyAfter_40 rfl ?_
  refine g_aload_n C dX12_keyAfter_41 rfl ?_
  refine g_getR C fo_X12_13 dX12_keyAfter_42 rfl (by decide) (fun _ => rfl) (gs_75_2 hS) ?_
  refine g_aload_n C dX12_keyAfter_45 rfl ?_
  refine g_getI C fo_X12_173 dX12_keyAfter_46 rfl (by decide) (fun _ => rfl) h22 ?_
  refine g_lload_n C dX12_keyAfter_49 rfl ?_
  refine g_ldc2 C (v := lN 7) dX12_keyAfter_50 kc_X12_176 ?_
  refine n_land C dX12_keyAfter_53 ?_
  refine n_l2i C dX12_keyAfter_54 ?_
  refine g_iload_n C dX12_keyAfter_55 rfl ?_
  refine g_callS C (k_place _) so_X12_110 dX12_keyAfter_56 rfl rfl (rm_ok (M' := MX12_keyAfter) hR (by decide)) (Nat.le_of_ble_eq_true rfl) (fun v9 S9 h9 => ?_)
  obtain ⟨rfl, h9⟩ := h9
  refine g_S S h9 ?_
  refine g_n0 [.int (nI (18 * a + 3 * (c &&& 7) + q)), .ref 77, .ref 75] rfl rfl rfl ?_
  refine n_iald C dX12_keyAfter_59 rfl (by decide) (hM.1.t hja (i := (c &&& 7) * 3 + q) (by omega) (by omega)) ?_ (by omega)
  refine g_aload_n C dX12_keyAfter_60 rfl ?_
  refine g_aload_n C dX12_keyAfter_61 rfl ?_
  refine g_getI C fo_X12_178 dX12_keyAfter_62 rfl (by decide) (fun _ => rfl) h23 ?_
  refine g_lload_n C dX12_keyAfter_65 rfl ?_
  refine n_iconst C 3 dX12_keyAfter_66 ?_
  refine n_lshr C dX12_keyAfter_67 ?_ (by omega) (by omega)
  refine g_iload_n C dX12_keyAfter_68 rfl ?_
  refine g_callS C (k_led _ hS hM hjb hgb hc2 hq) so_X12_181 dX12_keyAfter_69 rfl rfl (rm_ok (M' := MX12_keyAfter) hR (by decide)) (Nat.le_of_ble_eq_true rfl) (fun v9 S9 h9 => ?_)
  obtain ⟨rfl, h9⟩ := h9
  refine g_S S h9 ?_
  refine g_n0 [.long (lN (ldM A b (c / 2 ^ 3) q (rN A b))), .int (nI (rT A a ((c &&& 7) * 3 + q))), .ref 75] rfl rfl rfl ?_
  refine g_callV C (As := [.int (nI (rT A a ((c &&& 7) * 3 + q))), .long (lN (ldM A b (c / 2 ^ 3) q (rN A b)))]) (k_concatenated _ hS hM hja hga h22 (by omega)) vo_X12_159 dX12_keyAfter_72 rfl rfl (by decide) rfl (rm_ok (M' := MX12_keyAfter) hR (by decide)) (Nat.le_of_ble_eq_true rfl) (fun v9 S9 h9 => ?_)
  obtain ⟨rfl, h9⟩ := h9
  refine g_S S h9 ?_
  refine g_n0 [.long (lN (catM A a (rT A a ((c &&& 7) * 3 + q)) (ldM A b (c / 2 ^ 3) q (rN A b))))] rfl rfl rfl ?_
  exact g_lret C E dX12_keyAfter_75 (by rw [hR]; decide) (by rw [hR]; decide) ⟨rfl, rfl⟩

set_option maxRecDepth 100000 in
theorem ka_5 (l : Launch) {S : pv_M} {A : Ab} {a : Nat} (hS : GS S) (hM : MSt S A) (hja : a < 3) (hga : gdR (A.1.1 a)) (h21 : mI S 75 21 = nI 5) (h22 : mI S 75 22 = nI a) {c q : Nat} (hc : c = 64 ∨ c < 64) (hq : q < 3) : mt l MX12_keyAfter 106 [.ref 75, .long (lN (c)), .int (nI (q))] S (fun v S' => v = some (.long (lN (stM A a c q))) ∧ S' = S) := by
  refine mt_of (by decide) (Nat.le_of_ble_eq_true rfl) ?_
  intro x hl hR hmL C E
  show GG x 106 0 0 [.ref 75, .long (lN (c)), unk, .int (nI (q))] [] S 0
  refine g_aload_n C dX12_keyAfter_0 rfl ?_
  refine g_getI C fo_X12_156 dX12_keyAfter_1 rfl (by decide) (fun _ => rfl) h21 ?_
  refine g_table C 76 dX12_keyAfter_4 (by decide) (by decide) rfl (by decide) ?_
  refine g_aload_n C dX12_keyAfter_76 rfl ?_
  refine g_lload_n C dX12_keyAfter_77 rfl ?_
  refine g_iload_n C dX12_keyAfter_78 rfl ?_
  refine g_callV C (As := [.long (lN (c)), .int (nI (q))]) (k_starAfter _ hS hM hja hga h22 hc hq) vo_X12_185 dX12_keyAfter_79 rfl rfl (by decide) rfl (rm_ok (M' := MX12_keyAfter) hR (by decide)) (Nat.le_of_ble_eq_true rfl) (fun v9 S9 h9 => ?_)
  obtain ⟨rfl, h9⟩ := h9
  refine g_S S h9 ?_
  refine g_n0 [.long (lN (stM A a c q))] rfl rfl rfl ?_
  exact g_lret C E dX12_keyAfter_82 (by rw [hR]; decide) (by rw [hR]; decide) ⟨rfl, rfl⟩

set_option maxRecDepth 100000 in
theorem ka_6 (l : Launch) {S : pv_M} {A : Ab} {a : Nat} (hS : GS S) (hM : MSt S A) (hja : a < 3) (hga : gdR (A.1.1 a)) (h21 : mI S 75 21 = nI 6) (h22 : mI S 75 22 = nI a) {c q : Nat} (hc : c < 64) (hq : q < 3) : mt l MX12_keyAfter 106 [.ref 75, .long (lN (c)), .int (nI (q))] S (fun v S' => v = some (.long (lN (lbM A a c q (rN A a)))) ∧ S' = S) := by
  refine mt_of (by decide) (Nat.le_of_ble_eq_true rfl) ?_
  intro x hl hR hmL C E
  show GG x 106 0 0 [.ref 75, .long (lN (c)), unk, .int (nI (q))] [] S 0
  refine g_aload_n C dX12_keyAfter_0 rfl ?_
  refine g_getI C fo_X12_156 dX12_keyAfter_1 rfl (by decide) (fun _ => rfl) h21 ?_
  refine g_table C 83 dX12_keyAfter_4 (by decide) (by decide) rfl (by decide) ?_
  refine g_aload_n C dX12_keyAfter_83 rfl ?_
  refine g_lload_n C dX12_keyAfter_84 rfl ?_
  refine g_iload_n C dX12_keyAfter_85 rfl ?_
  refine g_callV C (As := [.long (lN (c)), .int (nI (q))]) (k_ledBack _ hS hM hja hga h22 hc hq) vo_X12_189 dX12_keyAfter_86 rfl rfl (by decide) rfl (rm_ok (M' := MX12_keyAfter) hR (by decide)) (Nat.le_of_ble_eq_true rfl) (fun v9 S9 h9 => ?_)
  obtain ⟨rfl, h9⟩ := h9
  refine g_S S h9 ?_
  refine g_n0 [.long (lN (lbM A a c q (rN A a)))] rfl rfl rfl ?_
  exact g_lret C E dX12_keyAfter_89 (by rw [hR]; decide) (by rw [hR]; decide) ⟨rfl, rfl⟩

set_option maxRecDepth 100000 in
theorem ka_7 (l : Launch) {S : pv_M} {at_ la as_ : Nat} {AN : Nat → Nat} (hS : GS S) (hA : XA at_ AN la as_ S) (h64 : at_ ≤ 64) (h21 : mI S 75 21 = nI 7) {c q : Nat} (hc : c < 2 ^ 64) (hq : q < 3) : mt l MX12_keyAfter 106 [.ref 75, .long (lN (c)), .int (nI (q))] S (fun v S' => v = some (.long (lN (aaM AN c q at_))) ∧ S' = S) := by
  refine mt_of (by decide) (Nat.le_of_ble_eq_true rfl) ?_
  intro x hl hR hmL C E
  show GG x 106 0 0 [.ref 75, .long (lN (c)), unk, .int (nI (q))] [] S 0
  refine g_aload_n C dX12_keyAfter_0 rfl ?_
  refine g_getI C fo_X12_156 dX12_keyAfter_1 rfl (by decide) (fun _ => rfl) h21 ?_
  refine g_table C 90 dX12_keyAfter_4 (by decide) (by decide) rfl (by decide) ?_
  refine g_aload_n C dX12_keyAfter_90 rfl ?_
  refine g_lload_n C dX12_keyAfter_91 rfl ?_
  refine g_iload_n C dX12_keyAfter_92 rfl ?_
  refine g_callV C (As := [.long (lN (c)), .int (nI (q))]) (k_atomsAfter _ hS hA h64 hc hq) vo_X12_192 dX12_keyAfter_93 rfl rfl (by decide) rfl (rm_ok (M' := MX12_keyAfter) hR (by decide)) (Nat.le_of_ble_eq_true rfl) (fun v9 S9 h9 => ?_)
  obtain ⟨rfl, h9⟩ := h9
  refine g_S S h9 ?_
  refine g_n0 [.long (lN (aaM AN c q at_))] rfl rfl rfl ?_
  exact g_lret C E dX12_keyAfter_96 (by rw [hR]; decide) (by rw [hR]; decide) ⟨rfl, rfl⟩

set_option maxRecDepth 100000 in
theorem ie_0 (l : Launch) {S : pv_M} {A : Ab} {a b : Nat} (hS : GS S) (hM : MSt S A) (hja : a < 3) (hga : gdR (A.1.1 a)) (hjb : b < 3) (hgb : gdR (A.1.1 b)) (h21 : mI S 75 21 = nI 0) (h22 : mI S 75 22 = nI a) (h23 : mI S 75 23 = nI b) {c : Nat} (hc1 : c &&& 7 < rN A a) (hc2 : c / 2 ^ 3 < rN A b) (hc9 : c < 2 ^ 63) : mt l MX12_isEnd 106 [.ref 75, .long (lN (c))] S (fun v S' => v = some (.int (bI (((rF A a).testBit (c &&& 7)) || ((rF A b).testBit (c / 2 ^ 3))))) ∧ S' = S) := by
  refine mt_of (by decide) (Nat.le_of_ble_eq_true rfl) ?_
  intro x hl hR hmL C E
  show GG x 106 0 0 [.ref 75, .long (lN (c)), unk, unk, unk] [] S 0
  have hn6a : rN A a ≤ 6 := hga.2.1
  have hn0a : 0 < rN A a := hga.1
  have hrna : rN A a = (A.1.1 a).1 := rfl
  have hn6b : rN A b ≤ 6 := hgb.2.1
  have hn0b : 0 < rN A b := hgb.1
  have hrnb : rN A b = (A.1.1 b).1 := rfl
  refine g_aload_n C dX12_isEnd_0 rfl ?_
  refine g_getI C fo_X12_156 dX12_isEnd_1 rfl (by decide) (fun _ => rfl) h21 ?_
  refine n_iconst C 4 dX12_isEnd_4 ?_
  refine n_ic_ge C 34 dX12_isEnd_5 (fun h5 => absurd h5 (by omega)) (fun h5 => ?_)
  refine g_aload_n C dX12_isEnd_8 rfl ?_
  refine g_getR C fo_X12_16 dX12_isEnd_9 rfl (by decide) (fun _ => rfl) (gs_75_3 hS) ?_
  refine n_bipush C 6 dX12_isEnd_12 ?_
  refine g_aload_n C dX12_isEnd_14 rfl ?_
  refine g_getI C fo_X12_173 dX12_isEnd_15 rfl (by decide) (fun _ => rfl) h22 ?_
  refine n_imul C dX12_isEnd_18 ?_
  refine g_lload_n C dX12_isEnd_19 rfl ?_
  refine g_ldc2 C (v := lN 7) dX12_isEnd_20 kc_X12_176 ?_
  refine n_land C dX12_isEnd_23 ?_
  refine n_l2i C dX12_isEnd_24 ?_
  refine n_iadd C dX12_isEnd_25 ?_
  refine n_zald C dX12_isEnd_26 rfl (by decide) (hM.1.f hja (i := c &&& 7) (by omega) rfl) ?_ (by omega)
  suffices K35 : GG x 106 0 0 [.ref 75, .long (lN (c)), unk, unk, unk] [.int (bI ((rF A a).testBit (c &&& 7)))] S 35 from by
    refine b_if_eq C 34 dX12_isEnd_27 (fun h27 => ?_) (fun h27 => ?_)
    · refine n_iconst C 0 dX12_isEnd_34 ?_
      rw [h27] at K35; exact K35
    · refine n_iconst C 1 dX12_isEnd_30 ?_
      refine g_goto C 35 dX12_isEnd_31 (by decide) ?_
      rw [h27] at K35; exact K35
  refine g_istore_n C (by rw [hmL]; decide) dX12_isEnd_35 [.ref 75, .long (lN (c)), unk, .int (bI ((rF A a).testBit (c &&& 7))), unk] rfl ?_
  refine g_aload_n C dX12_isEnd_36 rfl ?_
  refine g_getI C fo_X12_156 dX12_isEnd_37 rfl (by decide) (fun _ => rfl) h21 ?_
  refine n_iconst C 4 dX12_isEnd_40 ?_
  refine n_ic_ge C 68 dX12_isEnd_41 (fun h41 => absurd h41 (by omega)) (fun h41 => ?_)
  refine g_aload_n C dX12_isEnd_44 rfl ?_
  refine g_getR C fo_X12_16 dX12_isEnd_45 rfl (by decide) (fun _ => rfl) (gs_75_3 hS) ?_
  refine n_bipush C 6 dX12_isEnd_48 ?_
  refine g_aload_n C dX12_isEnd_50 rfl ?_
  refine g_getI C fo_X12_178 dX12_isEnd_51 rfl (by decide) (fun _ => rfl) h23 ?_
  refine n_imul C dX12_isEnd_54 ?_
  refine g_lload_n C dX12_isEnd_55 rfl ?_
  refine n_iconst C 3 dX12_isEnd_56 ?_
  refine n_lshr C dX12_isEnd_57 ?_ (by omega) (by omega)
  refine n_l2i C dX12_isEnd_58 ?_
  refine n_iadd C dX12_isEnd_59 ?_
  refine n_zald C dX12_isEnd_60 rfl (by decide) (hM.1.f hjb (i := c / 2 ^ 3) (by omega) rfl) ?_ (by omega)
  suffices K69 : GG x 106 0 0 [.ref 75, .long (lN (c)), unk, .int (bI ((rF A a).testBit (c &&& 7))), unk] [.int (bI ((rF A b).testBit (c / 2 ^ 3)))] S 69 from by
    refine b_if_eq C 68 dX12_isEnd_61 (fun h61 => ?_) (fun h61 => ?_)
    · refine n_iconst C 0 dX12_isEnd_68 ?_
      rw [h61] at K69; exact K69
    · refine n_iconst C 1 dX12_isEnd_64 ?_
      refine g_goto C 69 dX12_isEnd_65 (by decide) ?_
      rw [h61] at K69; exact K69
  refine g_istore C (by rw [hmL]; decide) dX12_isEnd_69 [.ref 75, .long (lN (c)), unk, .int (bI ((rF A a).testBit (c &&& 7))), .int (bI ((rF A b).testBit (c / 2 ^ 3)))] rfl ?_
  refine g_aload_n C dX12_isEnd_71 rfl ?_
  refine g_getI C fo_X12_156 dX12_isEnd_72 rfl (by decide) (fun _ => rfl) h21 ?_
  refine g_table C 120 dX12_isEnd_75 (by decide) (by decide) rfl (by decide) ?_
  refine g_iload_n C dX12_isEnd_120 rfl ?_
  refine b_if_ne C 129 dX12_isEnd_121 (fun h121 => ?_) (fun h121 => ?_)
  · refine n_iconst C 1 dX12_isEnd_129 ?_
    refine g_goto C 134 dX12_isEnd_130 (by decide) ?_
    exact g_zret C E dX12_isEnd_134 (Or.inr rfl) (by rw [hR]; decide) (by rw [hR]; decide) ⟨congrArg some (congrArg Value.int (by first | (rw [h121]; rfl) | (rw [h121, h126]; rfl))), rfl⟩
  · refine g_iload C dX12_isEnd_124 rfl ?_
    refine b_if_eq C 133 dX12_isEnd_126 (fun h126 => ?_) (fun h126 => ?_)
    · refine n_iconst C 0 dX12_isEnd_133 ?_
      exact g_zret C E dX12_isEnd_134 (Or.inl rfl) (by rw [hR]; decide) (by rw [hR]; decide) ⟨congrArg some (congrArg Value.int (by first | (rw [h121]; rfl) | (rw [h121, h126]; rfl))), rfl⟩
    · refine n_iconst C 1 dX12_isEnd_129 ?_
      refine g_goto C 134 dX12_isEnd_130 (by decide) ?_
      exact g_zret C E dX12_isEnd_134 (Or.inr rfl) (by rw [hR]; decide) (by rw [hR]; decide) ⟨congrArg some (congrArg Value.int (by first | (rw [h121]; rfl) | (rw [h121, h126]; rfl))), rfl⟩

set_option maxRecDepth 100000 in
theorem ie_1 (l : Launch) {S : pv_M} {A : Ab} {a b : Nat} (hS : GS S) (hM : MSt S A) (hja : a < 3) (hga : gdR (A.1.1 a)) (hjb : b < 3) (hgb : gdR (A.1.1 b)) (h21 : mI S 75 21 = nI 1) (h22 : mI S 75 22 = nI a) (h23 : mI S 75 23 = nI b) {c : Nat} (hc1 : c &&& 7 < rN A a) (hc2 : c / 2 ^ 3 < rN A b) (hc9 : c < 2 ^ 63) : mt l MX12_isEnd 106 [.ref 75, .long (lN (c))] S (fun v S' => v = some (.int (bI (((rF A a).testBit (c &&& 7)) && ((rF A b).testBit (c / 2 ^ 3))))) ∧ S' = S) := by
  refine mt_of (by decide) (Nat.le_of_ble_eq_true rfl) ?_
  intro x hl hR hmL C E
  show GG x 106 0 0 [.ref 75, .long (lN (c)), unk, unk, unk] [] S 0
  have hn6a : rN A a ≤ 6 := hga.2.1
  have hn0a : 0 < rN A a := hga.1
  have hrna : rN A a = (A.1.1 a).1 := rfl
  have hn6b : rN A b ≤ 6 := hgb.2.1
  have hn0b : 0 < rN A b := hgb.1
  have hrnb : rN A b = (A.1.1 b).1 := rfl
  refine g_aload_n C dX12_isEnd_0 rfl ?_
  refine g_getI C fo_X12_156 dX12_isEnd_1 rfl (by decide) (fun _ => rfl) h21 ?_
  refine n_iconst C 4 dX12_isEnd_4 ?_
  refine n_ic_ge C 34 dX12_isEnd_5 (fun h5 => absurd h5 (by omega)) (fun h5 => ?_)
  refine g_aload_n C dX12_isEnd_8 rfl ?_
  refine g_getR C fo_X12_16 dX12_isEnd_9 rfl (by decide) (fun _ => rfl) (gs_75_3 hS) ?_
  refine n_bipush C 6 dX12_isEnd_12 ?_
  refine g_aload_n C dX12_isEnd_14 rfl ?_
  refine g_getI C fo_X12_173 dX12_isEnd_15 rfl (by decide) (fun _ => rfl) h22 ?_
  refine n_imul C dX12_isEnd_18 ?_
  refine g_lload_n C dX12_isEnd_19 rfl ?_
  refine g_ldc2 C (v := lN 7) dX12_isEnd_20 kc_X12_176 ?_
  refine n_land C dX12_isEnd_23 ?_
  refine n_l2i C dX12_isEnd_24 ?_
  refine n_iadd C dX12_isEnd_25 ?_
  refine n_zald C dX12_isEnd_26 rfl (by decide) (hM.1.f hja (i := c &&& 7) (by omega) rfl) ?_ (by omega)
  suffices K35 : GG x 106 0 0 [.ref 75, .long (lN (c)), unk, unk, unk] [.int (bI ((rF A a).testBit (c &&& 7)))] S 35 from by
    refine b_if_eq C 34 dX12_isEnd_27 (fun h27 => ?_) (fun h27 => ?_)
    · refine n_iconst C 0 dX12_isEnd_34 ?_
      rw [h27] at K35; exact K35
    · refine n_iconst C 1 dX12_isEnd_30 ?_
      refine g_goto C 35 dX12_isEnd_31 (by decide) ?_
      rw [h27] at K35; exact K35
  refine g_istore_n C (by rw [hmL]; decide) dX12_isEnd_35 [.ref 75, .long (lN (c)), unk, .int (bI ((rF A a).testBit (c &&& 7))), unk] rfl ?_
  refine g_aload_n C dX12_isEnd_36 rfl ?_
  refine g_getI C fo_X12_156 dX12_isEnd_37 rfl (by decide) (fun _ => rfl) h21 ?_
  refine n_iconst C 4 dX12_isEnd_40 ?_
  refine n_ic_ge C 68 dX12_isEnd_41 (fun h41 => absurd h41 (by omega)) (fun h41 => ?_)
  refine g_aload_n C dX12_isEnd_44 rfl ?_
  refine g_getR C fo_X12_16 dX12_isEnd_45 rfl (by decide) (fun _ => rfl) (gs_75_3 hS) ?_
  refine n_bipush C 6 dX12_isEnd_48 ?_
  refine g_aload_n C dX12_isEnd_50 rfl ?_
  refine g_getI C fo_X12_178 dX12_isEnd_51 rfl (by decide) (fun _ => rfl) h23 ?_
  refine n_imul C dX12_isEnd_54 ?_
  refine g_lload_n C dX12_isEnd_55 rfl ?_
  refine n_iconst C 3 dX12_isEnd_56 ?_
  refine n_lshr C dX12_isEnd_57 ?_ (by omega) (by omega)
  refine n_l2i C dX12_isEnd_58 ?_
  refine n_iadd C dX12_isEnd_59 ?_
  refine n_zald C dX12_isEnd_60 rfl (by decide) (hM.1.f hjb (i := c / 2 ^ 3) (by omega) rfl) ?_ (by omega)
  suffices K69 : GG x 106 0 0 [.ref 75, .long (lN (c)), unk, .int (bI ((rF A a).testBit (c &&& 7))), unk] [.int (bI ((rF A b).testBit (c / 2 ^ 3)))] S 69 from by
    refine b_if_eq C 68 dX12_isEnd_61 (fun h61 => ?_) (fun h61 => ?_)
    · refine n_iconst C 0 dX12_isEnd_68 ?_
      rw [h61] at K69; exact K69
    · refine n_iconst C 1 dX12_isEnd_64 ?_
      refine g_goto C 69 dX12_isEnd_65 (by decide) ?_
      rw [h61] at K69; exact K69
  refine g_istore C (by rw [hmL]; decide) dX12_isEnd_69 [.ref 75, .long (lN (c)), unk, .int (bI ((rF A a).testBit (c &&& 7))), .int (bI ((rF A b).testBit (c / 2 ^ 3)))] rfl ?_
  refine g_aload_n C dX12_isEnd_71 rfl ?_
  refine g_getI C fo_X12_156 dX12_isEnd_72 rfl (by decide) (fun _ => rfl) h21 ?_
  refine g_table C 135 dX12_isEnd_75 (by decide) (by decide) rfl (by decide) ?_
  refine g_iload_n C dX12_isEnd_135 rfl ?_
  refine b_if_eq C 148 dX12_isEnd_136 (fun h136 => ?_) (fun h136 => ?_)
  · refine n_iconst C 0 dX12_isEnd_148 ?_
    exact g_zret C E dX12_isEnd_149 (Or.inl rfl) (by rw [hR]; decide) (by rw [hR]; decide) ⟨congrArg some (congrArg Value.int (by first | (rw [h136]; rfl) | (rw [h136, h141]; rfl))), rfl⟩
  · refine g_iload C dX12_isEnd_139 rfl ?_
    refine b_if_eq C 148 dX12_isEnd_141 (fun h141 => ?_) (fun h141 => ?_)
    · refine n_iconst C 0 dX12_isEnd_148 ?_
      exact g_zret C E dX12_isEnd_149 (Or.inl rfl) (by rw [hR]; decide) (by rw [hR]; decide) ⟨congrArg some (congrArg Value.int (by first | (rw [h136]; rfl) | (rw [h136, h141]; rfl))), rfl⟩
    · refine n_iconst C 1 dX12_isEnd_144 ?_
      refine g_goto C 149 dX12_isEnd_145 (by decide) ?_
      exact g_zret C E dX12_isEnd_149 (Or.inr rfl) (by rw [hR]; decide) (by rw [hR]; decide) ⟨congrArg some (congrArg Value.int (by first | (rw [h136]; rfl) | (rw [h136, h141]; rfl))), rfl⟩

set_option maxRecDepth 100000 in
theorem ie_2 (l : Launch) {S : pv_M} {A : Ab} {a b : Nat} (hS : GS S) (hM : MSt S A) (hja : a < 3) (hga : gdR (A.1.1 a)) (hjb : b < 3) (hgb : gdR (A.1.1 b)) (h21 : mI S 75 21 = nI 2) (h22 : mI S 75 22 = nI a) (h23 : mI S 75 23 = nI b) {c : Nat} (hc1 : c &&& 7 < rN A a) (hc2 : c / 2 ^ 3 < rN A b) (hc9 : c < 2 ^ 63) : mt l MX12_isEnd 106 [.ref 75, .long (lN (c))] S (fun v S' => v = some (.int (bI (((rF A a).testBit (c &&& 7)) && !((rF A b).testBit (c / 2 ^ 3))))) ∧ S' = S) := by
  refine mt_of (by decide) (Nat.le_of_ble_eq_true rfl) ?_
  intro x hl hR hmL C E
  show GG x 106 0 0 [.ref 75, .long (lN (c)), unk, unk, unk] [] S 0
  have hn6a : rN A a ≤ 6 := hga.2.1
  have hn0a : 0 < rN A a := hga.1
  have hrna : rN A a = (A.1.1 a).1 := rfl
  have hn6b : rN A b ≤ 6 := hgb.2.1
  have hn0b : 0 < rN A b := hgb.1
  have hrnb : rN A b = (A.1.1 b).1 := rfl
  refine g_aload_n C dX12_isEnd_0 rfl ?_
  refine g_getI C fo_X12_156 dX12_isEnd_1 rfl (by decide) (fun _ => rfl) h21 ?_
  refine n_iconst C 4 dX12_isEnd_4 ?_
  refine n_ic_ge C 34 dX12_isEnd_5 (fun h5 => absurd h5 (by omega)) (fun h5 => ?_)
  refine g_aload_n C dX12_isEnd_8 rfl ?_
  refine g_getR C fo_X12_16 dX12_isEnd_9 rfl (by decide) (fun _ => rfl) (gs_75_3 hS) ?_
  refine n_bipush C 6 dX12_isEnd_12 ?_
  refine g_aload_n C dX12_isEnd_14 rfl ?_
  refine g_getI C fo_X12_173 dX12_isEnd_15 rfl (by decide) (fun _ => rfl) h22 ?_
  refine n_imul C dX12_isEnd_18 ?_
  refine g_lload_n C dX12_isEnd_19 rfl ?_
  refine g_ldc2 C (v := lN 7) dX12_isEnd_20 kc_X12_176 ?_
  refine n_land C dX12_isEnd_23 ?_
  refine n_l2i C dX12_isEnd_24 ?_
  refine n_iadd C dX12_isEnd_25 ?_
  refine n_zald C dX12_isEnd_26 rfl (by decide) (hM.1.f hja (i := c &&& 7) (by omega) rfl) ?_ (by omega)
  suffices K35 : GG x 106 0 0 [.ref 75, .long (lN (c)), unk, unk, unk] [.int (bI ((rF A a).testBit (c &&& 7)))] S 35 from by
    refine b_if_eq C 34 dX12_isEnd_27 (fun h27 => ?_) (fun h27 => ?_)
    · refine n_iconst C 0 dX12_isEnd_34 ?_
      rw [h27] at K35; exact K35
    · refine n_iconst C 1 dX12_isEnd_30 ?_
      refine g_goto C 35 dX12_isEnd_31 (by decide) ?_
      rw [h27] at K35; exact K35
  refine g_istore_n C (by rw [hmL]; decide) dX12_isEnd_35 [.ref 75, .long (lN (c)), unk, .int (bI ((rF A a).testBit (c &&& 7))), unk] rfl ?_
  refine g_aload_n C dX12_isEnd_36 rfl ?_
  refine g_getI C fo_X12_156 dX12_isEnd_37 rfl (by decide) (fun _ => rfl) h21 ?_
  refine n_iconst C 4 dX12_isEnd_40 ?_
  refine n_ic_ge C 68 dX12_isEnd_41 (fun h41 => absurd h41 (by omega)) (fun h41 => ?_)
  refine g_aload_n C dX12_isEnd_44 rfl ?_
  refine g_getR C fo_X12_16 dX12_isEnd_45 rfl (by decide) (fun _ => rfl) (gs_75_3 hS) ?_
  refine n_bipush C 6 dX12_isEnd_48 ?_
  refine g_aload_n C dX12_isEnd_50 rfl ?_
  refine g_getI C fo_X12_178 dX12_isEnd_51 rfl (by decide) (fun _ => rfl) h23 ?_
  refine n_imul C dX12_isEnd_54 ?_
  refine g_lload_n C dX12_isEnd_55 rfl ?_
  refine n_iconst C 3 dX12_isEnd_56 ?_
  refine n_lshr C dX12_isEnd_57 ?_ (by omega) (by omega)
  refine n_l2i C dX12_isEnd_58 ?_
  refine n_iadd C dX12_isEnd_59 ?_
  refine n_zald C dX12_isEnd_60 rfl (by decide) (hM.1.f hjb (i := c / 2 ^ 3) (by omega) rfl) ?_ (by omega)
  suffices K69 : GG x 106 0 0 [.ref 75, .long (lN (c)), unk, .int (bI ((rF A a).testBit (c &&& 7))), unk] [.int (bI ((rF A b).testBit (c / 2 ^ 3)))] S 69 from by
    refine b_if_eq C 68 dX12_isEnd_61 (fun h61 => ?_) (fun h61 => ?_)
    · refine n_iconst C 0 dX12_isEnd_68 ?_
      rw [h61] at K69; exact K69
    · refine n_iconst C 1 dX12_isEnd_64 ?_
      refine g_goto C 69 dX12_isEnd_65 (by decide) ?_
      rw [h61] at K69; exact K69
  refine g_istore C (by rw [hmL]; decide) dX12_isEnd_69 [.ref 75, .long (lN (c)), unk, .int (bI ((rF A a).testBit (c &&& 7))), .int (bI ((rF A b).testBit (c / 2 ^ 3)))] rfl ?_
  refine g_aload_n C dX12_isEnd_71 rfl ?_
  refine g_getI C fo_X12_156 dX12_isEnd_72 rfl (by decide) (fun _ => rfl) h21 ?_
  refine g_table C 150 dX12_isEnd_75 (by decide) (by decide) rfl (by decide) ?_
  refine g_iload_n C dX12_isEnd_150 rfl ?_
  refine b_if_eq C 163 dX12_isEnd_151 (fun h151 => ?_) (fun h151 => ?_)
  · refine n_iconst C 0 dX12_isEnd_163 ?_
    exact g_zret C E dX12_isEnd_164 (Or.inl rfl) (by rw [hR]; decide) (by rw [hR]; decide) ⟨congrArg some (congrArg Value.int (by first | (rw [h151]; rfl) | (rw [h151, h156]; rfl))), rfl⟩
  · refine g_iload C dX12_isEnd_154 rfl ?_
    refine b_if_ne C 163 dX12_isEnd_156 (fun h156 => ?_) (fun h156 => ?_)
    · refine n_iconst C 0 dX12_isEnd_163 ?_
      exact g_zret C E dX12_isEnd_164 (Or.inl rfl) (by rw [hR]; decide) (by rw [hR]; decide) ⟨congrArg some (congrArg Value.int (by first | (rw [h151]; rfl) | (rw [h151, h156]; rfl))), rfl⟩
    · refine n_iconst C 1 dX12_isEnd_159 ?_
      refine g_goto C 164 dX12_isEnd_160 (by decide) ?_
      exact g_zret C E dX12_isEnd_164 (Or.inr rfl) (by rw [hR]; decide) (by rw [hR]; decide) ⟨congrArg some (congrArg Value.int (by first | (rw [h151]; rfl) | (rw [h151, h156]; rfl))), rfl⟩

set_option maxRecDepth 100000 in
theorem ie_3 (l : Launch) {S : pv_M} {A : Ab} {a b : Nat} (hS : GS S) (hM : MSt S A) (hja : a < 3) (hga : gdR (A.1.1 a)) (hjb : b < 3) (hgb : gdR (A.1.1 b)) (h21 : mI S 75 21 = nI 3) (h22 : mI S 75 22 = nI a) (h23 : mI S 75 23 = nI b) {c : Nat} (hc1 : c &&& 7 < rN A a) (hc2 : c / 2 ^ 3 < rN A b) (hc9 : c < 2 ^ 63) : mt l MX12_isEnd 106 [.ref 75, .long (lN (c))] S (fun v S' => v = some (.int (bI (((rF A a).testBit (c &&& 7)) != ((rF A b).testBit (c / 2 ^ 3))))) ∧ S' = S) := by
  refine mt_of (by decide) (Nat.le_of_ble_eq_true rfl) ?_
  intro x hl hR hmL C E
  show GG x 106 0 0 [.ref 75, .long (lN (c)), unk, unk, unk] [] S 0
  have hn6a : rN A a ≤ 6 := hga.2.1
  have hn0a : 0 < rN A a := hga.1
  have hrna : rN A a = (A.1.1 a).1 := rfl
  have hn6b : rN A b ≤ 6 := hgb.2.1
  have hn0b : 0 < rN A b := hgb.1
  have hrnb : rN A b = (A.1.1 b).1 := rfl
  refine g_aload_n C dX12_isEnd_0 rfl ?_
  refine g_getI C fo_X12_156 dX12_isEnd_1 rfl (by decide) (fun _ => rfl) h21 ?_
  refine n_iconst C 4 dX12_isEnd_4 ?_
  refine n_ic_ge C 34 dX12_isEnd_5 (fun h5 => absurd h5 (by omega)) (fun h5 => ?_)
  refine g_aload_n C dX12_isEnd_8 rfl ?_
  refine g_getR C fo_X12_16 dX12_isEnd_9 rfl (by decide) (fun _ => rfl) (gs_75_3 hS) ?_
  refine n_bipush C 6 dX12_isEnd_12 ?_
  refine g_aload_n C dX12_isEnd_14 rfl ?_
  refine g_getI C fo_X12_173 dX12_isEnd_15 rfl (by decide) (fun _ => rfl) h22 ?_
  refine n_imul C dX12_isEnd_18 ?_
  refine g_lload_n C dX12_isEnd_19 rfl ?_
  refine g_ldc2 C (v := lN 7) dX12_isEnd_20 kc_X12_176 ?_
  refine n_land C dX12_isEnd_23 ?_
  refine n_l2i C dX12_isEnd_24 ?_
  refine n_iadd C dX12_isEnd_25 ?_
  refine n_zald C dX12_isEnd_26 rfl (by decide) (hM.1.f hja (i := c &&& 7) (by omega) rfl) ?_ (by omega)
  suffices K35 : GG x 106 0 0 [.ref 75, .long (lN (c)), unk, unk, unk] [.int (bI ((rF A a).testBit (c &&& 7)))] S 35 from by
    refine b_if_eq C 34 dX12_isEnd_27 (fun h27 => ?_) (fun h27 => ?_)
    · refine n_iconst C 0 dX12_isEnd_34 ?_
      rw [h27] at K35; exact K35
    · refine n_iconst C 1 dX12_isEnd_30 ?_
      refine g_goto C 35 dX12_isEnd_31 (by decide) ?_
      rw [h27] at K35; exact K35
  refine g_istore_n C (by rw [hmL]; decide) dX12_isEnd_35 [.ref 75, .long (lN (c)), unk, .int (bI ((rF A a).testBit (c &&& 7))), unk] rfl ?_
  refine g_aload_n C dX12_isEnd_36 rfl ?_
  refine g_getI C fo_X12_156 dX12_isEnd_37 rfl (by decide) (fun _ => rfl) h21 ?_
  refine n_iconst C 4 dX12_isEnd_40 ?_
  refine n_ic_ge C 68 dX12_isEnd_41 (fun h41 => absurd h41 (by omega)) (fun h41 => ?_)
  refine g_aload_n C dX12_isEnd_44 rfl ?_
  refine g_getR C fo_X12_16 dX12_isEnd_45 rfl (by decide) (fun _ => rfl) (gs_75_3 hS) ?_
  refine n_bipush C 6 dX12_isEnd_48 ?_
  refine g_aload_n C dX12_isEnd_50 rfl ?_
  refine g_getI C fo_X12_178 dX12_isEnd_51 rfl (by decide) (fun _ => rfl) h23 ?_
  refine n_imul C dX12_isEnd_54 ?_
  refine g_lload_n C dX12_isEnd_55 rfl ?_
  refine n_iconst C 3 dX12_isEnd_56 ?_
  refine n_lshr C dX12_isEnd_57 ?_ (by omega) (by omega)
  refine n_l2i C dX12_isEnd_58 ?_
  refine n_iadd C dX12_isEnd_59 ?_
  refine n_zald C dX12_isEnd_60 rfl (by decide) (hM.1.f hjb (i := c / 2 ^ 3) (by omega) rfl) ?_ (by omega)
  suffices K69 : GG x 106 0 0 [.ref 75, .long (lN (c)), unk, .int (bI ((rF A a).testBit (c &&& 7))), unk] [.int (bI ((rF A b).testBit (c / 2 ^ 3)))] S 69 from by
    refine b_if_eq C 68 dX12_isEnd_61 (fun h61 => ?_) (fun h61 => ?_)
    · refine n_iconst C 0 dX12_isEnd_68 ?_
      rw [h61] at K69; exact K69
    · refine n_iconst C 1 dX12_isEnd_64 ?_
      refine g_goto C 69 dX12_isEnd_65 (by decide) ?_
      rw [h61] at K69; exact K69
  refine g_istore C (by rw [hmL]; decide) dX12_isEnd_69 [.ref 75, .long (lN (c)), unk, .int (bI ((rF A a).testBit (c &&& 7))), .int (bI ((rF A b).testBit (c / 2 ^ 3)))] rfl ?_
  refine g_aload_n C dX12_isEnd_71 rfl ?_
  refine g_getI C fo_X12_156 dX12_isEnd_72 rfl (by decide) (fun _ => rfl) h21 ?_
  refine g_table C 165 dX12_isEnd_75 (by decide) (by decide) rfl (by decide) ?_
  refine g_iload_n C dX12_isEnd_165 rfl ?_
  refine g_iload C dX12_isEnd_166 rfl ?_
  refine g_ic_eq C 175 dX12_isEnd_168 (by decide) (fun h168 => ?_) (fun h168 => ?_)
  · refine n_iconst C 0 dX12_isEnd_175 ?_
    exact g_zret C E dX12_isEnd_176 (Or.inl rfl) (by rw [hR]; decide) (by rw [hR]; decide) ⟨congrArg some (congrArg Value.int (by first | (rw [bI_inj.mp h168, bne_self_eq_false]; rfl) | (rw [bne_iff_ne.mpr (fun e => h168 (by rw [e]))]; rfl))), rfl⟩
  · refine n_iconst C 1 dX12_isEnd_171 ?_
    refine g_goto C 176 dX12_isEnd_172 (by decide) ?_
    exact g_zret C E dX12_isEnd_176 (Or.inr rfl) (by rw [hR]; decide) (by rw [hR]; decide) ⟨congrArg some (congrArg Value.int (by first | (rw [bI_inj.mp h168, bne_self_eq_false]; rfl) | (rw [bne_iff_ne.mpr (fun e => h168 (by rw [e]))]; rfl))), rfl⟩

set_option maxRecDepth 100000 in
theorem ie_4 (l : Launch) {S : pv_M} {A : Ab} {a b : Nat} (hS : GS S) (hM : MSt S A) (hja : a < 3) (hga : gdR (A.1.1 a)) (hjb : b < 3) (hgb : gdR (A.1.1 b)) (h21 : mI S 75 21 = nI 4) (h22 : mI S 75 22 = nI a) (h23 : mI S 75 23 = nI b) {c : Nat} (hc2 : c / 2 ^ 3 < 64) (hc9 : c < 2 ^ 63) : mt l MX12_isEnd 106 [.ref 75, .long (lN (c))] S (fun v S' => v = some (.int (bI (hfM A b (c / 2 ^ 3) (rN A b)))) ∧ S' = S) := by
  refine mt_of (by decide) (Nat.le_of_ble_eq_true rfl) ?_
  intro x hl hR hmL C E
  show GG x 106 0 0 [.ref 75, .long (lN (c)), unk, unk, unk] [] S 0
  refine g_aload_n C dX12_isEnd_0 rfl ?_
  refine g_getI C fo_X12_156 dX12_isEnd_1 rfl (by decide) (fun _ => rfl) h21 ?_
  refine n_iconst C 4 dX12_isEnd_4 ?_
  refine n_ic_ge C 34 dX12_isEnd_5 (fun h5 => ?_) (fun h5 => absurd h5 (by omega))
  refine n_iconst C 0 dX12_isEnd_34 ?_
  refine g_istore_n C (by rw [hmL]; decide) dX12_isEnd_35 [.ref 75, .long (lN (c)), unk, .int (nI (0)), unk] rfl ?_
  refine g_aload_n C dX12_isEnd_36 rfl ?_
  refine g_getI C fo_X12_156 dX12_isEnd_37 rfl (by decide) (fun _ => rfl) h21 ?_
  refine n_iconst C 4 dX12_isEnd_40 ?_
  refine n_ic_ge C 68 dX12_isEnd_41 (fun h41 => ?_) (fun h41 => absurd h41 (by omega))
  refine n_iconst C 0 dX12_isEnd_68 ?_
  refine g_istore C (by rw [hmL]; decide) dX12_isEnd_69 [.ref 75, .long (lN (c)), unk, .int (nI (0)), .int (nI (0))] rfl ?_
  refine g_aload_n C dX12_isEnd_71 rfl ?_
  refine g_getI C fo_X12_156 dX12_isEnd_72 rfl (by decide) (fun _ => rfl) h21 ?_
  refine g_table C 177 dX12_isEnd_75 (by decide) (by decide) rfl (by decide) ?_
  refine g_aload_n C dX12_isEnd_177 rfl ?_
  refine g_aload_n C dX12_isEnd_178 rfl ?_
  refine g_getI C fo_X12_178 dX12_isEnd_179 rfl (by decide) (fun _ => rfl) h23 ?_
  refine g_lload_n C dX12_isEnd_182 rfl ?_
  refine n_iconst C 3 dX12_isEnd_183 ?_
  refine n_lshr C dX12_isEnd_184 ?_ (by omega) (by omega)
  refine g_callV C (As := [.int (nI (b)), .long (lN ((c) / 2 ^ (3)))]) (k_hasFinal _ hS hM hjb hgb hc2) vo_X12_198 dX12_isEnd_185 rfl rfl (by decide) rfl (rm_ok (M' := MX12_isEnd) hR (by decide)) (Nat.le_of_ble_eq_true rfl) (fun v9 S9 h9 => ?_)
  obtain ⟨rfl, h9⟩ := h9
  refine g_S S h9 ?_
  refine g_n0 [.int (bI (hfM A b (c / 2 ^ 3) (rN A b)))] rfl rfl rfl ?_
  exact g_zret C E dX12_isEnd_188 (bI_01 _) (by rw [hR]; decide) (by rw [hR]; decide) ⟨rfl, rfl⟩

set_option maxRecDepth 100000 in
theorem ie_5 (l : Launch) {S : pv_M} {A : Ab} {a : Nat} (hS : GS S) (hM : MSt S A) (hja : a < 3) (hga : gdR (A.1.1 a)) (h21 : mI S 75 21 = nI 5) (h22 : mI S 75 22 = nI a) {c : Nat} (hc : c = 64 ∨ c < 64) : mt l MX12_isEnd 106 [.ref 75, .long (lN (c))] S (fun v S' => v = some (.int (bI (decide (c = 64) || !decide ((c &&& fsM A a (rN A a)) = 0)))) ∧ S' = S) := by
  refine mt_of (by decide) (Nat.le_of_ble_eq_true rfl) ?_
  intro x hl hR hmL C E
  show GG x 106 0 0 [.ref 75, .long (lN (c)), unk, unk, unk] [] S 0
  refine g_aload_n C dX12_isEnd_0 rfl ?_
  refine g_getI C fo_X12_156 dX12_isEnd_1 rfl (by decide) (fun _ => rfl) h21 ?_
  refine n_iconst C 4 dX12_isEnd_4 ?_
  refine n_ic_ge C 34 dX12_isEnd_5 (fun h5 => ?_) (fun h5 => absurd h5 (by omega))
  refine n_iconst C 0 dX12_isEnd_34 ?_
  refine g_istore_n C (by rw [hmL]; decide) dX12_isEnd_35 [.ref 75, .long (lN (c)), unk, .int (nI (0)), unk] rfl ?_
  refine g_aload_n C dX12_isEnd_36 rfl ?_
  refine g_getI C fo_X12_156 dX12_isEnd_37 rfl (by decide) (fun _ => rfl) h21 ?_
  refine n_iconst C 4 dX12_isEnd_40 ?_
  refine n_ic_ge C 68 dX12_isEnd_41 (fun h41 => ?_) (fun h41 => absurd h41 (by omega))
  refine n_iconst C 0 dX12_isEnd_68 ?_
  refine g_istore C (by rw [hmL]; decide) dX12_isEnd_69 [.ref 75, .long (lN (c)), unk, .int (nI (0)), .int (nI (0))] rfl ?_
  refine g_aload_n C dX12_isEnd_71 rfl ?_
  refine g_getI C fo_X12_156 dX12_isEnd_72 rfl (by decide) (fun _ => rfl) h21 ?_
  refine g_table C 189 dX12_isEnd_75 (by decide) (by decide) rfl (by decide) ?_
  refine g_lload_n C dX12_isEnd_189 rfl ?_
  refine g_ldc2 C (v := lN 64) dX12_isEnd_190 kc_X12_163 ?_
  refine g_lcmp C dX12_isEnd_193 ?_
  refine c_if_eq C 208 dX12_isEnd_194 (fun h194 => ?_) (fun h194 => ?_)
  · refine n_iconst C 1 dX12_isEnd_208 ?_
    refine g_goto C 213 dX12_isEnd_209 (by decide) ?_
    exact g_zret C E dX12_isEnd_213 (Or.inr rfl) (by rw [hR]; decide) (by rw [hR]; decide) ⟨congrArg some (congrArg Value.int (by first | (rw [decide_eq_true h194]; rfl) | (rw [decide_eq_false h194, decide_eq_true h205]; rfl) | (rw [decide_eq_false h194, decide_eq_false h205]; rfl))), rfl⟩
  · refine g_lload_n C dX12_isEnd_197 rfl ?_
    refine g_aload_n C dX12_isEnd_198 rfl ?_
    refine g_callV C (As := []) (k_finalStates _ hS hM hja hga h22) vo_X12_165 dX12_isEnd_199 rfl rfl (by decide) rfl (rm_ok (M' := MX12_isEnd) hR (by decide)) (Nat.le_of_ble_eq_true rfl) (fun v9 S9 h9 => ?_)
    obtain ⟨rfl, h9⟩ := h9
    refine g_S S h9 ?_
    refine g_n0 [.long (lN (fsM A a (rN A a))), .long (lN (c))] rfl rfl rfl ?_
    refine n_land C dX12_isEnd_202 ?_
    refine n_lconst C 0 dX12_isEnd_203 ?_
    refine g_lcmp C dX12_isEnd_204 ?_
    refine c_if_eq C 212 dX12_isEnd_205 (fun h205 => ?_) (fun h205 => ?_) (by decide) (Nat.lt_of_le_of_lt Nat.and_le_left (by omega)) (by decide)
    · refine n_iconst C 0 dX12_isEnd_212 ?_
      exact g_zret C E dX12_isEnd_213 (Or.inl rfl) (by rw [hR]; decide) (by rw [hR]; decide) ⟨congrArg some (congrArg Value.int (by first | (rw [decide_eq_true h194]; rfl) | (rw [decide_eq_false h194, decide_eq_true h205]; rfl) | (rw [decide_eq_false h194, decide_eq_false h205]; rfl))), rfl⟩
    · refine n_iconst C 1 dX12_isEnd_208 ?_
      refine g_goto C 213 dX12_isEnd_209 (by decide) ?_
      exact g_zret C E dX12_isEnd_213 (Or.inr rfl) (by rw [hR]; decide) (by rw [hR]; decide) ⟨congrArg some (congrArg Value.int (by first | (rw [decide_eq_true h194]; rfl) | (rw [decide_eq_false h194, decide_eq_true h205]; rfl) | (rw [decide_eq_false h194, decide_eq_false h205]; rfl))), rfl⟩

theorem tb0 (c : Nat) : (c &&& 1 = 1) ↔ c.testBit 0 = true := by
  have := tb_and c 0
  rwa [Nat.pow_zero, Nat.div_one] at this

set_option maxRecDepth 100000 in
theorem ie_6 (l : Launch) {S : pv_M} (hS : GS S) (h21 : mI S 75 21 = nI 6) {c : Nat} (hc : c < 64) : mt l MX12_isEnd 106 [.ref 75, .long (lN (c))] S (fun v S' => v = some (.int (bI (c.testBit 0))) ∧ S' = S) := by
  refine mt_of (by decide) (Nat.le_of_ble_eq_true rfl) ?_
  intro x hl hR hmL C E
  show GG x 106 0 0 [.ref 75, .long (lN (c)), unk, unk, unk] [] S 0
  refine g_aload_n C dX12_isEnd_0 rfl ?_
  refine g_getI C fo_X12_156 dX12_isEnd_1 rfl (by decide) (fun _ => rfl) h21 ?_
  refine n_iconst C 4 dX12_isEnd_4 ?_
  refine n_ic_ge C 34 dX12_isEnd_5 (fun h5 => ?_) (fun h5 => absurd h5 (by omega))
  refine n_iconst C 0 dX12_isEnd_34 ?_
  refine g_istore_n C (by rw [hmL]; decide) dX12_isEnd_35 [.ref 75, .long (lN (c)), unk, .int (nI (0)), unk] rfl ?_
  refine g_aload_n C dX12_isEnd_36 rfl ?_
  refine g_getI C fo_X12_156 dX12_isEnd_37 rfl (by decide) (fun _ => rfl) h21 ?_
  refine n_iconst C 4 dX12_isEnd_40 ?_
  refine n_ic_ge C 68 dX12_isEnd_41 (fun h41 => ?_) (fun h41 => absurd h41 (by omega))
  refine n_iconst C 0 dX12_isEnd_68 ?_
  refine g_istore C (by rw [hmL]; decide) dX12_isEnd_69 [.ref 75, .long (lN (c)), unk, .int (nI (0)), .int (nI (0))] rfl ?_
  refine g_aload_n C dX12_isEnd_71 rfl ?_
  refine g_getI C fo_X12_156 dX12_isEnd_72 rfl (by decide) (fun _ => rfl) h21 ?_
  refine g_table C 214 dX12_isEnd_75 (by decide) (by decide) rfl (by decide) ?_
  refine g_lload_n C dX12_isEnd_214 rfl ?_
  refine n_lconst C 1 dX12_isEnd_215 ?_
  refine n_land C dX12_isEnd_216 ?_
  refine n_lconst C 1 dX12_isEnd_217 ?_
  refine g_lcmp C dX12_isEnd_218 ?_
  refine c_if_ne C 226 dX12_isEnd_219 (fun h219 => ?_) (fun h219 => ?_) (by decide) (and1_lt _) (by decide)
  · refine n_iconst C 0 dX12_isEnd_226 ?_
    exact g_zret C E dX12_isEnd_227 (Or.inl rfl) (by rw [hR]; decide) (by rw [hR]; decide) ⟨congrArg some (congrArg Value.int (by first | (rw [(tb0 c).mp h219]; rfl) | (rw [show c.testBit 0 = false from Bool.eq_false_iff.mpr (fun e => h219 ((tb0 c).mpr e))]; rfl))), rfl⟩
  · refine n_iconst C 1 dX12_isEnd_222 ?_
    refine g_goto C 227 dX12_isEnd_223 (by decide) ?_
    exact g_zret C E dX12_isEnd_227 (Or.inr rfl) (by rw [hR]; decide) (by rw [hR]; decide) ⟨congrArg some (congrArg Value.int (by first | (rw [(tb0 c).mp h219]; rfl) | (rw [show c.testBit 0 = false from Bool.eq_false_iff.mpr (fun e => h219 ((tb0 c).mpr e))]; rfl))), rfl⟩

set_option maxRecDepth 100000 in
theorem ie_7 (l : Launch) {S : pv_M} {at_ la as_ : Nat} {AN : Nat → Nat} (hS : GS S) (hA : XA at_ AN la as_ S) (h64 : at_ ≤ 64) (h21 : mI S 75 21 = nI 7) {c : Nat} (hc : c < 2 ^ 64) (hla : la < 64) : mt l MX12_isEnd 106 [.ref 75, .long (lN (c))] S (fun v S' => v = some (.int (bI (c.testBit la))) ∧ S' = S) := by
  refine mt_of (by decide) (Nat.le_of_ble_eq_true rfl) ?_
  intro x hl hR hmL C E
  show GG x 106 0 0 [.ref 75, .long (lN (c)), unk, unk, unk] [] S 0
  refine g_aload_n C dX12_isEnd_0 rfl ?_
  refine g_getI C fo_X12_156 dX12_isEnd_1 rfl (by decide) (fun _ => rfl) h21 ?_
  refine n_iconst C 4 dX12_isEnd_4 ?_
  refine n_ic_ge C 34 dX12_isEnd_5 (fun h5 => ?_) (fun h5 => absurd h5 (by omega))
  refine n_iconst C 0 dX12_isEnd_34 ?_
  refine g_istore_n C (by rw [hmL]; decide) dX12_isEnd_35 [.ref 75, .long (lN (c)), unk, .int (nI (0)), unk] rfl ?_
  refine g_aload_n C dX12_isEnd_36 rfl ?_
  refine g_getI C fo_X12_156 dX12_isEnd_37 rfl (by decide) (fun _ => rfl) h21 ?_
  refine n_iconst C 4 dX12_isEnd_40 ?_
  refine n_ic_ge C 68 dX12_isEnd_41 (fun h41 => ?_) (fun h41 => absurd h41 (by omega))
  refine n_iconst C 0 dX12_isEnd_68 ?_
  refine g_istore C (by rw [hmL]; decide) dX12_isEnd_69 [.ref 75, .long (lN (c)), unk, .int (nI (0)), .int (nI (0))] rfl ?_
  refine g_aload_n C dX12_isEnd_71 rfl ?_
  refine g_getI C fo_X12_156 dX12_isEnd_72 rfl (by decide) (fun _ => rfl) h21 ?_
  refine g_table C 228 dX12_isEnd_75 (by decide) (by decide) rfl (by decide) ?_
  refine g_lload_n C dX12_isEnd_228 rfl ?_
  refine g_aload_n C dX12_isEnd_229 rfl ?_
  refine g_getI C fo_X12_202 dX12_isEnd_230 rfl (by decide) (fun _ => rfl) hA.2.2.1 ?_
  refine n_lushr C dX12_isEnd_233 ?_ (by omega) (by omega)
  refine n_lconst C 1 dX12_isEnd_234 ?_
  refine n_land C dX12_isEnd_235 ?_
  refine n_lconst C 1 dX12_isEnd_236 ?_
  refine g_lcmp C dX12_isEnd_237 ?_
  refine t_if_ne C 245 dX12_isEnd_238 (fun h238 => ?_) (fun h238 => ?_)
  · refine n_iconst C 0 dX12_isEnd_245 ?_
    exact g_zret C E dX12_isEnd_246 (Or.inl rfl) (by rw [hR]; decide) (by rw [hR]; decide) ⟨congrArg some (congrArg Value.int (by rw [h238]; rfl)), rfl⟩
  · refine n_iconst C 1 dX12_isEnd_241 ?_
    refine g_goto C 246 dX12_isEnd_242 (by decide) ?_
    exact g_zret C E dX12_isEnd_246 (Or.inr rfl) (by rw [hR]; decide) (by rw [hR]; decide) ⟨congrArg some (congrArg Value.int (by rw [h238]; rfl)), rfl⟩

set_option maxRecDepth 100000 in
theorem ie_8 (l : Launch) {S : pv_M} {A : Ab} {a : Nat} (hS : GS S) (hM : MSt S A) (hja : a < 3) (hga : gdR (A.1.1 a)) (h21 : mI S 75 21 = nI 8) (h22 : mI S 75 22 = nI a) {c : Nat} (hc : c < rN A a) : mt l MX12_isEnd 106 [.ref 75, .long (lN (c))] S (fun v S' => v = some (.int (bI ((rF A a).testBit c))) ∧ S' = S) := by
  refine mt_of (by decide) (Nat.le_of_ble_eq_true rfl) ?_
  intro x hl hR hmL C E
  show GG x 106 0 0 [.ref 75, .long (lN (c)), unk, unk, unk] [] S 0
  have hn6a : rN A a ≤ 6 := hga.2.1
  have hn0a : 0 < rN A a := hga.1
  have hrna : rN A a = (A.1.1 a).1 := rfl
  refine g_aload_n C dX12_isEnd_0 rfl ?_
  refine g_getI C fo_X12_156 dX12_isEnd_1 rfl (by decide) (fun _ => rfl) h21 ?_
  refine n_iconst C 4 dX12_isEnd_4 ?_
  refine n_ic_ge C 34 dX12_isEnd_5 (fun h5 => ?_) (fun h5 => absurd h5 (by omega))
  refine n_iconst C 0 dX12_isEnd_34 ?_
  refine g_istore_n C (by rw [hmL]; decide) dX12_isEnd_35 [.ref 75, .long (lN (c)), unk, .int (nI (0)), unk] rfl ?_
  refine g_aload_n C dX12_isEnd_36 rfl ?_
  refine g_getI C fo_X12_156 dX12_isEnd_37 rfl (by decide) (fun _ => rfl) h21 ?_
  refine n_iconst C 4 dX12_isEnd_40 ?_
  refine n_ic_ge C 68 dX12_isEnd_41 (fun h41 => ?_) (fun h41 => absurd h41 (by omega))
  refine n_iconst C 0 dX12_isEnd_68 ?_
  refine g_istore C (by rw [hmL]; decide) dX12_isEnd_69 [.ref 75, .long (lN (c)), unk, .int (nI (0)), .int (nI (0))] rfl ?_
  refine g_aload_n C dX12_isEnd_71 rfl ?_
  refine g_getI C fo_X12_156 dX12_isEnd_72 rfl (by decide) (fun _ => rfl) h21 ?_
  refine g_tableX C 247 dX12_isEnd_75 (Or.inr (by decide)) (by decide) ?_
  refine g_aload_n C dX12_isEnd_247 rfl ?_
  refine g_getR C fo_X12_16 dX12_isEnd_248 rfl (by decide) (fun _ => rfl) (gs_75_3 hS) ?_
  refine n_bipush C 6 dX12_isEnd_251 ?_
  refine g_aload_n C dX12_isEnd_253 rfl ?_
  refine g_getI C fo_X12_173 dX12_isEnd_254 rfl (by decide) (fun _ => rfl) h22 ?_
  refine n_imul C dX12_isEnd_257 ?_
  refine g_lload_n C dX12_isEnd_258 rfl ?_
  refine n_l2i C dX12_isEnd_259 ?_
  refine n_iadd C dX12_isEnd_260 ?_
  refine n_zald C dX12_isEnd_261 rfl (by decide) (hM.1.f hja (i := c) (by omega) rfl) ?_ (by omega)
  exact g_zret C E dX12_isEnd_262 (bI_01 _) (by rw [hR]; decide) (by rw [hR]; decide) ⟨rfl, rfl⟩

theorem mm_8 (l : Launch) {A : Ab} {a b : Nat} (hja : a < 3) (hga : gdR (A.1.1 a)) : MMach l A 8 a b 0 (fun c q => rT A a (c * 3 + q)) (fun c => (rF A a).testBit c) (fun c => c < rN A a) (fun _ => True) :=
  ⟨fun S p _ => fk_8 l p.1 p.2.2.1, hga.1, fun c hc => by have := hga.2.1; have : c < (A.1.1 a).1 := hc; omega, fun S c q p _ hc hq => ka_8 l p.1 p.2.1 hja hga p.2.2.1 p.2.2.2.1 hc hq, fun c q hc hq => hga.2.2.1 _ (by have : c < (A.1.1 a).1 := hc; omega), fun S c p _ hc => ie_8 l p.1 p.2.1 hja hga p.2.2.1 p.2.2.2.1 hc, fun _ _ _ _ => trivial⟩
def opM (p : Nat) (u v : Bool) : Bool := match p with | 0 => u || v | 1 => u && v | 2 => u && !v | _ => u != v
def DmP (A : Ab) (a b c : Nat) : Prop := c &&& 7 < rN A a ∧ c / 2 ^ 3 < rN A b ∧ c < 64
theorem mm_p (l : Launch) {A : Ab} {a b p : Nat} (hp : p < 4) (hja : a < 3) (hga : gdR (A.1.1 a)) (hjb : b < 3) (hgb : gdR (A.1.1 b)) : MMach l A p a b 0 (fun c q => rT A a ((c &&& 7) * 3 + q) ||| rT A b ((c / 2 ^ 3) * 3 + q) * 2 ^ 3) (fun c => opM p ((rF A a).testBit (c &&& 7)) ((rF A b).testBit (c / 2 ^ 3))) (DmP A a b) (fun _ => True) := by
  refine ⟨fun S h _ => fk_p l h.1 hp h.2.2.1, ⟨hga.1, hgb.1, by decide⟩, fun c hc => Nat.lt_trans hc.2.2 (by decide), fun S c q h _ hc hq => ka_p l h.1 h.2.1 hja hga hjb hgb hp h.2.2.1 h.2.2.2.1 h.2.2.2.2 hc.1 hc.2.1 (Nat.lt_trans hc.2.2 (by decide)) hq, fun c q hc hq => ?_, fun S c h _ hc => ?_, fun _ _ _ _ => trivial⟩
  · have h1 := hga.2.2.1 ((c &&& 7) * 3 + q) (by have : c &&& 7 < (A.1.1 a).1 := hc.1; omega)
    have h2 := hgb.2.2.1 ((c / 2 ^ 3) * 3 + q) (by have : c / 2 ^ 3 < (A.1.1 b).1 := hc.2.1; omega)
    have h3 := hga.2.1
    have h4 := hgb.2.1
    have e := or8' (x := rT A a ((c &&& 7) * 3 + q)) (y := rT A b ((c / 2 ^ 3) * 3 + q)) (by show (A.1.1 a).2.1 ((c &&& 7) * 3 + q) < 8; omega)
    refine ⟨by show (_ : Nat) &&& 7 < _; rw [e.1]; exact h1, by show (_ : Nat) / 2 ^ 3 < _; rw [e.2]; exact h2, ?_⟩
    refine Nat.or_lt_two_pow (n := 6) ?_ ?_
    · show (A.1.1 a).2.1 ((c &&& 7) * 3 + q) < 2 ^ 6; omega
    · show (A.1.1 b).2.1 ((c / 2 ^ 3) * 3 + q) * 2 ^ 3 < 2 ^ 6; omega
  · have : p = 0 ∨ p = 1 ∨ p = 2 ∨ p = 3 := by omega
    rcases this with rfl | rfl | rfl | rfl
    · exact ie_0 l h.1 h.2.1 hja hga hjb hgb h.2.2.1 h.2.2.2.1 h.2.2.2.2 hc.1 hc.2.1 (Nat.lt_trans hc.2.2 (by decide))
    · exact ie_1 l h.1 h.2.1 hja hga hjb hgb h.2.2.1 h.2.2.2.1 h.2.2.2.2 hc.1 hc.2.1 (Nat.lt_trans hc.2.2 (by decide))
    · exact ie_2 l h.1 h.2.1 hja hga hjb hgb h.2.2.1 h.2.2.2.1 h.2.2.2.2 hc.1 hc.2.1 (Nat.lt_trans hc.2.2 (by decide))
    · exact ie_3 l h.1 h.2.1 hja hga hjb hgb h.2.2.1 h.2.2.2.1 h.2.2.2.2 hc.1 hc.2.1 (Nat.lt_trans hc.2.2 (by decide))
def Dm4 (A : Ab) (a b c : Nat) : Prop := c &&& 7 < rN A a ∧ c / 2 ^ 3 < 2 ^ rN A b
theorem ldM_n {A : Ab} {a X q k : Nat} (hg : gdR (A.1.1 a)) (hk : k ≤ rN A a) (hq : q < 3) : ldM A a X q k < 2 ^ rN A a := orf_lt k (fun s hs _ => by
  have h1 := hg.2.2.1 (s * 3 + q) (by have : k ≤ (A.1.1 a).1 := hk; omega)
  exact Nat.pow_lt_pow_right (by decide) h1)
theorem or1_n {n X : Nat} (hn : 0 < n) (h : X < 2 ^ n) : X ||| 1 < 2 ^ n := Nat.or_lt_two_pow h (Nat.one_lt_two_pow (by omega))
theorem catM_dm {A : Ab} {a b s X : Nat} (hga : gdR (A.1.1 a)) (hgb : gdR (A.1.1 b)) (hs : s < rN A a) (hX : X < 2 ^ rN A b) : Dm4 A a b (catM A a s X) := by
  have h6 := hga.2.1
  have e := or8 (x := s) (y := if (rF A a).testBit s then X ||| 1 else X) (by have : s < (A.1.1 a).1 := hs; omega)
  refine ⟨by unfold catM; rw [e.1]; exact hs, by unfold catM; rw [e.2]; by_cases z : (rF A a).testBit s = true; rw [if_pos z]; exact or1_n hgb.1 hX; rw [if_neg z]; exact hX⟩
theorem Dm4_lt {A : Ab} {a b c : Nat} (hgb : gdR (A.1.1 b)) (h : Dm4 A a b c) : c / 2 ^ 3 < 64 ∧ c < 2 ^ 63 := by
  have h1 : 2 ^ rN A b ≤ 2 ^ 6 := Nat.pow_le_pow_right (by decide) hgb.2.1
  have h2 := h.2
  have : c / 2 ^ 3 < 64 := by omega
  exact ⟨this, by omega⟩
theorem mm_4 (l : Launch) {A : Ab} {a b : Nat} (hja : a < 3) (hga : gdR (A.1.1 a)) (hjb : b < 3) (hgb : gdR (A.1.1 b)) : MMach l A 4 a b (catM A a 0 0) (fun c q => catM A a (rT A a ((c &&& 7) * 3 + q)) (ldM A b (c / 2 ^ 3) q (rN A b))) (fun c => hfM A b (c / 2 ^ 3) (rN A b)) (Dm4 A a b) (fun _ => True) :=
  ⟨fun S h _ => fk_4 l h.1 h.2.1 hja hga h.2.2.1 h.2.2.2.1, catM_dm hga hgb hga.1 (Nat.two_pow_pos _), fun c hc => Nat.lt_trans (Dm4_lt hgb hc).2 (by decide), fun S c q h _ hc hq => ka_4 l h.1 h.2.1 hja hga hjb hgb h.2.2.1 h.2.2.2.1 h.2.2.2.2 hc.1 (Dm4_lt hgb hc).1 (Dm4_lt hgb hc).2 hq, fun c q hc hq => catM_dm hga hgb (hga.2.2.1 _ (by have : c &&& 7 < (A.1.1 a).1 := hc.1; omega)) (ldM_n hgb (Nat.le_refl _) hq), fun S c h _ hc => ie_4 l h.1 h.2.1 hja hga hjb hgb h.2.2.1 h.2.2.2.1 h.2.2.2.2 (Dm4_lt hgb hc).1 (Dm4_lt hgb hc).2, fun _ _ _ _ => trivial⟩
def Dm5 (A : Ab) (a c : Nat) : Prop := c = 64 ∨ c < 2 ^ rN A a
theorem Dm5_lt {A : Ab} {a c : Nat} (hga : gdR (A.1.1 a)) (h : Dm5 A a c) : c = 64 ∨ c < 64 := by
  have h1 : 2 ^ rN A a ≤ 2 ^ 6 := Nat.pow_le_pow_right (by decide) hga.2.1
  rcases h with h | h
  · exact Or.inl h
  · exact Or.inr (by omega)
theorem stM_dm {A : Ab} {a c q : Nat} (hga : gdR (A.1.1 a)) (hq : q < 3) : stM A a c q < 2 ^ rN A a := by
  have h := ldM_n (X := if c = 64 then 1 else c) hga (Nat.le_refl _) hq
  unfold stM
  by_cases z : (ldM A a (if c = 64 then 1 else c) q (rN A a) &&& fsM A a (rN A a)) = 0
  · rw [if_pos z]; exact h
  · rw [if_neg z]; exact or1_n hga.1 h
theorem mm_5 (l : Launch) {A : Ab} {a b : Nat} (hja : a < 3) (hga : gdR (A.1.1 a)) : MMach l A 5 a b 64 (fun c q => stM A a c q) (fun c => decide (c = 64) || !decide ((c &&& fsM A a (rN A a)) = 0)) (Dm5 A a) (fun _ => True) :=
  ⟨fun S h _ => fk_5 l h.1 h.2.2.1, Or.inl rfl, fun c hc => by rcases Dm5_lt hga hc with h | h <;> omega, fun S c q h _ hc hq => ka_5 l h.1 h.2.1 hja hga h.2.2.1 h.2.2.2.1 (Dm5_lt hga hc) hq, fun c q hc hq => Or.inr (stM_dm hga hq), fun S c h _ hc => ie_5 l h.1 h.2.1 hja hga h.2.2.1 h.2.2.2.1 (Dm5_lt hga hc), fun _ _ _ _ => trivial⟩
theorem pw_n {c : Nat → Bool} {k n : Nat} (hk : k ≤ n) : orf c (fun s => 2 ^ s) k < 2 ^ n := orf_lt k (fun s hs _ => Nat.pow_lt_pow_right (by decide) (by omega))
theorem lt64_n {A : Ab} {a c : Nat} (hga : gdR (A.1.1 a)) (h : c < 2 ^ rN A a) : c < 64 := Nat.lt_of_lt_of_le h (show 2 ^ rN A a ≤ 2 ^ 6 from Nat.pow_le_pow_right (by decide) hga.2.1)
theorem mm_6 (l : Launch) {A : Ab} {a b : Nat} (hja : a < 3) (hga : gdR (A.1.1 a)) : MMach l A 6 a b (fsM A a (rN A a)) (fun c q => lbM A a c q (rN A a)) (fun c => c.testBit 0) (fun c => c < 2 ^ rN A a) (fun _ => True) :=
  ⟨fun S h _ => fk_6 l h.1 h.2.1 hja hga h.2.2.1 h.2.2.2.1, pw_n (Nat.le_refl _), fun c hc => Nat.lt_trans (lt64_n hga hc) (by decide), fun S c q h _ hc hq => ka_6 l h.1 h.2.1 hja hga h.2.2.1 h.2.2.2.1 (lt64_n hga hc) hq, fun c q hc hq => pw_n (Nat.le_refl _), fun S c h _ hc => ie_6 l h.1 h.2.2.1 (lt64_n hga hc), fun _ _ _ _ => trivial⟩
theorem mm_7 (l : Launch) {A : Ab} {a b at_ la as_ : Nat} {AN : Nat → Nat} (h64 : at_ ≤ 64) (hla : la < 64) (has : as_ < 2 ^ 64) (hAN : ∀ p, p < 192 → AN p < 2 ^ 64) : MMach l A 7 a b as_ (fun c q => aaM AN c q at_) (fun c => c.testBit la) (fun c => c < 2 ^ 64) (XA at_ AN la as_) :=
  ⟨fun S h hX => fk_7 l h.1 h.2.2.1 hX.2.2.2, has, fun c hc => hc, fun S c q h hX hc hq => ka_7 l h.1 hX h64 h.2.2.1 hc hq, fun c q hc hq => orf_lt _ (fun s hs _ => hAN _ (by omega)), fun S c h hX hc => ie_7 l h.1 hX h64 h.2.2.1 hc hla, fun S S' hX k => hX.keep k⟩
