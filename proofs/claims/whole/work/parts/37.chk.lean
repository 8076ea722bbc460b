theorem at_of {L : List Cond} (h1 : L.all (fun w => decide (w ∈ lw_tbl)) = true) (h2 : L.all (fun w => goodWord w || nbw w) = true) : ∀ w ∈ L, w ∈ TB ∨ w ∈ NB := by
  intro w hw
  have a := of_decide_eq_true (List.all_eq_true.mp h1 w hw)
  have b := List.all_eq_true.mp h2 w hw
  rcases Bool.or_eq_true _ _ |>.mp b with b | b
  · exact Or.inl (List.mem_filter.mpr ⟨a, b⟩)
  · exact Or.inr (List.mem_filter.mpr ⟨a, b⟩)

set_option maxRecDepth 100000 in
theorem at_IllegalArgumentException_259 : ∀ w ∈ vx_atS RX11 259 "java/lang/IllegalArgumentException" xnames, w ∈ TB ∨ w ∈ NB := at_of (by decide +kernel) (by decide +kernel)
set_option maxRecDepth 100000 in
theorem ot_IllegalArgumentException_259 : ∀ w ∈ Cond.classLink RX11 255 "java/lang/IllegalArgumentException" :: Cond.initialized "java/lang/IllegalArgumentException" :: vx_atS RX11 259 "java/lang/IllegalArgumentException" xnames, vx_ot w = true := List.all_eq_true.mp (by decide +kernel)
theorem to_257 : TO 255 257 259 "java/lang/IllegalArgumentException" "no such row" := ⟨by decide +kernel, by decide +kernel, tb_in 513 (by decide +kernel) (by decide +kernel), tb_in 74 (by decide +kernel) (by decide +kernel), by decide +kernel, at_IllegalArgumentException_259, ot_IllegalArgumentException_259⟩
set_option maxRecDepth 100000 in
theorem at_IllegalStateException_265 : ∀ w ∈ vx_atS RX11 265 "java/lang/IllegalStateException" xnames, w ∈ TB ∨ w ∈ NB := at_of (by decide +kernel) (by decide +kernel)
set_option maxRecDepth 100000 in
theorem ot_IllegalStateException_265 : ∀ w ∈ Cond.classLink RX11 261 "java/lang/IllegalStateException" :: Cond.initialized "java/lang/IllegalStateException" :: vx_atS RX11 265 "java/lang/IllegalStateException" xnames, vx_ot w = true := List.all_eq_true.mp (by decide +kernel)
theorem to_263 : TO 261 263 265 "java/lang/IllegalStateException" "the row is missing" := ⟨by decide +kernel, by decide +kernel, tb_in 634 (by decide +kernel) (by decide +kernel), tb_in 75 (by decide +kernel) (by decide +kernel), by decide +kernel, at_IllegalStateException_265, ot_IllegalStateException_265⟩
set_option maxRecDepth 100000 in
theorem at_ArithmeticException_273 : ∀ w ∈ vx_atS RX11 273 "java/lang/ArithmeticException" xnames, w ∈ TB ∨ w ∈ NB := at_of (by decide +kernel) (by decide +kernel)
set_option maxRecDepth 100000 in
theorem ot_ArithmeticException_273 : ∀ w ∈ Cond.classLink RX11 269 "java/lang/ArithmeticException" :: Cond.initialized "java/lang/ArithmeticException" :: vx_atS RX11 273 "java/lang/ArithmeticException" xnames, vx_ot w = true := List.all_eq_true.mp (by decide +kernel)
theorem to_271 : TO 269 271 273 "java/lang/ArithmeticException" "the divisor is 0" := ⟨by decide +kernel, by decide +kernel, tb_in 1159 (by decide +kernel) (by decide +kernel), tb_in 79 (by decide +kernel) (by decide +kernel), by decide +kernel, at_ArithmeticException_273, ot_ArithmeticException_273⟩
theorem to_281 : TO 261 281 265 "java/lang/IllegalStateException" "nothing was saved" := ⟨by decide +kernel, by decide +kernel, tb_in 634 (by decide +kernel) (by decide +kernel), tb_in 75 (by decide +kernel) (by decide +kernel), by decide +kernel, at_IllegalStateException_265, ot_IllegalStateException_265⟩
set_option maxRecDepth 100000 in
theorem at_IndexOutOfBoundsException_287 : ∀ w ∈ vx_atS RX11 287 "java/lang/IndexOutOfBoundsException" xnames, w ∈ TB ∨ w ∈ NB := at_of (by decide +kernel) (by decide +kernel)
set_option maxRecDepth 100000 in
theorem ot_IndexOutOfBoundsException_287 : ∀ w ∈ Cond.classLink RX11 283 "java/lang/IndexOutOfBoundsException" :: Cond.initialized "java/lang/IndexOutOfBoundsException" :: vx_atS RX11 287 "java/lang/IndexOutOfBoundsException" xnames, vx_ot w = true := List.all_eq_true.mp (by decide +kernel)
theorem to_285 : TO 283 285 287 "java/lang/IndexOutOfBoundsException" "no such number" := ⟨by decide +kernel, by decide +kernel, tb_in 497 (by decide +kernel) (by decide +kernel), tb_in 71 (by decide +kernel) (by decide +kernel), by decide +kernel, at_IndexOutOfBoundsException_287, ot_IndexOutOfBoundsException_287⟩
theorem to_288 : TO 255 288 259 "java/lang/IllegalArgumentException" "the number of states is out of range" := ⟨by decide +kernel, by decide +kernel, tb_in 513 (by decide +kernel) (by decide +kernel), tb_in 74 (by decide +kernel) (by decide +kernel), by decide +kernel, at_IllegalArgumentException_259, ot_IllegalArgumentException_259⟩
theorem to_290 : TO 255 290 259 "java/lang/IllegalArgumentException" "no such operation" := ⟨by decide +kernel, by decide +kernel, tb_in 513 (by decide +kernel) (by decide +kernel), tb_in 74 (by decide +kernel) (by decide +kernel), by decide +kernel, at_IllegalArgumentException_259, ot_IllegalArgumentException_259⟩
theorem to_292 : TO 255 292 259 "java/lang/IllegalArgumentException" "the length is out of range" := ⟨by decide +kernel, by decide +kernel, tb_in 513 (by decide +kernel) (by decide +kernel), tb_in 74 (by decide +kernel) (by decide +kernel), by decide +kernel, at_IllegalArgumentException_259, ot_IllegalArgumentException_259⟩
theorem to_294 : TO 255 294 259 "java/lang/IllegalArgumentException" "the set contains an atom that does not exist" := ⟨by decide +kernel, by decide +kernel, tb_in 513 (by decide +kernel) (by decide +kernel), tb_in 74 (by decide +kernel) (by decide +kernel), by decide +kernel, at_IllegalArgumentException_259, ot_IllegalArgumentException_259⟩
theorem to_296 : TO 261 296 265 "java/lang/IllegalStateException" "the word would have more than 12 letters" := ⟨by decide +kernel, by decide +kernel, tb_in 634 (by decide +kernel) (by decide +kernel), tb_in 75 (by decide +kernel) (by decide +kernel), by decide +kernel, at_IllegalStateException_265, ot_IllegalStateException_265⟩
theorem to_298 : TO 261 298 265 "java/lang/IllegalStateException" "the result has more than 6 quotients" := ⟨by decide +kernel, by decide +kernel, tb_in 634 (by decide +kernel) (by decide +kernel), tb_in 75 (by decide +kernel) (by decide +kernel), by decide +kernel, at_IllegalStateException_265, ot_IllegalStateException_265⟩
/-- an index that isn't one -/
def badI (p : Int32) (n : Nat) : Prop := p < 0 ∨ nI n ≤ p
theorem ix_cases (p : Int32) {n : Nat} (h : n < 2 ^ 31) : badI p n ∨ ∃ j, j < n ∧ p = nI j := by
  rcases pk_ix p h with h | h | h
  · exact Or.inl (Or.inl h)
  · exact Or.inl (Or.inr h)
  · exact Or.inr h

set_option maxRecDepth 100000 in
theorem k_checkIndex (l : Launch) {S : pv_M} {j m : Nat} (h : j < m) (hm : m < 2 ^ 31) : mt l MX11_checkIndex 106 [.int (nI (j)), .int (nI (m))] S (fun v S' => v = none ∧ S' = S) := by
  refine mt_of (by decide) (Nat.le_of_ble_eq_true rfl) ?_
  intro x hl hR hmL C E
  show GG x 106 0 0 [.int (nI (j)), .int (nI (m))] [] S 0
  refine g_iload_n C dX11_checkIndex_0 rfl ?_
  refine g_if_lt C 9 dX11_checkIndex_1 (by decide) (fun h1 => absurd h1 (nI_pos (by omega))) (fun h1 => ?_)
  refine g_iload_n C dX11_checkIndex_4 rfl ?_
  refine g_iload_n C dX11_checkIndex_5 rfl ?_
  refine n_ic_lt C 20 dX11_checkIndex_6 (fun h6 => ?_) (fun h6 => absurd h6 (by omega))
  exact g_vret C E dX11_checkIndex_20 (by rw [hR]; decide) (by rw [hR]; decide) ⟨rfl, rfl⟩

set_option maxRecDepth 100000 in
theorem t_checkIndex {l : Launch} (hst : l.stackTraces = false) {S : pv_M} {p : Int32} {m : Nat} (h : badI p m) : mth l MX11_checkIndex.th 106 [.int p, .int (nI m)] S "java/lang/IndexOutOfBoundsException" (fun S' => S' = S) := by
  refine mth_of hst (by decide) (Nat.le_of_ble_eq_true rfl) ?_
  intro x hl hR hmL C X
  show GG x 106 0 0 [.int p, .int (nI m)] [] S 0
  refine g_iload_n C dX11_checkIndex_0 rfl ?_
  refine g_if_lt C 9 dX11_checkIndex_1 (by decide) (fun _ => ?_) (fun h1 => ?_)
  · exact g_throwW C X to_285 dX11_checkIndex_9 dX11_checkIndex_12 dX11_checkIndex_13 dX11_checkIndex_16 dX11_checkIndex_19 (by rw [hR]; decide) rfl
  · refine g_iload_n C dX11_checkIndex_4 rfl ?_
    refine g_iload_n C dX11_checkIndex_5 rfl ?_
    refine g_ic_lt C 20 dX11_checkIndex_6 (by decide) (fun h2 => ?_) (fun _ => ?_)
    · exact absurd (h.resolve_left h1) (Int32.not_le.mpr h2)
    · exact g_throwW C X to_285 dX11_checkIndex_9 dX11_checkIndex_12 dX11_checkIndex_13 dX11_checkIndex_16 dX11_checkIndex_19 (by rw [hR]; decide) rfl

set_option maxRecDepth 100000 in
theorem k_checkRegister (l : Launch) {S : pv_M} {j : Nat} (h : j < 3) : mt l MX11_checkRegister 106 [.int (nI (j))] S (fun v S' => v = none ∧ S' = S) := by
  refine mt_of (by decide) (Nat.le_of_ble_eq_true rfl) ?_
  intro x hl hR hmL C E
  show GG x 106 0 0 [.int (nI (j))] [] S 0
  refine g_iload_n C dX11_checkRegister_0 rfl ?_
  refine n_iconst C 3 dX11_checkRegister_1 ?_
  refine g_callS C (k_checkIndex _ h (by decide)) so_X11_140 dX11_checkRegister_2 rfl rfl (rm_ok (M' := MX11_checkRegister) hR (by decide)) (Nat.le_of_ble_eq_true rfl) (fun v9 S9 h9 => ?_)
  obtain ⟨rfl, h9⟩ := h9
  refine g_S S h9 ?_
  refine g_n0 [] rfl rfl rfl ?_
  exact g_vret C E dX11_checkRegister_5 (by rw [hR]; decide) (by rw [hR]; decide) ⟨rfl, rfl⟩

set_option maxRecDepth 100000 in
theorem t_checkRegister {l : Launch} (hst : l.stackTraces = false) {S : pv_M} {p : Int32} (h : badI p 3) : mth l MX11_checkRegister.th 106 [.int p] S "java/lang/IndexOutOfBoundsException" (fun S' => S' = S) := by
  refine mth_of hst (by decide) (Nat.le_of_ble_eq_true rfl) ?_
  intro x hl hR hmL C X
  show GG x 106 0 0 [.int p] [] S 0
  refine g_iload_n C dX11_checkRegister_0 rfl ?_
  refine n_iconst C 3 dX11_checkRegister_1 ?_
  exact g_thrS C X (t_checkIndex (by rw [hl]; exact hst) h) so_X11_140 dX11_checkRegister_2 rfl rfl (rm_ok (M' := MX11_checkRegister.th) hR (by decide)) (Nat.le_of_ble_eq_true rfl) (fun _ h => h)

set_option maxRecDepth 100000 in
theorem k_checkLetter (l : Launch) {S : pv_M} {j : Nat} (h : j < 3) : mt l MX11_checkLetter 106 [.int (nI (j))] S (fun v S' => v = none ∧ S' = S) := by
  refine mt_of (by decide) (Nat.le_of_ble_eq_true rfl) ?_
  intro x hl hR hmL C E
  show GG x 106 0 0 [.int (nI (j))] [] S 0
  refine g_iload_n C dX11_checkLetter_0 rfl ?_
  refine n_iconst C 3 dX11_checkLetter_1 ?_
  refine g_callS C (k_checkIndex _ h (by decide)) so_X11_140 dX11_checkLetter_2 rfl rfl (rm_ok (M' := MX11_checkLetter) hR (by decide)) (Nat.le_of_ble_eq_true rfl) (fun v9 S9 h9 => ?_)
  obtain ⟨rfl, h9⟩ := h9
  refine g_S S h9 ?_
  refine g_n0 [] rfl rfl rfl ?_
  exact g_vret C E dX11_checkLetter_5 (by rw [hR]; decide) (by rw [hR]; decide) ⟨rfl, rfl⟩

set_option maxRecDepth 100000 in
theorem t_checkLetter {l : Launch} (hst : l.stackTraces = false) {S : pv_M} {p : Int32} (h : badI p 3) : mth l MX11_checkLetter.th 106 [.int p] S "java/lang/IndexOutOfBoundsException" (fun S' => S' = S) := by
  refine mth_of hst (by decide) (Nat.le_of_ble_eq_true rfl) ?_
  intro x hl hR hmL C X
  show GG x 106 0 0 [.int p] [] S 0
  refine g_iload_n C dX11_checkLetter_0 rfl ?_
  refine n_iconst C 3 dX11_checkLetter_1 ?_
  exact g_thrS C X (t_checkIndex (by rw [hl]; exact hst) h) so_X11_140 dX11_checkLetter_2 rfl rfl (rm_ok (M' := MX11_checkLetter.th) hR (by decide)) (Nat.le_of_ble_eq_true rfl) (fun _ h => h)

set_option maxRecDepth 100000 in
theorem k_checkStates (l : Launch) {S : pv_M} {j : Nat} (h0 : 0 < j) (h6 : j ≤ 6) : mt l MX11_checkStates 106 [.int (nI (j))] S (fun v S' => v = none ∧ S' = S) := by
  refine mt_of (by decide) (Nat.le_of_ble_eq_true rfl) ?_
  intro x hl hR hmL C E
  show GG x 106 0 0 [.int (nI (j))] [] S 0
  refine g_iload_n C dX11_checkStates_0 rfl ?_
  refine n_iconst C 1 dX11_checkStates_1 ?_
  refine n_ic_lt C 11 dX11_checkStates_2 (fun h2 => absurd h2 (by omega)) (fun h2 => ?_)
  refine g_iload_n C dX11_checkStates_5 rfl ?_
  refine n_bipush C 6 dX11_checkStates_6 ?_
  refine n_ic_le C 22 dX11_checkStates_8 (fun h8 => ?_) (fun h8 => absurd h8 (by omega))
  exact g_vret C E dX11_checkStates_22 (by rw [hR]; decide) (by rw [hR]; decide) ⟨rfl, rfl⟩

set_option maxRecDepth 100000 in
theorem t_checkStates {l : Launch} (hst : l.stackTraces = false) {S : pv_M} {p : Int32} (h : p < nI 1 ∨ nI 6 < p) : mth l MX11_checkStates.th 106 [.int p] S "java/lang/IllegalArgumentException" (fun S' => S' = S) := by
  refine mth_of hst (by decide) (Nat.le_of_ble_eq_true rfl) ?_
  intro x hl hR hmL C X
  show GG x 106 0 0 [.int p] [] S 0
  refine g_iload_n C dX11_checkStates_0 rfl ?_
  refine n_iconst C 1 dX11_checkStates_1 ?_
  refine g_ic_lt C 11 dX11_checkStates_2 (by decide) (fun _ => ?_) (fun h1 => ?_)
  · exact g_throwW C X to_288 dX11_checkStates_11 dX11_checkStates_14 dX11_checkStates_15 dX11_checkStates_18 dX11_checkStates_21 (by rw [hR]; decide) rfl
  · refine g_iload_n C dX11_checkStates_5 rfl ?_
    refine n_bipush C 6 dX11_checkStates_6 ?_
    refine g_ic_le C 22 dX11_checkStates_8 (by decide) (fun h2 => ?_) (fun _ => ?_)
    · exact absurd (h.resolve_left h1) (Int32.not_lt.mpr h2)
    · exact g_throwW C X to_288 dX11_checkStates_11 dX11_checkStates_14 dX11_checkStates_15 dX11_checkStates_18 dX11_checkStates_21 (by rw [hR]; decide) rfl

set_option maxRecDepth 100000 in
theorem k_checkOperation (l : Launch) {S : pv_M} {j : Nat} (h : j < 5) : mt l MX11_checkOperation 106 [.int (nI (j))] S (fun v S' => v = none ∧ S' = S) := by
  refine mt_of (by decide) (Nat.le_of_ble_eq_true rfl) ?_
  intro x hl hR hmL C E
  show GG x 106 0 0 [.int (nI (j))] [] S 0
  refine g_iload_n C dX11_checkOperation_0 rfl ?_
  refine g_if_lt C 9 dX11_checkOperation_1 (by decide) (fun h1 => absurd h1 (nI_pos (by omega))) (fun h1 => ?_)
  refine g_iload_n C dX11_checkOperation_4 rfl ?_
  refine n_iconst C 5 dX11_checkOperation_5 ?_
  refine n_ic_lt C 20 dX11_checkOperation_6 (fun h6 => ?_) (fun h6 => absurd h6 (by omega))
  exact g_vret C E dX11_checkOperation_20 (by rw [hR]; decide) (by rw [hR]; decide) ⟨rfl, rfl⟩

set_option maxRecDepth 100000 in
theorem t_checkOperation {l : Launch} (hst : l.stackTraces = false) {S : pv_M} {p : Int32} (h : badI p 5) : mth l MX11_checkOperation.th 106 [.int p] S "java/lang/IllegalArgumentException" (fun S' => S' = S) := by
  refine mth_of hst (by decide) (Nat.le_of_ble_eq_true rfl) ?_
  intro x hl hR hmL C X
  show GG x 106 0 0 [.int p] [] S 0
  refine g_iload_n C dX11_checkOperation_0 rfl ?_
  refine g_if_lt C 9 dX11_checkOperation_1 (by decide) (fun _ => ?_) (fun h1 => ?_)
  · exact g_throwW C X to_290 dX11_checkOperation_9 dX11_checkOperation_12 dX11_checkOperation_13 dX11_checkOperation_16 dX11_checkOperation_19 (by rw [hR]; decide) rfl
  · refine g_iload_n C dX11_checkOperation_4 rfl ?_
    refine n_iconst C 5 dX11_checkOperation_5 ?_
    refine g_ic_lt C 20 dX11_checkOperation_6 (by decide) (fun h2 => ?_) (fun _ => ?_)
    · exact absurd (h.resolve_left h1) (Int32.not_le.mpr h2)
    · exact g_throwW C X to_290 dX11_checkOperation_9 dX11_checkOperation_12 dX11_checkOperation_13 dX11_checkOperation_16 dX11_checkOperation_19 (by rw [hR]; decide) rfl

set_option maxRecDepth 100000 in
theorem k_checkLength (l : Launch) {S : pv_M} {j : Nat} (h : j < 21) : mt l MX11_checkLength 106 [.int (nI (j))] S (fun v S' => v = none ∧ S' = S) := by
  refine mt_of (by decide) (Nat.le_of_ble_eq_true rfl) ?_
  intro x hl hR hmL C E
  show GG x 106 0 0 [.int (nI (j))] [] S 0
  refine g_iload_n C dX11_checkLength_0 rfl ?_
  refine g_if_lt C 10 dX11_checkLength_1 (by decide) (fun h1 => absurd h1 (nI_pos (by omega))) (fun h1 => ?_)
  refine g_iload_n C dX11_checkLength_4 rfl ?_
  refine n_bipush C 20 dX11_checkLength_5 ?_
  refine n_ic_le C 21 dX11_checkLength_7 (fun h7 => ?_) (fun h7 => absurd h7 (by omega))
  exact g_vret C E dX11_checkLength_21 (by rw [hR]; decide) (by rw [hR]; decide) ⟨rfl, rfl⟩

theorem nI_lt_le {p : Int32} {k : Nat} (hk : k + 1 < 2 ^ 31) (h : nI (k + 1) ≤ p) : ¬ p ≤ nI k := by
  intro h2
  rw [Int32.le_iff_toInt_le] at h h2
  rw [nI_toInt hk] at h
  rw [nI_toInt (by omega)] at h2
  omega

set_option maxRecDepth 100000 in
theorem t_checkLength {l : Launch} (hst : l.stackTraces = false) {S : pv_M} {p : Int32} (h : badI p 21) : mth l MX11_checkLength.th 106 [.int p] S "java/lang/IllegalArgumentException" (fun S' => S' = S) := by
  refine mth_of hst (by decide) (Nat.le_of_ble_eq_true rfl) ?_
  intro x hl hR hmL C X
  show GG x 106 0 0 [.int p] [] S 0
  refine g_iload_n C dX11_checkLength_0 rfl ?_
  refine g_if_lt C 10 dX11_checkLength_1 (by decide) (fun _ => ?_) (fun h1 => ?_)
  · exact g_throwW C X to_292 dX11_checkLength_10 dX11_checkLength_13 dX11_checkLength_14 dX11_checkLength_17 dX11_checkLength_20 (by rw [hR]; decide) rfl
  · refine g_iload_n C dX11_checkLength_4 rfl ?_
    refine n_bipush C 20 dX11_checkLength_5 ?_
    refine g_ic_le C 21 dX11_checkLength_7 (by decide) (fun h2 => ?_) (fun _ => ?_)
    · exact absurd h2 (nI_lt_le (by decide) (h.resolve_left h1))
    · exact g_throwW C X to_292 dX11_checkLength_10 dX11_checkLength_13 dX11_checkLength_14 dX11_checkLength_17 dX11_checkLength_20 (by rw [hR]; decide) rfl

set_option maxRecDepth 100000 in
theorem k_checkWordLength (l : Launch) {S : pv_M} {j : Nat} (h : j ≤ 12) : mt l MX11_checkWordLength 106 [.int (nI (j))] S (fun v S' => v = none ∧ S' = S) := by
  refine mt_of (by decide) (Nat.le_of_ble_eq_true rfl) ?_
  intro x hl hR hmL C E
  show GG x 106 0 0 [.int (nI (j))] [] S 0
  refine g_iload_n C dX11_checkWordLength_0 rfl ?_
  refine n_bipush C 12 dX11_checkWordLength_1 ?_
  refine n_ic_le C 17 dX11_checkWordLength_3 (fun h3 => ?_) (fun h3 => absurd h3 (by omega))
  exact g_vret C E dX11_checkWordLength_17 (by rw [hR]; decide) (by rw [hR]; decide) ⟨rfl, rfl⟩

set_option maxRecDepth 100000 in
theorem t_checkWordLength {l : Launch} (hst : l.stackTraces = false) {S : pv_M} {j : Nat} (h : 12 < j) (h2 : j < 2 ^ 31) : mth l MX11_checkWordLength.th 106 [.int (nI j)] S "java/lang/IllegalStateException" (fun S' => S' = S) := by
  refine mth_of hst (by decide) (Nat.le_of_ble_eq_true rfl) ?_
  intro x hl hR hmL C X
  show GG x 106 0 0 [.int (nI j)] [] S 0
  refine g_iload_n C dX11_checkWordLength_0 rfl ?_
  refine n_bipush C 12 dX11_checkWordLength_1 ?_
  refine n_ic_le C 17 dX11_checkWordLength_3 (fun h3 => absurd h3 (by omega)) (fun _ => ?_)
  exact g_throwW C X to_296 dX11_checkWordLength_6 dX11_checkWordLength_9 dX11_checkWordLength_10 dX11_checkWordLength_13 dX11_checkWordLength_16 (by rw [hR]; decide) rfl

set_option maxRecDepth 100000 in
theorem k_checkResult (l : Launch) {S : pv_M} {j : Nat} (h : j ≤ 6) : mt l MX11_checkResult 106 [.int (nI (j))] S (fun v S' => v = none ∧ S' = S) := by
  refine mt_of (by decide) (Nat.le_of_ble_eq_true rfl) ?_
  intro x hl hR hmL C E
  show GG x 106 0 0 [.int (nI (j))] [] S 0
  refine g_iload_n C dX11_checkResult_0 rfl ?_
  refine n_bipush C 6 dX11_checkResult_1 ?_
  refine n_ic_le C 17 dX11_checkResult_3 (fun h3 => ?_) (fun h3 => absurd h3 (by omega))
  exact g_vret C E dX11_checkResult_17 (by rw [hR]; decide) (by rw [hR]; decide) ⟨rfl, rfl⟩

set_option maxRecDepth 100000 in
theorem t_checkResult {l : Launch} (hst : l.stackTraces = false) {S : pv_M} {j : Nat} (h : 6 < j) (h2 : j < 2 ^ 31) : mth l MX11_checkResult.th 106 [.int (nI j)] S "java/lang/IllegalStateException" (fun S' => S' = S) := by
  refine mth_of hst (by decide) (Nat.le_of_ble_eq_true rfl) ?_
  intro x hl hR hmL C X
  show GG x 106 0 0 [.int (nI j)] [] S 0
  refine g_iload_n C dX11_checkResult_0 rfl ?_
  refine n_bipush C 6 dX11_checkResult_1 ?_
  refine n_ic_le C 17 dX11_checkResult_3 (fun h3 => absurd h3 (by omega)) (fun _ => ?_)
  exact g_throwW C X to_298 dX11_checkResult_6 dX11_checkResult_9 dX11_checkResult_10 dX11_checkResult_13 dX11_checkResult_16 (by rw [hR]; decide) rfl
