/-! the constructors -/
def pI (S : pv_M) (r k : Nat) (a : Int32) : pv_M := wI S r (va_up (mI S r) k a)
def pJ (S : pv_M) (r k : Nat) (a : Int64) : pv_M := wJ S r (va_up (mJ S r) k a)
def pR (S : pv_M) (r k q : Nat) : pv_M := wR S r (va_up (mR S r) k (some q))
theorem rl_i {N i : Nat} (h : i < N) : rlt N (.ref i) := h
theorem zf_pI {N : Nat} {S : pv_M} (r k : Nat) (a : Int32) (hr : r < N) (h : ZF N S) : ZF N (pI S r k a) := zf_wI hr h
theorem zf_pJ {N : Nat} {S : pv_M} (r k : Nat) (a : Int64) (hr : r < N) (h : ZF N S) : ZF N (pJ S r k a) := zf_wJ hr h
theorem zf_pR {N : Nat} {S : pv_M} (r k q : Nat) (hr : r < N) (h : ZF N S) : ZF N (pR S r k q) := zf_wR hr h
section PP
variable {x : Cx} {cc : ByteArray} {own : String} {N cs sl : Nat} {lv st : List Value} {S : pv_M} {pc : Nat}
theorem p_putI (C : BX x cc own) {idx ci kk r : Nat} (F : FO own idx ci kk false) {a : Int32} (d : decode cc pc = .ok (.putfield idx, 3)) (hs : pv_sh r = .inl ci) (hr : r < N) (ht : pv_ft ci kk = .int) (k : GG x N cs sl lv st (pI S r kk a) (pc + 3)) : GG x N cs sl lv (.int a :: .ref r :: st) S pc := g_putI C F d hs hr ht k
theorem p_putZ (C : BX x cc own) {idx ci kk r : Nat} (F : FO own idx ci kk false) {a : Int32} (d : decode cc pc = .ok (.putfield idx, 3)) (hs : pv_sh r = .inl ci) (hr : r < N) (ht : pv_ft ci kk = .boolean) (ha : a = 0 ∨ a = 1) (k : GG x N cs sl lv st (pI S r kk a) (pc + 3)) : GG x N cs sl lv (.int a :: .ref r :: st) S pc := g_putZ C F d hs hr ht ha k
theorem p_putJ (C : BX x cc own) {idx ci kk r : Nat} (F : FO own idx ci kk false) {a : Int64} (d : decode cc pc = .ok (.putfield idx, 3)) (hs : pv_sh r = .inl ci) (hr : r < N) (ht : pv_ft ci kk = .long) (k : GG x N cs sl lv st (pJ S r kk a) (pc + 3)) : GG x N cs sl lv (.long a :: .ref r :: st) S pc := g_putJ C F d hs hr ht k
theorem p_putR (C : BX x cc own) {idx ci kk r q : Nat} (F : FO own idx ci kk false) (d : decode cc pc = .ok (.putfield idx, 3)) (hs : pv_sh r = .inl ci) (hr : r < N) (hq : q < N) (ht : (∃ cn, pv_ft ci kk = .object cn) ∨ ∃ ty, pv_ft ci kk = .array ty) (k : GG x N cs sl lv st (pR S r kk q) (pc + 3)) : GG x N cs sl lv (.ref q :: .ref r :: st) S pc := g_putR C F d hs hr hq ht k
theorem p_putF (C : BX x cc own) (hin : x.2.2.1.1.name = "<init>") {idx ci kk r q : Nat} (F : FF own idx ci kk) (d : decode cc pc = .ok (.putfield idx, 3)) (hs : pv_sh r = .inl ci) (hr : r < N) (hq : q < N) (ht : (∃ cn, pv_ft ci kk = .object cn) ∨ ∃ ty, pv_ft ci kk = .array ty) (k : GG x N cs sl lv st (pR S r kk q) (pc + 3)) : GG x N cs sl lv (.ref q :: .ref r :: st) S pc := g_putRF C hin F d hs hr hq ht k
theorem p_iast (C : BX x cc own) {r n j : Nat} {a : Int32} (d : decode cc pc = .ok (.iastore, 1)) (hs : pv_sh r = .inr (0, n)) (hr : r < N) (hj : j < n) (k : GG x N cs sl lv st (pI S r j a) (pc + 1)) : GG x N cs sl lv (.int a :: .int (nI j) :: .ref r :: st) S pc := g_iast C d hs hr hj rfl k
theorem p_aast (C : BX x cc own) {r n j t ci v : Nat} {q : vw_C} (d : decode cc pc = .ok (.aastore, 1)) (hq : pv_cl[ci]? = some q) (ht : (pv_tys (xy x))[t]? = some (xy x t, .object q.1)) (ht5 : t = 5 ∨ t = 6) (hs : pv_sh r = .inr (t, n)) (hr : r < N) (hv : v < N) (hsv : pv_sh v = .inl ci) (hj : j < n) (k : GG x N cs sl lv st (pR S r j v) (pc + 1)) : GG x N cs sl lv (.ref v :: .int (nI j) :: .ref r :: st) S pc := g_aast C d hq ht ht5 hs hr hv hsv hj k
end PP
theorem aw_I : Cond.arrayClass .int ∈ TB := tb_in 111 (by decide +kernel) (by decide +kernel)
theorem aw_J : Cond.arrayClass .long ∈ TB := tb_in 228 (by decide +kernel) (by decide +kernel)
theorem aw_F : Cond.arrayClass .float ∈ TB := tb_in 226 (by decide +kernel) (by decide +kernel)
theorem aw_D : Cond.arrayClass .double ∈ TB := tb_in 227 (by decide +kernel) (by decide +kernel)
theorem aw_Z : Cond.arrayClass .boolean ∈ TB := tb_in 288 (by decide +kernel) (by decide +kernel)
theorem oi_1 : Cond.instanceMethod Lib.objectInit ∈ TB := tb_in 86 (by decide +kernel) (by decide +kernel)
theorem oi_2 : Cond.code Lib.objectInit ⟨#[0xb1]⟩ 1 none ∈ TB := tb_in 87 (by decide +kernel) (by decide +kernel)
theorem oi_X4_1 : Cond.methodLink RX4 1 Lib.objectInit ∈ TB := tb_in 122 (by decide +kernel) (by decide +kernel)
abbrev NX4 : Me := (yX4_init, cX4_init, 1, none, { frames := 1, cells := 0, slots := 0, locals := 40 })
set_option maxRecDepth 100000 in
theorem i_X4 (l : Launch) {S : pv_M} {r N : Nat} (hr : r < N) (hz : ZF N S) : mtI l NX4 N (N) [.ref r] S (fun S' => S' = S ∧ ZF N S') := by
  refine mtI_of (by decide) (Nat.le_of_ble_eq_true rfl) rfl ?_
  intro x hl hR hmL hxN hin C E
  show GG x N 0 0 [.ref r] [] S 0
  replace hin : x.2.2.1.1.name = "<init>" := hin
  refine g_aload_n C dX4_init_0 rfl ?_
  refine g_oi C oi_X4_1 oi_1 oi_2 dX4_init_1 (by rw [hR]; decide) (by rw [hR]; decide) ?_
  exact g_vretN C E dX4_init_4 (by rw [hR]; decide) (by rw [hR]; decide) ⟨rfl, hz⟩

theorem oi_X10_3 : Cond.methodLink RX10 3 Lib.objectInit ∈ TB := tb_in 95 (by decide +kernel) (by decide +kernel)
theorem ff_X10_15 : FF RX10 15 9 1 := ⟨_, ko_X10, by decide, tb_in 101 (by decide +kernel) (by decide +kernel), rfl, rfl⟩
abbrev NX10 : Me := (yX10_init, cX10_init, 1, none, { frames := 1, cells := 1, slots := 12, locals := 40 })
def sX10 (S : pv_M) (r N : Nat) : pv_M := (pR (pI S (r) 0 (nI 0)) (r) 1 (N))
set_option maxRecDepth 100000 in
theorem i_X10 (l : Launch) {S : pv_M} {r N : Nat} (hr : r < N) (hs : pv_sh r = .inl 9) (h0 : pv_sh (N) = .inr (0, 12)) (hz : ZF N S) : mtI l NX10 N (N + 1) [.ref r] S (fun S' => S' = sX10 S r N ∧ ZF (N + 1) S') := by
  refine mtI_of (by decide) (Nat.le_of_ble_eq_true rfl) rfl ?_
  intro x hl hR hmL hxN hin C E
  show GG x N 0 0 [.ref r] [] S 0
  replace hin : x.2.2.1.1.name = "<init>" := hin
  refine g_aload_n C dX10_init_0 rfl ?_
  refine g_oi C oi_X10_3 oi_1 oi_2 dX10_init_1 (by rw [hR]; decide) (by rw [hR]; decide) ?_
  refine g_aload_n C dX10_init_4 rfl ?_
  refine n_iconst C 0 dX10_init_5 ?_
  refine p_putI C fo_X10_9 dX10_init_6 hs (by omega) rfl ?_
  have hz1 := zf_pI (r) 0 (nI 0) (by omega) hz
  refine g_aload_n C dX10_init_9 rfl ?_
  refine n_bipush C 12 dX10_init_10 ?_
  refine g_newI C aw_I dX10_init_12 (by decide) h0 (by rw [hxN]; omega) hz1 ⟨(rl_i (by omega)), trivial⟩ ⟨(rl_i (by omega)), trivial⟩ (by rw [hR]; decide) (by rw [hR]; decide) ?_
  have hz2 := hz1.up
  refine p_putF C hin ff_X10_15 dX10_init_14 hs (by omega) (by omega) (Or.inr ⟨_, rfl⟩) ?_
  have hz3 := zf_pR (r) 1 (N) (by omega) hz2
  exact g_vretN C E dX10_init_17 (by rw [hR]; decide) (by rw [hR]; decide) ⟨rfl, hz3⟩

theorem io_X1_3 : IO RX1 3 NX4 0 := ⟨Or.inr ⟨_, nb_in (w := .methodLinkNest _ _ _ "LanguageAtoms") 128 (by decide +kernel) rfl⟩, tb_all _ [120, 57, 121] (by decide +kernel) (by decide +kernel), rfl, rfl, by decide +kernel⟩
theorem ff_X1_15 : FF RX1 15 1 1 := ⟨_, ko_X1, by decide, tb_in 134 (by decide +kernel) (by decide +kernel), rfl, rfl⟩
abbrev NX1 : Me := (yX1_init, cX1_init, 1, none, { frames := 2, cells := 1, slots := 18, locals := 60 })
def sX1 (S : pv_M) (r N : Nat) : pv_M := (pI (pR (pI S (r) 0 (nI 1)) (r) 1 (N)) (r) 2 (nI 0))
set_option maxRecDepth 100000 in
theorem i_X1 (l : Launch) {S : pv_M} {r N : Nat} (hr : r < N) (hs : pv_sh r = .inl 1) (h0 : pv_sh (N) = .inr (0, 18)) (hz : ZF N S) : mtI l NX1 N (N + 1) [.ref r] S (fun S' => S' = sX1 S r N ∧ ZF (N + 1) S') := by
  refine mtI_of (by decide) (Nat.le_of_ble_eq_true rfl) rfl ?_
  intro x hl hR hmL hxN hin C E
  show GG x N 0 0 [.ref r] [] S 0
  replace hin : x.2.2.1.1.name = "<init>" := hin
  refine g_aload_n C dX1_init_0 rfl ?_
  refine g_callI C (As := []) (i_X4 x.1.2.1 (r := r) (N := N) (by omega) hz) io_X1_3 dX1_init_1 rfl (by rw [hxN]; omega) ⟨(rl_i (by omega)), trivial⟩ trivial rfl (rm_ok (M' := NX1) hR (by decide)) (Nat.le_of_ble_eq_true rfl) (fun S9 h9 => ?_)
  obtain ⟨h9, hz9⟩ := h9
  subst h9
  have hz1 := hz9
  clear hz9
  refine g_aload_n C dX1_init_4 rfl ?_
  refine n_iconst C 1 dX1_init_5 ?_
  refine p_putI C fo_X1_9 dX1_init_6 hs (by omega) rfl ?_
  have hz2 := zf_pI (r) 0 (nI 1) (by omega) hz1
  refine g_aload_n C dX1_init_9 rfl ?_
  refine n_bipush C 18 dX1_init_10 ?_
  refine g_newI C aw_I dX1_init_12 (by decide) h0 (by rw [hxN]; omega) hz2 ⟨(rl_i (by omega)), trivial⟩ ⟨(rl_i (by omega)), trivial⟩ (by rw [hR]; decide) (by rw [hR]; decide) ?_
  have hz3 := hz2.up
  refine p_putF C hin ff_X1_15 dX1_init_14 hs (by omega) (by omega) (Or.inr ⟨_, rfl⟩) ?_
  have hz4 := zf_pR (r) 1 (N) (by omega) hz3
  refine g_aload_n C dX1_init_17 rfl ?_
  refine n_iconst C 0 dX1_init_18 ?_
  refine p_putI C fo_X1_19 dX1_init_19 hs (by omega) rfl ?_
  have hz5 := zf_pI (r) 2 (nI 0) (by omega) hz4
  exact g_vretN C E dX1_init_22 (by rw [hR]; decide) (by rw [hR]; decide) ⟨rfl, hz5⟩

theorem oi_X8_3 : Cond.methodLink RX8 3 Lib.objectInit ∈ TB := tb_in 169 (by decide +kernel) (by decide +kernel)
theorem ff_X8_9 : FF RX8 9 7 0 := ⟨_, ko_X8, by decide, tb_in 170 (by decide +kernel) (by decide +kernel), rfl, rfl⟩
abbrev NX8 : Me := (yX8_init, cX8_init, 1, none, { frames := 1, cells := 1, slots := 192, locals := 40 })
def sX8 (S : pv_M) (r N : Nat) : pv_M := (pR S (r) 0 (N))
set_option maxRecDepth 100000 in
theorem i_X8 (l : Launch) {S : pv_M} {r N : Nat} (hr : r < N) (hs : pv_sh r = .inl 7) (h0 : pv_sh (N) = .inr (0, 192)) (hz : ZF N S) : mtI l NX8 N (N + 1) [.ref r] S (fun S' => S' = sX8 S r N ∧ ZF (N + 1) S') := by
  refine mtI_of (by decide) (Nat.le_of_ble_eq_true rfl) rfl ?_
  intro x hl hR hmL hxN hin C E
  show GG x N 0 0 [.ref r] [] S 0
  replace hin : x.2.2.1.1.name = "<init>" := hin
  refine g_aload_n C dX8_init_0 rfl ?_
  refine g_oi C oi_X8_3 oi_1 oi_2 dX8_init_1 (by rw [hR]; decide) (by rw [hR]; decide) ?_
  refine g_aload_n C dX8_init_4 rfl ?_
  refine n_sipush C 192 dX8_init_5 ?_
  refine g_newI C aw_I dX8_init_8 (by decide) h0 (by rw [hxN]; omega) hz ⟨(rl_i (by omega)), trivial⟩ ⟨(rl_i (by omega)), trivial⟩ (by rw [hR]; decide) (by rw [hR]; decide) ?_
  have hz1 := hz.up
  refine p_putF C hin ff_X8_9 dX8_init_10 hs (by omega) (by omega) (Or.inr ⟨_, rfl⟩) ?_
  have hz2 := zf_pR (r) 0 (N) (by omega) hz1
  exact g_vretN C E dX8_init_13 (by rw [hR]; decide) (by rw [hR]; decide) ⟨rfl, hz2⟩

theorem oi_X7_3 : Cond.methodLink RX7 3 Lib.objectInit ∈ TB := tb_in 204 (by decide +kernel) (by decide +kernel)
theorem ff_X7_19 : FF RX7 19 6 2 := ⟨_, ko_X7, by decide, tb_in 208 (by decide +kernel) (by decide +kernel), rfl, rfl⟩
theorem ff_X7_23 : FF RX7 23 6 3 := ⟨_, ko_X7, by decide, tb_in 209 (by decide +kernel) (by decide +kernel), rfl, rfl⟩
abbrev NX7 : Me := (yX7_init, cX7_init, 1, none, { frames := 1, cells := 4, slots := 54, locals := 40 })
def sX7 (S : pv_M) (r N : Nat) : pv_M := (pR (pR (pR (pR (pI (pI S (r) 0 (nI 0)) (r) 1 (nI 0)) (r) 2 (N)) (r) 3 (N + 1)) (r) 4 (N + 1 + 1)) (r) 5 (N + 1 + 1 + 1))
set_option maxRecDepth 100000 in
theorem i_X7 (l : Launch) {S : pv_M} {r N : Nat} (hr : r < N) (hs : pv_sh r = .inl 6) (h0 : pv_sh (N) = .inr (2, 21)) (h1 : pv_sh (N + 1) = .inr (3, 21)) (h2 : pv_sh (N + 1 + 1) = .inr (1, 6)) (h3 : pv_sh (N + 1 + 1 + 1) = .inr (1, 6)) (hz : ZF N S) : mtI l NX7 N (N + 1 + 1 + 1 + 1) [.ref r] S (fun S' => S' = sX7 S r N ∧ ZF (N + 1 + 1 + 1 + 1) S') := by
  refine mtI_of (by decide) (Nat.le_of_ble_eq_true rfl) rfl ?_
  intro x hl hR hmL hxN hin C E
  show GG x N 0 0 [.ref r] [] S 0
  replace hin : x.2.2.1.1.name = "<init>" := hin
  refine g_aload_n C dX7_init_0 rfl ?_
  refine g_oi C oi_X7_3 oi_1 oi_2 dX7_init_1 (by rw [hR]; decide) (by rw [hR]; decide) ?_
  refine g_aload_n C dX7_init_4 rfl ?_
  refine n_iconst C 0 dX7_init_5 ?_
  refine p_putZ C fo_X7_9 dX7_init_6 hs (by omega) rfl (Or.inl rfl) ?_
  have hz1 := zf_pI (r) 0 (nI 0) (by omega) hz
  refine g_aload_n C dX7_init_9 rfl ?_
  refine n_iconst C 0 dX7_init_10 ?_
  refine p_putI C fo_X7_15 dX7_init_11 hs (by omega) rfl ?_
  have hz2 := zf_pI (r) 1 (nI 0) (by omega) hz1
  refine g_aload_n C dX7_init_14 rfl ?_
  refine n_bipush C 21 dX7_init_15 ?_
  refine g_newF C aw_F dX7_init_17 (by decide) h0 (by rw [hxN]; omega) hz2 ⟨(rl_i (by omega)), trivial⟩ ⟨(rl_i (by omega)), trivial⟩ (by rw [hR]; decide) (by rw [hR]; decide) ?_
  have hz3 := hz2.up
  refine p_putF C hin ff_X7_19 dX7_init_19 hs (by omega) (by omega) (Or.inr ⟨_, rfl⟩) ?_
  have hz4 := zf_pR (r) 2 (N) (by omega) hz3
  refine g_aload_n C dX7_init_22 rfl ?_
  refine n_bipush C 21 dX7_init_23 ?_
  refine g_newD C aw_D dX7_init_25 (by decide) h1 (by rw [hxN]; omega) hz4 ⟨(rl_i (by omega)), trivial⟩ ⟨(rl_i (by omega)), trivial⟩ (by rw [hR]; decide) (by rw [hR]; decide) ?_
  have hz5 := hz4.up
  refine p_putF C hin ff_X7_23 dX7_init_27 hs (by omega) (by omega) (Or.inr ⟨_, rfl⟩) ?_
  have hz6 := zf_pR (r) 3 (N + 1) (by omega) hz5
  refine g_aload_n C dX7_init_30 rfl ?_
  refine n_bipush C 6 dX7_init_31 ?_
  refine g_newJ C aw_J dX7_init_33 (by decide) h2 (by rw [hxN]; omega) hz6 ⟨(rl_i (by omega)), trivial⟩ ⟨(rl_i (by omega)), trivial⟩ (by rw [hR]; decide) (by rw [hR]; decide) ?_
  have hz7 := hz6.up
  refine p_putR C fo_X7_27 dX7_init_35 hs (by omega) (by omega) (Or.inr ⟨_, rfl⟩) ?_
  have hz8 := zf_pR (r) 4 (N + 1 + 1) (by omega) hz7
  refine g_aload_n C dX7_init_38 rfl ?_
  refine n_bipush C 6 dX7_init_39 ?_
  refine g_newJ C aw_J dX7_init_41 (by decide) h3 (by rw [hxN]; omega) hz8 ⟨(rl_i (by omega)), trivial⟩ ⟨(rl_i (by omega)), trivial⟩ (by rw [hR]; decide) (by rw [hR]; decide) ?_
  have hz9 := hz8.up
  refine p_putR C fo_X7_31 dX7_init_43 hs (by omega) (by omega) (Or.inr ⟨_, rfl⟩) ?_
  have hz10 := zf_pR (r) 5 (N + 1 + 1 + 1) (by omega) hz9
  exact g_vretN C E dX7_init_46 (by rw [hR]; decide) (by rw [hR]; decide) ⟨rfl, hz10⟩

theorem oi_X3_3 : Cond.methodLink RX3 3 Lib.objectInit ∈ TB := tb_in 234 (by decide +kernel) (by decide +kernel)
theorem ff_X3_15 : FF RX3 15 3 1 := ⟨_, ko_X3, by decide, tb_in 238 (by decide +kernel) (by decide +kernel), rfl, rfl⟩
theorem ff_X3_19 : FF RX3 19 3 2 := ⟨_, ko_X3, by decide, tb_in 240 (by decide +kernel) (by decide +kernel), rfl, rfl⟩
abbrev NX3 : Me := (yX3_init, cX3_init, 1, none, { frames := 1, cells := 2, slots := 1754, locals := 40 })
def sX3 (S : pv_M) (r N : Nat) : pv_M := (pI (pR (pR (pI S (r) 0 (nI 0)) (r) 1 (N)) (r) 2 (N + 1)) (r) 3 (nI 15))
set_option maxRecDepth 100000 in
theorem i_X3 (l : Launch) {S : pv_M} {r N : Nat} (hr : r < N) (hs : pv_sh r = .inl 3) (h0 : pv_sh (N) = .inr (1, 730)) (h1 : pv_sh (N + 1) = .inr (0, 1024)) (hz : ZF N S) : mtI l NX3 N (N + 1 + 1) [.ref r] S (fun S' => S' = sX3 S r N ∧ ZF (N + 1 + 1) S') := by
  refine mtI_of (by decide) (Nat.le_of_ble_eq_true rfl) rfl ?_
  intro x hl hR hmL hxN hin C E
  show GG x N 0 0 [.ref r] [] S 0
  replace hin : x.2.2.1.1.name = "<init>" := hin
  refine g_aload_n C dX3_init_0 rfl ?_
  refine g_oi C oi_X3_3 oi_1 oi_2 dX3_init_1 (by rw [hR]; decide) (by rw [hR]; decide) ?_
  refine g_aload_n C dX3_init_4 rfl ?_
  refine n_iconst C 0 dX3_init_5 ?_
  refine p_putI C fo_X3_9 dX3_init_6 hs (by omega) rfl ?_
  have hz1 := zf_pI (r) 0 (nI 0) (by omega) hz
  refine g_aload_n C dX3_init_9 rfl ?_
  refine n_sipush C 730 dX3_init_10 ?_
  refine g_newJ C aw_J dX3_init_13 (by decide) h0 (by rw [hxN]; omega) hz1 ⟨(rl_i (by omega)), trivial⟩ ⟨(rl_i (by omega)), trivial⟩ (by rw [hR]; decide) (by rw [hR]; decide) ?_
  have hz2 := hz1.up
  refine p_putF C hin ff_X3_15 dX3_init_15 hs (by omega) (by omega) (Or.inr ⟨_, rfl⟩) ?_
  have hz3 := zf_pR (r) 1 (N) (by omega) hz2
  refine g_aload_n C dX3_init_18 rfl ?_
  refine n_sipush C 1024 dX3_init_19 ?_
  refine g_newI C aw_I dX3_init_22 (by decide) h1 (by rw [hxN]; omega) hz3 ⟨(rl_i (by omega)), trivial⟩ ⟨(rl_i (by omega)), trivial⟩ (by rw [hR]; decide) (by rw [hR]; decide) ?_
  have hz4 := hz3.up
  refine p_putF C hin ff_X3_19 dX3_init_24 hs (by omega) (by omega) (Or.inr ⟨_, rfl⟩) ?_
  have hz5 := zf_pR (r) 2 (N + 1) (by omega) hz4
  refine g_aload_n C dX3_init_27 rfl ?_
  refine n_bipush C 15 dX3_init_28 ?_
  refine p_putI C fo_X3_23 dX3_init_30 hs (by omega) rfl ?_
  have hz6 := zf_pI (r) 3 (nI 15) (by omega) hz5
  exact g_vretN C E dX3_init_33 (by rw [hR]; decide) (by rw [hR]; decide) ⟨rfl, hz6⟩

theorem oi_X5_3 : Cond.methodLink RX5 3 Lib.objectInit ∈ TB := tb_in 256 (by decide +kernel) (by decide +kernel)
theorem ff_X5_15 : FF RX5 15 4 2 := ⟨_, ko_X5, by decide, tb_in 259 (by decide +kernel) (by decide +kernel), rfl, rfl⟩
theorem ff_X5_19 : FF RX5 19 4 3 := ⟨_, ko_X5, by decide, tb_in 260 (by decide +kernel) (by decide +kernel), rfl, rfl⟩
theorem ff_X5_22 : FF RX5 22 4 4 := ⟨_, ko_X5, by decide, tb_in 261 (by decide +kernel) (by decide +kernel), rfl, rfl⟩
theorem ff_X5_25 : FF RX5 25 4 5 := ⟨_, ko_X5, by decide, tb_in 262 (by decide +kernel) (by decide +kernel), rfl, rfl⟩
theorem ff_X5_28 : FF RX5 28 4 6 := ⟨_, ko_X5, by decide, tb_in 263 (by decide +kernel) (by decide +kernel), rfl, rfl⟩
theorem ff_X5_41 : FF RX5 41 4 0 := ⟨_, ko_X5, by decide, tb_in 257 (by decide +kernel) (by decide +kernel), rfl, rfl⟩
abbrev NX5 : Me := (yX5_init, cX5_init, 2, none, { frames := 1, cells := 7, slots := 3456, locals := 40 })
def sX5 (S : pv_M) (r N : Nat) (kt : Nat) : pv_M := (pR (pR (pR (pI (pR (pR (pR (pR (pR (pI S (r) 1 (nI 0)) (r) 2 (N)) (r) 3 (N + 1)) (r) 4 (N + 1 + 1)) (r) 5 (N + 1 + 1 + 1)) (r) 6 (N + 1 + 1 + 1 + 1)) (r) 7 (nI 0)) (r) 8 (N + 1 + 1 + 1 + 1 + 1)) (r) 9 (N + 1 + 1 + 1 + 1 + 1 + 1)) (r) 0 (kt))
set_option maxRecDepth 100000 in
theorem i_X5 (l : Launch) {S : pv_M} {r N : Nat} (hr : r < N) (hs : pv_sh r = .inl 4) {kt : Nat} (hkt : kt < N) (h0 : pv_sh (N) = .inr (0, 384)) (h1 : pv_sh (N + 1) = .inr (0, 384)) (h2 : pv_sh (N + 1 + 1) = .inr (0, 1152)) (h3 : pv_sh (N + 1 + 1 + 1) = .inr (0, 384)) (h4 : pv_sh (N + 1 + 1 + 1 + 1) = .inr (4, 384)) (h5 : pv_sh (N + 1 + 1 + 1 + 1 + 1) = .inr (0, 384)) (h6 : pv_sh (N + 1 + 1 + 1 + 1 + 1 + 1) = .inr (0, 384)) (hz : ZF N S) : mtI l NX5 N (N + 1 + 1 + 1 + 1 + 1 + 1 + 1) [.ref r, .ref kt] S (fun S' => S' = sX5 S r N kt ∧ ZF (N + 1 + 1 + 1 + 1 + 1 + 1 + 1) S') := by
  refine mtI_of (by decide) (Nat.le_of_ble_eq_true rfl) rfl ?_
  intro x hl hR hmL hxN hin C E
  show GG x N 0 0 [.ref r, .ref kt] [] S 0
  replace hin : x.2.2.1.1.name = "<init>" := hin
  refine g_aload_n C dX5_init_0 rfl ?_
  refine g_oi C oi_X5_3 oi_1 oi_2 dX5_init_1 (by rw [hR]; decide) (by rw [hR]; decide) ?_
  refine g_aload_n C dX5_init_4 rfl ?_
  refine n_iconst C 0 dX5_init_5 ?_
  refine p_putI C fo_X5_9 dX5_init_6 hs (by omega) rfl ?_
  have hz1 := zf_pI (r) 1 (nI 0) (by omega) hz
  refine g_aload_n C dX5_init_9 rfl ?_
  refine n_sipush C 384 dX5_init_10 ?_
  refine g_newI C aw_I dX5_init_13 (by decide) h0 (by rw [hxN]; omega) hz1 ⟨(rl_i (by omega)), (rl_i (by omega)), trivial⟩ ⟨(rl_i (by omega)), trivial⟩ (by rw [hR]; decide) (by rw [hR]; decide) ?_
  have hz2 := hz1.up
  refine p_putF C hin ff_X5_15 dX5_init_15 hs (by omega) (by omega) (Or.inr ⟨_, rfl⟩) ?_
  have hz3 := zf_pR (r) 2 (N) (by omega) hz2
  refine g_aload_n C dX5_init_18 rfl ?_
  refine n_sipush C 384 dX5_init_19 ?_
  refine g_newI C aw_I dX5_init_22 (by decide) h1 (by rw [hxN]; omega) hz3 ⟨(rl_i (by omega)), (rl_i (by omega)), trivial⟩ ⟨(rl_i (by omega)), trivial⟩ (by rw [hR]; decide) (by rw [hR]; decide) ?_
  have hz4 := hz3.up
  refine p_putF C hin ff_X5_19 dX5_init_24 hs (by omega) (by omega) (Or.inr ⟨_, rfl⟩) ?_
  have hz5 := zf_pR (r) 3 (N + 1) (by omega) hz4
  refine g_aload_n C dX5_init_27 rfl ?_
  refine n_sipush C 1152 dX5_init_28 ?_
  refine g_newI C aw_I dX5_init_31 (by decide) h2 (by rw [hxN]; omega) hz5 ⟨(rl_i (by omega)), (rl_i (by omega)), trivial⟩ ⟨(rl_i (by omega)), trivial⟩ (by rw [hR]; decide) (by rw [hR]; decide) ?_
  have hz6 := hz5.up
  refine p_putF C hin ff_X5_22 dX5_init_33 hs (by omega) (by omega) (Or.inr ⟨_, rfl⟩) ?_
  have hz7 := zf_pR (r) 4 (N + 1 + 1) (by omega) hz6
  refine g_aload_n C dX5_init_36 rfl ?_
  refine n_sipush C 384 dX5_init_37 ?_
  refine g_newI C aw_I dX5_init_40 (by decide) h3 (by rw [hxN]; omega) hz7 ⟨(rl_i (by omega)), (rl_i (by omega)), trivial⟩ ⟨(rl_i (by omega)), trivial⟩ (by rw [hR]; decide) (by rw [hR]; decide) ?_
  have hz8 := hz7.up
  refine p_putF C hin ff_X5_25 dX5_init_42 hs (by omega) (by omega) (Or.inr ⟨_, rfl⟩) ?_
  have hz9 := zf_pR (r) 5 (N + 1 + 1 + 1) (by omega) hz8
  refine g_aload_n C dX5_init_45 rfl ?_
  refine n_sipush C 384 dX5_init_46 ?_
  refine g_newZ C aw_Z dX5_init_49 (by decide) h4 (by rw [hxN]; omega) hz9 ⟨(rl_i (by omega)), (rl_i (by omega)), trivial⟩ ⟨(rl_i (by omega)), trivial⟩ (by rw [hR]; decide) (by rw [hR]; decide) ?_
  have hz10 := hz9.up
  refine p_putF C hin ff_X5_28 dX5_init_51 hs (by omega) (by omega) (Or.inr ⟨_, rfl⟩) ?_
  have hz11 := zf_pR (r) 6 (N + 1 + 1 + 1 + 1) (by omega) hz10
  refine g_aload_n C dX5_init_54 rfl ?_
  refine n_iconst C 0 dX5_init_55 ?_
  refine p_putI C fo_X5_32 dX5_init_56 hs (by omega) rfl ?_
  have hz12 := zf_pI (r) 7 (nI 0) (by omega) hz11
  refine g_aload_n C dX5_init_59 rfl ?_
  refine n_sipush C 384 dX5_init_60 ?_
  refine g_newI C aw_I dX5_init_63 (by decide) h5 (by rw [hxN]; omega) hz12 ⟨(rl_i (by omega)), (rl_i (by omega)), trivial⟩ ⟨(rl_i (by omega)), trivial⟩ (by rw [hR]; decide) (by rw [hR]; decide) ?_
  have hz13 := hz12.up
  refine p_putR C fo_X5_35 dX5_init_65 hs (by omega) (by omega) (Or.inr ⟨_, rfl⟩) ?_
  have hz14 := zf_pR (r) 8 (N + 1 + 1 + 1 + 1 + 1) (by omega) hz13
  refine g_aload_n C dX5_init_68 rfl ?_
  refine n_sipush C 384 dX5_init_69 ?_
  refine g_newI C aw_I dX5_init_72 (by decide) h6 (by rw [hxN]; omega) hz14 ⟨(rl_i (by omega)), (rl_i (by omega)), trivial⟩ ⟨(rl_i (by omega)), trivial⟩ (by rw [hR]; decide) (by rw [hR]; decide) ?_
  have hz15 := hz14.up
  refine p_putR C fo_X5_38 dX5_init_74 hs (by omega) (by omega) (Or.inr ⟨_, rfl⟩) ?_
  have hz16 := zf_pR (r) 9 (N + 1 + 1 + 1 + 1 + 1 + 1) (by omega) hz15
  refine g_aload_n C dX5_init_77 rfl ?_
  refine g_aload_n C dX5_init_78 rfl ?_
  refine p_putF C hin ff_X5_41 dX5_init_79 hs (by omega) (by omega) (Or.inl ⟨_, rfl⟩) ?_
  have hz17 := zf_pR (r) 0 (kt) (by omega) hz16
  exact g_vretN C E dX5_init_82 (by rw [hR]; decide) (by rw [hR]; decide) ⟨rfl, hz17⟩

theorem io_X6_3 : IO RX6 3 NX4 0 := ⟨Or.inr ⟨_, nb_in (w := .methodLinkNest _ _ _ "LanguageAtoms") 119 (by decide +kernel) rfl⟩, tb_all _ [120, 57, 121] (by decide +kernel) (by decide +kernel), rfl, rfl, by decide +kernel⟩
theorem cno_X6_15 : CNO RX6 15 1 := ⟨_, ko_X1, tb_in 123 (by decide +kernel) (by decide +kernel), tb_in 124 (by decide +kernel) (by decide +kernel), tb_in 59 (by decide +kernel) (by decide +kernel), by decide +kernel⟩
theorem io_X6_17 : IO RX6 17 NX1 0 := ⟨Or.inr ⟨_, nb_in (w := .methodLinkNest _ _ _ "LanguageAtoms") 125 (by decide +kernel) rfl⟩, tb_all _ [126, 59, 127] (by decide +kernel) (by decide +kernel), rfl, rfl, by decide +kernel⟩
abbrev NX6 : Me := (yX6_init, cX6_init, 1, none, { frames := 3, cells := 2, slots := 21, locals := 80 })
def sX6 (S : pv_M) (r N : Nat) : pv_M := (pR (pR (sX1 (pI S (r) 0 (nI 0)) (N) (N + 1)) (r) 1 (N)) (r) 2 (N))
set_option maxRecDepth 100000 in
theorem i_X6 (l : Launch) {S : pv_M} {r N : Nat} (hr : r < N) (hs : pv_sh r = .inl 5) (h0 : pv_sh (N) = .inl 1) (h1 : pv_sh (N + 1) = .inr (0, 18)) (hz : ZF N S) : mtI l NX6 N (N + 1 + 1) [.ref r] S (fun S' => S' = sX6 S r N ∧ ZF (N + 1 + 1) S') := by
  refine mtI_of (by decide) (Nat.le_of_ble_eq_true rfl) rfl ?_
  intro x hl hR hmL hxN hin C E
  show GG x N 0 0 [.ref r] [] S 0
  replace hin : x.2.2.1.1.name = "<init>" := hin
  refine g_aload_n C dX6_init_0 rfl ?_
  refine g_callI C (As := []) (i_X4 x.1.2.1 (r := r) (N := N) (by omega) hz) io_X6_3 dX6_init_1 rfl (by rw [hxN]; omega) ⟨(rl_i (by omega)), trivial⟩ trivial rfl (rm_ok (M' := NX6) hR (by decide)) (Nat.le_of_ble_eq_true rfl) (fun S9 h9 => ?_)
  obtain ⟨h9, hz9⟩ := h9
  subst h9
  have hz1 := hz9
  clear hz9
  refine g_aload_n C dX6_init_4 rfl ?_
  refine n_iconst C 0 dX6_init_5 ?_
  refine p_putI C fo_X6_9 dX6_init_6 hs (by omega) rfl ?_
  have hz2 := zf_pI (r) 0 (nI 0) (by omega) hz1
  refine g_aload_n C dX6_init_9 rfl ?_
  refine g_new C cno_X6_15 dX6_init_10 h0 (by rw [hxN]; omega) hz2 ⟨(rl_i (by omega)), trivial⟩ ⟨(rl_i (by omega)), trivial⟩ (by rw [hR]; decide) (by rw [hR]; decide) ?_
  have hz3 := hz2.up
  refine g_dup C dX6_init_13 rfl ?_
  refine g_callI C (As := []) (i_X1 x.1.2.1 (r := N) (N := N + 1) (by omega) h0 h1 hz3) io_X6_17 dX6_init_14 rfl (by rw [hxN]; omega) ⟨(rl_i (by omega)), trivial⟩ ⟨(rl_i (by omega)), (rl_i (by omega)), trivial⟩ rfl (rm_ok (M' := NX6) hR (by decide)) (Nat.le_of_ble_eq_true rfl) (fun S9 h9 => ?_)
  obtain ⟨h9, hz9⟩ := h9
  subst h9
  have hz4 := hz9
  clear hz9
  refine p_putR C fo_X6_18 dX6_init_17 hs (by omega) (by omega) (Or.inl ⟨_, rfl⟩) ?_
  have hz5 := zf_pR (r) 1 (N) (by omega) hz4
  refine g_aload_n C dX6_init_20 rfl ?_
  refine g_aload_n C dX6_init_21 rfl ?_
  refine g_getR C fo_X6_18 (q := N) dX6_init_22 hs (by omega) (fun _ => rfl) (by simp [pR, pI, mR, wR, wI, va_up]) ?_
  refine p_putR C fo_X6_22 dX6_init_25 hs (by omega) (by omega) (Or.inl ⟨_, rfl⟩) ?_
  have hz6 := zf_pR (r) 2 (N) (by omega) hz5
  exact g_vretN C E dX6_init_28 (by rw [hR]; decide) (by rw [hR]; decide) ⟨rfl, hz6⟩

theorem io_X2_3 : IO RX2 3 NX4 0 := ⟨Or.inr ⟨_, nb_in (w := .methodLinkNest _ _ _ "LanguageAtoms") 161 (by decide +kernel) rfl⟩, tb_all _ [120, 57, 121] (by decide +kernel) (by decide +kernel), rfl, rfl, by decide +kernel⟩
theorem cno_X2_9 : CNO RX2 9 1 := ⟨_, ko_X1, tb_in 162 (by decide +kernel) (by decide +kernel), tb_in 124 (by decide +kernel) (by decide +kernel), tb_in 59 (by decide +kernel) (by decide +kernel), by decide +kernel⟩
theorem io_X2_11 : IO RX2 11 NX1 0 := ⟨Or.inr ⟨_, nb_in (w := .methodLinkNest _ _ _ "LanguageAtoms") 163 (by decide +kernel) rfl⟩, tb_all _ [126, 59, 127] (by decide +kernel) (by decide +kernel), rfl, rfl, by decide +kernel⟩
theorem cno_X2_22 : CNO RX2 22 7 := ⟨_, ko_X8, tb_in 164 (by decide +kernel) (by decide +kernel), tb_in 165 (by decide +kernel) (by decide +kernel), tb_in 61 (by decide +kernel) (by decide +kernel), by decide +kernel⟩
theorem io_X2_24 : IO RX2 24 NX8 0 := ⟨Or.inr ⟨_, nb_in (w := .methodLinkNest _ _ _ "LanguageAtoms") 166 (by decide +kernel) rfl⟩, tb_all _ [167, 61, 168] (by decide +kernel) (by decide +kernel), rfl, rfl, by decide +kernel⟩
theorem ff_X2_25 : FF RX2 25 2 2 := ⟨_, ko_X2, by decide, tb_in 176 (by decide +kernel) (by decide +kernel), rfl, rfl⟩
abbrev NX2 : Me := (yX2_init, cX2_init, 1, none, { frames := 3, cells := 4, slots := 214, locals := 80 })
def sX2 (S : pv_M) (r N : Nat) : pv_M := (pR (sX8 (pI (pR (sX1 S (N) (N + 1)) (r) 0 (N)) (r) 1 (nI 0)) (N + 1 + 1) (N + 1 + 1 + 1)) (r) 2 (N + 1 + 1))
set_option maxRecDepth 100000 in
theorem i_X2 (l : Launch) {S : pv_M} {r N : Nat} (hr : r < N) (hs : pv_sh r = .inl 2) (h0 : pv_sh (N) = .inl 1) (h1 : pv_sh (N + 1) = .inr (0, 18)) (h2 : pv_sh (N + 1 + 1) = .inl 7) (h3 : pv_sh (N + 1 + 1 + 1) = .inr (0, 192)) (hz : ZF N S) : mtI l NX2 N (N + 1 + 1 + 1 + 1) [.ref r] S (fun S' => S' = sX2 S r N ∧ ZF (N + 1 + 1 + 1 + 1) S') := by
  refine mtI_of (by decide) (Nat.le_of_ble_eq_true rfl) rfl ?_
  intro x hl hR hmL hxN hin C E
  show GG x N 0 0 [.ref r] [] S 0
  replace hin : x.2.2.1.1.name = "<init>" := hin
  refine g_aload_n C dX2_init_0 rfl ?_
  refine g_callI C (As := []) (i_X4 x.1.2.1 (r := r) (N := N) (by omega) hz) io_X2_3 dX2_init_1 rfl (by rw [hxN]; omega) ⟨(rl_i (by omega)), trivial⟩ trivial rfl (rm_ok (M' := NX2) hR (by decide)) (Nat.le_of_ble_eq_true rfl) (fun S9 h9 => ?_)
  obtain ⟨h9, hz9⟩ := h9
  subst h9
  have hz1 := hz9
  clear hz9
  refine g_aload_n C dX2_init_4 rfl ?_
  refine g_new C cno_X2_9 dX2_init_5 h0 (by rw [hxN]; omega) hz1 ⟨(rl_i (by omega)), trivial⟩ ⟨(rl_i (by omega)), trivial⟩ (by rw [hR]; decide) (by rw [hR]; decide) ?_
  have hz2 := hz1.up
  refine g_dup C dX2_init_8 rfl ?_
  refine g_callI C (As := []) (i_X1 x.1.2.1 (r := N) (N := N + 1) (by omega) h0 h1 hz2) io_X2_11 dX2_init_9 rfl (by rw [hxN]; omega) ⟨(rl_i (by omega)), trivial⟩ ⟨(rl_i (by omega)), (rl_i (by omega)), trivial⟩ rfl (rm_ok (M' := NX2) hR (by decide)) (Nat.le_of_ble_eq_true rfl) (fun S9 h9 => ?_)
  obtain ⟨h9, hz9⟩ := h9
  subst h9
  have hz3 := hz9
  clear hz9
  refine p_putR C fo_X2_12 dX2_init_12 hs (by omega) (by omega) (Or.inl ⟨_, rfl⟩) ?_
  have hz4 := zf_pR (r) 0 (N) (by omega) hz3
  refine g_aload_n C dX2_init_15 rfl ?_
  refine n_iconst C 0 dX2_init_16 ?_
  refine p_putI C fo_X2_18 dX2_init_17 hs (by omega) rfl ?_
  have hz5 := zf_pI (r) 1 (nI 0) (by omega) hz4
  refine g_aload_n C dX2_init_20 rfl ?_
  refine g_new C cno_X2_22 dX2_init_21 h2 (by rw [hxN]; omega) hz5 ⟨(rl_i (by omega)), trivial⟩ ⟨(rl_i (by omega)), trivial⟩ (by rw [hR]; decide) (by rw [hR]; decide) ?_
  have hz6 := hz5.up
  refine g_dup C dX2_init_24 rfl ?_
  refine g_callI C (As := []) (i_X8 x.1.2.1 (r := N + 1 + 1) (N := N + 1 + 1 + 1) (by omega) h2 h3 hz6) io_X2_24 dX2_init_25 rfl (by rw [hxN]; omega) ⟨(rl_i (by omega)), trivial⟩ ⟨(rl_i (by omega)), (rl_i (by omega)), trivial⟩ rfl (rm_ok (M' := NX2) hR (by decide)) (Nat.le_of_ble_eq_true rfl) (fun S9 h9 => ?_)
  obtain ⟨h9, hz9⟩ := h9
  subst h9
  have hz7 := hz9
  clear hz9
  refine p_putF C hin ff_X2_25 dX2_init_28 hs (by omega) (by omega) (Or.inl ⟨_, rfl⟩) ?_
  have hz8 := zf_pR (r) 2 (N + 1 + 1) (by omega) hz7
  exact g_vretN C E dX2_init_31 (by rw [hR]; decide) (by rw [hR]; decide) ⟨rfl, hz8⟩

theorem io_X9_3 : IO RX9 3 NX4 0 := ⟨Or.inr ⟨_, nb_in (w := .methodLinkNest _ _ _ "LanguageAtoms") 189 (by decide +kernel) rfl⟩, tb_all _ [120, 57, 121] (by decide +kernel) (by decide +kernel), rfl, rfl, by decide +kernel⟩
theorem cno_X9_15 : CNO RX9 15 7 := ⟨_, ko_X8, tb_in 190 (by decide +kernel) (by decide +kernel), tb_in 165 (by decide +kernel) (by decide +kernel), tb_in 61 (by decide +kernel) (by decide +kernel), by decide +kernel⟩
theorem io_X9_17 : IO RX9 17 NX8 0 := ⟨Or.inr ⟨_, nb_in (w := .methodLinkNest _ _ _ "LanguageAtoms") 191 (by decide +kernel) rfl⟩, tb_all _ [167, 61, 168] (by decide +kernel) (by decide +kernel), rfl, rfl, by decide +kernel⟩
theorem ff_X9_18 : FF RX9 18 8 1 := ⟨_, ko_X9, by decide, tb_in 193 (by decide +kernel) (by decide +kernel), rfl, rfl⟩
abbrev NX9 : Me := (yX9_init, cX9_init, 1, none, { frames := 2, cells := 2, slots := 193, locals := 60 })
def sX9 (S : pv_M) (r N : Nat) : pv_M := (pR (sX8 (pI S (r) 0 (nI 0)) (N) (N + 1)) (r) 1 (N))
set_option maxRecDepth 100000 in
theorem i_X9 (l : Launch) {S : pv_M} {r N : Nat} (hr : r < N) (hs : pv_sh r = .inl 8) (h0 : pv_sh (N) = .inl 7) (h1 : pv_sh (N + 1) = .inr (0, 192)) (hz : ZF N S) : mtI l NX9 N (N + 1 + 1) [.ref r] S (fun S' => S' = sX9 S r N ∧ ZF (N + 1 + 1) S') := by
  refine mtI_of (by decide) (Nat.le_of_ble_eq_true rfl) rfl ?_
  intro x hl hR hmL hxN hin C E
  show GG x N 0 0 [.ref r] [] S 0
  replace hin : x.2.2.1.1.name = "<init>" := hin
  refine g_aload_n C dX9_init_0 rfl ?_
  refine g_callI C (As := []) (i_X4 x.1.2.1 (r := r) (N := N) (by omega) hz) io_X9_3 dX9_init_1 rfl (by rw [hxN]; omega) ⟨(rl_i (by omega)), trivial⟩ trivial rfl (rm_ok (M' := NX9) hR (by decide)) (Nat.le_of_ble_eq_true rfl) (fun S9 h9 => ?_)
  obtain ⟨h9, hz9⟩ := h9
  subst h9
  have hz1 := hz9
  clear hz9
  refine g_aload_n C dX9_init_4 rfl ?_
  refine n_iconst C 0 dX9_init_5 ?_
  refine p_putI C fo_X9_9 dX9_init_6 hs (by omega) rfl ?_
  have hz2 := zf_pI (r) 0 (nI 0) (by omega) hz1
  refine g_aload_n C dX9_init_9 rfl ?_
  refine g_new C cno_X9_15 dX9_init_10 h0 (by rw [hxN]; omega) hz2 ⟨(rl_i (by omega)), trivial⟩ ⟨(rl_i (by omega)), trivial⟩ (by rw [hR]; decide) (by rw [hR]; decide) ?_
  have hz3 := hz2.up
  refine g_dup C dX9_init_13 rfl ?_
  refine g_callI C (As := []) (i_X8 x.1.2.1 (r := N) (N := N + 1) (by omega) h0 h1 hz3) io_X9_17 dX9_init_14 rfl (by rw [hxN]; omega) ⟨(rl_i (by omega)), trivial⟩ ⟨(rl_i (by omega)), (rl_i (by omega)), trivial⟩ rfl (rm_ok (M' := NX9) hR (by decide)) (Nat.le_of_ble_eq_true rfl) (fun S9 h9 => ?_)
  obtain ⟨h9, hz9⟩ := h9
  subst h9
  have hz4 := hz9
  clear hz9
  refine p_putF C hin ff_X9_18 dX9_init_17 hs (by omega) (by omega) (Or.inl ⟨_, rfl⟩) ?_
  have hz5 := zf_pR (r) 1 (N) (by omega) hz4
  exact g_vretN C E dX9_init_20 (by rw [hR]; decide) (by rw [hR]; decide) ⟨rfl, hz5⟩

theorem io_X0_3 : IO RX0 3 NX4 0 := ⟨Or.inr ⟨_, nb_in (w := .methodLinkNest _ _ _ "LanguageAtoms") 294 (by decide +kernel) rfl⟩, tb_all _ [120, 57, 121] (by decide +kernel) (by decide +kernel), rfl, rfl, by decide +kernel⟩
theorem cno_X0_9 : CNO RX0 9 1 := ⟨_, ko_X1, tb_in 295 (by decide +kernel) (by decide +kernel), tb_in 124 (by decide +kernel) (by decide +kernel), tb_in 59 (by decide +kernel) (by decide +kernel), by decide +kernel⟩
theorem io_X0_11 : IO RX0 11 NX1 0 := ⟨Or.inr ⟨_, nb_in (w := .methodLinkNest _ _ _ "LanguageAtoms") 296 (by decide +kernel) rfl⟩, tb_all _ [126, 59, 127] (by decide +kernel) (by decide +kernel), rfl, rfl, by decide +kernel⟩
theorem ff_X0_12 : FF RX0 12 0 0 := ⟨_, ko_X0, by decide, tb_in 299 (by decide +kernel) (by decide +kernel), rfl, rfl⟩
theorem cno_X0_18 : CNO RX0 18 7 := ⟨_, ko_X8, tb_in 297 (by decide +kernel) (by decide +kernel), tb_in 165 (by decide +kernel) (by decide +kernel), tb_in 61 (by decide +kernel) (by decide +kernel), by decide +kernel⟩
theorem io_X0_20 : IO RX0 20 NX8 0 := ⟨Or.inr ⟨_, nb_in (w := .methodLinkNest _ _ _ "LanguageAtoms") 298 (by decide +kernel) rfl⟩, tb_all _ [167, 61, 168] (by decide +kernel) (by decide +kernel), rfl, rfl, by decide +kernel⟩
theorem ff_X0_21 : FF RX0 21 0 2 := ⟨_, ko_X0, by decide, tb_in 302 (by decide +kernel) (by decide +kernel), rfl, rfl⟩
theorem ff_X0_25 : FF RX0 25 0 3 := ⟨_, ko_X0, by decide, tb_in 303 (by decide +kernel) (by decide +kernel), rfl, rfl⟩
theorem ff_X0_28 : FF RX0 28 0 4 := ⟨_, ko_X0, by decide, tb_in 304 (by decide +kernel) (by decide +kernel), rfl, rfl⟩
theorem ff_X0_35 : FF RX0 35 0 6 := ⟨_, ko_X0, by decide, tb_in 307 (by decide +kernel) (by decide +kernel), rfl, rfl⟩
theorem ff_X0_43 : FF RX0 43 0 8 := ⟨_, ko_X0, by decide, tb_in 309 (by decide +kernel) (by decide +kernel), rfl, rfl⟩
theorem ff_X0_46 : FF RX0 46 0 9 := ⟨_, ko_X0, by decide, tb_in 310 (by decide +kernel) (by decide +kernel), rfl, rfl⟩
theorem ff_X0_49 : FF RX0 49 0 10 := ⟨_, ko_X0, by decide, tb_in 311 (by decide +kernel) (by decide +kernel), rfl, rfl⟩
theorem ff_X0_53 : FF RX0 53 0 11 := ⟨_, ko_X0, by decide, tb_in 312 (by decide +kernel) (by decide +kernel), rfl, rfl⟩
theorem ff_X0_56 : FF RX0 56 0 12 := ⟨_, ko_X0, by decide, tb_in 313 (by decide +kernel) (by decide +kernel), rfl, rfl⟩
theorem ff_X0_59 : FF RX0 59 0 13 := ⟨_, ko_X0, by decide, tb_in 314 (by decide +kernel) (by decide +kernel), rfl, rfl⟩
theorem ff_X0_62 : FF RX0 62 0 1 := ⟨_, ko_X0, by decide, tb_in 301 (by decide +kernel) (by decide +kernel), rfl, rfl⟩
abbrev NX0 : Me := (yX0_init, cX0_init, 2, none, { frames := 3, cells := 15, slots := 1714, locals := 80 })
def sX0 (S : pv_M) (r N : Nat) (kt : Nat) : pv_M := (pR (pR (pR (pR (pR (pR (pR (pJ (pR (pI (pR (sX8 (pR (sX8 (pR (sX8 (pR (sX1 S (N) (N + 1)) (r) 0 (N)) (N + 1 + 1) (N + 1 + 1 + 1)) (r) 2 (N + 1 + 1)) (N + 1 + 1 + 1 + 1) (N + 1 + 1 + 1 + 1 + 1)) (r) 3 (N + 1 + 1 + 1 + 1)) (N + 1 + 1 + 1 + 1 + 1 + 1) (N + 1 + 1 + 1 + 1 + 1 + 1 + 1)) (r) 4 (N + 1 + 1 + 1 + 1 + 1 + 1)) (r) 5 (nI 0)) (r) 6 (N + 1 + 1 + 1 + 1 + 1 + 1 + 1 + 1)) (r) 7 0) (r) 8 (N + 1 + 1 + 1 + 1 + 1 + 1 + 1 + 1 + 1)) (r) 9 (N + 1 + 1 + 1 + 1 + 1 + 1 + 1 + 1 + 1 + 1)) (r) 10 (N + 1 + 1 + 1 + 1 + 1 + 1 + 1 + 1 + 1 + 1 + 1)) (r) 11 (N + 1 + 1 + 1 + 1 + 1 + 1 + 1 + 1 + 1 + 1 + 1 + 1)) (r) 12 (N + 1 + 1 + 1 + 1 + 1 + 1 + 1 + 1 + 1 + 1 + 1 + 1 + 1)) (r) 13 (N + 1 + 1 + 1 + 1 + 1 + 1 + 1 + 1 + 1 + 1 + 1 + 1 + 1 + 1)) (r) 1 (kt))
set_option maxRecDepth 100000 in
theorem i_X0 (l : Launch) {S : pv_M} {r N : Nat} (hr : r < N) (hs : pv_sh r = .inl 0) {kt : Nat} (hkt : kt < N) (h0 : pv_sh (N) = .inl 1) (h1 : pv_sh (N + 1) = .inr (0, 18)) (h2 : pv_sh (N + 1 + 1) = .inl 7) (h3 : pv_sh (N + 1 + 1 + 1) = .inr (0, 192)) (h4 : pv_sh (N + 1 + 1 + 1 + 1) = .inl 7) (h5 : pv_sh (N + 1 + 1 + 1 + 1 + 1) = .inr (0, 192)) (h6 : pv_sh (N + 1 + 1 + 1 + 1 + 1 + 1) = .inl 7) (h7 : pv_sh (N + 1 + 1 + 1 + 1 + 1 + 1 + 1) = .inr (0, 192)) (h8 : pv_sh (N + 1 + 1 + 1 + 1 + 1 + 1 + 1 + 1) = .inr (0, 64)) (h9 : pv_sh (N + 1 + 1 + 1 + 1 + 1 + 1 + 1 + 1 + 1) = .inr (0, 64)) (h10 : pv_sh (N + 1 + 1 + 1 + 1 + 1 + 1 + 1 + 1 + 1 + 1) = .inr (0, 64)) (h11 : pv_sh (N + 1 + 1 + 1 + 1 + 1 + 1 + 1 + 1 + 1 + 1 + 1) = .inr (1, 64)) (h12 : pv_sh (N + 1 + 1 + 1 + 1 + 1 + 1 + 1 + 1 + 1 + 1 + 1 + 1) = .inr (1, 64)) (h13 : pv_sh (N + 1 + 1 + 1 + 1 + 1 + 1 + 1 + 1 + 1 + 1 + 1 + 1 + 1) = .inr (0, 730)) (h14 : pv_sh (N + 1 + 1 + 1 + 1 + 1 + 1 + 1 + 1 + 1 + 1 + 1 + 1 + 1 + 1) = .inr (0, 64)) (hz : ZF N S) : mtI l NX0 N (N + 1 + 1 + 1 + 1 + 1 + 1 + 1 + 1 + 1 + 1 + 1 + 1 + 1 + 1 + 1) [.ref r, .ref kt] S (fun S' => S' = sX0 S r N kt ∧ ZF (N + 1 + 1 + 1 + 1 + 1 + 1 + 1 + 1 + 1 + 1 + 1 + 1 + 1 + 1 + 1) S') := by
  refine mtI_of (by decide) (Nat.le_of_ble_eq_true rfl) rfl ?_
  intro x hl hR hmL hxN hin C E
  show GG x N 0 0 [.ref r, .ref kt] [] S 0
  replace hin : x.2.2.1.1.name = "<init>" := hin
  refine g_aload_n C dX0_init_0 rfl ?_
  refine g_callI C (As := []) (i_X4 x.1.2.1 (r := r) (N := N) (by omega) hz) io_X0_3 dX0_init_1 rfl (by rw [hxN]; omega) ⟨(rl_i (by omega)), (rl_i (by omega)), trivial⟩ trivial rfl (rm_ok (M' := NX0) hR (by decide)) (Nat.le_of_ble_eq_true rfl) (fun S9 h9 => ?_)
  obtain ⟨h9, hz9⟩ := h9
  subst h9
  have hz1 := hz9
  clear hz9
  refine g_aload_n C dX0_init_4 rfl ?_
  refine g_new C cno_X0_9 dX0_init_5 h0 (by rw [hxN]; omega) hz1 ⟨(rl_i (by omega)), (rl_i (by omega)), trivial⟩ ⟨(rl_i (by omega)), trivial⟩ (by rw [hR]; decide) (by rw [hR]; decide) ?_
  have hz2 := hz1.up
  refine g_dup C dX0_init_8 rfl ?_
  refine g_callI C (As := []) (i_X1 x.1.2.1 (r := N) (N := N + 1) (by omega) h0 h1 hz2) io_X0_11 dX0_init_9 rfl (by rw [hxN]; omega) ⟨(rl_i (by omega)), (rl_i (by omega)), trivial⟩ ⟨(rl_i (by omega)), (rl_i (by omega)), trivial⟩ rfl (rm_ok (M' := NX0) hR (by decide)) (Nat.le_of_ble_eq_true rfl) (fun S9 h9 => ?_)
  obtain ⟨h9, hz9⟩ := h9
  subst h9
  have hz3 := hz9
  clear hz9
  refine p_putF C hin ff_X0_12 dX0_init_12 hs (by omega) (by omega) (Or.inl ⟨_, rfl⟩) ?_
  have hz4 := zf_pR (r) 0 (N) (by omega) hz3
  refine g_aload_n C dX0_init_15 rfl ?_
  refine g_new C cno_X0_18 dX0_init_16 h2 (by rw [hxN]; omega) hz4 ⟨(rl_i (by omega)), (rl_i (by omega)), trivial⟩ ⟨(rl_i (by omega)), trivial⟩ (by rw [hR]; decide) (by rw [hR]; decide) ?_
  have hz5 := hz4.up
  refine g_dup C dX0_init_19 rfl ?_
  refine g_callI C (As := []) (i_X8 x.1.2.1 (r := N + 1 + 1) (N := N + 1 + 1 + 1) (by omega) h2 h3 hz5) io_X0_20 dX0_init_20 rfl (by rw [hxN]; omega) ⟨(rl_i (by omega)), (rl_i (by omega)), trivial⟩ ⟨(rl_i (by omega)), (rl_i (by omega)), trivial⟩ rfl (rm_ok (M' := NX0) hR (by decide)) (Nat.le_of_ble_eq_true rfl) (fun S9 h9 => ?_)
  obtain ⟨h9, hz9⟩ := h9
  subst h9
  have hz6 := hz9
  clear hz9
  refine p_putF C hin ff_X0_21 dX0_init_23 hs (by omega) (by omega) (Or.inl ⟨_, rfl⟩) ?_
  have hz7 := zf_pR (r) 2 (N + 1 + 1) (by omega) hz6
  refine g_aload_n C dX0_init_26 rfl ?_
  refine g_new C cno_X0_18 dX0_init_27 h4 (by rw [hxN]; omega) hz7 ⟨(rl_i (by omega)), (rl_i (by omega)), trivial⟩ ⟨(rl_i (by omega)), trivial⟩ (by rw [hR]; decide) (by rw [hR]; decide) ?_
  have hz8 := hz7.up
  refine g_dup C dX0_init_30 rfl ?_
  refine g_callI C (As := []) (i_X8 x.1.2.1 (r := N + 1 + 1 + 1 + 1) (N := N + 1 + 1 + 1 + 1 + 1) (by omega) h4 h5 hz8) io_X0_20 dX0_init_31 rfl (by rw [hxN]; omega) ⟨(rl_i (by omega)), (rl_i (by omega)), trivial⟩ ⟨(rl_i (by omega)), (rl_i (by omega)), trivial⟩ rfl (rm_ok (M' := NX0) hR (by decide)) (Nat.le_of_ble_eq_true rfl) (fun S9 h9 => ?_)
  obtain ⟨h9, hz9⟩ := h9
  subst h9
  have hz9 := hz9
  clear hz9
  refine p_putF C hin ff_X0_25 dX0_init_34 hs (by omega) (by omega) (Or.inl ⟨_, rfl⟩) ?_
  have hz10 := zf_pR (r) 3 (N + 1 + 1 + 1 + 1) (by omega) hz9
  refine g_aload_n C dX0_init_37 rfl ?_
  refine g_new C cno_X0_18 dX0_init_38 h6 (by rw [hxN]; omega) hz10 ⟨(rl_i (by omega)), (rl_i (by omega)), trivial⟩ ⟨(rl_i (by omega)), trivial⟩ (by rw [hR]; decide) (by rw [hR]; decide) ?_
  have hz11 := hz10.up
  refine g_dup C dX0_init_41 rfl ?_
  refine g_callI C (As := []) (i_X8 x.1.2.1 (r := N + 1 + 1 + 1 + 1 + 1 + 1) (N := N + 1 + 1 + 1 + 1 + 1 + 1 + 1) (by omega) h6 h7 hz11) io_X0_20 dX0_init_42 rfl (by rw [hxN]; omega) ⟨(rl_i (by omega)), (rl_i (by omega)), trivial⟩ ⟨(rl_i (by omega)), (rl_i (by omega)), trivial⟩ rfl (rm_ok (M' := NX0) hR (by decide)) (Nat.le_of_ble_eq_true rfl) (fun S9 h9 => ?_)
  obtain ⟨h9, hz9⟩ := h9
  subst h9
  have hz12 := hz9
  clear hz9
  refine p_putF C hin ff_X0_28 dX0_init_45 hs (by omega) (by omega) (Or.inl ⟨_, rfl⟩) ?_
  have hz13 := zf_pR (r) 4 (N + 1 + 1 + 1 + 1 + 1 + 1) (by omega) hz12
  refine g_aload_n C dX0_init_48 rfl ?_
  refine n_iconst C 0 dX0_init_49 ?_
  refine p_putI C fo_X0_31 dX0_init_50 hs (by omega) rfl ?_
  have hz14 := zf_pI (r) 5 (nI 0) (by omega) hz13
  refine g_aload_n C dX0_init_53 rfl ?_
  refine n_bipush C 64 dX0_init_54 ?_
  refine g_newI C aw_I dX0_init_56 (by decide) h8 (by rw [hxN]; omega) hz14 ⟨(rl_i (by omega)), (rl_i (by omega)), trivial⟩ ⟨(rl_i (by omega)), trivial⟩ (by rw [hR]; decide) (by rw [hR]; decide) ?_
  have hz15 := hz14.up
  refine p_putF C hin ff_X0_35 dX0_init_58 hs (by omega) (by omega) (Or.inr ⟨_, rfl⟩) ?_
  have hz16 := zf_pR (r) 6 (N + 1 + 1 + 1 + 1 + 1 + 1 + 1 + 1) (by omega) hz15
  refine g_aload_n C dX0_init_61 rfl ?_
  refine g_lconst C 0 dX0_init_62 (by decide) ?_
  refine p_putJ C fo_X0_39 dX0_init_63 hs (by omega) rfl ?_
  have hz17 := zf_pJ (r) 7 0 (by omega) hz16
  refine g_aload_n C dX0_init_66 rfl ?_
  refine n_bipush C 64 dX0_init_67 ?_
  refine g_newI C aw_I dX0_init_69 (by decide) h9 (by rw [hxN]; omega) hz17 ⟨(rl_i (by omega)), (rl_i (by omega)), trivial⟩ ⟨(rl_i (by omega)), trivial⟩ (by rw [hR]; decide) (by rw [hR]; decide) ?_
  have hz18 := hz17.up
  refine p_putF C hin ff_X0_43 dX0_init_71 hs (by omega) (by omega) (Or.inr ⟨_, rfl⟩) ?_
  have hz19 := zf_pR (r) 8 (N + 1 + 1 + 1 + 1 + 1 + 1 + 1 + 1 + 1) (by omega) hz18
  refine g_aload_n C dX0_init_74 rfl ?_
  refine n_bipush C 64 dX0_init_75 ?_
  refine g_newI C aw_I dX0_init_77 (by decide) h10 (by rw [hxN]; omega) hz19 ⟨(rl_i (by omega)), (rl_i (by omega)), trivial⟩ ⟨(rl_i (by omega)), trivial⟩ (by rw [hR]; decide) (by rw [hR]; decide) ?_
  have hz20 := hz19.up
  refine p_putF C hin ff_X0_46 dX0_init_79 hs (by omega) (by omega) (Or.inr ⟨_, rfl⟩) ?_
  have hz21 := zf_pR (r) 9 (N + 1 + 1 + 1 + 1 + 1 + 1 + 1 + 1 + 1 + 1) (by omega) hz20
  refine g_aload_n C dX0_init_82 rfl ?_
  refine n_bipush C 64 dX0_init_83 ?_
  refine g_newJ C aw_J dX0_init_85 (by decide) h11 (by rw [hxN]; omega) hz21 ⟨(rl_i (by omega)), (rl_i (by omega)), trivial⟩ ⟨(rl_i (by omega)), trivial⟩ (by rw [hR]; decide) (by rw [hR]; decide) ?_
  have hz22 := hz21.up
  refine p_putF C hin ff_X0_49 dX0_init_87 hs (by omega) (by omega) (Or.inr ⟨_, rfl⟩) ?_
  have hz23 := zf_pR (r) 10 (N + 1 + 1 + 1 + 1 + 1 + 1 + 1 + 1 + 1 + 1 + 1) (by omega) hz22
  refine g_aload_n C dX0_init_90 rfl ?_
  refine n_bipush C 64 dX0_init_91 ?_
  refine g_newJ C aw_J dX0_init_93 (by decide) h12 (by rw [hxN]; omega) hz23 ⟨(rl_i (by omega)), (rl_i (by omega)), trivial⟩ ⟨(rl_i (by omega)), trivial⟩ (by rw [hR]; decide) (by rw [hR]; decide) ?_
  have hz24 := hz23.up
  refine p_putF C hin ff_X0_53 dX0_init_95 hs (by omega) (by omega) (Or.inr ⟨_, rfl⟩) ?_
  have hz25 := zf_pR (r) 11 (N + 1 + 1 + 1 + 1 + 1 + 1 + 1 + 1 + 1 + 1 + 1 + 1) (by omega) hz24
  refine g_aload_n C dX0_init_98 rfl ?_
  refine n_sipush C 730 dX0_init_99 ?_
  refine g_newI C aw_I dX0_init_102 (by decide) h13 (by rw [hxN]; omega) hz25 ⟨(rl_i (by omega)), (rl_i (by omega)), trivial⟩ ⟨(rl_i (by omega)), trivial⟩ (by rw [hR]; decide) (by rw [hR]; decide) ?_
  have hz26 := hz25.up
  refine p_putF C hin ff_X0_56 dX0_init_104 hs (by omega) (by omega) (Or.inr ⟨_, rfl⟩) ?_
  have hz27 := zf_pR (r) 12 (N + 1 + 1 + 1 + 1 + 1 + 1 + 1 + 1 + 1 + 1 + 1 + 1 + 1) (by omega) hz26
  refine g_aload_n C dX0_init_107 rfl ?_
  refine n_bipush C 64 dX0_init_108 ?_
  refine g_newI C aw_I dX0_init_110 (by decide) h14 (by rw [hxN]; omega) hz27 ⟨(rl_i (by omega)), (rl_i (by omega)), trivial⟩ ⟨(rl_i (by omega)), trivial⟩ (by rw [hR]; decide) (by rw [hR]; decide) ?_
  have hz28 := hz27.up
  refine p_putF C hin ff_X0_59 dX0_init_112 hs (by omega) (by omega) (Or.inr ⟨_, rfl⟩) ?_
  have hz29 := zf_pR (r) 13 (N + 1 + 1 + 1 + 1 + 1 + 1 + 1 + 1 + 1 + 1 + 1 + 1 + 1 + 1) (by omega) hz28
  refine g_aload_n C dX0_init_115 rfl ?_
  refine g_aload_n C dX0_init_116 rfl ?_
  refine p_putF C hin ff_X0_62 dX0_init_117 hs (by omega) (by omega) (Or.inl ⟨_, rfl⟩) ?_
  have hz30 := zf_pR (r) 1 (kt) (by omega) hz29
  exact g_vretN C E dX0_init_120 (by rw [hR]; decide) (by rw [hR]; decide) ⟨rfl, hz30⟩

theorem oi_X11_3 : Cond.methodLink RX11 3 Lib.objectInit ∈ TB := tb_in 85 (by decide +kernel) (by decide +kernel)
theorem ff_X11_11 : FF RX11 11 10 0 := ⟨_, ko_X11, by decide, tb_in 344 (by decide +kernel) (by decide +kernel), rfl, rfl⟩
theorem ff_X11_15 : FF RX11 15 10 1 := ⟨_, ko_X11, by decide, tb_in 345 (by decide +kernel) (by decide +kernel), rfl, rfl⟩
theorem cno_X11_18 : CNO RX11 18 9 := ⟨_, ko_X10, tb_in 90 (by decide +kernel) (by decide +kernel), tb_in 91 (by decide +kernel) (by decide +kernel), tb_in 56 (by decide +kernel) (by decide +kernel), by decide +kernel⟩
theorem io_X11_20 : IO RX11 20 NX10 0 := ⟨Or.inr ⟨_, nb_in (w := .methodLinkNest _ _ _ "LanguageAtoms") 92 (by decide +kernel) rfl⟩, tb_all _ [93, 56, 94] (by decide +kernel) (by decide +kernel), rfl, rfl, by decide +kernel⟩
theorem ff_X11_21 : FF RX11 21 10 2 := ⟨_, ko_X11, by decide, tb_in 346 (by decide +kernel) (by decide +kernel), rfl, rfl⟩
theorem ff_X11_25 : FF RX11 25 10 3 := ⟨_, ko_X11, by decide, tb_in 347 (by decide +kernel) (by decide +kernel), rfl, rfl⟩
theorem ff_X11_34 : FF RX11 34 10 5 := ⟨_, ko_X11, by decide, tb_in 349 (by decide +kernel) (by decide +kernel), rfl, rfl⟩
theorem cno_X11_38 : CNO RX11 38 5 := ⟨_, ko_X6, tb_in 114 (by decide +kernel) (by decide +kernel), tb_in 115 (by decide +kernel) (by decide +kernel), tb_in 58 (by decide +kernel) (by decide +kernel), by decide +kernel⟩
theorem io_X11_40 : IO RX11 40 NX6 0 := ⟨Or.inr ⟨_, nb_in (w := .methodLinkNest _ _ _ "LanguageAtoms") 116 (by decide +kernel) rfl⟩, tb_all _ [117, 58, 118] (by decide +kernel) (by decide +kernel), rfl, rfl, by decide +kernel⟩
theorem ff_X11_41 : FF RX11 41 10 7 := ⟨_, ko_X11, by decide, tb_in 351 (by decide +kernel) (by decide +kernel), rfl, rfl⟩
theorem cno_X11_45 : CNO RX11 45 2 := ⟨_, ko_X2, tb_in 156 (by decide +kernel) (by decide +kernel), tb_in 157 (by decide +kernel) (by decide +kernel), tb_in 60 (by decide +kernel) (by decide +kernel), by decide +kernel⟩
theorem io_X11_47 : IO RX11 47 NX2 0 := ⟨Or.inr ⟨_, nb_in (w := .methodLinkNest _ _ _ "LanguageAtoms") 158 (by decide +kernel) rfl⟩, tb_all _ [159, 60, 160] (by decide +kernel) (by decide +kernel), rfl, rfl, by decide +kernel⟩
theorem ff_X11_48 : FF RX11 48 10 8 := ⟨_, ko_X11, by decide, tb_in 352 (by decide +kernel) (by decide +kernel), rfl, rfl⟩
theorem cno_X11_52 : CNO RX11 52 8 := ⟨_, ko_X9, tb_in 184 (by decide +kernel) (by decide +kernel), tb_in 185 (by decide +kernel) (by decide +kernel), tb_in 62 (by decide +kernel) (by decide +kernel), by decide +kernel⟩
theorem io_X11_54 : IO RX11 54 NX9 0 := ⟨Or.inr ⟨_, nb_in (w := .methodLinkNest _ _ _ "LanguageAtoms") 186 (by decide +kernel) rfl⟩, tb_all _ [187, 62, 188] (by decide +kernel) (by decide +kernel), rfl, rfl, by decide +kernel⟩
theorem ff_X11_55 : FF RX11 55 10 9 := ⟨_, ko_X11, by decide, tb_in 353 (by decide +kernel) (by decide +kernel), rfl, rfl⟩
theorem cno_X11_9 : CNO RX11 9 1 := ⟨_, ko_X1, tb_in 88 (by decide +kernel) (by decide +kernel), tb_in 124 (by decide +kernel) (by decide +kernel), tb_in 59 (by decide +kernel) (by decide +kernel), by decide +kernel⟩
theorem io_X11_59 : IO RX11 59 NX1 0 := ⟨Or.inr ⟨_, nb_in (w := .methodLinkNest _ _ _ "LanguageAtoms") 199 (by decide +kernel) rfl⟩, tb_all _ [126, 59, 127] (by decide +kernel) (by decide +kernel), rfl, rfl, by decide +kernel⟩
theorem ff_X11_60 : FF RX11 60 10 11 := ⟨_, ko_X11, by decide, tb_in 355 (by decide +kernel) (by decide +kernel), rfl, rfl⟩
theorem cno_X11_32 : CNO RX11 32 6 := ⟨_, ko_X7, tb_in 112 (by decide +kernel) (by decide +kernel), tb_in 200 (by decide +kernel) (by decide +kernel), tb_in 63 (by decide +kernel) (by decide +kernel), by decide +kernel⟩
theorem io_X11_64 : IO RX11 64 NX7 0 := ⟨Or.inr ⟨_, nb_in (w := .methodLinkNest _ _ _ "LanguageAtoms") 201 (by decide +kernel) rfl⟩, tb_all _ [202, 63, 203] (by decide +kernel) (by decide +kernel), rfl, rfl, by decide +kernel⟩
theorem ff_X11_65 : FF RX11 65 10 12 := ⟨_, ko_X11, by decide, tb_in 356 (by decide +kernel) (by decide +kernel), rfl, rfl⟩
theorem cno_X11_69 : CNO RX11 69 3 := ⟨_, ko_X3, tb_in 229 (by decide +kernel) (by decide +kernel), tb_in 230 (by decide +kernel) (by decide +kernel), tb_in 64 (by decide +kernel) (by decide +kernel), by decide +kernel⟩
theorem io_X11_71 : IO RX11 71 NX3 0 := ⟨Or.inr ⟨_, nb_in (w := .methodLinkNest _ _ _ "LanguageAtoms") 231 (by decide +kernel) rfl⟩, tb_all _ [232, 64, 233] (by decide +kernel) (by decide +kernel), rfl, rfl, by decide +kernel⟩
theorem cno_X11_72 : CNO RX11 72 4 := ⟨_, ko_X5, tb_in 251 (by decide +kernel) (by decide +kernel), tb_in 252 (by decide +kernel) (by decide +kernel), tb_in 65 (by decide +kernel) (by decide +kernel), by decide +kernel⟩
theorem io_X11_74 : IO RX11 74 NX5 1 := ⟨Or.inl (tb_in 253 (by decide +kernel) (by decide +kernel)), tb_all _ [254, 65, 255] (by decide +kernel) (by decide +kernel), rfl, rfl, by decide +kernel⟩
theorem ff_X11_77 : FF RX11 77 10 6 := ⟨_, ko_X11, by decide, tb_in 350 (by decide +kernel) (by decide +kernel), rfl, rfl⟩
theorem cno_X11_81 : CNO RX11 81 0 := ⟨_, ko_X0, tb_in 289 (by decide +kernel) (by decide +kernel), tb_in 290 (by decide +kernel) (by decide +kernel), tb_in 66 (by decide +kernel) (by decide +kernel), by decide +kernel⟩
theorem io_X11_83 : IO RX11 83 NX0 1 := ⟨Or.inl (tb_in 291 (by decide +kernel) (by decide +kernel)), tb_all _ [292, 66, 293] (by decide +kernel) (by decide +kernel), rfl, rfl, by decide +kernel⟩
theorem ff_X11_84 : FF RX11 84 10 10 := ⟨_, ko_X11, by decide, tb_in 354 (by decide +kernel) (by decide +kernel), rfl, rfl⟩
abbrev NX11 : Me := (yX11_init, cX11_init, 3, none, { frames := 4, cells := 74, slots := 7751, locals := 101 })
def sX11 (S : pv_M) : pv_M := (pR (sX7 (pR (sX7 (pR (sX1 (pR (sX1 (pR (sX1 (pR (sX1 (pR (sX1 (pR (sX1 (pR (sX0 (pR (sX5 (sX3 (pR (sX7 (pR (sX1 (pR (sX9 (pR (sX2 (pR (sX6 (pR (pI (pR (sX10 (pR (sX10 (pR (pR S (0) 0 (1)) (0) 1 (2)) (3) (4)) (0) 2 (3)) (5) (6)) (0) 3 (5)) (0) 4 (nI 0)) (0) 5 (7)) (8) (9)) (0) 7 (8)) (11) (12)) (0) 8 (11)) (16) (17)) (0) 9 (16)) (19) (20)) (0) 11 (19)) (21) (22)) (0) 12 (21)) (26) (27)) (29) (30) (26)) (0) 6 (29)) (37) (38) (26)) (0) 10 (37)) (53) (54)) 1 0 53) (55) (56)) 2 0 55) (57) (58)) 1 1 57) (59) (60)) 2 1 59) (61) (62)) 1 2 61) (63) (64)) 2 2 63) (65) (66)) 7 0 65) (70) (71)) 7 1 70)
set_option maxRecDepth 100000 in
theorem i_X11 (l : Launch) {S : pv_M} (hz : ZF 1 S) : mtI l NX11 1 75 [.ref 0] S (fun S' => S' = sX11 S ∧ ZF 75 S') := by
  refine mtI_of (by decide) (Nat.le_of_ble_eq_true rfl) rfl ?_
  intro x hl hR hmL hxN hin C E
  show GG x 1 0 0 [.ref 0, unk, unk] [] S 0
  replace hin : x.2.2.1.1.name = "<init>" := hin
  refine g_aload_n C dX11_init_0 rfl ?_
  refine g_oi C oi_X11_3 oi_1 oi_2 dX11_init_1 (by rw [hR]; decide) (by rw [hR]; decide) ?_
  refine g_aload_n C dX11_init_4 rfl ?_
  refine n_iconst C 3 dX11_init_5 ?_
  refine g_anewa C (t := 5) (Cn := RX1) (tb_in 88 (by decide +kernel) (by decide +kernel)) C.2.2.2.2.2.2.2.2.2.2.1 (Or.inl rfl) rfl dX11_init_6 (by decide) rfl (by rw [hxN]; decide) hz ⟨(rl_i (by decide)), trivial, trivial, trivial⟩ ⟨(rl_i (by decide)), trivial⟩ (by rw [hR]; decide) (by rw [hR]; decide) ?_
  have hz1 := hz.up
  refine p_putF C hin ff_X11_11 dX11_init_9 rfl (by decide) (by decide) (Or.inr ⟨_, rfl⟩) ?_
  have hz2 := zf_pR (0) 0 (1) (by decide) hz1
  refine g_aload_n C dX11_init_12 rfl ?_
  refine n_iconst C 3 dX11_init_13 ?_
  refine g_anewa C (t := 5) (Cn := RX1) (tb_in 88 (by decide +kernel) (by decide +kernel)) C.2.2.2.2.2.2.2.2.2.2.1 (Or.inl rfl) rfl dX11_init_14 (by decide) rfl (by rw [hxN]; decide) hz2 ⟨(rl_i (by decide)), trivial, trivial, trivial⟩ ⟨(rl_i (by decide)), trivial⟩ (by rw [hR]; decide) (by rw [hR]; decide) ?_
  have hz3 := hz2.up
  refine p_putF C hin ff_X11_15 dX11_init_17 rfl (by decide) (by decide) (Or.inr ⟨_, rfl⟩) ?_
  have hz4 := zf_pR (0) 1 (2) (by decide) hz3
  refine g_aload_n C dX11_init_20 rfl ?_
  refine g_new C cno_X11_18 dX11_init_21 rfl (by rw [hxN]; decide) hz4 ⟨(rl_i (by decide)), trivial, trivial, trivial⟩ ⟨(rl_i (by decide)), trivial⟩ (by rw [hR]; decide) (by rw [hR]; decide) ?_
  have hz5 := hz4.up
  refine g_dup C dX11_init_24 rfl ?_
  refine g_callI C (As := []) (i_X10 x.1.2.1 (r := 3) (N := 4) (by decide) rfl rfl hz5) io_X11_20 dX11_init_25 rfl (by rw [hxN]; decide) ⟨(rl_i (by decide)), trivial, trivial, trivial⟩ ⟨(rl_i (by decide)), (rl_i (by decide)), trivial⟩ rfl (rm_ok (M' := NX11) hR (by decide)) (Nat.le_of_ble_eq_true rfl) (fun S9 h9 => ?_)
  obtain ⟨h9, hz9⟩ := h9
  subst h9
  have hz6 := hz9
  clear hz9
  refine p_putF C hin ff_X11_21 dX11_init_28 rfl (by decide) (by decide) (Or.inl ⟨_, rfl⟩) ?_
  have hz7 := zf_pR (0) 2 (3) (by decide) hz6
  refine g_aload_n C dX11_init_31 rfl ?_
  refine g_new C cno_X11_18 dX11_init_32 rfl (by rw [hxN]; decide) hz7 ⟨(rl_i (by decide)), trivial, trivial, trivial⟩ ⟨(rl_i (by decide)), trivial⟩ (by rw [hR]; decide) (by rw [hR]; decide) ?_
  have hz8 := hz7.up
  refine g_dup C dX11_init_35 rfl ?_
  refine g_callI C (As := []) (i_X10 x.1.2.1 (r := 5) (N := 6) (by decide) rfl rfl hz8) io_X11_20 dX11_init_36 rfl (by rw [hxN]; decide) ⟨(rl_i (by decide)), trivial, trivial, trivial⟩ ⟨(rl_i (by decide)), (rl_i (by decide)), trivial⟩ rfl (rm_ok (M' := NX11) hR (by decide)) (Nat.le_of_ble_eq_true rfl) (fun S9 h9 => ?_)
  obtain ⟨h9, hz9⟩ := h9
  subst h9
  have hz9 := hz9
  clear hz9
  refine p_putF C hin ff_X11_25 dX11_init_39 rfl (by decide) (by decide) (Or.inl ⟨_, rfl⟩) ?_
  have hz10 := zf_pR (0) 3 (5) (by decide) hz9
  refine g_aload_n C dX11_init_42 rfl ?_
  refine n_iconst C 0 dX11_init_43 ?_
  refine p_putZ C fo_X11_28 dX11_init_44 rfl (by decide) rfl (Or.inl rfl) ?_
  have hz11 := zf_pI (0) 4 (nI 0) (by decide) hz10
  refine g_aload_n C dX11_init_47 rfl ?_
  refine n_iconst C 2 dX11_init_48 ?_
  refine g_anewa C (t := 6) (Cn := RX7) (tb_in 112 (by decide +kernel) (by decide +kernel)) C.2.2.2.2.2.2.2.2.2.2.2 (Or.inr rfl) rfl dX11_init_49 (by decide) rfl (by rw [hxN]; decide) hz11 ⟨(rl_i (by decide)), trivial, trivial, trivial⟩ ⟨(rl_i (by decide)), trivial⟩ (by rw [hR]; decide) (by rw [hR]; decide) ?_
  have hz12 := hz11.up
  refine p_putF C hin ff_X11_34 dX11_init_52 rfl (by decide) (by decide) (Or.inr ⟨_, rfl⟩) ?_
  have hz13 := zf_pR (0) 5 (7) (by decide) hz12
  refine g_aload_n C dX11_init_55 rfl ?_
  refine g_new C cno_X11_38 dX11_init_56 rfl (by rw [hxN]; decide) hz13 ⟨(rl_i (by decide)), trivial, trivial, trivial⟩ ⟨(rl_i (by decide)), trivial⟩ (by rw [hR]; decide) (by rw [hR]; decide) ?_
  have hz14 := hz13.up
  refine g_dup C dX11_init_59 rfl ?_
  refine g_callI C (As := []) (i_X6 x.1.2.1 (r := 8) (N := 9) (by decide) rfl rfl rfl hz14) io_X11_40 dX11_init_60 rfl (by rw [hxN]; decide) ⟨(rl_i (by decide)), trivial, trivial, trivial⟩ ⟨(rl_i (by decide)), (rl_i (by decide)), trivial⟩ rfl (rm_ok (M' := NX11) hR (by decide)) (Nat.le_of_ble_eq_true rfl) (fun S9 h9 => ?_)
  obtain ⟨h9, hz9⟩ := h9
  subst h9
  have hz15 := hz9
  clear hz9
  refine p_putF C hin ff_X11_41 dX11_init_63 rfl (by decide) (by decide) (Or.inl ⟨_, rfl⟩) ?_
  have hz16 := zf_pR (0) 7 (8) (by decide) hz15
  refine g_aload_n C dX11_init_66 rfl ?_
  refine g_new C cno_X11_45 dX11_init_67 rfl (by rw [hxN]; decide) hz16 ⟨(rl_i (by decide)), trivial, trivial, trivial⟩ ⟨(rl_i (by decide)), trivial⟩ (by rw [hR]; decide) (by rw [hR]; decide) ?_
  have hz17 := hz16.up
  refine g_dup C dX11_init_70 rfl ?_
  refine g_callI C (As := []) (i_X2 x.1.2.1 (r := 11) (N := 12) (by decide) rfl rfl rfl rfl rfl hz17) io_X11_47 dX11_init_71 rfl (by rw [hxN]; decide) ⟨(rl_i (by decide)), trivial, trivial, trivial⟩ ⟨(rl_i (by decide)), (rl_i (by decide)), trivial⟩ rfl (rm_ok (M' := NX11) hR (by decide)) (Nat.le_of_ble_eq_true rfl) (fun S9 h9 => ?_)
  obtain ⟨h9, hz9⟩ := h9
  subst h9
  have hz18 := hz9
  clear hz9
  refine p_putF C hin ff_X11_48 dX11_init_74 rfl (by decide) (by decide) (Or.inl ⟨_, rfl⟩) ?_
  have hz19 := zf_pR (0) 8 (11) (by decide) hz18
  refine g_aload_n C dX11_init_77 rfl ?_
  refine g_new C cno_X11_52 dX11_init_78 rfl (by rw [hxN]; decide) hz19 ⟨(rl_i (by decide)), trivial, trivial, trivial⟩ ⟨(rl_i (by decide)), trivial⟩ (by rw [hR]; decide) (by rw [hR]; decide) ?_
  have hz20 := hz19.up
  refine g_dup C dX11_init_81 rfl ?_
  refine g_callI C (As := []) (i_X9 x.1.2.1 (r := 16) (N := 17) (by decide) rfl rfl rfl hz20) io_X11_54 dX11_init_82 rfl (by rw [hxN]; decide) ⟨(rl_i (by decide)), trivial, trivial, trivial⟩ ⟨(rl_i (by decide)), (rl_i (by decide)), trivial⟩ rfl (rm_ok (M' := NX11) hR (by decide)) (Nat.le_of_ble_eq_true rfl) (fun S9 h9 => ?_)
  obtain ⟨h9, hz9⟩ := h9
  subst h9
  have hz21 := hz9
  clear hz9
  refine p_putF C hin ff_X11_55 dX11_init_85 rfl (by decide) (by decide) (Or.inl ⟨_, rfl⟩) ?_
  have hz22 := zf_pR (0) 9 (16) (by decide) hz21
  refine g_aload_n C dX11_init_88 rfl ?_
  refine g_new C cno_X11_9 dX11_init_89 rfl (by rw [hxN]; decide) hz22 ⟨(rl_i (by decide)), trivial, trivial, trivial⟩ ⟨(rl_i (by decide)), trivial⟩ (by rw [hR]; decide) (by rw [hR]; decide) ?_
  have hz23 := hz22.up
  refine g_dup C dX11_init_92 rfl ?_
  refine g_callI C (As := []) (i_X1 x.1.2.1 (r := 19) (N := 20) (by decide) rfl rfl hz23) io_X11_59 dX11_init_93 rfl (by rw [hxN]; decide) ⟨(rl_i (by decide)), trivial, trivial, trivial⟩ ⟨(rl_i (by decide)), (rl_i (by decide)), trivial⟩ rfl (rm_ok (M' := NX11) hR (by decide)) (Nat.le_of_ble_eq_true rfl) (fun S9 h9 => ?_)
  obtain ⟨h9, hz9⟩ := h9
  subst h9
  have hz24 := hz9
  clear hz9
  refine p_putF C hin ff_X11_60 dX11_init_96 rfl (by decide) (by decide) (Or.inl ⟨_, rfl⟩) ?_
  have hz25 := zf_pR (0) 11 (19) (by decide) hz24
  refine g_aload_n C dX11_init_99 rfl ?_
  refine g_new C cno_X11_32 dX11_init_100 rfl (by rw [hxN]; decide) hz25 ⟨(rl_i (by decide)), trivial, trivial, trivial⟩ ⟨(rl_i (by decide)), trivial⟩ (by rw [hR]; decide) (by rw [hR]; decide) ?_
  have hz26 := hz25.up
  refine g_dup C dX11_init_103 rfl ?_
  refine g_callI C (As := []) (i_X7 x.1.2.1 (r := 21) (N := 22) (by decide) rfl rfl rfl rfl rfl hz26) io_X11_64 dX11_init_104 rfl (by rw [hxN]; decide) ⟨(rl_i (by decide)), trivial, trivial, trivial⟩ ⟨(rl_i (by decide)), (rl_i (by decide)), trivial⟩ rfl (rm_ok (M' := NX11) hR (by decide)) (Nat.le_of_ble_eq_true rfl) (fun S9 h9 => ?_)
  obtain ⟨h9, hz9⟩ := h9
  subst h9
  have hz27 := hz9
  clear hz9
  refine p_putF C hin ff_X11_65 dX11_init_107 rfl (by decide) (by decide) (Or.inl ⟨_, rfl⟩) ?_
  have hz28 := zf_pR (0) 12 (21) (by decide) hz27
  refine g_new C cno_X11_69 dX11_init_110 rfl (by rw [hxN]; decide) hz28 ⟨(rl_i (by decide)), trivial, trivial, trivial⟩ trivial (by rw [hR]; decide) (by rw [hR]; decide) ?_
  have hz29 := hz28.up
  refine g_dup C dX11_init_113 rfl ?_
  refine g_callI C (As := []) (i_X3 x.1.2.1 (r := 26) (N := 27) (by decide) rfl rfl rfl hz29) io_X11_71 dX11_init_114 rfl (by rw [hxN]; decide) ⟨(rl_i (by decide)), trivial, trivial, trivial⟩ ⟨(rl_i (by decide)), trivial⟩ rfl (rm_ok (M' := NX11) hR (by decide)) (Nat.le_of_ble_eq_true rfl) (fun S9 h9 => ?_)
  obtain ⟨h9, hz9⟩ := h9
  subst h9
  have hz30 := hz9
  clear hz9
  refine g_astore_n C (by rw [hmL]; decide) dX11_init_117 [.ref (0), .ref (26), unk] rfl ?_
  refine g_aload_n C dX11_init_118 rfl ?_
  refine g_new C cno_X11_72 dX11_init_119 rfl (by rw [hxN]; decide) hz30 ⟨(rl_i (by decide)), (rl_i (by decide)), trivial, trivial⟩ ⟨(rl_i (by decide)), trivial⟩ (by rw [hR]; decide) (by rw [hR]; decide) ?_
  have hz31 := hz30.up
  refine g_dup C dX11_init_122 rfl ?_
  refine g_aload_n C dX11_init_123 rfl ?_
  refine g_callI C (As := [.ref (26)]) (i_X5 x.1.2.1 (r := 29) (N := 30) (by decide) rfl (kt := 26) (by decide) rfl rfl rfl rfl rfl rfl rfl hz31) io_X11_74 dX11_init_124 rfl (by rw [hxN]; decide) ⟨(rl_i (by decide)), (rl_i (by decide)), trivial, trivial⟩ ⟨(rl_i (by decide)), (rl_i (by decide)), trivial⟩ rfl (rm_ok (M' := NX11) hR (by decide)) (Nat.le_of_ble_eq_true rfl) (fun S9 h9 => ?_)
  obtain ⟨h9, hz9⟩ := h9
  subst h9
  have hz32 := hz9
  clear hz9
  refine p_putF C hin ff_X11_77 dX11_init_127 rfl (by decide) (by decide) (Or.inl ⟨_, rfl⟩) ?_
  have hz33 := zf_pR (0) 6 (29) (by decide) hz32
  refine g_aload_n C dX11_init_130 rfl ?_
  refine g_new C cno_X11_81 dX11_init_131 rfl (by rw [hxN]; decide) hz33 ⟨(rl_i (by decide)), (rl_i (by decide)), trivial, trivial⟩ ⟨(rl_i (by decide)), trivial⟩ (by rw [hR]; decide) (by rw [hR]; decide) ?_
  have hz34 := hz33.up
  refine g_dup C dX11_init_134 rfl ?_
  refine g_aload_n C dX11_init_135 rfl ?_
  refine g_callI C (As := [.ref (26)]) (i_X0 x.1.2.1 (r := 37) (N := 38) (by decide) rfl (kt := 26) (by decide) rfl rfl rfl rfl rfl rfl rfl rfl rfl rfl rfl rfl rfl rfl rfl hz34) io_X11_83 dX11_init_136 rfl (by rw [hxN]; decide) ⟨(rl_i (by decide)), (rl_i (by decide)), trivial, trivial⟩ ⟨(rl_i (by decide)), (rl_i (by decide)), trivial⟩ rfl (rm_ok (M' := NX11) hR (by decide)) (Nat.le_of_ble_eq_true rfl) (fun S9 h9 => ?_)
  obtain ⟨h9, hz9⟩ := h9
  subst h9
  have hz35 := hz9
  clear hz9
  refine p_putF C hin ff_X11_84 dX11_init_139 rfl (by decide) (by decide) (Or.inl ⟨_, rfl⟩) ?_
  have hz36 := zf_pR (0) 10 (37) (by decide) hz35
  refine n_iconst C 0 dX11_init_142 ?_
  refine g_istore_n C (by rw [hmL]; decide) dX11_init_143 [.ref (0), .ref (26), .int (nI 0)] rfl ?_
  refine g_iload_n C dX11_init_144 rfl ?_
  refine n_iconst C 3 dX11_init_145 ?_
  refine n_ic_ge C 181 dX11_init_146 (fun h => absurd h (by decide)) (fun _ => ?_)
  refine g_aload_n C dX11_init_149 rfl ?_
  refine g_getR C fo_X11_11 (q := 1) dX11_init_150 rfl (by decide) (fun _ => rfl) rfl ?_
  refine g_iload_n C dX11_init_153 rfl ?_
  refine g_new C cno_X11_9 dX11_init_154 rfl (by rw [hxN]; decide) hz36 ⟨(rl_i (by decide)), (rl_i (by decide)), trivial, trivial⟩ ⟨trivial, (rl_i (by decide)), trivial⟩ (by rw [hR]; decide) (by rw [hR]; decide) ?_
  have hz37 := hz36.up
  refine g_dup C dX11_init_157 rfl ?_
  refine g_callI C (As := []) (i_X1 x.1.2.1 (r := 53) (N := 54) (by decide) rfl rfl hz37) io_X11_59 dX11_init_158 rfl (by rw [hxN]; decide) ⟨(rl_i (by decide)), (rl_i (by decide)), trivial, trivial⟩ ⟨(rl_i (by decide)), trivial, (rl_i (by decide)), trivial⟩ rfl (rm_ok (M' := NX11) hR (by decide)) (Nat.le_of_ble_eq_true rfl) (fun S9 h9 => ?_)
  obtain ⟨h9, hz9⟩ := h9
  subst h9
  have hz38 := hz9
  clear hz9
  refine p_aast C dX11_init_161 ko_X1.1 rfl (Or.inl rfl) rfl (by decide) (by decide) rfl (by decide) ?_
  have hz39 := zf_pR (1) 0 (53) (by decide) hz38
  refine g_aload_n C dX11_init_162 rfl ?_
  refine g_getR C fo_X11_15 (q := 2) dX11_init_163 rfl (by decide) (fun _ => rfl) rfl ?_
  refine g_iload_n C dX11_init_166 rfl ?_
  refine g_new C cno_X11_9 dX11_init_167 rfl (by rw [hxN]; decide) hz39 ⟨(rl_i (by decide)), (rl_i (by decide)), trivial, trivial⟩ ⟨trivial, (rl_i (by decide)), trivial⟩ (by rw [hR]; decide) (by rw [hR]; decide) ?_
  have hz40 := hz39.up
  refine g_dup C dX11_init_170 rfl ?_
  refine g_callI C (As := []) (i_X1 x.1.2.1 (r := 55) (N := 56) (by decide) rfl rfl hz40) io_X11_59 dX11_init_171 rfl (by rw [hxN]; decide) ⟨(rl_i (by decide)), (rl_i (by decide)), trivial, trivial⟩ ⟨(rl_i (by decide)), trivial, (rl_i (by decide)), trivial⟩ rfl (rm_ok (M' := NX11) hR (by decide)) (Nat.le_of_ble_eq_true rfl) (fun S9 h9 => ?_)
  obtain ⟨h9, hz9⟩ := h9
  subst h9
  have hz41 := hz9
  clear hz9
  refine p_aast C dX11_init_174 ko_X1.1 rfl (Or.inl rfl) rfl (by decide) (by decide) rfl (by decide) ?_
  have hz42 := zf_pR (2) 0 (55) (by decide) hz41
  refine n_iinc C (by rw [hmL]; decide) dX11_init_175 rfl (n_i1 _) [.ref (0), .ref (26), .int (nI 1)] ?_
  refine g_goto C 144 dX11_init_178 (by decide) ?_
  refine g_iload_n C dX11_init_144 rfl ?_
  refine n_iconst C 3 dX11_init_145 ?_
  refine n_ic_ge C 181 dX11_init_146 (fun h => absurd h (by decide)) (fun _ => ?_)
  refine g_aload_n C dX11_init_149 rfl ?_
  refine g_getR C fo_X11_11 (q := 1) dX11_init_150 rfl (by decide) (fun _ => rfl) rfl ?_
  refine g_iload_n C dX11_init_153 rfl ?_
  refine g_new C cno_X11_9 dX11_init_154 rfl (by rw [hxN]; decide) hz42 ⟨(rl_i (by decide)), (rl_i (by decide)), trivial, trivial⟩ ⟨trivial, (rl_i (by decide)), trivial⟩ (by rw [hR]; decide) (by rw [hR]; decide) ?_
  have hz43 := hz42.up
  refine g_dup C dX11_init_157 rfl ?_
  refine g_callI C (As := []) (i_X1 x.1.2.1 (r := 57) (N := 58) (by decide) rfl rfl hz43) io_X11_59 dX11_init_158 rfl (by rw [hxN]; decide) ⟨(rl_i (by decide)), (rl_i (by decide)), trivial, trivial⟩ ⟨(rl_i (by decide)), trivial, (rl_i (by decide)), trivial⟩ rfl (rm_ok (M' := NX11) hR (by decide)) (Nat.le_of_ble_eq_true rfl) (fun S9 h9 => ?_)
  obtain ⟨h9, hz9⟩ := h9
  subst h9
  have hz44 := hz9
  clear hz9
  refine p_aast C dX11_init_161 ko_X1.1 rfl (Or.inl rfl) rfl (by decide) (by decide) rfl (by decide) ?_
  have hz45 := zf_pR (1) 1 (57) (by decide) hz44
  refine g_aload_n C dX11_init_162 rfl ?_
  refine g_getR C fo_X11_15 (q := 2) dX11_init_163 rfl (by decide) (fun _ => rfl) rfl ?_
  refine g_iload_n C dX11_init_166 rfl ?_
  refine g_new C cno_X11_9 dX11_init_167 rfl (by rw [hxN]; decide) hz45 ⟨(rl_i (by decide)), (rl_i (by decide)), trivial, trivial⟩ ⟨trivial, (rl_i (by decide)), trivial⟩ (by rw [hR]; decide) (by rw [hR]; decide) ?_
  have hz46 := hz45.up
  refine g_dup C dX11_init_170 rfl ?_
  refine g_callI C (As := []) (i_X1 x.1.2.1 (r := 59) (N := 60) (by decide) rfl rfl hz46) io_X11_59 dX11_init_171 rfl (by rw [hxN]; decide) ⟨(rl_i (by decide)), (rl_i (by decide)), trivial, trivial⟩ ⟨(rl_i (by decide)), trivial, (rl_i (by decide)), trivial⟩ rfl (rm_ok (M' := NX11) hR (by decide)) (Nat.le_of_ble_eq_true rfl) (fun S9 h9 => ?_)
  obtain ⟨h9, hz9⟩ := h9
  subst h9
  have hz47 := hz9
  clear hz9
  refine p_aast C dX11_init_174 ko_X1.1 rfl (Or.inl rfl) rfl (by decide) (by decide) rfl (by decide) ?_
  have hz48 := zf_pR (2) 1 (59) (by decide) hz47
  refine n_iinc C (by rw [hmL]; decide) dX11_init_175 rfl (n_i1 _) [.ref (0), .ref (26), .int (nI 2)] ?_
  refine g_goto C 144 dX11_init_178 (by decide) ?_
  refine g_iload_n C dX11_init_144 rfl ?_
  refine n_iconst C 3 dX11_init_145 ?_
  refine n_ic_ge C 181 dX11_init_146 (fun h => absurd h (by decide)) (fun _ => ?_)
  refine g_aload_n C dX11_init_149 rfl ?_
  refine g_getR C fo_X11_11 (q := 1) dX11_init_150 rfl (by decide) (fun _ => rfl) rfl ?_
  refine g_iload_n C dX11_init_153 rfl ?_
  refine g_new C cno_X11_9 dX11_init_154 rfl (by rw [hxN]; decide) hz48 ⟨(rl_i (by decide)), (rl_i (by decide)), trivial, trivial⟩ ⟨trivial, (rl_i (by decide)), trivial⟩ (by rw [hR]; decide) (by rw [hR]; decide) ?_
  have hz49 := hz48.up
  refine g_dup C dX11_init_157 rfl ?_
  refine g_callI C (As := []) (i_X1 x.1.2.1 (r := 61) (N := 62) (by decide) rfl rfl hz49) io_X11_59 dX11_init_158 rfl (by rw [hxN]; decide) ⟨(rl_i (by decide)), (rl_i (by decide)), trivial, trivial⟩ ⟨(rl_i (by decide)), trivial, (rl_i (by decide)), trivial⟩ rfl (rm_ok (M' := NX11) hR (by decide)) (Nat.le_of_ble_eq_true rfl) (fun S9 h9 => ?_)
  obtain ⟨h9, hz9⟩ := h9
  subst h9
  have hz50 := hz9
  clear hz9
  refine p_aast C dX11_init_161 ko_X1.1 rfl (Or.inl rfl) rfl (by decide) (by decide) rfl (by decide) ?_
  have hz51 := zf_pR (1) 2 (61) (by decide) hz50
  refine g_aload_n C dX11_init_162 rfl ?_
  refine g_getR C fo_X11_15 (q := 2) dX11_init_163 rfl (by decide) (fun _ => rfl) rfl ?_
  refine g_iload_n C dX11_init_166 rfl ?_
  refine g_new C cno_X11_9 dX11_init_167 rfl (by rw [hxN]; decide) hz51 ⟨(rl_i (by decide)), (rl_i (by decide)), trivial, trivial⟩ ⟨trivial, (rl_i (by decide)), trivial⟩ (by rw [hR]; decide) (by rw [hR]; decide) ?_
  have hz52 := hz51.up
  refine g_dup C dX11_init_170 rfl ?_
  refine g_callI C (As := []) (i_X1 x.1.2.1 (r := 63) (N := 64) (by decide) rfl rfl hz52) io_X11_59 dX11_init_171 rfl (by rw [hxN]; decide) ⟨(rl_i (by decide)), (rl_i (by decide)), trivial, trivial⟩ ⟨(rl_i (by decide)), trivial, (rl_i (by decide)), trivial⟩ rfl (rm_ok (M' := NX11) hR (by decide)) (Nat.le_of_ble_eq_true rfl) (fun S9 h9 => ?_)
  obtain ⟨h9, hz9⟩ := h9
  subst h9
  have hz53 := hz9
  clear hz9
  refine p_aast C dX11_init_174 ko_X1.1 rfl (Or.inl rfl) rfl (by decide) (by decide) rfl (by decide) ?_
  have hz54 := zf_pR (2) 2 (63) (by decide) hz53
  refine n_iinc C (by rw [hmL]; decide) dX11_init_175 rfl (n_i1 _) [.ref (0), .ref (26), .int (nI 3)] ?_
  refine g_goto C 144 dX11_init_178 (by decide) ?_
  refine g_iload_n C dX11_init_144 rfl ?_
  refine n_iconst C 3 dX11_init_145 ?_
  refine n_ic_ge C 181 dX11_init_146 (fun _ => ?_) (fun h => absurd h (by decide))
  refine n_iconst C 0 dX11_init_181 ?_
  refine g_istore_n C (by rw [hmL]; decide) dX11_init_182 [.ref (0), .ref (26), .int (nI 0)] rfl ?_
  refine g_iload_n C dX11_init_183 rfl ?_
  refine n_iconst C 2 dX11_init_184 ?_
  refine n_ic_ge C 207 dX11_init_185 (fun h => absurd h (by decide)) (fun _ => ?_)
  refine g_aload_n C dX11_init_188 rfl ?_
  refine g_getR C fo_X11_34 (q := 7) dX11_init_189 rfl (by decide) (fun _ => rfl) rfl ?_
  refine g_iload_n C dX11_init_192 rfl ?_
  refine g_new C cno_X11_32 dX11_init_193 rfl (by rw [hxN]; decide) hz54 ⟨(rl_i (by decide)), (rl_i (by decide)), trivial, trivial⟩ ⟨trivial, (rl_i (by decide)), trivial⟩ (by rw [hR]; decide) (by rw [hR]; decide) ?_
  have hz55 := hz54.up
  refine g_dup C dX11_init_196 rfl ?_
  refine g_callI C (As := []) (i_X7 x.1.2.1 (r := 65) (N := 66) (by decide) rfl rfl rfl rfl rfl hz55) io_X11_64 dX11_init_197 rfl (by rw [hxN]; decide) ⟨(rl_i (by decide)), (rl_i (by decide)), trivial, trivial⟩ ⟨(rl_i (by decide)), trivial, (rl_i (by decide)), trivial⟩ rfl (rm_ok (M' := NX11) hR (by decide)) (Nat.le_of_ble_eq_true rfl) (fun S9 h9 => ?_)
  obtain ⟨h9, hz9⟩ := h9
  subst h9
  have hz56 := hz9
  clear hz9
  refine p_aast C dX11_init_200 ko_X7.1 rfl (Or.inr rfl) rfl (by decide) (by decide) rfl (by decide) ?_
  have hz57 := zf_pR (7) 0 (65) (by decide) hz56
  refine n_iinc C (by rw [hmL]; decide) dX11_init_201 rfl (n_i1 _) [.ref (0), .ref (26), .int (nI 1)] ?_
  refine g_goto C 183 dX11_init_204 (by decide) ?_
  refine g_iload_n C dX11_init_183 rfl ?_
  refine n_iconst C 2 dX11_init_184 ?_
  refine n_ic_ge C 207 dX11_init_185 (fun h => absurd h (by decide)) (fun _ => ?_)
  refine g_aload_n C dX11_init_188 rfl ?_
  refine g_getR C fo_X11_34 (q := 7) dX11_init_189 rfl (by decide) (fun _ => rfl) rfl ?_
  refine g_iload_n C dX11_init_192 rfl ?_
  refine g_new C cno_X11_32 dX11_init_193 rfl (by rw [hxN]; decide) hz57 ⟨(rl_i (by decide)), (rl_i (by decide)), trivial, trivial⟩ ⟨trivial, (rl_i (by decide)), trivial⟩ (by rw [hR]; decide) (by rw [hR]; decide) ?_
  have hz58 := hz57.up
  refine g_dup C dX11_init_196 rfl ?_
  refine g_callI C (As := []) (i_X7 x.1.2.1 (r := 70) (N := 71) (by decide) rfl rfl rfl rfl rfl hz58) io_X11_64 dX11_init_197 rfl (by rw [hxN]; decide) ⟨(rl_i (by decide)), (rl_i (by decide)), trivial, trivial⟩ ⟨(rl_i (by decide)), trivial, (rl_i (by decide)), trivial⟩ rfl (rm_ok (M' := NX11) hR (by decide)) (Nat.le_of_ble_eq_true rfl) (fun S9 h9 => ?_)
  obtain ⟨h9, hz9⟩ := h9
  subst h9
  have hz59 := hz9
  clear hz9
  refine p_aast C dX11_init_200 ko_X7.1 rfl (Or.inr rfl) rfl (by decide) (by decide) rfl (by decide) ?_
  have hz60 := zf_pR (7) 1 (70) (by decide) hz59
  refine n_iinc C (by rw [hmL]; decide) dX11_init_201 rfl (n_i1 _) [.ref (0), .ref (26), .int (nI 2)] ?_
  refine g_goto C 183 dX11_init_204 (by decide) ?_
  refine g_iload_n C dX11_init_183 rfl ?_
  refine n_iconst C 2 dX11_init_184 ?_
  refine n_ic_ge C 207 dX11_init_185 (fun _ => ?_) (fun h => absurd h (by decide))
  exact g_vretN C E dX11_init_207 (by rw [hR]; decide) (by rw [hR]; decide) ⟨rfl, hz60⟩

theorem oi_X12_1 : Cond.methodLink RX12 1 Lib.objectInit ∈ TB := tb_in 1185 (by decide +kernel) (by decide +kernel)
theorem ff_X12_7 : FF RX12 7 11 1 := ⟨_, ko_X12, by decide, tb_in 1187 (by decide +kernel) (by decide +kernel), rfl, rfl⟩
theorem ff_X12_13 : FF RX12 13 11 2 := ⟨_, ko_X12, by decide, tb_in 1188 (by decide +kernel) (by decide +kernel), rfl, rfl⟩
theorem ff_X12_16 : FF RX12 16 11 3 := ⟨_, ko_X12, by decide, tb_in 1189 (by decide +kernel) (by decide +kernel), rfl, rfl⟩
theorem ff_X12_20 : FF RX12 20 11 5 := ⟨_, ko_X12, by decide, tb_in 1191 (by decide +kernel) (by decide +kernel), rfl, rfl⟩
theorem ff_X12_23 : FF RX12 23 11 6 := ⟨_, ko_X12, by decide, tb_in 1192 (by decide +kernel) (by decide +kernel), rfl, rfl⟩
theorem ff_X12_26 : FF RX12 26 11 7 := ⟨_, ko_X12, by decide, tb_in 1193 (by decide +kernel) (by decide +kernel), rfl, rfl⟩
theorem ff_X12_29 : FF RX12 29 11 8 := ⟨_, ko_X12, by decide, tb_in 1194 (by decide +kernel) (by decide +kernel), rfl, rfl⟩
theorem ff_X12_33 : FF RX12 33 11 9 := ⟨_, ko_X12, by decide, tb_in 1195 (by decide +kernel) (by decide +kernel), rfl, rfl⟩
theorem ff_X12_37 : FF RX12 37 11 11 := ⟨_, ko_X12, by decide, tb_in 1197 (by decide +kernel) (by decide +kernel), rfl, rfl⟩
theorem ff_X12_40 : FF RX12 40 11 12 := ⟨_, ko_X12, by decide, tb_in 1198 (by decide +kernel) (by decide +kernel), rfl, rfl⟩
theorem ff_X12_43 : FF RX12 43 11 13 := ⟨_, ko_X12, by decide, tb_in 1199 (by decide +kernel) (by decide +kernel), rfl, rfl⟩
theorem ff_X12_46 : FF RX12 46 11 15 := ⟨_, ko_X12, by decide, tb_in 1201 (by decide +kernel) (by decide +kernel), rfl, rfl⟩
theorem ff_X12_49 : FF RX12 49 11 18 := ⟨_, ko_X12, by decide, tb_in 1204 (by decide +kernel) (by decide +kernel), rfl, rfl⟩
theorem ff_X12_53 : FF RX12 53 11 19 := ⟨_, ko_X12, by decide, tb_in 1205 (by decide +kernel) (by decide +kernel), rfl, rfl⟩
theorem ff_X12_56 : FF RX12 56 11 20 := ⟨_, ko_X12, by decide, tb_in 1206 (by decide +kernel) (by decide +kernel), rfl, rfl⟩
theorem ff_X12_59 : FF RX12 59 11 25 := ⟨_, ko_X12, by decide, tb_in 1211 (by decide +kernel) (by decide +kernel), rfl, rfl⟩
theorem ff_X12_62 : FF RX12 62 11 26 := ⟨_, ko_X12, by decide, tb_in 1212 (by decide +kernel) (by decide +kernel), rfl, rfl⟩
theorem ff_X12_65 : FF RX12 65 11 27 := ⟨_, ko_X12, by decide, tb_in 1213 (by decide +kernel) (by decide +kernel), rfl, rfl⟩
theorem ff_X12_68 : FF RX12 68 11 28 := ⟨_, ko_X12, by decide, tb_in 1214 (by decide +kernel) (by decide +kernel), rfl, rfl⟩
theorem ff_X12_71 : FF RX12 71 11 31 := ⟨_, ko_X12, by decide, tb_in 1217 (by decide +kernel) (by decide +kernel), rfl, rfl⟩
theorem ff_X12_74 : FF RX12 74 11 32 := ⟨_, ko_X12, by decide, tb_in 1218 (by decide +kernel) (by decide +kernel), rfl, rfl⟩
theorem ff_X12_77 : FF RX12 77 11 34 := ⟨_, ko_X12, by decide, tb_in 1220 (by decide +kernel) (by decide +kernel), rfl, rfl⟩
theorem ff_X12_80 : FF RX12 80 11 35 := ⟨_, ko_X12, by decide, tb_in 1221 (by decide +kernel) (by decide +kernel), rfl, rfl⟩
theorem ff_X12_83 : FF RX12 83 11 37 := ⟨_, ko_X12, by decide, tb_in 1223 (by decide +kernel) (by decide +kernel), rfl, rfl⟩
theorem ff_X12_86 : FF RX12 86 11 38 := ⟨_, ko_X12, by decide, tb_in 1224 (by decide +kernel) (by decide +kernel), rfl, rfl⟩
theorem ff_X12_89 : FF RX12 89 11 39 := ⟨_, ko_X12, by decide, tb_in 1225 (by decide +kernel) (by decide +kernel), rfl, rfl⟩
theorem ff_X12_92 : FF RX12 92 11 41 := ⟨_, ko_X12, by decide, tb_in 1227 (by decide +kernel) (by decide +kernel), rfl, rfl⟩
theorem ff_X12_95 : FF RX12 95 11 42 := ⟨_, ko_X12, by decide, tb_in 1228 (by decide +kernel) (by decide +kernel), rfl, rfl⟩
abbrev NX12 : Me := (yX12_init, cX12_init, 1, none, { frames := 1, cells := 28, slots := 15458, locals := 40 })
def sX12 (S : pv_M) : pv_M := (pR (pR (pR (pR (pR (pR (pR (pR (pR (pR (pR (pR (pR (pR (pR (pR (pR (pR (pR (pR (pR (pR (pR (pR (pR (pR (pR (pR (pI (pI (pI S (76) 0 (nI 1)) (76) 1 (nI 1)) (76) 2 (nI 1)) (75) 1 (76)) (75) 2 (77)) (75) 3 (78)) (75) 5 (79)) (75) 6 (80)) (75) 7 (81)) (75) 8 (82)) (75) 9 (83)) (75) 11 (84)) (75) 12 (85)) (75) 13 (86)) (75) 15 (87)) (75) 18 (88)) (75) 19 (89)) (75) 20 (90)) (75) 25 (91)) (75) 26 (92)) (75) 27 (93)) (75) 28 (94)) (75) 31 (95)) (75) 32 (96)) (75) 34 (97)) (75) 35 (98)) (75) 37 (99)) (75) 38 (100)) (75) 39 (101)) (75) 41 (102)) (75) 42 (103))
set_option maxRecDepth 100000 in
theorem i_X12 (l : Launch) {S : pv_M} (hz : ZF 76 S) : mtI l NX12 76 104 [.ref 75] S (fun S' => S' = sX12 S ∧ ZF 104 S') := by
  refine mtI_of (by decide) (Nat.le_of_ble_eq_true rfl) rfl ?_
  intro x hl hR hmL hxN hin C E
  show GG x 76 0 0 [.ref 75] [] S 0
  replace hin : x.2.2.1.1.name = "<init>" := hin
  refine g_aload_n C dX12_init_0 rfl ?_
  refine g_oi C oi_X12_1 oi_1 oi_2 dX12_init_1 (by rw [hR]; decide) (by rw [hR]; decide) ?_
  refine g_aload_n C dX12_init_4 rfl ?_
  refine n_iconst C 3 dX12_init_5 ?_
  refine g_newI C aw_I dX12_init_6 (by decide) rfl (by rw [hxN]; decide) hz ⟨(rl_i (by decide)), trivial⟩ ⟨(rl_i (by decide)), trivial⟩ (by rw [hR]; decide) (by rw [hR]; decide) ?_
  have hz1 := hz.up
  refine g_dup C dX12_init_8 rfl ?_
  refine n_iconst C 0 dX12_init_9 ?_
  refine n_iconst C 1 dX12_init_10 ?_
  refine p_iast C dX12_init_11 rfl (by decide) (by decide) ?_
  have hz2 := zf_pI (76) 0 (nI 1) (by decide) hz1
  refine g_dup C dX12_init_12 rfl ?_
  refine n_iconst C 1 dX12_init_13 ?_
  refine n_iconst C 1 dX12_init_14 ?_
  refine p_iast C dX12_init_15 rfl (by decide) (by decide) ?_
  have hz3 := zf_pI (76) 1 (nI 1) (by decide) hz2
  refine g_dup C dX12_init_16 rfl ?_
  refine n_iconst C 2 dX12_init_17 ?_
  refine n_iconst C 1 dX12_init_18 ?_
  refine p_iast C dX12_init_19 rfl (by decide) (by decide) ?_
  have hz4 := zf_pI (76) 2 (nI 1) (by decide) hz3
  refine p_putF C hin ff_X12_7 dX12_init_20 rfl (by decide) (by decide) (Or.inr ⟨_, rfl⟩) ?_
  have hz5 := zf_pR (75) 1 (76) (by decide) hz4
  refine g_aload_n C dX12_init_23 rfl ?_
  refine n_bipush C 54 dX12_init_24 ?_
  refine g_newI C aw_I dX12_init_26 (by decide) rfl (by rw [hxN]; decide) hz5 ⟨(rl_i (by decide)), trivial⟩ ⟨(rl_i (by decide)), trivial⟩ (by rw [hR]; decide) (by rw [hR]; decide) ?_
  have hz6 := hz5.up
  refine p_putF C hin ff_X12_13 dX12_init_28 rfl (by decide) (by decide) (Or.inr ⟨_, rfl⟩) ?_
  have hz7 := zf_pR (75) 2 (77) (by decide) hz6
  refine g_aload_n C dX12_init_31 rfl ?_
  refine n_bipush C 18 dX12_init_32 ?_
  refine g_newZ C aw_Z dX12_init_34 (by decide) rfl (by rw [hxN]; decide) hz7 ⟨(rl_i (by decide)), trivial⟩ ⟨(rl_i (by decide)), trivial⟩ (by rw [hR]; decide) (by rw [hR]; decide) ?_
  have hz8 := hz7.up
  refine p_putF C hin ff_X12_16 dX12_init_36 rfl (by decide) (by decide) (Or.inr ⟨_, rfl⟩) ?_
  have hz9 := zf_pR (75) 3 (78) (by decide) hz8
  refine g_aload_n C dX12_init_39 rfl ?_
  refine n_bipush C 12 dX12_init_40 ?_
  refine g_newI C aw_I dX12_init_42 (by decide) rfl (by rw [hxN]; decide) hz9 ⟨(rl_i (by decide)), trivial⟩ ⟨(rl_i (by decide)), trivial⟩ (by rw [hR]; decide) (by rw [hR]; decide) ?_
  have hz10 := hz9.up
  refine p_putF C hin ff_X12_20 dX12_init_44 rfl (by decide) (by decide) (Or.inr ⟨_, rfl⟩) ?_
  have hz11 := zf_pR (75) 5 (79) (by decide) hz10
  refine g_aload_n C dX12_init_47 rfl ?_
  refine n_iconst C 2 dX12_init_48 ?_
  refine g_newI C aw_I dX12_init_49 (by decide) rfl (by rw [hxN]; decide) hz11 ⟨(rl_i (by decide)), trivial⟩ ⟨(rl_i (by decide)), trivial⟩ (by rw [hR]; decide) (by rw [hR]; decide) ?_
  have hz12 := hz11.up
  refine p_putF C hin ff_X12_23 dX12_init_51 rfl (by decide) (by decide) (Or.inr ⟨_, rfl⟩) ?_
  have hz13 := zf_pR (75) 6 (80) (by decide) hz12
  refine g_aload_n C dX12_init_54 rfl ?_
  refine n_iconst C 2 dX12_init_55 ?_
  refine g_newI C aw_I dX12_init_56 (by decide) rfl (by rw [hxN]; decide) hz13 ⟨(rl_i (by decide)), trivial⟩ ⟨(rl_i (by decide)), trivial⟩ (by rw [hR]; decide) (by rw [hR]; decide) ?_
  have hz14 := hz13.up
  refine p_putF C hin ff_X12_26 dX12_init_58 rfl (by decide) (by decide) (Or.inr ⟨_, rfl⟩) ?_
  have hz15 := zf_pR (75) 7 (81) (by decide) hz14
  refine g_aload_n C dX12_init_61 rfl ?_
  refine n_bipush C 42 dX12_init_62 ?_
  refine g_newF C aw_F dX12_init_64 (by decide) rfl (by rw [hxN]; decide) hz15 ⟨(rl_i (by decide)), trivial⟩ ⟨(rl_i (by decide)), trivial⟩ (by rw [hR]; decide) (by rw [hR]; decide) ?_
  have hz16 := hz15.up
  refine p_putF C hin ff_X12_29 dX12_init_66 rfl (by decide) (by decide) (Or.inr ⟨_, rfl⟩) ?_
  have hz17 := zf_pR (75) 8 (82) (by decide) hz16
  refine g_aload_n C dX12_init_69 rfl ?_
  refine n_bipush C 42 dX12_init_70 ?_
  refine g_newD C aw_D dX12_init_72 (by decide) rfl (by rw [hxN]; decide) hz17 ⟨(rl_i (by decide)), trivial⟩ ⟨(rl_i (by decide)), trivial⟩ (by rw [hR]; decide) (by rw [hR]; decide) ?_
  have hz18 := hz17.up
  refine p_putF C hin ff_X12_33 dX12_init_74 rfl (by decide) (by decide) (Or.inr ⟨_, rfl⟩) ?_
  have hz19 := zf_pR (75) 9 (83) (by decide) hz18
  refine g_aload_n C dX12_init_77 rfl ?_
  refine n_iconst C 3 dX12_init_78 ?_
  refine g_newI C aw_I dX12_init_79 (by decide) rfl (by rw [hxN]; decide) hz19 ⟨(rl_i (by decide)), trivial⟩ ⟨(rl_i (by decide)), trivial⟩ (by rw [hR]; decide) (by rw [hR]; decide) ?_
  have hz20 := hz19.up
  refine p_putF C hin ff_X12_37 dX12_init_81 rfl (by decide) (by decide) (Or.inr ⟨_, rfl⟩) ?_
  have hz21 := zf_pR (75) 11 (84) (by decide) hz20
  refine g_aload_n C dX12_init_84 rfl ?_
  refine n_bipush C 54 dX12_init_85 ?_
  refine g_newI C aw_I dX12_init_87 (by decide) rfl (by rw [hxN]; decide) hz21 ⟨(rl_i (by decide)), trivial⟩ ⟨(rl_i (by decide)), trivial⟩ (by rw [hR]; decide) (by rw [hR]; decide) ?_
  have hz22 := hz21.up
  refine p_putF C hin ff_X12_40 dX12_init_89 rfl (by decide) (by decide) (Or.inr ⟨_, rfl⟩) ?_
  have hz23 := zf_pR (75) 12 (85) (by decide) hz22
  refine g_aload_n C dX12_init_92 rfl ?_
  refine n_bipush C 18 dX12_init_93 ?_
  refine g_newZ C aw_Z dX12_init_95 (by decide) rfl (by rw [hxN]; decide) hz23 ⟨(rl_i (by decide)), trivial⟩ ⟨(rl_i (by decide)), trivial⟩ (by rw [hR]; decide) (by rw [hR]; decide) ?_
  have hz24 := hz23.up
  refine p_putF C hin ff_X12_43 dX12_init_97 rfl (by decide) (by decide) (Or.inr ⟨_, rfl⟩) ?_
  have hz25 := zf_pR (75) 13 (86) (by decide) hz24
  refine g_aload_n C dX12_init_100 rfl ?_
  refine n_bipush C 12 dX12_init_101 ?_
  refine g_newI C aw_I dX12_init_103 (by decide) rfl (by rw [hxN]; decide) hz25 ⟨(rl_i (by decide)), trivial⟩ ⟨(rl_i (by decide)), trivial⟩ (by rw [hR]; decide) (by rw [hR]; decide) ?_
  have hz26 := hz25.up
  refine p_putF C hin ff_X12_46 dX12_init_105 rfl (by decide) (by decide) (Or.inr ⟨_, rfl⟩) ?_
  have hz27 := zf_pR (75) 15 (87) (by decide) hz26
  refine g_aload_n C dX12_init_108 rfl ?_
  refine n_sipush C 740 dX12_init_109 ?_
  refine g_newJ C aw_J dX12_init_112 (by decide) rfl (by rw [hxN]; decide) hz27 ⟨(rl_i (by decide)), trivial⟩ ⟨(rl_i (by decide)), trivial⟩ (by rw [hR]; decide) (by rw [hR]; decide) ?_
  have hz28 := hz27.up
  refine p_putF C hin ff_X12_49 dX12_init_114 rfl (by decide) (by decide) (Or.inr ⟨_, rfl⟩) ?_
  have hz29 := zf_pR (75) 18 (88) (by decide) hz28
  refine g_aload_n C dX12_init_117 rfl ?_
  refine n_sipush C 2220 dX12_init_118 ?_
  refine g_newI C aw_I dX12_init_121 (by decide) rfl (by rw [hxN]; decide) hz29 ⟨(rl_i (by decide)), trivial⟩ ⟨(rl_i (by decide)), trivial⟩ (by rw [hR]; decide) (by rw [hR]; decide) ?_
  have hz30 := hz29.up
  refine p_putF C hin ff_X12_53 dX12_init_123 rfl (by decide) (by decide) (Or.inr ⟨_, rfl⟩) ?_
  have hz31 := zf_pR (75) 19 (89) (by decide) hz30
  refine g_aload_n C dX12_init_126 rfl ?_
  refine n_sipush C 740 dX12_init_127 ?_
  refine g_newZ C aw_Z dX12_init_130 (by decide) rfl (by rw [hxN]; decide) hz31 ⟨(rl_i (by decide)), trivial⟩ ⟨(rl_i (by decide)), trivial⟩ (by rw [hR]; decide) (by rw [hR]; decide) ?_
  have hz32 := hz31.up
  refine p_putF C hin ff_X12_56 dX12_init_132 rfl (by decide) (by decide) (Or.inr ⟨_, rfl⟩) ?_
  have hz33 := zf_pR (75) 20 (90) (by decide) hz32
  refine g_aload_n C dX12_init_135 rfl ?_
  refine n_sipush C 740 dX12_init_136 ?_
  refine g_newI C aw_I dX12_init_139 (by decide) rfl (by rw [hxN]; decide) hz33 ⟨(rl_i (by decide)), trivial⟩ ⟨(rl_i (by decide)), trivial⟩ (by rw [hR]; decide) (by rw [hR]; decide) ?_
  have hz34 := hz33.up
  refine p_putF C hin ff_X12_59 dX12_init_141 rfl (by decide) (by decide) (Or.inr ⟨_, rfl⟩) ?_
  have hz35 := zf_pR (75) 25 (91) (by decide) hz34
  refine g_aload_n C dX12_init_144 rfl ?_
  refine n_sipush C 740 dX12_init_145 ?_
  refine g_newI C aw_I dX12_init_148 (by decide) rfl (by rw [hxN]; decide) hz35 ⟨(rl_i (by decide)), trivial⟩ ⟨(rl_i (by decide)), trivial⟩ (by rw [hR]; decide) (by rw [hR]; decide) ?_
  have hz36 := hz35.up
  refine p_putF C hin ff_X12_62 dX12_init_150 rfl (by decide) (by decide) (Or.inr ⟨_, rfl⟩) ?_
  have hz37 := zf_pR (75) 26 (92) (by decide) hz36
  refine g_aload_n C dX12_init_153 rfl ?_
  refine n_sipush C 740 dX12_init_154 ?_
  refine g_newI C aw_I dX12_init_157 (by decide) rfl (by rw [hxN]; decide) hz37 ⟨(rl_i (by decide)), trivial⟩ ⟨(rl_i (by decide)), trivial⟩ (by rw [hR]; decide) (by rw [hR]; decide) ?_
  have hz38 := hz37.up
  refine p_putF C hin ff_X12_65 dX12_init_159 rfl (by decide) (by decide) (Or.inr ⟨_, rfl⟩) ?_
  have hz39 := zf_pR (75) 27 (93) (by decide) hz38
  refine g_aload_n C dX12_init_162 rfl ?_
  refine n_sipush C 740 dX12_init_163 ?_
  refine g_newI C aw_I dX12_init_166 (by decide) rfl (by rw [hxN]; decide) hz39 ⟨(rl_i (by decide)), trivial⟩ ⟨(rl_i (by decide)), trivial⟩ (by rw [hR]; decide) (by rw [hR]; decide) ?_
  have hz40 := hz39.up
  refine p_putF C hin ff_X12_68 dX12_init_168 rfl (by decide) (by decide) (Or.inr ⟨_, rfl⟩) ?_
  have hz41 := zf_pR (75) 28 (94) (by decide) hz40
  refine g_aload_n C dX12_init_171 rfl ?_
  refine n_bipush C 6 dX12_init_172 ?_
  refine g_newI C aw_I dX12_init_174 (by decide) rfl (by rw [hxN]; decide) hz41 ⟨(rl_i (by decide)), trivial⟩ ⟨(rl_i (by decide)), trivial⟩ (by rw [hR]; decide) (by rw [hR]; decide) ?_
  have hz42 := hz41.up
  refine p_putF C hin ff_X12_71 dX12_init_176 rfl (by decide) (by decide) (Or.inr ⟨_, rfl⟩) ?_
  have hz43 := zf_pR (75) 31 (95) (by decide) hz42
  refine g_aload_n C dX12_init_179 rfl ?_
  refine n_bipush C 64 dX12_init_180 ?_
  refine g_newI C aw_I dX12_init_182 (by decide) rfl (by rw [hxN]; decide) hz43 ⟨(rl_i (by decide)), trivial⟩ ⟨(rl_i (by decide)), trivial⟩ (by rw [hR]; decide) (by rw [hR]; decide) ?_
  have hz44 := hz43.up
  refine p_putF C hin ff_X12_74 dX12_init_184 rfl (by decide) (by decide) (Or.inr ⟨_, rfl⟩) ?_
  have hz45 := zf_pR (75) 32 (96) (by decide) hz44
  refine g_aload_n C dX12_init_187 rfl ?_
  refine n_bipush C 64 dX12_init_188 ?_
  refine g_newZ C aw_Z dX12_init_190 (by decide) rfl (by rw [hxN]; decide) hz45 ⟨(rl_i (by decide)), trivial⟩ ⟨(rl_i (by decide)), trivial⟩ (by rw [hR]; decide) (by rw [hR]; decide) ?_
  have hz46 := hz45.up
  refine p_putF C hin ff_X12_77 dX12_init_192 rfl (by decide) (by decide) (Or.inr ⟨_, rfl⟩) ?_
  have hz47 := zf_pR (75) 34 (97) (by decide) hz46
  refine g_aload_n C dX12_init_195 rfl ?_
  refine n_sipush C 192 dX12_init_196 ?_
  refine g_newJ C aw_J dX12_init_199 (by decide) rfl (by rw [hxN]; decide) hz47 ⟨(rl_i (by decide)), trivial⟩ ⟨(rl_i (by decide)), trivial⟩ (by rw [hR]; decide) (by rw [hR]; decide) ?_
  have hz48 := hz47.up
  refine p_putF C hin ff_X12_80 dX12_init_201 rfl (by decide) (by decide) (Or.inr ⟨_, rfl⟩) ?_
  have hz49 := zf_pR (75) 35 (98) (by decide) hz48
  refine g_aload_n C dX12_init_204 rfl ?_
  refine n_bipush C 6 dX12_init_205 ?_
  refine g_newI C aw_I dX12_init_207 (by decide) rfl (by rw [hxN]; decide) hz49 ⟨(rl_i (by decide)), trivial⟩ ⟨(rl_i (by decide)), trivial⟩ (by rw [hR]; decide) (by rw [hR]; decide) ?_
  have hz50 := hz49.up
  refine p_putF C hin ff_X12_83 dX12_init_209 rfl (by decide) (by decide) (Or.inr ⟨_, rfl⟩) ?_
  have hz51 := zf_pR (75) 37 (99) (by decide) hz50
  refine g_aload_n C dX12_init_212 rfl ?_
  refine n_sipush C 4096 dX12_init_213 ?_
  refine g_newZ C aw_Z dX12_init_216 (by decide) rfl (by rw [hxN]; decide) hz51 ⟨(rl_i (by decide)), trivial⟩ ⟨(rl_i (by decide)), trivial⟩ (by rw [hR]; decide) (by rw [hR]; decide) ?_
  have hz52 := hz51.up
  refine p_putF C hin ff_X12_86 dX12_init_218 rfl (by decide) (by decide) (Or.inr ⟨_, rfl⟩) ?_
  have hz53 := zf_pR (75) 38 (100) (by decide) hz52
  refine g_aload_n C dX12_init_221 rfl ?_
  refine n_sipush C 4096 dX12_init_222 ?_
  refine g_newI C aw_I dX12_init_225 (by decide) rfl (by rw [hxN]; decide) hz53 ⟨(rl_i (by decide)), trivial⟩ ⟨(rl_i (by decide)), trivial⟩ (by rw [hR]; decide) (by rw [hR]; decide) ?_
  have hz54 := hz53.up
  refine p_putF C hin ff_X12_89 dX12_init_227 rfl (by decide) (by decide) (Or.inr ⟨_, rfl⟩) ?_
  have hz55 := zf_pR (75) 39 (101) (by decide) hz54
  refine g_aload_n C dX12_init_230 rfl ?_
  refine n_bipush C 6 dX12_init_231 ?_
  refine g_newJ C aw_J dX12_init_233 (by decide) rfl (by rw [hxN]; decide) hz55 ⟨(rl_i (by decide)), trivial⟩ ⟨(rl_i (by decide)), trivial⟩ (by rw [hR]; decide) (by rw [hR]; decide) ?_
  have hz56 := hz55.up
  refine p_putF C hin ff_X12_92 dX12_init_235 rfl (by decide) (by decide) (Or.inr ⟨_, rfl⟩) ?_
  have hz57 := zf_pR (75) 41 (102) (by decide) hz56
  refine g_aload_n C dX12_init_238 rfl ?_
  refine n_bipush C 6 dX12_init_239 ?_
  refine g_newJ C aw_J dX12_init_241 (by decide) rfl (by rw [hxN]; decide) hz57 ⟨(rl_i (by decide)), trivial⟩ ⟨(rl_i (by decide)), trivial⟩ (by rw [hR]; decide) (by rw [hR]; decide) ?_
  have hz58 := hz57.up
  refine p_putF C hin ff_X12_95 dX12_init_243 rfl (by decide) (by decide) (Or.inr ⟨_, rfl⟩) ?_
  have hz59 := zf_pR (75) 42 (103) (by decide) hz58
  exact g_vretN C E dX12_init_246 (by rw [hR]; decide) (by rw [hR]; decide) ⟨rfl, hz59⟩

