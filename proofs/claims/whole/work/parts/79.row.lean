/-! rows for floating numbers -/
section DR
variable {x : Cx} {cc : ByteArray} {own : String} {N cs sl : Nat} {lv st : List Value} {S : pv_M} {pc : Nat}
theorem n_dald (C : BX x cc own) {r n j : Nat} {v : UInt64} (d : decode cc pc = .ok (.daload, 1)) (hs : pv_sh r = .inr (3, n)) (hr : r < N) (hv : mD S r j = v) (k : GG x N cs sl lv (.double v :: st) S (pc + 1)) (hj : j < n := by omega) : GG x N cs sl lv (.int (nI j) :: .ref r :: st) S pc := g_dald C d hs hr hj rfl (by rw [hv]; exact k)
theorem n_fald (C : BX x cc own) {r n j : Nat} {v : UInt32} (d : decode cc pc = .ok (.faload, 1)) (hs : pv_sh r = .inr (2, n)) (hr : r < N) (hv : mF S r j = v) (k : GG x N cs sl lv (.float v :: st) S (pc + 1)) (hj : j < n := by omega) : GG x N cs sl lv (.int (nI j) :: .ref r :: st) S pc := g_fald C d hs hr hj rfl (by rw [hv]; exact k)

theorem dv_if_lt (C : BX x cc own) {a b : UInt64} {n m : Nat} {op : CmpOp} {off : Int} (tgt : Nat) (d : decode cc pc = .ok (.ifCond .lt off, 3)) (ha : PV a n) (hb : PV b m) (kt : n < m → GG x N cs sl lv st S tgt) (kf : ¬ n < m → GG x N cs sl lv st S (pc + 3)) (ht : (pc : Int) + off = (tgt : Int) := by decide) : GG x N cs sl lv (.int (Op.cmpValue (FP.dcmp a b) op) :: st) S pc := by
  rw [ha.cmp hb]
  exact g_if_lt C tgt d ht (fun h => kt (cv_lt.mp h)) (fun h => kf (fun z => h (cv_lt.mpr z)))
theorem dv_if_gt (C : BX x cc own) {a b : UInt64} {n m : Nat} {op : CmpOp} {off : Int} (tgt : Nat) (d : decode cc pc = .ok (.ifCond .gt off, 3)) (ha : PV a n) (hb : PV b m) (kt : m < n → GG x N cs sl lv st S tgt) (kf : ¬ m < n → GG x N cs sl lv st S (pc + 3)) (ht : (pc : Int) + off = (tgt : Int) := by decide) : GG x N cs sl lv (.int (Op.cmpValue (FP.dcmp a b) op) :: st) S pc := by
  rw [ha.cmp hb]
  exact g_if_gt C tgt d ht (fun h => kt (cv_gt.mp h)) (fun h => kf (fun z => h (cv_gt.mpr z)))
theorem dv_if_ne (C : BX x cc own) {a b : UInt64} {n m : Nat} {op : CmpOp} {off : Int} (tgt : Nat) (d : decode cc pc = .ok (.ifCond .ne off, 3)) (ha : PV a n) (hb : PV b m) (kt : ¬ n = m → GG x N cs sl lv st S tgt) (kf : n = m → GG x N cs sl lv st S (pc + 3)) (ht : (pc : Int) + off = (tgt : Int) := by decide) : GG x N cs sl lv (.int (Op.cmpValue (FP.dcmp a b) op) :: st) S pc := by
  rw [ha.cmp hb]
  exact g_if_ne C tgt d ht (fun h => kt (fun z => h (cv_eq.mpr z))) (fun h => kf (cv_eq.mp h))
theorem fv_if_lt (C : BX x cc own) {a b : UInt32} {n m : Nat} {op : CmpOp} {off : Int} (tgt : Nat) (d : decode cc pc = .ok (.ifCond .lt off, 3)) (ha : PF a n) (hb : PF b m) (kt : n < m → GG x N cs sl lv st S tgt) (kf : ¬ n < m → GG x N cs sl lv st S (pc + 3)) (ht : (pc : Int) + off = (tgt : Int) := by decide) : GG x N cs sl lv (.int (Op.cmpValue (FP.fcmp a b) op) :: st) S pc := by
  rw [ha.cmp hb]
  exact g_if_lt C tgt d ht (fun h => kt (cv_lt.mp h)) (fun h => kf (fun z => h (cv_lt.mpr z)))
theorem fv_if_gt (C : BX x cc own) {a b : UInt32} {n m : Nat} {op : CmpOp} {off : Int} (tgt : Nat) (d : decode cc pc = .ok (.ifCond .gt off, 3)) (ha : PF a n) (hb : PF b m) (kt : m < n → GG x N cs sl lv st S tgt) (kf : ¬ m < n → GG x N cs sl lv st S (pc + 3)) (ht : (pc : Int) + off = (tgt : Int) := by decide) : GG x N cs sl lv (.int (Op.cmpValue (FP.fcmp a b) op) :: st) S pc := by
  rw [ha.cmp hb]
  exact g_if_gt C tgt d ht (fun h => kt (cv_gt.mp h)) (fun h => kf (fun z => h (cv_gt.mpr z)))
theorem fv_if_ne (C : BX x cc own) {a b : UInt32} {n m : Nat} {op : CmpOp} {off : Int} (tgt : Nat) (d : decode cc pc = .ok (.ifCond .ne off, 3)) (ha : PF a n) (hb : PF b m) (kt : ¬ n = m → GG x N cs sl lv st S tgt) (kf : n = m → GG x N cs sl lv st S (pc + 3)) (ht : (pc : Int) + off = (tgt : Int) := by decide) : GG x N cs sl lv (.int (Op.cmpValue (FP.fcmp a b) op) :: st) S pc := by
  rw [ha.cmp hb]
  exact g_if_ne C tgt d ht (fun h => kt (fun z => h (cv_eq.mpr z))) (fun h => kf (cv_eq.mp h))
end DR
theorem PV.z0 : PV FP.dconst0 0 := ⟨0, FP.Core.b64.qmin, FP.Core.val64_dconst0, by unfold FP.Core.inUnits; simp⟩
theorem PF.z0 : PF FP.fconst0 0 := ⟨0, FP.Core.b32.qmin, FP.Core.val32_fconst0, by unfold FP.Core.inUnits; simp⟩
theorem rs_step {R P E D k e : Nat} (h1 : P ≤ R) (h2 : R < 2 * P) (he : P = E * 2 ^ e) (hk : R * 2 ^ k ≤ D) (hm : R % E = D % E) : (R - P) * 2 ^ (k + 1) ≤ D ∧ (R - P) % E = D % E := by
  refine ⟨?_, ?_⟩
  · rw [Nat.pow_succ, Nat.mul_comm (2 ^ k) 2, ← Nat.mul_assoc]
    exact Nat.le_trans (Nat.mul_le_mul_right _ (by omega)) hk
  · rw [← hm]
    have z : R = (R - P) + E * 2 ^ e := by omega
    rw [z, Nat.add_mul_mod_self_left, ← z]
theorem rs_end {R E D : Nat} (h0 : 0 < E) (hk : R * 2 ^ 64 ≤ D) (hD : D ≤ E * 2 ^ 32) : R < E := by omega
theorem rs_in {R E D k : Nat} (h0 : 0 < E) (h : E * 2 ^ 64 ≤ R) (hk : R * 2 ^ k ≤ D) (hD : D ≤ E * 2 ^ 32) : False := by
  have := Nat.le_mul_of_pos_right R (Nat.two_pow_pos k)
  omega
theorem rs_le {R D k : Nat} (hk : R * 2 ^ k ≤ D) : R ≤ D := Nat.le_trans (Nat.le_mul_of_pos_right R (Nat.two_pow_pos k)) hk

set_option maxRecDepth 100000 in
theorem li_X7_doubleRest {x : Cx} (hR : xR x = MX7_doubleRest.rm) (hmL : (xc x).maxLocals = MX7_doubleRest.nL) (C : BX x cX7_doubleRest RX7) {S : pv_M} {a b : UInt64} {D E : Nat} (hb : PV b E) (h0 : 0 < E) (hD : D ≤ E * 2 ^ 32) (hB : D < 2 ^ 2000) {rr : UInt64} {R k : Nat} (hr : PV rr R) (hk : R * 2 ^ k ≤ D) (kk : ∀ i pp p e, PV pp p → p ≤ R → R < 2 * p → p = E * 2 ^ e → GG x 106 0 0 [.double (a), unk, .double (b), unk, .double (rr), unk, .int (nI (k)), .double (pp), unk, .int (nI (i))] [] (S) 57) : ∀ z i pp, i + z = 64 → PV pp (E * 2 ^ i) → E * 2 ^ i ≤ R → GG x 106 0 0 [.double (a), unk, .double (b), unk, .double (rr), unk, .int (nI (k)), .double (pp), unk, .int (nI (i))] [] (S) 26 := by
  have hRD := rs_le hk
  intro z
  induction z with
  | zero =>
    intro i pp hz hp hle
    obtain rfl : i = 64 := by omega
    exact absurd (rs_in h0 hle hk hD) id
  | succ z ih =>
    intro i pp hz hp hle
    have hp2 := hp.dbl (Nat.lt_of_le_of_lt (Nat.le_trans hle hRD) hB)
    refine g_iload C dX7_doubleRest_26 rfl ?_
    refine n_bipush C 64 dX7_doubleRest_28 ?_
    refine n_ic_ge C 57 dX7_doubleRest_30 (fun h30 => absurd h30 (by omega)) (fun h30 => ?_)
    refine g_dload C dX7_doubleRest_33 rfl ?_
    refine g_dload C dX7_doubleRest_35 rfl ?_
    refine g_dadd C dX7_doubleRest_37 hp2.ok ?_
    refine g_dload C dX7_doubleRest_38 rfl ?_
    refine g_dcmp C dX7_doubleRest_40 ?_
    refine dv_if_gt C 57 dX7_doubleRest_41 hp2 hr (fun h41 => ?_) (fun h41 => ?_)
    · exact kk i pp _ i hp hle h41 rfl
    · refine g_dload C dX7_doubleRest_44 rfl ?_
      refine g_dload C dX7_doubleRest_46 rfl ?_
      refine g_dadd C dX7_doubleRest_48 hp2.ok ?_
      refine g_dstore C (by rw [hmL]; decide) dX7_doubleRest_49 [.double (a), unk, .double (b), unk, .double (rr), unk, .int (nI (k)), .double (FP.dadd (pp) (pp)), unk, .int (nI (i))] rfl ?_
      refine n_iinc C (by rw [hmL]; decide) dX7_doubleRest_51 rfl (n_i1 _) [.double (a), unk, .double (b), unk, .double (rr), unk, .int (nI (k)), .double (FP.dadd (pp) (pp)), unk, .int (nI (i + 1))] ?_
      refine g_goto C 26 dX7_doubleRest_54 (by decide) ?_
      exact ih (i + 1) _ (by omega) (by rw [Nat.pow_succ, ← Nat.mul_assoc, Nat.mul_comm (E * 2 ^ i) 2]; exact hp2) (by rw [Nat.pow_succ, ← Nat.mul_assoc, Nat.mul_comm (E * 2 ^ i) 2]; omega)

set_option maxRecDepth 100000 in
theorem lo_X7_doubleRest {x : Cx} (hR : xR x = MX7_doubleRest.rm) (hmL : (xc x).maxLocals = MX7_doubleRest.nL) (C : BX x cX7_doubleRest RX7) {S : pv_M} {a b : UInt64} {D E : Nat} (hb : PV b E) (h0 : 0 < E) (hD : D ≤ E * 2 ^ 32) (hB : D < 2 ^ 2000) (kk : ∀ rr R k, PV rr R → R < E → R % E = D % E → GG x 106 0 0 [.double (a), unk, .double (b), unk, .double (rr), unk, .int (nI (k)), unk, unk, unk] [] (S) 70) : ∀ z k rr R, k + z = 64 → PV rr R → R * 2 ^ k ≤ D → R % E = D % E → GG x 106 0 0 [.double (a), unk, .double (b), unk, .double (rr), unk, .int (nI (k)), unk, unk, unk] [] (S) 6 := by
  intro z
  induction z with
  | zero =>
    intro k rr R hz hr hk hm
    obtain rfl : k = 64 := by omega
    refine g_iload C dX7_doubleRest_6 rfl ?_
    refine n_bipush C 64 dX7_doubleRest_8 ?_
    refine n_ic_ge C 70 dX7_doubleRest_10 (fun h10 => ?_) (fun h10 => absurd h10 (by omega))
    exact kk rr R 64 hr (rs_end h0 hk hD) hm
  | succ z ih =>
    intro k rr R hz hr hk hm
    refine g_iload C dX7_doubleRest_6 rfl ?_
    refine n_bipush C 64 dX7_doubleRest_8 ?_
    refine n_ic_ge C 70 dX7_doubleRest_10 (fun h10 => absurd h10 (by omega)) (fun h10 => ?_)
    refine g_dload C dX7_doubleRest_13 rfl ?_
    refine g_dload_n C dX7_doubleRest_15 rfl ?_
    refine g_dcmp C dX7_doubleRest_16 ?_
    refine dv_if_lt C 70 dX7_doubleRest_17 hr hb (fun h17 => ?_) (fun h17 => ?_)
    · exact kk rr R k hr h17 hm
    · refine g_dload_n C dX7_doubleRest_20 rfl ?_
      refine g_dstore C (by rw [hmL]; decide) dX7_doubleRest_21 [.double (a), unk, .double (b), unk, .double (rr), unk, .int (nI (k)), .double (b), unk, unk] rfl ?_
      refine n_iconst C 0 dX7_doubleRest_23 ?_
      refine g_istore C (by rw [hmL]; decide) dX7_doubleRest_24 [.double (a), unk, .double (b), unk, .double (rr), unk, .int (nI (k)), .double (b), unk, .int (nI (0))] rfl ?_
      refine li_X7_doubleRest hR hmL C hb h0 hD hB hr hk (fun i pp p e hp h1 h2 h3 => ?_) 64 0 b rfl (by rw [Nat.pow_zero, Nat.mul_one]; exact hb) (by rw [Nat.pow_zero, Nat.mul_one]; omega)
      obtain ⟨r1, r2⟩ := rs_step h1 h2 h3 hk hm
      have hs := hr.sub hp h1 (by omega)
      refine g_dload C dX7_doubleRest_57 rfl ?_
      refine g_dload C dX7_doubleRest_59 rfl ?_
      refine g_dsub C dX7_doubleRest_61 hs.ok ?_
      refine g_dstore C (by rw [hmL]; decide) dX7_doubleRest_62 [.double (a), unk, .double (b), unk, .double (FP.dsub (rr) (pp)), unk, .int (nI (k)), .double (pp), unk, .int (nI (i))] rfl ?_
      refine n_iinc C (by rw [hmL]; decide) dX7_doubleRest_64 rfl (n_i1 _) [.double (a), unk, .double (b), unk, .double (FP.dsub (rr) (pp)), unk, .int (nI (k + 1)), .double (pp), unk, .int (nI (i))] ?_
      refine g_goto C 6 dX7_doubleRest_67 (by decide) ?_
      refine g_frg [.double (a), unk, .double (b), unk, .double (FP.dsub (rr) (pp)), unk, .int (nI (k + 1)), unk, unk, unk] ⟨Or.inr rfl, Or.inl rfl, Or.inr rfl, Or.inl rfl, Or.inr rfl, Or.inl rfl, Or.inr rfl, Or.inl rfl, Or.inl rfl, Or.inl rfl, trivial⟩ ?_
      exact ih (k + 1) _ _ (by omega) hs r1 r2
      

set_option maxRecDepth 100000 in
theorem k_doubleRest (l : Launch) {S : pv_M} {a b : UInt64} {D E : Nat} (ha : PV a D) (hb : PV b E) (h0 : 0 < E) (hD : D ≤ E * 2 ^ 32) (hB : D < 2 ^ 2000) : mt l MX7_doubleRest 106 [.double (a), .double (b)] S (fun v S' => v = some (.double (FP.drem a b)) ∧ S' = S) := by
  refine mt_of (by decide) (Nat.le_of_ble_eq_true rfl) ?_
  intro x hl hR hmL C E
  show GG x 106 0 0 [.double (a), unk, .double (b), unk, unk, unk, unk, unk, unk, unk] [] S 0
  refine g_dload_n C dX7_doubleRest_0 rfl ?_
  refine g_dstore C (by rw [hmL]; decide) dX7_doubleRest_1 [.double (a), unk, .double (b), unk, .double (a), unk, unk, unk, unk, unk] rfl ?_
  refine n_iconst C 0 dX7_doubleRest_3 ?_
  refine g_istore C (by rw [hmL]; decide) dX7_doubleRest_4 [.double (a), unk, .double (b), unk, .double (a), unk, .int (nI (0)), unk, unk, unk] rfl ?_
  refine lo_X7_doubleRest hR hmL C (D := D) hb h0 hD hB (fun rr R k hr hlt hm => ?_) 64 0 a D rfl ha (by omega) rfl
  have e : rr = FP.drem a b := hr.inj (by have z := ha.rem hb h0; rw [← hm, Nat.mod_eq_of_lt hlt] at z; exact z)
  refine g_dload C dX7_doubleRest_70 rfl ?_
  exact g_dret C E dX7_doubleRest_72 (by rw [hR]; decide) (by rw [hR]; decide) ⟨by rw [e], rfl⟩
  

set_option maxRecDepth 100000 in
theorem li_X7_floatRest {x : Cx} (hR : xR x = MX7_floatRest.rm) (hmL : (xc x).maxLocals = MX7_floatRest.nL) (C : BX x cX7_floatRest RX7) {S : pv_M} {a b : UInt32} {D E : Nat} (hb : PF b E) (h0 : 0 < E) (hD : D ≤ E * 2 ^ 32) (hB : D < 2 ^ 200) {rr : UInt32} {R k : Nat} (hr : PF rr R) (hk : R * 2 ^ k ≤ D) (kk : ∀ i pp p e, PF pp p → p ≤ R → R < 2 * p → p = E * 2 ^ e → GG x 106 0 0 [.float (a), .float (b), .float (rr), .int (nI (k)), .float (pp), .int (nI (i))] [] (S) 52) : ∀ z i pp, i + z = 64 → PF pp (E * 2 ^ i) → E * 2 ^ i ≤ R → GG x 106 0 0 [.float (a), .float (b), .float (rr), .int (nI (k)), .float (pp), .int (nI (i))] [] (S) 22 := by
  have hRD := rs_le hk
  intro z
  induction z with
  | zero =>
    intro i pp hz hp hle
    obtain rfl : i = 64 := by omega
    exact absurd (rs_in h0 hle hk hD) id
  | succ z ih =>
    intro i pp hz hp hle
    have hp2 := hp.dbl (Nat.lt_of_le_of_lt (Nat.le_trans hle hRD) hB)
    refine g_iload C dX7_floatRest_22 rfl ?_
    refine n_bipush C 64 dX7_floatRest_24 ?_
    refine n_ic_ge C 52 dX7_floatRest_26 (fun h26 => absurd h26 (by omega)) (fun h26 => ?_)
    refine g_fload C dX7_floatRest_29 rfl ?_
    refine g_fload C dX7_floatRest_31 rfl ?_
    refine g_fadd C dX7_floatRest_33 hp2.ok ?_
    refine g_fload_n C dX7_floatRest_34 rfl ?_
    refine g_fcmp C dX7_floatRest_35 ?_
    refine fv_if_gt C 52 dX7_floatRest_36 hp2 hr (fun h36 => ?_) (fun h36 => ?_)
    · exact kk i pp _ i hp hle h36 rfl
    · refine g_fload C dX7_floatRest_39 rfl ?_
      refine g_fload C dX7_floatRest_41 rfl ?_
      refine g_fadd C dX7_floatRest_43 hp2.ok ?_
      refine g_fstore C (by rw [hmL]; decide) dX7_floatRest_44 [.float (a), .float (b), .float (rr), .int (nI (k)), .float (FP.fadd (pp) (pp)), .int (nI (i))] rfl ?_
      refine n_iinc C (by rw [hmL]; decide) dX7_floatRest_46 rfl (n_i1 _) [.float (a), .float (b), .float (rr), .int (nI (k)), .float (FP.fadd (pp) (pp)), .int (nI (i + 1))] ?_
      refine g_goto C 22 dX7_floatRest_49 (by decide) ?_
      exact ih (i + 1) _ (by omega) (by rw [Nat.pow_succ, ← Nat.mul_assoc, Nat.mul_comm (E * 2 ^ i) 2]; exact hp2) (by rw [Nat.pow_succ, ← Nat.mul_assoc, Nat.mul_comm (E * 2 ^ i) 2]; omega)

set_option maxRecDepth 100000 in
theorem lo_X7_floatRest {x : Cx} (hR : xR x = MX7_floatRest.rm) (hmL : (xc x).maxLocals = MX7_floatRest.nL) (C : BX x cX7_floatRest RX7) {S : pv_M} {a b : UInt32} {D E : Nat} (hb : PF b E) (h0 : 0 < E) (hD : D ≤ E * 2 ^ 32) (hB : D < 2 ^ 200) (kk : ∀ rr R k, PF rr R → R < E → R % E = D % E → GG x 106 0 0 [.float (a), .float (b), .float (rr), .int (nI (k)), unk, unk] [] (S) 63) : ∀ z k rr R, k + z = 64 → PF rr R → R * 2 ^ k ≤ D → R % E = D % E → GG x 106 0 0 [.float (a), .float (b), .float (rr), .int (nI (k)), unk, unk] [] (S) 4 := by
  intro z
  induction z with
  | zero =>
    intro k rr R hz hr hk hm
    obtain rfl : k = 64 := by omega
    refine g_iload_n C dX7_floatRest_4 rfl ?_
    refine n_bipush C 64 dX7_floatRest_5 ?_
    refine n_ic_ge C 63 dX7_floatRest_7 (fun h7 => ?_) (fun h7 => absurd h7 (by omega))
    exact kk rr R 64 hr (rs_end h0 hk hD) hm
  | succ z ih =>
    intro k rr R hz hr hk hm
    refine g_iload_n C dX7_floatRest_4 rfl ?_
    refine n_bipush C 64 dX7_floatRest_5 ?_
    refine n_ic_ge C 63 dX7_floatRest_7 (fun h7 => absurd h7 (by omega)) (fun h7 => ?_)
    refine g_fload_n C dX7_floatRest_10 rfl ?_
    refine g_fload_n C dX7_floatRest_11 rfl ?_
    refine g_fcmp C dX7_floatRest_12 ?_
    refine fv_if_lt C 63 dX7_floatRest_13 hr hb (fun h13 => ?_) (fun h13 => ?_)
    · exact kk rr R k hr h13 hm
    · refine g_fload_n C dX7_floatRest_16 rfl ?_
      refine g_fstore C (by rw [hmL]; decide) dX7_floatRest_17 [.float (a), .float (b), .float (rr), .int (nI (k)), .float (b), unk] rfl ?_
      refine n_iconst C 0 dX7_floatRest_19 ?_
      refine g_istore C (by rw [hmL]; decide) dX7_floatRest_20 [.float (a), .float (b), .float (rr), .int (nI (k)), .float (b), .int (nI (0))] rfl ?_
      refine li_X7_floatRest hR hmL C hb h0 hD hB hr hk (fun i pp p e hp h1 h2 h3 => ?_) 64 0 b rfl (by rw [Nat.pow_zero, Nat.mul_one]; exact hb) (by rw [Nat.pow_zero, Nat.mul_one]; omega)
      obtain ⟨r1, r2⟩ := rs_step h1 h2 h3 hk hm
      have hs := hr.sub hp h1 (by omega)
      refine g_fload_n C dX7_floatRest_52 rfl ?_
      refine g_fload C dX7_floatRest_53 rfl ?_
      refine g_fsub C dX7_floatRest_55 hs.ok ?_
      refine g_fstore_n C (by rw [hmL]; decide) dX7_floatRest_56 [.float (a), .float (b), .float (FP.fsub (rr) (pp)), .int (nI (k)), .float (pp), .int (nI (i))] rfl ?_
      refine n_iinc C (by rw [hmL]; decide) dX7_floatRest_57 rfl (n_i1 _) [.float (a), .float (b), .float (FP.fsub (rr) (pp)), .int (nI (k + 1)), .float (pp), .int (nI (i))] ?_
      refine g_goto C 4 dX7_floatRest_60 (by decide) ?_
      refine g_frg [.float (a), .float (b), .float (FP.fsub (rr) (pp)), .int (nI (k + 1)), unk, unk] ⟨Or.inr rfl, Or.inr rfl, Or.inr rfl, Or.inr rfl, Or.inl rfl, Or.inl rfl, trivial⟩ ?_
      exact ih (k + 1) _ _ (by omega) hs r1 r2
      

set_option maxRecDepth 100000 in
theorem k_floatRest (l : Launch) {S : pv_M} {a b : UInt32} {D E : Nat} (ha : PF a D) (hb : PF b E) (h0 : 0 < E) (hD : D ≤ E * 2 ^ 32) (hB : D < 2 ^ 200) : mt l MX7_floatRest 106 [.float (a), .float (b)] S (fun v S' => v = some (.float (FP.frem a b)) ∧ S' = S) := by
  refine mt_of (by decide) (Nat.le_of_ble_eq_true rfl) ?_
  intro x hl hR hmL C E
  show GG x 106 0 0 [.float (a), .float (b), unk, unk, unk, unk] [] S 0
  refine g_fload_n C dX7_floatRest_0 rfl ?_
  refine g_fstore_n C (by rw [hmL]; decide) dX7_floatRest_1 [.float (a), .float (b), .float (a), unk, unk, unk] rfl ?_
  refine n_iconst C 0 dX7_floatRest_2 ?_
  refine g_istore_n C (by rw [hmL]; decide) dX7_floatRest_3 [.float (a), .float (b), .float (a), .int (nI (0)), unk, unk] rfl ?_
  refine lo_X7_floatRest hR hmL C (D := D) hb h0 hD hB (fun rr R k hr hlt hm => ?_) 64 0 a D rfl ha (by omega) rfl
  have e : rr = FP.frem a b := hr.inj (by have z := ha.rem hb h0; rw [← hm, Nat.mod_eq_of_lt hlt] at z; exact z)
  refine g_fload_n C dX7_floatRest_63 rfl ?_
  exact g_fret C E dX7_floatRest_64 (by rw [hR]; decide) (by rw [hR]; decide) ⟨by rw [e], rfl⟩
  

/-! a row: its object c, floats f, doubles g, the two rows of ways w and v -/
def RwAt (S : pv_M) (c f g w v : Nat) : Prop := (pv_sh c = .inl 6 ∧ c < 106) ∧ (pv_sh f = .inr (2, 21) ∧ f < 106) ∧ (pv_sh g = .inr (3, 21) ∧ g < 106) ∧ (pv_sh w = .inr (1, 6) ∧ w < 106) ∧ (pv_sh v = .inr (1, 6) ∧ v < 106) ∧ w ≠ v ∧ mR S c 2 = some f ∧ mR S c 3 = some g ∧ mR S c 4 = some w ∧ mR S c 5 = some v
abbrev P5 (c f g w v : Nat) : Nat → Prop := fun r => r = c ∨ r = f ∨ r = g ∨ r = w ∨ r = v
theorem sh_ne {a b : Nat} {p q : Nat ⊕ (Nat × Nat)} (h1 : pv_sh a = p) (h2 : pv_sh b = q) (h : p ≠ q) : a ≠ b := fun e => h (by rw [← h1, ← h2, e])
theorem RwAt.nA {S S' : pv_M} {c f g w v a t n F : Nat} {T : Nat → Nat} (h : RwAt S c f g w v) (hA : AutoAt S' a t n T F) : ¬ P5 c f g w v a ∧ ¬ P5 c f g w v t := by
  obtain ⟨h1, h2, h3, h4, h5, _⟩ := h
  refine ⟨fun z => ?_, fun z => ?_⟩
  · rcases z with z | z | z | z | z
    · exact sh_ne hA.1 h1.1 (by decide) z
    · exact sh_ne hA.1 h2.1 (by decide) z
    · exact sh_ne hA.1 h3.1 (by decide) z
    · exact sh_ne hA.1 h4.1 (by decide) z
    · exact sh_ne hA.1 h5.1 (by decide) z
  · rcases z with z | z | z | z | z
    · exact sh_ne hA.2.2.1 h1.1 (by decide) z
    · exact sh_ne hA.2.2.1 h2.1 (by decide) z
    · exact sh_ne hA.2.2.1 h3.1 (by decide) z
    · exact sh_ne hA.2.2.1 h4.1 (by decide) z
    · exact sh_ne hA.2.2.1 h5.1 (by decide) z
theorem RwAt.of {S S' : pv_M} {c f g w v : Nat} (h : RwAt S c f g w v) (e : mR S' c = mR S c) : RwAt S' c f g w v := by
  unfold RwAt
  rw [e]
  exact h
theorem RwAt.swap {S : pv_M} {c f g w v : Nat} (h : RwAt S c f g w v) : RwAt (wR (wR S c (va_up (mR S c) 4 (some v))) c (va_up (mR (wR S c (va_up (mR S c) 4 (some v))) c) 5 (some w))) c f g v w := by
  obtain ⟨h1, h2, h3, h4, h5, h6, h7, h8, h9, h10⟩ := h
  refine ⟨h1, h2, h3, h5, h4, h6.symm, ?_, ?_, ?_, ?_⟩
  · rw [mR_wR, mR_wR, va_up_ne _ _ (by decide), va_up_ne _ _ (by decide)]; exact h7
  · rw [mR_wR, mR_wR, va_up_ne _ _ (by decide), va_up_ne _ _ (by decide)]; exact h8
  · rw [mR_wR, mR_wR, va_up_ne _ _ (by decide), up_same]
  · rw [mR_wR, up_same]
def w3 (g : Nat → Nat) : Nat → Nat
  | 0 => 0
  | i + 1 => w3 g i + g i
/-- how many words of a length lead from a state to a final one -/
def wy (T : Nat → Nat) (F : Nat) : Nat → Nat → Nat
  | 0, s => if F.testBit s then 1 else 0
  | k + 1, s => w3 (fun q => wy T F k (T (s * 3 + q))) 3
theorem wy_le {T : Nat → Nat} {F : Nat} : ∀ k s, wy T F k s ≤ 3 ^ k
  | 0, s => by unfold wy; by_cases e : F.testBit s = true <;> simp [e]
  | k + 1, s => by
    have h := fun q => wy_le (T := T) (F := F) k (T (s * 3 + q))
    have h0 := h 0
    have h1 := h 1
    have h2 := h 2
    rw [Nat.pow_succ]
    show 0 + wy T F k (T (s * 3 + 0)) + wy T F k (T (s * 3 + 1)) + wy T F k (T (s * 3 + 2)) ≤ _
    omega
theorem p3_le {k : Nat} (h : k ≤ 20) : 3 ^ k ≤ 2 ^ 32 := Nat.le_trans (Nat.pow_le_pow_right (by decide) h) (by decide)
def shV (T : Nat → Nat) (F k : Nat) : UInt64 := FP.ddiv (FP.l2d (lN (wy T F k 0))) (FP.l2d (lN (3 ^ k)))
theorem shV_ok {T : Nat → Nat} {F k : Nat} (h : k ≤ 20) : ∃ n, PV (shV T F k) n ∧ n ≤ 2 ^ 1074 ∧ (n = 0 ∨ 2 ^ 1042 ≤ n) := sh_val (wy_le k 0) (Nat.pow_pos (by decide)) (p3_le h)
theorem shF_ok {T : Nat → Nat} {F k : Nat} (h : k ≤ 20) : ∃ n, PF (FP.d2f (shV T F k)) n ∧ n ≤ 2 ^ 149 ∧ (n = 0 ∨ 2 ^ 117 ≤ n) := by
  obtain ⟨m, h1, h2, h3⟩ := shV_ok (T := T) (F := F) h
  exact d2f_val h1 h2 h3

set_option maxRecDepth 100000 in
theorem k_addR (l : Launch) {S : pv_M} {c f g w v : Nat} (hW : RwAt S c f g w v) {i : Nat} (hi : i ≤ 20) {b : Bool} (h0 : mI S c 0 = bI b) (h1 : mI S c 1 = nI i) {u : UInt64} (hu : vf_n32 (FP.d2f u)) : mt l MX7_add 106 [.ref c, .double (u)] S (fun q S' => q = none ∧ S' = wI (if b then wF S f (va_up (mF S f) i (FP.d2f u)) else wD S g (va_up (mD S g) i u)) c (va_up (mI S c) 1 (nI (i + 1)))) := by
  refine mt_of (by decide) (Nat.le_of_ble_eq_true rfl) ?_
  intro x hl hR hmL C E
  show GG x 106 0 0 [.ref c, .double (u), unk] [] S 0
  refine g_aload_n C dX7_add_0 rfl ?_
  refine g_getI C fo_X7_15 dX7_add_1 hW.1.1 hW.1.2 (fun _ => rfl) h1 ?_
  refine n_bipush C 20 dX7_add_4 ?_
  refine n_ic_le C 10 dX7_add_6 (fun h6 => ?_) (fun h6 => absurd h6 (by omega))
  refine g_aload_n C dX7_add_10 rfl ?_
  refine g_getI C fo_X7_9 dX7_add_11 hW.1.1 hW.1.2 (fun _ => rfl) h0 ?_
  refine b_if_eq C 31 dX7_add_14 (fun h14 => ?_) (fun h14 => ?_)
  · refine g_aload_n C dX7_add_31 rfl ?_
    refine g_getR C fo_X7_23 dX7_add_32 hW.1.1 hW.1.2 (fun _ => rfl) hW.2.2.2.2.2.2.2.1 ?_
    refine g_aload_n C dX7_add_35 rfl ?_
    refine g_getI C fo_X7_15 dX7_add_36 hW.1.1 hW.1.2 (fun _ => rfl) h1 ?_
    refine g_dload_n C dX7_add_39 rfl ?_
    refine g_dast C dX7_add_40 hW.2.2.1.1 hW.2.2.1.2 (by omega) rfl ?_
    refine g_aload_n C dX7_add_41 rfl ?_
    refine g_dup C dX7_add_42 rfl ?_
    refine g_getI C fo_X7_15 dX7_add_43 hW.1.1 hW.1.2 (fun _ => rfl) h1 ?_
    refine n_iconst C 1 dX7_add_46 ?_
    refine n_iadd C dX7_add_47 ?_
    refine g_putI C fo_X7_15 dX7_add_48 hW.1.1 hW.1.2 rfl ?_
    exact g_vret C E dX7_add_51 (by rw [hR]; decide) (by rw [hR]; decide) ⟨rfl, by rw [h14]; rfl⟩
  · refine g_aload_n C dX7_add_17 rfl ?_
    refine g_getR C fo_X7_19 dX7_add_18 hW.1.1 hW.1.2 (fun _ => rfl) hW.2.2.2.2.2.2.1 ?_
    refine g_aload_n C dX7_add_21 rfl ?_
    refine g_getI C fo_X7_15 dX7_add_22 hW.1.1 hW.1.2 (fun _ => rfl) h1 ?_
    refine g_dload_n C dX7_add_25 rfl ?_
    refine g_d2f C dX7_add_26 hu ?_
    refine g_fast C dX7_add_27 hW.2.1.1 hW.2.1.2 (by omega) rfl ?_
    refine g_goto C 41 dX7_add_28 (by decide) ?_
    refine g_aload_n C dX7_add_41 rfl ?_
    refine g_dup C dX7_add_42 rfl ?_
    refine g_getI C fo_X7_15 dX7_add_43 hW.1.1 hW.1.2 (fun _ => rfl) h1 ?_
    refine n_iconst C 1 dX7_add_46 ?_
    refine n_iadd C dX7_add_47 ?_
    refine g_putI C fo_X7_15 dX7_add_48 hW.1.1 hW.1.2 rfl ?_
    exact g_vret C E dX7_add_51 (by rw [hR]; decide) (by rw [hR]; decide) ⟨rfl, by rw [h14]; rfl⟩

set_option maxRecDepth 100000 in
theorem li_len {x : Cx} (hR : xR x = MX7_lengthen.rm) (hmL : (xc x).maxLocals = MX7_lengthen.nL) (C : BX x cX7_lengthen RX7) {S : pv_M} {c f g w v a t n F k : Nat} {T : Nat → Nat} (hW : RwAt S c f g w v) (hA : AutoAt S a t n T F) (h6 : n ≤ 6) (hT : ∀ i, i < n * 3 → T i < n) (hw : ∀ s, s < n → mJ S w s = lN (wy T F k s)) {s : Nat} (hi : s < n) (kk : GG x 106 0 0 [.ref c, .ref a, .int (nI (s)), .long (lN (w3 (fun q => wy T F k (T (s * 3 + q))) (3))), unk, .int (nI (3))] [] (S) 42) : ∀ z i, i + z = 3 → GG x 106 0 0 [.ref c, .ref a, .int (nI (s)), .long (lN (w3 (fun q => wy T F k (T (s * 3 + q))) (i))), unk, .int (nI (i))] [] (S) 15 := by
  intro z
  induction z with
  | zero =>
    intro i hz
    obtain rfl : 3 = i := by omega
    refine g_iload C dX7_lengthen_15 rfl ?_
    refine n_iconst C 3 dX7_lengthen_17 ?_
    refine n_ic_ge C 42 dX7_lengthen_18 (fun h18 => ?_) (fun h18 => absurd h18 (by omega))
    exact kk
  | succ z ih =>
    intro i hz
    have hTi := hT (s * 3 + i) (by omega)
    refine g_iload C dX7_lengthen_15 rfl ?_
    refine n_iconst C 3 dX7_lengthen_17 ?_
    refine n_ic_ge C 42 dX7_lengthen_18 (fun h18 => absurd h18 (by omega)) (fun h18 => ?_)
    refine g_lload_n C dX7_lengthen_21 rfl ?_
    refine g_aload_n C dX7_lengthen_22 rfl ?_
    refine g_getR C fo_X7_27 dX7_lengthen_23 hW.1.1 hW.1.2 (fun _ => rfl) hW.2.2.2.2.2.2.2.2.1 ?_
    refine g_aload_n C dX7_lengthen_26 rfl ?_
    refine g_iload_n C dX7_lengthen_27 rfl ?_
    refine g_iload C dX7_lengthen_28 rfl ?_
    refine g_callV C (As := [.int (nI (s)), .int (nI (i))]) (c_X1_follow _ hA (by omega)) vo_X7_53 dX7_lengthen_30 rfl hA.1 hA.2.1 rfl (rm_ok (M' := MX7_lengthen) hR (by decide)) (Nat.le_of_ble_eq_true rfl) (fun v9 S9 h9 => ?_)
    obtain ⟨rfl, h9⟩ := h9
    refine g_S S h9 ?_
    refine g_n0 [.int (nI (T (s * 3 + i))), .ref w, .long (lN (w3 (fun q => wy T F k (T (s * 3 + q))) (i)))] rfl rfl rfl ?_
    refine n_lald C dX7_lengthen_33 hW.2.2.2.1.1 hW.2.2.2.1.2 (hw _ hTi) ?_ (by omega)
    refine n_ladd C dX7_lengthen_34 ?_
    refine g_lstore_n C (by rw [hmL]; decide) dX7_lengthen_35 [.ref c, .ref a, .int (nI (s)), .long (lN ((w3 (fun q => wy T F k (T (s * 3 + q))) (i)) + (wy T F k (T (s * 3 + i))))), unk, .int (nI (i))] rfl ?_
    refine n_iinc C (by rw [hmL]; decide) dX7_lengthen_36 rfl (n_i1 _) [.ref c, .ref a, .int (nI (s)), .long (lN ((w3 (fun q => wy T F k (T (s * 3 + q))) (i)) + (wy T F k (T (s * 3 + i))))), unk, .int (nI (i + 1))] ?_
    refine g_goto C 15 dX7_lengthen_39 (by decide) ?_
    exact ih (i + 1) (by omega)

set_option maxRecDepth 100000 in
theorem lo_len {x : Cx} (hR : xR x = MX7_lengthen.rm) (hmL : (xc x).maxLocals = MX7_lengthen.nL) (C : BX x cX7_lengthen RX7) {S0 : pv_M} {c f g w v a t n F k : Nat} {T : Nat → Nat} (hW0 : RwAt S0 c f g w v) (hA0 : AutoAt S0 a t n T F) (h6 : n ≤ 6) (hT : ∀ i, i < n * 3 → T i < n) (hw0 : ∀ s, s < n → mJ S0 w s = lN (wy T F k s)) (kk : ∀ S : pv_M, FN (fun r => r = v) S0 S → (∀ s, s < n → mJ S v s = lN (wy T F (k + 1) s)) → GG x 106 0 0 [.ref c, .ref a, .int (nI (n)), unk, unk, unk] [] (S) 55) : ∀ z i (S : pv_M), i + z = n → FN (fun r => r = v) S0 S → (∀ s, s < i → mJ S v s = lN (wy T F (k + 1) s)) → GG x 106 0 0 [.ref c, .ref a, .int (nI (i)), unk, unk, unk] [] (S) 2 := by
  intro z
  induction z with
  | zero =>
    intro i S hz hf hv
    obtain rfl : n = i := by omega
    have hW : RwAt S c f g w v := hW0.of (congrFun hf.1 c)
    have hA : AutoAt S a t n T F := hA0.keep hf (fun z => (hW0.nA hA0).1 (Or.inr (Or.inr (Or.inr (Or.inr z))))) (fun z => (hW0.nA hA0).2 (Or.inr (Or.inr (Or.inr (Or.inr z)))))
    refine g_iload_n C dX7_lengthen_2 rfl ?_
    refine g_aload_n C dX7_lengthen_3 rfl ?_
    refine g_getI C fo_X7_34 dX7_lengthen_4 hA.1 hA.2.1 (fun _ => rfl) hA.2.2.2.2.2.1 ?_
    refine n_ic_ge C 55 dX7_lengthen_7 (fun h7 => ?_) (fun h7 => absurd h7 (by omega))
    exact kk S hf hv
  | succ z ih =>
    intro i S hz hf hv
    have hW : RwAt S c f g w v := hW0.of (congrFun hf.1 c)
    have hA : AutoAt S a t n T F := hA0.keep hf (fun z => (hW0.nA hA0).1 (Or.inr (Or.inr (Or.inr (Or.inr z))))) (fun z => (hW0.nA hA0).2 (Or.inr (Or.inr (Or.inr (Or.inr z)))))
    refine g_iload_n C dX7_lengthen_2 rfl ?_
    refine g_aload_n C dX7_lengthen_3 rfl ?_
    refine g_getI C fo_X7_34 dX7_lengthen_4 hA.1 hA.2.1 (fun _ => rfl) hA.2.2.2.2.2.1 ?_
    refine n_ic_ge C 55 dX7_lengthen_7 (fun h7 => absurd h7 (by omega)) (fun h7 => ?_)
    refine n_lconst C 0 dX7_lengthen_10 ?_
    refine g_lstore_n C (by rw [hmL]; decide) dX7_lengthen_11 [.ref c, .ref a, .int (nI (i)), .long (lN (0)), unk, unk] rfl ?_
    refine n_iconst C 0 dX7_lengthen_12 ?_
    refine g_istore C (by rw [hmL]; decide) dX7_lengthen_13 [.ref c, .ref a, .int (nI (i)), .long (lN (0)), unk, .int (nI (0))] rfl ?_
    have hw : ∀ s, s < n → mJ S w s = lN (wy T F k s) := fun s hs => by rw [(hf.2 w hW0.2.2.2.2.2.1).2.1]; exact hw0 s hs
    refine li_len hR hmL C hW hA h6 hT hw (s := i) (by omega) ?_ 3 0 rfl
    refine g_aload_n C dX7_lengthen_42 rfl ?_
    refine g_getR C fo_X7_31 dX7_lengthen_43 hW.1.1 hW.1.2 (fun _ => rfl) hW.2.2.2.2.2.2.2.2.2 ?_
    refine g_iload_n C dX7_lengthen_46 rfl ?_
    refine g_lload_n C dX7_lengthen_47 rfl ?_
    refine g_last C dX7_lengthen_48 hW.2.2.2.2.1.1 hW.2.2.2.2.1.2 (by omega) rfl ?_
    refine n_iinc C (by rw [hmL]; decide) dX7_lengthen_49 rfl (n_i1 _) [.ref c, .ref a, .int (nI (i + 1)), .long (lN (w3 (fun q => wy T F k (T (i * 3 + q))) (3))), unk, .int (nI (3))] ?_
    refine g_goto C 2 dX7_lengthen_52 (by decide) ?_
    refine g_frg [.ref c, .ref a, .int (nI (i + 1)), unk, unk, unk] ⟨Or.inr rfl, Or.inr rfl, Or.inr rfl, Or.inl rfl, Or.inl rfl, Or.inl rfl, trivial⟩ ?_
    refine ih (i + 1) _ (by omega) (hf.tr (FN.wJ rfl)) (fun s hs => ?_)
    rw [mJ_wJ]
    by_cases e : s = i
    · rw [e, up_same]; rfl
    · rw [va_up_ne _ _ e]; exact hv s (by omega)
    

set_option maxRecDepth 100000 in
theorem k_lengthen (l : Launch) {S : pv_M} {c f g w v a t n F k : Nat} {T : Nat → Nat} (hW : RwAt S c f g w v) (hA : AutoAt S a t n T F) (h6 : n ≤ 6) (hT : ∀ i, i < n * 3 → T i < n) (hw : ∀ s, s < n → mJ S w s = lN (wy T F k s)) : mt l MX7_lengthen 106 [.ref c, .ref a] S (fun u S' => u = none ∧ RwAt S' c f g v w ∧ (∀ s, s < n → mJ S' v s = lN (wy T F (k + 1) s)) ∧ FR (fun r => r = c ∨ r = v) S S' ∧ mI S' c = mI S c) := by
  refine mt_of (by decide) (Nat.le_of_ble_eq_true rfl) ?_
  intro x hl hR hmL C E
  show GG x 106 0 0 [.ref c, .ref a, unk, unk, unk, unk] [] S 0
  refine n_iconst C 0 dX7_lengthen_0 ?_
  refine g_istore_n C (by rw [hmL]; decide) dX7_lengthen_1 [.ref c, .ref a, .int (nI (0)), unk, unk, unk] rfl ?_
  refine lo_len hR hmL C hW hA h6 hT hw (fun S5 hf5 hv5 => ?_) n 0 S (by omega) FN.rf (fun s hs => absurd hs (Nat.not_lt_zero _))
  have hW5 : RwAt S5 c f g w v := hW.of (congrFun hf5.1 c)
  have nc : c ≠ v := sh_ne hW.1.1 hW.2.2.2.2.1.1 (by decide)
  refine g_aload_n C dX7_lengthen_55 rfl ?_
  refine g_getR C fo_X7_27 dX7_lengthen_56 hW5.1.1 hW5.1.2 (fun _ => rfl) hW5.2.2.2.2.2.2.2.2.1 ?_
  refine g_astore_n C (by rw [hmL]; decide) dX7_lengthen_59 [.ref c, .ref a, .ref w, unk, unk, unk] rfl ?_
  refine g_aload_n C dX7_lengthen_60 rfl ?_
  refine g_aload_n C dX7_lengthen_61 rfl ?_
  refine g_getR C fo_X7_31 dX7_lengthen_62 hW5.1.1 hW5.1.2 (fun _ => rfl) hW5.2.2.2.2.2.2.2.2.2 ?_
  refine g_putR C fo_X7_27 dX7_lengthen_65 hW5.1.1 hW5.1.2 hW5.2.2.2.2.1.2 (Or.inr ⟨_, rfl⟩) ?_
  refine g_aload_n C dX7_lengthen_68 rfl ?_
  refine g_aload_n C dX7_lengthen_69 rfl ?_
  refine g_putR C fo_X7_31 dX7_lengthen_70 hW5.1.1 hW5.1.2 hW5.2.2.2.1.2 (Or.inr ⟨_, rfl⟩) ?_
  exact g_vret C E dX7_lengthen_73 (by rw [hR]; decide) (by rw [hR]; decide) ⟨rfl, hW5.swap, hv5, (hf5.fr.mono (fun r z => Or.inr z)).tr ((FR.wR (Or.inl rfl)).tr (FR.wR (Or.inl rfl))), (hf5.2 c nc).1⟩
  

def RV (T : Nat → Nat) (F : Nat) (b : Bool) (S : pv_M) (f g i : Nat) : Prop := (b = true → ∀ j, j < i → mF S f j = FP.d2f (shV T F j)) ∧ (b = false → ∀ j, j < i → mD S g j = shV T F j)
def Sd (w v w0 v0 : Nat) : Prop := (w = w0 ∧ v = v0) ∨ (w = v0 ∧ v = w0)
theorem Sd.sw {w v w0 v0 : Nat} (h : Sd w v w0 v0) : Sd v w w0 v0 := h.elim (fun z => Or.inr ⟨z.2, z.1⟩) (fun z => Or.inl ⟨z.2, z.1⟩)
theorem Sd.P {c f g w v w0 v0 r : Nat} (h : Sd w v w0 v0) (k : P5 c f g w v r) : P5 c f g w0 v0 r := by
  rcases h with ⟨rfl, rfl⟩ | ⟨rfl, rfl⟩
  · exact k
  · rcases k with k | k | k | k | k
    · exact Or.inl k
    · exact Or.inr (Or.inl k)
    · exact Or.inr (Or.inr (Or.inl k))
    · exact Or.inr (Or.inr (Or.inr (Or.inr k)))
    · exact Or.inr (Or.inr (Or.inr (Or.inl k)))
theorem addR_ok {S S5 : pv_M} {c f g w v i F : Nat} {T : Nat → Nat} {b : Bool} (hW : RwAt S c f g w v) (h0 : mI S c 0 = bI b) (hv : RV T F b S f g i) (e : S5 = wI (if b then wF S f (va_up (mF S f) i (FP.d2f (shV T F i))) else wD S g (va_up (mD S g) i (shV T F i))) c (va_up (mI S c) 1 (nI (i + 1)))) : mI S5 c 0 = bI b ∧ mI S5 c 1 = nI (i + 1) ∧ mR S5 = mR S ∧ mJ S5 = mJ S ∧ RV T F b S5 f g (i + 1) ∧ FR (P5 c f g w v) S S5 := by
  subst e
  cases b with
  | true =>
    refine ⟨?_, ?_, rfl, rfl, ⟨fun _ j hj => ?_, fun z => absurd z (by decide)⟩, fun r hr => ⟨rfl, mI_wI_ne (fun z => hr (Or.inl z)), rfl, mF_wF_ne (fun z => hr (Or.inr (Or.inl z))), rfl⟩⟩
    · rw [mI_wI, va_up_ne _ _ (by decide)]; exact h0
    · rw [mI_wI, up_same]
    · show va_up (mF S) f (va_up (mF S f) i (FP.d2f (shV T F i))) f j = _
      rw [up_same]
      by_cases z : j = i
      · rw [z, up_same]
      · rw [va_up_ne _ _ z]; exact hv.1 rfl j (by omega)
  | false =>
    refine ⟨?_, ?_, rfl, rfl, ⟨fun z => absurd z (by decide), fun _ j hj => ?_⟩, fun r hr => ⟨rfl, mI_wI_ne (fun z => hr (Or.inl z)), rfl, rfl, mD_wD_ne (fun z => hr (Or.inr (Or.inr (Or.inl z))))⟩⟩
    · rw [mI_wI, va_up_ne _ _ (by decide)]; exact h0
    · rw [mI_wI, up_same]
    · show va_up (mD S) g (va_up (mD S g) i (shV T F i)) g j = _
      rw [up_same]
      by_cases z : j = i
      · rw [z, up_same]
      · rw [va_up_ne _ _ z]; exact hv.2 rfl j (by omega)

set_option maxRecDepth 100000 in
theorem l1_fill {x : Cx} (hR : xR x = MX7_fill.rm) (hmL : (xc x).maxLocals = MX7_fill.nL) (C : BX x cX7_fill RX7) {S0 : pv_M} {c f g w v a t n F m : Nat} {T : Nat → Nat} {b : Bool} (hW0 : RwAt S0 c f g w v) (hA0 : AutoAt S0 a t n T F) (h6 : n ≤ 6) (hT : ∀ i, i < n * 3 → T i < n) (hF : F < 64) (kk : ∀ S : pv_M, FN (fun r => r = w) S0 S → (∀ s, s < n → mJ S w s = lN (wy T F 0 s)) → GG x 106 0 0 [.ref c, .ref a, .int (nI (m)), .int (bI (b)), .int (nI (n)), unk, unk] [] (S) 49) : ∀ z i (S : pv_M), i + z = n → FN (fun r => r = w) S0 S → (∀ s, s < i → mJ S w s = lN (wy T F 0 s)) → GG x 106 0 0 [.ref c, .ref a, .int (nI (m)), .int (bI (b)), .int (nI (i)), unk, unk] [] (S) 13 := by
  intro z
  induction z with
  | zero =>
    intro i S hz hf hv
    obtain rfl : n = i := by omega
    have hW : RwAt S c f g w v := hW0.of (congrFun hf.1 c)
    have hA : AutoAt S a t n T F := hA0.keep hf (fun z => (hW0.nA hA0).1 (Or.inr (Or.inr (Or.inr (Or.inl z))))) (fun z => (hW0.nA hA0).2 (Or.inr (Or.inr (Or.inr (Or.inl z)))))
    refine g_iload C dX7_fill_13 rfl ?_
    refine g_aload_n C dX7_fill_15 rfl ?_
    refine g_getI C fo_X7_34 dX7_fill_16 hA.1 hA.2.1 (fun _ => rfl) hA.2.2.2.2.2.1 ?_
    refine n_ic_ge C 49 dX7_fill_19 (fun h19 => ?_) (fun h19 => absurd h19 (by omega))
    exact kk S hf hv
  | succ z ih =>
    intro i S hz hf hv
    have hW : RwAt S c f g w v := hW0.of (congrFun hf.1 c)
    have hA : AutoAt S a t n T F := hA0.keep hf (fun z => (hW0.nA hA0).1 (Or.inr (Or.inr (Or.inr (Or.inl z))))) (fun z => (hW0.nA hA0).2 (Or.inr (Or.inr (Or.inr (Or.inl z)))))
    refine g_iload C dX7_fill_13 rfl ?_
    refine g_aload_n C dX7_fill_15 rfl ?_
    refine g_getI C fo_X7_34 dX7_fill_16 hA.1 hA.2.1 (fun _ => rfl) hA.2.2.2.2.2.1 ?_
    refine n_ic_ge C 49 dX7_fill_19 (fun h19 => absurd h19 (by omega)) (fun h19 => ?_)
    refine g_aload_n C dX7_fill_22 rfl ?_
    refine g_getR C fo_X7_27 dX7_fill_23 hW.1.1 hW.1.2 (fun _ => rfl) hW.2.2.2.2.2.2.2.2.1 ?_
    refine g_iload C dX7_fill_26 rfl ?_
    refine g_aload_n C dX7_fill_28 rfl ?_
    refine g_iload C dX7_fill_29 rfl ?_
    refine g_callV C (As := [.int (nI (i))]) (c_X1_isAccepting _ hA hF (by omega)) vo_X7_39 dX7_fill_31 rfl hA.1 hA.2.1 rfl (rm_ok (M' := MX7_fill) hR (by decide)) (Nat.le_of_ble_eq_true rfl) (fun v9 S9 h9 => ?_)
    obtain ⟨rfl, h9⟩ := h9
    refine g_S S h9 ?_
    refine g_n0 [.int (bI (F.testBit i)), .int (nI (i)), .ref w] rfl rfl rfl ?_
    suffices K42 : GG x 106 0 0 [.ref c, .ref a, .int (nI (m)), .int (bI (b)), .int (nI (i)), unk, unk] [.long (lN (if F.testBit i then 1 else 0)), .int (nI (i)), .ref w] S 42 from by
      refine b_if_eq C 41 dX7_fill_34 (fun h34 => ?_) (fun h34 => ?_)
      · refine n_lconst C 0 dX7_fill_41 ?_
        first | (rw [if_pos (by assumption)] at K42; exact K42) | (rw [if_neg (by simp_all)] at K42; exact K42)
      · refine n_lconst C 1 dX7_fill_37 ?_
        refine g_goto C 42 dX7_fill_38 (by decide) ?_
        first | (rw [if_pos (by assumption)] at K42; exact K42) | (rw [if_neg (by simp_all)] at K42; exact K42)
    refine g_last C dX7_fill_42 hW.2.2.2.1.1 hW.2.2.2.1.2 (by omega) rfl ?_
    refine n_iinc C (by rw [hmL]; decide) dX7_fill_43 rfl (n_i1 _) [.ref c, .ref a, .int (nI (m)), .int (bI (b)), .int (nI (i + 1)), unk, unk] ?_
    refine g_goto C 13 dX7_fill_46 (by decide) ?_
    refine ih (i + 1) _ (by omega) (hf.tr (FN.wJ rfl)) (fun s hs => ?_)
    rw [mJ_wJ]
    by_cases e : s = i
    · rw [e, up_same]; rfl
    · rw [va_up_ne _ _ e]; exact hv s (by omega)

set_option maxRecDepth 100000 in
theorem l2_fill {x : Cx} (hR : xR x = MX7_fill.rm) (hmL : (xc x).maxLocals = MX7_fill.nL) (C : BX x cX7_fill RX7) {S0 : pv_M} {c f g w0 v0 a t n F m : Nat} {T : Nat → Nat} {b : Bool} (hA0 : AutoAt S0 a t n T F) (h0 : 0 < n) (h6 : n ≤ 6) (hT : ∀ i, i < n * 3 → T i < n) (hm : m ≤ 20) (hnA : ¬ P5 c f g w0 v0 a ∧ ¬ P5 c f g w0 v0 t) (kk : ∀ S w v, RwAt S c f g w v → Sd w v w0 v0 → mI S c 0 = bI b → mI S c 1 = nI (m + 1) → RV T F b S f g (m + 1) → FR (P5 c f g w0 v0) S0 S → GG x 106 0 0 [.ref c, .ref a, .int (nI (m)), .int (bI (b)), .long (lN (3 ^ (m + 1))), unk, .int (nI (m + 1))] [] (S) 95) : ∀ z i w v S, i + z = m + 1 → RwAt S c f g w v → Sd w v w0 v0 → mI S c 0 = bI b → mI S c 1 = nI i → (∀ s, s < n → mJ S w s = lN (wy T F i s)) → RV T F b S f g i → FR (P5 c f g w0 v0) S0 S → GG x 106 0 0 [.ref c, .ref a, .int (nI (m)), .int (bI (b)), .long (lN (3 ^ (i))), unk, .int (nI (i))] [] (S) 55 := by
  intro z
  induction z with
  | zero =>
    intro i w v S hz hW hd hb0 hb1 hw hv hf
    obtain rfl : i = m + 1 := by omega
    refine g_iload C dX7_fill_55 rfl ?_
    refine g_iload_n C dX7_fill_57 rfl ?_
    refine n_ic_gt C 95 dX7_fill_58 (fun h58 => ?_) (fun h58 => absurd h58 (by omega))
    exact kk S w v hW hd hb0 hb1 hv hf
  | succ z ih =>
    intro i w v S hz hW hd hb0 hb1 hw hv hf
    have hA : AutoAt S a t n T F := hA0.keepR hf hnA.1 hnA.2
    obtain ⟨nn, hpv, _, _⟩ := shV_ok (T := T) (F := F) (k := i) (by omega)
    obtain ⟨mm, hpf, _, _⟩ := shF_ok (T := T) (F := F) (k := i) (by omega)
    have hw_0 := hw 0 h0
    refine g_iload C dX7_fill_55 rfl ?_
    refine g_iload_n C dX7_fill_57 rfl ?_
    refine n_ic_gt C 95 dX7_fill_58 (fun h58 => absurd h58 (by omega)) (fun h58 => ?_)
    refine g_aload_n C dX7_fill_61 rfl ?_
    refine g_aload_n C dX7_fill_62 rfl ?_
    refine g_getR C fo_X7_27 dX7_fill_63 hW.1.1 hW.1.2 (fun _ => rfl) hW.2.2.2.2.2.2.2.2.1 ?_
    refine n_iconst C 0 dX7_fill_66 ?_
    refine n_lald C dX7_fill_67 hW.2.2.2.1.1 hW.2.2.2.1.2 hw_0 ?_ (by omega)
    refine g_l2d C dX7_fill_68 ?_
    refine g_lload C dX7_fill_69 rfl ?_
    refine g_l2d C dX7_fill_71 ?_
    refine g_ddiv C dX7_fill_72 hpv.ok ?_
    refine g_callV C (As := [.double (FP.ddiv (FP.l2d (lN (wy T F i 0))) (FP.l2d (lN (3 ^ (i)))))]) (k_addR _ hW (by omega) hb0 hb1 (u := shV T F i) hpf.ok) vo_X7_43 dX7_fill_73 rfl hW.1.1 hW.1.2 rfl (rm_ok (M' := MX7_fill) hR (by decide)) (Nat.le_of_ble_eq_true rfl) (fun v9 S5 h9 => ?_)
    obtain ⟨rfl, e5⟩ := h9
    obtain ⟨k0, k1, kR, kJ, kv, kf⟩ := addR_ok hW hb0 hv e5
    have hW5 : RwAt S5 c f g w v := hW.of (congrFun kR c)
    have hf5 := hf.tr (kf.mono (fun r z => hd.P z))
    have hA5 : AutoAt S5 a t n T F := hA0.keepR hf5 hnA.1 hnA.2
    have hw5 : ∀ s, s < n → mJ S5 w s = lN (wy T F i s) := by rw [kJ]; exact hw
    refine g_n0 [] rfl rfl rfl ?_
    refine g_aload_n C dX7_fill_76 rfl ?_
    refine g_aload_n C dX7_fill_77 rfl ?_
    refine g_callV C (As := [.ref a]) (k_lengthen _ hW5 hA5 h6 hT hw5) vo_X7_47 dX7_fill_78 rfl hW.1.1 hW.1.2 rfl (rm_ok (M' := MX7_fill) hR (by decide)) (Nat.le_of_ble_eq_true rfl) (fun v9 S8 h9 => ?_)
    obtain ⟨rfl, hW8, hv8, hf8, hi8⟩ := h9
    have nfc : f ≠ c := sh_ne hW.2.1.1 hW.1.1 (by decide)
    have nfv : f ≠ v := sh_ne hW.2.1.1 hW.2.2.2.2.1.1 (by decide)
    have ngc : g ≠ c := sh_ne hW.2.2.1.1 hW.1.1 (by decide)
    have ngv : g ≠ v := sh_ne hW.2.2.1.1 hW.2.2.2.2.1.1 (by decide)
    have kv8 : RV T F b S8 f g (i + 1) := ⟨fun z j hj => by rw [(hf8 f (fun z => z.elim nfc nfv)).2.2.2.1]; exact kv.1 z j hj, fun z j hj => by rw [(hf8 g (fun z => z.elim ngc ngv)).2.2.2.2]; exact kv.2 z j hj⟩
    refine g_n0 [] rfl rfl rfl ?_
    refine g_lload C dX7_fill_81 rfl ?_
    refine g_ldc2 C (v := lN 3) dX7_fill_83 kc_X7_51 ?_
    refine n_lmul C dX7_fill_86 ?_
    refine g_lstore C (by rw [hmL]; decide) dX7_fill_87 [.ref c, .ref a, .int (nI (m)), .int (bI (b)), .long (lN ((3 ^ (i)) * (3))), unk, .int (nI (i))] rfl ?_
    refine n_iinc C (by rw [hmL]; decide) dX7_fill_89 rfl (n_i1 _) [.ref c, .ref a, .int (nI (m)), .int (bI (b)), .long (lN ((3 ^ (i)) * (3))), unk, .int (nI (i + 1))] ?_
    refine g_goto C 55 dX7_fill_92 (by decide) ?_
    exact ih (i + 1) v w S8 (by omega) hW8 hd.sw (by rw [hi8]; exact k0) (by rw [hi8]; exact k1) hv8 kv8 (hf5.tr (hf8.mono (fun r z => hd.P (z.elim Or.inl (fun y => Or.inr (Or.inr (Or.inr (Or.inr y))))))))

set_option maxRecDepth 100000 in
theorem k_fillR (l : Launch) {S : pv_M} {c f g w v a t n F m : Nat} {T : Nat → Nat} {b : Bool} (hW : RwAt S c f g w v) (hA : AutoAt S a t n T F) (h0 : 0 < n) (h6 : n ≤ 6) (hT : ∀ i, i < n * 3 → T i < n) (hF : F < 64) (hm : m ≤ 20) : mt l MX7_fill 106 [.ref c, .ref a, .int (nI (m)), .int (bI (b))] S (fun u S' => u = none ∧ (∃ w' v', RwAt S' c f g w' v' ∧ Sd w' v' w v) ∧ mI S' c 0 = bI b ∧ mI S' c 1 = nI (m + 1) ∧ RV T F b S' f g (m + 1) ∧ FR (P5 c f g w v) S S') := by
  refine mt_of (by decide) (Nat.le_of_ble_eq_true rfl) ?_
  intro x hl hR hmL C E
  show GG x 106 0 0 [.ref c, .ref a, .int (nI (m)), .int (bI (b)), unk, unk, unk] [] S 0
  refine g_aload_n C dX7_fill_0 rfl ?_
  refine g_iload_n C dX7_fill_1 rfl ?_
  refine g_putZ C fo_X7_9 dX7_fill_2 hW.1.1 hW.1.2 rfl (bI_01 _) ?_
  refine g_aload_n C dX7_fill_5 rfl ?_
  refine n_iconst C 0 dX7_fill_6 ?_
  refine g_putI C fo_X7_15 dX7_fill_7 hW.1.1 hW.1.2 rfl ?_
  refine n_iconst C 0 dX7_fill_10 ?_
  refine g_istore C (by rw [hmL]; decide) dX7_fill_11 [.ref c, .ref a, .int (nI (m)), .int (bI (b)), .int (nI (0)), unk, unk] rfl ?_
  have hWs : RwAt (wI (wI S c (va_up (mI S c) 0 (bI (b)))) c (va_up (mI (wI S c (va_up (mI S c) 0 (bI (b)))) c) 1 (nI (0)))) c f g w v := hW.of rfl
  have na := hW.nA hA
  have hfs : FN (fun r => r = c) S (wI (wI S c (va_up (mI S c) 0 (bI (b)))) c (va_up (mI (wI S c (va_up (mI S c) 0 (bI (b)))) c) 1 (nI (0)))) := FN.tr (P := fun r => r = c) (FN.wI rfl) (FN.wI rfl)
  have hAs : AutoAt (wI (wI S c (va_up (mI S c) 0 (bI (b)))) c (va_up (mI (wI S c (va_up (mI S c) 0 (bI (b)))) c) 1 (nI (0)))) a t n T F := hA.keep hfs (fun z => na.1 (Or.inl z)) (fun z => na.2 (Or.inl z))
  refine l1_fill hR hmL C hWs hAs h6 hT hF (fun S5 hf5 hv5 => ?_) n 0 _ (by omega) FN.rf (fun s hs => absurd hs (Nat.not_lt_zero _))
  have ncw : c ≠ w := sh_ne hW.1.1 hW.2.2.2.1.1 (by decide)
  have hW5 : RwAt S5 c f g w v := hWs.of (congrFun hf5.1 c)
  have hF5 : FR (P5 c f g w v) S S5 := (hfs.fr.mono (fun r z => Or.inl z)).tr (hf5.fr.mono (fun r z => Or.inr (Or.inr (Or.inr (Or.inl z)))))
  have hI5 := (hf5.2 c ncw).1
  refine n_lconst C 1 dX7_fill_49 ?_
  refine g_lstore C (by rw [hmL]; decide) dX7_fill_50 [.ref c, .ref a, .int (nI (m)), .int (bI (b)), .long (lN (1)), unk, unk] rfl ?_
  refine n_iconst C 0 dX7_fill_52 ?_
  refine g_istore C (by rw [hmL]; decide) dX7_fill_53 [.ref c, .ref a, .int (nI (m)), .int (bI (b)), .long (lN (1)), unk, .int (nI (0))] rfl ?_
  refine l2_fill hR hmL C (w0 := w) (v0 := v) hA h0 h6 hT hm na (fun S8 w8 v8 hW8 hd8 h80 h81 h8v h8f => ?_) (m + 1) 0 w v S5 (by omega) hW5 (Or.inl ⟨rfl, rfl⟩) (by rw [hI5]; exact rI_k (by decide) rI_s) (by rw [hI5]; exact rI_s) hv5 ⟨fun _ j hj => absurd hj (Nat.not_lt_zero _), fun _ j hj => absurd hj (Nat.not_lt_zero _)⟩ hF5
  exact g_vret C E dX7_fill_95 (by rw [hR]; decide) (by rw [hR]; decide) ⟨rfl, ⟨w8, v8, hW8, hd8⟩, h80, h81, h8v, h8f⟩
  
