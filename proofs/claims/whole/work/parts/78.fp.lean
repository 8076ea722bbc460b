/-! FLOATING NUMBERS THAT ARE NOT NEGATIVE, in units of the least number -/
theorem fp_dbl {f : FP.Core.Fmt} (hf : FP.Core.Good f) {c : Nat} {q : Int} (hx : FP.Core.fits f (.fin false c q)) (hq : q < f.qmax) : ∃ c' q', FP.Core.round f (FP.Core.exactSum (.fin false c q) (.fin false c q)) = .fin false c' q' ∧ FP.Core.inUnits c' q' f.qmin = 2 * FP.Core.inUnits c q f.qmin := by
  obtain ⟨x1, x2, x3, _⟩ := hx
  obtain ⟨c', q', h1, h2⟩ := FP.Core.round_exact hf false x1 (show f.qmin ≤ q + 1 by omega) (show q + 1 ≤ f.qmax by omega)
  refine ⟨c', q', ?_, ?_⟩
  · rw [← h1]
    have m : min q q = q := by omega
    have u : FP.Core.inUnits c q q = c := by unfold FP.Core.inUnits; rw [show (q - q).toNat = 0 by omega]; simp
    have v : FP.Core.sumUnits false c q false c q (min q q) = ((2 * c : Nat) : Int) := by
      unfold FP.Core.sumUnits
      rw [m, u]
      show (c : Int) + (c : Int) = _
      omega
    have s : FP.Core.sumSign false false ((2 * c : Nat) : Int) = false := by
      unfold FP.Core.sumSign
      by_cases z : ((2 * c : Nat) : Int) = 0
      · rw [if_pos z]; rfl
      · rw [if_neg z]; exact decide_eq_false (by omega)
    have a : (((2 * c : Nat) : Int)).natAbs = 2 * c := by omega
    show FP.Core.round f (.fin (FP.Core.sumSign false false (FP.Core.sumUnits false c q false c q (min q q))) (FP.Core.sumUnits false c q false c q (min q q)).natAbs (min q q)) = _
    rw [v, m, s, a]
    show FP.Core.roundRatio f false (2 * c) 1 q = FP.Core.roundRatio f false c 1 (q + 1)
    refine FP.Core.roundRatio_congr (by decide) (by decide) ?_
    rw [show (q - (q + 1)).toNat = 0 by omega, show (q + 1 - q).toNat = 1 by omega]
    omega
  · rw [h2]
    unfold FP.Core.inUnits
    rw [show (q + 1 - f.qmin).toNat = (q - f.qmin).toNat + 1 by omega, Nat.pow_succ, ← Nat.mul_assoc, Nat.mul_comm]
theorem fp_sub {f : FP.Core.Fmt} (hf : FP.Core.Good f) {c d : Nat} {q r : Int} (hx : FP.Core.fits f (.fin false c q)) (hy : FP.Core.fits f (.fin false d r)) (h1 : FP.Core.inUnits d r f.qmin ≤ FP.Core.inUnits c q f.qmin) (h2 : FP.Core.inUnits c q f.qmin ≤ 2 * FP.Core.inUnits d r f.qmin) : ∃ c' q', FP.Core.round f (FP.Core.exactSum (.fin false c q) (FP.Core.negate (.fin false d r))) = .fin false c' q' ∧ FP.Core.inUnits c' q' f.qmin = FP.Core.inUnits c q f.qmin - FP.Core.inUnits d r f.qmin := by
  obtain ⟨x1, x2, x3, _⟩ := hx
  obtain ⟨y1, y2, y3, _⟩ := hy
  have ec := FP.Core.inUnits_move c (q := q) (e := f.qmin) (r := min q r) (by omega) (by omega)
  have ed := FP.Core.inUnits_move d (q := r) (e := f.qmin) (r := min q r) (by omega) (by omega)
  have pp := Nat.two_pow_pos (min q r - f.qmin).toNat
  have hcd : FP.Core.inUnits c q (min q r) = c ∨ FP.Core.inUnits d r (min q r) = d := by
    by_cases z : q ≤ r
    · left; unfold FP.Core.inUnits; rw [show (q - min q r).toNat = 0 by omega]; simp
    · right; unfold FP.Core.inUnits; rw [show (r - min q r).toNat = 0 by omega]; simp
  rw [ec, ed] at h1 h2
  rw [ec, ed]
  have v : FP.Core.sumUnits false c q true d r (min q r) = (FP.Core.inUnits c q (min q r) : Int) - (FP.Core.inUnits d r (min q r) : Int) := by
    unfold FP.Core.sumUnits
    show (FP.Core.inUnits c q (min q r) : Int) + -(FP.Core.inUnits d r (min q r) : Int) = _
    omega
  generalize FP.Core.inUnits c q (min q r) = X at h1 h2 hcd v ⊢
  generalize FP.Core.inUnits d r (min q r) = Y at h1 h2 hcd v ⊢
  have g1 : Y ≤ X := Nat.le_of_mul_le_mul_right h1 pp
  have g2 : X ≤ 2 * Y := Nat.le_of_mul_le_mul_right (by rw [Nat.mul_assoc]; exact h2) pp
  have hlt : X - Y < 2 ^ f.p := by rcases hcd with z | z <;> omega
  obtain ⟨c', q', k1, k2⟩ := FP.Core.round_exact hf false hlt (show f.qmin ≤ min q r by omega) (show min q r ≤ f.qmax by omega)
  refine ⟨c', q', ?_, ?_⟩
  · rw [← k1]
    show FP.Core.round f (.fin (FP.Core.sumSign false true (FP.Core.sumUnits false c q true d r (min q r))) (FP.Core.sumUnits false c q true d r (min q r)).natAbs (min q r)) = _
    have s : FP.Core.sumSign false true ((X : Int) - (Y : Int)) = false := by
      unfold FP.Core.sumSign
      by_cases z : (X : Int) - (Y : Int) = 0
      · rw [if_pos z]; rfl
      · rw [if_neg z]; exact decide_eq_false (by omega)
    have a : ((X : Int) - (Y : Int)).natAbs = X - Y := by omega
    rw [v, s, a]
  · rw [k2]
    unfold FP.Core.inUnits
    rw [Nat.sub_mul]

def PV (a : UInt64) (n : Nat) : Prop := ∃ c q, FP.Core.val64 a = .fin false c q ∧ FP.Core.inUnits c q FP.Core.b64.qmin = n
theorem PV.fin {a : UInt64} {n : Nat} (h : PV a n) : FP.Core.DFin a := by obtain ⟨c, q, h, _⟩ := h; exact ⟨_, _, _, h⟩
theorem PV.nn {a : UInt64} {n : Nat} (h : PV a n) : FP.Core.val64 a ≠ .nan := h.fin.ne_nan
theorem PV.zm {a : UInt64} {n : Nat} (h : PV a n) : FP.Core.zmag FP.Core.b64 (FP.Core.val64 a) = n ∧ FP.Core.sgn (FP.Core.val64 a) = false := by
  obtain ⟨c, q, h, h2⟩ := h
  rw [h]
  exact ⟨h2, rfl⟩
theorem PV.zv {a : UInt64} {n : Nat} (h : PV a n) : FP.Core.zval FP.Core.b64 (FP.Core.val64 a) = (n : Int) := by
  unfold FP.Core.zval
  rw [h.zm.1, h.zm.2]
  rfl
theorem PV.inj {a b : UInt64} {n : Nat} (h : PV a n) (k : PV b n) : a = b := by
  have z1 := FP.Core.zmag_bits h.nn
  have z2 := FP.Core.zmag_bits k.nn
  rw [h.zm.1] at z1
  rw [k.zm.1, z1] at z2
  have s1 := FP.Core.sgn_bits h.nn
  have s2 := FP.Core.sgn_bits k.nn
  rw [h.zm.2] at s1
  rw [k.zm.2] at s2
  have s1 := of_decide_eq_false s1.symm
  have s2 := of_decide_eq_false s2.symm
  have e : a.toNat % 2 ^ 63 = b.toNat % 2 ^ 63 := by
    rcases Nat.lt_trichotomy (a.toNat % 2 ^ 63) (b.toNat % 2 ^ 63) with z | z | z
    · have := FP.Core.unitsOf_lt (f := FP.Core.b64) z; omega
    · exact z
    · have := FP.Core.unitsOf_lt (f := FP.Core.b64) z; omega
  exact UInt64.toNat_inj.mp (by omega)
theorem PV.cmp {a b : UInt64} {n m : Nat} (h : PV a n) (k : PV b m) : FP.dcmp a b = some (compare (n : Int) (m : Int)) := by
  show FP.Core.dcmp a b = _
  rw [FP.Core.dcmp_zval h.nn k.nn, h.zv, k.zv]
theorem PV.ok {a : UInt64} {n : Nat} (h : PV a n) : vf_n64 a := by
  have := (FP.Core.fin_bits a).mp h.fin
  unfold vf_n64
  rw [UInt64.le_iff_toNat_le, UInt64.toNat_and]
  show a.toNat &&& (2 ^ 63 - 1) ≤ 9218868437227405312
  rw [Nat.and_two_pow_sub_one_eq_mod]
  omega
theorem PV.dbl {a : UInt64} {n : Nat} (h : PV a n) (hn : n < 2 ^ 2000) : PV (FP.dadd a a) (2 * n) := by
  have hf := FP.Core.val64_fits a
  obtain ⟨c, q, h1, h2⟩ := h
  rw [h1] at hf
  have hq : q < FP.Core.b64.qmax := by
    have g := hf.2.2.2
    have g1 := hf.2.1
    have e1 : FP.Core.b64.qmin = -1074 := by decide
    have e2 : FP.Core.b64.qmax = 971 := by decide
    rw [e1] at g g1 h2
    rw [e2]
    by_cases z : c = 0
    · have : ¬ FP.Core.b64.tails ≤ c := by rw [z]; exact Nat.not_le.mpr (FP.Core.tails_pos _)
      have := g.resolve_right this
      omega
    · rcases (show q < 971 ∨ 971 ≤ q by omega) with w | w
      · exact w
      · unfold FP.Core.inUnits at h2
        have l : 2 ^ (q - -1074).toNat ≤ c * 2 ^ (q - -1074).toNat := Nat.le_mul_of_pos_left _ (by omega)
        have l2 : 2 ^ 2000 ≤ 2 ^ (q - -1074).toNat := Nat.pow_le_pow_right (by decide) (by omega)
        rw [h2] at l
        exact absurd (Nat.lt_of_lt_of_le hn (Nat.le_trans l2 l)) (Nat.lt_irrefl _)
  obtain ⟨c', q', k1, k2⟩ := fp_dbl FP.Core.good_b64 hf hq
  refine ⟨c', q', ?_, by rw [k2, h2]⟩
  show FP.Core.val64 (FP.Core.dadd a a) = _
  rw [FP.Core.val64_dadd, h1]
  exact k1
theorem PV.sub {a b : UInt64} {n m : Nat} (h : PV a n) (k : PV b m) (h1 : m ≤ n) (h2 : n ≤ 2 * m) : PV (FP.dsub a b) (n - m) := by
  have hf := FP.Core.val64_fits a
  have kf := FP.Core.val64_fits b
  obtain ⟨c, q, ha, rfl⟩ := h
  obtain ⟨d, r, hb, rfl⟩ := k
  rw [ha] at hf
  rw [hb] at kf
  obtain ⟨c', q', k1, k2⟩ := fp_sub FP.Core.good_b64 hf kf h1 h2
  refine ⟨c', q', ?_, k2⟩
  show FP.Core.val64 (FP.Core.dsub a b) = _
  rw [FP.Core.val64_dsub, ha, hb]
  exact k1
theorem PV.rem {a b : UInt64} {n m : Nat} (h : PV a n) (k : PV b m) (h1 : 0 < m) : PV (FP.drem a b) (n % m) := by
  obtain ⟨c, q, ha, rfl⟩ := h
  obtain ⟨d, r, hb, rfl⟩ := k
  obtain ⟨c', q', k1, k2⟩ := FP.Core.drem_exact ha hb (fun z => by rw [z] at h1; unfold FP.Core.inUnits at h1; omega)
  exact ⟨c', q', k1, k2⟩
theorem PV.zero {a : UInt64} {n : Nat} (h : PV a n) : FP.dcmp a FP.dconst0 = some (compare (n : Int) (0 : Int)) := by
  have z : PV FP.dconst0 0 := ⟨0, FP.Core.b64.qmin, FP.Core.val64_dconst0, by unfold FP.Core.inUnits; simp⟩
  exact h.cmp z

def PF (a : UInt32) (n : Nat) : Prop := ∃ c q, FP.Core.val32 a = .fin false c q ∧ FP.Core.inUnits c q FP.Core.b32.qmin = n
theorem PF.fin {a : UInt32} {n : Nat} (h : PF a n) : FP.Core.FFin a := by obtain ⟨c, q, h, _⟩ := h; exact ⟨_, _, _, h⟩
theorem PF.nn {a : UInt32} {n : Nat} (h : PF a n) : FP.Core.val32 a ≠ .nan := h.fin.ne_nan
theorem PF.zm {a : UInt32} {n : Nat} (h : PF a n) : FP.Core.zmag FP.Core.b32 (FP.Core.val32 a) = n ∧ FP.Core.sgn (FP.Core.val32 a) = false := by
  obtain ⟨c, q, h, h2⟩ := h
  rw [h]
  exact ⟨h2, rfl⟩
theorem PF.zv {a : UInt32} {n : Nat} (h : PF a n) : FP.Core.zval FP.Core.b32 (FP.Core.val32 a) = (n : Int) := by
  unfold FP.Core.zval
  rw [h.zm.1, h.zm.2]
  rfl
theorem PF.inj {a b : UInt32} {n : Nat} (h : PF a n) (k : PF b n) : a = b := by
  have z1 := FP.Core.zmag_toNat32 h.nn
  have z2 := FP.Core.zmag_toNat32 k.nn
  rw [h.zm.1] at z1
  rw [k.zm.1, z1] at z2
  have s1 := FP.Core.sgn_bits32 h.nn
  have s2 := FP.Core.sgn_bits32 k.nn
  rw [h.zm.2] at s1
  rw [k.zm.2] at s2
  have s1 := of_decide_eq_false s1.symm
  have s2 := of_decide_eq_false s2.symm
  have e : a.toNat % 2 ^ 31 = b.toNat % 2 ^ 31 := by
    rcases Nat.lt_trichotomy (a.toNat % 2 ^ 31) (b.toNat % 2 ^ 31) with z | z | z
    · have := FP.Core.unitsOf_lt (f := FP.Core.b32) z; omega
    · exact z
    · have := FP.Core.unitsOf_lt (f := FP.Core.b32) z; omega
  exact UInt32.toNat_inj.mp (by omega)
theorem PF.cmp {a b : UInt32} {n m : Nat} (h : PF a n) (k : PF b m) : FP.fcmp a b = some (compare (n : Int) (m : Int)) := by
  show FP.Core.fcmp a b = _
  rw [FP.Core.fcmp_zval h.nn k.nn, h.zv, k.zv]
theorem PF.ok {a : UInt32} {n : Nat} (h : PF a n) : vf_n32 a := by
  have := (FP.Core.fin_bits32 a).mp h.fin
  unfold vf_n32
  rw [UInt32.le_iff_toNat_le, UInt32.toNat_and]
  show a.toNat &&& (2 ^ 31 - 1) ≤ 2139095040
  rw [Nat.and_two_pow_sub_one_eq_mod]
  omega
theorem PF.dbl {a : UInt32} {n : Nat} (h : PF a n) (hn : n < 2 ^ 200) : PF (FP.fadd a a) (2 * n) := by
  have hf := FP.Core.val32_fits a
  obtain ⟨c, q, h1, h2⟩ := h
  rw [h1] at hf
  have hq : q < FP.Core.b32.qmax := by
    have g := hf.2.2.2
    have g1 := hf.2.1
    have e1 : FP.Core.b32.qmin = -149 := by decide
    have e2 : FP.Core.b32.qmax = 104 := by decide
    rw [e1] at g g1 h2
    rw [e2]
    by_cases z : c = 0
    · have : ¬ FP.Core.b32.tails ≤ c := by rw [z]; exact Nat.not_le.mpr (FP.Core.tails_pos _)
      have := g.resolve_right this
      omega
    · rcases (show q < 104 ∨ 104 ≤ q by omega) with w | w
      · exact w
      · unfold FP.Core.inUnits at h2
        have l : 2 ^ (q - -149).toNat ≤ c * 2 ^ (q - -149).toNat := Nat.le_mul_of_pos_left _ (by omega)
        have l2 : 2 ^ 200 ≤ 2 ^ (q - -149).toNat := Nat.pow_le_pow_right (by decide) (by omega)
        rw [h2] at l
        exact absurd (Nat.lt_of_lt_of_le hn (Nat.le_trans l2 l)) (Nat.lt_irrefl _)
  obtain ⟨c', q', k1, k2⟩ := fp_dbl FP.Core.good_b32 hf hq
  refine ⟨c', q', ?_, by rw [k2, h2]⟩
  show FP.Core.val32 (FP.Core.fadd a a) = _
  rw [FP.Core.val32_fadd, h1]
  exact k1
theorem PF.sub {a b : UInt32} {n m : Nat} (h : PF a n) (k : PF b m) (h1 : m ≤ n) (h2 : n ≤ 2 * m) : PF (FP.fsub a b) (n - m) := by
  have hf := FP.Core.val32_fits a
  have kf := FP.Core.val32_fits b
  obtain ⟨c, q, ha, rfl⟩ := h
  obtain ⟨d, r, hb, rfl⟩ := k
  rw [ha] at hf
  rw [hb] at kf
  obtain ⟨c', q', k1, k2⟩ := fp_sub FP.Core.good_b32 hf kf h1 h2
  refine ⟨c', q', ?_, k2⟩
  show FP.Core.val32 (FP.Core.fsub a b) = _
  rw [FP.Core.val32_fsub, ha, hb]
  exact k1
theorem PF.rem {a b : UInt32} {n m : Nat} (h : PF a n) (k : PF b m) (h1 : 0 < m) : PF (FP.frem a b) (n % m) := by
  obtain ⟨c, q, ha, rfl⟩ := h
  obtain ⟨d, r, hb, rfl⟩ := k
  obtain ⟨c', q', k1, k2⟩ := FP.Core.frem_exact ha hb (fun z => by rw [z] at h1; unfold FP.Core.inUnits at h1; omega)
  exact ⟨c', q', k1, k2⟩
theorem PF.zero {a : UInt32} {n : Nat} (h : PF a n) : FP.fcmp a FP.fconst0 = some (compare (n : Int) (0 : Int)) := by
  have z : PF FP.fconst0 0 := ⟨0, FP.Core.b32.qmin, FP.Core.val32_fconst0, by unfold FP.Core.inUnits; simp⟩
  exact h.cmp z

/-! comparisons -/
theorem cv_lt {n m : Nat} {op : CmpOp} : Op.cmpValue (some (compare (n : Int) (m : Int))) op < 0 ↔ n < m := by
  rcases Nat.lt_trichotomy n m with z | z | z
  · rw [(FP.Core.compare_lt_iff _ _).mpr (by omega)]; exact ⟨fun _ => z, fun _ => by cases op <;> decide⟩
  · rw [(FP.Core.compare_eq_iff _ _).mpr (by omega)]; exact ⟨fun h => absurd h (by cases op <;> decide), fun _ => by omega⟩
  · rw [(FP.Core.compare_gt_iff _ _).mpr (by omega)]; exact ⟨fun h => absurd h (by cases op <;> decide), fun _ => by omega⟩
theorem cv_gt {n m : Nat} {op : CmpOp} : 0 < Op.cmpValue (some (compare (n : Int) (m : Int))) op ↔ m < n := by
  rcases Nat.lt_trichotomy n m with z | z | z
  · rw [(FP.Core.compare_lt_iff _ _).mpr (by omega)]; exact ⟨fun h => absurd h (by cases op <;> decide), fun _ => by omega⟩
  · rw [(FP.Core.compare_eq_iff _ _).mpr (by omega)]; exact ⟨fun h => absurd h (by cases op <;> decide), fun _ => by omega⟩
  · rw [(FP.Core.compare_gt_iff _ _).mpr (by omega)]; exact ⟨fun _ => z, fun _ => by cases op <;> decide⟩
theorem cv_eq {n m : Nat} {op : CmpOp} : Op.cmpValue (some (compare (n : Int) (m : Int))) op = 0 ↔ n = m := by
  rcases Nat.lt_trichotomy n m with z | z | z
  · rw [(FP.Core.compare_lt_iff _ _).mpr (by omega)]; exact ⟨fun h => absurd h (by cases op <;> decide), fun _ => by omega⟩
  · rw [(FP.Core.compare_eq_iff _ _).mpr (by omega)]; exact ⟨fun _ => z, fun _ => by cases op <;> decide⟩
  · rw [(FP.Core.compare_gt_iff _ _).mpr (by omega)]; exact ⟨fun h => absurd h (by cases op <;> decide), fun _ => by omega⟩
/-! shares -/
theorem qm64 : FP.Core.b64.qmin = -1074 := by decide
theorem qm32 : FP.Core.b32.qmin = -149 := by decide
theorem l2d_n {i : Nat} (h : i ≤ 2 ^ 32) : ∃ c q, FP.Core.val64 (FP.l2d (lN i)) = .fin false c q ∧ c * 2 ^ q.toNat = i * 2 ^ (-q).toNat := by
  have ti : (lN i).toInt = (i : Int) := lg_ofNat_toInt (by omega)
  have hs : FP.Core.Small53 (lN i) := by unfold FP.Core.Small53; rw [ti]; omega
  obtain ⟨c, q, h1⟩ := FP.Core.l2d_shape (lN i)
  have hw := FP.Core.l2d_whole hs
  rw [ti, show decide ((i : Int) < 0) = false from decide_eq_false (by omega)] at h1
  rw [h1, ti] at hw
  refine ⟨c, q, h1, ?_⟩
  have hw : ((c * 2 ^ q.toNat : Nat) : Int) = (i : Int) * ((2 ^ (-q).toNat : Nat) : Int) := hw
  rw [← Int.natCast_mul] at hw
  exact Int.ofNat_inj.mp hw
theorem sh_ratio {i m : Nat} (h : i ≤ m) (h0 : 0 < m) (hm : m ≤ 2 ^ 32) : FP.Core.val64 (FP.ddiv (FP.l2d (lN i)) (FP.l2d (lN m))) = FP.Core.roundRatio FP.Core.b64 false i m 0 := by
  obtain ⟨c, q, h1, h2⟩ := l2d_n (i := i) (by omega)
  obtain ⟨d, r, k1, k2⟩ := l2d_n (i := m) hm
  show FP.Core.val64 (FP.Core.ddiv (FP.Core.l2d (lN i)) (FP.Core.l2d (lN m))) = _
  have h1 : FP.Core.val64 (FP.Core.l2d (lN i)) = .fin false c q := h1
  have k1 : FP.Core.val64 (FP.Core.l2d (lN m)) = .fin false d r := k1
  have hd : d ≠ 0 := by
    intro z
    rw [z, Nat.zero_mul] at k2
    have := Nat.mul_pos h0 (Nat.two_pow_pos (-r).toNat)
    omega
  rw [FP.Core.val64_ddiv, h1, k1]
  show (if d = 0 then _ else FP.Core.roundRatio FP.Core.b64 (false != false) c d (q - r)) = _
  rw [if_neg hd]
  refine FP.Core.roundRatio_congr (by omega) h0 ?_
  have hX := Nat.mul_pos (Nat.two_pow_pos q.toNat) (Nat.two_pow_pos (-r).toNat)
  refine Nat.eq_of_mul_eq_mul_right hX ?_
  have e1 : c * m * 2 ^ (q - r - 0).toNat * (2 ^ q.toNat * 2 ^ (-r).toNat) = (c * 2 ^ q.toNat) * (m * 2 ^ (-r).toNat) * 2 ^ (q - r - 0).toNat := by ac_rfl
  have e2 : i * d * 2 ^ (0 - (q - r)).toNat * (2 ^ q.toNat * 2 ^ (-r).toNat) = i * d * 2 ^ ((0 - (q - r)).toNat + q.toNat + (-r).toNat) := by rw [Nat.pow_add, Nat.pow_add]; ac_rfl
  rw [e1, h2, ← k2, e2, show (0 - (q - r)).toNat + q.toNat + (-r).toNat = (-q).toNat + r.toNat + (q - r - 0).toNat by omega, Nat.pow_add, Nat.pow_add]
  ac_rfl
theorem two1074 : FP.Core.zmag FP.Core.b64 (.fin false (2 ^ 52) (-52)) = 2 ^ 1074 := by
  show 2 ^ 52 * 2 ^ ((-52 : Int) - FP.Core.b64.qmin).toNat = 2 ^ 1074
  rw [qm64, ← Nat.pow_add]
  rfl
theorem two1042 : FP.Core.zmag FP.Core.b64 (.fin false (2 ^ 52) (-84)) = 2 ^ 1042 := by
  show 2 ^ 52 * 2 ^ ((-84 : Int) - FP.Core.b64.qmin).toNat = 2 ^ 1042
  rw [qm64, ← Nat.pow_add]
  rfl
theorem fits1 : FP.Core.fits FP.Core.b64 (.fin false (2 ^ 52) (-52)) := by unfold FP.Core.fits; decide
theorem fits84 : FP.Core.fits FP.Core.b64 (.fin false (2 ^ 52) (-84)) := by unfold FP.Core.fits; decide
theorem sh_val {i m : Nat} (h : i ≤ m) (h0 : 0 < m) (hm : m ≤ 2 ^ 32) : ∃ n, PV (FP.ddiv (FP.l2d (lN i)) (FP.l2d (lN m))) n ∧ n ≤ 2 ^ 1074 ∧ (n = 0 ∨ 2 ^ 1042 ≤ n) := by
  have hr := sh_ratio h h0 hm
  have e0 : FP.Core.inUnits i 0 FP.Core.b64.qmin = i * 2 ^ 1074 := by unfold FP.Core.inUnits; rw [qm64]; rfl
  have ez : (FP.Core.b64.qmin - FP.Core.b64.qmin).toNat = 0 := by omega
  have hle := FP.Core.zmag_roundRatio_le FP.Core.good_b64 (s := false) (A := i) (B := m) (e := 0) (e0 := FP.Core.b64.qmin) (V := .fin false (2 ^ 52) (-52)) h0 fits1 (fun z => FP.Core.Datum.noConfusion z) (Int.le_refl _) (by rw [qm64]; decide) (by
    rw [e0, two1074, ez, Nat.pow_zero, Nat.mul_one, Nat.mul_comm]
    exact Nat.mul_le_mul_left _ h)
  rw [two1074] at hle
  rcases FP.Core.roundRatio_cases FP.Core.b64 false i m 0 with ⟨c, q, hc⟩ | hc
  · rw [hc] at hr hle
    refine ⟨FP.Core.inUnits c q FP.Core.b64.qmin, ⟨c, q, hr, rfl⟩, hle, ?_⟩
    by_cases z : i = 0
    · left
      rw [z] at hc
      have hc : FP.Core.Datum.fin false 0 FP.Core.b64.qmin = .fin false c q := hc
      have c1 := (FP.Core.Datum.fin.inj hc).2.1
      rw [← c1]
      unfold FP.Core.inUnits
      exact Nat.zero_mul _
    · right
      have hge := FP.Core.zmag_roundRatio_ge FP.Core.good_b64 (s := false) (A := i) (B := m) (e := 0) (e0 := FP.Core.b64.qmin) (V := .fin false (2 ^ 52) (-84)) h0 fits84 (Int.le_refl _) (by rw [qm64]; decide) (by
        rw [e0, two1042, ez, Nat.pow_zero, Nat.mul_one, show (2 : Nat) ^ 1074 = 2 ^ 1042 * 2 ^ 32 from by rw [← Nat.pow_add], Nat.mul_left_comm]
        refine Nat.mul_le_mul_left _ (Nat.le_trans hm ?_)
        exact Nat.le_mul_of_pos_left _ (by omega))
      rw [two1042, hc] at hge
      exact hge
  · rw [hc] at hle
    have t : FP.Core.zmag FP.Core.b64 (.inf false) = FP.Core.b64.tails * 2 ^ (FP.Core.b64.exps - 2) := rfl
    rw [t, FP.Core.tails_b64, ← Nat.pow_add] at hle
    have this := (Nat.pow_le_pow_iff_right (by decide : 1 < 2)).mp hle
    exact absurd this (by decide)
theorem two149 : FP.Core.zmag FP.Core.b32 (.fin false (2 ^ 23) (-23)) = 2 ^ 149 := by decide
theorem two117 : FP.Core.zmag FP.Core.b32 (.fin false (2 ^ 23) (-55)) = 2 ^ 117 := by decide
theorem fits23 : FP.Core.fits FP.Core.b32 (.fin false (2 ^ 23) (-23)) := by unfold FP.Core.fits; decide
theorem fits55 : FP.Core.fits FP.Core.b32 (.fin false (2 ^ 23) (-55)) := by unfold FP.Core.fits; decide
theorem d2f_val {a : UInt64} {n : Nat} (h : PV a n) (h1 : n ≤ 2 ^ 1074) (h2 : n = 0 ∨ 2 ^ 1042 ≤ n) : ∃ m, PF (FP.d2f a) m ∧ m ≤ 2 ^ 149 ∧ (m = 0 ∨ 2 ^ 117 ≤ m) := by
  have hn := h.fin.notNaN
  have hfit := FP.Core.val64_fits a
  obtain ⟨c, q, ha, hu⟩ := h
  rw [ha] at hfit
  have hq := hfit.2.1
  have e : FP.d2f a = FP.Core.d2f a := by
    unfold FP.d2f
    rw [if_neg (by rw [hn]; decide)]
  have hv : FP.Core.val32 (FP.Core.d2f a) = FP.Core.roundRatio FP.Core.b32 false c 1 q := by
    rw [FP.Core.val32_d2f, ha]
    rfl
  have ez : (FP.Core.b32.qmin - FP.Core.b64.qmin).toNat = 925 := by decide
  have hq32 : FP.Core.b64.qmin ≤ FP.Core.b32.qmin := by decide
  have hle := FP.Core.zmag_roundRatio_le FP.Core.good_b32 (s := false) (A := c) (B := 1) (e := q) (e0 := FP.Core.b64.qmin) (V := .fin false (2 ^ 23) (-23)) (by decide) fits23 (fun z => FP.Core.Datum.noConfusion z) hq32 hq (by
    rw [hu, two149, ez, Nat.mul_one, ← Nat.pow_add]
    exact h1)
  rw [two149] at hle
  rw [e]
  rcases FP.Core.roundRatio_cases FP.Core.b32 false c 1 q with ⟨c2, q2, hc⟩ | hc
  · rw [hc] at hv hle
    refine ⟨FP.Core.inUnits c2 q2 FP.Core.b32.qmin, ⟨c2, q2, hv, rfl⟩, hle, ?_⟩
    rcases h2 with z | z
    · left
      have c0 : c = 0 := by
        rw [z] at hu
        unfold FP.Core.inUnits at hu
        exact (Nat.mul_eq_zero.mp hu).resolve_right (Nat.ne_of_gt (Nat.two_pow_pos _))
      rw [c0] at hc
      have hc : FP.Core.Datum.fin false 0 FP.Core.b32.qmin = .fin false c2 q2 := hc
      injection hc with _ c1 c3
      rw [← c1]
      unfold FP.Core.inUnits
      exact Nat.zero_mul _
    · right
      have hge := FP.Core.zmag_roundRatio_ge FP.Core.good_b32 (s := false) (A := c) (B := 1) (e := q) (e0 := FP.Core.b64.qmin) (V := .fin false (2 ^ 23) (-55)) (by decide) fits55 hq32 hq (by
        rw [hu, two117, ez, Nat.mul_one, ← Nat.pow_add]
        exact z)
      rw [two117, hc] at hge
      exact hge
  · rw [hc] at hle
    exact absurd hle (by decide)
theorem f2d_ok {a : UInt32} {n : Nat} (h : PF a n) : vf_n64 (FP.f2d a) := by
  have e : FP.f2d a = FP.Core.f2d a := by
    unfold FP.f2d
    rw [if_neg (by rw [h.fin.notNaN]; decide)]
  have := (FP.Core.fin_bits _).mp (FP.Core.f2d_fin h.fin)
  rw [e]
  unfold vf_n64
  rw [UInt64.le_iff_toNat_le, UInt64.toNat_and]
  show (FP.Core.f2d a).toNat &&& (2 ^ 63 - 1) ≤ 9218868437227405312
  rw [Nat.and_two_pow_sub_one_eq_mod]
  omega
