/-! THE REFERENCE: its state. A register is (states, targets, finals); registers and word; what was saved; the rows. -/
abbrev Rg : Type := Nat × (Nat → Nat) × Nat
abbrev Cn : Type := (Nat → Rg) × (Nat × (Nat → Nat))
abbrev Rw : Type := (Nat → Nat × Nat) × (Nat → UInt32) × (Nat → UInt64)
abbrev Ab : Type := Cn × (Bool × Cn) × Rw
abbrev rN (A : Ab) (j : Nat) : Nat := (A.1.1 j).1
abbrev rT (A : Ab) (j : Nat) : Nat → Nat := (A.1.1 j).2.1
abbrev rF (A : Ab) (j : Nat) : Nat := (A.1.1 j).2.2
abbrev wM (A : Ab) : Nat := A.1.2.1
abbrev wL (A : Ab) : Nat → Nat := A.1.2.2
def RgM (S : pv_M) (cs ct cf : Nat) (R : Nat → Rg) : Prop := (∀ j, j < 3 → mI S cs j = nI (R j).1) ∧ (∀ j, j < 3 → ∀ i, i < 18 → mI S ct (18 * j + i) = nI ((R j).2.1 i)) ∧ ∀ j, j < 3 → ∀ s, s < 6 → mI S cf (6 * j + s) = bI ((R j).2.2.testBit s)
def WdM (S : pv_M) (k ca : Nat) (w : Nat × (Nat → Nat)) : Prop := mI S 75 k = nI w.1 ∧ ∀ i, i < 12 → mI S ca i = nI (w.2 i)
def RwM (S : pv_M) (r : Rw) : Prop := (∀ j, j < 2 → mI S 80 j = nI (r.1 j).1 ∧ mI S 81 j = nI (r.1 j).2) ∧ mF S 82 = r.2.1 ∧ mD S 83 = r.2.2
def MSt (S : pv_M) (A : Ab) : Prop := RgM S 76 77 78 A.1.1 ∧ WdM S 4 79 A.1.2 ∧ mI S 75 10 = bI A.2.1.1 ∧ RgM S 84 85 86 A.2.1.2.1 ∧ WdM S 14 87 A.2.1.2.2 ∧ RwM S A.2.2
def gdR (r : Rg) : Prop := 0 < r.1 ∧ r.1 ≤ 6 ∧ (∀ i, i < r.1 * 3 → r.2.1 i < r.1) ∧ r.2.2 < 64
def gdC (c : Cn) : Prop := (∀ j, j < 3 → gdR (c.1 j)) ∧ c.2.1 ≤ 12 ∧ ∀ i, c.2.2 i < 3
abbrev mC : Nat → Prop := fun r => 75 ≤ r ∧ r ≤ 103
/-- what the reference uses as scratch paper -/
abbrev mX : Nat → Prop := fun r => r = 75 ∨ (88 ≤ r ∧ r ≤ 103)
def FS (S T : pv_M) : Prop := FN mX S T ∧ mI T 75 4 = mI S 75 4 ∧ mI T 75 10 = mI S 75 10 ∧ mI T 75 14 = mI S 75 14
theorem FS.rf {S : pv_M} : FS S S := ⟨FN.rf, rfl, rfl, rfl⟩
theorem FS.tr {S T U : pv_M} (h : FS S T) (k : FS T U) : FS S U := ⟨h.1.tr k.1, k.2.1.trans h.2.1, k.2.2.1.trans h.2.2.1, k.2.2.2.trans h.2.2.2⟩
theorem FS.mC {S T : pv_M} (h : FS S T) : FN mC S T := h.1.mono (fun r h => by rcases h with rfl | h <;> constructor <;> omega)
theorem FS.cI {S : pv_M} {i : Nat} {f : Nat → Int32} (h : 88 ≤ i ∧ i ≤ 103) : FS S (wI S i f) := ⟨FN.wI (Or.inr h), by rw [mI_wI_ne (by omega)], by rw [mI_wI_ne (by omega)], by rw [mI_wI_ne (by omega)]⟩
theorem FS.cJ {S : pv_M} {i : Nat} {f : Nat → Int64} (h : mX i) : FS S (wJ S i f) := ⟨FN.wJ h, rfl, rfl, rfl⟩
theorem FS.w75 {S : pv_M} {k : Nat} {a : Int32} (h : k ≠ 4 ∧ k ≠ 10 ∧ k ≠ 14) : FS S (wI S 75 (va_up (mI S 75) k a)) := ⟨FN.wI (Or.inl rfl), rI_k (fun e => h.1 e.symm) rfl, rI_k (fun e => h.2.1 e.symm) rfl, rI_k (fun e => h.2.2 e.symm) rfl⟩
theorem RgM.keep {S T : pv_M} {cs ct cf : Nat} {R : Nat → Rg} (h : RgM S cs ct cf R) (h1 : mI T cs = mI S cs) (h2 : mI T ct = mI S ct) (h3 : mI T cf = mI S cf) : RgM T cs ct cf R := ⟨fun j hj => by rw [h1]; exact h.1 j hj, fun j hj i hi => by rw [h2]; exact h.2.1 j hj i hi, fun j hj i hi => by rw [h3]; exact h.2.2 j hj i hi⟩
theorem WdM.keep {S T : pv_M} {k ca : Nat} {w : Nat × (Nat → Nat)} (h : WdM S k ca w) (h1 : mI T 75 k = mI S 75 k) (h2 : mI T ca = mI S ca) : WdM T k ca w := ⟨by rw [h1]; exact h.1, fun i hi => by rw [h2]; exact h.2 i hi⟩
theorem RwM.keep {S T : pv_M} {r : Rw} (h : RwM S r) (h1 : mI T 80 = mI S 80) (h2 : mI T 81 = mI S 81) (h3 : mF T 82 = mF S 82) (h4 : mD T 83 = mD S 83) : RwM T r := ⟨fun j hj => by rw [h1, h2]; exact h.1 j hj, by rw [h3]; exact h.2.1, by rw [h4]; exact h.2.2⟩
theorem MSt.fs {S T : pv_M} {A : Ab} (h : MSt S A) (k : FS S T) : MSt T A :=
  have q : ∀ r, 76 ≤ r → r ≤ 87 → mI T r = mI S r := fun r h1 h2 => (k.1.2 r (fun z => by rcases z with z | z <;> omega)).1
  ⟨h.1.keep (q 76 (by omega) (by omega)) (q 77 (by omega) (by omega)) (q 78 (by omega) (by omega)), h.2.1.keep k.2.1 (q 79 (by omega) (by omega)), by rw [k.2.2.1]; exact h.2.2.1, h.2.2.2.1.keep (q 84 (by omega) (by omega)) (q 85 (by omega) (by omega)) (q 86 (by omega) (by omega)), h.2.2.2.2.1.keep k.2.2.2 (q 87 (by omega) (by omega)), h.2.2.2.2.2.keep (q 80 (by omega) (by omega)) (q 81 (by omega) (by omega)) (k.1.2 82 (by decide)).2.2.1 (k.1.2 83 (by decide)).2.2.2⟩
/-! what a number must be -/
theorem in_hi {j m : Nat} (h : j < m) (hm : m < 2 ^ 31) : ¬ nI (m - 1) < nI j := fun e => by
  have := (nI_ltI (show m - 1 < 2 ^ 31 by omega) (show j < 2 ^ 31 by omega)).mp e
  omega
theorem in_lo {j : Nat} (hj : j < 2 ^ 31) : ¬ nI j < nI 0 := fun e => by
  have := (nI_ltI hj (show 0 < 2 ^ 31 by decide)).mp e
  omega
theorem in_bad {p : Int32} {m : Nat} (h : badI p m) (hm : m < 2 ^ 31) : p < nI 0 ∨ nI m - nI 1 < p := by
  rcases h with h | h
  · exact Or.inl h
  · refine Or.inr ?_
    by_cases e : m = 0
    · subst e
      rw [show nI 0 - nI 1 = -1 from by decide, fa_lt]
      rw [fa_le, show (nI 0).toInt = 0 from by decide] at h
      have : ((-1 : Int32)).toInt = -1 := by decide
      omega
    · rw [pk_sub (by omega)]
      exact fa_trans ((nI_ltI (show m - 1 < 2 ^ 31 by omega) hm).mpr (by omega)) h
theorem in_badP {p : Int32} {m : Nat} (h : badI p m) (h0 : 0 < m) (hm : m < 2 ^ 31) : p < nI 0 ∨ nI (m - 1) < p := by
  have := in_bad h hm
  rwa [pk_sub (by omega)] at this
theorem in_hi' {j m : Nat} (h : j < m) (hm : m < 2 ^ 31) : ¬ nI m - nI 1 < nI j := by
  rw [pk_sub (by omega)]; exact in_hi h hm
/-! an 'or' over places -/
def orf (c : Nat → Bool) (g : Nat → Nat) : Nat → Nat
  | 0 => 0
  | k + 1 => orf c g k ||| (if c k then g k else 0)
theorem orf_bit (c : Nat → Bool) (g : Nat → Nat) (i : Nat) : ∀ k, (orf c g k).testBit i = true ↔ ∃ s, s < k ∧ c s = true ∧ (g s).testBit i = true
  | 0 => by simp [orf]
  | k + 1 => by
    unfold orf
    rw [Nat.testBit_or, Bool.or_eq_true, orf_bit c g i k]
    constructor
    · rintro (⟨s, h1, h2, h3⟩ | h)
      · exact ⟨s, by omega, h2, h3⟩
      · by_cases e : c k = true
        · rw [if_pos e] at h; exact ⟨k, by omega, e, h⟩
        · rw [if_neg e] at h; simp at h
    · rintro ⟨s, h1, h2, h3⟩
      by_cases e : s = k
      · subst e; right; rw [if_pos h2]; exact h3
      · exact Or.inl ⟨s, by omega, h2, h3⟩
theorem orf_lt {c : Nat → Bool} {g : Nat → Nat} {B : Nat} : ∀ k, (∀ s, s < k → c s = true → g s < 2 ^ B) → orf c g k < 2 ^ B
  | 0, _ => Nat.two_pow_pos B
  | k + 1, h => by
    unfold orf
    refine Nat.or_lt_two_pow (orf_lt k (fun s hs => h s (by omega))) ?_
    by_cases e : c k = true
    · rw [if_pos e]; exact h k (by omega) e
    · rw [if_neg e]; exact Nat.two_pow_pos B
theorem orf_cong {c d : Nat → Bool} {g g' : Nat → Nat} : ∀ k, (∀ s, s < k → c s = d s ∧ (c s = true → g s = g' s)) → orf c g k = orf d g' k
  | 0, _ => rfl
  | k + 1, h => by
    unfold orf
    rw [orf_cong k (fun s hs => h s (by omega)), ← (h k (by omega)).1]
    by_cases e : c k = true
    · rw [if_pos e, if_pos e, (h k (by omega)).2 e]
    · rw [if_neg e, if_neg e]
theorem un'_orf (g : Nat → Nat) (X : Nat) : ∀ k, un' g X k = orf (fun s => X.testBit s) g k
  | 0 => rfl
  | k + 1 => by unfold un' orf; rw [un'_orf g X k]
theorem orf_pow {c : Nat → Bool} {i : Nat} (k : Nat) : (orf c (fun s => 2 ^ s) k).testBit i = (decide (i < k) && c i) := by
  rw [Bool.eq_iff_iff, orf_bit]
  simp only [Bool.and_eq_true, decide_eq_true_eq, Nat.testBit_two_pow]
  constructor
  · rintro ⟨s, h1, h2, rfl⟩; exact ⟨h1, h2⟩
  · rintro ⟨h1, h2⟩; exact ⟨i, h1, h2, rfl⟩
/-! long numbers -/
theorem l_or (a b : Nat) : lN a ||| lN b = lN (a ||| b) := by
  apply Int64.toBitVec_inj.1
  show BitVec.ofNat 64 a ||| BitVec.ofNat 64 b = BitVec.ofNat 64 (a ||| b)
  apply BitVec.eq_of_getLsbD_eq
  intro i hi
  simp [hi]
theorem l_and (a b : Nat) : lN a &&& lN b = lN (a &&& b) := by
  apply Int64.toBitVec_inj.1
  show BitVec.ofNat 64 a &&& BitVec.ofNat 64 b = BitVec.ofNat 64 (a &&& b)
  apply BitVec.eq_of_getLsbD_eq
  intro i hi
  simp [hi]
theorem lN_of (v : Int64) : v = lN v.toBitVec.toNat := by
  apply Int64.toBitVec_inj.1
  show v.toBitVec = BitVec.ofNat 64 v.toBitVec.toNat
  simp
theorem l_mask {k : Nat} (hk : k < 64) : (nI k).toInt64 &&& 63 = lN k := by
  rw [nI_l (by omega), show (63 : Int64) = lN (2 ^ 6 - 1) from rfl, l_and, Nat.and_two_pow_sub_one_eq_mod, Nat.mod_eq_of_lt (by omega)]
theorem l_shl (a : Nat) {k : Nat} (hk : k < 64) : lN a <<< ((nI k).toInt64 &&& 63) = lN (a * 2 ^ k) := by
  rw [l_mask hk]
  apply Int64.toBitVec_inj.1
  rw [Int64.toBitVec_shiftLeft]
  have e : ((lN k).toBitVec.smod 64).toNat = k := by
    have : ∀ k, k < 64 → ((lN k).toBitVec.smod 64).toNat = k := by decide +kernel
    exact this k hk
  rw [BitVec.shiftLeft_eq', e, lN_bv, lN_bv]
  apply BitVec.eq_of_toNat_eq
  rw [BitVec.toNat_shiftLeft, BitVec.toNat_ofNat, BitVec.toNat_ofNat, Nat.shiftLeft_eq, Nat.mod_mul_mod]
theorem l_ushr {a k : Nat} (ha : a < 2 ^ 64) (hk : k < 64) : ((lN a).toUInt64 >>> ((nI k).toInt64.toUInt64 &&& Int64.toUInt64 63)).toInt64 = lN (a / 2 ^ k) := by
  have h := uN_sk (lN a) hk
  have e : uN (lN a) = a := lN_nat ha
  rw [e] at h
  have h2 : a / 2 ^ k < 2 ^ 64 := Nat.lt_of_le_of_lt (Nat.div_le_self _ _) ha
  apply uN_inj
  rw [h]
  exact (lN_nat h2).symm
theorem l_shr {a k : Nat} (ha : a < 2 ^ 63) (hk : k < 64) : lN a >>> ((nI k).toInt64 &&& 63) = lN (a / 2 ^ k) := by
  rw [l_mask hk]
  apply Int64.toBitVec_inj.1
  rw [Int64.toBitVec_shiftRight]
  have e : ((lN k).toBitVec.smod 64).toNat = k := by
    have : ∀ k, k < 64 → ((lN k).toBitVec.smod 64).toNat = k := by decide +kernel
    exact this k hk
  rw [BitVec.sshiftRight_eq', e, BitVec.sshiftRight_eq_of_msb_false]
  · apply BitVec.eq_of_toNat_eq
    rw [BitVec.toNat_ushiftRight, lN_nat (by omega), Nat.shiftRight_eq_div_pow, lN_nat (Nat.lt_of_le_of_lt (Nat.div_le_self _ _) (by omega))]
  · rw [BitVec.msb_eq_decide, lN_nat (by omega), decide_eq_false]
    omega
theorem l_eq {a b : Nat} (ha : a < 2 ^ 64) (hb : b < 2 ^ 64) : lN a = lN b ↔ a = b := by
  constructor
  · intro e
    rw [← lN_nat ha, ← lN_nat hb, e]
  · intro e; rw [e]
theorem and1_lt (a : Nat) : a &&& 1 < 2 ^ 64 := Nat.lt_of_le_of_lt Nat.and_le_right (by decide)
theorem l_cmp0 (x y : Int64) : lg_cmp x y = 0 ↔ x = y := by
  unfold lg_cmp
  constructor
  · intro h
    by_cases e1 : x > y
    · rw [if_pos e1] at h; exact absurd h (by decide)
    · rw [if_neg e1] at h
      by_cases e2 : x = y
      · exact e2
      · rw [if_neg e2] at h; exact absurd h (by decide)
  · intro h
    have e : ¬ x > y := by rw [h]; show ¬ y < y; rw [fa_lt64]; omega
    rw [if_neg e, if_pos h]
section LR_
variable {x : Cx} {cc : ByteArray} {own : String} {N cs sl : Nat} {lv st : List Value} {S : pv_M} {pc : Nat}
theorem n_lor (C : BX x cc own) {a b : Nat} (d : decode cc pc = .ok (.lor, 1)) (k : GG x N cs sl lv (.long (lN (a ||| b)) :: st) S (pc + 1)) : GG x N cs sl lv (.long (lN b) :: .long (lN a) :: st) S pc := g_lor C d (by rw [l_or]; exact k)
theorem n_land (C : BX x cc own) {a b : Nat} (d : decode cc pc = .ok (.land, 1)) (k : GG x N cs sl lv (.long (lN (a &&& b)) :: st) S (pc + 1)) : GG x N cs sl lv (.long (lN b) :: .long (lN a) :: st) S pc := g_land C d (by rw [l_and]; exact k)
theorem n_lsub (C : BX x cc own) {a b : Nat} (d : decode cc pc = .ok (.lsub, 1)) (k : GG x N cs sl lv (.long (lN (a - b)) :: st) S (pc + 1)) (h : b ≤ a := by omega) : GG x N cs sl lv (.long (lN b) :: .long (lN a) :: st) S pc := g_lsub C d (by rw [lN_sub h]; exact k)
theorem n_lshl (C : BX x cc own) {a b : Nat} (d : decode cc pc = .ok (.lshl, 1)) (k : GG x N cs sl lv (.long (lN (a * 2 ^ b)) :: st) S (pc + 1)) (hb : b < 64 := by omega) : GG x N cs sl lv (.int (nI b) :: .long (lN a) :: st) S pc := g_lshl C d (by rw [l_shl _ hb]; exact k)
theorem n_lshr (C : BX x cc own) {a b : Nat} (d : decode cc pc = .ok (.lshr, 1)) (k : GG x N cs sl lv (.long (lN (a / 2 ^ b)) :: st) S (pc + 1)) (hb : b < 64 := by omega) (ha : a < 2 ^ 63 := by omega) : GG x N cs sl lv (.int (nI b) :: .long (lN a) :: st) S pc := g_lshr C d (by rw [l_shr ha hb]; exact k)
theorem n_lushr (C : BX x cc own) {a b : Nat} (d : decode cc pc = .ok (.lushr, 1)) (k : GG x N cs sl lv (.long (lN (a / 2 ^ b)) :: st) S (pc + 1)) (hb : b < 64 := by omega) (ha : a < 2 ^ 64 := by omega) : GG x N cs sl lv (.int (nI b) :: .long (lN a) :: st) S pc := g_lushr C d (by rw [l_ushr ha hb]; exact k)
theorem n_l2i (C : BX x cc own) {a : Nat} (d : decode cc pc = .ok (.l2i, 1)) (k : GG x N cs sl lv (.int (nI a) :: st) S (pc + 1)) : GG x N cs sl lv (.long (lN a) :: st) S pc := g_l2i C d (by rw [lN_i]; exact k)
theorem n_lconst (C : BX x cc own) {n : Fin 2} (v : Nat) (d : decode cc pc = .ok (.lconst n, 1)) (k : GG x N cs sl lv (.long (lN v) :: st) S (pc + 1)) (hv : Int64.ofNat n.val = lN v := by decide) : GG x N cs sl lv st S pc := g_lconst C (lN v) d hv k
theorem c_if_eq (C : BX x cc own) {a b : Nat} {off : Int} (tgt : Nat) (d : decode cc pc = .ok (.ifCond .eq off, 3)) (kt : a = b → GG x N cs sl lv st S tgt) (kf : ¬ a = b → GG x N cs sl lv st S (pc + 3)) (ht : (pc : Int) + off = (tgt : Int) := by decide) (ha : a < 2 ^ 64 := by omega) (hb : b < 2 ^ 64 := by omega) : GG x N cs sl lv (.int (lg_cmp (lN a) (lN b)) :: st) S pc := g_if_eq C tgt d ht (fun h => kt ((l_eq ha hb).mp ((l_cmp0 _ _).mp h))) (fun h => kf (fun q => h ((l_cmp0 _ _).mpr ((l_eq ha hb).mpr q))))
theorem c_if_ne (C : BX x cc own) {a b : Nat} {off : Int} (tgt : Nat) (d : decode cc pc = .ok (.ifCond .ne off, 3)) (kt : ¬ a = b → GG x N cs sl lv st S tgt) (kf : a = b → GG x N cs sl lv st S (pc + 3)) (ht : (pc : Int) + off = (tgt : Int) := by decide) (ha : a < 2 ^ 64 := by omega) (hb : b < 2 ^ 64 := by omega) : GG x N cs sl lv (.int (lg_cmp (lN a) (lN b)) :: st) S pc := g_if_ne C tgt d ht (fun h => kt (fun q => h ((l_cmp0 _ _).mpr ((l_eq ha hb).mpr q)))) (fun h => kf ((l_eq ha hb).mp ((l_cmp0 _ _).mp h)))
/-- the test of one bit: (a >> b & 1) == 1 -/
theorem t_if_ne (C : BX x cc own) {a b : Nat} {off : Int} (tgt : Nat) (d : decode cc pc = .ok (.ifCond .ne off, 3)) (kt : a.testBit b = false → GG x N cs sl lv st S tgt) (kf : a.testBit b = true → GG x N cs sl lv st S (pc + 3)) (ht : (pc : Int) + off = (tgt : Int) := by decide) : GG x N cs sl lv (.int (lg_cmp (lN ((a / 2 ^ b) &&& 1)) (lN 1)) :: st) S pc :=
  c_if_ne C tgt d (fun h => kt (by rw [← Bool.not_eq_true, ← tb_and]; exact h)) (fun h => kf ((tb_and _ _).mp h)) ht (and1_lt _) (by decide)
end LR_
