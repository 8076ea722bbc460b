/-! small lemmas of the state -/
/-- the first i places are c's, the others g's -/
theorem fill_I {S : pv_M} {t i : Nat} {c g : Nat → Int32} {v : Int32} (h : v = c i) : wI (wI S t (fa_fill c g i)) t (va_up (mI (wI S t (fa_fill c g i)) t) i v) = wI S t (fa_fill c g (i + 1)) := by
  rw [wI_wI, mI_wI, h]
  exact congrArg (wI S t) (fa_fill_succ c g i)
theorem fill_0 {S : pv_M} {t : Nat} {c : Nat → Int32} : wI S t (fa_fill c (mI S t) 0) = S := by rw [fa_fill_0, wI_self]
/-- a bit of a set of states -/
theorem tb_and (F s : Nat) : ((F / 2 ^ s) &&& 1 = 1) ↔ F.testBit s = true := by
  rw [Nat.and_one_is_mod, Nat.testBit_eq_decide_div_mod_eq, decide_eq_true_eq]
def fset (F s : Nat) (b : Bool) : Nat := if b then F ||| 2 ^ s else (F ||| 2 ^ s) - 2 ^ s
theorem fset_ok : ∀ F, F < 64 → ∀ s, s < 6 → ∀ b, fset F s b < 64 ∧ ∀ i, i < 6 → (fset F s b).testBit i = if i = s then b else F.testBit i := by decide +kernel
theorem fset_clr : ∀ F, F < 64 → ∀ s, s < 6 → nI F &&& ((nI (1 * 2 ^ s)) ^^^ (-1)) = nI ((F ||| 2 ^ s) - 2 ^ s) := by decide +kernel
theorem pow6 : ∀ s, s < 6 → 1 * 2 ^ s < 2 ^ 32 := by decide
theorem pow_one (s : Nat) : 1 * 2 ^ s = 2 ^ s := Nat.one_mul _
