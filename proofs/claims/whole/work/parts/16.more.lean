/-! more rows -/
abbrev xN_ (v : Int32) : Nat := v.toBitVec.toNat
theorem xN_lt (v : Int32) : xN_ v < 2 ^ 32 := v.toBitVec.isLt
theorem ushr_n (v : Int32) {b : Nat} (hb : b < 32) : (v.toUInt32 >>> ((nI b).toUInt32 &&& Int32.toUInt32 31)).toInt32 = nI (xN_ v / 2 ^ b) := by
  have h1 := pk_ushr v (nI b) b (s_u b hb)
  have h2 : xN_ v / 2 ^ b < 2 ^ 32 := Nat.lt_of_le_of_lt (Nat.div_le_self _ _) (xN_lt v)
  apply Int32.toBitVec_inj.mp
  apply BitVec.eq_of_toNat_eq
  rw [h1, pk_tn h2]
section MR
variable {x : Cx} {cc : ByteArray} {own : String} {N cs sl : Nat} {lv st : List Value} {S : pv_M} {pc : Nat}
theorem n_iushr (C : BX x cc own) {a : Int32} {b : Nat} (d : decode cc pc = .ok (.iushr, 1)) (k : GG x N cs sl lv (.int (nI (xN_ a / 2 ^ b)) :: st) S (pc + 1)) (hb : b < 32 := by omega) : GG x N cs sl lv (.int (nI b) :: .int a :: st) S pc := g_iushr C d (by rw [ushr_n a hb]; exact k)
def AO (own : String) (idx : Nat) : Prop := Cond.methodLink own idx arraycopyName ∈ TB ∧ Cond.native arraycopyName ∈ TB ∧ Cond.static arraycopyName ∈ TB ∧ Cond.initialized "java/lang/System" ∈ TB
theorem g_acopy (C : BX x cc own) {idx r q n : Nat} (L : AO own idx) (d : decode cc pc = .ok (.invokestatic idx, 3)) (hs : pv_sh r = .inr (0, n)) (hr : r < N) (hs2 : pv_sh q = .inr (0, n)) (hq : q < N) (hf : 1 ≤ (xR x).frames) (hlo : (st.map fun v => v.category).sum + (nativeFrameWords "java/lang/System" "arraycopy" 5 + 11) ≤ (xR x).locals) (k : GG x N cs sl lv st (wI S q (va_cpy (mI S r) (mI S q) 0 0 n)) (pc + 3)) : GG x N cs sl lv (.int (nI n) :: .int (nI 0) :: .ref q :: .int (nI 0) :: .ref r :: st) S pc := by
  intro α H locs ls h1 h2
  have e0 : (nI 0).toNatClampNeg = 0 := nI_clamp (by decide)
  have en : (nI n).toNatClampNeg = n := nI_clamp (pv_small hs)
  refine va_copyi C.1 C.2.1 h2.1.symm C.2.2.1 (C.2.2.2.1 _ L.1) (C.2.2.2.1 _ L.2.1) (C.2.2.2.1 _ L.2.2.1) (C.2.2.2.1 _ L.2.2.2) C.2.2.2.2.1 h1.1 h1.2.1 h1.2.2.1 r q 0 0 (pv_wd_a hr hs) (pv_wd_a hq hs2) rfl rfl rfl (nI_pos (by decide)) (nI_pos (by decide)) (nI_pos (pv_small hs)) (by rw [e0, en]; omega) (by rw [e0, en]; omega) (fun _ _ => rfl) hf (by rw [tv_cats]; exact hlo) d (fun H1 locs1 hP hD hS => ?_)
  rw [e0, en] at hP hD
  exact k α H1 locs1 ls (h1.set hq (pv_cell_wI _ _ _ _ _) (by rw [pv_cell_a hs2]; simp only [pv_arr, mI, wI, up_same]) h1.2.2.2.1 hP hD hS) h2
end MR
/-! the drawn numbers -/
def drw (seed : Int32) : Nat → Int32
  | 0 => seed
  | k + 1 => drw seed k * 1103515245 + 12345
def dv (seed : Int32) (k m : Nat) : Nat := xN_ (drw seed (k + 1)) / 2 ^ 16 % m
theorem dv_lt {seed : Int32} {k m : Nat} (h : 0 < m) : dv seed k m < m := Nat.mod_lt _ h
theorem x16 (v : Int32) : xN_ v / 2 ^ 16 < 65536 := by
  have := xN_lt v
  omega
/-- the state behind the first k letters of a word -/
def stA (T : Nat → Nat) (L : Nat → Nat) (s : Nat) : Nat → Nat
  | 0 => s
  | k + 1 => T (stA T L s k * 3 + L k)
theorem stA_lt {T L : Nat → Nat} {s n : Nat} (hs : s < n) (hn : n ≤ 6) (hT : ∀ j, j < n * 3 → T j < n) (hL : ∀ j, L j < 3) : ∀ k, stA T L s k < n
  | 0 => hs
  | k + 1 => hT _ (by have := stA_lt hs hn hT hL k; have := hL k; omega)
/-- the targets of the witness of n states -/
def witT (n j : Nat) : Nat := if j / 3 < n then (if j % 3 = 0 then (if j / 3 = n - 1 then 0 else j / 3 + 1) else if j % 3 = 1 then (if j / 3 < 2 ∧ 1 < n then 1 - j / 3 else j / 3) else (if j / 3 = n - 1 then 0 else j / 3)) else 0
