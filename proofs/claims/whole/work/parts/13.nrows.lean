/-! rows over numbers that are known as natural ones: nI n -/
theorem sh_l {n k : Nat} (hk : k < 32) (h : n * 2 ^ k < 2 ^ 32) : nI n <<< (nI k &&& 31) = nI (n * 2 ^ k) := pk_shlN _ k (s_l k hk) h
theorem sh_r {n k : Nat} (hk : k < 32) (h : n < 2 ^ 31) : nI n >>> (nI k &&& 31) = nI (n / 2 ^ k) := pk_shrN h _ k (s_l k hk)
theorem nI_ofInt (k : Nat) : Int32.ofInt (k : Int) = nI k := rfl
section NR
variable {x : Cx} {cc : ByteArray} {own : String} {N cs sl : Nat} {lv st : List Value} {S : pv_M} {pc : Nat}
theorem n_iconst (C : BX x cc own) {n : Int} (v : Nat) (d : decode cc pc = .ok (.iconst n, 1)) (k : GG x N cs sl lv (.int (nI v) :: st) S (pc + 1)) (hv : Int32.ofInt n = nI v := by decide) : GG x N cs sl lv st S pc := g_iconst C (nI v) d hv k
theorem n_bipush (C : BX x cc own) {n : Int} (v : Nat) (d : decode cc pc = .ok (.bipush n, 2)) (k : GG x N cs sl lv (.int (nI v) :: st) S (pc + 2)) (hv : (Int8.ofInt n).toInt32 = nI v := by decide) : GG x N cs sl lv st S pc := g_bipush C (nI v) d hv k
theorem n_sipush (C : BX x cc own) {n : Int} (v : Nat) (d : decode cc pc = .ok (.sipush n, 3)) (k : GG x N cs sl lv (.int (nI v) :: st) S (pc + 3)) (hv : (Int16.ofInt n).toInt32 = nI v := by decide) : GG x N cs sl lv st S pc := g_sipush C (nI v) d hv k
theorem n_iadd (C : BX x cc own) {a b : Nat} (d : decode cc pc = .ok (.iadd, 1)) (k : GG x N cs sl lv (.int (nI (a + b)) :: st) S (pc + 1)) : GG x N cs sl lv (.int (nI b) :: .int (nI a) :: st) S pc := g_iadd C d (by rw [nI_add]; exact k)
theorem n_imul (C : BX x cc own) {a b : Nat} (d : decode cc pc = .ok (.imul, 1)) (k : GG x N cs sl lv (.int (nI (a * b)) :: st) S (pc + 1)) : GG x N cs sl lv (.int (nI b) :: .int (nI a) :: st) S pc := g_imul C d (by rw [pk_mul]; exact k)
theorem n_isub (C : BX x cc own) {a b : Nat} (d : decode cc pc = .ok (.isub, 1)) (k : GG x N cs sl lv (.int (nI (a - b)) :: st) S (pc + 1)) (h : b ≤ a := by omega) : GG x N cs sl lv (.int (nI b) :: .int (nI a) :: st) S pc := g_isub C d (by rw [pk_sub h]; exact k)
theorem n_idiv (C : BX x cc own) {a b : Nat} (d : decode cc pc = .ok (.idiv, 1)) (k : GG x N cs sl lv (.int (nI (a / b)) :: st) S (pc + 1)) (h0 : 0 < b := by omega) (ha : a < 2 ^ 31 := by omega) (hb : b < 2 ^ 31 := by omega) : GG x N cs sl lv (.int (nI b) :: .int (nI a) :: st) S pc := g_idiv C d (nI_ne0 h0 hb) (by rw [pk_div ha h0 hb]; exact k)
theorem n_irem (C : BX x cc own) {a b : Nat} (d : decode cc pc = .ok (.irem, 1)) (k : GG x N cs sl lv (.int (nI (a % b)) :: st) S (pc + 1)) (h0 : 0 < b := by omega) (ha : a < 2 ^ 31 := by omega) (hb : b < 2 ^ 31 := by omega) : GG x N cs sl lv (.int (nI b) :: .int (nI a) :: st) S pc := g_irem C d (nI_ne0 h0 hb) (by rw [pk_rem ha h0 hb]; exact k)
theorem n_iand (C : BX x cc own) {a b : Nat} (d : decode cc pc = .ok (.iand, 1)) (k : GG x N cs sl lv (.int (nI (a &&& b)) :: st) S (pc + 1)) : GG x N cs sl lv (.int (nI b) :: .int (nI a) :: st) S pc := g_iand C d (by rw [fa_and]; exact k)
theorem n_ior (C : BX x cc own) {a b : Nat} (d : decode cc pc = .ok (.ior, 1)) (k : GG x N cs sl lv (.int (nI (a ||| b)) :: st) S (pc + 1)) : GG x N cs sl lv (.int (nI b) :: .int (nI a) :: st) S pc := g_ior C d (by rw [fa_or]; exact k)
theorem n_ishl (C : BX x cc own) {a b : Nat} (d : decode cc pc = .ok (.ishl, 1)) (k : GG x N cs sl lv (.int (nI (a * 2 ^ b)) :: st) S (pc + 1)) (hb : b < 32 := by omega) (h : a * 2 ^ b < 2 ^ 32) : GG x N cs sl lv (.int (nI b) :: .int (nI a) :: st) S pc := g_ishl C d (by rw [sh_l hb h]; exact k)
theorem n_ishr (C : BX x cc own) {a b : Nat} (d : decode cc pc = .ok (.ishr, 1)) (k : GG x N cs sl lv (.int (nI (a / 2 ^ b)) :: st) S (pc + 1)) (hb : b < 32 := by omega) (h : a < 2 ^ 31 := by omega) : GG x N cs sl lv (.int (nI b) :: .int (nI a) :: st) S pc := g_ishr C d (by rw [sh_r hb h]; exact k)
theorem n_iinc (C : BX x cc own) {q a a' : Nat} {n : Int} (hm : q < (xc x).maxLocals) (d : decode cc pc = .ok (.iinc q n, 3)) (h : lv[q]? = some (.int (nI a))) (ha : nI a + Int32.ofInt n = nI a') (lv' : List Value) (k : GG x N cs sl lv' st S (pc + 3)) (hl : sv lv q (.int (nI a')) = lv' := by rfl) : GG x N cs sl lv st S pc := g_iinc C hm d h lv' (by rw [ha]; exact hl) k
theorem n_i1 (a : Nat) : nI a + Int32.ofInt 1 = nI (a + 1) := nI_1 a
theorem n_i5 (a : Nat) : nI a + Int32.ofInt 5 = nI (a + 5) := nI_add a 5
theorem n_im {a : Nat} (h : 0 < a) : nI a + Int32.ofInt (-1) = nI (a - 1) := sb_m1 h
theorem n_ic_eq (C : BX x cc own) {a b : Nat} {off : Int} (tgt : Nat) (d : decode cc pc = .ok (.if_icmp .eq off, 3)) (kt : a = b → GG x N cs sl lv st S tgt) (kf : ¬ a = b → GG x N cs sl lv st S (pc + 3)) (ht : (pc : Int) + off = (tgt : Int) := by decide) (ha : a < 2 ^ 31 := by omega) (hb : b < 2 ^ 31 := by omega) : GG x N cs sl lv (.int (nI b) :: .int (nI a) :: st) S pc := g_ic_eq C tgt d ht (fun h => kt ((nI_eq ha hb).mp h)) (fun h => kf (fun q => h ((nI_eq ha hb).mpr q)))
theorem n_ic_ne (C : BX x cc own) {a b : Nat} {off : Int} (tgt : Nat) (d : decode cc pc = .ok (.if_icmp .ne off, 3)) (kt : ¬ a = b → GG x N cs sl lv st S tgt) (kf : a = b → GG x N cs sl lv st S (pc + 3)) (ht : (pc : Int) + off = (tgt : Int) := by decide) (ha : a < 2 ^ 31 := by omega) (hb : b < 2 ^ 31 := by omega) : GG x N cs sl lv (.int (nI b) :: .int (nI a) :: st) S pc := g_ic_ne C tgt d ht (fun h => kt (fun q => h ((nI_eq ha hb).mpr q))) (fun h => kf ((nI_eq ha hb).mp h))
theorem n_ic_lt (C : BX x cc own) {a b : Nat} {off : Int} (tgt : Nat) (d : decode cc pc = .ok (.if_icmp .lt off, 3)) (kt : a < b → GG x N cs sl lv st S tgt) (kf : b ≤ a → GG x N cs sl lv st S (pc + 3)) (ht : (pc : Int) + off = (tgt : Int) := by decide) (ha : a < 2 ^ 31 := by omega) (hb : b < 2 ^ 31 := by omega) : GG x N cs sl lv (.int (nI b) :: .int (nI a) :: st) S pc := g_ic_lt C tgt d ht (fun h => kt ((nI_ltI ha hb).mp h)) (fun h => kf (Nat.not_lt.mp (fun q => h ((nI_ltI ha hb).mpr q))))
theorem n_ic_ge (C : BX x cc own) {a b : Nat} {off : Int} (tgt : Nat) (d : decode cc pc = .ok (.if_icmp .ge off, 3)) (kt : b ≤ a → GG x N cs sl lv st S tgt) (kf : a < b → GG x N cs sl lv st S (pc + 3)) (ht : (pc : Int) + off = (tgt : Int) := by decide) (ha : a < 2 ^ 31 := by omega) (hb : b < 2 ^ 31 := by omega) : GG x N cs sl lv (.int (nI b) :: .int (nI a) :: st) S pc := g_ic_ge C tgt d ht (fun h => kt ((nI_leI hb ha).mp h)) (fun h => kf (Nat.not_le.mp (fun q => h ((nI_leI hb ha).mpr q))))
theorem n_ic_gt (C : BX x cc own) {a b : Nat} {off : Int} (tgt : Nat) (d : decode cc pc = .ok (.if_icmp .gt off, 3)) (kt : b < a → GG x N cs sl lv st S tgt) (kf : a ≤ b → GG x N cs sl lv st S (pc + 3)) (ht : (pc : Int) + off = (tgt : Int) := by decide) (ha : a < 2 ^ 31 := by omega) (hb : b < 2 ^ 31 := by omega) : GG x N cs sl lv (.int (nI b) :: .int (nI a) :: st) S pc := g_ic_gt C tgt d ht (fun h => kt ((nI_ltI hb ha).mp h)) (fun h => kf (Nat.not_lt.mp (fun q => h ((nI_ltI hb ha).mpr q))))
theorem n_ic_le (C : BX x cc own) {a b : Nat} {off : Int} (tgt : Nat) (d : decode cc pc = .ok (.if_icmp .le off, 3)) (kt : a ≤ b → GG x N cs sl lv st S tgt) (kf : b < a → GG x N cs sl lv st S (pc + 3)) (ht : (pc : Int) + off = (tgt : Int) := by decide) (ha : a < 2 ^ 31 := by omega) (hb : b < 2 ^ 31 := by omega) : GG x N cs sl lv (.int (nI b) :: .int (nI a) :: st) S pc := g_ic_le C tgt d ht (fun h => kt ((nI_leI ha hb).mp h)) (fun h => kf (Nat.not_le.mp (fun q => h ((nI_leI ha hb).mpr q))))
theorem n_if_eq (C : BX x cc own) {a : Nat} {off : Int} (tgt : Nat) (d : decode cc pc = .ok (.ifCond .eq off, 3)) (kt : a = 0 → GG x N cs sl lv st S tgt) (kf : ¬ a = 0 → GG x N cs sl lv st S (pc + 3)) (ht : (pc : Int) + off = (tgt : Int) := by decide) (ha : a < 2 ^ 31 := by omega) : GG x N cs sl lv (.int (nI a) :: st) S pc := g_if_eq C tgt d ht (fun h => kt ((nI_eq ha (b := 0) (by decide)).mp h)) (fun h => kf (fun q => h ((nI_eq ha (b := 0) (by decide)).mpr q)))
theorem n_if_ne (C : BX x cc own) {a : Nat} {off : Int} (tgt : Nat) (d : decode cc pc = .ok (.ifCond .ne off, 3)) (kt : ¬ a = 0 → GG x N cs sl lv st S tgt) (kf : a = 0 → GG x N cs sl lv st S (pc + 3)) (ht : (pc : Int) + off = (tgt : Int) := by decide) (ha : a < 2 ^ 31 := by omega) : GG x N cs sl lv (.int (nI a) :: st) S pc := g_if_ne C tgt d ht (fun h => kt (fun q => h ((nI_eq ha (b := 0) (by decide)).mpr q))) (fun h => kf ((nI_eq ha (b := 0) (by decide)).mp h))
/-- booleans as numbers: bI true = 1 -/
def bI (c : Bool) : Int32 := if c then 1 else 0
theorem b_if_eq (C : BX x cc own) {a : Bool} {off : Int} (tgt : Nat) (d : decode cc pc = .ok (.ifCond .eq off, 3)) (kt : a = false → GG x N cs sl lv st S tgt) (kf : a = true → GG x N cs sl lv st S (pc + 3)) (ht : (pc : Int) + off = (tgt : Int) := by decide) : GG x N cs sl lv (.int (bI a) :: st) S pc := g_if_eq C tgt d ht (fun h => kt (by cases a; rfl; exact absurd h (by decide))) (fun h => kf (by cases a; exact absurd rfl h; rfl))
theorem b_if_ne (C : BX x cc own) {a : Bool} {off : Int} (tgt : Nat) (d : decode cc pc = .ok (.ifCond .ne off, 3)) (kt : a = true → GG x N cs sl lv st S tgt) (kf : a = false → GG x N cs sl lv st S (pc + 3)) (ht : (pc : Int) + off = (tgt : Int) := by decide) : GG x N cs sl lv (.int (bI a) :: st) S pc := g_if_ne C tgt d ht (fun h => kt (by cases a; exact absurd rfl h; rfl)) (fun h => kf (by cases a; rfl; exact absurd h (by decide)))
theorem bI_01 (c : Bool) : bI c = 0 ∨ bI c = 1 := by cases c <;> simp [bI]
theorem bI_nar (c : Bool) : vp_nar .boolean (bI c) = bI c := by cases c <;> rfl
/-- a read of a field whose value is known under another name -/
theorem g_getI (C : BX x cc own) {idx ci kk r : Nat} {fin : Bool} (F : FO own idx ci kk fin) {a : Int32} (d : decode cc pc = .ok (.getfield idx, 3)) (hs : pv_sh r = .inl ci) (hr : r < N) (ht : ∀ α, pv_v α S r kk (pv_ft ci kk) = .int (mI S r kk)) (h : mI S r kk = a) (k : GG x N cs sl lv (.int a :: st) S (pc + 3)) : GG x N cs sl lv (.ref r :: st) S pc := g_get C F (v := .int a) d hs hr (fun α => by rw [ht, h]; rfl) k
theorem g_getJ (C : BX x cc own) {idx ci kk r : Nat} {fin : Bool} (F : FO own idx ci kk fin) {a : Int64} (d : decode cc pc = .ok (.getfield idx, 3)) (hs : pv_sh r = .inl ci) (hr : r < N) (ht : ∀ α, pv_v α S r kk (pv_ft ci kk) = .long (mJ S r kk)) (h : mJ S r kk = a) (k : GG x N cs sl lv (.long a :: st) S (pc + 3)) : GG x N cs sl lv (.ref r :: st) S pc := g_get C F (v := .long a) d hs hr (fun α => by rw [ht, h]; rfl) k
theorem n_iald (C : BX x cc own) {r n j : Nat} {v : Int32} (d : decode cc pc = .ok (.iaload, 1)) (hs : pv_sh r = .inr (0, n)) (hr : r < N) (hv : mI S r j = v) (k : GG x N cs sl lv (.int v :: st) S (pc + 1)) (hj : j < n := by omega) : GG x N cs sl lv (.int (nI j) :: .ref r :: st) S pc := g_iald C d hs hr hj rfl (by rw [hv]; exact k)
theorem n_zald (C : BX x cc own) {r n j : Nat} {v : Int32} (d : decode cc pc = .ok (.baload, 1)) (hs : pv_sh r = .inr (4, n)) (hr : r < N) (hv : mI S r j = v) (k : GG x N cs sl lv (.int v :: st) S (pc + 1)) (hj : j < n := by omega) : GG x N cs sl lv (.int (nI j) :: .ref r :: st) S pc := g_zald C d hs hr hj rfl (by rw [hv]; exact k)
theorem n_lald (C : BX x cc own) {r n j : Nat} {v : Int64} (d : decode cc pc = .ok (.laload, 1)) (hs : pv_sh r = .inr (1, n)) (hr : r < N) (hv : mJ S r j = v) (k : GG x N cs sl lv (.long v :: st) S (pc + 1)) (hj : j < n := by omega) : GG x N cs sl lv (.int (nI j) :: .ref r :: st) S pc := g_lald C d hs hr hj rfl (by rw [hv]; exact k)
end NR
/-! reads behind writes -/
theorem mI_wI {S : pv_M} {i : Nat} {f : Nat → Int32} : mI (wI S i f) i = f := by simp [mI, wI, va_up]
theorem mI_wI_ne {S : pv_M} {i j : Nat} {f : Nat → Int32} (h : j ≠ i) : mI (wI S i f) j = mI S j := by simp [mI, wI, va_up, h]
theorem mJ_wJ {S : pv_M} {i : Nat} {f : Nat → Int64} : mJ (wJ S i f) i = f := by simp [mJ, wJ, va_up]
theorem mJ_wJ_ne {S : pv_M} {i j : Nat} {f : Nat → Int64} (h : j ≠ i) : mJ (wJ S i f) j = mJ S j := by simp [mJ, wJ, va_up, h]
theorem mR_wR {S : pv_M} {i : Nat} {f : Nat → Option Nat} : mR (wR S i f) i = f := by simp [mR, wR, va_up]
theorem mR_wR_ne {S : pv_M} {i j : Nat} {f : Nat → Option Nat} (h : j ≠ i) : mR (wR S i f) j = mR S j := by simp [mR, wR, va_up, h]
theorem wI_wI {S : pv_M} {i : Nat} {f g : Nat → Int32} : wI (wI S i f) i g = wI S i g := by
  simp only [wI]
  congr 1
  funext j
  by_cases h : j = i <;> simp [va_up, h]
theorem wI_self {S : pv_M} {i : Nat} : wI S i (mI S i) = S := by
  unfold wI
  have : va_up S.1 i (mI S i) = S.1 := by
    funext j
    by_cases h : j = i
    · subst h; simp [va_up]
    · simp [va_up, h]
  rw [this]
theorem wI_comm {S : pv_M} {i j : Nat} {f g : Nat → Int32} (h : i ≠ j) : wI (wI S i f) j g = wI (wI S j g) i f := by
  simp only [wI]
  congr 1
  funext a
  by_cases h1 : a = i
  · subst h1; simp [va_up, h]
  · by_cases h2 : a = j
    · subst h2; simp [va_up, h1]
    · simp [va_up, h1, h2]
theorem g_st {x : Cx} {N cs sl : Nat} {lv st : List Value} {S : pv_M} {pc : Nat} (st' : List Value) (h : st = st') (k : GG x N cs sl lv st' S pc) : GG x N cs sl lv st S pc := h ▸ k
theorem g_n0 {x : Cx} {N cs sl : Nat} {lv st : List Value} {S : pv_M} {pc : Nat} (st' : List Value) (h1 : cs = 0) (h2 : sl = 0) (h : st = st') (k : GG x N 0 0 lv st' S pc) : GG x N cs sl lv st S pc := by subst h1; subst h2; subst h; exact k
theorem g_S {x : Cx} {N cs sl : Nat} {lv st : List Value} {S : pv_M} {pc : Nat} (S' : pv_M) (h : S = S') (k : GG x N cs sl lv st S' pc) : GG x N cs sl lv st S pc := h ▸ k
theorem rm_ok {M M' : Me} {x : Cx} {cs sl : Nat} (hR : xR x = M'.rm) (h : (decide (M.rm.frames + 1 ≤ M'.rm.frames) && decide (8 + (M.nL + 11) + M.rm.locals ≤ M'.rm.locals) && decide (cs + M.rm.cells ≤ M'.rm.cells) && decide (sl + M.rm.slots ≤ M'.rm.slots)) = true) : rmOk M x cs sl := by
  simp only [Bool.and_eq_true, decide_eq_true_eq] at h
  unfold rmOk
  rw [hR]
  exact ⟨⟨h.1.1.1, h.1.1.2⟩, h.1.2, h.2⟩
theorem up_ne' {α : Type} {f : Nat → α} {k j : Nat} {v w : α} (h : j ≠ k) (e : f j = w) : va_up f k v j = w := (va_up_ne f v h).trans e
theorem rI_s {S : pv_M} {i k : Nat} {a : Int32} : mI (wI S i (va_up (mI S i) k a)) i k = a := by simp [mI, wI, va_up]
theorem rI_k {S : pv_M} {i k j : Nat} {a v : Int32} (h : j ≠ k) (e : mI S i j = v) : mI (wI S i (va_up (mI S i) k a)) i j = v := by rw [mI_wI]; exact up_ne' h e
theorem rI_n {S : pv_M} {i r j : Nat} {f : Nat → Int32} {v : Int32} (h : r ≠ i) (e : mI S r j = v) : mI (wI S i f) r j = v := by rw [mI_wI_ne h]; exact e
