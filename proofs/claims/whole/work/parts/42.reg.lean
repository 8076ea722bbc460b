/-! a stretch of an array: i places from lo on are f's -/
def reg {α : Type} (lo i : Nat) (f g : Nat → α) : Nat → α := fun p => if lo ≤ p ∧ p < lo + i then f (p - lo) else g p
theorem reg_0 {α : Type} {lo : Nat} {f g : Nat → α} : reg lo 0 f g = g := funext fun p => if_neg (by omega)
theorem reg_in {α : Type} {lo i k p : Nat} {f g : Nat → α} (h : k < i) (e : p = lo + k) : reg lo i f g p = f k := by
  subst e
  unfold reg
  rw [if_pos (by omega), show lo + k - lo = k by omega]
theorem reg_out {α : Type} {lo i p : Nat} {f g : Nat → α} (h : p < lo ∨ lo + i ≤ p) : reg lo i f g p = g p := if_neg (by omega)
theorem reg_up {α : Type} {lo i p : Nat} {f g : Nat → α} {v : α} (e : p = lo + i) (hv : v = f i) : va_up (reg lo i f g) p v = reg lo (i + 1) f g := by
  subst e
  funext q
  by_cases h : q = lo + i
  · rw [h, up_same, reg_in (k := i) (by omega) rfl, hv]
  · rw [va_up_ne _ _ h]
    unfold reg
    by_cases h2 : lo ≤ q ∧ q < lo + i
    · rw [if_pos h2, if_pos (by omega)]
    · rw [if_neg h2, if_neg (by omega)]
theorem reg_I {S : pv_M} {c lo i p : Nat} {f g : Nat → Int32} {v : Int32} (h : mI S c = reg lo i f g) (e : p = lo + i) (hv : v = f i) : mI (wI S c (va_up (mI S c) p v)) c = reg lo (i + 1) f g := by
  rw [mI_wI, h]; exact reg_up e hv
theorem reg_J {S : pv_M} {c lo i p : Nat} {f g : Nat → Int64} {v : Int64} (h : mJ S c = reg lo i f g) (e : p = lo + i) (hv : v = f i) : mJ (wJ S c (va_up (mJ S c) p v)) c = reg lo (i + 1) f g := by
  rw [mJ_wJ, h]; exact reg_up e hv
abbrev th (S : pv_M) (c : Nat) : pv_M := wI S 75 (va_up (mI S 75) 0 (nI c))
theorem th_fs {S : pv_M} {c : Nat} : FS S (th S c) := FS.w75 ⟨by decide, by decide, by decide⟩
theorem th_0 {S : pv_M} {c : Nat} : mI (th S c) 75 0 = nI c := rI_s
theorem RgM.n {S : pv_M} {cs ct cf : Nat} {R : Nat → Rg} (h : RgM S cs ct cf R) {j : Nat} (hj : j < 3) : mI S cs j = nI (R j).1 := h.1 j hj
theorem RgM.t {S : pv_M} {cs ct cf : Nat} {R : Nat → Rg} (h : RgM S cs ct cf R) {j i p : Nat} (hj : j < 3) (hi : i < 18) (e : p = 18 * j + i) : mI S ct p = nI ((R j).2.1 i) := e ▸ h.2.1 j hj i hi
theorem RgM.f {S : pv_M} {cs ct cf : Nat} {R : Nat → Rg} (h : RgM S cs ct cf R) {j i p : Nat} (hj : j < 3) (hi : i < 6) (e : p = 6 * j + i) : mI S cf p = bI ((R j).2.2.testBit i) := e ▸ h.2.2 j hj i hi
abbrev setR (A : Ab) (j : Nat) (r : Rg) : Ab := ((va_up A.1.1 j r, A.1.2), A.2)
abbrev setW (A : Ab) (w : Nat × (Nat → Nat)) : Ab := ((A.1.1, w), A.2)
theorem RgM.set {S S' : pv_M} {cs ct cf : Nat} {R : Nat → Rg} (h : RgM S cs ct cf R) {j m F : Nat} {T : Nat → Nat} (hj : j < 3) (h1 : ∀ k, k ≠ j → mI S' cs k = mI S cs k) (h2 : mI S' cs j = nI m) (h3 : ∀ p, p < 18 * j ∨ 18 * j + 18 ≤ p → mI S' ct p = mI S ct p) (h4 : ∀ i, i < 18 → mI S' ct (18 * j + i) = nI (T i)) (h5 : ∀ p, p < 6 * j ∨ 6 * j + 6 ≤ p → mI S' cf p = mI S cf p) (h6 : ∀ i, i < 6 → mI S' cf (6 * j + i) = bI (F.testBit i)) : RgM S' cs ct cf (va_up R j (m, T, F)) := by
  refine ⟨fun k hk => ?_, fun k hk i hi => ?_, fun k hk i hi => ?_⟩ <;> by_cases e : k = j
  · subst e; rw [up_same]; exact h2
  · rw [va_up_ne _ _ e, h1 k e]; exact h.1 k hk
  · subst e; rw [up_same]; exact h4 i hi
  · rw [va_up_ne _ _ e, h3 _ (by omega)]; exact h.2.1 k hk i hi
  · subst e; rw [up_same]; exact h6 i hi
  · rw [va_up_ne _ _ e, h5 _ (by omega)]; exact h.2.2 k hk i hi
abbrev r3 : Nat → Prop := fun r => r = 76 ∨ r = 77 ∨ r = 78
abbrev r4 : Nat → Prop := fun r => r = 75 ∨ r = 76 ∨ r = 77 ∨ r = 78
theorem MSt.set4 {S S' : pv_M} {A : Ab} (h : MSt S A) {R : Nat → Rg} (hr : RgM S' 76 77 78 R) (hf : FN r4 S S') (q4 : mI S' 75 4 = mI S 75 4) (q10 : mI S' 75 10 = mI S 75 10) (q14 : mI S' 75 14 = mI S 75 14) : MSt S' ((R, A.1.2), A.2) :=
  have q : ∀ r, ¬ r4 r → mI S' r = mI S r := fun r hr => (hf.2 r hr).1
  ⟨hr, h.2.1.keep q4 (q 79 (by decide)), by rw [q10]; exact h.2.2.1, h.2.2.2.1.keep (q 84 (by decide)) (q 85 (by decide)) (q 86 (by decide)), h.2.2.2.2.1.keep q14 (q 87 (by decide)), h.2.2.2.2.2.keep (q 80 (by decide)) (q 81 (by decide)) (hf.2 82 (by decide)).2.2.1 (hf.2 83 (by decide)).2.2.2⟩
theorem MSt.set {S S' : pv_M} {A : Ab} (h : MSt S A) {R : Nat → Rg} (hr : RgM S' 76 77 78 R) (hf : FN r3 S S') : MSt S' ((R, A.1.2), A.2) :=
  have q : mI S' 75 = mI S 75 := (hf.2 75 (by decide)).1
  h.set4 hr (hf.mono (fun r h => Or.inr h)) (by rw [q]) (by rw [q]) (by rw [q])
theorem r4_mC {S S' : pv_M} (h : FN r4 S S') : FN mC S S' := h.mono (fun r h => by rcases h with rfl | rfl | rfl | rfl <;> decide)
theorem r3_mC {S S' : pv_M} (h : FN r3 S S') : FN mC S S' := h.mono (fun r h => by rcases h with rfl | rfl | rfl <;> decide)
def lsP : List Value → List Value → Prop
  | [], _ => True
  | a :: l, [] => a = unk ∧ lsP l []
  | a :: l, b :: r => (a = unk ∨ a = b) ∧ lsP l r
theorem lsP_at : ∀ (l r : List Value), lsP l r → ∀ (i : Nat) (v : Value), l[i]? = some v → v = unk ∨ r[i]? = some v
  | [], _, _, i, v, h => by simp at h
  | a :: l, [], q, i, v, h => by
    cases i with
    | zero => simp at h; exact Or.inl (h ▸ q.1)
    | succ i => simp at h; exact (lsP_at l [] q.2 i v h).elim Or.inl (fun z => by simp at z)
  | a :: l, b :: r, q, i, v, h => by
    cases i with
    | zero =>
      simp at h
      subst h
      rcases q.1 with h | h
      · exact Or.inl h
      · exact Or.inr (by simp [h])
    | succ i =>
      simp at h
      rcases lsP_at l r q.2 i v h with h | h
      · exact Or.inl h
      · exact Or.inr (by simpa using h)
theorem g_frg {x : Cx} {N cs sl : Nat} {lv st : List Value} {S : pv_M} {pc : Nat} (lv' : List Value) (h : lsP lv' lv) (k : GG x N cs sl lv' st S pc) : GG x N cs sl lv st S pc := g_less lv' (lsP_at lv' lv h) k
