/-! frames: what a method leaves as it was -/
def FN (P : Nat → Prop) (S T : pv_M) : Prop := mR T = mR S ∧ ∀ r, ¬ P r → mI T r = mI S r ∧ mJ T r = mJ S r ∧ mF T r = mF S r ∧ mD T r = mD S r
theorem FN.rf {P : Nat → Prop} {S : pv_M} : FN P S S := ⟨rfl, fun _ _ => ⟨rfl, rfl, rfl, rfl⟩⟩
theorem FN.tr {P : Nat → Prop} {S T U : pv_M} (h : FN P S T) (k : FN P T U) : FN P S U := ⟨k.1.trans h.1, fun r hr => ⟨(k.2 r hr).1.trans (h.2 r hr).1, (k.2 r hr).2.1.trans (h.2 r hr).2.1, (k.2 r hr).2.2.1.trans (h.2 r hr).2.2.1, (k.2 r hr).2.2.2.trans (h.2 r hr).2.2.2⟩⟩
theorem FN.mono {P Q : Nat → Prop} {S T : pv_M} (h : FN P S T) (hq : ∀ r, P r → Q r) : FN Q S T := ⟨h.1, fun r hr => h.2 r (fun p => hr (hq r p))⟩
theorem FN.wI {P : Nat → Prop} {S : pv_M} {i : Nat} {f : Nat → Int32} (h : P i) : FN P S (wI S i f) := ⟨rfl, fun r hr => ⟨mI_wI_ne (fun e => hr (e ▸ h)), rfl, rfl, rfl⟩⟩
theorem FN.wJ {P : Nat → Prop} {S : pv_M} {i : Nat} {f : Nat → Int64} (h : P i) : FN P S (wJ S i f) := ⟨rfl, fun r hr => ⟨rfl, mJ_wJ_ne (fun e => hr (e ▸ h)), rfl, rfl⟩⟩
theorem mF_wF_ne {S : pv_M} {i j : Nat} {f : Nat → UInt32} (h : j ≠ i) : mF (wF S i f) j = mF S j := by simp [mF, wF, va_up, h]
theorem mD_wD_ne {S : pv_M} {i j : Nat} {f : Nat → UInt64} (h : j ≠ i) : mD (wD S i f) j = mD S j := by simp [mD, wD, va_up, h]
theorem FN.wF {P : Nat → Prop} {S : pv_M} {i : Nat} {f : Nat → UInt32} (h : P i) : FN P S (wF S i f) := ⟨rfl, fun r hr => ⟨rfl, rfl, mF_wF_ne (fun e => hr (e ▸ h)), rfl⟩⟩
theorem FN.wD {P : Nat → Prop} {S : pv_M} {i : Nat} {f : Nat → UInt64} (h : P i) : FN P S (wD S i f) := ⟨rfl, fun r hr => ⟨rfl, rfl, rfl, mD_wD_ne (fun e => hr (e ▸ h))⟩⟩
/-! an automaton: its object a, its targets t; n states, the target T (3 * state + letter), the final states F as bits -/
def AutoAt (S : pv_M) (a t n : Nat) (T : Nat → Nat) (F : Nat) : Prop := pv_sh a = .inl 1 ∧ a < 106 ∧ pv_sh t = .inr (0, 18) ∧ t < 106 ∧ mR S a 1 = some t ∧ mI S a 0 = nI n ∧ mI S a 2 = nI F ∧ ∀ j, j < 18 → mI S t j = nI (T j)
theorem AutoAt.ne {S : pv_M} {a t n F : Nat} {T : Nat → Nat} (h : AutoAt S a t n T F) : a ≠ t := by
  intro e
  have h1 := h.1
  rw [e, h.2.2.1] at h1
  cases h1
abbrev two (a t : Nat) : Nat → Prop := fun r => r = a ∨ r = t
theorem AutoAt.keep {P : Nat → Prop} {S S' : pv_M} {a t n F : Nat} {T : Nat → Nat} (h : AutoAt S a t n T F) (k : FN P S S') (h1 : ¬ P a) (h2 : ¬ P t) : AutoAt S' a t n T F :=
  ⟨h.1, h.2.1, h.2.2.1, h.2.2.2.1, by rw [k.1]; exact h.2.2.2.2.1, by rw [(k.2 a h1).1]; exact h.2.2.2.2.2.1, by rw [(k.2 a h1).1]; exact h.2.2.2.2.2.2.1, fun j hj => by rw [(k.2 t h2).1]; exact h.2.2.2.2.2.2.2 j hj⟩
theorem AutoAt.putT {S : pv_M} {a t n F j v : Nat} {T : Nat → Nat} (h : AutoAt S a t n T F) : AutoAt (wI S t (va_up (mI S t) j (nI v))) a t n (va_up T j v) F :=
  ⟨h.1, h.2.1, h.2.2.1, h.2.2.2.1, h.2.2.2.2.1, rI_n h.ne h.2.2.2.2.2.1, rI_n h.ne h.2.2.2.2.2.2.1, fun i hi => by
    rw [mI_wI]
    by_cases e : i = j
    · subst e; simp [va_up]
    · rw [va_up_ne _ _ e, va_up_ne _ _ e]; exact h.2.2.2.2.2.2.2 i hi⟩
theorem AutoAt.putF {S : pv_M} {a t n F v : Nat} {T : Nat → Nat} (h : AutoAt S a t n T F) : AutoAt (wI S a (va_up (mI S a) 2 (nI v))) a t n T v :=
  ⟨h.1, h.2.1, h.2.2.1, h.2.2.2.1, h.2.2.2.2.1, rI_k (by decide) h.2.2.2.2.2.1, rI_s, fun i hi => rI_n h.ne.symm (h.2.2.2.2.2.2.2 i hi)⟩
theorem AutoAt.putN {S : pv_M} {a t n F v : Nat} {T : Nat → Nat} (h : AutoAt S a t n T F) : AutoAt (wI S a (va_up (mI S a) 0 (nI v))) a t v T F :=
  ⟨h.1, h.2.1, h.2.2.1, h.2.2.2.1, h.2.2.2.2.1, rI_s, rI_k (by decide) h.2.2.2.2.2.2.1, fun i hi => rI_n h.ne.symm (h.2.2.2.2.2.2.2 i hi)⟩
/-- only the places below 18 count -/
theorem AutoAt.ext {S : pv_M} {a t n F : Nat} {T T' : Nat → Nat} (h : AutoAt S a t n T F) (e : ∀ j, j < 18 → T j = T' j) : AutoAt S a t n T' F :=
  ⟨h.1, h.2.1, h.2.2.1, h.2.2.2.1, h.2.2.2.2.1, h.2.2.2.2.2.1, h.2.2.2.2.2.2.1, fun j hj => by rw [← e j hj]; exact h.2.2.2.2.2.2.2 j hj⟩
/-! the word: its object w, its letters u; the length m, the letters L -/
def WordAt (S : pv_M) (w u m : Nat) (L : Nat → Nat) : Prop := pv_sh w = .inl 9 ∧ w < 106 ∧ pv_sh u = .inr (0, 12) ∧ u < 106 ∧ mR S w 1 = some u ∧ mI S w 0 = nI m ∧ m ≤ 12 ∧ ∀ j, j < 12 → mI S u j = nI (L j)
theorem WordAt.ne {S : pv_M} {a t n : Nat} {L : Nat → Nat} (h : WordAt S a t n L) : a ≠ t := by
  intro e
  have h1 := h.1
  rw [e, h.2.2.1] at h1
  cases h1
theorem WordAt.keep {P : Nat → Prop} {S S' : pv_M} {a t n : Nat} {L : Nat → Nat} (h : WordAt S a t n L) (k : FN P S S') (h1 : ¬ P a) (h2 : ¬ P t) : WordAt S' a t n L :=
  ⟨h.1, h.2.1, h.2.2.1, h.2.2.2.1, by rw [k.1]; exact h.2.2.2.2.1, by rw [(k.2 a h1).1]; exact h.2.2.2.2.2.1, h.2.2.2.2.2.2.1, fun j hj => by rw [(k.2 t h2).1]; exact h.2.2.2.2.2.2.2 j hj⟩
