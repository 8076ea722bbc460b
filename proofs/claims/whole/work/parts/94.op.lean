/-! ONE CALL OF THE SCRIPT: the class's answer (through the law's helper) and the reference's -/
def Gd (A : Ab) : Prop := gdC A.1 ∧ (A.2.1.1 = true → gdC A.2.1.2) ∧ gdW A.2.2
def INV (S : pv_M) : Prop := ∃ A, CSt S A ∧ MSt S A ∧ Gd A
theorem MSt.fr {P : Nat → Prop} {S S' : pv_M} {A : Ab} (h : MSt S A) (k : FR P S S') (hP : ∀ r, 75 ≤ r → r ≤ 103 → ¬ P r) : MSt S' A :=
  have q : ∀ r, 75 ≤ r → r ≤ 103 → mI S' r = mI S r := fun r a b => (k r (hP r a b)).2.1
  ⟨h.1.keep (q 76 (by omega) (by omega)) (q 77 (by omega) (by omega)) (q 78 (by omega) (by omega)), h.2.1.keep (by rw [q 75 (by omega) (by omega)]) (q 79 (by omega) (by omega)), by rw [q 75 (by omega) (by omega)]; exact h.2.2.1, h.2.2.2.1.keep (q 84 (by omega) (by omega)) (q 85 (by omega) (by omega)) (q 86 (by omega) (by omega)), h.2.2.2.2.1.keep (by rw [q 75 (by omega) (by omega)]) (q 87 (by omega) (by omega)), h.2.2.2.2.2.keep (q 80 (by omega) (by omega)) (q 81 (by omega) (by omega)) (k 82 (hP 82 (by omega) (by omega))).2.2.2.1 (k 83 (hP 83 (by omega) (by omega))).2.2.2.2⟩
theorem MSt.cC {S S' : pv_M} {A : Ab} (h : MSt S A) (k : FR cC S S') : MSt S' A := h.fr k (fun r a _ z => by have : r ≤ 74 := z; omega)
abbrev oC : Nat → Prop := fun r => r = 104 ∨ r = 105
theorem MSt.oC {S S' : pv_M} {A : Ab} (h : MSt S A) (k : FN oC S S') : MSt S' A := h.fr k.fr (fun r _ b z => by rcases z with z | z <;> omega)
theorem CSt.oC {S S' : pv_M} {A : Ab} (h : CSt S A) (k : FN oC S S') : CSt S' A := h.frP k.fr (fun r z => Or.inr (by rcases z with z | z <;> omega)) (h.1.fn k) (h.2.1.of (by rw [k.1])) (h.2.2.1.of (by rw [k.1]))
theorem fn_out {S S' : pv_M} (k : FN mC S S') : mJ S' 104 = mJ S 104 ∧ mD S' 105 = mD S 105 := ⟨(k.2 104 (fun z => absurd z.2 (by decide))).2.1, (k.2 105 (fun z => absurd z.2 (by decide))).2.2.2⟩
theorem mtW_post {l : Launch} {M : MeW} {N : Nat} {As : List Value} {S : pv_M} {post post' : Option Value → pv_M → Prop} (h : mtW l M N As S post) (k : ∀ v S', post v S' → post' v S') : mtW l M N As S post' := by
  intro D ay b α sz
  have h0 := h D ay b α sz
  unfold Met MetFree at h0 ⊢
  intro p e a1 a2 a3 s m args below a4 a5 a6 a7
  obtain ⟨n, o, b1, b2, b3, ⟨⟨r, S', h1, h2, h3⟩, h4⟩, b5⟩ := h0 p e a1 a2 a3 s m args below a4 a5 a6 a7
  exact ⟨n, o, b1, b2, b3, ⟨⟨r, S', h1, k r S' h2, h3⟩, h4⟩, b5⟩
theorem m_th {l : Launch} {M : Me} {As : List Value} {S : pv_M} {A : Ab} {k : Nat} {x : Option Value} (hM : MSt S A) (h : mt l M 106 As S (fun v S' => v = x ∧ S' = th S k)) : mt l M 106 As S (fun v S' => v = x ∧ mI S' 75 0 = nI k ∧ MSt S' A ∧ FN mC S S') :=
  mt_post h (fun v S' q => ⟨q.1, by rw [q.2]; exact th_0, by rw [q.2]; exact hM.fs th_fs, by rw [q.2]; exact th_fs.mC⟩)
theorem m_th2 {l : Launch} {M : Me} {As : List Value} {S : pv_M} {A : Ab} {k : Nat} {x : Option Value} (hM : MSt S A) (h : mt l M 106 As S (fun v S' => v = x ∧ S' = th (th S 0) k)) : mt l M 106 As S (fun v S' => v = x ∧ mI S' 75 0 = nI k ∧ MSt S' A ∧ FN mC S S') :=
  mt_post h (fun v S' q => ⟨q.1, by rw [q.2]; exact th_0, by rw [q.2]; exact (hM.fs th_fs).fs th_fs, by rw [q.2]; exact (th_fs.tr th_fs).mC⟩)
theorem m_all {l : Launch} {M : Me} {As : List Value} {S : pv_M} {A' : Ab} {x : Option Value} (h : mt l M 106 As S (fun v S' => v = x ∧ mI S' 75 0 = nI 0 ∧ MSt S' A' ∧ FN mC S S')) : mt l M 106 As S (fun v S' => v = x ∧ mI S' 75 0 = nI 0 ∧ FN mC S S' ∧ ∀ B, B = A' → MSt S' B) :=
  mt_post h (fun v S' q => ⟨q.1, q.2.1, q.2.2.2, fun B e => by rw [e]; exact q.2.2.1⟩)
/-- what the answers owe each other: k is the number of what was thrown -/
abbrev Rel : Type := Nat → Option Value → pv_M → Prop
def rV : Rel := fun _ v _ => v = none
def rI : Rel := fun k v S => ∃ b, v = some (.int b) ∧ (k = 0 → mJ S 104 0 = b.toInt64)
def rJ : Rel := fun k v S => ∃ b, v = some (.long b) ∧ (k = 0 → mJ S 104 0 = b)
def rB : Rel := fun k v S => ∃ c, v = some (.int (bI c)) ∧ (k = 0 → mJ S 104 0 = bL c)
def rD : Rel := fun k v S => ∃ b, v = some (.double b) ∧ (k = 0 → mD S 105 0 = b)
def OP (l : Launch) (W : MeW) (M : Me) (as ms : List Value) (S : pv_M) (rel : Rel) : Prop := mtW l W 106 as S (fun v S1 => ∃ k, k < 5 ∧ v = some (.int (nI k)) ∧ mt l M 106 ms S1 (fun v2 S2 => rel k v2 S2 ∧ INV S2 ∧ mI S2 75 0 = nI k))
section OPS
variable {l : Launch} {W : MeW} {M : Me} {as ms : List Value} {S : pv_M} {A : Ab} {rel : Rel}
theorem op_t {k : Nat} {x : Option Value} (hk : k < 5) (hM : MSt S A) (g : Gd A) (h1 : mtW l W 106 as S (fun v S1 => v = some (.int (nI k)) ∧ CSt S1 A ∧ FR cC S S1)) (h2 : ∀ S1, GS S1 → MSt S1 A → mt l M 106 ms S1 (fun v S' => v = x ∧ mI S' 75 0 = nI k ∧ MSt S' A ∧ FN mC S1 S')) (hr : ∀ S', rel k x S') : OP l W M as ms S rel :=
  mtW_post h1 (fun v S1 q => ⟨k, hk, q.1, mt_post (h2 S1 q.2.1.1 (hM.cC q.2.2)) (fun v2 S2 z => ⟨by rw [z.1]; exact hr S2, ⟨A, q.2.1.fn z.2.2.2, z.2.2.1, g⟩, z.2.1⟩)⟩)
/-- the class throws at once, and so does the reference -/
theorem op_ts {k : Nat} {x : Option Value} (hk : k < 5) (hC : CSt S A) (hM : MSt S A) (g : Gd A) (h1 : mtW l W 106 as S (fun v S1 => v = some (.int (nI k)) ∧ S1 = S)) (h2 : ∀ S1, GS S1 → MSt S1 A → mt l M 106 ms S1 (fun v S' => v = x ∧ S' = th S1 k)) (hr : ∀ S', rel k x S') : OP l W M as ms S rel :=
  op_t hk hM g (mtW_post h1 (fun v S1 q => ⟨q.1, by rw [q.2]; exact hC, by rw [q.2]; exact FR.rf⟩)) (fun S1 a b => m_th b (h2 S1 a b)) hr
theorem op_V (R : Ab → Prop) (hM : MSt S A) (hG : ∀ A', R A' → Gd A') (h1 : mtW l W 106 as S (fun v S1 => v = some (.int (nI 0)) ∧ ∃ A', R A' ∧ CSt S1 A' ∧ FR cC S S1)) (h2 : ∀ S1, GS S1 → MSt S1 A → mt l M 106 ms S1 (fun v S' => v = none ∧ mI S' 75 0 = nI 0 ∧ FN mC S1 S' ∧ ∀ A', R A' → MSt S' A')) : OP l W M as ms S rV :=
  mtW_post h1 (fun v S1 q => by
    obtain ⟨e, A', r, c, f⟩ := q
    exact ⟨0, by decide, e, mt_post (h2 S1 c.1 (hM.cC f)) (fun v2 S2 z => ⟨z.1, ⟨A', c.fn z.2.2.1, z.2.2.2 A' r, hG A' r⟩, z.2.1⟩)⟩)
theorem op_I (R : Ab → Prop) {a : Int32} (hM : MSt S A) (hG : ∀ A', R A' → Gd A') (h1 : mtW l W 106 as S (fun v S1 => v = some (.int (nI 0)) ∧ ∃ a' S0, (a' = a ∧ ∃ A', R A' ∧ CSt S0 A' ∧ FR cC S S0) ∧ S1 = wJ S0 104 (va_up (mJ S0 104) 0 a'.toInt64))) (h2 : ∀ S1, GS S1 → MSt S1 A → mt l M 106 ms S1 (fun v S' => v = some (.int a) ∧ mI S' 75 0 = nI 0 ∧ FN mC S1 S' ∧ ∀ A', R A' → MSt S' A')) : OP l W M as ms S rI :=
  mtW_post h1 (fun v S1 q => by
    obtain ⟨e, a', S0, ⟨rfl, A', r, c, f⟩, rfl⟩ := q
    have k : FN oC S0 (wJ S0 104 (va_up (mJ S0 104) 0 a'.toInt64)) := FN.wJ (Or.inl rfl)
    have c' := c.oC k
    exact ⟨0, by decide, e, mt_post (h2 _ c'.1 ((hM.cC f).oC k)) (fun v2 S2 z => ⟨⟨a', z.1, fun _ => by rw [(fn_out z.2.2.1).1, mJ_wJ, up_same]⟩, ⟨A', c'.fn z.2.2.1, z.2.2.2 A' r, hG A' r⟩, z.2.1⟩)⟩)
theorem op_J (R : Ab → Prop) {a : Int64} (hM : MSt S A) (hG : ∀ A', R A' → Gd A') (h1 : mtW l W 106 as S (fun v S1 => v = some (.int (nI 0)) ∧ ∃ a' S0, (a' = a ∧ ∃ A', R A' ∧ CSt S0 A' ∧ FR cC S S0) ∧ S1 = wJ S0 104 (va_up (mJ S0 104) 0 a'))) (h2 : ∀ S1, GS S1 → MSt S1 A → mt l M 106 ms S1 (fun v S' => v = some (.long a) ∧ mI S' 75 0 = nI 0 ∧ FN mC S1 S' ∧ ∀ A', R A' → MSt S' A')) : OP l W M as ms S rJ :=
  mtW_post h1 (fun v S1 q => by
    obtain ⟨e, a', S0, ⟨rfl, A', r, c, f⟩, rfl⟩ := q
    have k : FN oC S0 (wJ S0 104 (va_up (mJ S0 104) 0 a')) := FN.wJ (Or.inl rfl)
    have c' := c.oC k
    exact ⟨0, by decide, e, mt_post (h2 _ c'.1 ((hM.cC f).oC k)) (fun v2 S2 z => ⟨⟨a', z.1, fun _ => by rw [(fn_out z.2.2.1).1, mJ_wJ, up_same]⟩, ⟨A', c'.fn z.2.2.1, z.2.2.2 A' r, hG A' r⟩, z.2.1⟩)⟩)
theorem op_Z (R : Ab → Prop) {a : Bool} (hM : MSt S A) (hG : ∀ A', R A' → Gd A') (h1 : mtW l W 106 as S (fun v S1 => v = some (.int (nI 0)) ∧ ∃ a' S0, (a' = a ∧ ∃ A', R A' ∧ CSt S0 A' ∧ FR cC S S0) ∧ S1 = wJ S0 104 (va_up (mJ S0 104) 0 (bL a')))) (h2 : ∀ S1, GS S1 → MSt S1 A → mt l M 106 ms S1 (fun v S' => v = some (.int (bI a)) ∧ mI S' 75 0 = nI 0 ∧ FN mC S1 S' ∧ ∀ A', R A' → MSt S' A')) : OP l W M as ms S rB :=
  mtW_post h1 (fun v S1 q => by
    obtain ⟨e, a', S0, ⟨rfl, A', r, c, f⟩, rfl⟩ := q
    have k : FN oC S0 (wJ S0 104 (va_up (mJ S0 104) 0 (bL a'))) := FN.wJ (Or.inl rfl)
    have c' := c.oC k
    exact ⟨0, by decide, e, mt_post (h2 _ c'.1 ((hM.cC f).oC k)) (fun v2 S2 z => ⟨⟨a', z.1, fun _ => by rw [(fn_out z.2.2.1).1, mJ_wJ, up_same]⟩, ⟨A', c'.fn z.2.2.1, z.2.2.2 A' r, hG A' r⟩, z.2.1⟩)⟩)
theorem op_D (R : Ab → Prop) {a : UInt64} (hM : MSt S A) (hG : ∀ A', R A' → Gd A') (h1 : mtW l W 106 as S (fun v S1 => v = some (.int (nI 0)) ∧ ∃ a' S0, (a' = a ∧ ∃ A', R A' ∧ CSt S0 A' ∧ FR cC S S0) ∧ S1 = wD S0 105 (va_up (mD S0 105) 0 a'))) (h2 : ∀ S1, GS S1 → MSt S1 A → mt l M 106 ms S1 (fun v S' => v = some (.double a) ∧ mI S' 75 0 = nI 0 ∧ FN mC S1 S' ∧ ∀ A', R A' → MSt S' A')) : OP l W M as ms S rD :=
  mtW_post h1 (fun v S1 q => by
    obtain ⟨e, a', S0, ⟨rfl, A', r, c, f⟩, rfl⟩ := q
    have k : FN oC S0 (wD S0 105 (va_up (mD S0 105) 0 a')) := FN.wD (Or.inr rfl)
    have c' := c.oC k
    exact ⟨0, by decide, e, mt_post (h2 _ c'.1 ((hM.cC f).oC k)) (fun v2 S2 z => ⟨⟨a', z.1, fun _ => by rw [(fn_out z.2.2.1).2, mD_wD, up_same]⟩, ⟨A', c'.fn z.2.2.1, z.2.2.2 A' r, hG A' r⟩, z.2.1⟩)⟩)
end OPS
theorem r_I {k : Nat} {b : Int32} (hk : k ≠ 0) : ∀ S', rI k (some (.int b)) S' := fun _ => ⟨b, rfl, fun e => absurd e hk⟩
theorem r_J {k : Nat} {b : Int64} (hk : k ≠ 0) : ∀ S', rJ k (some (.long b)) S' := fun _ => ⟨b, rfl, fun e => absurd e hk⟩
theorem r_Z {k : Nat} {c : Bool} (hk : k ≠ 0) : ∀ S', rB k (some (.int (bI c))) S' := fun _ => ⟨c, rfl, fun e => absurd e hk⟩
theorem r_D {k : Nat} {b : UInt64} (hk : k ≠ 0) : ∀ S', rD k (some (.double b)) S' := fun _ => ⟨b, rfl, fun e => absurd e hk⟩
theorem r_V {k : Nat} : ∀ S', rV k none S' := fun _ => rfl
/-! what a class's contract says, as the rows above want it -/
section AD
variable {l : Launch} {M : Me} {as : List Value} {S : pv_M} {A A' : Ab}
theorem a_I0 {a : Int32} (hC : CSt S A) (h : mt l M 106 as S (fun v S' => v = some (.int a) ∧ S' = S)) : mt l M 106 as S (fun v S' => ∃ a', v = some (.int a') ∧ a' = a ∧ ∃ B, B = A ∧ CSt S' B ∧ FR cC S S') := mt_post h (fun v S' q => ⟨a, q.1, rfl, A, rfl, by rw [q.2]; exact hC, by rw [q.2]; exact FR.rf⟩)
theorem a_I {a : Int32} (h : mt l M 106 as S (fun v S' => v = some (.int a) ∧ CSt S' A' ∧ FR cC S S')) : mt l M 106 as S (fun v S' => ∃ a', v = some (.int a') ∧ a' = a ∧ ∃ B, B = A' ∧ CSt S' B ∧ FR cC S S') := mt_post h (fun v S' q => ⟨a, q.1, rfl, A', rfl, q.2.1, q.2.2⟩)
theorem a_J {a : Int64} (h : mt l M 106 as S (fun v S' => v = some (.long a) ∧ CSt S' A' ∧ FR cC S S')) : mt l M 106 as S (fun v S' => ∃ a', v = some (.long a') ∧ a' = a ∧ ∃ B, B = A' ∧ CSt S' B ∧ FR cC S S') := mt_post h (fun v S' q => ⟨a, q.1, rfl, A', rfl, q.2.1, q.2.2⟩)
theorem a_Z0 {a : Bool} (hC : CSt S A) (h : mt l M 106 as S (fun v S' => v = some (.int (bI a)) ∧ S' = S)) : mt l M 106 as S (fun v S' => ∃ a', v = some (.int (bI a')) ∧ a' = a ∧ ∃ B, B = A ∧ CSt S' B ∧ FR cC S S') := mt_post h (fun v S' q => ⟨a, q.1, rfl, A, rfl, by rw [q.2]; exact hC, by rw [q.2]; exact FR.rf⟩)
theorem a_D {a : UInt64} (h : mt l M 106 as S (fun v S' => v = some (.double a) ∧ CSt S' A' ∧ FR cC S S')) : mt l M 106 as S (fun v S' => ∃ a', v = some (.double a') ∧ a' = a ∧ ∃ B, B = A' ∧ CSt S' B ∧ FR cC S S') := mt_post h (fun v S' q => ⟨a, q.1, rfl, A', rfl, q.2.1, q.2.2⟩)
theorem a_D0 {a : UInt64} (hC : CSt S A) (h : mt l M 106 as S (fun v S' => v = some (.double a) ∧ S' = S)) : mt l M 106 as S (fun v S' => ∃ a', v = some (.double a') ∧ a' = a ∧ ∃ B, B = A ∧ CSt S' B ∧ FR cC S S') := mt_post h (fun v S' q => ⟨a, q.1, rfl, A, rfl, by rw [q.2]; exact hC, by rw [q.2]; exact FR.rf⟩)
/-- a register made anew, its finals as the class chose them -/
theorem a_S {t : Nat} {δ : Nat → Nat → Nat} {acc : Nat → Bool} {R : List Nat} {a : Int32} (h : mt l M 106 as S (fun v S' => ∃ F', F' < 64 ∧ sF δ acc R F' ∧ v = some (.int a) ∧ CSt S' (setR A t (sR δ acc R F')) ∧ FR cC S S')) : mt l M 106 as S (fun v S' => ∃ a', v = some (.int a') ∧ a' = a ∧ ∃ B, (∃ F', F' < 64 ∧ sF δ acc R F' ∧ B = setR A t (sR δ acc R F')) ∧ CSt S' B ∧ FR cC S S') :=
  mt_post h (fun v S' q => by obtain ⟨F', h1, h2, h3, h4, h5⟩ := q; exact ⟨a, h3, rfl, _, ⟨F', h1, h2, rfl⟩, h4, h5⟩)
theorem b_S {t : Nat} {δ : Nat → Nat → Nat} {acc : Nat → Bool} {R : List Nat} {a : Int32} (h : mt l M 106 as S (fun v S' => v = some (.int a) ∧ mI S' 75 0 = nI 0 ∧ FN mC S S' ∧ ∀ F', sF δ acc R F' → MSt S' (setR A t (sR δ acc R F')))) : mt l M 106 as S (fun v S' => v = some (.int a) ∧ mI S' 75 0 = nI 0 ∧ FN mC S S' ∧ ∀ B, (∃ F', F' < 64 ∧ sF δ acc R F' ∧ B = setR A t (sR δ acc R F')) → MSt S' B) :=
  mt_post h (fun v S' q => ⟨q.1, q.2.1, q.2.2.1, fun B z => by obtain ⟨F', h1, h2, h3⟩ := z; rw [h3]; exact q.2.2.2 F' h2⟩)
end AD
theorem FR.two {S S' : pv_M} {j : Nat} (hj : j < 3) (k : FN (two (53 + 4 * j) (54 + 4 * j)) S S') : FR cC S S' := k.fr.mono (fun r z => by rcases z with z | z <;> (show r ≤ 74; omega))
theorem cst_reg {S S' : pv_M} {A : Ab} {j n F : Nat} {T : Nat → Nat} (h : CSt S A) (hj : j < 3) (k : FN (two (53 + 4 * j) (54 + 4 * j)) S S') (hr : RegAt S' j n T F) : CSt S' (setR A j (n, T, F)) := h.setR hj k.fr (fun r z => Or.inr z) (h.1.fn k) (h.2.1.of (by rw [k.1])) (h.2.2.1.of (by rw [k.1])) hr.1
theorem CSt.ra {S : pv_M} {A : Ab} (h : CSt S A) (g : Gd A) {j : Nat} (hj : j < 3) : RegAt S j (rN A j) (rT A j) (rF A j) := ⟨h.2.2.2.1 j hj, (g.1.1 j hj).1, (g.1.1 j hj).2.1, (g.1.1 j hj).2.2.1, (g.1.1 j hj).2.2.2⟩
theorem CSt.wa {S : pv_M} {A : Ab} (h : CSt S A) (g : Gd A) : WdAt S (wM A) (wL A) := ⟨h.2.2.2.2.1, g.1.2.2⟩
theorem gd_setR {A : Ab} (g : Gd A) {t : Nat} {r : Rg} (h : gdR r) : Gd (setR A t r) := ⟨⟨fun j hj => by
    show gdR (va_up A.1.1 t r j)
    by_cases e : j = t
    · rw [e, up_same]; exact h
    · rw [va_up_ne _ _ e]; exact g.1.1 j hj, g.1.2⟩, g.2⟩
theorem gd_setW {A : Ab} (g : Gd A) {m : Nat} {L : Nat → Nat} (hm : m ≤ 12) (hL : ∀ i, L i < 3) : Gd (setW A (m, L)) := ⟨⟨g.1.1, hm, hL⟩, g.2⟩
theorem bf_pos {δ : Nat → Nat → Nat} {k0 : Nat} : 0 < (bf δ k0).length := List.length_pos_of_mem bf_0
theorem bf_n {δ : Nat → Nat → Nat} {k0 : Nat} (h : (bf δ k0).length ≤ 740) : ∀ p, p < 3 * (bf δ k0).length → nxt δ (bf δ k0) p < (bf δ k0).length := fun p hp => idx_lt (bf_cl h (getD_mem (show p / 3 < (bf δ k0).length by omega)) (by omega))
theorem sR_gd {δ : Nat → Nat → Nat} {acc : Nat → Bool} {k0 F' : Nat} (h : (bf δ k0).length ≤ 740) (h6 : cM δ acc (bf δ k0) ≤ 6) (hF : F' < 64) : gdR (sR δ acc (bf δ k0) F') := ⟨cF_pos bf_pos, h6, mnT_lt (bf_n h), hF⟩
theorem gd_sR {A : Ab} (g : Gd A) {t : Nat} {δ : Nat → Nat → Nat} {acc : Nat → Bool} {k0 : Nat} (h : (bf δ k0).length ≤ 740) (h6 : cM δ acc (bf δ k0) ≤ 6) : ∀ B, (∃ F', F' < 64 ∧ sF δ acc (bf δ k0) F' ∧ B = setR A t (sR δ acc (bf δ k0) F')) → Gd B := fun B z => by
  obtain ⟨F', h1, h2, h3⟩ := z
  rw [h3]
  exact gd_setR g (sR_gd h h6 h1)
theorem mm_len {l : Launch} {A : Ab} {h a b k0 B : Nat} {δ : Nat → Nat → Nat} {acc : Nat → Bool} {Dm : Nat → Prop} {X : pv_M → Prop} (hMa : MMach l A h a b k0 δ acc Dm X) (hB : ∀ c, Dm c → c < B) (h7 : B ≤ 740) : (bf δ k0).length ≤ 740 := Nat.le_trans (nodup_le bf_nodup (fun c hc => hB c (bf_ind hMa.2.1 (fun c q z hq => hMa.2.2.2.2.1 c q z hq) c hc))) h7
theorem len8 {A : Ab} {a : Nat} (hg : gdR (A.1.1 a)) : (bf (d8 A a) 0).length ≤ 6 := by
  have h : (bf (d8 A a) 0).length ≤ rN A a := nodup_le bf_nodup (bf_ind (P := fun c => c < rN A a) hg.1 (fun c q h hq => hg.2.2.1 _ (by show c * 3 + q < (A.1.1 a).1 * 3; have h : c < (A.1.1 a).1 := h; omega)))
  exact Nat.le_trans h hg.2.1
theorem lenP {l : Launch} {A : Ab} {a b : Nat} (ha : a < 3) (ga : gdR (A.1.1 a)) (hb : b < 3) (gb : gdR (A.1.1 b)) : (bf (dP' A a b) 0).length ≤ 740 := mm_len (mm_p l (p := 0) (by decide) ha ga hb gb) (B := 64) (fun c h => h.2.2) (by decide)
theorem len4 {l : Launch} {A : Ab} {a b : Nat} (ha : a < 3) (ga : gdR (A.1.1 a)) (hb : b < 3) (gb : gdR (A.1.1 b)) : (bf (d4' A a b) (catM A a 0 0)).length ≤ 740 := mm_len (mm_4 l ha ga hb gb) (B := 512) (fun c h => by
    have := (pow_le6 (rN A b) gb.2.1).2
    have := h.2
    omega) (by decide)
theorem len5 {l : Launch} {A : Ab} {a : Nat} (ha : a < 3) (ga : gdR (A.1.1 a)) : (bf (fun c q => stM A a c q) 64).length ≤ 740 := mm_len (mm_5 l (b := a) ha ga) (B := 65) (fun c h => by
    have := (pow_le6 (rN A a) ga.2.1).2
    rcases h with h | h <;> omega) (by decide)
