/-! THE CLASS: its state in the reference's words; what a call leaves as it was -/
abbrev cC : Nat → Prop := fun r => r ≤ 74
def KX (S : pv_M) : Prop := KdAt S 35 36 ∨ KdAt S 36 35
def WY (S : pv_M) (c : Nat) : Prop := (mR S c 4 = some (c + 3) ∧ mR S c 5 = some (c + 4)) ∨ (mR S c 4 = some (c + 4) ∧ mR S c 5 = some (c + 3))
def RowC (S : pv_M) (j : Nat) (r : Rw) : Prop := WY S (65 + 5 * j) ∧ ((r.1 j).1 = 0 → mI S (65 + 5 * j) 1 = nI 0) ∧ ((r.1 j).1 = 1 → mI S (65 + 5 * j) 1 = nI (r.1 j).2 ∧ mI S (65 + 5 * j) 0 = bI true ∧ ∀ i, i < (r.1 j).2 → mF S (66 + 5 * j) i = r.2.1 (21 * j + i)) ∧ ((r.1 j).1 = 2 → mI S (65 + 5 * j) 1 = nI (r.1 j).2 ∧ mI S (65 + 5 * j) 0 = bI false ∧ ∀ i, i < (r.1 j).2 → mD S (67 + 5 * j) i = r.2.2 (21 * j + i))
def SvX (S : pv_M) : Prop := (∀ j, j < 3 → ∃ n T F, AutoAt S (55 + 4 * j) (56 + 4 * j) n T F) ∧ ∃ m L, WordAt S 5 6 m L
def SvC (S : pv_M) (c : Cn) : Prop := (∀ j, j < 3 → AutoAt S (55 + 4 * j) (56 + 4 * j) (c.1 j).1 (c.1 j).2.1 (c.1 j).2.2) ∧ WordAt S 5 6 c.2.1 c.2.2
def CSt (S : pv_M) (A : Ab) : Prop := GS S ∧ KX S ∧ WY S 21 ∧ (∀ j, j < 3 → AutoAt S (53 + 4 * j) (54 + 4 * j) (rN A j) (rT A j) (rF A j)) ∧ WordAt S 3 4 (wM A) (wL A) ∧ mI S 0 4 = bI A.2.1.1 ∧ SvX S ∧ (A.2.1.1 = true → SvC S A.2.1.2) ∧ ∀ j, j < 2 → RowC S j A.2.2
/-- cells that hold nothing of the class from one call to the next -/
abbrev fX (P : Nat → Prop) : Prop := ∀ r, P r → (8 ≤ r ∧ r ≤ 52) ∨ 75 ≤ r
theorem WY.keepR {P : Nat → Prop} {S S' : pv_M} {c : Nat} (h : WY S c) (k : FR P S S') (hc : ¬ P c) : WY S' c := by unfold WY at h ⊢; rw [(k c hc).1]; exact h
theorem RowC.keepR {P : Nat → Prop} {S S' : pv_M} {j : Nat} {r : Rw} (h : RowC S j r) (k : FR P S S') (h0 : ¬ P (65 + 5 * j)) (h1 : ¬ P (66 + 5 * j)) (h2 : ¬ P (67 + 5 * j)) : RowC S' j r :=
  ⟨h.1.keepR k h0, fun e => by rw [(k _ h0).2.1]; exact h.2.1 e, fun e => by rw [(k _ h0).2.1, (k _ h1).2.2.2.1]; exact h.2.2.1 e, fun e => by rw [(k _ h0).2.1, (k _ h2).2.2.2.2]; exact h.2.2.2 e⟩
theorem SvX.keepR {P : Nat → Prop} {S S' : pv_M} (h : SvX S) (k : FR P S S') (hj : ∀ j, j < 3 → ¬ P (55 + 4 * j) ∧ ¬ P (56 + 4 * j)) (h5 : ¬ P 5) (h6 : ¬ P 6) : SvX S' :=
  ⟨fun j q => by obtain ⟨n, T, F, z⟩ := h.1 j q; exact ⟨n, T, F, z.keepR k (hj j q).1 (hj j q).2⟩, by obtain ⟨m, L, z⟩ := h.2; exact ⟨m, L, z.keepR k h5 h6⟩⟩
theorem SvC.keepR {P : Nat → Prop} {S S' : pv_M} {c : Cn} (h : SvC S c) (k : FR P S S') (hj : ∀ j, j < 3 → ¬ P (55 + 4 * j) ∧ ¬ P (56 + 4 * j)) (h5 : ¬ P 5) (h6 : ¬ P 6) : SvC S' c :=
  ⟨fun j q => (h.1 j q).keepR k (hj j q).1 (hj j q).2, h.2.keepR k h5 h6⟩
theorem CSt.frP {P : Nat → Prop} {S S' : pv_M} {A : Ab} (h : CSt S A) (k : FR P S S') (hP : fX P) (g : GS S') (kx : KX S') (w : WY S' 21) : CSt S' A := by
  have q : ∀ r, ¬ ((8 ≤ r ∧ r ≤ 52) ∨ 75 ≤ r) → ¬ P r := fun r hr z => hr (hP r z)
  exact ⟨g, kx, w, fun j hj => (h.2.2.2.1 j hj).keepR k (q _ (by omega)) (q _ (by omega)), h.2.2.2.2.1.keepR k (q _ (by omega)) (q _ (by omega)), by rw [(k 0 (q _ (by omega))).2.1]; exact h.2.2.2.2.2.1, h.2.2.2.2.2.2.1.keepR k (fun j hj => ⟨q _ (by omega), q _ (by omega)⟩) (q _ (by omega)) (q _ (by omega)), fun e => (h.2.2.2.2.2.2.2.1 e).keepR k (fun j hj => ⟨q _ (by omega), q _ (by omega)⟩) (q _ (by omega)) (q _ (by omega)), fun j hj => (h.2.2.2.2.2.2.2.2 j hj).keepR k (q _ (by omega)) (q _ (by omega)) (q _ (by omega))⟩
theorem KX.of {S S' : pv_M} (h : KX S) (e : mR S' 29 = mR S 29) : KX S' := by unfold KX KdAt at h ⊢; rw [e]; exact h
theorem WY.of {S S' : pv_M} {c : Nat} (h : WY S c) (e : mR S' c = mR S c) : WY S' c := by unfold WY at h ⊢; rw [e]; exact h
/-- the reference's own work -/
theorem CSt.fn {S S' : pv_M} {A : Ab} (h : CSt S A) (k : FN mC S S') : CSt S' A := h.frP k.fr (fun r z => Or.inr z.1) (h.1.fn k) (h.2.1.of (by rw [k.1])) (h.2.2.1.of (by rw [k.1]))
theorem CSt.setR {P : Nat → Prop} {S S' : pv_M} {A : Ab} {t n F : Nat} {T : Nat → Nat} (h : CSt S A) (ht : t < 3) (k : FR P S S') (hP : ∀ r, P r → ((8 ≤ r ∧ r ≤ 52) ∨ 75 ≤ r) ∨ r = 53 + 4 * t ∨ r = 54 + 4 * t) (g : GS S') (kx : KX S') (w : WY S' 21) (hA : AutoAt S' (53 + 4 * t) (54 + 4 * t) n T F) : CSt S' (setR A t (n, T, F)) := by
  have q : ∀ r, ¬ (((8 ≤ r ∧ r ≤ 52) ∨ 75 ≤ r) ∨ r = 53 + 4 * t ∨ r = 54 + 4 * t) → ¬ P r := fun r hr z => hr (hP r z)
  refine ⟨g, kx, w, fun j hj => ?_, h.2.2.2.2.1.keepR k (q _ (by omega)) (q _ (by omega)), by rw [(k 0 (q _ (by omega))).2.1]; exact h.2.2.2.2.2.1, h.2.2.2.2.2.2.1.keepR k (fun j hj => ⟨q _ (by omega), q _ (by omega)⟩) (q _ (by omega)) (q _ (by omega)), fun e => (h.2.2.2.2.2.2.2.1 e).keepR k (fun j hj => ⟨q _ (by omega), q _ (by omega)⟩) (q _ (by omega)) (q _ (by omega)), fun j hj => (h.2.2.2.2.2.2.2.2 j hj).keepR k (q _ (by omega)) (q _ (by omega)) (q _ (by omega))⟩
  show AutoAt S' (53 + 4 * j) (54 + 4 * j) (va_up A.1.1 t (n, T, F) j).1 (va_up A.1.1 t (n, T, F) j).2.1 (va_up A.1.1 t (n, T, F) j).2.2
  by_cases e : j = t
  · subst e; rw [up_same]; exact hA
  · rw [va_up_ne _ _ e]; exact (h.2.2.2.1 j hj).keepR k (q _ (by omega)) (q _ (by omega))
theorem CSt.setW {P : Nat → Prop} {S S' : pv_M} {A : Ab} {m : Nat} {L : Nat → Nat} (h : CSt S A) (k : FR P S S') (hP : ∀ r, P r → ((8 ≤ r ∧ r ≤ 52) ∨ 75 ≤ r) ∨ r = 3 ∨ r = 4) (g : GS S') (kx : KX S') (w : WY S' 21) (hW : WordAt S' 3 4 m L) : CSt S' (setW A (m, L)) := by
  have q : ∀ r, ¬ (((8 ≤ r ∧ r ≤ 52) ∨ 75 ≤ r) ∨ r = 3 ∨ r = 4) → ¬ P r := fun r hr z => hr (hP r z)
  exact ⟨g, kx, w, fun j hj => (h.2.2.2.1 j hj).keepR k (q _ (by omega)) (q _ (by omega)), hW, by rw [(k 0 (q _ (by omega))).2.1]; exact h.2.2.2.2.2.1, h.2.2.2.2.2.2.1.keepR k (fun j hj => ⟨q _ (by omega), q _ (by omega)⟩) (q _ (by omega)) (q _ (by omega)), fun e => (h.2.2.2.2.2.2.2.1 e).keepR k (fun j hj => ⟨q _ (by omega), q _ (by omega)⟩) (q _ (by omega)) (q _ (by omega)), fun j hj => (h.2.2.2.2.2.2.2.2 j hj).keepR k (q _ (by omega)) (q _ (by omega)) (q _ (by omega))⟩
/-- the minimizer's work -/
theorem GS.frM {S S' : pv_M} (h : GS S) (k : FR kM S S') (m : MRf S') (c : KR S') : GS S' := by
  have key : ∀ e ∈ pv_stl, 26 ≤ e.1 ∧ e.1 ≤ 36 → e ∈ [(26, 1, 27), (26, 2, 28), (29, 0, 26), (29, 2, 30), (29, 3, 31), (29, 4, 32), (29, 5, 33), (29, 6, 34)] := by decide +kernel
  intro e he
  by_cases z : 26 ≤ e.1 ∧ e.1 ≤ 36
  · have := key e he z
    simp only [List.mem_cons, List.not_mem_nil, or_false] at this
    obtain ⟨m0, m2, m3, m4, m5, m6⟩ := m
    rcases this with rfl | rfl | rfl | rfl | rfl | rfl | rfl | rfl
    · exact c.1
    · exact c.2
    · exact m0
    · exact m2
    · exact m3
    · exact m4
    · exact m5
    · exact m6
  · rw [(k e.1 z).1]; exact h e he
theorem GS.mrf {S : pv_M} (h : GS S) : MRf S := ⟨gs_29_0 h, gs_29_2 h, gs_29_3 h, gs_29_4 h, gs_29_5 h, gs_29_6 h⟩
theorem GS.kr {S : pv_M} (h : GS S) : KR S := ⟨gs_26_1 h, gs_26_2 h⟩
theorem KN.kx {S : pv_M} {k : Nat} {kd : Nat → Nat} (h : KN S k kd) : KX S := h.elim (fun z => Or.inl z.1) (fun z => Or.inr z.1)
theorem KN.cong {S : pv_M} {k : Nat} {kd kd' : Nat → Nat} (h : KN S k kd) (e : ∀ j, j < k → kd j = kd' j) : KN S k kd' := h.elim (fun z => Or.inl ⟨z.1, fun j hj => by rw [← e j hj]; exact z.2 j hj⟩) (fun z => Or.inr ⟨z.1, fun j hj => by rw [← e j hj]; exact z.2 j hj⟩)
def MinF (δ : Nat → Nat → Nat) (acc : Nat → Bool) (Dm : Nat → Prop) (S' : pv_M) (R : List Nat) : Prop := Expl δ acc Dm S' R ∧ KN S' R.length (kM_ δ acc R) ∧ mI S' 29 7 = nI (cM δ acc R)
theorem MinF.n {δ : Nat → Nat → Nat} {acc : Nat → Bool} {Dm : Nat → Prop} {S' : pv_M} {R : List Nat} (h : MinF δ acc Dm S' R) : ∀ p, p < 3 * R.length → nxt δ R p < R.length := fun p hp => (h.1.1.2.2.2.2.1 p hp).2
theorem MinF.k0 {δ : Nat → Nat → Nat} {acc : Nat → Bool} {Dm : Nat → Prop} {S' : pv_M} {R : List Nat} (h : MinF δ acc Dm S' R) : 0 < R.length := h.1.1.2.2.1
theorem MinF.k9 {δ : Nat → Nat → Nat} {acc : Nat → Bool} {Dm : Nat → Prop} {S' : pv_M} {R : List Nat} (h : MinF δ acc Dm S' R) : R.length ≤ 384 := h.1.1.2.2.2.1
theorem c_run {l : Launch} {S : pv_M} {m B c0 : Nat} {δ : Nat → Nat → Nat} {acc : Nat → Bool} {Dm : Nat → Prop} {P : pv_M → Prop} (hMa : Mach l m B c0 δ acc Dm P) (hP0 : P S) (hS : GS S) (hK : KX S) : mt l MX5_run 106 [.ref 29, .ref m] S (fun v S' => v = some (.int (nI (cM δ acc (bfsF δ B 0 [c0])))) ∧ MinF δ acc Dm S' (bfsF δ B 0 [c0]) ∧ FR kM S S' ∧ GS S' ∧ KX S') := by
  refine mt_post (c_X5_run l hMa hP0 hS.mrf hK hS.kr) (fun v S' q => ?_)
  obtain ⟨r, hv, hE, hK, hF, hR, h7, hs⟩ := q
  have hn : ∀ p, p < 3 * (bfsF δ B 0 [c0]).length → nxt δ (bfsF δ B 0 [c0]) p < (bfsF δ B 0 [c0]).length := fun p hp => (hE.1.2.2.2.2.1 p hp).2
  have e := own_end hE.1.2.2.1 hE.1.2.2.2.1 hn hs
  exact ⟨by rw [hv, e.2], ⟨hE, hK.cong e.1, by rw [h7, e.2]⟩, hF, hS.frM hF hE.1.1 hR, hK.kx⟩
theorem c_store {l : Launch} {S : pv_M} {a t n F : Nat} {T : Nat → Nat} {δ : Nat → Nat → Nat} {acc : Nat → Bool} {Dm : Nat → Prop} {R : List Nat} (hA : AutoAt S a t n T F) (na : ¬ kM a) (nt : ¬ kM t) (h : MinF δ acc Dm S R) (hc6 : cM δ acc R ≤ 6) : mt l MX5_storeIn 106 [.ref 29, .ref a] S (fun v S' => v = none ∧ FN (two a t) S S' ∧ ∃ F', F' < 64 ∧ sF δ acc R F' ∧ AutoAt S' a t (cM δ acc R) (mnT R.length (nxt δ R) (kM_ δ acc R) (cM δ acc R)) F') := by
  have hf := fun i hi => fo_cls (kd := kM_ δ acc R) (k := R.length) kdF_fo i hi
  refine mt_post (c_X5_storeIn l hA na nt h.1.1 h.2.1 (fun i hi => (hf i (Nat.le_of_lt hi)).2 hi) (fun j hj => ?_) h.2.2 (hf _ (Nat.le_refl _)).1 hc6) (fun v S' q => ?_)
  · exact Nat.lt_of_lt_of_le (kdF_lt hj) (Nat.le_trans cM_le h.k9)
  · obtain ⟨q1, q2, F', q3, q4, q5⟩ := q
    exact ⟨q1, q2, F', q3, q5, q4⟩
/-! the machines -/
theorem mach_reg (l : Launch) {S0 : pv_M} {a t n F : Nat} {T : Nat → Nat} (hA : AutoAt S0 a t n T F) (na : ¬ kM a) (nt : ¬ kM t) (h0 : 0 < n) (h6 : n ≤ 6) (hT : ∀ i, i < n * 3 → T i < n) (hF : F < 64) : Mach l a 6 0 (fun c q => T (c * 3 + q)) (fun c => F.testBit c) (fun c => c < n) (fun S => AutoAt S a t n T F) :=
  ⟨hA.2.1, by decide, h0, fun c h => Nat.lt_of_lt_of_le h h6, fun c q h hq => hT _ (by omega), fun S S' p k => p.keepR k na nt, 1, MX1_codeBound, MX1_startCode, MX1_isAccepting, MX1_follow, hA.1, ⟨⟨Nat.le_of_ble_eq_true rfl, Nat.le_of_ble_eq_true rfl, rfl, rfl⟩, ⟨Nat.le_of_ble_eq_true rfl, Nat.le_of_ble_eq_true rfl, rfl, rfl⟩, ⟨Nat.le_of_ble_eq_true rfl, Nat.le_of_ble_eq_true rfl, rfl, rfl⟩, ⟨Nat.le_of_ble_eq_true rfl, Nat.le_of_ble_eq_true rfl, rfl, rfl⟩⟩, uo_X5_56_X1, uo_X5_62_X1, uo_X5_69_X1, uo_X5_73_X1, fun S p => c_X1_codeBound l, fun S p => c_X1_startCode l, fun S c p h => c_X1_isAccepting l p hF (by omega), fun S c q p h hq => c_X1_follow l p (by omega)⟩
def PPr (op a t n F b u m G : Nat) (T V : Nat → Nat) (S : pv_M) : Prop := mI S 8 0 = nI op ∧ mR S 8 1 = some a ∧ mR S 8 2 = some b ∧ AutoAt S a t n T F ∧ AutoAt S b u m V G
theorem mach_pr (l : Launch) {op a t n F b u m G : Nat} {T V : Nat → Nat} (na : ¬ kM a) (nt : ¬ kM t) (nb : ¬ kM b) (nu : ¬ kM u) (hop : op < 4) (h0 : 0 < n) (h6 : n ≤ 6) (hT : ∀ i, i < n * 3 → T i < n) (hF : F < 64) (m0 : 0 < m) (m6 : m ≤ 6) (hV : ∀ i, i < m * 3 → V i < m) (hG : G < 64) : Mach l 8 36 0 (fun c q => T (c / 6 * 3 + q) * 6 + V (c % 6 * 3 + q)) (fun c => pacc op (F.testBit (c / 6)) (G.testBit (c % 6))) (fun c => c / 6 < n ∧ c % 6 < m) (PPr op a t n F b u m G T V) :=
  ⟨by decide, by decide, ⟨h0, m0⟩, fun c h => by have := h.1; omega, fun c q h hq => by
      have h1 := hT (c / 6 * 3 + q) (by omega)
      have h2 := hV (c % 6 * 3 + q) (by omega)
      show (T (c / 6 * 3 + q) * 6 + V (c % 6 * 3 + q)) / 6 < n ∧ (T (c / 6 * 3 + q) * 6 + V (c % 6 * 3 + q)) % 6 < m
      exact ⟨by omega, by omega⟩, fun S S' p k => ⟨by rw [(k 8 (by decide)).2.1]; exact p.1, by rw [(k 8 (by decide)).1]; exact p.2.1, by rw [(k 8 (by decide)).1]; exact p.2.2.1, p.2.2.2.1.keepR k na nt, p.2.2.2.2.keepR k nb nu⟩, 5, MX6_codeBound, MX6_startCode, MX6_isAccepting, MX6_follow, rfl, ⟨⟨Nat.le_of_ble_eq_true rfl, Nat.le_of_ble_eq_true rfl, rfl, rfl⟩, ⟨Nat.le_of_ble_eq_true rfl, Nat.le_of_ble_eq_true rfl, rfl, rfl⟩, ⟨Nat.le_of_ble_eq_true rfl, Nat.le_of_ble_eq_true rfl, rfl, rfl⟩, ⟨Nat.le_of_ble_eq_true rfl, Nat.le_of_ble_eq_true rfl, rfl, rfl⟩⟩, uo_X5_56_X6, uo_X5_62_X6, uo_X5_69_X6, uo_X5_73_X6, fun S p => c_X6_codeBound l, fun S p => c_X6_startCode l, fun S c p h => c_X6_isAccepting l p.1 p.2.1 p.2.2.1 p.2.2.2.1 p.2.2.2.2 hop (by have := h.1; omega) hF hG, fun S c q p h hq => c_X6_follow l p.1 p.2.1 p.2.2.1 p.2.2.2.1 p.2.2.2.2 hq (by have := h.1; omega)⟩
theorem fw_n {T : Nat → Nat} {n q X : Nat} (h6 : n ≤ 6) (hT : ∀ i, i < n * 3 → T i < n) (hq : q < 3) : un (fwS T n q) X < 2 ^ n := by
  apply Nat.lt_pow_two_of_testBit
  intro i hi
  rw [← Bool.not_eq_true, un_bit]
  rintro ⟨s, h1, h2, h3⟩
  unfold fwS at h3
  by_cases e : s < n
  · rw [if_pos e, Nat.testBit_two_pow, decide_eq_true_eq] at h3
    have := hT (s * 3 + q) (by omega)
    omega
  · rw [if_neg e] at h3; simp at h3
def PCt (a t n F m G : Nat) (T V : Nat → Nat) (S : pv_M) : Prop := mR S 11 0 = some a ∧ AutoAt S a t n T F ∧ mI S 11 1 = nI G ∧ mR S 11 2 = some 14 ∧ SMAt S 14 15 ∧ ∀ q, q < 3 → ∀ Y, Y < 2 ^ m → mI S 15 (q * 64 + Y) = nI (un (fwS V m q) Y)
theorem cE_div {F s X : Nat} (h : X < 64) : cEnter F s X / 64 = s ∧ cEnter F s X % 64 = (if F.testBit s then X ||| 1 else X) := by
  unfold cEnter
  have h1 : (if F.testBit s then X ||| 1 else X) < 64 := by
    by_cases e : F.testBit s = true
    · rw [if_pos e]; exact or64 h (by decide)
    · rw [if_neg e]; exact h
  omega
theorem mach_ct (l : Launch) {a t n F m G : Nat} {T V : Nat → Nat} (na : ¬ kM a) (nt : ¬ kM t) (h0 : 0 < n) (h6 : n ≤ 6) (hT : ∀ i, i < n * 3 → T i < n) (hF : F < 64) (m0 : 0 < m) (m6 : m ≤ 6) (hV : ∀ i, i < m * 3 → V i < m) (hG : G < 64) : Mach l 11 384 (cEnter F 0 0) (fun c q => cEnter F (T (c / 64 * 3 + q)) (un (fwS V m q) (c % 64))) (fun c => decide (¬ (c % 64 &&& G) = 0)) (fun c => c / 64 < n ∧ c % 64 < 2 ^ m) (PCt a t n F m G T V) := by
  have p6 : 2 ^ m ≤ 64 := (pow_le6 m m6).2
  have dm : ∀ s X, s < n → X < 2 ^ m → cEnter F s X / 64 < n ∧ cEnter F s X % 64 < 2 ^ m := fun s X hs hX => by
    have e := cE_div (F := F) (s := s) (X := X) (by omega)
    rw [e.1, e.2]
    refine ⟨hs, ?_⟩
    by_cases z : F.testBit s = true
    · rw [if_pos z]; exact or1_n m0 hX
    · rw [if_neg z]; exact hX
  exact ⟨by decide, by decide, dm 0 0 h0 (Nat.two_pow_pos m), fun c h => by have := h.1; omega, fun c q h hq => dm _ _ (hT _ (by omega)) (fw_n m6 hV hq), fun S S' p k => ⟨by rw [(k 11 (by decide)).1]; exact p.1, p.2.1.keepR k na nt, by rw [(k 11 (by decide)).2.1]; exact p.2.2.1, by rw [(k 11 (by decide)).1]; exact p.2.2.2.1, ⟨p.2.2.2.2.1.1, p.2.2.2.2.1.2.1, p.2.2.2.2.1.2.2.1, p.2.2.2.2.1.2.2.2.1, by rw [(k 14 (by decide)).1]; exact p.2.2.2.2.1.2.2.2.2⟩, fun q hq Y hY => by rw [(k 15 (by decide)).2.1]; exact p.2.2.2.2.2 q hq Y hY⟩, 2, MX2_codeBound, MX2_startCode, MX2_isAccepting, MX2_follow, rfl, ⟨⟨Nat.le_of_ble_eq_true rfl, Nat.le_of_ble_eq_true rfl, rfl, rfl⟩, ⟨Nat.le_of_ble_eq_true rfl, Nat.le_of_ble_eq_true rfl, rfl, rfl⟩, ⟨Nat.le_of_ble_eq_true rfl, Nat.le_of_ble_eq_true rfl, rfl, rfl⟩, ⟨Nat.le_of_ble_eq_true rfl, Nat.le_of_ble_eq_true rfl, rfl, rfl⟩⟩, uo_X5_56_X2, uo_X5_62_X2, uo_X5_69_X2, uo_X5_73_X2, fun S p => c_X2_codeBound l, fun S p => c_X2_startCode l p.1 p.2.1 hF, fun S c p h => c_X2_isAccepting l p.2.2.1 hG (by have := h.1; omega), fun S c q p h hq => c_X2_follow l p.1 p.2.1 hF p.2.2.2.1 p.2.2.2.2.1 hq (by have := h.1; omega) (Nat.lt_of_lt_of_le (hT _ (by omega)) h6) (p.2.2.2.2.2 q hq _ h.2) (Nat.lt_of_lt_of_le (fw_n m6 hV hq) p6)⟩
def PSr (n G : Nat) (T : Nat → Nat) (S : pv_M) : Prop := mI S 16 0 = nI G ∧ mR S 16 1 = some 17 ∧ SMAt S 17 18 ∧ ∀ q, q < 3 → ∀ Y, Y < 2 ^ n → mI S 18 (q * 64 + Y) = nI (un (fwS T n q) Y)
def stC (T : Nat → Nat) (n G c q : Nat) : Nat := if (un (fwS T n q) (if c = 64 then 1 else c) &&& G) = 0 then un (fwS T n q) (if c = 64 then 1 else c) else un (fwS T n q) (if c = 64 then 1 else c) ||| 1
theorem mach_sr (l : Launch) {n G : Nat} {T : Nat → Nat} (h0 : 0 < n) (h6 : n ≤ 6) (hT : ∀ i, i < n * 3 → T i < n) (hG : G < 64) : Mach l 16 65 64 (stC T n G) (fun c => decide (c = 64 ∨ ¬ (c &&& G) = 0)) (fun c => c = 64 ∨ c < 2 ^ n) (PSr n G T) := by
  have p6 : 2 ^ n ≤ 64 := (pow_le6 n h6).2
  have p1 : 1 < 2 ^ n := Nat.one_lt_two_pow (by omega)
  have hc : ∀ c, c = 64 ∨ c < 2 ^ n → (if c = 64 then 1 else c) < 2 ^ n := fun c h => by
    by_cases e : c = 64
    · rw [if_pos e]; exact p1
    · rw [if_neg e]; exact h.resolve_left e
  exact ⟨by decide, by decide, Or.inl rfl, fun c h => by rcases h with h | h <;> omega, fun c q h hq => Or.inr (by
    have := fw_n (X := if c = 64 then 1 else c) h6 hT hq
    unfold stC
    by_cases e : (un (fwS T n q) (if c = 64 then 1 else c) &&& G) = 0
    · rw [if_pos e]; exact this
    · rw [if_neg e]; exact or1_n h0 this), fun S S' p k => ⟨by rw [(k 16 (by decide)).2.1]; exact p.1, by rw [(k 16 (by decide)).1]; exact p.2.1, ⟨p.2.2.1.1, p.2.2.1.2.1, p.2.2.1.2.2.1, p.2.2.1.2.2.2.1, by rw [(k 17 (by decide)).1]; exact p.2.2.1.2.2.2.2⟩, fun q hq Y hY => by rw [(k 18 (by decide)).2.1]; exact p.2.2.2 q hq Y hY⟩, 8, MX9_codeBound, MX9_startCode, MX9_isAccepting, MX9_follow, rfl, ⟨⟨Nat.le_of_ble_eq_true rfl, Nat.le_of_ble_eq_true rfl, rfl, rfl⟩, ⟨Nat.le_of_ble_eq_true rfl, Nat.le_of_ble_eq_true rfl, rfl, rfl⟩, ⟨Nat.le_of_ble_eq_true rfl, Nat.le_of_ble_eq_true rfl, rfl, rfl⟩, ⟨Nat.le_of_ble_eq_true rfl, Nat.le_of_ble_eq_true rfl, rfl, rfl⟩⟩, uo_X5_56_X9, uo_X5_62_X9, uo_X5_69_X9, uo_X5_73_X9, fun S p => c_X9_codeBound l, fun S p => c_X9_startCode l, fun S c p h => c_X9_isAccepting l p.1 hG (by rcases h with h | h <;> omega), fun S c q p h hq => c_X9_follow l p.1 hG p.2.1 p.2.2.1 hq (by rcases h with h | h <;> omega) (p.2.2.2 q hq _ (hc c h)) (Nat.lt_of_lt_of_le (fw_n h6 hT hq) p6)⟩
/-! the same machines in the reference's words -/
theorem un_ld {A : Ab} {a X q : Nat} (hg : gdR (A.1.1 a)) (hX : X < 2 ^ rN A a) : un (fwS (rT A a) (rN A a) q) X = ldM A a X q (rN A a) := by
  apply Nat.eq_of_testBit_eq
  intro i
  rw [Bool.eq_iff_iff, un_bit, orf_bit]
  constructor
  · rintro ⟨s, h1, h2, h3⟩
    unfold fwS at h3
    by_cases e : s < rN A a
    · rw [if_pos e] at h3; exact ⟨s, e, h2, h3⟩
    · rw [if_neg e] at h3; simp at h3
  · rintro ⟨s, h1, h2, h3⟩
    exact ⟨s, Nat.lt_of_lt_of_le h1 hg.2.1, h2, by unfold fwS; rw [if_pos h1]; exact h3⟩
theorem and_fs {A : Ab} {a X : Nat} (hX : X < 2 ^ rN A a) : X &&& fsM A a (rN A a) = X &&& rF A a := by
  apply Nat.eq_of_testBit_eq
  intro i
  rw [Nat.testBit_and, Nat.testBit_and, orf_pow]
  by_cases e : i < rN A a
  · simp [e]
  · rw [Nat.testBit_lt_two_pow (Nat.lt_of_lt_of_le hX (Nat.pow_le_pow_right (by decide) (by omega)))]
    simp
theorem hf_iff {A : Ab} {a X : Nat} : ∀ k, hfM A a X k = true ↔ ∃ s, s < k ∧ X.testBit s = true ∧ (rF A a).testBit s = true
  | 0 => by simp [hfM]
  | k + 1 => by
    rw [hfM, Bool.or_eq_true, hf_iff k, Bool.and_eq_true]
    constructor
    · rintro (⟨s, h1, h2⟩ | h)
      · exact ⟨s, by omega, h2⟩
      · exact ⟨k, by omega, h⟩
    · rintro ⟨s, h1, h2⟩
      by_cases e : s = k
      · subst e; exact Or.inr h2
      · exact Or.inl ⟨s, by omega, h2⟩
theorem hf_and {A : Ab} {a X : Nat} (hX : X < 2 ^ rN A a) : hfM A a X (rN A a) = decide (¬ (X &&& rF A a) = 0) := by
  rw [Bool.eq_iff_iff, hf_iff, decide_eq_true_eq]
  constructor
  · rintro ⟨s, h1, h2, h3⟩ e
    have := congrArg (fun z => Nat.testBit z s) e
    simp [Nat.testBit_and, h2, h3] at this
  · intro h
    apply Classical.byContradiction
    intro hn
    apply h
    apply Nat.eq_of_testBit_eq
    intro i
    rw [Nat.testBit_and, Nat.zero_testBit]
    by_cases e : i < rN A a
    · cases z1 : X.testBit i <;> cases z2 : (rF A a).testBit i <;> first | rfl | exact absurd ⟨i, e, z1, z2⟩ hn
    · rw [Nat.testBit_lt_two_pow (Nat.lt_of_lt_of_le hX (Nat.pow_le_pow_right (by decide) (by omega)))]; rfl
/-- the list of the codes is closed: told by exploring -/
theorem tie_8 {A : Ab} {a : Nat} (hg : gdR (A.1.1 a)) (hcl : ∀ p, p < 3 * (bfsF (fun c q => rT A a (c * 3 + q)) 6 0 [0]).length → (fun c q => rT A a (c * 3 + q)) ((bfsF (fun c q => rT A a (c * 3 + q)) 6 0 [0]).getD (p / 3) 0) (p % 3) ∈ bfsF (fun c q => rT A a (c * 3 + q)) 6 0 [0]) : Tied (fun c q => rT A a (c * 3 + q)) (fun c q => rT A a (c * 3 + q)) (fun c => (rF A a).testBit c) (fun c => (rF A a).testBit c) (bfsF (fun c q => rT A a (c * 3 + q)) 6 0 [0]) (bf (fun c q => rT A a (c * 3 + q)) 0) :=
  tied (f := fun c => c) (Dm := fun c => c < rN A a) (fun _ _ _ _ e => e) hg.1 (fun c h => Nat.lt_of_lt_of_le h hg.2.1) (by decide) (fun c q h hq => hg.2.2.1 _ (by show c * 3 + q < (A.1.1 a).1 * 3; have h : c < (A.1.1 a).1 := h; omega)) (fun _ _ _ _ => rfl) (fun _ _ => rfl) hcl
theorem or8_6 {x y : Nat} (h : x < 6) : (x ||| y * 2 ^ 3) = y * 8 + x := by
  rw [Nat.or_comm, show (8 : Nat) = 2 ^ 3 from rfl, ← Nat.shiftLeft_eq, Nat.shiftLeft_add_eq_or_of_lt (show x < 2 ^ 3 by omega)]
theorem pacc_op {p : Nat} (hp : p < 4) (u v : Bool) : opM p u v = pacc p u v := by
  have : p = 0 ∨ p = 1 ∨ p = 2 ∨ p = 3 := by omega
  rcases this with rfl | rfl | rfl | rfl <;> rfl
abbrev dP (A : Ab) (a b : Nat) (c q : Nat) : Nat := rT A a (c / 6 * 3 + q) * 6 + rT A b (c % 6 * 3 + q)
abbrev dP' (A : Ab) (a b : Nat) (c q : Nat) : Nat := rT A a ((c &&& 7) * 3 + q) ||| rT A b ((c / 2 ^ 3) * 3 + q) * 2 ^ 3
abbrev aP (A : Ab) (p a b : Nat) (c : Nat) : Bool := pacc p ((rF A a).testBit (c / 6)) ((rF A b).testBit (c % 6))
abbrev aP' (A : Ab) (p a b : Nat) (c : Nat) : Bool := opM p ((rF A a).testBit (c &&& 7)) ((rF A b).testBit (c / 2 ^ 3))
theorem tie_p {A : Ab} {p a b : Nat} (hp : p < 4) (hga : gdR (A.1.1 a)) (hgb : gdR (A.1.1 b)) (hcl : ∀ p, p < 3 * (bfsF (dP A a b) 36 0 [0]).length → dP A a b ((bfsF (dP A a b) 36 0 [0]).getD (p / 3) 0) (p % 3) ∈ bfsF (dP A a b) 36 0 [0]) : Tied (dP A a b) (dP' A a b) (aP A p a b) (aP' A p a b) (bfsF (dP A a b) 36 0 [0]) (bf (dP' A a b) 0) := by
  have e : bf (dP' A a b) 0 = bf (dP' A a b) ((fun c => (c / 6) ||| (c % 6) * 2 ^ 3) 0) := rfl
  rw [e]
  have ha6 : rN A a ≤ 6 := hga.2.1
  have hb6 : rN A b ≤ 6 := hgb.2.1
  have fv : ∀ c, c / 6 < rN A a → (c / 6 ||| (c % 6) * 2 ^ 3) &&& 7 = c / 6 ∧ (c / 6 ||| (c % 6) * 2 ^ 3) / 2 ^ 3 = c % 6 := fun c h => or8' (by omega)
  refine tied (f := fun c => (c / 6) ||| (c % 6) * 2 ^ 3) (Dm := fun c => c / 6 < rN A a ∧ c % 6 < rN A b) (fun x y hx hy e => ?_) ⟨hga.1, hgb.1⟩ (fun c h => by have := h.1; omega) (by decide) (fun c q h hq => ?_) (fun c q h hq => ?_) (fun c h => ?_) hcl
  · have e : (x / 6 ||| (x % 6) * 2 ^ 3) = (y / 6 ||| (y % 6) * 2 ^ 3) := e
    have h1 := fv x hx.1
    have h2 := fv y hy.1
    rw [e] at h1
    have := h1.1.symm.trans h2.1
    have := h1.2.symm.trans h2.2
    omega
  · have h1 : rT A a (c / 6 * 3 + q) < rN A a := hga.2.2.1 _ (by have h : c / 6 < (A.1.1 a).1 := h.1; omega)
    have h2 : rT A b (c % 6 * 3 + q) < rN A b := hgb.2.2.1 _ (by have h : c % 6 < (A.1.1 b).1 := h.2; omega)
    show (rT A a (c / 6 * 3 + q) * 6 + rT A b (c % 6 * 3 + q)) / 6 < rN A a ∧ (rT A a (c / 6 * 3 + q) * 6 + rT A b (c % 6 * 3 + q)) % 6 < rN A b
    omega
  · have h1 : rT A a (c / 6 * 3 + q) < rN A a := hga.2.2.1 _ (by have h : c / 6 < (A.1.1 a).1 := h.1; omega)
    have h2 : rT A b (c % 6 * 3 + q) < rN A b := hgb.2.2.1 _ (by have h : c % 6 < (A.1.1 b).1 := h.2; omega)
    show rT A a (((c / 6 ||| (c % 6) * 2 ^ 3) &&& 7) * 3 + q) ||| rT A b ((c / 6 ||| (c % 6) * 2 ^ 3) / 2 ^ 3 * 3 + q) * 2 ^ 3 = (rT A a (c / 6 * 3 + q) * 6 + rT A b (c % 6 * 3 + q)) / 6 ||| (rT A a (c / 6 * 3 + q) * 6 + rT A b (c % 6 * 3 + q)) % 6 * 2 ^ 3
    rw [(fv c h.1).1, (fv c h.1).2, show (rT A a (c / 6 * 3 + q) * 6 + rT A b (c % 6 * 3 + q)) / 6 = rT A a (c / 6 * 3 + q) by omega, show (rT A a (c / 6 * 3 + q) * 6 + rT A b (c % 6 * 3 + q)) % 6 = rT A b (c % 6 * 3 + q) by omega]
  · show opM p ((rF A a).testBit ((c / 6 ||| (c % 6) * 2 ^ 3) &&& 7)) ((rF A b).testBit ((c / 6 ||| (c % 6) * 2 ^ 3) / 2 ^ 3)) = _
    rw [(fv c h.1).1, (fv c h.1).2]
    exact pacc_op hp _ _
abbrev d4 (A : Ab) (a b : Nat) (c q : Nat) : Nat := cEnter (rF A a) (rT A a (c / 64 * 3 + q)) (un (fwS (rT A b) (rN A b) q) (c % 64))
abbrev d4' (A : Ab) (a b : Nat) (c q : Nat) : Nat := catM A a (rT A a ((c &&& 7) * 3 + q)) (ldM A b (c / 2 ^ 3) q (rN A b))
abbrev a4 (A : Ab) (b : Nat) (c : Nat) : Bool := decide (¬ (c % 64 &&& rF A b) = 0)
abbrev a4' (A : Ab) (b : Nat) (c : Nat) : Bool := hfM A b (c / 2 ^ 3) (rN A b)
theorem tie_4 {A : Ab} {a b : Nat} (hga : gdR (A.1.1 a)) (hgb : gdR (A.1.1 b)) (hcl : ∀ p, p < 3 * (bfsF (d4 A a b) 384 0 [cEnter (rF A a) 0 0]).length → d4 A a b ((bfsF (d4 A a b) 384 0 [cEnter (rF A a) 0 0]).getD (p / 3) 0) (p % 3) ∈ bfsF (d4 A a b) 384 0 [cEnter (rF A a) 0 0]) : Tied (d4 A a b) (d4' A a b) (a4 A b) (a4' A b) (bfsF (d4 A a b) 384 0 [cEnter (rF A a) 0 0]) (bf (d4' A a b) (catM A a 0 0)) := by
  have ha6 : rN A a ≤ 6 := hga.2.1
  have hb6 : rN A b ≤ 6 := hgb.2.1
  have p6 : 2 ^ rN A b ≤ 64 := (pow_le6 _ hb6).2
  have fc : ∀ s X, s < 6 → X < 64 → (cEnter (rF A a) s X % 64) * 2 ^ 3 ||| cEnter (rF A a) s X / 64 = catM A a s X := fun s X hs hX => by
    rw [(cE_div hX).1, (cE_div hX).2]; rfl
  have fv : ∀ c, c / 64 < rN A a → ((c % 64) * 2 ^ 3 ||| c / 64) &&& 7 = c / 64 ∧ ((c % 64) * 2 ^ 3 ||| c / 64) / 2 ^ 3 = c % 64 := fun c h => or8 (by omega)
  have dm : ∀ s X, s < rN A a → X < 2 ^ rN A b → cEnter (rF A a) s X / 64 < rN A a ∧ cEnter (rF A a) s X % 64 < 2 ^ rN A b := fun s X hs hX => by
    have e := cE_div (F := rF A a) (s := s) (X := X) (by omega)
    rw [e.1, e.2]
    refine ⟨hs, ?_⟩
    by_cases z : (rF A a).testBit s = true
    · rw [if_pos z]; exact or1_n hgb.1 hX
    · rw [if_neg z]; exact hX
  have e : bf (d4' A a b) (catM A a 0 0) = bf (d4' A a b) ((fun c => (c % 64) * 2 ^ 3 ||| c / 64) (cEnter (rF A a) 0 0)) := by
    show _ = bf (d4' A a b) ((cEnter (rF A a) 0 0 % 64) * 2 ^ 3 ||| cEnter (rF A a) 0 0 / 64)
    rw [fc 0 0 (by decide) (by decide)]
  rw [e]
  refine tied (f := fun c => (c % 64) * 2 ^ 3 ||| c / 64) (Dm := fun c => c / 64 < rN A a ∧ c % 64 < 2 ^ rN A b) (fun x y hx hy e => ?_) (dm 0 0 hga.1 (Nat.two_pow_pos _)) (fun c h => by have := h.1; omega) (by decide) (fun c q h hq => ?_) (fun c q h hq => ?_) (fun c h => ?_) hcl
  · have e : ((x % 64) * 2 ^ 3 ||| x / 64) = ((y % 64) * 2 ^ 3 ||| y / 64) := e
    have h1 := fv x hx.1
    have h2 := fv y hy.1
    rw [e] at h1
    have := h1.1.symm.trans h2.1
    have := h1.2.symm.trans h2.2
    omega
  · exact dm _ _ (hga.2.2.1 _ (by have h : c / 64 < (A.1.1 a).1 := h.1; omega)) (fw_n hb6 hgb.2.2.1 hq)
  · have hs : rT A a (c / 64 * 3 + q) < rN A a := hga.2.2.1 _ (by have h : c / 64 < (A.1.1 a).1 := h.1; omega)
    show catM A a (rT A a (((c % 64 * 2 ^ 3 ||| c / 64) &&& 7) * 3 + q)) (ldM A b ((c % 64 * 2 ^ 3 ||| c / 64) / 2 ^ 3) q (rN A b)) = cEnter (rF A a) (rT A a (c / 64 * 3 + q)) (un (fwS (rT A b) (rN A b) q) (c % 64)) % 64 * 2 ^ 3 ||| cEnter (rF A a) (rT A a (c / 64 * 3 + q)) (un (fwS (rT A b) (rN A b) q) (c % 64)) / 64
    rw [(fv c h.1).1, (fv c h.1).2, fc _ _ (by omega) (Nat.lt_of_lt_of_le (fw_n hb6 hgb.2.2.1 hq) p6), un_ld hgb h.2]
  · show hfM A b ((c % 64 * 2 ^ 3 ||| c / 64) / 2 ^ 3) (rN A b) = _
    rw [(fv c h.1).2]
    exact hf_and h.2
abbrev d5 (A : Ab) (a : Nat) (c q : Nat) : Nat := stC (rT A a) (rN A a) (rF A a) c q
abbrev a5 (A : Ab) (a : Nat) (c : Nat) : Bool := decide (c = 64 ∨ ¬ (c &&& rF A a) = 0)
abbrev a5' (A : Ab) (a : Nat) (c : Nat) : Bool := decide (c = 64) || !decide ((c &&& fsM A a (rN A a)) = 0)
theorem tie_5 {A : Ab} {a : Nat} (hga : gdR (A.1.1 a)) (hcl : ∀ p, p < 3 * (bfsF (d5 A a) 65 0 [64]).length → d5 A a ((bfsF (d5 A a) 65 0 [64]).getD (p / 3) 0) (p % 3) ∈ bfsF (d5 A a) 65 0 [64]) : Tied (d5 A a) (fun c q => stM A a c q) (a5 A a) (a5' A a) (bfsF (d5 A a) 65 0 [64]) (bf (fun c q => stM A a c q) 64) := by
  have ha6 : rN A a ≤ 6 := hga.2.1
  have p6 : 2 ^ rN A a ≤ 64 := (pow_le6 _ ha6).2
  have p1 : 1 < 2 ^ rN A a := Nat.one_lt_two_pow (by have : 0 < rN A a := hga.1; omega)
  have hc : ∀ c, c = 64 ∨ c < 2 ^ rN A a → (if c = 64 then 1 else c) < 2 ^ rN A a := fun c h => by
    by_cases e : c = 64
    · rw [if_pos e]; exact p1
    · rw [if_neg e]; exact h.resolve_left e
  have hst : ∀ c q, c = 64 ∨ c < 2 ^ rN A a → q < 3 → stM A a c q = d5 A a c q := fun c q h hq => by
    have hlt : un (fwS (rT A a) (rN A a) q) (if c = 64 then 1 else c) < 2 ^ rN A a := fw_n ha6 hga.2.2.1 hq
    show stM A a c q = stC (rT A a) (rN A a) (rF A a) c q
    unfold stM stC
    rw [← un_ld hga (hc c h), and_fs hlt]
  refine tied (f := fun c => c) (Dm := fun c => c = 64 ∨ c < 2 ^ rN A a) (fun _ _ _ _ e => e) (Or.inl rfl) (fun c h => by rcases h with h | h <;> omega) (by decide) (fun c q h hq => Or.inr ?_) hst (fun c h => ?_) hcl
  · rw [← hst c q h hq]; exact stM_dm hga hq
  · show (decide (c = 64) || !decide ((c &&& fsM A a (rN A a)) = 0)) = decide (c = 64 ∨ ¬ (c &&& rF A a) = 0)
    rcases h with h | h
    · simp [h]
    · rw [and_fs h]; simp
