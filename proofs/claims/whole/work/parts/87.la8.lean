/-! WHETHER A LANGUAGE IS A UNION OF ATOMS of another one -/
def Con (A : Ab) (a b : Nat) : Prop := ∀ u v, okW u → okW v → sWd A a u = sWd A a v → sWd A b u = sWd A b v
theorem con_iff {A : Ab} {a b : Nat} (hb : gdR (A.1.1 b)) : Con A a b ↔ ∀ u v, okW u → okW v → sWd A a u = sWd A a v → (sWd A b u).testBit 0 = (sWd A b v).testBit 0 := by
  constructor
  · intro h u v hu hv e
    rw [h u v hu hv e]
  · intro h u v hu hv e
    have key : ∀ t, t ∈ Rm A b → ∀ u v, okW u → okW v → sWd A a u = sWd A a v → (sWd A b u).testBit (co A b t) = (sWd A b v).testBit (co A b t) := by
      refine bf_ind2 (δ := d8 A b) (Nat.le_trans (Rm_len hb) (by decide)) (fun u v hu hv e => ?_) (fun t q ht ih hq u v hu hv e => ?_)
      · rw [co_0]; exact h u v hu hv e
      · show Nat.testBit _ (co A b (rT A b (t * 3 + q))) = Nat.testBit _ (co A b (rT A b (t * 3 + q)))
        rw [← sa_co hb ht hq, ← sa_co hb ht hq]
        refine ih (q :: u) (q :: v) (hu.cons hq) (hv.cons hq) ?_
        show sa A a (sWd A a u) q = sa A a (sWd A a v) q
        rw [e]
    refine bits_n (AL_c hb (sWd_mem hb hu)) (AL_c hb (sWd_mem hb hv)) (fun q hq => ?_)
    have := key _ (qS_mem hq) u v hu hv e
    rw [co_qS hq] at this
    exact this
/-! the pairs of the reference -/
def xW (A : Ab) (a : Nat) : List Nat → Nat
  | [] => k6 A a
  | l :: u => d6 A a (xW A a u) l
theorem xW_ok {A : Ab} {a : Nat} (hg : gdR (A.1.1 a)) : ∀ {u : List Nat}, okW u → xW A a u ∈ Rb A a ∧ ofS A a (xW A a u) = sWd A a u
  | [], _ => ⟨bf_0, rfl⟩
  | l :: u, h => by
    obtain ⟨h1, h2⟩ := xW_ok hg h.tl
    refine ⟨Rb_cl hg h1 h.hd, ?_⟩
    show ofS A a (d6 A a (xW A a u) l) = sa A a (sWd A a u) l
    rw [← sa_of hg h1 h.hd, h2]
def pW (A : Ab) (a b : Nat) (u : List Nat) : Nat := xW A a u * 64 + xW A b u
theorem Rb64 {A : Ab} {a X : Nat} (hg : gdR (A.1.1 a)) (h : X ∈ Rb A a) : X < 64 := lt64_n hg (Rb_dm X h)
theorem and63 (y : Nat) : y &&& 63 = y % 64 := Nat.and_two_pow_sub_one_eq_mod y 6
theorem pW_d {A : Ab} {a b : Nat} (ha : gdR (A.1.1 a)) (hb : gdR (A.1.1 b)) {u : List Nat} (hu : okW u) {l : Nat} : dU A a b (pW A a b u) l = pW A a b (l :: u) := by
  have h2 := Rb64 hb (xW_ok hb hu).1
  unfold dU pW
  rw [and63, show (xW A a u * 64 + xW A b u) / 2 ^ 6 = xW A a u by omega, show (xW A a u * 64 + xW A b u) % 64 = xW A b u by omega]
  rfl
theorem RU_all {A : Ab} {a b : Nat} (ha : gdR (A.1.1 a)) (hb : gdR (A.1.1 b)) : (∀ p, p ∈ RU A a b → ∃ u, okW u ∧ p = pW A a b u) ∧ ∀ u, okW u → pW A a b u ∈ RU A a b := by
  have h1 : ∀ p, p ∈ RU A a b → ∃ u, okW u ∧ p = pW A a b u := bfsF_dm (Dm := fun p => ∃ u, okW u ∧ p = pW A a b u) (fun c q h hq => by
    obtain ⟨u, hu, rfl⟩ := h
    exact ⟨q :: u, hu.cons hq, pW_d ha hb hu⟩) 4096 0 [U0 A a b] (fun c hc => by rw [List.mem_singleton.mp hc]; exact ⟨[], fun x hx => absurd hx List.not_mem_nil, rfl⟩)
  refine ⟨h1, ?_⟩
  have hn : (RU A a b).Nodup := bfsF_nodup _ 4096 0 [U0 A a b] (by simp)
  have hl : (RU A a b).length ≤ 4096 := nodup_le hn (fun p hp => by
    obtain ⟨u, hu, rfl⟩ := h1 p hp
    have z1 := Rb64 ha (xW_ok ha hu).1
    have z2 := Rb64 hb (xW_ok hb hu).1
    unfold pW
    omega)
  have hcl := bfsF_cl (δ := dU A a b) 4096 0 [U0 A a b] (by show (RU A a b).length ≤ _; omega) (fun j hj => absurd hj (Nat.not_lt_zero _))
  intro u
  induction u with
  | nil => intro _; exact bfsF_in 4096 0 [U0 A a b] (by simp; rfl)
  | cons l u ih =>
    intro hu
    have hm := ih hu.tl
    have := hcl _ (idx_lt hm) l hu.hd
    have this : dU A a b ((RU A a b).getD ((RU A a b).idxOf (pW A a b u)) 0) l ∈ RU A a b := this
    rw [getD_idx hm, pW_d ha hb hu.tl] at this
    exact this
theorem pW_0 {A : Ab} {a b : Nat} (hb : gdR (A.1.1 b)) {u : List Nat} (hu : okW u) : (pW A a b u).testBit 0 = (sWd A b u).testBit 0 := by
  have h := xW_ok hb hu
  rw [← h.2, of_0 hb h.1]
  unfold pW
  rw [Nat.testBit_zero, Nat.testBit_zero, show (xW A a u * 64 + xW A b u) % 2 = xW A b u % 2 by omega]
theorem tie_iu {A : Ab} {a b : Nat} (ha : gdR (A.1.1 a)) (hb : gdR (A.1.1 b)) : (yU A a b (RU A a b).length &&& zU A a b (RU A a b).length) = 0 ↔ Con A a b := by
  obtain ⟨r1, r2⟩ := RU_all ha hb
  rw [con_iff hb]
  have nu : ∀ u, okW u → nU A a b ((RU A a b).idxOf (pW A a b u)) = (AL A a).idxOf (sWd A a u) := fun u hu => by
    unfold nU
    have h2 := Rb64 hb (xW_ok hb hu).1
    rw [getD_idx (r2 u hu)]
    unfold pW
    rw [show (xW A a u * 64 + xW A b u) / 2 ^ 6 = xW A a u by omega, (xW_ok ha hu).2]
  constructor
  · intro h u v hu hv e
    apply Classical.byContradiction
    intro z
    have main : ∀ u v, okW u → okW v → sWd A a u = sWd A a v → (sWd A b u).testBit 0 = true → (sWd A b v).testBit 0 = false → False := by
      intro u v hu hv e h1 h2
      have b1 : (yU A a b (RU A a b).length).testBit ((AL A a).idxOf (sWd A a u)) = true := by
        unfold yU
        rw [orf_bit]
        refine ⟨_, idx_lt (r2 u hu), by rw [getD_idx (r2 u hu), pW_0 hb hu]; exact h1, ?_⟩
        rw [nu u hu]
        simp
      have b2 : (zU A a b (RU A a b).length).testBit ((AL A a).idxOf (sWd A a u)) = true := by
        unfold zU
        rw [orf_bit]
        refine ⟨_, idx_lt (r2 v hv), by rw [getD_idx (r2 v hv), pW_0 hb hv, h2]; rfl, ?_⟩
        rw [nu v hv, ← e]
        simp
      have b3 := congrArg (fun z => Nat.testBit z ((AL A a).idxOf (sWd A a u))) h
      simp only [Nat.testBit_and, b1, b2, Nat.zero_testBit] at b3
      exact absurd b3 (by decide)
    cases h1 : (sWd A b u).testBit 0 <;> cases h2 : (sWd A b v).testBit 0
    · exact z (by rw [h1, h2])
    · exact main v u hv hu e.symm h2 h1
    · exact main u v hu hv e h1 h2
    · exact z (by rw [h1, h2])
  · intro h
    apply Nat.eq_of_testBit_eq
    intro i
    rw [Nat.testBit_and, Nat.zero_testBit, Bool.and_eq_false_iff]
    cases h1 : (yU A a b (RU A a b).length).testBit i with
    | false => exact Or.inl rfl
    | true =>
      right
      rw [← Bool.not_eq_true]
      intro h2
      unfold yU at h1
      unfold zU at h2
      rw [orf_bit] at h1 h2
      obtain ⟨k, k1, k2, k3⟩ := h1
      obtain ⟨m, m1, m2, m3⟩ := h2
      rw [Nat.testBit_two_pow, decide_eq_true_eq] at k3 m3
      obtain ⟨u, hu, eu⟩ := r1 _ (getD_mem k1)
      obtain ⟨v, hv, ev⟩ := r1 _ (getD_mem m1)
      have hn : (RU A a b).Nodup := bfsF_nodup _ 4096 0 [U0 A a b] (by simp)
      have q1 := idx_getD hn k1
      have q2 := idx_getD hn m1
      rw [eu] at q1 k2
      rw [ev] at q2 m2
      rw [← q1, nu u hu] at k3
      rw [← q2, nu v hv] at m3
      have es : sWd A a u = sWd A a v := by
        have z1 := getD_idx (sWd_mem ha hu)
        have z2 := getD_idx (sWd_mem ha hv)
        rw [k3] at z1
        rw [m3, z1] at z2
        exact z2
      have := h u v hu hv es
      rw [pW_0 hb hu] at k2
      rw [pW_0 hb hv, ← this, k2] at m2
      exact absurd m2 (by decide)
/-! what the class knows of the images -/
def oI (o : Option Nat) : Int32 := match o with | some y => nI y | none => -1
def IMg (A : Ab) (a b : Nat) (g : Nat → Option Nat) : Prop := g (fA A a) = some (fA A b) ∧ ∀ s y, g s = some y → ∃ u, okW u ∧ sWd A a u = s ∧ sWd A b u = y
def IMp (A : Ab) (a b : Nat) (L : List Nat) (g : Nat → Option Nat) (m : Nat) : Prop := ∀ p, p < m → ∀ y, g (L.getD (p / 3) 0) = some y → g (sa A a (L.getD (p / 3) 0) (p % 3)) = some (sa A b y (p % 3))
theorem IMg.lt {A : Ab} {a b : Nat} {g : Nat → Option Nat} (hb : gdR (A.1.1 b)) (h : IMg A a b g) {s y : Nat} (hs : g s = some y) : y < 2 ^ cQ A b ∧ y < 64 := by
  obtain ⟨u, hu, _, rfl⟩ := h.2 s y hs
  exact ⟨AL_c hb (sWd_mem hb hu), AL_lt (sWd_mem hb hu)⟩
/-- the i-th atom's image is known when the atoms ahead of it are done -/
theorem IMg.known {A : Ab} {a b i : Nat} {L : List Nat} {P : Nat} {g : Nat → Option Nat} (ha : gdR (A.1.1 a)) (hP : AtP A a L P) (hO : OrL A a L) (h : IMg A a b g) (k : IMp A a b L g (i * 3)) (hi : i < L.length) (ih : ∀ j, j < i → ∃ y, g (L.getD j 0) = some y) : ∃ y, g (L.getD i 0) = some y := by
  have hm := hP.at hi
  by_cases e : L.getD i 0 = fA A a
  · rw [e]; exact ⟨_, h.1⟩
  · have h0 : 0 < lw_ A a (L.getD i 0) := Nat.pos_of_ne_zero (fun z => e ((lw_0 ha hm).mp z))
    obtain ⟨w1, w2, w3, w4, w5⟩ := mw_cons ha hm h0
    have ht := (hP.2.1 _).mpr w2
    have hj := idx_lt ht
    have hlt : L.idxOf (tlw A a (L.getD i 0)) < i := by
      apply Classical.byContradiction
      intro z
      have hle : eW (mw A a (L.getD i 0)) ≤ eW (mw A a (tlw A a (L.getD i 0))) := by
        rcases Nat.lt_or_ge i (L.idxOf (tlw A a (L.getD i 0))) with w | w
        · have := hO _ _ w hj
          rw [getD_idx ht] at this
          omega
        · have e2 : L.idxOf (tlw A a (L.getD i 0)) = i := by omega
          have e3 := getD_idx ht
          rw [e2] at e3
          rw [← e3]
          exact Nat.le_refl _
      have := eW_len (mw_ok ha hm).1 (mw_ok ha w2).1 hle
      have this : lw_ A a (L.getD i 0) ≤ lw_ A a (tlw A a (L.getD i 0)) := this
      omega
    obtain ⟨y, hy⟩ := ih _ hlt
    rw [getD_idx ht] at hy
    have := k (L.idxOf (tlw A a (L.getD i 0)) * 3 + hdw A a (L.getD i 0)) (by omega) y (by rw [show (L.idxOf (tlw A a (L.getD i 0)) * 3 + hdw A a (L.getD i 0)) / 3 = L.idxOf (tlw A a (L.getD i 0)) by omega, getD_idx ht]; exact hy)
    rw [show (L.idxOf (tlw A a (L.getD i 0)) * 3 + hdw A a (L.getD i 0)) / 3 = L.idxOf (tlw A a (L.getD i 0)) by omega, show (L.idxOf (tlw A a (L.getD i 0)) * 3 + hdw A a (L.getD i 0)) % 3 = hdw A a (L.getD i 0) by omega, getD_idx ht, w4] at this
    exact ⟨_, this⟩
theorem IMg.con {A : Ab} {a b : Nat} {L : List Nat} {P : Nat} {g : Nat → Option Nat} (ha : gdR (A.1.1 a)) (hP : AtP A a L P) (h : IMg A a b g) (k : IMp A a b L g (L.length * 3)) : Con A a b := by
  have key : ∀ u, okW u → g (sWd A a u) = some (sWd A b u) := by
    intro u
    induction u with
    | nil => intro _; exact h.1
    | cons l u ih =>
      intro hu
      have hm := (hP.2.1 _).mpr (sWd_mem ha hu.tl)
      have hl := hu.hd
      have := k (L.idxOf (sWd A a u) * 3 + l) (by have := idx_lt hm; omega) (sWd A b u)
      rw [show (L.idxOf (sWd A a u) * 3 + l) / 3 = L.idxOf (sWd A a u) by omega, show (L.idxOf (sWd A a u) * 3 + l) % 3 = l by omega, getD_idx hm] at this
      exact this (ih hu.tl)
  intro u v hu hv e
  have h1 := key u hu
  rw [e, key v hv] at h1
  injection h1 with h1
  exact h1.symm
theorem IMg.put {A : Ab} {a b s l y : Nat} {g : Nat → Option Nat} (h : IMg A a b g) (hl : l < 3) (hs : g s = some y) (hn : g (sa A a s l) = none) : IMg A a b (va_up g (sa A a s l) (some (sa A b y l))) := by
  refine ⟨?_, fun s2 y2 e => ?_⟩
  · rw [va_up_ne _ _ (fun z => by rw [← z, h.1] at hn; cases hn)]; exact h.1
  · by_cases z : s2 = sa A a s l
    · rw [z, up_same] at e
      injection e with e
      obtain ⟨u, hu, e1, e2⟩ := h.2 s y hs
      exact ⟨l :: u, hu.cons hl, by rw [z]; show sa A a (sWd A a u) l = _; rw [e1], by rw [← e]; show sa A b (sWd A b u) l = _; rw [e2]⟩
    · rw [va_up_ne _ _ z] at e
      exact h.2 s2 y2 e
theorem oI_some {y : Nat} (h : y < 64) : ¬ nI y = -1 := nI_nm1 (by omega)

set_option maxRecDepth 100000 in
theorem l0_dt {x : Cx} (hR : xR x = MX0_determine.rm) (hmL : (xc x).maxLocals = MX0_determine.nL) (C : BX x cX0_determine RX0) {S0 : pv_M} (hS0 : GS S0) (kk : ∀ S : pv_M, FN (fun r => r = 52) S0 S → (∀ s, s < 64 → mI S 52 s = -1) → GG x 106 0 0 [.ref 37, .ref 19, .int (nI (64)), unk, unk, unk] [] (S) 29) : ∀ z i (S : pv_M), i + z = 64 → FN (fun r => r = 52) S0 S → (∀ s, s < i → mI S 52 s = -1) → GG x 106 0 0 [.ref 37, .ref 19, .int (nI (i)), unk, unk, unk] [] (S) 10 := by
  intro z
  induction z with
  | zero =>
    intro i S hz hf hv
    obtain rfl : 64 = i := by omega
    have hS := hS0.fn hf
    refine g_iload_n C dX0_determine_10 rfl ?_
    refine n_bipush C 64 dX0_determine_11 ?_
    refine n_ic_ge C 29 dX0_determine_13 (fun h13 => ?_) (fun h13 => absurd h13 (by omega))
    exact kk S hf hv
  | succ z ih =>
    intro i S hz hf hv
    have hS := hS0.fn hf
    refine g_iload_n C dX0_determine_10 rfl ?_
    refine n_bipush C 64 dX0_determine_11 ?_
    refine n_ic_ge C 29 dX0_determine_13 (fun h13 => absurd h13 (by omega)) (fun h13 => ?_)
    refine g_aload_n C dX0_determine_16 rfl ?_
    refine g_getR C fo_X0_59 dX0_determine_17 rfl (by decide) (fun _ => rfl) (gs_37_13 hS) ?_
    refine g_iload_n C dX0_determine_20 rfl ?_
    refine g_iconst C (-1) dX0_determine_21 (by decide) ?_
    refine g_iast C dX0_determine_22 rfl (by decide) (by omega) rfl ?_
    refine n_iinc C (by rw [hmL]; decide) dX0_determine_23 rfl (n_i1 _) [.ref 37, .ref 19, .int (nI (i + 1)), unk, unk, unk] ?_
    refine g_goto C 10 dX0_determine_26 (by decide) ?_
    refine ih (i + 1) _ (by omega) (hf.tr (FN.wI rfl)) (fun s hs => ?_)
    rw [mI_wI]
    by_cases e : s = i
    · rw [e, up_same]
    · rw [va_up_ne _ _ e]; exact hv s (by omega)

set_option maxRecDepth 100000 in
theorem lq_dt {x : Cx} (hR : xR x = MX0_determine.rm) (hmL : (xc x).maxLocals = MX0_determine.nL) (C : BX x cX0_determine RX0) {S0 : pv_M} {A : Ab} {a b : Nat} {L : List Nat} {P : Nat} (ha : gdR (A.1.1 a)) (hb : gdR (A.1.1 b)) (hC0 : AtC A a L P S0) (hP : AtP A a L P) (hO : OrL A a L) (hB0 : ∀ l, l < 3 → ∀ Y, Y < 2 ^ cQ A b → mI S0 45 (l * 64 + Y) = nI (sa A b Y l)) {i : Nat} (hi : i < L.length) (kkF : ∀ S q nx im, FN (fun r => r = 52) S0 S → ¬ Con A a b → GG x 106 0 0 [.ref 37, .ref 19, .int (nI (i)), .int (nI (q)), .int (nI (nx)), .int (nI (im))] [] (S) 128) (kk : ∀ S g, FN (fun r => r = 52) S0 S → (∀ s, s < 64 → mI S 52 s = oI (g s)) → IMg A a b g → IMp A a b L g (i * 3 + 3) → (∃ y, g (L.getD i 0) = some y) → (∀ j, j < i → ∃ y, g (L.getD j 0) = some y) → GG x 106 0 0 [.ref 37, .ref 19, .int (nI (i)), .int (nI (3)), unk, unk] [] (S) 136) : ∀ z q S g, q + z = 3 → FN (fun r => r = 52) S0 S → (∀ s, s < 64 → mI S 52 s = oI (g s)) → IMg A a b g → IMp A a b L g (i * 3 + q) → (∃ y, g (L.getD i 0) = some y) → (∀ j, j < i → ∃ y, g (L.getD j 0) = some y) → GG x 106 0 0 [.ref 37, .ref 19, .int (nI (i)), .int (nI (q)), unk, unk] [] (S) 54 := by
  have hsm := hP.at hi
  have hl64 := hP.len
  intro z
  induction z with
  | zero =>
    intro q S g hz hf hv hg hk hy hj
    obtain rfl : q = 3 := by omega
    refine g_iload_n C dX0_determine_54 rfl ?_
    refine n_iconst C 3 dX0_determine_55 ?_
    refine n_ic_ge C 136 dX0_determine_56 (fun h56 => ?_) (fun h56 => absurd h56 (by omega))
    exact kk S g hf hv hg hk hy hj
  | succ z ih =>
    intro q S g hz hf hv hg hk hy hj
    have hS := hC0.1.fn hf
    have hC : AtC A a L P S := hC0.keepR hf.fr hS (by decide)
    obtain ⟨y, hyy⟩ := hy
    obtain ⟨yl, y64⟩ := hg.lt hb hyy
    have hq : q < 3 := by omega
    have hnx := AL_lt (AL_sa ha hsm hq)
    have hs64 := AL_lt hsm
    have hvs : mI S 52 (L.getD i 0) = nI y := by rw [hv _ hs64, hyy]; rfl
    have hB : mI S 45 (q * 64 + y) = nI (sa A b y q) := by rw [(hf.2 45 (by decide)).1]; exact hB0 q hq y yl
    have hvn := hv _ hnx
    have hib := sa_lt hb (X := y) (l := q)
    cases hgn : g (sa A a (L.getD i 0) q) with
    | none =>
      replace hvn : mI S 52 (sa A a (L.getD i 0) q) = -1 := by rw [hvn, hgn]; rfl
      refine g_iload_n C dX0_determine_54 rfl ?_
      refine n_iconst C 3 dX0_determine_55 ?_
      refine n_ic_ge C 136 dX0_determine_56 (fun h56 => absurd h56 (by omega)) (fun h56 => ?_)
      refine g_aload_n C dX0_determine_59 rfl ?_
      refine g_aload_n C dX0_determine_60 rfl ?_
      refine g_getR C fo_X0_35 dX0_determine_61 rfl (by decide) (fun _ => rfl) (gs_37_6 hS) ?_
      refine g_iload_n C dX0_determine_64 rfl ?_
      refine n_iald C dX0_determine_65 rfl (by decide) (hC.2.2.2.2.1 i (by omega)) ?_ (by omega)
      refine g_iload_n C dX0_determine_66 rfl ?_
      refine g_callV C (As := [.int (nI (L.getD i 0)), .int (nI (q))]) (k_fol _ ha hC hsm hq) vo_X0_85 dX0_determine_67 rfl rfl (by decide) rfl (rm_ok (M' := MX0_determine) hR (by decide)) (Nat.le_of_ble_eq_true rfl) (fun v9 S5 h9 => ?_)
      obtain ⟨rfl, h9⟩ := h9
      refine g_S S h9 ?_
      refine g_n0 [.int (nI (sa A a (L.getD i 0) q))] rfl rfl rfl ?_
      refine g_istore C (by rw [hmL]; decide) dX0_determine_70 [.ref 37, .ref 19, .int (nI (i)), .int (nI (q)), .int (nI (sa A a (L.getD i 0) q)), unk] rfl ?_
      refine g_aload_n C dX0_determine_72 rfl ?_
      refine g_getR C fo_X0_28 dX0_determine_73 rfl (by decide) (fun _ => rfl) (gs_37_4 hS) ?_
      refine g_iload_n C dX0_determine_76 rfl ?_
      refine g_aload_n C dX0_determine_77 rfl ?_
      refine g_getR C fo_X0_59 dX0_determine_78 rfl (by decide) (fun _ => rfl) (gs_37_13 hS) ?_
      refine g_aload_n C dX0_determine_81 rfl ?_
      refine g_getR C fo_X0_35 dX0_determine_82 rfl (by decide) (fun _ => rfl) (gs_37_6 hS) ?_
      refine g_iload_n C dX0_determine_85 rfl ?_
      refine n_iald C dX0_determine_86 rfl (by decide) (hC.2.2.2.2.1 i (by omega)) ?_ (by omega)
      refine n_iald C dX0_determine_87 rfl (by decide) hvs ?_ (by omega)
      refine g_callV C (As := [.int (nI (q)), .int (nI (y))]) (c_X8_of _ ⟨rfl, by decide, rfl, by decide, gs_44_0 hS⟩ hq y64 hB) vo_X0_69 dX0_determine_88 rfl rfl (by decide) rfl (rm_ok (M' := MX0_determine) hR (by decide)) (Nat.le_of_ble_eq_true rfl) (fun v9 S5 h9 => ?_)
      obtain ⟨rfl, h9⟩ := h9
      refine g_S S h9 ?_
      refine g_n0 [.int (nI (sa A b y q))] rfl rfl rfl ?_
      refine g_istore C (by rw [hmL]; decide) dX0_determine_91 [.ref 37, .ref 19, .int (nI (i)), .int (nI (q)), .int (nI (sa A a (L.getD i 0) q)), .int (nI (sa A b y q))] rfl ?_
      refine g_aload_n C dX0_determine_93 rfl ?_
      refine g_getR C fo_X0_59 dX0_determine_94 rfl (by decide) (fun _ => rfl) (gs_37_13 hS) ?_
      refine g_iload C dX0_determine_97 rfl ?_
      refine n_iald C dX0_determine_99 rfl (by decide) hvn ?_ (by omega)
      refine g_iconst C (-1) dX0_determine_100 (by decide) ?_
      refine g_ic_ne C 116 dX0_determine_101 (by decide) (fun h101 => absurd rfl h101) (fun h101 => ?_)
      refine g_aload_n C dX0_determine_104 rfl ?_
      refine g_getR C fo_X0_59 dX0_determine_105 rfl (by decide) (fun _ => rfl) (gs_37_13 hS) ?_
      refine g_iload C dX0_determine_108 rfl ?_
      refine g_iload C dX0_determine_110 rfl ?_
      refine g_iast C dX0_determine_112 rfl (by decide) (by omega) rfl ?_
      refine g_goto C 130 dX0_determine_113 (by decide) ?_
      refine n_iinc C (by rw [hmL]; decide) dX0_determine_130 rfl (n_i1 _) [.ref 37, .ref 19, .int (nI (i)), .int (nI (q + 1)), .int (nI (sa A a (L.getD i 0) q)), .int (nI (sa A b y q))] ?_
      refine g_goto C 54 dX0_determine_133 (by decide) ?_
      refine g_frg [.ref 37, .ref 19, .int (nI (i)), .int (nI (q + 1)), unk, unk] ⟨Or.inr rfl, Or.inr rfl, Or.inr rfl, Or.inr rfl, Or.inl rfl, Or.inl rfl, trivial⟩ ?_
      have hk2 : IMp A a b L (va_up g (sa A a (L.getD i 0) q) (some (sa A b y q))) (i * 3 + (q + 1)) := by
        intro p hp y3 e3
        by_cases e4 : L.getD (p / 3) 0 = sa A a (L.getD i 0) q
        · by_cases e5 : p = i * 3 + q
          · rw [e5, show (i * 3 + q) / 3 = i by omega, show (i * 3 + q) % 3 = q by omega, up_same]
            rw [e5, show (i * 3 + q) / 3 = i by omega] at e4
            rw [← e4, hyy] at hgn
            cases hgn
          · obtain ⟨y4, hy4⟩ : ∃ y, g (L.getD (p / 3) 0) = some y := by
              by_cases e6 : p / 3 = i
              · rw [e6]; exact ⟨y, hyy⟩
              · exact hj _ (by omega)
            rw [e4, hgn] at hy4
            cases hy4
        · rw [va_up_ne _ _ e4] at e3
          by_cases e5 : p = i * 3 + q
          · rw [e5, show (i * 3 + q) / 3 = i by omega] at e3
            rw [e5, show (i * 3 + q) / 3 = i by omega, show (i * 3 + q) % 3 = q by omega, up_same]
            rw [hyy] at e3
            injection e3 with e3
            rw [e3]
          · have h5 := hk p (by omega) y3 e3
            by_cases e6 : sa A a (L.getD (p / 3) 0) (p % 3) = sa A a (L.getD i 0) q
            · rw [e6, hgn] at h5
              cases h5
            · rw [va_up_ne _ _ e6]; exact h5
      refine ih (q + 1) _ _ (by omega) (hf.tr (FN.wI rfl)) (fun s hs => ?_) (hg.put hq hyy hgn) hk2 ⟨y, ?_⟩ (fun j hj1 => ?_)
      · rw [mI_wI]
        by_cases e : s = sa A a (L.getD i 0) q
        · rw [e, up_same, up_same]; rfl
        · rw [va_up_ne _ _ e, va_up_ne _ _ e]; exact hv s hs
      · rw [va_up_ne _ _ (fun e => by rw [e, hgn] at hyy; cases hyy)]; exact hyy
      · obtain ⟨y5, hy5⟩ := hj j hj1
        exact ⟨y5, by rw [va_up_ne _ _ (fun e => by rw [e, hgn] at hy5; cases hy5)]; exact hy5⟩
    | some y2 =>
      replace hvn : mI S 52 (sa A a (L.getD i 0) q) = nI y2 := by rw [hvn, hgn]; rfl
      have y264 := (hg.lt hb hgn).2
      refine g_iload_n C dX0_determine_54 rfl ?_
      refine n_iconst C 3 dX0_determine_55 ?_
      refine n_ic_ge C 136 dX0_determine_56 (fun h56 => absurd h56 (by omega)) (fun h56 => ?_)
      refine g_aload_n C dX0_determine_59 rfl ?_
      refine g_aload_n C dX0_determine_60 rfl ?_
      refine g_getR C fo_X0_35 dX0_determine_61 rfl (by decide) (fun _ => rfl) (gs_37_6 hS) ?_
      refine g_iload_n C dX0_determine_64 rfl ?_
      refine n_iald C dX0_determine_65 rfl (by decide) (hC.2.2.2.2.1 i (by omega)) ?_ (by omega)
      refine g_iload_n C dX0_determine_66 rfl ?_
      refine g_callV C (As := [.int (nI (L.getD i 0)), .int (nI (q))]) (k_fol _ ha hC hsm hq) vo_X0_85 dX0_determine_67 rfl rfl (by decide) rfl (rm_ok (M' := MX0_determine) hR (by decide)) (Nat.le_of_ble_eq_true rfl) (fun v9 S5 h9 => ?_)
      obtain ⟨rfl, h9⟩ := h9
      refine g_S S h9 ?_
      refine g_n0 [.int (nI (sa A a (L.getD i 0) q))] rfl rfl rfl ?_
      refine g_istore C (by rw [hmL]; decide) dX0_determine_70 [.ref 37, .ref 19, .int (nI (i)), .int (nI (q)), .int (nI (sa A a (L.getD i 0) q)), unk] rfl ?_
      refine g_aload_n C dX0_determine_72 rfl ?_
      refine g_getR C fo_X0_28 dX0_determine_73 rfl (by decide) (fun _ => rfl) (gs_37_4 hS) ?_
      refine g_iload_n C dX0_determine_76 rfl ?_
      refine g_aload_n C dX0_determine_77 rfl ?_
      refine g_getR C fo_X0_59 dX0_determine_78 rfl (by decide) (fun _ => rfl) (gs_37_13 hS) ?_
      refine g_aload_n C dX0_determine_81 rfl ?_
      refine g_getR C fo_X0_35 dX0_determine_82 rfl (by decide) (fun _ => rfl) (gs_37_6 hS) ?_
      refine g_iload_n C dX0_determine_85 rfl ?_
      refine n_iald C dX0_determine_86 rfl (by decide) (hC.2.2.2.2.1 i (by omega)) ?_ (by omega)
      refine n_iald C dX0_determine_87 rfl (by decide) hvs ?_ (by omega)
      refine g_callV C (As := [.int (nI (q)), .int (nI (y))]) (c_X8_of _ ⟨rfl, by decide, rfl, by decide, gs_44_0 hS⟩ hq y64 hB) vo_X0_69 dX0_determine_88 rfl rfl (by decide) rfl (rm_ok (M' := MX0_determine) hR (by decide)) (Nat.le_of_ble_eq_true rfl) (fun v9 S5 h9 => ?_)
      obtain ⟨rfl, h9⟩ := h9
      refine g_S S h9 ?_
      refine g_n0 [.int (nI (sa A b y q))] rfl rfl rfl ?_
      refine g_istore C (by rw [hmL]; decide) dX0_determine_91 [.ref 37, .ref 19, .int (nI (i)), .int (nI (q)), .int (nI (sa A a (L.getD i 0) q)), .int (nI (sa A b y q))] rfl ?_
      refine g_aload_n C dX0_determine_93 rfl ?_
      refine g_getR C fo_X0_59 dX0_determine_94 rfl (by decide) (fun _ => rfl) (gs_37_13 hS) ?_
      refine g_iload C dX0_determine_97 rfl ?_
      refine n_iald C dX0_determine_99 rfl (by decide) hvn ?_ (by omega)
      refine g_iconst C (-1) dX0_determine_100 (by decide) ?_
      refine g_ic_ne C 116 dX0_determine_101 (by decide) (fun h101 => ?_) (fun h101 => absurd h101 (oI_some y264))
      refine g_aload_n C dX0_determine_116 rfl ?_
      refine g_getR C fo_X0_59 dX0_determine_117 rfl (by decide) (fun _ => rfl) (gs_37_13 hS) ?_
      refine g_iload C dX0_determine_120 rfl ?_
      refine n_iald C dX0_determine_122 rfl (by decide) hvn ?_ (by omega)
      refine g_iload C dX0_determine_123 rfl ?_
      refine n_ic_eq C 130 dX0_determine_125 (fun h125 => ?_) (fun h125 => ?_)
      · refine n_iinc C (by rw [hmL]; decide) dX0_determine_130 rfl (n_i1 _) [.ref 37, .ref 19, .int (nI (i)), .int (nI (q + 1)), .int (nI (sa A a (L.getD i 0) q)), .int (nI (sa A b y q))] ?_
        refine g_goto C 54 dX0_determine_133 (by decide) ?_
        refine g_frg [.ref 37, .ref 19, .int (nI (i)), .int (nI (q + 1)), unk, unk] ⟨Or.inr rfl, Or.inr rfl, Or.inr rfl, Or.inr rfl, Or.inl rfl, Or.inl rfl, trivial⟩ ?_
        refine ih (q + 1) S g (by omega) hf hv hg (fun p hp y3 e3 => ?_) ⟨y, hyy⟩ hj
        by_cases e5 : p = i * 3 + q
        · rw [e5, show (i * 3 + q) / 3 = i by omega] at e3
          rw [e5, show (i * 3 + q) / 3 = i by omega, show (i * 3 + q) % 3 = q by omega, hgn]
          rw [hyy] at e3
          injection e3 with e3
          rw [← e3, h125]
        · exact hk p (by omega) y3 e3
      · refine kkF S q _ _ hf (fun hcon => ?_)
        obtain ⟨u, hu, e1, e2⟩ := hg.2 _ _ hyy
        obtain ⟨v, hv9, e3, e4⟩ := hg.2 _ _ hgn
        refine h125 ?_
        rw [← e4, hcon v (q :: u) hv9 (hu.cons hq) (by rw [e3]; show _ = sa A a (sWd A a u) q; rw [e1])]
        show sa A b (sWd A b u) q = _
        rw [e2]

set_option maxRecDepth 100000 in
theorem lo_dt {x : Cx} (hR : xR x = MX0_determine.rm) (hmL : (xc x).maxLocals = MX0_determine.nL) (C : BX x cX0_determine RX0) {S0 : pv_M} {A : Ab} {a b : Nat} {L : List Nat} {P : Nat} (ha : gdR (A.1.1 a)) (hb : gdR (A.1.1 b)) (hC0 : AtC A a L P S0) (hP : AtP A a L P) (hO : OrL A a L) (hB0 : ∀ l, l < 3 → ∀ Y, Y < 2 ^ cQ A b → mI S0 45 (l * 64 + Y) = nI (sa A b Y l)) (kkF : ∀ S i q nx im, FN (fun r => r = 52) S0 S → ¬ Con A a b → GG x 106 0 0 [.ref 37, .ref 19, .int (nI (i)), .int (nI (q)), .int (nI (nx)), .int (nI (im))] [] (S) 128) (kk : ∀ S, FN (fun r => r = 52) S0 S → Con A a b → GG x 106 0 0 [.ref 37, .ref 19, .int (nI (L.length)), unk, unk, unk] [] (S) 142) : ∀ z i S g, i + z = L.length → FN (fun r => r = 52) S0 S → (∀ s, s < 64 → mI S 52 s = oI (g s)) → IMg A a b g → IMp A a b L g (i * 3) → (∀ j, j < i → ∃ y, g (L.getD j 0) = some y) → GG x 106 0 0 [.ref 37, .ref 19, .int (nI (i)), unk, unk, unk] [] (S) 44 := by
  have h64 := hP.len
  intro z
  induction z with
  | zero =>
    intro i S g hz hf hv hg hk hj
    obtain rfl : L.length = i := by omega
    have hS := hC0.1.fn hf
    have hC : AtC A a L P S := hC0.keepR hf.fr hS (by decide)
    refine g_iload_n C dX0_determine_44 rfl ?_
    refine g_aload_n C dX0_determine_45 rfl ?_
    refine g_getI C fo_X0_31 dX0_determine_46 rfl (by decide) (fun _ => rfl) hC.2.2.2.1 ?_
    refine n_ic_ge C 142 dX0_determine_49 (fun h49 => ?_) (fun h49 => absurd h49 (by omega))
    exact kk S hf (hg.con ha hP hk)
  | succ z ih =>
    intro i S g hz hf hv hg hk hj
    have hS := hC0.1.fn hf
    have hC : AtC A a L P S := hC0.keepR hf.fr hS (by decide)
    refine g_iload_n C dX0_determine_44 rfl ?_
    refine g_aload_n C dX0_determine_45 rfl ?_
    refine g_getI C fo_X0_31 dX0_determine_46 rfl (by decide) (fun _ => rfl) hC.2.2.2.1 ?_
    refine n_ic_ge C 142 dX0_determine_49 (fun h49 => absurd h49 (by omega)) (fun h49 => ?_)
    refine n_iconst C 0 dX0_determine_52 ?_
    refine g_istore_n C (by rw [hmL]; decide) dX0_determine_53 [.ref 37, .ref 19, .int (nI (i)), .int (nI (0)), unk, unk] rfl ?_
    refine lq_dt hR hmL C ha hb hC0 hP hO hB0 (show i < L.length by omega) (fun S q nx im => kkF S i q nx im) (fun S2 g2 f2 v2 G2 k2 y2 j2 => ?_) 3 0 S g rfl hf hv hg hk (hg.known ha hP hO hk (by omega) hj) hj
    refine n_iinc C (by rw [hmL]; decide) dX0_determine_136 rfl (n_i1 _) [.ref 37, .ref 19, .int (nI (i + 1)), .int (nI (3)), unk, unk] ?_
    refine g_goto C 44 dX0_determine_139 (by decide) ?_
    refine g_frg [.ref 37, .ref 19, .int (nI (i + 1)), unk, unk, unk] ⟨Or.inr rfl, Or.inr rfl, Or.inr rfl, Or.inl rfl, Or.inl rfl, Or.inl rfl, trivial⟩ ?_
    exact ih (i + 1) S2 g2 (by omega) f2 v2 G2 (by rw [show (i + 1) * 3 = i * 3 + 3 by omega]; exact k2) (fun j hj1 => by
      rcases (show j < i ∨ j = i by omega) with z1 | z1
      · exact j2 j z1
      · rw [z1]; exact y2)
    

abbrev dtP : Nat → Prop := fun r => r = 45 ∨ r = 52

set_option maxRecDepth 100000 in
theorem k_determine (l : Launch) {S : pv_M} {A : Ab} {a : Nat} {L : List Nat} {P : Nat} (ha : gdR (A.1.1 a)) (hC : AtC A a L P S) (hP : AtP A a L P) {b : Nat} (hb : gdR (A.1.1 b)) (hO : OrL A a L) (hA : AutoAt S 19 20 (cQ A b) (tQ A b) (fA A b)) : mt l MX0_determine 106 [.ref 37, .ref 19] S (fun v S' => ∃ c : Bool, v = some (.int (bI c)) ∧ (c = true ↔ Con A a b) ∧ FN dtP S S') := by
  refine mt_of (by decide) (Nat.le_of_ble_eq_true rfl) ?_
  intro x hl hR hmL C E
  show GG x 106 0 0 [.ref 37, .ref 19, unk, unk, unk, unk] [] S 0
  refine g_aload_n C dX0_determine_0 rfl ?_
  refine g_getR C fo_X0_28 dX0_determine_1 rfl (by decide) (fun _ => rfl) (gs_37_4 hC.1) ?_
  refine g_aload_n C dX0_determine_4 rfl ?_
  refine g_callV C (As := [.ref 19]) (c_X8_fillBackward _ (p := 44) (v := 45) ⟨rfl, by decide, rfl, by decide, gs_44_0 hC.1⟩ hA (cQ_le hb) (tQ_lt hb)) vo_X0_73 dX0_determine_5 rfl rfl (by decide) rfl (rm_ok (M' := MX0_determine) hR (by decide)) (Nat.le_of_ble_eq_true rfl) (fun v9 S1 h9 => ?_)
  obtain ⟨rfl, b1, b2, b3⟩ := h9
  have hS1 := hC.1.fn b2
  have hC1 : AtC A a L P S1 := hC.keepR b2.fr hS1 (by decide)
  have hA1 : AutoAt S1 19 20 (cQ A b) (tQ A b) (fA A b) := hA.keep b2 (by decide) (by decide)
  have hB1 : ∀ l, l < 3 → ∀ Y, Y < 2 ^ cQ A b → mI S1 45 (l * 64 + Y) = nI (sa A b Y l) := fun l hl X hX => (b3 l hl X hX).trans (by rw [bk_sa hb hl])
  replace b2 : FN dtP S S1 := b2.mono (fun r z => Or.inl z)
  refine g_n0 [] rfl rfl rfl ?_
  refine n_iconst C 0 dX0_determine_8 ?_
  refine g_istore_n C (by rw [hmL]; decide) dX0_determine_9 [.ref 37, .ref 19, .int (nI (0)), unk, unk, unk] rfl ?_
  refine l0_dt hR hmL C hS1 (fun S2 f2 v2 => ?_) 64 0 S1 rfl FN.rf (fun s hs => absurd hs (Nat.not_lt_zero _))
  have hS2 := hS1.fn f2
  have hC2 : AtC A a L P S2 := hC1.keepR f2.fr hS2 (by decide)
  have hA2 : AutoAt S2 19 20 (cQ A b) (tQ A b) (fA A b) := hA1.keep f2 (by decide) (by decide)
  have hfa := AL_lt (AL_fA ha)
  refine g_aload_n C dX0_determine_29 rfl ?_
  refine g_getR C fo_X0_59 dX0_determine_30 rfl (by decide) (fun _ => rfl) (gs_37_13 hS2) ?_
  refine g_aload_n C dX0_determine_33 rfl ?_
  refine g_callV C (As := []) (c_X0_startCode _ (gs_37_0 hS2) hC2.2.1) vo_X0_77 dX0_determine_34 rfl rfl (by decide) rfl (rm_ok (M' := MX0_determine) hR (by decide)) (Nat.le_of_ble_eq_true rfl) (fun v9 S5 h9 => ?_)
  obtain ⟨rfl, h9⟩ := h9
  refine g_S S2 h9 ?_
  refine g_n0 [.int (nI (fA A a)), .ref 52] rfl rfl rfl ?_
  refine g_aload_n C dX0_determine_37 rfl ?_
  refine g_getI C fo_X0_66 dX0_determine_38 rfl (by decide) (fun _ => rfl) hA2.2.2.2.2.2.2.1 ?_
  refine g_iast C dX0_determine_41 rfl (by decide) (by omega) rfl ?_
  refine n_iconst C 0 dX0_determine_42 ?_
  refine g_istore_n C (by rw [hmL]; decide) dX0_determine_43 [.ref 37, .ref 19, .int (nI (0)), unk, unk, unk] rfl ?_
  have f3 : FN (fun r => r = 52) S1 (wI S2 52 (va_up (mI S2 52) (fA A a) (nI (fA A b)))) := f2.tr (FN.wI rfl)
  have g0 : IMg A a b (va_up (fun _ => none) (fA A a) (some (fA A b))) := ⟨up_same, fun s y e => by
    by_cases z : s = fA A a
    · rw [z, up_same] at e
      injection e with e
      exact ⟨[], fun x hx => absurd hx List.not_mem_nil, by rw [z]; rfl, e⟩
    · rw [va_up_ne _ _ z] at e
      cases e⟩
  refine lo_dt hR hmL C ha hb hC1 hP hO hB1 (fun S8 i q nx im f8 nc => ?_) (fun S8 f8 yc => ?_) L.length 0 _ _ (Nat.zero_add _) f3 (fun s hs => ?_) g0 (fun p hp => absurd hp (by omega)) (fun j hj => absurd hj (Nat.not_lt_zero _))
  · refine g_iconst C (bI false) dX0_determine_128 (by decide) ?_
    exact g_zret C E dX0_determine_129 (bI_01 _) (by rw [hR]; decide) (by rw [hR]; decide) ⟨false, rfl, ⟨fun z => absurd z (by decide), fun z => absurd z nc⟩, b2.tr (f8.mono (fun r z => Or.inr z))⟩
  · refine g_iconst C (bI true) dX0_determine_142 (by decide) ?_
    exact g_zret C E dX0_determine_143 (bI_01 _) (by rw [hR]; decide) (by rw [hR]; decide) ⟨true, rfl, ⟨fun _ => yc, fun _ => rfl⟩, b2.tr (f8.mono (fun r z => Or.inr z))⟩
  · show va_up (mI S2 52) (fA A a) (nI (fA A b)) s = _
    by_cases e : s = fA A a
    · rw [e, up_same, up_same]; rfl
    · rw [va_up_ne _ _ e, va_up_ne _ _ e]; exact v2 s hs
  
  

set_option maxRecDepth 100000 in
theorem c_isUnionOfAtoms (l : Launch) {S : pv_M} {A : Ab} (hC : CSt S A) {j : Nat} (hj : j < 3) (gj : gdR (A.1.1 j)) {k : Nat} (hk : k < 3) (gk : gdR (A.1.1 k)) : mt l MX11_isUnionOfAtoms 106 [.ref 0, .int (nI (j)), .int (nI (k))] S (fun v S' => ∃ c : Bool, v = some (.int (bI c)) ∧ (c = true ↔ Con A j k) ∧ CSt S' A ∧ FR cC S S') := by
  refine mt_of (by decide) (Nat.le_of_ble_eq_true rfl) ?_
  intro x hl hR hmL C E
  show GG x 106 0 0 [.ref 0, .int (nI (j)), .int (nI (k))] [] S 0
  have hS := hC.1
  have hc6 : cM (d8 A k) (a8 A k) (R8 A k) ≤ 6 := Nat.le_trans cM_le (R8_len gk)
  refine g_iload_n C dX11_isUnionOfAtoms_0 rfl ?_
  refine g_callS C (k_checkRegister _ hk) so_X11_88 dX11_isUnionOfAtoms_1 rfl rfl (rm_ok (M' := MX11_isUnionOfAtoms) hR (by decide)) (Nat.le_of_ble_eq_true rfl) (fun v9 S9 h9 => ?_)
  obtain ⟨rfl, h9⟩ := h9
  refine g_S S h9 ?_
  refine g_n0 [] rfl rfl rfl ?_
  refine g_aload_n C dX11_isUnionOfAtoms_4 rfl ?_
  refine g_iload_n C dX11_isUnionOfAtoms_5 rfl ?_
  refine g_callV C (As := [.int (nI (j))]) (c_findAtoms _ hC hj gj) vo_X11_159 dX11_isUnionOfAtoms_6 rfl rfl (by decide) rfl (rm_ok (M' := MX11_isUnionOfAtoms) hR (by decide)) (Nat.le_of_ble_eq_true rfl) (fun v9 S6 h9 => ?_)
  obtain ⟨rfl, hC6, hF6, L, P, c6, p6, w6, o6⟩ := h9
  have hS6 := hC6.1
  have hcn := p6.cnt
  have h64 := AL_len (A := A) (a := j)
  refine g_n0 [] rfl rfl rfl ?_
  refine g_aload_n C dX11_isUnionOfAtoms_9 rfl ?_
  refine g_getR C fo_X11_77 dX11_isUnionOfAtoms_10 rfl (by decide) (fun _ => rfl) (gs_0_6 hS6) ?_
  refine g_aload_n C dX11_isUnionOfAtoms_13 rfl ?_
  refine g_getR C fo_X11_11 dX11_isUnionOfAtoms_14 rfl (by decide) (fun _ => rfl) (gs_0_0 hS6) ?_
  refine g_iload_n C dX11_isUnionOfAtoms_17 rfl ?_
  refine g_aald C dX11_isUnionOfAtoms_18 rfl (Or.inl rfl) (by decide) (by omega) rfl (hS6.reg hk) ?_
  refine g_callV C (As := [.ref (53 + 4 * k)]) (c_run (mach_reg _ (hC6.2.2.2.1 k hk) (fun z => absurd z.2 (by omega)) (fun z => absurd z.2 (by omega)) gk.1 gk.2.1 gk.2.2.1 gk.2.2.2) (hC6.2.2.2.1 k hk) hS6 hC6.2.1) vo_X11_151 dX11_isUnionOfAtoms_19 rfl rfl (by decide) rfl (rm_ok (M' := MX11_isUnionOfAtoms) hR (by decide)) (Nat.le_of_ble_eq_true rfl) (fun v9 S9 h9 => ?_)
  obtain ⟨rfl, g1, g2, g3, g4⟩ := h9
  obtain ⟨hC9, hF9⟩ := hC6.run g2 g3 g4
  have c9 := c6.keepR g2 g3 (by decide)
  refine g_n0 [.int (nI (cM (d8 A k) (a8 A k) (R8 A k)))] rfl rfl rfl ?_
  refine g_pop C dX11_isUnionOfAtoms_22 rfl ?_
  refine g_aload_n C dX11_isUnionOfAtoms_23 rfl ?_
  refine g_getR C fo_X11_77 dX11_isUnionOfAtoms_24 rfl (by decide) (fun _ => rfl) (gs_0_6 g3) ?_
  refine g_aload_n C dX11_isUnionOfAtoms_27 rfl ?_
  refine g_getR C fo_X11_60 dX11_isUnionOfAtoms_28 rfl (by decide) (fun _ => rfl) (gs_0_11 g3) ?_
  refine g_callV C (As := [.ref 19]) (c_store (AutoAt.any rfl (by decide) rfl (by decide) (gs_19_1 g3)) (by decide) (by decide) g1 hc6) vo_X11_155 dX11_isUnionOfAtoms_31 rfl rfl (by decide) rfl (rm_ok (M' := MX11_isUnionOfAtoms) hR (by decide)) (Nat.le_of_ble_eq_true rfl) (fun v9 S8 h9 => ?_)
  obtain ⟨rfl, q2, F9, q3, q4, q5⟩ := h9
  have hS8 := g3.fn q2
  have hC8 : CSt S8 A := hC9.frP q2.fr (fun r z => Or.inl (by rcases z with z | z <;> omega)) hS8 (g4.of (congrFun q2.1 29)) (hC9.2.2.1.keepR q2.fr (by decide))
  have c8 := c9.keepR q2.fr hS8 (by decide)
  have hA8 : AutoAt S8 19 20 (cQ A k) (tQ A k) (fA A k) := by
    replace q4 : sF (d8 A k) (a8 A k) (R8 A k) F9 := q4
    replace q5 : AutoAt S8 19 20 (cM (d8 A k) (a8 A k) (R8 A k)) (mnT (R8 A k).length (nxt (d8 A k) (R8 A k)) (kM_ (d8 A k) (a8 A k) (R8 A k)) (cM (d8 A k) (a8 A k) (R8 A k))) F9 := q5
    rw [← Rm_eq gk] at q4 q5
    rw [← F_fA gk q3 q4]
    exact q5
  refine g_n0 [] rfl rfl rfl ?_
  refine g_aload_n C dX11_isUnionOfAtoms_34 rfl ?_
  refine g_getR C fo_X11_84 dX11_isUnionOfAtoms_35 rfl (by decide) (fun _ => rfl) (gs_0_10 hS8) ?_
  refine g_aload_n C dX11_isUnionOfAtoms_38 rfl ?_
  refine g_getR C fo_X11_60 dX11_isUnionOfAtoms_39 rfl (by decide) (fun _ => rfl) (gs_0_11 hS8) ?_
  refine g_callV C (As := [.ref 19]) (k_determine _ gj c8 p6 gk o6 hA8) vo_X11_221 dX11_isUnionOfAtoms_42 rfl rfl (by decide) rfl (rm_ok (M' := MX11_isUnionOfAtoms) hR (by decide)) (Nat.le_of_ble_eq_true rfl) (fun v9 S7 h9 => ?_)
  obtain ⟨cc9, rfl, e9, y9⟩ := h9
  refine g_n0 [.int (bI (cc9))] rfl rfl rfl ?_
  exact g_zret C E dX11_isUnionOfAtoms_45 (bI_01 _) (by rw [hR]; decide) (by rw [hR]; decide) ⟨cc9, rfl, e9, hC8.frP y9.fr (fun r z => Or.inl (by rcases z with z | z <;> omega)) (hS8.fn y9) (hC8.2.1.of (congrFun y9.1 29)) (hC8.2.2.1.of (congrFun y9.1 21)), ((hF6.tr hF9).tr (q2.fr.mono (fun r z => by rcases z with z | z <;> (show r ≤ 74; omega)))).tr (y9.fr.mono (fun r z => by rcases z with z | z <;> (show r ≤ 74; omega)))⟩

set_option maxRecDepth 100000 in
theorem t_isUnionOfAtoms_t {l : Launch} (hst : l.stackTraces = false) {S : pv_M} {p : Int32} (h : badI p 3) {q : Int32} : mth l MX11_isUnionOfAtoms.th 106 [.ref 0, .int (q), .int (p)] S "java/lang/IndexOutOfBoundsException" (fun S' => S' = S) := by
  refine mth_of hst (by decide) (Nat.le_of_ble_eq_true rfl) ?_
  intro x hl hR hmL C X
  have hst' : x.1.2.1.stackTraces = false := by rw [hl]; exact hst
  show GG x 106 0 0 [.ref 0, .int (q), .int (p)] [] S 0
  refine g_iload_n C dX11_isUnionOfAtoms_0 rfl ?_
  exact g_thrS C X (t_checkRegister hst' h) so_X11_88 dX11_isUnionOfAtoms_1 rfl rfl (rm_ok (M' := MX11_isUnionOfAtoms.th) hR (by decide)) (Nat.le_of_ble_eq_true rfl) (fun _ h => h)

set_option maxRecDepth 100000 in
theorem t_isUnionOfAtoms_r {l : Launch} (hst : l.stackTraces = false) {S : pv_M} {p : Int32} (h : badI p 3) {t : Nat} (ht : t < 3) : mth l MX11_isUnionOfAtoms.th 106 [.ref 0, .int (p), .int (nI (t))] S "java/lang/IndexOutOfBoundsException" (fun S' => S' = S) := by
  refine mth_of hst (by decide) (Nat.le_of_ble_eq_true rfl) ?_
  intro x hl hR hmL C X
  have hst' : x.1.2.1.stackTraces = false := by rw [hl]; exact hst
  show GG x 106 0 0 [.ref 0, .int (p), .int (nI (t))] [] S 0
  refine g_iload_n C dX11_isUnionOfAtoms_0 rfl ?_
  refine g_callS C (k_checkRegister _ ht) so_X11_88 dX11_isUnionOfAtoms_1 rfl rfl (rm_ok (M' := MX11_isUnionOfAtoms.th) hR (by decide)) (Nat.le_of_ble_eq_true rfl) (fun v9 S9 h9 => ?_)
  obtain ⟨rfl, h9⟩ := h9
  refine g_S S h9 ?_
  refine g_n0 [] rfl rfl rfl ?_
  refine g_aload_n C dX11_isUnionOfAtoms_4 rfl ?_
  refine g_iload_n C dX11_isUnionOfAtoms_5 rfl ?_
  exact g_thrV C X (As := [.int (p)]) (t_findAtoms_r hst' h) vo_X11_159 dX11_isUnionOfAtoms_6 rfl rfl (by decide) rfl (rm_ok (M' := MX11_isUnionOfAtoms.th) hR (by decide)) (Nat.le_of_ble_eq_true rfl) (fun _ h => h)
