/-! FIRST WORDS: words by length, then by letters, as numbers -/
def sWd (A : Ab) (a : Nat) : List Nat → Nat
  | [] => fA A a
  | l :: u => sa A a (sWd A a u) l
def okW (u : List Nat) : Prop := ∀ x, x ∈ u → x < 3
def eW : List Nat → Nat
  | [] => 1
  | l :: u => (2 + l) * 3 ^ u.length + eW u
theorem okW.tl {l : Nat} {u : List Nat} (h : okW (l :: u)) : okW u := fun x hx => h x (List.mem_cons_of_mem _ hx)
theorem okW.hd {l : Nat} {u : List Nat} (h : okW (l :: u)) : l < 3 := h l List.mem_cons_self
theorem okW.cons {l : Nat} {u : List Nat} (hl : l < 3) (h : okW u) : okW (l :: u) := fun x hx => by
  rcases List.mem_cons.mp hx with z | z
  · rw [z]; exact hl
  · exact h x z
theorem eW_bd : ∀ {u : List Nat}, okW u → 3 ^ u.length ≤ eW u ∧ eW u < 2 * 3 ^ u.length
  | [], _ => ⟨by decide, by decide⟩
  | l :: u, h => by
    have ih := eW_bd h.tl
    have hl := h.hd
    have : l = 0 ∨ l = 1 ∨ l = 2 := by omega
    show 3 ^ (u.length + 1) ≤ (2 + l) * 3 ^ u.length + eW u ∧ (2 + l) * 3 ^ u.length + eW u < 2 * 3 ^ (u.length + 1)
    rw [Nat.pow_succ]
    rcases this with rfl | rfl | rfl <;> omega
theorem eW_len {u v : List Nat} (hu : okW u) (hv : okW v) (h : eW u ≤ eW v) : u.length ≤ v.length := by
  rcases Nat.lt_or_ge v.length u.length with z | z
  · have a := (eW_bd hu).1
    have b := (eW_bd hv).2
    have c : 3 ^ (v.length + 1) ≤ 3 ^ u.length := Nat.pow_le_pow_right (by decide) z
    rw [Nat.pow_succ] at c
    omega
  · exact z
theorem eW_cmp {l m : Nat} {u v : List Nat} (hu : okW u) (hv : okW v) (e : u.length = v.length) : eW (l :: u) ≤ eW (m :: v) ↔ l < m ∨ (l = m ∧ eW u ≤ eW v) := by
  have a := eW_bd hu
  have b := eW_bd hv
  show (2 + l) * 3 ^ u.length + eW u ≤ (2 + m) * 3 ^ v.length + eW v ↔ _
  rw [e] at a ⊢
  generalize 3 ^ v.length = k at *
  constructor
  · intro h
    rcases Nat.lt_trichotomy l m with z | z | z
    · exact Or.inl z
    · subst z; exact Or.inr ⟨rfl, by omega⟩
    · exfalso
      have h2 : (2 + m) * k + k ≤ (2 + l) * k := by rw [← Nat.succ_mul]; exact Nat.mul_le_mul_right k (by omega)
      omega
  · rintro (z | ⟨rfl, z⟩)
    · have h2 : (2 + l) * k + k ≤ (2 + m) * k := by rw [← Nat.succ_mul]; exact Nat.mul_le_mul_right k (by omega)
      omega
    · omega
theorem eW_inj : ∀ {u v : List Nat}, okW u → okW v → eW u = eW v → u = v
  | [], [], _, _, _ => rfl
  | [], m :: v, hu, hv, e => by have := eW_len hv hu (by omega); simp at this
  | l :: u, [], hu, hv, e => by have := eW_len hu hv (by omega); simp at this
  | l :: u, m :: v, hu, hv, e => by
    have h1 := eW_len hu hv (by omega)
    have h2 := eW_len hv hu (by omega)
    have hl : u.length = v.length := by simp at h1 h2; omega
    have a := (eW_cmp hu.tl hv.tl hl).mp (Nat.le_of_eq e)
    have b := (eW_cmp hv.tl hu.tl hl.symm).mp (Nat.le_of_eq e.symm)
    have e1 : l = m := by omega
    subst e1
    have e2 : eW u = eW v := by
      rcases a with z | z
      · omega
      · rcases b with y | y
        · omega
        · omega
    rw [eW_inj hu.tl hv.tl e2]
theorem eW_snoc (x : Nat) : ∀ u : List Nat, eW (u ++ [x]) = 3 * eW u + x
  | [] => by show (2 + x) * 3 ^ 0 + 1 = 3 * 1 + x; omega
  | l :: u => by
    show (2 + l) * 3 ^ (u ++ [x]).length + eW (u ++ [x]) = 3 * ((2 + l) * 3 ^ u.length + eW u) + x
    rw [eW_snoc x u, List.length_append, List.length_singleton, Nat.pow_succ, ← Nat.mul_assoc]
    omega
theorem sWd_mem {A : Ab} {a : Nat} (hg : gdR (A.1.1 a)) : ∀ {u : List Nat}, okW u → sWd A a u ∈ AL A a
  | [], _ => AL_fA hg
  | _ :: _, h => AL_sa hg (sWd_mem hg h.tl) h.hd
def isM (A : Ab) (a : Nat) (u : List Nat) (s : Nat) : Prop := okW u ∧ sWd A a u = s ∧ ∀ v, okW v → sWd A a v = s → eW u ≤ eW v
theorem isM_ex {A : Ab} {a s : Nat} (hg : gdR (A.1.1 a)) (hs : s ∈ AL A a) : ∃ u, isM A a u s := by
  have h1 : ∃ u, okW u ∧ sWd A a u = s := AL_ind hg (P := fun s => ∃ u, okW u ∧ sWd A a u = s) ⟨[], fun x hx => absurd hx List.not_mem_nil, rfl⟩ (fun s l hs ⟨u, h1, h2⟩ hl => ⟨l :: u, h1.cons hl, by show sa A a (sWd A a u) l = _; rw [h2]⟩) s hs
  have key : ∀ n u, eW u ≤ n → okW u → sWd A a u = s → ∃ u, isM A a u s := by
    intro n
    induction n with
    | zero =>
      intro u hn h1 h2
      exact ⟨u, h1, h2, fun v _ _ => by omega⟩
    | succ n ih =>
      intro u hn h1 h2
      by_cases z : ∃ v, okW v ∧ sWd A a v = s ∧ eW v < eW u
      · obtain ⟨v, v1, v2, v3⟩ := z
        exact ih v (by omega) v1 v2
      · exact ⟨u, h1, h2, fun v v1 v2 => Nat.not_lt.mp (fun q => z ⟨v, v1, v2, q⟩)⟩
  obtain ⟨u, h1, h2⟩ := h1
  exact key (eW u) u (Nat.le_refl _) h1 h2
theorem isM_uniq {A : Ab} {a s : Nat} {u v : List Nat} (h : isM A a u s) (k : isM A a v s) : u = v := eW_inj h.1 k.1 (Nat.le_antisymm (h.2.2 v k.1 k.2.1) (k.2.2 u h.1 h.2.1))
theorem isM_tl {A : Ab} {a s l : Nat} {u : List Nat} (h : isM A a (l :: u) s) : isM A a u (sWd A a u) := by
  refine ⟨h.1.tl, rfl, fun v hv e => ?_⟩
  have h1 := h.2.2 (l :: v) (hv.cons h.1.hd) (by rw [← h.2.1]; show sa A a (sWd A a v) l = sa A a (sWd A a u) l; rw [e])
  have h2 := eW_len h.1 (hv.cons h.1.hd) h1
  rcases Nat.lt_or_ge u.length v.length with z | z
  · have a1 := (eW_bd h.1.tl).2
    have b1 := (eW_bd hv).1
    have c : 3 ^ (u.length + 1) ≤ 3 ^ v.length := Nat.pow_le_pow_right (by decide) z
    rw [Nat.pow_succ] at c
    omega
  · have e2 : u.length = v.length := by simp at h2; omega
    rcases (eW_cmp h.1.tl hv e2).mp h1 with y | y
    · omega
    · exact y.2
noncomputable def mw (A : Ab) (a s : Nat) : List Nat := Classical.epsilon (fun u => isM A a u s)
theorem mw_ok {A : Ab} {a s : Nat} (hg : gdR (A.1.1 a)) (hs : s ∈ AL A a) : isM A a (mw A a s) s := Classical.epsilon_spec (isM_ex hg hs)
theorem mw_of {A : Ab} {a s : Nat} {u : List Nat} (hg : gdR (A.1.1 a)) (h : isM A a u s) : mw A a s = u := isM_uniq (mw_ok hg (by rw [← h.2.1]; exact sWd_mem hg h.1)) h
theorem mw_fA {A : Ab} {a : Nat} (hg : gdR (A.1.1 a)) : mw A a (fA A a) = [] := mw_of hg ⟨fun x hx => absurd hx List.not_mem_nil, rfl, fun v hv _ => by have := (eW_bd hv).1; have : 0 < 3 ^ v.length := Nat.pow_pos (by decide); show 1 ≤ _; omega⟩
noncomputable def hdw (A : Ab) (a s : Nat) : Nat := (mw A a s).headD 0
noncomputable def tlw (A : Ab) (a s : Nat) : Nat := sWd A a (mw A a s).tail
noncomputable def lw_ (A : Ab) (a s : Nat) : Nat := (mw A a s).length
theorem mw_cons {A : Ab} {a s : Nat} (hg : gdR (A.1.1 a)) (hs : s ∈ AL A a) (h0 : 0 < lw_ A a s) : mw A a s = hdw A a s :: mw A a (tlw A a s) ∧ tlw A a s ∈ AL A a ∧ hdw A a s < 3 ∧ sa A a (tlw A a s) (hdw A a s) = s ∧ lw_ A a (tlw A a s) + 1 = lw_ A a s := by
  have hm := mw_ok hg hs
  unfold lw_ at h0 ⊢
  unfold hdw tlw
  cases e : mw A a s with
  | nil => rw [e] at h0; exact absurd h0 (by decide)
  | cons l u =>
    rw [e] at hm
    have h2 := mw_of hg (isM_tl hm)
    show l :: u = l :: mw A a (sWd A a u) ∧ sWd A a u ∈ AL A a ∧ l < 3 ∧ sa A a (sWd A a u) l = s ∧ (mw A a (sWd A a u)).length + 1 = (l :: u).length
    rw [h2]
    exact ⟨rfl, sWd_mem hg hm.1.tl, hm.1.hd, hm.2.1, rfl⟩
theorem lw_0 {A : Ab} {a s : Nat} (hg : gdR (A.1.1 a)) (hs : s ∈ AL A a) : lw_ A a s = 0 ↔ s = fA A a := by
  constructor
  · intro h
    have hm := mw_ok hg hs
    have e : mw A a s = [] := List.eq_nil_of_length_eq_zero h
    rw [e] at hm
    exact hm.2.1.symm
  · intro h
    unfold lw_
    rw [h, mw_fA hg]
    rfl
/-- the set behind j letters of the first word -/
noncomputable def dw (A : Ab) (a s : Nat) : Nat → Nat
  | 0 => s
  | j + 1 => tlw A a (dw A a s j)
theorem dw_ok {A : Ab} {a s : Nat} (hg : gdR (A.1.1 a)) (hs : s ∈ AL A a) : ∀ j, j ≤ lw_ A a s → dw A a s j ∈ AL A a ∧ lw_ A a (dw A a s j) + j = lw_ A a s ∧ mw A a (dw A a s j) = (mw A a s).drop j
  | 0, _ => ⟨hs, rfl, rfl⟩
  | j + 1, h => by
    obtain ⟨h1, h2, h3⟩ := dw_ok hg hs j (by omega)
    obtain ⟨c1, c2, c3, c4, c5⟩ := mw_cons hg h1 (by omega)
    refine ⟨c2, by show lw_ A a (tlw A a (dw A a s j)) + (j + 1) = _; omega, ?_⟩
    show mw A a (tlw A a (dw A a s j)) = _
    have : (mw A a s).drop (j + 1) = ((mw A a s).drop j).drop 1 := by rw [List.drop_drop]
    rw [this, ← h3, c1]
    rfl
theorem lw_lt {A : Ab} {a s : Nat} (hg : gdR (A.1.1 a)) (hs : s ∈ AL A a) : lw_ A a s < 64 := by
  have := fb_holes 64 (lw_ A a s + 1) (fun j => dw A a s j) (fun j hj => AL_lt (dw_ok hg hs j (by omega)).1) (fun i j hij hj e => by
    have h1 := (dw_ok hg hs i (by omega)).2.1
    have h2 := (dw_ok hg hs j (by omega)).2.1
    have e : dw A a s i = dw A a s j := e
    rw [e] at h1
    omega)
  omega
theorem mw_at {A : Ab} {a s : Nat} (hg : gdR (A.1.1 a)) (hs : s ∈ AL A a) {j : Nat} (hj : j < lw_ A a s) : hdw A a (dw A a s j) = (mw A a s).getD j 0 := by
  obtain ⟨h1, h2, h3⟩ := dw_ok hg hs j (by omega)
  unfold hdw
  rw [h3, List.getD_eq_getElem?_getD, List.headD_eq_head?_getD, List.head?_drop]
/-! how the class finds the atoms: by levels, letters outside -/
def PI (A : Ab) (a d b e l i : Nat) (L : List Nat) : Prop := L.Nodup ∧ (∀ s, s ∈ L → s ∈ AL A a) ∧ (∀ j k, j < k → k < L.length → eW (mw A a (L.getD j 0)) < eW (mw A a (L.getD k 0))) ∧ (b ≤ e ∧ e ≤ L.length ∧ ∀ j, j < L.length → (j < b → lw_ A a (L.getD j 0) < d) ∧ (b ≤ j → j < e → lw_ A a (L.getD j 0) = d) ∧ (e ≤ j → lw_ A a (L.getD j 0) = d + 1)) ∧ (∀ s, s ∈ AL A a → lw_ A a s ≤ d → s ∈ L) ∧ ∀ s, s ∈ AL A a → lw_ A a s = d + 1 → (s ∈ L ↔ hdw A a s < l ∨ (hdw A a s = l ∧ L.idxOf (tlw A a s) < i))
theorem PI.idx {A : Ab} {a d b e l i s : Nat} {L : List Nat} (h : PI A a d b e l i L) (hs : s ∈ AL A a) (hd : lw_ A a s = d) : b ≤ L.idxOf s ∧ L.idxOf s < e := by
  have hm := h.2.2.2.2.1 s hs (by omega)
  have q := h.2.2.2.1.2.2 _ (idx_lt hm)
  rw [getD_idx hm] at q
  constructor
  · rcases Nat.lt_or_ge (L.idxOf s) b with z | z
    · have := q.1 z; omega
    · exact z
  · rcases Nat.lt_or_ge (L.idxOf s) e with z | z
    · exact z
    · have := q.2.2 z; omega
theorem PI.letter {A : Ab} {a d b e l : Nat} {L : List Nat} (hg : gdR (A.1.1 a)) (h : PI A a d b e l e L) : PI A a d b e (l + 1) b L := by
  refine ⟨h.1, h.2.1, h.2.2.1, h.2.2.2.1, h.2.2.2.2.1, fun s hs hd => ?_⟩
  rw [h.2.2.2.2.2 s hs hd]
  have c := mw_cons hg hs (by omega)
  have q := h.idx c.2.1 (by omega)
  constructor
  · rintro (z | z)
    · exact Or.inl (by omega)
    · exact Or.inl (by omega)
  · rintro (z | z)
    · by_cases y : hdw A a s = l
      · exact Or.inr ⟨y, q.2⟩
      · exact Or.inl (by omega)
    · omega
theorem PI.level {A : Ab} {a d b e : Nat} {L : List Nat} (hg : gdR (A.1.1 a)) (h : PI A a d b e 3 b L) : PI A a (d + 1) e L.length 0 e L := by
  refine ⟨h.1, h.2.1, h.2.2.1, ⟨h.2.2.2.1.2.1, Nat.le_refl _, fun j hj => ?_⟩, fun s hs hd => ?_, fun s hs hd => ?_⟩
  · have q := h.2.2.2.1.2.2 j hj
    refine ⟨fun z => ?_, fun z _ => q.2.2 z, fun z => absurd hj (by omega)⟩
    rcases Nat.lt_or_ge j b with y | y
    · have := q.1 y; omega
    · have := q.2.1 y z; omega
  · rcases Nat.lt_or_ge d (lw_ A a s) with y | y
    · have c := mw_cons hg hs (by omega)
      exact (h.2.2.2.2.2 s hs (by omega)).mpr (Or.inl c.2.2.1)
    · exact h.2.2.2.2.1 s hs y
  · constructor
    · intro hm
      have q := h.2.2.2.1.2.2 _ (idx_lt hm)
      rw [getD_idx hm] at q
      exfalso
      rcases Nat.lt_or_ge (L.idxOf s) b with y | y
      · have := q.1 y; omega
      · rcases Nat.lt_or_ge (L.idxOf s) e with y2 | y2
        · have := q.2.1 y y2; omega
        · have := q.2.2 y2; omega
    · rintro (z | ⟨_, z⟩)
      · omega
      · have c := mw_cons hg hs (by omega)
        have hm := (h.2.2.2.2.2 (tlw A a s) c.2.1 (by omega)).mpr (Or.inl (mw_cons hg c.2.1 (by omega)).2.2.1)
        have q := h.2.2.2.1.2.2 _ (idx_lt hm)
        rw [getD_idx hm] at q
        exfalso
        rcases Nat.lt_or_ge (L.idxOf (tlw A a s)) b with y | y
        · have := q.1 y; omega
        · have := q.2.1 y z; omega
/-- a letter ahead of the i-th atom -/
theorem PI.step_in {A : Ab} {a d b e l i : Nat} {L : List Nat} (hg : gdR (A.1.1 a)) (h : PI A a d b e l i L) (hi : i < e) (hin : sa A a (L.getD i 0) l ∈ L) : PI A a d b e l (i + 1) L := by
  refine ⟨h.1, h.2.1, h.2.2.1, h.2.2.2.1, h.2.2.2.2.1, fun s hs hd => ?_⟩
  have c := mw_cons hg hs (by omega)
  constructor
  · intro hm
    rcases (h.2.2.2.2.2 s hs hd).mp hm with z | z
    · exact Or.inl z
    · exact Or.inr ⟨z.1, by omega⟩
  · rintro (z | ⟨z1, z2⟩)
    · exact (h.2.2.2.2.2 s hs hd).mpr (Or.inl z)
    · by_cases y : L.idxOf (tlw A a s) = i
      · have hm := h.2.2.2.2.1 (tlw A a s) c.2.1 (by omega)
        have e1 := getD_idx hm
        rw [y] at e1
        rw [← c.2.2.2.1, z1, ← e1]
        exact hin
      · exact (h.2.2.2.2.2 s hs hd).mpr (Or.inr ⟨z1, by omega⟩)
theorem PI.step_out {A : Ab} {a d b e l i : Nat} {L : List Nat} (hg : gdR (A.1.1 a)) (h : PI A a d b e l i L) (hb : b ≤ i) (hi : i < e) (hl : l < 3) (hin : sa A a (L.getD i 0) l ∉ L) : PI A a d b e l (i + 1) (L ++ [sa A a (L.getD i 0) l]) ∧ hdw A a (sa A a (L.getD i 0) l) = l ∧ tlw A a (sa A a (L.getD i 0) l) = L.getD i 0 := by
  have hiL : i < L.length := Nat.lt_of_lt_of_le hi h.2.2.2.1.2.1
  have hLm := getD_mem hiL
  have hLA := h.2.1 _ hLm
  have hd0 : lw_ A a (L.getD i 0) = d := (h.2.2.2.1.2.2 i hiL).2.1 hb hi
  generalize hX : L.getD i 0 = X at *
  have hsA := AL_sa hg hLA hl
  have hmX := mw_ok hg hLA
  have hsm := mw_ok hg hsA
  have hlw := hsm.2.2 (l :: mw A a X) (hmX.1.cons hl) (by show sa A a (sWd A a (mw A a X)) l = _; rw [hmX.2.1])
  have hle := eW_len hsm.1 (hmX.1.cons hl) hlw
  have hlen : lw_ A a (sa A a X l) = d + 1 := by
    have h1 : ¬ lw_ A a (sa A a X l) ≤ d := fun z => hin (h.2.2.2.2.1 _ hsA z)
    have h2 : lw_ A a (sa A a X l) ≤ lw_ A a X + 1 := hle
    omega
  obtain ⟨c1, c2, c3, c4, c5⟩ := mw_cons hg hsA (by omega)
  have hix := h.idx c2 (by omega)
  have hXi : L.idxOf X = i := by rw [← hX]; exact idx_getD h.1 hiL
  have hns : ¬ (hdw A a (sa A a X l) < l ∨ (hdw A a (sa A a X l) = l ∧ L.idxOf (tlw A a (sa A a X l)) < i)) := fun z => hin ((h.2.2.2.2.2 _ hsA hlen).mpr z)
  have htm := h.2.2.2.2.1 _ c2 (by omega)
  have hle2 : hdw A a (sa A a X l) < l ∨ (hdw A a (sa A a X l) = l ∧ eW (mw A a (tlw A a (sa A a X l))) ≤ eW (mw A a X)) := by
    rw [c1] at hlw
    exact (eW_cmp (mw_ok hg c2).1 hmX.1 (by show lw_ A a _ = lw_ A a _; omega)).mp hlw
  have hfin : hdw A a (sa A a X l) = l ∧ L.idxOf (tlw A a (sa A a X l)) = i := by
    rcases hle2 with z | ⟨z1, z2⟩
    · exact absurd (Or.inl z) hns
    · refine ⟨z1, ?_⟩
      rcases Nat.lt_trichotomy (L.idxOf (tlw A a (sa A a X l))) i with y | y | y
      · exact absurd (Or.inr ⟨z1, y⟩) hns
      · exact y
      · have := h.2.2.1 i _ y (idx_lt htm)
        rw [hX, getD_idx htm] at this
        omega
  have htl : tlw A a (sa A a X l) = X := by
    have := getD_idx htm
    rw [hfin.2, hX] at this
    exact this.symm
  refine ⟨⟨?_, fun s hs => ?_, fun j k hjk hk => ?_, ⟨h.2.2.2.1.1, ?_, fun j hj => ?_⟩, fun s hs hd => List.mem_append_left _ (h.2.2.2.2.1 s hs hd), fun s hs hd => ?_⟩, hfin.1, htl⟩
  · have := addc_nodup (sa A a X l) h.1
    rwa [addc_out hin] at this
  · rcases List.mem_append.mp hs with z | z
    · exact h.2.1 s z
    · rw [List.mem_singleton.mp z]; exact hsA
  · simp only [List.length_append, List.length_cons, List.length_nil] at hk
    rw [getD_snoc (by omega), getD_snoc (by omega), if_neg (by omega)]
    by_cases z : k = L.length
    · rw [if_pos z]
      have hjL : j < L.length := by omega
      have hjm := getD_mem hjL
      have hjA := h.2.1 _ hjm
      have q := h.2.2.2.1.2.2 j hjL
      rcases Nat.lt_or_ge j e with y | y
      · have hlt : lw_ A a (L.getD j 0) ≤ d := by
          rcases Nat.lt_or_ge j b with y2 | y2
          · have := q.1 y2; omega
          · have := q.2.1 y2 y; omega
        rcases Nat.lt_or_ge (eW (mw A a (L.getD j 0))) (eW (mw A a (sa A a X l))) with y3 | y3
        · exact y3
        · have := eW_len hsm.1 (mw_ok hg hjA).1 y3
          have : lw_ A a (sa A a X l) ≤ lw_ A a (L.getD j 0) := this
          omega
      · have hj1 := q.2.2 y
        have cj := mw_cons hg hjA (by omega)
        have hjx := (h.2.2.2.2.2 _ hjA hj1).mp hjm
        rcases Nat.lt_or_ge (eW (mw A a (L.getD j 0))) (eW (mw A a (sa A a X l))) with y3 | y3
        · exact y3
        · exfalso
          rw [c1, cj.1] at y3
          rw [hfin.1, htl] at y3
          rcases (eW_cmp hmX.1 (mw_ok hg cj.2.1).1 (by show lw_ A a _ = lw_ A a _; omega)).mp y3 with y4 | ⟨y4, y5⟩
          · omega
          · have hjt := h.2.2.2.2.1 _ cj.2.1 (by omega)
            have hlt : L.idxOf (tlw A a (L.getD j 0)) < i := by omega
            have := h.2.2.1 _ i hlt hiL
            rw [hX, getD_idx hjt] at this
            omega
    · rw [if_neg z]; exact h.2.2.1 j k hjk (by omega)
  · simp only [List.length_append, List.length_cons, List.length_nil]; have := h.2.2.2.1.2.1; omega
  · simp only [List.length_append, List.length_cons, List.length_nil] at hj
    rw [getD_snoc (by omega)]
    have he := h.2.2.2.1.2.1
    by_cases z : j = L.length
    · rw [if_pos z]
      exact ⟨fun y => by have := h.2.2.2.1.1; omega, fun _ y => by omega, fun _ => hlen⟩
    · rw [if_neg z]; exact h.2.2.2.1.2.2 j (by omega)
  · have c := mw_cons hg hs (by omega)
    have htl2 := h.2.2.2.2.1 _ c.2.1 (by omega)
    have hidx : (L ++ [sa A a X l]).idxOf (tlw A a s) = L.idxOf (tlw A a s) := by rw [List.idxOf_append, if_pos htl2]
    rw [hidx]
    constructor
    · intro hm
      rcases List.mem_append.mp hm with z | z
      · rcases (h.2.2.2.2.2 s hs hd).mp z with y | y
        · exact Or.inl y
        · exact Or.inr ⟨y.1, by omega⟩
      · rw [List.mem_singleton.mp z, hfin.1, hfin.2]; exact Or.inr ⟨rfl, by omega⟩
    · rintro (z | ⟨z1, z2⟩)
      · exact List.mem_append_left _ ((h.2.2.2.2.2 s hs hd).mpr (Or.inl z))
      · by_cases y : L.idxOf (tlw A a s) = i
        · have e1 := getD_idx htl2
          rw [y, hX] at e1
          refine List.mem_append_right _ (List.mem_singleton.mpr ?_)
          rw [← c.2.2.2.1, z1, ← e1]
        · exact List.mem_append_left _ ((h.2.2.2.2.2 s hs hd).mpr (Or.inr ⟨z1, by omega⟩))
theorem PI.start {A : Ab} {a : Nat} (hg : gdR (A.1.1 a)) : PI A a 0 0 1 0 0 [fA A a] := by
  have h0 := (lw_0 hg (AL_fA hg)).mpr rfl
  refine ⟨by simp, fun s hs => by rw [List.mem_singleton.mp hs]; exact AL_fA hg, fun j k hjk hk => ?_, ⟨by decide, Nat.le_refl 1, fun j hj => ?_⟩, fun s hs hd => ?_, fun s hs hd => ?_⟩
  · simp at hk; omega
  · have : j = 0 := by simp at hj; exact hj
    subst this
    exact ⟨fun z => by omega, fun _ _ => h0, fun z => by omega⟩
  · rw [List.mem_singleton]; exact (lw_0 hg hs).mp (by omega)
  · constructor
    · intro z
      rw [List.mem_singleton.mp z, h0] at hd
      omega
    · rintro (z | z) <;> omega
/-- no atom of this level: all were found -/
theorem PI.all {A : Ab} {a d b e : Nat} {L : List Nat} (hg : gdR (A.1.1 a)) (h : PI A a d b e 0 b L) (hend : d = 64 ∨ L.length ≤ b) : ∀ s, s ∈ L ↔ s ∈ AL A a := by
  intro s
  refine ⟨h.2.1 s, fun hs => ?_⟩
  rcases Nat.lt_or_ge d (lw_ A a s) with z | z
  · exfalso
    rcases hend with y | y
    · have := lw_lt hg hs; omega
    · obtain ⟨w1, w2, _⟩ := dw_ok hg hs (lw_ A a s - d) (by omega)
      have q := h.idx w1 (by omega)
      have := h.2.2.2.1.2.1
      omega
  · exact h.2.2.2.2.1 s hs z
