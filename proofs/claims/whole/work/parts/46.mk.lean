/-! the reference's machines -/
abbrev mQ : Nat → Prop := fun r => r = 75 ∨ (88 ≤ r ∧ r ≤ 94)
def FQ (K : Nat → Prop) (S T : pv_M) : Prop := FN mQ S T ∧ (∀ k, ¬ K k → mI T 75 k = mI S 75 k) ∧ mJ T 75 = mJ S 75
abbrev k17 : Nat → Prop := fun k => k = 17
abbrev k5 : Nat → Prop := fun k => k = 17 ∨ k = 21 ∨ k = 22 ∨ k = 23 ∨ k = 29
theorem FQ.rf {K : Nat → Prop} {S : pv_M} : FQ K S S := ⟨FN.rf, fun _ _ => rfl, rfl⟩
theorem FQ.tr {K : Nat → Prop} {S T U : pv_M} (h : FQ K S T) (k : FQ K T U) : FQ K S U := ⟨h.1.tr k.1, fun i hi => (k.2.1 i hi).trans (h.2.1 i hi), k.2.2.trans h.2.2⟩
theorem FQ.mono {K K' : Nat → Prop} {S T : pv_M} (h : FQ K S T) (q : ∀ k, K k → K' k) : FQ K' S T := ⟨h.1, fun i hi => h.2.1 i (fun z => hi (q i z)), h.2.2⟩
theorem FQ.w5 {S T : pv_M} (h : FQ k17 S T) : FQ k5 S T := h.mono (fun k z => Or.inl z)
theorem FQ.cI {K : Nat → Prop} {S : pv_M} {i : Nat} {f : Nat → Int32} (h : 88 ≤ i ∧ i ≤ 94) : FQ K S (wI S i f) := ⟨FN.wI (Or.inr h), fun _ _ => by rw [mI_wI_ne (by omega)], rfl⟩
theorem FQ.cJ {K : Nat → Prop} {S : pv_M} {i : Nat} {f : Nat → Int64} (h : 88 ≤ i ∧ i ≤ 94) : FQ K S (wJ S i f) := ⟨FN.wJ (Or.inr h), fun _ _ => rfl, by rw [mJ_wJ_ne (by omega)]⟩
theorem FQ.w75 {K : Nat → Prop} {S : pv_M} {k : Nat} {a : Int32} (h : K k) : FQ K S (wI S 75 (va_up (mI S 75) k a)) := ⟨FN.wI (Or.inl rfl), fun i hi => rI_k (fun e => hi (e ▸ h)) rfl, rfl⟩
theorem FQ.fs {S T : pv_M} (h : FQ k5 S T) : FS S T := ⟨h.1.mono (fun r z => by rcases z with z | z; exact Or.inl z; exact Or.inr (by omega)), h.2.1 4 (by decide), h.2.1 10 (by decide), h.2.1 14 (by decide)⟩
/-- which machine: the kind h of the registers a and b -/
def PM (A : Ab) (h a b : Nat) (S : pv_M) : Prop := GS S ∧ MSt S A ∧ mI S 75 21 = nI h ∧ mI S 75 22 = nI a ∧ mI S 75 23 = nI b
theorem PM.keep {A : Ab} {h a b : Nat} {S T : pv_M} (p : PM A h a b S) (q : FQ k17 S T) : PM A h a b T := ⟨p.1.fn q.1, p.2.1.fs q.w5.fs, by rw [q.2.1 21 (by decide)]; exact p.2.2.1, by rw [q.2.1 22 (by decide)]; exact p.2.2.2.1, by rw [q.2.1 23 (by decide)]; exact p.2.2.2.2⟩
/-- the nodes: L is the list of their keys -/
def NdAt (S : pv_M) (L : List Nat) : Prop := mI S 75 17 = nI L.length ∧ (∀ i, i < L.length → mJ S 88 i = lN (L.getD i 0)) ∧ L.Nodup ∧ (∀ c, c ∈ L → c < 2 ^ 64) ∧ L.length ≤ 740
theorem NdAt.keep {S T : pv_M} {L : List Nat} (h : NdAt S L) (h1 : mI T 75 17 = mI S 75 17) (h2 : mJ T 88 = mJ S 88) : NdAt T L := ⟨by rw [h1]; exact h.1, fun i hi => by rw [h2]; exact h.2.1 i hi, h.2.2⟩
theorem not_mem_of {L : List Nat} {c : Nat} (h : ∀ p, p < L.length → L.getD p 0 ≠ c) : c ∉ L := fun z => h _ (idx_lt z) (getD_idx z)
theorem NdAt.add {S : pv_M} {L : List Nat} {c : Nat} (h : NdAt S L) (hc : c ∉ L) (h64 : c < 2 ^ 64) (hl : L.length < 740) : NdAt (wI (wJ S 88 (va_up (mJ S 88) L.length (lN c))) 75 (va_up (mI S 75) 17 (nI (L.length + 1)))) (L ++ [c]) := by
  refine ⟨by simp [mI, wI, wJ, va_up], fun i hi => ?_, ?_, fun d hd => ?_, by simp; omega⟩
  · show mJ (wJ S 88 (va_up (mJ S 88) L.length (lN c))) 88 i = _
    rw [mJ_wJ]
    simp only [List.length_append, List.length_cons, List.length_nil] at hi
    by_cases e : i = L.length
    · rw [e, up_same]; simp
    · rw [va_up_ne _ _ e, h.2.1 i (by omega), List.getD_eq_getElem?_getD, List.getD_eq_getElem?_getD, List.getElem?_append_left (by omega)]
  · have := addc_nodup c h.2.2.1
    rwa [addc_out hc] at this
  · rcases List.mem_append.mp hd with z | z
    · exact h.2.2.2.1 d z
    · simp at z; rw [z]; exact h64
/-- a machine of the reference -/
def MMach (l : Launch) (A : Ab) (h a b k0 : Nat) (δ : Nat → Nat → Nat) (acc : Nat → Bool) (Dm : Nat → Prop) (X : pv_M → Prop) : Prop :=
  (∀ S, PM A h a b S → X S → mt l MX12_firstKey 106 [.ref 75] S (fun v S' => v = some (.long (lN k0)) ∧ S' = S)) ∧ Dm k0 ∧ (∀ c, Dm c → c < 2 ^ 64) ∧
  (∀ S c q, PM A h a b S → X S → Dm c → q < 3 → mt l MX12_keyAfter 106 [.ref 75, .long (lN c), .int (nI q)] S (fun v S' => v = some (.long (lN (δ c q))) ∧ S' = S)) ∧ (∀ c q, Dm c → q < 3 → Dm (δ c q)) ∧
  (∀ S c, PM A h a b S → X S → Dm c → mt l MX12_isEnd 106 [.ref 75, .long (lN c)] S (fun v S' => v = some (.int (bI (acc c))) ∧ S' = S)) ∧ (∀ S S', X S → FQ k5 S S' → X S')
/-- how far the machine is made: places below t are done -/
def ExM (δ : Nat → Nat → Nat) (Dm : Nat → Prop) (S0 S : pv_M) (L : List Nat) (O : Nat → Nat) (t : Nat) : Prop := NdAt S L ∧ FQ k17 S0 S ∧ (∀ c, c ∈ L → Dm c) ∧ (∀ p, p < t → mI S 89 p = nI (nxt δ L p) ∧ δ (L.getD (p / 3) 0) (p % 3) ∈ L) ∧ (∀ j, 0 < j → j < L.length → mI S 91 j = nI (O j / 3) ∧ mI S 92 j = nI (O j % 3)) ∧ ∀ j, 0 < j → j < L.length → O j < t ∧ O j / 3 < j ∧ nxt δ L (O j) = j ∧ ∀ p, p < O j → nxt δ L p ≠ j
theorem ExM.w {δ : Nat → Nat → Nat} {Dm : Nat → Prop} {S0 S : pv_M} {L : List Nat} {O : Nat → Nat} {t : Nat} {f g : Nat → Int32} (h : ExM δ Dm S0 S L O t) (hf : ∀ j, 0 < j → j < L.length → f j = nI (O j / 3)) (hg : ∀ j, 0 < j → j < L.length → g j = nI (O j % 3)) : ExM δ Dm S0 (wI (wI S 91 f) 92 g) L O t :=
  ⟨h.1, h.2.1.tr ((FQ.cI (by omega)).tr (FQ.cI (by omega))), h.2.2.1, h.2.2.2.1, fun j h1 h2 => ⟨hf j h1 h2, hg j h1 h2⟩, h.2.2.2.2.2⟩
theorem ExM.step_in {δ : Nat → Nat → Nat} {Dm : Nat → Prop} {S0 S : pv_M} {L : List Nat} {O : Nat → Nat} {i q : Nat} (h : ExM δ Dm S0 S L O (i * 3 + q)) (hq : q < 3) (hin : δ (L.getD i 0) q ∈ L) : ExM δ Dm S0 (wI S 89 (va_up (mI S 89) (i * 3 + q) (nI (L.idxOf (δ (L.getD i 0) q))))) L O (i * 3 + q + 1) := by
  refine ⟨h.1, h.2.1.tr (FQ.cI (by omega)), h.2.2.1, fun p hp => ?_, h.2.2.2.2.1, fun j h1 h2 => ?_⟩
  · rw [mI_wI]
    by_cases e : p = i * 3 + q
    · have e1 : p / 3 = i := by omega
      have e2 : p % 3 = q := by omega
      rw [e, up_same, ← e]
      unfold nxt
      rw [e1, e2]
      exact ⟨rfl, hin⟩
    · rw [va_up_ne _ _ e]
      exact h.2.2.2.1 p (by omega)
  · have := h.2.2.2.2.2 j h1 h2
    exact ⟨by omega, this.2⟩
theorem ExM.step_out {δ : Nat → Nat → Nat} {Dm : Nat → Prop} {S0 S S9 : pv_M} {L : List Nat} {O : Nat → Nat} {i q : Nat} (h : ExM δ Dm S0 S L O (i * 3 + q)) (hi : i < L.length) (h0 : 0 < L.length) (hq : q < 3) (hD : Dm (δ (L.getD i 0) q)) (hin : δ (L.getD i 0) q ∉ L) (g1 : NdAt S9 (L ++ [δ (L.getD i 0) q])) (g2 : FQ k17 S S9) (g3 : ∀ r, r ≠ 75 → r ≠ 88 → mI S9 r = mI S r) {f g : Nat → Int32} (hf : ∀ j, f j = if j = L.length then nI i else mI S 91 j) (hg : ∀ j, g j = if j = L.length then nI q else mI S 92 j) : ExM δ Dm S0 (wI (wI (wI S9 89 (va_up (mI S9 89) (i * 3 + q) (nI L.length))) 91 f) 92 g) (L ++ [δ (L.getD i 0) q]) (va_up O L.length (i * 3 + q)) (i * 3 + q + 1) := by
  have hgd : ∀ j, j < L.length → (L ++ [δ (L.getD i 0) q]).getD j 0 = L.getD j 0 := fun j hj => by
    have z := addc_getD (c := δ (L.getD i 0) q) hj
    rwa [addc_out hin] at z
  have hnew : nxt δ (L ++ [δ (L.getD i 0) q]) (i * 3 + q) = L.length := by
    unfold nxt
    rw [show (i * 3 + q) / 3 = i by omega, show (i * 3 + q) % 3 = q by omega, hgd i hi, List.idxOf_append, if_neg hin]
    simp
  have hold : ∀ p, p < i * 3 + q → nxt δ (L ++ [δ (L.getD i 0) q]) p = nxt δ L p := fun p hp => nxt_app hin (by omega) (h.2.2.2.1 p hp).2
  have hlt : ∀ p, p < i * 3 + q → nxt δ L p < L.length := fun p hp => idx_lt (h.2.2.2.1 p hp).2
  refine ⟨g1, (h.2.1.tr g2).tr ((FQ.cI (by omega)).tr ((FQ.cI (by omega)).tr (FQ.cI (by omega)))), fun c hc => ?_, fun p hp => ?_, fun j h1 h2 => ?_, fun j h1 h2 => ?_⟩
  · rcases List.mem_append.mp hc with z | z
    · exact h.2.2.1 c z
    · simp at z; rw [z]; exact hD
  · show mI (wI S9 89 (va_up (mI S9 89) (i * 3 + q) (nI L.length))) 89 p = _ ∧ _
    rw [mI_wI]
    by_cases e : p = i * 3 + q
    · rw [e, up_same, hnew]
      refine ⟨rfl, ?_⟩
      rw [show (i * 3 + q) / 3 = i by omega, show (i * 3 + q) % 3 = q by omega, hgd i hi]
      simp
    · have hp' : p < i * 3 + q := by omega
      rw [va_up_ne _ _ e, g3 89 (by decide) (by decide), hold p hp']
      refine ⟨(h.2.2.2.1 p hp').1, ?_⟩
      rw [hgd _ (by omega)]
      exact List.mem_append_left _ (h.2.2.2.1 p hp').2
  · simp only [List.length_append, List.length_cons, List.length_nil] at h2
    show f j = _ ∧ g j = _
    rw [hf, hg]
    by_cases e : j = L.length
    · rw [if_pos e, if_pos e, e, up_same]
      exact ⟨congrArg nI (by omega), congrArg nI (by omega)⟩
    · rw [if_neg e, if_neg e, va_up_ne _ _ e]
      exact h.2.2.2.2.1 j h1 (by omega)
  · simp only [List.length_append, List.length_cons, List.length_nil] at h2
    by_cases e : j = L.length
    · rw [e, up_same, hnew]
      refine ⟨by omega, by omega, rfl, fun p hp => ?_⟩
      rw [hold p hp]
      have := hlt p hp
      omega
    · rw [va_up_ne _ _ e]
      have h3 := h.2.2.2.2.2 j h1 (by omega)
      refine ⟨by omega, h3.2.1, by rw [hold _ h3.1]; exact h3.2.2.1, fun p hp => ?_⟩
      rw [hold p (by omega)]
      exact h3.2.2.2 p hp
