/-! THE ATOMS: the sets of quotients that words have -/
theorem addq_sub (δ : Nat → Nat → Nat) (c : Nat) {L : List Nat} {a : Nat} (h : a ∈ L) : ∀ q, a ∈ addq δ c q L
  | 0 => h
  | q + 1 => addc_mono (addq_sub δ c h q)
theorem addq_has (δ : Nat → Nat → Nat) (c : Nat) (L : List Nat) : ∀ q p, p < q → δ c p ∈ addq δ c q L
  | 0, _, h => absurd h (Nat.not_lt_zero _)
  | q + 1, p, h => by
    show δ c p ∈ addc (addq δ c q L) (δ c q)
    by_cases e : p = q
    · subst e; exact addc_self _ _
    · exact addc_mono (addq_has δ c L q p (by omega))
theorem addq_getD (δ : Nat → Nat → Nat) (c : Nat) {L : List Nat} {i : Nat} (h : i < L.length) : ∀ q, (addq δ c q L).getD i 0 = L.getD i 0
  | 0 => rfl
  | q + 1 => by
    show (addc (addq δ c q L) (δ c q)).getD i 0 = _
    rw [addc_getD (Nat.lt_of_lt_of_le h (addq_len δ c L q)), addq_getD δ c h q]
theorem bfsF_cl {δ : Nat → Nat → Nat} : ∀ (n i : Nat) (L : List Nat), (bfsF δ n i L).length ≤ i + n → (∀ j, j < i → j < L.length → ∀ q, q < 3 → δ (L.getD j 0) q ∈ L) → ∀ j, j < (bfsF δ n i L).length → ∀ q, q < 3 → δ ((bfsF δ n i L).getD j 0) q ∈ bfsF δ n i L
  | 0, i, L, hl, h => fun j hj q hq => h j (by have : L.length ≤ i + 0 := hl; have : j < L.length := hj; omega) hj q hq
  | n + 1, i, L, hl, h => by
    by_cases z : i < L.length
    · have e : bfsF δ (n + 1) i L = bfsF δ n (i + 1) (addq δ (L.getD i 0) 3 L) := by rw [bfsF, if_pos z]
      rw [e] at hl ⊢
      refine bfsF_cl n (i + 1) _ (by omega) (fun j hj hj2 q hq => ?_)
      have hjL : j < L.length := by omega
      rw [addq_getD δ _ hjL]
      by_cases e2 : j = i
      · subst e2; exact addq_has δ _ L 3 q hq
      · exact addq_sub δ _ (h j (by omega) hjL q hq) 3
    · have e : bfsF δ (n + 1) i L = L := bfsF_end (by omega) _
      rw [e]
      intro j hj q hq
      exact h j (by omega) hj q hq
theorem bf_cl {δ : Nat → Nat → Nat} {k0 : Nat} (h : (bf δ k0).length ≤ 740) {c : Nat} (hc : c ∈ bf δ k0) {q : Nat} (hq : q < 3) : δ c q ∈ bf δ k0 := by
  have := bfsF_cl 741 0 [k0] (by show (bf δ k0).length ≤ _; omega) (fun j hj => absurd hj (Nat.not_lt_zero _)) _ (idx_lt hc) q hq
  rwa [getD_idx hc] at this
theorem bfsF_in {δ : Nat → Nat → Nat} {a : Nat} : ∀ (n i : Nat) (L : List Nat), a ∈ L → a ∈ bfsF δ n i L
  | 0, _, _, h => h
  | n + 1, i, L, h => by
    unfold bfsF
    by_cases z : i < L.length
    · rw [if_pos z]; exact bfsF_in n (i + 1) _ (addq_sub δ _ h 3)
    · rw [if_neg z]; exact h
theorem bf_0 {δ : Nat → Nat → Nat} {k0 : Nat} : k0 ∈ bf δ k0 := bfsF_in 741 0 [k0] (by simp)
theorem bf_ind {δ : Nat → Nat → Nat} {k0 : Nat} {P : Nat → Prop} (h0 : P k0) (hs : ∀ c q, P c → q < 3 → P (δ c q)) : ∀ c, c ∈ bf δ k0 → P c := bfsF_dm hs 741 0 [k0] (fun a ha => by rw [List.mem_singleton.mp ha]; exact h0)
theorem bf_nodup {δ : Nat → Nat → Nat} {k0 : Nat} : (bf δ k0).Nodup := bfsF_nodup δ 741 0 [k0] (by simp)
/-- an invariant of closed lists: told by the start and the steps, inside the list -/
theorem bf_ind2 {δ : Nat → Nat → Nat} {k0 : Nat} {P : Nat → Prop} (hl : (bf δ k0).length ≤ 740) (h0 : P k0) (hs : ∀ c q, c ∈ bf δ k0 → P c → q < 3 → P (δ c q)) : ∀ c, c ∈ bf δ k0 → P c := fun c hc =>
  (bf_ind (P := fun c => c ∈ bf δ k0 ∧ P c) ⟨bf_0, h0⟩ (fun c q h hq => ⟨bf_cl hl h.1 hq, hs c q h.1 h.2 hq⟩) c hc).2
abbrev Rm (A : Ab) (a : Nat) : List Nat := bf (d8 A a) 0
def cQ (A : Ab) (a : Nat) : Nat := cM (d8 A a) (a8 A a) (Rm A a)
def kQ (A : Ab) (a : Nat) : Nat → Nat := kM_ (d8 A a) (a8 A a) (Rm A a)
def qS (A : Ab) (a q : Nat) : Nat := (Rm A a).getD (fi (kQ A a) (Rm A a).length q) 0
def co (A : Ab) (a s : Nat) : Nat := kQ A a ((Rm A a).idxOf s)
abbrev d6 (A : Ab) (a : Nat) : Nat → Nat → Nat := fun X q => lbM A a X q (rN A a)
abbrev k6 (A : Ab) (a : Nat) : Nat := fsM A a (rN A a)
abbrev a6 : Nat → Bool := fun c => c.testBit 0
abbrev Rb (A : Ab) (a : Nat) : List Nat := bf (d6 A a) (k6 A a)
def ofM (c : Nat) (qs : Nat → Nat) (X : Nat) : Nat := orf (fun q => X.testBit (qs q)) (fun q => 2 ^ q) c
abbrev ofS (A : Ab) (a X : Nat) : Nat := ofM (cQ A a) (qS A a) X
def AL (A : Ab) (a : Nat) : List Nat := (List.range 64).filter (fun s => decide (s ∈ (Rb A a).map (ofS A a)))
/-- a letter put ahead of the words of a set -/
def sa (A : Ab) (a X l : Nat) : Nat := orf (fun q => X.testBit (co A a (rT A a (qS A a q * 3 + l)))) (fun q => 2 ^ q) (cQ A a)
abbrev fA (A : Ab) (a : Nat) : Nat := ofS A a (k6 A a)
theorem Rm_eq {A : Ab} {a : Nat} (hg : gdR (A.1.1 a)) : Rm A a = R8 A a := bf_more (Dm := fun c => c < rN A a) (fun c h => Nat.lt_of_lt_of_le h hg.2.1) (fun c q h hq => hg.2.2.1 _ (by show c * 3 + q < (A.1.1 a).1 * 3; have h : c < (A.1.1 a).1 := h; omega)) hg.1 (by decide)
theorem Rm_len {A : Ab} {a : Nat} (hg : gdR (A.1.1 a)) : (Rm A a).length ≤ 6 := by rw [Rm_eq hg]; exact R8_len hg
theorem Rm_dm {A : Ab} {a : Nat} (hg : gdR (A.1.1 a)) : ∀ s, s ∈ Rm A a → s < rN A a := bf_ind (P := fun c => c < rN A a) hg.1 (fun c q h hq => hg.2.2.1 _ (by show c * 3 + q < (A.1.1 a).1 * 3; have h : c < (A.1.1 a).1 := h; omega))
theorem Rm_cl {A : Ab} {a : Nat} (hg : gdR (A.1.1 a)) {s q : Nat} (hs : s ∈ Rm A a) (hq : q < 3) : rT A a (s * 3 + q) ∈ Rm A a := bf_cl (δ := d8 A a) (Nat.le_trans (Rm_len hg) (by decide)) hs hq
theorem Rm_pos {A : Ab} {a : Nat} : 0 < (Rm A a).length := Nat.lt_of_le_of_lt (Nat.zero_le _) (idx_lt (bf_0 (δ := d8 A a) (k0 := 0)))
theorem Rm_n {A : Ab} {a : Nat} (hg : gdR (A.1.1 a)) : ∀ p, p < 3 * (Rm A a).length → nxt (d8 A a) (Rm A a) p < (Rm A a).length := fun p hp => idx_lt (Rm_cl hg (getD_mem (show p / 3 < (Rm A a).length by omega)) (by omega))
theorem cQ_le {A : Ab} {a : Nat} (hg : gdR (A.1.1 a)) : cQ A a ≤ 6 := Nat.le_trans cM_le (Rm_len hg)
theorem cQ_pos {A : Ab} {a : Nat} : 0 < cQ A a := cF_pos Rm_pos
theorem fi_Q {A : Ab} {a q : Nat} (hq : q < cQ A a) : fi (kQ A a) (Rm A a).length q < (Rm A a).length ∧ kQ A a (fi (kQ A a) (Rm A a).length q) = q ∧ ∀ j, j < fi (kQ A a) (Rm A a).length q → kQ A a j ≠ q := fi_ok kdF_fo hq
theorem qS_mem {A : Ab} {a q : Nat} (hq : q < cQ A a) : qS A a q ∈ Rm A a := getD_mem (fi_Q hq).1
theorem qS_lt {A : Ab} {a : Nat} (hg : gdR (A.1.1 a)) {q : Nat} (hq : q < cQ A a) : qS A a q < 6 := Nat.lt_of_lt_of_le (Rm_dm hg _ (qS_mem hq)) hg.2.1
theorem co_qS {A : Ab} {a q : Nat} (hq : q < cQ A a) : co A a (qS A a q) = q := by
  unfold co qS
  rw [idx_getD bf_nodup (fi_Q hq).1]
  exact (fi_Q hq).2.1
theorem co_lt {A : Ab} {a s : Nat} (hs : s ∈ Rm A a) : co A a s < cQ A a := kdF_lt (idx_lt hs)
theorem nxt_Q {A : Ab} {a s q : Nat} (hs : s ∈ Rm A a) (hq : q < 3) : nxt (d8 A a) (Rm A a) ((Rm A a).idxOf s * 3 + q) = (Rm A a).idxOf (rT A a (s * 3 + q)) := by
  unfold nxt
  rw [show ((Rm A a).idxOf s * 3 + q) / 3 = (Rm A a).idxOf s by omega, show ((Rm A a).idxOf s * 3 + q) % 3 = q by omega, getD_idx hs]
theorem co_step {A : Ab} {a : Nat} (hg : gdR (A.1.1 a)) {s t q : Nat} (hs : s ∈ Rm A a) (ht : t ∈ Rm A a) (hq : q < 3) (h : co A a s = co A a t) : co A a (rT A a (s * 3 + q)) = co A a (rT A a (t * 3 + q)) := by
  have := kdF_stable (nx := nxt (d8 A a) (Rm A a)) (ac := fun i => a8 A a ((Rm A a).getD i 0)) Rm_pos (by have := Rm_len hg; omega) (Rm_n hg) (idx_lt hs) (idx_lt ht) h q hq
  rw [nxt_Q hs hq, nxt_Q ht hq] at this
  exact this
theorem co_acc {A : Ab} {a : Nat} (hg : gdR (A.1.1 a)) {s t : Nat} (hs : s ∈ Rm A a) (ht : t ∈ Rm A a) (h : co A a s = co A a t) : (rF A a).testBit s = (rF A a).testBit t := by
  have := kdF_acc (nx := nxt (d8 A a) (Rm A a)) (ac := fun i => a8 A a ((Rm A a).getD i 0)) (by have := Rm_len hg; omega) (Rm_n hg) (idx_lt hs) (idx_lt ht) h
  rw [getD_idx hs, getD_idx ht] at this
  exact this
/-! the sets that are led back -/
theorem lb_bit {A : Ab} {a X q i : Nat} (hi : i < rN A a) : (d6 A a X q).testBit i = X.testBit (rT A a (i * 3 + q)) := by
  show (orf _ _ _).testBit i = _
  rw [orf_pow]
  simp [hi]
theorem k6_bit {A : Ab} {a i : Nat} (hi : i < rN A a) : (k6 A a).testBit i = (rF A a).testBit i := by
  show (orf _ _ _).testBit i = _
  rw [orf_pow]
  simp [hi]
theorem Rb_dm {A : Ab} {a : Nat} : ∀ X, X ∈ Rb A a → X < 2 ^ rN A a := bf_ind (P := fun c => c < 2 ^ rN A a) (pw_n (Nat.le_refl _)) (fun c q h hq => pw_n (Nat.le_refl _))
theorem Rb_len {A : Ab} {a : Nat} (hg : gdR (A.1.1 a)) : (Rb A a).length ≤ 64 := nodup_le bf_nodup (fun X hX => lt64_n hg (Rb_dm X hX))
theorem Rb_cl {A : Ab} {a : Nat} (hg : gdR (A.1.1 a)) {X q : Nat} (hX : X ∈ Rb A a) (hq : q < 3) : d6 A a X q ∈ Rb A a := bf_cl (δ := d6 A a) (Nat.le_trans (Rb_len hg) (by decide)) hX hq
theorem sat {A : Ab} {a : Nat} (hg : gdR (A.1.1 a)) : ∀ X, X ∈ Rb A a → ∀ s t, s ∈ Rm A a → t ∈ Rm A a → co A a s = co A a t → X.testBit s = X.testBit t := by
  refine bf_ind (fun s t hs ht h => ?_) (fun X q hX hq s t hs ht h => ?_)
  · rw [k6_bit (Rm_dm hg s hs), k6_bit (Rm_dm hg t ht)]; exact co_acc hg hs ht h
  · rw [lb_bit (Rm_dm hg s hs), lb_bit (Rm_dm hg t ht)]; exact hX _ _ (Rm_cl hg hs hq) (Rm_cl hg ht hq) (co_step hg hs ht hq h)
theorem ofM_bit {c X i : Nat} {qs : Nat → Nat} : (ofM c qs X).testBit i = (decide (i < c) && X.testBit (qs i)) := orf_pow c
theorem ofS_lt {A : Ab} {a : Nat} (hg : gdR (A.1.1 a)) {X : Nat} : ofS A a X < 64 := pw_lt (cQ_le hg)
theorem ofS_co {A : Ab} {a : Nat} (hg : gdR (A.1.1 a)) {X s : Nat} (hX : X ∈ Rb A a) (hs : s ∈ Rm A a) : (ofS A a X).testBit (co A a s) = X.testBit s := by
  rw [ofM_bit]
  have h := co_lt hs
  simp only [h, decide_true, Bool.true_and]
  exact sat hg X hX _ _ (qS_mem h) hs (co_qS h)
theorem sa_bit {A : Ab} {a X l i : Nat} : (sa A a X l).testBit i = (decide (i < cQ A a) && X.testBit (co A a (rT A a (qS A a i * 3 + l)))) := orf_pow _
theorem sa_of {A : Ab} {a : Nat} (hg : gdR (A.1.1 a)) {X l : Nat} (hX : X ∈ Rb A a) (hl : l < 3) : sa A a (ofS A a X) l = ofS A a (d6 A a X l) := by
  apply Nat.eq_of_testBit_eq
  intro i
  rw [sa_bit, ofM_bit (X := d6 A a X l)]
  by_cases h : i < cQ A a
  · rw [ofS_co hg hX (Rm_cl hg (qS_mem h) hl), lb_bit (Rm_dm hg _ (qS_mem h))]
  · simp [h]
theorem sa_lt {A : Ab} {a : Nat} (hg : gdR (A.1.1 a)) {X l : Nat} : sa A a X l < 64 := pw_lt (cQ_le hg)
theorem AL_mem {A : Ab} {a : Nat} (hg : gdR (A.1.1 a)) {s : Nat} : s ∈ AL A a ↔ ∃ X, X ∈ Rb A a ∧ ofS A a X = s := by
  unfold AL
  rw [List.mem_filter, List.mem_range, decide_eq_true_eq, List.mem_map]
  constructor
  · exact fun h => h.2
  · rintro ⟨X, h1, h2⟩
    exact ⟨by rw [← h2]; exact ofS_lt hg, X, h1, h2⟩
theorem AL_lt {A : Ab} {a s : Nat} (h : s ∈ AL A a) : s < 64 := List.mem_range.mp (List.mem_filter.mp h).1
theorem AL_nodup {A : Ab} {a : Nat} : (AL A a).Nodup := List.nodup_range.filter _
theorem AL_len {A : Ab} {a : Nat} : (AL A a).length ≤ 64 := nodup_le AL_nodup (fun _ h => AL_lt h)
theorem AL_sa {A : Ab} {a : Nat} (hg : gdR (A.1.1 a)) {s l : Nat} (h : s ∈ AL A a) (hl : l < 3) : sa A a s l ∈ AL A a := by
  obtain ⟨X, h1, h2⟩ := (AL_mem hg).mp h
  rw [← h2, sa_of hg h1 hl]
  exact (AL_mem hg).mpr ⟨_, Rb_cl hg h1 hl, rfl⟩
theorem AL_fA {A : Ab} {a : Nat} (hg : gdR (A.1.1 a)) : fA A a ∈ AL A a := (AL_mem hg).mpr ⟨_, bf_0, rfl⟩
theorem AL_pos {A : Ab} {a : Nat} (hg : gdR (A.1.1 a)) : 0 < (AL A a).length := Nat.lt_of_le_of_lt (Nat.zero_le _) (idx_lt (AL_fA hg))
theorem AL_ind {A : Ab} {a : Nat} (hg : gdR (A.1.1 a)) {P : Nat → Prop} (h0 : P (fA A a)) (hs : ∀ s l, s ∈ AL A a → P s → l < 3 → P (sa A a s l)) : ∀ s, s ∈ AL A a → P s := by
  have key : ∀ X, X ∈ Rb A a → P (ofS A a X) := bf_ind2 (Nat.le_trans (Rb_len hg) (by decide)) h0 (fun X q hX hP hq => by
    rw [← sa_of hg hX hq]
    exact hs _ q ((AL_mem hg).mpr ⟨X, hX, rfl⟩) hP hq)
  intro s hs
  obtain ⟨X, h1, h2⟩ := (AL_mem hg).mp hs
  rw [← h2]
  exact key X h1
