/-! a made machine with its last kinds -/
def MkF (δ : Nat → Nat → Nat) (acc : Nat → Bool) (Dm : Nat → Prop) (S' : pv_M) (R : List Nat) : Prop := NdAt S' R ∧ 0 < R.length ∧ (∀ c, c ∈ R → Dm c) ∧ (∀ p, p < 3 * R.length → δ (R.getD (p / 3) 0) (p % 3) ∈ R) ∧ (∀ i, i < R.length → mI S' 90 i = bI (acc (R.getD i 0))) ∧ (∃ O, O 0 = 0 ∧ Or_ R.length (nxt δ R) O ∧ ∀ j, 0 < j → j < R.length → mI S' 91 j = nI (O j / 3) ∧ mI S' 92 j = nI (O j % 3)) ∧ Gk S' R.length (nxt δ R) (kdF R.length (nxt δ R) (fun i => acc (R.getD i 0))) ∧ mI S' 75 29 = nI (cF R.length (nxt δ R) (fun i => acc (R.getD i 0)))
theorem MkP.F {δ : Nat → Nat → Nat} {acc : Nat → Bool} {Dm : Nat → Prop} {S' : pv_M} {R : List Nat} (h : MkP δ acc Dm S' R) : MkF δ acc Dm S' R := by
  obtain ⟨h1, h2, h3, h4, h5, h6, r, e, hG, hc⟩ := h
  have q := ref_end (ac := fun i => acc (R.getD i 0)) h2 h1.2.2.2.2 hG.2.2.1 e
  refine ⟨h1, h2, h3, h4, h5, h6, ⟨hG.1, hG.2.1, hG.2.2.1, fun j hj => by rw [hG.2.2.2.1 j hj, q.1 j hj], fun j hj => by rw [← q.1 j hj]; exact hG.2.2.2.2.1 j hj, hG.2.2.2.2.2⟩, by rw [hc, q.2]⟩
theorem m_makes {l : Launch} {S : pv_M} {A : Ab} {h a b k0 : Nat} {δ : Nat → Nat → Nat} {acc : Nat → Bool} {Dm : Nat → Prop} {X : pv_M → Prop} (hMa : MMach l A h a b k0 δ acc Dm X) (hS : GS S) (hM : MSt S A) (hX : X S) (hB : (bfsF δ 741 0 [k0]).length ≤ 740) : mt l MX12_makes 106 [.ref 75, .int (nI h), .int (nI a), .int (nI b)] S (fun v S' => v = none ∧ MkF δ acc Dm S' (bfsF δ 741 0 [k0]) ∧ FQ k5 S S') :=
  mt_post (k_makes l hMa hS hM hX hB) (fun _ _ q => ⟨q.1, q.2.1.F, q.2.2⟩)
/-! breadth first, under another name for each code -/
theorem map_mem_iff {f : Nat → Nat} {L : List Nat} {c : Nat} (hf : ∀ a b, a ∈ L → f a = f b → b = c → a = b) : f c ∈ L.map f ↔ c ∈ L := by
  constructor
  · intro h
    obtain ⟨a, ha, e⟩ := List.mem_map.mp h
    have := hf a c ha e rfl
    rw [← this]; exact ha
  · intro h; exact List.mem_map.mpr ⟨c, h, rfl⟩
theorem addc_map {f : Nat → Nat} {Dm : Nat → Prop} (hf : ∀ a b, Dm a → Dm b → f a = f b → a = b) {L : List Nat} {c : Nat} (hL : ∀ a, a ∈ L → Dm a) (hc : Dm c) : addc (L.map f) (f c) = (addc L c).map f := by
  have hm : f c ∈ L.map f ↔ c ∈ L := map_mem_iff (fun a b ha e z => hf a b (hL a ha) (z ▸ hc) e)
  by_cases h : c ∈ L
  · rw [addc_in h, addc_in (hm.mpr h)]
  · rw [addc_out h, addc_out (fun z => h (hm.mp z))]; simp
theorem addc_dm {Dm : Nat → Prop} {L : List Nat} {c : Nat} (hL : ∀ a, a ∈ L → Dm a) (hc : Dm c) : ∀ a, a ∈ addc L c → Dm a := fun a ha => by
  rcases addc_mem ha with z | z
  · exact hL a z
  · rw [z]; exact hc
theorem addq_map {f : Nat → Nat} {Dm : Nat → Prop} {δ δ' : Nat → Nat → Nat} (hf : ∀ a b, Dm a → Dm b → f a = f b → a = b) (hD : ∀ c q, Dm c → q < 3 → Dm (δ c q)) (hd : ∀ c q, Dm c → q < 3 → δ' (f c) q = f (δ c q)) {c : Nat} (hc : Dm c) {L : List Nat} (hL : ∀ a, a ∈ L → Dm a) : ∀ q, q ≤ 3 → addq δ' (f c) q (L.map f) = (addq δ c q L).map f ∧ ∀ a, a ∈ addq δ c q L → Dm a
  | 0, _ => ⟨rfl, hL⟩
  | q + 1, hq => by
    obtain ⟨h1, h2⟩ := addq_map hf hD hd hc hL q (by omega)
    refine ⟨?_, addc_dm h2 (hD c q hc (by omega))⟩
    show addc (addq δ' (f c) q (L.map f)) (δ' (f c) q) = (addc (addq δ c q L) (δ c q)).map f
    rw [h1, hd c q hc (by omega)]
    exact addc_map hf h2 (hD c q hc (by omega))
theorem getD_map {f : Nat → Nat} {L : List Nat} {i : Nat} (h : i < L.length) : (L.map f).getD i 0 = f (L.getD i 0) := by
  rw [List.getD_eq_getElem?_getD, List.getD_eq_getElem?_getD, List.getElem?_map, List.getElem?_eq_getElem h]
  rfl
theorem bfsF_map {f : Nat → Nat} {Dm : Nat → Prop} {δ δ' : Nat → Nat → Nat} (hf : ∀ a b, Dm a → Dm b → f a = f b → a = b) (hD : ∀ c q, Dm c → q < 3 → Dm (δ c q)) (hd : ∀ c q, Dm c → q < 3 → δ' (f c) q = f (δ c q)) : ∀ (n i : Nat) (L : List Nat), (∀ a, a ∈ L → Dm a) → bfsF δ' n i (L.map f) = (bfsF δ n i L).map f
  | 0, _, _, _ => rfl
  | n + 1, i, L, hL => by
    unfold bfsF
    rw [List.length_map]
    by_cases h : i < L.length
    · rw [if_pos h, if_pos h, getD_map h]
      have q := addq_map hf hD hd (hL _ (getD_mem h)) hL 3 (Nat.le_refl _)
      rw [q.1]
      exact bfsF_map hf hD hd n (i + 1) _ q.2
    · rw [if_neg h, if_neg h]
theorem bfsF_dm {Dm : Nat → Prop} {δ : Nat → Nat → Nat} (hD : ∀ c q, Dm c → q < 3 → Dm (δ c q)) : ∀ (n i : Nat) (L : List Nat), (∀ a, a ∈ L → Dm a) → ∀ a, a ∈ bfsF δ n i L → Dm a
  | 0, _, _, hL => hL
  | n + 1, i, L, hL => by
    unfold bfsF
    by_cases h : i < L.length
    · rw [if_pos h]
      exact bfsF_dm hD n (i + 1) _ (addq_map (f := id) (δ' := δ) (fun a b _ _ e => e) hD (fun _ _ _ _ => rfl) (hL _ (getD_mem h)) hL 3 (Nat.le_refl _)).2
    · rw [if_neg h]; exact hL
theorem addq_nodup (δ : Nat → Nat → Nat) (c : Nat) {L : List Nat} (h : L.Nodup) : ∀ q, (addq δ c q L).Nodup
  | 0 => h
  | q + 1 => addc_nodup _ (addq_nodup δ c h q)
theorem bfsF_nodup (δ : Nat → Nat → Nat) : ∀ (n i : Nat) (L : List Nat), L.Nodup → (bfsF δ n i L).Nodup
  | 0, _, _, h => h
  | n + 1, i, L, h => by
    unfold bfsF
    by_cases z : i < L.length
    · rw [if_pos z]; exact bfsF_nodup δ n (i + 1) _ (addq_nodup δ _ h 3)
    · rw [if_neg z]; exact h
/-- more rounds than there are codes change nothing -/
theorem bfsF_more {δ : Nat → Nat → Nat} {B : Nat} {Dm : Nat → Prop} (hB : ∀ c, Dm c → c < B) (hD : ∀ c q, Dm c → q < 3 → Dm (δ c q)) (d : Nat) : ∀ (n i : Nat) (L : List Nat), L.Nodup → (∀ a, a ∈ L → Dm a) → B ≤ i + n → bfsF δ (n + d) i L = bfsF δ n i L
  | 0, i, L, hn, hL, h => by
    have : L.length ≤ B := nodup_le hn (fun c hc => hB c (hL c hc))
    rw [bfsF_end (by omega), bfsF_end (by omega)]
  | n + 1, i, L, hn, hL, h => by
    rw [show n + 1 + d = n + d + 1 by omega]
    unfold bfsF
    by_cases z : i < L.length
    · rw [if_pos z, if_pos z]
      exact bfsF_more hB hD d n (i + 1) _ (addq_nodup δ _ hn 3) (addq_map (f := id) (δ' := δ) (fun a b _ _ e => e) hD (fun _ _ _ _ => rfl) (hL _ (getD_mem z)) hL 3 (Nat.le_refl _)).2 (by omega)
    · rw [if_neg z, if_neg z]
theorem idx_map {f : Nat → Nat} {Dm : Nat → Prop} (hf : ∀ a b, Dm a → Dm b → f a = f b → a = b) : ∀ {L : List Nat} {c : Nat}, (∀ a, a ∈ L → Dm a) → Dm c → (L.map f).idxOf (f c) = L.idxOf c
  | [], _, _, _ => rfl
  | a :: L, c, hL, hc => by
    rw [List.map_cons, List.idxOf_cons, List.idxOf_cons]
    have ih := idx_map hf (L := L) (c := c) (fun b hb => hL b (List.mem_cons_of_mem _ hb)) hc
    by_cases e : a = c
    · simp [e]
    · have e2 : ¬ f a = f c := fun z => e (hf a c (hL a List.mem_cons_self) hc z)
      rw [ih, beq_false_of_ne e, beq_false_of_ne e2]
/-- one graph on both sides -/
theorem nxt_map {f : Nat → Nat} {Dm : Nat → Prop} {δ δ' : Nat → Nat → Nat} (hf : ∀ a b, Dm a → Dm b → f a = f b → a = b) (hD : ∀ c q, Dm c → q < 3 → Dm (δ c q)) (hd : ∀ c q, Dm c → q < 3 → δ' (f c) q = f (δ c q)) {R : List Nat} (hR : ∀ a, a ∈ R → Dm a) {p : Nat} (hp : p < 3 * R.length) : nxt δ' (R.map f) p = nxt δ R p := by
  unfold nxt
  have h1 : p / 3 < R.length := by omega
  have h2 := hR _ (getD_mem h1)
  rw [getD_map h1, hd _ _ h2 (by omega)]
  exact idx_map hf hR (hD _ _ h2 (by omega))
theorem ksM_cong {k : Nat} {nx nx' : Nat → Nat} {ac ac' : Nat → Bool} (hn : ∀ p, p < 3 * k → nx p < k) (h1 : ∀ p, p < 3 * k → nx p = nx' p) (h2 : ∀ i, i < k → ac i = ac' i) : ∀ r j, j < k → ksM k nx ac r j = ksM k nx' ac' r j
  | 0, j, hj => by
    show kd0 ac j = kd0 ac' j
    unfold kd0
    rw [h2 j hj, h2 0 (by omega)]
  | r + 1, j, hj => by
    have ih := ksM_cong hn h1 h2 r
    have hv : ∀ i, i < k → kvM (ksM k nx ac r) nx i = kvM (ksM k nx' ac' r) nx' i := fun i hi => by
      rw [kvM_cong hi hn ih]
      unfold kvM
      rw [h1 (i * 3 + 0) (by omega), h1 (i * 3 + 1) (by omega), h1 (i * 3 + 2) (by omega)]
    show (foL _ k).idxOf _ = (foL _ k).idxOf _
    rw [foL_cong k hv, hv j hj]
theorem kdF_cong {k : Nat} {nx nx' : Nat → Nat} {ac ac' : Nat → Bool} (hn : ∀ p, p < 3 * k → nx p < k) (h1 : ∀ p, p < 3 * k → nx p = nx' p) (h2 : ∀ i, i < k → ac i = ac' i) : ∀ j, j < k → kdF k nx ac j = kdF k nx' ac' j := ksM_cong hn h1 h2 (k + 2)
theorem cF_cong {k : Nat} {nx nx' : Nat → Nat} {ac ac' : Nat → Bool} (hn : ∀ p, p < 3 * k → nx p < k) (h1 : ∀ p, p < 3 * k → nx p = nx' p) (h2 : ∀ i, i < k → ac i = ac' i) : cF k nx ac = cF k nx' ac' := by
  unfold cF
  rw [foL_cong k (kdF_cong hn h1 h2)]
/-- the first state of a kind is there -/
theorem fi_ok {kd : Nat → Nat} {k q : Nat} (h : ∀ i, i < k → kd i = (foL kd k).idxOf (kd i)) (hq : q < (foL kd k).length) : fi kd k q < k ∧ kd (fi kd k q) = q ∧ ∀ j, j < fi kd k q → kd j ≠ q := by
  obtain ⟨i, hi, e⟩ := foL_of (getD_mem hq)
  have e2 : kd i = q := by
    rw [h i hi, ← e]
    exact idx_getD (foL_nodup kd k) hq
  have h1 := fa_first_no (fun j => decide (kd j = q)) k
  have h2 := fa_first_yes (fun j => decide (kd j = q)) k
  have hlt : fi kd k q < k := by
    rcases Nat.lt_or_ge i (fi kd k q) with z | z
    · have := h1 i z
      simp [e2] at this
    · omega
  exact ⟨hlt, of_decide_eq_true (h2 hlt), fun j hj => of_decide_eq_false (h1 j hj)⟩
