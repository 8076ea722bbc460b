/-! breadth first: the list of the codes as they are met -/
def addc (L : List Nat) (c : Nat) : List Nat := if c ∈ L then L else L ++ [c]
theorem addc_in {L : List Nat} {c : Nat} (h : c ∈ L) : addc L c = L := if_pos h
theorem addc_out {L : List Nat} {c : Nat} (h : c ∉ L) : addc L c = L ++ [c] := if_neg h
theorem addc_self (L : List Nat) (c : Nat) : c ∈ addc L c := by
  by_cases h : c ∈ L
  · rw [addc_in h]; exact h
  · rw [addc_out h]; simp
theorem addc_mono {L : List Nat} {c a : Nat} (h : a ∈ L) : a ∈ addc L c := by
  by_cases hc : c ∈ L
  · rw [addc_in hc]; exact h
  · rw [addc_out hc]; simp [h]
theorem addc_mem {L : List Nat} {c a : Nat} (h : a ∈ addc L c) : a ∈ L ∨ a = c := by
  by_cases hc : c ∈ L
  · rw [addc_in hc] at h; exact Or.inl h
  · rw [addc_out hc] at h; simpa using h
theorem addc_nodup {L : List Nat} (c : Nat) (h : L.Nodup) : (addc L c).Nodup := by
  by_cases hc : c ∈ L
  · rw [addc_in hc]; exact h
  · rw [addc_out hc, List.nodup_append]
    refine ⟨h, by simp, fun a ha b hb => ?_⟩
    rw [List.mem_singleton] at hb
    intro e
    rw [e, hb] at ha
    exact hc ha
theorem addc_len (L : List Nat) (c : Nat) : L.length ≤ (addc L c).length := by
  by_cases hc : c ∈ L
  · rw [addc_in hc]; exact Nat.le_refl _
  · rw [addc_out hc]; simp
theorem addc_getD {L : List Nat} {c i : Nat} (h : i < L.length) : (addc L c).getD i 0 = L.getD i 0 := by
  by_cases hc : c ∈ L
  · rw [addc_in hc]
  · rw [addc_out hc, List.getD_eq_getElem?_getD, List.getD_eq_getElem?_getD, List.getElem?_append_left h]
theorem addc_idx {L : List Nat} {c a : Nat} (h : a ∈ L) : (addc L c).idxOf a = L.idxOf a := by
  by_cases hc : c ∈ L
  · rw [addc_in hc]
  · rw [addc_out hc, List.idxOf_append, if_pos h]
theorem idx_lt {L : List Nat} {c : Nat} (h : c ∈ L) : L.idxOf c < L.length := List.idxOf_lt_length_of_mem h
theorem addc_idx_new {L : List Nat} {c : Nat} (h : c ∉ L) : (addc L c).idxOf c = L.length := by
  rw [addc_out h, List.idxOf_append, if_neg h]
  simp
theorem getD_idx {L : List Nat} {c : Nat} (h : c ∈ L) : L.getD (L.idxOf c) 0 = c := by
  rw [List.getD_eq_getElem?_getD, List.getElem?_eq_getElem (idx_lt h)]
  simp
theorem getD_mem {L : List Nat} {i : Nat} (h : i < L.length) : L.getD i 0 ∈ L := by
  rw [List.getD_eq_getElem?_getD, List.getElem?_eq_getElem h]
  simp
theorem idx_getD {L : List Nat} {i : Nat} (hn : L.Nodup) (h : i < L.length) : L.idxOf (L.getD i 0) = i := by
  have hc : L.getD i 0 = L[i] := by rw [List.getD_eq_getElem?_getD, List.getElem?_eq_getElem h]; rfl
  rw [hc]
  have h1 := idx_lt (List.getElem_mem h)
  have h2 : L[L.idxOf L[i]] = L[i] := by simp
  exact (List.getElem_inj hn).mp h2
/-- different numbers below B: at most B of them -/
theorem nodup_le {L : List Nat} {B : Nat} (hn : L.Nodup) (hB : ∀ c, c ∈ L → c < B) : L.length ≤ B := by
  refine fb_holes B L.length (fun i => L.getD i 0) (fun i hi => hB _ (getD_mem hi)) (fun i j hij hj e => ?_)
  have e : L.getD i 0 = L.getD j 0 := e
  have h1 := idx_getD hn (show i < L.length by omega)
  rw [e, idx_getD hn hj] at h1
  omega
def addq (δ : Nat → Nat → Nat) (c : Nat) : Nat → List Nat → List Nat
  | 0, L => L
  | q + 1, L => addc (addq δ c q L) (δ c q)
def bfsF (δ : Nat → Nat → Nat) : Nat → Nat → List Nat → List Nat
  | 0, _, L => L
  | n + 1, i, L => if i < L.length then bfsF δ n (i + 1) (addq δ (L.getD i 0) 3 L) else L
theorem bfsF_end {δ : Nat → Nat → Nat} {L : List Nat} {i : Nat} (h : L.length ≤ i) : ∀ n, bfsF δ n i L = L
  | 0 => rfl
  | n + 1 => by unfold bfsF; rw [if_neg (by omega)]
theorem bfsF_step {δ : Nat → Nat → Nat} {L : List Nat} {i n : Nat} (h : i < L.length) (hn : 0 < n) : bfsF δ n i L = bfsF δ (n - 1) (i + 1) (addq δ (L.getD i 0) 3 L) := by
  cases n with
  | zero => omega
  | succ n => rw [bfsF, if_pos h]; rfl
/-- where the place p = 3 * i + letter leads -/
def nxt (δ : Nat → Nat → Nat) (L : List Nat) (p : Nat) : Nat := L.idxOf (δ (L.getD (p / 3) 0) (p % 3))
/-- everything outside the cells P is as it was -/
def FR (P : Nat → Prop) (S T : pv_M) : Prop := ∀ r, ¬ P r → mR T r = mR S r ∧ mI T r = mI S r ∧ mJ T r = mJ S r ∧ mF T r = mF S r ∧ mD T r = mD S r
theorem FN.fr {P : Nat → Prop} {S T : pv_M} (h : FN P S T) : FR P S T := fun r hr => ⟨by rw [h.1], h.2 r hr⟩
theorem FR.rf {P : Nat → Prop} {S : pv_M} : FR P S S := fun _ _ => ⟨rfl, rfl, rfl, rfl, rfl⟩
theorem FR.tr {P : Nat → Prop} {S T U : pv_M} (h : FR P S T) (k : FR P T U) : FR P S U := fun r hr => ⟨(k r hr).1.trans (h r hr).1, (k r hr).2.1.trans (h r hr).2.1, (k r hr).2.2.1.trans (h r hr).2.2.1, (k r hr).2.2.2.1.trans (h r hr).2.2.2.1, (k r hr).2.2.2.2.trans (h r hr).2.2.2.2⟩
theorem FR.mono {P Q : Nat → Prop} {S T : pv_M} (h : FR P S T) (hq : ∀ r, P r → Q r) : FR Q S T := fun r hr => h r (fun p => hr (hq r p))
theorem FR.wR {P : Nat → Prop} {S : pv_M} {i : Nat} {f : Nat → Option Nat} (h : P i) : FR P S (wR S i f) := fun r hr => ⟨mR_wR_ne (fun e => hr (e ▸ h)), rfl, rfl, rfl, rfl⟩
theorem AutoAt.keepR {P : Nat → Prop} {S S' : pv_M} {a t n F : Nat} {T : Nat → Nat} (h : AutoAt S a t n T F) (k : FR P S S') (h1 : ¬ P a) (h2 : ¬ P t) : AutoAt S' a t n T F :=
  ⟨h.1, h.2.1, h.2.2.1, h.2.2.2.1, by rw [(k a h1).1]; exact h.2.2.2.2.1, by rw [(k a h1).2.1]; exact h.2.2.2.2.2.1, by rw [(k a h1).2.1]; exact h.2.2.2.2.2.2.1, fun j hj => by rw [(k t h2).2.1]; exact h.2.2.2.2.2.2.2 j hj⟩
theorem WordAt.keepR {P : Nat → Prop} {S S' : pv_M} {a t n : Nat} {L : Nat → Nat} (h : WordAt S a t n L) (k : FR P S S') (h1 : ¬ P a) (h2 : ¬ P t) : WordAt S' a t n L :=
  ⟨h.1, h.2.1, h.2.2.1, h.2.2.2.1, by rw [(k a h1).1]; exact h.2.2.2.2.1, by rw [(k a h1).2.1]; exact h.2.2.2.2.2.1, h.2.2.2.2.2.2.1, fun j hj => by rw [(k t h2).2.1]; exact h.2.2.2.2.2.2.2 j hj⟩
/-! the minimizer: 29 (keys, count, codes, numbers, nexts, origins, accepting, kindCount, kinds, newKinds) .. 36 -/
abbrev kM : Nat → Prop := fun r => 26 ≤ r ∧ r ≤ 36
def MRf (S : pv_M) : Prop := mR S 29 0 = some 26 ∧ mR S 29 2 = some 30 ∧ mR S 29 3 = some 31 ∧ mR S 29 4 = some 32 ∧ mR S 29 5 = some 33 ∧ mR S 29 6 = some 34
/-- the codes that were met, and by which places -/
def NuAt (S : pv_M) (B : Nat) (L : List Nat) (O : Nat → Nat) : Prop := MRf S ∧ mI S 29 1 = nI L.length ∧ (∀ i, i < L.length → mI S 30 i = nI (L.getD i 0)) ∧ (∀ c, c < B → mI S 31 c = if c ∈ L then nI (L.idxOf c) else -1) ∧ (∀ i, i < L.length → mI S 33 i = nI (O i)) ∧ L.Nodup ∧ (∀ c, c ∈ L → c < B) ∧ B ≤ 384
theorem NuAt.len {S : pv_M} {B : Nat} {L : List Nat} {O : Nat → Nat} (h : NuAt S B L O) : L.length ≤ B := nodup_le h.2.2.2.2.2.1 h.2.2.2.2.2.2.1
theorem nI_nm1 {k : Nat} (h : k < 2 ^ 31) : ¬ nI k = -1 := by
  intro e
  have := nI_pos h
  rw [e] at this
  exact this (by decide)
/-- the explored machine as a graph: k states, the targets nx (3 * state + letter), which states accept -/
def Gr (S : pv_M) (k : Nat) (nx : Nat → Nat) (ac : Nat → Bool) : Prop := MRf S ∧ mI S 29 1 = nI k ∧ 0 < k ∧ k ≤ 384 ∧ (∀ p, p < 3 * k → mI S 32 p = nI (nx p) ∧ nx p < k) ∧ ∀ i, i < k → mI S 34 i = bI (ac i)
/-- by which place each number came first -/
def Or_ (k : Nat) (nx O : Nat → Nat) : Prop := O 0 = 0 ∧ ∀ j, 0 < j → j < k → O j < 3 * k ∧ O j / 3 < j ∧ nx (O j) = j ∧ ∀ p, p < O j → nx p ≠ j
