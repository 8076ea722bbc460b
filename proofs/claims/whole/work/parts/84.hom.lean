/-! A MACHINE AND ITS IMAGE: minimal automata are the same -/
def dd (f : Nat → Nat) (L : List Nat) : List Nat := L.foldl (fun acc x => addc acc (f x)) []
theorem dd_fold_mem {f : Nat → Nat} {y : Nat} : ∀ (L M : List Nat), y ∈ L.foldl (fun acc x => addc acc (f x)) M ↔ y ∈ M ∨ ∃ x, x ∈ L ∧ f x = y
  | [], M => by simp
  | c :: L, M => by
    show y ∈ L.foldl (fun acc x => addc acc (f x)) (addc M (f c)) ↔ _
    rw [dd_fold_mem L]
    constructor
    · rintro (h | ⟨x, h1, h2⟩)
      · rcases addc_mem h with z | z
        · exact Or.inl z
        · exact Or.inr ⟨c, List.mem_cons_self, z.symm⟩
      · exact Or.inr ⟨x, List.mem_cons_of_mem _ h1, h2⟩
    · rintro (h | ⟨x, h1, h2⟩)
      · exact Or.inl (addc_mono h)
      · rcases List.mem_cons.mp h1 with z | z
        · subst z; rw [← h2]; exact Or.inl (addc_self _ _)
        · exact Or.inr ⟨x, z, h2⟩
theorem dd_mem {f : Nat → Nat} {y : Nat} {L : List Nat} : y ∈ dd f L ↔ ∃ x, x ∈ L ∧ f x = y := by
  unfold dd
  rw [dd_fold_mem]
  simp
theorem dd_in {f : Nat → Nat} {x : Nat} {L : List Nat} (h : x ∈ L) : f x ∈ dd f L := dd_mem.mpr ⟨x, h, rfl⟩
theorem dd_fold_nodup {f : Nat → Nat} : ∀ (L M : List Nat), M.Nodup → (L.foldl (fun acc x => addc acc (f x)) M).Nodup
  | [], _, h => h
  | c :: L, M, h => dd_fold_nodup L _ (addc_nodup (f c) h)
theorem dd_nodup {f : Nat → Nat} {L : List Nat} : (dd f L).Nodup := dd_fold_nodup L [] List.nodup_nil
theorem dd_snoc {f : Nat → Nat} {L : List Nat} {c : Nat} : dd f (L ++ [c]) = addc (dd f L) (f c) := by
  unfold dd
  rw [List.foldl_append]
  rfl
theorem dd_addc {f : Nat → Nat} {L : List Nat} {c : Nat} : dd f (addc L c) = addc (dd f L) (f c) := by
  by_cases h : c ∈ L
  · rw [addc_in h, addc_in (dd_in h)]
  · rw [addc_out h, dd_snoc]
theorem dd_addq {f : Nat → Nat} {δ δ' : Nat → Nat → Nat} {c : Nat} (hd : ∀ q, q < 3 → δ' (f c) q = f (δ c q)) (L : List Nat) : ∀ q, q ≤ 3 → dd f (addq δ c q L) = addq δ' (f c) q (dd f L)
  | 0, _ => rfl
  | q + 1, h => by
    show dd f (addc (addq δ c q L) (δ c q)) = addc (addq δ' (f c) q (dd f L)) (δ' (f c) q)
    rw [dd_addc, dd_addq hd L q (by omega), hd q (by omega)]
theorem dd_fold_get {f : Nat → Nat} {j : Nat} : ∀ (L M : List Nat), j < M.length → j < (L.foldl (fun acc x => addc acc (f x)) M).length ∧ (L.foldl (fun acc x => addc acc (f x)) M).getD j 0 = M.getD j 0
  | [], _, h => ⟨h, rfl⟩
  | c :: L, M, h => by
    have := dd_fold_get (f := f) L (addc M (f c)) (Nat.lt_of_lt_of_le h (addc_len _ _))
    rw [addc_getD h] at this
    exact this
theorem dd_get {f : Nat → Nat} {L M : List Nat} {j : Nat} (h : j < (dd f L).length) : j < (dd f (L ++ M)).length ∧ (dd f (L ++ M)).getD j 0 = (dd f L).getD j 0 := by
  unfold dd
  rw [List.foldl_append]
  exact dd_fold_get M _ h
theorem dd_len {f : Nat → Nat} : ∀ (L M : List Nat), (L.foldl (fun acc x => addc acc (f x)) M).length ≤ M.length + L.length
  | [], M => Nat.le_refl _
  | c :: L, M => by
    have h1 := dd_len (f := f) L (addc M (f c))
    have h2 := addc_le M (f c)
    show (L.foldl (fun acc x => addc acc (f x)) (addc M (f c))).length ≤ _
    rw [List.length_cons]
    omega
theorem addq_pre (δ : Nat → Nat → Nat) (c : Nat) (L : List Nat) : ∀ q, ∃ M, addq δ c q L = L ++ M
  | 0 => ⟨[], (List.append_nil _).symm⟩
  | q + 1 => by
    obtain ⟨M, h⟩ := addq_pre δ c L q
    show ∃ M, addc (addq δ c q L) (δ c q) = L ++ M
    by_cases z : δ c q ∈ addq δ c q L
    · exact ⟨M, by rw [addc_in z, h]⟩
    · exact ⟨M ++ [δ c q], by rw [addc_out z, h, List.append_assoc]⟩
theorem addq_all (δ : Nat → Nat → Nat) (c : Nat) (L : List Nat) : ∀ q, (∀ p, p < q → δ c p ∈ L) → addq δ c q L = L
  | 0, _ => rfl
  | q + 1, h => by
    show addc (addq δ c q L) (δ c q) = L
    rw [addq_all δ c L q (fun p hp => h p (by omega)), addc_in (h q (by omega))]
theorem getD_mid {P Q : List Nat} {c : Nat} : (P ++ c :: Q).getD P.length 0 = c := by
  rw [List.getD_eq_getElem?_getD, List.getElem?_append_right (Nat.le_refl _), Nat.sub_self]
  rfl
theorem dd_bfs {f : Nat → Nat} {δ δ' : Nat → Nat → Nat} {Dm : Nat → Prop} (hD : ∀ c q, Dm c → q < 3 → Dm (δ c q)) (hd : ∀ c q, Dm c → q < 3 → δ' (f c) q = f (δ c q)) : ∀ (n : Nat) (P Q : List Nat) (N : Nat), (bfsF δ n P.length (P ++ Q)).length ≤ P.length + n → (∀ c, c ∈ P → ∀ q, q < 3 → δ c q ∈ P ++ Q) → (∀ c, c ∈ P ++ Q → Dm c) → n ≤ N → bfsF δ' N (dd f P).length (dd f (P ++ Q)) = dd f (bfsF δ n P.length (P ++ Q)) := by
  intro n
  induction n with
  | zero =>
    intro P Q N hl _ _ _
    have hl : (P ++ Q).length ≤ P.length + 0 := hl
    have hq : Q = [] := by
      rw [List.length_append] at hl
      exact List.length_eq_zero_iff.mp (by omega)
    subst hq
    rw [List.append_nil, bfsF_end (Nat.le_refl _), bfsF_end (Nat.le_refl _)]
  | succ n ih =>
    intro P Q N hl hcl hDm hN
    cases Q with
    | nil => rw [List.append_nil, bfsF_end (Nat.le_refl _), bfsF_end (Nat.le_refl _)]
    | cons c Q =>
      have hlt : P.length < (P ++ c :: Q).length := by rw [List.length_append, List.length_cons]; omega
      have e : bfsF δ (n + 1) P.length (P ++ c :: Q) = bfsF δ n (P.length + 1) (addq δ c 3 (P ++ c :: Q)) := by rw [bfsF, if_pos hlt, getD_mid]
      have hc : Dm c := hDm c (by simp)
      obtain ⟨M, hM⟩ := addq_pre δ c (P ++ c :: Q) 3
      have e2 : addq δ c 3 (P ++ c :: Q) = (P ++ [c]) ++ (Q ++ M) := by rw [hM]; simp
      have e3 : P.length + 1 = (P ++ [c]).length := by simp
      have hcl' : ∀ x, x ∈ P ++ [c] → ∀ q, q < 3 → δ x q ∈ (P ++ [c]) ++ (Q ++ M) := by
        intro x hx q hq
        rw [← e2]
        rcases List.mem_append.mp hx with z | z
        · exact addq_sub δ c (hcl x z q hq) 3
        · rw [List.mem_singleton.mp z]; exact addq_has δ c _ 3 q hq
      have hDm' : ∀ x, x ∈ (P ++ [c]) ++ (Q ++ M) → Dm x := by
        intro x hx
        rw [← e2] at hx
        have key : ∀ q, q ≤ 3 → ∀ x, x ∈ addq δ c q (P ++ c :: Q) → Dm x := by
          intro q
          induction q with
          | zero => intro _; exact hDm
          | succ q iq =>
            intro hq x hx
            rcases addc_mem hx with z | z
            · exact iq (by omega) x z
            · rw [z]; exact hD c q hc (by omega)
        exact key 3 (Nat.le_refl _) x hx
      rw [e] at hl ⊢
      rw [e2, e3] at hl
      have hl' : (bfsF δ n (P ++ [c]).length ((P ++ [c]) ++ (Q ++ M))).length ≤ (P ++ [c]).length + n := by rw [← e3]; rw [← e3] at hl; omega
      have eD : dd f ((P ++ [c]) ++ (Q ++ M)) = addq δ' (f c) 3 (dd f (P ++ c :: Q)) := by rw [← e2, dd_addq (fun q hq => hd c q hc hq) _ 3 (Nat.le_refl _)]
      by_cases hin : f c ∈ dd f P
      · have hN' := ih (P ++ [c]) (Q ++ M) N hl' hcl' hDm' (by omega)
        rw [dd_snoc, addc_in hin, eD] at hN'
        rw [e2, e3, ← hN']
        have : addq δ' (f c) 3 (dd f (P ++ c :: Q)) = dd f (P ++ c :: Q) := by
          refine addq_all δ' (f c) _ 3 (fun q hq => ?_)
          obtain ⟨x, hx, hfx⟩ := dd_mem.mp hin
          rw [← hfx, hd x q (hDm x (List.mem_append_left _ hx)) hq]
          exact dd_in (hcl x hx q hq)
        rw [this]
      · have hN' := ih (P ++ [c]) (Q ++ M) (N - 1) hl' hcl' hDm' (by omega)
        have hs : dd f (P ++ [c]) = dd f P ++ [f c] := by rw [dd_snoc, addc_out hin]
        have hls : (dd f (P ++ [c])).length = (dd f P).length + 1 := by rw [hs]; simp
        have hg := dd_get (f := f) (L := P ++ [c]) (M := Q) (j := (dd f P).length) (by omega)
        have ep : (P ++ [c]) ++ Q = P ++ c :: Q := by simp
        rw [ep, hs, getD_mid] at hg
        rw [hls, eD] at hN'
        rw [bfsF_step hg.1 (by omega), hg.2, hN', e2, e3]
/-! positions of the images -/
def tk (L : List Nat) : Nat → List Nat
  | 0 => []
  | i + 1 => tk L i ++ [L.getD i 0]
theorem tk_len (L : List Nat) : ∀ i, (tk L i).length = i
  | 0 => rfl
  | i + 1 => by show (tk L i ++ [_]).length = _; rw [List.length_append, tk_len L i]; rfl
theorem list_ext : ∀ {L M : List Nat}, L.length = M.length → (∀ j, j < L.length → L.getD j 0 = M.getD j 0) → L = M
  | [], [], _, _ => rfl
  | [], _ :: _, h, _ => by simp at h
  | _ :: _, [], h, _ => by simp at h
  | a :: L, b :: M, h, k => by
    have h0 := k 0 (by simp)
    have h1 : L = M := list_ext (by simpa using h) (fun j hj => by have := k (j + 1) (by simpa using hj); simpa using this)
    have h0 : a = b := by simpa using h0
    rw [h0, h1]
theorem tk_get {L : List Nat} {j : Nat} : ∀ i, j < i → (tk L i).getD j 0 = L.getD j 0
  | 0, h => absurd h (Nat.not_lt_zero _)
  | i + 1, h => by
    show (tk L i ++ [L.getD i 0]).getD j 0 = _
    rw [getD_snoc (by rw [tk_len]; exact h), tk_len]
    by_cases e : j = i
    · rw [if_pos e, e]
    · rw [if_neg e]; exact tk_get i (by omega)
theorem tk_all (L : List Nat) : tk L L.length = L := list_ext (tk_len L _) (fun j hj => by rw [tk_len] at hj; exact tk_get _ hj)
theorem tk_add (L : List Nat) (i : Nat) : ∀ d, ∃ M, tk L (i + d) = tk L i ++ M
  | 0 => ⟨[], (List.append_nil _).symm⟩
  | d + 1 => by
    obtain ⟨M, h⟩ := tk_add L i d
    exact ⟨M ++ [L.getD (i + d) 0], by show tk L (i + d) ++ [L.getD (i + d) 0] = _; rw [h, List.append_assoc]⟩
theorem tk_pre {L : List Nat} {i : Nat} (h : i ≤ L.length) : ∃ M, L = tk L i ++ M := by
  obtain ⟨M, e⟩ := tk_add L i (L.length - i)
  rw [show i + (L.length - i) = L.length by omega, tk_all] at e
  exact ⟨M, e⟩
def pos (f : Nat → Nat) (R : List Nat) (i : Nat) : Nat := (dd f R).idxOf (f (R.getD i 0))
theorem pos_lt {f : Nat → Nat} {R : List Nat} {i : Nat} (h : i < R.length) : pos f R i < (dd f R).length := idx_lt (dd_in (getD_mem h))
theorem pos_get {f : Nat → Nat} {R : List Nat} {i : Nat} (h : i < R.length) : (dd f R).getD (pos f R i) 0 = f (R.getD i 0) := getD_idx (dd_in (getD_mem h))
theorem foL_comp {f g : Nat → Nat} {R : List Nat} : ∀ i, i ≤ R.length → foL (fun i => g (pos f R i)) i = foL g (dd f (tk R i)).length
  | 0, _ => rfl
  | i + 1, h => by
    show addc (foL (fun i => g (pos f R i)) i) (g (pos f R i)) = foL g (dd f (tk R i ++ [R.getD i 0])).length
    rw [foL_comp i (by omega), dd_snoc]
    obtain ⟨M, eM⟩ := tk_pre (L := R) (i := i + 1) h
    by_cases hin : f (R.getD i 0) ∈ dd f (tk R i)
    · rw [addc_in hin]
      refine addc_in (foL_mem ?_)
      have hlt := idx_lt hin
      obtain ⟨M2, eM2⟩ := tk_pre (L := R) (i := i) (by omega)
      have hg := dd_get (f := f) (L := tk R i) (M := M2) hlt
      rw [← eM2, getD_idx hin] at hg
      have := idx_getD (dd_nodup (f := f) (L := R)) hg.1
      rw [hg.2] at this
      show (dd f R).idxOf (f (R.getD i 0)) < _
      rw [this]
      exact hlt
    · rw [addc_out hin]
      have hs : dd f (tk R (i + 1)) = dd f (tk R i) ++ [f (R.getD i 0)] := by
        show dd f (tk R i ++ [R.getD i 0]) = _
        rw [dd_snoc, addc_out hin]
      have hg := dd_get (f := f) (L := tk R (i + 1)) (M := M) (j := (dd f (tk R i)).length) (by rw [hs]; simp)
      rw [← eM, hs, getD_mid] at hg
      have hp := idx_getD (dd_nodup (f := f) (L := R)) hg.1
      rw [hg.2] at hp
      have hp : pos f R i = (dd f (tk R i)).length := hp
      rw [hp]
      show _ = foL g ((dd f (tk R i) ++ [f (R.getD i 0)]).length)
      rw [List.length_append]
      rfl
section HOM
variable {f : Nat → Nat} {δ δ' : Nat → Nat → Nat} {acc acc' : Nat → Bool} {R : List Nat}
theorem pos_nxt (hcl : ∀ c, c ∈ R → ∀ q, q < 3 → δ c q ∈ R) (hd : ∀ c, c ∈ R → ∀ q, q < 3 → δ' (f c) q = f (δ c q)) {i q : Nat} (hi : i < R.length) (hq : q < 3) : pos f R (nxt δ R (i * 3 + q)) = nxt δ' (dd f R) (pos f R i * 3 + q) := by
  unfold nxt
  rw [show (i * 3 + q) / 3 = i by omega, show (i * 3 + q) % 3 = q by omega, show (pos f R i * 3 + q) / 3 = pos f R i by omega, show (pos f R i * 3 + q) % 3 = q by omega, pos_get hi, hd _ (getD_mem hi) q hq]
  unfold pos
  rw [getD_idx (hcl _ (getD_mem hi) q hq)]
theorem dd_pos {a : Nat} (h : a < (dd f R).length) : ∃ i, i < R.length ∧ pos f R i = a := by
  obtain ⟨x, hx, hfx⟩ := dd_mem.mp (getD_mem h)
  refine ⟨R.idxOf x, idx_lt hx, ?_⟩
  unfold pos
  rw [getD_idx hx, hfx]
  exact idx_getD dd_nodup h
theorem hom_kd (h0 : 0 < R.length) (hk : R.length ≤ 740) (hcl : ∀ c, c ∈ R → ∀ q, q < 3 → δ c q ∈ R) (hd : ∀ c, c ∈ R → ∀ q, q < 3 → δ' (f c) q = f (δ c q)) (ha : ∀ c, c ∈ R → acc' (f c) = acc c) : cM δ acc R = cM δ' acc' (dd f R) ∧ (∀ i, i < R.length → kM_ δ acc R i = kM_ δ' acc' (dd f R) (pos f R i)) ∧ (∀ p, p < 3 * (dd f R).length → nxt δ' (dd f R) p < (dd f R).length) ∧ 0 < (dd f R).length ∧ (dd f R).length ≤ 740 := by
  have hn : ∀ p, p < 3 * R.length → nxt δ R p < R.length := fun p hp => idx_lt (hcl _ (getD_mem (show p / 3 < R.length by omega)) _ (by omega))
  have hcl' : ∀ y, y ∈ dd f R → ∀ q, q < 3 → δ' y q ∈ dd f R := by
    intro y hy q hq
    obtain ⟨x, hx, rfl⟩ := dd_mem.mp hy
    rw [hd x hx q hq]
    exact dd_in (hcl x hx q hq)
  have hn' : ∀ p, p < 3 * (dd f R).length → nxt δ' (dd f R) p < (dd f R).length := fun p hp => idx_lt (hcl' _ (getD_mem (show p / 3 < (dd f R).length by omega)) _ (by omega))
  have h0' : 0 < (dd f R).length := Nat.lt_of_le_of_lt (Nat.zero_le _) (pos_lt (f := f) h0)
  have hk' : (dd f R).length ≤ 740 := by
    have := dd_len (f := f) R []
    have : (dd f R).length ≤ 0 + R.length := this
    omega
  have pat : ∀ i j, i < R.length → j < R.length → (kM_ δ acc R i = kM_ δ acc R j ↔ kM_ δ' acc' (dd f R) (pos f R i) = kM_ δ' acc' (dd f R) (pos f R j)) := by
    intro i j hi hj
    constructor
    · intro h
      refine kdF_coarse (ac := fun i => acc' ((dd f R).getD i 0)) hk' hn' (fun a b => ∃ i j, i < R.length ∧ j < R.length ∧ pos f R i = a ∧ pos f R j = b ∧ kM_ δ acc R i = kM_ δ acc R j) ?_ ?_ _ _ (pos_lt hi) (pos_lt hj) ⟨i, j, hi, hj, rfl, rfl, h⟩
      · rintro a b _ _ ⟨i, j, hi, hj, rfl, rfl, h⟩
        show acc' _ = acc' _
        rw [pos_get hi, pos_get hj, ha _ (getD_mem hi), ha _ (getD_mem hj)]
        exact kdF_acc (ac := fun i => acc (R.getD i 0)) hk hn hi hj h
      · rintro a b _ _ ⟨i, j, hi, hj, rfl, rfl, h⟩ q hq
        exact ⟨nxt δ R (i * 3 + q), nxt δ R (j * 3 + q), hn _ (by omega), hn _ (by omega), pos_nxt hcl hd hi hq, pos_nxt hcl hd hj hq, kdF_stable (ac := fun i => acc (R.getD i 0)) h0 hk hn hi hj h q hq⟩
    · intro h
      refine kdF_coarse (ac := fun i => acc (R.getD i 0)) hk hn (fun i j => kM_ δ' acc' (dd f R) (pos f R i) = kM_ δ' acc' (dd f R) (pos f R j)) ?_ ?_ i j hi hj h
      · intro i j hi hj h
        have := kdF_acc (ac := fun i => acc' ((dd f R).getD i 0)) hk' hn' (pos_lt hi) (pos_lt hj) h
        have this : acc' ((dd f R).getD (pos f R i) 0) = acc' ((dd f R).getD (pos f R j) 0) := this
        rw [pos_get hi, pos_get hj, ha _ (getD_mem hi), ha _ (getD_mem hj)] at this
        exact this
      · intro i j hi hj h q hq
        show kM_ δ' acc' (dd f R) (pos f R _) = kM_ δ' acc' (dd f R) (pos f R _)
        rw [pos_nxt hcl hd hi hq, pos_nxt hcl hd hj hq]
        exact kdF_stable (ac := fun i => acc' ((dd f R).getD i 0)) h0' hk' hn' (pos_lt hi) (pos_lt hj) h q hq
  obtain ⟨s1, s2⟩ := foL_same (v := kM_ δ acc R) (w := fun i => kM_ δ' acc' (dd f R) (pos f R i)) R.length pat
  have ec := foL_comp (f := f) (g := kM_ δ' acc' (dd f R)) (R := R) R.length (Nat.le_refl _)
  rw [tk_all] at ec
  rw [ec] at s1 s2
  refine ⟨s1, fun i hi => ?_, hn', h0', hk'⟩
  have a := kdF_fo (k := R.length) (nx := nxt δ R) (ac := fun i => acc (R.getD i 0)) i hi
  have b := kdF_fo (k := (dd f R).length) (nx := nxt δ' (dd f R)) (ac := fun i => acc' ((dd f R).getD i 0)) _ (pos_lt (f := f) hi)
  exact a.trans ((s2 i hi).trans b.symm)
theorem hom_s (h0 : 0 < R.length) (hk : R.length ≤ 740) (hcl : ∀ c, c ∈ R → ∀ q, q < 3 → δ c q ∈ R) (hd : ∀ c, c ∈ R → ∀ q, q < 3 → δ' (f c) q = f (δ c q)) (ha : ∀ c, c ∈ R → acc' (f c) = acc c) (F' : Nat) : sR δ acc R F' = sR δ' acc' (dd f R) F' ∧ (sF δ' acc' (dd f R) F' → sF δ acc R F') := by
  obtain ⟨e1, e2, hn', h0', hk'⟩ := hom_kd h0 hk hcl hd ha
  have hn : ∀ p, p < 3 * R.length → nxt δ R p < R.length := fun p hp => idx_lt (hcl _ (getD_mem (show p / 3 < R.length by omega)) _ (by omega))
  have hfi : ∀ q, q < cM δ' acc' (dd f R) → fi (kM_ δ acc R) R.length q < R.length ∧ kM_ δ' acc' (dd f R) (pos f R (fi (kM_ δ acc R) R.length q)) = kM_ δ' acc' (dd f R) (fi (kM_ δ' acc' (dd f R)) (dd f R).length q) ∧ fi (kM_ δ' acc' (dd f R)) (dd f R).length q < (dd f R).length := by
    intro q hq
    have a := fi_ok (kd := kM_ δ acc R) (k := R.length) kdF_fo (by rw [← e1] at hq; exact hq)
    have b := fi_ok (kd := kM_ δ' acc' (dd f R)) (k := (dd f R).length) kdF_fo hq
    exact ⟨a.1, by rw [← e2 _ a.1, a.2.1, b.2.1], b.1⟩
  constructor
  · have hm : mnT R.length (nxt δ R) (kM_ δ acc R) (cM δ' acc' (dd f R)) = mnT (dd f R).length (nxt δ' (dd f R)) (kM_ δ' acc' (dd f R)) (cM δ' acc' (dd f R)) := by
      funext j
      unfold mnT
      by_cases z : j / 3 < cM δ' acc' (dd f R)
      · rw [if_pos z, if_pos z]
        obtain ⟨a1, a2, a3⟩ := hfi _ z
        have hq : j % 3 < 3 := by omega
        rw [e2 _ (hn _ (by omega)), pos_nxt hcl hd a1 hq]
        exact kdF_stable (ac := fun i => acc' ((dd f R).getD i 0)) h0' hk' hn' (pos_lt a1) a3 a2 _ hq
      · rw [if_neg z, if_neg z]
    unfold sR
    rw [e1, hm]
  · intro h q hq
    rw [h q hq, e1]
    by_cases z : q < cM δ' acc' (dd f R)
    · obtain ⟨a1, a2, a3⟩ := hfi _ z
      have := kdF_acc (ac := fun i => acc' ((dd f R).getD i 0)) hk' hn' (pos_lt a1) a3 a2
      have this : acc' ((dd f R).getD (pos f R (fi (kM_ δ acc R) R.length q)) 0) = acc' ((dd f R).getD (fi (kM_ δ' acc' (dd f R)) (dd f R).length q) 0) := this
      rw [pos_get a1, ha _ (getD_mem a1)] at this
      rw [this]
    · simp [z]
end HOM
/-! the reversal -/
theorem dd_Rb {A : Ab} {a : Nat} (hg : gdR (A.1.1 a)) : bf (sa A a) (fA A a) = dd (ofS A a) (Rb A a) := by
  have h := dd_bfs (f := ofS A a) (δ := d6 A a) (δ' := sa A a) (Dm := fun X => X ∈ Rb A a) (fun X q hX hq => Rb_cl hg hX hq) (fun X q hX hq => sa_of hg hX hq) 741 [] [k6 A a] 741 (by have := Rb_len hg; have this : (bfsF (d6 A a) 741 0 [k6 A a]).length ≤ 64 := this; show (bfsF (d6 A a) 741 0 [k6 A a]).length ≤ 0 + 741; omega) (fun c hc => absurd hc List.not_mem_nil) (fun c hc => by rw [List.mem_singleton.mp hc]; exact bf_0) (Nat.le_refl _)
  exact h
theorem co_0 {A : Ab} {a : Nat} : co A a 0 = 0 := by
  unfold co
  have e := idx_getD (bf_nodup (δ := d8 A a) (k0 := 0)) (Rm_pos (A := A) (a := a))
  rw [bf_get0] at e
  rw [e]
  exact kdF_0 Rm_pos
theorem of_0 {A : Ab} {a X : Nat} (hg : gdR (A.1.1 a)) (hX : X ∈ Rb A a) : (ofS A a X).testBit 0 = X.testBit 0 := by
  have := ofS_co hg hX (bf_0 (δ := d8 A a) (k0 := 0))
  rw [co_0] at this
  exact this
theorem sa_AL {A : Ab} {a : Nat} (hg : gdR (A.1.1 a)) : ∀ s, s ∈ bf (sa A a) (fA A a) ↔ s ∈ AL A a := by
  intro s
  rw [dd_Rb hg, dd_mem, AL_mem hg]
theorem sa_len {A : Ab} {a : Nat} (hg : gdR (A.1.1 a)) : (bf (sa A a) (fA A a)).length = (AL A a).length :=
  Nat.le_antisymm (sub_len bf_nodup (fun x hx => (sa_AL hg x).mp hx)) (sub_len AL_nodup (fun x hx => (sa_AL hg x).mpr hx))
theorem sa_cl {A : Ab} {a : Nat} (hg : gdR (A.1.1 a)) : ∀ c, c ∈ bf (sa A a) (fA A a) → ∀ q, q < 3 → sa A a c q ∈ bf (sa A a) (fA A a) := fun c hc q hq => (sa_AL hg _).mpr (AL_sa hg ((sa_AL hg c).mp hc) hq)
theorem sa_co {A : Ab} {a s t q : Nat} (hg : gdR (A.1.1 a)) (ht : t ∈ Rm A a) (hq : q < 3) : (sa A a s q).testBit (co A a t) = s.testBit (co A a (rT A a (t * 3 + q))) := by
  have hc := co_lt ht
  rw [sa_bit, decide_eq_true hc, Bool.true_and, co_step hg (qS_mem hc) ht hq (co_qS hc)]
theorem rv_id {A : Ab} {a : Nat} (hg : gdR (A.1.1 a)) : cM (sa A a) a6 (bf (sa A a) (fA A a)) = (AL A a).length := by
  rw [← sa_len hg]
  refine (kd_id (fun i j hi hj h => ?_)).1
  have hk : (bf (sa A a) (fA A a)).length ≤ 740 := by rw [sa_len hg]; exact Nat.le_trans AL_len (by decide)
  have hcl := sa_cl hg
  have hn : ∀ p, p < 3 * (bf (sa A a) (fA A a)).length → nxt (sa A a) (bf (sa A a) (fA A a)) p < (bf (sa A a) (fA A a)).length := fun p hp => idx_lt (hcl _ (getD_mem (show p / 3 < (bf (sa A a) (fA A a)).length by omega)) _ (by omega))
  have key : ∀ t, t ∈ Rm A a → ∀ i j, i < (bf (sa A a) (fA A a)).length → j < (bf (sa A a) (fA A a)).length → kM_ (sa A a) a6 (bf (sa A a) (fA A a)) i = kM_ (sa A a) a6 (bf (sa A a) (fA A a)) j → ((bf (sa A a) (fA A a)).getD i 0).testBit (co A a t) = ((bf (sa A a) (fA A a)).getD j 0).testBit (co A a t) := by
    refine bf_ind2 (δ := d8 A a) (Nat.le_trans (Rm_len hg) (by decide)) (fun i j hi hj h => ?_) (fun t q ht ih hq i j hi hj h => ?_)
    · rw [co_0]
      exact kdF_acc (ac := fun i => a6 ((bf (sa A a) (fA A a)).getD i 0)) hk hn hi hj h
    · show Nat.testBit _ (co A a (rT A a (t * 3 + q))) = Nat.testBit _ (co A a (rT A a (t * 3 + q)))
      rw [← sa_co hg ht hq, ← sa_co hg ht hq]
      have g : ∀ i, i < (bf (sa A a) (fA A a)).length → (bf (sa A a) (fA A a)).getD (nxt (sa A a) (bf (sa A a) (fA A a)) (i * 3 + q)) 0 = sa A a ((bf (sa A a) (fA A a)).getD i 0) q := by
        intro i hi
        unfold nxt
        rw [show (i * 3 + q) / 3 = i by omega, show (i * 3 + q) % 3 = q by omega]
        exact getD_idx (hcl _ (getD_mem hi) q hq)
      rw [← g i hi, ← g j hj]
      exact ih _ _ (hn _ (by omega)) (hn _ (by omega)) (kdF_stable (ac := fun i => a6 ((bf (sa A a) (fA A a)).getD i 0)) (by omega) hk hn hi hj h q hq)
  have e : (bf (sa A a) (fA A a)).getD i 0 = (bf (sa A a) (fA A a)).getD j 0 := by
    refine bits_n (AL_c hg ((sa_AL hg _).mp (getD_mem hi))) (AL_c hg ((sa_AL hg _).mp (getD_mem hj))) (fun q hq => ?_)
    have := key _ (qS_mem hq) i j hi hj h
    rw [co_qS hq] at this
    exact this
  have z1 := idx_getD (bf_nodup (δ := sa A a) (k0 := fA A a)) hi
  have z2 := idx_getD (bf_nodup (δ := sa A a) (k0 := fA A a)) hj
  rw [e, z2] at z1
  exact z1.symm
theorem tie_rev {A : Ab} {a : Nat} (hg : gdR (A.1.1 a)) : cM (d6 A a) a6 (Rb A a) = (AL A a).length ∧ ∀ F', sR (d6 A a) a6 (Rb A a) F' = sR (sa A a) a6 (bf (sa A a) (fA A a)) F' ∧ (sF (sa A a) a6 (bf (sa A a) (fA A a)) F' → sF (d6 A a) a6 (Rb A a) F') := by
  have h0 : 0 < (Rb A a).length := Nat.lt_of_le_of_lt (Nat.zero_le _) (idx_lt (bf_0 (δ := d6 A a) (k0 := k6 A a)))
  have hk : (Rb A a).length ≤ 740 := Nat.le_trans (Rb_len hg) (by decide)
  have hcl : ∀ c, c ∈ Rb A a → ∀ q, q < 3 → d6 A a c q ∈ Rb A a := fun c hc q hq => Rb_cl hg hc hq
  have hd : ∀ c, c ∈ Rb A a → ∀ q, q < 3 → sa A a (ofS A a c) q = ofS A a (d6 A a c q) := fun c hc q hq => sa_of hg hc hq
  have ha : ∀ c, c ∈ Rb A a → a6 (ofS A a c) = a6 c := fun c hc => of_0 hg hc
  rw [← rv_id hg, dd_Rb hg]
  exact ⟨(hom_kd h0 hk hcl hd ha).1, fun F' => hom_s h0 hk hcl hd ha F'⟩
