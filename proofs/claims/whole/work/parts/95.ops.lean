/-! each call -/
theorem least_b (f : Nat → Bool) : ∀ n, f n = true → ∃ s, s ≤ n ∧ f s = true ∧ ∀ i, i < s → f i = false := by
  intro n
  induction n using Nat.strongRecOn with
  | ind n ih =>
    intro hn
    by_cases h : ∃ i, i < n ∧ f i = true
    · obtain ⟨i, hi, hf⟩ := h
      obtain ⟨s, h1, h2, h3⟩ := ih i hi hf
      exact ⟨s, by omega, h2, h3⟩
    · refine ⟨n, Nat.le_refl n, hn, fun i hi => ?_⟩
      cases e : f i with
      | false => rfl
      | true => exact absurd ⟨i, hi, e⟩ h
theorem st_cases (p : Int32) : (p < nI 1 ∨ nI 6 < p) ∨ ∃ m, 0 < m ∧ m ≤ 6 ∧ p = nI m := by
  rcases ix_cases p (n := 7) (by decide) with (h | h) | ⟨j, hj, rfl⟩
  · refine Or.inl (Or.inl ?_)
    rw [fa_lt] at h ⊢
    have e1 : (nI 1).toInt = 1 := by decide
    have e0 : (0 : Int32).toInt = 0 := by decide
    omega
  · exact Or.inl (Or.inr (fa_trans ((nI_ltI (show 6 < 2 ^ 31 by decide) (show 7 < 2 ^ 31 by decide)).mpr (by decide)) h))
  · by_cases e : j = 0
    · subst e; exact Or.inl (Or.inl (by decide))
    · exact Or.inr ⟨j, by omega, by omega, rfl⟩
section ADR
variable {l : Launch} {M : Me} {as : List Value} {S : pv_M} {A : Ab} {j n F : Nat} {T : Nat → Nat}
theorem a_regV (hC : CSt S A) (g : Gd A) (hj : j < 3) (h : mt l M 106 as S (fun v S' => v = none ∧ RegAt S' j n T F ∧ FN (two (53 + 4 * j) (54 + 4 * j)) S S')) : mt l M 106 as S (fun v S' => v = none ∧ ∃ B, (B = setR A j (n, T, F) ∧ Gd B) ∧ CSt S' B ∧ FR cC S S') :=
  mt_post h (fun v S' q => ⟨q.1, _, ⟨rfl, gd_setR g q.2.1.2⟩, cst_reg hC hj q.2.2 q.2.1, FR.two hj q.2.2⟩)
theorem a_regZ {a : Bool} (hC : CSt S A) (g : Gd A) (hj : j < 3) (h : mt l M 106 as S (fun v S' => v = some (.int (bI a)) ∧ RegAt S' j n T F ∧ FN (two (53 + 4 * j) (54 + 4 * j)) S S')) : mt l M 106 as S (fun v S' => ∃ a', v = some (.int (bI a')) ∧ a' = a ∧ ∃ B, (B = setR A j (n, T, F) ∧ Gd B) ∧ CSt S' B ∧ FR cC S S') :=
  mt_post h (fun v S' q => ⟨a, q.1, rfl, _, ⟨rfl, gd_setR g q.2.1.2⟩, cst_reg hC hj q.2.2 q.2.1, FR.two hj q.2.2⟩)
theorem m_allG {A' : Ab} {x : Option Value} (h : mt l M 106 as S (fun v S' => v = x ∧ mI S' 75 0 = nI 0 ∧ MSt S' A' ∧ FN mC S S')) : mt l M 106 as S (fun v S' => v = x ∧ mI S' 75 0 = nI 0 ∧ FN mC S S' ∧ ∀ B, (B = A' ∧ Gd B) → MSt S' B) :=
  mt_post h (fun v S' q => ⟨q.1, q.2.1, q.2.2.2, fun B e => by rw [e.1]; exact q.2.2.1⟩)
theorem fr_w34 {S S' : pv_M} (k : FN (two 3 4) S S') : FR cC S S' := k.fr.mono (fun r z => by rcases z with z | z <;> (show r ≤ 74; omega))
theorem cst_wd {S S' : pv_M} {A : Ab} {m : Nat} {L : Nat → Nat} (h : CSt S A) (k : FN (two 3 4) S S') (hr : WdAt S' m L) : CSt S' (setW A (m, L)) := h.setW k.fr (fun r z => Or.inr z) (h.1.fn k) (h.2.1.of (by rw [k.1])) (h.2.2.1.of (by rw [k.1])) hr.1
theorem a_wd {a : Int32} {m : Nat} {L : Nat → Nat} (hC : CSt S A) (g : Gd A) (h : mt l M 106 as S (fun v S' => v = some (.int a) ∧ WdAt S' m L ∧ FN (two 3 4) S S')) : mt l M 106 as S (fun v S' => ∃ a', v = some (.int a') ∧ a' = a ∧ ∃ B, (B = setW A (m, L) ∧ Gd B) ∧ CSt S' B ∧ FR cC S S') :=
  mt_post h (fun v S' q => ⟨a, q.1, rfl, _, ⟨rfl, gd_setW g q.2.1.1.2.2.2.2.2.2.1 q.2.1.2⟩, cst_wd hC q.2.2 q.2.1, fr_w34 q.2.2⟩)
end ADR
theorem o_reset {l : Launch} (hst : l.stackTraces = false) {S : pv_M} (hI : INV S) (a1 : Int32) (a2 : Int32) : OP l WL_reset MX12_reset [.ref 0, .int a1, .int a2] [.ref 75, .int a1, .int a2] S rV := by
  obtain ⟨A, hC, hM, g⟩ := hI
  rcases ix_cases a1 (n := 3) (by decide) with b1 | ⟨j, hj, rfl⟩
  · exact op_ts (k := 1) (by decide) hC hM g (ht_reset_IB (t_reset_r hst b1)) (fun S1 a b => m_reset_r l a b1) r_V
  · have gj := g.1.1 j hj
    rcases st_cases a2 with b2 | ⟨m, m0, m6, rfl⟩
    · exact op_ts (k := 2) (by decide) hC hM g (ht_reset_IA (t_reset_n hst hj b2)) (fun S1 a b => m_reset_n l a hj b2) r_V
    · exact op_V _ hM (fun B e => e.2) (hr_reset (a_regV hC g hj (c_reset l hC.1 hj (hC.ra g hj) m0 m6))) (fun S1 a b => m_allG (m_reset l a b hj m0 m6))

theorem o_makeWitness {l : Launch} (hst : l.stackTraces = false) {S : pv_M} (hI : INV S) (a1 : Int32) (a2 : Int32) : OP l WL_makeWitness MX12_makeWitness [.ref 0, .int a1, .int a2] [.ref 75, .int a1, .int a2] S rV := by
  obtain ⟨A, hC, hM, g⟩ := hI
  rcases ix_cases a1 (n := 3) (by decide) with b1 | ⟨j, hj, rfl⟩
  · exact op_ts (k := 1) (by decide) hC hM g (ht_makeWitness_IB (t_makeWitness_r hst b1)) (fun S1 a b => m_makeWitness_r l a b1) r_V
  · have gj := g.1.1 j hj
    rcases st_cases a2 with b2 | ⟨m, m0, m6, rfl⟩
    · exact op_ts (k := 2) (by decide) hC hM g (ht_makeWitness_IA (t_makeWitness_n hst hj b2)) (fun S1 a b => m_makeWitness_n l a hj b2) r_V
    · exact op_V _ hM (fun B e => e.2) (hr_makeWitness (a_regV hC g hj (c_makeWitness l hC.1 hj (hC.ra g hj) m0 m6))) (fun S1 a b => m_allG (m_makeWitness l a b hj m0 m6))

theorem o_setTarget {l : Launch} (hst : l.stackTraces = false) {S : pv_M} (hI : INV S) (a1 : Int32) (a2 : Int32) (a3 : Int32) (a4 : Int32) : OP l WL_setTarget MX12_setTarget [.ref 0, .int a1, .int a2, .int a3, .int a4] [.ref 75, .int a1, .int a2, .int a3, .int a4] S rV := by
  obtain ⟨A, hC, hM, g⟩ := hI
  rcases ix_cases a1 (n := 3) (by decide) with b1 | ⟨j, hj, rfl⟩
  · exact op_ts (k := 1) (by decide) hC hM g (ht_setTarget_IB (t_setTarget_r hst b1)) (fun S1 a b => m_setTarget_r l a b1) r_V
  · have gj := g.1.1 j hj
    rcases ix_cases a2 (n := rN A j) (Nat.lt_of_le_of_lt gj.2.1 (by decide)) with b2 | ⟨s, hs, rfl⟩
    · exact op_ts (k := 1) (by decide) hC hM g (ht_setTarget_IB (t_setTarget_s hst hC.1 hj (hC.ra g hj) b2)) (fun S1 a b => m_setTarget_s l a b hj gj b2) r_V
    · rcases ix_cases a3 (n := 3) (by decide) with b3 | ⟨q, hq, rfl⟩
      · exact op_ts (k := 1) (by decide) hC hM g (ht_setTarget_IB (t_setTarget_l hst hC.1 hj (hC.ra g hj) hs b3)) (fun S1 a b => m_setTarget_l l a b hj gj hs b3) r_V
      · rcases ix_cases a4 (n := rN A j) (Nat.lt_of_le_of_lt gj.2.1 (by decide)) with b4 | ⟨t, ht, rfl⟩
        · exact op_ts (k := 1) (by decide) hC hM g (ht_setTarget_IB (t_setTarget_t hst hC.1 hj (hC.ra g hj) hs hq b4)) (fun S1 a b => m_setTarget_t l a b hj gj hs hq b4) r_V
        · exact op_V _ hM (fun B e => e.2) (hr_setTarget (a_regV hC g hj (c_setTarget l hC.1 hj (hC.ra g hj) hs hq ht))) (fun S1 a b => m_allG (m_setTarget l a b hj gj hs hq ht))

theorem o_setFinal {l : Launch} (hst : l.stackTraces = false) {S : pv_M} (hI : INV S) (a1 : Int32) (a2 : Int32) (a3 : Bool) : OP l WL_setFinal MX12_setFinal [.ref 0, .int a1, .int a2, .int (bI a3), .ref 104] [.ref 75, .int a1, .int a2, .int (bI a3)] S rB := by
  obtain ⟨A, hC, hM, g⟩ := hI
  rcases ix_cases a1 (n := 3) (by decide) with b1 | ⟨j, hj, rfl⟩
  · exact op_ts (k := 1) (by decide) hC hM g (ht_setFinal_IB (t_setFinal_r hst b1)) (fun S1 a b => m_setFinal_r l a b1) (r_Z (by decide))
  · have gj := g.1.1 j hj
    rcases ix_cases a2 (n := rN A j) (Nat.lt_of_le_of_lt gj.2.1 (by decide)) with b2 | ⟨s, hs, rfl⟩
    · exact op_ts (k := 1) (by decide) hC hM g (ht_setFinal_IB (t_setFinal_s hst hC.1 hj (hC.ra g hj) b2)) (fun S1 a b => m_setFinal_s l a b hj gj b2) (r_Z (by decide))
    · exact op_Z _ hM (fun B e => e.2) (hr_setFinal (a_regZ hC g hj (c_setFinal l hC.1 hj (hC.ra g hj) hs))) (fun S1 a b => m_allG (m_setFinal l a b hj gj hs))

theorem o_stateCount {l : Launch} (hst : l.stackTraces = false) {S : pv_M} (hI : INV S) (a1 : Int32) : OP l WL_stateCount MX12_stateCount [.ref 0, .int a1, .ref 104] [.ref 75, .int a1] S rI := by
  obtain ⟨A, hC, hM, g⟩ := hI
  rcases ix_cases a1 (n := 3) (by decide) with b1 | ⟨j, hj, rfl⟩
  · exact op_ts (k := 1) (by decide) hC hM g (ht_stateCount_IB (t_stateCount_r hst b1)) (fun S1 a b => m_stateCount_r l a b1) (r_I (by decide))
  · have gj := g.1.1 j hj
    exact op_I _ hM (fun B e => by rw [e]; exact g) (hr_stateCount (a_I0 hC (c_stateCount l hC.1 hj (hC.ra g hj)))) (fun S1 a b => m_all (m_th b (m_stateCount l a b hj gj)))

theorem o_target {l : Launch} (hst : l.stackTraces = false) {S : pv_M} (hI : INV S) (a1 : Int32) (a2 : Int32) (a3 : Int32) : OP l WL_target MX12_target [.ref 0, .int a1, .int a2, .int a3, .ref 104] [.ref 75, .int a1, .int a2, .int a3] S rI := by
  obtain ⟨A, hC, hM, g⟩ := hI
  rcases ix_cases a1 (n := 3) (by decide) with b1 | ⟨j, hj, rfl⟩
  · exact op_ts (k := 1) (by decide) hC hM g (ht_target_IB (t_target_r hst b1)) (fun S1 a b => m_target_r l a b1) (r_I (by decide))
  · have gj := g.1.1 j hj
    rcases ix_cases a2 (n := rN A j) (Nat.lt_of_le_of_lt gj.2.1 (by decide)) with b2 | ⟨s, hs, rfl⟩
    · exact op_ts (k := 1) (by decide) hC hM g (ht_target_IB (t_target_s hst hC.1 hj (hC.ra g hj) b2)) (fun S1 a b => m_target_s l a b hj gj b2) (r_I (by decide))
    · rcases ix_cases a3 (n := 3) (by decide) with b3 | ⟨q, hq, rfl⟩
      · exact op_ts (k := 1) (by decide) hC hM g (ht_target_IB (t_target_l hst hC.1 hj (hC.ra g hj) hs b3)) (fun S1 a b => m_target_l l a b hj gj hs b3) (r_I (by decide))
      · exact op_I _ hM (fun B e => by rw [e]; exact g) (hr_target (a_I0 hC (c_target l hC.1 hj (hC.ra g hj) hs hq))) (fun S1 a b => m_all (m_th b (m_target l a b hj gj hs hq)))

theorem o_isFinal {l : Launch} (hst : l.stackTraces = false) {S : pv_M} (hI : INV S) (a1 : Int32) (a2 : Int32) : OP l WL_isFinal MX12_isFinal [.ref 0, .int a1, .int a2, .ref 104] [.ref 75, .int a1, .int a2] S rB := by
  obtain ⟨A, hC, hM, g⟩ := hI
  rcases ix_cases a1 (n := 3) (by decide) with b1 | ⟨j, hj, rfl⟩
  · exact op_ts (k := 1) (by decide) hC hM g (ht_isFinal_IB (t_isFinal_r hst b1)) (fun S1 a b => m_isFinal_r l a b1) (r_Z (by decide))
  · have gj := g.1.1 j hj
    rcases ix_cases a2 (n := rN A j) (Nat.lt_of_le_of_lt gj.2.1 (by decide)) with b2 | ⟨s, hs, rfl⟩
    · exact op_ts (k := 1) (by decide) hC hM g (ht_isFinal_IB (t_isFinal_s hst hC.1 hj (hC.ra g hj) b2)) (fun S1 a b => m_isFinal_s l a b hj gj b2) (r_Z (by decide))
    · exact op_Z _ hM (fun B e => by rw [e]; exact g) (hr_isFinal (a_Z0 hC (c_isFinal l hC.1 hj (hC.ra g hj) hs))) (fun S1 a b => m_all (m_th b (m_isFinal l a b hj gj hs)))

theorem o_randomize {l : Launch} (hst : l.stackTraces = false) {S : pv_M} (hI : INV S) (a1 : Int32) (a2 : Int32) : OP l WL_randomize MX12_randomize [.ref 0, .int a1, .int a2] [.ref 75, .int a1, .int a2] S rV := by
  obtain ⟨A, hC, hM, g⟩ := hI
  rcases ix_cases a1 (n := 3) (by decide) with b1 | ⟨j, hj, rfl⟩
  · exact op_ts (k := 1) (by decide) hC hM g (ht_randomize_IB (t_randomize_r hst b1)) (fun S1 a b => m_randomize_r l a b1) r_V
  · have gj := g.1.1 j hj
    exact op_V (fun B => ∃ T' F', B = setR A j (rN A j, T', F') ∧ Gd B ∧ (∀ i, i < 18 → T' i = if i < rN A j * 3 then dv a2 i (rN A j) else rT A j i) ∧ ∀ i, i < 6 → Nat.testBit F' i = if i < rN A j then decide (dv a2 (rN A j * 3 + i) 2 = 1) else (rF A j).testBit i) hM (fun B e => by obtain ⟨T', F', h1, h2, h3, h4⟩ := e; exact h2) (hr_randomize (mt_post (c_randomize l hC.1 hj (hC.ra g hj)) (fun v S' q => by
      obtain ⟨q1, q2, T', F', q3, q4, q5⟩ := q
      exact ⟨q1, _, ⟨T', F', rfl, gd_setR g q3.2, q4, q5⟩, cst_reg hC hj q2 q3, FR.two hj q2⟩))) (fun S1 a b => mt_post (m_randomize l a b hj gj) (fun v S' q => ⟨q.1, q.2.1, q.2.2.1, fun B e => by
      obtain ⟨T', F', h1, h2, h3, h4⟩ := e
      rw [h1]; exact q.2.2.2 T' F' h3 h4⟩))

theorem o_appendLetter {l : Launch} (hst : l.stackTraces = false) {S : pv_M} (hI : INV S) (a1 : Int32) : OP l WL_appendLetter MX12_appendLetter [.ref 0, .int a1, .ref 104] [.ref 75, .int a1] S rI := by
  obtain ⟨A, hC, hM, g⟩ := hI
  rcases ix_cases a1 (n := 3) (by decide) with b1 | ⟨q, hq, rfl⟩
  · exact op_ts (k := 1) (by decide) hC hM g (ht_appendLetter_IB (t_appendLetter_l hst b1)) (fun S1 a b => m_appendLetter_l l a b1) (r_I (by decide))
  · by_cases e : wM A = 12
    · exact op_ts (k := 2) (by decide) hC hM g (ht_appendLetter_IS (t_appendLetter_w hst hq e hC.1 (hC.wa g))) (fun S1 a b => m_appendLetter_w l a b hq e) (r_I (by decide))
    · have h12 : wM A < 12 := Nat.lt_of_le_of_ne g.1.2.1 e
      exact op_I _ hM (fun B e => e.2) (hr_appendLetter (a_wd hC g (c_appendLetter l hC.1 (hC.wa g) hq h12))) (fun S1 a b => m_allG (m_appendLetter l a b hq h12))

theorem o_wordLetter {l : Launch} (hst : l.stackTraces = false) {S : pv_M} (hI : INV S) (a1 : Int32) : OP l WL_wordLetter MX12_wordLetter [.ref 0, .int a1, .ref 104] [.ref 75, .int a1] S rI := by
  obtain ⟨A, hC, hM, g⟩ := hI
  rcases ix_cases a1 (n := wM A) (Nat.lt_of_le_of_lt g.1.2.1 (by decide)) with b1 | ⟨q, hq, rfl⟩
  · exact op_ts (k := 1) (by decide) hC hM g (ht_wordLetter_IB (t_wordLetter hst hC.1 (hC.wa g) b1)) (fun S1 a b => m_wordLetter_b l a b b1 g.1.2.1) (r_I (by decide))
  · exact op_I _ hM (fun B e => by rw [e]; exact g) (hr_wordLetter (a_I0 hC (c_wordLetter l hC.1 (hC.wa g) hq))) (fun S1 a b => m_all (m_th b (m_wordLetter l a b hq g.1.2.1)))

theorem o_accepts {l : Launch} (hst : l.stackTraces = false) {S : pv_M} (hI : INV S) (a1 : Int32) : OP l WL_accepts MX12_accepts [.ref 0, .int a1, .ref 104] [.ref 75, .int a1] S rB := by
  obtain ⟨A, hC, hM, g⟩ := hI
  rcases ix_cases a1 (n := 3) (by decide) with b1 | ⟨j, hj, rfl⟩
  · exact op_ts (k := 1) (by decide) hC hM g (ht_accepts_IB (t_accepts_r hst b1)) (fun S1 a b => m_accepts_r l a b1) (r_Z (by decide))
  · have gj := g.1.1 j hj
    exact op_Z _ hM (fun B e => by rw [e]; exact g) (hr_accepts (a_Z0 hC (c_accepts l hC.1 hj (hC.ra g hj) (hC.wa g)))) (fun S1 a b => m_all (m_th b (m_accepts l a b hj (fun k _ => Nat.lt_of_lt_of_le (stA_lt gj.1 gj.2.1 gj.2.2.1 g.1.2.2 k) gj.2.1) g.1.2.2 g.1.2.1)))

theorem o_size {l : Launch} (hst : l.stackTraces = false) {S : pv_M} (hI : INV S) (a1 : Int32) : OP l WL_size MX12_size [.ref 0, .int a1, .ref 104] [.ref 75, .int a1] S rI := by
  obtain ⟨A, hC, hM, g⟩ := hI
  rcases ix_cases a1 (n := 3) (by decide) with b1 | ⟨j, hj, rfl⟩
  · exact op_ts (k := 1) (by decide) hC hM g (ht_size_IB (t_size_r hst b1)) (fun S1 a b => m_size_r l a b1) (r_I (by decide))
  · have gj := g.1.1 j hj
    exact op_I _ hM (fun B e => by rw [e]; exact g) (hr_size (a_I (c_size l hC hj gj))) (fun S1 a b => m_all (m_size l hj a b trivial (mm_8 l hj gj) (Nat.le_trans (len8 gj) (by decide))))

theorem o_minimize {l : Launch} (hst : l.stackTraces = false) {S : pv_M} (hI : INV S) (a1 : Int32) : OP l WL_minimize MX12_minimize [.ref 0, .int a1, .ref 104] [.ref 75, .int a1] S rI := by
  obtain ⟨A, hC, hM, g⟩ := hI
  rcases ix_cases a1 (n := 3) (by decide) with b1 | ⟨j, hj, rfl⟩
  · exact op_ts (k := 1) (by decide) hC hM g (ht_minimize_IB (t_minimize_r hst b1)) (fun S1 a b => m_minimize_r l a b1) (r_I (by decide))
  · have gj := g.1.1 j hj
    exact op_I _ hM (gd_sR g (Nat.le_trans (len8 gj) (by decide)) (Nat.le_trans cM_le (len8 gj))) (hr_minimize (a_S (c_minimize l hC hj gj))) (fun S1 a b => b_S (m_minimize l hj a b trivial (mm_8 l hj gj) (Nat.le_trans (len8 gj) (by decide)) (Nat.le_trans cM_le (len8 gj))))

theorem o_quotientOfWord {l : Launch} (hst : l.stackTraces = false) {S : pv_M} (hI : INV S) (a1 : Int32) : OP l WL_quotientOfWord MX12_quotientOfWord [.ref 0, .int a1, .ref 104] [.ref 75, .int a1] S rI := by
  obtain ⟨A, hC, hM, g⟩ := hI
  rcases ix_cases a1 (n := 3) (by decide) with b1 | ⟨j, hj, rfl⟩
  · exact op_ts (k := 1) (by decide) hC hM g (ht_quotientOfWord_IB (t_quotientOfWord_r hst b1)) (fun S1 a b => m_quotientOfWord_r l a b1) (r_I (by decide))
  · have gj := g.1.1 j hj
    exact op_I _ hM (fun B e => by rw [e]; exact g) (hr_quotientOfWord (a_I (c_quotientOfWord l hC hj gj g.1.2.2))) (fun S1 a b => m_all (m_quotientOfWord l hj a b trivial (mm_8 l hj gj) (Nat.le_trans (len8 gj) (by decide)) g.1.2.1 g.1.2.2))

theorem o_atomCount {l : Launch} (hst : l.stackTraces = false) {S : pv_M} (hI : INV S) (a1 : Int32) : OP l WL_atomCount MX12_atomCount [.ref 0, .int a1, .ref 104] [.ref 75, .int a1] S rI := by
  obtain ⟨A, hC, hM, g⟩ := hI
  rcases ix_cases a1 (n := 3) (by decide) with b1 | ⟨j, hj, rfl⟩
  · exact op_ts (k := 1) (by decide) hC hM g (ht_atomCount_IB (t_atomCount_r hst b1)) (fun S1 a b => m_atomCount_r l a b1) (r_I (by decide))
  · have gj := g.1.1 j hj
    exact op_I _ hM (fun B e => by rw [e]; exact g) (hr_atomCount (a_I (c_atomCount l hC hj gj))) (fun S1 a b => m_all (m_atomCount l a b hj gj))

theorem o_atomSet {l : Launch} (hst : l.stackTraces = false) {S : pv_M} (hI : INV S) (a1 : Int32) (a2 : Int32) : OP l WL_atomSet MX12_atomSet [.ref 0, .int a1, .int a2, .ref 104] [.ref 75, .int a1, .int a2] S rI := by
  obtain ⟨A, hC, hM, g⟩ := hI
  rcases ix_cases a1 (n := 3) (by decide) with b1 | ⟨j, hj, rfl⟩
  · exact op_ts (k := 1) (by decide) hC hM g (ht_atomSet_IB (t_atomSet_r hst b1)) (fun S1 a b => m_atomSet_r l a b1) (r_I (by decide))
  · have gj := g.1.1 j hj
    rcases ix_cases a2 (n := (AL A j).length) (by have := AL_len (A := A) (a := j); omega) with b2 | ⟨p, hp, rfl⟩
    · exact op_t (k := 1) (by decide) hM g (ht_atomSet_IB (t_atomSet_a hst hC hj gj b2)) (fun S1 a b => m_atomSet_a l a b hj gj b2) (r_I (by decide))
    · exact op_I _ hM (fun B e => by rw [e]; exact g) (hr_atomSet (a_I (c_atomSet l hC hj gj hp))) (fun S1 a b => m_all (m_atomSet l a b hj gj hp))

theorem o_atomOfWord {l : Launch} (hst : l.stackTraces = false) {S : pv_M} (hI : INV S) (a1 : Int32) : OP l WL_atomOfWord MX12_atomOfWord [.ref 0, .int a1, .ref 104] [.ref 75, .int a1] S rI := by
  obtain ⟨A, hC, hM, g⟩ := hI
  rcases ix_cases a1 (n := 3) (by decide) with b1 | ⟨j, hj, rfl⟩
  · exact op_ts (k := 1) (by decide) hC hM g (ht_atomOfWord_IB (t_atomOfWord_r hst b1)) (fun S1 a b => m_atomOfWord_r l a b1) (r_I (by decide))
  · have gj := g.1.1 j hj
    exact op_I _ hM (fun B e => by rw [e]; exact g) (hr_atomOfWord (a_I (c_atomOfWord l hC hj gj g.1.2.2))) (fun S1 a b => m_all (m_atomOfWord l a b hj gj g.1.2.1 g.1.2.2))

theorem o_atomTargets {l : Launch} (hst : l.stackTraces = false) {S : pv_M} (hI : INV S) (a1 : Int32) (a2 : Int32) (a3 : Int32) : OP l WL_atomTargets MX12_atomTargets [.ref 0, .int a1, .int a2, .int a3, .ref 104] [.ref 75, .int a1, .int a2, .int a3] S rJ := by
  obtain ⟨A, hC, hM, g⟩ := hI
  rcases ix_cases a1 (n := 3) (by decide) with b1 | ⟨j, hj, rfl⟩
  · rcases ix_cases a3 (n := 3) (by decide) with b3 | ⟨q, hq, rfl⟩
    · exact op_ts (k := 1) (by decide) hC hM g (ht_atomTargets_IB (t_atomTargets_l hst b3)) (fun S1 a b => m_atomTargets_r l a b1) (r_J (by decide))
    · exact op_ts (k := 1) (by decide) hC hM g (ht_atomTargets_IB (t_atomTargets_r hst b1 hq)) (fun S1 a b => m_atomTargets_r l a b1) (r_J (by decide))
  · have gj := g.1.1 j hj
    rcases ix_cases a3 (n := 3) (by decide) with b3 | ⟨q, hq, rfl⟩
    · exact op_ts (k := 1) (by decide) hC hM g (ht_atomTargets_IB (t_atomTargets_l hst b3)) (fun S1 a b => m_atomTargets_l l a hj b3) (r_J (by decide))
    · rcases ix_cases a2 (n := (AL A j).length) (by have := AL_len (A := A) (a := j); omega) with b2 | ⟨p, hp, rfl⟩
      · exact op_t (k := 1) (by decide) hM g (ht_atomTargets_IB (t_atomTargets_a hst hC hj gj b2 hq)) (fun S1 a b => m_atomTargets_a l a b hj gj b2 hq) (r_J (by decide))
      · exact op_J _ hM (fun B e => by rw [e]; exact g) (hr_atomTargets (a_J (c_atomTargets l hC hj gj hp hq))) (fun S1 a b => m_all (m_atomTargets l a b hj gj hp hq))

theorem o_initialAtoms {l : Launch} (hst : l.stackTraces = false) {S : pv_M} (hI : INV S) (a1 : Int32) : OP l WL_initialAtoms MX12_initialAtoms [.ref 0, .int a1, .ref 104] [.ref 75, .int a1] S rJ := by
  obtain ⟨A, hC, hM, g⟩ := hI
  rcases ix_cases a1 (n := 3) (by decide) with b1 | ⟨j, hj, rfl⟩
  · exact op_ts (k := 1) (by decide) hC hM g (ht_initialAtoms_IB (t_initialAtoms_r hst b1)) (fun S1 a b => m_initialAtoms_r l a b1) (r_J (by decide))
  · have gj := g.1.1 j hj
    exact op_J _ hM (fun B e => by rw [e]; exact g) (hr_initialAtoms (a_J (c_initialAtoms l hC hj gj))) (fun S1 a b => m_all (m_initialAtoms l a b hj gj))

theorem o_finalAtom {l : Launch} (hst : l.stackTraces = false) {S : pv_M} (hI : INV S) (a1 : Int32) : OP l WL_finalAtom MX12_finalAtom [.ref 0, .int a1, .ref 104] [.ref 75, .int a1] S rI := by
  obtain ⟨A, hC, hM, g⟩ := hI
  rcases ix_cases a1 (n := 3) (by decide) with b1 | ⟨j, hj, rfl⟩
  · exact op_ts (k := 1) (by decide) hC hM g (ht_finalAtom_IB (t_finalAtom_r hst b1)) (fun S1 a b => m_finalAtom_r l a b1) (r_I (by decide))
  · have gj := g.1.1 j hj
    exact op_I _ hM (fun B e => by rw [e]; exact g) (hr_finalAtom (a_I (c_finalAtom l hC hj gj))) (fun S1 a b => m_all (m_finalAtom l a b hj gj))

theorem o_takeAtomWord {l : Launch} (hst : l.stackTraces = false) {S : pv_M} (hI : INV S) (a1 : Int32) (a2 : Int32) : OP l WL_takeAtomWord MX12_takeAtomWord [.ref 0, .int a1, .int a2, .ref 104] [.ref 75, .int a1, .int a2] S rI := by
  obtain ⟨A, hC, hM, g⟩ := hI
  rcases ix_cases a1 (n := 3) (by decide) with b1 | ⟨j, hj, rfl⟩
  · exact op_ts (k := 1) (by decide) hC hM g (ht_takeAtomWord_IB (t_takeAtomWord_r hst b1)) (fun S1 a b => m_takeAtomWord_r l a b1) (r_I (by decide))
  · have gj := g.1.1 j hj
    rcases ix_cases a2 (n := (AL A j).length) (by have := AL_len (A := A) (a := j); omega) with b2 | ⟨p, hp, rfl⟩
    · exact op_t (k := 1) (by decide) hM g (ht_takeAtomWord_IB (t_takeAtomWord_a hst hC hj gj b2)) (fun S1 a b => m_takeAtomWord_a l a b hj gj b2) (r_I (by decide))
    · have hB := (tie_size gj hp).1
      obtain ⟨O, s, hOr, hs, hs1, hs2, hw⟩ := tie_word gj hp
      have e : lw_ A j ((AL A j).getD p 0) = wl O (bf (d7 A j) (1 * 2 ^ p)).length s := by unfold lw_; rw [← hw, wdn_len]
      by_cases h12 : lw_ A j ((AL A j).getD p 0) ≤ 12
      · have ef : fw O (bf (d7 A j) (1 * 2 ^ p)).length s (wL A) = fun q => if q < lw_ A j ((AL A j).getD p 0) then (mw A j ((AL A j).getD p 0)).getD q 0 else wL A q := by rw [wdn_fw, hw]; rfl
        have h3 : ∀ q, (fun q => if q < lw_ A j ((AL A j).getD p 0) then (mw A j ((AL A j).getD p 0)).getD q 0 else wL A q) q < 3 := fun q => by
          show (if q < lw_ A j ((AL A j).getD p 0) then (mw A j ((AL A j).getD p 0)).getD q 0 else wL A q) < 3
          by_cases z : q < lw_ A j ((AL A j).getD p 0)
          · rw [if_pos z, ← hw]
            exact wdn_ok _ (getD_mem (by rw [wdn_len, ← e]; exact z))
          · rw [if_neg z]; exact g.1.2.2 q
        refine op_I _ hM (fun B z => by rw [z]; exact gd_setW g h12 h3) (hr_takeAtomWord (a_I (c_takeAtomWord l hC hj gj hp h12))) (fun S1 a b => m_all (A' := setW A (lw_ A j ((AL A j).getD p 0), fun q => if q < lw_ A j ((AL A j).getD p 0) then (mw A j ((AL A j).getD p 0)).getD q 0 else wL A q)) ?_)
        have := m_takeAtomWord l a b hj gj hp hB hs hs1 hs2 hOr (by rw [← e]; exact h12)
        rw [← e, ef] at this
        exact this
      · exact op_t (k := 2) (by decide) hM g (ht_takeAtomWord_IS (t_takeAtomWord_long hst hC hj gj hp (by omega))) (fun S1 a b => m_takeAtomWord_long l a b hj gj hp hB hs hs1 hs2 hOr (by omega)) (r_I (by decide))

theorem o_atomSize {l : Launch} (hst : l.stackTraces = false) {S : pv_M} (hI : INV S) (a1 : Int32) (a2 : Int32) : OP l WL_atomSize MX12_atomSize [.ref 0, .int a1, .int a2, .ref 104] [.ref 75, .int a1, .int a2] S rI := by
  obtain ⟨A, hC, hM, g⟩ := hI
  rcases ix_cases a1 (n := 3) (by decide) with b1 | ⟨j, hj, rfl⟩
  · exact op_ts (k := 1) (by decide) hC hM g (ht_atomSize_IB (t_atomSize_r hst b1)) (fun S1 a b => m_atomSize_r l a b1) (r_I (by decide))
  · have gj := g.1.1 j hj
    rcases ix_cases a2 (n := (AL A j).length) (by have := AL_len (A := A) (a := j); omega) with b2 | ⟨p, hp, rfl⟩
    · exact op_t (k := 1) (by decide) hM g (ht_atomSize_IB (t_atomSize_a hst hC hj gj b2)) (fun S1 a b => m_atomSize_a l a b hj gj b2) (r_I (by decide))
    · obtain ⟨hB, e⟩ := tie_size gj hp
      exact op_I _ hM (fun B e => by rw [e]; exact g) (hr_atomSize (a_I (c_atomSize l hC hj gj hp))) (fun S1 a b => m_all (by rw [← e]; exact m_atomSize l a b hj gj hp hB))

theorem o_resultSize {l : Launch} (hst : l.stackTraces = false) {S : pv_M} (hI : INV S) (a1 : Int32) (a2 : Int32) (a3 : Int32) : OP l WL_resultSize MX12_resultSize [.ref 0, .int a1, .int a2, .int a3, .ref 104] [.ref 75, .int a1, .int a2, .int a3] S rI := by
  obtain ⟨A, hC, hM, g⟩ := hI
  rcases ix_cases a1 (n := 5) (by decide) with b1 | ⟨p, hp, rfl⟩
  · exact op_ts (k := 1) (by decide) hC hM g (ht_resultSize_IA (t_resultSize_o hst b1)) (fun S1 a b => m_resultSize_o l a b1) (r_I (by decide))
  · rcases ix_cases a2 (n := 3) (by decide) with b2 | ⟨i, hi, rfl⟩
    · exact op_ts (k := 2) (by decide) hC hM g (ht_resultSize_IB (t_resultSize_a hst hp b2)) (fun S1 a b => m_resultSize_a l a hp b2) (r_I (by decide))
    · rcases ix_cases a3 (n := 3) (by decide) with b3 | ⟨j, hj, rfl⟩
      · exact op_ts (k := 2) (by decide) hC hM g (ht_resultSize_IB (t_resultSize_b hst hp hi b3)) (fun S1 a b => m_resultSize_b l a hp hi b3) (r_I (by decide))
      · have gi := g.1.1 i hi
        have gj := g.1.1 j hj
        by_cases e : p = 4
        · subst e
          exact op_I _ hM (fun B e => by rw [e]; exact g) (hr_resultSize (a_I (c_resultSize_4 l hC hi gi hj gj))) (fun S1 a b => m_all (m_resultSize l hp hi hj a b trivial (mm_4 l hi gi hj gj) (len4 (l := l) hi gi hj gj)))
        · have p4 : p < 4 := by omega
          exact op_I _ hM (fun B e => by rw [e]; exact g) (hr_resultSize (a_I (c_resultSize_p l hC hi gi hj gj p4))) (fun S1 a b => m_all (m_resultSize l hp hi hj a b trivial (mm_p l p4 hi gi hj gj) (lenP (l := l) hi gi hj gj)))

theorem o_starSize {l : Launch} (hst : l.stackTraces = false) {S : pv_M} (hI : INV S) (a1 : Int32) : OP l WL_starSize MX12_starSize [.ref 0, .int a1, .ref 104] [.ref 75, .int a1] S rI := by
  obtain ⟨A, hC, hM, g⟩ := hI
  rcases ix_cases a1 (n := 3) (by decide) with b1 | ⟨j, hj, rfl⟩
  · exact op_ts (k := 1) (by decide) hC hM g (ht_starSize_IB (t_starSize_r hst b1)) (fun S1 a b => m_starSize_r l a b1) (r_I (by decide))
  · have gj := g.1.1 j hj
    exact op_I _ hM (fun B e => by rw [e]; exact g) (hr_starSize (a_I (c_starSize l hC hj gj))) (fun S1 a b => m_all (m_starSize l hj a b trivial (mm_5 l hj gj) (len5 (l := l) hj gj)))

theorem o_combine {l : Launch} (hst : l.stackTraces = false) {S : pv_M} (hI : INV S) (a1 : Int32) (a2 : Int32) (a3 : Int32) (a4 : Int32) : OP l WL_combine MX12_combine [.ref 0, .int a1, .int a2, .int a3, .int a4, .ref 104] [.ref 75, .int a1, .int a2, .int a3, .int a4] S rI := by
  obtain ⟨A, hC, hM, g⟩ := hI
  rcases ix_cases a1 (n := 5) (by decide) with b1 | ⟨p, hp, rfl⟩
  · exact op_ts (k := 1) (by decide) hC hM g (ht_combine_IA (t_combine_o hst b1)) (fun S1 a b => m_combine_o l a b1) (r_I (by decide))
  · rcases ix_cases a2 (n := 3) (by decide) with b2 | ⟨i, hi, rfl⟩
    · exact op_ts (k := 2) (by decide) hC hM g (ht_combine_IB (t_combine_a hst hp b2)) (fun S1 a b => m_combine_a l a hp b2) (r_I (by decide))
    · rcases ix_cases a3 (n := 3) (by decide) with b3 | ⟨j, hj, rfl⟩
      · exact op_ts (k := 2) (by decide) hC hM g (ht_combine_IB (t_combine_b hst hp hi b3)) (fun S1 a b => m_combine_b l a hp hi b3) (r_I (by decide))
      · have gi := g.1.1 i hi
        have gj := g.1.1 j hj
        rcases ix_cases a4 (n := 3) (by decide) with b4 | ⟨t, ht, rfl⟩
        · exact op_ts (k := 2) (by decide) hC hM g (ht_combine_IB (t_combine_t hst hp hi hj b4)) (fun S1 a b => m_combine_t l a hp hi hj b4) (r_I (by decide))
        · by_cases e : p = 4
          · subst e
            by_cases h6 : cM (d4' A i j) (a4' A j) (bf (d4' A i j) (catM A i 0 0)) ≤ 6
            · exact op_I _ hM (gd_sR g (len4 (l := l) hi gi hj gj) h6) (hr_combine (a_S (c_combine_4 l hC hi gi hj gj ht h6))) (fun S1 a b => b_S (m_combine l ht hp hi hj a b trivial (mm_4 l hi gi hj gj) (len4 (l := l) hi gi hj gj) h6))
            · exact op_t (k := 3) (by decide) hM g (ht_combine_IS (t_combine_big_4 hst hC hi gi hj gj ht (Nat.lt_of_not_le h6))) (fun S1 a b => m_combine_big l ht hp hi hj a b trivial (mm_4 l hi gi hj gj) (len4 (l := l) hi gi hj gj) (Nat.lt_of_not_le h6)) (r_I (by decide))
          · have p4 : p < 4 := by omega
            by_cases h6 : cM (dP' A i j) (aP' A p i j) (bf (dP' A i j) 0) ≤ 6
            · exact op_I _ hM (gd_sR g (lenP (l := l) hi gi hj gj) h6) (hr_combine (a_S (c_combine_p l hC hi gi hj gj p4 ht h6))) (fun S1 a b => b_S (m_combine l ht hp hi hj a b trivial (mm_p l p4 hi gi hj gj) (lenP (l := l) hi gi hj gj) h6))
            · exact op_t (k := 3) (by decide) hM g (ht_combine_IS (t_combine_big_p hst hC hi gi hj gj p4 ht (Nat.lt_of_not_le h6))) (fun S1 a b => m_combine_big l ht hp hi hj a b trivial (mm_p l p4 hi gi hj gj) (lenP (l := l) hi gi hj gj) (Nat.lt_of_not_le h6)) (r_I (by decide))

theorem o_star {l : Launch} (hst : l.stackTraces = false) {S : pv_M} (hI : INV S) (a1 : Int32) (a2 : Int32) : OP l WL_star MX12_star [.ref 0, .int a1, .int a2, .ref 104] [.ref 75, .int a1, .int a2] S rI := by
  obtain ⟨A, hC, hM, g⟩ := hI
  rcases ix_cases a1 (n := 3) (by decide) with b1 | ⟨j, hj, rfl⟩
  · exact op_ts (k := 1) (by decide) hC hM g (ht_star_IB (t_star_r hst b1)) (fun S1 a b => m_star_r l a b1) (r_I (by decide))
  · have gj := g.1.1 j hj
    rcases ix_cases a2 (n := 3) (by decide) with b2 | ⟨t, ht, rfl⟩
    · exact op_ts (k := 1) (by decide) hC hM g (ht_star_IB (t_star_t hst hj b2)) (fun S1 a b => m_star_t l a hj b2) (r_I (by decide))
    · by_cases h6 : cM (fun c q => stM A j c q) (a5' A j) (bf (fun c q => stM A j c q) 64) ≤ 6
      · exact op_I _ hM (gd_sR g (len5 (l := l) hj gj) h6) (hr_star (a_S (c_star l hC hj gj ht h6))) (fun S1 a b => b_S (m_star l hj ht a b trivial (mm_5 l hj gj) (len5 (l := l) hj gj) h6))
      · exact op_t (k := 2) (by decide) hM g (ht_star_IS (t_star_big hst hC hj gj ht (Nat.lt_of_not_le h6))) (fun S1 a b => m_star_big l hj ht a b trivial (mm_5 l hj gj) (len5 (l := l) hj gj) (Nat.lt_of_not_le h6)) (r_I (by decide))

theorem o_reverse {l : Launch} (hst : l.stackTraces = false) {S : pv_M} (hI : INV S) (a1 : Int32) (a2 : Int32) : OP l WL_reverse MX12_reverse [.ref 0, .int a1, .int a2, .ref 104] [.ref 75, .int a1, .int a2] S rI := by
  obtain ⟨A, hC, hM, g⟩ := hI
  rcases ix_cases a1 (n := 3) (by decide) with b1 | ⟨j, hj, rfl⟩
  · rcases ix_cases a2 (n := 3) (by decide) with b2 | ⟨t, ht, rfl⟩
    · exact op_ts (k := 1) (by decide) hC hM g (ht_reverse_IB (t_reverse_t hst b2)) (fun S1 a b => m_reverse_r l a b1) (r_I (by decide))
    · exact op_ts (k := 1) (by decide) hC hM g (ht_reverse_IB (t_reverse_r hst b1 ht)) (fun S1 a b => m_reverse_r l a b1) (r_I (by decide))
  · have gj := g.1.1 j hj
    rcases ix_cases a2 (n := 3) (by decide) with b2 | ⟨t, ht, rfl⟩
    · exact op_ts (k := 1) (by decide) hC hM g (ht_reverse_IB (t_reverse_t hst b2)) (fun S1 a b => m_reverse_t l a hj b2) (r_I (by decide))
    · have e := (tie_rev gj).1
      by_cases h6 : (AL A j).length ≤ 6
      · have h6' : cM (d6 A j) a6 (bf (d6 A j) (k6 A j)) ≤ 6 := by rw [show cM (d6 A j) a6 (bf (d6 A j) (k6 A j)) = (AL A j).length from e]; exact h6
        exact op_I _ hM (gd_sR g (Nat.le_trans (Rb_len gj) (by decide)) h6') (hr_reverse (a_S (c_reverse l hC hj gj ht h6))) (fun S1 a b => b_S (m_reverse l hj ht a b trivial (mm_6 l hj gj) (Nat.le_trans (Rb_len gj) (by decide)) h6'))
      · have h6' : 6 < cM (d6 A j) a6 (bf (d6 A j) (k6 A j)) := by rw [show cM (d6 A j) a6 (bf (d6 A j) (k6 A j)) = (AL A j).length from e]; omega
        exact op_t (k := 2) (by decide) hM g (ht_reverse_IS (t_reverse_big hst hC hj gj ht (by omega))) (fun S1 a b => m_reverse_big l hj ht a b trivial (mm_6 l hj gj) (Nat.le_trans (Rb_len gj) (by decide)) h6') (r_I (by decide))

theorem o_uniteAtoms {l : Launch} (hst : l.stackTraces = false) {S : pv_M} (hI : INV S) (a1 : Int32) (a2 : Int64) (a3 : Int32) : OP l WL_uniteAtoms MX12_uniteAtoms [.ref 0, .int a1, .long a2, .int a3, .ref 104] [.ref 75, .int a1, .long a2, .int a3] S rI := by
  obtain ⟨A, hC, hM, g⟩ := hI
  obtain ⟨v, hv64, rfl⟩ : ∃ v, v < 2 ^ 64 ∧ a2 = lN v := ⟨_, a2.toBitVec.isLt, lN_of a2⟩
  rcases ix_cases a1 (n := 3) (by decide) with b1 | ⟨j, hj, rfl⟩
  · rcases ix_cases a3 (n := 3) (by decide) with b2 | ⟨t, ht, rfl⟩
    · exact op_ts (k := 1) (by decide) hC hM g (ht_uniteAtoms_IB (t_uniteAtoms_t hst b2)) (fun S1 a b => m_uniteAtoms_r l a b1) (r_I (by decide))
    · exact op_ts (k := 1) (by decide) hC hM g (ht_uniteAtoms_IB (t_uniteAtoms_r hst b1 ht)) (fun S1 a b => m_uniteAtoms_r l a b1) (r_I (by decide))
  · have gj := g.1.1 j hj
    rcases ix_cases a3 (n := 3) (by decide) with b2 | ⟨t, ht, rfl⟩
    · exact op_ts (k := 1) (by decide) hC hM g (ht_uniteAtoms_IB (t_uniteAtoms_t hst b2)) (fun S1 a b => m_uniteAtoms_t l a hj b2) (r_I (by decide))
    · by_cases hv : v < 2 ^ (AL A j).length
      · by_cases h6 : (bf (d7 A j) v).length ≤ 6
        · exact op_I _ hM (gd_sR g (by omega) (Nat.le_trans cM_le h6)) (hr_uniteAtoms (a_S (c_uniteAtoms l hC hj gj ht hv64 hv h6))) (fun S1 a b => b_S (m_uniteAtoms l a b hj gj ht hv64 hv h6))
        · exact op_t (k := 3) (by decide) hM g (ht_uniteAtoms_IS (t_uniteAtoms_big hst hC hj gj ht hv64 hv (by omega))) (fun S1 a b => m_uniteAtoms_big l a b hj gj ht hv64 hv (by omega)) (r_I (by decide))
      · exact op_t (k := 2) (by decide) hM g (ht_uniteAtoms_IA (t_uniteAtoms_n hst hC hj gj ht hv64 (by omega))) (fun S1 a b => m_uniteAtoms_n l a b hj gj ht hv64 (by omega)) (r_I (by decide))

theorem o_isUnionOfAtoms {l : Launch} (hst : l.stackTraces = false) {S : pv_M} (hI : INV S) (a1 : Int32) (a2 : Int32) : OP l WL_isUnionOfAtoms MX12_isUnionOfAtoms [.ref 0, .int a1, .int a2, .ref 104] [.ref 75, .int a1, .int a2] S rB := by
  obtain ⟨A, hC, hM, g⟩ := hI
  rcases ix_cases a1 (n := 3) (by decide) with b1 | ⟨j, hj, rfl⟩
  · rcases ix_cases a2 (n := 3) (by decide) with b2 | ⟨t, ht, rfl⟩
    · exact op_ts (k := 1) (by decide) hC hM g (ht_isUnionOfAtoms_IB (t_isUnionOfAtoms_t hst b2)) (fun S1 a b => m_isUnionOfAtoms_r l a b1) (r_Z (by decide))
    · exact op_ts (k := 1) (by decide) hC hM g (ht_isUnionOfAtoms_IB (t_isUnionOfAtoms_r hst b1 ht)) (fun S1 a b => m_isUnionOfAtoms_r l a b1) (r_Z (by decide))
  · have gj := g.1.1 j hj
    rcases ix_cases a2 (n := 3) (by decide) with b2 | ⟨t, ht, rfl⟩
    · exact op_ts (k := 1) (by decide) hC hM g (ht_isUnionOfAtoms_IB (t_isUnionOfAtoms_t hst b2)) (fun S1 a b => m_isUnionOfAtoms_t l a hj b2) (r_Z (by decide))
    · have gt := g.1.1 t ht
      exact op_Z _ (a := decide ((yU A j t (RU A j t).length &&& zU A j t (RU A j t).length) = 0)) hM (fun B e => by rw [e]; exact g) (hr_isUnionOfAtoms (mt_post (c_isUnionOfAtoms l hC hj gj ht gt) (fun v S' q => by
        obtain ⟨c, q1, q2, q3, q4⟩ := q
        refine ⟨c, q1, ?_, A, rfl, q3, q4⟩
        rw [Bool.eq_iff_iff, q2, decide_eq_true_eq]
        exact (tie_iu gj gt).symm))) (fun S1 a b => m_all (m_isUnionOfAtoms l a b hj gj ht gt))

theorem o_takeDifference {l : Launch} (hst : l.stackTraces = false) {S : pv_M} (hI : INV S) (a1 : Int32) (a2 : Int32) : OP l WL_takeDifference MX12_takeDifference [.ref 0, .int a1, .int a2, .ref 104] [.ref 75, .int a1, .int a2] S rI := by
  obtain ⟨A, hC, hM, g⟩ := hI
  rcases ix_cases a1 (n := 3) (by decide) with b1 | ⟨j, hj, rfl⟩
  · exact op_ts (k := 1) (by decide) hC hM g (ht_takeDifference_IB (t_takeDifference_r hst b1)) (fun S1 a b => m_takeDifference_r l a b1) (r_I (by decide))
  · have gj := g.1.1 j hj
    rcases ix_cases a2 (n := 3) (by decide) with b2 | ⟨t, ht, rfl⟩
    · exact op_ts (k := 1) (by decide) hC hM g (ht_takeDifference_IB (t_takeDifference_t hst hj b2)) (fun S1 a b => m_takeDifference_t l a hj b2) (r_I (by decide))
    · have gt := g.1.1 t ht
      have hB := lenP (l := l) hj gj ht gt
      by_cases hn : ∃ s, s < (bf (dP' A j t) 0).length ∧ aP' A 3 j t ((bf (dP' A j t) 0).getD s 0) = true
      · obtain ⟨s, hs, hs1, hs2⟩ : ∃ s, s < (bf (dP' A j t) 0).length ∧ aP' A 3 j t ((bf (dP' A j t) 0).getD s 0) = true ∧ ∀ i, i < s → aP' A 3 j t ((bf (dP' A j t) 0).getD i 0) = false := by
          obtain ⟨n, hn1, hn2⟩ := hn
          obtain ⟨s, h1, h2, h3⟩ := least_b (fun s => aP' A 3 j t ((bf (dP' A j t) 0).getD s 0)) n hn2
          exact ⟨s, Nat.lt_of_le_of_lt h1 hn1, h2, h3⟩
        obtain ⟨O, hOr, -⟩ := bf_or hB
        by_cases h12 : wl O (bf (dP' A j t) 0).length s ≤ 12
        · have h3 : ∀ q, fw O (bf (dP' A j t) 0).length s (wL A) q < 3 := fun q => by
            rw [wdn_fw]
            show (if q < (wdn O (bf (dP' A j t) 0).length s).length then (wdn O (bf (dP' A j t) 0).length s).getD q 0 else wL A q) < 3
            by_cases z : q < (wdn O (bf (dP' A j t) 0).length s).length
            · rw [if_pos z]; exact wdn_ok _ (getD_mem z)
            · rw [if_neg z]; exact g.1.2.2 q
          exact op_I _ hM (fun B z => by rw [z]; exact gd_setW g h12 h3) (hr_takeDifference (a_I (c_takeDifference l hC hj gj ht gt hs hs1 hs2 hOr h12))) (fun S1 a b => m_all (m_takeDifference l hj ht a b trivial (mm_p l (by decide) hj gj ht gt) hB hs hs1 hs2 hOr h12))
        · exact op_t (k := 3) (by decide) hM g (ht_takeDifference_IS (t_takeDifference_long hst hC hj gj ht gt hs hs1 hs2 hOr (Nat.lt_of_not_le h12))) (fun S1 a b => m_takeDifference_long l hj ht a b trivial (mm_p l (by decide) hj gj ht gt) hB hs hs1 hs2 hOr (Nat.lt_of_not_le h12)) (r_I (by decide))
      · have hno : ∀ i, i < (bf (dP' A j t) 0).length → aP' A 3 j t ((bf (dP' A j t) 0).getD i 0) = false := fun i hi => by
          cases h : aP' A 3 j t ((bf (dP' A j t) 0).getD i 0) with
          | false => rfl
          | true => exact absurd ⟨i, hi, h⟩ hn
        exact op_t (k := 2) (by decide) hM g (ht_takeDifference_NS (t_takeDifference_eq hst hC hj gj ht gt hno)) (fun S1 a b => m_takeDifference_eq l hj ht a b trivial (mm_p l (by decide) hj gj ht gt) hB hno) (r_I (by decide))

theorem o_share {l : Launch} (hst : l.stackTraces = false) {S : pv_M} (hI : INV S) (a1 : Int32) (a2 : Int32) : OP l WL_share MX12_share [.ref 0, .int a1, .int a2, .ref 105] [.ref 75, .int a1, .int a2] S rD := by
  obtain ⟨A, hC, hM, g⟩ := hI
  rcases ix_cases a1 (n := 3) (by decide) with b1 | ⟨j, hj, rfl⟩
  · exact op_ts (k := 1) (by decide) hC hM g (ht_share_IB (t_share_r hst b1)) (fun S1 a b => m_share_r l a b1) (r_D (by decide))
  · have gj := g.1.1 j hj
    rcases ix_cases a2 (n := 21) (by decide) with b2 | ⟨m, hm, rfl⟩
    · exact op_ts (k := 2) (by decide) hC hM g (ht_share_IA (t_share_n hst hj b2)) (fun S1 a b => m_share_n l a hj b2) (r_D (by decide))
    · exact op_D _ hM (fun B e => by rw [e]; exact g) (hr_share (a_D (c_share l hC hj gj (show m ≤ 20 by omega)))) (fun S1 a b => m_all (m_share l a b hj gj (show m ≤ 20 by omega)))

theorem o_keepShares {l : Launch} (hst : l.stackTraces = false) {S : pv_M} (hI : INV S) (a1 : Int32) (a2 : Int32) (a3 : Int32) (a4 : Bool) : OP l WL_keepShares MX12_keepShares [.ref 0, .int a1, .int a2, .int a3, .int (bI a4)] [.ref 75, .int a1, .int a2, .int a3, .int (bI a4)] S rV := by
  obtain ⟨A, hC, hM, g⟩ := hI
  rcases ix_cases a1 (n := 2) (by decide) with b1 | ⟨p, hp, rfl⟩
  · exact op_ts (k := 1) (by decide) hC hM g (ht_keepShares_IB (t_keepShares_p hst b1)) (fun S1 a b => m_keepShares_p l a b1) r_V
  · rcases ix_cases a2 (n := 3) (by decide) with b2 | ⟨j, hj, rfl⟩
    · exact op_ts (k := 1) (by decide) hC hM g (ht_keepShares_IB (t_keepShares_r hst hp b2)) (fun S1 a b => m_keepShares_r l hp a b2) r_V
    · have gj := g.1.1 j hj
      rcases ix_cases a3 (n := 21) (by decide) with b3 | ⟨m, hm, rfl⟩
      · exact op_ts (k := 2) (by decide) hC hM g (ht_keepShares_IA (t_keepShares_n hst hp hj b3)) (fun S1 a b => m_keepShares_n l hp hj a b3) r_V
      · exact op_V (fun B => B = (A.1, A.2.1, kRw A.2.2 p a4 (rT A j) (rF A j) m)) hM (fun B e => by rw [e]; exact ⟨g.1, g.2.1, kRw_gd g.2.2 hp (by omega)⟩) (hr_keepShares (mt_post (c_keepShares l hC hj gj g.2.2 hp (show m ≤ 20 by omega)) (fun v S' q => ⟨q.1, _, rfl, q.2.1, q.2.2⟩))) (fun S1 a b => m_all (m_keepShares l a b hj gj hp (show m ≤ 20 by omega)))

theorem o_remainder {l : Launch} (hst : l.stackTraces = false) {S : pv_M} (hI : INV S) (a1 : Int32) (a2 : Int32) (a3 : Int32) : OP l WL_remainder MX12_remainder [.ref 0, .int a1, .int a2, .int a3, .ref 105] [.ref 75, .int a1, .int a2, .int a3] S rD := by
  obtain ⟨A, hC, hM, g⟩ := hI
  rcases ix_cases a1 (n := 2) (by decide) with b1 | ⟨p, hp, rfl⟩
  · exact op_ts (k := 1) (by decide) hC hM g (ht_remainder_IA (t_remainder_p hst b1)) (fun S1 a b => m_remainder_p l a b1) (r_D (by decide))
  · have gw := g.2.2 p hp
    rcases (show (A.2.2.1 p).1 = 0 ∨ (A.2.2.1 p).1 = 1 ∨ (A.2.2.1 p).1 = 2 by have := gw.1; omega) with hk | hk | hk
    · exact op_ts (k := 2) (by decide) hC hM g (ht_remainder_IS (t_remainder_m hst hC g.2.2 hp hk)) (fun S1 a b => m_remainder_m l a b g.2.2 hp hk) (r_D (by decide))
    · rcases ix_cases a2 (n := (A.2.2.1 p).2) (by have := (gw.2.1 (by omega)).2; omega) with b2 | ⟨u, hu, rfl⟩
      · exact op_t (k := 3) (by decide) hM g (mtW_post (ht_remainder_IB (t_remainder_u1 hst hC g.2.2 hp hk b2)) (fun v S1 q => ⟨q.1, by rw [q.2]; exact hC, by rw [q.2]; exact FR.rf⟩)) (fun S1 a b => m_th2 b (m_remainder_u1 l a b g.2.2 hp hk b2)) (r_D (by decide))
      · rcases ix_cases a3 (n := (A.2.2.1 p).2) (by have := (gw.2.1 (by omega)).2; omega) with b3 | ⟨w, hw, rfl⟩
        · exact op_t (k := 3) (by decide) hM g (mtW_post (ht_remainder_IB (t_remainder_w1 hst hC g.2.2 hp hk hu b3)) (fun v S1 q => ⟨q.1, by rw [q.2]; exact hC, by rw [q.2]; exact FR.rf⟩)) (fun S1 a b => m_th2 b (m_remainder_w1 l a b g.2.2 hp hk hu b3)) (r_D (by decide))
        · obtain ⟨D, pu, D1, -⟩ := gw.2.2.1 hk u hu
          obtain ⟨G, pe, G1, G2⟩ := gw.2.2.1 hk w hw
          rcases G2 with rfl | G2
          · exact op_t (k := 4) (by decide) hM g (mtW_post (ht_remainder_AR (t_remainder_z1 hst hC g.2.2 hp hk hu hw pe)) (fun v S1 q => ⟨q.1, by rw [q.2]; exact hC, by rw [q.2]; exact FR.rf⟩)) (fun S1 a b => m_th2 b (m_remainder_z1 l a b g.2.2 hp hk hu hw pe)) (r_D (by decide))
          · have h0 : 0 < G := Nat.lt_of_lt_of_le (Nat.two_pow_pos _) G2
            have hD : D ≤ G * 2 ^ 32 := Nat.le_trans D1 (by rw [show 2 ^ 149 = 2 ^ 117 * 2 ^ 32 from by rw [← Nat.pow_add]]; exact Nat.mul_le_mul_right _ G2)
            exact op_D _ hM (fun B e => by rw [e]; exact g) (hr_remainder (a_D0 hC (c_remainder_1 l hC g.2.2 hp hk hu hw pu pe h0 hD (Nat.lt_of_le_of_lt D1 (Nat.pow_lt_pow_right (by decide) (by decide)))))) (fun S1 a b => m_all (m_th b (m_remainder_1 l a b g.2.2 hp hk hu hw pu pe h0)))
    · rcases ix_cases a2 (n := (A.2.2.1 p).2) (by have := (gw.2.1 (by omega)).2; omega) with b2 | ⟨u, hu, rfl⟩
      · exact op_t (k := 3) (by decide) hM g (mtW_post (ht_remainder_IB (t_remainder_u2 hst hC g.2.2 hp hk b2)) (fun v S1 q => ⟨q.1, by rw [q.2]; exact hC, by rw [q.2]; exact FR.rf⟩)) (fun S1 a b => m_th2 b (m_remainder_u2 l a b g.2.2 hp hk b2)) (r_D (by decide))
      · rcases ix_cases a3 (n := (A.2.2.1 p).2) (by have := (gw.2.1 (by omega)).2; omega) with b3 | ⟨w, hw, rfl⟩
        · exact op_t (k := 3) (by decide) hM g (mtW_post (ht_remainder_IB (t_remainder_w2 hst hC g.2.2 hp hk hu b3)) (fun v S1 q => ⟨q.1, by rw [q.2]; exact hC, by rw [q.2]; exact FR.rf⟩)) (fun S1 a b => m_th2 b (m_remainder_w2 l a b g.2.2 hp hk hu b3)) (r_D (by decide))
        · obtain ⟨D, pu, D1, -⟩ := gw.2.2.2 hk u hu
          obtain ⟨G, pe, G1, G2⟩ := gw.2.2.2 hk w hw
          rcases G2 with rfl | G2
          · exact op_t (k := 4) (by decide) hM g (mtW_post (ht_remainder_AR (t_remainder_z2 hst hC g.2.2 hp hk hu hw pe)) (fun v S1 q => ⟨q.1, by rw [q.2]; exact hC, by rw [q.2]; exact FR.rf⟩)) (fun S1 a b => m_th2 b (m_remainder_z2 l a b g.2.2 hp hk hu hw pe)) (r_D (by decide))
          · have h0 : 0 < G := Nat.lt_of_lt_of_le (Nat.two_pow_pos _) G2
            have hD : D ≤ G * 2 ^ 32 := Nat.le_trans D1 (by rw [show 2 ^ 1074 = 2 ^ 1042 * 2 ^ 32 from by rw [← Nat.pow_add]]; exact Nat.mul_le_mul_right _ G2)
            exact op_D _ hM (fun B e => by rw [e]; exact g) (hr_remainder (a_D0 hC (c_remainder_2 l hC g.2.2 hp hk hu hw pu pe h0 hD (Nat.lt_of_le_of_lt D1 (Nat.pow_lt_pow_right (by decide) (by decide)))))) (fun S1 a b => m_all (m_th b (m_remainder_2 l a b g.2.2 hp hk hu hw pu pe h0)))

/-! what was saved -/
theorem cst_save {S S' : pv_M} {A : Ab} (h : CSt S A) (k : FN svC S S') (h1 : ∀ j, j < 3 → AutoAt S' (55 + 4 * j) (56 + 4 * j) (rN A j) (rT A j) (rF A j)) (h2 : WordAt S' 5 6 (wM A) (wL A)) (h3 : mI S' 0 4 = 1) (hS : GS S') : CSt S' (A.1, (true, A.1), A.2.2) := by
  have q : ∀ r, ¬ (r = 55 ∨ r = 56 ∨ r = 59 ∨ r = 60 ∨ r = 63 ∨ r = 64 ∨ r = 5 ∨ r = 6 ∨ r = 0) → ¬ svC r := fun r hr z => hr z
  exact ⟨hS, h.2.1.of (by rw [k.1]), h.2.2.1.of (by rw [k.1]), fun j hj => (h.2.2.2.1 j hj).keepR k.fr (q _ (by omega)) (q _ (by omega)), h.2.2.2.2.1.keepR k.fr (q _ (by omega)) (q _ (by omega)), h3, ⟨fun j hj => ⟨_, _, _, h1 j hj⟩, _, _, h2⟩, fun _ => ⟨h1, h2⟩, fun j hj => (h.2.2.2.2.2.2.2.2 j hj).keepR k.fr (q _ (by omega)) (q _ (by omega)) (q _ (by omega))⟩
theorem cst_rest {S S' : pv_M} {A : Ab} (h : CSt S A) (hs : A.2.1.1 = true) (k : FN rgC S S') (h1 : ∀ j, j < 3 → AutoAt S' (53 + 4 * j) (54 + 4 * j) (A.2.1.2.1 j).1 (A.2.1.2.1 j).2.1 (A.2.1.2.1 j).2.2) (h2 : WordAt S' 3 4 A.2.1.2.2.1 A.2.1.2.2.2) (hS : GS S') : CSt S' (A.2.1.2, A.2) := by
  have q : ∀ r, ¬ (r = 53 ∨ r = 54 ∨ r = 57 ∨ r = 58 ∨ r = 61 ∨ r = 62 ∨ r = 3 ∨ r = 4) → ¬ rgC r := fun r hr z => hr z
  exact ⟨hS, h.2.1.of (by rw [k.1]), h.2.2.1.of (by rw [k.1]), h1, h2, by rw [(k.2 0 (q _ (by omega))).1]; exact h.2.2.2.2.2.1, h.2.2.2.2.2.2.1.keepR k.fr (fun j hj => ⟨q _ (by omega), q _ (by omega)⟩) (q _ (by omega)) (q _ (by omega)), fun e => (h.2.2.2.2.2.2.2.1 e).keepR k.fr (fun j hj => ⟨q _ (by omega), q _ (by omega)⟩) (q _ (by omega)) (q _ (by omega)), fun j hj => (h.2.2.2.2.2.2.2.2 j hj).keepR k.fr (q _ (by omega)) (q _ (by omega)) (q _ (by omega))⟩
theorem fr_sv {S S' : pv_M} (k : FN svC S S') : FR cC S S' := k.fr.mono (fun r z => by rcases z with z | z | z | z | z | z | z | z | z <;> (show r ≤ 74; omega))
theorem fr_rg {S S' : pv_M} (k : FN rgC S S') : FR cC S S' := k.fr.mono (fun r z => by rcases z with z | z | z | z | z | z | z | z <;> (show r ≤ 74; omega))
theorem o_save {l : Launch} {S : pv_M} (hI : INV S) : mt l MX11_save 106 [.ref 0] S (fun v S1 => v = none ∧ mt l MX12_save 106 [.ref 75] S1 (fun v2 S2 => v2 = none ∧ INV S2)) := by
  obtain ⟨A, hC, hM, g⟩ := hI
  obtain ⟨m2, L2, hV⟩ := hC.2.2.2.2.2.2.1.2
  refine mt_post (c_save l hC.1 hC.2.2.2.1 hC.2.2.2.2.2.2.1.1 hC.2.2.2.2.1 hV) (fun v S1 q => ?_)
  obtain ⟨q1, q2, q3, q4, q5, q6⟩ := q
  have c := cst_save hC q2 q3 q4 q5 q6
  exact ⟨q1, mt_post (m_save l q6 (hM.cC (fr_sv q2))) (fun v2 S2 z => ⟨z.1, _, c.fn z.2.2.2, z.2.2.1, g.1, fun _ => g.1, g.2.2⟩)⟩
theorem o_clearWord {l : Launch} {S : pv_M} (hI : INV S) : mt l MX11_clearWord 106 [.ref 0] S (fun v S1 => ∃ a, v = some (.int a) ∧ mt l MX12_clearWord 106 [.ref 75] S1 (fun v2 S2 => v2 = some (.int a) ∧ INV S2)) := by
  obtain ⟨A, hC, hM, g⟩ := hI
  refine mt_post (c_clearWord l hC.1 (hC.wa g)) (fun v S1 q => ?_)
  have c := cst_wd hC q.2.2 q.2.1
  exact ⟨_, q.1, mt_post (m_clearWord l c.1 (hM.cC (fr_w34 q.2.2))) (fun v2 S2 z => ⟨z.1, _, c.fn z.2.2.2, z.2.2.1, gd_setW g (Nat.zero_le _) g.1.2.2⟩)⟩
theorem o_restore {l : Launch} (hst : l.stackTraces = false) {S : pv_M} (hI : INV S)  : OP l WL_restore MX12_restore [.ref 0] [.ref 75] S rV := by
  obtain ⟨A, hC, hM, g⟩ := hI
  cases hs : A.2.1.1 with
  | false =>
    exact op_ts (k := 1) (by decide) hC hM g (ht_restore_IS (t_restore hst (by rw [hC.2.2.2.2.2.1, hs]; rfl))) (fun S1 a b => m_restore_n l a b hs) r_V
  | true =>
    have sv := hC.2.2.2.2.2.2.2.1 hs
    exact op_V (fun B => B = (A.2.1.2, A.2)) hM (fun B e => by rw [e]; exact ⟨g.2.1 hs, g.2.1, g.2.2⟩) (hr_restore (mt_post (c_restore l hC.1 (by rw [hC.2.2.2.2.2.1, hs]; rfl) sv.1 (fun j hj => ⟨_, _, _, hC.2.2.2.1 j hj⟩) hC.2.2.2.2.1 sv.2) (fun v S' q => ⟨q.1, _, rfl, cst_rest hC hs q.2.1 q.2.2.1 q.2.2.2.1 q.2.2.2.2, fr_rg q.2.1⟩))) (fun S1 a b => m_all (m_restore l a b hs))

