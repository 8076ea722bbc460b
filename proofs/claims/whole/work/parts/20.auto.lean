set_option maxRecDepth 100000 in
theorem c_X1_codeBound (l : Launch) {S : pv_M} {a : Nat} : mt l MX1_codeBound 106 [.ref a] S (fun v T => v = some (.int (nI 6)) ∧ T = S) := by
  refine mt_of (by decide) (by decide) ?_
  intro x hl hR hmL C E
  show GG x 106 0 0 [.ref a] [] S 0
  refine n_bipush C 6 dX1_codeBound_0 ?_
  exact g_iret C E dX1_codeBound_2 (by rw [hR]; decide) (by rw [hR]; decide) ⟨rfl, rfl⟩

set_option maxRecDepth 100000 in
theorem c_X1_startCode (l : Launch) {S : pv_M} {a : Nat} : mt l MX1_startCode 106 [.ref a] S (fun v T => v = some (.int (nI 0)) ∧ T = S) := by
  refine mt_of (by decide) (by decide) ?_
  intro x hl hR hmL C E
  show GG x 106 0 0 [.ref a] [] S 0
  refine n_iconst C 0 dX1_startCode_0 ?_
  exact g_iret C E dX1_startCode_1 (by rw [hR]; decide) (by rw [hR]; decide) ⟨rfl, rfl⟩

set_option maxRecDepth 100000 in
theorem c_X1_follow (l : Launch) {a t : Nat} {S : pv_M} (ha : pv_sh a = .inl 1) (la : a < 106) (ht : mR S a 1 = some t) (hs : pv_sh t = .inr (0, 18)) (lt : t < 106) {s q : Nat} (h1 : s * 3 + q < 18) : mt l MX1_follow 106 [.ref a, .int (nI (s)), .int (nI (q))] S (fun v T => v = some (.int (mI S t (s * 3 + q))) ∧ T = S) := by
  refine mt_of (by decide) (by decide) ?_
  intro x hl hR hmL C E
  show GG x 106 0 0 [.ref a, .int (nI (s)), .int (nI (q))] [] S 0
  refine g_aload_n C dX1_follow_0 rfl ?_
  refine g_getR C fo_X1_15 dX1_follow_1 ha la (fun _ => rfl) ht ?_
  refine g_iload_n C dX1_follow_4 rfl ?_
  refine n_iconst C 3 dX1_follow_5 ?_
  refine n_imul C dX1_follow_6 ?_
  refine g_iload_n C dX1_follow_7 rfl ?_
  refine n_iadd C dX1_follow_8 ?_
  refine n_iald C dX1_follow_9 hs lt rfl ?_ (by omega)
  exact g_iret C E dX1_follow_10 (by rw [hR]; decide) (by rw [hR]; decide) ⟨rfl, rfl⟩

set_option maxRecDepth 100000 in
theorem c_X1_lead (l : Launch) {a t : Nat} {S : pv_M} (ha : pv_sh a = .inl 1) (la : a < 106) (ht : mR S a 1 = some t) (hs : pv_sh t = .inr (0, 18)) (lt : t < 106) {s q : Nat} {v : Int32} (h1 : s * 3 + q < 18) : mt l MX1_lead 106 [.ref a, .int (nI (s)), .int (nI (q)), .int (v)] S (fun w T => w = none ∧ T = wI S t (va_up (mI S t) (s * 3 + q) v)) := by
  refine mt_of (by decide) (by decide) ?_
  intro x hl hR hmL C E
  show GG x 106 0 0 [.ref a, .int (nI (s)), .int (nI (q)), .int (v)] [] S 0
  refine g_aload_n C dX1_lead_0 rfl ?_
  refine g_getR C fo_X1_15 dX1_lead_1 ha la (fun _ => rfl) ht ?_
  refine g_iload_n C dX1_lead_4 rfl ?_
  refine n_iconst C 3 dX1_lead_5 ?_
  refine n_imul C dX1_lead_6 ?_
  refine g_iload_n C dX1_lead_7 rfl ?_
  refine n_iadd C dX1_lead_8 ?_
  refine g_iload_n C dX1_lead_9 rfl ?_
  refine g_iast C dX1_lead_10 hs lt (by omega) rfl ?_
  exact g_vret C E dX1_lead_11 (by rw [hR]; decide) (by rw [hR]; decide) ⟨rfl, rfl⟩
