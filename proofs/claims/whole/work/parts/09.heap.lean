/-! rows that read and write cells -/
theorem pv_small {r t n : Nat} (h : pv_sh r = .inr (t, n)) : n < 2 ^ 31 := by
  have key : ∀ q ∈ pv_shl, (match q with | .inl _ => true | .inr (_, n) => decide (n < 2 ^ 31)) = true := by decide +kernel
  unfold pv_sh at h
  rw [List.getD_eq_getElem?_getD] at h
  cases h9 : pv_shl[r]? with
  | none =>
    rw [h9] at h
    cases h
    decide
  | some z =>
    rw [h9] at h
    have h1 := key _ (List.mem_of_getElem? h9)
    simp only [Option.getD_some] at h
    rw [h] at h1
    simpa using h1
theorem pv_cell_a {ay : Nat → ClassId} {α : Nat → Nat} {S : pv_M} {r t n : Nat} (h : pv_sh r = .inr (t, n)) : pv_cell ay α S r = .inl (ay t, n, pv_arr α S r t) := by simp [pv_cell, h]
theorem pv_cell_o {ay : Nat → ClassId} {α : Nat → Nat} {S : pv_M} {r ci : Nat} (h : pv_sh r = .inl ci) : pv_cell ay α S r = .inr (ci, (List.range (pv_nf ci)).map fun k => pv_v α S r k (pv_ft ci k)) := by simp [pv_cell, h]
theorem pv_wd_a {ay : Nat → ClassId} {α : Nat → Nat} {S : pv_M} {N r t n : Nat} (hr : r < N) (h : pv_sh r = .inr (t, n)) : (pv_wd ay α N S)[r]? = some (α r, .inl (ay t, n, pv_arr α S r t)) := by rw [pv_wd_at ay α S hr, pv_cell_a h]
theorem pv_wd_o {ay : Nat → ClassId} {α : Nat → Nat} {S : pv_M} {N r ci : Nat} (hr : r < N) (h : pv_sh r = .inl ci) : (pv_wd ay α N S)[r]? = some (α r, .inr (ci, (List.range (pv_nf ci)).map fun k => pv_v α S r k (pv_ft ci k))) := by rw [pv_wd_at ay α S hr, pv_cell_o h]
section HR
variable {x : Cx} {cc : ByteArray} {own : String} {N cs sl : Nat} {lv st : List Value} {S : pv_M} {pc : Nat}
theorem g_iald (C : BX x cc own) {r n j : Nat} {i : Int32} (d : decode cc pc = .ok (.iaload, 1)) (hs : pv_sh r = .inr (0, n)) (hr : r < N) (hj : j < n) (hi : i = nI j) (k : GG x N cs sl lv (.int (mI S r j) :: st) S (pc + 1)) : GG x N cs sl lv (.int i :: .ref r :: st) S pc := by
  intro α H locs ls h1 h2
  subst hi
  refine va_iald C.1 C.2.1 C.2.2.2.2.1 h1.1 r 0 (pv_wd_a hr hs) rfl (vp_in_nI hj (pv_small hs)) d ?_
  rw [nI_clamp (Nat.lt_trans hj (pv_small hs))]
  exact k α H locs ls h1 h2
theorem g_zald (C : BX x cc own) {r n j : Nat} {i : Int32} (d : decode cc pc = .ok (.baload, 1)) (hs : pv_sh r = .inr (4, n)) (hr : r < N) (hj : j < n) (hi : i = nI j) (k : GG x N cs sl lv (.int (mI S r j) :: st) S (pc + 1)) : GG x N cs sl lv (.int i :: .ref r :: st) S pc := by
  intro α H locs ls h1 h2
  subst hi
  refine va_zald C.1 C.2.1 C.2.2.2.2.1 h1.1 r 4 (pv_wd_a hr hs) rfl (vp_in_nI hj (pv_small hs)) d ?_
  rw [nI_clamp (Nat.lt_trans hj (pv_small hs))]
  exact k α H locs ls h1 h2
theorem g_lald (C : BX x cc own) {r n j : Nat} {i : Int32} (d : decode cc pc = .ok (.laload, 1)) (hs : pv_sh r = .inr (1, n)) (hr : r < N) (hj : j < n) (hi : i = nI j) (k : GG x N cs sl lv (.long (mJ S r j) :: st) S (pc + 1)) : GG x N cs sl lv (.int i :: .ref r :: st) S pc := by
  intro α H locs ls h1 h2
  subst hi
  refine va_lald C.1 C.2.1 C.2.2.2.2.1 h1.1 r 1 (pv_wd_a hr hs) rfl (vp_in_nI hj (pv_small hs)) d ?_
  rw [nI_clamp (Nat.lt_trans hj (pv_small hs))]
  exact k α H locs ls h1 h2
theorem g_fald (C : BX x cc own) {r n j : Nat} {i : Int32} (d : decode cc pc = .ok (.faload, 1)) (hs : pv_sh r = .inr (2, n)) (hr : r < N) (hj : j < n) (hi : i = nI j) (k : GG x N cs sl lv (.float (mF S r j) :: st) S (pc + 1)) : GG x N cs sl lv (.int i :: .ref r :: st) S pc := by
  intro α H locs ls h1 h2
  subst hi
  refine va_fald C.1 C.2.1 C.2.2.2.2.1 h1.1 r 2 (pv_wd_a hr hs) rfl (vp_in_nI hj (pv_small hs)) d ?_
  rw [nI_clamp (Nat.lt_trans hj (pv_small hs))]
  exact k α H locs ls h1 h2
theorem g_dald (C : BX x cc own) {r n j : Nat} {i : Int32} (d : decode cc pc = .ok (.daload, 1)) (hs : pv_sh r = .inr (3, n)) (hr : r < N) (hj : j < n) (hi : i = nI j) (k : GG x N cs sl lv (.double (mD S r j) :: st) S (pc + 1)) : GG x N cs sl lv (.int i :: .ref r :: st) S pc := by
  intro α H locs ls h1 h2
  subst hi
  refine va_dald C.1 C.2.1 C.2.2.2.2.1 h1.1 r 3 (pv_wd_a hr hs) rfl (vp_in_nI hj (pv_small hs)) d ?_
  rw [nI_clamp (Nat.lt_trans hj (pv_small hs))]
  exact k α H locs ls h1 h2
theorem g_aald (C : BX x cc own) {r n j t q : Nat} {i : Int32} (d : decode cc pc = .ok (.aaload, 1)) (hs : pv_sh r = .inr (t, n)) (ht : t = 5 ∨ t = 6) (hr : r < N) (hj : j < n) (hi : i = nI j) (hq : mR S r j = some q) (k : GG x N cs sl lv (.ref q :: st) S (pc + 1)) : GG x N cs sl lv (.int i :: .ref r :: st) S pc := by
  intro α H locs ls h1 h2
  subst hi
  have h9 : va_rf ((fun k => (mR S r k).map α) (nI j).toNatClampNeg) = .ref (α q) := by
    rw [nI_clamp (Nat.lt_trans hj (pv_small hs))]
    simp only [hq]
    rfl
  rcases ht with rfl | rfl
  · refine va_aldq (f := fun k => (mR S r k).map α) C.1 C.2.1 C.2.2.2.2.1 h1.1 r 5 (pv_wd_a hr hs) rfl (vp_in_nI hj (pv_small hs)) d ?_
    rw [h9]
    exact k α H locs ls h1 h2
  · refine va_aldq (f := fun k => (mR S r k).map α) C.1 C.2.1 C.2.2.2.2.1 h1.1 r 6 (pv_wd_a hr hs) rfl (vp_in_nI hj (pv_small hs)) d ?_
    rw [h9]
    exact k α H locs ls h1 h2
/-- a change of one cell's contents: the world behind it -/
theorem RW.set {α : Nat → Nat} {H H1 : Heap} {locs locs1 : List Loc} {S S' : pv_M} {r : Nat} {c : va_E} (h1 : RW x N α S H locs) (hr : r < N) (hs : ∀ j, j ≠ r → pv_cell (xy x) α S' j = pv_cell (xy x) α S j) (hc : pv_cell (xy x) α S' r = c) (hok : pv_ok N S') (hP : va_P (xD x) pv_cl ((pv_wd (xy x) α N S).set r (α r, c)) H1) (hD : va_D (xA x) ((pv_wd (xy x) α N S).set r (α r, c))) (hS : va_S (xA x) (xs x).heap H1 locs1) : RW x N α S' H1 locs1 := by
  rw [pv_wd_set (xy x) α hr hs hc] at hP hD
  exact ⟨hP, hD, hS, hok, h1.2.2.2.2⟩
theorem upd_up {f : Nat → Int32} {k : Nat} {a : Int32} : upd f k a = va_up f k a := rfl
theorem updL_up {f : Nat → Int64} {k : Nat} {a : Int64} : vp_updL f k a = va_up f k a := rfl
theorem updF_up {α : Type} {f : Nat → α} {k : Nat} {a : α} : vf_upd f k a = va_up f k a := rfl
theorem up_same {α : Type} {f : Nat → α} {k : Nat} {a : α} : va_up f k a k = a := by simp [va_up]
theorem g_iast (C : BX x cc own) {r n j : Nat} {i a : Int32} (d : decode cc pc = .ok (.iastore, 1)) (hs : pv_sh r = .inr (0, n)) (hr : r < N) (hj : j < n) (hi : i = nI j) (k : GG x N cs sl lv st (wI S r (va_up (mI S r) j a)) (pc + 1)) : GG x N cs sl lv (.int a :: .int i :: .ref r :: st) S pc := by
  intro α H locs ls h1 h2
  subst hi
  refine va_iast C.1 C.2.1 C.2.2.2.2.1 h1.1 h1.2.1 h1.2.2.1 r 0 (pv_wd_a hr hs) rfl (vp_in_nI hj (pv_small hs)) d (fun H1 locs1 hP hD hS => ?_)
  rw [nI_clamp (Nat.lt_trans hj (pv_small hs))] at hP hD
  exact k α H1 locs1 ls (h1.set hr (pv_cell_wI _ _ _ _ _) (by rw [pv_cell_a hs]; simp only [pv_arr, mI, wI, up_same]; rfl) h1.2.2.2.1 hP hD hS) h2
theorem g_zast (C : BX x cc own) {r n j : Nat} {i a : Int32} (d : decode cc pc = .ok (.bastore, 1)) (hs : pv_sh r = .inr (4, n)) (hr : r < N) (hj : j < n) (hi : i = nI j) (ha : vp_nar .boolean a = a) (k : GG x N cs sl lv st (wI S r (va_up (mI S r) j a)) (pc + 1)) : GG x N cs sl lv (.int a :: .int i :: .ref r :: st) S pc := by
  intro α H locs ls h1 h2
  subst hi
  refine va_zast C.1 C.2.1 C.2.2.2.2.1 h1.1 h1.2.1 h1.2.2.1 r 4 (pv_wd_a hr hs) rfl (vp_in_nI hj (pv_small hs)) d (fun H1 locs1 hP hD hS => ?_)
  rw [nI_clamp (Nat.lt_trans hj (pv_small hs)), ha] at hP hD
  exact k α H1 locs1 ls (h1.set hr (pv_cell_wI _ _ _ _ _) (by rw [pv_cell_a hs]; simp only [pv_arr, mI, wI, up_same]; rfl) h1.2.2.2.1 hP hD hS) h2
theorem g_last (C : BX x cc own) {r n j : Nat} {i : Int32} {a : Int64} (d : decode cc pc = .ok (.lastore, 1)) (hs : pv_sh r = .inr (1, n)) (hr : r < N) (hj : j < n) (hi : i = nI j) (k : GG x N cs sl lv st (wJ S r (va_up (mJ S r) j a)) (pc + 1)) : GG x N cs sl lv (.long a :: .int i :: .ref r :: st) S pc := by
  intro α H locs ls h1 h2
  subst hi
  refine va_last C.1 C.2.1 C.2.2.2.2.1 h1.1 h1.2.1 h1.2.2.1 r 1 (pv_wd_a hr hs) rfl (vp_in_nI hj (pv_small hs)) d (fun H1 locs1 hP hD hS => ?_)
  rw [nI_clamp (Nat.lt_trans hj (pv_small hs))] at hP hD
  exact k α H1 locs1 ls (h1.set hr (pv_cell_wJ _ _ _ _ _) (by rw [pv_cell_a hs]; simp only [pv_arr, mJ, wJ, up_same]; rfl) h1.2.2.2.1 hP hD hS) h2
theorem g_fast (C : BX x cc own) {r n j : Nat} {i : Int32} {a : UInt32} (d : decode cc pc = .ok (.fastore, 1)) (hs : pv_sh r = .inr (2, n)) (hr : r < N) (hj : j < n) (hi : i = nI j) (k : GG x N cs sl lv st (wF S r (va_up (mF S r) j a)) (pc + 1)) : GG x N cs sl lv (.float a :: .int i :: .ref r :: st) S pc := by
  intro α H locs ls h1 h2
  subst hi
  refine va_fast C.1 C.2.1 C.2.2.2.2.1 h1.1 h1.2.1 h1.2.2.1 r 2 (pv_wd_a hr hs) rfl (vp_in_nI hj (pv_small hs)) d (fun H1 locs1 hP hD hS => ?_)
  rw [nI_clamp (Nat.lt_trans hj (pv_small hs))] at hP hD
  exact k α H1 locs1 ls (h1.set hr (pv_cell_wF _ _ _ _ _) (by rw [pv_cell_a hs]; simp only [pv_arr, mF, wF, up_same]; rfl) h1.2.2.2.1 hP hD hS) h2
theorem g_dast (C : BX x cc own) {r n j : Nat} {i : Int32} {a : UInt64} (d : decode cc pc = .ok (.dastore, 1)) (hs : pv_sh r = .inr (3, n)) (hr : r < N) (hj : j < n) (hi : i = nI j) (k : GG x N cs sl lv st (wD S r (va_up (mD S r) j a)) (pc + 1)) : GG x N cs sl lv (.double a :: .int i :: .ref r :: st) S pc := by
  intro α H locs ls h1 h2
  subst hi
  refine va_dast C.1 C.2.1 C.2.2.2.2.1 h1.1 h1.2.1 h1.2.2.1 r 3 (pv_wd_a hr hs) rfl (vp_in_nI hj (pv_small hs)) d (fun H1 locs1 hP hD hS => ?_)
  rw [nI_clamp (Nat.lt_trans hj (pv_small hs))] at hP hD
  exact k α H1 locs1 ls (h1.set hr (pv_cell_wD _ _ _ _ _) (by rw [pv_cell_a hs]; simp only [pv_arr, mD, wD, up_same]; rfl) h1.2.2.2.1 hP hD hS) h2
end HR
/-! fields -/
def KO (ci : Nat) (q : vw_C) : Prop := pv_cl[ci]? = some q ∧ q.2.2 = pv_nf ci ∧ (∀ w ∈ u_ws q.1 q.2.1 q.2.2, w ∈ TB) ∧ (∀ j, j < q.2.2 → parseFieldDescriptor (q.2.1 j).2.2.1 = some (pv_ft ci j)) ∧ ∀ a, a < q.2.2 → ∀ b, b < q.2.2 → a ≠ b → (q.2.1 a).2.1 ≠ (q.2.1 b).2.1
/-- the field k of class ci, by the number idx in the table of constants of the class own -/
def FO (own : String) (idx ci k : Nat) (fin : Bool) : Prop := ∃ q : vw_C, KO ci q ∧ k < q.2.2 ∧ (Cond.fieldLink own idx (q.2.1 k).1 (q.2.1 k).2.1 (q.2.1 k).2.2.1 ∈ TB ∨ ∃ host, Cond.fieldLinkNest own idx (q.2.1 k).1 (q.2.1 k).2.1 (q.2.1 k).2.2.1 host ∈ NB) ∧ (q.2.1 k).2.2.2 = fin ∧ (q.2.1 k).1 = q.1
theorem tb_all (ws : List Cond) (ps : List Nat) (hp : ws = ps.filterMap (fun i => lw_tbl[i]?)) (h : ws.all goodWord = true) : ∀ w ∈ ws, w ∈ TB := by
  intro w hw
  have h1 := List.all_eq_true.mp h w hw
  rw [hp] at hw
  obtain ⟨i, -, hi⟩ := List.mem_filterMap.mp hw
  exact tb_in i hi h1
theorem pv_fs {α : Nat → Nat} {S S' : pv_M} {r ci kk n : Nat} {v : Value} (h1 : ∀ j, j ≠ kk → pv_v α S' r j (pv_ft ci j) = pv_v α S r j (pv_ft ci j)) (h2 : pv_v α S' r kk (pv_ft ci kk) = v) : ((List.range n).map fun j => pv_v α S r j (pv_ft ci j)).set kk v = (List.range n).map fun j => pv_v α S' r j (pv_ft ci j) := by
  apply List.ext_getElem?
  intro j
  by_cases hj : j = kk
  · subst hj
    by_cases hn : j < n
    · rw [List.getElem?_set_self (by simpa using hn)]
      simp [hn, h2]
    · rw [List.getElem?_eq_none (by simpa using hn), List.getElem?_eq_none (by simpa using hn)]
  · rw [List.getElem?_set_ne (fun q => hj q.symm), List.getElem?_map, List.getElem?_map]
    cases h9 : (List.range n)[j]? with
    | none => rfl
    | some z =>
      obtain ⟨h10, h11⟩ := List.getElem?_eq_some_iff.mp h9
      rw [List.getElem_range] at h11
      subst h11
      simp only [Option.map_some, h1 j hj]
section HF
variable {x : Cx} {cc : ByteArray} {own : String} {N cs sl : Nat} {lv st : List Value} {S : pv_M} {pc : Nat}
theorem g_get (C : BX x cc own) {idx ci kk r : Nat} {fin : Bool} (F : FO own idx ci kk fin) {v : Value} (d : decode cc pc = .ok (.getfield idx, 3)) (hs : pv_sh r = .inl ci) (hr : r < N) (hv : ∀ α, pv_v α S r kk (pv_ft ci kk) = tv (xb x) α v) (k : GG x N cs sl lv (v :: st) S (pc + 3)) : GG x N cs sl lv (.ref r :: st) S pc := by
  intro α H locs ls h1 h2
  obtain ⟨⟨Cn, T, n⟩, ⟨k1, k2, k3, k4, k5⟩, hk, hl, -, -⟩ := F
  have hfs : ((List.range (pv_nf ci)).map fun j => pv_v α S r j (pv_ft ci j))[kk]? = some (tv (xb x) α v) := by
    have hk' : kk < pv_nf ci := by rw [← k2]; exact hk
    simp [hk', hv α]
  rcases hl with hl | ⟨host, hl⟩
  · exact va_get C.1 C.2.1 C.2.2.2.1 k3 C.2.2.1 C.2.2.2.2.1 h1.1 r (pv_wd_o hr hs) k1 kk hk (C.2.2.2.1 _ hl) (fun _ h9 => h9) hfs d (k α H locs ls h1 h2)
  · exact va_getN C.1 C.2.1 C.2.2.2.1 k3 C.2.2.1 C.2.2.2.2.1 h1.1 r (pv_wd_o hr hs) k1 kk hk (va_Nw.use (nb_on hl) (C.2.2.2.2.2.2.2.2.2.1 _ hl)) (fun _ h9 => h9) hfs d (k α H locs ls h1 h2)
theorem g_getR (C : BX x cc own) {idx ci kk r : Nat} {fin : Bool} (F : FO own idx ci kk fin) {q : Nat} (d : decode cc pc = .ok (.getfield idx, 3)) (hs : pv_sh r = .inl ci) (hr : r < N) (ht : ∀ α, pv_v α S r kk (pv_ft ci kk) = va_rf ((mR S r kk).map α)) (hq : mR S r kk = some q) (k : GG x N cs sl lv (.ref q :: st) S (pc + 3)) : GG x N cs sl lv (.ref r :: st) S pc :=
  g_get C F (v := .ref q) d hs hr (fun α => by rw [ht, hq]; rfl) k
theorem g_put (C : BX x cc own) {idx ci kk r : Nat} (F : FO own idx ci kk false) {v : Value} {S' : pv_M} (d : decode cc pc = .ok (.putfield idx, 3)) (hs : pv_sh r = .inl ci) (hr : r < N) (hn : ∀ α, narrow (pv_ft ci kk) (tv (xb x) α v) = tv (xb x) α v) (hfit : ∀ α, fits (pv_ft ci kk) (tv (xb x) α v) = true)
    (q1 : ∀ α j, j ≠ r → pv_cell (xy x) α S' j = pv_cell (xy x) α S j) (q2 : ∀ α j, j ≠ kk → pv_v α S' r j (pv_ft ci j) = pv_v α S r j (pv_ft ci j)) (q3 : ∀ α, pv_v α S' r kk (pv_ft ci kk) = tv (xb x) α v) (hok : pv_ok N S → pv_ok N S') (k : GG x N cs sl lv st S' (pc + 3)) : GG x N cs sl lv (v :: .ref r :: st) S pc := by
  intro α H locs ls h1 h2
  obtain ⟨⟨Cn, T, n⟩, ⟨k1, k2, k3, k4, k5⟩, hk, hl, hfin, -⟩ := F
  have hlen : kk < ((List.range (pv_nf ci)).map fun j => pv_v α S r j (pv_ft ci j)).length := by
    simp only [List.length_map, List.length_range]
    rw [← k2]; exact hk
  have hc : pv_cell (xy x) α S' r = .inr (ci, ((List.range (pv_nf ci)).map fun j => pv_v α S r j (pv_ft ci j)).set kk (tv (xb x) α v)) := by
    rw [pv_cell_o hs, pv_fs (q2 α) (q3 α)]
  rcases hl with hl | ⟨host, hl⟩
  · exact va_put C.1 C.2.1 C.2.2.2.1 k3 (pv_ft ci) k4 k5 C.2.2.1 C.2.2.2.2.1 h1.1 h1.2.1 h1.2.2.1 r (pv_wd_o hr hs) k1 kk hk (C.2.2.2.1 _ hl) (fun _ h9 => h9) hfin (k4 kk hk) (hn α) (hfit α) hlen d (fun H1 locs1 hP hD hS => k α H1 locs1 ls (h1.set hr (q1 α) hc (hok h1.2.2.2.1) hP hD hS) h2)
  · exact va_putN C.1 C.2.1 C.2.2.2.1 k3 (pv_ft ci) k4 k5 C.2.2.1 C.2.2.2.2.1 h1.1 h1.2.1 h1.2.2.1 r (pv_wd_o hr hs) k1 kk hk (va_Nw.use (nb_on hl) (C.2.2.2.2.2.2.2.2.2.1 _ hl)) (fun _ h9 => h9) hfin (k4 kk hk) (hn α) (hfit α) hlen d (fun H1 locs1 hP hD hS => k α H1 locs1 ls (h1.set hr (q1 α) hc (hok h1.2.2.2.1) hP hD hS) h2)
theorem pv_v_wI {α : Nat → Nat} {r kk : Nat} {a : Int32} {ty : FieldType} {j : Nat} (hj : j ≠ kk) : pv_v α (wI S r (va_up (mI S r) kk a)) r j ty = pv_v α S r j ty := by
  cases ty <;> simp [pv_v, mI, mJ, mF, mD, mR, wI, va_up, hj]
theorem pv_v_wJ {α : Nat → Nat} {r kk : Nat} {a : Int64} {ty : FieldType} {j : Nat} (hj : j ≠ kk) : pv_v α (wJ S r (va_up (mJ S r) kk a)) r j ty = pv_v α S r j ty := by
  cases ty <;> simp [pv_v, mI, mJ, mF, mD, mR, wJ, va_up, hj]
theorem pv_v_wR {α : Nat → Nat} {r kk : Nat} {a : Option Nat} {ty : FieldType} {j : Nat} (hj : j ≠ kk) : pv_v α (wR S r (va_up (mR S r) kk a)) r j ty = pv_v α S r j ty := by
  cases ty <;> simp [pv_v, mI, mJ, mF, mD, mR, wR, va_up, hj]
theorem g_putI (C : BX x cc own) {idx ci kk r : Nat} (F : FO own idx ci kk false) {a : Int32} (d : decode cc pc = .ok (.putfield idx, 3)) (hs : pv_sh r = .inl ci) (hr : r < N) (ht : pv_ft ci kk = .int) (k : GG x N cs sl lv st (wI S r (va_up (mI S r) kk a)) (pc + 3)) : GG x N cs sl lv (.int a :: .ref r :: st) S pc :=
  g_put C F d hs hr (fun α => by rw [ht]; rfl) (fun α => by rw [ht]; rfl) (fun α => pv_cell_wI _ _ _ _ _) (fun α j hj => pv_v_wI hj) (fun α => by rw [ht]; simp [pv_v, mI, wI, va_up, tv]) (fun h => h) k
theorem g_putZ (C : BX x cc own) {idx ci kk r : Nat} (F : FO own idx ci kk false) {a : Int32} (d : decode cc pc = .ok (.putfield idx, 3)) (hs : pv_sh r = .inl ci) (hr : r < N) (ht : pv_ft ci kk = .boolean) (ha : a = 0 ∨ a = 1) (k : GG x N cs sl lv st (wI S r (va_up (mI S r) kk a)) (pc + 3)) : GG x N cs sl lv (.int a :: .ref r :: st) S pc :=
  g_put C F d hs hr (fun α => by rw [ht]; rcases ha with rfl | rfl <;> rfl) (fun α => by rw [ht]; rcases ha with rfl | rfl <;> rfl) (fun α => pv_cell_wI _ _ _ _ _) (fun α j hj => pv_v_wI hj) (fun α => by rw [ht]; simp [pv_v, mI, wI, va_up, tv]) (fun h => h) k
theorem g_putJ (C : BX x cc own) {idx ci kk r : Nat} (F : FO own idx ci kk false) {a : Int64} (d : decode cc pc = .ok (.putfield idx, 3)) (hs : pv_sh r = .inl ci) (hr : r < N) (ht : pv_ft ci kk = .long) (k : GG x N cs sl lv st (wJ S r (va_up (mJ S r) kk a)) (pc + 3)) : GG x N cs sl lv (.long a :: .ref r :: st) S pc :=
  g_put C F d hs hr (fun α => by rw [ht]; rfl) (fun α => by rw [ht]; rfl) (fun α => pv_cell_wJ _ _ _ _ _) (fun α j hj => pv_v_wJ hj) (fun α => by rw [ht]; simp [pv_v, mJ, wJ, va_up, tv]) (fun h => h) k
theorem pv_ok_wR {r kk q : Nat} (hq : q < N) (h : pv_ok N S) : pv_ok N (wR S r (va_up (mR S r) kk (some q))) := by
  intro i hi k' r' h'
  simp only [mR, wR, va_up] at h'
  by_cases h1 : i = r
  · rw [if_pos h1] at h'
    by_cases h2 : k' = kk
    · simp only [va_up] at h'
      rw [if_pos h2] at h'
      cases h'
      exact hq
    · simp only [va_up] at h'
      rw [if_neg h2] at h'
      exact h r (by rw [← h1]; exact hi) k' r' h'
  · rw [if_neg h1] at h'
    exact h i hi k' r' h'
theorem g_putR (C : BX x cc own) {idx ci kk r q : Nat} (F : FO own idx ci kk false) (d : decode cc pc = .ok (.putfield idx, 3)) (hs : pv_sh r = .inl ci) (hr : r < N) (hq : q < N) (ht : (∃ cn, pv_ft ci kk = .object cn) ∨ ∃ ty, pv_ft ci kk = .array ty) (k : GG x N cs sl lv st (wR S r (va_up (mR S r) kk (some q))) (pc + 3)) : GG x N cs sl lv (.ref q :: .ref r :: st) S pc :=
  g_put C F d hs hr (fun α => by rcases ht with ⟨cn, ht⟩ | ⟨ty, ht⟩ <;> rw [ht] <;> rfl) (fun α => by rcases ht with ⟨cn, ht⟩ | ⟨ty, ht⟩ <;> rw [ht] <;> rfl) (fun α => pv_cell_wR _ _ _ _ _) (fun α j hj => pv_v_wR hj) (fun α => by rcases ht with ⟨cn, ht⟩ | ⟨ty, ht⟩ <;> rw [ht] <;> simp [pv_v, mR, wR, va_up, tv, va_rf]) (pv_ok_wR hq) k
end HF
