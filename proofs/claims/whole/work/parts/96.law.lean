/-! THE LAW'S BODY: rows of its own -/
theorem inv_gs {S : pv_M} (h : INV S) : GS S := by obtain ⟨A, c, -⟩ := h; exact c.1
theorem lg_self (a : Int64) : lg_cmp a a = 0 := by unfold lg_cmp; simp
section LW
variable {x : Cx} {cc : ByteArray} {own : String} {N cs sl : Nat} {lv st : List Value} {S : pv_M} {pc : Nat}
theorem g_slen (C : BX x cc own) (hX : va_X (xb x) (xL x) (xS x) (xs x) (xs x).heap) (hbl : xb x < (xs x).heap.size) (hbA : ¬ xA x (xb x)) (d : decode cc pc = .ok (.arraylength, 1)) (k : GG x N cs sl lv (.int (nI (xL x)) :: st) S (pc + 1)) : GG x N cs sl lv (.retAddr 1 :: st) S pc := by
  intro α H locs ls h1 h2
  exact va_slen C.1 C.2.1 hX hbl hbA h1.2.2.1 d (k α H locs ls h1 h2)
theorem g_sld (C : BX x cc own) (hX : va_X (xb x) (xL x) (xS x) (xs x) (xs x).heap) (hbl : xb x < (xs x).heap.size) (hbA : ¬ xA x (xb x)) {j : Nat} (hj : j < xL x) (h31 : xL x < 2 ^ 31) (d : decode cc pc = .ok (.iaload, 1)) (k : GG x N cs sl lv (.int (xS x j) :: st) S (pc + 1)) : GG x N cs sl lv (.int (nI j) :: .retAddr 1 :: st) S pc := by
  intro α H locs ls h1 h2
  refine va_sld C.1 C.2.1 hX hbl hbA h1.2.2.1 (vp_in_nI hj h31) d ?_
  rw [nI_clamp (Nat.lt_trans hj h31)]
  exact k α H locs ls h1 h2
theorem g_nz (C : BX x cc own) {a : Int32} (d0 : decode cc pc = .ok (.ifCond .eq 7, 3)) (d1 : decode cc (pc + 3) = .ok (.iconst 1, 1)) (d2 : decode cc (pc + 4) = .ok (.goto 4, 3)) (d3 : decode cc (pc + 7) = .ok (.iconst 0, 1)) (k : GG x N cs sl lv (.int (bI (decide (¬ a = 0))) :: st) S (pc + 8)) : GG x N cs sl lv (.int a :: st) S pc := by
  refine g_if_eq C (pc + 7) d0 (by omega) (fun h => ?_) (fun h => ?_)
  · refine g_iconst C 0 d3 (by decide) ?_
    rw [show decide (¬ a = 0) = false from decide_eq_false (fun z => z h)] at k
    exact k
  · refine g_iconst C 1 d1 (by decide) ?_
    refine g_goto C (pc + 8) d2 (by omega) ?_
    rw [show decide (¬ a = 0) = true from decide_eq_true h] at k
    exact k
theorem g_bl (C : BX x cc own) {c : Bool} (d0 : decode cc pc = .ok (.ifCond .eq 7, 3)) (d1 : decode cc (pc + 3) = .ok (.lconst 1, 1)) (d2 : decode cc (pc + 4) = .ok (.goto 4, 3)) (d3 : decode cc (pc + 7) = .ok (.lconst 0, 1)) (k : GG x N cs sl lv (.long (bL c) :: st) S (pc + 8)) : GG x N cs sl lv (.int (bI c) :: st) S pc := by
  refine b_if_eq C (pc + 7) d0 (fun h => ?_) (fun h => ?_) (by omega)
  · subst h
    exact g_lconst C 0 d3 (by decide) k
  · subst h
    refine g_lconst C 1 d1 (by decide) ?_
    exact g_goto C (pc + 8) d2 (by omega) k
theorem g_leq (C : BX x cc own) {a b : Int64} {off : Int} (h : a = b) (tgt : Nat) (d0 : decode cc pc = .ok (.lcmp, 1)) (d1 : decode cc (pc + 1) = .ok (.ifCond .eq off, 3)) (ht : ((pc + 1 : Nat) : Int) + off = (tgt : Int)) (k : GG x N cs sl lv st S tgt) : GG x N cs sl lv (.long b :: .long a :: st) S pc := by
  subst h
  refine g_lcmp C d0 ?_
  rw [lg_self]
  exact g_if_eq C tgt d1 ht (fun _ => k) (fun z => absurd rfl z)
theorem g_cs (cs' sl' : Nat) (st' : List Value) (h1 : cs = cs') (h2 : sl = sl') (h3 : st = st') (k : GG x N cs' sl' lv st' S pc) : GG x N cs sl lv st S pc := by subst h1; subst h2; subst h3; exact k
theorem g_wid {cs' sl' : Nat} (h1 : cs ≤ cs') (h2 : sl ≤ sl') (k : GG x N cs' sl' lv st S pc) : GG x N cs sl lv st S pc := fun α H locs ls q1 q2 => W.widen h1 h2 (k α H locs ls q1 q2)
theorem rm_L {M : Me} (hR : xR x = room_1) (h : (decide (M.rm.frames + 1 ≤ 21) && decide (8 + (M.nL + 11) + M.rm.locals ≤ 10874)) = true) (h1 : cs + M.rm.cells ≤ 603072) (h2 : sl + M.rm.slots ≤ 7178346) : rmOk M x cs sl := by
  simp only [Bool.and_eq_true, decide_eq_true_eq] at h
  unfold rmOk
  rw [hR]
  exact ⟨h, h1, h2⟩
end LW
/-- what the law's body stands on -/
def LX (x : Cx) : Prop := BX x cL_law RL ∧ NCs (xs x) ∧ xR x = room_1 ∧ (xc x).maxLocals = 9 ∧ x.1.2.1.stackTraces = false ∧ va_X (xb x) (xL x) (xS x) (xs x) (xs x).heap ∧ xb x < (xs x).heap.size ∧ (¬ xA x (xb x)) ∧ xL x ≤ 2560
theorem LX.C {x : Cx} (h : LX x) : BX x cL_law RL := h.1
theorem LX.nc {x : Cx} (h : LX x) : NCs (xs x) := h.2.1
theorem LX.R {x : Cx} (h : LX x) : xR x = room_1 := h.2.2.1
theorem LX.mL {x : Cx} (h : LX x) : (xc x).maxLocals = 9 := h.2.2.2.1
theorem LX.st {x : Cx} (h : LX x) : x.1.2.1.stackTraces = false := h.2.2.2.2.1
theorem LX.X {x : Cx} (h : LX x) : va_X (xb x) (xL x) (xS x) (xs x) (xs x).heap := h.2.2.2.2.2.1
theorem LX.bl {x : Cx} (h : LX x) : xb x < (xs x).heap.size := h.2.2.2.2.2.2.1
theorem LX.bA {x : Cx} (h : LX x) : ¬ xA x (xb x) := h.2.2.2.2.2.2.2.1
theorem LX.n {x : Cx} (h : LX x) : xL x ≤ 2560 := h.2.2.2.2.2.2.2.2
abbrev lvL (i : Nat) : List Value := [.retAddr 1, .ref 0, .ref 75, .ref 104, .ref 105, .int (nI i), unk, unk, unk]
theorem sow_L_140 : SOW RL 140 WL_reset 3 := ⟨tb_all _ [404, 405, 54, 406] (by decide +kernel) (by decide +kernel), by decide +kernel⟩
theorem vo_L_145 : VO RL 145 11 MX12_reset 2 := ⟨_, ko_X12.1, tb_all _ [1320, 1321, 1322, 67, 1323] (by decide +kernel) (by decide +kernel), by decide +kernel⟩
theorem vo_L_146 : VO RL 146 11 MX12_thrown 0 := ⟨_, ko_X12.1, tb_all _ [1316, 1317, 1318, 67, 1319] (by decide +kernel) (by decide +kernel), by decide +kernel⟩
set_option maxRecDepth 100000 in
theorem lw_c0 {x : Cx} (L : LX x) {cs sl i : Nat} {S : pv_M} (hi : i + 5 ≤ xL x) (hI : INV S) (hc : cs + 1 ≤ 603072) (hs : sl + 6 ≤ 7178346) (kk : ∀ S' : pv_M, INV S' → GG x 106 (cs + 1) (sl + 6) (lvL i) [] S' 2528) : GG x 106 cs sl (lvL i) [] S 204 := by
  have C := L.C
  have h31 : xL x < 2 ^ 31 := Nat.lt_of_le_of_lt L.n (by decide)
  refine g_aload_n C dL_law_204 rfl ?_
  refine g_sload_n C dL_law_205 rfl ?_
  refine g_iload C dL_law_206 rfl ?_
  refine n_iconst C 1 dL_law_208 ?_
  refine n_iadd C dL_law_209 ?_
  refine g_sld C L.X L.bl L.bA (j := i + 1) (by omega) h31 dL_law_210 ?_
  refine g_sload_n C dL_law_211 rfl ?_
  refine g_iload C dL_law_212 rfl ?_
  refine n_iconst C 2 dL_law_214 ?_
  refine n_iadd C dL_law_215 ?_
  refine g_sld C L.X L.bl L.bA (j := i + 2) (by omega) h31 dL_law_216 ?_
  refine g_callSW C L.nc (As := [.ref 0, .int (xS x (i + 1)), .int (xS x (i + 2))]) (o_reset L.st hI _ _) sow_L_140 dL_law_217 rfl rfl (rm_L L.R (by decide) hc hs) (Nat.le_of_ble_eq_true rfl) (fun v9 S9 h9 => ?_)
  obtain ⟨k, hk, rfl, hm⟩ := h9
  refine g_cs (cs + 1) (sl + 6) [.int (nI (k))] rfl rfl rfl ?_
  refine g_istore C (by rw [L.mL]; decide) dL_law_220 [.retAddr 1, .ref 0, .ref 75, .ref 104, .ref 105, .int (nI (i)), .int (nI (k)), unk, unk] rfl ?_
  refine g_aload_n C dL_law_222 rfl ?_
  refine g_sload_n C dL_law_223 rfl ?_
  refine g_iload C dL_law_224 rfl ?_
  refine n_iconst C 1 dL_law_226 ?_
  refine n_iadd C dL_law_227 ?_
  refine g_sld C L.X L.bl L.bA (j := i + 1) (by omega) h31 dL_law_228 ?_
  refine g_sload_n C dL_law_229 rfl ?_
  refine g_iload C dL_law_230 rfl ?_
  refine n_iconst C 2 dL_law_232 ?_
  refine n_iadd C dL_law_233 ?_
  refine g_sld C L.X L.bl L.bA (j := i + 2) (by omega) h31 dL_law_234 ?_
  refine g_callV C (As := [.int (xS x (i + 1)), .int (xS x (i + 2))]) hm vo_L_145 dL_law_235 rfl rfl (by decide) rfl (rm_L L.R (by decide) (by show _ + 0 ≤ _; omega) (by show _ + 0 ≤ _; omega)) (Nat.le_of_ble_eq_true rfl) (fun v8 S8 h8 => ?_)
  obtain ⟨hr, hI8, h0⟩ := h8
  obtain rfl : v8 = none := hr
  refine g_cs (cs + 1) (sl + 6) [] rfl rfl rfl ?_
  refine g_aload_n C dL_law_238 rfl ?_
  refine g_callV C (As := []) (k_thrown _ (inv_gs hI8) h0) vo_L_146 dL_law_239 rfl rfl (by decide) rfl (rm_L L.R (by decide) (by show _ + 0 ≤ _; omega) (by show _ + 0 ≤ _; omega)) (Nat.le_of_ble_eq_true rfl) (fun v7 S7 h7 => ?_)
  obtain ⟨rfl, h7⟩ := h7
  refine g_S S8 h7 ?_
  refine g_cs (cs + 1) (sl + 6) [.int (nI (k))] rfl rfl rfl ?_
  refine g_iload C dL_law_242 rfl ?_
  refine g_ic_eq C 249 dL_law_244 (by decide) (fun _ => ?_) (fun h => absurd rfl h)
  refine g_goto C 2528 dL_law_249 (by decide) ?_
  exact g_frg (lvL i) ⟨Or.inr rfl, Or.inr rfl, Or.inr rfl, Or.inr rfl, Or.inr rfl, Or.inr rfl, Or.inl rfl, Or.inl rfl, Or.inl rfl, trivial⟩ (g_wid (by omega) (by omega) (kk S8 hI8))
theorem sow_L_150 : SOW RL 150 WL_setTarget 5 := ⟨tb_all _ [533, 534, 54, 535] (by decide +kernel) (by decide +kernel), by decide +kernel⟩
theorem vo_L_153 : VO RL 153 11 MX12_setTarget 4 := ⟨_, ko_X12.1, tb_all _ [1337, 1338, 1339, 67, 1340] (by decide +kernel) (by decide +kernel), by decide +kernel⟩
set_option maxRecDepth 100000 in
theorem lw_c1 {x : Cx} (L : LX x) {cs sl i : Nat} {S : pv_M} (hi : i + 5 ≤ xL x) (hI : INV S) (hc : cs + 1 ≤ 603072) (hs : sl + 6 ≤ 7178346) (kk : ∀ S' : pv_M, INV S' → GG x 106 (cs + 1) (sl + 6) (lvL i) [] S' 2528) : GG x 106 cs sl (lvL i) [] S 252 := by
  have C := L.C
  have h31 : xL x < 2 ^ 31 := Nat.lt_of_le_of_lt L.n (by decide)
  refine g_aload_n C dL_law_252 rfl ?_
  refine g_sload_n C dL_law_253 rfl ?_
  refine g_iload C dL_law_254 rfl ?_
  refine n_iconst C 1 dL_law_256 ?_
  refine n_iadd C dL_law_257 ?_
  refine g_sld C L.X L.bl L.bA (j := i + 1) (by omega) h31 dL_law_258 ?_
  refine g_sload_n C dL_law_259 rfl ?_
  refine g_iload C dL_law_260 rfl ?_
  refine n_iconst C 2 dL_law_262 ?_
  refine n_iadd C dL_law_263 ?_
  refine g_sld C L.X L.bl L.bA (j := i + 2) (by omega) h31 dL_law_264 ?_
  refine g_sload_n C dL_law_265 rfl ?_
  refine g_iload C dL_law_266 rfl ?_
  refine n_iconst C 3 dL_law_268 ?_
  refine n_iadd C dL_law_269 ?_
  refine g_sld C L.X L.bl L.bA (j := i + 3) (by omega) h31 dL_law_270 ?_
  refine g_sload_n C dL_law_271 rfl ?_
  refine g_iload C dL_law_272 rfl ?_
  refine n_iconst C 4 dL_law_274 ?_
  refine n_iadd C dL_law_275 ?_
  refine g_sld C L.X L.bl L.bA (j := i + 4) (by omega) h31 dL_law_276 ?_
  refine g_callSW C L.nc (As := [.ref 0, .int (xS x (i + 1)), .int (xS x (i + 2)), .int (xS x (i + 3)), .int (xS x (i + 4))]) (o_setTarget L.st hI _ _ _ _) sow_L_150 dL_law_277 rfl rfl (rm_L L.R (by decide) hc hs) (Nat.le_of_ble_eq_true rfl) (fun v9 S9 h9 => ?_)
  obtain ⟨k, hk, rfl, hm⟩ := h9
  refine g_cs (cs + 1) (sl + 6) [.int (nI (k))] rfl rfl rfl ?_
  refine g_istore C (by rw [L.mL]; decide) dL_law_280 [.retAddr 1, .ref 0, .ref 75, .ref 104, .ref 105, .int (nI (i)), .int (nI (k)), unk, unk] rfl ?_
  refine g_aload_n C dL_law_282 rfl ?_
  refine g_sload_n C dL_law_283 rfl ?_
  refine g_iload C dL_law_284 rfl ?_
  refine n_iconst C 1 dL_law_286 ?_
  refine n_iadd C dL_law_287 ?_
  refine g_sld C L.X L.bl L.bA (j := i + 1) (by omega) h31 dL_law_288 ?_
  refine g_sload_n C dL_law_289 rfl ?_
  refine g_iload C dL_law_290 rfl ?_
  refine n_iconst C 2 dL_law_292 ?_
  refine n_iadd C dL_law_293 ?_
  refine g_sld C L.X L.bl L.bA (j := i + 2) (by omega) h31 dL_law_294 ?_
  refine g_sload_n C dL_law_295 rfl ?_
  refine g_iload C dL_law_296 rfl ?_
  refine n_iconst C 3 dL_law_298 ?_
  refine n_iadd C dL_law_299 ?_
  refine g_sld C L.X L.bl L.bA (j := i + 3) (by omega) h31 dL_law_300 ?_
  refine g_sload_n C dL_law_301 rfl ?_
  refine g_iload C dL_law_302 rfl ?_
  refine n_iconst C 4 dL_law_304 ?_
  refine n_iadd C dL_law_305 ?_
  refine g_sld C L.X L.bl L.bA (j := i + 4) (by omega) h31 dL_law_306 ?_
  refine g_callV C (As := [.int (xS x (i + 1)), .int (xS x (i + 2)), .int (xS x (i + 3)), .int (xS x (i + 4))]) hm vo_L_153 dL_law_307 rfl rfl (by decide) rfl (rm_L L.R (by decide) (by show _ + 0 ≤ _; omega) (by show _ + 0 ≤ _; omega)) (Nat.le_of_ble_eq_true rfl) (fun v8 S8 h8 => ?_)
  obtain ⟨hr, hI8, h0⟩ := h8
  obtain rfl : v8 = none := hr
  refine g_cs (cs + 1) (sl + 6) [] rfl rfl rfl ?_
  refine g_aload_n C dL_law_310 rfl ?_
  refine g_callV C (As := []) (k_thrown _ (inv_gs hI8) h0) vo_L_146 dL_law_311 rfl rfl (by decide) rfl (rm_L L.R (by decide) (by show _ + 0 ≤ _; omega) (by show _ + 0 ≤ _; omega)) (Nat.le_of_ble_eq_true rfl) (fun v7 S7 h7 => ?_)
  obtain ⟨rfl, h7⟩ := h7
  refine g_S S8 h7 ?_
  refine g_cs (cs + 1) (sl + 6) [.int (nI (k))] rfl rfl rfl ?_
  refine g_iload C dL_law_314 rfl ?_
  refine g_ic_eq C 321 dL_law_316 (by decide) (fun _ => ?_) (fun h => absurd rfl h)
  refine g_goto C 2528 dL_law_321 (by decide) ?_
  exact g_frg (lvL i) ⟨Or.inr rfl, Or.inr rfl, Or.inr rfl, Or.inr rfl, Or.inr rfl, Or.inr rfl, Or.inl rfl, Or.inl rfl, Or.inl rfl, trivial⟩ (g_wid (by omega) (by omega) (kk S8 hI8))
theorem sow_L_154 : SOW RL 154 WL_setFinal 5 := ⟨tb_all _ [551, 552, 54, 553] (by decide +kernel) (by decide +kernel), by decide +kernel⟩
theorem vo_L_157 : VO RL 157 11 MX12_setFinal 3 := ⟨_, ko_X12.1, tb_all _ [1348, 1349, 1350, 67, 1351] (by decide +kernel) (by decide +kernel), by decide +kernel⟩
set_option maxRecDepth 100000 in
theorem lw_c2 {x : Cx} (L : LX x) {cs sl i : Nat} {S : pv_M} (hi : i + 5 ≤ xL x) (hI : INV S) (hc : cs + 1 ≤ 603072) (hs : sl + 6 ≤ 7178346) (kk : ∀ S' : pv_M, INV S' → GG x 106 (cs + 1) (sl + 6) (lvL i) [] S' 2528) : GG x 106 cs sl (lvL i) [] S 324 := by
  have C := L.C
  have h31 : xL x < 2 ^ 31 := Nat.lt_of_le_of_lt L.n (by decide)
  refine g_aload_n C dL_law_324 rfl ?_
  refine g_sload_n C dL_law_325 rfl ?_
  refine g_iload C dL_law_326 rfl ?_
  refine n_iconst C 1 dL_law_328 ?_
  refine n_iadd C dL_law_329 ?_
  refine g_sld C L.X L.bl L.bA (j := i + 1) (by omega) h31 dL_law_330 ?_
  refine g_sload_n C dL_law_331 rfl ?_
  refine g_iload C dL_law_332 rfl ?_
  refine n_iconst C 2 dL_law_334 ?_
  refine n_iadd C dL_law_335 ?_
  refine g_sld C L.X L.bl L.bA (j := i + 2) (by omega) h31 dL_law_336 ?_
  refine g_sload_n C dL_law_337 rfl ?_
  refine g_iload C dL_law_338 rfl ?_
  refine n_iconst C 3 dL_law_340 ?_
  refine n_iadd C dL_law_341 ?_
  refine g_sld C L.X L.bl L.bA (j := i + 3) (by omega) h31 dL_law_342 ?_
  refine g_nz C dL_law_343 dL_law_346 dL_law_347 dL_law_350 ?_
  refine g_aload_n C dL_law_351 rfl ?_
  refine g_callSW C L.nc (As := [.ref 0, .int (xS x (i + 1)), .int (xS x (i + 2)), .int (bI (decide (¬ xS x (i + 3) = 0))), .ref 104]) (o_setFinal L.st hI _ _ _) sow_L_154 dL_law_352 rfl rfl (rm_L L.R (by decide) hc hs) (Nat.le_of_ble_eq_true rfl) (fun v9 S9 h9 => ?_)
  obtain ⟨k, hk, rfl, hm⟩ := h9
  refine g_cs (cs + 1) (sl + 6) [.int (nI (k))] rfl rfl rfl ?_
  refine g_istore C (by rw [L.mL]; decide) dL_law_355 [.retAddr 1, .ref 0, .ref 75, .ref 104, .ref 105, .int (nI (i)), .int (nI (k)), unk, unk] rfl ?_
  refine g_aload_n C dL_law_357 rfl ?_
  refine g_sload_n C dL_law_358 rfl ?_
  refine g_iload C dL_law_359 rfl ?_
  refine n_iconst C 1 dL_law_361 ?_
  refine n_iadd C dL_law_362 ?_
  refine g_sld C L.X L.bl L.bA (j := i + 1) (by omega) h31 dL_law_363 ?_
  refine g_sload_n C dL_law_364 rfl ?_
  refine g_iload C dL_law_365 rfl ?_
  refine n_iconst C 2 dL_law_367 ?_
  refine n_iadd C dL_law_368 ?_
  refine g_sld C L.X L.bl L.bA (j := i + 2) (by omega) h31 dL_law_369 ?_
  refine g_sload_n C dL_law_370 rfl ?_
  refine g_iload C dL_law_371 rfl ?_
  refine n_iconst C 3 dL_law_373 ?_
  refine n_iadd C dL_law_374 ?_
  refine g_sld C L.X L.bl L.bA (j := i + 3) (by omega) h31 dL_law_375 ?_
  refine g_nz C dL_law_376 dL_law_379 dL_law_380 dL_law_383 ?_
  refine g_callV C (As := [.int (xS x (i + 1)), .int (xS x (i + 2)), .int (bI (decide (¬ xS x (i + 3) = 0)))]) hm vo_L_157 dL_law_384 rfl rfl (by decide) rfl (rm_L L.R (by decide) (by show _ + 0 ≤ _; omega) (by show _ + 0 ≤ _; omega)) (Nat.le_of_ble_eq_true rfl) (fun v8 S8 h8 => ?_)
  obtain ⟨hr, hI8, h0⟩ := h8
  obtain ⟨b, rfl, hb⟩ := hr
  refine g_cs (cs + 1) (sl + 6) [.int (bI (b))] rfl rfl rfl ?_
  refine g_istore C (by rw [L.mL]; decide) dL_law_387 [.retAddr 1, .ref 0, .ref 75, .ref 104, .ref 105, .int (nI (i)), .int (nI (k)), .int (bI (b)), unk] rfl ?_
  refine g_aload_n C dL_law_389 rfl ?_
  refine g_callV C (As := []) (k_thrown _ (inv_gs hI8) h0) vo_L_146 dL_law_390 rfl rfl (by decide) rfl (rm_L L.R (by decide) (by show _ + 0 ≤ _; omega) (by show _ + 0 ≤ _; omega)) (Nat.le_of_ble_eq_true rfl) (fun v7 S7 h7 => ?_)
  obtain ⟨rfl, h7⟩ := h7
  refine g_S S8 h7 ?_
  refine g_cs (cs + 1) (sl + 6) [.int (nI (k))] rfl rfl rfl ?_
  refine g_iload C dL_law_393 rfl ?_
  refine g_ic_eq C 400 dL_law_395 (by decide) (fun _ => ?_) (fun h => absurd rfl h)
  refine g_iload C dL_law_400 rfl ?_
  refine n_if_ne C 424 dL_law_402 (fun hk0 => ?_) (fun hk0 => ?_) (by decide) (by omega)
  · refine g_goto C 2528 dL_law_424 (by decide) ?_
    exact g_frg (lvL i) ⟨Or.inr rfl, Or.inr rfl, Or.inr rfl, Or.inr rfl, Or.inr rfl, Or.inr rfl, Or.inl rfl, Or.inl rfl, Or.inl rfl, trivial⟩ (g_wid (by omega) (by omega) (kk S8 hI8))
  · refine g_aload_n C dL_law_405 rfl ?_
    refine n_iconst C 0 dL_law_406 ?_
    refine n_lald C (v := bL b) dL_law_407 rfl (by decide) (hb hk0) ?_ (by decide)
    refine g_iload C dL_law_408 rfl ?_
    refine g_bl C dL_law_410 dL_law_413 dL_law_414 dL_law_417 ?_
    refine g_leq C rfl 424 dL_law_418 dL_law_419 (by decide) ?_
    refine g_goto C 2528 dL_law_424 (by decide) ?_
    exact g_frg (lvL i) ⟨Or.inr rfl, Or.inr rfl, Or.inr rfl, Or.inr rfl, Or.inr rfl, Or.inr rfl, Or.inl rfl, Or.inl rfl, Or.inl rfl, trivial⟩ (g_wid (by omega) (by omega) (kk S8 hI8))
theorem sow_L_158 : SOW RL 158 WL_stateCount 3 := ⟨tb_all _ [566, 567, 54, 568] (by decide +kernel) (by decide +kernel), by decide +kernel⟩
theorem vo_L_161 : VO RL 161 11 MX12_stateCount 1 := ⟨_, ko_X12.1, tb_all _ [1360, 1361, 1362, 67, 1363] (by decide +kernel) (by decide +kernel), by decide +kernel⟩
set_option maxRecDepth 100000 in
theorem lw_c3 {x : Cx} (L : LX x) {cs sl i : Nat} {S : pv_M} (hi : i + 5 ≤ xL x) (hI : INV S) (hc : cs + 1 ≤ 603072) (hs : sl + 6 ≤ 7178346) (kk : ∀ S' : pv_M, INV S' → GG x 106 (cs + 1) (sl + 6) (lvL i) [] S' 2528) : GG x 106 cs sl (lvL i) [] S 427 := by
  have C := L.C
  have h31 : xL x < 2 ^ 31 := Nat.lt_of_le_of_lt L.n (by decide)
  refine g_aload_n C dL_law_427 rfl ?_
  refine g_sload_n C dL_law_428 rfl ?_
  refine g_iload C dL_law_429 rfl ?_
  refine n_iconst C 1 dL_law_431 ?_
  refine n_iadd C dL_law_432 ?_
  refine g_sld C L.X L.bl L.bA (j := i + 1) (by omega) h31 dL_law_433 ?_
  refine g_aload_n C dL_law_434 rfl ?_
  refine g_callSW C L.nc (As := [.ref 0, .int (xS x (i + 1)), .ref 104]) (o_stateCount L.st hI _) sow_L_158 dL_law_435 rfl rfl (rm_L L.R (by decide) hc hs) (Nat.le_of_ble_eq_true rfl) (fun v9 S9 h9 => ?_)
  obtain ⟨k, hk, rfl, hm⟩ := h9
  refine g_cs (cs + 1) (sl + 6) [.int (nI (k))] rfl rfl rfl ?_
  refine g_istore C (by rw [L.mL]; decide) dL_law_438 [.retAddr 1, .ref 0, .ref 75, .ref 104, .ref 105, .int (nI (i)), .int (nI (k)), unk, unk] rfl ?_
  refine g_aload_n C dL_law_440 rfl ?_
  refine g_sload_n C dL_law_441 rfl ?_
  refine g_iload C dL_law_442 rfl ?_
  refine n_iconst C 1 dL_law_444 ?_
  refine n_iadd C dL_law_445 ?_
  refine g_sld C L.X L.bl L.bA (j := i + 1) (by omega) h31 dL_law_446 ?_
  refine g_callV C (As := [.int (xS x (i + 1))]) hm vo_L_161 dL_law_447 rfl rfl (by decide) rfl (rm_L L.R (by decide) (by show _ + 0 ≤ _; omega) (by show _ + 0 ≤ _; omega)) (Nat.le_of_ble_eq_true rfl) (fun v8 S8 h8 => ?_)
  obtain ⟨hr, hI8, h0⟩ := h8
  obtain ⟨b, rfl, hb⟩ := hr
  refine g_cs (cs + 1) (sl + 6) [.int (b)] rfl rfl rfl ?_
  refine g_istore C (by rw [L.mL]; decide) dL_law_450 [.retAddr 1, .ref 0, .ref 75, .ref 104, .ref 105, .int (nI (i)), .int (nI (k)), .int (b), unk] rfl ?_
  refine g_aload_n C dL_law_452 rfl ?_
  refine g_callV C (As := []) (k_thrown _ (inv_gs hI8) h0) vo_L_146 dL_law_453 rfl rfl (by decide) rfl (rm_L L.R (by decide) (by show _ + 0 ≤ _; omega) (by show _ + 0 ≤ _; omega)) (Nat.le_of_ble_eq_true rfl) (fun v7 S7 h7 => ?_)
  obtain ⟨rfl, h7⟩ := h7
  refine g_S S8 h7 ?_
  refine g_cs (cs + 1) (sl + 6) [.int (nI (k))] rfl rfl rfl ?_
  refine g_iload C dL_law_456 rfl ?_
  refine g_ic_eq C 463 dL_law_458 (by decide) (fun _ => ?_) (fun h => absurd rfl h)
  refine g_iload C dL_law_463 rfl ?_
  refine n_if_ne C 480 dL_law_465 (fun hk0 => ?_) (fun hk0 => ?_) (by decide) (by omega)
  · refine g_goto C 2528 dL_law_480 (by decide) ?_
    exact g_frg (lvL i) ⟨Or.inr rfl, Or.inr rfl, Or.inr rfl, Or.inr rfl, Or.inr rfl, Or.inr rfl, Or.inl rfl, Or.inl rfl, Or.inl rfl, trivial⟩ (g_wid (by omega) (by omega) (kk S8 hI8))
  · refine g_aload_n C dL_law_468 rfl ?_
    refine n_iconst C 0 dL_law_469 ?_
    refine n_lald C (v := b.toInt64) dL_law_470 rfl (by decide) (hb hk0) ?_ (by decide)
    refine g_iload C dL_law_471 rfl ?_
    refine g_i2l C dL_law_473 ?_
    refine g_leq C rfl 480 dL_law_474 dL_law_475 (by decide) ?_
    refine g_goto C 2528 dL_law_480 (by decide) ?_
    exact g_frg (lvL i) ⟨Or.inr rfl, Or.inr rfl, Or.inr rfl, Or.inr rfl, Or.inr rfl, Or.inr rfl, Or.inl rfl, Or.inl rfl, Or.inl rfl, trivial⟩ (g_wid (by omega) (by omega) (kk S8 hI8))
theorem sow_L_162 : SOW RL 162 WL_target 5 := ⟨tb_all _ [573, 574, 54, 575] (by decide +kernel) (by decide +kernel), by decide +kernel⟩
theorem vo_L_165 : VO RL 165 11 MX12_target 3 := ⟨_, ko_X12.1, tb_all _ [1372, 1373, 1374, 67, 1375] (by decide +kernel) (by decide +kernel), by decide +kernel⟩
set_option maxRecDepth 100000 in
theorem lw_c4 {x : Cx} (L : LX x) {cs sl i : Nat} {S : pv_M} (hi : i + 5 ≤ xL x) (hI : INV S) (hc : cs + 1 ≤ 603072) (hs : sl + 6 ≤ 7178346) (kk : ∀ S' : pv_M, INV S' → GG x 106 (cs + 1) (sl + 6) (lvL i) [] S' 2528) : GG x 106 cs sl (lvL i) [] S 483 := by
  have C := L.C
  have h31 : xL x < 2 ^ 31 := Nat.lt_of_le_of_lt L.n (by decide)
  refine g_aload_n C dL_law_483 rfl ?_
  refine g_sload_n C dL_law_484 rfl ?_
  refine g_iload C dL_law_485 rfl ?_
  refine n_iconst C 1 dL_law_487 ?_
  refine n_iadd C dL_law_488 ?_
  refine g_sld C L.X L.bl L.bA (j := i + 1) (by omega) h31 dL_law_489 ?_
  refine g_sload_n C dL_law_490 rfl ?_
  refine g_iload C dL_law_491 rfl ?_
  refine n_iconst C 2 dL_law_493 ?_
  refine n_iadd C dL_law_494 ?_
  refine g_sld C L.X L.bl L.bA (j := i + 2) (by omega) h31 dL_law_495 ?_
  refine g_sload_n C dL_law_496 rfl ?_
  refine g_iload C dL_law_497 rfl ?_
  refine n_iconst C 3 dL_law_499 ?_
  refine n_iadd C dL_law_500 ?_
  refine g_sld C L.X L.bl L.bA (j := i + 3) (by omega) h31 dL_law_501 ?_
  refine g_aload_n C dL_law_502 rfl ?_
  refine g_callSW C L.nc (As := [.ref 0, .int (xS x (i + 1)), .int (xS x (i + 2)), .int (xS x (i + 3)), .ref 104]) (o_target L.st hI _ _ _) sow_L_162 dL_law_503 rfl rfl (rm_L L.R (by decide) hc hs) (Nat.le_of_ble_eq_true rfl) (fun v9 S9 h9 => ?_)
  obtain ⟨k, hk, rfl, hm⟩ := h9
  refine g_cs (cs + 1) (sl + 6) [.int (nI (k))] rfl rfl rfl ?_
  refine g_istore C (by rw [L.mL]; decide) dL_law_506 [.retAddr 1, .ref 0, .ref 75, .ref 104, .ref 105, .int (nI (i)), .int (nI (k)), unk, unk] rfl ?_
  refine g_aload_n C dL_law_508 rfl ?_
  refine g_sload_n C dL_law_509 rfl ?_
  refine g_iload C dL_law_510 rfl ?_
  refine n_iconst C 1 dL_law_512 ?_
  refine n_iadd C dL_law_513 ?_
  refine g_sld C L.X L.bl L.bA (j := i + 1) (by omega) h31 dL_law_514 ?_
  refine g_sload_n C dL_law_515 rfl ?_
  refine g_iload C dL_law_516 rfl ?_
  refine n_iconst C 2 dL_law_518 ?_
  refine n_iadd C dL_law_519 ?_
  refine g_sld C L.X L.bl L.bA (j := i + 2) (by omega) h31 dL_law_520 ?_
  refine g_sload_n C dL_law_521 rfl ?_
  refine g_iload C dL_law_522 rfl ?_
  refine n_iconst C 3 dL_law_524 ?_
  refine n_iadd C dL_law_525 ?_
  refine g_sld C L.X L.bl L.bA (j := i + 3) (by omega) h31 dL_law_526 ?_
  refine g_callV C (As := [.int (xS x (i + 1)), .int (xS x (i + 2)), .int (xS x (i + 3))]) hm vo_L_165 dL_law_527 rfl rfl (by decide) rfl (rm_L L.R (by decide) (by show _ + 0 ≤ _; omega) (by show _ + 0 ≤ _; omega)) (Nat.le_of_ble_eq_true rfl) (fun v8 S8 h8 => ?_)
  obtain ⟨hr, hI8, h0⟩ := h8
  obtain ⟨b, rfl, hb⟩ := hr
  refine g_cs (cs + 1) (sl + 6) [.int (b)] rfl rfl rfl ?_
  refine g_istore C (by rw [L.mL]; decide) dL_law_530 [.retAddr 1, .ref 0, .ref 75, .ref 104, .ref 105, .int (nI (i)), .int (nI (k)), .int (b), unk] rfl ?_
  refine g_aload_n C dL_law_532 rfl ?_
  refine g_callV C (As := []) (k_thrown _ (inv_gs hI8) h0) vo_L_146 dL_law_533 rfl rfl (by decide) rfl (rm_L L.R (by decide) (by show _ + 0 ≤ _; omega) (by show _ + 0 ≤ _; omega)) (Nat.le_of_ble_eq_true rfl) (fun v7 S7 h7 => ?_)
  obtain ⟨rfl, h7⟩ := h7
  refine g_S S8 h7 ?_
  refine g_cs (cs + 1) (sl + 6) [.int (nI (k))] rfl rfl rfl ?_
  refine g_iload C dL_law_536 rfl ?_
  refine g_ic_eq C 543 dL_law_538 (by decide) (fun _ => ?_) (fun h => absurd rfl h)
  refine g_iload C dL_law_543 rfl ?_
  refine n_if_ne C 560 dL_law_545 (fun hk0 => ?_) (fun hk0 => ?_) (by decide) (by omega)
  · refine g_goto C 2528 dL_law_560 (by decide) ?_
    exact g_frg (lvL i) ⟨Or.inr rfl, Or.inr rfl, Or.inr rfl, Or.inr rfl, Or.inr rfl, Or.inr rfl, Or.inl rfl, Or.inl rfl, Or.inl rfl, trivial⟩ (g_wid (by omega) (by omega) (kk S8 hI8))
  · refine g_aload_n C dL_law_548 rfl ?_
    refine n_iconst C 0 dL_law_549 ?_
    refine n_lald C (v := b.toInt64) dL_law_550 rfl (by decide) (hb hk0) ?_ (by decide)
    refine g_iload C dL_law_551 rfl ?_
    refine g_i2l C dL_law_553 ?_
    refine g_leq C rfl 560 dL_law_554 dL_law_555 (by decide) ?_
    refine g_goto C 2528 dL_law_560 (by decide) ?_
    exact g_frg (lvL i) ⟨Or.inr rfl, Or.inr rfl, Or.inr rfl, Or.inr rfl, Or.inr rfl, Or.inr rfl, Or.inl rfl, Or.inl rfl, Or.inl rfl, trivial⟩ (g_wid (by omega) (by omega) (kk S8 hI8))
theorem sow_L_166 : SOW RL 166 WL_isFinal 4 := ⟨tb_all _ [584, 585, 54, 586] (by decide +kernel) (by decide +kernel), by decide +kernel⟩
theorem vo_L_169 : VO RL 169 11 MX12_isFinal 2 := ⟨_, ko_X12.1, tb_all _ [1376, 1377, 1378, 67, 1379] (by decide +kernel) (by decide +kernel), by decide +kernel⟩
set_option maxRecDepth 100000 in
theorem lw_c5 {x : Cx} (L : LX x) {cs sl i : Nat} {S : pv_M} (hi : i + 5 ≤ xL x) (hI : INV S) (hc : cs + 1 ≤ 603072) (hs : sl + 6 ≤ 7178346) (kk : ∀ S' : pv_M, INV S' → GG x 106 (cs + 1) (sl + 6) (lvL i) [] S' 2528) : GG x 106 cs sl (lvL i) [] S 563 := by
  have C := L.C
  have h31 : xL x < 2 ^ 31 := Nat.lt_of_le_of_lt L.n (by decide)
  refine g_aload_n C dL_law_563 rfl ?_
  refine g_sload_n C dL_law_564 rfl ?_
  refine g_iload C dL_law_565 rfl ?_
  refine n_iconst C 1 dL_law_567 ?_
  refine n_iadd C dL_law_568 ?_
  refine g_sld C L.X L.bl L.bA (j := i + 1) (by omega) h31 dL_law_569 ?_
  refine g_sload_n C dL_law_570 rfl ?_
  refine g_iload C dL_law_571 rfl ?_
  refine n_iconst C 2 dL_law_573 ?_
  refine n_iadd C dL_law_574 ?_
  refine g_sld C L.X L.bl L.bA (j := i + 2) (by omega) h31 dL_law_575 ?_
  refine g_aload_n C dL_law_576 rfl ?_
  refine g_callSW C L.nc (As := [.ref 0, .int (xS x (i + 1)), .int (xS x (i + 2)), .ref 104]) (o_isFinal L.st hI _ _) sow_L_166 dL_law_577 rfl rfl (rm_L L.R (by decide) hc hs) (Nat.le_of_ble_eq_true rfl) (fun v9 S9 h9 => ?_)
  obtain ⟨k, hk, rfl, hm⟩ := h9
  refine g_cs (cs + 1) (sl + 6) [.int (nI (k))] rfl rfl rfl ?_
  refine g_istore C (by rw [L.mL]; decide) dL_law_580 [.retAddr 1, .ref 0, .ref 75, .ref 104, .ref 105, .int (nI (i)), .int (nI (k)), unk, unk] rfl ?_
  refine g_aload_n C dL_law_582 rfl ?_
  refine g_sload_n C dL_law_583 rfl ?_
  refine g_iload C dL_law_584 rfl ?_
  refine n_iconst C 1 dL_law_586 ?_
  refine n_iadd C dL_law_587 ?_
  refine g_sld C L.X L.bl L.bA (j := i + 1) (by omega) h31 dL_law_588 ?_
  refine g_sload_n C dL_law_589 rfl ?_
  refine g_iload C dL_law_590 rfl ?_
  refine n_iconst C 2 dL_law_592 ?_
  refine n_iadd C dL_law_593 ?_
  refine g_sld C L.X L.bl L.bA (j := i + 2) (by omega) h31 dL_law_594 ?_
  refine g_callV C (As := [.int (xS x (i + 1)), .int (xS x (i + 2))]) hm vo_L_169 dL_law_595 rfl rfl (by decide) rfl (rm_L L.R (by decide) (by show _ + 0 ≤ _; omega) (by show _ + 0 ≤ _; omega)) (Nat.le_of_ble_eq_true rfl) (fun v8 S8 h8 => ?_)
  obtain ⟨hr, hI8, h0⟩ := h8
  obtain ⟨b, rfl, hb⟩ := hr
  refine g_cs (cs + 1) (sl + 6) [.int (bI (b))] rfl rfl rfl ?_
  refine g_istore C (by rw [L.mL]; decide) dL_law_598 [.retAddr 1, .ref 0, .ref 75, .ref 104, .ref 105, .int (nI (i)), .int (nI (k)), .int (bI (b)), unk] rfl ?_
  refine g_aload_n C dL_law_600 rfl ?_
  refine g_callV C (As := []) (k_thrown _ (inv_gs hI8) h0) vo_L_146 dL_law_601 rfl rfl (by decide) rfl (rm_L L.R (by decide) (by show _ + 0 ≤ _; omega) (by show _ + 0 ≤ _; omega)) (Nat.le_of_ble_eq_true rfl) (fun v7 S7 h7 => ?_)
  obtain ⟨rfl, h7⟩ := h7
  refine g_S S8 h7 ?_
  refine g_cs (cs + 1) (sl + 6) [.int (nI (k))] rfl rfl rfl ?_
  refine g_iload C dL_law_604 rfl ?_
  refine g_ic_eq C 611 dL_law_606 (by decide) (fun _ => ?_) (fun h => absurd rfl h)
  refine g_iload C dL_law_611 rfl ?_
  refine n_if_ne C 635 dL_law_613 (fun hk0 => ?_) (fun hk0 => ?_) (by decide) (by omega)
  · refine g_goto C 2528 dL_law_635 (by decide) ?_
    exact g_frg (lvL i) ⟨Or.inr rfl, Or.inr rfl, Or.inr rfl, Or.inr rfl, Or.inr rfl, Or.inr rfl, Or.inl rfl, Or.inl rfl, Or.inl rfl, trivial⟩ (g_wid (by omega) (by omega) (kk S8 hI8))
  · refine g_aload_n C dL_law_616 rfl ?_
    refine n_iconst C 0 dL_law_617 ?_
    refine n_lald C (v := bL b) dL_law_618 rfl (by decide) (hb hk0) ?_ (by decide)
    refine g_iload C dL_law_619 rfl ?_
    refine g_bl C dL_law_621 dL_law_624 dL_law_625 dL_law_628 ?_
    refine g_leq C rfl 635 dL_law_629 dL_law_630 (by decide) ?_
    refine g_goto C 2528 dL_law_635 (by decide) ?_
    exact g_frg (lvL i) ⟨Or.inr rfl, Or.inr rfl, Or.inr rfl, Or.inr rfl, Or.inr rfl, Or.inr rfl, Or.inl rfl, Or.inl rfl, Or.inl rfl, trivial⟩ (g_wid (by omega) (by omega) (kk S8 hI8))
theorem sow_L_170 : SOW RL 170 WL_randomize 3 := ⟨tb_all _ [591, 592, 54, 593] (by decide +kernel) (by decide +kernel), by decide +kernel⟩
theorem vo_L_172 : VO RL 172 11 MX12_randomize 2 := ⟨_, ko_X12.1, tb_all _ [1380, 1381, 1382, 67, 1383] (by decide +kernel) (by decide +kernel), by decide +kernel⟩
set_option maxRecDepth 100000 in
theorem lw_c6 {x : Cx} (L : LX x) {cs sl i : Nat} {S : pv_M} (hi : i + 5 ≤ xL x) (hI : INV S) (hc : cs + 1 ≤ 603072) (hs : sl + 6 ≤ 7178346) (kk : ∀ S' : pv_M, INV S' → GG x 106 (cs + 1) (sl + 6) (lvL i) [] S' 2528) : GG x 106 cs sl (lvL i) [] S 638 := by
  have C := L.C
  have h31 : xL x < 2 ^ 31 := Nat.lt_of_le_of_lt L.n (by decide)
  refine g_aload_n C dL_law_638 rfl ?_
  refine g_sload_n C dL_law_639 rfl ?_
  refine g_iload C dL_law_640 rfl ?_
  refine n_iconst C 1 dL_law_642 ?_
  refine n_iadd C dL_law_643 ?_
  refine g_sld C L.X L.bl L.bA (j := i + 1) (by omega) h31 dL_law_644 ?_
  refine g_sload_n C dL_law_645 rfl ?_
  refine g_iload C dL_law_646 rfl ?_
  refine n_iconst C 2 dL_law_648 ?_
  refine n_iadd C dL_law_649 ?_
  refine g_sld C L.X L.bl L.bA (j := i + 2) (by omega) h31 dL_law_650 ?_
  refine g_callSW C L.nc (As := [.ref 0, .int (xS x (i + 1)), .int (xS x (i + 2))]) (o_randomize L.st hI _ _) sow_L_170 dL_law_651 rfl rfl (rm_L L.R (by decide) hc hs) (Nat.le_of_ble_eq_true rfl) (fun v9 S9 h9 => ?_)
  obtain ⟨k, hk, rfl, hm⟩ := h9
  refine g_cs (cs + 1) (sl + 6) [.int (nI (k))] rfl rfl rfl ?_
  refine g_istore C (by rw [L.mL]; decide) dL_law_654 [.retAddr 1, .ref 0, .ref 75, .ref 104, .ref 105, .int (nI (i)), .int (nI (k)), unk, unk] rfl ?_
  refine g_aload_n C dL_law_656 rfl ?_
  refine g_sload_n C dL_law_657 rfl ?_
  refine g_iload C dL_law_658 rfl ?_
  refine n_iconst C 1 dL_law_660 ?_
  refine n_iadd C dL_law_661 ?_
  refine g_sld C L.X L.bl L.bA (j := i + 1) (by omega) h31 dL_law_662 ?_
  refine g_sload_n C dL_law_663 rfl ?_
  refine g_iload C dL_law_664 rfl ?_
  refine n_iconst C 2 dL_law_666 ?_
  refine n_iadd C dL_law_667 ?_
  refine g_sld C L.X L.bl L.bA (j := i + 2) (by omega) h31 dL_law_668 ?_
  refine g_callV C (As := [.int (xS x (i + 1)), .int (xS x (i + 2))]) hm vo_L_172 dL_law_669 rfl rfl (by decide) rfl (rm_L L.R (by decide) (by show _ + 0 ≤ _; omega) (by show _ + 0 ≤ _; omega)) (Nat.le_of_ble_eq_true rfl) (fun v8 S8 h8 => ?_)
  obtain ⟨hr, hI8, h0⟩ := h8
  obtain rfl : v8 = none := hr
  refine g_cs (cs + 1) (sl + 6) [] rfl rfl rfl ?_
  refine g_aload_n C dL_law_672 rfl ?_
  refine g_callV C (As := []) (k_thrown _ (inv_gs hI8) h0) vo_L_146 dL_law_673 rfl rfl (by decide) rfl (rm_L L.R (by decide) (by show _ + 0 ≤ _; omega) (by show _ + 0 ≤ _; omega)) (Nat.le_of_ble_eq_true rfl) (fun v7 S7 h7 => ?_)
  obtain ⟨rfl, h7⟩ := h7
  refine g_S S8 h7 ?_
  refine g_cs (cs + 1) (sl + 6) [.int (nI (k))] rfl rfl rfl ?_
  refine g_iload C dL_law_676 rfl ?_
  refine g_ic_eq C 683 dL_law_678 (by decide) (fun _ => ?_) (fun h => absurd rfl h)
  refine g_goto C 2528 dL_law_683 (by decide) ?_
  exact g_frg (lvL i) ⟨Or.inr rfl, Or.inr rfl, Or.inr rfl, Or.inr rfl, Or.inr rfl, Or.inr rfl, Or.inl rfl, Or.inl rfl, Or.inl rfl, trivial⟩ (g_wid (by omega) (by omega) (kk S8 hI8))
theorem sow_L_173 : SOW RL 173 WL_makeWitness 3 := ⟨tb_all _ [610, 611, 54, 612] (by decide +kernel) (by decide +kernel), by decide +kernel⟩
theorem vo_L_175 : VO RL 175 11 MX12_makeWitness 2 := ⟨_, ko_X12.1, tb_all _ [1389, 1390, 1391, 67, 1392] (by decide +kernel) (by decide +kernel), by decide +kernel⟩
set_option maxRecDepth 100000 in
theorem lw_c7 {x : Cx} (L : LX x) {cs sl i : Nat} {S : pv_M} (hi : i + 5 ≤ xL x) (hI : INV S) (hc : cs + 1 ≤ 603072) (hs : sl + 6 ≤ 7178346) (kk : ∀ S' : pv_M, INV S' → GG x 106 (cs + 1) (sl + 6) (lvL i) [] S' 2528) : GG x 106 cs sl (lvL i) [] S 686 := by
  have C := L.C
  have h31 : xL x < 2 ^ 31 := Nat.lt_of_le_of_lt L.n (by decide)
  refine g_aload_n C dL_law_686 rfl ?_
  refine g_sload_n C dL_law_687 rfl ?_
  refine g_iload C dL_law_688 rfl ?_
  refine n_iconst C 1 dL_law_690 ?_
  refine n_iadd C dL_law_691 ?_
  refine g_sld C L.X L.bl L.bA (j := i + 1) (by omega) h31 dL_law_692 ?_
  refine g_sload_n C dL_law_693 rfl ?_
  refine g_iload C dL_law_694 rfl ?_
  refine n_iconst C 2 dL_law_696 ?_
  refine n_iadd C dL_law_697 ?_
  refine g_sld C L.X L.bl L.bA (j := i + 2) (by omega) h31 dL_law_698 ?_
  refine g_callSW C L.nc (As := [.ref 0, .int (xS x (i + 1)), .int (xS x (i + 2))]) (o_makeWitness L.st hI _ _) sow_L_173 dL_law_699 rfl rfl (rm_L L.R (by decide) hc hs) (Nat.le_of_ble_eq_true rfl) (fun v9 S9 h9 => ?_)
  obtain ⟨k, hk, rfl, hm⟩ := h9
  refine g_cs (cs + 1) (sl + 6) [.int (nI (k))] rfl rfl rfl ?_
  refine g_istore C (by rw [L.mL]; decide) dL_law_702 [.retAddr 1, .ref 0, .ref 75, .ref 104, .ref 105, .int (nI (i)), .int (nI (k)), unk, unk] rfl ?_
  refine g_aload_n C dL_law_704 rfl ?_
  refine g_sload_n C dL_law_705 rfl ?_
  refine g_iload C dL_law_706 rfl ?_
  refine n_iconst C 1 dL_law_708 ?_
  refine n_iadd C dL_law_709 ?_
  refine g_sld C L.X L.bl L.bA (j := i + 1) (by omega) h31 dL_law_710 ?_
  refine g_sload_n C dL_law_711 rfl ?_
  refine g_iload C dL_law_712 rfl ?_
  refine n_iconst C 2 dL_law_714 ?_
  refine n_iadd C dL_law_715 ?_
  refine g_sld C L.X L.bl L.bA (j := i + 2) (by omega) h31 dL_law_716 ?_
  refine g_callV C (As := [.int (xS x (i + 1)), .int (xS x (i + 2))]) hm vo_L_175 dL_law_717 rfl rfl (by decide) rfl (rm_L L.R (by decide) (by show _ + 0 ≤ _; omega) (by show _ + 0 ≤ _; omega)) (Nat.le_of_ble_eq_true rfl) (fun v8 S8 h8 => ?_)
  obtain ⟨hr, hI8, h0⟩ := h8
  obtain rfl : v8 = none := hr
  refine g_cs (cs + 1) (sl + 6) [] rfl rfl rfl ?_
  refine g_aload_n C dL_law_720 rfl ?_
  refine g_callV C (As := []) (k_thrown _ (inv_gs hI8) h0) vo_L_146 dL_law_721 rfl rfl (by decide) rfl (rm_L L.R (by decide) (by show _ + 0 ≤ _; omega) (by show _ + 0 ≤ _; omega)) (Nat.le_of_ble_eq_true rfl) (fun v7 S7 h7 => ?_)
  obtain ⟨rfl, h7⟩ := h7
  refine g_S S8 h7 ?_
  refine g_cs (cs + 1) (sl + 6) [.int (nI (k))] rfl rfl rfl ?_
  refine g_iload C dL_law_724 rfl ?_
  refine g_ic_eq C 731 dL_law_726 (by decide) (fun _ => ?_) (fun h => absurd rfl h)
  refine g_goto C 2528 dL_law_731 (by decide) ?_
  exact g_frg (lvL i) ⟨Or.inr rfl, Or.inr rfl, Or.inr rfl, Or.inr rfl, Or.inr rfl, Or.inr rfl, Or.inl rfl, Or.inl rfl, Or.inl rfl, trivial⟩ (g_wid (by omega) (by omega) (kk S8 hI8))
theorem sow_L_176 : SOW RL 176 WL_appendLetter 3 := ⟨tb_all _ [623, 624, 54, 625] (by decide +kernel) (by decide +kernel), by decide +kernel⟩
theorem vo_L_178 : VO RL 178 11 MX12_appendLetter 1 := ⟨_, ko_X12.1, tb_all _ [1393, 1394, 1395, 67, 1396] (by decide +kernel) (by decide +kernel), by decide +kernel⟩
set_option maxRecDepth 100000 in
theorem lw_c8 {x : Cx} (L : LX x) {cs sl i : Nat} {S : pv_M} (hi : i + 5 ≤ xL x) (hI : INV S) (hc : cs + 1 ≤ 603072) (hs : sl + 6 ≤ 7178346) (kk : ∀ S' : pv_M, INV S' → GG x 106 (cs + 1) (sl + 6) (lvL i) [] S' 2528) : GG x 106 cs sl (lvL i) [] S 734 := by
  have C := L.C
  have h31 : xL x < 2 ^ 31 := Nat.lt_of_le_of_lt L.n (by decide)
  refine g_aload_n C dL_law_734 rfl ?_
  refine g_sload_n C dL_law_735 rfl ?_
  refine g_iload C dL_law_736 rfl ?_
  refine n_iconst C 1 dL_law_738 ?_
  refine n_iadd C dL_law_739 ?_
  refine g_sld C L.X L.bl L.bA (j := i + 1) (by omega) h31 dL_law_740 ?_
  refine g_aload_n C dL_law_741 rfl ?_
  refine g_callSW C L.nc (As := [.ref 0, .int (xS x (i + 1)), .ref 104]) (o_appendLetter L.st hI _) sow_L_176 dL_law_742 rfl rfl (rm_L L.R (by decide) hc hs) (Nat.le_of_ble_eq_true rfl) (fun v9 S9 h9 => ?_)
  obtain ⟨k, hk, rfl, hm⟩ := h9
  refine g_cs (cs + 1) (sl + 6) [.int (nI (k))] rfl rfl rfl ?_
  refine g_istore C (by rw [L.mL]; decide) dL_law_745 [.retAddr 1, .ref 0, .ref 75, .ref 104, .ref 105, .int (nI (i)), .int (nI (k)), unk, unk] rfl ?_
  refine g_aload_n C dL_law_747 rfl ?_
  refine g_sload_n C dL_law_748 rfl ?_
  refine g_iload C dL_law_749 rfl ?_
  refine n_iconst C 1 dL_law_751 ?_
  refine n_iadd C dL_law_752 ?_
  refine g_sld C L.X L.bl L.bA (j := i + 1) (by omega) h31 dL_law_753 ?_
  refine g_callV C (As := [.int (xS x (i + 1))]) hm vo_L_178 dL_law_754 rfl rfl (by decide) rfl (rm_L L.R (by decide) (by show _ + 0 ≤ _; omega) (by show _ + 0 ≤ _; omega)) (Nat.le_of_ble_eq_true rfl) (fun v8 S8 h8 => ?_)
  obtain ⟨hr, hI8, h0⟩ := h8
  obtain ⟨b, rfl, hb⟩ := hr
  refine g_cs (cs + 1) (sl + 6) [.int (b)] rfl rfl rfl ?_
  refine g_istore C (by rw [L.mL]; decide) dL_law_757 [.retAddr 1, .ref 0, .ref 75, .ref 104, .ref 105, .int (nI (i)), .int (nI (k)), .int (b), unk] rfl ?_
  refine g_aload_n C dL_law_759 rfl ?_
  refine g_callV C (As := []) (k_thrown _ (inv_gs hI8) h0) vo_L_146 dL_law_760 rfl rfl (by decide) rfl (rm_L L.R (by decide) (by show _ + 0 ≤ _; omega) (by show _ + 0 ≤ _; omega)) (Nat.le_of_ble_eq_true rfl) (fun v7 S7 h7 => ?_)
  obtain ⟨rfl, h7⟩ := h7
  refine g_S S8 h7 ?_
  refine g_cs (cs + 1) (sl + 6) [.int (nI (k))] rfl rfl rfl ?_
  refine g_iload C dL_law_763 rfl ?_
  refine g_ic_eq C 770 dL_law_765 (by decide) (fun _ => ?_) (fun h => absurd rfl h)
  refine g_iload C dL_law_770 rfl ?_
  refine n_if_ne C 787 dL_law_772 (fun hk0 => ?_) (fun hk0 => ?_) (by decide) (by omega)
  · refine g_goto C 2528 dL_law_787 (by decide) ?_
    exact g_frg (lvL i) ⟨Or.inr rfl, Or.inr rfl, Or.inr rfl, Or.inr rfl, Or.inr rfl, Or.inr rfl, Or.inl rfl, Or.inl rfl, Or.inl rfl, trivial⟩ (g_wid (by omega) (by omega) (kk S8 hI8))
  · refine g_aload_n C dL_law_775 rfl ?_
    refine n_iconst C 0 dL_law_776 ?_
    refine n_lald C (v := b.toInt64) dL_law_777 rfl (by decide) (hb hk0) ?_ (by decide)
    refine g_iload C dL_law_778 rfl ?_
    refine g_i2l C dL_law_780 ?_
    refine g_leq C rfl 787 dL_law_781 dL_law_782 (by decide) ?_
    refine g_goto C 2528 dL_law_787 (by decide) ?_
    exact g_frg (lvL i) ⟨Or.inr rfl, Or.inr rfl, Or.inr rfl, Or.inr rfl, Or.inr rfl, Or.inr rfl, Or.inl rfl, Or.inl rfl, Or.inl rfl, trivial⟩ (g_wid (by omega) (by omega) (kk S8 hI8))
theorem vo_L_179 : VO RL 179 10 MX11_clearWord 0 := ⟨_, ko_X11.1, tb_all _ [384, 385, 386, 55, 387] (by decide +kernel) (by decide +kernel), by decide +kernel⟩
theorem vo_L_182 : VO RL 182 11 MX12_clearWord 0 := ⟨_, ko_X12.1, tb_all _ [1397, 1398, 1399, 67, 1400] (by decide +kernel) (by decide +kernel), by decide +kernel⟩
set_option maxRecDepth 100000 in
theorem lw_c9 {x : Cx} (L : LX x) {cs sl i : Nat} {S : pv_M} (hi : i + 5 ≤ xL x) (hI : INV S) (hc : cs + 1 ≤ 603072) (hs : sl + 6 ≤ 7178346) (kk : ∀ S' : pv_M, INV S' → GG x 106 (cs + 1) (sl + 6) (lvL i) [] S' 2528) : GG x 106 cs sl (lvL i) [] S 790 := by
  have C := L.C
  have h31 : xL x < 2 ^ 31 := Nat.lt_of_le_of_lt L.n (by decide)
  refine g_aload_n C dL_law_790 rfl ?_
  refine g_callV C (As := []) (o_clearWord hI) vo_L_179 dL_law_791 rfl rfl (by decide) rfl (rm_L L.R (by decide) (by show _ + 0 ≤ _; omega) (by show _ + 0 ≤ _; omega)) (Nat.le_of_ble_eq_true rfl) (fun v9 S9 h9 => ?_)
  obtain ⟨a9, rfl, hm⟩ := h9
  refine g_cs (cs) (sl) [.int (a9)] rfl rfl rfl ?_
  refine g_aload_n C dL_law_794 rfl ?_
  refine g_callV C (As := []) hm vo_L_182 dL_law_795 rfl rfl (by decide) rfl (rm_L L.R (by decide) (by show _ + 0 ≤ _; omega) (by show _ + 0 ≤ _; omega)) (Nat.le_of_ble_eq_true rfl) (fun v8 S8 h8 => ?_)
  obtain ⟨rfl, hI8⟩ := h8
  refine g_cs (cs) (sl) [.int (a9), .int (a9)] rfl rfl rfl ?_
  refine g_ic_eq C 2528 dL_law_798 (by decide) (fun _ => ?_) (fun h => absurd rfl h)
  exact g_frg (lvL i) ⟨Or.inr rfl, Or.inr rfl, Or.inr rfl, Or.inr rfl, Or.inr rfl, Or.inr rfl, Or.inl rfl, Or.inl rfl, Or.inl rfl, trivial⟩ (g_wid (by omega) (by omega) (kk S8 hI8))
theorem sow_L_183 : SOW RL 183 WL_wordLetter 3 := ⟨tb_all _ [654, 655, 54, 656] (by decide +kernel) (by decide +kernel), by decide +kernel⟩
theorem vo_L_185 : VO RL 185 11 MX12_wordLetter 1 := ⟨_, ko_X12.1, tb_all _ [1401, 1402, 1403, 67, 1404] (by decide +kernel) (by decide +kernel), by decide +kernel⟩
set_option maxRecDepth 100000 in
theorem lw_c10 {x : Cx} (L : LX x) {cs sl i : Nat} {S : pv_M} (hi : i + 5 ≤ xL x) (hI : INV S) (hc : cs + 1 ≤ 603072) (hs : sl + 6 ≤ 7178346) (kk : ∀ S' : pv_M, INV S' → GG x 106 (cs + 1) (sl + 6) (lvL i) [] S' 2528) : GG x 106 cs sl (lvL i) [] S 803 := by
  have C := L.C
  have h31 : xL x < 2 ^ 31 := Nat.lt_of_le_of_lt L.n (by decide)
  refine g_aload_n C dL_law_803 rfl ?_
  refine g_sload_n C dL_law_804 rfl ?_
  refine g_iload C dL_law_805 rfl ?_
  refine n_iconst C 1 dL_law_807 ?_
  refine n_iadd C dL_law_808 ?_
  refine g_sld C L.X L.bl L.bA (j := i + 1) (by omega) h31 dL_law_809 ?_
  refine g_aload_n C dL_law_810 rfl ?_
  refine g_callSW C L.nc (As := [.ref 0, .int (xS x (i + 1)), .ref 104]) (o_wordLetter L.st hI _) sow_L_183 dL_law_811 rfl rfl (rm_L L.R (by decide) hc hs) (Nat.le_of_ble_eq_true rfl) (fun v9 S9 h9 => ?_)
  obtain ⟨k, hk, rfl, hm⟩ := h9
  refine g_cs (cs + 1) (sl + 6) [.int (nI (k))] rfl rfl rfl ?_
  refine g_istore C (by rw [L.mL]; decide) dL_law_814 [.retAddr 1, .ref 0, .ref 75, .ref 104, .ref 105, .int (nI (i)), .int (nI (k)), unk, unk] rfl ?_
  refine g_aload_n C dL_law_816 rfl ?_
  refine g_sload_n C dL_law_817 rfl ?_
  refine g_iload C dL_law_818 rfl ?_
  refine n_iconst C 1 dL_law_820 ?_
  refine n_iadd C dL_law_821 ?_
  refine g_sld C L.X L.bl L.bA (j := i + 1) (by omega) h31 dL_law_822 ?_
  refine g_callV C (As := [.int (xS x (i + 1))]) hm vo_L_185 dL_law_823 rfl rfl (by decide) rfl (rm_L L.R (by decide) (by show _ + 0 ≤ _; omega) (by show _ + 0 ≤ _; omega)) (Nat.le_of_ble_eq_true rfl) (fun v8 S8 h8 => ?_)
  obtain ⟨hr, hI8, h0⟩ := h8
  obtain ⟨b, rfl, hb⟩ := hr
  refine g_cs (cs + 1) (sl + 6) [.int (b)] rfl rfl rfl ?_
  refine g_istore C (by rw [L.mL]; decide) dL_law_826 [.retAddr 1, .ref 0, .ref 75, .ref 104, .ref 105, .int (nI (i)), .int (nI (k)), .int (b), unk] rfl ?_
  refine g_aload_n C dL_law_828 rfl ?_
  refine g_callV C (As := []) (k_thrown _ (inv_gs hI8) h0) vo_L_146 dL_law_829 rfl rfl (by decide) rfl (rm_L L.R (by decide) (by show _ + 0 ≤ _; omega) (by show _ + 0 ≤ _; omega)) (Nat.le_of_ble_eq_true rfl) (fun v7 S7 h7 => ?_)
  obtain ⟨rfl, h7⟩ := h7
  refine g_S S8 h7 ?_
  refine g_cs (cs + 1) (sl + 6) [.int (nI (k))] rfl rfl rfl ?_
  refine g_iload C dL_law_832 rfl ?_
  refine g_ic_eq C 839 dL_law_834 (by decide) (fun _ => ?_) (fun h => absurd rfl h)
  refine g_iload C dL_law_839 rfl ?_
  refine n_if_ne C 856 dL_law_841 (fun hk0 => ?_) (fun hk0 => ?_) (by decide) (by omega)
  · refine g_goto C 2528 dL_law_856 (by decide) ?_
    exact g_frg (lvL i) ⟨Or.inr rfl, Or.inr rfl, Or.inr rfl, Or.inr rfl, Or.inr rfl, Or.inr rfl, Or.inl rfl, Or.inl rfl, Or.inl rfl, trivial⟩ (g_wid (by omega) (by omega) (kk S8 hI8))
  · refine g_aload_n C dL_law_844 rfl ?_
    refine n_iconst C 0 dL_law_845 ?_
    refine n_lald C (v := b.toInt64) dL_law_846 rfl (by decide) (hb hk0) ?_ (by decide)
    refine g_iload C dL_law_847 rfl ?_
    refine g_i2l C dL_law_849 ?_
    refine g_leq C rfl 856 dL_law_850 dL_law_851 (by decide) ?_
    refine g_goto C 2528 dL_law_856 (by decide) ?_
    exact g_frg (lvL i) ⟨Or.inr rfl, Or.inr rfl, Or.inr rfl, Or.inr rfl, Or.inr rfl, Or.inr rfl, Or.inl rfl, Or.inl rfl, Or.inl rfl, trivial⟩ (g_wid (by omega) (by omega) (kk S8 hI8))
theorem sow_L_186 : SOW RL 186 WL_accepts 3 := ⟨tb_all _ [661, 662, 54, 663] (by decide +kernel) (by decide +kernel), by decide +kernel⟩
theorem vo_L_188 : VO RL 188 11 MX12_accepts 1 := ⟨_, ko_X12.1, tb_all _ [1405, 1406, 1407, 67, 1408] (by decide +kernel) (by decide +kernel), by decide +kernel⟩
set_option maxRecDepth 100000 in
theorem lw_c11 {x : Cx} (L : LX x) {cs sl i : Nat} {S : pv_M} (hi : i + 5 ≤ xL x) (hI : INV S) (hc : cs + 1 ≤ 603072) (hs : sl + 6 ≤ 7178346) (kk : ∀ S' : pv_M, INV S' → GG x 106 (cs + 1) (sl + 6) (lvL i) [] S' 2528) : GG x 106 cs sl (lvL i) [] S 859 := by
  have C := L.C
  have h31 : xL x < 2 ^ 31 := Nat.lt_of_le_of_lt L.n (by decide)
  refine g_aload_n C dL_law_859 rfl ?_
  refine g_sload_n C dL_law_860 rfl ?_
  refine g_iload C dL_law_861 rfl ?_
  refine n_iconst C 1 dL_law_863 ?_
  refine n_iadd C dL_law_864 ?_
  refine g_sld C L.X L.bl L.bA (j := i + 1) (by omega) h31 dL_law_865 ?_
  refine g_aload_n C dL_law_866 rfl ?_
  refine g_callSW C L.nc (As := [.ref 0, .int (xS x (i + 1)), .ref 104]) (o_accepts L.st hI _) sow_L_186 dL_law_867 rfl rfl (rm_L L.R (by decide) hc hs) (Nat.le_of_ble_eq_true rfl) (fun v9 S9 h9 => ?_)
  obtain ⟨k, hk, rfl, hm⟩ := h9
  refine g_cs (cs + 1) (sl + 6) [.int (nI (k))] rfl rfl rfl ?_
  refine g_istore C (by rw [L.mL]; decide) dL_law_870 [.retAddr 1, .ref 0, .ref 75, .ref 104, .ref 105, .int (nI (i)), .int (nI (k)), unk, unk] rfl ?_
  refine g_aload_n C dL_law_872 rfl ?_
  refine g_sload_n C dL_law_873 rfl ?_
  refine g_iload C dL_law_874 rfl ?_
  refine n_iconst C 1 dL_law_876 ?_
  refine n_iadd C dL_law_877 ?_
  refine g_sld C L.X L.bl L.bA (j := i + 1) (by omega) h31 dL_law_878 ?_
  refine g_callV C (As := [.int (xS x (i + 1))]) hm vo_L_188 dL_law_879 rfl rfl (by decide) rfl (rm_L L.R (by decide) (by show _ + 0 ≤ _; omega) (by show _ + 0 ≤ _; omega)) (Nat.le_of_ble_eq_true rfl) (fun v8 S8 h8 => ?_)
  obtain ⟨hr, hI8, h0⟩ := h8
  obtain ⟨b, rfl, hb⟩ := hr
  refine g_cs (cs + 1) (sl + 6) [.int (bI (b))] rfl rfl rfl ?_
  refine g_istore C (by rw [L.mL]; decide) dL_law_882 [.retAddr 1, .ref 0, .ref 75, .ref 104, .ref 105, .int (nI (i)), .int (nI (k)), .int (bI (b)), unk] rfl ?_
  refine g_aload_n C dL_law_884 rfl ?_
  refine g_callV C (As := []) (k_thrown _ (inv_gs hI8) h0) vo_L_146 dL_law_885 rfl rfl (by decide) rfl (rm_L L.R (by decide) (by show _ + 0 ≤ _; omega) (by show _ + 0 ≤ _; omega)) (Nat.le_of_ble_eq_true rfl) (fun v7 S7 h7 => ?_)
  obtain ⟨rfl, h7⟩ := h7
  refine g_S S8 h7 ?_
  refine g_cs (cs + 1) (sl + 6) [.int (nI (k))] rfl rfl rfl ?_
  refine g_iload C dL_law_888 rfl ?_
  refine g_ic_eq C 895 dL_law_890 (by decide) (fun _ => ?_) (fun h => absurd rfl h)
  refine g_iload C dL_law_895 rfl ?_
  refine n_if_ne C 919 dL_law_897 (fun hk0 => ?_) (fun hk0 => ?_) (by decide) (by omega)
  · refine g_goto C 2528 dL_law_919 (by decide) ?_
    exact g_frg (lvL i) ⟨Or.inr rfl, Or.inr rfl, Or.inr rfl, Or.inr rfl, Or.inr rfl, Or.inr rfl, Or.inl rfl, Or.inl rfl, Or.inl rfl, trivial⟩ (g_wid (by omega) (by omega) (kk S8 hI8))
  · refine g_aload_n C dL_law_900 rfl ?_
    refine n_iconst C 0 dL_law_901 ?_
    refine n_lald C (v := bL b) dL_law_902 rfl (by decide) (hb hk0) ?_ (by decide)
    refine g_iload C dL_law_903 rfl ?_
    refine g_bl C dL_law_905 dL_law_908 dL_law_909 dL_law_912 ?_
    refine g_leq C rfl 919 dL_law_913 dL_law_914 (by decide) ?_
    refine g_goto C 2528 dL_law_919 (by decide) ?_
    exact g_frg (lvL i) ⟨Or.inr rfl, Or.inr rfl, Or.inr rfl, Or.inr rfl, Or.inr rfl, Or.inr rfl, Or.inl rfl, Or.inl rfl, Or.inl rfl, trivial⟩ (g_wid (by omega) (by omega) (kk S8 hI8))
theorem sow_L_189 : SOW RL 189 WL_size 3 := ⟨tb_all _ [673, 674, 54, 675] (by decide +kernel) (by decide +kernel), by decide +kernel⟩
theorem vo_L_191 : VO RL 191 11 MX12_size 1 := ⟨_, ko_X12.1, tb_all _ [1413, 1414, 1415, 67, 1416] (by decide +kernel) (by decide +kernel), by decide +kernel⟩
set_option maxRecDepth 100000 in
theorem lw_c12 {x : Cx} (L : LX x) {cs sl i : Nat} {S : pv_M} (hi : i + 5 ≤ xL x) (hI : INV S) (hc : cs + 1 ≤ 603072) (hs : sl + 6 ≤ 7178346) (kk : ∀ S' : pv_M, INV S' → GG x 106 (cs + 1) (sl + 6) (lvL i) [] S' 2528) : GG x 106 cs sl (lvL i) [] S 922 := by
  have C := L.C
  have h31 : xL x < 2 ^ 31 := Nat.lt_of_le_of_lt L.n (by decide)
  refine g_aload_n C dL_law_922 rfl ?_
  refine g_sload_n C dL_law_923 rfl ?_
  refine g_iload C dL_law_924 rfl ?_
  refine n_iconst C 1 dL_law_926 ?_
  refine n_iadd C dL_law_927 ?_
  refine g_sld C L.X L.bl L.bA (j := i + 1) (by omega) h31 dL_law_928 ?_
  refine g_aload_n C dL_law_929 rfl ?_
  refine g_callSW C L.nc (As := [.ref 0, .int (xS x (i + 1)), .ref 104]) (o_size L.st hI _) sow_L_189 dL_law_930 rfl rfl (rm_L L.R (by decide) hc hs) (Nat.le_of_ble_eq_true rfl) (fun v9 S9 h9 => ?_)
  obtain ⟨k, hk, rfl, hm⟩ := h9
  refine g_cs (cs + 1) (sl + 6) [.int (nI (k))] rfl rfl rfl ?_
  refine g_istore C (by rw [L.mL]; decide) dL_law_933 [.retAddr 1, .ref 0, .ref 75, .ref 104, .ref 105, .int (nI (i)), .int (nI (k)), unk, unk] rfl ?_
  refine g_aload_n C dL_law_935 rfl ?_
  refine g_sload_n C dL_law_936 rfl ?_
  refine g_iload C dL_law_937 rfl ?_
  refine n_iconst C 1 dL_law_939 ?_
  refine n_iadd C dL_law_940 ?_
  refine g_sld C L.X L.bl L.bA (j := i + 1) (by omega) h31 dL_law_941 ?_
  refine g_callV C (As := [.int (xS x (i + 1))]) hm vo_L_191 dL_law_942 rfl rfl (by decide) rfl (rm_L L.R (by decide) (by show _ + 0 ≤ _; omega) (by show _ + 0 ≤ _; omega)) (Nat.le_of_ble_eq_true rfl) (fun v8 S8 h8 => ?_)
  obtain ⟨hr, hI8, h0⟩ := h8
  obtain ⟨b, rfl, hb⟩ := hr
  refine g_cs (cs + 1) (sl + 6) [.int (b)] rfl rfl rfl ?_
  refine g_istore C (by rw [L.mL]; decide) dL_law_945 [.retAddr 1, .ref 0, .ref 75, .ref 104, .ref 105, .int (nI (i)), .int (nI (k)), .int (b), unk] rfl ?_
  refine g_aload_n C dL_law_947 rfl ?_
  refine g_callV C (As := []) (k_thrown _ (inv_gs hI8) h0) vo_L_146 dL_law_948 rfl rfl (by decide) rfl (rm_L L.R (by decide) (by show _ + 0 ≤ _; omega) (by show _ + 0 ≤ _; omega)) (Nat.le_of_ble_eq_true rfl) (fun v7 S7 h7 => ?_)
  obtain ⟨rfl, h7⟩ := h7
  refine g_S S8 h7 ?_
  refine g_cs (cs + 1) (sl + 6) [.int (nI (k))] rfl rfl rfl ?_
  refine g_iload C dL_law_951 rfl ?_
  refine g_ic_eq C 958 dL_law_953 (by decide) (fun _ => ?_) (fun h => absurd rfl h)
  refine g_iload C dL_law_958 rfl ?_
  refine n_if_ne C 975 dL_law_960 (fun hk0 => ?_) (fun hk0 => ?_) (by decide) (by omega)
  · refine g_goto C 2528 dL_law_975 (by decide) ?_
    exact g_frg (lvL i) ⟨Or.inr rfl, Or.inr rfl, Or.inr rfl, Or.inr rfl, Or.inr rfl, Or.inr rfl, Or.inl rfl, Or.inl rfl, Or.inl rfl, trivial⟩ (g_wid (by omega) (by omega) (kk S8 hI8))
  · refine g_aload_n C dL_law_963 rfl ?_
    refine n_iconst C 0 dL_law_964 ?_
    refine n_lald C (v := b.toInt64) dL_law_965 rfl (by decide) (hb hk0) ?_ (by decide)
    refine g_iload C dL_law_966 rfl ?_
    refine g_i2l C dL_law_968 ?_
    refine g_leq C rfl 975 dL_law_969 dL_law_970 (by decide) ?_
    refine g_goto C 2528 dL_law_975 (by decide) ?_
    exact g_frg (lvL i) ⟨Or.inr rfl, Or.inr rfl, Or.inr rfl, Or.inr rfl, Or.inr rfl, Or.inr rfl, Or.inl rfl, Or.inl rfl, Or.inl rfl, trivial⟩ (g_wid (by omega) (by omega) (kk S8 hI8))
theorem sow_L_192 : SOW RL 192 WL_minimize 3 := ⟨tb_all _ [796, 797, 54, 798] (by decide +kernel) (by decide +kernel), by decide +kernel⟩
theorem vo_L_194 : VO RL 194 11 MX12_minimize 1 := ⟨_, ko_X12.1, tb_all _ [1474, 1475, 1476, 67, 1477] (by decide +kernel) (by decide +kernel), by decide +kernel⟩
set_option maxRecDepth 100000 in
theorem lw_c13 {x : Cx} (L : LX x) {cs sl i : Nat} {S : pv_M} (hi : i + 5 ≤ xL x) (hI : INV S) (hc : cs + 1 ≤ 603072) (hs : sl + 6 ≤ 7178346) (kk : ∀ S' : pv_M, INV S' → GG x 106 (cs + 1) (sl + 6) (lvL i) [] S' 2528) : GG x 106 cs sl (lvL i) [] S 978 := by
  have C := L.C
  have h31 : xL x < 2 ^ 31 := Nat.lt_of_le_of_lt L.n (by decide)
  refine g_aload_n C dL_law_978 rfl ?_
  refine g_sload_n C dL_law_979 rfl ?_
  refine g_iload C dL_law_980 rfl ?_
  refine n_iconst C 1 dL_law_982 ?_
  refine n_iadd C dL_law_983 ?_
  refine g_sld C L.X L.bl L.bA (j := i + 1) (by omega) h31 dL_law_984 ?_
  refine g_aload_n C dL_law_985 rfl ?_
  refine g_callSW C L.nc (As := [.ref 0, .int (xS x (i + 1)), .ref 104]) (o_minimize L.st hI _) sow_L_192 dL_law_986 rfl rfl (rm_L L.R (by decide) hc hs) (Nat.le_of_ble_eq_true rfl) (fun v9 S9 h9 => ?_)
  obtain ⟨k, hk, rfl, hm⟩ := h9
  refine g_cs (cs + 1) (sl + 6) [.int (nI (k))] rfl rfl rfl ?_
  refine g_istore C (by rw [L.mL]; decide) dL_law_989 [.retAddr 1, .ref 0, .ref 75, .ref 104, .ref 105, .int (nI (i)), .int (nI (k)), unk, unk] rfl ?_
  refine g_aload_n C dL_law_991 rfl ?_
  refine g_sload_n C dL_law_992 rfl ?_
  refine g_iload C dL_law_993 rfl ?_
  refine n_iconst C 1 dL_law_995 ?_
  refine n_iadd C dL_law_996 ?_
  refine g_sld C L.X L.bl L.bA (j := i + 1) (by omega) h31 dL_law_997 ?_
  refine g_callV C (As := [.int (xS x (i + 1))]) hm vo_L_194 dL_law_998 rfl rfl (by decide) rfl (rm_L L.R (by decide) (by show _ + 0 ≤ _; omega) (by show _ + 0 ≤ _; omega)) (Nat.le_of_ble_eq_true rfl) (fun v8 S8 h8 => ?_)
  obtain ⟨hr, hI8, h0⟩ := h8
  obtain ⟨b, rfl, hb⟩ := hr
  refine g_cs (cs + 1) (sl + 6) [.int (b)] rfl rfl rfl ?_
  refine g_istore C (by rw [L.mL]; decide) dL_law_1001 [.retAddr 1, .ref 0, .ref 75, .ref 104, .ref 105, .int (nI (i)), .int (nI (k)), .int (b), unk] rfl ?_
  refine g_aload_n C dL_law_1003 rfl ?_
  refine g_callV C (As := []) (k_thrown _ (inv_gs hI8) h0) vo_L_146 dL_law_1004 rfl rfl (by decide) rfl (rm_L L.R (by decide) (by show _ + 0 ≤ _; omega) (by show _ + 0 ≤ _; omega)) (Nat.le_of_ble_eq_true rfl) (fun v7 S7 h7 => ?_)
  obtain ⟨rfl, h7⟩ := h7
  refine g_S S8 h7 ?_
  refine g_cs (cs + 1) (sl + 6) [.int (nI (k))] rfl rfl rfl ?_
  refine g_iload C dL_law_1007 rfl ?_
  refine g_ic_eq C 1014 dL_law_1009 (by decide) (fun _ => ?_) (fun h => absurd rfl h)
  refine g_iload C dL_law_1014 rfl ?_
  refine n_if_ne C 1031 dL_law_1016 (fun hk0 => ?_) (fun hk0 => ?_) (by decide) (by omega)
  · refine g_goto C 2528 dL_law_1031 (by decide) ?_
    exact g_frg (lvL i) ⟨Or.inr rfl, Or.inr rfl, Or.inr rfl, Or.inr rfl, Or.inr rfl, Or.inr rfl, Or.inl rfl, Or.inl rfl, Or.inl rfl, trivial⟩ (g_wid (by omega) (by omega) (kk S8 hI8))
  · refine g_aload_n C dL_law_1019 rfl ?_
    refine n_iconst C 0 dL_law_1020 ?_
    refine n_lald C (v := b.toInt64) dL_law_1021 rfl (by decide) (hb hk0) ?_ (by decide)
    refine g_iload C dL_law_1022 rfl ?_
    refine g_i2l C dL_law_1024 ?_
    refine g_leq C rfl 1031 dL_law_1025 dL_law_1026 (by decide) ?_
    refine g_goto C 2528 dL_law_1031 (by decide) ?_
    exact g_frg (lvL i) ⟨Or.inr rfl, Or.inr rfl, Or.inr rfl, Or.inr rfl, Or.inr rfl, Or.inr rfl, Or.inl rfl, Or.inl rfl, Or.inl rfl, trivial⟩ (g_wid (by omega) (by omega) (kk S8 hI8))
theorem sow_L_195 : SOW RL 195 WL_quotientOfWord 3 := ⟨tb_all _ [810, 811, 54, 812] (by decide +kernel) (by decide +kernel), by decide +kernel⟩
theorem vo_L_197 : VO RL 197 11 MX12_quotientOfWord 1 := ⟨_, ko_X12.1, tb_all _ [1486, 1487, 1488, 67, 1489] (by decide +kernel) (by decide +kernel), by decide +kernel⟩
set_option maxRecDepth 100000 in
theorem lw_c14 {x : Cx} (L : LX x) {cs sl i : Nat} {S : pv_M} (hi : i + 5 ≤ xL x) (hI : INV S) (hc : cs + 1 ≤ 603072) (hs : sl + 6 ≤ 7178346) (kk : ∀ S' : pv_M, INV S' → GG x 106 (cs + 1) (sl + 6) (lvL i) [] S' 2528) : GG x 106 cs sl (lvL i) [] S 1034 := by
  have C := L.C
  have h31 : xL x < 2 ^ 31 := Nat.lt_of_le_of_lt L.n (by decide)
  refine g_aload_n C dL_law_1034 rfl ?_
  refine g_sload_n C dL_law_1035 rfl ?_
  refine g_iload C dL_law_1036 rfl ?_
  refine n_iconst C 1 dL_law_1038 ?_
  refine n_iadd C dL_law_1039 ?_
  refine g_sld C L.X L.bl L.bA (j := i + 1) (by omega) h31 dL_law_1040 ?_
  refine g_aload_n C dL_law_1041 rfl ?_
  refine g_callSW C L.nc (As := [.ref 0, .int (xS x (i + 1)), .ref 104]) (o_quotientOfWord L.st hI _) sow_L_195 dL_law_1042 rfl rfl (rm_L L.R (by decide) hc hs) (Nat.le_of_ble_eq_true rfl) (fun v9 S9 h9 => ?_)
  obtain ⟨k, hk, rfl, hm⟩ := h9
  refine g_cs (cs + 1) (sl + 6) [.int (nI (k))] rfl rfl rfl ?_
  refine g_istore C (by rw [L.mL]; decide) dL_law_1045 [.retAddr 1, .ref 0, .ref 75, .ref 104, .ref 105, .int (nI (i)), .int (nI (k)), unk, unk] rfl ?_
  refine g_aload_n C dL_law_1047 rfl ?_
  refine g_sload_n C dL_law_1048 rfl ?_
  refine g_iload C dL_law_1049 rfl ?_
  refine n_iconst C 1 dL_law_1051 ?_
  refine n_iadd C dL_law_1052 ?_
  refine g_sld C L.X L.bl L.bA (j := i + 1) (by omega) h31 dL_law_1053 ?_
  refine g_callV C (As := [.int (xS x (i + 1))]) hm vo_L_197 dL_law_1054 rfl rfl (by decide) rfl (rm_L L.R (by decide) (by show _ + 0 ≤ _; omega) (by show _ + 0 ≤ _; omega)) (Nat.le_of_ble_eq_true rfl) (fun v8 S8 h8 => ?_)
  obtain ⟨hr, hI8, h0⟩ := h8
  obtain ⟨b, rfl, hb⟩ := hr
  refine g_cs (cs + 1) (sl + 6) [.int (b)] rfl rfl rfl ?_
  refine g_istore C (by rw [L.mL]; decide) dL_law_1057 [.retAddr 1, .ref 0, .ref 75, .ref 104, .ref 105, .int (nI (i)), .int (nI (k)), .int (b), unk] rfl ?_
  refine g_aload_n C dL_law_1059 rfl ?_
  refine g_callV C (As := []) (k_thrown _ (inv_gs hI8) h0) vo_L_146 dL_law_1060 rfl rfl (by decide) rfl (rm_L L.R (by decide) (by show _ + 0 ≤ _; omega) (by show _ + 0 ≤ _; omega)) (Nat.le_of_ble_eq_true rfl) (fun v7 S7 h7 => ?_)
  obtain ⟨rfl, h7⟩ := h7
  refine g_S S8 h7 ?_
  refine g_cs (cs + 1) (sl + 6) [.int (nI (k))] rfl rfl rfl ?_
  refine g_iload C dL_law_1063 rfl ?_
  refine g_ic_eq C 1070 dL_law_1065 (by decide) (fun _ => ?_) (fun h => absurd rfl h)
  refine g_iload C dL_law_1070 rfl ?_
  refine n_if_ne C 1087 dL_law_1072 (fun hk0 => ?_) (fun hk0 => ?_) (by decide) (by omega)
  · refine g_goto C 2528 dL_law_1087 (by decide) ?_
    exact g_frg (lvL i) ⟨Or.inr rfl, Or.inr rfl, Or.inr rfl, Or.inr rfl, Or.inr rfl, Or.inr rfl, Or.inl rfl, Or.inl rfl, Or.inl rfl, trivial⟩ (g_wid (by omega) (by omega) (kk S8 hI8))
  · refine g_aload_n C dL_law_1075 rfl ?_
    refine n_iconst C 0 dL_law_1076 ?_
    refine n_lald C (v := b.toInt64) dL_law_1077 rfl (by decide) (hb hk0) ?_ (by decide)
    refine g_iload C dL_law_1078 rfl ?_
    refine g_i2l C dL_law_1080 ?_
    refine g_leq C rfl 1087 dL_law_1081 dL_law_1082 (by decide) ?_
    refine g_goto C 2528 dL_law_1087 (by decide) ?_
    exact g_frg (lvL i) ⟨Or.inr rfl, Or.inr rfl, Or.inr rfl, Or.inr rfl, Or.inr rfl, Or.inr rfl, Or.inl rfl, Or.inl rfl, Or.inl rfl, trivial⟩ (g_wid (by omega) (by omega) (kk S8 hI8))
theorem sow_L_198 : SOW RL 198 WL_atomCount 3 := ⟨tb_all _ [817, 818, 54, 819] (by decide +kernel) (by decide +kernel), by decide +kernel⟩
theorem vo_L_200 : VO RL 200 11 MX12_atomCount 1 := ⟨_, ko_X12.1, tb_all _ [1490, 1491, 1492, 67, 1493] (by decide +kernel) (by decide +kernel), by decide +kernel⟩
set_option maxRecDepth 100000 in
theorem lw_c15 {x : Cx} (L : LX x) {cs sl i : Nat} {S : pv_M} (hi : i + 5 ≤ xL x) (hI : INV S) (hc : cs + 1 ≤ 603072) (hs : sl + 6 ≤ 7178346) (kk : ∀ S' : pv_M, INV S' → GG x 106 (cs + 1) (sl + 6) (lvL i) [] S' 2528) : GG x 106 cs sl (lvL i) [] S 1090 := by
  have C := L.C
  have h31 : xL x < 2 ^ 31 := Nat.lt_of_le_of_lt L.n (by decide)
  refine g_aload_n C dL_law_1090 rfl ?_
  refine g_sload_n C dL_law_1091 rfl ?_
  refine g_iload C dL_law_1092 rfl ?_
  refine n_iconst C 1 dL_law_1094 ?_
  refine n_iadd C dL_law_1095 ?_
  refine g_sld C L.X L.bl L.bA (j := i + 1) (by omega) h31 dL_law_1096 ?_
  refine g_aload_n C dL_law_1097 rfl ?_
  refine g_callSW C L.nc (As := [.ref 0, .int (xS x (i + 1)), .ref 104]) (o_atomCount L.st hI _) sow_L_198 dL_law_1098 rfl rfl (rm_L L.R (by decide) hc hs) (Nat.le_of_ble_eq_true rfl) (fun v9 S9 h9 => ?_)
  obtain ⟨k, hk, rfl, hm⟩ := h9
  refine g_cs (cs + 1) (sl + 6) [.int (nI (k))] rfl rfl rfl ?_
  refine g_istore C (by rw [L.mL]; decide) dL_law_1101 [.retAddr 1, .ref 0, .ref 75, .ref 104, .ref 105, .int (nI (i)), .int (nI (k)), unk, unk] rfl ?_
  refine g_aload_n C dL_law_1103 rfl ?_
  refine g_sload_n C dL_law_1104 rfl ?_
  refine g_iload C dL_law_1105 rfl ?_
  refine n_iconst C 1 dL_law_1107 ?_
  refine n_iadd C dL_law_1108 ?_
  refine g_sld C L.X L.bl L.bA (j := i + 1) (by omega) h31 dL_law_1109 ?_
  refine g_callV C (As := [.int (xS x (i + 1))]) hm vo_L_200 dL_law_1110 rfl rfl (by decide) rfl (rm_L L.R (by decide) (by show _ + 0 ≤ _; omega) (by show _ + 0 ≤ _; omega)) (Nat.le_of_ble_eq_true rfl) (fun v8 S8 h8 => ?_)
  obtain ⟨hr, hI8, h0⟩ := h8
  obtain ⟨b, rfl, hb⟩ := hr
  refine g_cs (cs + 1) (sl + 6) [.int (b)] rfl rfl rfl ?_
  refine g_istore C (by rw [L.mL]; decide) dL_law_1113 [.retAddr 1, .ref 0, .ref 75, .ref 104, .ref 105, .int (nI (i)), .int (nI (k)), .int (b), unk] rfl ?_
  refine g_aload_n C dL_law_1115 rfl ?_
  refine g_callV C (As := []) (k_thrown _ (inv_gs hI8) h0) vo_L_146 dL_law_1116 rfl rfl (by decide) rfl (rm_L L.R (by decide) (by show _ + 0 ≤ _; omega) (by show _ + 0 ≤ _; omega)) (Nat.le_of_ble_eq_true rfl) (fun v7 S7 h7 => ?_)
  obtain ⟨rfl, h7⟩ := h7
  refine g_S S8 h7 ?_
  refine g_cs (cs + 1) (sl + 6) [.int (nI (k))] rfl rfl rfl ?_
  refine g_iload C dL_law_1119 rfl ?_
  refine g_ic_eq C 1126 dL_law_1121 (by decide) (fun _ => ?_) (fun h => absurd rfl h)
  refine g_iload C dL_law_1126 rfl ?_
  refine n_if_ne C 1143 dL_law_1128 (fun hk0 => ?_) (fun hk0 => ?_) (by decide) (by omega)
  · refine g_goto C 2528 dL_law_1143 (by decide) ?_
    exact g_frg (lvL i) ⟨Or.inr rfl, Or.inr rfl, Or.inr rfl, Or.inr rfl, Or.inr rfl, Or.inr rfl, Or.inl rfl, Or.inl rfl, Or.inl rfl, trivial⟩ (g_wid (by omega) (by omega) (kk S8 hI8))
  · refine g_aload_n C dL_law_1131 rfl ?_
    refine n_iconst C 0 dL_law_1132 ?_
    refine n_lald C (v := b.toInt64) dL_law_1133 rfl (by decide) (hb hk0) ?_ (by decide)
    refine g_iload C dL_law_1134 rfl ?_
    refine g_i2l C dL_law_1136 ?_
    refine g_leq C rfl 1143 dL_law_1137 dL_law_1138 (by decide) ?_
    refine g_goto C 2528 dL_law_1143 (by decide) ?_
    exact g_frg (lvL i) ⟨Or.inr rfl, Or.inr rfl, Or.inr rfl, Or.inr rfl, Or.inr rfl, Or.inr rfl, Or.inl rfl, Or.inl rfl, Or.inl rfl, trivial⟩ (g_wid (by omega) (by omega) (kk S8 hI8))
theorem sow_L_201 : SOW RL 201 WL_atomSet 4 := ⟨tb_all _ [851, 852, 54, 853] (by decide +kernel) (by decide +kernel), by decide +kernel⟩
theorem vo_L_203 : VO RL 203 11 MX12_atomSet 2 := ⟨_, ko_X12.1, tb_all _ [1502, 1503, 1504, 67, 1505] (by decide +kernel) (by decide +kernel), by decide +kernel⟩
set_option maxRecDepth 100000 in
theorem lw_c16 {x : Cx} (L : LX x) {cs sl i : Nat} {S : pv_M} (hi : i + 5 ≤ xL x) (hI : INV S) (hc : cs + 1 ≤ 603072) (hs : sl + 6 ≤ 7178346) (kk : ∀ S' : pv_M, INV S' → GG x 106 (cs + 1) (sl + 6) (lvL i) [] S' 2528) : GG x 106 cs sl (lvL i) [] S 1146 := by
  have C := L.C
  have h31 : xL x < 2 ^ 31 := Nat.lt_of_le_of_lt L.n (by decide)
  refine g_aload_n C dL_law_1146 rfl ?_
  refine g_sload_n C dL_law_1147 rfl ?_
  refine g_iload C dL_law_1148 rfl ?_
  refine n_iconst C 1 dL_law_1150 ?_
  refine n_iadd C dL_law_1151 ?_
  refine g_sld C L.X L.bl L.bA (j := i + 1) (by omega) h31 dL_law_1152 ?_
  refine g_sload_n C dL_law_1153 rfl ?_
  refine g_iload C dL_law_1154 rfl ?_
  refine n_iconst C 2 dL_law_1156 ?_
  refine n_iadd C dL_law_1157 ?_
  refine g_sld C L.X L.bl L.bA (j := i + 2) (by omega) h31 dL_law_1158 ?_
  refine g_aload_n C dL_law_1159 rfl ?_
  refine g_callSW C L.nc (As := [.ref 0, .int (xS x (i + 1)), .int (xS x (i + 2)), .ref 104]) (o_atomSet L.st hI _ _) sow_L_201 dL_law_1160 rfl rfl (rm_L L.R (by decide) hc hs) (Nat.le_of_ble_eq_true rfl) (fun v9 S9 h9 => ?_)
  obtain ⟨k, hk, rfl, hm⟩ := h9
  refine g_cs (cs + 1) (sl + 6) [.int (nI (k))] rfl rfl rfl ?_
  refine g_istore C (by rw [L.mL]; decide) dL_law_1163 [.retAddr 1, .ref 0, .ref 75, .ref 104, .ref 105, .int (nI (i)), .int (nI (k)), unk, unk] rfl ?_
  refine g_aload_n C dL_law_1165 rfl ?_
  refine g_sload_n C dL_law_1166 rfl ?_
  refine g_iload C dL_law_1167 rfl ?_
  refine n_iconst C 1 dL_law_1169 ?_
  refine n_iadd C dL_law_1170 ?_
  refine g_sld C L.X L.bl L.bA (j := i + 1) (by omega) h31 dL_law_1171 ?_
  refine g_sload_n C dL_law_1172 rfl ?_
  refine g_iload C dL_law_1173 rfl ?_
  refine n_iconst C 2 dL_law_1175 ?_
  refine n_iadd C dL_law_1176 ?_
  refine g_sld C L.X L.bl L.bA (j := i + 2) (by omega) h31 dL_law_1177 ?_
  refine g_callV C (As := [.int (xS x (i + 1)), .int (xS x (i + 2))]) hm vo_L_203 dL_law_1178 rfl rfl (by decide) rfl (rm_L L.R (by decide) (by show _ + 0 ≤ _; omega) (by show _ + 0 ≤ _; omega)) (Nat.le_of_ble_eq_true rfl) (fun v8 S8 h8 => ?_)
  obtain ⟨hr, hI8, h0⟩ := h8
  obtain ⟨b, rfl, hb⟩ := hr
  refine g_cs (cs + 1) (sl + 6) [.int (b)] rfl rfl rfl ?_
  refine g_istore C (by rw [L.mL]; decide) dL_law_1181 [.retAddr 1, .ref 0, .ref 75, .ref 104, .ref 105, .int (nI (i)), .int (nI (k)), .int (b), unk] rfl ?_
  refine g_aload_n C dL_law_1183 rfl ?_
  refine g_callV C (As := []) (k_thrown _ (inv_gs hI8) h0) vo_L_146 dL_law_1184 rfl rfl (by decide) rfl (rm_L L.R (by decide) (by show _ + 0 ≤ _; omega) (by show _ + 0 ≤ _; omega)) (Nat.le_of_ble_eq_true rfl) (fun v7 S7 h7 => ?_)
  obtain ⟨rfl, h7⟩ := h7
  refine g_S S8 h7 ?_
  refine g_cs (cs + 1) (sl + 6) [.int (nI (k))] rfl rfl rfl ?_
  refine g_iload C dL_law_1187 rfl ?_
  refine g_ic_eq C 1194 dL_law_1189 (by decide) (fun _ => ?_) (fun h => absurd rfl h)
  refine g_iload C dL_law_1194 rfl ?_
  refine n_if_ne C 1211 dL_law_1196 (fun hk0 => ?_) (fun hk0 => ?_) (by decide) (by omega)
  · refine g_goto C 2528 dL_law_1211 (by decide) ?_
    exact g_frg (lvL i) ⟨Or.inr rfl, Or.inr rfl, Or.inr rfl, Or.inr rfl, Or.inr rfl, Or.inr rfl, Or.inl rfl, Or.inl rfl, Or.inl rfl, trivial⟩ (g_wid (by omega) (by omega) (kk S8 hI8))
  · refine g_aload_n C dL_law_1199 rfl ?_
    refine n_iconst C 0 dL_law_1200 ?_
    refine n_lald C (v := b.toInt64) dL_law_1201 rfl (by decide) (hb hk0) ?_ (by decide)
    refine g_iload C dL_law_1202 rfl ?_
    refine g_i2l C dL_law_1204 ?_
    refine g_leq C rfl 1211 dL_law_1205 dL_law_1206 (by decide) ?_
    refine g_goto C 2528 dL_law_1211 (by decide) ?_
    exact g_frg (lvL i) ⟨Or.inr rfl, Or.inr rfl, Or.inr rfl, Or.inr rfl, Or.inr rfl, Or.inr rfl, Or.inl rfl, Or.inl rfl, Or.inl rfl, trivial⟩ (g_wid (by omega) (by omega) (kk S8 hI8))
theorem sow_L_204 : SOW RL 204 WL_atomOfWord 3 := ⟨tb_all _ [862, 863, 54, 864] (by decide +kernel) (by decide +kernel), by decide +kernel⟩
theorem vo_L_206 : VO RL 206 11 MX12_atomOfWord 1 := ⟨_, ko_X12.1, tb_all _ [1510, 1511, 1512, 67, 1513] (by decide +kernel) (by decide +kernel), by decide +kernel⟩
set_option maxRecDepth 100000 in
theorem lw_c17 {x : Cx} (L : LX x) {cs sl i : Nat} {S : pv_M} (hi : i + 5 ≤ xL x) (hI : INV S) (hc : cs + 1 ≤ 603072) (hs : sl + 6 ≤ 7178346) (kk : ∀ S' : pv_M, INV S' → GG x 106 (cs + 1) (sl + 6) (lvL i) [] S' 2528) : GG x 106 cs sl (lvL i) [] S 1214 := by
  have C := L.C
  have h31 : xL x < 2 ^ 31 := Nat.lt_of_le_of_lt L.n (by decide)
  refine g_aload_n C dL_law_1214 rfl ?_
  refine g_sload_n C dL_law_1215 rfl ?_
  refine g_iload C dL_law_1216 rfl ?_
  refine n_iconst C 1 dL_law_1218 ?_
  refine n_iadd C dL_law_1219 ?_
  refine g_sld C L.X L.bl L.bA (j := i + 1) (by omega) h31 dL_law_1220 ?_
  refine g_aload_n C dL_law_1221 rfl ?_
  refine g_callSW C L.nc (As := [.ref 0, .int (xS x (i + 1)), .ref 104]) (o_atomOfWord L.st hI _) sow_L_204 dL_law_1222 rfl rfl (rm_L L.R (by decide) hc hs) (Nat.le_of_ble_eq_true rfl) (fun v9 S9 h9 => ?_)
  obtain ⟨k, hk, rfl, hm⟩ := h9
  refine g_cs (cs + 1) (sl + 6) [.int (nI (k))] rfl rfl rfl ?_
  refine g_istore C (by rw [L.mL]; decide) dL_law_1225 [.retAddr 1, .ref 0, .ref 75, .ref 104, .ref 105, .int (nI (i)), .int (nI (k)), unk, unk] rfl ?_
  refine g_aload_n C dL_law_1227 rfl ?_
  refine g_sload_n C dL_law_1228 rfl ?_
  refine g_iload C dL_law_1229 rfl ?_
  refine n_iconst C 1 dL_law_1231 ?_
  refine n_iadd C dL_law_1232 ?_
  refine g_sld C L.X L.bl L.bA (j := i + 1) (by omega) h31 dL_law_1233 ?_
  refine g_callV C (As := [.int (xS x (i + 1))]) hm vo_L_206 dL_law_1234 rfl rfl (by decide) rfl (rm_L L.R (by decide) (by show _ + 0 ≤ _; omega) (by show _ + 0 ≤ _; omega)) (Nat.le_of_ble_eq_true rfl) (fun v8 S8 h8 => ?_)
  obtain ⟨hr, hI8, h0⟩ := h8
  obtain ⟨b, rfl, hb⟩ := hr
  refine g_cs (cs + 1) (sl + 6) [.int (b)] rfl rfl rfl ?_
  refine g_istore C (by rw [L.mL]; decide) dL_law_1237 [.retAddr 1, .ref 0, .ref 75, .ref 104, .ref 105, .int (nI (i)), .int (nI (k)), .int (b), unk] rfl ?_
  refine g_aload_n C dL_law_1239 rfl ?_
  refine g_callV C (As := []) (k_thrown _ (inv_gs hI8) h0) vo_L_146 dL_law_1240 rfl rfl (by decide) rfl (rm_L L.R (by decide) (by show _ + 0 ≤ _; omega) (by show _ + 0 ≤ _; omega)) (Nat.le_of_ble_eq_true rfl) (fun v7 S7 h7 => ?_)
  obtain ⟨rfl, h7⟩ := h7
  refine g_S S8 h7 ?_
  refine g_cs (cs + 1) (sl + 6) [.int (nI (k))] rfl rfl rfl ?_
  refine g_iload C dL_law_1243 rfl ?_
  refine g_ic_eq C 1250 dL_law_1245 (by decide) (fun _ => ?_) (fun h => absurd rfl h)
  refine g_iload C dL_law_1250 rfl ?_
  refine n_if_ne C 1267 dL_law_1252 (fun hk0 => ?_) (fun hk0 => ?_) (by decide) (by omega)
  · refine g_goto C 2528 dL_law_1267 (by decide) ?_
    exact g_frg (lvL i) ⟨Or.inr rfl, Or.inr rfl, Or.inr rfl, Or.inr rfl, Or.inr rfl, Or.inr rfl, Or.inl rfl, Or.inl rfl, Or.inl rfl, trivial⟩ (g_wid (by omega) (by omega) (kk S8 hI8))
  · refine g_aload_n C dL_law_1255 rfl ?_
    refine n_iconst C 0 dL_law_1256 ?_
    refine n_lald C (v := b.toInt64) dL_law_1257 rfl (by decide) (hb hk0) ?_ (by decide)
    refine g_iload C dL_law_1258 rfl ?_
    refine g_i2l C dL_law_1260 ?_
    refine g_leq C rfl 1267 dL_law_1261 dL_law_1262 (by decide) ?_
    refine g_goto C 2528 dL_law_1267 (by decide) ?_
    exact g_frg (lvL i) ⟨Or.inr rfl, Or.inr rfl, Or.inr rfl, Or.inr rfl, Or.inr rfl, Or.inr rfl, Or.inl rfl, Or.inl rfl, Or.inl rfl, trivial⟩ (g_wid (by omega) (by omega) (kk S8 hI8))
theorem sow_L_207 : SOW RL 207 WL_atomTargets 5 := ⟨tb_all _ [883, 884, 54, 885] (by decide +kernel) (by decide +kernel), by decide +kernel⟩
theorem vo_L_209 : VO RL 209 11 MX12_atomTargets 3 := ⟨_, ko_X12.1, tb_all _ [1518, 1519, 1520, 67, 1521] (by decide +kernel) (by decide +kernel), by decide +kernel⟩
set_option maxRecDepth 100000 in
theorem lw_c18 {x : Cx} (L : LX x) {cs sl i : Nat} {S : pv_M} (hi : i + 5 ≤ xL x) (hI : INV S) (hc : cs + 1 ≤ 603072) (hs : sl + 6 ≤ 7178346) (kk : ∀ S' : pv_M, INV S' → GG x 106 (cs + 1) (sl + 6) (lvL i) [] S' 2528) : GG x 106 cs sl (lvL i) [] S 1270 := by
  have C := L.C
  have h31 : xL x < 2 ^ 31 := Nat.lt_of_le_of_lt L.n (by decide)
  refine g_aload_n C dL_law_1270 rfl ?_
  refine g_sload_n C dL_law_1271 rfl ?_
  refine g_iload C dL_law_1272 rfl ?_
  refine n_iconst C 1 dL_law_1274 ?_
  refine n_iadd C dL_law_1275 ?_
  refine g_sld C L.X L.bl L.bA (j := i + 1) (by omega) h31 dL_law_1276 ?_
  refine g_sload_n C dL_law_1277 rfl ?_
  refine g_iload C dL_law_1278 rfl ?_
  refine n_iconst C 2 dL_law_1280 ?_
  refine n_iadd C dL_law_1281 ?_
  refine g_sld C L.X L.bl L.bA (j := i + 2) (by omega) h31 dL_law_1282 ?_
  refine g_sload_n C dL_law_1283 rfl ?_
  refine g_iload C dL_law_1284 rfl ?_
  refine n_iconst C 3 dL_law_1286 ?_
  refine n_iadd C dL_law_1287 ?_
  refine g_sld C L.X L.bl L.bA (j := i + 3) (by omega) h31 dL_law_1288 ?_
  refine g_aload_n C dL_law_1289 rfl ?_
  refine g_callSW C L.nc (As := [.ref 0, .int (xS x (i + 1)), .int (xS x (i + 2)), .int (xS x (i + 3)), .ref 104]) (o_atomTargets L.st hI _ _ _) sow_L_207 dL_law_1290 rfl rfl (rm_L L.R (by decide) hc hs) (Nat.le_of_ble_eq_true rfl) (fun v9 S9 h9 => ?_)
  obtain ⟨k, hk, rfl, hm⟩ := h9
  refine g_cs (cs + 1) (sl + 6) [.int (nI (k))] rfl rfl rfl ?_
  refine g_istore C (by rw [L.mL]; decide) dL_law_1293 [.retAddr 1, .ref 0, .ref 75, .ref 104, .ref 105, .int (nI (i)), .int (nI (k)), unk, unk] rfl ?_
  refine g_aload_n C dL_law_1295 rfl ?_
  refine g_sload_n C dL_law_1296 rfl ?_
  refine g_iload C dL_law_1297 rfl ?_
  refine n_iconst C 1 dL_law_1299 ?_
  refine n_iadd C dL_law_1300 ?_
  refine g_sld C L.X L.bl L.bA (j := i + 1) (by omega) h31 dL_law_1301 ?_
  refine g_sload_n C dL_law_1302 rfl ?_
  refine g_iload C dL_law_1303 rfl ?_
  refine n_iconst C 2 dL_law_1305 ?_
  refine n_iadd C dL_law_1306 ?_
  refine g_sld C L.X L.bl L.bA (j := i + 2) (by omega) h31 dL_law_1307 ?_
  refine g_sload_n C dL_law_1308 rfl ?_
  refine g_iload C dL_law_1309 rfl ?_
  refine n_iconst C 3 dL_law_1311 ?_
  refine n_iadd C dL_law_1312 ?_
  refine g_sld C L.X L.bl L.bA (j := i + 3) (by omega) h31 dL_law_1313 ?_
  refine g_callV C (As := [.int (xS x (i + 1)), .int (xS x (i + 2)), .int (xS x (i + 3))]) hm vo_L_209 dL_law_1314 rfl rfl (by decide) rfl (rm_L L.R (by decide) (by show _ + 0 ≤ _; omega) (by show _ + 0 ≤ _; omega)) (Nat.le_of_ble_eq_true rfl) (fun v8 S8 h8 => ?_)
  obtain ⟨hr, hI8, h0⟩ := h8
  obtain ⟨b, rfl, hb⟩ := hr
  refine g_cs (cs + 1) (sl + 6) [.long (b)] rfl rfl rfl ?_
  refine g_lstore C (by rw [L.mL]; decide) dL_law_1317 [.retAddr 1, .ref 0, .ref 75, .ref 104, .ref 105, .int (nI (i)), .int (nI (k)), .long (b), unk] rfl ?_
  refine g_aload_n C dL_law_1319 rfl ?_
  refine g_callV C (As := []) (k_thrown _ (inv_gs hI8) h0) vo_L_146 dL_law_1320 rfl rfl (by decide) rfl (rm_L L.R (by decide) (by show _ + 0 ≤ _; omega) (by show _ + 0 ≤ _; omega)) (Nat.le_of_ble_eq_true rfl) (fun v7 S7 h7 => ?_)
  obtain ⟨rfl, h7⟩ := h7
  refine g_S S8 h7 ?_
  refine g_cs (cs + 1) (sl + 6) [.int (nI (k))] rfl rfl rfl ?_
  refine g_iload C dL_law_1323 rfl ?_
  refine g_ic_eq C 1330 dL_law_1325 (by decide) (fun _ => ?_) (fun h => absurd rfl h)
  refine g_iload C dL_law_1330 rfl ?_
  refine n_if_ne C 1346 dL_law_1332 (fun hk0 => ?_) (fun hk0 => ?_) (by decide) (by omega)
  · refine g_goto C 2528 dL_law_1346 (by decide) ?_
    exact g_frg (lvL i) ⟨Or.inr rfl, Or.inr rfl, Or.inr rfl, Or.inr rfl, Or.inr rfl, Or.inr rfl, Or.inl rfl, Or.inl rfl, Or.inl rfl, trivial⟩ (g_wid (by omega) (by omega) (kk S8 hI8))
  · refine g_aload_n C dL_law_1335 rfl ?_
    refine n_iconst C 0 dL_law_1336 ?_
    refine n_lald C (v := b) dL_law_1337 rfl (by decide) (hb hk0) ?_ (by decide)
    refine g_lload C dL_law_1338 rfl ?_
    refine g_leq C rfl 1346 dL_law_1340 dL_law_1341 (by decide) ?_
    refine g_goto C 2528 dL_law_1346 (by decide) ?_
    exact g_frg (lvL i) ⟨Or.inr rfl, Or.inr rfl, Or.inr rfl, Or.inr rfl, Or.inr rfl, Or.inr rfl, Or.inl rfl, Or.inl rfl, Or.inl rfl, trivial⟩ (g_wid (by omega) (by omega) (kk S8 hI8))
theorem sow_L_210 : SOW RL 210 WL_initialAtoms 3 := ⟨tb_all _ [895, 896, 54, 897] (by decide +kernel) (by decide +kernel), by decide +kernel⟩
theorem vo_L_212 : VO RL 212 11 MX12_initialAtoms 1 := ⟨_, ko_X12.1, tb_all _ [1530, 1531, 1532, 67, 1533] (by decide +kernel) (by decide +kernel), by decide +kernel⟩
set_option maxRecDepth 100000 in
theorem lw_c19 {x : Cx} (L : LX x) {cs sl i : Nat} {S : pv_M} (hi : i + 5 ≤ xL x) (hI : INV S) (hc : cs + 1 ≤ 603072) (hs : sl + 6 ≤ 7178346) (kk : ∀ S' : pv_M, INV S' → GG x 106 (cs + 1) (sl + 6) (lvL i) [] S' 2528) : GG x 106 cs sl (lvL i) [] S 1349 := by
  have C := L.C
  have h31 : xL x < 2 ^ 31 := Nat.lt_of_le_of_lt L.n (by decide)
  refine g_aload_n C dL_law_1349 rfl ?_
  refine g_sload_n C dL_law_1350 rfl ?_
  refine g_iload C dL_law_1351 rfl ?_
  refine n_iconst C 1 dL_law_1353 ?_
  refine n_iadd C dL_law_1354 ?_
  refine g_sld C L.X L.bl L.bA (j := i + 1) (by omega) h31 dL_law_1355 ?_
  refine g_aload_n C dL_law_1356 rfl ?_
  refine g_callSW C L.nc (As := [.ref 0, .int (xS x (i + 1)), .ref 104]) (o_initialAtoms L.st hI _) sow_L_210 dL_law_1357 rfl rfl (rm_L L.R (by decide) hc hs) (Nat.le_of_ble_eq_true rfl) (fun v9 S9 h9 => ?_)
  obtain ⟨k, hk, rfl, hm⟩ := h9
  refine g_cs (cs + 1) (sl + 6) [.int (nI (k))] rfl rfl rfl ?_
  refine g_istore C (by rw [L.mL]; decide) dL_law_1360 [.retAddr 1, .ref 0, .ref 75, .ref 104, .ref 105, .int (nI (i)), .int (nI (k)), unk, unk] rfl ?_
  refine g_aload_n C dL_law_1362 rfl ?_
  refine g_sload_n C dL_law_1363 rfl ?_
  refine g_iload C dL_law_1364 rfl ?_
  refine n_iconst C 1 dL_law_1366 ?_
  refine n_iadd C dL_law_1367 ?_
  refine g_sld C L.X L.bl L.bA (j := i + 1) (by omega) h31 dL_law_1368 ?_
  refine g_callV C (As := [.int (xS x (i + 1))]) hm vo_L_212 dL_law_1369 rfl rfl (by decide) rfl (rm_L L.R (by decide) (by show _ + 0 ≤ _; omega) (by show _ + 0 ≤ _; omega)) (Nat.le_of_ble_eq_true rfl) (fun v8 S8 h8 => ?_)
  obtain ⟨hr, hI8, h0⟩ := h8
  obtain ⟨b, rfl, hb⟩ := hr
  refine g_cs (cs + 1) (sl + 6) [.long (b)] rfl rfl rfl ?_
  refine g_lstore C (by rw [L.mL]; decide) dL_law_1372 [.retAddr 1, .ref 0, .ref 75, .ref 104, .ref 105, .int (nI (i)), .int (nI (k)), .long (b), unk] rfl ?_
  refine g_aload_n C dL_law_1374 rfl ?_
  refine g_callV C (As := []) (k_thrown _ (inv_gs hI8) h0) vo_L_146 dL_law_1375 rfl rfl (by decide) rfl (rm_L L.R (by decide) (by show _ + 0 ≤ _; omega) (by show _ + 0 ≤ _; omega)) (Nat.le_of_ble_eq_true rfl) (fun v7 S7 h7 => ?_)
  obtain ⟨rfl, h7⟩ := h7
  refine g_S S8 h7 ?_
  refine g_cs (cs + 1) (sl + 6) [.int (nI (k))] rfl rfl rfl ?_
  refine g_iload C dL_law_1378 rfl ?_
  refine g_ic_eq C 1385 dL_law_1380 (by decide) (fun _ => ?_) (fun h => absurd rfl h)
  refine g_iload C dL_law_1385 rfl ?_
  refine n_if_ne C 1401 dL_law_1387 (fun hk0 => ?_) (fun hk0 => ?_) (by decide) (by omega)
  · refine g_goto C 2528 dL_law_1401 (by decide) ?_
    exact g_frg (lvL i) ⟨Or.inr rfl, Or.inr rfl, Or.inr rfl, Or.inr rfl, Or.inr rfl, Or.inr rfl, Or.inl rfl, Or.inl rfl, Or.inl rfl, trivial⟩ (g_wid (by omega) (by omega) (kk S8 hI8))
  · refine g_aload_n C dL_law_1390 rfl ?_
    refine n_iconst C 0 dL_law_1391 ?_
    refine n_lald C (v := b) dL_law_1392 rfl (by decide) (hb hk0) ?_ (by decide)
    refine g_lload C dL_law_1393 rfl ?_
    refine g_leq C rfl 1401 dL_law_1395 dL_law_1396 (by decide) ?_
    refine g_goto C 2528 dL_law_1401 (by decide) ?_
    exact g_frg (lvL i) ⟨Or.inr rfl, Or.inr rfl, Or.inr rfl, Or.inr rfl, Or.inr rfl, Or.inr rfl, Or.inl rfl, Or.inl rfl, Or.inl rfl, trivial⟩ (g_wid (by omega) (by omega) (kk S8 hI8))
theorem sow_L_213 : SOW RL 213 WL_finalAtom 3 := ⟨tb_all _ [907, 908, 54, 909] (by decide +kernel) (by decide +kernel), by decide +kernel⟩
theorem vo_L_215 : VO RL 215 11 MX12_finalAtom 1 := ⟨_, ko_X12.1, tb_all _ [1534, 1535, 1536, 67, 1537] (by decide +kernel) (by decide +kernel), by decide +kernel⟩
set_option maxRecDepth 100000 in
theorem lw_c20 {x : Cx} (L : LX x) {cs sl i : Nat} {S : pv_M} (hi : i + 5 ≤ xL x) (hI : INV S) (hc : cs + 1 ≤ 603072) (hs : sl + 6 ≤ 7178346) (kk : ∀ S' : pv_M, INV S' → GG x 106 (cs + 1) (sl + 6) (lvL i) [] S' 2528) : GG x 106 cs sl (lvL i) [] S 1404 := by
  have C := L.C
  have h31 : xL x < 2 ^ 31 := Nat.lt_of_le_of_lt L.n (by decide)
  refine g_aload_n C dL_law_1404 rfl ?_
  refine g_sload_n C dL_law_1405 rfl ?_
  refine g_iload C dL_law_1406 rfl ?_
  refine n_iconst C 1 dL_law_1408 ?_
  refine n_iadd C dL_law_1409 ?_
  refine g_sld C L.X L.bl L.bA (j := i + 1) (by omega) h31 dL_law_1410 ?_
  refine g_aload_n C dL_law_1411 rfl ?_
  refine g_callSW C L.nc (As := [.ref 0, .int (xS x (i + 1)), .ref 104]) (o_finalAtom L.st hI _) sow_L_213 dL_law_1412 rfl rfl (rm_L L.R (by decide) hc hs) (Nat.le_of_ble_eq_true rfl) (fun v9 S9 h9 => ?_)
  obtain ⟨k, hk, rfl, hm⟩ := h9
  refine g_cs (cs + 1) (sl + 6) [.int (nI (k))] rfl rfl rfl ?_
  refine g_istore C (by rw [L.mL]; decide) dL_law_1415 [.retAddr 1, .ref 0, .ref 75, .ref 104, .ref 105, .int (nI (i)), .int (nI (k)), unk, unk] rfl ?_
  refine g_aload_n C dL_law_1417 rfl ?_
  refine g_sload_n C dL_law_1418 rfl ?_
  refine g_iload C dL_law_1419 rfl ?_
  refine n_iconst C 1 dL_law_1421 ?_
  refine n_iadd C dL_law_1422 ?_
  refine g_sld C L.X L.bl L.bA (j := i + 1) (by omega) h31 dL_law_1423 ?_
  refine g_callV C (As := [.int (xS x (i + 1))]) hm vo_L_215 dL_law_1424 rfl rfl (by decide) rfl (rm_L L.R (by decide) (by show _ + 0 ≤ _; omega) (by show _ + 0 ≤ _; omega)) (Nat.le_of_ble_eq_true rfl) (fun v8 S8 h8 => ?_)
  obtain ⟨hr, hI8, h0⟩ := h8
  obtain ⟨b, rfl, hb⟩ := hr
  refine g_cs (cs + 1) (sl + 6) [.int (b)] rfl rfl rfl ?_
  refine g_istore C (by rw [L.mL]; decide) dL_law_1427 [.retAddr 1, .ref 0, .ref 75, .ref 104, .ref 105, .int (nI (i)), .int (nI (k)), .int (b), unk] rfl ?_
  refine g_aload_n C dL_law_1429 rfl ?_
  refine g_callV C (As := []) (k_thrown _ (inv_gs hI8) h0) vo_L_146 dL_law_1430 rfl rfl (by decide) rfl (rm_L L.R (by decide) (by show _ + 0 ≤ _; omega) (by show _ + 0 ≤ _; omega)) (Nat.le_of_ble_eq_true rfl) (fun v7 S7 h7 => ?_)
  obtain ⟨rfl, h7⟩ := h7
  refine g_S S8 h7 ?_
  refine g_cs (cs + 1) (sl + 6) [.int (nI (k))] rfl rfl rfl ?_
  refine g_iload C dL_law_1433 rfl ?_
  refine g_ic_eq C 1440 dL_law_1435 (by decide) (fun _ => ?_) (fun h => absurd rfl h)
  refine g_iload C dL_law_1440 rfl ?_
  refine n_if_ne C 1457 dL_law_1442 (fun hk0 => ?_) (fun hk0 => ?_) (by decide) (by omega)
  · refine g_goto C 2528 dL_law_1457 (by decide) ?_
    exact g_frg (lvL i) ⟨Or.inr rfl, Or.inr rfl, Or.inr rfl, Or.inr rfl, Or.inr rfl, Or.inr rfl, Or.inl rfl, Or.inl rfl, Or.inl rfl, trivial⟩ (g_wid (by omega) (by omega) (kk S8 hI8))
  · refine g_aload_n C dL_law_1445 rfl ?_
    refine n_iconst C 0 dL_law_1446 ?_
    refine n_lald C (v := b.toInt64) dL_law_1447 rfl (by decide) (hb hk0) ?_ (by decide)
    refine g_iload C dL_law_1448 rfl ?_
    refine g_i2l C dL_law_1450 ?_
    refine g_leq C rfl 1457 dL_law_1451 dL_law_1452 (by decide) ?_
    refine g_goto C 2528 dL_law_1457 (by decide) ?_
    exact g_frg (lvL i) ⟨Or.inr rfl, Or.inr rfl, Or.inr rfl, Or.inr rfl, Or.inr rfl, Or.inr rfl, Or.inl rfl, Or.inl rfl, Or.inl rfl, trivial⟩ (g_wid (by omega) (by omega) (kk S8 hI8))
theorem sow_L_216 : SOW RL 216 WL_takeAtomWord 4 := ⟨tb_all _ [915, 916, 54, 917] (by decide +kernel) (by decide +kernel), by decide +kernel⟩
theorem vo_L_218 : VO RL 218 11 MX12_takeAtomWord 2 := ⟨_, ko_X12.1, tb_all _ [1538, 1539, 1540, 67, 1541] (by decide +kernel) (by decide +kernel), by decide +kernel⟩
set_option maxRecDepth 100000 in
theorem lw_c21 {x : Cx} (L : LX x) {cs sl i : Nat} {S : pv_M} (hi : i + 5 ≤ xL x) (hI : INV S) (hc : cs + 1 ≤ 603072) (hs : sl + 6 ≤ 7178346) (kk : ∀ S' : pv_M, INV S' → GG x 106 (cs + 1) (sl + 6) (lvL i) [] S' 2528) : GG x 106 cs sl (lvL i) [] S 1460 := by
  have C := L.C
  have h31 : xL x < 2 ^ 31 := Nat.lt_of_le_of_lt L.n (by decide)
  refine g_aload_n C dL_law_1460 rfl ?_
  refine g_sload_n C dL_law_1461 rfl ?_
  refine g_iload C dL_law_1462 rfl ?_
  refine n_iconst C 1 dL_law_1464 ?_
  refine n_iadd C dL_law_1465 ?_
  refine g_sld C L.X L.bl L.bA (j := i + 1) (by omega) h31 dL_law_1466 ?_
  refine g_sload_n C dL_law_1467 rfl ?_
  refine g_iload C dL_law_1468 rfl ?_
  refine n_iconst C 2 dL_law_1470 ?_
  refine n_iadd C dL_law_1471 ?_
  refine g_sld C L.X L.bl L.bA (j := i + 2) (by omega) h31 dL_law_1472 ?_
  refine g_aload_n C dL_law_1473 rfl ?_
  refine g_callSW C L.nc (As := [.ref 0, .int (xS x (i + 1)), .int (xS x (i + 2)), .ref 104]) (o_takeAtomWord L.st hI _ _) sow_L_216 dL_law_1474 rfl rfl (rm_L L.R (by decide) hc hs) (Nat.le_of_ble_eq_true rfl) (fun v9 S9 h9 => ?_)
  obtain ⟨k, hk, rfl, hm⟩ := h9
  refine g_cs (cs + 1) (sl + 6) [.int (nI (k))] rfl rfl rfl ?_
  refine g_istore C (by rw [L.mL]; decide) dL_law_1477 [.retAddr 1, .ref 0, .ref 75, .ref 104, .ref 105, .int (nI (i)), .int (nI (k)), unk, unk] rfl ?_
  refine g_aload_n C dL_law_1479 rfl ?_
  refine g_sload_n C dL_law_1480 rfl ?_
  refine g_iload C dL_law_1481 rfl ?_
  refine n_iconst C 1 dL_law_1483 ?_
  refine n_iadd C dL_law_1484 ?_
  refine g_sld C L.X L.bl L.bA (j := i + 1) (by omega) h31 dL_law_1485 ?_
  refine g_sload_n C dL_law_1486 rfl ?_
  refine g_iload C dL_law_1487 rfl ?_
  refine n_iconst C 2 dL_law_1489 ?_
  refine n_iadd C dL_law_1490 ?_
  refine g_sld C L.X L.bl L.bA (j := i + 2) (by omega) h31 dL_law_1491 ?_
  refine g_callV C (As := [.int (xS x (i + 1)), .int (xS x (i + 2))]) hm vo_L_218 dL_law_1492 rfl rfl (by decide) rfl (rm_L L.R (by decide) (by show _ + 0 ≤ _; omega) (by show _ + 0 ≤ _; omega)) (Nat.le_of_ble_eq_true rfl) (fun v8 S8 h8 => ?_)
  obtain ⟨hr, hI8, h0⟩ := h8
  obtain ⟨b, rfl, hb⟩ := hr
  refine g_cs (cs + 1) (sl + 6) [.int (b)] rfl rfl rfl ?_
  refine g_istore C (by rw [L.mL]; decide) dL_law_1495 [.retAddr 1, .ref 0, .ref 75, .ref 104, .ref 105, .int (nI (i)), .int (nI (k)), .int (b), unk] rfl ?_
  refine g_aload_n C dL_law_1497 rfl ?_
  refine g_callV C (As := []) (k_thrown _ (inv_gs hI8) h0) vo_L_146 dL_law_1498 rfl rfl (by decide) rfl (rm_L L.R (by decide) (by show _ + 0 ≤ _; omega) (by show _ + 0 ≤ _; omega)) (Nat.le_of_ble_eq_true rfl) (fun v7 S7 h7 => ?_)
  obtain ⟨rfl, h7⟩ := h7
  refine g_S S8 h7 ?_
  refine g_cs (cs + 1) (sl + 6) [.int (nI (k))] rfl rfl rfl ?_
  refine g_iload C dL_law_1501 rfl ?_
  refine g_ic_eq C 1508 dL_law_1503 (by decide) (fun _ => ?_) (fun h => absurd rfl h)
  refine g_iload C dL_law_1508 rfl ?_
  refine n_if_ne C 1525 dL_law_1510 (fun hk0 => ?_) (fun hk0 => ?_) (by decide) (by omega)
  · refine g_goto C 2528 dL_law_1525 (by decide) ?_
    exact g_frg (lvL i) ⟨Or.inr rfl, Or.inr rfl, Or.inr rfl, Or.inr rfl, Or.inr rfl, Or.inr rfl, Or.inl rfl, Or.inl rfl, Or.inl rfl, trivial⟩ (g_wid (by omega) (by omega) (kk S8 hI8))
  · refine g_aload_n C dL_law_1513 rfl ?_
    refine n_iconst C 0 dL_law_1514 ?_
    refine n_lald C (v := b.toInt64) dL_law_1515 rfl (by decide) (hb hk0) ?_ (by decide)
    refine g_iload C dL_law_1516 rfl ?_
    refine g_i2l C dL_law_1518 ?_
    refine g_leq C rfl 1525 dL_law_1519 dL_law_1520 (by decide) ?_
    refine g_goto C 2528 dL_law_1525 (by decide) ?_
    exact g_frg (lvL i) ⟨Or.inr rfl, Or.inr rfl, Or.inr rfl, Or.inr rfl, Or.inr rfl, Or.inr rfl, Or.inl rfl, Or.inl rfl, Or.inl rfl, trivial⟩ (g_wid (by omega) (by omega) (kk S8 hI8))
theorem sow_L_219 : SOW RL 219 WL_atomSize 4 := ⟨tb_all _ [932, 933, 54, 934] (by decide +kernel) (by decide +kernel), by decide +kernel⟩
theorem vo_L_221 : VO RL 221 11 MX12_atomSize 2 := ⟨_, ko_X12.1, tb_all _ [1546, 1547, 1548, 67, 1549] (by decide +kernel) (by decide +kernel), by decide +kernel⟩
set_option maxRecDepth 100000 in
theorem lw_c22 {x : Cx} (L : LX x) {cs sl i : Nat} {S : pv_M} (hi : i + 5 ≤ xL x) (hI : INV S) (hc : cs + 1 ≤ 603072) (hs : sl + 6 ≤ 7178346) (kk : ∀ S' : pv_M, INV S' → GG x 106 (cs + 1) (sl + 6) (lvL i) [] S' 2528) : GG x 106 cs sl (lvL i) [] S 1528 := by
  have C := L.C
  have h31 : xL x < 2 ^ 31 := Nat.lt_of_le_of_lt L.n (by decide)
  refine g_aload_n C dL_law_1528 rfl ?_
  refine g_sload_n C dL_law_1529 rfl ?_
  refine g_iload C dL_law_1530 rfl ?_
  refine n_iconst C 1 dL_law_1532 ?_
  refine n_iadd C dL_law_1533 ?_
  refine g_sld C L.X L.bl L.bA (j := i + 1) (by omega) h31 dL_law_1534 ?_
  refine g_sload_n C dL_law_1535 rfl ?_
  refine g_iload C dL_law_1536 rfl ?_
  refine n_iconst C 2 dL_law_1538 ?_
  refine n_iadd C dL_law_1539 ?_
  refine g_sld C L.X L.bl L.bA (j := i + 2) (by omega) h31 dL_law_1540 ?_
  refine g_aload_n C dL_law_1541 rfl ?_
  refine g_callSW C L.nc (As := [.ref 0, .int (xS x (i + 1)), .int (xS x (i + 2)), .ref 104]) (o_atomSize L.st hI _ _) sow_L_219 dL_law_1542 rfl rfl (rm_L L.R (by decide) hc hs) (Nat.le_of_ble_eq_true rfl) (fun v9 S9 h9 => ?_)
  obtain ⟨k, hk, rfl, hm⟩ := h9
  refine g_cs (cs + 1) (sl + 6) [.int (nI (k))] rfl rfl rfl ?_
  refine g_istore C (by rw [L.mL]; decide) dL_law_1545 [.retAddr 1, .ref 0, .ref 75, .ref 104, .ref 105, .int (nI (i)), .int (nI (k)), unk, unk] rfl ?_
  refine g_aload_n C dL_law_1547 rfl ?_
  refine g_sload_n C dL_law_1548 rfl ?_
  refine g_iload C dL_law_1549 rfl ?_
  refine n_iconst C 1 dL_law_1551 ?_
  refine n_iadd C dL_law_1552 ?_
  refine g_sld C L.X L.bl L.bA (j := i + 1) (by omega) h31 dL_law_1553 ?_
  refine g_sload_n C dL_law_1554 rfl ?_
  refine g_iload C dL_law_1555 rfl ?_
  refine n_iconst C 2 dL_law_1557 ?_
  refine n_iadd C dL_law_1558 ?_
  refine g_sld C L.X L.bl L.bA (j := i + 2) (by omega) h31 dL_law_1559 ?_
  refine g_callV C (As := [.int (xS x (i + 1)), .int (xS x (i + 2))]) hm vo_L_221 dL_law_1560 rfl rfl (by decide) rfl (rm_L L.R (by decide) (by show _ + 0 ≤ _; omega) (by show _ + 0 ≤ _; omega)) (Nat.le_of_ble_eq_true rfl) (fun v8 S8 h8 => ?_)
  obtain ⟨hr, hI8, h0⟩ := h8
  obtain ⟨b, rfl, hb⟩ := hr
  refine g_cs (cs + 1) (sl + 6) [.int (b)] rfl rfl rfl ?_
  refine g_istore C (by rw [L.mL]; decide) dL_law_1563 [.retAddr 1, .ref 0, .ref 75, .ref 104, .ref 105, .int (nI (i)), .int (nI (k)), .int (b), unk] rfl ?_
  refine g_aload_n C dL_law_1565 rfl ?_
  refine g_callV C (As := []) (k_thrown _ (inv_gs hI8) h0) vo_L_146 dL_law_1566 rfl rfl (by decide) rfl (rm_L L.R (by decide) (by show _ + 0 ≤ _; omega) (by show _ + 0 ≤ _; omega)) (Nat.le_of_ble_eq_true rfl) (fun v7 S7 h7 => ?_)
  obtain ⟨rfl, h7⟩ := h7
  refine g_S S8 h7 ?_
  refine g_cs (cs + 1) (sl + 6) [.int (nI (k))] rfl rfl rfl ?_
  refine g_iload C dL_law_1569 rfl ?_
  refine g_ic_eq C 1576 dL_law_1571 (by decide) (fun _ => ?_) (fun h => absurd rfl h)
  refine g_iload C dL_law_1576 rfl ?_
  refine n_if_ne C 1593 dL_law_1578 (fun hk0 => ?_) (fun hk0 => ?_) (by decide) (by omega)
  · refine g_goto C 2528 dL_law_1593 (by decide) ?_
    exact g_frg (lvL i) ⟨Or.inr rfl, Or.inr rfl, Or.inr rfl, Or.inr rfl, Or.inr rfl, Or.inr rfl, Or.inl rfl, Or.inl rfl, Or.inl rfl, trivial⟩ (g_wid (by omega) (by omega) (kk S8 hI8))
  · refine g_aload_n C dL_law_1581 rfl ?_
    refine n_iconst C 0 dL_law_1582 ?_
    refine n_lald C (v := b.toInt64) dL_law_1583 rfl (by decide) (hb hk0) ?_ (by decide)
    refine g_iload C dL_law_1584 rfl ?_
    refine g_i2l C dL_law_1586 ?_
    refine g_leq C rfl 1593 dL_law_1587 dL_law_1588 (by decide) ?_
    refine g_goto C 2528 dL_law_1593 (by decide) ?_
    exact g_frg (lvL i) ⟨Or.inr rfl, Or.inr rfl, Or.inr rfl, Or.inr rfl, Or.inr rfl, Or.inr rfl, Or.inl rfl, Or.inl rfl, Or.inl rfl, trivial⟩ (g_wid (by omega) (by omega) (kk S8 hI8))
theorem sow_L_222 : SOW RL 222 WL_resultSize 5 := ⟨tb_all _ [962, 963, 54, 964] (by decide +kernel) (by decide +kernel), by decide +kernel⟩
theorem vo_L_224 : VO RL 224 11 MX12_resultSize 3 := ⟨_, ko_X12.1, tb_all _ [1550, 1551, 1552, 67, 1553] (by decide +kernel) (by decide +kernel), by decide +kernel⟩
set_option maxRecDepth 100000 in
theorem lw_c23 {x : Cx} (L : LX x) {cs sl i : Nat} {S : pv_M} (hi : i + 5 ≤ xL x) (hI : INV S) (hc : cs + 1 ≤ 603072) (hs : sl + 6 ≤ 7178346) (kk : ∀ S' : pv_M, INV S' → GG x 106 (cs + 1) (sl + 6) (lvL i) [] S' 2528) : GG x 106 cs sl (lvL i) [] S 1596 := by
  have C := L.C
  have h31 : xL x < 2 ^ 31 := Nat.lt_of_le_of_lt L.n (by decide)
  refine g_aload_n C dL_law_1596 rfl ?_
  refine g_sload_n C dL_law_1597 rfl ?_
  refine g_iload C dL_law_1598 rfl ?_
  refine n_iconst C 1 dL_law_1600 ?_
  refine n_iadd C dL_law_1601 ?_
  refine g_sld C L.X L.bl L.bA (j := i + 1) (by omega) h31 dL_law_1602 ?_
  refine g_sload_n C dL_law_1603 rfl ?_
  refine g_iload C dL_law_1604 rfl ?_
  refine n_iconst C 2 dL_law_1606 ?_
  refine n_iadd C dL_law_1607 ?_
  refine g_sld C L.X L.bl L.bA (j := i + 2) (by omega) h31 dL_law_1608 ?_
  refine g_sload_n C dL_law_1609 rfl ?_
  refine g_iload C dL_law_1610 rfl ?_
  refine n_iconst C 3 dL_law_1612 ?_
  refine n_iadd C dL_law_1613 ?_
  refine g_sld C L.X L.bl L.bA (j := i + 3) (by omega) h31 dL_law_1614 ?_
  refine g_aload_n C dL_law_1615 rfl ?_
  refine g_callSW C L.nc (As := [.ref 0, .int (xS x (i + 1)), .int (xS x (i + 2)), .int (xS x (i + 3)), .ref 104]) (o_resultSize L.st hI _ _ _) sow_L_222 dL_law_1616 rfl rfl (rm_L L.R (by decide) hc hs) (Nat.le_of_ble_eq_true rfl) (fun v9 S9 h9 => ?_)
  obtain ⟨k, hk, rfl, hm⟩ := h9
  refine g_cs (cs + 1) (sl + 6) [.int (nI (k))] rfl rfl rfl ?_
  refine g_istore C (by rw [L.mL]; decide) dL_law_1619 [.retAddr 1, .ref 0, .ref 75, .ref 104, .ref 105, .int (nI (i)), .int (nI (k)), unk, unk] rfl ?_
  refine g_aload_n C dL_law_1621 rfl ?_
  refine g_sload_n C dL_law_1622 rfl ?_
  refine g_iload C dL_law_1623 rfl ?_
  refine n_iconst C 1 dL_law_1625 ?_
  refine n_iadd C dL_law_1626 ?_
  refine g_sld C L.X L.bl L.bA (j := i + 1) (by omega) h31 dL_law_1627 ?_
  refine g_sload_n C dL_law_1628 rfl ?_
  refine g_iload C dL_law_1629 rfl ?_
  refine n_iconst C 2 dL_law_1631 ?_
  refine n_iadd C dL_law_1632 ?_
  refine g_sld C L.X L.bl L.bA (j := i + 2) (by omega) h31 dL_law_1633 ?_
  refine g_sload_n C dL_law_1634 rfl ?_
  refine g_iload C dL_law_1635 rfl ?_
  refine n_iconst C 3 dL_law_1637 ?_
  refine n_iadd C dL_law_1638 ?_
  refine g_sld C L.X L.bl L.bA (j := i + 3) (by omega) h31 dL_law_1639 ?_
  refine g_callV C (As := [.int (xS x (i + 1)), .int (xS x (i + 2)), .int (xS x (i + 3))]) hm vo_L_224 dL_law_1640 rfl rfl (by decide) rfl (rm_L L.R (by decide) (by show _ + 0 ≤ _; omega) (by show _ + 0 ≤ _; omega)) (Nat.le_of_ble_eq_true rfl) (fun v8 S8 h8 => ?_)
  obtain ⟨hr, hI8, h0⟩ := h8
  obtain ⟨b, rfl, hb⟩ := hr
  refine g_cs (cs + 1) (sl + 6) [.int (b)] rfl rfl rfl ?_
  refine g_istore C (by rw [L.mL]; decide) dL_law_1643 [.retAddr 1, .ref 0, .ref 75, .ref 104, .ref 105, .int (nI (i)), .int (nI (k)), .int (b), unk] rfl ?_
  refine g_aload_n C dL_law_1645 rfl ?_
  refine g_callV C (As := []) (k_thrown _ (inv_gs hI8) h0) vo_L_146 dL_law_1646 rfl rfl (by decide) rfl (rm_L L.R (by decide) (by show _ + 0 ≤ _; omega) (by show _ + 0 ≤ _; omega)) (Nat.le_of_ble_eq_true rfl) (fun v7 S7 h7 => ?_)
  obtain ⟨rfl, h7⟩ := h7
  refine g_S S8 h7 ?_
  refine g_cs (cs + 1) (sl + 6) [.int (nI (k))] rfl rfl rfl ?_
  refine g_iload C dL_law_1649 rfl ?_
  refine g_ic_eq C 1656 dL_law_1651 (by decide) (fun _ => ?_) (fun h => absurd rfl h)
  refine g_iload C dL_law_1656 rfl ?_
  refine n_if_ne C 1673 dL_law_1658 (fun hk0 => ?_) (fun hk0 => ?_) (by decide) (by omega)
  · refine g_goto C 2528 dL_law_1673 (by decide) ?_
    exact g_frg (lvL i) ⟨Or.inr rfl, Or.inr rfl, Or.inr rfl, Or.inr rfl, Or.inr rfl, Or.inr rfl, Or.inl rfl, Or.inl rfl, Or.inl rfl, trivial⟩ (g_wid (by omega) (by omega) (kk S8 hI8))
  · refine g_aload_n C dL_law_1661 rfl ?_
    refine n_iconst C 0 dL_law_1662 ?_
    refine n_lald C (v := b.toInt64) dL_law_1663 rfl (by decide) (hb hk0) ?_ (by decide)
    refine g_iload C dL_law_1664 rfl ?_
    refine g_i2l C dL_law_1666 ?_
    refine g_leq C rfl 1673 dL_law_1667 dL_law_1668 (by decide) ?_
    refine g_goto C 2528 dL_law_1673 (by decide) ?_
    exact g_frg (lvL i) ⟨Or.inr rfl, Or.inr rfl, Or.inr rfl, Or.inr rfl, Or.inr rfl, Or.inr rfl, Or.inl rfl, Or.inl rfl, Or.inl rfl, trivial⟩ (g_wid (by omega) (by omega) (kk S8 hI8))
theorem sow_L_225 : SOW RL 225 WL_starSize 3 := ⟨tb_all _ [986, 987, 54, 988] (by decide +kernel) (by decide +kernel), by decide +kernel⟩
theorem vo_L_227 : VO RL 227 11 MX12_starSize 1 := ⟨_, ko_X12.1, tb_all _ [1554, 1555, 1556, 67, 1557] (by decide +kernel) (by decide +kernel), by decide +kernel⟩
set_option maxRecDepth 100000 in
theorem lw_c24 {x : Cx} (L : LX x) {cs sl i : Nat} {S : pv_M} (hi : i + 5 ≤ xL x) (hI : INV S) (hc : cs + 1 ≤ 603072) (hs : sl + 6 ≤ 7178346) (kk : ∀ S' : pv_M, INV S' → GG x 106 (cs + 1) (sl + 6) (lvL i) [] S' 2528) : GG x 106 cs sl (lvL i) [] S 1676 := by
  have C := L.C
  have h31 : xL x < 2 ^ 31 := Nat.lt_of_le_of_lt L.n (by decide)
  refine g_aload_n C dL_law_1676 rfl ?_
  refine g_sload_n C dL_law_1677 rfl ?_
  refine g_iload C dL_law_1678 rfl ?_
  refine n_iconst C 1 dL_law_1680 ?_
  refine n_iadd C dL_law_1681 ?_
  refine g_sld C L.X L.bl L.bA (j := i + 1) (by omega) h31 dL_law_1682 ?_
  refine g_aload_n C dL_law_1683 rfl ?_
  refine g_callSW C L.nc (As := [.ref 0, .int (xS x (i + 1)), .ref 104]) (o_starSize L.st hI _) sow_L_225 dL_law_1684 rfl rfl (rm_L L.R (by decide) hc hs) (Nat.le_of_ble_eq_true rfl) (fun v9 S9 h9 => ?_)
  obtain ⟨k, hk, rfl, hm⟩ := h9
  refine g_cs (cs + 1) (sl + 6) [.int (nI (k))] rfl rfl rfl ?_
  refine g_istore C (by rw [L.mL]; decide) dL_law_1687 [.retAddr 1, .ref 0, .ref 75, .ref 104, .ref 105, .int (nI (i)), .int (nI (k)), unk, unk] rfl ?_
  refine g_aload_n C dL_law_1689 rfl ?_
  refine g_sload_n C dL_law_1690 rfl ?_
  refine g_iload C dL_law_1691 rfl ?_
  refine n_iconst C 1 dL_law_1693 ?_
  refine n_iadd C dL_law_1694 ?_
  refine g_sld C L.X L.bl L.bA (j := i + 1) (by omega) h31 dL_law_1695 ?_
  refine g_callV C (As := [.int (xS x (i + 1))]) hm vo_L_227 dL_law_1696 rfl rfl (by decide) rfl (rm_L L.R (by decide) (by show _ + 0 ≤ _; omega) (by show _ + 0 ≤ _; omega)) (Nat.le_of_ble_eq_true rfl) (fun v8 S8 h8 => ?_)
  obtain ⟨hr, hI8, h0⟩ := h8
  obtain ⟨b, rfl, hb⟩ := hr
  refine g_cs (cs + 1) (sl + 6) [.int (b)] rfl rfl rfl ?_
  refine g_istore C (by rw [L.mL]; decide) dL_law_1699 [.retAddr 1, .ref 0, .ref 75, .ref 104, .ref 105, .int (nI (i)), .int (nI (k)), .int (b), unk] rfl ?_
  refine g_aload_n C dL_law_1701 rfl ?_
  refine g_callV C (As := []) (k_thrown _ (inv_gs hI8) h0) vo_L_146 dL_law_1702 rfl rfl (by decide) rfl (rm_L L.R (by decide) (by show _ + 0 ≤ _; omega) (by show _ + 0 ≤ _; omega)) (Nat.le_of_ble_eq_true rfl) (fun v7 S7 h7 => ?_)
  obtain ⟨rfl, h7⟩ := h7
  refine g_S S8 h7 ?_
  refine g_cs (cs + 1) (sl + 6) [.int (nI (k))] rfl rfl rfl ?_
  refine g_iload C dL_law_1705 rfl ?_
  refine g_ic_eq C 1712 dL_law_1707 (by decide) (fun _ => ?_) (fun h => absurd rfl h)
  refine g_iload C dL_law_1712 rfl ?_
  refine n_if_ne C 1729 dL_law_1714 (fun hk0 => ?_) (fun hk0 => ?_) (by decide) (by omega)
  · refine g_goto C 2528 dL_law_1729 (by decide) ?_
    exact g_frg (lvL i) ⟨Or.inr rfl, Or.inr rfl, Or.inr rfl, Or.inr rfl, Or.inr rfl, Or.inr rfl, Or.inl rfl, Or.inl rfl, Or.inl rfl, trivial⟩ (g_wid (by omega) (by omega) (kk S8 hI8))
  · refine g_aload_n C dL_law_1717 rfl ?_
    refine n_iconst C 0 dL_law_1718 ?_
    refine n_lald C (v := b.toInt64) dL_law_1719 rfl (by decide) (hb hk0) ?_ (by decide)
    refine g_iload C dL_law_1720 rfl ?_
    refine g_i2l C dL_law_1722 ?_
    refine g_leq C rfl 1729 dL_law_1723 dL_law_1724 (by decide) ?_
    refine g_goto C 2528 dL_law_1729 (by decide) ?_
    exact g_frg (lvL i) ⟨Or.inr rfl, Or.inr rfl, Or.inr rfl, Or.inr rfl, Or.inr rfl, Or.inr rfl, Or.inl rfl, Or.inl rfl, Or.inl rfl, trivial⟩ (g_wid (by omega) (by omega) (kk S8 hI8))
theorem sow_L_228 : SOW RL 228 WL_combine 6 := ⟨tb_all _ [998, 999, 54, 1000] (by decide +kernel) (by decide +kernel), by decide +kernel⟩
theorem vo_L_231 : VO RL 231 11 MX12_combine 4 := ⟨_, ko_X12.1, tb_all _ [1558, 1559, 1560, 67, 1561] (by decide +kernel) (by decide +kernel), by decide +kernel⟩
set_option maxRecDepth 100000 in
theorem lw_c25 {x : Cx} (L : LX x) {cs sl i : Nat} {S : pv_M} (hi : i + 5 ≤ xL x) (hI : INV S) (hc : cs + 1 ≤ 603072) (hs : sl + 6 ≤ 7178346) (kk : ∀ S' : pv_M, INV S' → GG x 106 (cs + 1) (sl + 6) (lvL i) [] S' 2528) : GG x 106 cs sl (lvL i) [] S 1732 := by
  have C := L.C
  have h31 : xL x < 2 ^ 31 := Nat.lt_of_le_of_lt L.n (by decide)
  refine g_aload_n C dL_law_1732 rfl ?_
  refine g_sload_n C dL_law_1733 rfl ?_
  refine g_iload C dL_law_1734 rfl ?_
  refine n_iconst C 1 dL_law_1736 ?_
  refine n_iadd C dL_law_1737 ?_
  refine g_sld C L.X L.bl L.bA (j := i + 1) (by omega) h31 dL_law_1738 ?_
  refine g_sload_n C dL_law_1739 rfl ?_
  refine g_iload C dL_law_1740 rfl ?_
  refine n_iconst C 2 dL_law_1742 ?_
  refine n_iadd C dL_law_1743 ?_
  refine g_sld C L.X L.bl L.bA (j := i + 2) (by omega) h31 dL_law_1744 ?_
  refine g_sload_n C dL_law_1745 rfl ?_
  refine g_iload C dL_law_1746 rfl ?_
  refine n_iconst C 3 dL_law_1748 ?_
  refine n_iadd C dL_law_1749 ?_
  refine g_sld C L.X L.bl L.bA (j := i + 3) (by omega) h31 dL_law_1750 ?_
  refine g_sload_n C dL_law_1751 rfl ?_
  refine g_iload C dL_law_1752 rfl ?_
  refine n_iconst C 4 dL_law_1754 ?_
  refine n_iadd C dL_law_1755 ?_
  refine g_sld C L.X L.bl L.bA (j := i + 4) (by omega) h31 dL_law_1756 ?_
  refine g_aload_n C dL_law_1757 rfl ?_
  refine g_callSW C L.nc (As := [.ref 0, .int (xS x (i + 1)), .int (xS x (i + 2)), .int (xS x (i + 3)), .int (xS x (i + 4)), .ref 104]) (o_combine L.st hI _ _ _ _) sow_L_228 dL_law_1758 rfl rfl (rm_L L.R (by decide) hc hs) (Nat.le_of_ble_eq_true rfl) (fun v9 S9 h9 => ?_)
  obtain ⟨k, hk, rfl, hm⟩ := h9
  refine g_cs (cs + 1) (sl + 6) [.int (nI (k))] rfl rfl rfl ?_
  refine g_istore C (by rw [L.mL]; decide) dL_law_1761 [.retAddr 1, .ref 0, .ref 75, .ref 104, .ref 105, .int (nI (i)), .int (nI (k)), unk, unk] rfl ?_
  refine g_aload_n C dL_law_1763 rfl ?_
  refine g_sload_n C dL_law_1764 rfl ?_
  refine g_iload C dL_law_1765 rfl ?_
  refine n_iconst C 1 dL_law_1767 ?_
  refine n_iadd C dL_law_1768 ?_
  refine g_sld C L.X L.bl L.bA (j := i + 1) (by omega) h31 dL_law_1769 ?_
  refine g_sload_n C dL_law_1770 rfl ?_
  refine g_iload C dL_law_1771 rfl ?_
  refine n_iconst C 2 dL_law_1773 ?_
  refine n_iadd C dL_law_1774 ?_
  refine g_sld C L.X L.bl L.bA (j := i + 2) (by omega) h31 dL_law_1775 ?_
  refine g_sload_n C dL_law_1776 rfl ?_
  refine g_iload C dL_law_1777 rfl ?_
  refine n_iconst C 3 dL_law_1779 ?_
  refine n_iadd C dL_law_1780 ?_
  refine g_sld C L.X L.bl L.bA (j := i + 3) (by omega) h31 dL_law_1781 ?_
  refine g_sload_n C dL_law_1782 rfl ?_
  refine g_iload C dL_law_1783 rfl ?_
  refine n_iconst C 4 dL_law_1785 ?_
  refine n_iadd C dL_law_1786 ?_
  refine g_sld C L.X L.bl L.bA (j := i + 4) (by omega) h31 dL_law_1787 ?_
  refine g_callV C (As := [.int (xS x (i + 1)), .int (xS x (i + 2)), .int (xS x (i + 3)), .int (xS x (i + 4))]) hm vo_L_231 dL_law_1788 rfl rfl (by decide) rfl (rm_L L.R (by decide) (by show _ + 0 ≤ _; omega) (by show _ + 0 ≤ _; omega)) (Nat.le_of_ble_eq_true rfl) (fun v8 S8 h8 => ?_)
  obtain ⟨hr, hI8, h0⟩ := h8
  obtain ⟨b, rfl, hb⟩ := hr
  refine g_cs (cs + 1) (sl + 6) [.int (b)] rfl rfl rfl ?_
  refine g_istore C (by rw [L.mL]; decide) dL_law_1791 [.retAddr 1, .ref 0, .ref 75, .ref 104, .ref 105, .int (nI (i)), .int (nI (k)), .int (b), unk] rfl ?_
  refine g_aload_n C dL_law_1793 rfl ?_
  refine g_callV C (As := []) (k_thrown _ (inv_gs hI8) h0) vo_L_146 dL_law_1794 rfl rfl (by decide) rfl (rm_L L.R (by decide) (by show _ + 0 ≤ _; omega) (by show _ + 0 ≤ _; omega)) (Nat.le_of_ble_eq_true rfl) (fun v7 S7 h7 => ?_)
  obtain ⟨rfl, h7⟩ := h7
  refine g_S S8 h7 ?_
  refine g_cs (cs + 1) (sl + 6) [.int (nI (k))] rfl rfl rfl ?_
  refine g_iload C dL_law_1797 rfl ?_
  refine g_ic_eq C 1804 dL_law_1799 (by decide) (fun _ => ?_) (fun h => absurd rfl h)
  refine g_iload C dL_law_1804 rfl ?_
  refine n_if_ne C 1821 dL_law_1806 (fun hk0 => ?_) (fun hk0 => ?_) (by decide) (by omega)
  · refine g_goto C 2528 dL_law_1821 (by decide) ?_
    exact g_frg (lvL i) ⟨Or.inr rfl, Or.inr rfl, Or.inr rfl, Or.inr rfl, Or.inr rfl, Or.inr rfl, Or.inl rfl, Or.inl rfl, Or.inl rfl, trivial⟩ (g_wid (by omega) (by omega) (kk S8 hI8))
  · refine g_aload_n C dL_law_1809 rfl ?_
    refine n_iconst C 0 dL_law_1810 ?_
    refine n_lald C (v := b.toInt64) dL_law_1811 rfl (by decide) (hb hk0) ?_ (by decide)
    refine g_iload C dL_law_1812 rfl ?_
    refine g_i2l C dL_law_1814 ?_
    refine g_leq C rfl 1821 dL_law_1815 dL_law_1816 (by decide) ?_
    refine g_goto C 2528 dL_law_1821 (by decide) ?_
    exact g_frg (lvL i) ⟨Or.inr rfl, Or.inr rfl, Or.inr rfl, Or.inr rfl, Or.inr rfl, Or.inr rfl, Or.inl rfl, Or.inl rfl, Or.inl rfl, trivial⟩ (g_wid (by omega) (by omega) (kk S8 hI8))
theorem sow_L_232 : SOW RL 232 WL_star 4 := ⟨tb_all _ [1009, 1010, 54, 1011] (by decide +kernel) (by decide +kernel), by decide +kernel⟩
theorem vo_L_234 : VO RL 234 11 MX12_star 2 := ⟨_, ko_X12.1, tb_all _ [1562, 1563, 1564, 67, 1565] (by decide +kernel) (by decide +kernel), by decide +kernel⟩
set_option maxRecDepth 100000 in
theorem lw_c26 {x : Cx} (L : LX x) {cs sl i : Nat} {S : pv_M} (hi : i + 5 ≤ xL x) (hI : INV S) (hc : cs + 1 ≤ 603072) (hs : sl + 6 ≤ 7178346) (kk : ∀ S' : pv_M, INV S' → GG x 106 (cs + 1) (sl + 6) (lvL i) [] S' 2528) : GG x 106 cs sl (lvL i) [] S 1824 := by
  have C := L.C
  have h31 : xL x < 2 ^ 31 := Nat.lt_of_le_of_lt L.n (by decide)
  refine g_aload_n C dL_law_1824 rfl ?_
  refine g_sload_n C dL_law_1825 rfl ?_
  refine g_iload C dL_law_1826 rfl ?_
  refine n_iconst C 1 dL_law_1828 ?_
  refine n_iadd C dL_law_1829 ?_
  refine g_sld C L.X L.bl L.bA (j := i + 1) (by omega) h31 dL_law_1830 ?_
  refine g_sload_n C dL_law_1831 rfl ?_
  refine g_iload C dL_law_1832 rfl ?_
  refine n_iconst C 2 dL_law_1834 ?_
  refine n_iadd C dL_law_1835 ?_
  refine g_sld C L.X L.bl L.bA (j := i + 2) (by omega) h31 dL_law_1836 ?_
  refine g_aload_n C dL_law_1837 rfl ?_
  refine g_callSW C L.nc (As := [.ref 0, .int (xS x (i + 1)), .int (xS x (i + 2)), .ref 104]) (o_star L.st hI _ _) sow_L_232 dL_law_1838 rfl rfl (rm_L L.R (by decide) hc hs) (Nat.le_of_ble_eq_true rfl) (fun v9 S9 h9 => ?_)
  obtain ⟨k, hk, rfl, hm⟩ := h9
  refine g_cs (cs + 1) (sl + 6) [.int (nI (k))] rfl rfl rfl ?_
  refine g_istore C (by rw [L.mL]; decide) dL_law_1841 [.retAddr 1, .ref 0, .ref 75, .ref 104, .ref 105, .int (nI (i)), .int (nI (k)), unk, unk] rfl ?_
  refine g_aload_n C dL_law_1843 rfl ?_
  refine g_sload_n C dL_law_1844 rfl ?_
  refine g_iload C dL_law_1845 rfl ?_
  refine n_iconst C 1 dL_law_1847 ?_
  refine n_iadd C dL_law_1848 ?_
  refine g_sld C L.X L.bl L.bA (j := i + 1) (by omega) h31 dL_law_1849 ?_
  refine g_sload_n C dL_law_1850 rfl ?_
  refine g_iload C dL_law_1851 rfl ?_
  refine n_iconst C 2 dL_law_1853 ?_
  refine n_iadd C dL_law_1854 ?_
  refine g_sld C L.X L.bl L.bA (j := i + 2) (by omega) h31 dL_law_1855 ?_
  refine g_callV C (As := [.int (xS x (i + 1)), .int (xS x (i + 2))]) hm vo_L_234 dL_law_1856 rfl rfl (by decide) rfl (rm_L L.R (by decide) (by show _ + 0 ≤ _; omega) (by show _ + 0 ≤ _; omega)) (Nat.le_of_ble_eq_true rfl) (fun v8 S8 h8 => ?_)
  obtain ⟨hr, hI8, h0⟩ := h8
  obtain ⟨b, rfl, hb⟩ := hr
  refine g_cs (cs + 1) (sl + 6) [.int (b)] rfl rfl rfl ?_
  refine g_istore C (by rw [L.mL]; decide) dL_law_1859 [.retAddr 1, .ref 0, .ref 75, .ref 104, .ref 105, .int (nI (i)), .int (nI (k)), .int (b), unk] rfl ?_
  refine g_aload_n C dL_law_1861 rfl ?_
  refine g_callV C (As := []) (k_thrown _ (inv_gs hI8) h0) vo_L_146 dL_law_1862 rfl rfl (by decide) rfl (rm_L L.R (by decide) (by show _ + 0 ≤ _; omega) (by show _ + 0 ≤ _; omega)) (Nat.le_of_ble_eq_true rfl) (fun v7 S7 h7 => ?_)
  obtain ⟨rfl, h7⟩ := h7
  refine g_S S8 h7 ?_
  refine g_cs (cs + 1) (sl + 6) [.int (nI (k))] rfl rfl rfl ?_
  refine g_iload C dL_law_1865 rfl ?_
  refine g_ic_eq C 1872 dL_law_1867 (by decide) (fun _ => ?_) (fun h => absurd rfl h)
  refine g_iload C dL_law_1872 rfl ?_
  refine n_if_ne C 1889 dL_law_1874 (fun hk0 => ?_) (fun hk0 => ?_) (by decide) (by omega)
  · refine g_goto C 2528 dL_law_1889 (by decide) ?_
    exact g_frg (lvL i) ⟨Or.inr rfl, Or.inr rfl, Or.inr rfl, Or.inr rfl, Or.inr rfl, Or.inr rfl, Or.inl rfl, Or.inl rfl, Or.inl rfl, trivial⟩ (g_wid (by omega) (by omega) (kk S8 hI8))
  · refine g_aload_n C dL_law_1877 rfl ?_
    refine n_iconst C 0 dL_law_1878 ?_
    refine n_lald C (v := b.toInt64) dL_law_1879 rfl (by decide) (hb hk0) ?_ (by decide)
    refine g_iload C dL_law_1880 rfl ?_
    refine g_i2l C dL_law_1882 ?_
    refine g_leq C rfl 1889 dL_law_1883 dL_law_1884 (by decide) ?_
    refine g_goto C 2528 dL_law_1889 (by decide) ?_
    exact g_frg (lvL i) ⟨Or.inr rfl, Or.inr rfl, Or.inr rfl, Or.inr rfl, Or.inr rfl, Or.inr rfl, Or.inl rfl, Or.inl rfl, Or.inl rfl, trivial⟩ (g_wid (by omega) (by omega) (kk S8 hI8))
theorem sow_L_235 : SOW RL 235 WL_reverse 4 := ⟨tb_all _ [1016, 1017, 54, 1018] (by decide +kernel) (by decide +kernel), by decide +kernel⟩
theorem vo_L_237 : VO RL 237 11 MX12_reverse 2 := ⟨_, ko_X12.1, tb_all _ [1566, 1567, 1568, 67, 1569] (by decide +kernel) (by decide +kernel), by decide +kernel⟩
set_option maxRecDepth 100000 in
theorem lw_c27 {x : Cx} (L : LX x) {cs sl i : Nat} {S : pv_M} (hi : i + 5 ≤ xL x) (hI : INV S) (hc : cs + 1 ≤ 603072) (hs : sl + 6 ≤ 7178346) (kk : ∀ S' : pv_M, INV S' → GG x 106 (cs + 1) (sl + 6) (lvL i) [] S' 2528) : GG x 106 cs sl (lvL i) [] S 1892 := by
  have C := L.C
  have h31 : xL x < 2 ^ 31 := Nat.lt_of_le_of_lt L.n (by decide)
  refine g_aload_n C dL_law_1892 rfl ?_
  refine g_sload_n C dL_law_1893 rfl ?_
  refine g_iload C dL_law_1894 rfl ?_
  refine n_iconst C 1 dL_law_1896 ?_
  refine n_iadd C dL_law_1897 ?_
  refine g_sld C L.X L.bl L.bA (j := i + 1) (by omega) h31 dL_law_1898 ?_
  refine g_sload_n C dL_law_1899 rfl ?_
  refine g_iload C dL_law_1900 rfl ?_
  refine n_iconst C 2 dL_law_1902 ?_
  refine n_iadd C dL_law_1903 ?_
  refine g_sld C L.X L.bl L.bA (j := i + 2) (by omega) h31 dL_law_1904 ?_
  refine g_aload_n C dL_law_1905 rfl ?_
  refine g_callSW C L.nc (As := [.ref 0, .int (xS x (i + 1)), .int (xS x (i + 2)), .ref 104]) (o_reverse L.st hI _ _) sow_L_235 dL_law_1906 rfl rfl (rm_L L.R (by decide) hc hs) (Nat.le_of_ble_eq_true rfl) (fun v9 S9 h9 => ?_)
  obtain ⟨k, hk, rfl, hm⟩ := h9
  refine g_cs (cs + 1) (sl + 6) [.int (nI (k))] rfl rfl rfl ?_
  refine g_istore C (by rw [L.mL]; decide) dL_law_1909 [.retAddr 1, .ref 0, .ref 75, .ref 104, .ref 105, .int (nI (i)), .int (nI (k)), unk, unk] rfl ?_
  refine g_aload_n C dL_law_1911 rfl ?_
  refine g_sload_n C dL_law_1912 rfl ?_
  refine g_iload C dL_law_1913 rfl ?_
  refine n_iconst C 1 dL_law_1915 ?_
  refine n_iadd C dL_law_1916 ?_
  refine g_sld C L.X L.bl L.bA (j := i + 1) (by omega) h31 dL_law_1917 ?_
  refine g_sload_n C dL_law_1918 rfl ?_
  refine g_iload C dL_law_1919 rfl ?_
  refine n_iconst C 2 dL_law_1921 ?_
  refine n_iadd C dL_law_1922 ?_
  refine g_sld C L.X L.bl L.bA (j := i + 2) (by omega) h31 dL_law_1923 ?_
  refine g_callV C (As := [.int (xS x (i + 1)), .int (xS x (i + 2))]) hm vo_L_237 dL_law_1924 rfl rfl (by decide) rfl (rm_L L.R (by decide) (by show _ + 0 ≤ _; omega) (by show _ + 0 ≤ _; omega)) (Nat.le_of_ble_eq_true rfl) (fun v8 S8 h8 => ?_)
  obtain ⟨hr, hI8, h0⟩ := h8
  obtain ⟨b, rfl, hb⟩ := hr
  refine g_cs (cs + 1) (sl + 6) [.int (b)] rfl rfl rfl ?_
  refine g_istore C (by rw [L.mL]; decide) dL_law_1927 [.retAddr 1, .ref 0, .ref 75, .ref 104, .ref 105, .int (nI (i)), .int (nI (k)), .int (b), unk] rfl ?_
  refine g_aload_n C dL_law_1929 rfl ?_
  refine g_callV C (As := []) (k_thrown _ (inv_gs hI8) h0) vo_L_146 dL_law_1930 rfl rfl (by decide) rfl (rm_L L.R (by decide) (by show _ + 0 ≤ _; omega) (by show _ + 0 ≤ _; omega)) (Nat.le_of_ble_eq_true rfl) (fun v7 S7 h7 => ?_)
  obtain ⟨rfl, h7⟩ := h7
  refine g_S S8 h7 ?_
  refine g_cs (cs + 1) (sl + 6) [.int (nI (k))] rfl rfl rfl ?_
  refine g_iload C dL_law_1933 rfl ?_
  refine g_ic_eq C 1940 dL_law_1935 (by decide) (fun _ => ?_) (fun h => absurd rfl h)
  refine g_iload C dL_law_1940 rfl ?_
  refine n_if_ne C 1957 dL_law_1942 (fun hk0 => ?_) (fun hk0 => ?_) (by decide) (by omega)
  · refine g_goto C 2528 dL_law_1957 (by decide) ?_
    exact g_frg (lvL i) ⟨Or.inr rfl, Or.inr rfl, Or.inr rfl, Or.inr rfl, Or.inr rfl, Or.inr rfl, Or.inl rfl, Or.inl rfl, Or.inl rfl, trivial⟩ (g_wid (by omega) (by omega) (kk S8 hI8))
  · refine g_aload_n C dL_law_1945 rfl ?_
    refine n_iconst C 0 dL_law_1946 ?_
    refine n_lald C (v := b.toInt64) dL_law_1947 rfl (by decide) (hb hk0) ?_ (by decide)
    refine g_iload C dL_law_1948 rfl ?_
    refine g_i2l C dL_law_1950 ?_
    refine g_leq C rfl 1957 dL_law_1951 dL_law_1952 (by decide) ?_
    refine g_goto C 2528 dL_law_1957 (by decide) ?_
    exact g_frg (lvL i) ⟨Or.inr rfl, Or.inr rfl, Or.inr rfl, Or.inr rfl, Or.inr rfl, Or.inr rfl, Or.inl rfl, Or.inl rfl, Or.inl rfl, trivial⟩ (g_wid (by omega) (by omega) (kk S8 hI8))
theorem sow_L_240 : SOW RL 240 WL_uniteAtoms 5 := ⟨tb_all _ [1023, 1024, 54, 1025] (by decide +kernel) (by decide +kernel), by decide +kernel⟩
theorem vo_L_243 : VO RL 243 11 MX12_uniteAtoms 3 := ⟨_, ko_X12.1, tb_all _ [1570, 1571, 1572, 67, 1573] (by decide +kernel) (by decide +kernel), by decide +kernel⟩
set_option maxRecDepth 100000 in
theorem lw_c28 {x : Cx} (L : LX x) {cs sl i : Nat} {S : pv_M} (hi : i + 5 ≤ xL x) (hI : INV S) (hc : cs + 1 ≤ 603072) (hs : sl + 6 ≤ 7178346) (kk : ∀ S' : pv_M, INV S' → GG x 106 (cs + 1) (sl + 6) (lvL i) [] S' 2528) : GG x 106 cs sl (lvL i) [] S 1960 := by
  have C := L.C
  have h31 : xL x < 2 ^ 31 := Nat.lt_of_le_of_lt L.n (by decide)
  refine g_aload_n C dL_law_1960 rfl ?_
  refine g_sload_n C dL_law_1961 rfl ?_
  refine g_iload C dL_law_1962 rfl ?_
  refine n_iconst C 1 dL_law_1964 ?_
  refine n_iadd C dL_law_1965 ?_
  refine g_sld C L.X L.bl L.bA (j := i + 1) (by omega) h31 dL_law_1966 ?_
  refine g_sload_n C dL_law_1967 rfl ?_
  refine g_iload C dL_law_1968 rfl ?_
  refine n_iconst C 2 dL_law_1970 ?_
  refine n_iadd C dL_law_1971 ?_
  refine g_sld C L.X L.bl L.bA (j := i + 2) (by omega) h31 dL_law_1972 ?_
  refine g_i2l C dL_law_1973 ?_
  refine n_bipush C 32 dL_law_1974 ?_
  refine g_lshl C dL_law_1976 ?_
  refine g_sload_n C dL_law_1977 rfl ?_
  refine g_iload C dL_law_1978 rfl ?_
  refine n_iconst C 3 dL_law_1980 ?_
  refine n_iadd C dL_law_1981 ?_
  refine g_sld C L.X L.bl L.bA (j := i + 3) (by omega) h31 dL_law_1982 ?_
  refine g_i2l C dL_law_1983 ?_
  refine g_ldc2 C dL_law_1984 kc_L_238 ?_
  refine g_land C dL_law_1987 ?_
  refine g_lor C dL_law_1988 ?_
  refine g_sload_n C dL_law_1989 rfl ?_
  refine g_iload C dL_law_1990 rfl ?_
  refine n_iconst C 4 dL_law_1992 ?_
  refine n_iadd C dL_law_1993 ?_
  refine g_sld C L.X L.bl L.bA (j := i + 4) (by omega) h31 dL_law_1994 ?_
  refine g_aload_n C dL_law_1995 rfl ?_
  refine g_callSW C L.nc (As := [.ref 0, .int (xS x (i + 1)), .long ((((xS x (i + 2)).toInt64) <<< ((nI (32)).toInt64 &&& 63)) ||| (((xS x (i + 3)).toInt64) &&& (4294967295))), .int (xS x (i + 4)), .ref 104]) (o_uniteAtoms L.st hI _ _ _) sow_L_240 dL_law_1996 rfl rfl (rm_L L.R (by decide) hc hs) (Nat.le_of_ble_eq_true rfl) (fun v9 S9 h9 => ?_)
  obtain ⟨k, hk, rfl, hm⟩ := h9
  refine g_cs (cs + 1) (sl + 6) [.int (nI (k))] rfl rfl rfl ?_
  refine g_istore C (by rw [L.mL]; decide) dL_law_1999 [.retAddr 1, .ref 0, .ref 75, .ref 104, .ref 105, .int (nI (i)), .int (nI (k)), unk, unk] rfl ?_
  refine g_aload_n C dL_law_2001 rfl ?_
  refine g_sload_n C dL_law_2002 rfl ?_
  refine g_iload C dL_law_2003 rfl ?_
  refine n_iconst C 1 dL_law_2005 ?_
  refine n_iadd C dL_law_2006 ?_
  refine g_sld C L.X L.bl L.bA (j := i + 1) (by omega) h31 dL_law_2007 ?_
  refine g_sload_n C dL_law_2008 rfl ?_
  refine g_iload C dL_law_2009 rfl ?_
  refine n_iconst C 2 dL_law_2011 ?_
  refine n_iadd C dL_law_2012 ?_
  refine g_sld C L.X L.bl L.bA (j := i + 2) (by omega) h31 dL_law_2013 ?_
  refine g_i2l C dL_law_2014 ?_
  refine n_bipush C 32 dL_law_2015 ?_
  refine g_lshl C dL_law_2017 ?_
  refine g_sload_n C dL_law_2018 rfl ?_
  refine g_iload C dL_law_2019 rfl ?_
  refine n_iconst C 3 dL_law_2021 ?_
  refine n_iadd C dL_law_2022 ?_
  refine g_sld C L.X L.bl L.bA (j := i + 3) (by omega) h31 dL_law_2023 ?_
  refine g_i2l C dL_law_2024 ?_
  refine g_ldc2 C dL_law_2025 kc_L_238 ?_
  refine g_land C dL_law_2028 ?_
  refine g_lor C dL_law_2029 ?_
  refine g_sload_n C dL_law_2030 rfl ?_
  refine g_iload C dL_law_2031 rfl ?_
  refine n_iconst C 4 dL_law_2033 ?_
  refine n_iadd C dL_law_2034 ?_
  refine g_sld C L.X L.bl L.bA (j := i + 4) (by omega) h31 dL_law_2035 ?_
  refine g_callV C (As := [.int (xS x (i + 1)), .long ((((xS x (i + 2)).toInt64) <<< ((nI (32)).toInt64 &&& 63)) ||| (((xS x (i + 3)).toInt64) &&& (4294967295))), .int (xS x (i + 4))]) hm vo_L_243 dL_law_2036 rfl rfl (by decide) rfl (rm_L L.R (by decide) (by show _ + 0 ≤ _; omega) (by show _ + 0 ≤ _; omega)) (Nat.le_of_ble_eq_true rfl) (fun v8 S8 h8 => ?_)
  obtain ⟨hr, hI8, h0⟩ := h8
  obtain ⟨b, rfl, hb⟩ := hr
  refine g_cs (cs + 1) (sl + 6) [.int (b)] rfl rfl rfl ?_
  refine g_istore C (by rw [L.mL]; decide) dL_law_2039 [.retAddr 1, .ref 0, .ref 75, .ref 104, .ref 105, .int (nI (i)), .int (nI (k)), .int (b), unk] rfl ?_
  refine g_aload_n C dL_law_2041 rfl ?_
  refine g_callV C (As := []) (k_thrown _ (inv_gs hI8) h0) vo_L_146 dL_law_2042 rfl rfl (by decide) rfl (rm_L L.R (by decide) (by show _ + 0 ≤ _; omega) (by show _ + 0 ≤ _; omega)) (Nat.le_of_ble_eq_true rfl) (fun v7 S7 h7 => ?_)
  obtain ⟨rfl, h7⟩ := h7
  refine g_S S8 h7 ?_
  refine g_cs (cs + 1) (sl + 6) [.int (nI (k))] rfl rfl rfl ?_
  refine g_iload C dL_law_2045 rfl ?_
  refine g_ic_eq C 2052 dL_law_2047 (by decide) (fun _ => ?_) (fun h => absurd rfl h)
  refine g_iload C dL_law_2052 rfl ?_
  refine n_if_ne C 2069 dL_law_2054 (fun hk0 => ?_) (fun hk0 => ?_) (by decide) (by omega)
  · refine g_goto C 2528 dL_law_2069 (by decide) ?_
    exact g_frg (lvL i) ⟨Or.inr rfl, Or.inr rfl, Or.inr rfl, Or.inr rfl, Or.inr rfl, Or.inr rfl, Or.inl rfl, Or.inl rfl, Or.inl rfl, trivial⟩ (g_wid (by omega) (by omega) (kk S8 hI8))
  · refine g_aload_n C dL_law_2057 rfl ?_
    refine n_iconst C 0 dL_law_2058 ?_
    refine n_lald C (v := b.toInt64) dL_law_2059 rfl (by decide) (hb hk0) ?_ (by decide)
    refine g_iload C dL_law_2060 rfl ?_
    refine g_i2l C dL_law_2062 ?_
    refine g_leq C rfl 2069 dL_law_2063 dL_law_2064 (by decide) ?_
    refine g_goto C 2528 dL_law_2069 (by decide) ?_
    exact g_frg (lvL i) ⟨Or.inr rfl, Or.inr rfl, Or.inr rfl, Or.inr rfl, Or.inr rfl, Or.inr rfl, Or.inl rfl, Or.inl rfl, Or.inl rfl, trivial⟩ (g_wid (by omega) (by omega) (kk S8 hI8))
theorem sow_L_244 : SOW RL 244 WL_isUnionOfAtoms 4 := ⟨tb_all _ [1050, 1051, 54, 1052] (by decide +kernel) (by decide +kernel), by decide +kernel⟩
theorem vo_L_246 : VO RL 246 11 MX12_isUnionOfAtoms 2 := ⟨_, ko_X12.1, tb_all _ [1578, 1579, 1580, 67, 1581] (by decide +kernel) (by decide +kernel), by decide +kernel⟩
set_option maxRecDepth 100000 in
theorem lw_c29 {x : Cx} (L : LX x) {cs sl i : Nat} {S : pv_M} (hi : i + 5 ≤ xL x) (hI : INV S) (hc : cs + 1 ≤ 603072) (hs : sl + 6 ≤ 7178346) (kk : ∀ S' : pv_M, INV S' → GG x 106 (cs + 1) (sl + 6) (lvL i) [] S' 2528) : GG x 106 cs sl (lvL i) [] S 2072 := by
  have C := L.C
  have h31 : xL x < 2 ^ 31 := Nat.lt_of_le_of_lt L.n (by decide)
  refine g_aload_n C dL_law_2072 rfl ?_
  refine g_sload_n C dL_law_2073 rfl ?_
  refine g_iload C dL_law_2074 rfl ?_
  refine n_iconst C 1 dL_law_2076 ?_
  refine n_iadd C dL_law_2077 ?_
  refine g_sld C L.X L.bl L.bA (j := i + 1) (by omega) h31 dL_law_2078 ?_
  refine g_sload_n C dL_law_2079 rfl ?_
  refine g_iload C dL_law_2080 rfl ?_
  refine n_iconst C 2 dL_law_2082 ?_
  refine n_iadd C dL_law_2083 ?_
  refine g_sld C L.X L.bl L.bA (j := i + 2) (by omega) h31 dL_law_2084 ?_
  refine g_aload_n C dL_law_2085 rfl ?_
  refine g_callSW C L.nc (As := [.ref 0, .int (xS x (i + 1)), .int (xS x (i + 2)), .ref 104]) (o_isUnionOfAtoms L.st hI _ _) sow_L_244 dL_law_2086 rfl rfl (rm_L L.R (by decide) hc hs) (Nat.le_of_ble_eq_true rfl) (fun v9 S9 h9 => ?_)
  obtain ⟨k, hk, rfl, hm⟩ := h9
  refine g_cs (cs + 1) (sl + 6) [.int (nI (k))] rfl rfl rfl ?_
  refine g_istore C (by rw [L.mL]; decide) dL_law_2089 [.retAddr 1, .ref 0, .ref 75, .ref 104, .ref 105, .int (nI (i)), .int (nI (k)), unk, unk] rfl ?_
  refine g_aload_n C dL_law_2091 rfl ?_
  refine g_sload_n C dL_law_2092 rfl ?_
  refine g_iload C dL_law_2093 rfl ?_
  refine n_iconst C 1 dL_law_2095 ?_
  refine n_iadd C dL_law_2096 ?_
  refine g_sld C L.X L.bl L.bA (j := i + 1) (by omega) h31 dL_law_2097 ?_
  refine g_sload_n C dL_law_2098 rfl ?_
  refine g_iload C dL_law_2099 rfl ?_
  refine n_iconst C 2 dL_law_2101 ?_
  refine n_iadd C dL_law_2102 ?_
  refine g_sld C L.X L.bl L.bA (j := i + 2) (by omega) h31 dL_law_2103 ?_
  refine g_callV C (As := [.int (xS x (i + 1)), .int (xS x (i + 2))]) hm vo_L_246 dL_law_2104 rfl rfl (by decide) rfl (rm_L L.R (by decide) (by show _ + 0 ≤ _; omega) (by show _ + 0 ≤ _; omega)) (Nat.le_of_ble_eq_true rfl) (fun v8 S8 h8 => ?_)
  obtain ⟨hr, hI8, h0⟩ := h8
  obtain ⟨b, rfl, hb⟩ := hr
  refine g_cs (cs + 1) (sl + 6) [.int (bI (b))] rfl rfl rfl ?_
  refine g_istore C (by rw [L.mL]; decide) dL_law_2107 [.retAddr 1, .ref 0, .ref 75, .ref 104, .ref 105, .int (nI (i)), .int (nI (k)), .int (bI (b)), unk] rfl ?_
  refine g_aload_n C dL_law_2109 rfl ?_
  refine g_callV C (As := []) (k_thrown _ (inv_gs hI8) h0) vo_L_146 dL_law_2110 rfl rfl (by decide) rfl (rm_L L.R (by decide) (by show _ + 0 ≤ _; omega) (by show _ + 0 ≤ _; omega)) (Nat.le_of_ble_eq_true rfl) (fun v7 S7 h7 => ?_)
  obtain ⟨rfl, h7⟩ := h7
  refine g_S S8 h7 ?_
  refine g_cs (cs + 1) (sl + 6) [.int (nI (k))] rfl rfl rfl ?_
  refine g_iload C dL_law_2113 rfl ?_
  refine g_ic_eq C 2120 dL_law_2115 (by decide) (fun _ => ?_) (fun h => absurd rfl h)
  refine g_iload C dL_law_2120 rfl ?_
  refine n_if_ne C 2144 dL_law_2122 (fun hk0 => ?_) (fun hk0 => ?_) (by decide) (by omega)
  · refine g_goto C 2528 dL_law_2144 (by decide) ?_
    exact g_frg (lvL i) ⟨Or.inr rfl, Or.inr rfl, Or.inr rfl, Or.inr rfl, Or.inr rfl, Or.inr rfl, Or.inl rfl, Or.inl rfl, Or.inl rfl, trivial⟩ (g_wid (by omega) (by omega) (kk S8 hI8))
  · refine g_aload_n C dL_law_2125 rfl ?_
    refine n_iconst C 0 dL_law_2126 ?_
    refine n_lald C (v := bL b) dL_law_2127 rfl (by decide) (hb hk0) ?_ (by decide)
    refine g_iload C dL_law_2128 rfl ?_
    refine g_bl C dL_law_2130 dL_law_2133 dL_law_2134 dL_law_2137 ?_
    refine g_leq C rfl 2144 dL_law_2138 dL_law_2139 (by decide) ?_
    refine g_goto C 2528 dL_law_2144 (by decide) ?_
    exact g_frg (lvL i) ⟨Or.inr rfl, Or.inr rfl, Or.inr rfl, Or.inr rfl, Or.inr rfl, Or.inr rfl, Or.inl rfl, Or.inl rfl, Or.inl rfl, trivial⟩ (g_wid (by omega) (by omega) (kk S8 hI8))
theorem sow_L_247 : SOW RL 247 WL_takeDifference 4 := ⟨tb_all _ [1061, 1062, 54, 1063] (by decide +kernel) (by decide +kernel), by decide +kernel⟩
theorem vo_L_249 : VO RL 249 11 MX12_takeDifference 2 := ⟨_, ko_X12.1, tb_all _ [1594, 1595, 1596, 67, 1597] (by decide +kernel) (by decide +kernel), by decide +kernel⟩
set_option maxRecDepth 100000 in
theorem lw_c30 {x : Cx} (L : LX x) {cs sl i : Nat} {S : pv_M} (hi : i + 5 ≤ xL x) (hI : INV S) (hc : cs + 1 ≤ 603072) (hs : sl + 6 ≤ 7178346) (kk : ∀ S' : pv_M, INV S' → GG x 106 (cs + 1) (sl + 6) (lvL i) [] S' 2528) : GG x 106 cs sl (lvL i) [] S 2147 := by
  have C := L.C
  have h31 : xL x < 2 ^ 31 := Nat.lt_of_le_of_lt L.n (by decide)
  refine g_aload_n C dL_law_2147 rfl ?_
  refine g_sload_n C dL_law_2148 rfl ?_
  refine g_iload C dL_law_2149 rfl ?_
  refine n_iconst C 1 dL_law_2151 ?_
  refine n_iadd C dL_law_2152 ?_
  refine g_sld C L.X L.bl L.bA (j := i + 1) (by omega) h31 dL_law_2153 ?_
  refine g_sload_n C dL_law_2154 rfl ?_
  refine g_iload C dL_law_2155 rfl ?_
  refine n_iconst C 2 dL_law_2157 ?_
  refine n_iadd C dL_law_2158 ?_
  refine g_sld C L.X L.bl L.bA (j := i + 2) (by omega) h31 dL_law_2159 ?_
  refine g_aload_n C dL_law_2160 rfl ?_
  refine g_callSW C L.nc (As := [.ref 0, .int (xS x (i + 1)), .int (xS x (i + 2)), .ref 104]) (o_takeDifference L.st hI _ _) sow_L_247 dL_law_2161 rfl rfl (rm_L L.R (by decide) hc hs) (Nat.le_of_ble_eq_true rfl) (fun v9 S9 h9 => ?_)
  obtain ⟨k, hk, rfl, hm⟩ := h9
  refine g_cs (cs + 1) (sl + 6) [.int (nI (k))] rfl rfl rfl ?_
  refine g_istore C (by rw [L.mL]; decide) dL_law_2164 [.retAddr 1, .ref 0, .ref 75, .ref 104, .ref 105, .int (nI (i)), .int (nI (k)), unk, unk] rfl ?_
  refine g_aload_n C dL_law_2166 rfl ?_
  refine g_sload_n C dL_law_2167 rfl ?_
  refine g_iload C dL_law_2168 rfl ?_
  refine n_iconst C 1 dL_law_2170 ?_
  refine n_iadd C dL_law_2171 ?_
  refine g_sld C L.X L.bl L.bA (j := i + 1) (by omega) h31 dL_law_2172 ?_
  refine g_sload_n C dL_law_2173 rfl ?_
  refine g_iload C dL_law_2174 rfl ?_
  refine n_iconst C 2 dL_law_2176 ?_
  refine n_iadd C dL_law_2177 ?_
  refine g_sld C L.X L.bl L.bA (j := i + 2) (by omega) h31 dL_law_2178 ?_
  refine g_callV C (As := [.int (xS x (i + 1)), .int (xS x (i + 2))]) hm vo_L_249 dL_law_2179 rfl rfl (by decide) rfl (rm_L L.R (by decide) (by show _ + 0 ≤ _; omega) (by show _ + 0 ≤ _; omega)) (Nat.le_of_ble_eq_true rfl) (fun v8 S8 h8 => ?_)
  obtain ⟨hr, hI8, h0⟩ := h8
  obtain ⟨b, rfl, hb⟩ := hr
  refine g_cs (cs + 1) (sl + 6) [.int (b)] rfl rfl rfl ?_
  refine g_istore C (by rw [L.mL]; decide) dL_law_2182 [.retAddr 1, .ref 0, .ref 75, .ref 104, .ref 105, .int (nI (i)), .int (nI (k)), .int (b), unk] rfl ?_
  refine g_aload_n C dL_law_2184 rfl ?_
  refine g_callV C (As := []) (k_thrown _ (inv_gs hI8) h0) vo_L_146 dL_law_2185 rfl rfl (by decide) rfl (rm_L L.R (by decide) (by show _ + 0 ≤ _; omega) (by show _ + 0 ≤ _; omega)) (Nat.le_of_ble_eq_true rfl) (fun v7 S7 h7 => ?_)
  obtain ⟨rfl, h7⟩ := h7
  refine g_S S8 h7 ?_
  refine g_cs (cs + 1) (sl + 6) [.int (nI (k))] rfl rfl rfl ?_
  refine g_iload C dL_law_2188 rfl ?_
  refine g_ic_eq C 2195 dL_law_2190 (by decide) (fun _ => ?_) (fun h => absurd rfl h)
  refine g_iload C dL_law_2195 rfl ?_
  refine n_if_ne C 2212 dL_law_2197 (fun hk0 => ?_) (fun hk0 => ?_) (by decide) (by omega)
  · refine g_goto C 2528 dL_law_2212 (by decide) ?_
    exact g_frg (lvL i) ⟨Or.inr rfl, Or.inr rfl, Or.inr rfl, Or.inr rfl, Or.inr rfl, Or.inr rfl, Or.inl rfl, Or.inl rfl, Or.inl rfl, trivial⟩ (g_wid (by omega) (by omega) (kk S8 hI8))
  · refine g_aload_n C dL_law_2200 rfl ?_
    refine n_iconst C 0 dL_law_2201 ?_
    refine n_lald C (v := b.toInt64) dL_law_2202 rfl (by decide) (hb hk0) ?_ (by decide)
    refine g_iload C dL_law_2203 rfl ?_
    refine g_i2l C dL_law_2205 ?_
    refine g_leq C rfl 2212 dL_law_2206 dL_law_2207 (by decide) ?_
    refine g_goto C 2528 dL_law_2212 (by decide) ?_
    exact g_frg (lvL i) ⟨Or.inr rfl, Or.inr rfl, Or.inr rfl, Or.inr rfl, Or.inr rfl, Or.inr rfl, Or.inl rfl, Or.inl rfl, Or.inl rfl, trivial⟩ (g_wid (by omega) (by omega) (kk S8 hI8))
theorem sow_L_250 : SOW RL 250 WL_share 4 := ⟨tb_all _ [1099, 1100, 54, 1101] (by decide +kernel) (by decide +kernel), by decide +kernel⟩
theorem vo_L_253 : VO RL 253 11 MX12_share 2 := ⟨_, ko_X12.1, tb_all _ [1598, 1599, 1600, 67, 1601] (by decide +kernel) (by decide +kernel), by decide +kernel⟩
set_option maxRecDepth 100000 in
theorem lw_c31 {x : Cx} (L : LX x) {cs sl i : Nat} {S : pv_M} (hi : i + 5 ≤ xL x) (hI : INV S) (hc : cs + 1 ≤ 603072) (hs : sl + 6 ≤ 7178346) (kk : ∀ S' : pv_M, INV S' → GG x 106 (cs + 1) (sl + 6) (lvL i) [] S' 2528) : GG x 106 cs sl (lvL i) [] S 2215 := by
  have C := L.C
  have h31 : xL x < 2 ^ 31 := Nat.lt_of_le_of_lt L.n (by decide)
  refine g_aload_n C dL_law_2215 rfl ?_
  refine g_sload_n C dL_law_2216 rfl ?_
  refine g_iload C dL_law_2217 rfl ?_
  refine n_iconst C 1 dL_law_2219 ?_
  refine n_iadd C dL_law_2220 ?_
  refine g_sld C L.X L.bl L.bA (j := i + 1) (by omega) h31 dL_law_2221 ?_
  refine g_sload_n C dL_law_2222 rfl ?_
  refine g_iload C dL_law_2223 rfl ?_
  refine n_iconst C 2 dL_law_2225 ?_
  refine n_iadd C dL_law_2226 ?_
  refine g_sld C L.X L.bl L.bA (j := i + 2) (by omega) h31 dL_law_2227 ?_
  refine g_aload C dL_law_2228 rfl ?_
  refine g_callSW C L.nc (As := [.ref 0, .int (xS x (i + 1)), .int (xS x (i + 2)), .ref 105]) (o_share L.st hI _ _) sow_L_250 dL_law_2230 rfl rfl (rm_L L.R (by decide) hc hs) (Nat.le_of_ble_eq_true rfl) (fun v9 S9 h9 => ?_)
  obtain ⟨k, hk, rfl, hm⟩ := h9
  refine g_cs (cs + 1) (sl + 6) [.int (nI (k))] rfl rfl rfl ?_
  refine g_istore C (by rw [L.mL]; decide) dL_law_2233 [.retAddr 1, .ref 0, .ref 75, .ref 104, .ref 105, .int (nI (i)), .int (nI (k)), unk, unk] rfl ?_
  refine g_aload_n C dL_law_2235 rfl ?_
  refine g_sload_n C dL_law_2236 rfl ?_
  refine g_iload C dL_law_2237 rfl ?_
  refine n_iconst C 1 dL_law_2239 ?_
  refine n_iadd C dL_law_2240 ?_
  refine g_sld C L.X L.bl L.bA (j := i + 1) (by omega) h31 dL_law_2241 ?_
  refine g_sload_n C dL_law_2242 rfl ?_
  refine g_iload C dL_law_2243 rfl ?_
  refine n_iconst C 2 dL_law_2245 ?_
  refine n_iadd C dL_law_2246 ?_
  refine g_sld C L.X L.bl L.bA (j := i + 2) (by omega) h31 dL_law_2247 ?_
  refine g_callV C (As := [.int (xS x (i + 1)), .int (xS x (i + 2))]) hm vo_L_253 dL_law_2248 rfl rfl (by decide) rfl (rm_L L.R (by decide) (by show _ + 0 ≤ _; omega) (by show _ + 0 ≤ _; omega)) (Nat.le_of_ble_eq_true rfl) (fun v8 S8 h8 => ?_)
  obtain ⟨hr, hI8, h0⟩ := h8
  obtain ⟨b, rfl, hb⟩ := hr
  refine g_cs (cs + 1) (sl + 6) [.double (b)] rfl rfl rfl ?_
  refine g_dstore C (by rw [L.mL]; decide) dL_law_2251 [.retAddr 1, .ref 0, .ref 75, .ref 104, .ref 105, .int (nI (i)), .int (nI (k)), .double (b), unk] rfl ?_
  refine g_aload_n C dL_law_2253 rfl ?_
  refine g_callV C (As := []) (k_thrown _ (inv_gs hI8) h0) vo_L_146 dL_law_2254 rfl rfl (by decide) rfl (rm_L L.R (by decide) (by show _ + 0 ≤ _; omega) (by show _ + 0 ≤ _; omega)) (Nat.le_of_ble_eq_true rfl) (fun v7 S7 h7 => ?_)
  obtain ⟨rfl, h7⟩ := h7
  refine g_S S8 h7 ?_
  refine g_cs (cs + 1) (sl + 6) [.int (nI (k))] rfl rfl rfl ?_
  refine g_iload C dL_law_2257 rfl ?_
  refine g_ic_eq C 2264 dL_law_2259 (by decide) (fun _ => ?_) (fun h => absurd rfl h)
  refine g_iload C dL_law_2264 rfl ?_
  refine n_if_ne C 2301 dL_law_2266 (fun hk0 => ?_) (fun hk0 => ?_) (by decide) (by omega)
  · refine g_goto C 2528 dL_law_2301 (by decide) ?_
    exact g_frg (lvL i) ⟨Or.inr rfl, Or.inr rfl, Or.inr rfl, Or.inr rfl, Or.inr rfl, Or.inr rfl, Or.inl rfl, Or.inl rfl, Or.inl rfl, trivial⟩ (g_wid (by omega) (by omega) (kk S8 hI8))
  · have hd := hb hk0
    refine g_aload C dL_law_2269 rfl ?_
    refine n_iconst C 0 dL_law_2271 ?_
    refine n_dald C (v := b) dL_law_2272 rfl (by decide) hd ?_ (by decide)
    refine g_dload C dL_law_2273 rfl ?_
    refine g_dcmp C dL_law_2275 ?_
    refine g_if_eq C 2301 dL_law_2276 (by decide) (fun z0 => ?_) (fun z0 => ?_)
    · refine g_goto C 2528 dL_law_2301 (by decide) ?_
      exact g_frg (lvL i) ⟨Or.inr rfl, Or.inr rfl, Or.inr rfl, Or.inr rfl, Or.inr rfl, Or.inr rfl, Or.inl rfl, Or.inl rfl, Or.inl rfl, trivial⟩ (g_wid (by omega) (by omega) (kk S8 hI8))
    · refine g_aload C dL_law_2279 rfl ?_
      refine n_iconst C 0 dL_law_2281 ?_
      refine n_dald C (v := b) dL_law_2282 rfl (by decide) hd ?_ (by decide)
      refine g_aload C dL_law_2283 rfl ?_
      refine n_iconst C 0 dL_law_2285 ?_
      refine n_dald C (v := b) dL_law_2286 rfl (by decide) hd ?_ (by decide)
      refine g_dcmp C dL_law_2287 ?_
      refine g_if_eq C 2299 dL_law_2288 (by decide) (fun z1 => absurd z1 z0) (fun z1 => ?_)
      refine g_dload C dL_law_2291 rfl ?_
      refine g_dload C dL_law_2293 rfl ?_
      refine g_dcmp C dL_law_2295 ?_
      refine g_if_ne C 2301 dL_law_2296 (by decide) (fun z2 => ?_) (fun z2 => absurd z2 z0)
      refine g_goto C 2528 dL_law_2301 (by decide) ?_
      exact g_frg (lvL i) ⟨Or.inr rfl, Or.inr rfl, Or.inr rfl, Or.inr rfl, Or.inr rfl, Or.inr rfl, Or.inl rfl, Or.inl rfl, Or.inl rfl, trivial⟩ (g_wid (by omega) (by omega) (kk S8 hI8))
theorem sow_L_254 : SOW RL 254 WL_keepShares 5 := ⟨tb_all _ [1125, 1126, 54, 1127] (by decide +kernel) (by decide +kernel), by decide +kernel⟩
theorem vo_L_257 : VO RL 257 11 MX12_keepShares 4 := ⟨_, ko_X12.1, tb_all _ [1607, 1608, 1609, 67, 1610] (by decide +kernel) (by decide +kernel), by decide +kernel⟩
set_option maxRecDepth 100000 in
theorem lw_c32 {x : Cx} (L : LX x) {cs sl i : Nat} {S : pv_M} (hi : i + 5 ≤ xL x) (hI : INV S) (hc : cs + 1 ≤ 603072) (hs : sl + 6 ≤ 7178346) (kk : ∀ S' : pv_M, INV S' → GG x 106 (cs + 1) (sl + 6) (lvL i) [] S' 2528) : GG x 106 cs sl (lvL i) [] S 2304 := by
  have C := L.C
  have h31 : xL x < 2 ^ 31 := Nat.lt_of_le_of_lt L.n (by decide)
  refine g_aload_n C dL_law_2304 rfl ?_
  refine g_sload_n C dL_law_2305 rfl ?_
  refine g_iload C dL_law_2306 rfl ?_
  refine n_iconst C 1 dL_law_2308 ?_
  refine n_iadd C dL_law_2309 ?_
  refine g_sld C L.X L.bl L.bA (j := i + 1) (by omega) h31 dL_law_2310 ?_
  refine g_sload_n C dL_law_2311 rfl ?_
  refine g_iload C dL_law_2312 rfl ?_
  refine n_iconst C 2 dL_law_2314 ?_
  refine n_iadd C dL_law_2315 ?_
  refine g_sld C L.X L.bl L.bA (j := i + 2) (by omega) h31 dL_law_2316 ?_
  refine g_sload_n C dL_law_2317 rfl ?_
  refine g_iload C dL_law_2318 rfl ?_
  refine n_iconst C 3 dL_law_2320 ?_
  refine n_iadd C dL_law_2321 ?_
  refine g_sld C L.X L.bl L.bA (j := i + 3) (by omega) h31 dL_law_2322 ?_
  refine g_sload_n C dL_law_2323 rfl ?_
  refine g_iload C dL_law_2324 rfl ?_
  refine n_iconst C 4 dL_law_2326 ?_
  refine n_iadd C dL_law_2327 ?_
  refine g_sld C L.X L.bl L.bA (j := i + 4) (by omega) h31 dL_law_2328 ?_
  refine g_nz C dL_law_2329 dL_law_2332 dL_law_2333 dL_law_2336 ?_
  refine g_callSW C L.nc (As := [.ref 0, .int (xS x (i + 1)), .int (xS x (i + 2)), .int (xS x (i + 3)), .int (bI (decide (¬ xS x (i + 4) = 0)))]) (o_keepShares L.st hI _ _ _ _) sow_L_254 dL_law_2337 rfl rfl (rm_L L.R (by decide) hc hs) (Nat.le_of_ble_eq_true rfl) (fun v9 S9 h9 => ?_)
  obtain ⟨k, hk, rfl, hm⟩ := h9
  refine g_cs (cs + 1) (sl + 6) [.int (nI (k))] rfl rfl rfl ?_
  refine g_istore C (by rw [L.mL]; decide) dL_law_2340 [.retAddr 1, .ref 0, .ref 75, .ref 104, .ref 105, .int (nI (i)), .int (nI (k)), unk, unk] rfl ?_
  refine g_aload_n C dL_law_2342 rfl ?_
  refine g_sload_n C dL_law_2343 rfl ?_
  refine g_iload C dL_law_2344 rfl ?_
  refine n_iconst C 1 dL_law_2346 ?_
  refine n_iadd C dL_law_2347 ?_
  refine g_sld C L.X L.bl L.bA (j := i + 1) (by omega) h31 dL_law_2348 ?_
  refine g_sload_n C dL_law_2349 rfl ?_
  refine g_iload C dL_law_2350 rfl ?_
  refine n_iconst C 2 dL_law_2352 ?_
  refine n_iadd C dL_law_2353 ?_
  refine g_sld C L.X L.bl L.bA (j := i + 2) (by omega) h31 dL_law_2354 ?_
  refine g_sload_n C dL_law_2355 rfl ?_
  refine g_iload C dL_law_2356 rfl ?_
  refine n_iconst C 3 dL_law_2358 ?_
  refine n_iadd C dL_law_2359 ?_
  refine g_sld C L.X L.bl L.bA (j := i + 3) (by omega) h31 dL_law_2360 ?_
  refine g_sload_n C dL_law_2361 rfl ?_
  refine g_iload C dL_law_2362 rfl ?_
  refine n_iconst C 4 dL_law_2364 ?_
  refine n_iadd C dL_law_2365 ?_
  refine g_sld C L.X L.bl L.bA (j := i + 4) (by omega) h31 dL_law_2366 ?_
  refine g_nz C dL_law_2367 dL_law_2370 dL_law_2371 dL_law_2374 ?_
  refine g_callV C (As := [.int (xS x (i + 1)), .int (xS x (i + 2)), .int (xS x (i + 3)), .int (bI (decide (¬ xS x (i + 4) = 0)))]) hm vo_L_257 dL_law_2375 rfl rfl (by decide) rfl (rm_L L.R (by decide) (by show _ + 0 ≤ _; omega) (by show _ + 0 ≤ _; omega)) (Nat.le_of_ble_eq_true rfl) (fun v8 S8 h8 => ?_)
  obtain ⟨hr, hI8, h0⟩ := h8
  obtain rfl : v8 = none := hr
  refine g_cs (cs + 1) (sl + 6) [] rfl rfl rfl ?_
  refine g_aload_n C dL_law_2378 rfl ?_
  refine g_callV C (As := []) (k_thrown _ (inv_gs hI8) h0) vo_L_146 dL_law_2379 rfl rfl (by decide) rfl (rm_L L.R (by decide) (by show _ + 0 ≤ _; omega) (by show _ + 0 ≤ _; omega)) (Nat.le_of_ble_eq_true rfl) (fun v7 S7 h7 => ?_)
  obtain ⟨rfl, h7⟩ := h7
  refine g_S S8 h7 ?_
  refine g_cs (cs + 1) (sl + 6) [.int (nI (k))] rfl rfl rfl ?_
  refine g_iload C dL_law_2382 rfl ?_
  refine g_ic_eq C 2389 dL_law_2384 (by decide) (fun _ => ?_) (fun h => absurd rfl h)
  refine g_goto C 2528 dL_law_2389 (by decide) ?_
  exact g_frg (lvL i) ⟨Or.inr rfl, Or.inr rfl, Or.inr rfl, Or.inr rfl, Or.inr rfl, Or.inr rfl, Or.inl rfl, Or.inl rfl, Or.inl rfl, trivial⟩ (g_wid (by omega) (by omega) (kk S8 hI8))
theorem sow_L_258 : SOW RL 258 WL_remainder 5 := ⟨tb_all _ [1132, 1133, 54, 1134] (by decide +kernel) (by decide +kernel), by decide +kernel⟩
theorem vo_L_261 : VO RL 261 11 MX12_remainder 3 := ⟨_, ko_X12.1, tb_all _ [1611, 1612, 1613, 67, 1614] (by decide +kernel) (by decide +kernel), by decide +kernel⟩
set_option maxRecDepth 100000 in
theorem lw_c33 {x : Cx} (L : LX x) {cs sl i : Nat} {S : pv_M} (hi : i + 5 ≤ xL x) (hI : INV S) (hc : cs + 1 ≤ 603072) (hs : sl + 6 ≤ 7178346) (kk : ∀ S' : pv_M, INV S' → GG x 106 (cs + 1) (sl + 6) (lvL i) [] S' 2528) : GG x 106 cs sl (lvL i) [] S 2392 := by
  have C := L.C
  have h31 : xL x < 2 ^ 31 := Nat.lt_of_le_of_lt L.n (by decide)
  refine g_aload_n C dL_law_2392 rfl ?_
  refine g_sload_n C dL_law_2393 rfl ?_
  refine g_iload C dL_law_2394 rfl ?_
  refine n_iconst C 1 dL_law_2396 ?_
  refine n_iadd C dL_law_2397 ?_
  refine g_sld C L.X L.bl L.bA (j := i + 1) (by omega) h31 dL_law_2398 ?_
  refine g_sload_n C dL_law_2399 rfl ?_
  refine g_iload C dL_law_2400 rfl ?_
  refine n_iconst C 2 dL_law_2402 ?_
  refine n_iadd C dL_law_2403 ?_
  refine g_sld C L.X L.bl L.bA (j := i + 2) (by omega) h31 dL_law_2404 ?_
  refine g_sload_n C dL_law_2405 rfl ?_
  refine g_iload C dL_law_2406 rfl ?_
  refine n_iconst C 3 dL_law_2408 ?_
  refine n_iadd C dL_law_2409 ?_
  refine g_sld C L.X L.bl L.bA (j := i + 3) (by omega) h31 dL_law_2410 ?_
  refine g_aload C dL_law_2411 rfl ?_
  refine g_callSW C L.nc (As := [.ref 0, .int (xS x (i + 1)), .int (xS x (i + 2)), .int (xS x (i + 3)), .ref 105]) (o_remainder L.st hI _ _ _) sow_L_258 dL_law_2413 rfl rfl (rm_L L.R (by decide) hc hs) (Nat.le_of_ble_eq_true rfl) (fun v9 S9 h9 => ?_)
  obtain ⟨k, hk, rfl, hm⟩ := h9
  refine g_cs (cs + 1) (sl + 6) [.int (nI (k))] rfl rfl rfl ?_
  refine g_istore C (by rw [L.mL]; decide) dL_law_2416 [.retAddr 1, .ref 0, .ref 75, .ref 104, .ref 105, .int (nI (i)), .int (nI (k)), unk, unk] rfl ?_
  refine g_aload_n C dL_law_2418 rfl ?_
  refine g_sload_n C dL_law_2419 rfl ?_
  refine g_iload C dL_law_2420 rfl ?_
  refine n_iconst C 1 dL_law_2422 ?_
  refine n_iadd C dL_law_2423 ?_
  refine g_sld C L.X L.bl L.bA (j := i + 1) (by omega) h31 dL_law_2424 ?_
  refine g_sload_n C dL_law_2425 rfl ?_
  refine g_iload C dL_law_2426 rfl ?_
  refine n_iconst C 2 dL_law_2428 ?_
  refine n_iadd C dL_law_2429 ?_
  refine g_sld C L.X L.bl L.bA (j := i + 2) (by omega) h31 dL_law_2430 ?_
  refine g_sload_n C dL_law_2431 rfl ?_
  refine g_iload C dL_law_2432 rfl ?_
  refine n_iconst C 3 dL_law_2434 ?_
  refine n_iadd C dL_law_2435 ?_
  refine g_sld C L.X L.bl L.bA (j := i + 3) (by omega) h31 dL_law_2436 ?_
  refine g_callV C (As := [.int (xS x (i + 1)), .int (xS x (i + 2)), .int (xS x (i + 3))]) hm vo_L_261 dL_law_2437 rfl rfl (by decide) rfl (rm_L L.R (by decide) (by show _ + 0 ≤ _; omega) (by show _ + 0 ≤ _; omega)) (Nat.le_of_ble_eq_true rfl) (fun v8 S8 h8 => ?_)
  obtain ⟨hr, hI8, h0⟩ := h8
  obtain ⟨b, rfl, hb⟩ := hr
  refine g_cs (cs + 1) (sl + 6) [.double (b)] rfl rfl rfl ?_
  refine g_dstore C (by rw [L.mL]; decide) dL_law_2440 [.retAddr 1, .ref 0, .ref 75, .ref 104, .ref 105, .int (nI (i)), .int (nI (k)), .double (b), unk] rfl ?_
  refine g_aload_n C dL_law_2442 rfl ?_
  refine g_callV C (As := []) (k_thrown _ (inv_gs hI8) h0) vo_L_146 dL_law_2443 rfl rfl (by decide) rfl (rm_L L.R (by decide) (by show _ + 0 ≤ _; omega) (by show _ + 0 ≤ _; omega)) (Nat.le_of_ble_eq_true rfl) (fun v7 S7 h7 => ?_)
  obtain ⟨rfl, h7⟩ := h7
  refine g_S S8 h7 ?_
  refine g_cs (cs + 1) (sl + 6) [.int (nI (k))] rfl rfl rfl ?_
  refine g_iload C dL_law_2446 rfl ?_
  refine g_ic_eq C 2453 dL_law_2448 (by decide) (fun _ => ?_) (fun h => absurd rfl h)
  refine g_iload C dL_law_2453 rfl ?_
  refine n_if_ne C 2490 dL_law_2455 (fun hk0 => ?_) (fun hk0 => ?_) (by decide) (by omega)
  · refine g_goto C 2528 dL_law_2490 (by decide) ?_
    exact g_frg (lvL i) ⟨Or.inr rfl, Or.inr rfl, Or.inr rfl, Or.inr rfl, Or.inr rfl, Or.inr rfl, Or.inl rfl, Or.inl rfl, Or.inl rfl, trivial⟩ (g_wid (by omega) (by omega) (kk S8 hI8))
  · have hd := hb hk0
    refine g_aload C dL_law_2458 rfl ?_
    refine n_iconst C 0 dL_law_2460 ?_
    refine n_dald C (v := b) dL_law_2461 rfl (by decide) hd ?_ (by decide)
    refine g_dload C dL_law_2462 rfl ?_
    refine g_dcmp C dL_law_2464 ?_
    refine g_if_eq C 2490 dL_law_2465 (by decide) (fun z0 => ?_) (fun z0 => ?_)
    · refine g_goto C 2528 dL_law_2490 (by decide) ?_
      exact g_frg (lvL i) ⟨Or.inr rfl, Or.inr rfl, Or.inr rfl, Or.inr rfl, Or.inr rfl, Or.inr rfl, Or.inl rfl, Or.inl rfl, Or.inl rfl, trivial⟩ (g_wid (by omega) (by omega) (kk S8 hI8))
    · refine g_aload C dL_law_2468 rfl ?_
      refine n_iconst C 0 dL_law_2470 ?_
      refine n_dald C (v := b) dL_law_2471 rfl (by decide) hd ?_ (by decide)
      refine g_aload C dL_law_2472 rfl ?_
      refine n_iconst C 0 dL_law_2474 ?_
      refine n_dald C (v := b) dL_law_2475 rfl (by decide) hd ?_ (by decide)
      refine g_dcmp C dL_law_2476 ?_
      refine g_if_eq C 2488 dL_law_2477 (by decide) (fun z1 => absurd z1 z0) (fun z1 => ?_)
      refine g_dload C dL_law_2480 rfl ?_
      refine g_dload C dL_law_2482 rfl ?_
      refine g_dcmp C dL_law_2484 ?_
      refine g_if_ne C 2490 dL_law_2485 (by decide) (fun z2 => ?_) (fun z2 => absurd z2 z0)
      refine g_goto C 2528 dL_law_2490 (by decide) ?_
      exact g_frg (lvL i) ⟨Or.inr rfl, Or.inr rfl, Or.inr rfl, Or.inr rfl, Or.inr rfl, Or.inr rfl, Or.inl rfl, Or.inl rfl, Or.inl rfl, trivial⟩ (g_wid (by omega) (by omega) (kk S8 hI8))
theorem vo_L_262 : VO RL 262 10 MX11_save 0 := ⟨_, ko_X11.1, tb_all _ [388, 389, 390, 55, 391] (by decide +kernel) (by decide +kernel), by decide +kernel⟩
theorem vo_L_265 : VO RL 265 11 MX12_save 0 := ⟨_, ko_X12.1, tb_all _ [1615, 1616, 1617, 67, 1618] (by decide +kernel) (by decide +kernel), by decide +kernel⟩
set_option maxRecDepth 100000 in
theorem lw_c34 {x : Cx} (L : LX x) {cs sl i : Nat} {S : pv_M} (hi : i + 5 ≤ xL x) (hI : INV S) (hc : cs + 1 ≤ 603072) (hs : sl + 6 ≤ 7178346) (kk : ∀ S' : pv_M, INV S' → GG x 106 (cs + 1) (sl + 6) (lvL i) [] S' 2528) : GG x 106 cs sl (lvL i) [] S 2493 := by
  have C := L.C
  have h31 : xL x < 2 ^ 31 := Nat.lt_of_le_of_lt L.n (by decide)
  refine g_aload_n C dL_law_2493 rfl ?_
  refine g_callV C (As := []) (o_save hI) vo_L_262 dL_law_2494 rfl rfl (by decide) rfl (rm_L L.R (by decide) (by show _ + 0 ≤ _; omega) (by show _ + 0 ≤ _; omega)) (Nat.le_of_ble_eq_true rfl) (fun v9 S9 h9 => ?_)
  obtain ⟨rfl, hm⟩ := h9
  refine g_cs (cs) (sl) [] rfl rfl rfl ?_
  refine g_aload_n C dL_law_2497 rfl ?_
  refine g_callV C (As := []) hm vo_L_265 dL_law_2498 rfl rfl (by decide) rfl (rm_L L.R (by decide) (by show _ + 0 ≤ _; omega) (by show _ + 0 ≤ _; omega)) (Nat.le_of_ble_eq_true rfl) (fun v8 S8 h8 => ?_)
  obtain ⟨rfl, hI8⟩ := h8
  refine g_cs (cs) (sl) [] rfl rfl rfl ?_
  refine g_goto C 2528 dL_law_2501 (by decide) ?_
  exact g_frg (lvL i) ⟨Or.inr rfl, Or.inr rfl, Or.inr rfl, Or.inr rfl, Or.inr rfl, Or.inr rfl, Or.inl rfl, Or.inl rfl, Or.inl rfl, trivial⟩ (g_wid (by omega) (by omega) (kk S8 hI8))
theorem sow_L_266 : SOW RL 266 WL_restore 1 := ⟨tb_all _ [1172, 1173, 54, 1174] (by decide +kernel) (by decide +kernel), by decide +kernel⟩
theorem vo_L_269 : VO RL 269 11 MX12_restore 0 := ⟨_, ko_X12.1, tb_all _ [1619, 1620, 1621, 67, 1622] (by decide +kernel) (by decide +kernel), by decide +kernel⟩
set_option maxRecDepth 100000 in
theorem lw_c35 {x : Cx} (L : LX x) {cs sl i : Nat} {S : pv_M} (hi : i + 5 ≤ xL x) (hI : INV S) (hc : cs + 1 ≤ 603072) (hs : sl + 6 ≤ 7178346) (kk : ∀ S' : pv_M, INV S' → GG x 106 (cs + 1) (sl + 6) (lvL i) [] S' 2528) : GG x 106 cs sl (lvL i) [] S 2504 := by
  have C := L.C
  have h31 : xL x < 2 ^ 31 := Nat.lt_of_le_of_lt L.n (by decide)
  refine g_aload_n C dL_law_2504 rfl ?_
  refine g_callSW C L.nc (As := [.ref 0]) (o_restore L.st hI) sow_L_266 dL_law_2505 rfl rfl (rm_L L.R (by decide) hc hs) (Nat.le_of_ble_eq_true rfl) (fun v9 S9 h9 => ?_)
  obtain ⟨k, hk, rfl, hm⟩ := h9
  refine g_cs (cs + 1) (sl + 6) [.int (nI (k))] rfl rfl rfl ?_
  refine g_istore C (by rw [L.mL]; decide) dL_law_2508 [.retAddr 1, .ref 0, .ref 75, .ref 104, .ref 105, .int (nI (i)), .int (nI (k)), unk, unk] rfl ?_
  refine g_aload_n C dL_law_2510 rfl ?_
  refine g_callV C (As := []) hm vo_L_269 dL_law_2511 rfl rfl (by decide) rfl (rm_L L.R (by decide) (by show _ + 0 ≤ _; omega) (by show _ + 0 ≤ _; omega)) (Nat.le_of_ble_eq_true rfl) (fun v8 S8 h8 => ?_)
  obtain ⟨hr, hI8, h0⟩ := h8
  obtain rfl : v8 = none := hr
  refine g_cs (cs + 1) (sl + 6) [] rfl rfl rfl ?_
  refine g_aload_n C dL_law_2514 rfl ?_
  refine g_callV C (As := []) (k_thrown _ (inv_gs hI8) h0) vo_L_146 dL_law_2515 rfl rfl (by decide) rfl (rm_L L.R (by decide) (by show _ + 0 ≤ _; omega) (by show _ + 0 ≤ _; omega)) (Nat.le_of_ble_eq_true rfl) (fun v7 S7 h7 => ?_)
  obtain ⟨rfl, h7⟩ := h7
  refine g_S S8 h7 ?_
  refine g_cs (cs + 1) (sl + 6) [.int (nI (k))] rfl rfl rfl ?_
  refine g_iload C dL_law_2518 rfl ?_
  refine g_ic_eq C 2525 dL_law_2520 (by decide) (fun _ => ?_) (fun h => absurd rfl h)
  refine g_goto C 2528 dL_law_2525 (by decide) ?_
  exact g_frg (lvL i) ⟨Or.inr rfl, Or.inr rfl, Or.inr rfl, Or.inr rfl, Or.inr rfl, Or.inr rfl, Or.inl rfl, Or.inl rfl, Or.inl rfl, trivial⟩ (g_wid (by omega) (by omega) (kk S8 hI8))
