/-! THE LAW'S CASES: one call of the class by its wrapper, one of the reference, the comparison -/
theorem x_or_none {a b : Option String} (h : a.or b = none) : a = none ∧ b = none := by
  cases a with
  | none => exact ⟨rfl, h⟩
  | some _ => cases h
theorem x_feed_some {a v : Int32} {nm : String} (h : x_feed a v = some nm) : nm = nIAE ∨ nm = nUOE := by
  unfold x_feed at h
  split at h
  · exact Or.inl (Option.some.inj h).symm
  · split at h
    · cases h
    · exact Or.inr (Option.some.inj h).symm
theorem lcmp_self (x : Int64) : lg_cmp x x = nI 0 := by simp [lg_cmp]; rfl
abbrev lwA (s : State) : Nat → Prop := fun q => s.heap.size ≤ q
abbrev lwW (o ad om am : Nat → Nat) (oa : Nat) (cI cZ cG cJ : ClassId) (t q y : Nat) (pq : Option Nat) (u n b0 : Nat) (isw oR : Nat → Int32) (mem memM : xMem) (th ptv wy : Int32) (f : Nat → Int64) : va_W := ((wC o ad cI cZ cG (nI t) (nI q) (nI u) (nI y) (pnC pq) (nI n) isw mem) ++ wO oa cJ f) ++ wM om am cI cZ th (nI t) (nI q) (nI y) (pvC pq) (nI (pq.getD 0)) (nI b0) ptv wy isw oR memM
def lawX (p : Program) (l : Launch) (s : State) (m : MethodId) (meth : Method) (c : Code) (b L : Nat) (xs : Nat → Int32) (D : va_G) (cI cZ cG cJ : ClassId) : Prop :=
  p.tables.exec = Jvm.exec ∧ c.code = cL_law ∧ c.maxLocals = 7 ∧ s.vm.findClass RL = some m.cls ∧ (∀ w ∈ tW, w.before #[Value.ref b] s = true) ∧ va_X b L xs s s.heap ∧ b < s.heap.size ∧ va_K D vwCl (tL cI cZ cG cJ) s ∧ lE (lwA s) s s.heap ∧ l.stackTraces = false ∧ L ≤ 3584
def lawK (p : Program) (l : Launch) (e : Env) (s : State) (m : MethodId) (below : List Frame) (meth : Method) (c : Code) (b : Nat) (Q : State → Prop) (D : va_G) (o ad om am : Nat → Nat) (oa : Nat) (cI cZ cG cJ : ClassId) (i cells slots : Nat) : Prop :=
  ∀ (t q y : Nat) (pq : Option Nat) (u n b0 : Nat) (isw oR : Nat → Int32) (mem memM : xMem) (th ptv wy : Int32) (f : Nat → Int64) (H : Heap) (locs : List Loc) (ls : Array Slot) (cells2 slots2 : Nat), LK t q y pq u isw mem memM → va_P D vwCl (lwW o ad om am oa cI cZ cG cJ t q y pq u n b0 isw oR mem memM th ptv wy f) H → va_D (lwA s) (lwW o ad om am oa cI cZ cG cJ t q y pq u n b0 isw oR mem memM th ptv wy f) → va_S (lwA s) s.heap H locs →
    lv_has ls 7 [(0, .ref b), (1, .ref (o 0)), (2, .ref (om 0)), (3, .ref oa), (4, .int (nI i))] → cells2 ≤ cells + 3 → slots2 ≤ slots + 18 → W p l e room_1 s m #[Value.ref b] below meth c H locs cells2 slots2 Q (F0 m 1201 ls [])
set_option maxHeartbeats 4000000 in
set_option maxRecDepth 100000 in
theorem law_root {p : Program} {l : Launch} {e : Env} {s : State} {m : MethodId} {below : List Frame} {meth : Method} {c : Code} {b L i cells slots : Nat} {xs : Nat → Int32} {D : va_G} {o ad om am : Nat → Nat} {oa : Nat} {cI cZ cG cJ : ClassId} {Q : State → Prop} {t q y u n b0 : Nat} {pq : Option Nat} {isw oR : Nat → Int32} {mem memM : xMem} {th ptv wy : Int32} {f : Nat → Int64} {H : Heap} {locs : List Loc} {ls : Array Slot} (hC : lawX p l s m meth c b L xs D cI cZ cG cJ) (hk : LK t q y pq u isw mem memM) (hP : va_P D vwCl (lwW o ad om am oa cI cZ cG cJ t q y pq u n b0 isw oR mem memM th ptv wy f) H) (hD : va_D (lwA s) (lwW o ad om am oa cI cZ cG cJ t q y pq u n b0 isw oR mem memM th ptv wy f)) (hS : va_S (lwA s) s.heap H locs) (hl : lv_has ls 7 [(0, .ref b), (1, .ref (o 0)), (2, .ref (om 0)), (3, .ref oa), (4, .int (nI i))]) (hi : i + 7 ≤ L) (hc1 : cells + 3 ≤ 601024) (hc2 : slots + 18 ≤ 7293033) (kk : lawK p l e s m below meth c b Q D o ad om am oa cI cZ cG cJ i cells slots) : W p l e room_1 s m #[Value.ref b] below meth c H locs cells slots Q (F0 m 304 ls []) := by
  obtain ⟨hx, hb, hml, hown, hW, hXs, hbl, hK, hT, hl0, hL⟩ := hC
  have hA : ∀ q : Nat, s.heap.size ≤ q → lwA s q := fun _ h => h
  have hq24 := hk.q24
  have hy12 := hk.y12
  have ht200 := hk.t200
  have hP : va_P D vwCl (((wC o ad cI cZ cG (nI t) (nI q) (nI u) (nI y) (pnC pq) (nI n) isw mem) ++ wO oa cJ f) ++ wM om am cI cZ th (nI t) (nI q) (nI y) (pvC pq) (nI (pq.getD 0)) (nI b0) ptv wy isw oR memM) H := hP
  have hD : va_D (lwA s) (((wC o ad cI cZ cG (nI t) (nI q) (nI u) (nI y) (pnC pq) (nI n) isw mem) ++ wO oa cJ f) ++ wM om am cI cZ th (nI t) (nI q) (nI y) (pvC pq) (nI (pq.getD 0)) (nI b0) ptv wy isw oR memM) := hD
  rcases hX : (x_req (xs (i + 1)) (nI y)).or (x_req (xs (i + 2)) (nI 32)) with _ | nm
  · obtain ⟨g1, g2⟩ := x_or_none hX
    obtain ⟨d, hd, hv⟩ := x_req_none (by omega) g1
    obtain ⟨j, hj, hu⟩ := x_req_none (by decide) g2
    rw [hv, hu] at hX
    refine lv_aload_n hx hb dL_law_304 rfl (lv_at hl 1 rfl) ?_
    refine lv_aload_n hx hb dL_law_305 rfl (lv_at hl 0 rfl) ?_
    refine lv_iload hx hb dL_law_306 (lv_at hl 4 rfl) ?_
    refine lv_iconst (v := nI 1) hx hb dL_law_308 (by decide) ?_
    refine lv_iadd hx hb dL_law_309 ?_
    refine lv_eqi (v := nI (i + 1)) (nI_add _ _) ?_
    refine va_sld hx hb hXs hbl (Nat.not_le.mpr hbl) hS (vp_in_nI (show i + 1 < L by omega) (by omega)) dL_law_310 ?_
    refine lv_eqi (v := nI d) (by rw [nI_clamp (by omega)]; exact hv) ?_
    refine lv_aload_n hx hb dL_law_311 rfl (lv_at hl 0 rfl) ?_
    refine lv_iload hx hb dL_law_312 (lv_at hl 4 rfl) ?_
    refine lv_iconst (v := nI 2) hx hb dL_law_314 (by decide) ?_
    refine lv_iadd hx hb dL_law_315 ?_
    refine lv_eqi (v := nI (i + 2)) (nI_add _ _) ?_
    refine va_sld hx hb hXs hbl (Nat.not_le.mpr hbl) hS (vp_in_nI (show i + 2 < L by omega) (by omega)) dL_law_316 ?_
    refine lv_eqi (v := nI j) (by rw [nI_clamp (by omega)]; exact hu) ?_
    refine lv_aload_n hx hb dL_law_317 rfl (lv_at hl 3 rfl) ?_
    refine tw_frS (As := [.ref (o 0), .int (nI d), .int (nI j), .ref oa]) (rest := []) ⟨hx, hb, hml, hown, hW⟩ (w_root_ok hl0 oa f y hk.y12 (nI d) (nI j) (nI n) mem hX) lE_ok (xw_cw 4 hW tw_261 tw_262 tw_0 tw_263 rfl rfl (by decide +kernel) ⟨Nat.le_of_ble_eq_true rfl, Nat.le_of_ble_eq_true rfl⟩) hP hD hK hS hA hT rfl hl.1 rfl (Nat.le_of_ble_eq_true rfl) dL_law_318 ⟨hc1, hc2⟩ (fun H locs hP hD hS => ?_)
    have hP : va_P D vwCl (((wC o ad cI cZ cG (nI t) (nI q) (nI u) (nI y) (pnC pq) (nI n) isw mem) ++ wO oa cJ (vp_updL f 0 ((mem (30 + tn (nI d)) (tn (nI j))).toInt64))) ++ wM om am cI cZ th (nI t) (nI q) (nI y) (pvC pq) (nI (pq.getD 0)) (nI b0) ptv wy isw oR memM) H := hP
    have hD : va_D (lwA s) (((wC o ad cI cZ cG (nI t) (nI q) (nI u) (nI y) (pnC pq) (nI n) isw mem) ++ wO oa cJ (vp_updL f 0 ((mem (30 + tn (nI d)) (tn (nI j))).toInt64))) ++ wM om am cI cZ th (nI t) (nI q) (nI y) (pvC pq) (nI (pq.getD 0)) (nI b0) ptv wy isw oR memM) := hD
    refine lv_istore (lv' := [(5, .int (nI 0)), (0, .ref b), (1, .ref (o 0)), (2, .ref (om 0)), (3, .ref oa), (4, .int (nI i))]) hx hb dL_law_321 hl (by decide) rfl (fun ls hl => ?_)
    refine lv_aload_n hx hb dL_law_323 rfl (lv_at hl 3 rfl) ?_
    refine lv_aload_n hx hb dL_law_324 rfl (lv_at hl 1 rfl) ?_
    refine lv_iload hx hb dL_law_325 (lv_at hl 5 rfl) ?_
    refine lv_iconst (v := nI 1) hx hb dL_law_327 (by decide) ?_
    refine lv_iadd hx hb dL_law_328 ?_
    refine lv_eqi (v := nI (i + 1)) (nI_add _ _) ?_
    refine va_sld hx hb hXs hbl (Nat.not_le.mpr hbl) hS (vp_in_nI (show i + 1 < L by omega) (by omega)) dL_law_329 ?_
    refine lv_eqi (v := nI d) (by rw [nI_clamp (by omega)]; exact hv) ?_
    refine lv_aload_n hx hb dL_law_330 rfl (lv_at hl 1 rfl) ?_
    refine lv_iload hx hb dL_law_331 (lv_at hl 5 rfl) ?_
    refine lv_iconst (v := nI 2) hx hb dL_law_333 (by decide) ?_
    refine lv_iadd hx hb dL_law_334 ?_
    refine lv_eqi (v := nI (i + 2)) (nI_add _ _) ?_
    refine va_sld hx hb hXs hbl (Nat.not_le.mpr hbl) hS (vp_in_nI (show i + 2 < L by omega) (by omega)) dL_law_335 ?_
    refine lv_eqi (v := nI j) (by rw [nI_clamp (by omega)]; exact hu) ?_
    have hP := va_P_sw hP
    have hD := va_D_sw hD
    refine mi_frV (C := RX2) (As := [.int (nI d), .int (nI j)]) (rest := []) ⟨hx, hb, hml, hown, hW⟩ (n_root y d j hk.y12 hd hj memM) nE_ok (cwV 2 hW (gV tw_661 tw_662 tw_663 tw_3 tw_664) rfl rfl rfl (by decide +kernel) ⟨Nat.le_of_ble_eq_true rfl, Nat.le_of_ble_eq_true rfl⟩) (va_recv hK hP (ci := 2) (q0 := 0) rfl rfl) hP hD (va_K.sub hK [0, 1, 2] rfl) hS hA trivial rfl hl.1 rfl (Nat.le_of_ble_eq_true rfl) dL_law_336 ⟨hc1, hc2⟩ (fun H locs hP hD hS => ?_)
    have hP := va_P_sw hP
    have hD := va_D_sw hD
    have hP : va_P D vwCl (((wC o ad cI cZ cG (nI t) (nI q) (nI u) (nI y) (pnC pq) (nI n) isw mem) ++ wO oa cJ (vp_updL f 0 ((mem (30 + tn (nI d)) (tn (nI j))).toInt64))) ++ wM om am cI cZ (nI 0) (nI t) (nI q) (nI y) (pvC pq) (nI (pq.getD 0)) (nI b0) ptv wy isw oR memM) H := hP
    have hD : va_D (lwA s) (((wC o ad cI cZ cG (nI t) (nI q) (nI u) (nI y) (pnC pq) (nI n) isw mem) ++ wO oa cJ (vp_updL f 0 ((mem (30 + tn (nI d)) (tn (nI j))).toInt64))) ++ wM om am cI cZ (nI 0) (nI t) (nI q) (nI y) (pvC pq) (nI (pq.getD 0)) (nI b0) ptv wy isw oR memM) := hD
    refine lv_istore (lv' := [(6, .int (memM 7 (32 * d + j))), (5, .int (nI 0)), (0, .ref b), (1, .ref (o 0)), (2, .ref (om 0)), (3, .ref oa), (4, .int (nI i))]) hx hb dL_law_339 hl (by decide) rfl (fun ls hl => ?_)
    refine lv_aload_n hx hb dL_law_341 rfl (lv_at hl 4 rfl) ?_
    have hP := va_P_sw hP
    have hD := va_D_sw hD
    refine mi_frV (C := RX2) (As := []) (rest := []) ⟨hx, hb, hml, hown, hW⟩ (n_thrown memM) nE_ok (cwV 0 hW (gV tw_590 tw_591 tw_592 tw_3 tw_593) rfl rfl rfl (by decide +kernel) ⟨Nat.le_of_ble_eq_true rfl, Nat.le_of_ble_eq_true rfl⟩) (va_recv hK hP (ci := 2) (q0 := 0) rfl rfl) hP hD (va_K.sub hK [0, 1, 2] rfl) hS hA trivial rfl hl.1 rfl (Nat.le_of_ble_eq_true rfl) dL_law_342 ⟨hc1, hc2⟩ (fun H locs hP hD hS => ?_)
    have hP := va_P_sw hP
    have hD := va_D_sw hD
    refine lv_eqi (v := nI 0) (rfl) ?_
    refine lv_iload hx hb dL_law_345 (lv_at hl 1 rfl) ?_
    refine lv_icmp_eq (tgt := 352) hx hb dL_law_347 (by decide) (fun _ => ?_) (fun h9 => absurd rfl h9)
    refine lv_iload hx hb dL_law_352 (lv_at hl 1 rfl) ?_
    refine lv_if_ne (tgt := 369) hx hb dL_law_354 (by decide) (fun h9 => absurd (show nI 0 = (0 : Int32) from rfl) h9) (fun _ => ?_)
    refine lv_aload_n hx hb dL_law_357 rfl (lv_at hl 5 rfl) ?_
    refine lv_iconst (v := nI 0) hx hb dL_law_358 (by decide) ?_
    refine va_lald hx hb hK (va_P_right (va_P_left hP)) 0 3 rfl rfl (vp_in_nI (show 0 < 1 by decide) (by decide)) dL_law_359 ?_
    refine lv_eql (v := (memM 7 (32 * d + j)).toInt64) (by rw [updL_0, show mem (30 + tn (nI d)) (tn (nI j)) = memM 7 (32 * d + j) by rw [tn_nI (by omega), tn_nI (by omega)]; exact hk.rt d hd j hj]) ?_
    refine lv_iload hx hb dL_law_360 (lv_at hl 0 rfl) ?_
    refine lv_i2l (v := (memM 7 (32 * d + j)).toInt64) hx hb dL_law_362 rfl ?_
    refine W.lcmp hx hb dL_law_363 ?_
    refine lv_eqi (v := nI 0) (lcmp_self _) ?_
    refine lv_if_eq (tgt := 369) hx hb dL_law_364 (by decide) (fun _ => ?_) (fun h9 => absurd (show nI 0 = (0 : Int32) from rfl) h9)
    refine lv_goto (tgt := 1201) hx hb dL_law_369 (by decide) ?_
    exact kk t q y pq u n b0 isw oR mem memM (nI 0) ptv wy (vp_updL f 0 ((mem (30 + tn (nI d)) (tn (nI j))).toInt64)) H locs ls _ _ hk hP hD hS (lv_sub hl [2, 3, 4, 5, 6] rfl) (Nat.le_refl _) (Nat.le_refl _)
  · have hcd : nm = nIOB := ((x_or_some hX).elim (fun h1 => (x_req_some h1)) (fun h1 => (x_req_some h1.2)))
    subst hcd
    refine lv_aload_n hx hb dL_law_304 rfl (lv_at hl 1 rfl) ?_
    refine lv_aload_n hx hb dL_law_305 rfl (lv_at hl 0 rfl) ?_
    refine lv_iload hx hb dL_law_306 (lv_at hl 4 rfl) ?_
    refine lv_iconst (v := nI 1) hx hb dL_law_308 (by decide) ?_
    refine lv_iadd hx hb dL_law_309 ?_
    refine lv_eqi (v := nI (i + 1)) (nI_add _ _) ?_
    refine va_sld hx hb hXs hbl (Nat.not_le.mpr hbl) hS (vp_in_nI (show i + 1 < L by omega) (by omega)) dL_law_310 ?_
    refine lv_eqi (v := xs (i + 1)) (by rw [nI_clamp (by omega)]) ?_
    refine lv_aload_n hx hb dL_law_311 rfl (lv_at hl 0 rfl) ?_
    refine lv_iload hx hb dL_law_312 (lv_at hl 4 rfl) ?_
    refine lv_iconst (v := nI 2) hx hb dL_law_314 (by decide) ?_
    refine lv_iadd hx hb dL_law_315 ?_
    refine lv_eqi (v := nI (i + 2)) (nI_add _ _) ?_
    refine va_sld hx hb hXs hbl (Nat.not_le.mpr hbl) hS (vp_in_nI (show i + 2 < L by omega) (by omega)) dL_law_316 ?_
    refine lv_eqi (v := xs (i + 2)) (by rw [nI_clamp (by omega)]) ?_
    refine lv_aload_n hx hb dL_law_317 rfl (lv_at hl 3 rfl) ?_
    refine tw_frS (As := [.ref (o 0), .int (xs (i + 1)), .int (xs (i + 2)), .ref oa]) (rest := []) ⟨hx, hb, hml, hown, hW⟩ (w_root_1 hl0 oa f y hk.y12 (xs (i + 1)) (xs (i + 2)) (nI n) mem hX) lE_ok (xw_cw 4 hW tw_261 tw_262 tw_0 tw_263 rfl rfl (by decide +kernel) ⟨Nat.le_of_ble_eq_true rfl, Nat.le_of_ble_eq_true rfl⟩) hP hD hK hS hA hT rfl hl.1 rfl (Nat.le_of_ble_eq_true rfl) dL_law_318 ⟨hc1, hc2⟩ (fun H locs hP hD hS => ?_)
    have hP : va_P D vwCl (((wC o ad cI cZ cG (nI t) (nI q) (nI u) (nI y) (pnC pq) (nI n) isw mem) ++ wO oa cJ f) ++ wM om am cI cZ th (nI t) (nI q) (nI y) (pvC pq) (nI (pq.getD 0)) (nI b0) ptv wy isw oR memM) H := hP
    have hD : va_D (lwA s) (((wC o ad cI cZ cG (nI t) (nI q) (nI u) (nI y) (pnC pq) (nI n) isw mem) ++ wO oa cJ f) ++ wM om am cI cZ th (nI t) (nI q) (nI y) (pvC pq) (nI (pq.getD 0)) (nI b0) ptv wy isw oR memM) := hD
    refine lv_istore (lv' := [(5, .int (nI 1)), (0, .ref b), (1, .ref (o 0)), (2, .ref (om 0)), (3, .ref oa), (4, .int (nI i))]) hx hb dL_law_321 hl (by decide) rfl (fun ls hl => ?_)
    refine lv_aload_n hx hb dL_law_323 rfl (lv_at hl 3 rfl) ?_
    refine lv_aload_n hx hb dL_law_324 rfl (lv_at hl 1 rfl) ?_
    refine lv_iload hx hb dL_law_325 (lv_at hl 5 rfl) ?_
    refine lv_iconst (v := nI 1) hx hb dL_law_327 (by decide) ?_
    refine lv_iadd hx hb dL_law_328 ?_
    refine lv_eqi (v := nI (i + 1)) (nI_add _ _) ?_
    refine va_sld hx hb hXs hbl (Nat.not_le.mpr hbl) hS (vp_in_nI (show i + 1 < L by omega) (by omega)) dL_law_329 ?_
    refine lv_eqi (v := xs (i + 1)) (by rw [nI_clamp (by omega)]) ?_
    refine lv_aload_n hx hb dL_law_330 rfl (lv_at hl 1 rfl) ?_
    refine lv_iload hx hb dL_law_331 (lv_at hl 5 rfl) ?_
    refine lv_iconst (v := nI 2) hx hb dL_law_333 (by decide) ?_
    refine lv_iadd hx hb dL_law_334 ?_
    refine lv_eqi (v := nI (i + 2)) (nI_add _ _) ?_
    refine va_sld hx hb hXs hbl (Nat.not_le.mpr hbl) hS (vp_in_nI (show i + 2 < L by omega) (by omega)) dL_law_335 ?_
    refine lv_eqi (v := xs (i + 2)) (by rw [nI_clamp (by omega)]) ?_
    have hP := va_P_sw hP
    have hD := va_D_sw hD
    refine mi_frV (C := RX2) (As := [.int (xs (i + 1)), .int (xs (i + 2))]) (rest := []) ⟨hx, hb, hml, hown, hW⟩ (n_root_no y hk.y12 (xs (i + 1)) (xs (i + 2)) memM _ hX) nE_ok (cwV 2 hW (gV tw_661 tw_662 tw_663 tw_3 tw_664) rfl rfl rfl (by decide +kernel) ⟨Nat.le_of_ble_eq_true rfl, Nat.le_of_ble_eq_true rfl⟩) (va_recv hK hP (ci := 2) (q0 := 0) rfl rfl) hP hD (va_K.sub hK [0, 1, 2] rfl) hS hA trivial rfl hl.1 rfl (Nat.le_of_ble_eq_true rfl) dL_law_336 ⟨hc1, hc2⟩ (fun H locs hP hD hS => ?_)
    have hP := va_P_sw hP
    have hD := va_D_sw hD
    have hP : va_P D vwCl (((wC o ad cI cZ cG (nI t) (nI q) (nI u) (nI y) (pnC pq) (nI n) isw mem) ++ wO oa cJ f) ++ wM om am cI cZ (cdL [nIOB] nIOB) (nI t) (nI q) (nI y) (pvC pq) (nI (pq.getD 0)) (nI b0) ptv wy isw oR memM) H := hP
    have hD : va_D (lwA s) (((wC o ad cI cZ cG (nI t) (nI q) (nI u) (nI y) (pnC pq) (nI n) isw mem) ++ wO oa cJ f) ++ wM om am cI cZ (cdL [nIOB] nIOB) (nI t) (nI q) (nI y) (pvC pq) (nI (pq.getD 0)) (nI b0) ptv wy isw oR memM) := hD
    refine lv_istore (lv' := [(6, .int (nI 0)), (5, .int (nI 1)), (0, .ref b), (1, .ref (o 0)), (2, .ref (om 0)), (3, .ref oa), (4, .int (nI i))]) hx hb dL_law_339 hl (by decide) rfl (fun ls hl => ?_)
    refine lv_aload_n hx hb dL_law_341 rfl (lv_at hl 4 rfl) ?_
    have hP := va_P_sw hP
    have hD := va_D_sw hD
    refine mi_frV (C := RX2) (As := []) (rest := []) ⟨hx, hb, hml, hown, hW⟩ (n_thrown memM) nE_ok (cwV 0 hW (gV tw_590 tw_591 tw_592 tw_3 tw_593) rfl rfl rfl (by decide +kernel) ⟨Nat.le_of_ble_eq_true rfl, Nat.le_of_ble_eq_true rfl⟩) (va_recv hK hP (ci := 2) (q0 := 0) rfl rfl) hP hD (va_K.sub hK [0, 1, 2] rfl) hS hA trivial rfl hl.1 rfl (Nat.le_of_ble_eq_true rfl) dL_law_342 ⟨hc1, hc2⟩ (fun H locs hP hD hS => ?_)
    have hP := va_P_sw hP
    have hD := va_D_sw hD
    refine lv_eqi (v := nI 1) (by decide +kernel) ?_
    refine lv_iload hx hb dL_law_345 (lv_at hl 1 rfl) ?_
    refine lv_icmp_eq (tgt := 352) hx hb dL_law_347 (by decide) (fun _ => ?_) (fun h9 => absurd rfl h9)
    refine lv_iload hx hb dL_law_352 (lv_at hl 1 rfl) ?_
    refine lv_if_ne (tgt := 369) hx hb dL_law_354 (by decide) (fun _ => ?_) (fun h9 => absurd h9 (by decide))
    refine lv_goto (tgt := 1201) hx hb dL_law_369 (by decide) ?_
    exact kk t q y pq u n b0 isw oR mem memM (cdL [nIOB] nIOB) ptv wy f H locs ls _ _ hk hP hD hS (lv_sub hl [2, 3, 4, 5, 6] rfl) (Nat.le_refl _) (Nat.le_refl _)
set_option maxHeartbeats 4000000 in
set_option maxRecDepth 100000 in
theorem law_digest {p : Program} {l : Launch} {e : Env} {s : State} {m : MethodId} {below : List Frame} {meth : Method} {c : Code} {b L i cells slots : Nat} {xs : Nat → Int32} {D : va_G} {o ad om am : Nat → Nat} {oa : Nat} {cI cZ cG cJ : ClassId} {Q : State → Prop} {t q y u n b0 : Nat} {pq : Option Nat} {isw oR : Nat → Int32} {mem memM : xMem} {th ptv wy : Int32} {f : Nat → Int64} {H : Heap} {locs : List Loc} {ls : Array Slot} (hC : lawX p l s m meth c b L xs D cI cZ cG cJ) (hk : LK t q y pq u isw mem memM) (hP : va_P D vwCl (lwW o ad om am oa cI cZ cG cJ t q y pq u n b0 isw oR mem memM th ptv wy f) H) (hD : va_D (lwA s) (lwW o ad om am oa cI cZ cG cJ t q y pq u n b0 isw oR mem memM th ptv wy f)) (hS : va_S (lwA s) s.heap H locs) (hl : lv_has ls 7 [(0, .ref b), (1, .ref (o 0)), (2, .ref (om 0)), (3, .ref oa), (4, .int (nI i))]) (hi : i + 7 ≤ L) (hc1 : cells + 3 ≤ 601024) (hc2 : slots + 18 ≤ 7293033) (kk : lawK p l e s m below meth c b Q D o ad om am oa cI cZ cG cJ i cells slots) : W p l e room_1 s m #[Value.ref b] below meth c H locs cells slots Q (F0 m 372 ls []) := by
  obtain ⟨hx, hb, hml, hown, hW, hXs, hbl, hK, hT, hl0, hL⟩ := hC
  have hA : ∀ q : Nat, s.heap.size ≤ q → lwA s q := fun _ h => h
  have hq24 := hk.q24
  have hy12 := hk.y12
  have ht200 := hk.t200
  have hP : va_P D vwCl (((wC o ad cI cZ cG (nI t) (nI q) (nI u) (nI y) (pnC pq) (nI n) isw mem) ++ wO oa cJ f) ++ wM om am cI cZ th (nI t) (nI q) (nI y) (pvC pq) (nI (pq.getD 0)) (nI b0) ptv wy isw oR memM) H := hP
  have hD : va_D (lwA s) (((wC o ad cI cZ cG (nI t) (nI q) (nI u) (nI y) (pnC pq) (nI n) isw mem) ++ wO oa cJ f) ++ wM om am cI cZ th (nI t) (nI q) (nI y) (pvC pq) (nI (pq.getD 0)) (nI b0) ptv wy isw oR memM) := hD
  rcases hX : (x_req (xs (i + 1)) (nI q)).or (x_req (xs (i + 2)) (nI 32)) with _ | nm
  · obtain ⟨g1, g2⟩ := x_or_none hX
    obtain ⟨d, hd, hv⟩ := x_req_none (by omega) g1
    obtain ⟨j, hj, hu⟩ := x_req_none (by decide) g2
    rw [hv, hu] at hX
    refine lv_aload_n hx hb dL_law_372 rfl (lv_at hl 1 rfl) ?_
    refine lv_aload_n hx hb dL_law_373 rfl (lv_at hl 0 rfl) ?_
    refine lv_iload hx hb dL_law_374 (lv_at hl 4 rfl) ?_
    refine lv_iconst (v := nI 1) hx hb dL_law_376 (by decide) ?_
    refine lv_iadd hx hb dL_law_377 ?_
    refine lv_eqi (v := nI (i + 1)) (nI_add _ _) ?_
    refine va_sld hx hb hXs hbl (Nat.not_le.mpr hbl) hS (vp_in_nI (show i + 1 < L by omega) (by omega)) dL_law_378 ?_
    refine lv_eqi (v := nI d) (by rw [nI_clamp (by omega)]; exact hv) ?_
    refine lv_aload_n hx hb dL_law_379 rfl (lv_at hl 0 rfl) ?_
    refine lv_iload hx hb dL_law_380 (lv_at hl 4 rfl) ?_
    refine lv_iconst (v := nI 2) hx hb dL_law_382 (by decide) ?_
    refine lv_iadd hx hb dL_law_383 ?_
    refine lv_eqi (v := nI (i + 2)) (nI_add _ _) ?_
    refine va_sld hx hb hXs hbl (Nat.not_le.mpr hbl) hS (vp_in_nI (show i + 2 < L by omega) (by omega)) dL_law_384 ?_
    refine lv_eqi (v := nI j) (by rw [nI_clamp (by omega)]; exact hu) ?_
    refine lv_aload_n hx hb dL_law_385 rfl (lv_at hl 3 rfl) ?_
    refine tw_frS (As := [.ref (o 0), .int (nI d), .int (nI j), .ref oa]) (rest := []) ⟨hx, hb, hml, hown, hW⟩ (w_digest_ok hl0 oa f q hk.q24 (nI d) (nI j) (nI n) mem hX) lE_ok (xw_cw 4 hW tw_293 tw_294 tw_0 tw_295 rfl rfl (by decide +kernel) ⟨Nat.le_of_ble_eq_true rfl, Nat.le_of_ble_eq_true rfl⟩) hP hD hK hS hA hT rfl hl.1 rfl (Nat.le_of_ble_eq_true rfl) dL_law_386 ⟨hc1, hc2⟩ (fun H locs hP hD hS => ?_)
    have hP : va_P D vwCl (((wC o ad cI cZ cG (nI t) (nI q) (nI u) (nI y) (pnC pq) (nI n) isw mem) ++ wO oa cJ (vp_updL f 0 ((mem (6 + tn (nI d)) (tn (nI j))).toInt64))) ++ wM om am cI cZ th (nI t) (nI q) (nI y) (pvC pq) (nI (pq.getD 0)) (nI b0) ptv wy isw oR memM) H := hP
    have hD : va_D (lwA s) (((wC o ad cI cZ cG (nI t) (nI q) (nI u) (nI y) (pnC pq) (nI n) isw mem) ++ wO oa cJ (vp_updL f 0 ((mem (6 + tn (nI d)) (tn (nI j))).toInt64))) ++ wM om am cI cZ th (nI t) (nI q) (nI y) (pvC pq) (nI (pq.getD 0)) (nI b0) ptv wy isw oR memM) := hD
    refine lv_istore (lv' := [(5, .int (nI 0)), (0, .ref b), (1, .ref (o 0)), (2, .ref (om 0)), (3, .ref oa), (4, .int (nI i))]) hx hb dL_law_389 hl (by decide) rfl (fun ls hl => ?_)
    refine lv_aload_n hx hb dL_law_391 rfl (lv_at hl 3 rfl) ?_
    refine lv_aload_n hx hb dL_law_392 rfl (lv_at hl 1 rfl) ?_
    refine lv_iload hx hb dL_law_393 (lv_at hl 5 rfl) ?_
    refine lv_iconst (v := nI 1) hx hb dL_law_395 (by decide) ?_
    refine lv_iadd hx hb dL_law_396 ?_
    refine lv_eqi (v := nI (i + 1)) (nI_add _ _) ?_
    refine va_sld hx hb hXs hbl (Nat.not_le.mpr hbl) hS (vp_in_nI (show i + 1 < L by omega) (by omega)) dL_law_397 ?_
    refine lv_eqi (v := nI d) (by rw [nI_clamp (by omega)]; exact hv) ?_
    refine lv_aload_n hx hb dL_law_398 rfl (lv_at hl 1 rfl) ?_
    refine lv_iload hx hb dL_law_399 (lv_at hl 5 rfl) ?_
    refine lv_iconst (v := nI 2) hx hb dL_law_401 (by decide) ?_
    refine lv_iadd hx hb dL_law_402 ?_
    refine lv_eqi (v := nI (i + 2)) (nI_add _ _) ?_
    refine va_sld hx hb hXs hbl (Nat.not_le.mpr hbl) hS (vp_in_nI (show i + 2 < L by omega) (by omega)) dL_law_403 ?_
    refine lv_eqi (v := nI j) (by rw [nI_clamp (by omega)]; exact hu) ?_
    have hP := va_P_sw hP
    have hD := va_D_sw hD
    refine mi_frV (C := RX2) (As := [.int (nI d), .int (nI j)]) (rest := []) ⟨hx, hb, hml, hown, hW⟩ (n_digest q d j hk.q24 hd hj memM) nE_ok (cwV 2 hW (gV tw_672 tw_673 tw_674 tw_3 tw_675) rfl rfl rfl (by decide +kernel) ⟨Nat.le_of_ble_eq_true rfl, Nat.le_of_ble_eq_true rfl⟩) (va_recv hK hP (ci := 2) (q0 := 0) rfl rfl) hP hD (va_K.sub hK [0, 1, 2] rfl) hS hA trivial rfl hl.1 rfl (Nat.le_of_ble_eq_true rfl) dL_law_404 ⟨hc1, hc2⟩ (fun H locs hP hD hS => ?_)
    have hP := va_P_sw hP
    have hD := va_D_sw hD
    have hP : va_P D vwCl (((wC o ad cI cZ cG (nI t) (nI q) (nI u) (nI y) (pnC pq) (nI n) isw mem) ++ wO oa cJ (vp_updL f 0 ((mem (6 + tn (nI d)) (tn (nI j))).toInt64))) ++ wM om am cI cZ (nI 0) (nI t) (nI q) (nI y) (pvC pq) (nI (pq.getD 0)) (nI b0) ptv wy isw oR memM) H := hP
    have hD : va_D (lwA s) (((wC o ad cI cZ cG (nI t) (nI q) (nI u) (nI y) (pnC pq) (nI n) isw mem) ++ wO oa cJ (vp_updL f 0 ((mem (6 + tn (nI d)) (tn (nI j))).toInt64))) ++ wM om am cI cZ (nI 0) (nI t) (nI q) (nI y) (pvC pq) (nI (pq.getD 0)) (nI b0) ptv wy isw oR memM) := hD
    refine lv_istore (lv' := [(6, .int (memM 6 (32 * d + j))), (5, .int (nI 0)), (0, .ref b), (1, .ref (o 0)), (2, .ref (om 0)), (3, .ref oa), (4, .int (nI i))]) hx hb dL_law_407 hl (by decide) rfl (fun ls hl => ?_)
    refine lv_aload_n hx hb dL_law_409 rfl (lv_at hl 4 rfl) ?_
    have hP := va_P_sw hP
    have hD := va_D_sw hD
    refine mi_frV (C := RX2) (As := []) (rest := []) ⟨hx, hb, hml, hown, hW⟩ (n_thrown memM) nE_ok (cwV 0 hW (gV tw_590 tw_591 tw_592 tw_3 tw_593) rfl rfl rfl (by decide +kernel) ⟨Nat.le_of_ble_eq_true rfl, Nat.le_of_ble_eq_true rfl⟩) (va_recv hK hP (ci := 2) (q0 := 0) rfl rfl) hP hD (va_K.sub hK [0, 1, 2] rfl) hS hA trivial rfl hl.1 rfl (Nat.le_of_ble_eq_true rfl) dL_law_410 ⟨hc1, hc2⟩ (fun H locs hP hD hS => ?_)
    have hP := va_P_sw hP
    have hD := va_D_sw hD
    refine lv_eqi (v := nI 0) (rfl) ?_
    refine lv_iload hx hb dL_law_413 (lv_at hl 1 rfl) ?_
    refine lv_icmp_eq (tgt := 420) hx hb dL_law_415 (by decide) (fun _ => ?_) (fun h9 => absurd rfl h9)
    refine lv_iload hx hb dL_law_420 (lv_at hl 1 rfl) ?_
    refine lv_if_ne (tgt := 437) hx hb dL_law_422 (by decide) (fun h9 => absurd (show nI 0 = (0 : Int32) from rfl) h9) (fun _ => ?_)
    refine lv_aload_n hx hb dL_law_425 rfl (lv_at hl 5 rfl) ?_
    refine lv_iconst (v := nI 0) hx hb dL_law_426 (by decide) ?_
    refine va_lald hx hb hK (va_P_right (va_P_left hP)) 0 3 rfl rfl (vp_in_nI (show 0 < 1 by decide) (by decide)) dL_law_427 ?_
    refine lv_eql (v := (memM 6 (32 * d + j)).toInt64) (by rw [updL_0, show mem (6 + tn (nI d)) (tn (nI j)) = memM 6 (32 * d + j) by rw [tn_nI (by omega), tn_nI (by omega)]; exact hk.lf d hd j hj]) ?_
    refine lv_iload hx hb dL_law_428 (lv_at hl 0 rfl) ?_
    refine lv_i2l (v := (memM 6 (32 * d + j)).toInt64) hx hb dL_law_430 rfl ?_
    refine W.lcmp hx hb dL_law_431 ?_
    refine lv_eqi (v := nI 0) (lcmp_self _) ?_
    refine lv_if_eq (tgt := 437) hx hb dL_law_432 (by decide) (fun _ => ?_) (fun h9 => absurd (show nI 0 = (0 : Int32) from rfl) h9)
    refine lv_goto (tgt := 1201) hx hb dL_law_437 (by decide) ?_
    exact kk t q y pq u n b0 isw oR mem memM (nI 0) ptv wy (vp_updL f 0 ((mem (6 + tn (nI d)) (tn (nI j))).toInt64)) H locs ls _ _ hk hP hD hS (lv_sub hl [2, 3, 4, 5, 6] rfl) (Nat.le_refl _) (Nat.le_refl _)
  · have hcd : nm = nIOB := ((x_or_some hX).elim (fun h1 => (x_req_some h1)) (fun h1 => (x_req_some h1.2)))
    subst hcd
    refine lv_aload_n hx hb dL_law_372 rfl (lv_at hl 1 rfl) ?_
    refine lv_aload_n hx hb dL_law_373 rfl (lv_at hl 0 rfl) ?_
    refine lv_iload hx hb dL_law_374 (lv_at hl 4 rfl) ?_
    refine lv_iconst (v := nI 1) hx hb dL_law_376 (by decide) ?_
    refine lv_iadd hx hb dL_law_377 ?_
    refine lv_eqi (v := nI (i + 1)) (nI_add _ _) ?_
    refine va_sld hx hb hXs hbl (Nat.not_le.mpr hbl) hS (vp_in_nI (show i + 1 < L by omega) (by omega)) dL_law_378 ?_
    refine lv_eqi (v := xs (i + 1)) (by rw [nI_clamp (by omega)]) ?_
    refine lv_aload_n hx hb dL_law_379 rfl (lv_at hl 0 rfl) ?_
    refine lv_iload hx hb dL_law_380 (lv_at hl 4 rfl) ?_
    refine lv_iconst (v := nI 2) hx hb dL_law_382 (by decide) ?_
    refine lv_iadd hx hb dL_law_383 ?_
    refine lv_eqi (v := nI (i + 2)) (nI_add _ _) ?_
    refine va_sld hx hb hXs hbl (Nat.not_le.mpr hbl) hS (vp_in_nI (show i + 2 < L by omega) (by omega)) dL_law_384 ?_
    refine lv_eqi (v := xs (i + 2)) (by rw [nI_clamp (by omega)]) ?_
    refine lv_aload_n hx hb dL_law_385 rfl (lv_at hl 3 rfl) ?_
    refine tw_frS (As := [.ref (o 0), .int (xs (i + 1)), .int (xs (i + 2)), .ref oa]) (rest := []) ⟨hx, hb, hml, hown, hW⟩ (w_digest_1 hl0 oa f q hk.q24 (xs (i + 1)) (xs (i + 2)) (nI n) mem hX) lE_ok (xw_cw 4 hW tw_293 tw_294 tw_0 tw_295 rfl rfl (by decide +kernel) ⟨Nat.le_of_ble_eq_true rfl, Nat.le_of_ble_eq_true rfl⟩) hP hD hK hS hA hT rfl hl.1 rfl (Nat.le_of_ble_eq_true rfl) dL_law_386 ⟨hc1, hc2⟩ (fun H locs hP hD hS => ?_)
    have hP : va_P D vwCl (((wC o ad cI cZ cG (nI t) (nI q) (nI u) (nI y) (pnC pq) (nI n) isw mem) ++ wO oa cJ f) ++ wM om am cI cZ th (nI t) (nI q) (nI y) (pvC pq) (nI (pq.getD 0)) (nI b0) ptv wy isw oR memM) H := hP
    have hD : va_D (lwA s) (((wC o ad cI cZ cG (nI t) (nI q) (nI u) (nI y) (pnC pq) (nI n) isw mem) ++ wO oa cJ f) ++ wM om am cI cZ th (nI t) (nI q) (nI y) (pvC pq) (nI (pq.getD 0)) (nI b0) ptv wy isw oR memM) := hD
    refine lv_istore (lv' := [(5, .int (nI 1)), (0, .ref b), (1, .ref (o 0)), (2, .ref (om 0)), (3, .ref oa), (4, .int (nI i))]) hx hb dL_law_389 hl (by decide) rfl (fun ls hl => ?_)
    refine lv_aload_n hx hb dL_law_391 rfl (lv_at hl 3 rfl) ?_
    refine lv_aload_n hx hb dL_law_392 rfl (lv_at hl 1 rfl) ?_
    refine lv_iload hx hb dL_law_393 (lv_at hl 5 rfl) ?_
    refine lv_iconst (v := nI 1) hx hb dL_law_395 (by decide) ?_
    refine lv_iadd hx hb dL_law_396 ?_
    refine lv_eqi (v := nI (i + 1)) (nI_add _ _) ?_
    refine va_sld hx hb hXs hbl (Nat.not_le.mpr hbl) hS (vp_in_nI (show i + 1 < L by omega) (by omega)) dL_law_397 ?_
    refine lv_eqi (v := xs (i + 1)) (by rw [nI_clamp (by omega)]) ?_
    refine lv_aload_n hx hb dL_law_398 rfl (lv_at hl 1 rfl) ?_
    refine lv_iload hx hb dL_law_399 (lv_at hl 5 rfl) ?_
    refine lv_iconst (v := nI 2) hx hb dL_law_401 (by decide) ?_
    refine lv_iadd hx hb dL_law_402 ?_
    refine lv_eqi (v := nI (i + 2)) (nI_add _ _) ?_
    refine va_sld hx hb hXs hbl (Nat.not_le.mpr hbl) hS (vp_in_nI (show i + 2 < L by omega) (by omega)) dL_law_403 ?_
    refine lv_eqi (v := xs (i + 2)) (by rw [nI_clamp (by omega)]) ?_
    have hP := va_P_sw hP
    have hD := va_D_sw hD
    refine mi_frV (C := RX2) (As := [.int (xs (i + 1)), .int (xs (i + 2))]) (rest := []) ⟨hx, hb, hml, hown, hW⟩ (n_digest_no q hk.q24 (xs (i + 1)) (xs (i + 2)) memM _ hX) nE_ok (cwV 2 hW (gV tw_672 tw_673 tw_674 tw_3 tw_675) rfl rfl rfl (by decide +kernel) ⟨Nat.le_of_ble_eq_true rfl, Nat.le_of_ble_eq_true rfl⟩) (va_recv hK hP (ci := 2) (q0 := 0) rfl rfl) hP hD (va_K.sub hK [0, 1, 2] rfl) hS hA trivial rfl hl.1 rfl (Nat.le_of_ble_eq_true rfl) dL_law_404 ⟨hc1, hc2⟩ (fun H locs hP hD hS => ?_)
    have hP := va_P_sw hP
    have hD := va_D_sw hD
    have hP : va_P D vwCl (((wC o ad cI cZ cG (nI t) (nI q) (nI u) (nI y) (pnC pq) (nI n) isw mem) ++ wO oa cJ f) ++ wM om am cI cZ (cdL [nIOB] nIOB) (nI t) (nI q) (nI y) (pvC pq) (nI (pq.getD 0)) (nI b0) ptv wy isw oR memM) H := hP
    have hD : va_D (lwA s) (((wC o ad cI cZ cG (nI t) (nI q) (nI u) (nI y) (pnC pq) (nI n) isw mem) ++ wO oa cJ f) ++ wM om am cI cZ (cdL [nIOB] nIOB) (nI t) (nI q) (nI y) (pvC pq) (nI (pq.getD 0)) (nI b0) ptv wy isw oR memM) := hD
    refine lv_istore (lv' := [(6, .int (nI 0)), (5, .int (nI 1)), (0, .ref b), (1, .ref (o 0)), (2, .ref (om 0)), (3, .ref oa), (4, .int (nI i))]) hx hb dL_law_407 hl (by decide) rfl (fun ls hl => ?_)
    refine lv_aload_n hx hb dL_law_409 rfl (lv_at hl 4 rfl) ?_
    have hP := va_P_sw hP
    have hD := va_D_sw hD
    refine mi_frV (C := RX2) (As := []) (rest := []) ⟨hx, hb, hml, hown, hW⟩ (n_thrown memM) nE_ok (cwV 0 hW (gV tw_590 tw_591 tw_592 tw_3 tw_593) rfl rfl rfl (by decide +kernel) ⟨Nat.le_of_ble_eq_true rfl, Nat.le_of_ble_eq_true rfl⟩) (va_recv hK hP (ci := 2) (q0 := 0) rfl rfl) hP hD (va_K.sub hK [0, 1, 2] rfl) hS hA trivial rfl hl.1 rfl (Nat.le_of_ble_eq_true rfl) dL_law_410 ⟨hc1, hc2⟩ (fun H locs hP hD hS => ?_)
    have hP := va_P_sw hP
    have hD := va_D_sw hD
    refine lv_eqi (v := nI 1) (by decide +kernel) ?_
    refine lv_iload hx hb dL_law_413 (lv_at hl 1 rfl) ?_
    refine lv_icmp_eq (tgt := 420) hx hb dL_law_415 (by decide) (fun _ => ?_) (fun h9 => absurd rfl h9)
    refine lv_iload hx hb dL_law_420 (lv_at hl 1 rfl) ?_
    refine lv_if_ne (tgt := 437) hx hb dL_law_422 (by decide) (fun _ => ?_) (fun h9 => absurd h9 (by decide))
    refine lv_goto (tgt := 1201) hx hb dL_law_437 (by decide) ?_
    exact kk t q y pq u n b0 isw oR mem memM (cdL [nIOB] nIOB) ptv wy f H locs ls _ _ hk hP hD hS (lv_sub hl [2, 3, 4, 5, 6] rfl) (Nat.le_refl _) (Nat.le_refl _)
set_option maxHeartbeats 4000000 in
set_option maxRecDepth 100000 in
theorem law_count {p : Program} {l : Launch} {e : Env} {s : State} {m : MethodId} {below : List Frame} {meth : Method} {c : Code} {b L i cells slots : Nat} {xs : Nat → Int32} {D : va_G} {o ad om am : Nat → Nat} {oa : Nat} {cI cZ cG cJ : ClassId} {Q : State → Prop} {t q y u n b0 : Nat} {pq : Option Nat} {isw oR : Nat → Int32} {mem memM : xMem} {th ptv wy : Int32} {f : Nat → Int64} {H : Heap} {locs : List Loc} {ls : Array Slot} (hC : lawX p l s m meth c b L xs D cI cZ cG cJ) (hk : LK t q y pq u isw mem memM) (hP : va_P D vwCl (lwW o ad om am oa cI cZ cG cJ t q y pq u n b0 isw oR mem memM th ptv wy f) H) (hD : va_D (lwA s) (lwW o ad om am oa cI cZ cG cJ t q y pq u n b0 isw oR mem memM th ptv wy f)) (hS : va_S (lwA s) s.heap H locs) (hl : lv_has ls 7 [(0, .ref b), (1, .ref (o 0)), (2, .ref (om 0)), (3, .ref oa), (4, .int (nI i))]) (hi : i + 7 ≤ L) (hc1 : cells + 3 ≤ 601024) (hc2 : slots + 18 ≤ 7293033) (kk : lawK p l e s m below meth c b Q D o ad om am oa cI cZ cG cJ i cells slots) : W p l e room_1 s m #[Value.ref b] below meth c H locs cells slots Q (F0 m 440 ls []) := by
  obtain ⟨hx, hb, hml, hown, hW, hXs, hbl, hK, hT, hl0, hL⟩ := hC
  have hA : ∀ q : Nat, s.heap.size ≤ q → lwA s q := fun _ h => h
  have hq24 := hk.q24
  have hy12 := hk.y12
  have ht200 := hk.t200
  have hP : va_P D vwCl (((wC o ad cI cZ cG (nI t) (nI q) (nI u) (nI y) (pnC pq) (nI n) isw mem) ++ wO oa cJ f) ++ wM om am cI cZ th (nI t) (nI q) (nI y) (pvC pq) (nI (pq.getD 0)) (nI b0) ptv wy isw oR memM) H := hP
  have hD : va_D (lwA s) (((wC o ad cI cZ cG (nI t) (nI q) (nI u) (nI y) (pnC pq) (nI n) isw mem) ++ wO oa cJ f) ++ wM om am cI cZ th (nI t) (nI q) (nI y) (pvC pq) (nI (pq.getD 0)) (nI b0) ptv wy isw oR memM) := hD
  rcases hX : x_req (xs (i + 1)) (nI y) with _ | nm
  · obtain ⟨d, hd, hv⟩ := x_req_none (by omega) hX
    rw [hv] at hX
    refine lv_aload_n hx hb dL_law_440 rfl (lv_at hl 1 rfl) ?_
    refine lv_aload_n hx hb dL_law_441 rfl (lv_at hl 0 rfl) ?_
    refine lv_iload hx hb dL_law_442 (lv_at hl 4 rfl) ?_
    refine lv_iconst (v := nI 1) hx hb dL_law_444 (by decide) ?_
    refine lv_iadd hx hb dL_law_445 ?_
    refine lv_eqi (v := nI (i + 1)) (nI_add _ _) ?_
    refine va_sld hx hb hXs hbl (Nat.not_le.mpr hbl) hS (vp_in_nI (show i + 1 < L by omega) (by omega)) dL_law_446 ?_
    refine lv_eqi (v := nI d) (by rw [nI_clamp (by omega)]; exact hv) ?_
    refine lv_aload_n hx hb dL_law_447 rfl (lv_at hl 3 rfl) ?_
    refine tw_frS (As := [.ref (o 0), .int (nI d), .ref oa]) (rest := []) ⟨hx, hb, hml, hown, hW⟩ (w_count_ok hl0 oa f y hk.y12 (nI d) (nI n) mem hX) lE_ok (xw_cw 3 hW tw_305 tw_306 tw_0 tw_307 rfl rfl (by decide +kernel) ⟨Nat.le_of_ble_eq_true rfl, Nat.le_of_ble_eq_true rfl⟩) hP hD hK hS hA hT rfl hl.1 rfl (Nat.le_of_ble_eq_true rfl) dL_law_448 ⟨hc1, hc2⟩ (fun H locs hP hD hS => ?_)
    have hP : va_P D vwCl (((wC o ad cI cZ cG (nI t) (nI q) (nI u) (nI y) (pnC pq) (nI n) isw mem) ++ wO oa cJ (vp_updL f 0 ((mem 1 (tn (nI d))).toInt64))) ++ wM om am cI cZ th (nI t) (nI q) (nI y) (pvC pq) (nI (pq.getD 0)) (nI b0) ptv wy isw oR memM) H := hP
    have hD : va_D (lwA s) (((wC o ad cI cZ cG (nI t) (nI q) (nI u) (nI y) (pnC pq) (nI n) isw mem) ++ wO oa cJ (vp_updL f 0 ((mem 1 (tn (nI d))).toInt64))) ++ wM om am cI cZ th (nI t) (nI q) (nI y) (pvC pq) (nI (pq.getD 0)) (nI b0) ptv wy isw oR memM) := hD
    refine lv_istore (lv' := [(5, .int (nI 0)), (0, .ref b), (1, .ref (o 0)), (2, .ref (om 0)), (3, .ref oa), (4, .int (nI i))]) hx hb dL_law_451 hl (by decide) rfl (fun ls hl => ?_)
    refine lv_aload_n hx hb dL_law_453 rfl (lv_at hl 3 rfl) ?_
    refine lv_aload_n hx hb dL_law_454 rfl (lv_at hl 1 rfl) ?_
    refine lv_iload hx hb dL_law_455 (lv_at hl 5 rfl) ?_
    refine lv_iconst (v := nI 1) hx hb dL_law_457 (by decide) ?_
    refine lv_iadd hx hb dL_law_458 ?_
    refine lv_eqi (v := nI (i + 1)) (nI_add _ _) ?_
    refine va_sld hx hb hXs hbl (Nat.not_le.mpr hbl) hS (vp_in_nI (show i + 1 < L by omega) (by omega)) dL_law_459 ?_
    refine lv_eqi (v := nI d) (by rw [nI_clamp (by omega)]; exact hv) ?_
    have hP := va_P_sw hP
    have hD := va_D_sw hD
    refine mi_frV (C := RX2) (As := [.int (nI d)]) (rest := []) ⟨hx, hb, hml, hown, hW⟩ (n_count y d hk.y12 hd memM) nE_ok (cwV 1 hW (gV tw_680 tw_681 tw_682 tw_3 tw_683) rfl rfl rfl (by decide +kernel) ⟨Nat.le_of_ble_eq_true rfl, Nat.le_of_ble_eq_true rfl⟩) (va_recv hK hP (ci := 2) (q0 := 0) rfl rfl) hP hD (va_K.sub hK [0, 1, 2] rfl) hS hA trivial rfl hl.1 rfl (Nat.le_of_ble_eq_true rfl) dL_law_460 ⟨hc1, hc2⟩ (fun H locs hP hD hS => ?_)
    have hP := va_P_sw hP
    have hD := va_D_sw hD
    have hP : va_P D vwCl (((wC o ad cI cZ cG (nI t) (nI q) (nI u) (nI y) (pnC pq) (nI n) isw mem) ++ wO oa cJ (vp_updL f 0 ((mem 1 (tn (nI d))).toInt64))) ++ wM om am cI cZ (nI 0) (nI t) (nI q) (nI y) (pvC pq) (nI (pq.getD 0)) (nI b0) ptv wy isw oR memM) H := hP
    have hD : va_D (lwA s) (((wC o ad cI cZ cG (nI t) (nI q) (nI u) (nI y) (pnC pq) (nI n) isw mem) ++ wO oa cJ (vp_updL f 0 ((mem 1 (tn (nI d))).toInt64))) ++ wM om am cI cZ (nI 0) (nI t) (nI q) (nI y) (pvC pq) (nI (pq.getD 0)) (nI b0) ptv wy isw oR memM) := hD
    refine lv_istore (lv' := [(6, .int (memM 1 d)), (5, .int (nI 0)), (0, .ref b), (1, .ref (o 0)), (2, .ref (om 0)), (3, .ref oa), (4, .int (nI i))]) hx hb dL_law_463 hl (by decide) rfl (fun ls hl => ?_)
    refine lv_aload_n hx hb dL_law_465 rfl (lv_at hl 4 rfl) ?_
    have hP := va_P_sw hP
    have hD := va_D_sw hD
    refine mi_frV (C := RX2) (As := []) (rest := []) ⟨hx, hb, hml, hown, hW⟩ (n_thrown memM) nE_ok (cwV 0 hW (gV tw_590 tw_591 tw_592 tw_3 tw_593) rfl rfl rfl (by decide +kernel) ⟨Nat.le_of_ble_eq_true rfl, Nat.le_of_ble_eq_true rfl⟩) (va_recv hK hP (ci := 2) (q0 := 0) rfl rfl) hP hD (va_K.sub hK [0, 1, 2] rfl) hS hA trivial rfl hl.1 rfl (Nat.le_of_ble_eq_true rfl) dL_law_466 ⟨hc1, hc2⟩ (fun H locs hP hD hS => ?_)
    have hP := va_P_sw hP
    have hD := va_D_sw hD
    refine lv_eqi (v := nI 0) (rfl) ?_
    refine lv_iload hx hb dL_law_469 (lv_at hl 1 rfl) ?_
    refine lv_icmp_eq (tgt := 476) hx hb dL_law_471 (by decide) (fun _ => ?_) (fun h9 => absurd rfl h9)
    refine lv_iload hx hb dL_law_476 (lv_at hl 1 rfl) ?_
    refine lv_if_ne (tgt := 493) hx hb dL_law_478 (by decide) (fun h9 => absurd (show nI 0 = (0 : Int32) from rfl) h9) (fun _ => ?_)
    refine lv_aload_n hx hb dL_law_481 rfl (lv_at hl 5 rfl) ?_
    refine lv_iconst (v := nI 0) hx hb dL_law_482 (by decide) ?_
    refine va_lald hx hb hK (va_P_right (va_P_left hP)) 0 3 rfl rfl (vp_in_nI (show 0 < 1 by decide) (by decide)) dL_law_483 ?_
    refine lv_eql (v := (memM 1 d).toInt64) (by rw [updL_0, show mem 1 (tn (nI d)) = memM 1 d by rw [tn_nI (by omega), hk.e1]]) ?_
    refine lv_iload hx hb dL_law_484 (lv_at hl 0 rfl) ?_
    refine lv_i2l (v := (memM 1 d).toInt64) hx hb dL_law_486 rfl ?_
    refine W.lcmp hx hb dL_law_487 ?_
    refine lv_eqi (v := nI 0) (lcmp_self _) ?_
    refine lv_if_eq (tgt := 493) hx hb dL_law_488 (by decide) (fun _ => ?_) (fun h9 => absurd (show nI 0 = (0 : Int32) from rfl) h9)
    refine lv_goto (tgt := 1201) hx hb dL_law_493 (by decide) ?_
    exact kk t q y pq u n b0 isw oR mem memM (nI 0) ptv wy (vp_updL f 0 ((mem 1 (tn (nI d))).toInt64)) H locs ls _ _ hk hP hD hS (lv_sub hl [2, 3, 4, 5, 6] rfl) (Nat.le_refl _) (Nat.le_refl _)
  · have hcd : nm = nIOB := (x_req_some hX)
    subst hcd
    refine lv_aload_n hx hb dL_law_440 rfl (lv_at hl 1 rfl) ?_
    refine lv_aload_n hx hb dL_law_441 rfl (lv_at hl 0 rfl) ?_
    refine lv_iload hx hb dL_law_442 (lv_at hl 4 rfl) ?_
    refine lv_iconst (v := nI 1) hx hb dL_law_444 (by decide) ?_
    refine lv_iadd hx hb dL_law_445 ?_
    refine lv_eqi (v := nI (i + 1)) (nI_add _ _) ?_
    refine va_sld hx hb hXs hbl (Nat.not_le.mpr hbl) hS (vp_in_nI (show i + 1 < L by omega) (by omega)) dL_law_446 ?_
    refine lv_eqi (v := xs (i + 1)) (by rw [nI_clamp (by omega)]) ?_
    refine lv_aload_n hx hb dL_law_447 rfl (lv_at hl 3 rfl) ?_
    refine tw_frS (As := [.ref (o 0), .int (xs (i + 1)), .ref oa]) (rest := []) ⟨hx, hb, hml, hown, hW⟩ (w_count_1 hl0 oa f y hk.y12 (xs (i + 1)) (nI n) mem hX) lE_ok (xw_cw 3 hW tw_305 tw_306 tw_0 tw_307 rfl rfl (by decide +kernel) ⟨Nat.le_of_ble_eq_true rfl, Nat.le_of_ble_eq_true rfl⟩) hP hD hK hS hA hT rfl hl.1 rfl (Nat.le_of_ble_eq_true rfl) dL_law_448 ⟨hc1, hc2⟩ (fun H locs hP hD hS => ?_)
    have hP : va_P D vwCl (((wC o ad cI cZ cG (nI t) (nI q) (nI u) (nI y) (pnC pq) (nI n) isw mem) ++ wO oa cJ f) ++ wM om am cI cZ th (nI t) (nI q) (nI y) (pvC pq) (nI (pq.getD 0)) (nI b0) ptv wy isw oR memM) H := hP
    have hD : va_D (lwA s) (((wC o ad cI cZ cG (nI t) (nI q) (nI u) (nI y) (pnC pq) (nI n) isw mem) ++ wO oa cJ f) ++ wM om am cI cZ th (nI t) (nI q) (nI y) (pvC pq) (nI (pq.getD 0)) (nI b0) ptv wy isw oR memM) := hD
    refine lv_istore (lv' := [(5, .int (nI 1)), (0, .ref b), (1, .ref (o 0)), (2, .ref (om 0)), (3, .ref oa), (4, .int (nI i))]) hx hb dL_law_451 hl (by decide) rfl (fun ls hl => ?_)
    refine lv_aload_n hx hb dL_law_453 rfl (lv_at hl 3 rfl) ?_
    refine lv_aload_n hx hb dL_law_454 rfl (lv_at hl 1 rfl) ?_
    refine lv_iload hx hb dL_law_455 (lv_at hl 5 rfl) ?_
    refine lv_iconst (v := nI 1) hx hb dL_law_457 (by decide) ?_
    refine lv_iadd hx hb dL_law_458 ?_
    refine lv_eqi (v := nI (i + 1)) (nI_add _ _) ?_
    refine va_sld hx hb hXs hbl (Nat.not_le.mpr hbl) hS (vp_in_nI (show i + 1 < L by omega) (by omega)) dL_law_459 ?_
    refine lv_eqi (v := xs (i + 1)) (by rw [nI_clamp (by omega)]) ?_
    have hP := va_P_sw hP
    have hD := va_D_sw hD
    refine mi_frV (C := RX2) (As := [.int (xs (i + 1))]) (rest := []) ⟨hx, hb, hml, hown, hW⟩ (n_count_no y hk.y12 (xs (i + 1)) memM _ hX) nE_ok (cwV 1 hW (gV tw_680 tw_681 tw_682 tw_3 tw_683) rfl rfl rfl (by decide +kernel) ⟨Nat.le_of_ble_eq_true rfl, Nat.le_of_ble_eq_true rfl⟩) (va_recv hK hP (ci := 2) (q0 := 0) rfl rfl) hP hD (va_K.sub hK [0, 1, 2] rfl) hS hA trivial rfl hl.1 rfl (Nat.le_of_ble_eq_true rfl) dL_law_460 ⟨hc1, hc2⟩ (fun H locs hP hD hS => ?_)
    have hP := va_P_sw hP
    have hD := va_D_sw hD
    have hP : va_P D vwCl (((wC o ad cI cZ cG (nI t) (nI q) (nI u) (nI y) (pnC pq) (nI n) isw mem) ++ wO oa cJ f) ++ wM om am cI cZ (cdL [nIOB] nIOB) (nI t) (nI q) (nI y) (pvC pq) (nI (pq.getD 0)) (nI b0) ptv wy isw oR memM) H := hP
    have hD : va_D (lwA s) (((wC o ad cI cZ cG (nI t) (nI q) (nI u) (nI y) (pnC pq) (nI n) isw mem) ++ wO oa cJ f) ++ wM om am cI cZ (cdL [nIOB] nIOB) (nI t) (nI q) (nI y) (pvC pq) (nI (pq.getD 0)) (nI b0) ptv wy isw oR memM) := hD
    refine lv_istore (lv' := [(6, .int (nI 0)), (5, .int (nI 1)), (0, .ref b), (1, .ref (o 0)), (2, .ref (om 0)), (3, .ref oa), (4, .int (nI i))]) hx hb dL_law_463 hl (by decide) rfl (fun ls hl => ?_)
    refine lv_aload_n hx hb dL_law_465 rfl (lv_at hl 4 rfl) ?_
    have hP := va_P_sw hP
    have hD := va_D_sw hD
    refine mi_frV (C := RX2) (As := []) (rest := []) ⟨hx, hb, hml, hown, hW⟩ (n_thrown memM) nE_ok (cwV 0 hW (gV tw_590 tw_591 tw_592 tw_3 tw_593) rfl rfl rfl (by decide +kernel) ⟨Nat.le_of_ble_eq_true rfl, Nat.le_of_ble_eq_true rfl⟩) (va_recv hK hP (ci := 2) (q0 := 0) rfl rfl) hP hD (va_K.sub hK [0, 1, 2] rfl) hS hA trivial rfl hl.1 rfl (Nat.le_of_ble_eq_true rfl) dL_law_466 ⟨hc1, hc2⟩ (fun H locs hP hD hS => ?_)
    have hP := va_P_sw hP
    have hD := va_D_sw hD
    refine lv_eqi (v := nI 1) (by decide +kernel) ?_
    refine lv_iload hx hb dL_law_469 (lv_at hl 1 rfl) ?_
    refine lv_icmp_eq (tgt := 476) hx hb dL_law_471 (by decide) (fun _ => ?_) (fun h9 => absurd rfl h9)
    refine lv_iload hx hb dL_law_476 (lv_at hl 1 rfl) ?_
    refine lv_if_ne (tgt := 493) hx hb dL_law_478 (by decide) (fun _ => ?_) (fun h9 => absurd h9 (by decide))
    refine lv_goto (tgt := 1201) hx hb dL_law_493 (by decide) ?_
    exact kk t q y pq u n b0 isw oR mem memM (cdL [nIOB] nIOB) ptv wy f H locs ls _ _ hk hP hD hS (lv_sub hl [2, 3, 4, 5, 6] rfl) (Nat.le_refl _) (Nat.le_refl _)
set_option maxHeartbeats 4000000 in
set_option maxRecDepth 100000 in
theorem law_proof {p : Program} {l : Launch} {e : Env} {s : State} {m : MethodId} {below : List Frame} {meth : Method} {c : Code} {b L i cells slots : Nat} {xs : Nat → Int32} {D : va_G} {o ad om am : Nat → Nat} {oa : Nat} {cI cZ cG cJ : ClassId} {Q : State → Prop} {t q y u n b0 : Nat} {pq : Option Nat} {isw oR : Nat → Int32} {mem memM : xMem} {th ptv wy : Int32} {f : Nat → Int64} {H : Heap} {locs : List Loc} {ls : Array Slot} (hC : lawX p l s m meth c b L xs D cI cZ cG cJ) (hk : LK t q y pq u isw mem memM) (hP : va_P D vwCl (lwW o ad om am oa cI cZ cG cJ t q y pq u n b0 isw oR mem memM th ptv wy f) H) (hD : va_D (lwA s) (lwW o ad om am oa cI cZ cG cJ t q y pq u n b0 isw oR mem memM th ptv wy f)) (hS : va_S (lwA s) s.heap H locs) (hl : lv_has ls 7 [(0, .ref b), (1, .ref (o 0)), (2, .ref (om 0)), (3, .ref oa), (4, .int (nI i))]) (hi : i + 7 ≤ L) (hc1 : cells + 3 ≤ 601024) (hc2 : slots + 18 ≤ 7293033) (kk : lawK p l e s m below meth c b Q D o ad om am oa cI cZ cG cJ i cells slots) : W p l e room_1 s m #[Value.ref b] below meth c H locs cells slots Q (F0 m 564 ls []) := by
  obtain ⟨hx, hb, hml, hown, hW, hXs, hbl, hK, hT, hl0, hL⟩ := hC
  have hA : ∀ q : Nat, s.heap.size ≤ q → lwA s q := fun _ h => h
  have hq24 := hk.q24
  have hy12 := hk.y12
  have ht200 := hk.t200
  have hP : va_P D vwCl (((wC o ad cI cZ cG (nI t) (nI q) (nI u) (nI y) (pnC pq) (nI n) isw mem) ++ wO oa cJ f) ++ wM om am cI cZ th (nI t) (nI q) (nI y) (pvC pq) (nI (pq.getD 0)) (nI b0) ptv wy isw oR memM) H := hP
  have hD : va_D (lwA s) (((wC o ad cI cZ cG (nI t) (nI q) (nI u) (nI y) (pnC pq) (nI n) isw mem) ++ wO oa cJ f) ++ wM om am cI cZ th (nI t) (nI q) (nI y) (pvC pq) (nI (pq.getD 0)) (nI b0) ptv wy isw oR memM) := hD
  rcases hX : (x_req (xs (i + 1)) (pnC pq)).or (x_req (xs (i + 2)) (nI 32)) with _ | nm
  · have hX0 := hX
    rw [req_pn] at hX
    obtain ⟨g1, g2⟩ := x_or_none hX
    have hp5 := getD_5 hk
    obtain ⟨d, hd, hv⟩ := x_req_none (by omega) g1
    obtain ⟨j, hj, hu⟩ := x_req_none (by decide) g2
    have hX := hX0
    rw [hv, hu] at hX
    refine lv_aload_n hx hb dL_law_564 rfl (lv_at hl 1 rfl) ?_
    refine lv_aload_n hx hb dL_law_565 rfl (lv_at hl 0 rfl) ?_
    refine lv_iload hx hb dL_law_566 (lv_at hl 4 rfl) ?_
    refine lv_iconst (v := nI 1) hx hb dL_law_568 (by decide) ?_
    refine lv_iadd hx hb dL_law_569 ?_
    refine lv_eqi (v := nI (i + 1)) (nI_add _ _) ?_
    refine va_sld hx hb hXs hbl (Nat.not_le.mpr hbl) hS (vp_in_nI (show i + 1 < L by omega) (by omega)) dL_law_570 ?_
    refine lv_eqi (v := nI d) (by rw [nI_clamp (by omega)]; exact hv) ?_
    refine lv_aload_n hx hb dL_law_571 rfl (lv_at hl 0 rfl) ?_
    refine lv_iload hx hb dL_law_572 (lv_at hl 4 rfl) ?_
    refine lv_iconst (v := nI 2) hx hb dL_law_574 (by decide) ?_
    refine lv_iadd hx hb dL_law_575 ?_
    refine lv_eqi (v := nI (i + 2)) (nI_add _ _) ?_
    refine va_sld hx hb hXs hbl (Nat.not_le.mpr hbl) hS (vp_in_nI (show i + 2 < L by omega) (by omega)) dL_law_576 ?_
    refine lv_eqi (v := nI j) (by rw [nI_clamp (by omega)]; exact hu) ?_
    refine lv_aload_n hx hb dL_law_577 rfl (lv_at hl 3 rfl) ?_
    refine tw_frS (As := [.ref (o 0), .int (nI d), .int (nI j), .ref oa]) (rest := []) ⟨hx, hb, hml, hown, hW⟩ (w_proof_ok hl0 oa f hk.pn5 (nI d) (nI j) (nI n) mem hX) lE_ok (xw_cw 4 hW tw_346 tw_347 tw_0 tw_348 rfl rfl (by decide +kernel) ⟨Nat.le_of_ble_eq_true rfl, Nat.le_of_ble_eq_true rfl⟩) hP hD hK hS hA hT rfl hl.1 rfl (Nat.le_of_ble_eq_true rfl) dL_law_578 ⟨hc1, hc2⟩ (fun H locs hP hD hS => ?_)
    have hP : va_P D vwCl (((wC o ad cI cZ cG (nI t) (nI q) (nI u) (nI y) (pnC pq) (nI n) isw mem) ++ wO oa cJ (vp_updL f 0 ((mem (42 + tn (nI d)) (tn (nI j))).toInt64))) ++ wM om am cI cZ th (nI t) (nI q) (nI y) (pvC pq) (nI (pq.getD 0)) (nI b0) ptv wy isw oR memM) H := hP
    have hD : va_D (lwA s) (((wC o ad cI cZ cG (nI t) (nI q) (nI u) (nI y) (pnC pq) (nI n) isw mem) ++ wO oa cJ (vp_updL f 0 ((mem (42 + tn (nI d)) (tn (nI j))).toInt64))) ++ wM om am cI cZ th (nI t) (nI q) (nI y) (pvC pq) (nI (pq.getD 0)) (nI b0) ptv wy isw oR memM) := hD
    refine lv_istore (lv' := [(5, .int (nI 0)), (0, .ref b), (1, .ref (o 0)), (2, .ref (om 0)), (3, .ref oa), (4, .int (nI i))]) hx hb dL_law_581 hl (by decide) rfl (fun ls hl => ?_)
    refine lv_aload_n hx hb dL_law_583 rfl (lv_at hl 3 rfl) ?_
    refine lv_aload_n hx hb dL_law_584 rfl (lv_at hl 1 rfl) ?_
    refine lv_iload hx hb dL_law_585 (lv_at hl 5 rfl) ?_
    refine lv_iconst (v := nI 1) hx hb dL_law_587 (by decide) ?_
    refine lv_iadd hx hb dL_law_588 ?_
    refine lv_eqi (v := nI (i + 1)) (nI_add _ _) ?_
    refine va_sld hx hb hXs hbl (Nat.not_le.mpr hbl) hS (vp_in_nI (show i + 1 < L by omega) (by omega)) dL_law_589 ?_
    refine lv_eqi (v := nI d) (by rw [nI_clamp (by omega)]; exact hv) ?_
    refine lv_aload_n hx hb dL_law_590 rfl (lv_at hl 1 rfl) ?_
    refine lv_iload hx hb dL_law_591 (lv_at hl 5 rfl) ?_
    refine lv_iconst (v := nI 2) hx hb dL_law_593 (by decide) ?_
    refine lv_iadd hx hb dL_law_594 ?_
    refine lv_eqi (v := nI (i + 2)) (nI_add _ _) ?_
    refine va_sld hx hb hXs hbl (Nat.not_le.mpr hbl) hS (vp_in_nI (show i + 2 < L by omega) (by omega)) dL_law_595 ?_
    refine lv_eqi (v := nI j) (by rw [nI_clamp (by omega)]; exact hu) ?_
    have hP := va_P_sw hP
    have hD := va_D_sw hD
    refine mi_frV (C := RX2) (As := [.int (nI d), .int (nI j)]) (rest := []) ⟨hx, hb, hml, hown, hW⟩ (n_proof (pq.getD 0) d j hp5 hd hj memM) nE_ok (cwV 2 hW (gV tw_692 tw_693 tw_694 tw_3 tw_695) rfl rfl rfl (by decide +kernel) ⟨Nat.le_of_ble_eq_true rfl, Nat.le_of_ble_eq_true rfl⟩) (va_recv hK hP (ci := 2) (q0 := 0) rfl rfl) hP hD (va_K.sub hK [0, 1, 2] rfl) hS hA trivial rfl hl.1 rfl (Nat.le_of_ble_eq_true rfl) dL_law_596 ⟨hc1, hc2⟩ (fun H locs hP hD hS => ?_)
    have hP := va_P_sw hP
    have hD := va_D_sw hD
    have hP : va_P D vwCl (((wC o ad cI cZ cG (nI t) (nI q) (nI u) (nI y) (pnC pq) (nI n) isw mem) ++ wO oa cJ (vp_updL f 0 ((mem (42 + tn (nI d)) (tn (nI j))).toInt64))) ++ wM om am cI cZ (nI 0) (nI t) (nI q) (nI y) (pvC pq) (nI (pq.getD 0)) (nI b0) ptv wy isw oR memM) H := hP
    have hD : va_D (lwA s) (((wC o ad cI cZ cG (nI t) (nI q) (nI u) (nI y) (pnC pq) (nI n) isw mem) ++ wO oa cJ (vp_updL f 0 ((mem (42 + tn (nI d)) (tn (nI j))).toInt64))) ++ wM om am cI cZ (nI 0) (nI t) (nI q) (nI y) (pvC pq) (nI (pq.getD 0)) (nI b0) ptv wy isw oR memM) := hD
    refine lv_istore (lv' := [(6, .int (memM 8 (32 * d + j))), (5, .int (nI 0)), (0, .ref b), (1, .ref (o 0)), (2, .ref (om 0)), (3, .ref oa), (4, .int (nI i))]) hx hb dL_law_599 hl (by decide) rfl (fun ls hl => ?_)
    refine lv_aload_n hx hb dL_law_601 rfl (lv_at hl 4 rfl) ?_
    have hP := va_P_sw hP
    have hD := va_D_sw hD
    refine mi_frV (C := RX2) (As := []) (rest := []) ⟨hx, hb, hml, hown, hW⟩ (n_thrown memM) nE_ok (cwV 0 hW (gV tw_590 tw_591 tw_592 tw_3 tw_593) rfl rfl rfl (by decide +kernel) ⟨Nat.le_of_ble_eq_true rfl, Nat.le_of_ble_eq_true rfl⟩) (va_recv hK hP (ci := 2) (q0 := 0) rfl rfl) hP hD (va_K.sub hK [0, 1, 2] rfl) hS hA trivial rfl hl.1 rfl (Nat.le_of_ble_eq_true rfl) dL_law_602 ⟨hc1, hc2⟩ (fun H locs hP hD hS => ?_)
    have hP := va_P_sw hP
    have hD := va_D_sw hD
    refine lv_eqi (v := nI 0) (rfl) ?_
    refine lv_iload hx hb dL_law_605 (lv_at hl 1 rfl) ?_
    refine lv_icmp_eq (tgt := 612) hx hb dL_law_607 (by decide) (fun _ => ?_) (fun h9 => absurd rfl h9)
    refine lv_iload hx hb dL_law_612 (lv_at hl 1 rfl) ?_
    refine lv_if_ne (tgt := 629) hx hb dL_law_614 (by decide) (fun h9 => absurd (show nI 0 = (0 : Int32) from rfl) h9) (fun _ => ?_)
    refine lv_aload_n hx hb dL_law_617 rfl (lv_at hl 5 rfl) ?_
    refine lv_iconst (v := nI 0) hx hb dL_law_618 (by decide) ?_
    refine va_lald hx hb hK (va_P_right (va_P_left hP)) 0 3 rfl rfl (vp_in_nI (show 0 < 1 by decide) (by decide)) dL_law_619 ?_
    refine lv_eql (v := (memM 8 (32 * d + j)).toInt64) (by rw [updL_0, show mem (42 + tn (nI d)) (tn (nI j)) = memM 8 (32 * d + j) by rw [tn_nI (by omega), tn_nI (by omega)]; exact hk.pt _ d (pq_some hd) hd j hj]) ?_
    refine lv_iload hx hb dL_law_620 (lv_at hl 0 rfl) ?_
    refine lv_i2l (v := (memM 8 (32 * d + j)).toInt64) hx hb dL_law_622 rfl ?_
    refine W.lcmp hx hb dL_law_623 ?_
    refine lv_eqi (v := nI 0) (lcmp_self _) ?_
    refine lv_if_eq (tgt := 629) hx hb dL_law_624 (by decide) (fun _ => ?_) (fun h9 => absurd (show nI 0 = (0 : Int32) from rfl) h9)
    refine lv_goto (tgt := 1201) hx hb dL_law_629 (by decide) ?_
    exact kk t q y pq u n b0 isw oR mem memM (nI 0) ptv wy (vp_updL f 0 ((mem (42 + tn (nI d)) (tn (nI j))).toInt64)) H locs ls _ _ hk hP hD hS (lv_sub hl [2, 3, 4, 5, 6] rfl) (Nat.le_refl _) (Nat.le_refl _)
  · have hcd : nm = nIOB := ((x_or_some hX).elim (fun h1 => (x_req_some h1)) (fun h1 => (x_req_some h1.2)))
    subst hcd
    refine lv_aload_n hx hb dL_law_564 rfl (lv_at hl 1 rfl) ?_
    refine lv_aload_n hx hb dL_law_565 rfl (lv_at hl 0 rfl) ?_
    refine lv_iload hx hb dL_law_566 (lv_at hl 4 rfl) ?_
    refine lv_iconst (v := nI 1) hx hb dL_law_568 (by decide) ?_
    refine lv_iadd hx hb dL_law_569 ?_
    refine lv_eqi (v := nI (i + 1)) (nI_add _ _) ?_
    refine va_sld hx hb hXs hbl (Nat.not_le.mpr hbl) hS (vp_in_nI (show i + 1 < L by omega) (by omega)) dL_law_570 ?_
    refine lv_eqi (v := xs (i + 1)) (by rw [nI_clamp (by omega)]) ?_
    refine lv_aload_n hx hb dL_law_571 rfl (lv_at hl 0 rfl) ?_
    refine lv_iload hx hb dL_law_572 (lv_at hl 4 rfl) ?_
    refine lv_iconst (v := nI 2) hx hb dL_law_574 (by decide) ?_
    refine lv_iadd hx hb dL_law_575 ?_
    refine lv_eqi (v := nI (i + 2)) (nI_add _ _) ?_
    refine va_sld hx hb hXs hbl (Nat.not_le.mpr hbl) hS (vp_in_nI (show i + 2 < L by omega) (by omega)) dL_law_576 ?_
    refine lv_eqi (v := xs (i + 2)) (by rw [nI_clamp (by omega)]) ?_
    refine lv_aload_n hx hb dL_law_577 rfl (lv_at hl 3 rfl) ?_
    refine tw_frS (As := [.ref (o 0), .int (xs (i + 1)), .int (xs (i + 2)), .ref oa]) (rest := []) ⟨hx, hb, hml, hown, hW⟩ (w_proof_1 hl0 oa f hk.pn5 (xs (i + 1)) (xs (i + 2)) (nI n) mem hX) lE_ok (xw_cw 4 hW tw_346 tw_347 tw_0 tw_348 rfl rfl (by decide +kernel) ⟨Nat.le_of_ble_eq_true rfl, Nat.le_of_ble_eq_true rfl⟩) hP hD hK hS hA hT rfl hl.1 rfl (Nat.le_of_ble_eq_true rfl) dL_law_578 ⟨hc1, hc2⟩ (fun H locs hP hD hS => ?_)
    have hP : va_P D vwCl (((wC o ad cI cZ cG (nI t) (nI q) (nI u) (nI y) (pnC pq) (nI n) isw mem) ++ wO oa cJ f) ++ wM om am cI cZ th (nI t) (nI q) (nI y) (pvC pq) (nI (pq.getD 0)) (nI b0) ptv wy isw oR memM) H := hP
    have hD : va_D (lwA s) (((wC o ad cI cZ cG (nI t) (nI q) (nI u) (nI y) (pnC pq) (nI n) isw mem) ++ wO oa cJ f) ++ wM om am cI cZ th (nI t) (nI q) (nI y) (pvC pq) (nI (pq.getD 0)) (nI b0) ptv wy isw oR memM) := hD
    refine lv_istore (lv' := [(5, .int (nI 1)), (0, .ref b), (1, .ref (o 0)), (2, .ref (om 0)), (3, .ref oa), (4, .int (nI i))]) hx hb dL_law_581 hl (by decide) rfl (fun ls hl => ?_)
    refine lv_aload_n hx hb dL_law_583 rfl (lv_at hl 3 rfl) ?_
    refine lv_aload_n hx hb dL_law_584 rfl (lv_at hl 1 rfl) ?_
    refine lv_iload hx hb dL_law_585 (lv_at hl 5 rfl) ?_
    refine lv_iconst (v := nI 1) hx hb dL_law_587 (by decide) ?_
    refine lv_iadd hx hb dL_law_588 ?_
    refine lv_eqi (v := nI (i + 1)) (nI_add _ _) ?_
    refine va_sld hx hb hXs hbl (Nat.not_le.mpr hbl) hS (vp_in_nI (show i + 1 < L by omega) (by omega)) dL_law_589 ?_
    refine lv_eqi (v := xs (i + 1)) (by rw [nI_clamp (by omega)]) ?_
    refine lv_aload_n hx hb dL_law_590 rfl (lv_at hl 1 rfl) ?_
    refine lv_iload hx hb dL_law_591 (lv_at hl 5 rfl) ?_
    refine lv_iconst (v := nI 2) hx hb dL_law_593 (by decide) ?_
    refine lv_iadd hx hb dL_law_594 ?_
    refine lv_eqi (v := nI (i + 2)) (nI_add _ _) ?_
    refine va_sld hx hb hXs hbl (Nat.not_le.mpr hbl) hS (vp_in_nI (show i + 2 < L by omega) (by omega)) dL_law_595 ?_
    refine lv_eqi (v := xs (i + 2)) (by rw [nI_clamp (by omega)]) ?_
    have hP := va_P_sw hP
    have hD := va_D_sw hD
    refine mi_frV (C := RX2) (As := [.int (xs (i + 1)), .int (xs (i + 2))]) (rest := []) ⟨hx, hb, hml, hown, hW⟩ (n_proof_no (pq.getD 0) (getD_5 hk) (xs (i + 1)) (xs (i + 2)) memM _ (by rw [← req_pn]; exact hX)) nE_ok (cwV 2 hW (gV tw_692 tw_693 tw_694 tw_3 tw_695) rfl rfl rfl (by decide +kernel) ⟨Nat.le_of_ble_eq_true rfl, Nat.le_of_ble_eq_true rfl⟩) (va_recv hK hP (ci := 2) (q0 := 0) rfl rfl) hP hD (va_K.sub hK [0, 1, 2] rfl) hS hA trivial rfl hl.1 rfl (Nat.le_of_ble_eq_true rfl) dL_law_596 ⟨hc1, hc2⟩ (fun H locs hP hD hS => ?_)
    have hP := va_P_sw hP
    have hD := va_D_sw hD
    have hP : va_P D vwCl (((wC o ad cI cZ cG (nI t) (nI q) (nI u) (nI y) (pnC pq) (nI n) isw mem) ++ wO oa cJ f) ++ wM om am cI cZ (cdL [nIOB] nIOB) (nI t) (nI q) (nI y) (pvC pq) (nI (pq.getD 0)) (nI b0) ptv wy isw oR memM) H := hP
    have hD : va_D (lwA s) (((wC o ad cI cZ cG (nI t) (nI q) (nI u) (nI y) (pnC pq) (nI n) isw mem) ++ wO oa cJ f) ++ wM om am cI cZ (cdL [nIOB] nIOB) (nI t) (nI q) (nI y) (pvC pq) (nI (pq.getD 0)) (nI b0) ptv wy isw oR memM) := hD
    refine lv_istore (lv' := [(6, .int (nI 0)), (5, .int (nI 1)), (0, .ref b), (1, .ref (o 0)), (2, .ref (om 0)), (3, .ref oa), (4, .int (nI i))]) hx hb dL_law_599 hl (by decide) rfl (fun ls hl => ?_)
    refine lv_aload_n hx hb dL_law_601 rfl (lv_at hl 4 rfl) ?_
    have hP := va_P_sw hP
    have hD := va_D_sw hD
    refine mi_frV (C := RX2) (As := []) (rest := []) ⟨hx, hb, hml, hown, hW⟩ (n_thrown memM) nE_ok (cwV 0 hW (gV tw_590 tw_591 tw_592 tw_3 tw_593) rfl rfl rfl (by decide +kernel) ⟨Nat.le_of_ble_eq_true rfl, Nat.le_of_ble_eq_true rfl⟩) (va_recv hK hP (ci := 2) (q0 := 0) rfl rfl) hP hD (va_K.sub hK [0, 1, 2] rfl) hS hA trivial rfl hl.1 rfl (Nat.le_of_ble_eq_true rfl) dL_law_602 ⟨hc1, hc2⟩ (fun H locs hP hD hS => ?_)
    have hP := va_P_sw hP
    have hD := va_D_sw hD
    refine lv_eqi (v := nI 1) (by decide +kernel) ?_
    refine lv_iload hx hb dL_law_605 (lv_at hl 1 rfl) ?_
    refine lv_icmp_eq (tgt := 612) hx hb dL_law_607 (by decide) (fun _ => ?_) (fun h9 => absurd rfl h9)
    refine lv_iload hx hb dL_law_612 (lv_at hl 1 rfl) ?_
    refine lv_if_ne (tgt := 629) hx hb dL_law_614 (by decide) (fun _ => ?_) (fun h9 => absurd h9 (by decide))
    refine lv_goto (tgt := 1201) hx hb dL_law_629 (by decide) ?_
    exact kk t q y pq u n b0 isw oR mem memM (cdL [nIOB] nIOB) ptv wy f H locs ls _ _ hk hP hD hS (lv_sub hl [2, 3, 4, 5, 6] rfl) (Nat.le_refl _) (Nat.le_refl _)
set_option maxHeartbeats 4000000 in
set_option maxRecDepth 100000 in
theorem law_bend {p : Program} {l : Launch} {e : Env} {s : State} {m : MethodId} {below : List Frame} {meth : Method} {c : Code} {b L i cells slots : Nat} {xs : Nat → Int32} {D : va_G} {o ad om am : Nat → Nat} {oa : Nat} {cI cZ cG cJ : ClassId} {Q : State → Prop} {t q y u n b0 : Nat} {pq : Option Nat} {isw oR : Nat → Int32} {mem memM : xMem} {th ptv wy : Int32} {f : Nat → Int64} {H : Heap} {locs : List Loc} {ls : Array Slot} (hC : lawX p l s m meth c b L xs D cI cZ cG cJ) (hk : LK t q y pq u isw mem memM) (hP : va_P D vwCl (lwW o ad om am oa cI cZ cG cJ t q y pq u n b0 isw oR mem memM th ptv wy f) H) (hD : va_D (lwA s) (lwW o ad om am oa cI cZ cG cJ t q y pq u n b0 isw oR mem memM th ptv wy f)) (hS : va_S (lwA s) s.heap H locs) (hl : lv_has ls 7 [(0, .ref b), (1, .ref (o 0)), (2, .ref (om 0)), (3, .ref oa), (4, .int (nI i))]) (hi : i + 7 ≤ L) (hc1 : cells + 3 ≤ 601024) (hc2 : slots + 18 ≤ 7293033) (kk : lawK p l e s m below meth c b Q D o ad om am oa cI cZ cG cJ i cells slots) : W p l e room_1 s m #[Value.ref b] below meth c H locs cells slots Q (F0 m 632 ls []) := by
  obtain ⟨hx, hb, hml, hown, hW, hXs, hbl, hK, hT, hl0, hL⟩ := hC
  have hA : ∀ q : Nat, s.heap.size ≤ q → lwA s q := fun _ h => h
  have hq24 := hk.q24
  have hy12 := hk.y12
  have ht200 := hk.t200
  have hP : va_P D vwCl (((wC o ad cI cZ cG (nI t) (nI q) (nI u) (nI y) (pnC pq) (nI n) isw mem) ++ wO oa cJ f) ++ wM om am cI cZ th (nI t) (nI q) (nI y) (pvC pq) (nI (pq.getD 0)) (nI b0) ptv wy isw oR memM) H := hP
  have hD : va_D (lwA s) (((wC o ad cI cZ cG (nI t) (nI q) (nI u) (nI y) (pnC pq) (nI n) isw mem) ++ wO oa cJ f) ++ wM om am cI cZ th (nI t) (nI q) (nI y) (pvC pq) (nI (pq.getD 0)) (nI b0) ptv wy isw oR memM) := hD
  rcases hX : (x_req (xs (i + 1)) (pnC pq)).or ((x_req (xs (i + 2)) (nI 32)).or (x_mask (xs (i + 3)))) with _ | nm
  · have hX0 := hX
    rw [req_pn] at hX
    obtain ⟨g1, r1⟩ := x_or_none hX
    obtain ⟨g2, g3⟩ := x_or_none r1
    have hp5 := getD_5 hk
    obtain ⟨d, hd, hv⟩ := x_req_none (by omega) g1
    obtain ⟨j, hj, hu⟩ := x_req_none (by decide) g2
    have hX := hX0
    obtain ⟨pk, rfl⟩ : ∃ pk, pq = some pk := ⟨_, pq_some hd⟩
    have hd : d < pk := hd
    rw [hv, hu] at hX
    refine lv_aload_n hx hb dL_law_632 rfl (lv_at hl 1 rfl) ?_
    refine lv_aload_n hx hb dL_law_633 rfl (lv_at hl 0 rfl) ?_
    refine lv_iload hx hb dL_law_634 (lv_at hl 4 rfl) ?_
    refine lv_iconst (v := nI 1) hx hb dL_law_636 (by decide) ?_
    refine lv_iadd hx hb dL_law_637 ?_
    refine lv_eqi (v := nI (i + 1)) (nI_add _ _) ?_
    refine va_sld hx hb hXs hbl (Nat.not_le.mpr hbl) hS (vp_in_nI (show i + 1 < L by omega) (by omega)) dL_law_638 ?_
    refine lv_eqi (v := nI d) (by rw [nI_clamp (by omega)]; exact hv) ?_
    refine lv_aload_n hx hb dL_law_639 rfl (lv_at hl 0 rfl) ?_
    refine lv_iload hx hb dL_law_640 (lv_at hl 4 rfl) ?_
    refine lv_iconst (v := nI 2) hx hb dL_law_642 (by decide) ?_
    refine lv_iadd hx hb dL_law_643 ?_
    refine lv_eqi (v := nI (i + 2)) (nI_add _ _) ?_
    refine va_sld hx hb hXs hbl (Nat.not_le.mpr hbl) hS (vp_in_nI (show i + 2 < L by omega) (by omega)) dL_law_644 ?_
    refine lv_eqi (v := nI j) (by rw [nI_clamp (by omega)]; exact hu) ?_
    refine lv_aload_n hx hb dL_law_645 rfl (lv_at hl 0 rfl) ?_
    refine lv_iload hx hb dL_law_646 (lv_at hl 4 rfl) ?_
    refine lv_iconst (v := nI 3) hx hb dL_law_648 (by decide) ?_
    refine lv_iadd hx hb dL_law_649 ?_
    refine lv_eqi (v := nI (i + 3)) (nI_add _ _) ?_
    refine va_sld hx hb hXs hbl (Nat.not_le.mpr hbl) hS (vp_in_nI (show i + 3 < L by omega) (by omega)) dL_law_650 ?_
    refine lv_eqi (v := xs (i + 3)) (by rw [nI_clamp (by omega)]) ?_
    have hP := va_P_as hP
    have hD := va_D_as hD
    refine tw_frS (As := [.ref (o 0), .int (nI d), .int (nI j), .int (xs (i + 3))]) (rest := []) ⟨hx, hb, hml, hown, hW⟩ (w_bend_ok hl0 hk.pn5 (nI d) (nI j) (xs (i + 3)) (nI n) mem hX) lE_ok (xw_cw 4 hW tw_358 tw_359 tw_0 tw_360 rfl rfl (by decide +kernel) ⟨Nat.le_of_ble_eq_true rfl, Nat.le_of_ble_eq_true rfl⟩) hP hD hK hS hA hT rfl hl.1 rfl (Nat.le_of_ble_eq_true rfl) dL_law_651 ⟨hc1, hc2⟩ (fun H locs hP hD hS => ?_)
    have hP := va_P_sa hP
    have hD := va_D_sa hD
    have hP : va_P D vwCl (((wC o ad cI cZ cG (nI t) (nI q) (nI u) (nI y) (pnC (some pk)) (nI n) isw (p_bend (42 + tn (nI d)) (tn (nI j)) (xs (i + 3)) mem)) ++ wO oa cJ f) ++ wM om am cI cZ th (nI t) (nI q) (nI y) (pvC (some pk)) (nI ((some pk).getD 0)) (nI b0) ptv wy isw oR memM) H := hP
    have hD : va_D (lwA s) (((wC o ad cI cZ cG (nI t) (nI q) (nI u) (nI y) (pnC (some pk)) (nI n) isw (p_bend (42 + tn (nI d)) (tn (nI j)) (xs (i + 3)) mem)) ++ wO oa cJ f) ++ wM om am cI cZ th (nI t) (nI q) (nI y) (pvC (some pk)) (nI ((some pk).getD 0)) (nI b0) ptv wy isw oR memM) := hD
    refine lv_istore (lv' := [(5, .int (nI 0)), (0, .ref b), (1, .ref (o 0)), (2, .ref (om 0)), (3, .ref oa), (4, .int (nI i))]) hx hb dL_law_654 hl (by decide) rfl (fun ls hl => ?_)
    refine lv_aload_n hx hb dL_law_656 rfl (lv_at hl 3 rfl) ?_
    refine lv_aload_n hx hb dL_law_657 rfl (lv_at hl 1 rfl) ?_
    refine lv_iload hx hb dL_law_658 (lv_at hl 5 rfl) ?_
    refine lv_iconst (v := nI 1) hx hb dL_law_660 (by decide) ?_
    refine lv_iadd hx hb dL_law_661 ?_
    refine lv_eqi (v := nI (i + 1)) (nI_add _ _) ?_
    refine va_sld hx hb hXs hbl (Nat.not_le.mpr hbl) hS (vp_in_nI (show i + 1 < L by omega) (by omega)) dL_law_662 ?_
    refine lv_eqi (v := nI d) (by rw [nI_clamp (by omega)]; exact hv) ?_
    refine lv_aload_n hx hb dL_law_663 rfl (lv_at hl 1 rfl) ?_
    refine lv_iload hx hb dL_law_664 (lv_at hl 5 rfl) ?_
    refine lv_iconst (v := nI 2) hx hb dL_law_666 (by decide) ?_
    refine lv_iadd hx hb dL_law_667 ?_
    refine lv_eqi (v := nI (i + 2)) (nI_add _ _) ?_
    refine va_sld hx hb hXs hbl (Nat.not_le.mpr hbl) hS (vp_in_nI (show i + 2 < L by omega) (by omega)) dL_law_668 ?_
    refine lv_eqi (v := nI j) (by rw [nI_clamp (by omega)]; exact hu) ?_
    refine lv_aload_n hx hb dL_law_669 rfl (lv_at hl 1 rfl) ?_
    refine lv_iload hx hb dL_law_670 (lv_at hl 5 rfl) ?_
    refine lv_iconst (v := nI 3) hx hb dL_law_672 (by decide) ?_
    refine lv_iadd hx hb dL_law_673 ?_
    refine lv_eqi (v := nI (i + 3)) (nI_add _ _) ?_
    refine va_sld hx hb hXs hbl (Nat.not_le.mpr hbl) hS (vp_in_nI (show i + 3 < L by omega) (by omega)) dL_law_674 ?_
    refine lv_eqi (v := xs (i + 3)) (by rw [nI_clamp (by omega)]) ?_
    have hP := va_P_sw hP
    have hD := va_D_sw hD
    refine mv_frV (C := RX2) (As := [.int (nI d), .int (nI j), .int (xs (i + 3))]) (rest := []) ⟨hx, hb, hml, hown, hW⟩ (n_bend pk d j (hk.p5 pk rfl) hd hj (xs (i + 3)) g3 memM) nE_ok (cwV 3 hW (gV tw_696 tw_697 tw_698 tw_3 tw_699) rfl rfl rfl (by decide +kernel) ⟨Nat.le_of_ble_eq_true rfl, Nat.le_of_ble_eq_true rfl⟩) (va_recv hK hP (ci := 2) (q0 := 0) rfl rfl) hP hD (va_K.sub hK [0, 1, 2] rfl) hS hA trivial rfl hl.1 rfl (Nat.le_of_ble_eq_true rfl) dL_law_675 ⟨hc1, hc2⟩ (fun H locs hP hD hS => ?_)
    have hP := va_P_sw hP
    have hD := va_D_sw hD
    have hP : va_P D vwCl (((wC o ad cI cZ cG (nI t) (nI q) (nI u) (nI y) (pnC (some pk)) (nI n) isw (p_bend (42 + tn (nI d)) (tn (nI j)) (xs (i + 3)) mem)) ++ wO oa cJ f) ++ wM om am cI cZ (nI 0) (nI t) (nI q) (nI y) (pvC (some pk)) (nI ((some pk).getD 0)) (nI b0) ptv wy isw oR (m_bend 8 (32 * d + j) (xs (i + 3)) memM)) H := hP
    have hD : va_D (lwA s) (((wC o ad cI cZ cG (nI t) (nI q) (nI u) (nI y) (pnC (some pk)) (nI n) isw (p_bend (42 + tn (nI d)) (tn (nI j)) (xs (i + 3)) mem)) ++ wO oa cJ f) ++ wM om am cI cZ (nI 0) (nI t) (nI q) (nI y) (pvC (some pk)) (nI ((some pk).getD 0)) (nI b0) ptv wy isw oR (m_bend 8 (32 * d + j) (xs (i + 3)) memM)) := hD
    refine lv_aload_n hx hb dL_law_678 rfl (lv_at hl 3 rfl) ?_
    have hP := va_P_sw hP
    have hD := va_D_sw hD
    refine mi_frV (C := RX2) (As := []) (rest := []) ⟨hx, hb, hml, hown, hW⟩ (n_thrown (m_bend 8 (32 * d + j) (xs (i + 3)) memM)) nE_ok (cwV 0 hW (gV tw_590 tw_591 tw_592 tw_3 tw_593) rfl rfl rfl (by decide +kernel) ⟨Nat.le_of_ble_eq_true rfl, Nat.le_of_ble_eq_true rfl⟩) (va_recv hK hP (ci := 2) (q0 := 0) rfl rfl) hP hD (va_K.sub hK [0, 1, 2] rfl) hS hA trivial rfl hl.1 rfl (Nat.le_of_ble_eq_true rfl) dL_law_679 ⟨hc1, hc2⟩ (fun H locs hP hD hS => ?_)
    have hP := va_P_sw hP
    have hD := va_D_sw hD
    refine lv_eqi (v := nI 0) (rfl) ?_
    refine lv_iload hx hb dL_law_682 (lv_at hl 0 rfl) ?_
    refine lv_icmp_eq (tgt := 689) hx hb dL_law_684 (by decide) (fun _ => ?_) (fun h9 => absurd rfl h9)
    refine lv_goto (tgt := 1201) hx hb dL_law_689 (by decide) ?_
    exact kk t q y (some pk) u n b0 isw oR (p_bend (42 + tn (nI d)) (tn (nI j)) (xs (i + 3)) mem) (m_bend 8 (32 * d + j) (xs (i + 3)) memM) (nI 0) ptv wy f H locs ls _ _ (by rw [tn_nI (by omega), tn_nI (by omega)]; exact hk.bend hd hj) hP hD hS (lv_sub hl [1, 2, 3, 4, 5] rfl) (Nat.le_refl _) (Nat.le_refl _)
  · have hcd : nm = nIOB ∨ nm = nIAE := ((x_or_some hX).elim (fun h1 => (Or.inl (x_req_some h1))) (fun h1 => ((x_or_some h1.2).elim (fun h1 => (Or.inl (x_req_some h1))) (fun h1 => (Or.inr (x_mask_some h1.2))))))
    rcases hcd with rfl | rfl
    · refine lv_aload_n hx hb dL_law_632 rfl (lv_at hl 1 rfl) ?_
      refine lv_aload_n hx hb dL_law_633 rfl (lv_at hl 0 rfl) ?_
      refine lv_iload hx hb dL_law_634 (lv_at hl 4 rfl) ?_
      refine lv_iconst (v := nI 1) hx hb dL_law_636 (by decide) ?_
      refine lv_iadd hx hb dL_law_637 ?_
      refine lv_eqi (v := nI (i + 1)) (nI_add _ _) ?_
      refine va_sld hx hb hXs hbl (Nat.not_le.mpr hbl) hS (vp_in_nI (show i + 1 < L by omega) (by omega)) dL_law_638 ?_
      refine lv_eqi (v := xs (i + 1)) (by rw [nI_clamp (by omega)]) ?_
      refine lv_aload_n hx hb dL_law_639 rfl (lv_at hl 0 rfl) ?_
      refine lv_iload hx hb dL_law_640 (lv_at hl 4 rfl) ?_
      refine lv_iconst (v := nI 2) hx hb dL_law_642 (by decide) ?_
      refine lv_iadd hx hb dL_law_643 ?_
      refine lv_eqi (v := nI (i + 2)) (nI_add _ _) ?_
      refine va_sld hx hb hXs hbl (Nat.not_le.mpr hbl) hS (vp_in_nI (show i + 2 < L by omega) (by omega)) dL_law_644 ?_
      refine lv_eqi (v := xs (i + 2)) (by rw [nI_clamp (by omega)]) ?_
      refine lv_aload_n hx hb dL_law_645 rfl (lv_at hl 0 rfl) ?_
      refine lv_iload hx hb dL_law_646 (lv_at hl 4 rfl) ?_
      refine lv_iconst (v := nI 3) hx hb dL_law_648 (by decide) ?_
      refine lv_iadd hx hb dL_law_649 ?_
      refine lv_eqi (v := nI (i + 3)) (nI_add _ _) ?_
      refine va_sld hx hb hXs hbl (Nat.not_le.mpr hbl) hS (vp_in_nI (show i + 3 < L by omega) (by omega)) dL_law_650 ?_
      refine lv_eqi (v := xs (i + 3)) (by rw [nI_clamp (by omega)]) ?_
      have hP := va_P_as hP
      have hD := va_D_as hD
      refine tw_frS (As := [.ref (o 0), .int (xs (i + 1)), .int (xs (i + 2)), .int (xs (i + 3))]) (rest := []) ⟨hx, hb, hml, hown, hW⟩ (w_bend_1 hl0 hk.pn5 (xs (i + 1)) (xs (i + 2)) (xs (i + 3)) (nI n) mem hX) lE_ok (xw_cw 4 hW tw_358 tw_359 tw_0 tw_360 rfl rfl (by decide +kernel) ⟨Nat.le_of_ble_eq_true rfl, Nat.le_of_ble_eq_true rfl⟩) hP hD hK hS hA hT rfl hl.1 rfl (Nat.le_of_ble_eq_true rfl) dL_law_651 ⟨hc1, hc2⟩ (fun H locs hP hD hS => ?_)
      have hP := va_P_sa hP
      have hD := va_D_sa hD
      have hP : va_P D vwCl (((wC o ad cI cZ cG (nI t) (nI q) (nI u) (nI y) (pnC pq) (nI n) isw mem) ++ wO oa cJ f) ++ wM om am cI cZ th (nI t) (nI q) (nI y) (pvC pq) (nI (pq.getD 0)) (nI b0) ptv wy isw oR memM) H := hP
      have hD : va_D (lwA s) (((wC o ad cI cZ cG (nI t) (nI q) (nI u) (nI y) (pnC pq) (nI n) isw mem) ++ wO oa cJ f) ++ wM om am cI cZ th (nI t) (nI q) (nI y) (pvC pq) (nI (pq.getD 0)) (nI b0) ptv wy isw oR memM) := hD
      refine lv_istore (lv' := [(5, .int (nI 1)), (0, .ref b), (1, .ref (o 0)), (2, .ref (om 0)), (3, .ref oa), (4, .int (nI i))]) hx hb dL_law_654 hl (by decide) rfl (fun ls hl => ?_)
      refine lv_aload_n hx hb dL_law_656 rfl (lv_at hl 3 rfl) ?_
      refine lv_aload_n hx hb dL_law_657 rfl (lv_at hl 1 rfl) ?_
      refine lv_iload hx hb dL_law_658 (lv_at hl 5 rfl) ?_
      refine lv_iconst (v := nI 1) hx hb dL_law_660 (by decide) ?_
      refine lv_iadd hx hb dL_law_661 ?_
      refine lv_eqi (v := nI (i + 1)) (nI_add _ _) ?_
      refine va_sld hx hb hXs hbl (Nat.not_le.mpr hbl) hS (vp_in_nI (show i + 1 < L by omega) (by omega)) dL_law_662 ?_
      refine lv_eqi (v := xs (i + 1)) (by rw [nI_clamp (by omega)]) ?_
      refine lv_aload_n hx hb dL_law_663 rfl (lv_at hl 1 rfl) ?_
      refine lv_iload hx hb dL_law_664 (lv_at hl 5 rfl) ?_
      refine lv_iconst (v := nI 2) hx hb dL_law_666 (by decide) ?_
      refine lv_iadd hx hb dL_law_667 ?_
      refine lv_eqi (v := nI (i + 2)) (nI_add _ _) ?_
      refine va_sld hx hb hXs hbl (Nat.not_le.mpr hbl) hS (vp_in_nI (show i + 2 < L by omega) (by omega)) dL_law_668 ?_
      refine lv_eqi (v := xs (i + 2)) (by rw [nI_clamp (by omega)]) ?_
      refine lv_aload_n hx hb dL_law_669 rfl (lv_at hl 1 rfl) ?_
      refine lv_iload hx hb dL_law_670 (lv_at hl 5 rfl) ?_
      refine lv_iconst (v := nI 3) hx hb dL_law_672 (by decide) ?_
      refine lv_iadd hx hb dL_law_673 ?_
      refine lv_eqi (v := nI (i + 3)) (nI_add _ _) ?_
      refine va_sld hx hb hXs hbl (Nat.not_le.mpr hbl) hS (vp_in_nI (show i + 3 < L by omega) (by omega)) dL_law_674 ?_
      refine lv_eqi (v := xs (i + 3)) (by rw [nI_clamp (by omega)]) ?_
      have hP := va_P_sw hP
      have hD := va_D_sw hD
      refine mv_frV (C := RX2) (As := [.int (xs (i + 1)), .int (xs (i + 2)), .int (xs (i + 3))]) (rest := []) ⟨hx, hb, hml, hown, hW⟩ (n_bend_no (pq.getD 0) (getD_5 hk) (xs (i + 1)) (xs (i + 2)) (xs (i + 3)) memM _ (by rw [← req_pn]; exact hX)) nE_ok (cwV 3 hW (gV tw_696 tw_697 tw_698 tw_3 tw_699) rfl rfl rfl (by decide +kernel) ⟨Nat.le_of_ble_eq_true rfl, Nat.le_of_ble_eq_true rfl⟩) (va_recv hK hP (ci := 2) (q0 := 0) rfl rfl) hP hD (va_K.sub hK [0, 1, 2] rfl) hS hA trivial rfl hl.1 rfl (Nat.le_of_ble_eq_true rfl) dL_law_675 ⟨hc1, hc2⟩ (fun H locs hP hD hS => ?_)
      have hP := va_P_sw hP
      have hD := va_D_sw hD
      have hP : va_P D vwCl (((wC o ad cI cZ cG (nI t) (nI q) (nI u) (nI y) (pnC pq) (nI n) isw mem) ++ wO oa cJ f) ++ wM om am cI cZ (cdL [nIOB, nIAE] nIOB) (nI t) (nI q) (nI y) (pvC pq) (nI (pq.getD 0)) (nI b0) ptv wy isw oR memM) H := hP
      have hD : va_D (lwA s) (((wC o ad cI cZ cG (nI t) (nI q) (nI u) (nI y) (pnC pq) (nI n) isw mem) ++ wO oa cJ f) ++ wM om am cI cZ (cdL [nIOB, nIAE] nIOB) (nI t) (nI q) (nI y) (pvC pq) (nI (pq.getD 0)) (nI b0) ptv wy isw oR memM) := hD
      refine lv_aload_n hx hb dL_law_678 rfl (lv_at hl 3 rfl) ?_
      have hP := va_P_sw hP
      have hD := va_D_sw hD
      refine mi_frV (C := RX2) (As := []) (rest := []) ⟨hx, hb, hml, hown, hW⟩ (n_thrown memM) nE_ok (cwV 0 hW (gV tw_590 tw_591 tw_592 tw_3 tw_593) rfl rfl rfl (by decide +kernel) ⟨Nat.le_of_ble_eq_true rfl, Nat.le_of_ble_eq_true rfl⟩) (va_recv hK hP (ci := 2) (q0 := 0) rfl rfl) hP hD (va_K.sub hK [0, 1, 2] rfl) hS hA trivial rfl hl.1 rfl (Nat.le_of_ble_eq_true rfl) dL_law_679 ⟨hc1, hc2⟩ (fun H locs hP hD hS => ?_)
      have hP := va_P_sw hP
      have hD := va_D_sw hD
      refine lv_eqi (v := nI 1) (by decide +kernel) ?_
      refine lv_iload hx hb dL_law_682 (lv_at hl 0 rfl) ?_
      refine lv_icmp_eq (tgt := 689) hx hb dL_law_684 (by decide) (fun _ => ?_) (fun h9 => absurd rfl h9)
      refine lv_goto (tgt := 1201) hx hb dL_law_689 (by decide) ?_
      exact kk t q y pq u n b0 isw oR mem memM (cdL [nIOB, nIAE] nIOB) ptv wy f H locs ls _ _ hk hP hD hS (lv_sub hl [1, 2, 3, 4, 5] rfl) (Nat.le_refl _) (Nat.le_refl _)
    · refine lv_aload_n hx hb dL_law_632 rfl (lv_at hl 1 rfl) ?_
      refine lv_aload_n hx hb dL_law_633 rfl (lv_at hl 0 rfl) ?_
      refine lv_iload hx hb dL_law_634 (lv_at hl 4 rfl) ?_
      refine lv_iconst (v := nI 1) hx hb dL_law_636 (by decide) ?_
      refine lv_iadd hx hb dL_law_637 ?_
      refine lv_eqi (v := nI (i + 1)) (nI_add _ _) ?_
      refine va_sld hx hb hXs hbl (Nat.not_le.mpr hbl) hS (vp_in_nI (show i + 1 < L by omega) (by omega)) dL_law_638 ?_
      refine lv_eqi (v := xs (i + 1)) (by rw [nI_clamp (by omega)]) ?_
      refine lv_aload_n hx hb dL_law_639 rfl (lv_at hl 0 rfl) ?_
      refine lv_iload hx hb dL_law_640 (lv_at hl 4 rfl) ?_
      refine lv_iconst (v := nI 2) hx hb dL_law_642 (by decide) ?_
      refine lv_iadd hx hb dL_law_643 ?_
      refine lv_eqi (v := nI (i + 2)) (nI_add _ _) ?_
      refine va_sld hx hb hXs hbl (Nat.not_le.mpr hbl) hS (vp_in_nI (show i + 2 < L by omega) (by omega)) dL_law_644 ?_
      refine lv_eqi (v := xs (i + 2)) (by rw [nI_clamp (by omega)]) ?_
      refine lv_aload_n hx hb dL_law_645 rfl (lv_at hl 0 rfl) ?_
      refine lv_iload hx hb dL_law_646 (lv_at hl 4 rfl) ?_
      refine lv_iconst (v := nI 3) hx hb dL_law_648 (by decide) ?_
      refine lv_iadd hx hb dL_law_649 ?_
      refine lv_eqi (v := nI (i + 3)) (nI_add _ _) ?_
      refine va_sld hx hb hXs hbl (Nat.not_le.mpr hbl) hS (vp_in_nI (show i + 3 < L by omega) (by omega)) dL_law_650 ?_
      refine lv_eqi (v := xs (i + 3)) (by rw [nI_clamp (by omega)]) ?_
      have hP := va_P_as hP
      have hD := va_D_as hD
      refine tw_frS (As := [.ref (o 0), .int (xs (i + 1)), .int (xs (i + 2)), .int (xs (i + 3))]) (rest := []) ⟨hx, hb, hml, hown, hW⟩ (w_bend_2 hl0 hk.pn5 (xs (i + 1)) (xs (i + 2)) (xs (i + 3)) (nI n) mem hX) lE_ok (xw_cw 4 hW tw_358 tw_359 tw_0 tw_360 rfl rfl (by decide +kernel) ⟨Nat.le_of_ble_eq_true rfl, Nat.le_of_ble_eq_true rfl⟩) hP hD hK hS hA hT rfl hl.1 rfl (Nat.le_of_ble_eq_true rfl) dL_law_651 ⟨hc1, hc2⟩ (fun H locs hP hD hS => ?_)
      have hP := va_P_sa hP
      have hD := va_D_sa hD
      have hP : va_P D vwCl (((wC o ad cI cZ cG (nI t) (nI q) (nI u) (nI y) (pnC pq) (nI n) isw mem) ++ wO oa cJ f) ++ wM om am cI cZ th (nI t) (nI q) (nI y) (pvC pq) (nI (pq.getD 0)) (nI b0) ptv wy isw oR memM) H := hP
      have hD : va_D (lwA s) (((wC o ad cI cZ cG (nI t) (nI q) (nI u) (nI y) (pnC pq) (nI n) isw mem) ++ wO oa cJ f) ++ wM om am cI cZ th (nI t) (nI q) (nI y) (pvC pq) (nI (pq.getD 0)) (nI b0) ptv wy isw oR memM) := hD
      refine lv_istore (lv' := [(5, .int (nI 2)), (0, .ref b), (1, .ref (o 0)), (2, .ref (om 0)), (3, .ref oa), (4, .int (nI i))]) hx hb dL_law_654 hl (by decide) rfl (fun ls hl => ?_)
      refine lv_aload_n hx hb dL_law_656 rfl (lv_at hl 3 rfl) ?_
      refine lv_aload_n hx hb dL_law_657 rfl (lv_at hl 1 rfl) ?_
      refine lv_iload hx hb dL_law_658 (lv_at hl 5 rfl) ?_
      refine lv_iconst (v := nI 1) hx hb dL_law_660 (by decide) ?_
      refine lv_iadd hx hb dL_law_661 ?_
      refine lv_eqi (v := nI (i + 1)) (nI_add _ _) ?_
      refine va_sld hx hb hXs hbl (Nat.not_le.mpr hbl) hS (vp_in_nI (show i + 1 < L by omega) (by omega)) dL_law_662 ?_
      refine lv_eqi (v := xs (i + 1)) (by rw [nI_clamp (by omega)]) ?_
      refine lv_aload_n hx hb dL_law_663 rfl (lv_at hl 1 rfl) ?_
      refine lv_iload hx hb dL_law_664 (lv_at hl 5 rfl) ?_
      refine lv_iconst (v := nI 2) hx hb dL_law_666 (by decide) ?_
      refine lv_iadd hx hb dL_law_667 ?_
      refine lv_eqi (v := nI (i + 2)) (nI_add _ _) ?_
      refine va_sld hx hb hXs hbl (Nat.not_le.mpr hbl) hS (vp_in_nI (show i + 2 < L by omega) (by omega)) dL_law_668 ?_
      refine lv_eqi (v := xs (i + 2)) (by rw [nI_clamp (by omega)]) ?_
      refine lv_aload_n hx hb dL_law_669 rfl (lv_at hl 1 rfl) ?_
      refine lv_iload hx hb dL_law_670 (lv_at hl 5 rfl) ?_
      refine lv_iconst (v := nI 3) hx hb dL_law_672 (by decide) ?_
      refine lv_iadd hx hb dL_law_673 ?_
      refine lv_eqi (v := nI (i + 3)) (nI_add _ _) ?_
      refine va_sld hx hb hXs hbl (Nat.not_le.mpr hbl) hS (vp_in_nI (show i + 3 < L by omega) (by omega)) dL_law_674 ?_
      refine lv_eqi (v := xs (i + 3)) (by rw [nI_clamp (by omega)]) ?_
      have hP := va_P_sw hP
      have hD := va_D_sw hD
      refine mv_frV (C := RX2) (As := [.int (xs (i + 1)), .int (xs (i + 2)), .int (xs (i + 3))]) (rest := []) ⟨hx, hb, hml, hown, hW⟩ (n_bend_no (pq.getD 0) (getD_5 hk) (xs (i + 1)) (xs (i + 2)) (xs (i + 3)) memM _ (by rw [← req_pn]; exact hX)) nE_ok (cwV 3 hW (gV tw_696 tw_697 tw_698 tw_3 tw_699) rfl rfl rfl (by decide +kernel) ⟨Nat.le_of_ble_eq_true rfl, Nat.le_of_ble_eq_true rfl⟩) (va_recv hK hP (ci := 2) (q0 := 0) rfl rfl) hP hD (va_K.sub hK [0, 1, 2] rfl) hS hA trivial rfl hl.1 rfl (Nat.le_of_ble_eq_true rfl) dL_law_675 ⟨hc1, hc2⟩ (fun H locs hP hD hS => ?_)
      have hP := va_P_sw hP
      have hD := va_D_sw hD
      have hP : va_P D vwCl (((wC o ad cI cZ cG (nI t) (nI q) (nI u) (nI y) (pnC pq) (nI n) isw mem) ++ wO oa cJ f) ++ wM om am cI cZ (cdL [nIOB, nIAE] nIAE) (nI t) (nI q) (nI y) (pvC pq) (nI (pq.getD 0)) (nI b0) ptv wy isw oR memM) H := hP
      have hD : va_D (lwA s) (((wC o ad cI cZ cG (nI t) (nI q) (nI u) (nI y) (pnC pq) (nI n) isw mem) ++ wO oa cJ f) ++ wM om am cI cZ (cdL [nIOB, nIAE] nIAE) (nI t) (nI q) (nI y) (pvC pq) (nI (pq.getD 0)) (nI b0) ptv wy isw oR memM) := hD
      refine lv_aload_n hx hb dL_law_678 rfl (lv_at hl 3 rfl) ?_
      have hP := va_P_sw hP
      have hD := va_D_sw hD
      refine mi_frV (C := RX2) (As := []) (rest := []) ⟨hx, hb, hml, hown, hW⟩ (n_thrown memM) nE_ok (cwV 0 hW (gV tw_590 tw_591 tw_592 tw_3 tw_593) rfl rfl rfl (by decide +kernel) ⟨Nat.le_of_ble_eq_true rfl, Nat.le_of_ble_eq_true rfl⟩) (va_recv hK hP (ci := 2) (q0 := 0) rfl rfl) hP hD (va_K.sub hK [0, 1, 2] rfl) hS hA trivial rfl hl.1 rfl (Nat.le_of_ble_eq_true rfl) dL_law_679 ⟨hc1, hc2⟩ (fun H locs hP hD hS => ?_)
      have hP := va_P_sw hP
      have hD := va_D_sw hD
      refine lv_eqi (v := nI 2) (by decide +kernel) ?_
      refine lv_iload hx hb dL_law_682 (lv_at hl 0 rfl) ?_
      refine lv_icmp_eq (tgt := 689) hx hb dL_law_684 (by decide) (fun _ => ?_) (fun h9 => absurd rfl h9)
      refine lv_goto (tgt := 1201) hx hb dL_law_689 (by decide) ?_
      exact kk t q y pq u n b0 isw oR mem memM (cdL [nIOB, nIAE] nIAE) ptv wy f H locs ls _ _ hk hP hD hS (lv_sub hl [1, 2, 3, 4, 5] rfl) (Nat.le_refl _) (Nat.le_refl _)
set_option maxHeartbeats 4000000 in
set_option maxRecDepth 100000 in
theorem law_poke {p : Program} {l : Launch} {e : Env} {s : State} {m : MethodId} {below : List Frame} {meth : Method} {c : Code} {b L i cells slots : Nat} {xs : Nat → Int32} {D : va_G} {o ad om am : Nat → Nat} {oa : Nat} {cI cZ cG cJ : ClassId} {Q : State → Prop} {t q y u n b0 : Nat} {pq : Option Nat} {isw oR : Nat → Int32} {mem memM : xMem} {th ptv wy : Int32} {f : Nat → Int64} {H : Heap} {locs : List Loc} {ls : Array Slot} (hC : lawX p l s m meth c b L xs D cI cZ cG cJ) (hk : LK t q y pq u isw mem memM) (hP : va_P D vwCl (lwW o ad om am oa cI cZ cG cJ t q y pq u n b0 isw oR mem memM th ptv wy f) H) (hD : va_D (lwA s) (lwW o ad om am oa cI cZ cG cJ t q y pq u n b0 isw oR mem memM th ptv wy f)) (hS : va_S (lwA s) s.heap H locs) (hl : lv_has ls 7 [(0, .ref b), (1, .ref (o 0)), (2, .ref (om 0)), (3, .ref oa), (4, .int (nI i))]) (hi : i + 7 ≤ L) (hc1 : cells + 3 ≤ 601024) (hc2 : slots + 18 ≤ 7293033) (kk : lawK p l e s m below meth c b Q D o ad om am oa cI cZ cG cJ i cells slots) : W p l e room_1 s m #[Value.ref b] below meth c H locs cells slots Q (F0 m 1141 ls []) := by
  obtain ⟨hx, hb, hml, hown, hW, hXs, hbl, hK, hT, hl0, hL⟩ := hC
  have hA : ∀ q : Nat, s.heap.size ≤ q → lwA s q := fun _ h => h
  have hq24 := hk.q24
  have hy12 := hk.y12
  have ht200 := hk.t200
  have hP : va_P D vwCl (((wC o ad cI cZ cG (nI t) (nI q) (nI u) (nI y) (pnC pq) (nI n) isw mem) ++ wO oa cJ f) ++ wM om am cI cZ th (nI t) (nI q) (nI y) (pvC pq) (nI (pq.getD 0)) (nI b0) ptv wy isw oR memM) H := hP
  have hD : va_D (lwA s) (((wC o ad cI cZ cG (nI t) (nI q) (nI u) (nI y) (pnC pq) (nI n) isw mem) ++ wO oa cJ f) ++ wM om am cI cZ th (nI t) (nI q) (nI y) (pvC pq) (nI (pq.getD 0)) (nI b0) ptv wy isw oR memM) := hD
  rcases hX : (x_req (xs (i + 1)) (nI q)).or ((x_req (xs (i + 2)) (nI 32)).or (x_mask (xs (i + 3)))) with _ | nm
  · obtain ⟨g1, r1⟩ := x_or_none hX
    obtain ⟨g2, g3⟩ := x_or_none r1
    obtain ⟨d, hd, hv⟩ := x_req_none (by omega) g1
    obtain ⟨j, hj, hu⟩ := x_req_none (by decide) g2
    rw [hv, hu] at hX
    refine lv_aload_n hx hb dL_law_1141 rfl (lv_at hl 1 rfl) ?_
    refine lv_aload_n hx hb dL_law_1142 rfl (lv_at hl 0 rfl) ?_
    refine lv_iload hx hb dL_law_1143 (lv_at hl 4 rfl) ?_
    refine lv_iconst (v := nI 1) hx hb dL_law_1145 (by decide) ?_
    refine lv_iadd hx hb dL_law_1146 ?_
    refine lv_eqi (v := nI (i + 1)) (nI_add _ _) ?_
    refine va_sld hx hb hXs hbl (Nat.not_le.mpr hbl) hS (vp_in_nI (show i + 1 < L by omega) (by omega)) dL_law_1147 ?_
    refine lv_eqi (v := nI d) (by rw [nI_clamp (by omega)]; exact hv) ?_
    refine lv_aload_n hx hb dL_law_1148 rfl (lv_at hl 0 rfl) ?_
    refine lv_iload hx hb dL_law_1149 (lv_at hl 4 rfl) ?_
    refine lv_iconst (v := nI 2) hx hb dL_law_1151 (by decide) ?_
    refine lv_iadd hx hb dL_law_1152 ?_
    refine lv_eqi (v := nI (i + 2)) (nI_add _ _) ?_
    refine va_sld hx hb hXs hbl (Nat.not_le.mpr hbl) hS (vp_in_nI (show i + 2 < L by omega) (by omega)) dL_law_1153 ?_
    refine lv_eqi (v := nI j) (by rw [nI_clamp (by omega)]; exact hu) ?_
    refine lv_aload_n hx hb dL_law_1154 rfl (lv_at hl 0 rfl) ?_
    refine lv_iload hx hb dL_law_1155 (lv_at hl 4 rfl) ?_
    refine lv_iconst (v := nI 3) hx hb dL_law_1157 (by decide) ?_
    refine lv_iadd hx hb dL_law_1158 ?_
    refine lv_eqi (v := nI (i + 3)) (nI_add _ _) ?_
    refine va_sld hx hb hXs hbl (Nat.not_le.mpr hbl) hS (vp_in_nI (show i + 3 < L by omega) (by omega)) dL_law_1159 ?_
    refine lv_eqi (v := xs (i + 3)) (by rw [nI_clamp (by omega)]) ?_
    have hP := va_P_as hP
    have hD := va_D_as hD
    refine tw_frS (As := [.ref (o 0), .int (nI d), .int (nI j), .int (xs (i + 3))]) (rest := []) ⟨hx, hb, hml, hown, hW⟩ (w_poke_ok hl0 q hk.q24 (nI d) (nI j) (xs (i + 3)) (nI n) mem hX) lE_ok (xw_cw 4 hW tw_437 tw_438 tw_0 tw_439 rfl rfl (by decide +kernel) ⟨Nat.le_of_ble_eq_true rfl, Nat.le_of_ble_eq_true rfl⟩) hP hD hK hS hA hT rfl hl.1 rfl (Nat.le_of_ble_eq_true rfl) dL_law_1160 ⟨hc1, hc2⟩ (fun H locs hP hD hS => ?_)
    have hP := va_P_sa hP
    have hD := va_D_sa hD
    have hP : va_P D vwCl (((wC o ad cI cZ cG (nI t) (nI q) (nI u) (nI y) (pnC pq) (nI n) isw (p_bend (6 + tn (nI d)) (tn (nI j)) (xs (i + 3)) mem)) ++ wO oa cJ f) ++ wM om am cI cZ th (nI t) (nI q) (nI y) (pvC pq) (nI (pq.getD 0)) (nI b0) ptv wy isw oR memM) H := hP
    have hD : va_D (lwA s) (((wC o ad cI cZ cG (nI t) (nI q) (nI u) (nI y) (pnC pq) (nI n) isw (p_bend (6 + tn (nI d)) (tn (nI j)) (xs (i + 3)) mem)) ++ wO oa cJ f) ++ wM om am cI cZ th (nI t) (nI q) (nI y) (pvC pq) (nI (pq.getD 0)) (nI b0) ptv wy isw oR memM) := hD
    refine lv_istore (lv' := [(5, .int (nI 0)), (0, .ref b), (1, .ref (o 0)), (2, .ref (om 0)), (3, .ref oa), (4, .int (nI i))]) hx hb dL_law_1163 hl (by decide) rfl (fun ls hl => ?_)
    refine lv_aload_n hx hb dL_law_1165 rfl (lv_at hl 3 rfl) ?_
    refine lv_aload_n hx hb dL_law_1166 rfl (lv_at hl 1 rfl) ?_
    refine lv_iload hx hb dL_law_1167 (lv_at hl 5 rfl) ?_
    refine lv_iconst (v := nI 1) hx hb dL_law_1169 (by decide) ?_
    refine lv_iadd hx hb dL_law_1170 ?_
    refine lv_eqi (v := nI (i + 1)) (nI_add _ _) ?_
    refine va_sld hx hb hXs hbl (Nat.not_le.mpr hbl) hS (vp_in_nI (show i + 1 < L by omega) (by omega)) dL_law_1171 ?_
    refine lv_eqi (v := nI d) (by rw [nI_clamp (by omega)]; exact hv) ?_
    refine lv_aload_n hx hb dL_law_1172 rfl (lv_at hl 1 rfl) ?_
    refine lv_iload hx hb dL_law_1173 (lv_at hl 5 rfl) ?_
    refine lv_iconst (v := nI 2) hx hb dL_law_1175 (by decide) ?_
    refine lv_iadd hx hb dL_law_1176 ?_
    refine lv_eqi (v := nI (i + 2)) (nI_add _ _) ?_
    refine va_sld hx hb hXs hbl (Nat.not_le.mpr hbl) hS (vp_in_nI (show i + 2 < L by omega) (by omega)) dL_law_1177 ?_
    refine lv_eqi (v := nI j) (by rw [nI_clamp (by omega)]; exact hu) ?_
    refine lv_aload_n hx hb dL_law_1178 rfl (lv_at hl 1 rfl) ?_
    refine lv_iload hx hb dL_law_1179 (lv_at hl 5 rfl) ?_
    refine lv_iconst (v := nI 3) hx hb dL_law_1181 (by decide) ?_
    refine lv_iadd hx hb dL_law_1182 ?_
    refine lv_eqi (v := nI (i + 3)) (nI_add _ _) ?_
    refine va_sld hx hb hXs hbl (Nat.not_le.mpr hbl) hS (vp_in_nI (show i + 3 < L by omega) (by omega)) dL_law_1183 ?_
    refine lv_eqi (v := xs (i + 3)) (by rw [nI_clamp (by omega)]) ?_
    have hP := va_P_sw hP
    have hD := va_D_sw hD
    refine mv_frV (C := RX2) (As := [.int (nI d), .int (nI j), .int (xs (i + 3))]) (rest := []) ⟨hx, hb, hml, hown, hW⟩ (n_poke q d j hk.q24 hd hj (xs (i + 3)) g3 memM) nE_ok (cwV 3 hW (gV tw_728 tw_729 tw_730 tw_3 tw_731) rfl rfl rfl (by decide +kernel) ⟨Nat.le_of_ble_eq_true rfl, Nat.le_of_ble_eq_true rfl⟩) (va_recv hK hP (ci := 2) (q0 := 0) rfl rfl) hP hD (va_K.sub hK [0, 1, 2] rfl) hS hA trivial rfl hl.1 rfl (Nat.le_of_ble_eq_true rfl) dL_law_1184 ⟨hc1, hc2⟩ (fun H locs hP hD hS => ?_)
    have hP := va_P_sw hP
    have hD := va_D_sw hD
    have hP : va_P D vwCl (((wC o ad cI cZ cG (nI t) (nI q) (nI u) (nI y) (pnC pq) (nI n) isw (p_bend (6 + tn (nI d)) (tn (nI j)) (xs (i + 3)) mem)) ++ wO oa cJ f) ++ wM om am cI cZ (nI 0) (nI t) (nI q) (nI y) (pvC pq) (nI (pq.getD 0)) (nI b0) ptv wy isw oR (m_bend 6 (32 * d + j) (xs (i + 3)) memM)) H := hP
    have hD : va_D (lwA s) (((wC o ad cI cZ cG (nI t) (nI q) (nI u) (nI y) (pnC pq) (nI n) isw (p_bend (6 + tn (nI d)) (tn (nI j)) (xs (i + 3)) mem)) ++ wO oa cJ f) ++ wM om am cI cZ (nI 0) (nI t) (nI q) (nI y) (pvC pq) (nI (pq.getD 0)) (nI b0) ptv wy isw oR (m_bend 6 (32 * d + j) (xs (i + 3)) memM)) := hD
    refine lv_aload_n hx hb dL_law_1187 rfl (lv_at hl 3 rfl) ?_
    have hP := va_P_sw hP
    have hD := va_D_sw hD
    refine mi_frV (C := RX2) (As := []) (rest := []) ⟨hx, hb, hml, hown, hW⟩ (n_thrown (m_bend 6 (32 * d + j) (xs (i + 3)) memM)) nE_ok (cwV 0 hW (gV tw_590 tw_591 tw_592 tw_3 tw_593) rfl rfl rfl (by decide +kernel) ⟨Nat.le_of_ble_eq_true rfl, Nat.le_of_ble_eq_true rfl⟩) (va_recv hK hP (ci := 2) (q0 := 0) rfl rfl) hP hD (va_K.sub hK [0, 1, 2] rfl) hS hA trivial rfl hl.1 rfl (Nat.le_of_ble_eq_true rfl) dL_law_1188 ⟨hc1, hc2⟩ (fun H locs hP hD hS => ?_)
    have hP := va_P_sw hP
    have hD := va_D_sw hD
    refine lv_eqi (v := nI 0) (rfl) ?_
    refine lv_iload hx hb dL_law_1191 (lv_at hl 0 rfl) ?_
    refine lv_icmp_eq (tgt := 1198) hx hb dL_law_1193 (by decide) (fun _ => ?_) (fun h9 => absurd rfl h9)
    refine lv_goto (tgt := 1201) hx hb dL_law_1198 (by decide) ?_
    exact kk t q y pq u n b0 isw oR (p_bend (6 + tn (nI d)) (tn (nI j)) (xs (i + 3)) mem) (m_bend 6 (32 * d + j) (xs (i + 3)) memM) (nI 0) ptv wy f H locs ls _ _ (by rw [tn_nI (by omega), tn_nI (by omega)]; exact hk.poke hd hj (mask_byte g3)) hP hD hS (lv_sub hl [1, 2, 3, 4, 5] rfl) (Nat.le_refl _) (Nat.le_refl _)
  · have hcd : nm = nIOB ∨ nm = nIAE := ((x_or_some hX).elim (fun h1 => (Or.inl (x_req_some h1))) (fun h1 => ((x_or_some h1.2).elim (fun h1 => (Or.inl (x_req_some h1))) (fun h1 => (Or.inr (x_mask_some h1.2))))))
    rcases hcd with rfl | rfl
    · refine lv_aload_n hx hb dL_law_1141 rfl (lv_at hl 1 rfl) ?_
      refine lv_aload_n hx hb dL_law_1142 rfl (lv_at hl 0 rfl) ?_
      refine lv_iload hx hb dL_law_1143 (lv_at hl 4 rfl) ?_
      refine lv_iconst (v := nI 1) hx hb dL_law_1145 (by decide) ?_
      refine lv_iadd hx hb dL_law_1146 ?_
      refine lv_eqi (v := nI (i + 1)) (nI_add _ _) ?_
      refine va_sld hx hb hXs hbl (Nat.not_le.mpr hbl) hS (vp_in_nI (show i + 1 < L by omega) (by omega)) dL_law_1147 ?_
      refine lv_eqi (v := xs (i + 1)) (by rw [nI_clamp (by omega)]) ?_
      refine lv_aload_n hx hb dL_law_1148 rfl (lv_at hl 0 rfl) ?_
      refine lv_iload hx hb dL_law_1149 (lv_at hl 4 rfl) ?_
      refine lv_iconst (v := nI 2) hx hb dL_law_1151 (by decide) ?_
      refine lv_iadd hx hb dL_law_1152 ?_
      refine lv_eqi (v := nI (i + 2)) (nI_add _ _) ?_
      refine va_sld hx hb hXs hbl (Nat.not_le.mpr hbl) hS (vp_in_nI (show i + 2 < L by omega) (by omega)) dL_law_1153 ?_
      refine lv_eqi (v := xs (i + 2)) (by rw [nI_clamp (by omega)]) ?_
      refine lv_aload_n hx hb dL_law_1154 rfl (lv_at hl 0 rfl) ?_
      refine lv_iload hx hb dL_law_1155 (lv_at hl 4 rfl) ?_
      refine lv_iconst (v := nI 3) hx hb dL_law_1157 (by decide) ?_
      refine lv_iadd hx hb dL_law_1158 ?_
      refine lv_eqi (v := nI (i + 3)) (nI_add _ _) ?_
      refine va_sld hx hb hXs hbl (Nat.not_le.mpr hbl) hS (vp_in_nI (show i + 3 < L by omega) (by omega)) dL_law_1159 ?_
      refine lv_eqi (v := xs (i + 3)) (by rw [nI_clamp (by omega)]) ?_
      have hP := va_P_as hP
      have hD := va_D_as hD
      refine tw_frS (As := [.ref (o 0), .int (xs (i + 1)), .int (xs (i + 2)), .int (xs (i + 3))]) (rest := []) ⟨hx, hb, hml, hown, hW⟩ (w_poke_1 hl0 q hk.q24 (xs (i + 1)) (xs (i + 2)) (xs (i + 3)) (nI n) mem hX) lE_ok (xw_cw 4 hW tw_437 tw_438 tw_0 tw_439 rfl rfl (by decide +kernel) ⟨Nat.le_of_ble_eq_true rfl, Nat.le_of_ble_eq_true rfl⟩) hP hD hK hS hA hT rfl hl.1 rfl (Nat.le_of_ble_eq_true rfl) dL_law_1160 ⟨hc1, hc2⟩ (fun H locs hP hD hS => ?_)
      have hP := va_P_sa hP
      have hD := va_D_sa hD
      have hP : va_P D vwCl (((wC o ad cI cZ cG (nI t) (nI q) (nI u) (nI y) (pnC pq) (nI n) isw mem) ++ wO oa cJ f) ++ wM om am cI cZ th (nI t) (nI q) (nI y) (pvC pq) (nI (pq.getD 0)) (nI b0) ptv wy isw oR memM) H := hP
      have hD : va_D (lwA s) (((wC o ad cI cZ cG (nI t) (nI q) (nI u) (nI y) (pnC pq) (nI n) isw mem) ++ wO oa cJ f) ++ wM om am cI cZ th (nI t) (nI q) (nI y) (pvC pq) (nI (pq.getD 0)) (nI b0) ptv wy isw oR memM) := hD
      refine lv_istore (lv' := [(5, .int (nI 1)), (0, .ref b), (1, .ref (o 0)), (2, .ref (om 0)), (3, .ref oa), (4, .int (nI i))]) hx hb dL_law_1163 hl (by decide) rfl (fun ls hl => ?_)
      refine lv_aload_n hx hb dL_law_1165 rfl (lv_at hl 3 rfl) ?_
      refine lv_aload_n hx hb dL_law_1166 rfl (lv_at hl 1 rfl) ?_
      refine lv_iload hx hb dL_law_1167 (lv_at hl 5 rfl) ?_
      refine lv_iconst (v := nI 1) hx hb dL_law_1169 (by decide) ?_
      refine lv_iadd hx hb dL_law_1170 ?_
      refine lv_eqi (v := nI (i + 1)) (nI_add _ _) ?_
      refine va_sld hx hb hXs hbl (Nat.not_le.mpr hbl) hS (vp_in_nI (show i + 1 < L by omega) (by omega)) dL_law_1171 ?_
      refine lv_eqi (v := xs (i + 1)) (by rw [nI_clamp (by omega)]) ?_
      refine lv_aload_n hx hb dL_law_1172 rfl (lv_at hl 1 rfl) ?_
      refine lv_iload hx hb dL_law_1173 (lv_at hl 5 rfl) ?_
      refine lv_iconst (v := nI 2) hx hb dL_law_1175 (by decide) ?_
      refine lv_iadd hx hb dL_law_1176 ?_
      refine lv_eqi (v := nI (i + 2)) (nI_add _ _) ?_
      refine va_sld hx hb hXs hbl (Nat.not_le.mpr hbl) hS (vp_in_nI (show i + 2 < L by omega) (by omega)) dL_law_1177 ?_
      refine lv_eqi (v := xs (i + 2)) (by rw [nI_clamp (by omega)]) ?_
      refine lv_aload_n hx hb dL_law_1178 rfl (lv_at hl 1 rfl) ?_
      refine lv_iload hx hb dL_law_1179 (lv_at hl 5 rfl) ?_
      refine lv_iconst (v := nI 3) hx hb dL_law_1181 (by decide) ?_
      refine lv_iadd hx hb dL_law_1182 ?_
      refine lv_eqi (v := nI (i + 3)) (nI_add _ _) ?_
      refine va_sld hx hb hXs hbl (Nat.not_le.mpr hbl) hS (vp_in_nI (show i + 3 < L by omega) (by omega)) dL_law_1183 ?_
      refine lv_eqi (v := xs (i + 3)) (by rw [nI_clamp (by omega)]) ?_
      have hP := va_P_sw hP
      have hD := va_D_sw hD
      refine mv_frV (C := RX2) (As := [.int (xs (i + 1)), .int (xs (i + 2)), .int (xs (i + 3))]) (rest := []) ⟨hx, hb, hml, hown, hW⟩ (n_poke_no q hk.q24 (xs (i + 1)) (xs (i + 2)) (xs (i + 3)) memM _ hX) nE_ok (cwV 3 hW (gV tw_728 tw_729 tw_730 tw_3 tw_731) rfl rfl rfl (by decide +kernel) ⟨Nat.le_of_ble_eq_true rfl, Nat.le_of_ble_eq_true rfl⟩) (va_recv hK hP (ci := 2) (q0 := 0) rfl rfl) hP hD (va_K.sub hK [0, 1, 2] rfl) hS hA trivial rfl hl.1 rfl (Nat.le_of_ble_eq_true rfl) dL_law_1184 ⟨hc1, hc2⟩ (fun H locs hP hD hS => ?_)
      have hP := va_P_sw hP
      have hD := va_D_sw hD
      have hP : va_P D vwCl (((wC o ad cI cZ cG (nI t) (nI q) (nI u) (nI y) (pnC pq) (nI n) isw mem) ++ wO oa cJ f) ++ wM om am cI cZ (cdL [nIOB, nIAE] nIOB) (nI t) (nI q) (nI y) (pvC pq) (nI (pq.getD 0)) (nI b0) ptv wy isw oR memM) H := hP
      have hD : va_D (lwA s) (((wC o ad cI cZ cG (nI t) (nI q) (nI u) (nI y) (pnC pq) (nI n) isw mem) ++ wO oa cJ f) ++ wM om am cI cZ (cdL [nIOB, nIAE] nIOB) (nI t) (nI q) (nI y) (pvC pq) (nI (pq.getD 0)) (nI b0) ptv wy isw oR memM) := hD
      refine lv_aload_n hx hb dL_law_1187 rfl (lv_at hl 3 rfl) ?_
      have hP := va_P_sw hP
      have hD := va_D_sw hD
      refine mi_frV (C := RX2) (As := []) (rest := []) ⟨hx, hb, hml, hown, hW⟩ (n_thrown memM) nE_ok (cwV 0 hW (gV tw_590 tw_591 tw_592 tw_3 tw_593) rfl rfl rfl (by decide +kernel) ⟨Nat.le_of_ble_eq_true rfl, Nat.le_of_ble_eq_true rfl⟩) (va_recv hK hP (ci := 2) (q0 := 0) rfl rfl) hP hD (va_K.sub hK [0, 1, 2] rfl) hS hA trivial rfl hl.1 rfl (Nat.le_of_ble_eq_true rfl) dL_law_1188 ⟨hc1, hc2⟩ (fun H locs hP hD hS => ?_)
      have hP := va_P_sw hP
      have hD := va_D_sw hD
      refine lv_eqi (v := nI 1) (by decide +kernel) ?_
      refine lv_iload hx hb dL_law_1191 (lv_at hl 0 rfl) ?_
      refine lv_icmp_eq (tgt := 1198) hx hb dL_law_1193 (by decide) (fun _ => ?_) (fun h9 => absurd rfl h9)
      refine lv_goto (tgt := 1201) hx hb dL_law_1198 (by decide) ?_
      exact kk t q y pq u n b0 isw oR mem memM (cdL [nIOB, nIAE] nIOB) ptv wy f H locs ls _ _ hk hP hD hS (lv_sub hl [1, 2, 3, 4, 5] rfl) (Nat.le_refl _) (Nat.le_refl _)
    · refine lv_aload_n hx hb dL_law_1141 rfl (lv_at hl 1 rfl) ?_
      refine lv_aload_n hx hb dL_law_1142 rfl (lv_at hl 0 rfl) ?_
      refine lv_iload hx hb dL_law_1143 (lv_at hl 4 rfl) ?_
      refine lv_iconst (v := nI 1) hx hb dL_law_1145 (by decide) ?_
      refine lv_iadd hx hb dL_law_1146 ?_
      refine lv_eqi (v := nI (i + 1)) (nI_add _ _) ?_
      refine va_sld hx hb hXs hbl (Nat.not_le.mpr hbl) hS (vp_in_nI (show i + 1 < L by omega) (by omega)) dL_law_1147 ?_
      refine lv_eqi (v := xs (i + 1)) (by rw [nI_clamp (by omega)]) ?_
      refine lv_aload_n hx hb dL_law_1148 rfl (lv_at hl 0 rfl) ?_
      refine lv_iload hx hb dL_law_1149 (lv_at hl 4 rfl) ?_
      refine lv_iconst (v := nI 2) hx hb dL_law_1151 (by decide) ?_
      refine lv_iadd hx hb dL_law_1152 ?_
      refine lv_eqi (v := nI (i + 2)) (nI_add _ _) ?_
      refine va_sld hx hb hXs hbl (Nat.not_le.mpr hbl) hS (vp_in_nI (show i + 2 < L by omega) (by omega)) dL_law_1153 ?_
      refine lv_eqi (v := xs (i + 2)) (by rw [nI_clamp (by omega)]) ?_
      refine lv_aload_n hx hb dL_law_1154 rfl (lv_at hl 0 rfl) ?_
      refine lv_iload hx hb dL_law_1155 (lv_at hl 4 rfl) ?_
      refine lv_iconst (v := nI 3) hx hb dL_law_1157 (by decide) ?_
      refine lv_iadd hx hb dL_law_1158 ?_
      refine lv_eqi (v := nI (i + 3)) (nI_add _ _) ?_
      refine va_sld hx hb hXs hbl (Nat.not_le.mpr hbl) hS (vp_in_nI (show i + 3 < L by omega) (by omega)) dL_law_1159 ?_
      refine lv_eqi (v := xs (i + 3)) (by rw [nI_clamp (by omega)]) ?_
      have hP := va_P_as hP
      have hD := va_D_as hD
      refine tw_frS (As := [.ref (o 0), .int (xs (i + 1)), .int (xs (i + 2)), .int (xs (i + 3))]) (rest := []) ⟨hx, hb, hml, hown, hW⟩ (w_poke_2 hl0 q hk.q24 (xs (i + 1)) (xs (i + 2)) (xs (i + 3)) (nI n) mem hX) lE_ok (xw_cw 4 hW tw_437 tw_438 tw_0 tw_439 rfl rfl (by decide +kernel) ⟨Nat.le_of_ble_eq_true rfl, Nat.le_of_ble_eq_true rfl⟩) hP hD hK hS hA hT rfl hl.1 rfl (Nat.le_of_ble_eq_true rfl) dL_law_1160 ⟨hc1, hc2⟩ (fun H locs hP hD hS => ?_)
      have hP := va_P_sa hP
      have hD := va_D_sa hD
      have hP : va_P D vwCl (((wC o ad cI cZ cG (nI t) (nI q) (nI u) (nI y) (pnC pq) (nI n) isw mem) ++ wO oa cJ f) ++ wM om am cI cZ th (nI t) (nI q) (nI y) (pvC pq) (nI (pq.getD 0)) (nI b0) ptv wy isw oR memM) H := hP
      have hD : va_D (lwA s) (((wC o ad cI cZ cG (nI t) (nI q) (nI u) (nI y) (pnC pq) (nI n) isw mem) ++ wO oa cJ f) ++ wM om am cI cZ th (nI t) (nI q) (nI y) (pvC pq) (nI (pq.getD 0)) (nI b0) ptv wy isw oR memM) := hD
      refine lv_istore (lv' := [(5, .int (nI 2)), (0, .ref b), (1, .ref (o 0)), (2, .ref (om 0)), (3, .ref oa), (4, .int (nI i))]) hx hb dL_law_1163 hl (by decide) rfl (fun ls hl => ?_)
      refine lv_aload_n hx hb dL_law_1165 rfl (lv_at hl 3 rfl) ?_
      refine lv_aload_n hx hb dL_law_1166 rfl (lv_at hl 1 rfl) ?_
      refine lv_iload hx hb dL_law_1167 (lv_at hl 5 rfl) ?_
      refine lv_iconst (v := nI 1) hx hb dL_law_1169 (by decide) ?_
      refine lv_iadd hx hb dL_law_1170 ?_
      refine lv_eqi (v := nI (i + 1)) (nI_add _ _) ?_
      refine va_sld hx hb hXs hbl (Nat.not_le.mpr hbl) hS (vp_in_nI (show i + 1 < L by omega) (by omega)) dL_law_1171 ?_
      refine lv_eqi (v := xs (i + 1)) (by rw [nI_clamp (by omega)]) ?_
      refine lv_aload_n hx hb dL_law_1172 rfl (lv_at hl 1 rfl) ?_
      refine lv_iload hx hb dL_law_1173 (lv_at hl 5 rfl) ?_
      refine lv_iconst (v := nI 2) hx hb dL_law_1175 (by decide) ?_
      refine lv_iadd hx hb dL_law_1176 ?_
      refine lv_eqi (v := nI (i + 2)) (nI_add _ _) ?_
      refine va_sld hx hb hXs hbl (Nat.not_le.mpr hbl) hS (vp_in_nI (show i + 2 < L by omega) (by omega)) dL_law_1177 ?_
      refine lv_eqi (v := xs (i + 2)) (by rw [nI_clamp (by omega)]) ?_
      refine lv_aload_n hx hb dL_law_1178 rfl (lv_at hl 1 rfl) ?_
      refine lv_iload hx hb dL_law_1179 (lv_at hl 5 rfl) ?_
      refine lv_iconst (v := nI 3) hx hb dL_law_1181 (by decide) ?_
      refine lv_iadd hx hb dL_law_1182 ?_
      refine lv_eqi (v := nI (i + 3)) (nI_add _ _) ?_
      refine va_sld hx hb hXs hbl (Nat.not_le.mpr hbl) hS (vp_in_nI (show i + 3 < L by omega) (by omega)) dL_law_1183 ?_
      refine lv_eqi (v := xs (i + 3)) (by rw [nI_clamp (by omega)]) ?_
      have hP := va_P_sw hP
      have hD := va_D_sw hD
      refine mv_frV (C := RX2) (As := [.int (xs (i + 1)), .int (xs (i + 2)), .int (xs (i + 3))]) (rest := []) ⟨hx, hb, hml, hown, hW⟩ (n_poke_no q hk.q24 (xs (i + 1)) (xs (i + 2)) (xs (i + 3)) memM _ hX) nE_ok (cwV 3 hW (gV tw_728 tw_729 tw_730 tw_3 tw_731) rfl rfl rfl (by decide +kernel) ⟨Nat.le_of_ble_eq_true rfl, Nat.le_of_ble_eq_true rfl⟩) (va_recv hK hP (ci := 2) (q0 := 0) rfl rfl) hP hD (va_K.sub hK [0, 1, 2] rfl) hS hA trivial rfl hl.1 rfl (Nat.le_of_ble_eq_true rfl) dL_law_1184 ⟨hc1, hc2⟩ (fun H locs hP hD hS => ?_)
      have hP := va_P_sw hP
      have hD := va_D_sw hD
      have hP : va_P D vwCl (((wC o ad cI cZ cG (nI t) (nI q) (nI u) (nI y) (pnC pq) (nI n) isw mem) ++ wO oa cJ f) ++ wM om am cI cZ (cdL [nIOB, nIAE] nIAE) (nI t) (nI q) (nI y) (pvC pq) (nI (pq.getD 0)) (nI b0) ptv wy isw oR memM) H := hP
      have hD : va_D (lwA s) (((wC o ad cI cZ cG (nI t) (nI q) (nI u) (nI y) (pnC pq) (nI n) isw mem) ++ wO oa cJ f) ++ wM om am cI cZ (cdL [nIOB, nIAE] nIAE) (nI t) (nI q) (nI y) (pvC pq) (nI (pq.getD 0)) (nI b0) ptv wy isw oR memM) := hD
      refine lv_aload_n hx hb dL_law_1187 rfl (lv_at hl 3 rfl) ?_
      have hP := va_P_sw hP
      have hD := va_D_sw hD
      refine mi_frV (C := RX2) (As := []) (rest := []) ⟨hx, hb, hml, hown, hW⟩ (n_thrown memM) nE_ok (cwV 0 hW (gV tw_590 tw_591 tw_592 tw_3 tw_593) rfl rfl rfl (by decide +kernel) ⟨Nat.le_of_ble_eq_true rfl, Nat.le_of_ble_eq_true rfl⟩) (va_recv hK hP (ci := 2) (q0 := 0) rfl rfl) hP hD (va_K.sub hK [0, 1, 2] rfl) hS hA trivial rfl hl.1 rfl (Nat.le_of_ble_eq_true rfl) dL_law_1188 ⟨hc1, hc2⟩ (fun H locs hP hD hS => ?_)
      have hP := va_P_sw hP
      have hD := va_D_sw hD
      refine lv_eqi (v := nI 2) (by decide +kernel) ?_
      refine lv_iload hx hb dL_law_1191 (lv_at hl 0 rfl) ?_
      refine lv_icmp_eq (tgt := 1198) hx hb dL_law_1193 (by decide) (fun _ => ?_) (fun h9 => absurd rfl h9)
      refine lv_goto (tgt := 1201) hx hb dL_law_1198 (by decide) ?_
      exact kk t q y pq u n b0 isw oR mem memM (cdL [nIOB, nIAE] nIAE) ptv wy f H locs ls _ _ hk hP hD hS (lv_sub hl [1, 2, 3, 4, 5] rfl) (Nat.le_refl _) (Nat.le_refl _)
set_option maxHeartbeats 4000000 in
set_option maxRecDepth 100000 in
theorem law_feed {p : Program} {l : Launch} {e : Env} {s : State} {m : MethodId} {below : List Frame} {meth : Method} {c : Code} {b L i cells slots : Nat} {xs : Nat → Int32} {D : va_G} {o ad om am : Nat → Nat} {oa : Nat} {cI cZ cG cJ : ClassId} {Q : State → Prop} {t q y u n b0 : Nat} {pq : Option Nat} {isw oR : Nat → Int32} {mem memM : xMem} {th ptv wy : Int32} {f : Nat → Int64} {H : Heap} {locs : List Loc} {ls : Array Slot} (hC : lawX p l s m meth c b L xs D cI cZ cG cJ) (hk : LK t q y pq u isw mem memM) (hP : va_P D vwCl (lwW o ad om am oa cI cZ cG cJ t q y pq u n b0 isw oR mem memM th ptv wy f) H) (hD : va_D (lwA s) (lwW o ad om am oa cI cZ cG cJ t q y pq u n b0 isw oR mem memM th ptv wy f)) (hS : va_S (lwA s) s.heap H locs) (hl : lv_has ls 7 [(0, .ref b), (1, .ref (o 0)), (2, .ref (om 0)), (3, .ref oa), (4, .int (nI i))]) (hi : i + 7 ≤ L) (hc1 : cells + 3 ≤ 601024) (hc2 : slots + 18 ≤ 7293033) (kk : lawK p l e s m below meth c b Q D o ad om am oa cI cZ cG cJ i cells slots) : W p l e room_1 s m #[Value.ref b] below meth c H locs cells slots Q (F0 m 116 ls []) := by
  obtain ⟨hx, hb, hml, hown, hW, hXs, hbl, hK, hT, hl0, hL⟩ := hC
  have hA : ∀ q : Nat, s.heap.size ≤ q → lwA s q := fun _ h => h
  have hq24 := hk.q24
  have hy12 := hk.y12
  have ht200 := hk.t200
  have hP : va_P D vwCl (((wC o ad cI cZ cG (nI t) (nI q) (nI u) (nI y) (pnC pq) (nI n) isw mem) ++ wO oa cJ f) ++ wM om am cI cZ th (nI t) (nI q) (nI y) (pvC pq) (nI (pq.getD 0)) (nI b0) ptv wy isw oR memM) H := hP
  have hD : va_D (lwA s) (((wC o ad cI cZ cG (nI t) (nI q) (nI u) (nI y) (pnC pq) (nI n) isw mem) ++ wO oa cJ f) ++ wM om am cI cZ th (nI t) (nI q) (nI y) (pvC pq) (nI (pq.getD 0)) (nI b0) ptv wy isw oR memM) := hD
  rcases hX : x_feed (nI t) (xs (i + 3)) with _ | nm
  · obtain ⟨w, w1, w8, w2, hv⟩ := x_feed_none hk.t200 hX
    rw [hv] at hX
    refine lv_aload_n hx hb dL_law_116 rfl (lv_at hl 1 rfl) ?_
    refine lv_aload_n hx hb dL_law_117 rfl (lv_at hl 0 rfl) ?_
    refine lv_iload hx hb dL_law_118 (lv_at hl 4 rfl) ?_
    refine lv_iconst (v := nI 1) hx hb dL_law_120 (by decide) ?_
    refine lv_iadd hx hb dL_law_121 ?_
    refine lv_eqi (v := nI (i + 1)) (nI_add _ _) ?_
    refine va_sld hx hb hXs hbl (Nat.not_le.mpr hbl) hS (vp_in_nI (show i + 1 < L by omega) (by omega)) dL_law_122 ?_
    refine lv_eqi (v := xs (i + 1)) (by rw [nI_clamp (by omega)]) ?_
    refine lv_i2l (v := (xs (i + 1)).toInt64) hx hb dL_law_123 rfl ?_
    refine lv_bipush (v := nI 32) hx hb dL_law_124 (by decide) ?_
    refine lv_lshl (v := (xs (i + 1)).toInt64 <<< ((nI 32).toInt64 &&& 63)) hx hb dL_law_126 rfl ?_
    refine lv_aload_n hx hb dL_law_127 rfl (lv_at hl 0 rfl) ?_
    refine lv_iload hx hb dL_law_128 (lv_at hl 4 rfl) ?_
    refine lv_iconst (v := nI 2) hx hb dL_law_130 (by decide) ?_
    refine lv_iadd hx hb dL_law_131 ?_
    refine lv_eqi (v := nI (i + 2)) (nI_add _ _) ?_
    refine va_sld hx hb hXs hbl (Nat.not_le.mpr hbl) hS (vp_in_nI (show i + 2 < L by omega) (by omega)) dL_law_132 ?_
    refine lv_eqi (v := xs (i + 2)) (by rw [nI_clamp (by omega)]) ?_
    refine lv_i2l (v := (xs (i + 2)).toInt64) hx hb dL_law_133 rfl ?_
    refine lv_ldc2 (v := lN 4294967295) hx hb hown (hW _ tw_732) dL_law_134 ?_
    refine lv_land hx hb dL_law_137 ?_
    refine lv_lor hx hb dL_law_138 ?_
    refine lv_eql (v := lgX (xs (i + 1)) (xs (i + 2))) rfl ?_
    refine lv_aload_n hx hb dL_law_139 rfl (lv_at hl 0 rfl) ?_
    refine lv_iload hx hb dL_law_140 (lv_at hl 4 rfl) ?_
    refine lv_iconst (v := nI 3) hx hb dL_law_142 (by decide) ?_
    refine lv_iadd hx hb dL_law_143 ?_
    refine lv_eqi (v := nI (i + 3)) (nI_add _ _) ?_
    refine va_sld hx hb hXs hbl (Nat.not_le.mpr hbl) hS (vp_in_nI (show i + 3 < L by omega) (by omega)) dL_law_144 ?_
    refine lv_eqi (v := nI w) (by rw [nI_clamp (by omega)]; exact hv) ?_
    refine lv_aload_n hx hb dL_law_145 rfl (lv_at hl 3 rfl) ?_
    refine tw_frS (As := [.ref (o 0), .long (lgX (xs (i + 1)) (xs (i + 2))), .int (nI w), .ref oa]) (rest := []) ⟨hx, hb, hml, hown, hW⟩ (w_feed_ok hl0 oa f t hk.t200 (nI w) (nI n) (lgX (xs (i + 1)) (xs (i + 2))) mem hX) lE_ok (xw_cw 4 hW tw_88 tw_89 tw_0 tw_90 rfl rfl (by decide +kernel) ⟨Nat.le_of_ble_eq_true rfl, Nat.le_of_ble_eq_true rfl⟩) hP hD hK hS hA hT rfl hl.1 rfl (Nat.le_of_ble_eq_true rfl) dL_law_146 ⟨hc1, hc2⟩ (fun H locs hP hD hS => ?_)
    rw [nI_add t w] at hP hD
    have hP : va_P D vwCl (((wC o ad cI cZ cG (nI (t + w)) (nI q) (nI u) (nI y) (pnC pq) (nI n) isw (p_feed (lgX (xs (i + 1)) (xs (i + 2))) t (tn (nI w)) (tn (nI w)) mem)) ++ wO oa cJ (vp_updL f 0 ((nI (t + w)).toInt64))) ++ wM om am cI cZ th (nI t) (nI q) (nI y) (pvC pq) (nI (pq.getD 0)) (nI b0) ptv wy isw oR memM) H := hP
    have hD : va_D (lwA s) (((wC o ad cI cZ cG (nI (t + w)) (nI q) (nI u) (nI y) (pnC pq) (nI n) isw (p_feed (lgX (xs (i + 1)) (xs (i + 2))) t (tn (nI w)) (tn (nI w)) mem)) ++ wO oa cJ (vp_updL f 0 ((nI (t + w)).toInt64))) ++ wM om am cI cZ th (nI t) (nI q) (nI y) (pvC pq) (nI (pq.getD 0)) (nI b0) ptv wy isw oR memM) := hD
    refine lv_istore (lv' := [(5, .int (nI 0)), (0, .ref b), (1, .ref (o 0)), (2, .ref (om 0)), (3, .ref oa), (4, .int (nI i))]) hx hb dL_law_149 hl (by decide) rfl (fun ls hl => ?_)
    refine lv_aload_n hx hb dL_law_151 rfl (lv_at hl 3 rfl) ?_
    refine lv_aload_n hx hb dL_law_152 rfl (lv_at hl 1 rfl) ?_
    refine lv_iload hx hb dL_law_153 (lv_at hl 5 rfl) ?_
    refine lv_iconst (v := nI 1) hx hb dL_law_155 (by decide) ?_
    refine lv_iadd hx hb dL_law_156 ?_
    refine lv_eqi (v := nI (i + 1)) (nI_add _ _) ?_
    refine va_sld hx hb hXs hbl (Nat.not_le.mpr hbl) hS (vp_in_nI (show i + 1 < L by omega) (by omega)) dL_law_157 ?_
    refine lv_eqi (v := xs (i + 1)) (by rw [nI_clamp (by omega)]) ?_
    refine lv_i2l (v := (xs (i + 1)).toInt64) hx hb dL_law_158 rfl ?_
    refine lv_bipush (v := nI 32) hx hb dL_law_159 (by decide) ?_
    refine lv_lshl (v := (xs (i + 1)).toInt64 <<< ((nI 32).toInt64 &&& 63)) hx hb dL_law_161 rfl ?_
    refine lv_aload_n hx hb dL_law_162 rfl (lv_at hl 1 rfl) ?_
    refine lv_iload hx hb dL_law_163 (lv_at hl 5 rfl) ?_
    refine lv_iconst (v := nI 2) hx hb dL_law_165 (by decide) ?_
    refine lv_iadd hx hb dL_law_166 ?_
    refine lv_eqi (v := nI (i + 2)) (nI_add _ _) ?_
    refine va_sld hx hb hXs hbl (Nat.not_le.mpr hbl) hS (vp_in_nI (show i + 2 < L by omega) (by omega)) dL_law_167 ?_
    refine lv_eqi (v := xs (i + 2)) (by rw [nI_clamp (by omega)]) ?_
    refine lv_i2l (v := (xs (i + 2)).toInt64) hx hb dL_law_168 rfl ?_
    refine lv_ldc2 (v := lN 4294967295) hx hb hown (hW _ tw_732) dL_law_169 ?_
    refine lv_land hx hb dL_law_172 ?_
    refine lv_lor hx hb dL_law_173 ?_
    refine lv_eql (v := lgX (xs (i + 1)) (xs (i + 2))) rfl ?_
    refine lv_aload_n hx hb dL_law_174 rfl (lv_at hl 1 rfl) ?_
    refine lv_iload hx hb dL_law_175 (lv_at hl 5 rfl) ?_
    refine lv_iconst (v := nI 3) hx hb dL_law_177 (by decide) ?_
    refine lv_iadd hx hb dL_law_178 ?_
    refine lv_eqi (v := nI (i + 3)) (nI_add _ _) ?_
    refine va_sld hx hb hXs hbl (Nat.not_le.mpr hbl) hS (vp_in_nI (show i + 3 < L by omega) (by omega)) dL_law_179 ?_
    refine lv_eqi (v := nI w) (by rw [nI_clamp (by omega)]; exact hv) ?_
    have hP := va_P_sw hP
    have hD := va_D_sw hD
    refine mi_frV (C := RX2) (As := [.long (lgX (xs (i + 1)) (xs (i + 2))), .int (nI w)]) (rest := []) ⟨hx, hb, hml, hown, hW⟩ (n_feed t w w1 w8 w2 (lgX (xs (i + 1)) (xs (i + 2))) memM) nE_ok (cwV 2 hW (gV tw_594 tw_595 tw_596 tw_3 tw_597) rfl rfl rfl (by decide +kernel) ⟨Nat.le_of_ble_eq_true rfl, Nat.le_of_ble_eq_true rfl⟩) (va_recv hK hP (ci := 2) (q0 := 0) rfl rfl) hP hD (va_K.sub hK [0, 1, 2] rfl) hS hA trivial rfl hl.1 rfl (Nat.le_of_ble_eq_true rfl) dL_law_180 ⟨hc1, hc2⟩ (fun H locs hP hD hS => ?_)
    have hP := va_P_sw hP
    have hD := va_D_sw hD
    have hP : va_P D vwCl (((wC o ad cI cZ cG (nI (t + w)) (nI q) (nI u) (nI y) (pnC pq) (nI n) isw (p_feed (lgX (xs (i + 1)) (xs (i + 2))) t (tn (nI w)) (tn (nI w)) mem)) ++ wO oa cJ (vp_updL f 0 ((nI (t + w)).toInt64))) ++ wM om am cI cZ (nI 0) (nI (t + w)) (nI q) (nI y) (pvC pq) (nI (pq.getD 0)) (nI b0) ptv wy isw oR (p_feed (lgX (xs (i + 1)) (xs (i + 2))) t w w memM)) H := hP
    have hD : va_D (lwA s) (((wC o ad cI cZ cG (nI (t + w)) (nI q) (nI u) (nI y) (pnC pq) (nI n) isw (p_feed (lgX (xs (i + 1)) (xs (i + 2))) t (tn (nI w)) (tn (nI w)) mem)) ++ wO oa cJ (vp_updL f 0 ((nI (t + w)).toInt64))) ++ wM om am cI cZ (nI 0) (nI (t + w)) (nI q) (nI y) (pvC pq) (nI (pq.getD 0)) (nI b0) ptv wy isw oR (p_feed (lgX (xs (i + 1)) (xs (i + 2))) t w w memM)) := hD
    refine lv_istore (lv' := [(6, .int (nI (t + w))), (5, .int (nI 0)), (0, .ref b), (1, .ref (o 0)), (2, .ref (om 0)), (3, .ref oa), (4, .int (nI i))]) hx hb dL_law_183 hl (by decide) rfl (fun ls hl => ?_)
    refine lv_aload_n hx hb dL_law_185 rfl (lv_at hl 4 rfl) ?_
    have hP := va_P_sw hP
    have hD := va_D_sw hD
    refine mi_frV (C := RX2) (As := []) (rest := []) ⟨hx, hb, hml, hown, hW⟩ (n_thrown (p_feed (lgX (xs (i + 1)) (xs (i + 2))) t w w memM)) nE_ok (cwV 0 hW (gV tw_590 tw_591 tw_592 tw_3 tw_593) rfl rfl rfl (by decide +kernel) ⟨Nat.le_of_ble_eq_true rfl, Nat.le_of_ble_eq_true rfl⟩) (va_recv hK hP (ci := 2) (q0 := 0) rfl rfl) hP hD (va_K.sub hK [0, 1, 2] rfl) hS hA trivial rfl hl.1 rfl (Nat.le_of_ble_eq_true rfl) dL_law_186 ⟨hc1, hc2⟩ (fun H locs hP hD hS => ?_)
    have hP := va_P_sw hP
    have hD := va_D_sw hD
    refine lv_eqi (v := nI 0) (rfl) ?_
    refine lv_iload hx hb dL_law_189 (lv_at hl 1 rfl) ?_
    refine lv_icmp_eq (tgt := 196) hx hb dL_law_191 (by decide) (fun _ => ?_) (fun h9 => absurd rfl h9)
    refine lv_iload hx hb dL_law_196 (lv_at hl 1 rfl) ?_
    refine lv_if_ne (tgt := 213) hx hb dL_law_198 (by decide) (fun h9 => absurd (show nI 0 = (0 : Int32) from rfl) h9) (fun _ => ?_)
    refine lv_aload_n hx hb dL_law_201 rfl (lv_at hl 5 rfl) ?_
    refine lv_iconst (v := nI 0) hx hb dL_law_202 (by decide) ?_
    refine va_lald hx hb hK (va_P_right (va_P_left hP)) 0 3 rfl rfl (vp_in_nI (show 0 < 1 by decide) (by decide)) dL_law_203 ?_
    refine lv_eql (v := (nI (t + w)).toInt64) (updL_0 _ _) ?_
    refine lv_iload hx hb dL_law_204 (lv_at hl 0 rfl) ?_
    refine lv_i2l (v := (nI (t + w)).toInt64) hx hb dL_law_206 rfl ?_
    refine W.lcmp hx hb dL_law_207 ?_
    refine lv_eqi (v := nI 0) (lcmp_self _) ?_
    refine lv_if_eq (tgt := 213) hx hb dL_law_208 (by decide) (fun _ => ?_) (fun h9 => absurd (show nI 0 = (0 : Int32) from rfl) h9)
    refine lv_goto (tgt := 1201) hx hb dL_law_213 (by decide) ?_
    exact kk (t + w) q y pq u n b0 isw oR (p_feed (lgX (xs (i + 1)) (xs (i + 2))) t (tn (nI w)) (tn (nI w)) mem) (p_feed (lgX (xs (i + 1)) (xs (i + 2))) t w w memM) (nI 0) ptv wy (vp_updL f 0 ((nI (t + w)).toInt64)) H locs ls _ _ (by rw [tn_nI (by omega)]; exact hk.feed w2 _) hP hD hS (lv_sub hl [2, 3, 4, 5, 6] rfl) (Nat.le_refl _) (Nat.le_refl _)
  · have hcd : nm = nIAE ∨ nm = nUOE := x_feed_some hX
    rcases hcd with rfl | rfl
    · refine lv_aload_n hx hb dL_law_116 rfl (lv_at hl 1 rfl) ?_
      refine lv_aload_n hx hb dL_law_117 rfl (lv_at hl 0 rfl) ?_
      refine lv_iload hx hb dL_law_118 (lv_at hl 4 rfl) ?_
      refine lv_iconst (v := nI 1) hx hb dL_law_120 (by decide) ?_
      refine lv_iadd hx hb dL_law_121 ?_
      refine lv_eqi (v := nI (i + 1)) (nI_add _ _) ?_
      refine va_sld hx hb hXs hbl (Nat.not_le.mpr hbl) hS (vp_in_nI (show i + 1 < L by omega) (by omega)) dL_law_122 ?_
      refine lv_eqi (v := xs (i + 1)) (by rw [nI_clamp (by omega)]) ?_
      refine lv_i2l (v := (xs (i + 1)).toInt64) hx hb dL_law_123 rfl ?_
      refine lv_bipush (v := nI 32) hx hb dL_law_124 (by decide) ?_
      refine lv_lshl (v := (xs (i + 1)).toInt64 <<< ((nI 32).toInt64 &&& 63)) hx hb dL_law_126 rfl ?_
      refine lv_aload_n hx hb dL_law_127 rfl (lv_at hl 0 rfl) ?_
      refine lv_iload hx hb dL_law_128 (lv_at hl 4 rfl) ?_
      refine lv_iconst (v := nI 2) hx hb dL_law_130 (by decide) ?_
      refine lv_iadd hx hb dL_law_131 ?_
      refine lv_eqi (v := nI (i + 2)) (nI_add _ _) ?_
      refine va_sld hx hb hXs hbl (Nat.not_le.mpr hbl) hS (vp_in_nI (show i + 2 < L by omega) (by omega)) dL_law_132 ?_
      refine lv_eqi (v := xs (i + 2)) (by rw [nI_clamp (by omega)]) ?_
      refine lv_i2l (v := (xs (i + 2)).toInt64) hx hb dL_law_133 rfl ?_
      refine lv_ldc2 (v := lN 4294967295) hx hb hown (hW _ tw_732) dL_law_134 ?_
      refine lv_land hx hb dL_law_137 ?_
      refine lv_lor hx hb dL_law_138 ?_
      refine lv_eql (v := lgX (xs (i + 1)) (xs (i + 2))) rfl ?_
      refine lv_aload_n hx hb dL_law_139 rfl (lv_at hl 0 rfl) ?_
      refine lv_iload hx hb dL_law_140 (lv_at hl 4 rfl) ?_
      refine lv_iconst (v := nI 3) hx hb dL_law_142 (by decide) ?_
      refine lv_iadd hx hb dL_law_143 ?_
      refine lv_eqi (v := nI (i + 3)) (nI_add _ _) ?_
      refine va_sld hx hb hXs hbl (Nat.not_le.mpr hbl) hS (vp_in_nI (show i + 3 < L by omega) (by omega)) dL_law_144 ?_
      refine lv_eqi (v := xs (i + 3)) (by rw [nI_clamp (by omega)]) ?_
      refine lv_aload_n hx hb dL_law_145 rfl (lv_at hl 3 rfl) ?_
      refine tw_frS (As := [.ref (o 0), .long (lgX (xs (i + 1)) (xs (i + 2))), .int (xs (i + 3)), .ref oa]) (rest := []) ⟨hx, hb, hml, hown, hW⟩ (w_feed_1 hl0 oa f t hk.t200 (xs (i + 3)) (nI n) (lgX (xs (i + 1)) (xs (i + 2))) mem hX) lE_ok (xw_cw 4 hW tw_88 tw_89 tw_0 tw_90 rfl rfl (by decide +kernel) ⟨Nat.le_of_ble_eq_true rfl, Nat.le_of_ble_eq_true rfl⟩) hP hD hK hS hA hT rfl hl.1 rfl (Nat.le_of_ble_eq_true rfl) dL_law_146 ⟨hc1, hc2⟩ (fun H locs hP hD hS => ?_)
      have hP : va_P D vwCl (((wC o ad cI cZ cG (nI t) (nI q) (nI u) (nI y) (pnC pq) (nI n) isw mem) ++ wO oa cJ f) ++ wM om am cI cZ th (nI t) (nI q) (nI y) (pvC pq) (nI (pq.getD 0)) (nI b0) ptv wy isw oR memM) H := hP
      have hD : va_D (lwA s) (((wC o ad cI cZ cG (nI t) (nI q) (nI u) (nI y) (pnC pq) (nI n) isw mem) ++ wO oa cJ f) ++ wM om am cI cZ th (nI t) (nI q) (nI y) (pvC pq) (nI (pq.getD 0)) (nI b0) ptv wy isw oR memM) := hD
      refine lv_istore (lv' := [(5, .int (nI 1)), (0, .ref b), (1, .ref (o 0)), (2, .ref (om 0)), (3, .ref oa), (4, .int (nI i))]) hx hb dL_law_149 hl (by decide) rfl (fun ls hl => ?_)
      refine lv_aload_n hx hb dL_law_151 rfl (lv_at hl 3 rfl) ?_
      refine lv_aload_n hx hb dL_law_152 rfl (lv_at hl 1 rfl) ?_
      refine lv_iload hx hb dL_law_153 (lv_at hl 5 rfl) ?_
      refine lv_iconst (v := nI 1) hx hb dL_law_155 (by decide) ?_
      refine lv_iadd hx hb dL_law_156 ?_
      refine lv_eqi (v := nI (i + 1)) (nI_add _ _) ?_
      refine va_sld hx hb hXs hbl (Nat.not_le.mpr hbl) hS (vp_in_nI (show i + 1 < L by omega) (by omega)) dL_law_157 ?_
      refine lv_eqi (v := xs (i + 1)) (by rw [nI_clamp (by omega)]) ?_
      refine lv_i2l (v := (xs (i + 1)).toInt64) hx hb dL_law_158 rfl ?_
      refine lv_bipush (v := nI 32) hx hb dL_law_159 (by decide) ?_
      refine lv_lshl (v := (xs (i + 1)).toInt64 <<< ((nI 32).toInt64 &&& 63)) hx hb dL_law_161 rfl ?_
      refine lv_aload_n hx hb dL_law_162 rfl (lv_at hl 1 rfl) ?_
      refine lv_iload hx hb dL_law_163 (lv_at hl 5 rfl) ?_
      refine lv_iconst (v := nI 2) hx hb dL_law_165 (by decide) ?_
      refine lv_iadd hx hb dL_law_166 ?_
      refine lv_eqi (v := nI (i + 2)) (nI_add _ _) ?_
      refine va_sld hx hb hXs hbl (Nat.not_le.mpr hbl) hS (vp_in_nI (show i + 2 < L by omega) (by omega)) dL_law_167 ?_
      refine lv_eqi (v := xs (i + 2)) (by rw [nI_clamp (by omega)]) ?_
      refine lv_i2l (v := (xs (i + 2)).toInt64) hx hb dL_law_168 rfl ?_
      refine lv_ldc2 (v := lN 4294967295) hx hb hown (hW _ tw_732) dL_law_169 ?_
      refine lv_land hx hb dL_law_172 ?_
      refine lv_lor hx hb dL_law_173 ?_
      refine lv_eql (v := lgX (xs (i + 1)) (xs (i + 2))) rfl ?_
      refine lv_aload_n hx hb dL_law_174 rfl (lv_at hl 1 rfl) ?_
      refine lv_iload hx hb dL_law_175 (lv_at hl 5 rfl) ?_
      refine lv_iconst (v := nI 3) hx hb dL_law_177 (by decide) ?_
      refine lv_iadd hx hb dL_law_178 ?_
      refine lv_eqi (v := nI (i + 3)) (nI_add _ _) ?_
      refine va_sld hx hb hXs hbl (Nat.not_le.mpr hbl) hS (vp_in_nI (show i + 3 < L by omega) (by omega)) dL_law_179 ?_
      refine lv_eqi (v := xs (i + 3)) (by rw [nI_clamp (by omega)]) ?_
      have hP := va_P_sw hP
      have hD := va_D_sw hD
      refine mi_frV (C := RX2) (As := [.long (lgX (xs (i + 1)) (xs (i + 2))), .int (xs (i + 3))]) (rest := []) ⟨hx, hb, hml, hown, hW⟩ (n_feed_no t (xs (i + 3)) (lgX (xs (i + 1)) (xs (i + 2))) memM _ hX) nE_ok (cwV 2 hW (gV tw_594 tw_595 tw_596 tw_3 tw_597) rfl rfl rfl (by decide +kernel) ⟨Nat.le_of_ble_eq_true rfl, Nat.le_of_ble_eq_true rfl⟩) (va_recv hK hP (ci := 2) (q0 := 0) rfl rfl) hP hD (va_K.sub hK [0, 1, 2] rfl) hS hA trivial rfl hl.1 rfl (Nat.le_of_ble_eq_true rfl) dL_law_180 ⟨hc1, hc2⟩ (fun H locs hP hD hS => ?_)
      have hP := va_P_sw hP
      have hD := va_D_sw hD
      have hP : va_P D vwCl (((wC o ad cI cZ cG (nI t) (nI q) (nI u) (nI y) (pnC pq) (nI n) isw mem) ++ wO oa cJ f) ++ wM om am cI cZ (cdL [nIAE, nUOE] nIAE) (nI t) (nI q) (nI y) (pvC pq) (nI (pq.getD 0)) (nI b0) ptv wy isw oR memM) H := hP
      have hD : va_D (lwA s) (((wC o ad cI cZ cG (nI t) (nI q) (nI u) (nI y) (pnC pq) (nI n) isw mem) ++ wO oa cJ f) ++ wM om am cI cZ (cdL [nIAE, nUOE] nIAE) (nI t) (nI q) (nI y) (pvC pq) (nI (pq.getD 0)) (nI b0) ptv wy isw oR memM) := hD
      refine lv_istore (lv' := [(6, .int (nI 0)), (5, .int (nI 1)), (0, .ref b), (1, .ref (o 0)), (2, .ref (om 0)), (3, .ref oa), (4, .int (nI i))]) hx hb dL_law_183 hl (by decide) rfl (fun ls hl => ?_)
      refine lv_aload_n hx hb dL_law_185 rfl (lv_at hl 4 rfl) ?_
      have hP := va_P_sw hP
      have hD := va_D_sw hD
      refine mi_frV (C := RX2) (As := []) (rest := []) ⟨hx, hb, hml, hown, hW⟩ (n_thrown memM) nE_ok (cwV 0 hW (gV tw_590 tw_591 tw_592 tw_3 tw_593) rfl rfl rfl (by decide +kernel) ⟨Nat.le_of_ble_eq_true rfl, Nat.le_of_ble_eq_true rfl⟩) (va_recv hK hP (ci := 2) (q0 := 0) rfl rfl) hP hD (va_K.sub hK [0, 1, 2] rfl) hS hA trivial rfl hl.1 rfl (Nat.le_of_ble_eq_true rfl) dL_law_186 ⟨hc1, hc2⟩ (fun H locs hP hD hS => ?_)
      have hP := va_P_sw hP
      have hD := va_D_sw hD
      refine lv_eqi (v := nI 1) (by decide +kernel) ?_
      refine lv_iload hx hb dL_law_189 (lv_at hl 1 rfl) ?_
      refine lv_icmp_eq (tgt := 196) hx hb dL_law_191 (by decide) (fun _ => ?_) (fun h9 => absurd rfl h9)
      refine lv_iload hx hb dL_law_196 (lv_at hl 1 rfl) ?_
      refine lv_if_ne (tgt := 213) hx hb dL_law_198 (by decide) (fun _ => ?_) (fun h9 => absurd h9 (by decide))
      refine lv_goto (tgt := 1201) hx hb dL_law_213 (by decide) ?_
      exact kk t q y pq u n b0 isw oR mem memM (cdL [nIAE, nUOE] nIAE) ptv wy f H locs ls _ _ hk hP hD hS (lv_sub hl [2, 3, 4, 5, 6] rfl) (Nat.le_refl _) (Nat.le_refl _)
    · refine lv_aload_n hx hb dL_law_116 rfl (lv_at hl 1 rfl) ?_
      refine lv_aload_n hx hb dL_law_117 rfl (lv_at hl 0 rfl) ?_
      refine lv_iload hx hb dL_law_118 (lv_at hl 4 rfl) ?_
      refine lv_iconst (v := nI 1) hx hb dL_law_120 (by decide) ?_
      refine lv_iadd hx hb dL_law_121 ?_
      refine lv_eqi (v := nI (i + 1)) (nI_add _ _) ?_
      refine va_sld hx hb hXs hbl (Nat.not_le.mpr hbl) hS (vp_in_nI (show i + 1 < L by omega) (by omega)) dL_law_122 ?_
      refine lv_eqi (v := xs (i + 1)) (by rw [nI_clamp (by omega)]) ?_
      refine lv_i2l (v := (xs (i + 1)).toInt64) hx hb dL_law_123 rfl ?_
      refine lv_bipush (v := nI 32) hx hb dL_law_124 (by decide) ?_
      refine lv_lshl (v := (xs (i + 1)).toInt64 <<< ((nI 32).toInt64 &&& 63)) hx hb dL_law_126 rfl ?_
      refine lv_aload_n hx hb dL_law_127 rfl (lv_at hl 0 rfl) ?_
      refine lv_iload hx hb dL_law_128 (lv_at hl 4 rfl) ?_
      refine lv_iconst (v := nI 2) hx hb dL_law_130 (by decide) ?_
      refine lv_iadd hx hb dL_law_131 ?_
      refine lv_eqi (v := nI (i + 2)) (nI_add _ _) ?_
      refine va_sld hx hb hXs hbl (Nat.not_le.mpr hbl) hS (vp_in_nI (show i + 2 < L by omega) (by omega)) dL_law_132 ?_
      refine lv_eqi (v := xs (i + 2)) (by rw [nI_clamp (by omega)]) ?_
      refine lv_i2l (v := (xs (i + 2)).toInt64) hx hb dL_law_133 rfl ?_
      refine lv_ldc2 (v := lN 4294967295) hx hb hown (hW _ tw_732) dL_law_134 ?_
      refine lv_land hx hb dL_law_137 ?_
      refine lv_lor hx hb dL_law_138 ?_
      refine lv_eql (v := lgX (xs (i + 1)) (xs (i + 2))) rfl ?_
      refine lv_aload_n hx hb dL_law_139 rfl (lv_at hl 0 rfl) ?_
      refine lv_iload hx hb dL_law_140 (lv_at hl 4 rfl) ?_
      refine lv_iconst (v := nI 3) hx hb dL_law_142 (by decide) ?_
      refine lv_iadd hx hb dL_law_143 ?_
      refine lv_eqi (v := nI (i + 3)) (nI_add _ _) ?_
      refine va_sld hx hb hXs hbl (Nat.not_le.mpr hbl) hS (vp_in_nI (show i + 3 < L by omega) (by omega)) dL_law_144 ?_
      refine lv_eqi (v := xs (i + 3)) (by rw [nI_clamp (by omega)]) ?_
      refine lv_aload_n hx hb dL_law_145 rfl (lv_at hl 3 rfl) ?_
      refine tw_frS (As := [.ref (o 0), .long (lgX (xs (i + 1)) (xs (i + 2))), .int (xs (i + 3)), .ref oa]) (rest := []) ⟨hx, hb, hml, hown, hW⟩ (w_feed_2 hl0 oa f t hk.t200 (xs (i + 3)) (nI n) (lgX (xs (i + 1)) (xs (i + 2))) mem hX) lE_ok (xw_cw 4 hW tw_88 tw_89 tw_0 tw_90 rfl rfl (by decide +kernel) ⟨Nat.le_of_ble_eq_true rfl, Nat.le_of_ble_eq_true rfl⟩) hP hD hK hS hA hT rfl hl.1 rfl (Nat.le_of_ble_eq_true rfl) dL_law_146 ⟨hc1, hc2⟩ (fun H locs hP hD hS => ?_)
      have hP : va_P D vwCl (((wC o ad cI cZ cG (nI t) (nI q) (nI u) (nI y) (pnC pq) (nI n) isw mem) ++ wO oa cJ f) ++ wM om am cI cZ th (nI t) (nI q) (nI y) (pvC pq) (nI (pq.getD 0)) (nI b0) ptv wy isw oR memM) H := hP
      have hD : va_D (lwA s) (((wC o ad cI cZ cG (nI t) (nI q) (nI u) (nI y) (pnC pq) (nI n) isw mem) ++ wO oa cJ f) ++ wM om am cI cZ th (nI t) (nI q) (nI y) (pvC pq) (nI (pq.getD 0)) (nI b0) ptv wy isw oR memM) := hD
      refine lv_istore (lv' := [(5, .int (nI 2)), (0, .ref b), (1, .ref (o 0)), (2, .ref (om 0)), (3, .ref oa), (4, .int (nI i))]) hx hb dL_law_149 hl (by decide) rfl (fun ls hl => ?_)
      refine lv_aload_n hx hb dL_law_151 rfl (lv_at hl 3 rfl) ?_
      refine lv_aload_n hx hb dL_law_152 rfl (lv_at hl 1 rfl) ?_
      refine lv_iload hx hb dL_law_153 (lv_at hl 5 rfl) ?_
      refine lv_iconst (v := nI 1) hx hb dL_law_155 (by decide) ?_
      refine lv_iadd hx hb dL_law_156 ?_
      refine lv_eqi (v := nI (i + 1)) (nI_add _ _) ?_
      refine va_sld hx hb hXs hbl (Nat.not_le.mpr hbl) hS (vp_in_nI (show i + 1 < L by omega) (by omega)) dL_law_157 ?_
      refine lv_eqi (v := xs (i + 1)) (by rw [nI_clamp (by omega)]) ?_
      refine lv_i2l (v := (xs (i + 1)).toInt64) hx hb dL_law_158 rfl ?_
      refine lv_bipush (v := nI 32) hx hb dL_law_159 (by decide) ?_
      refine lv_lshl (v := (xs (i + 1)).toInt64 <<< ((nI 32).toInt64 &&& 63)) hx hb dL_law_161 rfl ?_
      refine lv_aload_n hx hb dL_law_162 rfl (lv_at hl 1 rfl) ?_
      refine lv_iload hx hb dL_law_163 (lv_at hl 5 rfl) ?_
      refine lv_iconst (v := nI 2) hx hb dL_law_165 (by decide) ?_
      refine lv_iadd hx hb dL_law_166 ?_
      refine lv_eqi (v := nI (i + 2)) (nI_add _ _) ?_
      refine va_sld hx hb hXs hbl (Nat.not_le.mpr hbl) hS (vp_in_nI (show i + 2 < L by omega) (by omega)) dL_law_167 ?_
      refine lv_eqi (v := xs (i + 2)) (by rw [nI_clamp (by omega)]) ?_
      refine lv_i2l (v := (xs (i + 2)).toInt64) hx hb dL_law_168 rfl ?_
      refine lv_ldc2 (v := lN 4294967295) hx hb hown (hW _ tw_732) dL_law_169 ?_
      refine lv_land hx hb dL_law_172 ?_
      refine lv_lor hx hb dL_law_173 ?_
      refine lv_eql (v := lgX (xs (i + 1)) (xs (i + 2))) rfl ?_
      refine lv_aload_n hx hb dL_law_174 rfl (lv_at hl 1 rfl) ?_
      refine lv_iload hx hb dL_law_175 (lv_at hl 5 rfl) ?_
      refine lv_iconst (v := nI 3) hx hb dL_law_177 (by decide) ?_
      refine lv_iadd hx hb dL_law_178 ?_
      refine lv_eqi (v := nI (i + 3)) (nI_add _ _) ?_
      refine va_sld hx hb hXs hbl (Nat.not_le.mpr hbl) hS (vp_in_nI (show i + 3 < L by omega) (by omega)) dL_law_179 ?_
      refine lv_eqi (v := xs (i + 3)) (by rw [nI_clamp (by omega)]) ?_
      have hP := va_P_sw hP
      have hD := va_D_sw hD
      refine mi_frV (C := RX2) (As := [.long (lgX (xs (i + 1)) (xs (i + 2))), .int (xs (i + 3))]) (rest := []) ⟨hx, hb, hml, hown, hW⟩ (n_feed_no t (xs (i + 3)) (lgX (xs (i + 1)) (xs (i + 2))) memM _ hX) nE_ok (cwV 2 hW (gV tw_594 tw_595 tw_596 tw_3 tw_597) rfl rfl rfl (by decide +kernel) ⟨Nat.le_of_ble_eq_true rfl, Nat.le_of_ble_eq_true rfl⟩) (va_recv hK hP (ci := 2) (q0 := 0) rfl rfl) hP hD (va_K.sub hK [0, 1, 2] rfl) hS hA trivial rfl hl.1 rfl (Nat.le_of_ble_eq_true rfl) dL_law_180 ⟨hc1, hc2⟩ (fun H locs hP hD hS => ?_)
      have hP := va_P_sw hP
      have hD := va_D_sw hD
      have hP : va_P D vwCl (((wC o ad cI cZ cG (nI t) (nI q) (nI u) (nI y) (pnC pq) (nI n) isw mem) ++ wO oa cJ f) ++ wM om am cI cZ (cdL [nIAE, nUOE] nUOE) (nI t) (nI q) (nI y) (pvC pq) (nI (pq.getD 0)) (nI b0) ptv wy isw oR memM) H := hP
      have hD : va_D (lwA s) (((wC o ad cI cZ cG (nI t) (nI q) (nI u) (nI y) (pnC pq) (nI n) isw mem) ++ wO oa cJ f) ++ wM om am cI cZ (cdL [nIAE, nUOE] nUOE) (nI t) (nI q) (nI y) (pvC pq) (nI (pq.getD 0)) (nI b0) ptv wy isw oR memM) := hD
      refine lv_istore (lv' := [(6, .int (nI 0)), (5, .int (nI 2)), (0, .ref b), (1, .ref (o 0)), (2, .ref (om 0)), (3, .ref oa), (4, .int (nI i))]) hx hb dL_law_183 hl (by decide) rfl (fun ls hl => ?_)
      refine lv_aload_n hx hb dL_law_185 rfl (lv_at hl 4 rfl) ?_
      have hP := va_P_sw hP
      have hD := va_D_sw hD
      refine mi_frV (C := RX2) (As := []) (rest := []) ⟨hx, hb, hml, hown, hW⟩ (n_thrown memM) nE_ok (cwV 0 hW (gV tw_590 tw_591 tw_592 tw_3 tw_593) rfl rfl rfl (by decide +kernel) ⟨Nat.le_of_ble_eq_true rfl, Nat.le_of_ble_eq_true rfl⟩) (va_recv hK hP (ci := 2) (q0 := 0) rfl rfl) hP hD (va_K.sub hK [0, 1, 2] rfl) hS hA trivial rfl hl.1 rfl (Nat.le_of_ble_eq_true rfl) dL_law_186 ⟨hc1, hc2⟩ (fun H locs hP hD hS => ?_)
      have hP := va_P_sw hP
      have hD := va_D_sw hD
      refine lv_eqi (v := nI 2) (by decide +kernel) ?_
      refine lv_iload hx hb dL_law_189 (lv_at hl 1 rfl) ?_
      refine lv_icmp_eq (tgt := 196) hx hb dL_law_191 (by decide) (fun _ => ?_) (fun h9 => absurd rfl h9)
      refine lv_iload hx hb dL_law_196 (lv_at hl 1 rfl) ?_
      refine lv_if_ne (tgt := 213) hx hb dL_law_198 (by decide) (fun _ => ?_) (fun h9 => absurd h9 (by decide))
      refine lv_goto (tgt := 1201) hx hb dL_law_213 (by decide) ?_
      exact kk t q y pq u n b0 isw oR mem memM (cdL [nIAE, nUOE] nUOE) ptv wy f H locs ls _ _ hk hP hD hS (lv_sub hl [2, 3, 4, 5, 6] rfl) (Nat.le_refl _) (Nat.le_refl _)
set_option maxHeartbeats 4000000 in
set_option maxRecDepth 100000 in
theorem law_leaf {p : Program} {l : Launch} {e : Env} {s : State} {m : MethodId} {below : List Frame} {meth : Method} {c : Code} {b L i cells slots : Nat} {xs : Nat → Int32} {D : va_G} {o ad om am : Nat → Nat} {oa : Nat} {cI cZ cG cJ : ClassId} {Q : State → Prop} {t q y u n b0 : Nat} {pq : Option Nat} {isw oR : Nat → Int32} {mem memM : xMem} {th ptv wy : Int32} {f : Nat → Int64} {H : Heap} {locs : List Loc} {ls : Array Slot} (hC : lawX p l s m meth c b L xs D cI cZ cG cJ) (hk : LK t q y pq u isw mem memM) (hP : va_P D vwCl (lwW o ad om am oa cI cZ cG cJ t q y pq u n b0 isw oR mem memM th ptv wy f) H) (hD : va_D (lwA s) (lwW o ad om am oa cI cZ cG cJ t q y pq u n b0 isw oR mem memM th ptv wy f)) (hS : va_S (lwA s) s.heap H locs) (hl : lv_has ls 7 [(0, .ref b), (1, .ref (o 0)), (2, .ref (om 0)), (3, .ref oa), (4, .int (nI i))]) (hi : i + 7 ≤ L) (hc1 : cells + 3 ≤ 601024) (hc2 : slots + 18 ≤ 7293033) (kk : lawK p l e s m below meth c b Q D o ad om am oa cI cZ cG cJ i cells slots) : W p l e room_1 s m #[Value.ref b] below meth c H locs cells slots Q (F0 m 216 ls []) := by
  obtain ⟨hx, hb, hml, hown, hW, hXs, hbl, hK, hT, hl0, hL⟩ := hC
  have hA : ∀ q : Nat, s.heap.size ≤ q → lwA s q := fun _ h => h
  have hq24 := hk.q24
  have hy12 := hk.y12
  have ht200 := hk.t200
  have hP : va_P D vwCl (((wC o ad cI cZ cG (nI t) (nI q) (nI u) (nI y) (pnC pq) (nI n) isw mem) ++ wO oa cJ f) ++ wM om am cI cZ th (nI t) (nI q) (nI y) (pvC pq) (nI (pq.getD 0)) (nI b0) ptv wy isw oR memM) H := hP
  have hD : va_D (lwA s) (((wC o ad cI cZ cG (nI t) (nI q) (nI u) (nI y) (pnC pq) (nI n) isw mem) ++ wO oa cJ f) ++ wM om am cI cZ th (nI t) (nI q) (nI y) (pvC pq) (nI (pq.getD 0)) (nI b0) ptv wy isw oR memM) := hD
  rcases hX : x_if (¬ nI q < nI 24) nUOE with _ | nm
  · have hq : q < 24 := by
      rcases Nat.lt_or_ge q 24 with h9 | h9
      · exact h9
      · exact absurd (nI_nlt h9 (by omega)) (x_if_none hX)
    refine lv_aload_n hx hb dL_law_216 rfl (lv_at hl 1 rfl) ?_
    refine lv_aload_n hx hb dL_law_217 rfl (lv_at hl 3 rfl) ?_
    refine tw_frS (As := [.ref (o 0), .ref oa]) (rest := []) ⟨hx, hb, hml, hown, hW⟩ (w_leaf_ok hl0 oa f q t n hk.q24 hk.t200 mem hX) lE_ok (xw_cw 2 hW tw_182 tw_183 tw_0 tw_184 rfl rfl (by decide +kernel) ⟨Nat.le_of_ble_eq_true rfl, Nat.le_of_ble_eq_true rfl⟩) hP hD hK hS hA hT rfl hl.1 rfl (Nat.le_of_ble_eq_true rfl) dL_law_218 ⟨hc1, hc2⟩ (fun H locs hP hD hS => ?_)
    have hP : va_P D vwCl (((wC o ad cI cZ cG (nI 0) (nI (q + 1)) (nI u) (nI y) (pnC pq) (nI ((p_leaf q t (n, mem)).1)) isw ((p_leaf q t (n, mem)).2)) ++ wO oa cJ (vp_updL f 0 ((nI q).toInt64))) ++ wM om am cI cZ th (nI t) (nI q) (nI y) (pvC pq) (nI (pq.getD 0)) (nI b0) ptv wy isw oR memM) H := hP
    have hD : va_D (lwA s) (((wC o ad cI cZ cG (nI 0) (nI (q + 1)) (nI u) (nI y) (pnC pq) (nI ((p_leaf q t (n, mem)).1)) isw ((p_leaf q t (n, mem)).2)) ++ wO oa cJ (vp_updL f 0 ((nI q).toInt64))) ++ wM om am cI cZ th (nI t) (nI q) (nI y) (pvC pq) (nI (pq.getD 0)) (nI b0) ptv wy isw oR memM) := hD
    refine lv_istore (lv' := [(5, .int (nI 0)), (0, .ref b), (1, .ref (o 0)), (2, .ref (om 0)), (3, .ref oa), (4, .int (nI i))]) hx hb dL_law_221 hl (by decide) rfl (fun ls hl => ?_)
    refine lv_aload_n hx hb dL_law_223 rfl (lv_at hl 3 rfl) ?_
    have hP := va_P_sw hP
    have hD := va_D_sw hD
    refine mi_frV (C := RX2) (As := []) (rest := []) ⟨hx, hb, hml, hown, hW⟩ (n_leaf q t hq hk.t200 memM hk.hkc) nE_ok (cwV 0 hW (gV tw_605 tw_606 tw_607 tw_3 tw_608) rfl rfl rfl (by decide +kernel) ⟨Nat.le_of_ble_eq_true rfl, Nat.le_of_ble_eq_true rfl⟩) (va_recv hK hP (ci := 2) (q0 := 0) rfl rfl) hP hD (va_K.sub hK [0, 1, 2] rfl) hS hA trivial rfl hl.1 rfl (Nat.le_of_ble_eq_true rfl) dL_law_224 ⟨hc1, hc2⟩ (fun H locs hP hD hS => ?_)
    have hP := va_P_sw hP
    have hD := va_D_sw hD
    have hP : va_P D vwCl (((wC o ad cI cZ cG (nI 0) (nI (q + 1)) (nI u) (nI y) (pnC pq) (nI ((p_leaf q t (n, mem)).1)) isw ((p_leaf q t (n, mem)).2)) ++ wO oa cJ (vp_updL f 0 ((nI q).toInt64))) ++ wM om am cI cZ (nI 0) (nI 0) (nI (q + 1)) (nI y) (pvC pq) (nI (pq.getD 0)) (nI ((m_leaf q t memM).1)) ptv wy isw oR ((m_leaf q t memM).2)) H := hP
    have hD : va_D (lwA s) (((wC o ad cI cZ cG (nI 0) (nI (q + 1)) (nI u) (nI y) (pnC pq) (nI ((p_leaf q t (n, mem)).1)) isw ((p_leaf q t (n, mem)).2)) ++ wO oa cJ (vp_updL f 0 ((nI q).toInt64))) ++ wM om am cI cZ (nI 0) (nI 0) (nI (q + 1)) (nI y) (pvC pq) (nI (pq.getD 0)) (nI ((m_leaf q t memM).1)) ptv wy isw oR ((m_leaf q t memM).2)) := hD
    refine lv_istore (lv' := [(6, .int (nI q)), (5, .int (nI 0)), (0, .ref b), (1, .ref (o 0)), (2, .ref (om 0)), (3, .ref oa), (4, .int (nI i))]) hx hb dL_law_227 hl (by decide) rfl (fun ls hl => ?_)
    refine lv_aload_n hx hb dL_law_229 rfl (lv_at hl 4 rfl) ?_
    have hP := va_P_sw hP
    have hD := va_D_sw hD
    refine mi_frV (C := RX2) (As := []) (rest := []) ⟨hx, hb, hml, hown, hW⟩ (n_thrown ((m_leaf q t memM).2)) nE_ok (cwV 0 hW (gV tw_590 tw_591 tw_592 tw_3 tw_593) rfl rfl rfl (by decide +kernel) ⟨Nat.le_of_ble_eq_true rfl, Nat.le_of_ble_eq_true rfl⟩) (va_recv hK hP (ci := 2) (q0 := 0) rfl rfl) hP hD (va_K.sub hK [0, 1, 2] rfl) hS hA trivial rfl hl.1 rfl (Nat.le_of_ble_eq_true rfl) dL_law_230 ⟨hc1, hc2⟩ (fun H locs hP hD hS => ?_)
    have hP := va_P_sw hP
    have hD := va_D_sw hD
    refine lv_eqi (v := nI 0) (rfl) ?_
    refine lv_iload hx hb dL_law_233 (lv_at hl 1 rfl) ?_
    refine lv_icmp_eq (tgt := 240) hx hb dL_law_235 (by decide) (fun _ => ?_) (fun h9 => absurd rfl h9)
    refine lv_iload hx hb dL_law_240 (lv_at hl 1 rfl) ?_
    refine lv_if_ne (tgt := 257) hx hb dL_law_242 (by decide) (fun h9 => absurd (show nI 0 = (0 : Int32) from rfl) h9) (fun _ => ?_)
    refine lv_aload_n hx hb dL_law_245 rfl (lv_at hl 5 rfl) ?_
    refine lv_iconst (v := nI 0) hx hb dL_law_246 (by decide) ?_
    refine va_lald hx hb hK (va_P_right (va_P_left hP)) 0 3 rfl rfl (vp_in_nI (show 0 < 1 by decide) (by decide)) dL_law_247 ?_
    refine lv_eql (v := (nI q).toInt64) (updL_0 _ _) ?_
    refine lv_iload hx hb dL_law_248 (lv_at hl 0 rfl) ?_
    refine lv_i2l (v := (nI q).toInt64) hx hb dL_law_250 rfl ?_
    refine W.lcmp hx hb dL_law_251 ?_
    refine lv_eqi (v := nI 0) (lcmp_self _) ?_
    refine lv_if_eq (tgt := 257) hx hb dL_law_252 (by decide) (fun _ => ?_) (fun h9 => absurd (show nI 0 = (0 : Int32) from rfl) h9)
    refine lv_goto (tgt := 1201) hx hb dL_law_257 (by decide) ?_
    exact kk 0 (q + 1) y pq u ((p_leaf q t (n, mem)).1) ((m_leaf q t memM).1) isw oR ((p_leaf q t (n, mem)).2) ((m_leaf q t memM).2) (nI 0) ptv wy (vp_updL f 0 ((nI q).toInt64)) H locs ls _ _ (hk.leaf hq) hP hD hS (lv_sub hl [2, 3, 4, 5, 6] rfl) (Nat.le_refl _) (Nat.le_refl _)
  · have hcd : nm = nUOE := ((x_if_some hX).1)
    subst hcd
    refine lv_aload_n hx hb dL_law_216 rfl (lv_at hl 1 rfl) ?_
    refine lv_aload_n hx hb dL_law_217 rfl (lv_at hl 3 rfl) ?_
    refine tw_frS (As := [.ref (o 0), .ref oa]) (rest := []) ⟨hx, hb, hml, hown, hW⟩ (w_leaf_1 hl0 oa f q t n hk.q24 hk.t200 mem hX) lE_ok (xw_cw 2 hW tw_182 tw_183 tw_0 tw_184 rfl rfl (by decide +kernel) ⟨Nat.le_of_ble_eq_true rfl, Nat.le_of_ble_eq_true rfl⟩) hP hD hK hS hA hT rfl hl.1 rfl (Nat.le_of_ble_eq_true rfl) dL_law_218 ⟨hc1, hc2⟩ (fun H locs hP hD hS => ?_)
    have hP : va_P D vwCl (((wC o ad cI cZ cG (nI t) (nI q) (nI u) (nI y) (pnC pq) (nI n) isw mem) ++ wO oa cJ f) ++ wM om am cI cZ th (nI t) (nI q) (nI y) (pvC pq) (nI (pq.getD 0)) (nI b0) ptv wy isw oR memM) H := hP
    have hD : va_D (lwA s) (((wC o ad cI cZ cG (nI t) (nI q) (nI u) (nI y) (pnC pq) (nI n) isw mem) ++ wO oa cJ f) ++ wM om am cI cZ th (nI t) (nI q) (nI y) (pvC pq) (nI (pq.getD 0)) (nI b0) ptv wy isw oR memM) := hD
    refine lv_istore (lv' := [(5, .int (nI 1)), (0, .ref b), (1, .ref (o 0)), (2, .ref (om 0)), (3, .ref oa), (4, .int (nI i))]) hx hb dL_law_221 hl (by decide) rfl (fun ls hl => ?_)
    refine lv_aload_n hx hb dL_law_223 rfl (lv_at hl 3 rfl) ?_
    have hP := va_P_sw hP
    have hD := va_D_sw hD
    refine mi_frV (C := RX2) (As := []) (rest := []) ⟨hx, hb, hml, hown, hW⟩ (n_leaf_no q t memM _ hX) nE_ok (cwV 0 hW (gV tw_605 tw_606 tw_607 tw_3 tw_608) rfl rfl rfl (by decide +kernel) ⟨Nat.le_of_ble_eq_true rfl, Nat.le_of_ble_eq_true rfl⟩) (va_recv hK hP (ci := 2) (q0 := 0) rfl rfl) hP hD (va_K.sub hK [0, 1, 2] rfl) hS hA trivial rfl hl.1 rfl (Nat.le_of_ble_eq_true rfl) dL_law_224 ⟨hc1, hc2⟩ (fun H locs hP hD hS => ?_)
    have hP := va_P_sw hP
    have hD := va_D_sw hD
    have hP : va_P D vwCl (((wC o ad cI cZ cG (nI t) (nI q) (nI u) (nI y) (pnC pq) (nI n) isw mem) ++ wO oa cJ f) ++ wM om am cI cZ (cdL [nUOE] nUOE) (nI t) (nI q) (nI y) (pvC pq) (nI (pq.getD 0)) (nI b0) ptv wy isw oR memM) H := hP
    have hD : va_D (lwA s) (((wC o ad cI cZ cG (nI t) (nI q) (nI u) (nI y) (pnC pq) (nI n) isw mem) ++ wO oa cJ f) ++ wM om am cI cZ (cdL [nUOE] nUOE) (nI t) (nI q) (nI y) (pvC pq) (nI (pq.getD 0)) (nI b0) ptv wy isw oR memM) := hD
    refine lv_istore (lv' := [(6, .int (nI 0)), (5, .int (nI 1)), (0, .ref b), (1, .ref (o 0)), (2, .ref (om 0)), (3, .ref oa), (4, .int (nI i))]) hx hb dL_law_227 hl (by decide) rfl (fun ls hl => ?_)
    refine lv_aload_n hx hb dL_law_229 rfl (lv_at hl 4 rfl) ?_
    have hP := va_P_sw hP
    have hD := va_D_sw hD
    refine mi_frV (C := RX2) (As := []) (rest := []) ⟨hx, hb, hml, hown, hW⟩ (n_thrown memM) nE_ok (cwV 0 hW (gV tw_590 tw_591 tw_592 tw_3 tw_593) rfl rfl rfl (by decide +kernel) ⟨Nat.le_of_ble_eq_true rfl, Nat.le_of_ble_eq_true rfl⟩) (va_recv hK hP (ci := 2) (q0 := 0) rfl rfl) hP hD (va_K.sub hK [0, 1, 2] rfl) hS hA trivial rfl hl.1 rfl (Nat.le_of_ble_eq_true rfl) dL_law_230 ⟨hc1, hc2⟩ (fun H locs hP hD hS => ?_)
    have hP := va_P_sw hP
    have hD := va_D_sw hD
    refine lv_eqi (v := nI 1) (by decide +kernel) ?_
    refine lv_iload hx hb dL_law_233 (lv_at hl 1 rfl) ?_
    refine lv_icmp_eq (tgt := 240) hx hb dL_law_235 (by decide) (fun _ => ?_) (fun h9 => absurd rfl h9)
    refine lv_iload hx hb dL_law_240 (lv_at hl 1 rfl) ?_
    refine lv_if_ne (tgt := 257) hx hb dL_law_242 (by decide) (fun _ => ?_) (fun h9 => absurd h9 (by decide))
    refine lv_goto (tgt := 1201) hx hb dL_law_257 (by decide) ?_
    exact kk t q y pq u n b0 isw oR mem memM (cdL [nUOE] nUOE) ptv wy f H locs ls _ _ hk hP hD hS (lv_sub hl [2, 3, 4, 5, 6] rfl) (Nat.le_refl _) (Nat.le_refl _)
set_option maxHeartbeats 4000000 in
set_option maxRecDepth 100000 in
theorem law_close {p : Program} {l : Launch} {e : Env} {s : State} {m : MethodId} {below : List Frame} {meth : Method} {c : Code} {b L i cells slots : Nat} {xs : Nat → Int32} {D : va_G} {o ad om am : Nat → Nat} {oa : Nat} {cI cZ cG cJ : ClassId} {Q : State → Prop} {t q y u n b0 : Nat} {pq : Option Nat} {isw oR : Nat → Int32} {mem memM : xMem} {th ptv wy : Int32} {f : Nat → Int64} {H : Heap} {locs : List Loc} {ls : Array Slot} (hC : lawX p l s m meth c b L xs D cI cZ cG cJ) (hk : LK t q y pq u isw mem memM) (hP : va_P D vwCl (lwW o ad om am oa cI cZ cG cJ t q y pq u n b0 isw oR mem memM th ptv wy f) H) (hD : va_D (lwA s) (lwW o ad om am oa cI cZ cG cJ t q y pq u n b0 isw oR mem memM th ptv wy f)) (hS : va_S (lwA s) s.heap H locs) (hl : lv_has ls 7 [(0, .ref b), (1, .ref (o 0)), (2, .ref (om 0)), (3, .ref oa), (4, .int (nI i))]) (hi : i + 7 ≤ L) (hc1 : cells + 3 ≤ 601024) (hc2 : slots + 18 ≤ 7293033) (kk : lawK p l e s m below meth c b Q D o ad om am oa cI cZ cG cJ i cells slots) : W p l e room_1 s m #[Value.ref b] below meth c H locs cells slots Q (F0 m 260 ls []) := by
  obtain ⟨hx, hb, hml, hown, hW, hXs, hbl, hK, hT, hl0, hL⟩ := hC
  have hA : ∀ q : Nat, s.heap.size ≤ q → lwA s q := fun _ h => h
  have hq24 := hk.q24
  have hy12 := hk.y12
  have ht200 := hk.t200
  have hP : va_P D vwCl (((wC o ad cI cZ cG (nI t) (nI q) (nI u) (nI y) (pnC pq) (nI n) isw mem) ++ wO oa cJ f) ++ wM om am cI cZ th (nI t) (nI q) (nI y) (pvC pq) (nI (pq.getD 0)) (nI b0) ptv wy isw oR memM) H := hP
  have hD : va_D (lwA s) (((wC o ad cI cZ cG (nI t) (nI q) (nI u) (nI y) (pnC pq) (nI n) isw mem) ++ wO oa cJ f) ++ wM om am cI cZ th (nI t) (nI q) (nI y) (pvC pq) (nI (pq.getD 0)) (nI b0) ptv wy isw oR memM) := hD
  rcases hX : x_if (¬ nI y < nI 12) nUOE with _ | nm
  · have hy : y < 12 := by
      rcases Nat.lt_or_ge y 12 with h9 | h9
      · exact h9
      · exact absurd (nI_nlt h9 (by omega)) (x_if_none hX)
    refine lv_aload_n hx hb dL_law_260 rfl (lv_at hl 1 rfl) ?_
    refine lv_aload_n hx hb dL_law_261 rfl (lv_at hl 3 rfl) ?_
    refine tw_frS (As := [.ref (o 0), .ref oa]) (rest := []) ⟨hx, hb, hml, hown, hW⟩ (w_close_ok hl0 oa f q y n hk.q24 hk.y12 mem hX) lE_ok (xw_cw 2 hW tw_233 tw_234 tw_0 tw_235 rfl rfl (by decide +kernel) ⟨Nat.le_of_ble_eq_true rfl, Nat.le_of_ble_eq_true rfl⟩) hP hD hK hS hA hT rfl hl.1 rfl (Nat.le_of_ble_eq_true rfl) dL_law_262 ⟨hc1, hc2⟩ (fun H locs hP hD hS => ?_)
    have hP : va_P D vwCl (((wC o ad cI cZ cG (nI t) (nI q) (nI u) (nI (y + 1)) (pnC pq) (nI ((p_close q y (n, mem)).1)) isw ((p_close q y (n, mem)).2)) ++ wO oa cJ (vp_updL f 0 ((nI y).toInt64))) ++ wM om am cI cZ th (nI t) (nI q) (nI y) (pvC pq) (nI (pq.getD 0)) (nI b0) ptv wy isw oR memM) H := hP
    have hD : va_D (lwA s) (((wC o ad cI cZ cG (nI t) (nI q) (nI u) (nI (y + 1)) (pnC pq) (nI ((p_close q y (n, mem)).1)) isw ((p_close q y (n, mem)).2)) ++ wO oa cJ (vp_updL f 0 ((nI y).toInt64))) ++ wM om am cI cZ th (nI t) (nI q) (nI y) (pvC pq) (nI (pq.getD 0)) (nI b0) ptv wy isw oR memM) := hD
    refine lv_istore (lv' := [(5, .int (nI 0)), (0, .ref b), (1, .ref (o 0)), (2, .ref (om 0)), (3, .ref oa), (4, .int (nI i))]) hx hb dL_law_265 hl (by decide) rfl (fun ls hl => ?_)
    refine lv_aload_n hx hb dL_law_267 rfl (lv_at hl 3 rfl) ?_
    have hP := va_P_sw hP
    have hD := va_D_sw hD
    refine mi_frV (C := RX2) (As := []) (rest := []) ⟨hx, hb, hml, hown, hW⟩ (n_close q y b0 hk.q24 hy memM hk.hkc) nE_ok (cwV 0 hW (gV tw_641 tw_642 tw_643 tw_3 tw_644) rfl rfl rfl (by decide +kernel) ⟨Nat.le_of_ble_eq_true rfl, Nat.le_of_ble_eq_true rfl⟩) (va_recv hK hP (ci := 2) (q0 := 0) rfl rfl) hP hD (va_K.sub hK [0, 1, 2] rfl) hS hA trivial rfl hl.1 rfl (Nat.le_of_ble_eq_true rfl) dL_law_268 ⟨hc1, hc2⟩ (fun H locs hP hD hS => ?_)
    have hP := va_P_sw hP
    have hD := va_D_sw hD
    have hP : va_P D vwCl (((wC o ad cI cZ cG (nI t) (nI q) (nI u) (nI (y + 1)) (pnC pq) (nI ((p_close q y (n, mem)).1)) isw ((p_close q y (n, mem)).2)) ++ wO oa cJ (vp_updL f 0 ((nI y).toInt64))) ++ wM om am cI cZ (nI 0) (nI t) (nI q) (nI (y + 1)) (pvC pq) (nI (pq.getD 0)) (nI ((m_close q y (b0, memM)).1)) (ptT q ptv) wy isw oR ((m_close q y (b0, memM)).2)) H := hP
    have hD : va_D (lwA s) (((wC o ad cI cZ cG (nI t) (nI q) (nI u) (nI (y + 1)) (pnC pq) (nI ((p_close q y (n, mem)).1)) isw ((p_close q y (n, mem)).2)) ++ wO oa cJ (vp_updL f 0 ((nI y).toInt64))) ++ wM om am cI cZ (nI 0) (nI t) (nI q) (nI (y + 1)) (pvC pq) (nI (pq.getD 0)) (nI ((m_close q y (b0, memM)).1)) (ptT q ptv) wy isw oR ((m_close q y (b0, memM)).2)) := hD
    refine lv_istore (lv' := [(6, .int (nI y)), (5, .int (nI 0)), (0, .ref b), (1, .ref (o 0)), (2, .ref (om 0)), (3, .ref oa), (4, .int (nI i))]) hx hb dL_law_271 hl (by decide) rfl (fun ls hl => ?_)
    refine lv_aload_n hx hb dL_law_273 rfl (lv_at hl 4 rfl) ?_
    have hP := va_P_sw hP
    have hD := va_D_sw hD
    refine mi_frV (C := RX2) (As := []) (rest := []) ⟨hx, hb, hml, hown, hW⟩ (n_thrown ((m_close q y (b0, memM)).2)) nE_ok (cwV 0 hW (gV tw_590 tw_591 tw_592 tw_3 tw_593) rfl rfl rfl (by decide +kernel) ⟨Nat.le_of_ble_eq_true rfl, Nat.le_of_ble_eq_true rfl⟩) (va_recv hK hP (ci := 2) (q0 := 0) rfl rfl) hP hD (va_K.sub hK [0, 1, 2] rfl) hS hA trivial rfl hl.1 rfl (Nat.le_of_ble_eq_true rfl) dL_law_274 ⟨hc1, hc2⟩ (fun H locs hP hD hS => ?_)
    have hP := va_P_sw hP
    have hD := va_D_sw hD
    refine lv_eqi (v := nI 0) (rfl) ?_
    refine lv_iload hx hb dL_law_277 (lv_at hl 1 rfl) ?_
    refine lv_icmp_eq (tgt := 284) hx hb dL_law_279 (by decide) (fun _ => ?_) (fun h9 => absurd rfl h9)
    refine lv_iload hx hb dL_law_284 (lv_at hl 1 rfl) ?_
    refine lv_if_ne (tgt := 301) hx hb dL_law_286 (by decide) (fun h9 => absurd (show nI 0 = (0 : Int32) from rfl) h9) (fun _ => ?_)
    refine lv_aload_n hx hb dL_law_289 rfl (lv_at hl 5 rfl) ?_
    refine lv_iconst (v := nI 0) hx hb dL_law_290 (by decide) ?_
    refine va_lald hx hb hK (va_P_right (va_P_left hP)) 0 3 rfl rfl (vp_in_nI (show 0 < 1 by decide) (by decide)) dL_law_291 ?_
    refine lv_eql (v := (nI y).toInt64) (updL_0 _ _) ?_
    refine lv_iload hx hb dL_law_292 (lv_at hl 0 rfl) ?_
    refine lv_i2l (v := (nI y).toInt64) hx hb dL_law_294 rfl ?_
    refine W.lcmp hx hb dL_law_295 ?_
    refine lv_eqi (v := nI 0) (lcmp_self _) ?_
    refine lv_if_eq (tgt := 301) hx hb dL_law_296 (by decide) (fun _ => ?_) (fun h9 => absurd (show nI 0 = (0 : Int32) from rfl) h9)
    refine lv_goto (tgt := 1201) hx hb dL_law_301 (by decide) ?_
    exact kk t q (y + 1) pq u ((p_close q y (n, mem)).1) ((m_close q y (b0, memM)).1) isw oR ((p_close q y (n, mem)).2) ((m_close q y (b0, memM)).2) (nI 0) (ptT q ptv) wy (vp_updL f 0 ((nI y).toInt64)) H locs ls _ _ (hk.close hy) hP hD hS (lv_sub hl [2, 3, 4, 5, 6] rfl) (Nat.le_refl _) (Nat.le_refl _)
  · have hcd : nm = nUOE := ((x_if_some hX).1)
    subst hcd
    refine lv_aload_n hx hb dL_law_260 rfl (lv_at hl 1 rfl) ?_
    refine lv_aload_n hx hb dL_law_261 rfl (lv_at hl 3 rfl) ?_
    refine tw_frS (As := [.ref (o 0), .ref oa]) (rest := []) ⟨hx, hb, hml, hown, hW⟩ (w_close_1 hl0 oa f q y n hk.q24 hk.y12 mem hX) lE_ok (xw_cw 2 hW tw_233 tw_234 tw_0 tw_235 rfl rfl (by decide +kernel) ⟨Nat.le_of_ble_eq_true rfl, Nat.le_of_ble_eq_true rfl⟩) hP hD hK hS hA hT rfl hl.1 rfl (Nat.le_of_ble_eq_true rfl) dL_law_262 ⟨hc1, hc2⟩ (fun H locs hP hD hS => ?_)
    have hP : va_P D vwCl (((wC o ad cI cZ cG (nI t) (nI q) (nI u) (nI y) (pnC pq) (nI n) isw mem) ++ wO oa cJ f) ++ wM om am cI cZ th (nI t) (nI q) (nI y) (pvC pq) (nI (pq.getD 0)) (nI b0) ptv wy isw oR memM) H := hP
    have hD : va_D (lwA s) (((wC o ad cI cZ cG (nI t) (nI q) (nI u) (nI y) (pnC pq) (nI n) isw mem) ++ wO oa cJ f) ++ wM om am cI cZ th (nI t) (nI q) (nI y) (pvC pq) (nI (pq.getD 0)) (nI b0) ptv wy isw oR memM) := hD
    refine lv_istore (lv' := [(5, .int (nI 1)), (0, .ref b), (1, .ref (o 0)), (2, .ref (om 0)), (3, .ref oa), (4, .int (nI i))]) hx hb dL_law_265 hl (by decide) rfl (fun ls hl => ?_)
    refine lv_aload_n hx hb dL_law_267 rfl (lv_at hl 3 rfl) ?_
    have hP := va_P_sw hP
    have hD := va_D_sw hD
    refine mi_frV (C := RX2) (As := []) (rest := []) ⟨hx, hb, hml, hown, hW⟩ (n_close_no q y b0 memM _ hX) nE_ok (cwV 0 hW (gV tw_641 tw_642 tw_643 tw_3 tw_644) rfl rfl rfl (by decide +kernel) ⟨Nat.le_of_ble_eq_true rfl, Nat.le_of_ble_eq_true rfl⟩) (va_recv hK hP (ci := 2) (q0 := 0) rfl rfl) hP hD (va_K.sub hK [0, 1, 2] rfl) hS hA trivial rfl hl.1 rfl (Nat.le_of_ble_eq_true rfl) dL_law_268 ⟨hc1, hc2⟩ (fun H locs hP hD hS => ?_)
    have hP := va_P_sw hP
    have hD := va_D_sw hD
    have hP : va_P D vwCl (((wC o ad cI cZ cG (nI t) (nI q) (nI u) (nI y) (pnC pq) (nI n) isw mem) ++ wO oa cJ f) ++ wM om am cI cZ (cdL [nUOE] nUOE) (nI t) (nI q) (nI y) (pvC pq) (nI (pq.getD 0)) (nI b0) ptv wy isw oR memM) H := hP
    have hD : va_D (lwA s) (((wC o ad cI cZ cG (nI t) (nI q) (nI u) (nI y) (pnC pq) (nI n) isw mem) ++ wO oa cJ f) ++ wM om am cI cZ (cdL [nUOE] nUOE) (nI t) (nI q) (nI y) (pvC pq) (nI (pq.getD 0)) (nI b0) ptv wy isw oR memM) := hD
    refine lv_istore (lv' := [(6, .int (nI 0)), (5, .int (nI 1)), (0, .ref b), (1, .ref (o 0)), (2, .ref (om 0)), (3, .ref oa), (4, .int (nI i))]) hx hb dL_law_271 hl (by decide) rfl (fun ls hl => ?_)
    refine lv_aload_n hx hb dL_law_273 rfl (lv_at hl 4 rfl) ?_
    have hP := va_P_sw hP
    have hD := va_D_sw hD
    refine mi_frV (C := RX2) (As := []) (rest := []) ⟨hx, hb, hml, hown, hW⟩ (n_thrown memM) nE_ok (cwV 0 hW (gV tw_590 tw_591 tw_592 tw_3 tw_593) rfl rfl rfl (by decide +kernel) ⟨Nat.le_of_ble_eq_true rfl, Nat.le_of_ble_eq_true rfl⟩) (va_recv hK hP (ci := 2) (q0 := 0) rfl rfl) hP hD (va_K.sub hK [0, 1, 2] rfl) hS hA trivial rfl hl.1 rfl (Nat.le_of_ble_eq_true rfl) dL_law_274 ⟨hc1, hc2⟩ (fun H locs hP hD hS => ?_)
    have hP := va_P_sw hP
    have hD := va_D_sw hD
    refine lv_eqi (v := nI 1) (by decide +kernel) ?_
    refine lv_iload hx hb dL_law_277 (lv_at hl 1 rfl) ?_
    refine lv_icmp_eq (tgt := 284) hx hb dL_law_279 (by decide) (fun _ => ?_) (fun h9 => absurd rfl h9)
    refine lv_iload hx hb dL_law_284 (lv_at hl 1 rfl) ?_
    refine lv_if_ne (tgt := 301) hx hb dL_law_286 (by decide) (fun _ => ?_) (fun h9 => absurd h9 (by decide))
    refine lv_goto (tgt := 1201) hx hb dL_law_301 (by decide) ?_
    exact kk t q y pq u n b0 isw oR mem memM (cdL [nUOE] nUOE) ptv wy f H locs ls _ _ hk hP hD hS (lv_sub hl [2, 3, 4, 5, 6] rfl) (Nat.le_refl _) (Nat.le_refl _)
set_option maxHeartbeats 4000000 in
set_option maxRecDepth 100000 in
theorem law_withdraw {p : Program} {l : Launch} {e : Env} {s : State} {m : MethodId} {below : List Frame} {meth : Method} {c : Code} {b L i cells slots : Nat} {xs : Nat → Int32} {D : va_G} {o ad om am : Nat → Nat} {oa : Nat} {cI cZ cG cJ : ClassId} {Q : State → Prop} {t q y u n b0 : Nat} {pq : Option Nat} {isw oR : Nat → Int32} {mem memM : xMem} {th ptv wy : Int32} {f : Nat → Int64} {H : Heap} {locs : List Loc} {ls : Array Slot} (hC : lawX p l s m meth c b L xs D cI cZ cG cJ) (hk : LK t q y pq u isw mem memM) (hP : va_P D vwCl (lwW o ad om am oa cI cZ cG cJ t q y pq u n b0 isw oR mem memM th ptv wy f) H) (hD : va_D (lwA s) (lwW o ad om am oa cI cZ cG cJ t q y pq u n b0 isw oR mem memM th ptv wy f)) (hS : va_S (lwA s) s.heap H locs) (hl : lv_has ls 7 [(0, .ref b), (1, .ref (o 0)), (2, .ref (om 0)), (3, .ref oa), (4, .int (nI i))]) (hi : i + 7 ≤ L) (hc1 : cells + 3 ≤ 601024) (hc2 : slots + 18 ≤ 7293033) (kk : lawK p l e s m below meth c b Q D o ad om am oa cI cZ cG cJ i cells slots) : W p l e room_1 s m #[Value.ref b] below meth c H locs cells slots Q (F0 m 859 ls []) := by
  obtain ⟨hx, hb, hml, hown, hW, hXs, hbl, hK, hT, hl0, hL⟩ := hC
  have hA : ∀ q : Nat, s.heap.size ≤ q → lwA s q := fun _ h => h
  have hq24 := hk.q24
  have hy12 := hk.y12
  have ht200 := hk.t200
  have hP : va_P D vwCl (((wC o ad cI cZ cG (nI t) (nI q) (nI u) (nI y) (pnC pq) (nI n) isw mem) ++ wO oa cJ f) ++ wM om am cI cZ th (nI t) (nI q) (nI y) (pvC pq) (nI (pq.getD 0)) (nI b0) ptv wy isw oR memM) H := hP
  have hD : va_D (lwA s) (((wC o ad cI cZ cG (nI t) (nI q) (nI u) (nI y) (pnC pq) (nI n) isw mem) ++ wO oa cJ f) ++ wM om am cI cZ th (nI t) (nI q) (nI y) (pvC pq) (nI (pq.getD 0)) (nI b0) ptv wy isw oR memM) := hD
  rcases hX : (x_req (xs (i + 1)) (nI q)).or (x_if (¬ isw (tn (xs (i + 1))) = 0) nUOE) with _ | nm
  · obtain ⟨g1, g2⟩ := x_or_none hX
    obtain ⟨d, hd, hv⟩ := x_req_none (by omega) g1
    have hg : isw d = 0 := Classical.not_not.mp (by have := x_if_none g2; rw [hv, tn_nI (by omega)] at this; exact this)
    rw [hv] at hX
    refine lv_aload_n hx hb dL_law_859 rfl (lv_at hl 1 rfl) ?_
    refine lv_aload_n hx hb dL_law_860 rfl (lv_at hl 0 rfl) ?_
    refine lv_iload hx hb dL_law_861 (lv_at hl 4 rfl) ?_
    refine lv_iconst (v := nI 1) hx hb dL_law_863 (by decide) ?_
    refine lv_iadd hx hb dL_law_864 ?_
    refine lv_eqi (v := nI (i + 1)) (nI_add _ _) ?_
    refine va_sld hx hb hXs hbl (Nat.not_le.mpr hbl) hS (vp_in_nI (show i + 1 < L by omega) (by omega)) dL_law_865 ?_
    refine lv_eqi (v := nI d) (by rw [nI_clamp (by omega)]; exact hv) ?_
    refine lv_aload_n hx hb dL_law_866 rfl (lv_at hl 3 rfl) ?_
    refine tw_frS (As := [.ref (o 0), .int (nI d), .ref oa]) (rest := []) ⟨hx, hb, hml, hown, hW⟩ (w_withdraw_ok hl0 oa f q u hk.q24 (nI d) (nI n) mem hX) lE_ok (xw_cw 3 hW tw_400 tw_401 tw_0 tw_402 rfl rfl (by decide +kernel) ⟨Nat.le_of_ble_eq_true rfl, Nat.le_of_ble_eq_true rfl⟩) hP hD hK hS hA hT rfl hl.1 rfl (Nat.le_of_ble_eq_true rfl) dL_law_867 ⟨hc1, hc2⟩ (fun H locs hP hD hS => ?_)
    rw [tn_nI (show d < 2 ^ 31 by omega)] at hP hD
    have hP : va_P D vwCl (((wC o ad cI cZ cG (nI t) (nI q) (nI (u + 1)) (nI y) (pnC pq) (nI n) (upd isw d (nI 1)) mem) ++ wO oa cJ (vp_updL f 0 ((nI (u + 1)).toInt64))) ++ wM om am cI cZ th (nI t) (nI q) (nI y) (pvC pq) (nI (pq.getD 0)) (nI b0) ptv wy isw oR memM) H := hP
    have hD : va_D (lwA s) (((wC o ad cI cZ cG (nI t) (nI q) (nI (u + 1)) (nI y) (pnC pq) (nI n) (upd isw d (nI 1)) mem) ++ wO oa cJ (vp_updL f 0 ((nI (u + 1)).toInt64))) ++ wM om am cI cZ th (nI t) (nI q) (nI y) (pvC pq) (nI (pq.getD 0)) (nI b0) ptv wy isw oR memM) := hD
    refine lv_istore (lv' := [(5, .int (nI 0)), (0, .ref b), (1, .ref (o 0)), (2, .ref (om 0)), (3, .ref oa), (4, .int (nI i))]) hx hb dL_law_870 hl (by decide) rfl (fun ls hl => ?_)
    refine lv_aload_n hx hb dL_law_872 rfl (lv_at hl 3 rfl) ?_
    refine lv_aload_n hx hb dL_law_873 rfl (lv_at hl 1 rfl) ?_
    refine lv_iload hx hb dL_law_874 (lv_at hl 5 rfl) ?_
    refine lv_iconst (v := nI 1) hx hb dL_law_876 (by decide) ?_
    refine lv_iadd hx hb dL_law_877 ?_
    refine lv_eqi (v := nI (i + 1)) (nI_add _ _) ?_
    refine va_sld hx hb hXs hbl (Nat.not_le.mpr hbl) hS (vp_in_nI (show i + 1 < L by omega) (by omega)) dL_law_878 ?_
    refine lv_eqi (v := nI d) (by rw [nI_clamp (by omega)]; exact hv) ?_
    have hP := va_P_sw hP
    have hD := va_D_sw hD
    refine mi_frV (C := RX2) (As := [.int (nI d)]) (rest := []) ⟨hx, hb, hml, hown, hW⟩ (n_withdraw q d hk.q24 hd hg memM) nE_ok (cwV 1 hW (gV tw_712 tw_713 tw_714 tw_3 tw_715) rfl rfl rfl (by decide +kernel) ⟨Nat.le_of_ble_eq_true rfl, Nat.le_of_ble_eq_true rfl⟩) (va_recv hK hP (ci := 2) (q0 := 0) rfl rfl) hP hD (va_K.sub hK [0, 1, 2] rfl) hS hA trivial rfl hl.1 rfl (Nat.le_of_ble_eq_true rfl) dL_law_879 ⟨hc1, hc2⟩ (fun H locs hP hD hS => ?_)
    have hP := va_P_sw hP
    have hD := va_D_sw hD
    have hP : va_P D vwCl (((wC o ad cI cZ cG (nI t) (nI q) (nI (u + 1)) (nI y) (pnC pq) (nI n) (upd isw d (nI 1)) mem) ++ wO oa cJ (vp_updL f 0 ((nI (u + 1)).toInt64))) ++ wM om am cI cZ (nI 0) (nI t) (nI q) (nI y) (pvC pq) (nI (pq.getD 0)) (nI b0) ptv wy (upd isw d (nI 1)) oR memM) H := hP
    have hD : va_D (lwA s) (((wC o ad cI cZ cG (nI t) (nI q) (nI (u + 1)) (nI y) (pnC pq) (nI n) (upd isw d (nI 1)) mem) ++ wO oa cJ (vp_updL f 0 ((nI (u + 1)).toInt64))) ++ wM om am cI cZ (nI 0) (nI t) (nI q) (nI y) (pvC pq) (nI (pq.getD 0)) (nI b0) ptv wy (upd isw d (nI 1)) oR memM) := hD
    refine lv_istore (lv' := [(6, .int (nI (wcn (upd isw d (nI 1)) q))), (5, .int (nI 0)), (0, .ref b), (1, .ref (o 0)), (2, .ref (om 0)), (3, .ref oa), (4, .int (nI i))]) hx hb dL_law_882 hl (by decide) rfl (fun ls hl => ?_)
    refine lv_aload_n hx hb dL_law_884 rfl (lv_at hl 4 rfl) ?_
    have hP := va_P_sw hP
    have hD := va_D_sw hD
    refine mi_frV (C := RX2) (As := []) (rest := []) ⟨hx, hb, hml, hown, hW⟩ (n_thrown memM) nE_ok (cwV 0 hW (gV tw_590 tw_591 tw_592 tw_3 tw_593) rfl rfl rfl (by decide +kernel) ⟨Nat.le_of_ble_eq_true rfl, Nat.le_of_ble_eq_true rfl⟩) (va_recv hK hP (ci := 2) (q0 := 0) rfl rfl) hP hD (va_K.sub hK [0, 1, 2] rfl) hS hA trivial rfl hl.1 rfl (Nat.le_of_ble_eq_true rfl) dL_law_885 ⟨hc1, hc2⟩ (fun H locs hP hD hS => ?_)
    have hP := va_P_sw hP
    have hD := va_D_sw hD
    refine lv_eqi (v := nI 0) (rfl) ?_
    refine lv_iload hx hb dL_law_888 (lv_at hl 1 rfl) ?_
    refine lv_icmp_eq (tgt := 895) hx hb dL_law_890 (by decide) (fun _ => ?_) (fun h9 => absurd rfl h9)
    refine lv_iload hx hb dL_law_895 (lv_at hl 1 rfl) ?_
    refine lv_if_ne (tgt := 912) hx hb dL_law_897 (by decide) (fun h9 => absurd (show nI 0 = (0 : Int32) from rfl) h9) (fun _ => ?_)
    refine lv_aload_n hx hb dL_law_900 rfl (lv_at hl 5 rfl) ?_
    refine lv_iconst (v := nI 0) hx hb dL_law_901 (by decide) ?_
    refine va_lald hx hb hK (va_P_right (va_P_left hP)) 0 3 rfl rfl (vp_in_nI (show 0 < 1 by decide) (by decide)) dL_law_902 ?_
    refine lv_eql (v := (nI (wcn (upd isw d (nI 1)) q)).toInt64) (by rw [updL_0, show nI (u + 1) = nI (wcn (upd isw d (nI 1)) q) by rw [(hk.withdraw hd hg).1]]) ?_
    refine lv_iload hx hb dL_law_903 (lv_at hl 0 rfl) ?_
    refine lv_i2l (v := (nI (wcn (upd isw d (nI 1)) q)).toInt64) hx hb dL_law_905 rfl ?_
    refine W.lcmp hx hb dL_law_906 ?_
    refine lv_eqi (v := nI 0) (lcmp_self _) ?_
    refine lv_if_eq (tgt := 912) hx hb dL_law_907 (by decide) (fun _ => ?_) (fun h9 => absurd (show nI 0 = (0 : Int32) from rfl) h9)
    refine lv_goto (tgt := 1201) hx hb dL_law_912 (by decide) ?_
    exact kk t q y pq (u + 1) n b0 (upd isw d (nI 1)) oR mem memM (nI 0) ptv wy (vp_updL f 0 ((nI (u + 1)).toInt64)) H locs ls _ _ ((hk.withdraw hd hg).2) hP hD hS (lv_sub hl [2, 3, 4, 5, 6] rfl) (Nat.le_refl _) (Nat.le_refl _)
  · have hcd : nm = nIOB ∨ nm = nUOE := ((x_or_some hX).elim (fun h1 => (Or.inl (x_req_some h1))) (fun h1 => (Or.inr ((x_if_some h1.2).1))))
    rcases hcd with rfl | rfl
    · refine lv_aload_n hx hb dL_law_859 rfl (lv_at hl 1 rfl) ?_
      refine lv_aload_n hx hb dL_law_860 rfl (lv_at hl 0 rfl) ?_
      refine lv_iload hx hb dL_law_861 (lv_at hl 4 rfl) ?_
      refine lv_iconst (v := nI 1) hx hb dL_law_863 (by decide) ?_
      refine lv_iadd hx hb dL_law_864 ?_
      refine lv_eqi (v := nI (i + 1)) (nI_add _ _) ?_
      refine va_sld hx hb hXs hbl (Nat.not_le.mpr hbl) hS (vp_in_nI (show i + 1 < L by omega) (by omega)) dL_law_865 ?_
      refine lv_eqi (v := xs (i + 1)) (by rw [nI_clamp (by omega)]) ?_
      refine lv_aload_n hx hb dL_law_866 rfl (lv_at hl 3 rfl) ?_
      refine tw_frS (As := [.ref (o 0), .int (xs (i + 1)), .ref oa]) (rest := []) ⟨hx, hb, hml, hown, hW⟩ (w_withdraw_1 hl0 oa f q u hk.q24 (xs (i + 1)) (nI n) mem hX) lE_ok (xw_cw 3 hW tw_400 tw_401 tw_0 tw_402 rfl rfl (by decide +kernel) ⟨Nat.le_of_ble_eq_true rfl, Nat.le_of_ble_eq_true rfl⟩) hP hD hK hS hA hT rfl hl.1 rfl (Nat.le_of_ble_eq_true rfl) dL_law_867 ⟨hc1, hc2⟩ (fun H locs hP hD hS => ?_)
      have hP : va_P D vwCl (((wC o ad cI cZ cG (nI t) (nI q) (nI u) (nI y) (pnC pq) (nI n) isw mem) ++ wO oa cJ f) ++ wM om am cI cZ th (nI t) (nI q) (nI y) (pvC pq) (nI (pq.getD 0)) (nI b0) ptv wy isw oR memM) H := hP
      have hD : va_D (lwA s) (((wC o ad cI cZ cG (nI t) (nI q) (nI u) (nI y) (pnC pq) (nI n) isw mem) ++ wO oa cJ f) ++ wM om am cI cZ th (nI t) (nI q) (nI y) (pvC pq) (nI (pq.getD 0)) (nI b0) ptv wy isw oR memM) := hD
      refine lv_istore (lv' := [(5, .int (nI 1)), (0, .ref b), (1, .ref (o 0)), (2, .ref (om 0)), (3, .ref oa), (4, .int (nI i))]) hx hb dL_law_870 hl (by decide) rfl (fun ls hl => ?_)
      refine lv_aload_n hx hb dL_law_872 rfl (lv_at hl 3 rfl) ?_
      refine lv_aload_n hx hb dL_law_873 rfl (lv_at hl 1 rfl) ?_
      refine lv_iload hx hb dL_law_874 (lv_at hl 5 rfl) ?_
      refine lv_iconst (v := nI 1) hx hb dL_law_876 (by decide) ?_
      refine lv_iadd hx hb dL_law_877 ?_
      refine lv_eqi (v := nI (i + 1)) (nI_add _ _) ?_
      refine va_sld hx hb hXs hbl (Nat.not_le.mpr hbl) hS (vp_in_nI (show i + 1 < L by omega) (by omega)) dL_law_878 ?_
      refine lv_eqi (v := xs (i + 1)) (by rw [nI_clamp (by omega)]) ?_
      have hP := va_P_sw hP
      have hD := va_D_sw hD
      refine mi_frV (C := RX2) (As := [.int (xs (i + 1))]) (rest := []) ⟨hx, hb, hml, hown, hW⟩ (n_withdraw_no q hk.q24 (xs (i + 1)) memM _ hX) nE_ok (cwV 1 hW (gV tw_712 tw_713 tw_714 tw_3 tw_715) rfl rfl rfl (by decide +kernel) ⟨Nat.le_of_ble_eq_true rfl, Nat.le_of_ble_eq_true rfl⟩) (va_recv hK hP (ci := 2) (q0 := 0) rfl rfl) hP hD (va_K.sub hK [0, 1, 2] rfl) hS hA trivial rfl hl.1 rfl (Nat.le_of_ble_eq_true rfl) dL_law_879 ⟨hc1, hc2⟩ (fun H locs hP hD hS => ?_)
      have hP := va_P_sw hP
      have hD := va_D_sw hD
      have hP : va_P D vwCl (((wC o ad cI cZ cG (nI t) (nI q) (nI u) (nI y) (pnC pq) (nI n) isw mem) ++ wO oa cJ f) ++ wM om am cI cZ (cdL [nIOB, nUOE] nIOB) (nI t) (nI q) (nI y) (pvC pq) (nI (pq.getD 0)) (nI b0) ptv wy isw oR memM) H := hP
      have hD : va_D (lwA s) (((wC o ad cI cZ cG (nI t) (nI q) (nI u) (nI y) (pnC pq) (nI n) isw mem) ++ wO oa cJ f) ++ wM om am cI cZ (cdL [nIOB, nUOE] nIOB) (nI t) (nI q) (nI y) (pvC pq) (nI (pq.getD 0)) (nI b0) ptv wy isw oR memM) := hD
      refine lv_istore (lv' := [(6, .int (nI 0)), (5, .int (nI 1)), (0, .ref b), (1, .ref (o 0)), (2, .ref (om 0)), (3, .ref oa), (4, .int (nI i))]) hx hb dL_law_882 hl (by decide) rfl (fun ls hl => ?_)
      refine lv_aload_n hx hb dL_law_884 rfl (lv_at hl 4 rfl) ?_
      have hP := va_P_sw hP
      have hD := va_D_sw hD
      refine mi_frV (C := RX2) (As := []) (rest := []) ⟨hx, hb, hml, hown, hW⟩ (n_thrown memM) nE_ok (cwV 0 hW (gV tw_590 tw_591 tw_592 tw_3 tw_593) rfl rfl rfl (by decide +kernel) ⟨Nat.le_of_ble_eq_true rfl, Nat.le_of_ble_eq_true rfl⟩) (va_recv hK hP (ci := 2) (q0 := 0) rfl rfl) hP hD (va_K.sub hK [0, 1, 2] rfl) hS hA trivial rfl hl.1 rfl (Nat.le_of_ble_eq_true rfl) dL_law_885 ⟨hc1, hc2⟩ (fun H locs hP hD hS => ?_)
      have hP := va_P_sw hP
      have hD := va_D_sw hD
      refine lv_eqi (v := nI 1) (by decide +kernel) ?_
      refine lv_iload hx hb dL_law_888 (lv_at hl 1 rfl) ?_
      refine lv_icmp_eq (tgt := 895) hx hb dL_law_890 (by decide) (fun _ => ?_) (fun h9 => absurd rfl h9)
      refine lv_iload hx hb dL_law_895 (lv_at hl 1 rfl) ?_
      refine lv_if_ne (tgt := 912) hx hb dL_law_897 (by decide) (fun _ => ?_) (fun h9 => absurd h9 (by decide))
      refine lv_goto (tgt := 1201) hx hb dL_law_912 (by decide) ?_
      exact kk t q y pq u n b0 isw oR mem memM (cdL [nIOB, nUOE] nIOB) ptv wy f H locs ls _ _ hk hP hD hS (lv_sub hl [2, 3, 4, 5, 6] rfl) (Nat.le_refl _) (Nat.le_refl _)
    · refine lv_aload_n hx hb dL_law_859 rfl (lv_at hl 1 rfl) ?_
      refine lv_aload_n hx hb dL_law_860 rfl (lv_at hl 0 rfl) ?_
      refine lv_iload hx hb dL_law_861 (lv_at hl 4 rfl) ?_
      refine lv_iconst (v := nI 1) hx hb dL_law_863 (by decide) ?_
      refine lv_iadd hx hb dL_law_864 ?_
      refine lv_eqi (v := nI (i + 1)) (nI_add _ _) ?_
      refine va_sld hx hb hXs hbl (Nat.not_le.mpr hbl) hS (vp_in_nI (show i + 1 < L by omega) (by omega)) dL_law_865 ?_
      refine lv_eqi (v := xs (i + 1)) (by rw [nI_clamp (by omega)]) ?_
      refine lv_aload_n hx hb dL_law_866 rfl (lv_at hl 3 rfl) ?_
      refine tw_frS (As := [.ref (o 0), .int (xs (i + 1)), .ref oa]) (rest := []) ⟨hx, hb, hml, hown, hW⟩ (w_withdraw_2 hl0 oa f q u hk.q24 (xs (i + 1)) (nI n) mem hX) lE_ok (xw_cw 3 hW tw_400 tw_401 tw_0 tw_402 rfl rfl (by decide +kernel) ⟨Nat.le_of_ble_eq_true rfl, Nat.le_of_ble_eq_true rfl⟩) hP hD hK hS hA hT rfl hl.1 rfl (Nat.le_of_ble_eq_true rfl) dL_law_867 ⟨hc1, hc2⟩ (fun H locs hP hD hS => ?_)
      have hP : va_P D vwCl (((wC o ad cI cZ cG (nI t) (nI q) (nI u) (nI y) (pnC pq) (nI n) isw mem) ++ wO oa cJ f) ++ wM om am cI cZ th (nI t) (nI q) (nI y) (pvC pq) (nI (pq.getD 0)) (nI b0) ptv wy isw oR memM) H := hP
      have hD : va_D (lwA s) (((wC o ad cI cZ cG (nI t) (nI q) (nI u) (nI y) (pnC pq) (nI n) isw mem) ++ wO oa cJ f) ++ wM om am cI cZ th (nI t) (nI q) (nI y) (pvC pq) (nI (pq.getD 0)) (nI b0) ptv wy isw oR memM) := hD
      refine lv_istore (lv' := [(5, .int (nI 2)), (0, .ref b), (1, .ref (o 0)), (2, .ref (om 0)), (3, .ref oa), (4, .int (nI i))]) hx hb dL_law_870 hl (by decide) rfl (fun ls hl => ?_)
      refine lv_aload_n hx hb dL_law_872 rfl (lv_at hl 3 rfl) ?_
      refine lv_aload_n hx hb dL_law_873 rfl (lv_at hl 1 rfl) ?_
      refine lv_iload hx hb dL_law_874 (lv_at hl 5 rfl) ?_
      refine lv_iconst (v := nI 1) hx hb dL_law_876 (by decide) ?_
      refine lv_iadd hx hb dL_law_877 ?_
      refine lv_eqi (v := nI (i + 1)) (nI_add _ _) ?_
      refine va_sld hx hb hXs hbl (Nat.not_le.mpr hbl) hS (vp_in_nI (show i + 1 < L by omega) (by omega)) dL_law_878 ?_
      refine lv_eqi (v := xs (i + 1)) (by rw [nI_clamp (by omega)]) ?_
      have hP := va_P_sw hP
      have hD := va_D_sw hD
      refine mi_frV (C := RX2) (As := [.int (xs (i + 1))]) (rest := []) ⟨hx, hb, hml, hown, hW⟩ (n_withdraw_no q hk.q24 (xs (i + 1)) memM _ hX) nE_ok (cwV 1 hW (gV tw_712 tw_713 tw_714 tw_3 tw_715) rfl rfl rfl (by decide +kernel) ⟨Nat.le_of_ble_eq_true rfl, Nat.le_of_ble_eq_true rfl⟩) (va_recv hK hP (ci := 2) (q0 := 0) rfl rfl) hP hD (va_K.sub hK [0, 1, 2] rfl) hS hA trivial rfl hl.1 rfl (Nat.le_of_ble_eq_true rfl) dL_law_879 ⟨hc1, hc2⟩ (fun H locs hP hD hS => ?_)
      have hP := va_P_sw hP
      have hD := va_D_sw hD
      have hP : va_P D vwCl (((wC o ad cI cZ cG (nI t) (nI q) (nI u) (nI y) (pnC pq) (nI n) isw mem) ++ wO oa cJ f) ++ wM om am cI cZ (cdL [nIOB, nUOE] nUOE) (nI t) (nI q) (nI y) (pvC pq) (nI (pq.getD 0)) (nI b0) ptv wy isw oR memM) H := hP
      have hD : va_D (lwA s) (((wC o ad cI cZ cG (nI t) (nI q) (nI u) (nI y) (pnC pq) (nI n) isw mem) ++ wO oa cJ f) ++ wM om am cI cZ (cdL [nIOB, nUOE] nUOE) (nI t) (nI q) (nI y) (pvC pq) (nI (pq.getD 0)) (nI b0) ptv wy isw oR memM) := hD
      refine lv_istore (lv' := [(6, .int (nI 0)), (5, .int (nI 2)), (0, .ref b), (1, .ref (o 0)), (2, .ref (om 0)), (3, .ref oa), (4, .int (nI i))]) hx hb dL_law_882 hl (by decide) rfl (fun ls hl => ?_)
      refine lv_aload_n hx hb dL_law_884 rfl (lv_at hl 4 rfl) ?_
      have hP := va_P_sw hP
      have hD := va_D_sw hD
      refine mi_frV (C := RX2) (As := []) (rest := []) ⟨hx, hb, hml, hown, hW⟩ (n_thrown memM) nE_ok (cwV 0 hW (gV tw_590 tw_591 tw_592 tw_3 tw_593) rfl rfl rfl (by decide +kernel) ⟨Nat.le_of_ble_eq_true rfl, Nat.le_of_ble_eq_true rfl⟩) (va_recv hK hP (ci := 2) (q0 := 0) rfl rfl) hP hD (va_K.sub hK [0, 1, 2] rfl) hS hA trivial rfl hl.1 rfl (Nat.le_of_ble_eq_true rfl) dL_law_885 ⟨hc1, hc2⟩ (fun H locs hP hD hS => ?_)
      have hP := va_P_sw hP
      have hD := va_D_sw hD
      refine lv_eqi (v := nI 2) (by decide +kernel) ?_
      refine lv_iload hx hb dL_law_888 (lv_at hl 1 rfl) ?_
      refine lv_icmp_eq (tgt := 895) hx hb dL_law_890 (by decide) (fun _ => ?_) (fun h9 => absurd rfl h9)
      refine lv_iload hx hb dL_law_895 (lv_at hl 1 rfl) ?_
      refine lv_if_ne (tgt := 912) hx hb dL_law_897 (by decide) (fun _ => ?_) (fun h9 => absurd h9 (by decide))
      refine lv_goto (tgt := 1201) hx hb dL_law_912 (by decide) ?_
      exact kk t q y pq u n b0 isw oR mem memM (cdL [nIOB, nUOE] nUOE) ptv wy f H locs ls _ _ hk hP hD hS (lv_sub hl [2, 3, 4, 5, 6] rfl) (Nat.le_refl _) (Nat.le_refl _)
set_option maxHeartbeats 4000000 in
set_option maxRecDepth 100000 in
theorem law_absence {p : Program} {l : Launch} {e : Env} {s : State} {m : MethodId} {below : List Frame} {meth : Method} {c : Code} {b L i cells slots : Nat} {xs : Nat → Int32} {D : va_G} {o ad om am : Nat → Nat} {oa : Nat} {cI cZ cG cJ : ClassId} {Q : State → Prop} {t q y u n b0 : Nat} {pq : Option Nat} {isw oR : Nat → Int32} {mem memM : xMem} {th ptv wy : Int32} {f : Nat → Int64} {H : Heap} {locs : List Loc} {ls : Array Slot} (hC : lawX p l s m meth c b L xs D cI cZ cG cJ) (hk : LK t q y pq u isw mem memM) (hP : va_P D vwCl (lwW o ad om am oa cI cZ cG cJ t q y pq u n b0 isw oR mem memM th ptv wy f) H) (hD : va_D (lwA s) (lwW o ad om am oa cI cZ cG cJ t q y pq u n b0 isw oR mem memM th ptv wy f)) (hS : va_S (lwA s) s.heap H locs) (hl : lv_has ls 7 [(0, .ref b), (1, .ref (o 0)), (2, .ref (om 0)), (3, .ref oa), (4, .int (nI i))]) (hi : i + 7 ≤ L) (hc1 : cells + 3 ≤ 601024) (hc2 : slots + 18 ≤ 7293033) (kk : lawK p l e s m below meth c b Q D o ad om am oa cI cZ cG cJ i cells slots) : W p l e room_1 s m #[Value.ref b] below meth c H locs cells slots Q (F0 m 915 ls []) := by
  obtain ⟨hx, hb, hml, hown, hW, hXs, hbl, hK, hT, hl0, hL⟩ := hC
  have hA : ∀ q : Nat, s.heap.size ≤ q → lwA s q := fun _ h => h
  have hq24 := hk.q24
  have hy12 := hk.y12
  have ht200 := hk.t200
  have hP : va_P D vwCl (((wC o ad cI cZ cG (nI t) (nI q) (nI u) (nI y) (pnC pq) (nI n) isw mem) ++ wO oa cJ f) ++ wM om am cI cZ th (nI t) (nI q) (nI y) (pvC pq) (nI (pq.getD 0)) (nI b0) ptv wy isw oR memM) H := hP
  have hD : va_D (lwA s) (((wC o ad cI cZ cG (nI t) (nI q) (nI u) (nI y) (pnC pq) (nI n) isw mem) ++ wO oa cJ f) ++ wM om am cI cZ th (nI t) (nI q) (nI y) (pvC pq) (nI (pq.getD 0)) (nI b0) ptv wy isw oR memM) := hD
  rcases hX : (x_req (xs (i + 1)) (nI q)).or ((x_if (¬ ((xs (i + 2)) = 0 ∨ (xs (i + 2)) = nI 1)) nIOB).or (x_if (¬ isw (tn (xs (i + 1))) = 0) nISE)) with _ | nm
  · obtain ⟨g1, r1⟩ := x_or_none hX
    obtain ⟨g2, g3⟩ := x_or_none r1
    obtain ⟨d, hd, hv⟩ := x_req_none (by omega) g1
    have hg : isw d = 0 := Classical.not_not.mp (by have := x_if_none g3; rw [hv, tn_nI (by omega)] at this; exact this)
    rw [hv] at hX
    refine lv_aload_n hx hb dL_law_915 rfl (lv_at hl 1 rfl) ?_
    refine lv_aload_n hx hb dL_law_916 rfl (lv_at hl 0 rfl) ?_
    refine lv_iload hx hb dL_law_917 (lv_at hl 4 rfl) ?_
    refine lv_iconst (v := nI 1) hx hb dL_law_919 (by decide) ?_
    refine lv_iadd hx hb dL_law_920 ?_
    refine lv_eqi (v := nI (i + 1)) (nI_add _ _) ?_
    refine va_sld hx hb hXs hbl (Nat.not_le.mpr hbl) hS (vp_in_nI (show i + 1 < L by omega) (by omega)) dL_law_921 ?_
    refine lv_eqi (v := nI d) (by rw [nI_clamp (by omega)]; exact hv) ?_
    refine lv_aload_n hx hb dL_law_922 rfl (lv_at hl 0 rfl) ?_
    refine lv_iload hx hb dL_law_923 (lv_at hl 4 rfl) ?_
    refine lv_iconst (v := nI 2) hx hb dL_law_925 (by decide) ?_
    refine lv_iadd hx hb dL_law_926 ?_
    refine lv_eqi (v := nI (i + 2)) (nI_add _ _) ?_
    refine va_sld hx hb hXs hbl (Nat.not_le.mpr hbl) hS (vp_in_nI (show i + 2 < L by omega) (by omega)) dL_law_927 ?_
    refine lv_eqi (v := xs (i + 2)) (by rw [nI_clamp (by omega)]) ?_
    refine lv_aload_n hx hb dL_law_928 rfl (lv_at hl 3 rfl) ?_
    refine tw_frS (As := [.ref (o 0), .int (nI d), .int (xs (i + 2)), .ref oa]) (rest := []) ⟨hx, hb, hml, hown, hW⟩ (w_absence_ok hl0 oa f q hk.q24 (nI d) (xs (i + 2)) (nI n) mem hX) lE_ok (xw_cw 4 hW tw_408 tw_409 tw_0 tw_410 rfl rfl (by decide +kernel) ⟨Nat.le_of_ble_eq_true rfl, Nat.le_of_ble_eq_true rfl⟩) hP hD hK hS hA hT rfl hl.1 rfl (Nat.le_of_ble_eq_true rfl) dL_law_929 ⟨hc1, hc2⟩ (fun H locs hP hD hS => ?_)
    have hP : va_P D vwCl (((wC o ad cI cZ cG (nI t) (nI q) (nI u) (nI y) (pnC pq) (nI n) isw mem) ++ wO oa cJ (vp_updL f 0 ((nrI (p_near (xs (i + 2)) isw mem (tn (nI d)) q)).toInt64))) ++ wM om am cI cZ th (nI t) (nI q) (nI y) (pvC pq) (nI (pq.getD 0)) (nI b0) ptv wy isw oR memM) H := hP
    have hD : va_D (lwA s) (((wC o ad cI cZ cG (nI t) (nI q) (nI u) (nI y) (pnC pq) (nI n) isw mem) ++ wO oa cJ (vp_updL f 0 ((nrI (p_near (xs (i + 2)) isw mem (tn (nI d)) q)).toInt64))) ++ wM om am cI cZ th (nI t) (nI q) (nI y) (pvC pq) (nI (pq.getD 0)) (nI b0) ptv wy isw oR memM) := hD
    refine lv_istore (lv' := [(5, .int (nI 0)), (0, .ref b), (1, .ref (o 0)), (2, .ref (om 0)), (3, .ref oa), (4, .int (nI i))]) hx hb dL_law_932 hl (by decide) rfl (fun ls hl => ?_)
    refine lv_aload_n hx hb dL_law_934 rfl (lv_at hl 3 rfl) ?_
    refine lv_aload_n hx hb dL_law_935 rfl (lv_at hl 1 rfl) ?_
    refine lv_iload hx hb dL_law_936 (lv_at hl 5 rfl) ?_
    refine lv_iconst (v := nI 1) hx hb dL_law_938 (by decide) ?_
    refine lv_iadd hx hb dL_law_939 ?_
    refine lv_eqi (v := nI (i + 1)) (nI_add _ _) ?_
    refine va_sld hx hb hXs hbl (Nat.not_le.mpr hbl) hS (vp_in_nI (show i + 1 < L by omega) (by omega)) dL_law_940 ?_
    refine lv_eqi (v := nI d) (by rw [nI_clamp (by omega)]; exact hv) ?_
    refine lv_aload_n hx hb dL_law_941 rfl (lv_at hl 1 rfl) ?_
    refine lv_iload hx hb dL_law_942 (lv_at hl 5 rfl) ?_
    refine lv_iconst (v := nI 2) hx hb dL_law_944 (by decide) ?_
    refine lv_iadd hx hb dL_law_945 ?_
    refine lv_eqi (v := nI (i + 2)) (nI_add _ _) ?_
    refine va_sld hx hb hXs hbl (Nat.not_le.mpr hbl) hS (vp_in_nI (show i + 2 < L by omega) (by omega)) dL_law_946 ?_
    refine lv_eqi (v := xs (i + 2)) (by rw [nI_clamp (by omega)]) ?_
    have hP := va_P_sw hP
    have hD := va_D_sw hD
    refine mi_frV (C := RX2) (As := [.int (nI d), .int (xs (i + 2))]) (rest := []) ⟨hx, hb, hml, hown, hW⟩ (n_absence q d hk.q24 hd (xs (i + 2)) g2 hg memM) nE_ok (cwV 2 hW (gV tw_716 tw_717 tw_718 tw_3 tw_719) rfl rfl rfl (by decide +kernel) ⟨Nat.le_of_ble_eq_true rfl, Nat.le_of_ble_eq_true rfl⟩) (va_recv hK hP (ci := 2) (q0 := 0) rfl rfl) hP hD (va_K.sub hK [0, 1, 2] rfl) hS hA trivial rfl hl.1 rfl (Nat.le_of_ble_eq_true rfl) dL_law_947 ⟨hc1, hc2⟩ (fun H locs hP hD hS => ?_)
    have hP := va_P_sw hP
    have hD := va_D_sw hD
    have hP : va_P D vwCl (((wC o ad cI cZ cG (nI t) (nI q) (nI u) (nI y) (pnC pq) (nI n) isw mem) ++ wO oa cJ (vp_updL f 0 ((nrI (p_near (xs (i + 2)) isw mem (tn (nI d)) q)).toInt64))) ++ wM om am cI cZ (nI 0) (nI t) (nI q) (nI y) (pvC pq) (nI (pq.getD 0)) (nI b0) ptv wy isw oR memM) H := hP
    have hD : va_D (lwA s) (((wC o ad cI cZ cG (nI t) (nI q) (nI u) (nI y) (pnC pq) (nI n) isw mem) ++ wO oa cJ (vp_updL f 0 ((nrI (p_near (xs (i + 2)) isw mem (tn (nI d)) q)).toInt64))) ++ wM om am cI cZ (nI 0) (nI t) (nI q) (nI y) (pvC pq) (nI (pq.getD 0)) (nI b0) ptv wy isw oR memM) := hD
    refine lv_istore (lv' := [(6, .int (nrI (mnr (xs (i + 2)) isw memM d q))), (5, .int (nI 0)), (0, .ref b), (1, .ref (o 0)), (2, .ref (om 0)), (3, .ref oa), (4, .int (nI i))]) hx hb dL_law_950 hl (by decide) rfl (fun ls hl => ?_)
    refine lv_aload_n hx hb dL_law_952 rfl (lv_at hl 4 rfl) ?_
    have hP := va_P_sw hP
    have hD := va_D_sw hD
    refine mi_frV (C := RX2) (As := []) (rest := []) ⟨hx, hb, hml, hown, hW⟩ (n_thrown memM) nE_ok (cwV 0 hW (gV tw_590 tw_591 tw_592 tw_3 tw_593) rfl rfl rfl (by decide +kernel) ⟨Nat.le_of_ble_eq_true rfl, Nat.le_of_ble_eq_true rfl⟩) (va_recv hK hP (ci := 2) (q0 := 0) rfl rfl) hP hD (va_K.sub hK [0, 1, 2] rfl) hS hA trivial rfl hl.1 rfl (Nat.le_of_ble_eq_true rfl) dL_law_953 ⟨hc1, hc2⟩ (fun H locs hP hD hS => ?_)
    have hP := va_P_sw hP
    have hD := va_D_sw hD
    refine lv_eqi (v := nI 0) (rfl) ?_
    refine lv_iload hx hb dL_law_956 (lv_at hl 1 rfl) ?_
    refine lv_icmp_eq (tgt := 963) hx hb dL_law_958 (by decide) (fun _ => ?_) (fun h9 => absurd rfl h9)
    refine lv_iload hx hb dL_law_963 (lv_at hl 1 rfl) ?_
    refine lv_if_ne (tgt := 980) hx hb dL_law_965 (by decide) (fun h9 => absurd (show nI 0 = (0 : Int32) from rfl) h9) (fun _ => ?_)
    refine lv_aload_n hx hb dL_law_968 rfl (lv_at hl 5 rfl) ?_
    refine lv_iconst (v := nI 0) hx hb dL_law_969 (by decide) ?_
    refine va_lald hx hb hK (va_P_right (va_P_left hP)) 0 3 rfl rfl (vp_in_nI (show 0 < 1 by decide) (by decide)) dL_law_970 ?_
    refine lv_eql (v := (nrI (mnr (xs (i + 2)) isw memM d q)).toInt64) (by rw [updL_0, show nrI (p_near (xs (i + 2)) isw mem (tn (nI d)) q) = nrI (mnr (xs (i + 2)) isw memM d q) by rw [tn_nI (by omega), hk.near (xs (i + 2)) hd q (Nat.le_refl _)]]) ?_
    refine lv_iload hx hb dL_law_971 (lv_at hl 0 rfl) ?_
    refine lv_i2l (v := (nrI (mnr (xs (i + 2)) isw memM d q)).toInt64) hx hb dL_law_973 rfl ?_
    refine W.lcmp hx hb dL_law_974 ?_
    refine lv_eqi (v := nI 0) (lcmp_self _) ?_
    refine lv_if_eq (tgt := 980) hx hb dL_law_975 (by decide) (fun _ => ?_) (fun h9 => absurd (show nI 0 = (0 : Int32) from rfl) h9)
    refine lv_goto (tgt := 1201) hx hb dL_law_980 (by decide) ?_
    exact kk t q y pq u n b0 isw oR mem memM (nI 0) ptv wy (vp_updL f 0 ((nrI (p_near (xs (i + 2)) isw mem (tn (nI d)) q)).toInt64)) H locs ls _ _ hk hP hD hS (lv_sub hl [2, 3, 4, 5, 6] rfl) (Nat.le_refl _) (Nat.le_refl _)
  · have hcd : nm = nIOB ∨ nm = nISE := ((x_or_some hX).elim (fun h1 => (Or.inl (x_req_some h1))) (fun h1 => ((x_or_some h1.2).elim (fun h1 => (Or.inl ((x_if_some h1).1))) (fun h1 => (Or.inr ((x_if_some h1.2).1))))))
    rcases hcd with rfl | rfl
    · refine lv_aload_n hx hb dL_law_915 rfl (lv_at hl 1 rfl) ?_
      refine lv_aload_n hx hb dL_law_916 rfl (lv_at hl 0 rfl) ?_
      refine lv_iload hx hb dL_law_917 (lv_at hl 4 rfl) ?_
      refine lv_iconst (v := nI 1) hx hb dL_law_919 (by decide) ?_
      refine lv_iadd hx hb dL_law_920 ?_
      refine lv_eqi (v := nI (i + 1)) (nI_add _ _) ?_
      refine va_sld hx hb hXs hbl (Nat.not_le.mpr hbl) hS (vp_in_nI (show i + 1 < L by omega) (by omega)) dL_law_921 ?_
      refine lv_eqi (v := xs (i + 1)) (by rw [nI_clamp (by omega)]) ?_
      refine lv_aload_n hx hb dL_law_922 rfl (lv_at hl 0 rfl) ?_
      refine lv_iload hx hb dL_law_923 (lv_at hl 4 rfl) ?_
      refine lv_iconst (v := nI 2) hx hb dL_law_925 (by decide) ?_
      refine lv_iadd hx hb dL_law_926 ?_
      refine lv_eqi (v := nI (i + 2)) (nI_add _ _) ?_
      refine va_sld hx hb hXs hbl (Nat.not_le.mpr hbl) hS (vp_in_nI (show i + 2 < L by omega) (by omega)) dL_law_927 ?_
      refine lv_eqi (v := xs (i + 2)) (by rw [nI_clamp (by omega)]) ?_
      refine lv_aload_n hx hb dL_law_928 rfl (lv_at hl 3 rfl) ?_
      refine tw_frS (As := [.ref (o 0), .int (xs (i + 1)), .int (xs (i + 2)), .ref oa]) (rest := []) ⟨hx, hb, hml, hown, hW⟩ (w_absence_1 hl0 oa f q hk.q24 (xs (i + 1)) (xs (i + 2)) (nI n) mem hX) lE_ok (xw_cw 4 hW tw_408 tw_409 tw_0 tw_410 rfl rfl (by decide +kernel) ⟨Nat.le_of_ble_eq_true rfl, Nat.le_of_ble_eq_true rfl⟩) hP hD hK hS hA hT rfl hl.1 rfl (Nat.le_of_ble_eq_true rfl) dL_law_929 ⟨hc1, hc2⟩ (fun H locs hP hD hS => ?_)
      have hP : va_P D vwCl (((wC o ad cI cZ cG (nI t) (nI q) (nI u) (nI y) (pnC pq) (nI n) isw mem) ++ wO oa cJ f) ++ wM om am cI cZ th (nI t) (nI q) (nI y) (pvC pq) (nI (pq.getD 0)) (nI b0) ptv wy isw oR memM) H := hP
      have hD : va_D (lwA s) (((wC o ad cI cZ cG (nI t) (nI q) (nI u) (nI y) (pnC pq) (nI n) isw mem) ++ wO oa cJ f) ++ wM om am cI cZ th (nI t) (nI q) (nI y) (pvC pq) (nI (pq.getD 0)) (nI b0) ptv wy isw oR memM) := hD
      refine lv_istore (lv' := [(5, .int (nI 1)), (0, .ref b), (1, .ref (o 0)), (2, .ref (om 0)), (3, .ref oa), (4, .int (nI i))]) hx hb dL_law_932 hl (by decide) rfl (fun ls hl => ?_)
      refine lv_aload_n hx hb dL_law_934 rfl (lv_at hl 3 rfl) ?_
      refine lv_aload_n hx hb dL_law_935 rfl (lv_at hl 1 rfl) ?_
      refine lv_iload hx hb dL_law_936 (lv_at hl 5 rfl) ?_
      refine lv_iconst (v := nI 1) hx hb dL_law_938 (by decide) ?_
      refine lv_iadd hx hb dL_law_939 ?_
      refine lv_eqi (v := nI (i + 1)) (nI_add _ _) ?_
      refine va_sld hx hb hXs hbl (Nat.not_le.mpr hbl) hS (vp_in_nI (show i + 1 < L by omega) (by omega)) dL_law_940 ?_
      refine lv_eqi (v := xs (i + 1)) (by rw [nI_clamp (by omega)]) ?_
      refine lv_aload_n hx hb dL_law_941 rfl (lv_at hl 1 rfl) ?_
      refine lv_iload hx hb dL_law_942 (lv_at hl 5 rfl) ?_
      refine lv_iconst (v := nI 2) hx hb dL_law_944 (by decide) ?_
      refine lv_iadd hx hb dL_law_945 ?_
      refine lv_eqi (v := nI (i + 2)) (nI_add _ _) ?_
      refine va_sld hx hb hXs hbl (Nat.not_le.mpr hbl) hS (vp_in_nI (show i + 2 < L by omega) (by omega)) dL_law_946 ?_
      refine lv_eqi (v := xs (i + 2)) (by rw [nI_clamp (by omega)]) ?_
      have hP := va_P_sw hP
      have hD := va_D_sw hD
      refine mi_frV (C := RX2) (As := [.int (xs (i + 1)), .int (xs (i + 2))]) (rest := []) ⟨hx, hb, hml, hown, hW⟩ (n_absence_no q hk.q24 (xs (i + 1)) (xs (i + 2)) memM _ hX) nE_ok (cwV 2 hW (gV tw_716 tw_717 tw_718 tw_3 tw_719) rfl rfl rfl (by decide +kernel) ⟨Nat.le_of_ble_eq_true rfl, Nat.le_of_ble_eq_true rfl⟩) (va_recv hK hP (ci := 2) (q0 := 0) rfl rfl) hP hD (va_K.sub hK [0, 1, 2] rfl) hS hA trivial rfl hl.1 rfl (Nat.le_of_ble_eq_true rfl) dL_law_947 ⟨hc1, hc2⟩ (fun H locs hP hD hS => ?_)
      have hP := va_P_sw hP
      have hD := va_D_sw hD
      have hP : va_P D vwCl (((wC o ad cI cZ cG (nI t) (nI q) (nI u) (nI y) (pnC pq) (nI n) isw mem) ++ wO oa cJ f) ++ wM om am cI cZ (cdL [nIOB, nISE] nIOB) (nI t) (nI q) (nI y) (pvC pq) (nI (pq.getD 0)) (nI b0) ptv wy isw oR memM) H := hP
      have hD : va_D (lwA s) (((wC o ad cI cZ cG (nI t) (nI q) (nI u) (nI y) (pnC pq) (nI n) isw mem) ++ wO oa cJ f) ++ wM om am cI cZ (cdL [nIOB, nISE] nIOB) (nI t) (nI q) (nI y) (pvC pq) (nI (pq.getD 0)) (nI b0) ptv wy isw oR memM) := hD
      refine lv_istore (lv' := [(6, .int (nI 0)), (5, .int (nI 1)), (0, .ref b), (1, .ref (o 0)), (2, .ref (om 0)), (3, .ref oa), (4, .int (nI i))]) hx hb dL_law_950 hl (by decide) rfl (fun ls hl => ?_)
      refine lv_aload_n hx hb dL_law_952 rfl (lv_at hl 4 rfl) ?_
      have hP := va_P_sw hP
      have hD := va_D_sw hD
      refine mi_frV (C := RX2) (As := []) (rest := []) ⟨hx, hb, hml, hown, hW⟩ (n_thrown memM) nE_ok (cwV 0 hW (gV tw_590 tw_591 tw_592 tw_3 tw_593) rfl rfl rfl (by decide +kernel) ⟨Nat.le_of_ble_eq_true rfl, Nat.le_of_ble_eq_true rfl⟩) (va_recv hK hP (ci := 2) (q0 := 0) rfl rfl) hP hD (va_K.sub hK [0, 1, 2] rfl) hS hA trivial rfl hl.1 rfl (Nat.le_of_ble_eq_true rfl) dL_law_953 ⟨hc1, hc2⟩ (fun H locs hP hD hS => ?_)
      have hP := va_P_sw hP
      have hD := va_D_sw hD
      refine lv_eqi (v := nI 1) (by decide +kernel) ?_
      refine lv_iload hx hb dL_law_956 (lv_at hl 1 rfl) ?_
      refine lv_icmp_eq (tgt := 963) hx hb dL_law_958 (by decide) (fun _ => ?_) (fun h9 => absurd rfl h9)
      refine lv_iload hx hb dL_law_963 (lv_at hl 1 rfl) ?_
      refine lv_if_ne (tgt := 980) hx hb dL_law_965 (by decide) (fun _ => ?_) (fun h9 => absurd h9 (by decide))
      refine lv_goto (tgt := 1201) hx hb dL_law_980 (by decide) ?_
      exact kk t q y pq u n b0 isw oR mem memM (cdL [nIOB, nISE] nIOB) ptv wy f H locs ls _ _ hk hP hD hS (lv_sub hl [2, 3, 4, 5, 6] rfl) (Nat.le_refl _) (Nat.le_refl _)
    · refine lv_aload_n hx hb dL_law_915 rfl (lv_at hl 1 rfl) ?_
      refine lv_aload_n hx hb dL_law_916 rfl (lv_at hl 0 rfl) ?_
      refine lv_iload hx hb dL_law_917 (lv_at hl 4 rfl) ?_
      refine lv_iconst (v := nI 1) hx hb dL_law_919 (by decide) ?_
      refine lv_iadd hx hb dL_law_920 ?_
      refine lv_eqi (v := nI (i + 1)) (nI_add _ _) ?_
      refine va_sld hx hb hXs hbl (Nat.not_le.mpr hbl) hS (vp_in_nI (show i + 1 < L by omega) (by omega)) dL_law_921 ?_
      refine lv_eqi (v := xs (i + 1)) (by rw [nI_clamp (by omega)]) ?_
      refine lv_aload_n hx hb dL_law_922 rfl (lv_at hl 0 rfl) ?_
      refine lv_iload hx hb dL_law_923 (lv_at hl 4 rfl) ?_
      refine lv_iconst (v := nI 2) hx hb dL_law_925 (by decide) ?_
      refine lv_iadd hx hb dL_law_926 ?_
      refine lv_eqi (v := nI (i + 2)) (nI_add _ _) ?_
      refine va_sld hx hb hXs hbl (Nat.not_le.mpr hbl) hS (vp_in_nI (show i + 2 < L by omega) (by omega)) dL_law_927 ?_
      refine lv_eqi (v := xs (i + 2)) (by rw [nI_clamp (by omega)]) ?_
      refine lv_aload_n hx hb dL_law_928 rfl (lv_at hl 3 rfl) ?_
      refine tw_frS (As := [.ref (o 0), .int (xs (i + 1)), .int (xs (i + 2)), .ref oa]) (rest := []) ⟨hx, hb, hml, hown, hW⟩ (w_absence_2 hl0 oa f q hk.q24 (xs (i + 1)) (xs (i + 2)) (nI n) mem hX) lE_ok (xw_cw 4 hW tw_408 tw_409 tw_0 tw_410 rfl rfl (by decide +kernel) ⟨Nat.le_of_ble_eq_true rfl, Nat.le_of_ble_eq_true rfl⟩) hP hD hK hS hA hT rfl hl.1 rfl (Nat.le_of_ble_eq_true rfl) dL_law_929 ⟨hc1, hc2⟩ (fun H locs hP hD hS => ?_)
      have hP : va_P D vwCl (((wC o ad cI cZ cG (nI t) (nI q) (nI u) (nI y) (pnC pq) (nI n) isw mem) ++ wO oa cJ f) ++ wM om am cI cZ th (nI t) (nI q) (nI y) (pvC pq) (nI (pq.getD 0)) (nI b0) ptv wy isw oR memM) H := hP
      have hD : va_D (lwA s) (((wC o ad cI cZ cG (nI t) (nI q) (nI u) (nI y) (pnC pq) (nI n) isw mem) ++ wO oa cJ f) ++ wM om am cI cZ th (nI t) (nI q) (nI y) (pvC pq) (nI (pq.getD 0)) (nI b0) ptv wy isw oR memM) := hD
      refine lv_istore (lv' := [(5, .int (nI 2)), (0, .ref b), (1, .ref (o 0)), (2, .ref (om 0)), (3, .ref oa), (4, .int (nI i))]) hx hb dL_law_932 hl (by decide) rfl (fun ls hl => ?_)
      refine lv_aload_n hx hb dL_law_934 rfl (lv_at hl 3 rfl) ?_
      refine lv_aload_n hx hb dL_law_935 rfl (lv_at hl 1 rfl) ?_
      refine lv_iload hx hb dL_law_936 (lv_at hl 5 rfl) ?_
      refine lv_iconst (v := nI 1) hx hb dL_law_938 (by decide) ?_
      refine lv_iadd hx hb dL_law_939 ?_
      refine lv_eqi (v := nI (i + 1)) (nI_add _ _) ?_
      refine va_sld hx hb hXs hbl (Nat.not_le.mpr hbl) hS (vp_in_nI (show i + 1 < L by omega) (by omega)) dL_law_940 ?_
      refine lv_eqi (v := xs (i + 1)) (by rw [nI_clamp (by omega)]) ?_
      refine lv_aload_n hx hb dL_law_941 rfl (lv_at hl 1 rfl) ?_
      refine lv_iload hx hb dL_law_942 (lv_at hl 5 rfl) ?_
      refine lv_iconst (v := nI 2) hx hb dL_law_944 (by decide) ?_
      refine lv_iadd hx hb dL_law_945 ?_
      refine lv_eqi (v := nI (i + 2)) (nI_add _ _) ?_
      refine va_sld hx hb hXs hbl (Nat.not_le.mpr hbl) hS (vp_in_nI (show i + 2 < L by omega) (by omega)) dL_law_946 ?_
      refine lv_eqi (v := xs (i + 2)) (by rw [nI_clamp (by omega)]) ?_
      have hP := va_P_sw hP
      have hD := va_D_sw hD
      refine mi_frV (C := RX2) (As := [.int (xs (i + 1)), .int (xs (i + 2))]) (rest := []) ⟨hx, hb, hml, hown, hW⟩ (n_absence_no q hk.q24 (xs (i + 1)) (xs (i + 2)) memM _ hX) nE_ok (cwV 2 hW (gV tw_716 tw_717 tw_718 tw_3 tw_719) rfl rfl rfl (by decide +kernel) ⟨Nat.le_of_ble_eq_true rfl, Nat.le_of_ble_eq_true rfl⟩) (va_recv hK hP (ci := 2) (q0 := 0) rfl rfl) hP hD (va_K.sub hK [0, 1, 2] rfl) hS hA trivial rfl hl.1 rfl (Nat.le_of_ble_eq_true rfl) dL_law_947 ⟨hc1, hc2⟩ (fun H locs hP hD hS => ?_)
      have hP := va_P_sw hP
      have hD := va_D_sw hD
      have hP : va_P D vwCl (((wC o ad cI cZ cG (nI t) (nI q) (nI u) (nI y) (pnC pq) (nI n) isw mem) ++ wO oa cJ f) ++ wM om am cI cZ (cdL [nIOB, nISE] nISE) (nI t) (nI q) (nI y) (pvC pq) (nI (pq.getD 0)) (nI b0) ptv wy isw oR memM) H := hP
      have hD : va_D (lwA s) (((wC o ad cI cZ cG (nI t) (nI q) (nI u) (nI y) (pnC pq) (nI n) isw mem) ++ wO oa cJ f) ++ wM om am cI cZ (cdL [nIOB, nISE] nISE) (nI t) (nI q) (nI y) (pvC pq) (nI (pq.getD 0)) (nI b0) ptv wy isw oR memM) := hD
      refine lv_istore (lv' := [(6, .int (nI 0)), (5, .int (nI 2)), (0, .ref b), (1, .ref (o 0)), (2, .ref (om 0)), (3, .ref oa), (4, .int (nI i))]) hx hb dL_law_950 hl (by decide) rfl (fun ls hl => ?_)
      refine lv_aload_n hx hb dL_law_952 rfl (lv_at hl 4 rfl) ?_
      have hP := va_P_sw hP
      have hD := va_D_sw hD
      refine mi_frV (C := RX2) (As := []) (rest := []) ⟨hx, hb, hml, hown, hW⟩ (n_thrown memM) nE_ok (cwV 0 hW (gV tw_590 tw_591 tw_592 tw_3 tw_593) rfl rfl rfl (by decide +kernel) ⟨Nat.le_of_ble_eq_true rfl, Nat.le_of_ble_eq_true rfl⟩) (va_recv hK hP (ci := 2) (q0 := 0) rfl rfl) hP hD (va_K.sub hK [0, 1, 2] rfl) hS hA trivial rfl hl.1 rfl (Nat.le_of_ble_eq_true rfl) dL_law_953 ⟨hc1, hc2⟩ (fun H locs hP hD hS => ?_)
      have hP := va_P_sw hP
      have hD := va_D_sw hD
      refine lv_eqi (v := nI 2) (by decide +kernel) ?_
      refine lv_iload hx hb dL_law_956 (lv_at hl 1 rfl) ?_
      refine lv_icmp_eq (tgt := 963) hx hb dL_law_958 (by decide) (fun _ => ?_) (fun h9 => absurd rfl h9)
      refine lv_iload hx hb dL_law_963 (lv_at hl 1 rfl) ?_
      refine lv_if_ne (tgt := 980) hx hb dL_law_965 (by decide) (fun _ => ?_) (fun h9 => absurd h9 (by decide))
      refine lv_goto (tgt := 1201) hx hb dL_law_980 (by decide) ?_
      exact kk t q y pq u n b0 isw oR mem memM (cdL [nIOB, nISE] nISE) ptv wy f H locs ls _ _ hk hP hD hS (lv_sub hl [2, 3, 4, 5, 6] rfl) (Nat.le_refl _) (Nat.le_refl _)
set_option maxHeartbeats 4000000 in
set_option maxRecDepth 100000 in
theorem law_mark {p : Program} {l : Launch} {e : Env} {s : State} {m : MethodId} {below : List Frame} {meth : Method} {c : Code} {b L i cells slots : Nat} {xs : Nat → Int32} {D : va_G} {o ad om am : Nat → Nat} {oa : Nat} {cI cZ cG cJ : ClassId} {Q : State → Prop} {t q y u n b0 : Nat} {pq : Option Nat} {isw oR : Nat → Int32} {mem memM : xMem} {th ptv wy : Int32} {f : Nat → Int64} {H : Heap} {locs : List Loc} {ls : Array Slot} (hC : lawX p l s m meth c b L xs D cI cZ cG cJ) (hk : LK t q y pq u isw mem memM) (hP : va_P D vwCl (lwW o ad om am oa cI cZ cG cJ t q y pq u n b0 isw oR mem memM th ptv wy f) H) (hD : va_D (lwA s) (lwW o ad om am oa cI cZ cG cJ t q y pq u n b0 isw oR mem memM th ptv wy f)) (hS : va_S (lwA s) s.heap H locs) (hl : lv_has ls 7 [(0, .ref b), (1, .ref (o 0)), (2, .ref (om 0)), (3, .ref oa), (4, .int (nI i))]) (hi : i + 7 ≤ L) (hc1 : cells + 3 ≤ 601024) (hc2 : slots + 18 ≤ 7293033) (kk : lawK p l e s m below meth c b Q D o ad om am oa cI cZ cG cJ i cells slots) : W p l e room_1 s m #[Value.ref b] below meth c H locs cells slots Q (F0 m 983 ls []) := by
  obtain ⟨hx, hb, hml, hown, hW, hXs, hbl, hK, hT, hl0, hL⟩ := hC
  have hA : ∀ q : Nat, s.heap.size ≤ q → lwA s q := fun _ h => h
  have hq24 := hk.q24
  have hy12 := hk.y12
  have ht200 := hk.t200
  have hP : va_P D vwCl (((wC o ad cI cZ cG (nI t) (nI q) (nI u) (nI y) (pnC pq) (nI n) isw mem) ++ wO oa cJ f) ++ wM om am cI cZ th (nI t) (nI q) (nI y) (pvC pq) (nI (pq.getD 0)) (nI b0) ptv wy isw oR memM) H := hP
  have hD : va_D (lwA s) (((wC o ad cI cZ cG (nI t) (nI q) (nI u) (nI y) (pnC pq) (nI n) isw mem) ++ wO oa cJ f) ++ wM om am cI cZ th (nI t) (nI q) (nI y) (pvC pq) (nI (pq.getD 0)) (nI b0) ptv wy isw oR memM) := hD
  rcases hX : (x_req (xs (i + 1)) (nI q)).or (x_req (xs (i + 6)) (nI 32)) with _ | nm
  · obtain ⟨g1, g2⟩ := x_or_none hX
    obtain ⟨d, hd, hv⟩ := x_req_none (by omega) g1
    obtain ⟨j, hj, hu⟩ := x_req_none (by decide) g2
    rw [hv, hu] at hX
    refine lv_aload_n hx hb dL_law_983 rfl (lv_at hl 1 rfl) ?_
    refine lv_aload_n hx hb dL_law_984 rfl (lv_at hl 0 rfl) ?_
    refine lv_iload hx hb dL_law_985 (lv_at hl 4 rfl) ?_
    refine lv_iconst (v := nI 1) hx hb dL_law_987 (by decide) ?_
    refine lv_iadd hx hb dL_law_988 ?_
    refine lv_eqi (v := nI (i + 1)) (nI_add _ _) ?_
    refine va_sld hx hb hXs hbl (Nat.not_le.mpr hbl) hS (vp_in_nI (show i + 1 < L by omega) (by omega)) dL_law_989 ?_
    refine lv_eqi (v := nI d) (by rw [nI_clamp (by omega)]; exact hv) ?_
    refine lv_aload_n hx hb dL_law_990 rfl (lv_at hl 0 rfl) ?_
    refine lv_iload hx hb dL_law_991 (lv_at hl 4 rfl) ?_
    refine lv_iconst (v := nI 2) hx hb dL_law_993 (by decide) ?_
    refine lv_iadd hx hb dL_law_994 ?_
    refine lv_eqi (v := nI (i + 2)) (nI_add _ _) ?_
    refine va_sld hx hb hXs hbl (Nat.not_le.mpr hbl) hS (vp_in_nI (show i + 2 < L by omega) (by omega)) dL_law_995 ?_
    refine lv_eqi (v := xs (i + 2)) (by rw [nI_clamp (by omega)]) ?_
    refine lv_i2l (v := (xs (i + 2)).toInt64) hx hb dL_law_996 rfl ?_
    refine lv_bipush (v := nI 32) hx hb dL_law_997 (by decide) ?_
    refine lv_lshl (v := (xs (i + 2)).toInt64 <<< ((nI 32).toInt64 &&& 63)) hx hb dL_law_999 rfl ?_
    refine lv_aload_n hx hb dL_law_1000 rfl (lv_at hl 0 rfl) ?_
    refine lv_iload hx hb dL_law_1001 (lv_at hl 4 rfl) ?_
    refine lv_iconst (v := nI 3) hx hb dL_law_1003 (by decide) ?_
    refine lv_iadd hx hb dL_law_1004 ?_
    refine lv_eqi (v := nI (i + 3)) (nI_add _ _) ?_
    refine va_sld hx hb hXs hbl (Nat.not_le.mpr hbl) hS (vp_in_nI (show i + 3 < L by omega) (by omega)) dL_law_1005 ?_
    refine lv_eqi (v := xs (i + 3)) (by rw [nI_clamp (by omega)]) ?_
    refine lv_i2l (v := (xs (i + 3)).toInt64) hx hb dL_law_1006 rfl ?_
    refine lv_ldc2 (v := lN 4294967295) hx hb hown (hW _ tw_732) dL_law_1007 ?_
    refine lv_land hx hb dL_law_1010 ?_
    refine lv_lor hx hb dL_law_1011 ?_
    refine lv_eql (v := lgX (xs (i + 2)) (xs (i + 3))) rfl ?_
    refine lv_aload_n hx hb dL_law_1012 rfl (lv_at hl 0 rfl) ?_
    refine lv_iload hx hb dL_law_1013 (lv_at hl 4 rfl) ?_
    refine lv_iconst (v := nI 4) hx hb dL_law_1015 (by decide) ?_
    refine lv_iadd hx hb dL_law_1016 ?_
    refine lv_eqi (v := nI (i + 4)) (nI_add _ _) ?_
    refine va_sld hx hb hXs hbl (Nat.not_le.mpr hbl) hS (vp_in_nI (show i + 4 < L by omega) (by omega)) dL_law_1017 ?_
    refine lv_eqi (v := xs (i + 4)) (by rw [nI_clamp (by omega)]) ?_
    refine lv_i2l (v := (xs (i + 4)).toInt64) hx hb dL_law_1018 rfl ?_
    refine lv_bipush (v := nI 32) hx hb dL_law_1019 (by decide) ?_
    refine lv_lshl (v := (xs (i + 4)).toInt64 <<< ((nI 32).toInt64 &&& 63)) hx hb dL_law_1021 rfl ?_
    refine lv_aload_n hx hb dL_law_1022 rfl (lv_at hl 0 rfl) ?_
    refine lv_iload hx hb dL_law_1023 (lv_at hl 4 rfl) ?_
    refine lv_iconst (v := nI 5) hx hb dL_law_1025 (by decide) ?_
    refine lv_iadd hx hb dL_law_1026 ?_
    refine lv_eqi (v := nI (i + 5)) (nI_add _ _) ?_
    refine va_sld hx hb hXs hbl (Nat.not_le.mpr hbl) hS (vp_in_nI (show i + 5 < L by omega) (by omega)) dL_law_1027 ?_
    refine lv_eqi (v := xs (i + 5)) (by rw [nI_clamp (by omega)]) ?_
    refine lv_i2l (v := (xs (i + 5)).toInt64) hx hb dL_law_1028 rfl ?_
    refine lv_ldc2 (v := lN 4294967295) hx hb hown (hW _ tw_732) dL_law_1029 ?_
    refine lv_land hx hb dL_law_1032 ?_
    refine lv_lor hx hb dL_law_1033 ?_
    refine lv_eql (v := lgX (xs (i + 4)) (xs (i + 5))) rfl ?_
    refine lv_aload_n hx hb dL_law_1034 rfl (lv_at hl 0 rfl) ?_
    refine lv_iload hx hb dL_law_1035 (lv_at hl 4 rfl) ?_
    refine lv_bipush (v := nI 6) hx hb dL_law_1037 (by decide) ?_
    refine lv_iadd hx hb dL_law_1039 ?_
    refine lv_eqi (v := nI (i + 6)) (nI_add _ _) ?_
    refine va_sld hx hb hXs hbl (Nat.not_le.mpr hbl) hS (vp_in_nI (show i + 6 < L by omega) (by omega)) dL_law_1040 ?_
    refine lv_eqi (v := nI j) (by rw [nI_clamp (by omega)]; exact hu) ?_
    refine lv_aload_n hx hb dL_law_1041 rfl (lv_at hl 3 rfl) ?_
    refine tw_frS (As := [.ref (o 0), .int (nI d), .long (lgX (xs (i + 2)) (xs (i + 3))), .long (lgX (xs (i + 4)) (xs (i + 5))), .int (nI j), .ref oa]) (rest := []) ⟨hx, hb, hml, hown, hW⟩ (w_mark_ok hl0 oa f q n hk.q24 (nI d) (nI j) (lgX (xs (i + 2)) (xs (i + 3))) (lgX (xs (i + 4)) (xs (i + 5))) mem hX) lE_ok (xw_cw 6 hW tw_425 tw_426 tw_0 tw_427 rfl rfl (by decide +kernel) ⟨Nat.le_of_ble_eq_true rfl, Nat.le_of_ble_eq_true rfl⟩) hP hD hK hS hA hT rfl hl.1 rfl (Nat.le_of_ble_eq_true rfl) dL_law_1042 ⟨hc1, hc2⟩ (fun H locs hP hD hS => ?_)
    have hP : va_P D vwCl (((wC o ad cI cZ cG (nI t) (nI q) (nI u) (nI y) (pnC pq) (nI ((p_mark (tn (nI d)) (lgX (xs (i + 2)) (xs (i + 3))) (lgX (xs (i + 4)) (xs (i + 5))) mem).1)) isw ((p_mark (tn (nI d)) (lgX (xs (i + 2)) (xs (i + 3))) (lgX (xs (i + 4)) (xs (i + 5))) mem).2)) ++ wO oa cJ (vp_updL f 0 (((p_mark (tn (nI d)) (lgX (xs (i + 2)) (xs (i + 3))) (lgX (xs (i + 4)) (xs (i + 5))) mem).2 2 (tn (nI j))).toInt64))) ++ wM om am cI cZ th (nI t) (nI q) (nI y) (pvC pq) (nI (pq.getD 0)) (nI b0) ptv wy isw oR memM) H := hP
    have hD : va_D (lwA s) (((wC o ad cI cZ cG (nI t) (nI q) (nI u) (nI y) (pnC pq) (nI ((p_mark (tn (nI d)) (lgX (xs (i + 2)) (xs (i + 3))) (lgX (xs (i + 4)) (xs (i + 5))) mem).1)) isw ((p_mark (tn (nI d)) (lgX (xs (i + 2)) (xs (i + 3))) (lgX (xs (i + 4)) (xs (i + 5))) mem).2)) ++ wO oa cJ (vp_updL f 0 (((p_mark (tn (nI d)) (lgX (xs (i + 2)) (xs (i + 3))) (lgX (xs (i + 4)) (xs (i + 5))) mem).2 2 (tn (nI j))).toInt64))) ++ wM om am cI cZ th (nI t) (nI q) (nI y) (pvC pq) (nI (pq.getD 0)) (nI b0) ptv wy isw oR memM) := hD
    refine lv_istore (lv' := [(5, .int (nI 0)), (0, .ref b), (1, .ref (o 0)), (2, .ref (om 0)), (3, .ref oa), (4, .int (nI i))]) hx hb dL_law_1045 hl (by decide) rfl (fun ls hl => ?_)
    refine lv_aload_n hx hb dL_law_1047 rfl (lv_at hl 3 rfl) ?_
    refine lv_aload_n hx hb dL_law_1048 rfl (lv_at hl 1 rfl) ?_
    refine lv_iload hx hb dL_law_1049 (lv_at hl 5 rfl) ?_
    refine lv_iconst (v := nI 1) hx hb dL_law_1051 (by decide) ?_
    refine lv_iadd hx hb dL_law_1052 ?_
    refine lv_eqi (v := nI (i + 1)) (nI_add _ _) ?_
    refine va_sld hx hb hXs hbl (Nat.not_le.mpr hbl) hS (vp_in_nI (show i + 1 < L by omega) (by omega)) dL_law_1053 ?_
    refine lv_eqi (v := nI d) (by rw [nI_clamp (by omega)]; exact hv) ?_
    refine lv_aload_n hx hb dL_law_1054 rfl (lv_at hl 1 rfl) ?_
    refine lv_iload hx hb dL_law_1055 (lv_at hl 5 rfl) ?_
    refine lv_iconst (v := nI 2) hx hb dL_law_1057 (by decide) ?_
    refine lv_iadd hx hb dL_law_1058 ?_
    refine lv_eqi (v := nI (i + 2)) (nI_add _ _) ?_
    refine va_sld hx hb hXs hbl (Nat.not_le.mpr hbl) hS (vp_in_nI (show i + 2 < L by omega) (by omega)) dL_law_1059 ?_
    refine lv_eqi (v := xs (i + 2)) (by rw [nI_clamp (by omega)]) ?_
    refine lv_i2l (v := (xs (i + 2)).toInt64) hx hb dL_law_1060 rfl ?_
    refine lv_bipush (v := nI 32) hx hb dL_law_1061 (by decide) ?_
    refine lv_lshl (v := (xs (i + 2)).toInt64 <<< ((nI 32).toInt64 &&& 63)) hx hb dL_law_1063 rfl ?_
    refine lv_aload_n hx hb dL_law_1064 rfl (lv_at hl 1 rfl) ?_
    refine lv_iload hx hb dL_law_1065 (lv_at hl 5 rfl) ?_
    refine lv_iconst (v := nI 3) hx hb dL_law_1067 (by decide) ?_
    refine lv_iadd hx hb dL_law_1068 ?_
    refine lv_eqi (v := nI (i + 3)) (nI_add _ _) ?_
    refine va_sld hx hb hXs hbl (Nat.not_le.mpr hbl) hS (vp_in_nI (show i + 3 < L by omega) (by omega)) dL_law_1069 ?_
    refine lv_eqi (v := xs (i + 3)) (by rw [nI_clamp (by omega)]) ?_
    refine lv_i2l (v := (xs (i + 3)).toInt64) hx hb dL_law_1070 rfl ?_
    refine lv_ldc2 (v := lN 4294967295) hx hb hown (hW _ tw_732) dL_law_1071 ?_
    refine lv_land hx hb dL_law_1074 ?_
    refine lv_lor hx hb dL_law_1075 ?_
    refine lv_eql (v := lgX (xs (i + 2)) (xs (i + 3))) rfl ?_
    refine lv_aload_n hx hb dL_law_1076 rfl (lv_at hl 1 rfl) ?_
    refine lv_iload hx hb dL_law_1077 (lv_at hl 5 rfl) ?_
    refine lv_iconst (v := nI 4) hx hb dL_law_1079 (by decide) ?_
    refine lv_iadd hx hb dL_law_1080 ?_
    refine lv_eqi (v := nI (i + 4)) (nI_add _ _) ?_
    refine va_sld hx hb hXs hbl (Nat.not_le.mpr hbl) hS (vp_in_nI (show i + 4 < L by omega) (by omega)) dL_law_1081 ?_
    refine lv_eqi (v := xs (i + 4)) (by rw [nI_clamp (by omega)]) ?_
    refine lv_i2l (v := (xs (i + 4)).toInt64) hx hb dL_law_1082 rfl ?_
    refine lv_bipush (v := nI 32) hx hb dL_law_1083 (by decide) ?_
    refine lv_lshl (v := (xs (i + 4)).toInt64 <<< ((nI 32).toInt64 &&& 63)) hx hb dL_law_1085 rfl ?_
    refine lv_aload_n hx hb dL_law_1086 rfl (lv_at hl 1 rfl) ?_
    refine lv_iload hx hb dL_law_1087 (lv_at hl 5 rfl) ?_
    refine lv_iconst (v := nI 5) hx hb dL_law_1089 (by decide) ?_
    refine lv_iadd hx hb dL_law_1090 ?_
    refine lv_eqi (v := nI (i + 5)) (nI_add _ _) ?_
    refine va_sld hx hb hXs hbl (Nat.not_le.mpr hbl) hS (vp_in_nI (show i + 5 < L by omega) (by omega)) dL_law_1091 ?_
    refine lv_eqi (v := xs (i + 5)) (by rw [nI_clamp (by omega)]) ?_
    refine lv_i2l (v := (xs (i + 5)).toInt64) hx hb dL_law_1092 rfl ?_
    refine lv_ldc2 (v := lN 4294967295) hx hb hown (hW _ tw_732) dL_law_1093 ?_
    refine lv_land hx hb dL_law_1096 ?_
    refine lv_lor hx hb dL_law_1097 ?_
    refine lv_eql (v := lgX (xs (i + 4)) (xs (i + 5))) rfl ?_
    refine lv_aload_n hx hb dL_law_1098 rfl (lv_at hl 1 rfl) ?_
    refine lv_iload hx hb dL_law_1099 (lv_at hl 5 rfl) ?_
    refine lv_bipush (v := nI 6) hx hb dL_law_1101 (by decide) ?_
    refine lv_iadd hx hb dL_law_1103 ?_
    refine lv_eqi (v := nI (i + 6)) (nI_add _ _) ?_
    refine va_sld hx hb hXs hbl (Nat.not_le.mpr hbl) hS (vp_in_nI (show i + 6 < L by omega) (by omega)) dL_law_1104 ?_
    refine lv_eqi (v := nI j) (by rw [nI_clamp (by omega)]; exact hu) ?_
    have hP := va_P_sw hP
    have hD := va_D_sw hD
    refine mi_frV (C := RX2) (As := [.int (nI d), .long (lgX (xs (i + 2)) (xs (i + 3))), .long (lgX (xs (i + 4)) (xs (i + 5))), .int (nI j)]) (rest := []) ⟨hx, hb, hml, hown, hW⟩ (n_mark q d j hk.q24 hd hj (lgX (xs (i + 2)) (xs (i + 3))) (lgX (xs (i + 4)) (xs (i + 5))) memM hk.hkc) nE_ok (cwV 4 hW (gV tw_724 tw_725 tw_726 tw_3 tw_727) rfl rfl rfl (by decide +kernel) ⟨Nat.le_of_ble_eq_true rfl, Nat.le_of_ble_eq_true rfl⟩) (va_recv hK hP (ci := 2) (q0 := 0) rfl rfl) hP hD (va_K.sub hK [0, 1, 2] rfl) hS hA trivial rfl hl.1 rfl (Nat.le_of_ble_eq_true rfl) dL_law_1105 ⟨hc1, hc2⟩ (fun H locs hP hD hS => ?_)
    have hP := va_P_sw hP
    have hD := va_D_sw hD
    have hP : va_P D vwCl (((wC o ad cI cZ cG (nI t) (nI q) (nI u) (nI y) (pnC pq) (nI ((p_mark (tn (nI d)) (lgX (xs (i + 2)) (xs (i + 3))) (lgX (xs (i + 4)) (xs (i + 5))) mem).1)) isw ((p_mark (tn (nI d)) (lgX (xs (i + 2)) (xs (i + 3))) (lgX (xs (i + 4)) (xs (i + 5))) mem).2)) ++ wO oa cJ (vp_updL f 0 (((p_mark (tn (nI d)) (lgX (xs (i + 2)) (xs (i + 3))) (lgX (xs (i + 4)) (xs (i + 5))) mem).2 2 (tn (nI j))).toInt64))) ++ wM om am cI cZ (nI 0) (nI t) (nI q) (nI y) (pvC pq) (nI (pq.getD 0)) (nI ((m_mark d (lgX (xs (i + 2)) (xs (i + 3))) (lgX (xs (i + 4)) (xs (i + 5))) memM).1)) ptv wy isw oR ((m_mark d (lgX (xs (i + 2)) (xs (i + 3))) (lgX (xs (i + 4)) (xs (i + 5))) memM).2)) H := hP
    have hD : va_D (lwA s) (((wC o ad cI cZ cG (nI t) (nI q) (nI u) (nI y) (pnC pq) (nI ((p_mark (tn (nI d)) (lgX (xs (i + 2)) (xs (i + 3))) (lgX (xs (i + 4)) (xs (i + 5))) mem).1)) isw ((p_mark (tn (nI d)) (lgX (xs (i + 2)) (xs (i + 3))) (lgX (xs (i + 4)) (xs (i + 5))) mem).2)) ++ wO oa cJ (vp_updL f 0 (((p_mark (tn (nI d)) (lgX (xs (i + 2)) (xs (i + 3))) (lgX (xs (i + 4)) (xs (i + 5))) mem).2 2 (tn (nI j))).toInt64))) ++ wM om am cI cZ (nI 0) (nI t) (nI q) (nI y) (pvC pq) (nI (pq.getD 0)) (nI ((m_mark d (lgX (xs (i + 2)) (xs (i + 3))) (lgX (xs (i + 4)) (xs (i + 5))) memM).1)) ptv wy isw oR ((m_mark d (lgX (xs (i + 2)) (xs (i + 3))) (lgX (xs (i + 4)) (xs (i + 5))) memM).2)) := hD
    refine lv_istore (lv' := [(6, .int ((m_mark d (lgX (xs (i + 2)) (xs (i + 3))) (lgX (xs (i + 4)) (xs (i + 5))) memM).2 2 j)), (5, .int (nI 0)), (0, .ref b), (1, .ref (o 0)), (2, .ref (om 0)), (3, .ref oa), (4, .int (nI i))]) hx hb dL_law_1108 hl (by decide) rfl (fun ls hl => ?_)
    refine lv_aload_n hx hb dL_law_1110 rfl (lv_at hl 4 rfl) ?_
    have hP := va_P_sw hP
    have hD := va_D_sw hD
    refine mi_frV (C := RX2) (As := []) (rest := []) ⟨hx, hb, hml, hown, hW⟩ (n_thrown ((m_mark d (lgX (xs (i + 2)) (xs (i + 3))) (lgX (xs (i + 4)) (xs (i + 5))) memM).2)) nE_ok (cwV 0 hW (gV tw_590 tw_591 tw_592 tw_3 tw_593) rfl rfl rfl (by decide +kernel) ⟨Nat.le_of_ble_eq_true rfl, Nat.le_of_ble_eq_true rfl⟩) (va_recv hK hP (ci := 2) (q0 := 0) rfl rfl) hP hD (va_K.sub hK [0, 1, 2] rfl) hS hA trivial rfl hl.1 rfl (Nat.le_of_ble_eq_true rfl) dL_law_1111 ⟨hc1, hc2⟩ (fun H locs hP hD hS => ?_)
    have hP := va_P_sw hP
    have hD := va_D_sw hD
    refine lv_eqi (v := nI 0) (rfl) ?_
    refine lv_iload hx hb dL_law_1114 (lv_at hl 1 rfl) ?_
    refine lv_icmp_eq (tgt := 1121) hx hb dL_law_1116 (by decide) (fun _ => ?_) (fun h9 => absurd rfl h9)
    refine lv_iload hx hb dL_law_1121 (lv_at hl 1 rfl) ?_
    refine lv_if_ne (tgt := 1138) hx hb dL_law_1123 (by decide) (fun h9 => absurd (show nI 0 = (0 : Int32) from rfl) h9) (fun _ => ?_)
    refine lv_aload_n hx hb dL_law_1126 rfl (lv_at hl 5 rfl) ?_
    refine lv_iconst (v := nI 0) hx hb dL_law_1127 (by decide) ?_
    refine va_lald hx hb hK (va_P_right (va_P_left hP)) 0 3 rfl rfl (vp_in_nI (show 0 < 1 by decide) (by decide)) dL_law_1128 ?_
    refine lv_eql (v := ((m_mark d (lgX (xs (i + 2)) (xs (i + 3))) (lgX (xs (i + 4)) (xs (i + 5))) memM).2 2 j).toInt64) (by rw [updL_0, show (p_mark (tn (nI d)) (lgX (xs (i + 2)) (xs (i + 3))) (lgX (xs (i + 4)) (xs (i + 5))) mem).2 2 (tn (nI j)) = (m_mark d (lgX (xs (i + 2)) (xs (i + 3))) (lgX (xs (i + 4)) (xs (i + 5))) memM).2 2 j by rw [tn_nI (show d < 2 ^ 31 by omega), tn_nI (show j < 2 ^ 31 by omega)]; exact (hk.mark hd _ _).1 j hj]) ?_
    refine lv_iload hx hb dL_law_1129 (lv_at hl 0 rfl) ?_
    refine lv_i2l (v := ((m_mark d (lgX (xs (i + 2)) (xs (i + 3))) (lgX (xs (i + 4)) (xs (i + 5))) memM).2 2 j).toInt64) hx hb dL_law_1131 rfl ?_
    refine W.lcmp hx hb dL_law_1132 ?_
    refine lv_eqi (v := nI 0) (lcmp_self _) ?_
    refine lv_if_eq (tgt := 1138) hx hb dL_law_1133 (by decide) (fun _ => ?_) (fun h9 => absurd (show nI 0 = (0 : Int32) from rfl) h9)
    refine lv_goto (tgt := 1201) hx hb dL_law_1138 (by decide) ?_
    exact kk t q y pq u ((p_mark (tn (nI d)) (lgX (xs (i + 2)) (xs (i + 3))) (lgX (xs (i + 4)) (xs (i + 5))) mem).1) ((m_mark d (lgX (xs (i + 2)) (xs (i + 3))) (lgX (xs (i + 4)) (xs (i + 5))) memM).1) isw oR ((p_mark (tn (nI d)) (lgX (xs (i + 2)) (xs (i + 3))) (lgX (xs (i + 4)) (xs (i + 5))) mem).2) ((m_mark d (lgX (xs (i + 2)) (xs (i + 3))) (lgX (xs (i + 4)) (xs (i + 5))) memM).2) (nI 0) ptv wy (vp_updL f 0 (((p_mark (tn (nI d)) (lgX (xs (i + 2)) (xs (i + 3))) (lgX (xs (i + 4)) (xs (i + 5))) mem).2 2 (tn (nI j))).toInt64)) H locs ls _ _ (by rw [tn_nI (by omega)]; exact (hk.mark hd _ _).2) hP hD hS (lv_sub hl [2, 3, 4, 5, 6] rfl) (Nat.le_refl _) (Nat.le_refl _)
  · have hcd : nm = nIOB := ((x_or_some hX).elim (fun h1 => (x_req_some h1)) (fun h1 => (x_req_some h1.2)))
    subst hcd
    refine lv_aload_n hx hb dL_law_983 rfl (lv_at hl 1 rfl) ?_
    refine lv_aload_n hx hb dL_law_984 rfl (lv_at hl 0 rfl) ?_
    refine lv_iload hx hb dL_law_985 (lv_at hl 4 rfl) ?_
    refine lv_iconst (v := nI 1) hx hb dL_law_987 (by decide) ?_
    refine lv_iadd hx hb dL_law_988 ?_
    refine lv_eqi (v := nI (i + 1)) (nI_add _ _) ?_
    refine va_sld hx hb hXs hbl (Nat.not_le.mpr hbl) hS (vp_in_nI (show i + 1 < L by omega) (by omega)) dL_law_989 ?_
    refine lv_eqi (v := xs (i + 1)) (by rw [nI_clamp (by omega)]) ?_
    refine lv_aload_n hx hb dL_law_990 rfl (lv_at hl 0 rfl) ?_
    refine lv_iload hx hb dL_law_991 (lv_at hl 4 rfl) ?_
    refine lv_iconst (v := nI 2) hx hb dL_law_993 (by decide) ?_
    refine lv_iadd hx hb dL_law_994 ?_
    refine lv_eqi (v := nI (i + 2)) (nI_add _ _) ?_
    refine va_sld hx hb hXs hbl (Nat.not_le.mpr hbl) hS (vp_in_nI (show i + 2 < L by omega) (by omega)) dL_law_995 ?_
    refine lv_eqi (v := xs (i + 2)) (by rw [nI_clamp (by omega)]) ?_
    refine lv_i2l (v := (xs (i + 2)).toInt64) hx hb dL_law_996 rfl ?_
    refine lv_bipush (v := nI 32) hx hb dL_law_997 (by decide) ?_
    refine lv_lshl (v := (xs (i + 2)).toInt64 <<< ((nI 32).toInt64 &&& 63)) hx hb dL_law_999 rfl ?_
    refine lv_aload_n hx hb dL_law_1000 rfl (lv_at hl 0 rfl) ?_
    refine lv_iload hx hb dL_law_1001 (lv_at hl 4 rfl) ?_
    refine lv_iconst (v := nI 3) hx hb dL_law_1003 (by decide) ?_
    refine lv_iadd hx hb dL_law_1004 ?_
    refine lv_eqi (v := nI (i + 3)) (nI_add _ _) ?_
    refine va_sld hx hb hXs hbl (Nat.not_le.mpr hbl) hS (vp_in_nI (show i + 3 < L by omega) (by omega)) dL_law_1005 ?_
    refine lv_eqi (v := xs (i + 3)) (by rw [nI_clamp (by omega)]) ?_
    refine lv_i2l (v := (xs (i + 3)).toInt64) hx hb dL_law_1006 rfl ?_
    refine lv_ldc2 (v := lN 4294967295) hx hb hown (hW _ tw_732) dL_law_1007 ?_
    refine lv_land hx hb dL_law_1010 ?_
    refine lv_lor hx hb dL_law_1011 ?_
    refine lv_eql (v := lgX (xs (i + 2)) (xs (i + 3))) rfl ?_
    refine lv_aload_n hx hb dL_law_1012 rfl (lv_at hl 0 rfl) ?_
    refine lv_iload hx hb dL_law_1013 (lv_at hl 4 rfl) ?_
    refine lv_iconst (v := nI 4) hx hb dL_law_1015 (by decide) ?_
    refine lv_iadd hx hb dL_law_1016 ?_
    refine lv_eqi (v := nI (i + 4)) (nI_add _ _) ?_
    refine va_sld hx hb hXs hbl (Nat.not_le.mpr hbl) hS (vp_in_nI (show i + 4 < L by omega) (by omega)) dL_law_1017 ?_
    refine lv_eqi (v := xs (i + 4)) (by rw [nI_clamp (by omega)]) ?_
    refine lv_i2l (v := (xs (i + 4)).toInt64) hx hb dL_law_1018 rfl ?_
    refine lv_bipush (v := nI 32) hx hb dL_law_1019 (by decide) ?_
    refine lv_lshl (v := (xs (i + 4)).toInt64 <<< ((nI 32).toInt64 &&& 63)) hx hb dL_law_1021 rfl ?_
    refine lv_aload_n hx hb dL_law_1022 rfl (lv_at hl 0 rfl) ?_
    refine lv_iload hx hb dL_law_1023 (lv_at hl 4 rfl) ?_
    refine lv_iconst (v := nI 5) hx hb dL_law_1025 (by decide) ?_
    refine lv_iadd hx hb dL_law_1026 ?_
    refine lv_eqi (v := nI (i + 5)) (nI_add _ _) ?_
    refine va_sld hx hb hXs hbl (Nat.not_le.mpr hbl) hS (vp_in_nI (show i + 5 < L by omega) (by omega)) dL_law_1027 ?_
    refine lv_eqi (v := xs (i + 5)) (by rw [nI_clamp (by omega)]) ?_
    refine lv_i2l (v := (xs (i + 5)).toInt64) hx hb dL_law_1028 rfl ?_
    refine lv_ldc2 (v := lN 4294967295) hx hb hown (hW _ tw_732) dL_law_1029 ?_
    refine lv_land hx hb dL_law_1032 ?_
    refine lv_lor hx hb dL_law_1033 ?_
    refine lv_eql (v := lgX (xs (i + 4)) (xs (i + 5))) rfl ?_
    refine lv_aload_n hx hb dL_law_1034 rfl (lv_at hl 0 rfl) ?_
    refine lv_iload hx hb dL_law_1035 (lv_at hl 4 rfl) ?_
    refine lv_bipush (v := nI 6) hx hb dL_law_1037 (by decide) ?_
    refine lv_iadd hx hb dL_law_1039 ?_
    refine lv_eqi (v := nI (i + 6)) (nI_add _ _) ?_
    refine va_sld hx hb hXs hbl (Nat.not_le.mpr hbl) hS (vp_in_nI (show i + 6 < L by omega) (by omega)) dL_law_1040 ?_
    refine lv_eqi (v := xs (i + 6)) (by rw [nI_clamp (by omega)]) ?_
    refine lv_aload_n hx hb dL_law_1041 rfl (lv_at hl 3 rfl) ?_
    refine tw_frS (As := [.ref (o 0), .int (xs (i + 1)), .long (lgX (xs (i + 2)) (xs (i + 3))), .long (lgX (xs (i + 4)) (xs (i + 5))), .int (xs (i + 6)), .ref oa]) (rest := []) ⟨hx, hb, hml, hown, hW⟩ (w_mark_1 hl0 oa f q n hk.q24 (xs (i + 1)) (xs (i + 6)) (lgX (xs (i + 2)) (xs (i + 3))) (lgX (xs (i + 4)) (xs (i + 5))) mem hX) lE_ok (xw_cw 6 hW tw_425 tw_426 tw_0 tw_427 rfl rfl (by decide +kernel) ⟨Nat.le_of_ble_eq_true rfl, Nat.le_of_ble_eq_true rfl⟩) hP hD hK hS hA hT rfl hl.1 rfl (Nat.le_of_ble_eq_true rfl) dL_law_1042 ⟨hc1, hc2⟩ (fun H locs hP hD hS => ?_)
    have hP : va_P D vwCl (((wC o ad cI cZ cG (nI t) (nI q) (nI u) (nI y) (pnC pq) (nI n) isw mem) ++ wO oa cJ f) ++ wM om am cI cZ th (nI t) (nI q) (nI y) (pvC pq) (nI (pq.getD 0)) (nI b0) ptv wy isw oR memM) H := hP
    have hD : va_D (lwA s) (((wC o ad cI cZ cG (nI t) (nI q) (nI u) (nI y) (pnC pq) (nI n) isw mem) ++ wO oa cJ f) ++ wM om am cI cZ th (nI t) (nI q) (nI y) (pvC pq) (nI (pq.getD 0)) (nI b0) ptv wy isw oR memM) := hD
    refine lv_istore (lv' := [(5, .int (nI 1)), (0, .ref b), (1, .ref (o 0)), (2, .ref (om 0)), (3, .ref oa), (4, .int (nI i))]) hx hb dL_law_1045 hl (by decide) rfl (fun ls hl => ?_)
    refine lv_aload_n hx hb dL_law_1047 rfl (lv_at hl 3 rfl) ?_
    refine lv_aload_n hx hb dL_law_1048 rfl (lv_at hl 1 rfl) ?_
    refine lv_iload hx hb dL_law_1049 (lv_at hl 5 rfl) ?_
    refine lv_iconst (v := nI 1) hx hb dL_law_1051 (by decide) ?_
    refine lv_iadd hx hb dL_law_1052 ?_
    refine lv_eqi (v := nI (i + 1)) (nI_add _ _) ?_
    refine va_sld hx hb hXs hbl (Nat.not_le.mpr hbl) hS (vp_in_nI (show i + 1 < L by omega) (by omega)) dL_law_1053 ?_
    refine lv_eqi (v := xs (i + 1)) (by rw [nI_clamp (by omega)]) ?_
    refine lv_aload_n hx hb dL_law_1054 rfl (lv_at hl 1 rfl) ?_
    refine lv_iload hx hb dL_law_1055 (lv_at hl 5 rfl) ?_
    refine lv_iconst (v := nI 2) hx hb dL_law_1057 (by decide) ?_
    refine lv_iadd hx hb dL_law_1058 ?_
    refine lv_eqi (v := nI (i + 2)) (nI_add _ _) ?_
    refine va_sld hx hb hXs hbl (Nat.not_le.mpr hbl) hS (vp_in_nI (show i + 2 < L by omega) (by omega)) dL_law_1059 ?_
    refine lv_eqi (v := xs (i + 2)) (by rw [nI_clamp (by omega)]) ?_
    refine lv_i2l (v := (xs (i + 2)).toInt64) hx hb dL_law_1060 rfl ?_
    refine lv_bipush (v := nI 32) hx hb dL_law_1061 (by decide) ?_
    refine lv_lshl (v := (xs (i + 2)).toInt64 <<< ((nI 32).toInt64 &&& 63)) hx hb dL_law_1063 rfl ?_
    refine lv_aload_n hx hb dL_law_1064 rfl (lv_at hl 1 rfl) ?_
    refine lv_iload hx hb dL_law_1065 (lv_at hl 5 rfl) ?_
    refine lv_iconst (v := nI 3) hx hb dL_law_1067 (by decide) ?_
    refine lv_iadd hx hb dL_law_1068 ?_
    refine lv_eqi (v := nI (i + 3)) (nI_add _ _) ?_
    refine va_sld hx hb hXs hbl (Nat.not_le.mpr hbl) hS (vp_in_nI (show i + 3 < L by omega) (by omega)) dL_law_1069 ?_
    refine lv_eqi (v := xs (i + 3)) (by rw [nI_clamp (by omega)]) ?_
    refine lv_i2l (v := (xs (i + 3)).toInt64) hx hb dL_law_1070 rfl ?_
    refine lv_ldc2 (v := lN 4294967295) hx hb hown (hW _ tw_732) dL_law_1071 ?_
    refine lv_land hx hb dL_law_1074 ?_
    refine lv_lor hx hb dL_law_1075 ?_
    refine lv_eql (v := lgX (xs (i + 2)) (xs (i + 3))) rfl ?_
    refine lv_aload_n hx hb dL_law_1076 rfl (lv_at hl 1 rfl) ?_
    refine lv_iload hx hb dL_law_1077 (lv_at hl 5 rfl) ?_
    refine lv_iconst (v := nI 4) hx hb dL_law_1079 (by decide) ?_
    refine lv_iadd hx hb dL_law_1080 ?_
    refine lv_eqi (v := nI (i + 4)) (nI_add _ _) ?_
    refine va_sld hx hb hXs hbl (Nat.not_le.mpr hbl) hS (vp_in_nI (show i + 4 < L by omega) (by omega)) dL_law_1081 ?_
    refine lv_eqi (v := xs (i + 4)) (by rw [nI_clamp (by omega)]) ?_
    refine lv_i2l (v := (xs (i + 4)).toInt64) hx hb dL_law_1082 rfl ?_
    refine lv_bipush (v := nI 32) hx hb dL_law_1083 (by decide) ?_
    refine lv_lshl (v := (xs (i + 4)).toInt64 <<< ((nI 32).toInt64 &&& 63)) hx hb dL_law_1085 rfl ?_
    refine lv_aload_n hx hb dL_law_1086 rfl (lv_at hl 1 rfl) ?_
    refine lv_iload hx hb dL_law_1087 (lv_at hl 5 rfl) ?_
    refine lv_iconst (v := nI 5) hx hb dL_law_1089 (by decide) ?_
    refine lv_iadd hx hb dL_law_1090 ?_
    refine lv_eqi (v := nI (i + 5)) (nI_add _ _) ?_
    refine va_sld hx hb hXs hbl (Nat.not_le.mpr hbl) hS (vp_in_nI (show i + 5 < L by omega) (by omega)) dL_law_1091 ?_
    refine lv_eqi (v := xs (i + 5)) (by rw [nI_clamp (by omega)]) ?_
    refine lv_i2l (v := (xs (i + 5)).toInt64) hx hb dL_law_1092 rfl ?_
    refine lv_ldc2 (v := lN 4294967295) hx hb hown (hW _ tw_732) dL_law_1093 ?_
    refine lv_land hx hb dL_law_1096 ?_
    refine lv_lor hx hb dL_law_1097 ?_
    refine lv_eql (v := lgX (xs (i + 4)) (xs (i + 5))) rfl ?_
    refine lv_aload_n hx hb dL_law_1098 rfl (lv_at hl 1 rfl) ?_
    refine lv_iload hx hb dL_law_1099 (lv_at hl 5 rfl) ?_
    refine lv_bipush (v := nI 6) hx hb dL_law_1101 (by decide) ?_
    refine lv_iadd hx hb dL_law_1103 ?_
    refine lv_eqi (v := nI (i + 6)) (nI_add _ _) ?_
    refine va_sld hx hb hXs hbl (Nat.not_le.mpr hbl) hS (vp_in_nI (show i + 6 < L by omega) (by omega)) dL_law_1104 ?_
    refine lv_eqi (v := xs (i + 6)) (by rw [nI_clamp (by omega)]) ?_
    have hP := va_P_sw hP
    have hD := va_D_sw hD
    refine mi_frV (C := RX2) (As := [.int (xs (i + 1)), .long (lgX (xs (i + 2)) (xs (i + 3))), .long (lgX (xs (i + 4)) (xs (i + 5))), .int (xs (i + 6))]) (rest := []) ⟨hx, hb, hml, hown, hW⟩ (n_mark_no q hk.q24 (xs (i + 1)) (xs (i + 6)) (lgX (xs (i + 2)) (xs (i + 3))) (lgX (xs (i + 4)) (xs (i + 5))) memM _ hX) nE_ok (cwV 4 hW (gV tw_724 tw_725 tw_726 tw_3 tw_727) rfl rfl rfl (by decide +kernel) ⟨Nat.le_of_ble_eq_true rfl, Nat.le_of_ble_eq_true rfl⟩) (va_recv hK hP (ci := 2) (q0 := 0) rfl rfl) hP hD (va_K.sub hK [0, 1, 2] rfl) hS hA trivial rfl hl.1 rfl (Nat.le_of_ble_eq_true rfl) dL_law_1105 ⟨hc1, hc2⟩ (fun H locs hP hD hS => ?_)
    have hP := va_P_sw hP
    have hD := va_D_sw hD
    have hP : va_P D vwCl (((wC o ad cI cZ cG (nI t) (nI q) (nI u) (nI y) (pnC pq) (nI n) isw mem) ++ wO oa cJ f) ++ wM om am cI cZ (cdL [nIOB] nIOB) (nI t) (nI q) (nI y) (pvC pq) (nI (pq.getD 0)) (nI b0) ptv wy isw oR memM) H := hP
    have hD : va_D (lwA s) (((wC o ad cI cZ cG (nI t) (nI q) (nI u) (nI y) (pnC pq) (nI n) isw mem) ++ wO oa cJ f) ++ wM om am cI cZ (cdL [nIOB] nIOB) (nI t) (nI q) (nI y) (pvC pq) (nI (pq.getD 0)) (nI b0) ptv wy isw oR memM) := hD
    refine lv_istore (lv' := [(6, .int (nI 0)), (5, .int (nI 1)), (0, .ref b), (1, .ref (o 0)), (2, .ref (om 0)), (3, .ref oa), (4, .int (nI i))]) hx hb dL_law_1108 hl (by decide) rfl (fun ls hl => ?_)
    refine lv_aload_n hx hb dL_law_1110 rfl (lv_at hl 4 rfl) ?_
    have hP := va_P_sw hP
    have hD := va_D_sw hD
    refine mi_frV (C := RX2) (As := []) (rest := []) ⟨hx, hb, hml, hown, hW⟩ (n_thrown memM) nE_ok (cwV 0 hW (gV tw_590 tw_591 tw_592 tw_3 tw_593) rfl rfl rfl (by decide +kernel) ⟨Nat.le_of_ble_eq_true rfl, Nat.le_of_ble_eq_true rfl⟩) (va_recv hK hP (ci := 2) (q0 := 0) rfl rfl) hP hD (va_K.sub hK [0, 1, 2] rfl) hS hA trivial rfl hl.1 rfl (Nat.le_of_ble_eq_true rfl) dL_law_1111 ⟨hc1, hc2⟩ (fun H locs hP hD hS => ?_)
    have hP := va_P_sw hP
    have hD := va_D_sw hD
    refine lv_eqi (v := nI 1) (by decide +kernel) ?_
    refine lv_iload hx hb dL_law_1114 (lv_at hl 1 rfl) ?_
    refine lv_icmp_eq (tgt := 1121) hx hb dL_law_1116 (by decide) (fun _ => ?_) (fun h9 => absurd rfl h9)
    refine lv_iload hx hb dL_law_1121 (lv_at hl 1 rfl) ?_
    refine lv_if_ne (tgt := 1138) hx hb dL_law_1123 (by decide) (fun _ => ?_) (fun h9 => absurd h9 (by decide))
    refine lv_goto (tgt := 1201) hx hb dL_law_1138 (by decide) ?_
    exact kk t q y pq u n b0 isw oR mem memM (cdL [nIOB] nIOB) ptv wy f H locs ls _ _ hk hP hD hS (lv_sub hl [2, 3, 4, 5, 6] rfl) (Nat.le_refl _) (Nat.le_refl _)
set_option maxHeartbeats 4000000 in
set_option maxRecDepth 100000 in
theorem law_prove {p : Program} {l : Launch} {e : Env} {s : State} {m : MethodId} {below : List Frame} {meth : Method} {c : Code} {b L i cells slots : Nat} {xs : Nat → Int32} {D : va_G} {o ad om am : Nat → Nat} {oa : Nat} {cI cZ cG cJ : ClassId} {Q : State → Prop} {t q y u n b0 : Nat} {pq : Option Nat} {isw oR : Nat → Int32} {mem memM : xMem} {th ptv wy : Int32} {f : Nat → Int64} {H : Heap} {locs : List Loc} {ls : Array Slot} (hC : lawX p l s m meth c b L xs D cI cZ cG cJ) (hk : LK t q y pq u isw mem memM) (hP : va_P D vwCl (lwW o ad om am oa cI cZ cG cJ t q y pq u n b0 isw oR mem memM th ptv wy f) H) (hD : va_D (lwA s) (lwW o ad om am oa cI cZ cG cJ t q y pq u n b0 isw oR mem memM th ptv wy f)) (hS : va_S (lwA s) s.heap H locs) (hl : lv_has ls 7 [(0, .ref b), (1, .ref (o 0)), (2, .ref (om 0)), (3, .ref oa), (4, .int (nI i))]) (hi : i + 7 ≤ L) (hc1 : cells + 3 ≤ 601024) (hc2 : slots + 18 ≤ 7293033) (kk : lawK p l e s m below meth c b Q D o ad om am oa cI cZ cG cJ i cells slots) : W p l e room_1 s m #[Value.ref b] below meth c H locs cells slots Q (F0 m 496 ls []) := by
  obtain ⟨hx, hb, hml, hown, hW, hXs, hbl, hK, hT, hl0, hL⟩ := hC
  have hA : ∀ q : Nat, s.heap.size ≤ q → lwA s q := fun _ h => h
  have hq24 := hk.q24
  have hy12 := hk.y12
  have ht200 := hk.t200
  have hP : va_P D vwCl (((wC o ad cI cZ cG (nI t) (nI q) (nI u) (nI y) (pnC pq) (nI n) isw mem) ++ wO oa cJ f) ++ wM om am cI cZ th (nI t) (nI q) (nI y) (pvC pq) (nI (pq.getD 0)) (nI b0) ptv wy isw oR memM) H := hP
  have hD : va_D (lwA s) (((wC o ad cI cZ cG (nI t) (nI q) (nI u) (nI y) (pnC pq) (nI n) isw mem) ++ wO oa cJ f) ++ wM om am cI cZ th (nI t) (nI q) (nI y) (pvC pq) (nI (pq.getD 0)) (nI b0) ptv wy isw oR memM) := hD
  rcases hX : (x_req (xs (i + 1)) (nI q)).or ((x_req (xs (i + 2)) (nI y)).or (x_if (¬ (xs (i + 1)) < mem 1 (tn (xs (i + 2)))) nISE)) with _ | nm
  · obtain ⟨g1, r1⟩ := x_or_none hX
    obtain ⟨g2, g3⟩ := x_or_none r1
    obtain ⟨lf, hlf, hv⟩ := x_req_none (by omega) g1
    obtain ⟨d, hd, hu⟩ := x_req_none (by omega) g2
    obtain ⟨cc, hcc, hmd⟩ := hk.cn d hd
    have hlc : lf < cc := by
      have h9 := Classical.not_not.mp (x_if_none g3)
      rw [hv, hu, tn_nI (by omega), hmd] at h9
      rcases Nat.lt_or_ge lf cc with h8 | h8
      · exact h8
      · exact absurd h9 (nI_nlt h8 (by omega))
    have hpr := hk.prove (n := n) (b := b0) (oR := oR) (ptv := ptv) hlc hcc
    rw [hv, hu] at hX
    refine lv_aload_n hx hb dL_law_496 rfl (lv_at hl 1 rfl) ?_
    refine lv_aload_n hx hb dL_law_497 rfl (lv_at hl 0 rfl) ?_
    refine lv_iload hx hb dL_law_498 (lv_at hl 4 rfl) ?_
    refine lv_iconst (v := nI 1) hx hb dL_law_500 (by decide) ?_
    refine lv_iadd hx hb dL_law_501 ?_
    refine lv_eqi (v := nI (i + 1)) (nI_add _ _) ?_
    refine va_sld hx hb hXs hbl (Nat.not_le.mpr hbl) hS (vp_in_nI (show i + 1 < L by omega) (by omega)) dL_law_502 ?_
    refine lv_eqi (v := nI lf) (by rw [nI_clamp (by omega)]; exact hv) ?_
    refine lv_aload_n hx hb dL_law_503 rfl (lv_at hl 0 rfl) ?_
    refine lv_iload hx hb dL_law_504 (lv_at hl 4 rfl) ?_
    refine lv_iconst (v := nI 2) hx hb dL_law_506 (by decide) ?_
    refine lv_iadd hx hb dL_law_507 ?_
    refine lv_eqi (v := nI (i + 2)) (nI_add _ _) ?_
    refine va_sld hx hb hXs hbl (Nat.not_le.mpr hbl) hS (vp_in_nI (show i + 2 < L by omega) (by omega)) dL_law_508 ?_
    refine lv_eqi (v := nI d) (by rw [nI_clamp (by omega)]; exact hu) ?_
    refine lv_aload_n hx hb dL_law_509 rfl (lv_at hl 3 rfl) ?_
    refine tw_frS (As := [.ref (o 0), .int (nI lf), .int (nI d), .ref oa]) (rest := []) ⟨hx, hb, hml, hown, hW⟩ (w_prove_ok hl0 oa f q y n hk.q24 hk.y12 (nI lf) (nI d) mem hk.hm hX) lE_ok (xw_cw 4 hW tw_312 tw_313 tw_0 tw_314 rfl rfl (by decide +kernel) ⟨Nat.le_of_ble_eq_true rfl, Nat.le_of_ble_eq_true rfl⟩) hP hD hK hS hA hT rfl hl.1 rfl (Nat.le_of_ble_eq_true rfl) dL_law_510 ⟨hc1, hc2⟩ (fun H locs hP hD hS => ?_)
    rw [tn_nI (show lf < 2 ^ 31 by omega), tn_nI (show d < 2 ^ 31 by omega), hmd, tn_nI (show cc < 2 ^ 31 by omega), hpr.1] at hP hD
    have hP : va_P D vwCl (((wC o ad cI cZ cG (nI t) (nI q) (nI u) (nI y) (pnC (some (glist lf cc).length)) (nI ((p_path lf cc (n, mem)).2.1)) isw ((p_path lf cc (n, mem)).2.2)) ++ wO oa cJ (vp_updL f 0 ((nI (glist lf cc).length).toInt64))) ++ wM om am cI cZ th (nI t) (nI q) (nI y) (pvC pq) (nI (pq.getD 0)) (nI b0) ptv wy isw oR memM) H := hP
    have hD : va_D (lwA s) (((wC o ad cI cZ cG (nI t) (nI q) (nI u) (nI y) (pnC (some (glist lf cc).length)) (nI ((p_path lf cc (n, mem)).2.1)) isw ((p_path lf cc (n, mem)).2.2)) ++ wO oa cJ (vp_updL f 0 ((nI (glist lf cc).length).toInt64))) ++ wM om am cI cZ th (nI t) (nI q) (nI y) (pvC pq) (nI (pq.getD 0)) (nI b0) ptv wy isw oR memM) := hD
    refine lv_istore (lv' := [(5, .int (nI 0)), (0, .ref b), (1, .ref (o 0)), (2, .ref (om 0)), (3, .ref oa), (4, .int (nI i))]) hx hb dL_law_513 hl (by decide) rfl (fun ls hl => ?_)
    refine lv_aload_n hx hb dL_law_515 rfl (lv_at hl 3 rfl) ?_
    refine lv_aload_n hx hb dL_law_516 rfl (lv_at hl 1 rfl) ?_
    refine lv_iload hx hb dL_law_517 (lv_at hl 5 rfl) ?_
    refine lv_iconst (v := nI 1) hx hb dL_law_519 (by decide) ?_
    refine lv_iadd hx hb dL_law_520 ?_
    refine lv_eqi (v := nI (i + 1)) (nI_add _ _) ?_
    refine va_sld hx hb hXs hbl (Nat.not_le.mpr hbl) hS (vp_in_nI (show i + 1 < L by omega) (by omega)) dL_law_521 ?_
    refine lv_eqi (v := nI lf) (by rw [nI_clamp (by omega)]; exact hv) ?_
    refine lv_aload_n hx hb dL_law_522 rfl (lv_at hl 1 rfl) ?_
    refine lv_iload hx hb dL_law_523 (lv_at hl 5 rfl) ?_
    refine lv_iconst (v := nI 2) hx hb dL_law_525 (by decide) ?_
    refine lv_iadd hx hb dL_law_526 ?_
    refine lv_eqi (v := nI (i + 2)) (nI_add _ _) ?_
    refine va_sld hx hb hXs hbl (Nat.not_le.mpr hbl) hS (vp_in_nI (show i + 2 < L by omega) (by omega)) dL_law_527 ?_
    refine lv_eqi (v := nI d) (by rw [nI_clamp (by omega)]; exact hu) ?_
    have hP := va_P_sw hP
    have hD := va_D_sw hD
    refine mi_frV (C := RX2) (As := [.int (nI lf), .int (nI d)]) (rest := []) ⟨hx, hb, hml, hown, hW⟩ (n_prove q y b0 lf d cc hk.q24 hk.y12 hlf hd memM (by rw [← hk.e1]; exact hmd) hlc (by omega) hk.hkc) nE_ok (cwV 2 hW (gV tw_684 tw_685 tw_686 tw_3 tw_687) rfl rfl rfl (by decide +kernel) ⟨Nat.le_of_ble_eq_true rfl, Nat.le_of_ble_eq_true rfl⟩) (va_recv hK hP (ci := 2) (q0 := 0) rfl rfl) hP hD (va_K.sub hK [0, 1, 2] rfl) hS hA trivial rfl hl.1 rfl (Nat.le_of_ble_eq_true rfl) dL_law_528 ⟨hc1, hc2⟩ (fun H locs hP hD hS => ?_)
    have hP := va_P_sw hP
    have hD := va_D_sw hD
    have hP : va_P D vwCl (((wC o ad cI cZ cG (nI t) (nI q) (nI u) (nI y) (pnC (some (glist lf cc).length)) (nI ((p_path lf cc (n, mem)).2.1)) isw ((p_path lf cc (n, mem)).2.2)) ++ wO oa cJ (vp_updL f 0 ((nI (glist lf cc).length).toInt64))) ++ wM om am cI cZ (nI 0) (nI t) (nI q) (nI y) (pvC (some (glist lf cc).length)) (nI ((some (glist lf cc).length).getD 0)) (nI ((pvI (glist lf cc) ((glist lf cc).length) (ptv, b0, (gW (glist lf cc) 0 (oR, memM)).2)).2.1)) ((pvI (glist lf cc) ((glist lf cc).length) (ptv, b0, (gW (glist lf cc) 0 (oR, memM)).2)).1) (nI (glist lf cc).length) isw ((gW (glist lf cc) 0 (oR, memM)).1) ((pvI (glist lf cc) ((glist lf cc).length) (ptv, b0, (gW (glist lf cc) 0 (oR, memM)).2)).2.2)) H := hP
    have hD : va_D (lwA s) (((wC o ad cI cZ cG (nI t) (nI q) (nI u) (nI y) (pnC (some (glist lf cc).length)) (nI ((p_path lf cc (n, mem)).2.1)) isw ((p_path lf cc (n, mem)).2.2)) ++ wO oa cJ (vp_updL f 0 ((nI (glist lf cc).length).toInt64))) ++ wM om am cI cZ (nI 0) (nI t) (nI q) (nI y) (pvC (some (glist lf cc).length)) (nI ((some (glist lf cc).length).getD 0)) (nI ((pvI (glist lf cc) ((glist lf cc).length) (ptv, b0, (gW (glist lf cc) 0 (oR, memM)).2)).2.1)) ((pvI (glist lf cc) ((glist lf cc).length) (ptv, b0, (gW (glist lf cc) 0 (oR, memM)).2)).1) (nI (glist lf cc).length) isw ((gW (glist lf cc) 0 (oR, memM)).1) ((pvI (glist lf cc) ((glist lf cc).length) (ptv, b0, (gW (glist lf cc) 0 (oR, memM)).2)).2.2)) := hD
    refine lv_istore (lv' := [(6, .int (nI (glist lf cc).length)), (5, .int (nI 0)), (0, .ref b), (1, .ref (o 0)), (2, .ref (om 0)), (3, .ref oa), (4, .int (nI i))]) hx hb dL_law_531 hl (by decide) rfl (fun ls hl => ?_)
    refine lv_aload_n hx hb dL_law_533 rfl (lv_at hl 4 rfl) ?_
    have hP := va_P_sw hP
    have hD := va_D_sw hD
    refine mi_frV (C := RX2) (As := []) (rest := []) ⟨hx, hb, hml, hown, hW⟩ (n_thrown ((pvI (glist lf cc) ((glist lf cc).length) (ptv, b0, (gW (glist lf cc) 0 (oR, memM)).2)).2.2)) nE_ok (cwV 0 hW (gV tw_590 tw_591 tw_592 tw_3 tw_593) rfl rfl rfl (by decide +kernel) ⟨Nat.le_of_ble_eq_true rfl, Nat.le_of_ble_eq_true rfl⟩) (va_recv hK hP (ci := 2) (q0 := 0) rfl rfl) hP hD (va_K.sub hK [0, 1, 2] rfl) hS hA trivial rfl hl.1 rfl (Nat.le_of_ble_eq_true rfl) dL_law_534 ⟨hc1, hc2⟩ (fun H locs hP hD hS => ?_)
    have hP := va_P_sw hP
    have hD := va_D_sw hD
    refine lv_eqi (v := nI 0) (rfl) ?_
    refine lv_iload hx hb dL_law_537 (lv_at hl 1 rfl) ?_
    refine lv_icmp_eq (tgt := 544) hx hb dL_law_539 (by decide) (fun _ => ?_) (fun h9 => absurd rfl h9)
    refine lv_iload hx hb dL_law_544 (lv_at hl 1 rfl) ?_
    refine lv_if_ne (tgt := 561) hx hb dL_law_546 (by decide) (fun h9 => absurd (show nI 0 = (0 : Int32) from rfl) h9) (fun _ => ?_)
    refine lv_aload_n hx hb dL_law_549 rfl (lv_at hl 5 rfl) ?_
    refine lv_iconst (v := nI 0) hx hb dL_law_550 (by decide) ?_
    refine va_lald hx hb hK (va_P_right (va_P_left hP)) 0 3 rfl rfl (vp_in_nI (show 0 < 1 by decide) (by decide)) dL_law_551 ?_
    refine lv_eql (v := (nI (glist lf cc).length).toInt64) (updL_0 _ _) ?_
    refine lv_iload hx hb dL_law_552 (lv_at hl 0 rfl) ?_
    refine lv_i2l (v := (nI (glist lf cc).length).toInt64) hx hb dL_law_554 rfl ?_
    refine W.lcmp hx hb dL_law_555 ?_
    refine lv_eqi (v := nI 0) (lcmp_self _) ?_
    refine lv_if_eq (tgt := 561) hx hb dL_law_556 (by decide) (fun _ => ?_) (fun h9 => absurd (show nI 0 = (0 : Int32) from rfl) h9)
    refine lv_goto (tgt := 1201) hx hb dL_law_561 (by decide) ?_
    exact kk t q y (some (glist lf cc).length) u ((p_path lf cc (n, mem)).2.1) ((pvI (glist lf cc) ((glist lf cc).length) (ptv, b0, (gW (glist lf cc) 0 (oR, memM)).2)).2.1) isw ((gW (glist lf cc) 0 (oR, memM)).1) ((p_path lf cc (n, mem)).2.2) ((pvI (glist lf cc) ((glist lf cc).length) (ptv, b0, (gW (glist lf cc) 0 (oR, memM)).2)).2.2) (nI 0) ((pvI (glist lf cc) ((glist lf cc).length) (ptv, b0, (gW (glist lf cc) 0 (oR, memM)).2)).1) (nI (glist lf cc).length) (vp_updL f 0 ((nI (glist lf cc).length).toInt64)) H locs ls _ _ hpr.2 hP hD hS (lv_sub hl [2, 3, 4, 5, 6] rfl) (Nat.le_refl _) (Nat.le_refl _)
  · have hcd : nm = nIOB ∨ nm = nISE := ((x_or_some hX).elim (fun h1 => (Or.inl (x_req_some h1))) (fun h1 => ((x_or_some h1.2).elim (fun h1 => (Or.inl (x_req_some h1))) (fun h1 => (Or.inr ((x_if_some h1.2).1))))))
    rcases hcd with rfl | rfl
    · refine lv_aload_n hx hb dL_law_496 rfl (lv_at hl 1 rfl) ?_
      refine lv_aload_n hx hb dL_law_497 rfl (lv_at hl 0 rfl) ?_
      refine lv_iload hx hb dL_law_498 (lv_at hl 4 rfl) ?_
      refine lv_iconst (v := nI 1) hx hb dL_law_500 (by decide) ?_
      refine lv_iadd hx hb dL_law_501 ?_
      refine lv_eqi (v := nI (i + 1)) (nI_add _ _) ?_
      refine va_sld hx hb hXs hbl (Nat.not_le.mpr hbl) hS (vp_in_nI (show i + 1 < L by omega) (by omega)) dL_law_502 ?_
      refine lv_eqi (v := xs (i + 1)) (by rw [nI_clamp (by omega)]) ?_
      refine lv_aload_n hx hb dL_law_503 rfl (lv_at hl 0 rfl) ?_
      refine lv_iload hx hb dL_law_504 (lv_at hl 4 rfl) ?_
      refine lv_iconst (v := nI 2) hx hb dL_law_506 (by decide) ?_
      refine lv_iadd hx hb dL_law_507 ?_
      refine lv_eqi (v := nI (i + 2)) (nI_add _ _) ?_
      refine va_sld hx hb hXs hbl (Nat.not_le.mpr hbl) hS (vp_in_nI (show i + 2 < L by omega) (by omega)) dL_law_508 ?_
      refine lv_eqi (v := xs (i + 2)) (by rw [nI_clamp (by omega)]) ?_
      refine lv_aload_n hx hb dL_law_509 rfl (lv_at hl 3 rfl) ?_
      refine tw_frS (As := [.ref (o 0), .int (xs (i + 1)), .int (xs (i + 2)), .ref oa]) (rest := []) ⟨hx, hb, hml, hown, hW⟩ (w_prove_1 hl0 oa f q y n hk.q24 hk.y12 (xs (i + 1)) (xs (i + 2)) mem hk.hm hX) lE_ok (xw_cw 4 hW tw_312 tw_313 tw_0 tw_314 rfl rfl (by decide +kernel) ⟨Nat.le_of_ble_eq_true rfl, Nat.le_of_ble_eq_true rfl⟩) hP hD hK hS hA hT rfl hl.1 rfl (Nat.le_of_ble_eq_true rfl) dL_law_510 ⟨hc1, hc2⟩ (fun H locs hP hD hS => ?_)
      have hP : va_P D vwCl (((wC o ad cI cZ cG (nI t) (nI q) (nI u) (nI y) (pnC pq) (nI n) isw mem) ++ wO oa cJ f) ++ wM om am cI cZ th (nI t) (nI q) (nI y) (pvC pq) (nI (pq.getD 0)) (nI b0) ptv wy isw oR memM) H := hP
      have hD : va_D (lwA s) (((wC o ad cI cZ cG (nI t) (nI q) (nI u) (nI y) (pnC pq) (nI n) isw mem) ++ wO oa cJ f) ++ wM om am cI cZ th (nI t) (nI q) (nI y) (pvC pq) (nI (pq.getD 0)) (nI b0) ptv wy isw oR memM) := hD
      refine lv_istore (lv' := [(5, .int (nI 1)), (0, .ref b), (1, .ref (o 0)), (2, .ref (om 0)), (3, .ref oa), (4, .int (nI i))]) hx hb dL_law_513 hl (by decide) rfl (fun ls hl => ?_)
      refine lv_aload_n hx hb dL_law_515 rfl (lv_at hl 3 rfl) ?_
      refine lv_aload_n hx hb dL_law_516 rfl (lv_at hl 1 rfl) ?_
      refine lv_iload hx hb dL_law_517 (lv_at hl 5 rfl) ?_
      refine lv_iconst (v := nI 1) hx hb dL_law_519 (by decide) ?_
      refine lv_iadd hx hb dL_law_520 ?_
      refine lv_eqi (v := nI (i + 1)) (nI_add _ _) ?_
      refine va_sld hx hb hXs hbl (Nat.not_le.mpr hbl) hS (vp_in_nI (show i + 1 < L by omega) (by omega)) dL_law_521 ?_
      refine lv_eqi (v := xs (i + 1)) (by rw [nI_clamp (by omega)]) ?_
      refine lv_aload_n hx hb dL_law_522 rfl (lv_at hl 1 rfl) ?_
      refine lv_iload hx hb dL_law_523 (lv_at hl 5 rfl) ?_
      refine lv_iconst (v := nI 2) hx hb dL_law_525 (by decide) ?_
      refine lv_iadd hx hb dL_law_526 ?_
      refine lv_eqi (v := nI (i + 2)) (nI_add _ _) ?_
      refine va_sld hx hb hXs hbl (Nat.not_le.mpr hbl) hS (vp_in_nI (show i + 2 < L by omega) (by omega)) dL_law_527 ?_
      refine lv_eqi (v := xs (i + 2)) (by rw [nI_clamp (by omega)]) ?_
      have hP := va_P_sw hP
      have hD := va_D_sw hD
      refine mi_frV (C := RX2) (As := [.int (xs (i + 1)), .int (xs (i + 2))]) (rest := []) ⟨hx, hb, hml, hown, hW⟩ (n_prove_no q y b0 hk.q24 hk.y12 (xs (i + 1)) (xs (i + 2)) memM _ (by rw [← hk.e1]; exact hX)) nE_ok (cwV 2 hW (gV tw_684 tw_685 tw_686 tw_3 tw_687) rfl rfl rfl (by decide +kernel) ⟨Nat.le_of_ble_eq_true rfl, Nat.le_of_ble_eq_true rfl⟩) (va_recv hK hP (ci := 2) (q0 := 0) rfl rfl) hP hD (va_K.sub hK [0, 1, 2] rfl) hS hA trivial rfl hl.1 rfl (Nat.le_of_ble_eq_true rfl) dL_law_528 ⟨hc1, hc2⟩ (fun H locs hP hD hS => ?_)
      have hP := va_P_sw hP
      have hD := va_D_sw hD
      have hP : va_P D vwCl (((wC o ad cI cZ cG (nI t) (nI q) (nI u) (nI y) (pnC pq) (nI n) isw mem) ++ wO oa cJ f) ++ wM om am cI cZ (cdL [nIOB, nISE] nIOB) (nI t) (nI q) (nI y) (pvC pq) (nI (pq.getD 0)) (nI b0) ptv wy isw oR memM) H := hP
      have hD : va_D (lwA s) (((wC o ad cI cZ cG (nI t) (nI q) (nI u) (nI y) (pnC pq) (nI n) isw mem) ++ wO oa cJ f) ++ wM om am cI cZ (cdL [nIOB, nISE] nIOB) (nI t) (nI q) (nI y) (pvC pq) (nI (pq.getD 0)) (nI b0) ptv wy isw oR memM) := hD
      refine lv_istore (lv' := [(6, .int (nI 0)), (5, .int (nI 1)), (0, .ref b), (1, .ref (o 0)), (2, .ref (om 0)), (3, .ref oa), (4, .int (nI i))]) hx hb dL_law_531 hl (by decide) rfl (fun ls hl => ?_)
      refine lv_aload_n hx hb dL_law_533 rfl (lv_at hl 4 rfl) ?_
      have hP := va_P_sw hP
      have hD := va_D_sw hD
      refine mi_frV (C := RX2) (As := []) (rest := []) ⟨hx, hb, hml, hown, hW⟩ (n_thrown memM) nE_ok (cwV 0 hW (gV tw_590 tw_591 tw_592 tw_3 tw_593) rfl rfl rfl (by decide +kernel) ⟨Nat.le_of_ble_eq_true rfl, Nat.le_of_ble_eq_true rfl⟩) (va_recv hK hP (ci := 2) (q0 := 0) rfl rfl) hP hD (va_K.sub hK [0, 1, 2] rfl) hS hA trivial rfl hl.1 rfl (Nat.le_of_ble_eq_true rfl) dL_law_534 ⟨hc1, hc2⟩ (fun H locs hP hD hS => ?_)
      have hP := va_P_sw hP
      have hD := va_D_sw hD
      refine lv_eqi (v := nI 1) (by decide +kernel) ?_
      refine lv_iload hx hb dL_law_537 (lv_at hl 1 rfl) ?_
      refine lv_icmp_eq (tgt := 544) hx hb dL_law_539 (by decide) (fun _ => ?_) (fun h9 => absurd rfl h9)
      refine lv_iload hx hb dL_law_544 (lv_at hl 1 rfl) ?_
      refine lv_if_ne (tgt := 561) hx hb dL_law_546 (by decide) (fun _ => ?_) (fun h9 => absurd h9 (by decide))
      refine lv_goto (tgt := 1201) hx hb dL_law_561 (by decide) ?_
      exact kk t q y pq u n b0 isw oR mem memM (cdL [nIOB, nISE] nIOB) ptv wy f H locs ls _ _ hk hP hD hS (lv_sub hl [2, 3, 4, 5, 6] rfl) (Nat.le_refl _) (Nat.le_refl _)
    · refine lv_aload_n hx hb dL_law_496 rfl (lv_at hl 1 rfl) ?_
      refine lv_aload_n hx hb dL_law_497 rfl (lv_at hl 0 rfl) ?_
      refine lv_iload hx hb dL_law_498 (lv_at hl 4 rfl) ?_
      refine lv_iconst (v := nI 1) hx hb dL_law_500 (by decide) ?_
      refine lv_iadd hx hb dL_law_501 ?_
      refine lv_eqi (v := nI (i + 1)) (nI_add _ _) ?_
      refine va_sld hx hb hXs hbl (Nat.not_le.mpr hbl) hS (vp_in_nI (show i + 1 < L by omega) (by omega)) dL_law_502 ?_
      refine lv_eqi (v := xs (i + 1)) (by rw [nI_clamp (by omega)]) ?_
      refine lv_aload_n hx hb dL_law_503 rfl (lv_at hl 0 rfl) ?_
      refine lv_iload hx hb dL_law_504 (lv_at hl 4 rfl) ?_
      refine lv_iconst (v := nI 2) hx hb dL_law_506 (by decide) ?_
      refine lv_iadd hx hb dL_law_507 ?_
      refine lv_eqi (v := nI (i + 2)) (nI_add _ _) ?_
      refine va_sld hx hb hXs hbl (Nat.not_le.mpr hbl) hS (vp_in_nI (show i + 2 < L by omega) (by omega)) dL_law_508 ?_
      refine lv_eqi (v := xs (i + 2)) (by rw [nI_clamp (by omega)]) ?_
      refine lv_aload_n hx hb dL_law_509 rfl (lv_at hl 3 rfl) ?_
      refine tw_frS (As := [.ref (o 0), .int (xs (i + 1)), .int (xs (i + 2)), .ref oa]) (rest := []) ⟨hx, hb, hml, hown, hW⟩ (w_prove_2 hl0 oa f q y n hk.q24 hk.y12 (xs (i + 1)) (xs (i + 2)) mem hk.hm hX) lE_ok (xw_cw 4 hW tw_312 tw_313 tw_0 tw_314 rfl rfl (by decide +kernel) ⟨Nat.le_of_ble_eq_true rfl, Nat.le_of_ble_eq_true rfl⟩) hP hD hK hS hA hT rfl hl.1 rfl (Nat.le_of_ble_eq_true rfl) dL_law_510 ⟨hc1, hc2⟩ (fun H locs hP hD hS => ?_)
      have hP : va_P D vwCl (((wC o ad cI cZ cG (nI t) (nI q) (nI u) (nI y) (pnC pq) (nI n) isw mem) ++ wO oa cJ f) ++ wM om am cI cZ th (nI t) (nI q) (nI y) (pvC pq) (nI (pq.getD 0)) (nI b0) ptv wy isw oR memM) H := hP
      have hD : va_D (lwA s) (((wC o ad cI cZ cG (nI t) (nI q) (nI u) (nI y) (pnC pq) (nI n) isw mem) ++ wO oa cJ f) ++ wM om am cI cZ th (nI t) (nI q) (nI y) (pvC pq) (nI (pq.getD 0)) (nI b0) ptv wy isw oR memM) := hD
      refine lv_istore (lv' := [(5, .int (nI 2)), (0, .ref b), (1, .ref (o 0)), (2, .ref (om 0)), (3, .ref oa), (4, .int (nI i))]) hx hb dL_law_513 hl (by decide) rfl (fun ls hl => ?_)
      refine lv_aload_n hx hb dL_law_515 rfl (lv_at hl 3 rfl) ?_
      refine lv_aload_n hx hb dL_law_516 rfl (lv_at hl 1 rfl) ?_
      refine lv_iload hx hb dL_law_517 (lv_at hl 5 rfl) ?_
      refine lv_iconst (v := nI 1) hx hb dL_law_519 (by decide) ?_
      refine lv_iadd hx hb dL_law_520 ?_
      refine lv_eqi (v := nI (i + 1)) (nI_add _ _) ?_
      refine va_sld hx hb hXs hbl (Nat.not_le.mpr hbl) hS (vp_in_nI (show i + 1 < L by omega) (by omega)) dL_law_521 ?_
      refine lv_eqi (v := xs (i + 1)) (by rw [nI_clamp (by omega)]) ?_
      refine lv_aload_n hx hb dL_law_522 rfl (lv_at hl 1 rfl) ?_
      refine lv_iload hx hb dL_law_523 (lv_at hl 5 rfl) ?_
      refine lv_iconst (v := nI 2) hx hb dL_law_525 (by decide) ?_
      refine lv_iadd hx hb dL_law_526 ?_
      refine lv_eqi (v := nI (i + 2)) (nI_add _ _) ?_
      refine va_sld hx hb hXs hbl (Nat.not_le.mpr hbl) hS (vp_in_nI (show i + 2 < L by omega) (by omega)) dL_law_527 ?_
      refine lv_eqi (v := xs (i + 2)) (by rw [nI_clamp (by omega)]) ?_
      have hP := va_P_sw hP
      have hD := va_D_sw hD
      refine mi_frV (C := RX2) (As := [.int (xs (i + 1)), .int (xs (i + 2))]) (rest := []) ⟨hx, hb, hml, hown, hW⟩ (n_prove_no q y b0 hk.q24 hk.y12 (xs (i + 1)) (xs (i + 2)) memM _ (by rw [← hk.e1]; exact hX)) nE_ok (cwV 2 hW (gV tw_684 tw_685 tw_686 tw_3 tw_687) rfl rfl rfl (by decide +kernel) ⟨Nat.le_of_ble_eq_true rfl, Nat.le_of_ble_eq_true rfl⟩) (va_recv hK hP (ci := 2) (q0 := 0) rfl rfl) hP hD (va_K.sub hK [0, 1, 2] rfl) hS hA trivial rfl hl.1 rfl (Nat.le_of_ble_eq_true rfl) dL_law_528 ⟨hc1, hc2⟩ (fun H locs hP hD hS => ?_)
      have hP := va_P_sw hP
      have hD := va_D_sw hD
      have hP : va_P D vwCl (((wC o ad cI cZ cG (nI t) (nI q) (nI u) (nI y) (pnC pq) (nI n) isw mem) ++ wO oa cJ f) ++ wM om am cI cZ (cdL [nIOB, nISE] nISE) (nI t) (nI q) (nI y) (pvC pq) (nI (pq.getD 0)) (nI b0) ptv wy isw oR memM) H := hP
      have hD : va_D (lwA s) (((wC o ad cI cZ cG (nI t) (nI q) (nI u) (nI y) (pnC pq) (nI n) isw mem) ++ wO oa cJ f) ++ wM om am cI cZ (cdL [nIOB, nISE] nISE) (nI t) (nI q) (nI y) (pvC pq) (nI (pq.getD 0)) (nI b0) ptv wy isw oR memM) := hD
      refine lv_istore (lv' := [(6, .int (nI 0)), (5, .int (nI 2)), (0, .ref b), (1, .ref (o 0)), (2, .ref (om 0)), (3, .ref oa), (4, .int (nI i))]) hx hb dL_law_531 hl (by decide) rfl (fun ls hl => ?_)
      refine lv_aload_n hx hb dL_law_533 rfl (lv_at hl 4 rfl) ?_
      have hP := va_P_sw hP
      have hD := va_D_sw hD
      refine mi_frV (C := RX2) (As := []) (rest := []) ⟨hx, hb, hml, hown, hW⟩ (n_thrown memM) nE_ok (cwV 0 hW (gV tw_590 tw_591 tw_592 tw_3 tw_593) rfl rfl rfl (by decide +kernel) ⟨Nat.le_of_ble_eq_true rfl, Nat.le_of_ble_eq_true rfl⟩) (va_recv hK hP (ci := 2) (q0 := 0) rfl rfl) hP hD (va_K.sub hK [0, 1, 2] rfl) hS hA trivial rfl hl.1 rfl (Nat.le_of_ble_eq_true rfl) dL_law_534 ⟨hc1, hc2⟩ (fun H locs hP hD hS => ?_)
      have hP := va_P_sw hP
      have hD := va_D_sw hD
      refine lv_eqi (v := nI 2) (by decide +kernel) ?_
      refine lv_iload hx hb dL_law_537 (lv_at hl 1 rfl) ?_
      refine lv_icmp_eq (tgt := 544) hx hb dL_law_539 (by decide) (fun _ => ?_) (fun h9 => absurd rfl h9)
      refine lv_iload hx hb dL_law_544 (lv_at hl 1 rfl) ?_
      refine lv_if_ne (tgt := 561) hx hb dL_law_546 (by decide) (fun _ => ?_) (fun h9 => absurd h9 (by decide))
      refine lv_goto (tgt := 1201) hx hb dL_law_561 (by decide) ?_
      exact kk t q y pq u n b0 isw oR mem memM (cdL [nIOB, nISE] nISE) ptv wy f H locs ls _ _ hk hP hD hS (lv_sub hl [2, 3, 4, 5, 6] rfl) (Nat.le_refl _) (Nat.le_refl _)
set_option maxHeartbeats 4000000 in
set_option maxRecDepth 100000 in
theorem law_check {p : Program} {l : Launch} {e : Env} {s : State} {m : MethodId} {below : List Frame} {meth : Method} {c : Code} {b L i cells slots : Nat} {xs : Nat → Int32} {D : va_G} {o ad om am : Nat → Nat} {oa : Nat} {cI cZ cG cJ : ClassId} {Q : State → Prop} {t q y u n b0 : Nat} {pq : Option Nat} {isw oR : Nat → Int32} {mem memM : xMem} {th ptv wy : Int32} {f : Nat → Int64} {H : Heap} {locs : List Loc} {ls : Array Slot} (hC : lawX p l s m meth c b L xs D cI cZ cG cJ) (hk : LK t q y pq u isw mem memM) (hP : va_P D vwCl (lwW o ad om am oa cI cZ cG cJ t q y pq u n b0 isw oR mem memM th ptv wy f) H) (hD : va_D (lwA s) (lwW o ad om am oa cI cZ cG cJ t q y pq u n b0 isw oR mem memM th ptv wy f)) (hS : va_S (lwA s) s.heap H locs) (hl : lv_has ls 7 [(0, .ref b), (1, .ref (o 0)), (2, .ref (om 0)), (3, .ref oa), (4, .int (nI i))]) (hi : i + 7 ≤ L) (hc1 : cells + 3 ≤ 601024) (hc2 : slots + 18 ≤ 7293033) (kk : lawK p l e s m below meth c b Q D o ad om am oa cI cZ cG cJ i cells slots) : W p l e room_1 s m #[Value.ref b] below meth c H locs cells slots Q (F0 m 692 ls []) := by
  obtain ⟨hx, hb, hml, hown, hW, hXs, hbl, hK, hT, hl0, hL⟩ := hC
  have hA : ∀ q : Nat, s.heap.size ≤ q → lwA s q := fun _ h => h
  have hq24 := hk.q24
  have hy12 := hk.y12
  have ht200 := hk.t200
  have hP : va_P D vwCl (((wC o ad cI cZ cG (nI t) (nI q) (nI u) (nI y) (pnC pq) (nI n) isw mem) ++ wO oa cJ f) ++ wM om am cI cZ th (nI t) (nI q) (nI y) (pvC pq) (nI (pq.getD 0)) (nI b0) ptv wy isw oR memM) H := hP
  have hD : va_D (lwA s) (((wC o ad cI cZ cG (nI t) (nI q) (nI u) (nI y) (pnC pq) (nI n) isw mem) ++ wO oa cJ f) ++ wM om am cI cZ th (nI t) (nI q) (nI y) (pvC pq) (nI (pq.getD 0)) (nI b0) ptv wy isw oR memM) := hD
  rcases hX : (x_req (xs (i + 1)) (nI q)).or ((x_req (xs (i + 2)) (nI y)).or ((x_if ((pnC pq) = (-1)) nISE).or (x_if ((xs (i + 3)) < 0 ∨ ¬ (xs (i + 3)) < (xs (i + 4))) nIAE))) with _ | nm
  · obtain ⟨g1, r1⟩ := x_or_none hX
    obtain ⟨g2, r2⟩ := x_or_none r1
    obtain ⟨g3, g4⟩ := x_or_none r2
    obtain ⟨lf, hlf, hv⟩ := x_req_none (by omega) g1
    obtain ⟨d, hd, hu⟩ := x_req_none (by omega) g2
    obtain ⟨pk, rfl⟩ : ∃ pk, pq = some pk := by
      cases pq with
      | none => exact absurd rfl (x_if_none g3)
      | some k9 => exact ⟨k9, rfl⟩
    have hk5 := hk.p5 pk rfl
    obtain ⟨cc, hcc, hmd⟩ := hk.cn d hd
    have hx0 := x_if_none g4
    have hx1 : ¬ xs (i + 3) < 0 := fun h9 => hx0 (Or.inl h9)
    have hx2 : xs (i + 3) < xs (i + 4) := Classical.not_not.mp (fun h9 => hx0 (Or.inr h9))
    by_cases hne : ¬ xs (i + 4) = mem 1 d
    · rw [hv, hu] at hX
      refine lv_aload_n hx hb dL_law_692 rfl (lv_at hl 1 rfl) ?_
      refine lv_aload_n hx hb dL_law_693 rfl (lv_at hl 0 rfl) ?_
      refine lv_iload hx hb dL_law_694 (lv_at hl 4 rfl) ?_
      refine lv_iconst (v := nI 1) hx hb dL_law_696 (by decide) ?_
      refine lv_iadd hx hb dL_law_697 ?_
      refine lv_eqi (v := nI (i + 1)) (nI_add _ _) ?_
      refine va_sld hx hb hXs hbl (Nat.not_le.mpr hbl) hS (vp_in_nI (show i + 1 < L by omega) (by omega)) dL_law_698 ?_
      refine lv_eqi (v := nI lf) (by rw [nI_clamp (by omega)]; exact hv) ?_
      refine lv_aload_n hx hb dL_law_699 rfl (lv_at hl 0 rfl) ?_
      refine lv_iload hx hb dL_law_700 (lv_at hl 4 rfl) ?_
      refine lv_iconst (v := nI 2) hx hb dL_law_702 (by decide) ?_
      refine lv_iadd hx hb dL_law_703 ?_
      refine lv_eqi (v := nI (i + 2)) (nI_add _ _) ?_
      refine va_sld hx hb hXs hbl (Nat.not_le.mpr hbl) hS (vp_in_nI (show i + 2 < L by omega) (by omega)) dL_law_704 ?_
      refine lv_eqi (v := nI d) (by rw [nI_clamp (by omega)]; exact hu) ?_
      refine lv_aload_n hx hb dL_law_705 rfl (lv_at hl 0 rfl) ?_
      refine lv_iload hx hb dL_law_706 (lv_at hl 4 rfl) ?_
      refine lv_iconst (v := nI 3) hx hb dL_law_708 (by decide) ?_
      refine lv_iadd hx hb dL_law_709 ?_
      refine lv_eqi (v := nI (i + 3)) (nI_add _ _) ?_
      refine va_sld hx hb hXs hbl (Nat.not_le.mpr hbl) hS (vp_in_nI (show i + 3 < L by omega) (by omega)) dL_law_710 ?_
      refine lv_eqi (v := xs (i + 3)) (by rw [nI_clamp (by omega)]) ?_
      refine lv_aload_n hx hb dL_law_711 rfl (lv_at hl 0 rfl) ?_
      refine lv_iload hx hb dL_law_712 (lv_at hl 4 rfl) ?_
      refine lv_iconst (v := nI 4) hx hb dL_law_714 (by decide) ?_
      refine lv_iadd hx hb dL_law_715 ?_
      refine lv_eqi (v := nI (i + 4)) (nI_add _ _) ?_
      refine va_sld hx hb hXs hbl (Nat.not_le.mpr hbl) hS (vp_in_nI (show i + 4 < L by omega) (by omega)) dL_law_716 ?_
      refine lv_eqi (v := xs (i + 4)) (by rw [nI_clamp (by omega)]) ?_
      refine lv_aload_n hx hb dL_law_717 rfl (lv_at hl 3 rfl) ?_
      refine tw_frS (As := [.ref (o 0), .int (nI lf), .int (nI d), .int (xs (i + 3)), .int (xs (i + 4)), .ref oa]) (rest := []) ⟨hx, hb, hml, hown, hW⟩ (w_check_ok hl0 oa f q y n hk.q24 hk.y12 (nI lf) (nI d) (xs (i + 3)) (xs (i + 4)) mem hk.hm hX) lE_ok (xw_cw 6 hW tw_369 tw_370 tw_0 tw_371 rfl rfl (by decide +kernel) ⟨Nat.le_of_ble_eq_true rfl, Nat.le_of_ble_eq_true rfl⟩) hP hD hK hS hA hT rfl hl.1 rfl (Nat.le_of_ble_eq_true rfl) dL_law_718 ⟨hc1, hc2⟩ (fun H locs hP hD hS => ?_)
      have hP : va_P D vwCl (((wC o ad cI cZ cG (nI t) (nI q) (nI u) (nI y) (pnC (some pk)) (nI ((p_checkW (tn (nI lf)) (tn (nI d)) (xs (i + 3)) (xs (i + 4)) (pnC (some pk)) (n, mem)).1)) isw ((p_checkW (tn (nI lf)) (tn (nI d)) (xs (i + 3)) (xs (i + 4)) (pnC (some pk)) (n, mem)).2)) ++ wO oa cJ (vp_updL f 0 ((p_checkR (tn (nI lf)) (tn (nI d)) (xs (i + 3)) (xs (i + 4)) (pnC (some pk)) (n, mem)).toInt64))) ++ wM om am cI cZ th (nI t) (nI q) (nI y) (pvC (some pk)) (nI ((some pk).getD 0)) (nI b0) ptv wy isw oR memM) H := hP
      have hD : va_D (lwA s) (((wC o ad cI cZ cG (nI t) (nI q) (nI u) (nI y) (pnC (some pk)) (nI ((p_checkW (tn (nI lf)) (tn (nI d)) (xs (i + 3)) (xs (i + 4)) (pnC (some pk)) (n, mem)).1)) isw ((p_checkW (tn (nI lf)) (tn (nI d)) (xs (i + 3)) (xs (i + 4)) (pnC (some pk)) (n, mem)).2)) ++ wO oa cJ (vp_updL f 0 ((p_checkR (tn (nI lf)) (tn (nI d)) (xs (i + 3)) (xs (i + 4)) (pnC (some pk)) (n, mem)).toInt64))) ++ wM om am cI cZ th (nI t) (nI q) (nI y) (pvC (some pk)) (nI ((some pk).getD 0)) (nI b0) ptv wy isw oR memM) := hD
      refine lv_istore (lv' := [(5, .int (nI 0)), (0, .ref b), (1, .ref (o 0)), (2, .ref (om 0)), (3, .ref oa), (4, .int (nI i))]) hx hb dL_law_721 hl (by decide) rfl (fun ls hl => ?_)
      refine lv_aload_n hx hb dL_law_723 rfl (lv_at hl 3 rfl) ?_
      refine lv_aload_n hx hb dL_law_724 rfl (lv_at hl 1 rfl) ?_
      refine lv_iload hx hb dL_law_725 (lv_at hl 5 rfl) ?_
      refine lv_iconst (v := nI 1) hx hb dL_law_727 (by decide) ?_
      refine lv_iadd hx hb dL_law_728 ?_
      refine lv_eqi (v := nI (i + 1)) (nI_add _ _) ?_
      refine va_sld hx hb hXs hbl (Nat.not_le.mpr hbl) hS (vp_in_nI (show i + 1 < L by omega) (by omega)) dL_law_729 ?_
      refine lv_eqi (v := nI lf) (by rw [nI_clamp (by omega)]; exact hv) ?_
      refine lv_aload_n hx hb dL_law_730 rfl (lv_at hl 1 rfl) ?_
      refine lv_iload hx hb dL_law_731 (lv_at hl 5 rfl) ?_
      refine lv_iconst (v := nI 2) hx hb dL_law_733 (by decide) ?_
      refine lv_iadd hx hb dL_law_734 ?_
      refine lv_eqi (v := nI (i + 2)) (nI_add _ _) ?_
      refine va_sld hx hb hXs hbl (Nat.not_le.mpr hbl) hS (vp_in_nI (show i + 2 < L by omega) (by omega)) dL_law_735 ?_
      refine lv_eqi (v := nI d) (by rw [nI_clamp (by omega)]; exact hu) ?_
      refine lv_aload_n hx hb dL_law_736 rfl (lv_at hl 1 rfl) ?_
      refine lv_iload hx hb dL_law_737 (lv_at hl 5 rfl) ?_
      refine lv_iconst (v := nI 3) hx hb dL_law_739 (by decide) ?_
      refine lv_iadd hx hb dL_law_740 ?_
      refine lv_eqi (v := nI (i + 3)) (nI_add _ _) ?_
      refine va_sld hx hb hXs hbl (Nat.not_le.mpr hbl) hS (vp_in_nI (show i + 3 < L by omega) (by omega)) dL_law_741 ?_
      refine lv_eqi (v := xs (i + 3)) (by rw [nI_clamp (by omega)]) ?_
      refine lv_aload_n hx hb dL_law_742 rfl (lv_at hl 1 rfl) ?_
      refine lv_iload hx hb dL_law_743 (lv_at hl 5 rfl) ?_
      refine lv_iconst (v := nI 4) hx hb dL_law_745 (by decide) ?_
      refine lv_iadd hx hb dL_law_746 ?_
      refine lv_eqi (v := nI (i + 4)) (nI_add _ _) ?_
      refine va_sld hx hb hXs hbl (Nat.not_le.mpr hbl) hS (vp_in_nI (show i + 4 < L by omega) (by omega)) dL_law_747 ?_
      refine lv_eqi (v := xs (i + 4)) (by rw [nI_clamp (by omega)]) ?_
      have hP := va_P_sw hP
      have hD := va_D_sw hD
      refine mi_frV (C := RX2) (As := [.int (nI lf), .int (nI d), .int (xs (i + 3)), .int (xs (i + 4))]) (rest := []) ⟨hx, hb, hml, hown, hW⟩ (n_check1 q y b0 pk lf d hk.q24 hk.y12 hlf hd rfl (xs (i + 3)) (xs (i + 4)) hx1 hx2 memM (by rw [← hk.e1]; exact hne)) nE_ok (cwV 4 hW (gV tw_700 tw_701 tw_702 tw_3 tw_703) rfl rfl rfl (by decide +kernel) ⟨Nat.le_of_ble_eq_true rfl, Nat.le_of_ble_eq_true rfl⟩) (va_recv hK hP (ci := 2) (q0 := 0) rfl rfl) hP hD (va_K.sub hK [0, 1, 2] rfl) hS hA trivial rfl hl.1 rfl (Nat.le_of_ble_eq_true rfl) dL_law_748 ⟨hc1, hc2⟩ (fun H locs hP hD hS => ?_)
      have hP := va_P_sw hP
      have hD := va_D_sw hD
      have hP : va_P D vwCl (((wC o ad cI cZ cG (nI t) (nI q) (nI u) (nI y) (pnC (some pk)) (nI ((p_checkW (tn (nI lf)) (tn (nI d)) (xs (i + 3)) (xs (i + 4)) (pnC (some pk)) (n, mem)).1)) isw ((p_checkW (tn (nI lf)) (tn (nI d)) (xs (i + 3)) (xs (i + 4)) (pnC (some pk)) (n, mem)).2)) ++ wO oa cJ (vp_updL f 0 ((p_checkR (tn (nI lf)) (tn (nI d)) (xs (i + 3)) (xs (i + 4)) (pnC (some pk)) (n, mem)).toInt64))) ++ wM om am cI cZ (nI 0) (nI t) (nI q) (nI y) (pvC (some pk)) (nI ((some pk).getD 0)) (nI b0) ptv wy isw oR memM) H := hP
      have hD : va_D (lwA s) (((wC o ad cI cZ cG (nI t) (nI q) (nI u) (nI y) (pnC (some pk)) (nI ((p_checkW (tn (nI lf)) (tn (nI d)) (xs (i + 3)) (xs (i + 4)) (pnC (some pk)) (n, mem)).1)) isw ((p_checkW (tn (nI lf)) (tn (nI d)) (xs (i + 3)) (xs (i + 4)) (pnC (some pk)) (n, mem)).2)) ++ wO oa cJ (vp_updL f 0 ((p_checkR (tn (nI lf)) (tn (nI d)) (xs (i + 3)) (xs (i + 4)) (pnC (some pk)) (n, mem)).toInt64))) ++ wM om am cI cZ (nI 0) (nI t) (nI q) (nI y) (pvC (some pk)) (nI ((some pk).getD 0)) (nI b0) ptv wy isw oR memM) := hD
      refine lv_istore (lv' := [(6, .int (nI 1)), (5, .int (nI 0)), (0, .ref b), (1, .ref (o 0)), (2, .ref (om 0)), (3, .ref oa), (4, .int (nI i))]) hx hb dL_law_751 hl (by decide) rfl (fun ls hl => ?_)
      refine lv_aload_n hx hb dL_law_753 rfl (lv_at hl 4 rfl) ?_
      have hP := va_P_sw hP
      have hD := va_D_sw hD
      refine mi_frV (C := RX2) (As := []) (rest := []) ⟨hx, hb, hml, hown, hW⟩ (n_thrown memM) nE_ok (cwV 0 hW (gV tw_590 tw_591 tw_592 tw_3 tw_593) rfl rfl rfl (by decide +kernel) ⟨Nat.le_of_ble_eq_true rfl, Nat.le_of_ble_eq_true rfl⟩) (va_recv hK hP (ci := 2) (q0 := 0) rfl rfl) hP hD (va_K.sub hK [0, 1, 2] rfl) hS hA trivial rfl hl.1 rfl (Nat.le_of_ble_eq_true rfl) dL_law_754 ⟨hc1, hc2⟩ (fun H locs hP hD hS => ?_)
      have hP := va_P_sw hP
      have hD := va_D_sw hD
      refine lv_eqi (v := nI 0) (rfl) ?_
      refine lv_iload hx hb dL_law_757 (lv_at hl 1 rfl) ?_
      refine lv_icmp_eq (tgt := 764) hx hb dL_law_759 (by decide) (fun _ => ?_) (fun h9 => absurd rfl h9)
      refine lv_iload hx hb dL_law_764 (lv_at hl 1 rfl) ?_
      refine lv_if_ne (tgt := 781) hx hb dL_law_766 (by decide) (fun h9 => absurd (show nI 0 = (0 : Int32) from rfl) h9) (fun _ => ?_)
      refine lv_aload_n hx hb dL_law_769 rfl (lv_at hl 5 rfl) ?_
      refine lv_iconst (v := nI 0) hx hb dL_law_770 (by decide) ?_
      refine va_lald hx hb hK (va_P_right (va_P_left hP)) 0 3 rfl rfl (vp_in_nI (show 0 < 1 by decide) (by decide)) dL_law_771 ?_
      refine lv_eql (v := (nI 1).toInt64) (by rw [updL_0, show p_checkR (tn (nI lf)) (tn (nI d)) (xs (i + 3)) (xs (i + 4)) (pnC (some pk)) (n, mem) = nI 1 by rw [tn_nI (show lf < 2 ^ 31 by omega), tn_nI (show d < 2 ^ 31 by omega)]; exact (hk.check1 (n := n) (lf := lf) (x := xs (i + 3)) (pn := nI pk) hne).1]) ?_
      refine lv_iload hx hb dL_law_772 (lv_at hl 0 rfl) ?_
      refine lv_i2l (v := (nI 1).toInt64) hx hb dL_law_774 rfl ?_
      refine W.lcmp hx hb dL_law_775 ?_
      refine lv_eqi (v := nI 0) (lcmp_self _) ?_
      refine lv_if_eq (tgt := 781) hx hb dL_law_776 (by decide) (fun _ => ?_) (fun h9 => absurd (show nI 0 = (0 : Int32) from rfl) h9)
      refine lv_goto (tgt := 1201) hx hb dL_law_781 (by decide) ?_
      exact kk t q y (some pk) u ((p_checkW (tn (nI lf)) (tn (nI d)) (xs (i + 3)) (xs (i + 4)) (pnC (some pk)) (n, mem)).1) b0 isw oR ((p_checkW (tn (nI lf)) (tn (nI d)) (xs (i + 3)) (xs (i + 4)) (pnC (some pk)) (n, mem)).2) memM (nI 0) ptv wy (vp_updL f 0 ((p_checkR (tn (nI lf)) (tn (nI d)) (xs (i + 3)) (xs (i + 4)) (pnC (some pk)) (n, mem)).toInt64)) H locs ls _ _ (by rw [tn_nI (show lf < 2 ^ 31 by omega), tn_nI (show d < 2 ^ 31 by omega)]; exact (hk.check1 (n := n) (lf := lf) (x := xs (i + 3)) (pn := nI pk) hne).2) hP hD hS (lv_sub hl [2, 3, 4, 5, 6] rfl) (Nat.le_refl _) (Nat.le_refl _)
    · have hke : xs (i + 4) = nI cc := (Classical.not_not.mp hne).trans hmd
      obtain ⟨x0, hx31, hxe⟩ := nI_of hx1
      have hxc : x0 < cc := by
        rw [hxe, hke] at hx2
        rcases Nat.lt_or_ge x0 cc with h8 | h8
        · exact h8
        · exact absurd hx2 (nI_nlt h8 hx31)
      by_cases hne : ¬ (glist x0 cc).length = pk
      · rw [hv, hu, hxe, hke] at hX
        refine lv_aload_n hx hb dL_law_692 rfl (lv_at hl 1 rfl) ?_
        refine lv_aload_n hx hb dL_law_693 rfl (lv_at hl 0 rfl) ?_
        refine lv_iload hx hb dL_law_694 (lv_at hl 4 rfl) ?_
        refine lv_iconst (v := nI 1) hx hb dL_law_696 (by decide) ?_
        refine lv_iadd hx hb dL_law_697 ?_
        refine lv_eqi (v := nI (i + 1)) (nI_add _ _) ?_
        refine va_sld hx hb hXs hbl (Nat.not_le.mpr hbl) hS (vp_in_nI (show i + 1 < L by omega) (by omega)) dL_law_698 ?_
        refine lv_eqi (v := nI lf) (by rw [nI_clamp (by omega)]; exact hv) ?_
        refine lv_aload_n hx hb dL_law_699 rfl (lv_at hl 0 rfl) ?_
        refine lv_iload hx hb dL_law_700 (lv_at hl 4 rfl) ?_
        refine lv_iconst (v := nI 2) hx hb dL_law_702 (by decide) ?_
        refine lv_iadd hx hb dL_law_703 ?_
        refine lv_eqi (v := nI (i + 2)) (nI_add _ _) ?_
        refine va_sld hx hb hXs hbl (Nat.not_le.mpr hbl) hS (vp_in_nI (show i + 2 < L by omega) (by omega)) dL_law_704 ?_
        refine lv_eqi (v := nI d) (by rw [nI_clamp (by omega)]; exact hu) ?_
        refine lv_aload_n hx hb dL_law_705 rfl (lv_at hl 0 rfl) ?_
        refine lv_iload hx hb dL_law_706 (lv_at hl 4 rfl) ?_
        refine lv_iconst (v := nI 3) hx hb dL_law_708 (by decide) ?_
        refine lv_iadd hx hb dL_law_709 ?_
        refine lv_eqi (v := nI (i + 3)) (nI_add _ _) ?_
        refine va_sld hx hb hXs hbl (Nat.not_le.mpr hbl) hS (vp_in_nI (show i + 3 < L by omega) (by omega)) dL_law_710 ?_
        refine lv_eqi (v := nI x0) (by rw [nI_clamp (by omega)]; exact hxe) ?_
        refine lv_aload_n hx hb dL_law_711 rfl (lv_at hl 0 rfl) ?_
        refine lv_iload hx hb dL_law_712 (lv_at hl 4 rfl) ?_
        refine lv_iconst (v := nI 4) hx hb dL_law_714 (by decide) ?_
        refine lv_iadd hx hb dL_law_715 ?_
        refine lv_eqi (v := nI (i + 4)) (nI_add _ _) ?_
        refine va_sld hx hb hXs hbl (Nat.not_le.mpr hbl) hS (vp_in_nI (show i + 4 < L by omega) (by omega)) dL_law_716 ?_
        refine lv_eqi (v := nI cc) (by rw [nI_clamp (by omega)]; exact hke) ?_
        refine lv_aload_n hx hb dL_law_717 rfl (lv_at hl 3 rfl) ?_
        refine tw_frS (As := [.ref (o 0), .int (nI lf), .int (nI d), .int (nI x0), .int (nI cc), .ref oa]) (rest := []) ⟨hx, hb, hml, hown, hW⟩ (w_check_ok hl0 oa f q y n hk.q24 hk.y12 (nI lf) (nI d) (nI x0) (nI cc) mem hk.hm hX) lE_ok (xw_cw 6 hW tw_369 tw_370 tw_0 tw_371 rfl rfl (by decide +kernel) ⟨Nat.le_of_ble_eq_true rfl, Nat.le_of_ble_eq_true rfl⟩) hP hD hK hS hA hT rfl hl.1 rfl (Nat.le_of_ble_eq_true rfl) dL_law_718 ⟨hc1, hc2⟩ (fun H locs hP hD hS => ?_)
        have hP : va_P D vwCl (((wC o ad cI cZ cG (nI t) (nI q) (nI u) (nI y) (pnC (some pk)) (nI ((p_checkW (tn (nI lf)) (tn (nI d)) (nI x0) (nI cc) (pnC (some pk)) (n, mem)).1)) isw ((p_checkW (tn (nI lf)) (tn (nI d)) (nI x0) (nI cc) (pnC (some pk)) (n, mem)).2)) ++ wO oa cJ (vp_updL f 0 ((p_checkR (tn (nI lf)) (tn (nI d)) (nI x0) (nI cc) (pnC (some pk)) (n, mem)).toInt64))) ++ wM om am cI cZ th (nI t) (nI q) (nI y) (pvC (some pk)) (nI ((some pk).getD 0)) (nI b0) ptv wy isw oR memM) H := hP
        have hD : va_D (lwA s) (((wC o ad cI cZ cG (nI t) (nI q) (nI u) (nI y) (pnC (some pk)) (nI ((p_checkW (tn (nI lf)) (tn (nI d)) (nI x0) (nI cc) (pnC (some pk)) (n, mem)).1)) isw ((p_checkW (tn (nI lf)) (tn (nI d)) (nI x0) (nI cc) (pnC (some pk)) (n, mem)).2)) ++ wO oa cJ (vp_updL f 0 ((p_checkR (tn (nI lf)) (tn (nI d)) (nI x0) (nI cc) (pnC (some pk)) (n, mem)).toInt64))) ++ wM om am cI cZ th (nI t) (nI q) (nI y) (pvC (some pk)) (nI ((some pk).getD 0)) (nI b0) ptv wy isw oR memM) := hD
        refine lv_istore (lv' := [(5, .int (nI 0)), (0, .ref b), (1, .ref (o 0)), (2, .ref (om 0)), (3, .ref oa), (4, .int (nI i))]) hx hb dL_law_721 hl (by decide) rfl (fun ls hl => ?_)
        refine lv_aload_n hx hb dL_law_723 rfl (lv_at hl 3 rfl) ?_
        refine lv_aload_n hx hb dL_law_724 rfl (lv_at hl 1 rfl) ?_
        refine lv_iload hx hb dL_law_725 (lv_at hl 5 rfl) ?_
        refine lv_iconst (v := nI 1) hx hb dL_law_727 (by decide) ?_
        refine lv_iadd hx hb dL_law_728 ?_
        refine lv_eqi (v := nI (i + 1)) (nI_add _ _) ?_
        refine va_sld hx hb hXs hbl (Nat.not_le.mpr hbl) hS (vp_in_nI (show i + 1 < L by omega) (by omega)) dL_law_729 ?_
        refine lv_eqi (v := nI lf) (by rw [nI_clamp (by omega)]; exact hv) ?_
        refine lv_aload_n hx hb dL_law_730 rfl (lv_at hl 1 rfl) ?_
        refine lv_iload hx hb dL_law_731 (lv_at hl 5 rfl) ?_
        refine lv_iconst (v := nI 2) hx hb dL_law_733 (by decide) ?_
        refine lv_iadd hx hb dL_law_734 ?_
        refine lv_eqi (v := nI (i + 2)) (nI_add _ _) ?_
        refine va_sld hx hb hXs hbl (Nat.not_le.mpr hbl) hS (vp_in_nI (show i + 2 < L by omega) (by omega)) dL_law_735 ?_
        refine lv_eqi (v := nI d) (by rw [nI_clamp (by omega)]; exact hu) ?_
        refine lv_aload_n hx hb dL_law_736 rfl (lv_at hl 1 rfl) ?_
        refine lv_iload hx hb dL_law_737 (lv_at hl 5 rfl) ?_
        refine lv_iconst (v := nI 3) hx hb dL_law_739 (by decide) ?_
        refine lv_iadd hx hb dL_law_740 ?_
        refine lv_eqi (v := nI (i + 3)) (nI_add _ _) ?_
        refine va_sld hx hb hXs hbl (Nat.not_le.mpr hbl) hS (vp_in_nI (show i + 3 < L by omega) (by omega)) dL_law_741 ?_
        refine lv_eqi (v := nI x0) (by rw [nI_clamp (by omega)]; exact hxe) ?_
        refine lv_aload_n hx hb dL_law_742 rfl (lv_at hl 1 rfl) ?_
        refine lv_iload hx hb dL_law_743 (lv_at hl 5 rfl) ?_
        refine lv_iconst (v := nI 4) hx hb dL_law_745 (by decide) ?_
        refine lv_iadd hx hb dL_law_746 ?_
        refine lv_eqi (v := nI (i + 4)) (nI_add _ _) ?_
        refine va_sld hx hb hXs hbl (Nat.not_le.mpr hbl) hS (vp_in_nI (show i + 4 < L by omega) (by omega)) dL_law_747 ?_
        refine lv_eqi (v := nI cc) (by rw [nI_clamp (by omega)]; exact hke) ?_
        have hP := va_P_sw hP
        have hD := va_D_sw hD
        refine mi_frV (C := RX2) (As := [.int (nI lf), .int (nI d), .int (nI x0), .int (nI cc)]) (rest := []) ⟨hx, hb, hml, hown, hW⟩ (n_check2 q y b0 pk lf d x0 cc hk.q24 hk.y12 hk5 hlf hd rfl memM (by rw [← hk.e1]; exact hmd) hxc (by omega) hne) nE_ok (cwV 4 hW (gV tw_700 tw_701 tw_702 tw_3 tw_703) rfl rfl rfl (by decide +kernel) ⟨Nat.le_of_ble_eq_true rfl, Nat.le_of_ble_eq_true rfl⟩) (va_recv hK hP (ci := 2) (q0 := 0) rfl rfl) hP hD (va_K.sub hK [0, 1, 2] rfl) hS hA trivial rfl hl.1 rfl (Nat.le_of_ble_eq_true rfl) dL_law_748 ⟨hc1, hc2⟩ (fun H locs hP hD hS => ?_)
        have hP := va_P_sw hP
        have hD := va_D_sw hD
        have hP : va_P D vwCl (((wC o ad cI cZ cG (nI t) (nI q) (nI u) (nI y) (pnC (some pk)) (nI ((p_checkW (tn (nI lf)) (tn (nI d)) (nI x0) (nI cc) (pnC (some pk)) (n, mem)).1)) isw ((p_checkW (tn (nI lf)) (tn (nI d)) (nI x0) (nI cc) (pnC (some pk)) (n, mem)).2)) ++ wO oa cJ (vp_updL f 0 ((p_checkR (tn (nI lf)) (tn (nI d)) (nI x0) (nI cc) (pnC (some pk)) (n, mem)).toInt64))) ++ wM om am cI cZ (nI 0) (nI t) (nI q) (nI y) (pvC (some pk)) (nI ((some pk).getD 0)) (nI b0) ptv (nI (glist x0 cc).length) isw ((gW (glist x0 cc) 0 (oR, memM)).1) ((gW (glist x0 cc) 0 (oR, memM)).2)) H := hP
        have hD : va_D (lwA s) (((wC o ad cI cZ cG (nI t) (nI q) (nI u) (nI y) (pnC (some pk)) (nI ((p_checkW (tn (nI lf)) (tn (nI d)) (nI x0) (nI cc) (pnC (some pk)) (n, mem)).1)) isw ((p_checkW (tn (nI lf)) (tn (nI d)) (nI x0) (nI cc) (pnC (some pk)) (n, mem)).2)) ++ wO oa cJ (vp_updL f 0 ((p_checkR (tn (nI lf)) (tn (nI d)) (nI x0) (nI cc) (pnC (some pk)) (n, mem)).toInt64))) ++ wM om am cI cZ (nI 0) (nI t) (nI q) (nI y) (pvC (some pk)) (nI ((some pk).getD 0)) (nI b0) ptv (nI (glist x0 cc).length) isw ((gW (glist x0 cc) 0 (oR, memM)).1) ((gW (glist x0 cc) 0 (oR, memM)).2)) := hD
        refine lv_istore (lv' := [(6, .int (nI 2)), (5, .int (nI 0)), (0, .ref b), (1, .ref (o 0)), (2, .ref (om 0)), (3, .ref oa), (4, .int (nI i))]) hx hb dL_law_751 hl (by decide) rfl (fun ls hl => ?_)
        refine lv_aload_n hx hb dL_law_753 rfl (lv_at hl 4 rfl) ?_
        have hP := va_P_sw hP
        have hD := va_D_sw hD
        refine mi_frV (C := RX2) (As := []) (rest := []) ⟨hx, hb, hml, hown, hW⟩ (n_thrown ((gW (glist x0 cc) 0 (oR, memM)).2)) nE_ok (cwV 0 hW (gV tw_590 tw_591 tw_592 tw_3 tw_593) rfl rfl rfl (by decide +kernel) ⟨Nat.le_of_ble_eq_true rfl, Nat.le_of_ble_eq_true rfl⟩) (va_recv hK hP (ci := 2) (q0 := 0) rfl rfl) hP hD (va_K.sub hK [0, 1, 2] rfl) hS hA trivial rfl hl.1 rfl (Nat.le_of_ble_eq_true rfl) dL_law_754 ⟨hc1, hc2⟩ (fun H locs hP hD hS => ?_)
        have hP := va_P_sw hP
        have hD := va_D_sw hD
        refine lv_eqi (v := nI 0) (rfl) ?_
        refine lv_iload hx hb dL_law_757 (lv_at hl 1 rfl) ?_
        refine lv_icmp_eq (tgt := 764) hx hb dL_law_759 (by decide) (fun _ => ?_) (fun h9 => absurd rfl h9)
        refine lv_iload hx hb dL_law_764 (lv_at hl 1 rfl) ?_
        refine lv_if_ne (tgt := 781) hx hb dL_law_766 (by decide) (fun h9 => absurd (show nI 0 = (0 : Int32) from rfl) h9) (fun _ => ?_)
        refine lv_aload_n hx hb dL_law_769 rfl (lv_at hl 5 rfl) ?_
        refine lv_iconst (v := nI 0) hx hb dL_law_770 (by decide) ?_
        refine va_lald hx hb hK (va_P_right (va_P_left hP)) 0 3 rfl rfl (vp_in_nI (show 0 < 1 by decide) (by decide)) dL_law_771 ?_
        refine lv_eql (v := (nI 2).toInt64) (by rw [updL_0, show p_checkR (tn (nI lf)) (tn (nI d)) (nI x0) (nI cc) (pnC (some pk)) (n, mem) = nI 2 by rw [tn_nI (show lf < 2 ^ 31 by omega), tn_nI (show d < 2 ^ 31 by omega)]; exact (hk.check2 (n := n) (lf := lf) (oR := oR) hmd (by omega) hxc hne).1]) ?_
        refine lv_iload hx hb dL_law_772 (lv_at hl 0 rfl) ?_
        refine lv_i2l (v := (nI 2).toInt64) hx hb dL_law_774 rfl ?_
        refine W.lcmp hx hb dL_law_775 ?_
        refine lv_eqi (v := nI 0) (lcmp_self _) ?_
        refine lv_if_eq (tgt := 781) hx hb dL_law_776 (by decide) (fun _ => ?_) (fun h9 => absurd (show nI 0 = (0 : Int32) from rfl) h9)
        refine lv_goto (tgt := 1201) hx hb dL_law_781 (by decide) ?_
        exact kk t q y (some pk) u ((p_checkW (tn (nI lf)) (tn (nI d)) (nI x0) (nI cc) (pnC (some pk)) (n, mem)).1) b0 isw ((gW (glist x0 cc) 0 (oR, memM)).1) ((p_checkW (tn (nI lf)) (tn (nI d)) (nI x0) (nI cc) (pnC (some pk)) (n, mem)).2) ((gW (glist x0 cc) 0 (oR, memM)).2) (nI 0) ptv (nI (glist x0 cc).length) (vp_updL f 0 ((p_checkR (tn (nI lf)) (tn (nI d)) (nI x0) (nI cc) (pnC (some pk)) (n, mem)).toInt64)) H locs ls _ _ (by rw [tn_nI (show lf < 2 ^ 31 by omega), tn_nI (show d < 2 ^ 31 by omega)]; exact (hk.check2 (n := n) (lf := lf) (oR := oR) hmd (by omega) hxc hne).2) hP hD hS (lv_sub hl [2, 3, 4, 5, 6] rfl) (Nat.le_refl _) (Nat.le_refl _)
      · have hne := Classical.not_not.mp hne
        rw [hv, hu, hxe, hke] at hX
        refine lv_aload_n hx hb dL_law_692 rfl (lv_at hl 1 rfl) ?_
        refine lv_aload_n hx hb dL_law_693 rfl (lv_at hl 0 rfl) ?_
        refine lv_iload hx hb dL_law_694 (lv_at hl 4 rfl) ?_
        refine lv_iconst (v := nI 1) hx hb dL_law_696 (by decide) ?_
        refine lv_iadd hx hb dL_law_697 ?_
        refine lv_eqi (v := nI (i + 1)) (nI_add _ _) ?_
        refine va_sld hx hb hXs hbl (Nat.not_le.mpr hbl) hS (vp_in_nI (show i + 1 < L by omega) (by omega)) dL_law_698 ?_
        refine lv_eqi (v := nI lf) (by rw [nI_clamp (by omega)]; exact hv) ?_
        refine lv_aload_n hx hb dL_law_699 rfl (lv_at hl 0 rfl) ?_
        refine lv_iload hx hb dL_law_700 (lv_at hl 4 rfl) ?_
        refine lv_iconst (v := nI 2) hx hb dL_law_702 (by decide) ?_
        refine lv_iadd hx hb dL_law_703 ?_
        refine lv_eqi (v := nI (i + 2)) (nI_add _ _) ?_
        refine va_sld hx hb hXs hbl (Nat.not_le.mpr hbl) hS (vp_in_nI (show i + 2 < L by omega) (by omega)) dL_law_704 ?_
        refine lv_eqi (v := nI d) (by rw [nI_clamp (by omega)]; exact hu) ?_
        refine lv_aload_n hx hb dL_law_705 rfl (lv_at hl 0 rfl) ?_
        refine lv_iload hx hb dL_law_706 (lv_at hl 4 rfl) ?_
        refine lv_iconst (v := nI 3) hx hb dL_law_708 (by decide) ?_
        refine lv_iadd hx hb dL_law_709 ?_
        refine lv_eqi (v := nI (i + 3)) (nI_add _ _) ?_
        refine va_sld hx hb hXs hbl (Nat.not_le.mpr hbl) hS (vp_in_nI (show i + 3 < L by omega) (by omega)) dL_law_710 ?_
        refine lv_eqi (v := nI x0) (by rw [nI_clamp (by omega)]; exact hxe) ?_
        refine lv_aload_n hx hb dL_law_711 rfl (lv_at hl 0 rfl) ?_
        refine lv_iload hx hb dL_law_712 (lv_at hl 4 rfl) ?_
        refine lv_iconst (v := nI 4) hx hb dL_law_714 (by decide) ?_
        refine lv_iadd hx hb dL_law_715 ?_
        refine lv_eqi (v := nI (i + 4)) (nI_add _ _) ?_
        refine va_sld hx hb hXs hbl (Nat.not_le.mpr hbl) hS (vp_in_nI (show i + 4 < L by omega) (by omega)) dL_law_716 ?_
        refine lv_eqi (v := nI cc) (by rw [nI_clamp (by omega)]; exact hke) ?_
        refine lv_aload_n hx hb dL_law_717 rfl (lv_at hl 3 rfl) ?_
        refine tw_frS (As := [.ref (o 0), .int (nI lf), .int (nI d), .int (nI x0), .int (nI cc), .ref oa]) (rest := []) ⟨hx, hb, hml, hown, hW⟩ (w_check_ok hl0 oa f q y n hk.q24 hk.y12 (nI lf) (nI d) (nI x0) (nI cc) mem hk.hm hX) lE_ok (xw_cw 6 hW tw_369 tw_370 tw_0 tw_371 rfl rfl (by decide +kernel) ⟨Nat.le_of_ble_eq_true rfl, Nat.le_of_ble_eq_true rfl⟩) hP hD hK hS hA hT rfl hl.1 rfl (Nat.le_of_ble_eq_true rfl) dL_law_718 ⟨hc1, hc2⟩ (fun H locs hP hD hS => ?_)
        have hP : va_P D vwCl (((wC o ad cI cZ cG (nI t) (nI q) (nI u) (nI y) (pnC (some pk)) (nI ((p_checkW (tn (nI lf)) (tn (nI d)) (nI x0) (nI cc) (pnC (some pk)) (n, mem)).1)) isw ((p_checkW (tn (nI lf)) (tn (nI d)) (nI x0) (nI cc) (pnC (some pk)) (n, mem)).2)) ++ wO oa cJ (vp_updL f 0 ((p_checkR (tn (nI lf)) (tn (nI d)) (nI x0) (nI cc) (pnC (some pk)) (n, mem)).toInt64))) ++ wM om am cI cZ th (nI t) (nI q) (nI y) (pvC (some pk)) (nI ((some pk).getD 0)) (nI b0) ptv wy isw oR memM) H := hP
        have hD : va_D (lwA s) (((wC o ad cI cZ cG (nI t) (nI q) (nI u) (nI y) (pnC (some pk)) (nI ((p_checkW (tn (nI lf)) (tn (nI d)) (nI x0) (nI cc) (pnC (some pk)) (n, mem)).1)) isw ((p_checkW (tn (nI lf)) (tn (nI d)) (nI x0) (nI cc) (pnC (some pk)) (n, mem)).2)) ++ wO oa cJ (vp_updL f 0 ((p_checkR (tn (nI lf)) (tn (nI d)) (nI x0) (nI cc) (pnC (some pk)) (n, mem)).toInt64))) ++ wM om am cI cZ th (nI t) (nI q) (nI y) (pvC (some pk)) (nI ((some pk).getD 0)) (nI b0) ptv wy isw oR memM) := hD
        refine lv_istore (lv' := [(5, .int (nI 0)), (0, .ref b), (1, .ref (o 0)), (2, .ref (om 0)), (3, .ref oa), (4, .int (nI i))]) hx hb dL_law_721 hl (by decide) rfl (fun ls hl => ?_)
        refine lv_aload_n hx hb dL_law_723 rfl (lv_at hl 3 rfl) ?_
        refine lv_aload_n hx hb dL_law_724 rfl (lv_at hl 1 rfl) ?_
        refine lv_iload hx hb dL_law_725 (lv_at hl 5 rfl) ?_
        refine lv_iconst (v := nI 1) hx hb dL_law_727 (by decide) ?_
        refine lv_iadd hx hb dL_law_728 ?_
        refine lv_eqi (v := nI (i + 1)) (nI_add _ _) ?_
        refine va_sld hx hb hXs hbl (Nat.not_le.mpr hbl) hS (vp_in_nI (show i + 1 < L by omega) (by omega)) dL_law_729 ?_
        refine lv_eqi (v := nI lf) (by rw [nI_clamp (by omega)]; exact hv) ?_
        refine lv_aload_n hx hb dL_law_730 rfl (lv_at hl 1 rfl) ?_
        refine lv_iload hx hb dL_law_731 (lv_at hl 5 rfl) ?_
        refine lv_iconst (v := nI 2) hx hb dL_law_733 (by decide) ?_
        refine lv_iadd hx hb dL_law_734 ?_
        refine lv_eqi (v := nI (i + 2)) (nI_add _ _) ?_
        refine va_sld hx hb hXs hbl (Nat.not_le.mpr hbl) hS (vp_in_nI (show i + 2 < L by omega) (by omega)) dL_law_735 ?_
        refine lv_eqi (v := nI d) (by rw [nI_clamp (by omega)]; exact hu) ?_
        refine lv_aload_n hx hb dL_law_736 rfl (lv_at hl 1 rfl) ?_
        refine lv_iload hx hb dL_law_737 (lv_at hl 5 rfl) ?_
        refine lv_iconst (v := nI 3) hx hb dL_law_739 (by decide) ?_
        refine lv_iadd hx hb dL_law_740 ?_
        refine lv_eqi (v := nI (i + 3)) (nI_add _ _) ?_
        refine va_sld hx hb hXs hbl (Nat.not_le.mpr hbl) hS (vp_in_nI (show i + 3 < L by omega) (by omega)) dL_law_741 ?_
        refine lv_eqi (v := nI x0) (by rw [nI_clamp (by omega)]; exact hxe) ?_
        refine lv_aload_n hx hb dL_law_742 rfl (lv_at hl 1 rfl) ?_
        refine lv_iload hx hb dL_law_743 (lv_at hl 5 rfl) ?_
        refine lv_iconst (v := nI 4) hx hb dL_law_745 (by decide) ?_
        refine lv_iadd hx hb dL_law_746 ?_
        refine lv_eqi (v := nI (i + 4)) (nI_add _ _) ?_
        refine va_sld hx hb hXs hbl (Nat.not_le.mpr hbl) hS (vp_in_nI (show i + 4 < L by omega) (by omega)) dL_law_747 ?_
        refine lv_eqi (v := nI cc) (by rw [nI_clamp (by omega)]; exact hke) ?_
        have hP := va_P_sw hP
        have hD := va_D_sw hD
        refine mi_frV (C := RX2) (As := [.int (nI lf), .int (nI d), .int (nI x0), .int (nI cc)]) (rest := []) ⟨hx, hb, hml, hown, hW⟩ (n_check3 q y b0 pk lf d x0 cc hk.q24 hk.y12 hk5 hlf hd rfl memM (by rw [← hk.e1]; exact hmd) hxc (by omega) hne hk.hkc) nE_ok (cwV 4 hW (gV tw_700 tw_701 tw_702 tw_3 tw_703) rfl rfl rfl (by decide +kernel) ⟨Nat.le_of_ble_eq_true rfl, Nat.le_of_ble_eq_true rfl⟩) (va_recv hK hP (ci := 2) (q0 := 0) rfl rfl) hP hD (va_K.sub hK [0, 1, 2] rfl) hS hA trivial rfl hl.1 rfl (Nat.le_of_ble_eq_true rfl) dL_law_748 ⟨hc1, hc2⟩ (fun H locs hP hD hS => ?_)
        have hP := va_P_sw hP
        have hD := va_D_sw hD
        have hP : va_P D vwCl (((wC o ad cI cZ cG (nI t) (nI q) (nI u) (nI y) (pnC (some pk)) (nI ((p_checkW (tn (nI lf)) (tn (nI d)) (nI x0) (nI cc) (pnC (some pk)) (n, mem)).1)) isw ((p_checkW (tn (nI lf)) (tn (nI d)) (nI x0) (nI cc) (pnC (some pk)) (n, mem)).2)) ++ wO oa cJ (vp_updL f 0 ((p_checkR (tn (nI lf)) (tn (nI d)) (nI x0) (nI cc) (pnC (some pk)) (n, mem)).toInt64))) ++ wM om am cI cZ (nI 0) (nI t) (nI q) (nI y) (pvC (some pk)) (nI ((some pk).getD 0)) (nI ((ckE (glist x0 cc) lf (b0, (gW (glist x0 cc) 0 (oR, memM)).2)).1)) ptv (nI (glist x0 cc).length) isw ((gW (glist x0 cc) 0 (oR, memM)).1) ((ckE (glist x0 cc) lf (b0, (gW (glist x0 cc) 0 (oR, memM)).2)).2)) H := hP
        have hD : va_D (lwA s) (((wC o ad cI cZ cG (nI t) (nI q) (nI u) (nI y) (pnC (some pk)) (nI ((p_checkW (tn (nI lf)) (tn (nI d)) (nI x0) (nI cc) (pnC (some pk)) (n, mem)).1)) isw ((p_checkW (tn (nI lf)) (tn (nI d)) (nI x0) (nI cc) (pnC (some pk)) (n, mem)).2)) ++ wO oa cJ (vp_updL f 0 ((p_checkR (tn (nI lf)) (tn (nI d)) (nI x0) (nI cc) (pnC (some pk)) (n, mem)).toInt64))) ++ wM om am cI cZ (nI 0) (nI t) (nI q) (nI y) (pvC (some pk)) (nI ((some pk).getD 0)) (nI ((ckE (glist x0 cc) lf (b0, (gW (glist x0 cc) 0 (oR, memM)).2)).1)) ptv (nI (glist x0 cc).length) isw ((gW (glist x0 cc) 0 (oR, memM)).1) ((ckE (glist x0 cc) lf (b0, (gW (glist x0 cc) 0 (oR, memM)).2)).2)) := hD
        refine lv_istore (lv' := [(6, .int (if p_iso 7 (32 * d) (ckE (glist x0 cc) lf (b0, (gW (glist x0 cc) 0 (oR, memM)).2)).2 = 0 then nI 3 else nI 0)), (5, .int (nI 0)), (0, .ref b), (1, .ref (o 0)), (2, .ref (om 0)), (3, .ref oa), (4, .int (nI i))]) hx hb dL_law_751 hl (by decide) rfl (fun ls hl => ?_)
        refine lv_aload_n hx hb dL_law_753 rfl (lv_at hl 4 rfl) ?_
        have hP := va_P_sw hP
        have hD := va_D_sw hD
        refine mi_frV (C := RX2) (As := []) (rest := []) ⟨hx, hb, hml, hown, hW⟩ (n_thrown ((ckE (glist x0 cc) lf (b0, (gW (glist x0 cc) 0 (oR, memM)).2)).2)) nE_ok (cwV 0 hW (gV tw_590 tw_591 tw_592 tw_3 tw_593) rfl rfl rfl (by decide +kernel) ⟨Nat.le_of_ble_eq_true rfl, Nat.le_of_ble_eq_true rfl⟩) (va_recv hK hP (ci := 2) (q0 := 0) rfl rfl) hP hD (va_K.sub hK [0, 1, 2] rfl) hS hA trivial rfl hl.1 rfl (Nat.le_of_ble_eq_true rfl) dL_law_754 ⟨hc1, hc2⟩ (fun H locs hP hD hS => ?_)
        have hP := va_P_sw hP
        have hD := va_D_sw hD
        refine lv_eqi (v := nI 0) (rfl) ?_
        refine lv_iload hx hb dL_law_757 (lv_at hl 1 rfl) ?_
        refine lv_icmp_eq (tgt := 764) hx hb dL_law_759 (by decide) (fun _ => ?_) (fun h9 => absurd rfl h9)
        refine lv_iload hx hb dL_law_764 (lv_at hl 1 rfl) ?_
        refine lv_if_ne (tgt := 781) hx hb dL_law_766 (by decide) (fun h9 => absurd (show nI 0 = (0 : Int32) from rfl) h9) (fun _ => ?_)
        refine lv_aload_n hx hb dL_law_769 rfl (lv_at hl 5 rfl) ?_
        refine lv_iconst (v := nI 0) hx hb dL_law_770 (by decide) ?_
        refine va_lald hx hb hK (va_P_right (va_P_left hP)) 0 3 rfl rfl (vp_in_nI (show 0 < 1 by decide) (by decide)) dL_law_771 ?_
        refine lv_eql (v := (if p_iso 7 (32 * d) (ckE (glist x0 cc) lf (b0, (gW (glist x0 cc) 0 (oR, memM)).2)).2 = 0 then nI 3 else nI 0).toInt64) (by rw [updL_0, show p_checkR (tn (nI lf)) (tn (nI d)) (nI x0) (nI cc) (pnC (some pk)) (n, mem) = if p_iso 7 (32 * d) (ckE (glist x0 cc) lf (b0, (gW (glist x0 cc) 0 (oR, memM)).2)).2 = 0 then nI 3 else nI 0 by rw [tn_nI (show lf < 2 ^ 31 by omega), tn_nI (show d < 2 ^ 31 by omega)]; exact (hk.check3 (n := n) (b := b0) (oR := oR) hmd (by omega) hxc hlf hd hne).1]) ?_
        refine lv_iload hx hb dL_law_772 (lv_at hl 0 rfl) ?_
        refine lv_i2l (v := (if p_iso 7 (32 * d) (ckE (glist x0 cc) lf (b0, (gW (glist x0 cc) 0 (oR, memM)).2)).2 = 0 then nI 3 else nI 0).toInt64) hx hb dL_law_774 rfl ?_
        refine W.lcmp hx hb dL_law_775 ?_
        refine lv_eqi (v := nI 0) (lcmp_self _) ?_
        refine lv_if_eq (tgt := 781) hx hb dL_law_776 (by decide) (fun _ => ?_) (fun h9 => absurd (show nI 0 = (0 : Int32) from rfl) h9)
        refine lv_goto (tgt := 1201) hx hb dL_law_781 (by decide) ?_
        exact kk t q y (some pk) u ((p_checkW (tn (nI lf)) (tn (nI d)) (nI x0) (nI cc) (pnC (some pk)) (n, mem)).1) ((ckE (glist x0 cc) lf (b0, (gW (glist x0 cc) 0 (oR, memM)).2)).1) isw ((gW (glist x0 cc) 0 (oR, memM)).1) ((p_checkW (tn (nI lf)) (tn (nI d)) (nI x0) (nI cc) (pnC (some pk)) (n, mem)).2) ((ckE (glist x0 cc) lf (b0, (gW (glist x0 cc) 0 (oR, memM)).2)).2) (nI 0) ptv (nI (glist x0 cc).length) (vp_updL f 0 ((p_checkR (tn (nI lf)) (tn (nI d)) (nI x0) (nI cc) (pnC (some pk)) (n, mem)).toInt64)) H locs ls _ _ (by rw [tn_nI (show lf < 2 ^ 31 by omega), tn_nI (show d < 2 ^ 31 by omega)]; exact (hk.check3 (n := n) (b := b0) (oR := oR) hmd (by omega) hxc hlf hd hne).2) hP hD hS (lv_sub hl [2, 3, 4, 5, 6] rfl) (Nat.le_refl _) (Nat.le_refl _)
  · have hcd : nm = nIOB ∨ nm = nISE ∨ nm = nIAE := ((x_or_some hX).elim (fun h1 => (Or.inl (x_req_some h1))) (fun h1 => ((x_or_some h1.2).elim (fun h1 => (Or.inl (x_req_some h1))) (fun h1 => ((x_or_some h1.2).elim (fun h1 => (Or.inr (Or.inl ((x_if_some h1).1)))) (fun h1 => (Or.inr (Or.inr ((x_if_some h1.2).1)))))))))
    rcases hcd with rfl | rfl | rfl
    · refine lv_aload_n hx hb dL_law_692 rfl (lv_at hl 1 rfl) ?_
      refine lv_aload_n hx hb dL_law_693 rfl (lv_at hl 0 rfl) ?_
      refine lv_iload hx hb dL_law_694 (lv_at hl 4 rfl) ?_
      refine lv_iconst (v := nI 1) hx hb dL_law_696 (by decide) ?_
      refine lv_iadd hx hb dL_law_697 ?_
      refine lv_eqi (v := nI (i + 1)) (nI_add _ _) ?_
      refine va_sld hx hb hXs hbl (Nat.not_le.mpr hbl) hS (vp_in_nI (show i + 1 < L by omega) (by omega)) dL_law_698 ?_
      refine lv_eqi (v := xs (i + 1)) (by rw [nI_clamp (by omega)]) ?_
      refine lv_aload_n hx hb dL_law_699 rfl (lv_at hl 0 rfl) ?_
      refine lv_iload hx hb dL_law_700 (lv_at hl 4 rfl) ?_
      refine lv_iconst (v := nI 2) hx hb dL_law_702 (by decide) ?_
      refine lv_iadd hx hb dL_law_703 ?_
      refine lv_eqi (v := nI (i + 2)) (nI_add _ _) ?_
      refine va_sld hx hb hXs hbl (Nat.not_le.mpr hbl) hS (vp_in_nI (show i + 2 < L by omega) (by omega)) dL_law_704 ?_
      refine lv_eqi (v := xs (i + 2)) (by rw [nI_clamp (by omega)]) ?_
      refine lv_aload_n hx hb dL_law_705 rfl (lv_at hl 0 rfl) ?_
      refine lv_iload hx hb dL_law_706 (lv_at hl 4 rfl) ?_
      refine lv_iconst (v := nI 3) hx hb dL_law_708 (by decide) ?_
      refine lv_iadd hx hb dL_law_709 ?_
      refine lv_eqi (v := nI (i + 3)) (nI_add _ _) ?_
      refine va_sld hx hb hXs hbl (Nat.not_le.mpr hbl) hS (vp_in_nI (show i + 3 < L by omega) (by omega)) dL_law_710 ?_
      refine lv_eqi (v := xs (i + 3)) (by rw [nI_clamp (by omega)]) ?_
      refine lv_aload_n hx hb dL_law_711 rfl (lv_at hl 0 rfl) ?_
      refine lv_iload hx hb dL_law_712 (lv_at hl 4 rfl) ?_
      refine lv_iconst (v := nI 4) hx hb dL_law_714 (by decide) ?_
      refine lv_iadd hx hb dL_law_715 ?_
      refine lv_eqi (v := nI (i + 4)) (nI_add _ _) ?_
      refine va_sld hx hb hXs hbl (Nat.not_le.mpr hbl) hS (vp_in_nI (show i + 4 < L by omega) (by omega)) dL_law_716 ?_
      refine lv_eqi (v := xs (i + 4)) (by rw [nI_clamp (by omega)]) ?_
      refine lv_aload_n hx hb dL_law_717 rfl (lv_at hl 3 rfl) ?_
      refine tw_frS (As := [.ref (o 0), .int (xs (i + 1)), .int (xs (i + 2)), .int (xs (i + 3)), .int (xs (i + 4)), .ref oa]) (rest := []) ⟨hx, hb, hml, hown, hW⟩ (w_check_1 hl0 oa f q y n hk.q24 hk.y12 (xs (i + 1)) (xs (i + 2)) (xs (i + 3)) (xs (i + 4)) mem hk.hm hX) lE_ok (xw_cw 6 hW tw_369 tw_370 tw_0 tw_371 rfl rfl (by decide +kernel) ⟨Nat.le_of_ble_eq_true rfl, Nat.le_of_ble_eq_true rfl⟩) hP hD hK hS hA hT rfl hl.1 rfl (Nat.le_of_ble_eq_true rfl) dL_law_718 ⟨hc1, hc2⟩ (fun H locs hP hD hS => ?_)
      have hP : va_P D vwCl (((wC o ad cI cZ cG (nI t) (nI q) (nI u) (nI y) (pnC pq) (nI n) isw mem) ++ wO oa cJ f) ++ wM om am cI cZ th (nI t) (nI q) (nI y) (pvC pq) (nI (pq.getD 0)) (nI b0) ptv wy isw oR memM) H := hP
      have hD : va_D (lwA s) (((wC o ad cI cZ cG (nI t) (nI q) (nI u) (nI y) (pnC pq) (nI n) isw mem) ++ wO oa cJ f) ++ wM om am cI cZ th (nI t) (nI q) (nI y) (pvC pq) (nI (pq.getD 0)) (nI b0) ptv wy isw oR memM) := hD
      refine lv_istore (lv' := [(5, .int (nI 1)), (0, .ref b), (1, .ref (o 0)), (2, .ref (om 0)), (3, .ref oa), (4, .int (nI i))]) hx hb dL_law_721 hl (by decide) rfl (fun ls hl => ?_)
      refine lv_aload_n hx hb dL_law_723 rfl (lv_at hl 3 rfl) ?_
      refine lv_aload_n hx hb dL_law_724 rfl (lv_at hl 1 rfl) ?_
      refine lv_iload hx hb dL_law_725 (lv_at hl 5 rfl) ?_
      refine lv_iconst (v := nI 1) hx hb dL_law_727 (by decide) ?_
      refine lv_iadd hx hb dL_law_728 ?_
      refine lv_eqi (v := nI (i + 1)) (nI_add _ _) ?_
      refine va_sld hx hb hXs hbl (Nat.not_le.mpr hbl) hS (vp_in_nI (show i + 1 < L by omega) (by omega)) dL_law_729 ?_
      refine lv_eqi (v := xs (i + 1)) (by rw [nI_clamp (by omega)]) ?_
      refine lv_aload_n hx hb dL_law_730 rfl (lv_at hl 1 rfl) ?_
      refine lv_iload hx hb dL_law_731 (lv_at hl 5 rfl) ?_
      refine lv_iconst (v := nI 2) hx hb dL_law_733 (by decide) ?_
      refine lv_iadd hx hb dL_law_734 ?_
      refine lv_eqi (v := nI (i + 2)) (nI_add _ _) ?_
      refine va_sld hx hb hXs hbl (Nat.not_le.mpr hbl) hS (vp_in_nI (show i + 2 < L by omega) (by omega)) dL_law_735 ?_
      refine lv_eqi (v := xs (i + 2)) (by rw [nI_clamp (by omega)]) ?_
      refine lv_aload_n hx hb dL_law_736 rfl (lv_at hl 1 rfl) ?_
      refine lv_iload hx hb dL_law_737 (lv_at hl 5 rfl) ?_
      refine lv_iconst (v := nI 3) hx hb dL_law_739 (by decide) ?_
      refine lv_iadd hx hb dL_law_740 ?_
      refine lv_eqi (v := nI (i + 3)) (nI_add _ _) ?_
      refine va_sld hx hb hXs hbl (Nat.not_le.mpr hbl) hS (vp_in_nI (show i + 3 < L by omega) (by omega)) dL_law_741 ?_
      refine lv_eqi (v := xs (i + 3)) (by rw [nI_clamp (by omega)]) ?_
      refine lv_aload_n hx hb dL_law_742 rfl (lv_at hl 1 rfl) ?_
      refine lv_iload hx hb dL_law_743 (lv_at hl 5 rfl) ?_
      refine lv_iconst (v := nI 4) hx hb dL_law_745 (by decide) ?_
      refine lv_iadd hx hb dL_law_746 ?_
      refine lv_eqi (v := nI (i + 4)) (nI_add _ _) ?_
      refine va_sld hx hb hXs hbl (Nat.not_le.mpr hbl) hS (vp_in_nI (show i + 4 < L by omega) (by omega)) dL_law_747 ?_
      refine lv_eqi (v := xs (i + 4)) (by rw [nI_clamp (by omega)]) ?_
      have hP := va_P_sw hP
      have hD := va_D_sw hD
      refine mi_frV (C := RX2) (As := [.int (xs (i + 1)), .int (xs (i + 2)), .int (xs (i + 3)), .int (xs (i + 4))]) (rest := []) ⟨hx, hb, hml, hown, hW⟩ (n_check_no q y b0 (pq.getD 0) hk.q24 hk.y12 (pv_01 pq) (xs (i + 1)) (xs (i + 2)) (xs (i + 3)) (xs (i + 4)) memM _ (by rw [← ise_pn hk]; exact hX)) nE_ok (cwV 4 hW (gV tw_700 tw_701 tw_702 tw_3 tw_703) rfl rfl rfl (by decide +kernel) ⟨Nat.le_of_ble_eq_true rfl, Nat.le_of_ble_eq_true rfl⟩) (va_recv hK hP (ci := 2) (q0 := 0) rfl rfl) hP hD (va_K.sub hK [0, 1, 2] rfl) hS hA trivial rfl hl.1 rfl (Nat.le_of_ble_eq_true rfl) dL_law_748 ⟨hc1, hc2⟩ (fun H locs hP hD hS => ?_)
      have hP := va_P_sw hP
      have hD := va_D_sw hD
      have hP : va_P D vwCl (((wC o ad cI cZ cG (nI t) (nI q) (nI u) (nI y) (pnC pq) (nI n) isw mem) ++ wO oa cJ f) ++ wM om am cI cZ (cdL [nIOB, nISE, nIAE] nIOB) (nI t) (nI q) (nI y) (pvC pq) (nI (pq.getD 0)) (nI b0) ptv wy isw oR memM) H := hP
      have hD : va_D (lwA s) (((wC o ad cI cZ cG (nI t) (nI q) (nI u) (nI y) (pnC pq) (nI n) isw mem) ++ wO oa cJ f) ++ wM om am cI cZ (cdL [nIOB, nISE, nIAE] nIOB) (nI t) (nI q) (nI y) (pvC pq) (nI (pq.getD 0)) (nI b0) ptv wy isw oR memM) := hD
      refine lv_istore (lv' := [(6, .int (nI 0)), (5, .int (nI 1)), (0, .ref b), (1, .ref (o 0)), (2, .ref (om 0)), (3, .ref oa), (4, .int (nI i))]) hx hb dL_law_751 hl (by decide) rfl (fun ls hl => ?_)
      refine lv_aload_n hx hb dL_law_753 rfl (lv_at hl 4 rfl) ?_
      have hP := va_P_sw hP
      have hD := va_D_sw hD
      refine mi_frV (C := RX2) (As := []) (rest := []) ⟨hx, hb, hml, hown, hW⟩ (n_thrown memM) nE_ok (cwV 0 hW (gV tw_590 tw_591 tw_592 tw_3 tw_593) rfl rfl rfl (by decide +kernel) ⟨Nat.le_of_ble_eq_true rfl, Nat.le_of_ble_eq_true rfl⟩) (va_recv hK hP (ci := 2) (q0 := 0) rfl rfl) hP hD (va_K.sub hK [0, 1, 2] rfl) hS hA trivial rfl hl.1 rfl (Nat.le_of_ble_eq_true rfl) dL_law_754 ⟨hc1, hc2⟩ (fun H locs hP hD hS => ?_)
      have hP := va_P_sw hP
      have hD := va_D_sw hD
      refine lv_eqi (v := nI 1) (by decide +kernel) ?_
      refine lv_iload hx hb dL_law_757 (lv_at hl 1 rfl) ?_
      refine lv_icmp_eq (tgt := 764) hx hb dL_law_759 (by decide) (fun _ => ?_) (fun h9 => absurd rfl h9)
      refine lv_iload hx hb dL_law_764 (lv_at hl 1 rfl) ?_
      refine lv_if_ne (tgt := 781) hx hb dL_law_766 (by decide) (fun _ => ?_) (fun h9 => absurd h9 (by decide))
      refine lv_goto (tgt := 1201) hx hb dL_law_781 (by decide) ?_
      exact kk t q y pq u n b0 isw oR mem memM (cdL [nIOB, nISE, nIAE] nIOB) ptv wy f H locs ls _ _ hk hP hD hS (lv_sub hl [2, 3, 4, 5, 6] rfl) (Nat.le_refl _) (Nat.le_refl _)
    · refine lv_aload_n hx hb dL_law_692 rfl (lv_at hl 1 rfl) ?_
      refine lv_aload_n hx hb dL_law_693 rfl (lv_at hl 0 rfl) ?_
      refine lv_iload hx hb dL_law_694 (lv_at hl 4 rfl) ?_
      refine lv_iconst (v := nI 1) hx hb dL_law_696 (by decide) ?_
      refine lv_iadd hx hb dL_law_697 ?_
      refine lv_eqi (v := nI (i + 1)) (nI_add _ _) ?_
      refine va_sld hx hb hXs hbl (Nat.not_le.mpr hbl) hS (vp_in_nI (show i + 1 < L by omega) (by omega)) dL_law_698 ?_
      refine lv_eqi (v := xs (i + 1)) (by rw [nI_clamp (by omega)]) ?_
      refine lv_aload_n hx hb dL_law_699 rfl (lv_at hl 0 rfl) ?_
      refine lv_iload hx hb dL_law_700 (lv_at hl 4 rfl) ?_
      refine lv_iconst (v := nI 2) hx hb dL_law_702 (by decide) ?_
      refine lv_iadd hx hb dL_law_703 ?_
      refine lv_eqi (v := nI (i + 2)) (nI_add _ _) ?_
      refine va_sld hx hb hXs hbl (Nat.not_le.mpr hbl) hS (vp_in_nI (show i + 2 < L by omega) (by omega)) dL_law_704 ?_
      refine lv_eqi (v := xs (i + 2)) (by rw [nI_clamp (by omega)]) ?_
      refine lv_aload_n hx hb dL_law_705 rfl (lv_at hl 0 rfl) ?_
      refine lv_iload hx hb dL_law_706 (lv_at hl 4 rfl) ?_
      refine lv_iconst (v := nI 3) hx hb dL_law_708 (by decide) ?_
      refine lv_iadd hx hb dL_law_709 ?_
      refine lv_eqi (v := nI (i + 3)) (nI_add _ _) ?_
      refine va_sld hx hb hXs hbl (Nat.not_le.mpr hbl) hS (vp_in_nI (show i + 3 < L by omega) (by omega)) dL_law_710 ?_
      refine lv_eqi (v := xs (i + 3)) (by rw [nI_clamp (by omega)]) ?_
      refine lv_aload_n hx hb dL_law_711 rfl (lv_at hl 0 rfl) ?_
      refine lv_iload hx hb dL_law_712 (lv_at hl 4 rfl) ?_
      refine lv_iconst (v := nI 4) hx hb dL_law_714 (by decide) ?_
      refine lv_iadd hx hb dL_law_715 ?_
      refine lv_eqi (v := nI (i + 4)) (nI_add _ _) ?_
      refine va_sld hx hb hXs hbl (Nat.not_le.mpr hbl) hS (vp_in_nI (show i + 4 < L by omega) (by omega)) dL_law_716 ?_
      refine lv_eqi (v := xs (i + 4)) (by rw [nI_clamp (by omega)]) ?_
      refine lv_aload_n hx hb dL_law_717 rfl (lv_at hl 3 rfl) ?_
      refine tw_frS (As := [.ref (o 0), .int (xs (i + 1)), .int (xs (i + 2)), .int (xs (i + 3)), .int (xs (i + 4)), .ref oa]) (rest := []) ⟨hx, hb, hml, hown, hW⟩ (w_check_2 hl0 oa f q y n hk.q24 hk.y12 (xs (i + 1)) (xs (i + 2)) (xs (i + 3)) (xs (i + 4)) mem hk.hm hX) lE_ok (xw_cw 6 hW tw_369 tw_370 tw_0 tw_371 rfl rfl (by decide +kernel) ⟨Nat.le_of_ble_eq_true rfl, Nat.le_of_ble_eq_true rfl⟩) hP hD hK hS hA hT rfl hl.1 rfl (Nat.le_of_ble_eq_true rfl) dL_law_718 ⟨hc1, hc2⟩ (fun H locs hP hD hS => ?_)
      have hP : va_P D vwCl (((wC o ad cI cZ cG (nI t) (nI q) (nI u) (nI y) (pnC pq) (nI n) isw mem) ++ wO oa cJ f) ++ wM om am cI cZ th (nI t) (nI q) (nI y) (pvC pq) (nI (pq.getD 0)) (nI b0) ptv wy isw oR memM) H := hP
      have hD : va_D (lwA s) (((wC o ad cI cZ cG (nI t) (nI q) (nI u) (nI y) (pnC pq) (nI n) isw mem) ++ wO oa cJ f) ++ wM om am cI cZ th (nI t) (nI q) (nI y) (pvC pq) (nI (pq.getD 0)) (nI b0) ptv wy isw oR memM) := hD
      refine lv_istore (lv' := [(5, .int (nI 2)), (0, .ref b), (1, .ref (o 0)), (2, .ref (om 0)), (3, .ref oa), (4, .int (nI i))]) hx hb dL_law_721 hl (by decide) rfl (fun ls hl => ?_)
      refine lv_aload_n hx hb dL_law_723 rfl (lv_at hl 3 rfl) ?_
      refine lv_aload_n hx hb dL_law_724 rfl (lv_at hl 1 rfl) ?_
      refine lv_iload hx hb dL_law_725 (lv_at hl 5 rfl) ?_
      refine lv_iconst (v := nI 1) hx hb dL_law_727 (by decide) ?_
      refine lv_iadd hx hb dL_law_728 ?_
      refine lv_eqi (v := nI (i + 1)) (nI_add _ _) ?_
      refine va_sld hx hb hXs hbl (Nat.not_le.mpr hbl) hS (vp_in_nI (show i + 1 < L by omega) (by omega)) dL_law_729 ?_
      refine lv_eqi (v := xs (i + 1)) (by rw [nI_clamp (by omega)]) ?_
      refine lv_aload_n hx hb dL_law_730 rfl (lv_at hl 1 rfl) ?_
      refine lv_iload hx hb dL_law_731 (lv_at hl 5 rfl) ?_
      refine lv_iconst (v := nI 2) hx hb dL_law_733 (by decide) ?_
      refine lv_iadd hx hb dL_law_734 ?_
      refine lv_eqi (v := nI (i + 2)) (nI_add _ _) ?_
      refine va_sld hx hb hXs hbl (Nat.not_le.mpr hbl) hS (vp_in_nI (show i + 2 < L by omega) (by omega)) dL_law_735 ?_
      refine lv_eqi (v := xs (i + 2)) (by rw [nI_clamp (by omega)]) ?_
      refine lv_aload_n hx hb dL_law_736 rfl (lv_at hl 1 rfl) ?_
      refine lv_iload hx hb dL_law_737 (lv_at hl 5 rfl) ?_
      refine lv_iconst (v := nI 3) hx hb dL_law_739 (by decide) ?_
      refine lv_iadd hx hb dL_law_740 ?_
      refine lv_eqi (v := nI (i + 3)) (nI_add _ _) ?_
      refine va_sld hx hb hXs hbl (Nat.not_le.mpr hbl) hS (vp_in_nI (show i + 3 < L by omega) (by omega)) dL_law_741 ?_
      refine lv_eqi (v := xs (i + 3)) (by rw [nI_clamp (by omega)]) ?_
      refine lv_aload_n hx hb dL_law_742 rfl (lv_at hl 1 rfl) ?_
      refine lv_iload hx hb dL_law_743 (lv_at hl 5 rfl) ?_
      refine lv_iconst (v := nI 4) hx hb dL_law_745 (by decide) ?_
      refine lv_iadd hx hb dL_law_746 ?_
      refine lv_eqi (v := nI (i + 4)) (nI_add _ _) ?_
      refine va_sld hx hb hXs hbl (Nat.not_le.mpr hbl) hS (vp_in_nI (show i + 4 < L by omega) (by omega)) dL_law_747 ?_
      refine lv_eqi (v := xs (i + 4)) (by rw [nI_clamp (by omega)]) ?_
      have hP := va_P_sw hP
      have hD := va_D_sw hD
      refine mi_frV (C := RX2) (As := [.int (xs (i + 1)), .int (xs (i + 2)), .int (xs (i + 3)), .int (xs (i + 4))]) (rest := []) ⟨hx, hb, hml, hown, hW⟩ (n_check_no q y b0 (pq.getD 0) hk.q24 hk.y12 (pv_01 pq) (xs (i + 1)) (xs (i + 2)) (xs (i + 3)) (xs (i + 4)) memM _ (by rw [← ise_pn hk]; exact hX)) nE_ok (cwV 4 hW (gV tw_700 tw_701 tw_702 tw_3 tw_703) rfl rfl rfl (by decide +kernel) ⟨Nat.le_of_ble_eq_true rfl, Nat.le_of_ble_eq_true rfl⟩) (va_recv hK hP (ci := 2) (q0 := 0) rfl rfl) hP hD (va_K.sub hK [0, 1, 2] rfl) hS hA trivial rfl hl.1 rfl (Nat.le_of_ble_eq_true rfl) dL_law_748 ⟨hc1, hc2⟩ (fun H locs hP hD hS => ?_)
      have hP := va_P_sw hP
      have hD := va_D_sw hD
      have hP : va_P D vwCl (((wC o ad cI cZ cG (nI t) (nI q) (nI u) (nI y) (pnC pq) (nI n) isw mem) ++ wO oa cJ f) ++ wM om am cI cZ (cdL [nIOB, nISE, nIAE] nISE) (nI t) (nI q) (nI y) (pvC pq) (nI (pq.getD 0)) (nI b0) ptv wy isw oR memM) H := hP
      have hD : va_D (lwA s) (((wC o ad cI cZ cG (nI t) (nI q) (nI u) (nI y) (pnC pq) (nI n) isw mem) ++ wO oa cJ f) ++ wM om am cI cZ (cdL [nIOB, nISE, nIAE] nISE) (nI t) (nI q) (nI y) (pvC pq) (nI (pq.getD 0)) (nI b0) ptv wy isw oR memM) := hD
      refine lv_istore (lv' := [(6, .int (nI 0)), (5, .int (nI 2)), (0, .ref b), (1, .ref (o 0)), (2, .ref (om 0)), (3, .ref oa), (4, .int (nI i))]) hx hb dL_law_751 hl (by decide) rfl (fun ls hl => ?_)
      refine lv_aload_n hx hb dL_law_753 rfl (lv_at hl 4 rfl) ?_
      have hP := va_P_sw hP
      have hD := va_D_sw hD
      refine mi_frV (C := RX2) (As := []) (rest := []) ⟨hx, hb, hml, hown, hW⟩ (n_thrown memM) nE_ok (cwV 0 hW (gV tw_590 tw_591 tw_592 tw_3 tw_593) rfl rfl rfl (by decide +kernel) ⟨Nat.le_of_ble_eq_true rfl, Nat.le_of_ble_eq_true rfl⟩) (va_recv hK hP (ci := 2) (q0 := 0) rfl rfl) hP hD (va_K.sub hK [0, 1, 2] rfl) hS hA trivial rfl hl.1 rfl (Nat.le_of_ble_eq_true rfl) dL_law_754 ⟨hc1, hc2⟩ (fun H locs hP hD hS => ?_)
      have hP := va_P_sw hP
      have hD := va_D_sw hD
      refine lv_eqi (v := nI 2) (by decide +kernel) ?_
      refine lv_iload hx hb dL_law_757 (lv_at hl 1 rfl) ?_
      refine lv_icmp_eq (tgt := 764) hx hb dL_law_759 (by decide) (fun _ => ?_) (fun h9 => absurd rfl h9)
      refine lv_iload hx hb dL_law_764 (lv_at hl 1 rfl) ?_
      refine lv_if_ne (tgt := 781) hx hb dL_law_766 (by decide) (fun _ => ?_) (fun h9 => absurd h9 (by decide))
      refine lv_goto (tgt := 1201) hx hb dL_law_781 (by decide) ?_
      exact kk t q y pq u n b0 isw oR mem memM (cdL [nIOB, nISE, nIAE] nISE) ptv wy f H locs ls _ _ hk hP hD hS (lv_sub hl [2, 3, 4, 5, 6] rfl) (Nat.le_refl _) (Nat.le_refl _)
    · refine lv_aload_n hx hb dL_law_692 rfl (lv_at hl 1 rfl) ?_
      refine lv_aload_n hx hb dL_law_693 rfl (lv_at hl 0 rfl) ?_
      refine lv_iload hx hb dL_law_694 (lv_at hl 4 rfl) ?_
      refine lv_iconst (v := nI 1) hx hb dL_law_696 (by decide) ?_
      refine lv_iadd hx hb dL_law_697 ?_
      refine lv_eqi (v := nI (i + 1)) (nI_add _ _) ?_
      refine va_sld hx hb hXs hbl (Nat.not_le.mpr hbl) hS (vp_in_nI (show i + 1 < L by omega) (by omega)) dL_law_698 ?_
      refine lv_eqi (v := xs (i + 1)) (by rw [nI_clamp (by omega)]) ?_
      refine lv_aload_n hx hb dL_law_699 rfl (lv_at hl 0 rfl) ?_
      refine lv_iload hx hb dL_law_700 (lv_at hl 4 rfl) ?_
      refine lv_iconst (v := nI 2) hx hb dL_law_702 (by decide) ?_
      refine lv_iadd hx hb dL_law_703 ?_
      refine lv_eqi (v := nI (i + 2)) (nI_add _ _) ?_
      refine va_sld hx hb hXs hbl (Nat.not_le.mpr hbl) hS (vp_in_nI (show i + 2 < L by omega) (by omega)) dL_law_704 ?_
      refine lv_eqi (v := xs (i + 2)) (by rw [nI_clamp (by omega)]) ?_
      refine lv_aload_n hx hb dL_law_705 rfl (lv_at hl 0 rfl) ?_
      refine lv_iload hx hb dL_law_706 (lv_at hl 4 rfl) ?_
      refine lv_iconst (v := nI 3) hx hb dL_law_708 (by decide) ?_
      refine lv_iadd hx hb dL_law_709 ?_
      refine lv_eqi (v := nI (i + 3)) (nI_add _ _) ?_
      refine va_sld hx hb hXs hbl (Nat.not_le.mpr hbl) hS (vp_in_nI (show i + 3 < L by omega) (by omega)) dL_law_710 ?_
      refine lv_eqi (v := xs (i + 3)) (by rw [nI_clamp (by omega)]) ?_
      refine lv_aload_n hx hb dL_law_711 rfl (lv_at hl 0 rfl) ?_
      refine lv_iload hx hb dL_law_712 (lv_at hl 4 rfl) ?_
      refine lv_iconst (v := nI 4) hx hb dL_law_714 (by decide) ?_
      refine lv_iadd hx hb dL_law_715 ?_
      refine lv_eqi (v := nI (i + 4)) (nI_add _ _) ?_
      refine va_sld hx hb hXs hbl (Nat.not_le.mpr hbl) hS (vp_in_nI (show i + 4 < L by omega) (by omega)) dL_law_716 ?_
      refine lv_eqi (v := xs (i + 4)) (by rw [nI_clamp (by omega)]) ?_
      refine lv_aload_n hx hb dL_law_717 rfl (lv_at hl 3 rfl) ?_
      refine tw_frS (As := [.ref (o 0), .int (xs (i + 1)), .int (xs (i + 2)), .int (xs (i + 3)), .int (xs (i + 4)), .ref oa]) (rest := []) ⟨hx, hb, hml, hown, hW⟩ (w_check_3 hl0 oa f q y n hk.q24 hk.y12 (xs (i + 1)) (xs (i + 2)) (xs (i + 3)) (xs (i + 4)) mem hk.hm hX) lE_ok (xw_cw 6 hW tw_369 tw_370 tw_0 tw_371 rfl rfl (by decide +kernel) ⟨Nat.le_of_ble_eq_true rfl, Nat.le_of_ble_eq_true rfl⟩) hP hD hK hS hA hT rfl hl.1 rfl (Nat.le_of_ble_eq_true rfl) dL_law_718 ⟨hc1, hc2⟩ (fun H locs hP hD hS => ?_)
      have hP : va_P D vwCl (((wC o ad cI cZ cG (nI t) (nI q) (nI u) (nI y) (pnC pq) (nI n) isw mem) ++ wO oa cJ f) ++ wM om am cI cZ th (nI t) (nI q) (nI y) (pvC pq) (nI (pq.getD 0)) (nI b0) ptv wy isw oR memM) H := hP
      have hD : va_D (lwA s) (((wC o ad cI cZ cG (nI t) (nI q) (nI u) (nI y) (pnC pq) (nI n) isw mem) ++ wO oa cJ f) ++ wM om am cI cZ th (nI t) (nI q) (nI y) (pvC pq) (nI (pq.getD 0)) (nI b0) ptv wy isw oR memM) := hD
      refine lv_istore (lv' := [(5, .int (nI 3)), (0, .ref b), (1, .ref (o 0)), (2, .ref (om 0)), (3, .ref oa), (4, .int (nI i))]) hx hb dL_law_721 hl (by decide) rfl (fun ls hl => ?_)
      refine lv_aload_n hx hb dL_law_723 rfl (lv_at hl 3 rfl) ?_
      refine lv_aload_n hx hb dL_law_724 rfl (lv_at hl 1 rfl) ?_
      refine lv_iload hx hb dL_law_725 (lv_at hl 5 rfl) ?_
      refine lv_iconst (v := nI 1) hx hb dL_law_727 (by decide) ?_
      refine lv_iadd hx hb dL_law_728 ?_
      refine lv_eqi (v := nI (i + 1)) (nI_add _ _) ?_
      refine va_sld hx hb hXs hbl (Nat.not_le.mpr hbl) hS (vp_in_nI (show i + 1 < L by omega) (by omega)) dL_law_729 ?_
      refine lv_eqi (v := xs (i + 1)) (by rw [nI_clamp (by omega)]) ?_
      refine lv_aload_n hx hb dL_law_730 rfl (lv_at hl 1 rfl) ?_
      refine lv_iload hx hb dL_law_731 (lv_at hl 5 rfl) ?_
      refine lv_iconst (v := nI 2) hx hb dL_law_733 (by decide) ?_
      refine lv_iadd hx hb dL_law_734 ?_
      refine lv_eqi (v := nI (i + 2)) (nI_add _ _) ?_
      refine va_sld hx hb hXs hbl (Nat.not_le.mpr hbl) hS (vp_in_nI (show i + 2 < L by omega) (by omega)) dL_law_735 ?_
      refine lv_eqi (v := xs (i + 2)) (by rw [nI_clamp (by omega)]) ?_
      refine lv_aload_n hx hb dL_law_736 rfl (lv_at hl 1 rfl) ?_
      refine lv_iload hx hb dL_law_737 (lv_at hl 5 rfl) ?_
      refine lv_iconst (v := nI 3) hx hb dL_law_739 (by decide) ?_
      refine lv_iadd hx hb dL_law_740 ?_
      refine lv_eqi (v := nI (i + 3)) (nI_add _ _) ?_
      refine va_sld hx hb hXs hbl (Nat.not_le.mpr hbl) hS (vp_in_nI (show i + 3 < L by omega) (by omega)) dL_law_741 ?_
      refine lv_eqi (v := xs (i + 3)) (by rw [nI_clamp (by omega)]) ?_
      refine lv_aload_n hx hb dL_law_742 rfl (lv_at hl 1 rfl) ?_
      refine lv_iload hx hb dL_law_743 (lv_at hl 5 rfl) ?_
      refine lv_iconst (v := nI 4) hx hb dL_law_745 (by decide) ?_
      refine lv_iadd hx hb dL_law_746 ?_
      refine lv_eqi (v := nI (i + 4)) (nI_add _ _) ?_
      refine va_sld hx hb hXs hbl (Nat.not_le.mpr hbl) hS (vp_in_nI (show i + 4 < L by omega) (by omega)) dL_law_747 ?_
      refine lv_eqi (v := xs (i + 4)) (by rw [nI_clamp (by omega)]) ?_
      have hP := va_P_sw hP
      have hD := va_D_sw hD
      refine mi_frV (C := RX2) (As := [.int (xs (i + 1)), .int (xs (i + 2)), .int (xs (i + 3)), .int (xs (i + 4))]) (rest := []) ⟨hx, hb, hml, hown, hW⟩ (n_check_no q y b0 (pq.getD 0) hk.q24 hk.y12 (pv_01 pq) (xs (i + 1)) (xs (i + 2)) (xs (i + 3)) (xs (i + 4)) memM _ (by rw [← ise_pn hk]; exact hX)) nE_ok (cwV 4 hW (gV tw_700 tw_701 tw_702 tw_3 tw_703) rfl rfl rfl (by decide +kernel) ⟨Nat.le_of_ble_eq_true rfl, Nat.le_of_ble_eq_true rfl⟩) (va_recv hK hP (ci := 2) (q0 := 0) rfl rfl) hP hD (va_K.sub hK [0, 1, 2] rfl) hS hA trivial rfl hl.1 rfl (Nat.le_of_ble_eq_true rfl) dL_law_748 ⟨hc1, hc2⟩ (fun H locs hP hD hS => ?_)
      have hP := va_P_sw hP
      have hD := va_D_sw hD
      have hP : va_P D vwCl (((wC o ad cI cZ cG (nI t) (nI q) (nI u) (nI y) (pnC pq) (nI n) isw mem) ++ wO oa cJ f) ++ wM om am cI cZ (cdL [nIOB, nISE, nIAE] nIAE) (nI t) (nI q) (nI y) (pvC pq) (nI (pq.getD 0)) (nI b0) ptv wy isw oR memM) H := hP
      have hD : va_D (lwA s) (((wC o ad cI cZ cG (nI t) (nI q) (nI u) (nI y) (pnC pq) (nI n) isw mem) ++ wO oa cJ f) ++ wM om am cI cZ (cdL [nIOB, nISE, nIAE] nIAE) (nI t) (nI q) (nI y) (pvC pq) (nI (pq.getD 0)) (nI b0) ptv wy isw oR memM) := hD
      refine lv_istore (lv' := [(6, .int (nI 0)), (5, .int (nI 3)), (0, .ref b), (1, .ref (o 0)), (2, .ref (om 0)), (3, .ref oa), (4, .int (nI i))]) hx hb dL_law_751 hl (by decide) rfl (fun ls hl => ?_)
      refine lv_aload_n hx hb dL_law_753 rfl (lv_at hl 4 rfl) ?_
      have hP := va_P_sw hP
      have hD := va_D_sw hD
      refine mi_frV (C := RX2) (As := []) (rest := []) ⟨hx, hb, hml, hown, hW⟩ (n_thrown memM) nE_ok (cwV 0 hW (gV tw_590 tw_591 tw_592 tw_3 tw_593) rfl rfl rfl (by decide +kernel) ⟨Nat.le_of_ble_eq_true rfl, Nat.le_of_ble_eq_true rfl⟩) (va_recv hK hP (ci := 2) (q0 := 0) rfl rfl) hP hD (va_K.sub hK [0, 1, 2] rfl) hS hA trivial rfl hl.1 rfl (Nat.le_of_ble_eq_true rfl) dL_law_754 ⟨hc1, hc2⟩ (fun H locs hP hD hS => ?_)
      have hP := va_P_sw hP
      have hD := va_D_sw hD
      refine lv_eqi (v := nI 3) (by decide +kernel) ?_
      refine lv_iload hx hb dL_law_757 (lv_at hl 1 rfl) ?_
      refine lv_icmp_eq (tgt := 764) hx hb dL_law_759 (by decide) (fun _ => ?_) (fun h9 => absurd rfl h9)
      refine lv_iload hx hb dL_law_764 (lv_at hl 1 rfl) ?_
      refine lv_if_ne (tgt := 781) hx hb dL_law_766 (by decide) (fun _ => ?_) (fun h9 => absurd h9 (by decide))
      refine lv_goto (tgt := 1201) hx hb dL_law_781 (by decide) ?_
      exact kk t q y pq u n b0 isw oR mem memM (cdL [nIOB, nISE, nIAE] nIAE) ptv wy f H locs ls _ _ hk hP hD hS (lv_sub hl [2, 3, 4, 5, 6] rfl) (Nat.le_refl _) (Nat.le_refl _)
set_option maxHeartbeats 4000000 in
set_option maxRecDepth 100000 in
theorem law_grew {p : Program} {l : Launch} {e : Env} {s : State} {m : MethodId} {below : List Frame} {meth : Method} {c : Code} {b L i cells slots : Nat} {xs : Nat → Int32} {D : va_G} {o ad om am : Nat → Nat} {oa : Nat} {cI cZ cG cJ : ClassId} {Q : State → Prop} {t q y u n b0 : Nat} {pq : Option Nat} {isw oR : Nat → Int32} {mem memM : xMem} {th ptv wy : Int32} {f : Nat → Int64} {H : Heap} {locs : List Loc} {ls : Array Slot} (hC : lawX p l s m meth c b L xs D cI cZ cG cJ) (hk : LK t q y pq u isw mem memM) (hP : va_P D vwCl (lwW o ad om am oa cI cZ cG cJ t q y pq u n b0 isw oR mem memM th ptv wy f) H) (hD : va_D (lwA s) (lwW o ad om am oa cI cZ cG cJ t q y pq u n b0 isw oR mem memM th ptv wy f)) (hS : va_S (lwA s) s.heap H locs) (hl : lv_has ls 7 [(0, .ref b), (1, .ref (o 0)), (2, .ref (om 0)), (3, .ref oa), (4, .int (nI i))]) (hi : i + 7 ≤ L) (hc1 : cells + 3 ≤ 601024) (hc2 : slots + 18 ≤ 7293033) (kk : lawK p l e s m below meth c b Q D o ad om am oa cI cZ cG cJ i cells slots) : W p l e room_1 s m #[Value.ref b] below meth c H locs cells slots Q (F0 m 784 ls []) := by
  obtain ⟨hx, hb, hml, hown, hW, hXs, hbl, hK, hT, hl0, hL⟩ := hC
  have hA : ∀ q : Nat, s.heap.size ≤ q → lwA s q := fun _ h => h
  have hq24 := hk.q24
  have hy12 := hk.y12
  have ht200 := hk.t200
  have hP : va_P D vwCl (((wC o ad cI cZ cG (nI t) (nI q) (nI u) (nI y) (pnC pq) (nI n) isw mem) ++ wO oa cJ f) ++ wM om am cI cZ th (nI t) (nI q) (nI y) (pvC pq) (nI (pq.getD 0)) (nI b0) ptv wy isw oR memM) H := hP
  have hD : va_D (lwA s) (((wC o ad cI cZ cG (nI t) (nI q) (nI u) (nI y) (pnC pq) (nI n) isw mem) ++ wO oa cJ f) ++ wM om am cI cZ th (nI t) (nI q) (nI y) (pvC pq) (nI (pq.getD 0)) (nI b0) ptv wy isw oR memM) := hD
  rcases hX : (x_req (xs (i + 1)) (nI y)).or ((x_req (xs (i + 2)) (nI y)).or (x_if (¬ (xs (i + 1)) ≤ (xs (i + 2))) nIAE)) with _ | nm
  · obtain ⟨g1, r1⟩ := x_or_none hX
    obtain ⟨g2, g3⟩ := x_or_none r1
    obtain ⟨da, hda, hv⟩ := x_req_none (by omega) g1
    obtain ⟨db, hdb, hu⟩ := x_req_none (by omega) g2
    obtain ⟨ca, hca2, hca⟩ := hk.cn da hda
    obtain ⟨cb, hcb2, hcb⟩ := hk.cn db hdb
    have hab : da ≤ db := by
      have h9 := Classical.not_not.mp (x_if_none g3)
      rw [hv, hu] at h9
      rcases Nat.lt_or_ge db da with h8 | h8
      · exact absurd h9 (Int32.not_le.mpr (nI_lt h8 (by omega)))
      · exact h8
    by_cases h1 : p_iso 7 (32 * da) (m_tree 0 ca (b0, memM)).2 = 0
    · rw [hv, hu] at hX
      refine lv_aload_n hx hb dL_law_784 rfl (lv_at hl 1 rfl) ?_
      refine lv_aload_n hx hb dL_law_785 rfl (lv_at hl 0 rfl) ?_
      refine lv_iload hx hb dL_law_786 (lv_at hl 4 rfl) ?_
      refine lv_iconst (v := nI 1) hx hb dL_law_788 (by decide) ?_
      refine lv_iadd hx hb dL_law_789 ?_
      refine lv_eqi (v := nI (i + 1)) (nI_add _ _) ?_
      refine va_sld hx hb hXs hbl (Nat.not_le.mpr hbl) hS (vp_in_nI (show i + 1 < L by omega) (by omega)) dL_law_790 ?_
      refine lv_eqi (v := nI da) (by rw [nI_clamp (by omega)]; exact hv) ?_
      refine lv_aload_n hx hb dL_law_791 rfl (lv_at hl 0 rfl) ?_
      refine lv_iload hx hb dL_law_792 (lv_at hl 4 rfl) ?_
      refine lv_iconst (v := nI 2) hx hb dL_law_794 (by decide) ?_
      refine lv_iadd hx hb dL_law_795 ?_
      refine lv_eqi (v := nI (i + 2)) (nI_add _ _) ?_
      refine va_sld hx hb hXs hbl (Nat.not_le.mpr hbl) hS (vp_in_nI (show i + 2 < L by omega) (by omega)) dL_law_796 ?_
      refine lv_eqi (v := nI db) (by rw [nI_clamp (by omega)]; exact hu) ?_
      refine lv_aload_n hx hb dL_law_797 rfl (lv_at hl 3 rfl) ?_
      refine tw_frS (As := [.ref (o 0), .int (nI da), .int (nI db), .ref oa]) (rest := []) ⟨hx, hb, hml, hown, hW⟩ (w_grew_ok hl0 oa f y n hk.y12 (nI da) (nI db) mem hk.hm hX) lE_ok (xw_cw 4 hW tw_388 tw_389 tw_0 tw_390 rfl rfl (by decide +kernel) ⟨Nat.le_of_ble_eq_true rfl, Nat.le_of_ble_eq_true rfl⟩) hP hD hK hS hA hT rfl hl.1 rfl (Nat.le_of_ble_eq_true rfl) dL_law_798 ⟨hc1, hc2⟩ (fun H locs hP hD hS => ?_)
      have hP : va_P D vwCl (((wC o ad cI cZ cG (nI t) (nI q) (nI u) (nI y) (pnC pq) (nI ((p_grewW (tn (nI da)) (tn (nI db)) (n, mem)).1)) isw ((p_grewW (tn (nI da)) (tn (nI db)) (n, mem)).2)) ++ wO oa cJ (vp_updL f 0 (lN01 (p_grewR (tn (nI da)) (tn (nI db)) (n, mem))))) ++ wM om am cI cZ th (nI t) (nI q) (nI y) (pvC pq) (nI (pq.getD 0)) (nI b0) ptv wy isw oR memM) H := hP
      have hD : va_D (lwA s) (((wC o ad cI cZ cG (nI t) (nI q) (nI u) (nI y) (pnC pq) (nI ((p_grewW (tn (nI da)) (tn (nI db)) (n, mem)).1)) isw ((p_grewW (tn (nI da)) (tn (nI db)) (n, mem)).2)) ++ wO oa cJ (vp_updL f 0 (lN01 (p_grewR (tn (nI da)) (tn (nI db)) (n, mem))))) ++ wM om am cI cZ th (nI t) (nI q) (nI y) (pvC pq) (nI (pq.getD 0)) (nI b0) ptv wy isw oR memM) := hD
      refine lv_istore (lv' := [(5, .int (nI 0)), (0, .ref b), (1, .ref (o 0)), (2, .ref (om 0)), (3, .ref oa), (4, .int (nI i))]) hx hb dL_law_801 hl (by decide) rfl (fun ls hl => ?_)
      refine lv_aload_n hx hb dL_law_803 rfl (lv_at hl 3 rfl) ?_
      refine lv_aload_n hx hb dL_law_804 rfl (lv_at hl 1 rfl) ?_
      refine lv_iload hx hb dL_law_805 (lv_at hl 5 rfl) ?_
      refine lv_iconst (v := nI 1) hx hb dL_law_807 (by decide) ?_
      refine lv_iadd hx hb dL_law_808 ?_
      refine lv_eqi (v := nI (i + 1)) (nI_add _ _) ?_
      refine va_sld hx hb hXs hbl (Nat.not_le.mpr hbl) hS (vp_in_nI (show i + 1 < L by omega) (by omega)) dL_law_809 ?_
      refine lv_eqi (v := nI da) (by rw [nI_clamp (by omega)]; exact hv) ?_
      refine lv_aload_n hx hb dL_law_810 rfl (lv_at hl 1 rfl) ?_
      refine lv_iload hx hb dL_law_811 (lv_at hl 5 rfl) ?_
      refine lv_iconst (v := nI 2) hx hb dL_law_813 (by decide) ?_
      refine lv_iadd hx hb dL_law_814 ?_
      refine lv_eqi (v := nI (i + 2)) (nI_add _ _) ?_
      refine va_sld hx hb hXs hbl (Nat.not_le.mpr hbl) hS (vp_in_nI (show i + 2 < L by omega) (by omega)) dL_law_815 ?_
      refine lv_eqi (v := nI db) (by rw [nI_clamp (by omega)]; exact hu) ?_
      have hP := va_P_sw hP
      have hD := va_D_sw hD
      refine mi_frV (C := RX2) (As := [.int (nI da), .int (nI db)]) (rest := []) ⟨hx, hb, hml, hown, hW⟩ (n_grew0 y b0 da db ca cb hk.y12 hda hdb hab memM (by rw [← hk.e1]; exact hca) (by rw [← hk.e1]; exact hcb) (by omega) (by omega) hk.hkc h1) nE_ok (cwV 2 hW (gV tw_708 tw_709 tw_710 tw_3 tw_711) rfl rfl rfl (by decide +kernel) ⟨Nat.le_of_ble_eq_true rfl, Nat.le_of_ble_eq_true rfl⟩) (va_recv hK hP (ci := 2) (q0 := 0) rfl rfl) hP hD (va_K.sub hK [0, 1, 2] rfl) hS hA trivial rfl hl.1 rfl (Nat.le_of_ble_eq_true rfl) dL_law_816 ⟨hc1, hc2⟩ (fun H locs hP hD hS => ?_)
      have hP := va_P_sw hP
      have hD := va_D_sw hD
      have hP : va_P D vwCl (((wC o ad cI cZ cG (nI t) (nI q) (nI u) (nI y) (pnC pq) (nI ((p_grewW (tn (nI da)) (tn (nI db)) (n, mem)).1)) isw ((p_grewW (tn (nI da)) (tn (nI db)) (n, mem)).2)) ++ wO oa cJ (vp_updL f 0 (lN01 (p_grewR (tn (nI da)) (tn (nI db)) (n, mem))))) ++ wM om am cI cZ (nI 0) (nI t) (nI q) (nI y) (pvC pq) (nI (pq.getD 0)) (nI ((m_tree 0 ca (b0, memM)).1)) (ptT ca ptv) wy isw oR ((m_tree 0 ca (b0, memM)).2)) H := hP
      have hD : va_D (lwA s) (((wC o ad cI cZ cG (nI t) (nI q) (nI u) (nI y) (pnC pq) (nI ((p_grewW (tn (nI da)) (tn (nI db)) (n, mem)).1)) isw ((p_grewW (tn (nI da)) (tn (nI db)) (n, mem)).2)) ++ wO oa cJ (vp_updL f 0 (lN01 (p_grewR (tn (nI da)) (tn (nI db)) (n, mem))))) ++ wM om am cI cZ (nI 0) (nI t) (nI q) (nI y) (pvC pq) (nI (pq.getD 0)) (nI ((m_tree 0 ca (b0, memM)).1)) (ptT ca ptv) wy isw oR ((m_tree 0 ca (b0, memM)).2)) := hD
      refine lv_istore (lv' := [(6, .int (nI 0)), (5, .int (nI 0)), (0, .ref b), (1, .ref (o 0)), (2, .ref (om 0)), (3, .ref oa), (4, .int (nI i))]) hx hb dL_law_819 hl (by decide) rfl (fun ls hl => ?_)
      refine lv_aload_n hx hb dL_law_821 rfl (lv_at hl 4 rfl) ?_
      have hP := va_P_sw hP
      have hD := va_D_sw hD
      refine mi_frV (C := RX2) (As := []) (rest := []) ⟨hx, hb, hml, hown, hW⟩ (n_thrown ((m_tree 0 ca (b0, memM)).2)) nE_ok (cwV 0 hW (gV tw_590 tw_591 tw_592 tw_3 tw_593) rfl rfl rfl (by decide +kernel) ⟨Nat.le_of_ble_eq_true rfl, Nat.le_of_ble_eq_true rfl⟩) (va_recv hK hP (ci := 2) (q0 := 0) rfl rfl) hP hD (va_K.sub hK [0, 1, 2] rfl) hS hA trivial rfl hl.1 rfl (Nat.le_of_ble_eq_true rfl) dL_law_822 ⟨hc1, hc2⟩ (fun H locs hP hD hS => ?_)
      have hP := va_P_sw hP
      have hD := va_D_sw hD
      refine lv_eqi (v := nI 0) (rfl) ?_
      refine lv_iload hx hb dL_law_825 (lv_at hl 1 rfl) ?_
      refine lv_icmp_eq (tgt := 832) hx hb dL_law_827 (by decide) (fun _ => ?_) (fun h9 => absurd rfl h9)
      refine lv_iload hx hb dL_law_832 (lv_at hl 1 rfl) ?_
      refine lv_if_ne (tgt := 856) hx hb dL_law_834 (by decide) (fun h9 => absurd (show nI 0 = (0 : Int32) from rfl) h9) (fun _ => ?_)
      refine lv_aload_n hx hb dL_law_837 rfl (lv_at hl 5 rfl) ?_
      refine lv_iconst (v := nI 0) hx hb dL_law_838 (by decide) ?_
      refine va_lald hx hb hK (va_P_right (va_P_left hP)) 0 3 rfl rfl (vp_in_nI (show 0 < 1 by decide) (by decide)) dL_law_839 ?_
      refine lv_eql (v := lN01 (nI 0)) (by rw [updL_0, show p_grewR (tn (nI da)) (tn (nI db)) (n, mem) = nI 0 by rw [tn_nI (show da < 2 ^ 31 by omega), tn_nI (show db < 2 ^ 31 by omega)]; exact ((hk.grew (n := n) (b0 := b0) hda hdb hca hcb hca2 hcb2).1 h1).1]) ?_
      refine lv_iload hx hb dL_law_840 (lv_at hl 0 rfl) ?_
      refine lv_if_eq (tgt := 849) hx hb dL_law_842 (by decide) (fun hz => ?_) (fun hz => ?_)
      · refine lv_lconst (v := lN 0) hx hb dL_law_849 (by decide) ?_
        rw [lN01_0 hz]
        refine W.lcmp hx hb dL_law_850 ?_
        refine lv_eqi (v := nI 0) (lcmp_self _) ?_
        refine lv_if_eq (tgt := 856) hx hb dL_law_851 (by decide) (fun _ => ?_) (fun h9 => absurd (show nI 0 = (0 : Int32) from rfl) h9)
        refine lv_goto (tgt := 1201) hx hb dL_law_856 (by decide) ?_
        exact kk t q y pq u ((p_grewW (tn (nI da)) (tn (nI db)) (n, mem)).1) ((m_tree 0 ca (b0, memM)).1) isw oR ((p_grewW (tn (nI da)) (tn (nI db)) (n, mem)).2) ((m_tree 0 ca (b0, memM)).2) (nI 0) (ptT ca ptv) wy (vp_updL f 0 (lN01 (p_grewR (tn (nI da)) (tn (nI db)) (n, mem)))) H locs ls _ _ (by rw [tn_nI (show da < 2 ^ 31 by omega), tn_nI (show db < 2 ^ 31 by omega)]; exact ((hk.grew (n := n) (b0 := b0) hda hdb hca hcb hca2 hcb2).1 h1).2) hP hD hS (lv_sub hl [2, 3, 4, 5, 6] rfl) (Nat.le_refl _) (Nat.le_refl _)
      · refine lv_lconst (v := lN 1) hx hb dL_law_845 (by decide) ?_
        refine lv_goto (tgt := 850) hx hb dL_law_846 (by decide) ?_
        rw [lN01_1 hz]
        refine W.lcmp hx hb dL_law_850 ?_
        refine lv_eqi (v := nI 0) (lcmp_self _) ?_
        refine lv_if_eq (tgt := 856) hx hb dL_law_851 (by decide) (fun _ => ?_) (fun h9 => absurd (show nI 0 = (0 : Int32) from rfl) h9)
        refine lv_goto (tgt := 1201) hx hb dL_law_856 (by decide) ?_
        exact kk t q y pq u ((p_grewW (tn (nI da)) (tn (nI db)) (n, mem)).1) ((m_tree 0 ca (b0, memM)).1) isw oR ((p_grewW (tn (nI da)) (tn (nI db)) (n, mem)).2) ((m_tree 0 ca (b0, memM)).2) (nI 0) (ptT ca ptv) wy (vp_updL f 0 (lN01 (p_grewR (tn (nI da)) (tn (nI db)) (n, mem)))) H locs ls _ _ (by rw [tn_nI (show da < 2 ^ 31 by omega), tn_nI (show db < 2 ^ 31 by omega)]; exact ((hk.grew (n := n) (b0 := b0) hda hdb hca hcb hca2 hcb2).1 h1).2) hP hD hS (lv_sub hl [2, 3, 4, 5, 6] rfl) (Nat.le_refl _) (Nat.le_refl _)
    · rw [hv, hu] at hX
      refine lv_aload_n hx hb dL_law_784 rfl (lv_at hl 1 rfl) ?_
      refine lv_aload_n hx hb dL_law_785 rfl (lv_at hl 0 rfl) ?_
      refine lv_iload hx hb dL_law_786 (lv_at hl 4 rfl) ?_
      refine lv_iconst (v := nI 1) hx hb dL_law_788 (by decide) ?_
      refine lv_iadd hx hb dL_law_789 ?_
      refine lv_eqi (v := nI (i + 1)) (nI_add _ _) ?_
      refine va_sld hx hb hXs hbl (Nat.not_le.mpr hbl) hS (vp_in_nI (show i + 1 < L by omega) (by omega)) dL_law_790 ?_
      refine lv_eqi (v := nI da) (by rw [nI_clamp (by omega)]; exact hv) ?_
      refine lv_aload_n hx hb dL_law_791 rfl (lv_at hl 0 rfl) ?_
      refine lv_iload hx hb dL_law_792 (lv_at hl 4 rfl) ?_
      refine lv_iconst (v := nI 2) hx hb dL_law_794 (by decide) ?_
      refine lv_iadd hx hb dL_law_795 ?_
      refine lv_eqi (v := nI (i + 2)) (nI_add _ _) ?_
      refine va_sld hx hb hXs hbl (Nat.not_le.mpr hbl) hS (vp_in_nI (show i + 2 < L by omega) (by omega)) dL_law_796 ?_
      refine lv_eqi (v := nI db) (by rw [nI_clamp (by omega)]; exact hu) ?_
      refine lv_aload_n hx hb dL_law_797 rfl (lv_at hl 3 rfl) ?_
      refine tw_frS (As := [.ref (o 0), .int (nI da), .int (nI db), .ref oa]) (rest := []) ⟨hx, hb, hml, hown, hW⟩ (w_grew_ok hl0 oa f y n hk.y12 (nI da) (nI db) mem hk.hm hX) lE_ok (xw_cw 4 hW tw_388 tw_389 tw_0 tw_390 rfl rfl (by decide +kernel) ⟨Nat.le_of_ble_eq_true rfl, Nat.le_of_ble_eq_true rfl⟩) hP hD hK hS hA hT rfl hl.1 rfl (Nat.le_of_ble_eq_true rfl) dL_law_798 ⟨hc1, hc2⟩ (fun H locs hP hD hS => ?_)
      have hP : va_P D vwCl (((wC o ad cI cZ cG (nI t) (nI q) (nI u) (nI y) (pnC pq) (nI ((p_grewW (tn (nI da)) (tn (nI db)) (n, mem)).1)) isw ((p_grewW (tn (nI da)) (tn (nI db)) (n, mem)).2)) ++ wO oa cJ (vp_updL f 0 (lN01 (p_grewR (tn (nI da)) (tn (nI db)) (n, mem))))) ++ wM om am cI cZ th (nI t) (nI q) (nI y) (pvC pq) (nI (pq.getD 0)) (nI b0) ptv wy isw oR memM) H := hP
      have hD : va_D (lwA s) (((wC o ad cI cZ cG (nI t) (nI q) (nI u) (nI y) (pnC pq) (nI ((p_grewW (tn (nI da)) (tn (nI db)) (n, mem)).1)) isw ((p_grewW (tn (nI da)) (tn (nI db)) (n, mem)).2)) ++ wO oa cJ (vp_updL f 0 (lN01 (p_grewR (tn (nI da)) (tn (nI db)) (n, mem))))) ++ wM om am cI cZ th (nI t) (nI q) (nI y) (pvC pq) (nI (pq.getD 0)) (nI b0) ptv wy isw oR memM) := hD
      refine lv_istore (lv' := [(5, .int (nI 0)), (0, .ref b), (1, .ref (o 0)), (2, .ref (om 0)), (3, .ref oa), (4, .int (nI i))]) hx hb dL_law_801 hl (by decide) rfl (fun ls hl => ?_)
      refine lv_aload_n hx hb dL_law_803 rfl (lv_at hl 3 rfl) ?_
      refine lv_aload_n hx hb dL_law_804 rfl (lv_at hl 1 rfl) ?_
      refine lv_iload hx hb dL_law_805 (lv_at hl 5 rfl) ?_
      refine lv_iconst (v := nI 1) hx hb dL_law_807 (by decide) ?_
      refine lv_iadd hx hb dL_law_808 ?_
      refine lv_eqi (v := nI (i + 1)) (nI_add _ _) ?_
      refine va_sld hx hb hXs hbl (Nat.not_le.mpr hbl) hS (vp_in_nI (show i + 1 < L by omega) (by omega)) dL_law_809 ?_
      refine lv_eqi (v := nI da) (by rw [nI_clamp (by omega)]; exact hv) ?_
      refine lv_aload_n hx hb dL_law_810 rfl (lv_at hl 1 rfl) ?_
      refine lv_iload hx hb dL_law_811 (lv_at hl 5 rfl) ?_
      refine lv_iconst (v := nI 2) hx hb dL_law_813 (by decide) ?_
      refine lv_iadd hx hb dL_law_814 ?_
      refine lv_eqi (v := nI (i + 2)) (nI_add _ _) ?_
      refine va_sld hx hb hXs hbl (Nat.not_le.mpr hbl) hS (vp_in_nI (show i + 2 < L by omega) (by omega)) dL_law_815 ?_
      refine lv_eqi (v := nI db) (by rw [nI_clamp (by omega)]; exact hu) ?_
      have hP := va_P_sw hP
      have hD := va_D_sw hD
      refine mi_frV (C := RX2) (As := [.int (nI da), .int (nI db)]) (rest := []) ⟨hx, hb, hml, hown, hW⟩ (n_grew1 y b0 da db ca cb hk.y12 hda hdb hab memM (by rw [← hk.e1]; exact hca) (by rw [← hk.e1]; exact hcb) (by omega) (by omega) hk.hkc h1) nE_ok (cwV 2 hW (gV tw_708 tw_709 tw_710 tw_3 tw_711) rfl rfl rfl (by decide +kernel) ⟨Nat.le_of_ble_eq_true rfl, Nat.le_of_ble_eq_true rfl⟩) (va_recv hK hP (ci := 2) (q0 := 0) rfl rfl) hP hD (va_K.sub hK [0, 1, 2] rfl) hS hA trivial rfl hl.1 rfl (Nat.le_of_ble_eq_true rfl) dL_law_816 ⟨hc1, hc2⟩ (fun H locs hP hD hS => ?_)
      have hP := va_P_sw hP
      have hD := va_D_sw hD
      have hP : va_P D vwCl (((wC o ad cI cZ cG (nI t) (nI q) (nI u) (nI y) (pnC pq) (nI ((p_grewW (tn (nI da)) (tn (nI db)) (n, mem)).1)) isw ((p_grewW (tn (nI da)) (tn (nI db)) (n, mem)).2)) ++ wO oa cJ (vp_updL f 0 (lN01 (p_grewR (tn (nI da)) (tn (nI db)) (n, mem))))) ++ wM om am cI cZ (nI 0) (nI t) (nI q) (nI y) (pvC pq) (nI (pq.getD 0)) (nI ((m_tree 0 cb (m_tree 0 ca (b0, memM))).1)) (ptT cb (ptT ca ptv)) wy isw oR ((m_tree 0 cb (m_tree 0 ca (b0, memM))).2)) H := hP
      have hD : va_D (lwA s) (((wC o ad cI cZ cG (nI t) (nI q) (nI u) (nI y) (pnC pq) (nI ((p_grewW (tn (nI da)) (tn (nI db)) (n, mem)).1)) isw ((p_grewW (tn (nI da)) (tn (nI db)) (n, mem)).2)) ++ wO oa cJ (vp_updL f 0 (lN01 (p_grewR (tn (nI da)) (tn (nI db)) (n, mem))))) ++ wM om am cI cZ (nI 0) (nI t) (nI q) (nI y) (pvC pq) (nI (pq.getD 0)) (nI ((m_tree 0 cb (m_tree 0 ca (b0, memM))).1)) (ptT cb (ptT ca ptv)) wy isw oR ((m_tree 0 cb (m_tree 0 ca (b0, memM))).2)) := hD
      refine lv_istore (lv' := [(6, .int (p_iso 7 (32 * db) (m_tree 0 cb (m_tree 0 ca (b0, memM))).2)), (5, .int (nI 0)), (0, .ref b), (1, .ref (o 0)), (2, .ref (om 0)), (3, .ref oa), (4, .int (nI i))]) hx hb dL_law_819 hl (by decide) rfl (fun ls hl => ?_)
      refine lv_aload_n hx hb dL_law_821 rfl (lv_at hl 4 rfl) ?_
      have hP := va_P_sw hP
      have hD := va_D_sw hD
      refine mi_frV (C := RX2) (As := []) (rest := []) ⟨hx, hb, hml, hown, hW⟩ (n_thrown ((m_tree 0 cb (m_tree 0 ca (b0, memM))).2)) nE_ok (cwV 0 hW (gV tw_590 tw_591 tw_592 tw_3 tw_593) rfl rfl rfl (by decide +kernel) ⟨Nat.le_of_ble_eq_true rfl, Nat.le_of_ble_eq_true rfl⟩) (va_recv hK hP (ci := 2) (q0 := 0) rfl rfl) hP hD (va_K.sub hK [0, 1, 2] rfl) hS hA trivial rfl hl.1 rfl (Nat.le_of_ble_eq_true rfl) dL_law_822 ⟨hc1, hc2⟩ (fun H locs hP hD hS => ?_)
      have hP := va_P_sw hP
      have hD := va_D_sw hD
      refine lv_eqi (v := nI 0) (rfl) ?_
      refine lv_iload hx hb dL_law_825 (lv_at hl 1 rfl) ?_
      refine lv_icmp_eq (tgt := 832) hx hb dL_law_827 (by decide) (fun _ => ?_) (fun h9 => absurd rfl h9)
      refine lv_iload hx hb dL_law_832 (lv_at hl 1 rfl) ?_
      refine lv_if_ne (tgt := 856) hx hb dL_law_834 (by decide) (fun h9 => absurd (show nI 0 = (0 : Int32) from rfl) h9) (fun _ => ?_)
      refine lv_aload_n hx hb dL_law_837 rfl (lv_at hl 5 rfl) ?_
      refine lv_iconst (v := nI 0) hx hb dL_law_838 (by decide) ?_
      refine va_lald hx hb hK (va_P_right (va_P_left hP)) 0 3 rfl rfl (vp_in_nI (show 0 < 1 by decide) (by decide)) dL_law_839 ?_
      refine lv_eql (v := lN01 (p_iso 7 (32 * db) (m_tree 0 cb (m_tree 0 ca (b0, memM))).2)) (by rw [updL_0, show p_grewR (tn (nI da)) (tn (nI db)) (n, mem) = p_iso 7 (32 * db) (m_tree 0 cb (m_tree 0 ca (b0, memM))).2 by rw [tn_nI (show da < 2 ^ 31 by omega), tn_nI (show db < 2 ^ 31 by omega)]; exact ((hk.grew (n := n) (b0 := b0) hda hdb hca hcb hca2 hcb2).2 h1).1]) ?_
      refine lv_iload hx hb dL_law_840 (lv_at hl 0 rfl) ?_
      refine lv_if_eq (tgt := 849) hx hb dL_law_842 (by decide) (fun hz => ?_) (fun hz => ?_)
      · refine lv_lconst (v := lN 0) hx hb dL_law_849 (by decide) ?_
        rw [lN01_0 hz]
        refine W.lcmp hx hb dL_law_850 ?_
        refine lv_eqi (v := nI 0) (lcmp_self _) ?_
        refine lv_if_eq (tgt := 856) hx hb dL_law_851 (by decide) (fun _ => ?_) (fun h9 => absurd (show nI 0 = (0 : Int32) from rfl) h9)
        refine lv_goto (tgt := 1201) hx hb dL_law_856 (by decide) ?_
        exact kk t q y pq u ((p_grewW (tn (nI da)) (tn (nI db)) (n, mem)).1) ((m_tree 0 cb (m_tree 0 ca (b0, memM))).1) isw oR ((p_grewW (tn (nI da)) (tn (nI db)) (n, mem)).2) ((m_tree 0 cb (m_tree 0 ca (b0, memM))).2) (nI 0) (ptT cb (ptT ca ptv)) wy (vp_updL f 0 (lN01 (p_grewR (tn (nI da)) (tn (nI db)) (n, mem)))) H locs ls _ _ (by rw [tn_nI (show da < 2 ^ 31 by omega), tn_nI (show db < 2 ^ 31 by omega)]; exact ((hk.grew (n := n) (b0 := b0) hda hdb hca hcb hca2 hcb2).2 h1).2) hP hD hS (lv_sub hl [2, 3, 4, 5, 6] rfl) (Nat.le_refl _) (Nat.le_refl _)
      · refine lv_lconst (v := lN 1) hx hb dL_law_845 (by decide) ?_
        refine lv_goto (tgt := 850) hx hb dL_law_846 (by decide) ?_
        rw [lN01_1 hz]
        refine W.lcmp hx hb dL_law_850 ?_
        refine lv_eqi (v := nI 0) (lcmp_self _) ?_
        refine lv_if_eq (tgt := 856) hx hb dL_law_851 (by decide) (fun _ => ?_) (fun h9 => absurd (show nI 0 = (0 : Int32) from rfl) h9)
        refine lv_goto (tgt := 1201) hx hb dL_law_856 (by decide) ?_
        exact kk t q y pq u ((p_grewW (tn (nI da)) (tn (nI db)) (n, mem)).1) ((m_tree 0 cb (m_tree 0 ca (b0, memM))).1) isw oR ((p_grewW (tn (nI da)) (tn (nI db)) (n, mem)).2) ((m_tree 0 cb (m_tree 0 ca (b0, memM))).2) (nI 0) (ptT cb (ptT ca ptv)) wy (vp_updL f 0 (lN01 (p_grewR (tn (nI da)) (tn (nI db)) (n, mem)))) H locs ls _ _ (by rw [tn_nI (show da < 2 ^ 31 by omega), tn_nI (show db < 2 ^ 31 by omega)]; exact ((hk.grew (n := n) (b0 := b0) hda hdb hca hcb hca2 hcb2).2 h1).2) hP hD hS (lv_sub hl [2, 3, 4, 5, 6] rfl) (Nat.le_refl _) (Nat.le_refl _)
  · have hcd : nm = nIOB ∨ nm = nIAE := ((x_or_some hX).elim (fun h1 => (Or.inl (x_req_some h1))) (fun h1 => ((x_or_some h1.2).elim (fun h1 => (Or.inl (x_req_some h1))) (fun h1 => (Or.inr ((x_if_some h1.2).1))))))
    rcases hcd with rfl | rfl
    · refine lv_aload_n hx hb dL_law_784 rfl (lv_at hl 1 rfl) ?_
      refine lv_aload_n hx hb dL_law_785 rfl (lv_at hl 0 rfl) ?_
      refine lv_iload hx hb dL_law_786 (lv_at hl 4 rfl) ?_
      refine lv_iconst (v := nI 1) hx hb dL_law_788 (by decide) ?_
      refine lv_iadd hx hb dL_law_789 ?_
      refine lv_eqi (v := nI (i + 1)) (nI_add _ _) ?_
      refine va_sld hx hb hXs hbl (Nat.not_le.mpr hbl) hS (vp_in_nI (show i + 1 < L by omega) (by omega)) dL_law_790 ?_
      refine lv_eqi (v := xs (i + 1)) (by rw [nI_clamp (by omega)]) ?_
      refine lv_aload_n hx hb dL_law_791 rfl (lv_at hl 0 rfl) ?_
      refine lv_iload hx hb dL_law_792 (lv_at hl 4 rfl) ?_
      refine lv_iconst (v := nI 2) hx hb dL_law_794 (by decide) ?_
      refine lv_iadd hx hb dL_law_795 ?_
      refine lv_eqi (v := nI (i + 2)) (nI_add _ _) ?_
      refine va_sld hx hb hXs hbl (Nat.not_le.mpr hbl) hS (vp_in_nI (show i + 2 < L by omega) (by omega)) dL_law_796 ?_
      refine lv_eqi (v := xs (i + 2)) (by rw [nI_clamp (by omega)]) ?_
      refine lv_aload_n hx hb dL_law_797 rfl (lv_at hl 3 rfl) ?_
      refine tw_frS (As := [.ref (o 0), .int (xs (i + 1)), .int (xs (i + 2)), .ref oa]) (rest := []) ⟨hx, hb, hml, hown, hW⟩ (w_grew_1 hl0 oa f y n hk.y12 (xs (i + 1)) (xs (i + 2)) mem hk.hm hX) lE_ok (xw_cw 4 hW tw_388 tw_389 tw_0 tw_390 rfl rfl (by decide +kernel) ⟨Nat.le_of_ble_eq_true rfl, Nat.le_of_ble_eq_true rfl⟩) hP hD hK hS hA hT rfl hl.1 rfl (Nat.le_of_ble_eq_true rfl) dL_law_798 ⟨hc1, hc2⟩ (fun H locs hP hD hS => ?_)
      have hP : va_P D vwCl (((wC o ad cI cZ cG (nI t) (nI q) (nI u) (nI y) (pnC pq) (nI n) isw mem) ++ wO oa cJ f) ++ wM om am cI cZ th (nI t) (nI q) (nI y) (pvC pq) (nI (pq.getD 0)) (nI b0) ptv wy isw oR memM) H := hP
      have hD : va_D (lwA s) (((wC o ad cI cZ cG (nI t) (nI q) (nI u) (nI y) (pnC pq) (nI n) isw mem) ++ wO oa cJ f) ++ wM om am cI cZ th (nI t) (nI q) (nI y) (pvC pq) (nI (pq.getD 0)) (nI b0) ptv wy isw oR memM) := hD
      refine lv_istore (lv' := [(5, .int (nI 1)), (0, .ref b), (1, .ref (o 0)), (2, .ref (om 0)), (3, .ref oa), (4, .int (nI i))]) hx hb dL_law_801 hl (by decide) rfl (fun ls hl => ?_)
      refine lv_aload_n hx hb dL_law_803 rfl (lv_at hl 3 rfl) ?_
      refine lv_aload_n hx hb dL_law_804 rfl (lv_at hl 1 rfl) ?_
      refine lv_iload hx hb dL_law_805 (lv_at hl 5 rfl) ?_
      refine lv_iconst (v := nI 1) hx hb dL_law_807 (by decide) ?_
      refine lv_iadd hx hb dL_law_808 ?_
      refine lv_eqi (v := nI (i + 1)) (nI_add _ _) ?_
      refine va_sld hx hb hXs hbl (Nat.not_le.mpr hbl) hS (vp_in_nI (show i + 1 < L by omega) (by omega)) dL_law_809 ?_
      refine lv_eqi (v := xs (i + 1)) (by rw [nI_clamp (by omega)]) ?_
      refine lv_aload_n hx hb dL_law_810 rfl (lv_at hl 1 rfl) ?_
      refine lv_iload hx hb dL_law_811 (lv_at hl 5 rfl) ?_
      refine lv_iconst (v := nI 2) hx hb dL_law_813 (by decide) ?_
      refine lv_iadd hx hb dL_law_814 ?_
      refine lv_eqi (v := nI (i + 2)) (nI_add _ _) ?_
      refine va_sld hx hb hXs hbl (Nat.not_le.mpr hbl) hS (vp_in_nI (show i + 2 < L by omega) (by omega)) dL_law_815 ?_
      refine lv_eqi (v := xs (i + 2)) (by rw [nI_clamp (by omega)]) ?_
      have hP := va_P_sw hP
      have hD := va_D_sw hD
      refine mi_frV (C := RX2) (As := [.int (xs (i + 1)), .int (xs (i + 2))]) (rest := []) ⟨hx, hb, hml, hown, hW⟩ (n_grew_no y b0 hk.y12 (xs (i + 1)) (xs (i + 2)) memM _ hX) nE_ok (cwV 2 hW (gV tw_708 tw_709 tw_710 tw_3 tw_711) rfl rfl rfl (by decide +kernel) ⟨Nat.le_of_ble_eq_true rfl, Nat.le_of_ble_eq_true rfl⟩) (va_recv hK hP (ci := 2) (q0 := 0) rfl rfl) hP hD (va_K.sub hK [0, 1, 2] rfl) hS hA trivial rfl hl.1 rfl (Nat.le_of_ble_eq_true rfl) dL_law_816 ⟨hc1, hc2⟩ (fun H locs hP hD hS => ?_)
      have hP := va_P_sw hP
      have hD := va_D_sw hD
      have hP : va_P D vwCl (((wC o ad cI cZ cG (nI t) (nI q) (nI u) (nI y) (pnC pq) (nI n) isw mem) ++ wO oa cJ f) ++ wM om am cI cZ (cdL [nIOB, nIAE] nIOB) (nI t) (nI q) (nI y) (pvC pq) (nI (pq.getD 0)) (nI b0) ptv wy isw oR memM) H := hP
      have hD : va_D (lwA s) (((wC o ad cI cZ cG (nI t) (nI q) (nI u) (nI y) (pnC pq) (nI n) isw mem) ++ wO oa cJ f) ++ wM om am cI cZ (cdL [nIOB, nIAE] nIOB) (nI t) (nI q) (nI y) (pvC pq) (nI (pq.getD 0)) (nI b0) ptv wy isw oR memM) := hD
      refine lv_istore (lv' := [(6, .int (nI 0)), (5, .int (nI 1)), (0, .ref b), (1, .ref (o 0)), (2, .ref (om 0)), (3, .ref oa), (4, .int (nI i))]) hx hb dL_law_819 hl (by decide) rfl (fun ls hl => ?_)
      refine lv_aload_n hx hb dL_law_821 rfl (lv_at hl 4 rfl) ?_
      have hP := va_P_sw hP
      have hD := va_D_sw hD
      refine mi_frV (C := RX2) (As := []) (rest := []) ⟨hx, hb, hml, hown, hW⟩ (n_thrown memM) nE_ok (cwV 0 hW (gV tw_590 tw_591 tw_592 tw_3 tw_593) rfl rfl rfl (by decide +kernel) ⟨Nat.le_of_ble_eq_true rfl, Nat.le_of_ble_eq_true rfl⟩) (va_recv hK hP (ci := 2) (q0 := 0) rfl rfl) hP hD (va_K.sub hK [0, 1, 2] rfl) hS hA trivial rfl hl.1 rfl (Nat.le_of_ble_eq_true rfl) dL_law_822 ⟨hc1, hc2⟩ (fun H locs hP hD hS => ?_)
      have hP := va_P_sw hP
      have hD := va_D_sw hD
      refine lv_eqi (v := nI 1) (by decide +kernel) ?_
      refine lv_iload hx hb dL_law_825 (lv_at hl 1 rfl) ?_
      refine lv_icmp_eq (tgt := 832) hx hb dL_law_827 (by decide) (fun _ => ?_) (fun h9 => absurd rfl h9)
      refine lv_iload hx hb dL_law_832 (lv_at hl 1 rfl) ?_
      refine lv_if_ne (tgt := 856) hx hb dL_law_834 (by decide) (fun _ => ?_) (fun h9 => absurd h9 (by decide))
      refine lv_goto (tgt := 1201) hx hb dL_law_856 (by decide) ?_
      exact kk t q y pq u n b0 isw oR mem memM (cdL [nIOB, nIAE] nIOB) ptv wy f H locs ls _ _ hk hP hD hS (lv_sub hl [2, 3, 4, 5, 6] rfl) (Nat.le_refl _) (Nat.le_refl _)
    · refine lv_aload_n hx hb dL_law_784 rfl (lv_at hl 1 rfl) ?_
      refine lv_aload_n hx hb dL_law_785 rfl (lv_at hl 0 rfl) ?_
      refine lv_iload hx hb dL_law_786 (lv_at hl 4 rfl) ?_
      refine lv_iconst (v := nI 1) hx hb dL_law_788 (by decide) ?_
      refine lv_iadd hx hb dL_law_789 ?_
      refine lv_eqi (v := nI (i + 1)) (nI_add _ _) ?_
      refine va_sld hx hb hXs hbl (Nat.not_le.mpr hbl) hS (vp_in_nI (show i + 1 < L by omega) (by omega)) dL_law_790 ?_
      refine lv_eqi (v := xs (i + 1)) (by rw [nI_clamp (by omega)]) ?_
      refine lv_aload_n hx hb dL_law_791 rfl (lv_at hl 0 rfl) ?_
      refine lv_iload hx hb dL_law_792 (lv_at hl 4 rfl) ?_
      refine lv_iconst (v := nI 2) hx hb dL_law_794 (by decide) ?_
      refine lv_iadd hx hb dL_law_795 ?_
      refine lv_eqi (v := nI (i + 2)) (nI_add _ _) ?_
      refine va_sld hx hb hXs hbl (Nat.not_le.mpr hbl) hS (vp_in_nI (show i + 2 < L by omega) (by omega)) dL_law_796 ?_
      refine lv_eqi (v := xs (i + 2)) (by rw [nI_clamp (by omega)]) ?_
      refine lv_aload_n hx hb dL_law_797 rfl (lv_at hl 3 rfl) ?_
      refine tw_frS (As := [.ref (o 0), .int (xs (i + 1)), .int (xs (i + 2)), .ref oa]) (rest := []) ⟨hx, hb, hml, hown, hW⟩ (w_grew_2 hl0 oa f y n hk.y12 (xs (i + 1)) (xs (i + 2)) mem hk.hm hX) lE_ok (xw_cw 4 hW tw_388 tw_389 tw_0 tw_390 rfl rfl (by decide +kernel) ⟨Nat.le_of_ble_eq_true rfl, Nat.le_of_ble_eq_true rfl⟩) hP hD hK hS hA hT rfl hl.1 rfl (Nat.le_of_ble_eq_true rfl) dL_law_798 ⟨hc1, hc2⟩ (fun H locs hP hD hS => ?_)
      have hP : va_P D vwCl (((wC o ad cI cZ cG (nI t) (nI q) (nI u) (nI y) (pnC pq) (nI n) isw mem) ++ wO oa cJ f) ++ wM om am cI cZ th (nI t) (nI q) (nI y) (pvC pq) (nI (pq.getD 0)) (nI b0) ptv wy isw oR memM) H := hP
      have hD : va_D (lwA s) (((wC o ad cI cZ cG (nI t) (nI q) (nI u) (nI y) (pnC pq) (nI n) isw mem) ++ wO oa cJ f) ++ wM om am cI cZ th (nI t) (nI q) (nI y) (pvC pq) (nI (pq.getD 0)) (nI b0) ptv wy isw oR memM) := hD
      refine lv_istore (lv' := [(5, .int (nI 2)), (0, .ref b), (1, .ref (o 0)), (2, .ref (om 0)), (3, .ref oa), (4, .int (nI i))]) hx hb dL_law_801 hl (by decide) rfl (fun ls hl => ?_)
      refine lv_aload_n hx hb dL_law_803 rfl (lv_at hl 3 rfl) ?_
      refine lv_aload_n hx hb dL_law_804 rfl (lv_at hl 1 rfl) ?_
      refine lv_iload hx hb dL_law_805 (lv_at hl 5 rfl) ?_
      refine lv_iconst (v := nI 1) hx hb dL_law_807 (by decide) ?_
      refine lv_iadd hx hb dL_law_808 ?_
      refine lv_eqi (v := nI (i + 1)) (nI_add _ _) ?_
      refine va_sld hx hb hXs hbl (Nat.not_le.mpr hbl) hS (vp_in_nI (show i + 1 < L by omega) (by omega)) dL_law_809 ?_
      refine lv_eqi (v := xs (i + 1)) (by rw [nI_clamp (by omega)]) ?_
      refine lv_aload_n hx hb dL_law_810 rfl (lv_at hl 1 rfl) ?_
      refine lv_iload hx hb dL_law_811 (lv_at hl 5 rfl) ?_
      refine lv_iconst (v := nI 2) hx hb dL_law_813 (by decide) ?_
      refine lv_iadd hx hb dL_law_814 ?_
      refine lv_eqi (v := nI (i + 2)) (nI_add _ _) ?_
      refine va_sld hx hb hXs hbl (Nat.not_le.mpr hbl) hS (vp_in_nI (show i + 2 < L by omega) (by omega)) dL_law_815 ?_
      refine lv_eqi (v := xs (i + 2)) (by rw [nI_clamp (by omega)]) ?_
      have hP := va_P_sw hP
      have hD := va_D_sw hD
      refine mi_frV (C := RX2) (As := [.int (xs (i + 1)), .int (xs (i + 2))]) (rest := []) ⟨hx, hb, hml, hown, hW⟩ (n_grew_no y b0 hk.y12 (xs (i + 1)) (xs (i + 2)) memM _ hX) nE_ok (cwV 2 hW (gV tw_708 tw_709 tw_710 tw_3 tw_711) rfl rfl rfl (by decide +kernel) ⟨Nat.le_of_ble_eq_true rfl, Nat.le_of_ble_eq_true rfl⟩) (va_recv hK hP (ci := 2) (q0 := 0) rfl rfl) hP hD (va_K.sub hK [0, 1, 2] rfl) hS hA trivial rfl hl.1 rfl (Nat.le_of_ble_eq_true rfl) dL_law_816 ⟨hc1, hc2⟩ (fun H locs hP hD hS => ?_)
      have hP := va_P_sw hP
      have hD := va_D_sw hD
      have hP : va_P D vwCl (((wC o ad cI cZ cG (nI t) (nI q) (nI u) (nI y) (pnC pq) (nI n) isw mem) ++ wO oa cJ f) ++ wM om am cI cZ (cdL [nIOB, nIAE] nIAE) (nI t) (nI q) (nI y) (pvC pq) (nI (pq.getD 0)) (nI b0) ptv wy isw oR memM) H := hP
      have hD : va_D (lwA s) (((wC o ad cI cZ cG (nI t) (nI q) (nI u) (nI y) (pnC pq) (nI n) isw mem) ++ wO oa cJ f) ++ wM om am cI cZ (cdL [nIOB, nIAE] nIAE) (nI t) (nI q) (nI y) (pvC pq) (nI (pq.getD 0)) (nI b0) ptv wy isw oR memM) := hD
      refine lv_istore (lv' := [(6, .int (nI 0)), (5, .int (nI 2)), (0, .ref b), (1, .ref (o 0)), (2, .ref (om 0)), (3, .ref oa), (4, .int (nI i))]) hx hb dL_law_819 hl (by decide) rfl (fun ls hl => ?_)
      refine lv_aload_n hx hb dL_law_821 rfl (lv_at hl 4 rfl) ?_
      have hP := va_P_sw hP
      have hD := va_D_sw hD
      refine mi_frV (C := RX2) (As := []) (rest := []) ⟨hx, hb, hml, hown, hW⟩ (n_thrown memM) nE_ok (cwV 0 hW (gV tw_590 tw_591 tw_592 tw_3 tw_593) rfl rfl rfl (by decide +kernel) ⟨Nat.le_of_ble_eq_true rfl, Nat.le_of_ble_eq_true rfl⟩) (va_recv hK hP (ci := 2) (q0 := 0) rfl rfl) hP hD (va_K.sub hK [0, 1, 2] rfl) hS hA trivial rfl hl.1 rfl (Nat.le_of_ble_eq_true rfl) dL_law_822 ⟨hc1, hc2⟩ (fun H locs hP hD hS => ?_)
      have hP := va_P_sw hP
      have hD := va_D_sw hD
      refine lv_eqi (v := nI 2) (by decide +kernel) ?_
      refine lv_iload hx hb dL_law_825 (lv_at hl 1 rfl) ?_
      refine lv_icmp_eq (tgt := 832) hx hb dL_law_827 (by decide) (fun _ => ?_) (fun h9 => absurd rfl h9)
      refine lv_iload hx hb dL_law_832 (lv_at hl 1 rfl) ?_
      refine lv_if_ne (tgt := 856) hx hb dL_law_834 (by decide) (fun _ => ?_) (fun h9 => absurd h9 (by decide))
      refine lv_goto (tgt := 1201) hx hb dL_law_856 (by decide) ?_
      exact kk t q y pq u n b0 isw oR mem memM (cdL [nIOB, nIAE] nIAE) ptv wy f H locs ls _ _ hk hP hD hS (lv_sub hl [2, 3, 4, 5, 6] rfl) (Nat.le_refl _) (Nat.le_refl _)
