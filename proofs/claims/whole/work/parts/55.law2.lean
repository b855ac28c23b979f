/-! THE LAW'S START, ITS LOOP, ITS END -/
def R_law : String := "ProofLeavesLaw"
def lw_P (b : Addr) (xs : List Int32) (args : Array Value) (s : State) : Prop := args = #[.ref b] ∧ s.IntsAt b xs ∧ xs.length ≤ 3584 ∧ (Jvm.Cond.and given_1 narrow_1).before args s = true
def lw_Q (_ : Array Value) (s : State) (o : Outcome) (t : State) : Prop := o = .returned (some (.int 1)) ∧ Framed s o t [] 601024 7293033
def lw_Z (below : List Frame) (a : Array Value) (s : State) : State → Prop := fun t => ∃ o, t.status = .running ∧ Ended t below o ∧ lw_Q a s o t
/-- the law's own end, with 1 on the stack, nothing written that was there before, its room as the claim has it -/
theorem lw_ret {p : Program} {l : Launch} {e : Env} {s : State} {m : MethodId} {below : List Frame} {meth : Method} {c : Code} {b : Nat} (hx : p.tables.exec = Jvm.exec) (hb : c.code = code) (hr : meth.sig.returnType = ret) (hlocks : meth.locks = false) {pc : Nat} {H : Heap} {ls : Array Slot} (hdg : decode code pc = .ok (.ireturn, 1)) : W p l e room_1 s m #[Value.ref b] below meth c H [] 601024 7293033 (lw_Z below #[Value.ref b] s) (F0 m pc ls [.int 1]) := by
  intro T hT X
  obtain ⟨fs, hret, hrun, hended, hW, hframe⟩ := X.leave (v := some (.int 1)) (hlocks := hlocks) (fun h => by rw [hr] at h; cases h)
  have hmeth' : T.vm.method? m = some meth := X.method'
  refine ⟨T.setFrames fs, ?_, .returned (some (.int 1)), hrun, hended, rfl, ⟨_, rfl⟩, hW, hframe⟩
  jvm_step X.here [X.here.top, hx, hb, hdg, hmeth', hr, ret, narrow_b1]
  (try refine ⟨rfl, ?_⟩); (try refine ⟨rfl, ?_⟩)
  first | (intro acts; rw [hret _ acts rfl rfl rfl]) | rw [hret _ _ rfl rfl rfl]
  exact Steps.refl _
/-- what holds at the law's entry: the machine, the code, the tables' words (any of lw_tbl by 'hts w (by decide +kernel)'), the script of L ints xs at the cell b, what the Statement gives of the start (any of its parts by flat_of_before) -/
def lw_At (p : Program) (s : State) (m : MethodId) (meth : Method) (c : Code) (b L : Nat) (xs : Nat → Int32) : Prop :=
  p.tables.exec = Jvm.exec ∧ c.code = code ∧ meth.sig.returnType = ret ∧ c.maxLocals = 7 ∧ s.vm.findClass R_law = some m.cls ∧ (∀ w ∈ lw_tbl, w.before #[Value.ref b] s = true) ∧ va_X b L xs s s.heap ∧ b < s.heap.size ∧ meth.locks = false ∧ (Jvm.Cond.and given_1 narrow_1).before #[Value.ref b] s = true
theorem lw_flag {l : Launch} (h : l.flags = flags0) : l.stackTraces = false := by
  unfold Launch.stackTraces
  rw [h]
  decide +kernel
theorem eq_intT {args : Array Value} {s : State} {tm : Term} {z : Int32} (h : (Cond.eq tm (.int z)).before args s = true) : tm.eval args s none [] s = some (.int z) := by
  cases hv : tm.eval args s none [] s with
  | none => simp [Cond.before, Cond.holds, Cond.value, hv] at h
  | some w =>
    have hz : (Term.int z).eval args s none [] s = some (.int z) := rfl
    simp only [Cond.before, Cond.holds, Cond.value, hv, hz] at h
    cases w <;> simp_all
theorem xL_of {args : Array Value} {s : State} {C n d : String} {A : Nat → Prop} (hl : (Cond.laysStatic C n d).before args s = true) (hr : (Cond.isRef (.static C n d)).before args s = true) (hA : ∀ a : Nat, a < s.heap.size → ¬ A a) : xL C n d A s s.heap := by
  obtain ⟨c, k, i, f, a, cell, hc, hi, hst, ha, hcell, hs, hcls, hlt, hty⟩ := Cond.laysStatic_spec hl
  obtain ⟨v, hv, hvr⟩ := Cond.isRef_spec hr
  obtain ⟨hst', a', cell', ha', hcell', -, hslot⟩ := Term.static_spec hi hv
  cases ha.symm.trans ha'
  cases hcell.symm.trans hcell'
  exact ⟨c, k, i, f, a, cell, v, hc, hi, hst, ha, hcell, hs, hcls, hlt, hty, hslot, hvr, hA a (Array.getElem?_eq_some_iff.mp hcell).1⟩
theorem str_any {own tx : String} {k : Nat} {args args' : Array Value} {s : State} (h : (Cond.stringRef own k tx).before args s = true) : (Cond.stringRef own k tx).before args' s = true := by
  simp only [Cond.before, Cond.holds, Cond.value] at h ⊢
  exact h
theorem dec_any {x : MethodName} {args args' : Array Value} {s : State} (h : (Cond.declares x).before args s = true) : (Cond.declares x).before args' s = true := by
  simp only [Cond.before, Cond.holds, Cond.value] at h ⊢
  exact h
theorem aov_any {ty : FieldType} {args args' : Array Value} {s : State} (h : (Cond.arrayOver ty).before args s = true) : (Cond.arrayOver ty).before args' s = true := by
  simp only [Cond.before, Cond.holds, Cond.value] at h ⊢
  exact h
theorem nc_any {a b : String} {args args' : Array Value} {s : State} (h : (Cond.not (.castable a b)).before args s = true) : (Cond.not (.castable a b)).before args' s = true := by
  simp only [Cond.before, Cond.holds, Cond.value] at h ⊢
  exact h
theorem thL_in : ∀ w ∈ thL, w ∈ lw_tbl := by decide +kernel
theorem ncL_in : ∀ w ∈ ncL, w ∈ flatC (Jvm.Cond.and given_1 narrow_1) := by decide +kernel
theorem thL_any {args args' : Array Value} {s : State} : ∀ w ∈ thL, w.before args s = true → w.before args' s = true := by
  intro w hw
  simp only [thL, List.mem_cons, List.not_mem_nil, or_false] at hw
  rcases hw with rfl | rfl | rfl | rfl | rfl | rfl | rfl | rfl | rfl | rfl | rfl | rfl | rfl | rfl | rfl | rfl | rfl | rfl | rfl | rfl | rfl | rfl | rfl | rfl
  · intro h; exact va_any rfl h
  · intro h; exact str_any h
  · intro h; exact va_any rfl h
  · intro h; exact str_any h
  · intro h; exact str_any h
  · intro h; exact str_any h
  · intro h; exact va_any rfl h
  · intro h; exact str_any h
  · intro h; exact str_any h
  · intro h; exact str_any h
  · intro h; exact va_any rfl h
  · intro h; exact str_any h
  · intro h; exact str_any h
  · intro h; exact str_any h
  · intro h; exact str_any h
  · intro h; exact str_any h
  · intro h; exact str_any h
  · intro h; exact str_any h
  · intro h; exact str_any h
  · intro h; exact str_any h
  · intro h; exact dec_any h
  · intro h; exact dec_any h
  · intro h; exact dec_any h
  · intro h; exact aov_any h
theorem ncL_any {args args' : Array Value} {s : State} : ∀ w ∈ ncL, w.before args s = true → w.before args' s = true := by
  intro w hw h
  simp only [ncL, List.mem_cons, List.not_mem_nil, or_false] at hw
  rcases hw with rfl | rfl | rfl | rfl | rfl | rfl | rfl | rfl | rfl | rfl | rfl | rfl <;> exact nc_any h
theorem first_in : ∀ j, j < 8 → Cond.eq (.elem (.static RX0 "FIRST_STATE" "[I") (.int (Int32.ofNat j))) (.int (h0 j)) ∈ flatC (Jvm.Cond.and given_1 narrow_1) := by decide +kernel
theorem round_in : ∀ j, j < 64 → Cond.eq (.elem (.static RX0 "ROUND_CONSTANTS" "[I") (.int (Int32.ofNat j))) (.int (kc j)) ∈ flatC (Jvm.Cond.and given_1 narrow_1) := by decide +kernel
/-- the start: the tables, the sentinels, the words -/
theorem lw_gE {s : State} {b : Nat} (hts : ∀ w ∈ lw_tbl, w.before #[Value.ref b] s = true) (hgv : (Jvm.Cond.and given_1 narrow_1).before #[Value.ref b] s = true) : lE (lwA s) s s.heap := by
  have hs := flat_of_before _ hgv
  have hA : ∀ a : Nat, a < s.heap.size → ¬ lwA s a := fun a h => Nat.not_le.mpr h
  obtain ⟨t1, e1, T1⟩ := va_Tof (A := lwA s) (tm := .static RX0 "FIRST_STATE" "[I") (ty := .int) (N := 8) (f := fun j => .int (h0 j)) (by decide) (hs (.arrayOf (.static RX0 "FIRST_STATE" "[I") .int) (by decide +kernel)) (eq_intT (hs (.eq (.length (.static RX0 "FIRST_STATE" "[I")) (.int (Int32.ofNat 8))) (by decide +kernel))) (fun j hj => eq_intT (hs _ (first_in j hj))) hA
  obtain ⟨t2, e2, T2⟩ := va_Tof (A := lwA s) (tm := .static RX0 "ROUND_CONSTANTS" "[I") (ty := .int) (N := 64) (f := fun j => .int (kc j)) (by decide) (hs (.arrayOf (.static RX0 "ROUND_CONSTANTS" "[I") .int) (by decide +kernel)) (eq_intT (hs (.eq (.length (.static RX0 "ROUND_CONSTANTS" "[I")) (.int (Int32.ofNat 64))) (by decide +kernel))) (fun j hj => eq_intT (hs _ (round_in j hj))) hA
  have i0 := hts (.initialized RX0) (by decide +kernel)
  refine ⟨⟨⟨t1, t2, va_Zof (hts (.laysStatic RX0 "FIRST_STATE" "[I") (by decide +kernel)) i0 e1 hA, T1, va_Zof (hts (.laysStatic RX0 "ROUND_CONSTANTS" "[I") (by decide +kernel)) i0 e2 hA, T2⟩, ?_, ?_, fun w hw => thL_any w hw (hts w (thL_in w hw))⟩, fun w hw => ncL_any w hw (hs w (ncL_in w hw))⟩
  · exact xL_of (hts (.laysStatic Bundle.tN "UNASSIGNED_STACK" Bundle.steD) (by decide +kernel)) (hs (.isRef (.static Bundle.tN "UNASSIGNED_STACK" Bundle.steD)) (by decide +kernel)) hA
  · exact xL_of (hts (.laysStatic Bundle.tN "SUPPRESSED_SENTINEL" Bundle.listD) (by decide +kernel)) (hs (.isRef (.static Bundle.tN "SUPPRESSED_SENTINEL" Bundle.listD)) (by decide +kernel)) hA
theorem lw_arr {s : State} {args : Array Value} {ty : FieldType} (h : (Cond.arrayClass ty).before args s = true) (hn : ∀ C, ty ≠ .object C) : ∃ cA : ClassId, ArrOfT s cA ty ∧ va_RA s cA ty := by
  obtain ⟨cA, kA, comp, h1, h2, h3⟩ := Cond.arrayClass_spec h
  refine ⟨cA, fun n z => ⟨fun k h => (by cases h), kA, h2, comp, h3⟩, ?_⟩
  cases ty with
  | object C => exact absurd rfl (hn C)
  | _ => exact h1
theorem lw_arr2 {s : State} {args : Array Value} (h : (Cond.arrayOver (.array .int)).before args s = true) : ∃ cA : ClassId, ArrOfT s cA (.array .int) ∧ va_RA s cA (.array .int) := by
  obtain ⟨comp, cA, kA, h1, h2, h3, h4⟩ := og_over h
  exact ⟨cA, fun n z => ⟨fun k h => (by cases h), kA, h2, comp, h3⟩, h4⟩
theorem lw_hW {s : State} {b : Nat} (hts : ∀ w ∈ lw_tbl, w.before #[Value.ref b] s = true) : ∀ w ∈ tW, w.before #[Value.ref b] s = true := fun w h => hts w (List.mem_filter.mp h).1
theorem lw_K {s : State} {b : Nat} (hts : ∀ w ∈ lw_tbl, w.before #[Value.ref b] s = true) : ∃ (D : va_G) (cI cZ cG cJ : ClassId), va_K D vwCl (tL cI cZ cG cJ) s := by
  have hW := lw_hW hts
  obtain ⟨c0, iS0, k0⟩ := u_known (C := RX1) (T := TX1) (N := 14) (n := 14) hW iPL (hW _ tw_15)
  obtain ⟨c1, iS1, k1⟩ := u_known (C := RX0) (T := TX0) (N := 4) (n := 4) hW iSH (hW _ tw_23)
  obtain ⟨c2, iS2, k2⟩ := u_known (C := RX2) (T := TX2) (N := 25) (n := 25) hW iMD (hW _ tw_445)
  obtain ⟨cI, aI⟩ := lw_arr (hW _ tw_41) (fun C h => by cases h)
  obtain ⟨cZ, aZ⟩ := lw_arr (hW _ tw_87) (fun C h => by cases h)
  obtain ⟨cJ, aJ⟩ := lw_arr (hW _ tw_733) (fun C h => by cases h)
  obtain ⟨cG, aG⟩ := lw_arr2 (hts (.arrayOver (.array .int)) (by decide +kernel))
  refine ⟨(fun k => if k = 0 then c0 else if k = 1 then c1 else c2, fun k => if k = 0 then iS0 else if k = 1 then iS1 else iS2), cI, cZ, cG, cJ, ?_, ?_⟩
  · intro k q hq
    match k, hq with
    | 0, hq => cases hq; exact k0
    | 1, hq => cases hq; exact k1
    | 2, hq => cases hq; exact k2
    | k + 3, hq => simp [vwCl] at hq
  · intro k q hq
    match k, hq with
    | 0, hq => cases hq; exact aI
    | 1, hq => cases hq; exact aZ
    | 2, hq => cases hq; exact aG
    | 3, hq => cases hq; exact aJ
    | k + 4, hq => simp at hq
theorem and_15 (x : Int32) : ∃ k, k < 16 ∧ x &&& nI 15 = nI k := by
  refine ⟨(x &&& nI 15).toBitVec.toNat, ?_, ?_⟩
  · show (x.toBitVec &&& (nI 15).toBitVec).toNat < 16
    rw [BitVec.toNat_and]
    exact Nat.lt_of_le_of_lt Nat.and_le_right (by decide)
  · apply Int32.toBitVec_inj.1
    show _ = BitVec.ofNat 32 _
    simp
set_option maxHeartbeats 800000 in
set_option maxRecDepth 100000 in
/-- one turn: the switch -/
theorem law_turn {p : Program} {l : Launch} {e : Env} {s : State} {m : MethodId} {below : List Frame} {meth : Method} {c : Code} {b L i cells slots : Nat} {xs : Nat → Int32} {D : va_G} {o ad om am : Nat → Nat} {oa : Nat} {cI cZ cG cJ : ClassId} {Q : State → Prop} {t q y u n b0 : Nat} {pq : Option Nat} {isw oR : Nat → Int32} {mem memM : xMem} {th ptv wy : Int32} {f : Nat → Int64} {H : Heap} {locs : List Loc} {ls : Array Slot} (hC : lawX p l s m meth c b L xs D cI cZ cG cJ) (hk : LK t q y pq u isw mem memM) (hP : va_P D vwCl (lwW o ad om am oa cI cZ cG cJ t q y pq u n b0 isw oR mem memM th ptv wy f) H) (hD : va_D (lwA s) (lwW o ad om am oa cI cZ cG cJ t q y pq u n b0 isw oR mem memM th ptv wy f)) (hS : va_S (lwA s) s.heap H locs) (hl : lv_has ls 7 [(0, .ref b), (1, .ref (o 0)), (2, .ref (om 0)), (3, .ref oa), (4, .int (nI i))]) (hi : i + 7 ≤ L) (hc1 : cells + 3 ≤ 601024) (hc2 : slots + 18 ≤ 7293033) (kk : lawK p l e s m below meth c b Q D o ad om am oa cI cZ cG cJ i cells slots) : W p l e room_1 s m #[Value.ref b] below meth c H locs cells slots Q (F0 m 33 ls []) := by
  obtain ⟨hx, hb, hml, hown, hW, hXs, hbl, hK, hT, hl0, hL⟩ := id hC
  refine lv_aload_n hx hb dL_law_33 rfl (lv_at hl 0 rfl) ?_
  refine lv_iload hx hb dL_law_34 (lv_at hl 4 rfl) ?_
  refine va_sld hx hb hXs hbl (Nat.not_le.mpr hbl) hS (vp_in_nI (show i < L by omega) (by omega)) dL_law_36 ?_
  refine lv_bipush (v := nI 15) hx hb dL_law_37 (by decide) ?_
  refine lv_iand hx hb dL_law_39 ?_
  obtain ⟨k, hk16, ek⟩ := and_15 (xs (nI i).toNatClampNeg)
  refine lv_eqi (v := nI k) ek ?_
  have : k = 0 ∨ k = 1 ∨ k = 2 ∨ k = 3 ∨ k = 4 ∨ k = 5 ∨ k = 6 ∨ k = 7 ∨ k = 8 ∨ k = 9 ∨ k = 10 ∨ k = 11 ∨ k = 12 ∨ k = 13 ∨ k = 14 ∨ k = 15 := by omega
  rcases this with rfl | rfl | rfl | rfl | rfl | rfl | rfl | rfl | rfl | rfl | rfl | rfl | rfl | rfl | rfl | rfl
  · exact lv_tableIn (off := 76) (tgt := 116) hx hb dL_law_40 (by decide) (by decide) (by decide +kernel) (by decide) (law_feed hC hk hP hD hS hl hi hc1 hc2 kk)
  · exact lv_tableIn (off := 176) (tgt := 216) hx hb dL_law_40 (by decide) (by decide) (by decide +kernel) (by decide) (law_leaf hC hk hP hD hS hl hi hc1 hc2 kk)
  · exact lv_tableIn (off := 220) (tgt := 260) hx hb dL_law_40 (by decide) (by decide) (by decide +kernel) (by decide) (law_close hC hk hP hD hS hl hi hc1 hc2 kk)
  · exact lv_tableIn (off := 264) (tgt := 304) hx hb dL_law_40 (by decide) (by decide) (by decide +kernel) (by decide) (law_root hC hk hP hD hS hl hi hc1 hc2 kk)
  · exact lv_tableIn (off := 332) (tgt := 372) hx hb dL_law_40 (by decide) (by decide) (by decide +kernel) (by decide) (law_digest hC hk hP hD hS hl hi hc1 hc2 kk)
  · exact lv_tableIn (off := 400) (tgt := 440) hx hb dL_law_40 (by decide) (by decide) (by decide +kernel) (by decide) (law_count hC hk hP hD hS hl hi hc1 hc2 kk)
  · exact lv_tableIn (off := 456) (tgt := 496) hx hb dL_law_40 (by decide) (by decide) (by decide +kernel) (by decide) (law_prove hC hk hP hD hS hl hi hc1 hc2 kk)
  · exact lv_tableIn (off := 524) (tgt := 564) hx hb dL_law_40 (by decide) (by decide) (by decide +kernel) (by decide) (law_proof hC hk hP hD hS hl hi hc1 hc2 kk)
  · exact lv_tableIn (off := 592) (tgt := 632) hx hb dL_law_40 (by decide) (by decide) (by decide +kernel) (by decide) (law_bend hC hk hP hD hS hl hi hc1 hc2 kk)
  · exact lv_tableIn (off := 652) (tgt := 692) hx hb dL_law_40 (by decide) (by decide) (by decide +kernel) (by decide) (law_check hC hk hP hD hS hl hi hc1 hc2 kk)
  · exact lv_tableIn (off := 744) (tgt := 784) hx hb dL_law_40 (by decide) (by decide) (by decide +kernel) (by decide) (law_grew hC hk hP hD hS hl hi hc1 hc2 kk)
  · exact lv_tableIn (off := 819) (tgt := 859) hx hb dL_law_40 (by decide) (by decide) (by decide +kernel) (by decide) (law_withdraw hC hk hP hD hS hl hi hc1 hc2 kk)
  · exact lv_tableIn (off := 875) (tgt := 915) hx hb dL_law_40 (by decide) (by decide) (by decide +kernel) (by decide) (law_absence hC hk hP hD hS hl hi hc1 hc2 kk)
  · exact lv_tableIn (off := 943) (tgt := 983) hx hb dL_law_40 (by decide) (by decide) (by decide +kernel) (by decide) (law_mark hC hk hP hD hS hl hi hc1 hc2 kk)
  · exact lv_tableIn (off := 1101) (tgt := 1141) hx hb dL_law_40 (by decide) (by decide) (by decide +kernel) (by decide) (law_poke hC hk hP hD hS hl hi hc1 hc2 kk)
  · exact lv_tableOut (tgt := 1201) hx hb dL_law_40 (by decide) (by decide) (kk t q y pq u n b0 isw oR mem memM th ptv wy f H locs ls _ _ hk hP hD hS hl (Nat.le_add_right _ _) (Nat.le_add_right _ _))
theorem sub7_neg : ∀ k, k < 7 → nI k - nI 7 < 0 := by decide +kernel
theorem past {i L : Nat} (h : ¬ i + 7 ≤ L) (hi : i ≤ 4000) (hL : L ≤ 3584) : ¬ nI i ≤ nI L - nI 7 := by
  rcases Nat.lt_or_ge L 7 with h7 | h7
  · intro H
    exact absurd (Int32.lt_of_le_of_lt H (sub7_neg L h7)) (nI_pos (by omega))
  · rw [pk_sub h7]
    exact Int32.not_le.mpr (nI_lt (by omega) (by omega))
theorem notpast {i L : Nat} (h : i + 7 ≤ L) (hL : L ≤ 3584) : ¬ nI L - nI 7 < nI i := by
  rw [pk_sub (by omega)]
  exact nI_nlt (by omega) (by omega)
set_option maxHeartbeats 800000 in
set_option maxRecDepth 100000 in
/-- the loop: r turns at most are left -/
theorem law_loop {p : Program} {l : Launch} {e : Env} {s : State} {m : MethodId} {below : List Frame} {meth : Method} {c : Code} {b L : Nat} {xs : Nat → Int32} {D : va_G} {o ad om am : Nat → Nat} {oa : Nat} {cI cZ cG cJ : ClassId} (hC : lawX p l s m meth c b L xs D cI cZ cG cJ) (hr : meth.sig.returnType = ret) (hlk : meth.locks = false) : ∀ (r i cells slots : Nat) (t q y u n b0 : Nat) (pq : Option Nat) (isw oR : Nat → Int32) (mem memM : xMem) (th ptv wy : Int32) (f : Nat → Int64) (H : Heap) (locs : List Loc) (ls : Array Slot), L < i + 7 * r → i ≤ L + 7 → cells ≤ 200 + i → slots ≤ 9000 + 3 * i → LK t q y pq u isw mem memM → va_P D vwCl (lwW o ad om am oa cI cZ cG cJ t q y pq u n b0 isw oR mem memM th ptv wy f) H → va_D (lwA s) (lwW o ad om am oa cI cZ cG cJ t q y pq u n b0 isw oR mem memM th ptv wy f) → va_S (lwA s) s.heap H locs → lv_has ls 7 [(0, .ref b), (1, .ref (o 0)), (2, .ref (om 0)), (3, .ref oa), (4, .int (nI i))] → W p l e room_1 s m #[Value.ref b] below meth c H locs cells slots (lw_Z below #[Value.ref b] s) (F0 m 23 ls [])
  | r, i, cells, slots, t, q, y, u, n, b0, pq, isw, oR, mem, memM, th, ptv, wy, f, H, locs, ls, hr7, hiL, hc, hsl, hk, hP, hD, hS, hl => by
    obtain ⟨hx, hb, hml, hown, hW, hXs, hbl, hK, hT, hl0, hL⟩ := id hC
    refine lv_iload hx hb dL_law_23 (lv_at hl 4 rfl) ?_
    refine lv_aload_n hx hb dL_law_25 rfl (lv_at hl 0 rfl) ?_
    refine va_slen hx hb hXs hbl (Nat.not_le.mpr hbl) hS dL_law_26 ?_
    refine lv_bipush (v := nI 7) hx hb dL_law_27 (by decide) ?_
    refine lv_isub hx hb dL_law_29 ?_
    refine lv_eqi (v := nI L - nI 7) rfl ?_
    by_cases hcont : i + 7 ≤ L
    · refine lv_icmp_gt (tgt := 1207) hx hb dL_law_30 (by decide) (fun h9 => absurd h9 (notpast hcont hL)) (fun _ => ?_)
      match r, hr7 with
      | 0, hr7 => exact absurd hr7 (by omega)
      | r + 1, hr7 =>
        refine law_turn hC hk hP hD hS hl hcont (by omega) (by omega) ?_
        intro t q y pq u n b0 isw oR mem memM th ptv wy f H locs ls cells2 slots2 hk hP hD hS hl hc2 hs2
        refine lv_iinc (v := nI (i + 7)) (lv' := [(4, .int (nI (i + 7))), (0, .ref b), (1, .ref (o 0)), (2, .ref (om 0)), (3, .ref oa)]) hx hb dL_law_1201 hl (k := 4) rfl (nI_add i 7) (by decide) rfl (fun ls hl => ?_)
        refine lv_goto (tgt := 23) hx hb dL_law_1204 (by decide) ?_
        exact law_loop hC hr hlk r (i + 7) cells2 slots2 t q y u n b0 pq isw oR mem memM th ptv wy f H locs ls (by omega) (by omega) (by omega) (by omega) hk hP hD hS (lv_sub hl [1, 2, 3, 4, 0] rfl)
    · refine lv_icmp_gt (tgt := 1207) hx hb dL_law_30 (by decide) (fun _ => ?_) (fun h9 => absurd (Int32.not_lt.mp h9) (past hcont (by omega) hL))
      refine va_forget (fun q hq => hS.2.2 q hq) ?_
      refine W.widen (k := 601024) (n := 7293033) (by omega) (by omega) ?_
      refine lv_iconst (v := 1) hx hb dL_law_1207 (by decide) ?_
      exact lw_ret hx hb hr hlk dL_law_1208
set_option maxHeartbeats 800000 in
set_option maxRecDepth 100000 in
theorem whole_start {p : Program} {e : Env} {s : State} {m : MethodId} {below : List Frame} {meth : Method} {c : Code} (l : Launch) (hl0 : l.stackTraces = false) {b L : Nat} {xs : Nat → Int32} (hL : L ≤ 3584) (C0 : lw_At p s m meth c b L xs) : W p l e room_1 s m #[Value.ref b] below meth c s.heap [] 0 0 (lw_Z below #[Value.ref b] s) (entryFrame m ([Value.ref b] : List Value).toArray 7) := by
  obtain ⟨hx, hb, hr, hml, hown, hts, hXs, hbl, hlk, hgv⟩ := C0
  have hown : s.vm.findClass RL = some m.cls := hown
  have hA : ∀ q : Nat, s.heap.size ≤ q → lwA s q := fun _ h => h
  have hW := lw_hW hts
  have hT := lw_gE hts hgv
  obtain ⟨D, cI, cZ, cG, cJ, hK⟩ := lw_K hts
  have hC : lawX p l s m meth c b L xs D cI cZ cG cJ := ⟨hx, hb, hml, hown, hW, hXs, hbl, hK, hT, hl0, hL⟩
  have hK3 : va_K D vwCl (tC cI cZ cG) s := va_K.sub hK [0, 1, 2] rfl
  have hS : va_S (lwA s) s.heap s.heap [] := va_S.rf
  have hP : va_P D vwCl [] s.heap := fun k q h => by simp at h
  have hD : va_D (lwA s) [] := ⟨fun i j p q h => by simp at h, fun k q h => by simp at h⟩
  have hl := lv_entry ([.ref b]) (n := 7) (Nat.le_of_ble_eq_true rfl)
  rw [lg_entry_eq]
  generalize (lg_sl ([.ref b]) ++ List.replicate (7 - (lg_sl ([.ref b])).length) Slot.unset).toArray = ls at hl ⊢
  have hl : lv_has ls 7 [(0, .ref b)] := hl
  refine va_new (D := D) (ci := 0) (C := RX1) (T := TX1) (N := 14) (own := RL) (fs := [.null, .null, .int 0, .null, .null, .int 0, .int 0, .null, .null, .int 0, .null, .int 0, .null, .null]) hx hb hW iPL tyX1 tyX1_ok hown (hW _ tw_14) (hW _ tw_15) (hW _ tw_1) hK hP hD hS hA rfl (by decide +kernel) (Nat.le_of_ble_eq_true rfl) (Nat.le_of_ble_eq_true rfl) dL_law_0 (fun a1 H hP hD hS => ?_)
  have hP : va_P D vwCl ([(a1, .inr (0, [.null, .null, .int 0, .null, .null, .int 0, .int 0, .null, .null, .int 0, .null, .int 0, .null, .null]))] ++ []) H := hP
  have hD : va_D (lwA s) ([(a1, .inr (0, [.null, .null, .int 0, .null, .null, .int 0, .int 0, .null, .null, .int 0, .null, .int 0, .null, .null]))] ++ []) := hD
  refine lv_dup hx hb dL_law_3 rfl ?_
  refine mk_frI (As := []) (rest := [.ref a1]) (wr := []) ⟨hx, hb, hml, hown, hW⟩ (c_pl_init a1) gE_ok (cwI 0 hW (gI tw_18) rfl rfl rfl (hW _ tw_1) (hW _ tw_16) (hW _ tw_17) rfl (by decide +kernel) ⟨Nat.le_of_ble_eq_true rfl, Nat.le_of_ble_eq_true rfl⟩) hP hD hK3 hS hA hT.1 rfl hl.1 rfl (Nat.le_of_ble_eq_true rfl) dL_law_4 ⟨Nat.le_of_ble_eq_true rfl, Nat.le_of_ble_eq_true rfl⟩ (fun u H locs hu hP hD hS => ?_)
  refine lv_astore_n (lv' := [(1, .ref a1), (0, .ref b)]) hx hb dL_law_7 rfl hl (by decide) rfl (fun ls hl => ?_)
  have hP : va_P D vwCl ((wC u.1 u.2 cI cZ cG (nI 0) (nI 0) (nI 0) (nI 0) (-1) (nI 0) (fun _ => 0) (fun _ _ => 0)) ++ []) H := hP
  rw [List.append_nil] at hP hD
  refine va_new (D := D) (ci := 2) (C := RX2) (T := TX2) (N := 25) (own := RL) (fs := [.int 0, .int 0, .null, .int 0, .null, .null, .int 0, .null, .null, .int 0, .int 0, .null, .int 0, .null, .null, .null, .null, .int 0, .null, .null, .int 0, .null, .null, .null, .null]) hx hb hW iMD tyX2 tyX2_ok hown (hW _ tw_444) (hW _ tw_445) (hW _ tw_3) hK hP hD hS hA rfl (by decide +kernel) (Nat.le_of_ble_eq_true rfl) (Nat.le_of_ble_eq_true rfl) dL_law_8 (fun a2 H hP hD hS => ?_)
  have hP := va_P_sw hP
  have hD := va_D_sw hD
  refine lv_dup hx hb dL_law_11 rfl ?_
  refine mk_frI (As := []) (rest := [.ref a2]) ⟨hx, hb, hml, hown, hW⟩ (c_md_init a2) nE_ok (cwI 0 hW (gI tw_448) rfl rfl rfl (hW _ tw_3) (hW _ tw_446) (hW _ tw_447) rfl (by decide +kernel) ⟨Nat.le_of_ble_eq_true rfl, Nat.le_of_ble_eq_true rfl⟩) hP hD hK3 hS hA trivial rfl hl.1 rfl (Nat.le_of_ble_eq_true rfl) dL_law_12 ⟨Nat.le_of_ble_eq_true rfl, Nat.le_of_ble_eq_true rfl⟩ (fun v H locs hv hP hD hS => ?_)
  refine lv_astore_n (lv' := [(2, .ref a2), (1, .ref a1), (0, .ref b)]) hx hb dL_law_15 rfl hl (by decide) rfl (fun ls hl => ?_)
  refine lv_iconst (v := nI 1) hx hb dL_law_16 (by decide) ?_
  refine z_newa (atype := .long) (cA := cJ) (N' := 1) (a0 := (1, .inr (.inl (fun _ => 0)))) hx hb (hW _ tw_733) (hK.2 3 _ rfl).2 hP hD hS hA rfl (by decide) (by decide) (by decide) (Nat.le_of_ble_eq_true rfl) (Nat.le_of_ble_eq_true rfl) dL_law_17 (fun oa H hP hD hS => ?_)
  refine lv_astore_n (lv' := [(3, .ref oa), (2, .ref a2), (1, .ref a1), (0, .ref b)]) hx hb dL_law_19 rfl hl (by decide) rfl (fun ls hl => ?_)
  refine lv_iconst (v := nI 0) hx hb dL_law_20 (by decide) ?_
  refine lv_istore (lv' := [(4, .int (nI 0)), (3, .ref oa), (2, .ref a2), (1, .ref a1), (0, .ref b)]) hx hb dL_law_21 hl (by decide) rfl (fun ls hl => ?_)
  have hP : va_P D vwCl ((wM v.1 v.2 cI cZ (nI 0) (nI 0) (nI 0) (nI 0) (nI 0) (nI 0) (nI 0) (nI 0) (nI 0) (fun _ => 0) (fun _ => 0) mZ ++ wC u.1 u.2 cI cZ cG (nI 0) (nI 0) (nI 0) (nI 0) (-1) (nI 0) (fun _ => 0) (fun _ _ => 0)) ++ wO oa cJ (fun _ => 0)) H := hP
  have hD : va_D (lwA s) ((wM v.1 v.2 cI cZ (nI 0) (nI 0) (nI 0) (nI 0) (nI 0) (nI 0) (nI 0) (nI 0) (nI 0) (fun _ => 0) (fun _ => 0) mZ ++ wC u.1 u.2 cI cZ cG (nI 0) (nI 0) (nI 0) (nI 0) (-1) (nI 0) (fun _ => 0) (fun _ _ => 0)) ++ wO oa cJ (fun _ => 0)) := hD
  have hP := va_P_sw (va_P_as hP)
  have hD := va_D_sw (va_D_as hD)
  have hu : u.1 0 = a1 := hu
  have hv : v.1 0 = a2 := hv
  have hl : lv_has ls 7 [(0, .ref b), (1, .ref (u.1 0)), (2, .ref (v.1 0)), (3, .ref oa), (4, .int (nI 0))] := by rw [hu, hv]; exact lv_sub hl [4, 3, 2, 1, 0] rfl
  exact law_loop (o := u.1) (ad := u.2) (om := v.1) (am := v.2) (oa := oa) hC hr hlk (L + 1) 0 _ _ 0 0 0 0 0 0 none (fun _ => 0) (fun _ => 0) (fun _ _ => 0) mZ (nI 0) (nI 0) (nI 0) (fun _ => 0) H _ ls (by omega) (by omega) (by decide) (by decide) LK.init hP hD hS hl
set_option maxHeartbeats 4000000 in
theorem lw_walk (l : Launch) (hl0 : l.stackTraces = false) (b : Addr) (xs : List Int32) : MetFree l x (headSpec (Jvm.Cond.code x code maxLocals ret :: tables_1) room_1) (lw_P b xs) (fun _ _ _ _ _ => True) lw_Q := by
  refine MetFree.of_bodyS (code := code) (maxLocals := maxLocals) (ret := ret) (by decide) ?_ ?_
  · intro args s m h hn
    obtain ⟨meth, c, h1, h2, h3, h4, h5, h6, -, -⟩ := Cond.code_spec hn (atoms_spec (ws := Jvm.Cond.code x code maxLocals ret :: tables_1) h _ List.mem_cons_self)
    exact ⟨meth, c, h1, h2, h3, h4, h5, h6⟩
  · intro p e s m args below meth c s₁ B hml0 hP _
    obtain ⟨rfl, hx, hbd, hgv⟩ := hP
    obtain ⟨scr, harrAt, hlist, hof, hsmall⟩ := hx
    obtain ⟨hcb, hkn, -, -⟩ := State.arrayAt?_spec harrAt
    have hown : s.vm.findClass R_law = some m.cls := findClass_of_methodNamed B.named
    have hts0 : ∀ c ∈ (Jvm.Cond.code x code maxLocals ret :: tables_1), c.before #[Value.ref b] s = true := atoms_spec (ws := Jvm.Cond.code x code maxLocals ret :: tables_1) B.pre
    have hts : ∀ w ∈ lw_tbl, w.before #[Value.ref b] s = true := k2_hts_sels lw_privs (fun w hw => hts0 w (List.mem_cons_of_mem _ hw)) lw_privs_ok
    have hml : c.maxLocals = 7 := B.maxLocals_eq (hts0 _ List.mem_cons_self)
    have X₀ : Stand p l e room_1 s m #[Value.ref b] below meth c s₁ [] 0 0 := Stand.of_body B
    have hh0 : s₁.heap = s.heap := by rw [B.state]; rfl
    have hsz : scr.slots.size = xs.length := by rw [← Array.length_toList, hlist, List.length_map]
    have hval : ∀ j : Nat, j < xs.length → scr.slots[j]? = some (.int (xs.getD j 0)) := fun j hj => by
      rw [← Array.getElem?_toList, hlist]
      simp [hj]
    have hbl : b < s.heap.size := (Array.getElem?_eq_some_iff.mp hcb).1
    have hX : va_X b xs.length (fun j => xs.getD j 0) s s.heap := ⟨scr, hcb, hof, hkn, hsz, hval⟩
    have K : W p l e room_1 s m #[Value.ref b] below meth c s₁.heap [] 0 0 (lw_Z below #[Value.ref b] s) (entryFrame m ([Value.ref b] : List Value).toArray 7) := by
      rw [hh0]
      exact whole_start l hl0 hbd ⟨B.exec, B.bytes, B.returns, hml, hown, hts, hX, hbl, B.notSynchronized, hgv⟩
    obtain ⟨t, a1, o, b1, b2, b3⟩ := K s₁ rfl X₀
    exact ⟨t, o, a1, b1, b2, b3⟩
theorem lw_pre_spec {args : Array Value} {s : State} (h : (Jvm.Cond.and given_1 narrow_1).before args s = true) (hr : rest_1_c.before args s = true) : ∃ (b : Addr) (xs : List Int32), lw_P b xs args s := by
  have hs := flat_of_before _ h
  have hq := flat_of_before _ hr
  have hc : (Cond.count 1).before args s = true := hs _ (by decide +kernel)
  have harr : (Cond.arrayOf (.arg 0) .int).before args s = true := hs _ (by decide +kernel)
  have hle : (Cond.le (.length (.arg 0)) (.int 3584)).before args s = true := hs _ (by decide +kernel)
  have hlen : (Cond.isInt (.length (.arg 0))).before args s = true := hq _ (by decide +kernel)
  have hall : (Cond.all (.arg 0) (.isInt (.elem (.arg 0) (.index 0)))).before args s = true := hq _ (by decide +kernel)
  obtain ⟨b, xs, hb, hx⟩ := State.ints_of_pre rfl harr hlen hall
  have hsm : xs.length < 2 ^ 31 := hx.choose_spec.2.2.2
  have hev : (Term.length (.arg 0)).eval args s none [] s = some (.int xs.length.toInt32) := hx.length_eval hb
  have hv := Cond.le_ints hev (show (Term.int 3584).eval args s none [] s = some (.int 3584) from rfl)
  have hd : xs.length.toInt32 ≤ 3584 := by
    simpa [Cond.before, Cond.holds, hv] using hle
  have hN : xs.length ≤ 3584 := (Int32.ofNat_le_ofNat hsm (by decide)).mp (show Int32.ofNat xs.length ≤ Int32.ofNat 3584 from hd)
  exact ⟨b, xs, Cond.one_arg hc (show args[0]? = some (.ref b) from hb), hx, hN, h⟩
theorem lw_comes (l : Launch) (hl0 : l.stackTraces = false) : Comes l x (Jvm.Cond.code x code maxLocals ret :: tables_1) room_1 (fun tb e args s => Calls_1 tb e args s ∧ rest_1 tb e args s ∧ Pre_1 tb e args s)
    (fun _ _ args s o t => lw_Q args s o t) := by
  intro p e ha hc hk s m args below hf hfit hheap happ hpre
  obtain ⟨b, xs, hP⟩ := lw_pre_spec hpre.2.2 hpre.2.1
  obtain ⟨k, o, h1, h2, h3, hQ⟩ := lw_walk l hl0 b xs p e ha hc hk s m args below hf ((Spec.applies_iff_loose hf).mp happ).1 hP trivial
  exact ⟨k, o, h1, h2, h3, hQ⟩
theorem lw_frame {s t : State} {o : Outcome} {args : Array Value} (h : Framed s o t [] 601024 7293033) :
    Framed s o t (fieldLocs frame_1_writes args s ++ arrayLocs frame_1_arrays args s ++ staticLocs frame_1_statics s) 601024 7293033 := h
theorem lw_limb (L : Cond) (hL : ∀ (args : Array Value) (s t : State), L.after args s (.returned (some (.int 1))) t = true) :
    ArmFor flags0 classFile x code maxLocals ret World_1 tables_1 room_1 Calls_1 rest_1 Pre_1
      (fun tb e a s o t => postC L tb e a s o t ∧ Framed s o t (fieldLocs frame_1_writes a s ++ arrayLocs frame_1_arrays a s ++ staticLocs frame_1_statics s) 601024 7293033) := by
  intro l hfl _ _ p e ha hc hk s m args below hf hfit hheap happ hpre
  obtain ⟨k, o, h1, h2, h3, rfl, hF⟩ := lw_comes l (lw_flag hfl) p e ha hc hk s m args below hf hfit hheap happ hpre
  exact ⟨k, _, h1, h2, h3, hL args s _, lw_frame hF⟩
theorem i_vc : Claimed_1_1 ∧ Claimed_1_2 := ⟨lw_limb limb_1_1 (fun args s t => by simp [limb_1_1, Cond.after, Cond.holds, Cond.value]), lw_limb limb_1_2 (fun args s t => Cond.after_iff.mpr (by
  first | (rw [show limb_1_2 = Cond.eq .result (.int 1) from rfl, Cond.eq_ints (x := 1) (y := 1) rfl rfl]; simp; done) | (simp [limb_1_2, Cond.value, Term.eval]; done)))⟩
