set_option maxHeartbeats 4000000 in
set_option maxRecDepth 100000 in
/-- Integer.rotateRight(x, d) -/
theorem c_rotateRight {l : Launch} {D : va_G} {cI cZ cG : ClassId} (w : va_W) (x d : Int32) : MI l gE yJ6_rotateRight (.code yJ6_rotateRight cJ6_rotateRight 2 (some .int) :: tW) ({ frames := 0, cells := 0, slots := 0, locals := 0 }) D vwCl (tC cI cZ cG) [.int x, .int d] (w) (w) (rotr x d) := by
  refine MI.ofW (by decide +kernel) rfl (Nat.le_of_ble_eq_true rfl) ?_
  intro p e s m below meth c A ls hx hb hr hts hown hlk hml hA hP hK hD hT hl
  have hS : va_S A s.heap s.heap [] := va_S.rf
  have hown : s.vm.findClass RJ6 = some m.cls := hown
  have hW : ∀ w ∈ tW, w.before _ s = true := fun w h => hts w (List.mem_cons_of_mem _ h)
  have hl : lv_has ls 2 [(0, .int x), (1, .int d)] := hl
  refine lv_iload_n hx hb dJ6_rotateRight_0 rfl (lv_at hl 0 rfl) ?_
  refine lv_iload_n hx hb dJ6_rotateRight_1 rfl (lv_at hl 1 rfl) ?_
  refine lv_iushr (v := ush x d) hx hb dJ6_rotateRight_2 rfl ?_
  refine lv_iload_n hx hb dJ6_rotateRight_3 rfl (lv_at hl 0 rfl) ?_
  refine lv_iload_n hx hb dJ6_rotateRight_4 rfl (lv_at hl 1 rfl) ?_
  refine lv_ineg hx hb dJ6_rotateRight_5 ?_
  refine lv_ishl hx hb dJ6_rotateRight_6 ?_
  refine lv_ior hx hb dJ6_rotateRight_7 ?_
  have hP : va_P D vwCl (w) s.heap := by exact hP
  have hD : va_D A (w) := by exact hD
  exact mi_ret hx hb hr rfl hlk hS hP hD (rfl) dJ6_rotateRight_8
set_option maxHeartbeats 4000000 in
set_option maxRecDepth 100000 in
/-- Math.floorMod(x, y) -/
theorem c_floorMod {l : Launch} {D : va_G} {cI cZ cG : ClassId} (w : va_W) (x y : Int32) (hy : ¬ y = 0) : MI l gE yJ9_floorMod (.code yJ9_floorMod cJ9_floorMod 3 (some .int) :: tW) ({ frames := 0, cells := 0, slots := 0, locals := 0 }) D vwCl (tC cI cZ cG) [.int x, .int y] (w) (w) (fmd x y) := by
  refine MI.ofW (by decide +kernel) rfl (Nat.le_of_ble_eq_true rfl) ?_
  intro p e s m below meth c A ls hx hb hr hts hown hlk hml hA hP hK hD hT hl
  have hS : va_S A s.heap s.heap [] := va_S.rf
  have hown : s.vm.findClass RJ9 = some m.cls := hown
  have hW : ∀ w ∈ tW, w.before _ s = true := fun w h => hts w (List.mem_cons_of_mem _ h)
  have hl : lv_has ls 3 [(0, .int x), (1, .int y)] := hl
  refine lv_iload_n hx hb dJ9_floorMod_0 rfl (lv_at hl 0 rfl) ?_
  refine lv_iload_n hx hb dJ9_floorMod_1 rfl (lv_at hl 1 rfl) ?_
  refine lv_irem hx hb dJ9_floorMod_2 (hy) ?_
  refine lv_istore_n (lv' := [(2, .int (x - x / y * y)), (0, .int x), (1, .int y)]) hx hb dJ9_floorMod_3 rfl hl (by decide) rfl (fun ls hl => ?_)
  refine lv_iload_n hx hb dJ9_floorMod_4 rfl (lv_at hl 1 rfl) ?_
  refine lv_iload_n hx hb dJ9_floorMod_5 rfl (lv_at hl 2 rfl) ?_
  refine lv_ixor hx hb dJ9_floorMod_6 ?_
  refine lv_if_ge (tgt := 18) hx hb dJ9_floorMod_7 (by decide) (fun hc => ?_) (fun hc => ?_)
  · refine lv_iload_n hx hb dJ9_floorMod_18 rfl (lv_at hl 0 rfl) ?_
    have hP : va_P D vwCl (w) s.heap := by exact hP
    have hD : va_D A (w) := by exact hD
    exact mi_ret hx hb hr rfl hlk hS hP hD ((if_neg (fun h => Int32.not_lt.mpr hc h.1)).symm) dJ9_floorMod_19
  · refine lv_iload_n hx hb dJ9_floorMod_10 rfl (lv_at hl 0 rfl) ?_
    refine lv_if_eq (tgt := 18) hx hb dJ9_floorMod_11 (by decide) (fun hd => ?_) (fun hd => ?_)
    · refine lv_iload_n hx hb dJ9_floorMod_18 rfl (lv_at hl 0 rfl) ?_
      have hP : va_P D vwCl (w) s.heap := by exact hP
      have hD : va_D A (w) := by exact hD
      exact mi_ret hx hb hr rfl hlk hS hP hD ((if_neg (fun h => h.2 hd)).symm) dJ9_floorMod_19
    · refine lv_iload_n hx hb dJ9_floorMod_14 rfl (lv_at hl 0 rfl) ?_
      refine lv_iload_n hx hb dJ9_floorMod_15 rfl (lv_at hl 2 rfl) ?_
      refine lv_iadd hx hb dJ9_floorMod_16 ?_
      have hP : va_P D vwCl (w) s.heap := by exact hP
      have hD : va_D A (w) := by exact hD
      exact mi_ret hx hb hr rfl hlk hS hP hD ((if_pos ⟨Int32.not_le.mp hc, hd⟩).symm) dJ9_floorMod_17
set_option maxHeartbeats 4000000 in
set_option maxRecDepth 100000 in
/-- begin(): the message is empty -/
theorem c_begin {l : Launch} {D : va_G} {o ad : Nat → Nat} {cI cZ cG : ClassId} {tl lc wc dc pn : Int32} {isw : Nat → Int32} (n : Nat) (mem : Nat → Nat → Int32) : MV l gE yX0_begin (.code yX0_begin cX0_begin 1 none :: tW) ({ frames := 0, cells := 0, slots := 0, locals := 0 }) D vwCl (tC cI cZ cG) [.ref (o 1)] (wC o ad cI cZ cG tl lc wc dc pn (nI n) isw mem) (wC o ad cI cZ cG tl lc wc dc pn (nI 0) isw mem) := by
  refine MV.ofW (by decide +kernel) rfl (Nat.le_of_ble_eq_true rfl) ?_
  intro p e s m below meth c A ls hx hb hr hts hown hlk hml hA hP hK hD hT hl
  have hS : va_S A s.heap s.heap [] := va_S.rf
  have hown : s.vm.findClass RX0 = some m.cls := hown
  have hW : ∀ w ∈ tW, w.before _ s = true := fun w h => hts w (List.mem_cons_of_mem _ h)
  have hl : lv_has ls 1 [(0, .ref (o 1))] := hl
  refine lv_aload_n hx hb dX0_begin_0 rfl (lv_at hl 0 rfl) ?_
  refine lv_iconst (v := nI 0) hx hb dX0_begin_1 (by decide) ?_
  refine va_put (D := D) (ci := 1) (v := .int (nI 0)) (ty := .int) (C := RX0) (T := TX0) (N := 4) hx hb hW iSH tyX0 tyX0_ok nmX0 hown hK hP hD hS 1 rfl rfl 1 (by decide) (hW _ tw_29) (fun _ h9 => h9) rfl (by decide +kernel) rfl rfl (Nat.le_of_ble_eq_true rfl) dX0_begin_2 (fun H locs hP hD hS => ?_)
  have hP : va_P D vwCl (wC o ad cI cZ cG tl lc wc dc pn (nI 0) isw mem) H := hP
  have hD : va_D A (wC o ad cI cZ cG tl lc wc dc pn (nI 0) isw mem) := hD
  have hP : va_P D vwCl (wC o ad cI cZ cG tl lc wc dc pn (nI 0) isw mem) H := by exact hP
  have hD : va_D A (wC o ad cI cZ cG tl lc wc dc pn (nI 0) isw mem) := by exact hD
  exact mv_ret hx hb hr hlk hS hP hD dX0_begin_5
set_option maxHeartbeats 4000000 in
set_option maxRecDepth 100000 in
/-- take(x) -/
theorem c_take {l : Launch} {D : va_G} {o ad : Nat → Nat} {cI cZ cG : ClassId} {tl lc wc dc pn : Int32} {isw : Nat → Int32} (n : Nat) (hn : n ≤ 256) (mem : Nat → Nat → Int32) (x : Int32) : MV l gE yX0_take (.code yX0_take cX0_take 2 none :: tW) ({ frames := 0, cells := 0, slots := 0, locals := 0 }) D vwCl (tC cI cZ cG) [.ref (o 1), .int x] (wC o ad cI cZ cG tl lc wc dc pn (nI n) isw mem) (wC o ad cI cZ cG tl lc wc dc pn (nI (p_take x (n, mem)).1) isw ((p_take x (n, mem)).2)) := by
  refine MV.ofW (by decide +kernel) rfl (Nat.le_of_ble_eq_true rfl) ?_
  intro p e s m below meth c A ls hx hb hr hts hown hlk hml hA hP hK hD hT hl
  have hS : va_S A s.heap s.heap [] := va_S.rf
  have hown : s.vm.findClass RX0 = some m.cls := hown
  have hW : ∀ w ∈ tW, w.before _ s = true := fun w h => hts w (List.mem_cons_of_mem _ h)
  have hl : lv_has ls 2 [(0, .ref (o 1)), (1, .int x)] := hl
  refine lv_aload_n hx hb dX0_take_0 rfl (lv_at hl 0 rfl) ?_
  refine va_get (D := D) (ci := 1) (v := .int (nI n)) (C := RX0) (T := TX0) (N := 4) hx hb hW iSH hown hK hP 1 rfl rfl 1 (by decide) (hW _ tw_29) (fun _ h9 => h9) rfl dX0_take_1 ?_
  refine lv_sipush (v := nI 256) hx hb dX0_take_4 (by decide) ?_
  refine lv_icmp_ge (tgt := 30) hx hb dX0_take_7 (by decide) (fun hc => ?_) (fun hc => ?_)
  · have h1 : ¬ n < 256 := fun h => nI_ge h (by decide) hc
    have e1 : p_take x (n, mem) = (n, mem) := if_neg h1
    have hP : va_P D vwCl (wC o ad cI cZ cG tl lc wc dc pn (nI (p_take x (n, mem)).1) isw ((p_take x (n, mem)).2)) s.heap := by rw [e1]; exact hP
    have hD : va_D A (wC o ad cI cZ cG tl lc wc dc pn (nI (p_take x (n, mem)).1) isw ((p_take x (n, mem)).2)) := by rw [e1]; exact hD
    exact mv_ret hx hb hr hlk hS hP hD dX0_take_30
  · have h1 : n < 256 := Nat.lt_of_not_le (fun h => hc (nI_le h (by omega)))
    have e1 : p_take x (n, mem) = (n + 1, va_up mem 3 (upd (mem 3) n x)) := if_pos h1
    refine lv_aload_n hx hb dX0_take_10 rfl (lv_at hl 0 rfl) ?_
    refine va_get (D := D) (ci := 1) (v := .ref (ad 3)) (C := RX0) (T := TX0) (N := 4) hx hb hW iSH hown hK hP 1 rfl rfl 0 (by decide) (hW _ tw_28) (fun _ h9 => h9) rfl dX0_take_11 ?_
    refine lv_aload_n hx hb dX0_take_14 rfl (lv_at hl 0 rfl) ?_
    refine va_get (D := D) (ci := 1) (v := .int (nI n)) (C := RX0) (T := TX0) (N := 4) hx hb hW iSH hown hK hP 1 rfl rfl 1 (by decide) (hW _ tw_29) (fun _ h9 => h9) rfl dX0_take_15 ?_
    refine lv_iload_n hx hb dX0_take_18 rfl (lv_at hl 1 rfl) ?_
    refine m_st (X := wX o ad cZ cG tl lc wc dc pn (nI n) isw) hx hb hK hP hD hS 0 3 n rfl (by decide) (show n < 256 by omega) (by decide) dX0_take_19 (fun H locs hP hD hS => ?_)
    have hP : va_P D vwCl (wC o ad cI cZ cG tl lc wc dc pn (nI n) isw (va_up mem 3 (upd (mem 3) n x))) H := hP
    have hD : va_D A (wC o ad cI cZ cG tl lc wc dc pn (nI n) isw (va_up mem 3 (upd (mem 3) n x))) := hD
    refine lv_aload_n hx hb dX0_take_20 rfl (lv_at hl 0 rfl) ?_
    refine lv_dup hx hb dX0_take_21 rfl ?_
    refine va_get (D := D) (ci := 1) (v := .int (nI n)) (C := RX0) (T := TX0) (N := 4) hx hb hW iSH hown hK hP 1 rfl rfl 1 (by decide) (hW _ tw_29) (fun _ h9 => h9) rfl dX0_take_22 ?_
    refine lv_iconst (v := nI 1) hx hb dX0_take_25 (by decide) ?_
    refine lv_iadd hx hb dX0_take_26 ?_
    refine lv_eqi (v := nI (n + 1)) (nI_add n 1) ?_
    refine va_put (D := D) (ci := 1) (v := .int (nI (n + 1))) (ty := .int) (C := RX0) (T := TX0) (N := 4) hx hb hW iSH tyX0 tyX0_ok nmX0 hown hK hP hD hS 1 rfl rfl 1 (by decide) (hW _ tw_29) (fun _ h9 => h9) rfl (by decide +kernel) rfl rfl (Nat.le_of_ble_eq_true rfl) dX0_take_27 (fun H locs hP hD hS => ?_)
    have hP : va_P D vwCl (wC o ad cI cZ cG tl lc wc dc pn (nI (n + 1)) isw (va_up mem 3 (upd (mem 3) n x))) H := hP
    have hD : va_D A (wC o ad cI cZ cG tl lc wc dc pn (nI (n + 1)) isw (va_up mem 3 (upd (mem 3) n x))) := hD
    have hP : va_P D vwCl (wC o ad cI cZ cG tl lc wc dc pn (nI (p_take x (n, mem)).1) isw ((p_take x (n, mem)).2)) H := by rw [e1]; exact hP
    have hD : va_D A (wC o ad cI cZ cG tl lc wc dc pn (nI (p_take x (n, mem)).1) isw ((p_take x (n, mem)).2)) := by rw [e1]; exact hD
    exact mv_ret hx hb hr hlk hS hP hD dX0_take_30
set_option maxHeartbeats 4000000 in
set_option maxRecDepth 100000 in
/-- takeFirst(row kk, q) -/
theorem c_takeFirst {l : Launch} {D : va_G} {o ad : Nat → Nat} {cI cZ cG : ClassId} {tl lc wc dc pn : Int32} {isw : Nat → Int32} (n q kk : Nat) (hn : n ≤ 256) (hq : q ≤ lenC kk) (hkk : kk < 71) (mem : Nat → Nat → Int32) : MV l gE yX0_takeFirst (.code yX0_takeFirst cX0_takeFirst 4 none :: tW) ({ frames := 1, cells := 0, slots := 0, locals := 21 }) D vwCl (tC cI cZ cG) [.ref (o 1), .ref (ad kk), .int (nI q)] (wC o ad cI cZ cG tl lc wc dc pn (nI n) isw mem) (wC o ad cI cZ cG tl lc wc dc pn (nI (p_takeFirst kk q (n, mem)).1) isw ((p_takeFirst kk q (n, mem)).2)) := by
  refine MV.ofW (by decide +kernel) rfl (Nat.le_of_ble_eq_true rfl) ?_
  intro p e s m below meth c A ls hx hb hr hts hown hlk hml hA hP hK hD hT hl
  have hS : va_S A s.heap s.heap [] := va_S.rf
  have hown : s.vm.findClass RX0 = some m.cls := hown
  have hW : ∀ w ∈ tW, w.before _ s = true := fun w h => hts w (List.mem_cons_of_mem _ h)
  have hl : lv_has ls 4 [(0, .ref (o 1)), (1, .ref (ad kk)), (2, .int (nI q))] := hl
  have hq2 := lenC_lt kk
  have loop : ∀ (k i : Nat) (H : Heap) (locs : List Loc) (ls : Array Slot), i + k = q → va_P D vwCl (wC o ad cI cZ cG tl lc wc dc pn (nI (p_takeFirst kk i (n, mem)).1) isw ((p_takeFirst kk i (n, mem)).2)) H → va_D A (wC o ad cI cZ cG tl lc wc dc pn (nI (p_takeFirst kk i (n, mem)).1) isw ((p_takeFirst kk i (n, mem)).2)) → va_S A s.heap H locs → lv_has ls 4 [(0, .ref (o 1)), (1, .ref (ad kk)), (2, .int (nI q)), (3, .int (nI i))] → W p l e ({ frames := 1, cells := 0, slots := 0, locals := 21 }) s m ([.ref (o 1), .ref (ad kk), .int (nI q)] : List Value).toArray below meth c H locs 0 0 (MQ below (xQv D vwCl (wC o ad cI cZ cG tl lc wc dc pn (nI (p_takeFirst kk q (n, mem)).1) isw ((p_takeFirst kk q (n, mem)).2)) A) ([.ref (o 1), .ref (ad kk), .int (nI q)] : List Value).toArray s 0 0 A) (F0 m 2 ls []) := by
    intro k
    induction k with
    | zero =>
      intro i H locs ls hk hP hD hS hl
      have hk : i = q := by omega
      rw [hk] at hP hD
      refine lv_iload_n hx hb dX0_takeFirst_2 rfl (lv_at hl 3 rfl) ?_
      refine lv_iload_n hx hb dX0_takeFirst_3 rfl (lv_at hl 2 rfl) ?_
      refine lv_icmp_ge (tgt := 20) hx hb dX0_takeFirst_4 (by decide) (fun hc => ?_) (fun hc => ?_)
      · have hP : va_P D vwCl (wC o ad cI cZ cG tl lc wc dc pn (nI (p_takeFirst kk q (n, mem)).1) isw ((p_takeFirst kk q (n, mem)).2)) H := by exact hP
        have hD : va_D A (wC o ad cI cZ cG tl lc wc dc pn (nI (p_takeFirst kk q (n, mem)).1) isw ((p_takeFirst kk q (n, mem)).2)) := by exact hD
        exact mv_ret hx hb hr hlk hS hP hD dX0_takeFirst_20
      · exact absurd (nI_le (by omega) (by omega)) hc
    | succ k ih =>
      intro i H locs ls hk hP hD hS hl
      refine lv_iload_n hx hb dX0_takeFirst_2 rfl (lv_at hl 3 rfl) ?_
      refine lv_iload_n hx hb dX0_takeFirst_3 rfl (lv_at hl 2 rfl) ?_
      refine lv_icmp_ge (tgt := 20) hx hb dX0_takeFirst_4 (by decide) (fun hc => ?_) (fun hc => ?_)
      · exact absurd hc (nI_ge (by omega) (by omega))
      · refine lv_aload_n hx hb dX0_takeFirst_7 rfl (lv_at hl 0 rfl) ?_
        refine lv_aload_n hx hb dX0_takeFirst_8 rfl (lv_at hl 1 rfl) ?_
        refine lv_iload_n hx hb dX0_takeFirst_9 rfl (lv_at hl 3 rfl) ?_
        refine m_ld (X := wX o ad cZ cG tl lc wc dc pn (nI (p_takeFirst kk i (n, mem)).1) isw) hx hb hK hP 0 kk i rfl hkk (by omega) (lenC_lt kk) dX0_takeFirst_10 ?_
        refine mv_callV (C := RX0) (As := [.int (((p_takeFirst kk i (n, mem)).2) kk i)]) (rest := []) ⟨hx, hb, hml, hown, hW⟩ (c_take ((p_takeFirst kk i (n, mem)).1) (p_takeFirst_le kk i (n, mem) hn) ((p_takeFirst kk i (n, mem)).2) (((p_takeFirst kk i (n, mem)).2) kk i)) gE_ok (cwV 1 hW (gV tw_202 tw_195 tw_196 tw_2 tw_197) rfl rfl rfl (by decide +kernel) ⟨Nat.le_of_ble_eq_true rfl, Nat.le_of_ble_eq_true rfl⟩) (va_recv hK hP (ci := 1) (q0 := 1) rfl rfl) hP hD hK hS hA hT rfl hl.1 rfl (Nat.le_of_ble_eq_true rfl) dX0_takeFirst_11 ⟨Nat.zero_le _, Nat.zero_le _⟩ (fun H locs hP hD hS => ?_)
        have hP : va_P D vwCl (wC o ad cI cZ cG tl lc wc dc pn (nI (p_take (((p_takeFirst kk i (n, mem)).2) kk i) ((p_takeFirst kk i (n, mem)).1, (p_takeFirst kk i (n, mem)).2)).1) isw ((p_take (((p_takeFirst kk i (n, mem)).2) kk i) ((p_takeFirst kk i (n, mem)).1, (p_takeFirst kk i (n, mem)).2)).2)) H := hP
        have hD : va_D A (wC o ad cI cZ cG tl lc wc dc pn (nI (p_take (((p_takeFirst kk i (n, mem)).2) kk i) ((p_takeFirst kk i (n, mem)).1, (p_takeFirst kk i (n, mem)).2)).1) isw ((p_take (((p_takeFirst kk i (n, mem)).2) kk i) ((p_takeFirst kk i (n, mem)).1, (p_takeFirst kk i (n, mem)).2)).2)) := hD
        have hP : va_P D vwCl (wC o ad cI cZ cG tl lc wc dc pn (nI (p_takeFirst kk (i + 1) (n, mem)).1) isw ((p_takeFirst kk (i + 1) (n, mem)).2)) H := hP
        have hD : va_D A (wC o ad cI cZ cG tl lc wc dc pn (nI (p_takeFirst kk (i + 1) (n, mem)).1) isw ((p_takeFirst kk (i + 1) (n, mem)).2)) := hD
        refine lv_iinc (v := nI (i + 1)) (lv' := [(3, .int (nI (i + 1))), (0, .ref (o 1)), (1, .ref (ad kk)), (2, .int (nI q))]) hx hb dX0_takeFirst_14 hl (k := 3) rfl (nI_1 i) (by decide) rfl (fun ls hl => ?_)
        refine lv_goto (tgt := 2) hx hb dX0_takeFirst_17 (by decide) ?_
        exact ih (i + 1) H locs ls (by omega) hP hD hS (lv_sub hl [1, 2, 3, 0] rfl)
  refine lv_iconst (v := nI 0) hx hb dX0_takeFirst_0 (by decide) ?_
  refine lv_istore_n (lv' := [(3, .int (nI 0)), (0, .ref (o 1)), (1, .ref (ad kk)), (2, .int (nI q))]) hx hb dX0_takeFirst_1 rfl hl (by decide) rfl (fun ls hl => ?_)
  exact loop q 0 s.heap [] ls (by omega) hP hD hS (lv_sub hl [1, 2, 3, 0] rfl)
set_option maxHeartbeats 4000000 in
set_option maxRecDepth 100000 in
/-- takeLong(v) -/
theorem c_takeLong {l : Launch} {D : va_G} {o ad : Nat → Nat} {cI cZ cG : ClassId} {tl lc wc dc pn : Int32} {isw : Nat → Int32} (n : Nat) (hn : n ≤ 256) (mem : Nat → Nat → Int32) (v : Int64) : MV l gE yX0_takeLong (.code yX0_takeLong cX0_takeLong 4 none :: tW) ({ frames := 1, cells := 0, slots := 0, locals := 21 }) D vwCl (tC cI cZ cG) [.ref (o 1), .long v] (wC o ad cI cZ cG tl lc wc dc pn (nI n) isw mem) (wC o ad cI cZ cG tl lc wc dc pn (nI (p_takeLong v (n, mem)).1) isw ((p_takeLong v (n, mem)).2)) := by
  refine MV.ofW (by decide +kernel) rfl (Nat.le_of_ble_eq_true rfl) ?_
  intro p e s m below meth c A ls hx hb hr hts hown hlk hml hA hP hK hD hT hl
  have hS : va_S A s.heap s.heap [] := va_S.rf
  have hown : s.vm.findClass RX0 = some m.cls := hown
  have hW : ∀ w ∈ tW, w.before _ s = true := fun w h => hts w (List.mem_cons_of_mem _ h)
  have hl : lv_has ls 4 [(0, .ref (o 1)), (1, .long v)] := hl
  have loop : ∀ (k i : Nat) (H : Heap) (locs : List Loc) (ls : Array Slot), i + k = 8 → va_P D vwCl (wC o ad cI cZ cG tl lc wc dc pn (nI (p_takeLongN v i (n, mem)).1) isw ((p_takeLongN v i (n, mem)).2)) H → va_D A (wC o ad cI cZ cG tl lc wc dc pn (nI (p_takeLongN v i (n, mem)).1) isw ((p_takeLongN v i (n, mem)).2)) → va_S A s.heap H locs → lv_has ls 4 [(0, .ref (o 1)), (1, .long v), (3, .int (p_sh i))] → W p l e ({ frames := 1, cells := 0, slots := 0, locals := 21 }) s m ([.ref (o 1), .long v] : List Value).toArray below meth c H locs 0 0 (MQ below (xQv D vwCl (wC o ad cI cZ cG tl lc wc dc pn (nI (p_takeLong v (n, mem)).1) isw ((p_takeLong v (n, mem)).2)) A) ([.ref (o 1), .long v] : List Value).toArray s 0 0 A) (F0 m 3 ls []) := by
    intro k
    induction k with
    | zero =>
      intro i H locs ls hk hP hD hS hl
      have hk : i = 8 := by omega
      subst hk
      refine lv_iload_n hx hb dX0_takeLong_3 rfl (lv_at hl 2 rfl) ?_
      refine lv_if_lt (tgt := 25) hx hb dX0_takeLong_4 (by decide) (fun hc => ?_) (fun hc => ?_)
      · have hP : va_P D vwCl (wC o ad cI cZ cG tl lc wc dc pn (nI (p_takeLong v (n, mem)).1) isw ((p_takeLong v (n, mem)).2)) H := by exact hP
        have hD : va_D A (wC o ad cI cZ cG tl lc wc dc pn (nI (p_takeLong v (n, mem)).1) isw ((p_takeLong v (n, mem)).2)) := by exact hD
        exact mv_ret hx hb hr hlk hS hP hD dX0_takeLong_25
      · exact absurd (by decide) hc
    | succ k ih =>
      intro i H locs ls hk hP hD hS hl
      refine lv_iload_n hx hb dX0_takeLong_3 rfl (lv_at hl 2 rfl) ?_
      refine lv_if_lt (tgt := 25) hx hb dX0_takeLong_4 (by decide) (fun hc => ?_) (fun hc => ?_)
      · exact absurd hc (p_sh_pos i (by omega))
      · refine lv_aload_n hx hb dX0_takeLong_7 rfl (lv_at hl 0 rfl) ?_
        refine lv_lload_n hx hb dX0_takeLong_8 rfl (lv_at hl 1 rfl) ?_
        refine lv_iload_n hx hb dX0_takeLong_9 rfl (lv_at hl 2 rfl) ?_
        refine lv_lushr (v := lush v (p_sh i)) hx hb dX0_takeLong_10 rfl ?_
        refine lv_l2i (v := (lush v (p_sh i)).toInt32) hx hb dX0_takeLong_11 rfl ?_
        refine lv_sipush (v := nI 255) hx hb dX0_takeLong_12 (by decide) ?_
        refine lv_iand hx hb dX0_takeLong_15 ?_
        refine mv_callV (C := RX0) (As := [.int (((lush v (p_sh i)).toInt32) &&& (nI 255))]) (rest := []) ⟨hx, hb, hml, hown, hW⟩ (c_take ((p_takeLongN v i (n, mem)).1) (p_takeLongN_le v i (n, mem) hn) ((p_takeLongN v i (n, mem)).2) (((lush v (p_sh i)).toInt32) &&& (nI 255))) gE_ok (cwV 1 hW (gV tw_202 tw_195 tw_196 tw_2 tw_197) rfl rfl rfl (by decide +kernel) ⟨Nat.le_of_ble_eq_true rfl, Nat.le_of_ble_eq_true rfl⟩) (va_recv hK hP (ci := 1) (q0 := 1) rfl rfl) hP hD hK hS hA hT rfl hl.1 rfl (Nat.le_of_ble_eq_true rfl) dX0_takeLong_16 ⟨Nat.zero_le _, Nat.zero_le _⟩ (fun H locs hP hD hS => ?_)
        have hP : va_P D vwCl (wC o ad cI cZ cG tl lc wc dc pn (nI (p_take (((lush v (p_sh i)).toInt32) &&& (nI 255)) ((p_takeLongN v i (n, mem)).1, (p_takeLongN v i (n, mem)).2)).1) isw ((p_take (((lush v (p_sh i)).toInt32) &&& (nI 255)) ((p_takeLongN v i (n, mem)).1, (p_takeLongN v i (n, mem)).2)).2)) H := hP
        have hD : va_D A (wC o ad cI cZ cG tl lc wc dc pn (nI (p_take (((lush v (p_sh i)).toInt32) &&& (nI 255)) ((p_takeLongN v i (n, mem)).1, (p_takeLongN v i (n, mem)).2)).1) isw ((p_take (((lush v (p_sh i)).toInt32) &&& (nI 255)) ((p_takeLongN v i (n, mem)).1, (p_takeLongN v i (n, mem)).2)).2)) := hD
        have hP : va_P D vwCl (wC o ad cI cZ cG tl lc wc dc pn (nI (p_takeLongN v (i + 1) (n, mem)).1) isw ((p_takeLongN v (i + 1) (n, mem)).2)) H := hP
        have hD : va_D A (wC o ad cI cZ cG tl lc wc dc pn (nI (p_takeLongN v (i + 1) (n, mem)).1) isw ((p_takeLongN v (i + 1) (n, mem)).2)) := hD
        refine lv_iinc (v := p_sh (i + 1)) (lv' := [(3, .int (p_sh (i + 1))), (0, .ref (o 1)), (1, .long v)]) hx hb dX0_takeLong_19 hl (k := 2) rfl (p_sh_next i (by omega)) (by decide) rfl (fun ls hl => ?_)
        refine lv_goto (tgt := 3) hx hb dX0_takeLong_22 (by decide) ?_
        exact ih (i + 1) H locs ls (by omega) hP hD hS (lv_sub hl [1, 2, 0] rfl)
  refine lv_bipush (v := nI 56) hx hb dX0_takeLong_0 (by decide) ?_
  refine lv_eqi (v := p_sh 0) (by decide) ?_
  refine lv_istore_n (lv' := [(3, .int (p_sh 0)), (0, .ref (o 1)), (1, .long v)]) hx hb dX0_takeLong_2 rfl hl (by decide) rfl (fun ls hl => ?_)
  exact loop 8 0 s.heap [] ls (by omega) hP hD hS (lv_sub hl [1, 2, 0] rfl)
set_option maxHeartbeats 4000000 in
set_option maxRecDepth 100000 in
/-- spreadBlock(f) -/
theorem c_spreadBlock {l : Launch} {D : va_G} {o ad : Nat → Nat} {cI cZ cG : ClassId} {tl lc wc dc pn : Int32} {isw : Nat → Int32} (n f : Nat) (hf : f + 64 ≤ 256) (mem : Nat → Nat → Int32) : MV l gE yX0_spreadBlock (.code yX0_spreadBlock cX0_spreadBlock 7 none :: tW) ({ frames := 1, cells := 0, slots := 0, locals := 24 }) D vwCl (tC cI cZ cG) [.ref (o 1), .int (nI f)] (wC o ad cI cZ cG tl lc wc dc pn (nI n) isw mem) (wC o ad cI cZ cG tl lc wc dc pn (nI n) isw (p_spread f mem)) := by
  refine MV.ofW (by decide +kernel) rfl (Nat.le_of_ble_eq_true rfl) ?_
  intro p e s m below meth c A ls hx hb hr hts hown hlk hml hA hP hK hD hT hl
  have hS : va_S A s.heap s.heap [] := va_S.rf
  have hown : s.vm.findClass RX0 = some m.cls := hown
  have hW : ∀ w ∈ tW, w.before _ s = true := fun w h => hts w (List.mem_cons_of_mem _ h)
  have hl : lv_has ls 7 [(0, .ref (o 1)), (1, .int (nI f))] := hl
  have hn : True := trivial
  have loop2 : ∀ (k i : Nat) (H : Heap) (locs : List Loc) (ls : Array Slot), i + k = 48 → va_P D vwCl (wC o ad cI cZ cG tl lc wc dc pn (nI n) isw (itr p_w2 i (itr (p_w1 f) 16 mem))) H → va_D A (wC o ad cI cZ cG tl lc wc dc pn (nI n) isw (itr p_w2 i (itr (p_w1 f) 16 mem))) → va_S A s.heap H locs → lv_has ls 7 [(0, .ref (o 1)), (1, .int (nI f)), (2, .int (nI (16 + i)))] → W p l e ({ frames := 1, cells := 0, slots := 0, locals := 24 }) s m ([.ref (o 1), .int (nI f)] : List Value).toArray below meth c H locs 0 0 (MQ below (xQv D vwCl (wC o ad cI cZ cG tl lc wc dc pn (nI n) isw (p_spread f mem)) A) ([.ref (o 1), .int (nI f)] : List Value).toArray s 0 0 A) (F0 m 71 ls []) := by
    intro k
    induction k with
    | zero =>
      intro i H locs ls hk hP hD hS hl
      have hk : i = 48 := by omega
      rw [hk] at hP hD
      refine lv_iload_n hx hb dX0_spreadBlock_71 rfl (lv_at hl 2 rfl) ?_
      refine lv_bipush (v := nI 64) hx hb dX0_spreadBlock_72 (by decide) ?_
      refine lv_icmp_ge (tgt := 176) hx hb dX0_spreadBlock_74 (by decide) (fun hc => ?_) (fun hc => ?_)
      · have hP : va_P D vwCl (wC o ad cI cZ cG tl lc wc dc pn (nI n) isw (p_spread f mem)) H := by exact hP
        have hD : va_D A (wC o ad cI cZ cG tl lc wc dc pn (nI n) isw (p_spread f mem)) := by exact hD
        exact mv_ret hx hb hr hlk hS hP hD dX0_spreadBlock_176
      · exact absurd (nI_le (by omega) (by omega)) hc
    | succ k ih =>
      intro i H locs ls hk hP hD hS hl
      refine lv_iload_n hx hb dX0_spreadBlock_71 rfl (lv_at hl 2 rfl) ?_
      refine lv_bipush (v := nI 64) hx hb dX0_spreadBlock_72 (by decide) ?_
      refine lv_icmp_ge (tgt := 176) hx hb dX0_spreadBlock_74 (by decide) (fun hc => ?_) (fun hc => ?_)
      · exact absurd hc (nI_ge (by omega) (by omega))
      · refine lv_aload_n hx hb dX0_spreadBlock_77 rfl (lv_at hl 0 rfl) ?_
        refine va_get (D := D) (ci := 1) (v := .ref (ad 4)) (C := RX0) (T := TX0) (N := 4) hx hb hW iSH hown hK hP 1 rfl rfl 2 (by decide) (hW _ tw_30) (fun _ h9 => h9) rfl dX0_spreadBlock_78 ?_
        refine lv_iload_n hx hb dX0_spreadBlock_81 rfl (lv_at hl 2 rfl) ?_
        refine lv_bipush (v := nI 15) hx hb dX0_spreadBlock_82 (by decide) ?_
        refine lv_isub hx hb dX0_spreadBlock_84 ?_
        refine lv_eqi (v := nI (1 + i)) ((pk_sub (by omega)).trans (congrArg nI (by omega))) ?_
        refine m_ld (X := wX o ad cZ cG tl lc wc dc pn (nI n) isw) hx hb hK hP 0 4 (1 + i) rfl (by decide) (show (1 + i) < 64 by omega) (by decide) dX0_spreadBlock_85 ?_
        refine lv_istore_n (lv' := [(3, .int ((itr p_w2 i (itr (p_w1 f) 16 mem)) 4 (1 + i))), (0, .ref (o 1)), (1, .int (nI f)), (2, .int (nI (16 + i)))]) hx hb dX0_spreadBlock_86 rfl hl (by decide) rfl (fun ls hl => ?_)
        refine lv_aload_n hx hb dX0_spreadBlock_87 rfl (lv_at hl 1 rfl) ?_
        refine va_get (D := D) (ci := 1) (v := .ref (ad 4)) (C := RX0) (T := TX0) (N := 4) hx hb hW iSH hown hK hP 1 rfl rfl 2 (by decide) (hW _ tw_30) (fun _ h9 => h9) rfl dX0_spreadBlock_88 ?_
        refine lv_iload_n hx hb dX0_spreadBlock_91 rfl (lv_at hl 3 rfl) ?_
        refine lv_iconst (v := nI 2) hx hb dX0_spreadBlock_92 (by decide) ?_
        refine lv_isub hx hb dX0_spreadBlock_93 ?_
        refine lv_eqi (v := nI (14 + i)) ((pk_sub (by omega)).trans (congrArg nI (by omega))) ?_
        refine m_ld (X := wX o ad cZ cG tl lc wc dc pn (nI n) isw) hx hb hK hP 0 4 (14 + i) rfl (by decide) (show (14 + i) < 64 by omega) (by decide) dX0_spreadBlock_94 ?_
        refine lv_istore (lv' := [(4, .int ((itr p_w2 i (itr (p_w1 f) 16 mem)) 4 (14 + i))), (3, .int ((itr p_w2 i (itr (p_w1 f) 16 mem)) 4 (1 + i))), (0, .ref (o 1)), (1, .int (nI f)), (2, .int (nI (16 + i)))]) hx hb dX0_spreadBlock_95 hl (by decide) rfl (fun ls hl => ?_)
        refine lv_iload_n hx hb dX0_spreadBlock_97 rfl (lv_at hl 1 rfl) ?_
        refine lv_bipush (v := nI 7) hx hb dX0_spreadBlock_98 (by decide) ?_
        refine mi_callS (As := [.int ((itr p_w2 i (itr (p_w1 f) 16 mem)) 4 (1 + i)), .int (nI 7)]) (rest := []) ⟨hx, hb, hml, hown, hW⟩ (c_rotateRight _ ((itr p_w2 i (itr (p_w1 f) 16 mem)) 4 (1 + i)) (nI 7)) gE_ok (va_cwS 2 hW (gS tw_224 tw_225 tw_11 tw_226) rfl rfl rfl (by decide +kernel) ⟨Nat.le_of_ble_eq_true rfl, Nat.le_of_ble_eq_true rfl⟩) hP hD hK hS hA hT rfl hl.1 rfl (Nat.le_of_ble_eq_true rfl) dX0_spreadBlock_100 ⟨Nat.zero_le _, Nat.zero_le _⟩ (fun H locs hP hD hS => ?_)
        refine lv_iload_n hx hb dX0_spreadBlock_103 rfl (lv_at hl 1 rfl) ?_
        refine lv_bipush (v := nI 18) hx hb dX0_spreadBlock_104 (by decide) ?_
        refine mi_callS (As := [.int ((itr p_w2 i (itr (p_w1 f) 16 mem)) 4 (1 + i)), .int (nI 18)]) (rest := [.int (rotr ((itr p_w2 i (itr (p_w1 f) 16 mem)) 4 (1 + i)) (nI 7))]) ⟨hx, hb, hml, hown, hW⟩ (c_rotateRight _ ((itr p_w2 i (itr (p_w1 f) 16 mem)) 4 (1 + i)) (nI 18)) gE_ok (va_cwS 2 hW (gS tw_224 tw_225 tw_11 tw_226) rfl rfl rfl (by decide +kernel) ⟨Nat.le_of_ble_eq_true rfl, Nat.le_of_ble_eq_true rfl⟩) hP hD hK hS hA hT rfl hl.1 rfl (Nat.le_of_ble_eq_true rfl) dX0_spreadBlock_106 ⟨Nat.zero_le _, Nat.zero_le _⟩ (fun H locs hP hD hS => ?_)
        refine lv_ixor hx hb dX0_spreadBlock_109 ?_
        refine lv_iload_n hx hb dX0_spreadBlock_110 rfl (lv_at hl 1 rfl) ?_
        refine lv_iconst (v := nI 3) hx hb dX0_spreadBlock_111 (by decide) ?_
        refine lv_iushr (v := ush ((itr p_w2 i (itr (p_w1 f) 16 mem)) 4 (1 + i)) (nI 3)) hx hb dX0_spreadBlock_112 rfl ?_
        refine lv_ixor hx hb dX0_spreadBlock_113 ?_
        refine lv_istore (lv' := [(5, .int (((rotr ((itr p_w2 i (itr (p_w1 f) 16 mem)) 4 (1 + i)) (nI 7)) ^^^ (rotr ((itr p_w2 i (itr (p_w1 f) 16 mem)) 4 (1 + i)) (nI 18))) ^^^ (ush ((itr p_w2 i (itr (p_w1 f) 16 mem)) 4 (1 + i)) (nI 3)))), (4, .int ((itr p_w2 i (itr (p_w1 f) 16 mem)) 4 (14 + i))), (3, .int ((itr p_w2 i (itr (p_w1 f) 16 mem)) 4 (1 + i))), (0, .ref (o 1)), (1, .int (nI f)), (2, .int (nI (16 + i)))]) hx hb dX0_spreadBlock_114 hl (by decide) rfl (fun ls hl => ?_)
        refine lv_iload hx hb dX0_spreadBlock_116 (lv_at hl 1 rfl) ?_
        refine lv_bipush (v := nI 17) hx hb dX0_spreadBlock_118 (by decide) ?_
        refine mi_callS (As := [.int ((itr p_w2 i (itr (p_w1 f) 16 mem)) 4 (14 + i)), .int (nI 17)]) (rest := []) ⟨hx, hb, hml, hown, hW⟩ (c_rotateRight _ ((itr p_w2 i (itr (p_w1 f) 16 mem)) 4 (14 + i)) (nI 17)) gE_ok (va_cwS 2 hW (gS tw_224 tw_225 tw_11 tw_226) rfl rfl rfl (by decide +kernel) ⟨Nat.le_of_ble_eq_true rfl, Nat.le_of_ble_eq_true rfl⟩) hP hD hK hS hA hT rfl hl.1 rfl (Nat.le_of_ble_eq_true rfl) dX0_spreadBlock_120 ⟨Nat.zero_le _, Nat.zero_le _⟩ (fun H locs hP hD hS => ?_)
        refine lv_iload hx hb dX0_spreadBlock_123 (lv_at hl 1 rfl) ?_
        refine lv_bipush (v := nI 19) hx hb dX0_spreadBlock_125 (by decide) ?_
        refine mi_callS (As := [.int ((itr p_w2 i (itr (p_w1 f) 16 mem)) 4 (14 + i)), .int (nI 19)]) (rest := [.int (rotr ((itr p_w2 i (itr (p_w1 f) 16 mem)) 4 (14 + i)) (nI 17))]) ⟨hx, hb, hml, hown, hW⟩ (c_rotateRight _ ((itr p_w2 i (itr (p_w1 f) 16 mem)) 4 (14 + i)) (nI 19)) gE_ok (va_cwS 2 hW (gS tw_224 tw_225 tw_11 tw_226) rfl rfl rfl (by decide +kernel) ⟨Nat.le_of_ble_eq_true rfl, Nat.le_of_ble_eq_true rfl⟩) hP hD hK hS hA hT rfl hl.1 rfl (Nat.le_of_ble_eq_true rfl) dX0_spreadBlock_127 ⟨Nat.zero_le _, Nat.zero_le _⟩ (fun H locs hP hD hS => ?_)
        refine lv_ixor hx hb dX0_spreadBlock_130 ?_
        refine lv_iload hx hb dX0_spreadBlock_131 (lv_at hl 1 rfl) ?_
        refine lv_bipush (v := nI 10) hx hb dX0_spreadBlock_133 (by decide) ?_
        refine lv_iushr (v := ush ((itr p_w2 i (itr (p_w1 f) 16 mem)) 4 (14 + i)) (nI 10)) hx hb dX0_spreadBlock_135 rfl ?_
        refine lv_ixor hx hb dX0_spreadBlock_136 ?_
        refine lv_istore (lv' := [(6, .int (((rotr ((itr p_w2 i (itr (p_w1 f) 16 mem)) 4 (14 + i)) (nI 17)) ^^^ (rotr ((itr p_w2 i (itr (p_w1 f) 16 mem)) 4 (14 + i)) (nI 19))) ^^^ (ush ((itr p_w2 i (itr (p_w1 f) 16 mem)) 4 (14 + i)) (nI 10)))), (5, .int (((rotr ((itr p_w2 i (itr (p_w1 f) 16 mem)) 4 (1 + i)) (nI 7)) ^^^ (rotr ((itr p_w2 i (itr (p_w1 f) 16 mem)) 4 (1 + i)) (nI 18))) ^^^ (ush ((itr p_w2 i (itr (p_w1 f) 16 mem)) 4 (1 + i)) (nI 3)))), (4, .int ((itr p_w2 i (itr (p_w1 f) 16 mem)) 4 (14 + i))), (3, .int ((itr p_w2 i (itr (p_w1 f) 16 mem)) 4 (1 + i))), (0, .ref (o 1)), (1, .int (nI f)), (2, .int (nI (16 + i)))]) hx hb dX0_spreadBlock_137 hl (by decide) rfl (fun ls hl => ?_)
        refine lv_aload_n hx hb dX0_spreadBlock_139 rfl (lv_at hl 4 rfl) ?_
        refine va_get (D := D) (ci := 1) (v := .ref (ad 4)) (C := RX0) (T := TX0) (N := 4) hx hb hW iSH hown hK hP 1 rfl rfl 2 (by decide) (hW _ tw_30) (fun _ h9 => h9) rfl dX0_spreadBlock_140 ?_
        refine lv_iload_n hx hb dX0_spreadBlock_143 rfl (lv_at hl 6 rfl) ?_
        refine lv_iload hx hb dX0_spreadBlock_144 (lv_at hl 0 rfl) ?_
        refine lv_aload_n hx hb dX0_spreadBlock_146 rfl (lv_at hl 4 rfl) ?_
        refine va_get (D := D) (ci := 1) (v := .ref (ad 4)) (C := RX0) (T := TX0) (N := 4) hx hb hW iSH hown hK hP 1 rfl rfl 2 (by decide) (hW _ tw_30) (fun _ h9 => h9) rfl dX0_spreadBlock_147 ?_
        refine lv_iload_n hx hb dX0_spreadBlock_150 rfl (lv_at hl 6 rfl) ?_
        refine lv_bipush (v := nI 7) hx hb dX0_spreadBlock_151 (by decide) ?_
        refine lv_isub hx hb dX0_spreadBlock_153 ?_
        refine lv_eqi (v := nI (9 + i)) ((pk_sub (by omega)).trans (congrArg nI (by omega))) ?_
        refine m_ld (X := wX o ad cZ cG tl lc wc dc pn (nI n) isw) hx hb hK hP 0 4 (9 + i) rfl (by decide) (show (9 + i) < 64 by omega) (by decide) dX0_spreadBlock_154 ?_
        refine lv_iadd hx hb dX0_spreadBlock_155 ?_
        refine lv_iload hx hb dX0_spreadBlock_156 (lv_at hl 1 rfl) ?_
        refine lv_iadd hx hb dX0_spreadBlock_158 ?_
        refine lv_aload_n hx hb dX0_spreadBlock_159 rfl (lv_at hl 4 rfl) ?_
        refine va_get (D := D) (ci := 1) (v := .ref (ad 4)) (C := RX0) (T := TX0) (N := 4) hx hb hW iSH hown hK hP 1 rfl rfl 2 (by decide) (hW _ tw_30) (fun _ h9 => h9) rfl dX0_spreadBlock_160 ?_
        refine lv_iload_n hx hb dX0_spreadBlock_163 rfl (lv_at hl 6 rfl) ?_
        refine lv_bipush (v := nI 16) hx hb dX0_spreadBlock_164 (by decide) ?_
        refine lv_isub hx hb dX0_spreadBlock_166 ?_
        refine lv_eqi (v := nI i) ((pk_sub (by omega)).trans (congrArg nI (by omega))) ?_
        refine m_ld (X := wX o ad cZ cG tl lc wc dc pn (nI n) isw) hx hb hK hP 0 4 i rfl (by decide) (show i < 64 by omega) (by decide) dX0_spreadBlock_167 ?_
        refine lv_iadd hx hb dX0_spreadBlock_168 ?_
        refine m_st (X := wX o ad cZ cG tl lc wc dc pn (nI n) isw) hx hb hK hP hD hS 0 4 (16 + i) rfl (by decide) (show (16 + i) < 64 by omega) (by decide) dX0_spreadBlock_169 (fun H locs hP hD hS => ?_)
        have hP : va_P D vwCl (wC o ad cI cZ cG tl lc wc dc pn (nI n) isw (va_up (itr p_w2 i (itr (p_w1 f) 16 mem)) 4 (upd ((itr p_w2 i (itr (p_w1 f) 16 mem)) 4) (16 + i) ((((((rotr ((itr p_w2 i (itr (p_w1 f) 16 mem)) 4 (14 + i)) (nI 17)) ^^^ (rotr ((itr p_w2 i (itr (p_w1 f) 16 mem)) 4 (14 + i)) (nI 19))) ^^^ (ush ((itr p_w2 i (itr (p_w1 f) 16 mem)) 4 (14 + i)) (nI 10))) + ((itr p_w2 i (itr (p_w1 f) 16 mem)) 4 (9 + i))) + (((rotr ((itr p_w2 i (itr (p_w1 f) 16 mem)) 4 (1 + i)) (nI 7)) ^^^ (rotr ((itr p_w2 i (itr (p_w1 f) 16 mem)) 4 (1 + i)) (nI 18))) ^^^ (ush ((itr p_w2 i (itr (p_w1 f) 16 mem)) 4 (1 + i)) (nI 3)))) + ((itr p_w2 i (itr (p_w1 f) 16 mem)) 4 i))))) H := hP
        have hD : va_D A (wC o ad cI cZ cG tl lc wc dc pn (nI n) isw (va_up (itr p_w2 i (itr (p_w1 f) 16 mem)) 4 (upd ((itr p_w2 i (itr (p_w1 f) 16 mem)) 4) (16 + i) ((((((rotr ((itr p_w2 i (itr (p_w1 f) 16 mem)) 4 (14 + i)) (nI 17)) ^^^ (rotr ((itr p_w2 i (itr (p_w1 f) 16 mem)) 4 (14 + i)) (nI 19))) ^^^ (ush ((itr p_w2 i (itr (p_w1 f) 16 mem)) 4 (14 + i)) (nI 10))) + ((itr p_w2 i (itr (p_w1 f) 16 mem)) 4 (9 + i))) + (((rotr ((itr p_w2 i (itr (p_w1 f) 16 mem)) 4 (1 + i)) (nI 7)) ^^^ (rotr ((itr p_w2 i (itr (p_w1 f) 16 mem)) 4 (1 + i)) (nI 18))) ^^^ (ush ((itr p_w2 i (itr (p_w1 f) 16 mem)) 4 (1 + i)) (nI 3)))) + ((itr p_w2 i (itr (p_w1 f) 16 mem)) 4 i))))) := hD
        have hP : va_P D vwCl (wC o ad cI cZ cG tl lc wc dc pn (nI n) isw (itr p_w2 (i + 1) (itr (p_w1 f) 16 mem))) H := hP
        have hD : va_D A (wC o ad cI cZ cG tl lc wc dc pn (nI n) isw (itr p_w2 (i + 1) (itr (p_w1 f) 16 mem))) := hD
        refine lv_iinc (v := nI (16 + (i + 1))) (lv' := [(2, .int (nI (16 + (i + 1)))), (6, .int (((rotr ((itr p_w2 i (itr (p_w1 f) 16 mem)) 4 (14 + i)) (nI 17)) ^^^ (rotr ((itr p_w2 i (itr (p_w1 f) 16 mem)) 4 (14 + i)) (nI 19))) ^^^ (ush ((itr p_w2 i (itr (p_w1 f) 16 mem)) 4 (14 + i)) (nI 10)))), (5, .int (((rotr ((itr p_w2 i (itr (p_w1 f) 16 mem)) 4 (1 + i)) (nI 7)) ^^^ (rotr ((itr p_w2 i (itr (p_w1 f) 16 mem)) 4 (1 + i)) (nI 18))) ^^^ (ush ((itr p_w2 i (itr (p_w1 f) 16 mem)) 4 (1 + i)) (nI 3)))), (4, .int ((itr p_w2 i (itr (p_w1 f) 16 mem)) 4 (14 + i))), (3, .int ((itr p_w2 i (itr (p_w1 f) 16 mem)) 4 (1 + i))), (0, .ref (o 1)), (1, .int (nI f))]) hx hb dX0_spreadBlock_170 hl (k := 6) rfl (nI_1 (16 + i)) (by decide) rfl (fun ls hl => ?_)
        refine lv_goto (tgt := 71) hx hb dX0_spreadBlock_173 (by decide) ?_
        exact ih (i + 1) H locs ls (by omega) hP hD hS (lv_sub hl [5, 6, 0] rfl)
  have loop1 : ∀ (k i : Nat) (H : Heap) (locs : List Loc) (ls : Array Slot), i + k = 16 → va_P D vwCl (wC o ad cI cZ cG tl lc wc dc pn (nI n) isw (itr (p_w1 f) i mem)) H → va_D A (wC o ad cI cZ cG tl lc wc dc pn (nI n) isw (itr (p_w1 f) i mem)) → va_S A s.heap H locs → lv_has ls 7 [(0, .ref (o 1)), (1, .int (nI f)), (2, .int (nI i))] → W p l e ({ frames := 1, cells := 0, slots := 0, locals := 24 }) s m ([.ref (o 1), .int (nI f)] : List Value).toArray below meth c H locs 0 0 (MQ below (xQv D vwCl (wC o ad cI cZ cG tl lc wc dc pn (nI n) isw (p_spread f mem)) A) ([.ref (o 1), .int (nI f)] : List Value).toArray s 0 0 A) (F0 m 2 ls []) := by
    intro k
    induction k with
    | zero =>
      intro i H locs ls hk hP hD hS hl
      have hk : i = 16 := by omega
      rw [hk] at hP hD
      refine lv_iload_n hx hb dX0_spreadBlock_2 rfl (lv_at hl 2 rfl) ?_
      refine lv_bipush (v := nI 16) hx hb dX0_spreadBlock_3 (by decide) ?_
      refine lv_icmp_ge (tgt := 68) hx hb dX0_spreadBlock_5 (by decide) (fun hc => ?_) (fun hc => ?_)
      · refine lv_bipush (v := nI 16) hx hb dX0_spreadBlock_68 (by decide) ?_
        refine lv_istore_n (lv' := [(2, .int (nI 16)), (0, .ref (o 1)), (1, .int (nI f))]) hx hb dX0_spreadBlock_70 rfl hl (by decide) rfl (fun ls hl => ?_)
        exact loop2 48 0 H locs ls (by omega) hP hD hS (lv_sub hl [1, 2, 0] rfl)
      · exact absurd (nI_le (by omega) (by omega)) hc
    | succ k ih =>
      intro i H locs ls hk hP hD hS hl
      refine lv_iload_n hx hb dX0_spreadBlock_2 rfl (lv_at hl 2 rfl) ?_
      refine lv_bipush (v := nI 16) hx hb dX0_spreadBlock_3 (by decide) ?_
      refine lv_icmp_ge (tgt := 68) hx hb dX0_spreadBlock_5 (by decide) (fun hc => ?_) (fun hc => ?_)
      · exact absurd hc (nI_ge (by omega) (by omega))
      · refine lv_iload_n hx hb dX0_spreadBlock_8 rfl (lv_at hl 1 rfl) ?_
        refine lv_iconst (v := nI 4) hx hb dX0_spreadBlock_9 (by decide) ?_
        refine lv_iload_n hx hb dX0_spreadBlock_10 rfl (lv_at hl 2 rfl) ?_
        refine lv_imul hx hb dX0_spreadBlock_11 ?_
        refine lv_eqi (v := nI (4 * i)) (pk_mul 4 i) ?_
        refine lv_iadd hx hb dX0_spreadBlock_12 ?_
        refine lv_eqi (v := nI (f + 4 * i)) (nI_add f (4 * i)) ?_
        refine lv_istore_n (lv' := [(3, .int (nI (f + 4 * i))), (0, .ref (o 1)), (1, .int (nI f)), (2, .int (nI i))]) hx hb dX0_spreadBlock_13 rfl hl (by decide) rfl (fun ls hl => ?_)
        refine lv_aload_n hx hb dX0_spreadBlock_14 rfl (lv_at hl 1 rfl) ?_
        refine va_get (D := D) (ci := 1) (v := .ref (ad 4)) (C := RX0) (T := TX0) (N := 4) hx hb hW iSH hown hK hP 1 rfl rfl 2 (by decide) (hW _ tw_30) (fun _ h9 => h9) rfl dX0_spreadBlock_15 ?_
        refine lv_iload_n hx hb dX0_spreadBlock_18 rfl (lv_at hl 3 rfl) ?_
        refine lv_aload_n hx hb dX0_spreadBlock_19 rfl (lv_at hl 1 rfl) ?_
        refine va_get (D := D) (ci := 1) (v := .ref (ad 3)) (C := RX0) (T := TX0) (N := 4) hx hb hW iSH hown hK hP 1 rfl rfl 0 (by decide) (hW _ tw_28) (fun _ h9 => h9) rfl dX0_spreadBlock_20 ?_
        refine lv_iload_n hx hb dX0_spreadBlock_23 rfl (lv_at hl 0 rfl) ?_
        refine m_ld (X := wX o ad cZ cG tl lc wc dc pn (nI n) isw) hx hb hK hP 0 3 (f + 4 * i) rfl (by decide) (show (f + 4 * i) < 256 by omega) (by decide) dX0_spreadBlock_24 ?_
        refine lv_bipush (v := nI 24) hx hb dX0_spreadBlock_25 (by decide) ?_
        refine lv_ishl hx hb dX0_spreadBlock_27 ?_
        refine lv_aload_n hx hb dX0_spreadBlock_28 rfl (lv_at hl 1 rfl) ?_
        refine va_get (D := D) (ci := 1) (v := .ref (ad 3)) (C := RX0) (T := TX0) (N := 4) hx hb hW iSH hown hK hP 1 rfl rfl 0 (by decide) (hW _ tw_28) (fun _ h9 => h9) rfl dX0_spreadBlock_29 ?_
        refine lv_iload_n hx hb dX0_spreadBlock_32 rfl (lv_at hl 0 rfl) ?_
        refine lv_iconst (v := nI 1) hx hb dX0_spreadBlock_33 (by decide) ?_
        refine lv_iadd hx hb dX0_spreadBlock_34 ?_
        refine lv_eqi (v := nI (f + 4 * i + 1)) (nI_add (f + 4 * i) 1) ?_
        refine m_ld (X := wX o ad cZ cG tl lc wc dc pn (nI n) isw) hx hb hK hP 0 3 (f + 4 * i + 1) rfl (by decide) (show (f + 4 * i + 1) < 256 by omega) (by decide) dX0_spreadBlock_35 ?_
        refine lv_bipush (v := nI 16) hx hb dX0_spreadBlock_36 (by decide) ?_
        refine lv_ishl hx hb dX0_spreadBlock_38 ?_
        refine lv_ior hx hb dX0_spreadBlock_39 ?_
        refine lv_aload_n hx hb dX0_spreadBlock_40 rfl (lv_at hl 1 rfl) ?_
        refine va_get (D := D) (ci := 1) (v := .ref (ad 3)) (C := RX0) (T := TX0) (N := 4) hx hb hW iSH hown hK hP 1 rfl rfl 0 (by decide) (hW _ tw_28) (fun _ h9 => h9) rfl dX0_spreadBlock_41 ?_
        refine lv_iload_n hx hb dX0_spreadBlock_44 rfl (lv_at hl 0 rfl) ?_
        refine lv_iconst (v := nI 2) hx hb dX0_spreadBlock_45 (by decide) ?_
        refine lv_iadd hx hb dX0_spreadBlock_46 ?_
        refine lv_eqi (v := nI (f + 4 * i + 2)) (nI_add (f + 4 * i) 2) ?_
        refine m_ld (X := wX o ad cZ cG tl lc wc dc pn (nI n) isw) hx hb hK hP 0 3 (f + 4 * i + 2) rfl (by decide) (show (f + 4 * i + 2) < 256 by omega) (by decide) dX0_spreadBlock_47 ?_
        refine lv_bipush (v := nI 8) hx hb dX0_spreadBlock_48 (by decide) ?_
        refine lv_ishl hx hb dX0_spreadBlock_50 ?_
        refine lv_ior hx hb dX0_spreadBlock_51 ?_
        refine lv_aload_n hx hb dX0_spreadBlock_52 rfl (lv_at hl 1 rfl) ?_
        refine va_get (D := D) (ci := 1) (v := .ref (ad 3)) (C := RX0) (T := TX0) (N := 4) hx hb hW iSH hown hK hP 1 rfl rfl 0 (by decide) (hW _ tw_28) (fun _ h9 => h9) rfl dX0_spreadBlock_53 ?_
        refine lv_iload_n hx hb dX0_spreadBlock_56 rfl (lv_at hl 0 rfl) ?_
        refine lv_iconst (v := nI 3) hx hb dX0_spreadBlock_57 (by decide) ?_
        refine lv_iadd hx hb dX0_spreadBlock_58 ?_
        refine lv_eqi (v := nI (f + 4 * i + 3)) (nI_add (f + 4 * i) 3) ?_
        refine m_ld (X := wX o ad cZ cG tl lc wc dc pn (nI n) isw) hx hb hK hP 0 3 (f + 4 * i + 3) rfl (by decide) (show (f + 4 * i + 3) < 256 by omega) (by decide) dX0_spreadBlock_59 ?_
        refine lv_ior hx hb dX0_spreadBlock_60 ?_
        refine m_st (X := wX o ad cZ cG tl lc wc dc pn (nI n) isw) hx hb hK hP hD hS 0 4 i rfl (by decide) (show i < 64 by omega) (by decide) dX0_spreadBlock_61 (fun H locs hP hD hS => ?_)
        have hP : va_P D vwCl (wC o ad cI cZ cG tl lc wc dc pn (nI n) isw (va_up (itr (p_w1 f) i mem) 4 (upd ((itr (p_w1 f) i mem) 4) i ((((((itr (p_w1 f) i mem) 3 (f + 4 * i)) <<< ((nI 24) &&& 31)) ||| (((itr (p_w1 f) i mem) 3 (f + 4 * i + 1)) <<< ((nI 16) &&& 31))) ||| (((itr (p_w1 f) i mem) 3 (f + 4 * i + 2)) <<< ((nI 8) &&& 31))) ||| ((itr (p_w1 f) i mem) 3 (f + 4 * i + 3)))))) H := hP
        have hD : va_D A (wC o ad cI cZ cG tl lc wc dc pn (nI n) isw (va_up (itr (p_w1 f) i mem) 4 (upd ((itr (p_w1 f) i mem) 4) i ((((((itr (p_w1 f) i mem) 3 (f + 4 * i)) <<< ((nI 24) &&& 31)) ||| (((itr (p_w1 f) i mem) 3 (f + 4 * i + 1)) <<< ((nI 16) &&& 31))) ||| (((itr (p_w1 f) i mem) 3 (f + 4 * i + 2)) <<< ((nI 8) &&& 31))) ||| ((itr (p_w1 f) i mem) 3 (f + 4 * i + 3)))))) := hD
        have hP : va_P D vwCl (wC o ad cI cZ cG tl lc wc dc pn (nI n) isw (itr (p_w1 f) (i + 1) mem)) H := hP
        have hD : va_D A (wC o ad cI cZ cG tl lc wc dc pn (nI n) isw (itr (p_w1 f) (i + 1) mem)) := hD
        refine lv_iinc (v := nI (i + 1)) (lv' := [(2, .int (nI (i + 1))), (3, .int (nI (f + 4 * i))), (0, .ref (o 1)), (1, .int (nI f))]) hx hb dX0_spreadBlock_62 hl (k := 3) rfl (nI_1 i) (by decide) rfl (fun ls hl => ?_)
        refine lv_goto (tgt := 2) hx hb dX0_spreadBlock_65 (by decide) ?_
        exact ih (i + 1) H locs ls (by omega) hP hD hS (lv_sub hl [2, 3, 0] rfl)
  refine lv_iconst (v := nI 0) hx hb dX0_spreadBlock_0 (by decide) ?_
  refine lv_istore_n (lv' := [(2, .int (nI 0)), (0, .ref (o 1)), (1, .int (nI f))]) hx hb dX0_spreadBlock_1 rfl hl (by decide) rfl (fun ls hl => ?_)
  exact loop1 16 0 s.heap [] ls (by omega) hP hD hS (lv_sub hl [1, 2, 0] rfl)
set_option maxHeartbeats 4000000 in
set_option maxRecDepth 100000 in
/-- stirState() -/
theorem c_stirState {l : Launch} {D : va_G} {o ad : Nat → Nat} {cI cZ cG : ClassId} {tl lc wc dc pn : Int32} {isw : Nat → Int32} (n : Nat) (mem : Nat → Nat → Int32) : MV l gE yX0_stirState (.code yX0_stirState cX0_stirState 15 none :: tW) ({ frames := 1, cells := 0, slots := 0, locals := 24 }) D vwCl (tC cI cZ cG) [.ref (o 1)] (wC o ad cI cZ cG tl lc wc dc pn (nI n) isw mem) (wC o ad cI cZ cG tl lc wc dc pn (nI n) isw (p_stir mem)) := by
  refine MV.ofW (by decide +kernel) rfl (Nat.le_of_ble_eq_true rfl) ?_
  intro p e s m below meth c A ls hx hb hr hts hown hlk hml hA hP hK hD hT hl
  have hS : va_S A s.heap s.heap [] := va_S.rf
  have hown : s.vm.findClass RX0 = some m.cls := hown
  have hW : ∀ w ∈ tW, w.before _ s = true := fun w h => hts w (List.mem_cons_of_mem _ h)
  have hl : lv_has ls 15 [(0, .ref (o 1))] := hl
  obtain ⟨⟨t1, t2, hZ1, hT1, hZ2, hT2⟩, hTx⟩ := id hT
  have loop : ∀ (k i : Nat) (H : Heap) (locs : List Loc) (ls : Array Slot), i + k = 64 → va_P D vwCl (wC o ad cI cZ cG tl lc wc dc pn (nI n) isw mem) H → va_D A (wC o ad cI cZ cG tl lc wc dc pn (nI n) isw mem) → va_S A s.heap H locs → lv_has ls 15 [(0, .ref (o 1)), (1, .int (p_rnds mem i 0)), (2, .int (p_rnds mem i 1)), (3, .int (p_rnds mem i 2)), (4, .int (p_rnds mem i 3)), (5, .int (p_rnds mem i 4)), (6, .int (p_rnds mem i 5)), (7, .int (p_rnds mem i 6)), (8, .int (p_rnds mem i 7)), (9, .int (nI i))] → W p l e ({ frames := 1, cells := 0, slots := 0, locals := 24 }) s m ([.ref (o 1)] : List Value).toArray below meth c H locs 0 0 (MQ below (xQv D vwCl (wC o ad cI cZ cG tl lc wc dc pn (nI n) isw (p_stir mem)) A) ([.ref (o 1)] : List Value).toArray s 0 0 A) (F0 m 66 ls []) := by
    intro k
    induction k with
    | zero =>
      intro i H locs ls hk hP hD hS hl
      have hk : i = 64 := by omega
      rw [hk] at hl
      refine lv_iload hx hb dX0_stirState_66 (lv_at hl 9 rfl) ?_
      refine lv_bipush (v := nI 64) hx hb dX0_stirState_68 (by decide) ?_
      refine lv_icmp_ge (tgt := 213) hx hb dX0_stirState_70 (by decide) (fun hc => ?_) (fun hc => ?_)
      · refine lv_aload_n hx hb dX0_stirState_213 rfl (lv_at hl 0 rfl) ?_
        refine va_get (D := D) (ci := 1) (v := .ref (ad 5)) (C := RX0) (T := TX0) (N := 4) hx hb hW iSH hown hK hP 1 rfl rfl 3 (by decide) (hW _ tw_31) (fun _ h9 => h9) rfl dX0_stirState_214 ?_
        refine lv_iconst (v := nI 0) hx hb dX0_stirState_217 (by decide) ?_
        refine lv_dup2_11 hx hb dX0_stirState_218 rfl rfl ?_
        refine m_ld (X := wX o ad cZ cG tl lc wc dc pn (nI n) isw) hx hb hK hP 0 5 0 rfl (by decide) (show 0 < 8 by omega) (by decide) dX0_stirState_219 ?_
        refine lv_iload_n hx hb dX0_stirState_220 rfl (lv_at hl 1 rfl) ?_
        refine lv_iadd hx hb dX0_stirState_221 ?_
        refine m_st (X := wX o ad cZ cG tl lc wc dc pn (nI n) isw) hx hb hK hP hD hS 0 5 0 rfl (by decide) (show 0 < 8 by omega) (by decide) dX0_stirState_222 (fun H locs hP hD hS => ?_)
        have hP : va_P D vwCl (wC o ad cI cZ cG tl lc wc dc pn (nI n) isw (p_add 0 (p_rnds mem 64 0) (mem))) H := hP
        have hD : va_D A (wC o ad cI cZ cG tl lc wc dc pn (nI n) isw (p_add 0 (p_rnds mem 64 0) (mem))) := hD
        refine lv_aload_n hx hb dX0_stirState_223 rfl (lv_at hl 0 rfl) ?_
        refine va_get (D := D) (ci := 1) (v := .ref (ad 5)) (C := RX0) (T := TX0) (N := 4) hx hb hW iSH hown hK hP 1 rfl rfl 3 (by decide) (hW _ tw_31) (fun _ h9 => h9) rfl dX0_stirState_224 ?_
        refine lv_iconst (v := nI 1) hx hb dX0_stirState_227 (by decide) ?_
        refine lv_dup2_11 hx hb dX0_stirState_228 rfl rfl ?_
        refine m_ld (X := wX o ad cZ cG tl lc wc dc pn (nI n) isw) hx hb hK hP 0 5 1 rfl (by decide) (show 1 < 8 by omega) (by decide) dX0_stirState_229 ?_
        refine lv_iload_n hx hb dX0_stirState_230 rfl (lv_at hl 2 rfl) ?_
        refine lv_iadd hx hb dX0_stirState_231 ?_
        refine m_st (X := wX o ad cZ cG tl lc wc dc pn (nI n) isw) hx hb hK hP hD hS 0 5 1 rfl (by decide) (show 1 < 8 by omega) (by decide) dX0_stirState_232 (fun H locs hP hD hS => ?_)
        have hP : va_P D vwCl (wC o ad cI cZ cG tl lc wc dc pn (nI n) isw (p_add 1 (p_rnds mem 64 1) (p_add 0 (p_rnds mem 64 0) (mem)))) H := hP
        have hD : va_D A (wC o ad cI cZ cG tl lc wc dc pn (nI n) isw (p_add 1 (p_rnds mem 64 1) (p_add 0 (p_rnds mem 64 0) (mem)))) := hD
        refine lv_aload_n hx hb dX0_stirState_233 rfl (lv_at hl 0 rfl) ?_
        refine va_get (D := D) (ci := 1) (v := .ref (ad 5)) (C := RX0) (T := TX0) (N := 4) hx hb hW iSH hown hK hP 1 rfl rfl 3 (by decide) (hW _ tw_31) (fun _ h9 => h9) rfl dX0_stirState_234 ?_
        refine lv_iconst (v := nI 2) hx hb dX0_stirState_237 (by decide) ?_
        refine lv_dup2_11 hx hb dX0_stirState_238 rfl rfl ?_
        refine m_ld (X := wX o ad cZ cG tl lc wc dc pn (nI n) isw) hx hb hK hP 0 5 2 rfl (by decide) (show 2 < 8 by omega) (by decide) dX0_stirState_239 ?_
        refine lv_iload_n hx hb dX0_stirState_240 rfl (lv_at hl 3 rfl) ?_
        refine lv_iadd hx hb dX0_stirState_241 ?_
        refine m_st (X := wX o ad cZ cG tl lc wc dc pn (nI n) isw) hx hb hK hP hD hS 0 5 2 rfl (by decide) (show 2 < 8 by omega) (by decide) dX0_stirState_242 (fun H locs hP hD hS => ?_)
        have hP : va_P D vwCl (wC o ad cI cZ cG tl lc wc dc pn (nI n) isw (p_add 2 (p_rnds mem 64 2) (p_add 1 (p_rnds mem 64 1) (p_add 0 (p_rnds mem 64 0) (mem))))) H := hP
        have hD : va_D A (wC o ad cI cZ cG tl lc wc dc pn (nI n) isw (p_add 2 (p_rnds mem 64 2) (p_add 1 (p_rnds mem 64 1) (p_add 0 (p_rnds mem 64 0) (mem))))) := hD
        refine lv_aload_n hx hb dX0_stirState_243 rfl (lv_at hl 0 rfl) ?_
        refine va_get (D := D) (ci := 1) (v := .ref (ad 5)) (C := RX0) (T := TX0) (N := 4) hx hb hW iSH hown hK hP 1 rfl rfl 3 (by decide) (hW _ tw_31) (fun _ h9 => h9) rfl dX0_stirState_244 ?_
        refine lv_iconst (v := nI 3) hx hb dX0_stirState_247 (by decide) ?_
        refine lv_dup2_11 hx hb dX0_stirState_248 rfl rfl ?_
        refine m_ld (X := wX o ad cZ cG tl lc wc dc pn (nI n) isw) hx hb hK hP 0 5 3 rfl (by decide) (show 3 < 8 by omega) (by decide) dX0_stirState_249 ?_
        refine lv_iload hx hb dX0_stirState_250 (lv_at hl 4 rfl) ?_
        refine lv_iadd hx hb dX0_stirState_252 ?_
        refine m_st (X := wX o ad cZ cG tl lc wc dc pn (nI n) isw) hx hb hK hP hD hS 0 5 3 rfl (by decide) (show 3 < 8 by omega) (by decide) dX0_stirState_253 (fun H locs hP hD hS => ?_)
        have hP : va_P D vwCl (wC o ad cI cZ cG tl lc wc dc pn (nI n) isw (p_add 3 (p_rnds mem 64 3) (p_add 2 (p_rnds mem 64 2) (p_add 1 (p_rnds mem 64 1) (p_add 0 (p_rnds mem 64 0) (mem)))))) H := hP
        have hD : va_D A (wC o ad cI cZ cG tl lc wc dc pn (nI n) isw (p_add 3 (p_rnds mem 64 3) (p_add 2 (p_rnds mem 64 2) (p_add 1 (p_rnds mem 64 1) (p_add 0 (p_rnds mem 64 0) (mem)))))) := hD
        refine lv_aload_n hx hb dX0_stirState_254 rfl (lv_at hl 0 rfl) ?_
        refine va_get (D := D) (ci := 1) (v := .ref (ad 5)) (C := RX0) (T := TX0) (N := 4) hx hb hW iSH hown hK hP 1 rfl rfl 3 (by decide) (hW _ tw_31) (fun _ h9 => h9) rfl dX0_stirState_255 ?_
        refine lv_iconst (v := nI 4) hx hb dX0_stirState_258 (by decide) ?_
        refine lv_dup2_11 hx hb dX0_stirState_259 rfl rfl ?_
        refine m_ld (X := wX o ad cZ cG tl lc wc dc pn (nI n) isw) hx hb hK hP 0 5 4 rfl (by decide) (show 4 < 8 by omega) (by decide) dX0_stirState_260 ?_
        refine lv_iload hx hb dX0_stirState_261 (lv_at hl 5 rfl) ?_
        refine lv_iadd hx hb dX0_stirState_263 ?_
        refine m_st (X := wX o ad cZ cG tl lc wc dc pn (nI n) isw) hx hb hK hP hD hS 0 5 4 rfl (by decide) (show 4 < 8 by omega) (by decide) dX0_stirState_264 (fun H locs hP hD hS => ?_)
        have hP : va_P D vwCl (wC o ad cI cZ cG tl lc wc dc pn (nI n) isw (p_add 4 (p_rnds mem 64 4) (p_add 3 (p_rnds mem 64 3) (p_add 2 (p_rnds mem 64 2) (p_add 1 (p_rnds mem 64 1) (p_add 0 (p_rnds mem 64 0) (mem))))))) H := hP
        have hD : va_D A (wC o ad cI cZ cG tl lc wc dc pn (nI n) isw (p_add 4 (p_rnds mem 64 4) (p_add 3 (p_rnds mem 64 3) (p_add 2 (p_rnds mem 64 2) (p_add 1 (p_rnds mem 64 1) (p_add 0 (p_rnds mem 64 0) (mem))))))) := hD
        refine lv_aload_n hx hb dX0_stirState_265 rfl (lv_at hl 0 rfl) ?_
        refine va_get (D := D) (ci := 1) (v := .ref (ad 5)) (C := RX0) (T := TX0) (N := 4) hx hb hW iSH hown hK hP 1 rfl rfl 3 (by decide) (hW _ tw_31) (fun _ h9 => h9) rfl dX0_stirState_266 ?_
        refine lv_iconst (v := nI 5) hx hb dX0_stirState_269 (by decide) ?_
        refine lv_dup2_11 hx hb dX0_stirState_270 rfl rfl ?_
        refine m_ld (X := wX o ad cZ cG tl lc wc dc pn (nI n) isw) hx hb hK hP 0 5 5 rfl (by decide) (show 5 < 8 by omega) (by decide) dX0_stirState_271 ?_
        refine lv_iload hx hb dX0_stirState_272 (lv_at hl 6 rfl) ?_
        refine lv_iadd hx hb dX0_stirState_274 ?_
        refine m_st (X := wX o ad cZ cG tl lc wc dc pn (nI n) isw) hx hb hK hP hD hS 0 5 5 rfl (by decide) (show 5 < 8 by omega) (by decide) dX0_stirState_275 (fun H locs hP hD hS => ?_)
        have hP : va_P D vwCl (wC o ad cI cZ cG tl lc wc dc pn (nI n) isw (p_add 5 (p_rnds mem 64 5) (p_add 4 (p_rnds mem 64 4) (p_add 3 (p_rnds mem 64 3) (p_add 2 (p_rnds mem 64 2) (p_add 1 (p_rnds mem 64 1) (p_add 0 (p_rnds mem 64 0) (mem)))))))) H := hP
        have hD : va_D A (wC o ad cI cZ cG tl lc wc dc pn (nI n) isw (p_add 5 (p_rnds mem 64 5) (p_add 4 (p_rnds mem 64 4) (p_add 3 (p_rnds mem 64 3) (p_add 2 (p_rnds mem 64 2) (p_add 1 (p_rnds mem 64 1) (p_add 0 (p_rnds mem 64 0) (mem)))))))) := hD
        refine lv_aload_n hx hb dX0_stirState_276 rfl (lv_at hl 0 rfl) ?_
        refine va_get (D := D) (ci := 1) (v := .ref (ad 5)) (C := RX0) (T := TX0) (N := 4) hx hb hW iSH hown hK hP 1 rfl rfl 3 (by decide) (hW _ tw_31) (fun _ h9 => h9) rfl dX0_stirState_277 ?_
        refine lv_bipush (v := nI 6) hx hb dX0_stirState_280 (by decide) ?_
        refine lv_dup2_11 hx hb dX0_stirState_282 rfl rfl ?_
        refine m_ld (X := wX o ad cZ cG tl lc wc dc pn (nI n) isw) hx hb hK hP 0 5 6 rfl (by decide) (show 6 < 8 by omega) (by decide) dX0_stirState_283 ?_
        refine lv_iload hx hb dX0_stirState_284 (lv_at hl 7 rfl) ?_
        refine lv_iadd hx hb dX0_stirState_286 ?_
        refine m_st (X := wX o ad cZ cG tl lc wc dc pn (nI n) isw) hx hb hK hP hD hS 0 5 6 rfl (by decide) (show 6 < 8 by omega) (by decide) dX0_stirState_287 (fun H locs hP hD hS => ?_)
        have hP : va_P D vwCl (wC o ad cI cZ cG tl lc wc dc pn (nI n) isw (p_add 6 (p_rnds mem 64 6) (p_add 5 (p_rnds mem 64 5) (p_add 4 (p_rnds mem 64 4) (p_add 3 (p_rnds mem 64 3) (p_add 2 (p_rnds mem 64 2) (p_add 1 (p_rnds mem 64 1) (p_add 0 (p_rnds mem 64 0) (mem))))))))) H := hP
        have hD : va_D A (wC o ad cI cZ cG tl lc wc dc pn (nI n) isw (p_add 6 (p_rnds mem 64 6) (p_add 5 (p_rnds mem 64 5) (p_add 4 (p_rnds mem 64 4) (p_add 3 (p_rnds mem 64 3) (p_add 2 (p_rnds mem 64 2) (p_add 1 (p_rnds mem 64 1) (p_add 0 (p_rnds mem 64 0) (mem))))))))) := hD
        refine lv_aload_n hx hb dX0_stirState_288 rfl (lv_at hl 0 rfl) ?_
        refine va_get (D := D) (ci := 1) (v := .ref (ad 5)) (C := RX0) (T := TX0) (N := 4) hx hb hW iSH hown hK hP 1 rfl rfl 3 (by decide) (hW _ tw_31) (fun _ h9 => h9) rfl dX0_stirState_289 ?_
        refine lv_bipush (v := nI 7) hx hb dX0_stirState_292 (by decide) ?_
        refine lv_dup2_11 hx hb dX0_stirState_294 rfl rfl ?_
        refine m_ld (X := wX o ad cZ cG tl lc wc dc pn (nI n) isw) hx hb hK hP 0 5 7 rfl (by decide) (show 7 < 8 by omega) (by decide) dX0_stirState_295 ?_
        refine lv_iload hx hb dX0_stirState_296 (lv_at hl 8 rfl) ?_
        refine lv_iadd hx hb dX0_stirState_298 ?_
        refine m_st (X := wX o ad cZ cG tl lc wc dc pn (nI n) isw) hx hb hK hP hD hS 0 5 7 rfl (by decide) (show 7 < 8 by omega) (by decide) dX0_stirState_299 (fun H locs hP hD hS => ?_)
        have hP : va_P D vwCl (wC o ad cI cZ cG tl lc wc dc pn (nI n) isw (p_add 7 (p_rnds mem 64 7) (p_add 6 (p_rnds mem 64 6) (p_add 5 (p_rnds mem 64 5) (p_add 4 (p_rnds mem 64 4) (p_add 3 (p_rnds mem 64 3) (p_add 2 (p_rnds mem 64 2) (p_add 1 (p_rnds mem 64 1) (p_add 0 (p_rnds mem 64 0) (mem)))))))))) H := hP
        have hD : va_D A (wC o ad cI cZ cG tl lc wc dc pn (nI n) isw (p_add 7 (p_rnds mem 64 7) (p_add 6 (p_rnds mem 64 6) (p_add 5 (p_rnds mem 64 5) (p_add 4 (p_rnds mem 64 4) (p_add 3 (p_rnds mem 64 3) (p_add 2 (p_rnds mem 64 2) (p_add 1 (p_rnds mem 64 1) (p_add 0 (p_rnds mem 64 0) (mem)))))))))) := hD
        have hP : va_P D vwCl (wC o ad cI cZ cG tl lc wc dc pn (nI n) isw (p_stir mem)) H := by exact hP
        have hD : va_D A (wC o ad cI cZ cG tl lc wc dc pn (nI n) isw (p_stir mem)) := by exact hD
        exact mv_ret hx hb hr hlk hS hP hD dX0_stirState_300
      · exact absurd (by decide) hc
    | succ k ih =>
      intro i H locs ls hk hP hD hS hl
      refine lv_iload hx hb dX0_stirState_66 (lv_at hl 9 rfl) ?_
      refine lv_bipush (v := nI 64) hx hb dX0_stirState_68 (by decide) ?_
      refine lv_icmp_ge (tgt := 213) hx hb dX0_stirState_70 (by decide) (fun hc => ?_) (fun hc => ?_)
      · exact absurd hc (nI_ge (by omega) (by omega))
      · refine lv_iload hx hb dX0_stirState_73 (lv_at hl 5 rfl) ?_
        refine lv_bipush (v := nI 6) hx hb dX0_stirState_75 (by decide) ?_
        refine mi_callS (As := [.int (p_rnds mem i 4), .int (nI 6)]) (rest := []) ⟨hx, hb, hml, hown, hW⟩ (c_rotateRight _ (p_rnds mem i 4) (nI 6)) gE_ok (va_cwS 2 hW (gS tw_224 tw_225 tw_11 tw_226) rfl rfl rfl (by decide +kernel) ⟨Nat.le_of_ble_eq_true rfl, Nat.le_of_ble_eq_true rfl⟩) hP hD hK hS hA hT rfl hl.1 rfl (Nat.le_of_ble_eq_true rfl) dX0_stirState_77 ⟨Nat.zero_le _, Nat.zero_le _⟩ (fun H locs hP hD hS => ?_)
        refine lv_iload hx hb dX0_stirState_80 (lv_at hl 5 rfl) ?_
        refine lv_bipush (v := nI 11) hx hb dX0_stirState_82 (by decide) ?_
        refine mi_callS (As := [.int (p_rnds mem i 4), .int (nI 11)]) (rest := [.int (rotr (p_rnds mem i 4) (nI 6))]) ⟨hx, hb, hml, hown, hW⟩ (c_rotateRight _ (p_rnds mem i 4) (nI 11)) gE_ok (va_cwS 2 hW (gS tw_224 tw_225 tw_11 tw_226) rfl rfl rfl (by decide +kernel) ⟨Nat.le_of_ble_eq_true rfl, Nat.le_of_ble_eq_true rfl⟩) hP hD hK hS hA hT rfl hl.1 rfl (Nat.le_of_ble_eq_true rfl) dX0_stirState_84 ⟨Nat.zero_le _, Nat.zero_le _⟩ (fun H locs hP hD hS => ?_)
        refine lv_ixor hx hb dX0_stirState_87 ?_
        refine lv_iload hx hb dX0_stirState_88 (lv_at hl 5 rfl) ?_
        refine lv_bipush (v := nI 25) hx hb dX0_stirState_90 (by decide) ?_
        refine mi_callS (As := [.int (p_rnds mem i 4), .int (nI 25)]) (rest := [.int ((rotr (p_rnds mem i 4) (nI 6)) ^^^ (rotr (p_rnds mem i 4) (nI 11)))]) ⟨hx, hb, hml, hown, hW⟩ (c_rotateRight _ (p_rnds mem i 4) (nI 25)) gE_ok (va_cwS 2 hW (gS tw_224 tw_225 tw_11 tw_226) rfl rfl rfl (by decide +kernel) ⟨Nat.le_of_ble_eq_true rfl, Nat.le_of_ble_eq_true rfl⟩) hP hD hK hS hA hT rfl hl.1 rfl (Nat.le_of_ble_eq_true rfl) dX0_stirState_92 ⟨Nat.zero_le _, Nat.zero_le _⟩ (fun H locs hP hD hS => ?_)
        refine lv_ixor hx hb dX0_stirState_95 ?_
        refine lv_istore (lv' := [(10, .int (((rotr (p_rnds mem i 4) (nI 6)) ^^^ (rotr (p_rnds mem i 4) (nI 11))) ^^^ (rotr (p_rnds mem i 4) (nI 25)))), (0, .ref (o 1)), (1, .int (p_rnds mem i 0)), (2, .int (p_rnds mem i 1)), (3, .int (p_rnds mem i 2)), (4, .int (p_rnds mem i 3)), (5, .int (p_rnds mem i 4)), (6, .int (p_rnds mem i 5)), (7, .int (p_rnds mem i 6)), (8, .int (p_rnds mem i 7)), (9, .int (nI i))]) hx hb dX0_stirState_96 hl (by decide) rfl (fun ls hl => ?_)
        refine lv_iload hx hb dX0_stirState_98 (lv_at hl 6 rfl) ?_
        refine lv_iload hx hb dX0_stirState_100 (lv_at hl 7 rfl) ?_
        refine lv_iand hx hb dX0_stirState_102 ?_
        refine lv_iload hx hb dX0_stirState_103 (lv_at hl 6 rfl) ?_
        refine lv_iconst (v := (-1)) hx hb dX0_stirState_105 (by decide) ?_
        refine lv_ixor hx hb dX0_stirState_106 ?_
        refine lv_iload hx hb dX0_stirState_107 (lv_at hl 8 rfl) ?_
        refine lv_iand hx hb dX0_stirState_109 ?_
        refine lv_ixor hx hb dX0_stirState_110 ?_
        refine lv_istore (lv' := [(11, .int (((p_rnds mem i 4) &&& (p_rnds mem i 5)) ^^^ (((p_rnds mem i 4) ^^^ (-1)) &&& (p_rnds mem i 6)))), (10, .int (((rotr (p_rnds mem i 4) (nI 6)) ^^^ (rotr (p_rnds mem i 4) (nI 11))) ^^^ (rotr (p_rnds mem i 4) (nI 25)))), (0, .ref (o 1)), (1, .int (p_rnds mem i 0)), (2, .int (p_rnds mem i 1)), (3, .int (p_rnds mem i 2)), (4, .int (p_rnds mem i 3)), (5, .int (p_rnds mem i 4)), (6, .int (p_rnds mem i 5)), (7, .int (p_rnds mem i 6)), (8, .int (p_rnds mem i 7)), (9, .int (nI i))]) hx hb dX0_stirState_111 hl (by decide) rfl (fun ls hl => ?_)
        refine lv_iload hx hb dX0_stirState_113 (lv_at hl 10 rfl) ?_
        refine lv_iload hx hb dX0_stirState_115 (lv_at hl 1 rfl) ?_
        refine lv_iadd hx hb dX0_stirState_117 ?_
        refine lv_iload hx hb dX0_stirState_118 (lv_at hl 0 rfl) ?_
        refine lv_iadd hx hb dX0_stirState_120 ?_
        refine va_gets hx hb hZ2 hS hown (hW _ tw_231) (fun _ h => h) dX0_stirState_121 ?_
        refine lv_iload hx hb dX0_stirState_124 (lv_at hl 11 rfl) ?_
        refine va_ti hx hb hT2 hS (vp_in_nI (show i < 64 by omega) (by decide)) (v := .int (kc i)) (by rw [nI_clamp (by omega)]) dX0_stirState_126 ?_
        refine lv_iadd hx hb dX0_stirState_127 ?_
        refine lv_aload_n hx hb dX0_stirState_128 rfl (lv_at hl 2 rfl) ?_
        refine va_get (D := D) (ci := 1) (v := .ref (ad 4)) (C := RX0) (T := TX0) (N := 4) hx hb hW iSH hown hK hP 1 rfl rfl 2 (by decide) (hW _ tw_30) (fun _ h9 => h9) rfl dX0_stirState_129 ?_
        refine lv_iload hx hb dX0_stirState_132 (lv_at hl 11 rfl) ?_
        refine m_ld (X := wX o ad cZ cG tl lc wc dc pn (nI n) isw) hx hb hK hP 0 4 i rfl (by decide) (show i < 64 by omega) (by decide) dX0_stirState_134 ?_
        refine lv_iadd hx hb dX0_stirState_135 ?_
        refine lv_istore (lv' := [(12, .int (((((p_rnds mem i 7) + (((rotr (p_rnds mem i 4) (nI 6)) ^^^ (rotr (p_rnds mem i 4) (nI 11))) ^^^ (rotr (p_rnds mem i 4) (nI 25)))) + (((p_rnds mem i 4) &&& (p_rnds mem i 5)) ^^^ (((p_rnds mem i 4) ^^^ (-1)) &&& (p_rnds mem i 6)))) + (kc i)) + (mem 4 i))), (11, .int (((p_rnds mem i 4) &&& (p_rnds mem i 5)) ^^^ (((p_rnds mem i 4) ^^^ (-1)) &&& (p_rnds mem i 6)))), (10, .int (((rotr (p_rnds mem i 4) (nI 6)) ^^^ (rotr (p_rnds mem i 4) (nI 11))) ^^^ (rotr (p_rnds mem i 4) (nI 25)))), (0, .ref (o 1)), (1, .int (p_rnds mem i 0)), (2, .int (p_rnds mem i 1)), (3, .int (p_rnds mem i 2)), (4, .int (p_rnds mem i 3)), (5, .int (p_rnds mem i 4)), (6, .int (p_rnds mem i 5)), (7, .int (p_rnds mem i 6)), (8, .int (p_rnds mem i 7)), (9, .int (nI i))]) hx hb dX0_stirState_136 hl (by decide) rfl (fun ls hl => ?_)
        refine lv_iload_n hx hb dX0_stirState_138 rfl (lv_at hl 4 rfl) ?_
        refine lv_iconst (v := nI 2) hx hb dX0_stirState_139 (by decide) ?_
        refine mi_callS (As := [.int (p_rnds mem i 0), .int (nI 2)]) (rest := []) ⟨hx, hb, hml, hown, hW⟩ (c_rotateRight _ (p_rnds mem i 0) (nI 2)) gE_ok (va_cwS 2 hW (gS tw_224 tw_225 tw_11 tw_226) rfl rfl rfl (by decide +kernel) ⟨Nat.le_of_ble_eq_true rfl, Nat.le_of_ble_eq_true rfl⟩) hP hD hK hS hA hT rfl hl.1 rfl (Nat.le_of_ble_eq_true rfl) dX0_stirState_140 ⟨Nat.zero_le _, Nat.zero_le _⟩ (fun H locs hP hD hS => ?_)
        refine lv_iload_n hx hb dX0_stirState_143 rfl (lv_at hl 4 rfl) ?_
        refine lv_bipush (v := nI 13) hx hb dX0_stirState_144 (by decide) ?_
        refine mi_callS (As := [.int (p_rnds mem i 0), .int (nI 13)]) (rest := [.int (rotr (p_rnds mem i 0) (nI 2))]) ⟨hx, hb, hml, hown, hW⟩ (c_rotateRight _ (p_rnds mem i 0) (nI 13)) gE_ok (va_cwS 2 hW (gS tw_224 tw_225 tw_11 tw_226) rfl rfl rfl (by decide +kernel) ⟨Nat.le_of_ble_eq_true rfl, Nat.le_of_ble_eq_true rfl⟩) hP hD hK hS hA hT rfl hl.1 rfl (Nat.le_of_ble_eq_true rfl) dX0_stirState_146 ⟨Nat.zero_le _, Nat.zero_le _⟩ (fun H locs hP hD hS => ?_)
        refine lv_ixor hx hb dX0_stirState_149 ?_
        refine lv_iload_n hx hb dX0_stirState_150 rfl (lv_at hl 4 rfl) ?_
        refine lv_bipush (v := nI 22) hx hb dX0_stirState_151 (by decide) ?_
        refine mi_callS (As := [.int (p_rnds mem i 0), .int (nI 22)]) (rest := [.int ((rotr (p_rnds mem i 0) (nI 2)) ^^^ (rotr (p_rnds mem i 0) (nI 13)))]) ⟨hx, hb, hml, hown, hW⟩ (c_rotateRight _ (p_rnds mem i 0) (nI 22)) gE_ok (va_cwS 2 hW (gS tw_224 tw_225 tw_11 tw_226) rfl rfl rfl (by decide +kernel) ⟨Nat.le_of_ble_eq_true rfl, Nat.le_of_ble_eq_true rfl⟩) hP hD hK hS hA hT rfl hl.1 rfl (Nat.le_of_ble_eq_true rfl) dX0_stirState_153 ⟨Nat.zero_le _, Nat.zero_le _⟩ (fun H locs hP hD hS => ?_)
        refine lv_ixor hx hb dX0_stirState_156 ?_
        refine lv_istore (lv' := [(13, .int (((rotr (p_rnds mem i 0) (nI 2)) ^^^ (rotr (p_rnds mem i 0) (nI 13))) ^^^ (rotr (p_rnds mem i 0) (nI 22)))), (12, .int (((((p_rnds mem i 7) + (((rotr (p_rnds mem i 4) (nI 6)) ^^^ (rotr (p_rnds mem i 4) (nI 11))) ^^^ (rotr (p_rnds mem i 4) (nI 25)))) + (((p_rnds mem i 4) &&& (p_rnds mem i 5)) ^^^ (((p_rnds mem i 4) ^^^ (-1)) &&& (p_rnds mem i 6)))) + (kc i)) + (mem 4 i))), (11, .int (((p_rnds mem i 4) &&& (p_rnds mem i 5)) ^^^ (((p_rnds mem i 4) ^^^ (-1)) &&& (p_rnds mem i 6)))), (10, .int (((rotr (p_rnds mem i 4) (nI 6)) ^^^ (rotr (p_rnds mem i 4) (nI 11))) ^^^ (rotr (p_rnds mem i 4) (nI 25)))), (0, .ref (o 1)), (1, .int (p_rnds mem i 0)), (2, .int (p_rnds mem i 1)), (3, .int (p_rnds mem i 2)), (4, .int (p_rnds mem i 3)), (5, .int (p_rnds mem i 4)), (6, .int (p_rnds mem i 5)), (7, .int (p_rnds mem i 6)), (8, .int (p_rnds mem i 7)), (9, .int (nI i))]) hx hb dX0_stirState_157 hl (by decide) rfl (fun ls hl => ?_)
        refine lv_iload_n hx hb dX0_stirState_159 rfl (lv_at hl 5 rfl) ?_
        refine lv_iload_n hx hb dX0_stirState_160 rfl (lv_at hl 6 rfl) ?_
        refine lv_iand hx hb dX0_stirState_161 ?_
        refine lv_iload_n hx hb dX0_stirState_162 rfl (lv_at hl 5 rfl) ?_
        refine lv_iload_n hx hb dX0_stirState_163 rfl (lv_at hl 7 rfl) ?_
        refine lv_iand hx hb dX0_stirState_164 ?_
        refine lv_ixor hx hb dX0_stirState_165 ?_
        refine lv_iload_n hx hb dX0_stirState_166 rfl (lv_at hl 6 rfl) ?_
        refine lv_iload_n hx hb dX0_stirState_167 rfl (lv_at hl 7 rfl) ?_
        refine lv_iand hx hb dX0_stirState_168 ?_
        refine lv_ixor hx hb dX0_stirState_169 ?_
        refine lv_istore (lv' := [(14, .int ((((p_rnds mem i 0) &&& (p_rnds mem i 1)) ^^^ ((p_rnds mem i 0) &&& (p_rnds mem i 2))) ^^^ ((p_rnds mem i 1) &&& (p_rnds mem i 2)))), (13, .int (((rotr (p_rnds mem i 0) (nI 2)) ^^^ (rotr (p_rnds mem i 0) (nI 13))) ^^^ (rotr (p_rnds mem i 0) (nI 22)))), (12, .int (((((p_rnds mem i 7) + (((rotr (p_rnds mem i 4) (nI 6)) ^^^ (rotr (p_rnds mem i 4) (nI 11))) ^^^ (rotr (p_rnds mem i 4) (nI 25)))) + (((p_rnds mem i 4) &&& (p_rnds mem i 5)) ^^^ (((p_rnds mem i 4) ^^^ (-1)) &&& (p_rnds mem i 6)))) + (kc i)) + (mem 4 i))), (11, .int (((p_rnds mem i 4) &&& (p_rnds mem i 5)) ^^^ (((p_rnds mem i 4) ^^^ (-1)) &&& (p_rnds mem i 6)))), (10, .int (((rotr (p_rnds mem i 4) (nI 6)) ^^^ (rotr (p_rnds mem i 4) (nI 11))) ^^^ (rotr (p_rnds mem i 4) (nI 25)))), (0, .ref (o 1)), (1, .int (p_rnds mem i 0)), (2, .int (p_rnds mem i 1)), (3, .int (p_rnds mem i 2)), (4, .int (p_rnds mem i 3)), (5, .int (p_rnds mem i 4)), (6, .int (p_rnds mem i 5)), (7, .int (p_rnds mem i 6)), (8, .int (p_rnds mem i 7)), (9, .int (nI i))]) hx hb dX0_stirState_170 hl (by decide) rfl (fun ls hl => ?_)
        refine lv_iload hx hb dX0_stirState_172 (lv_at hl 12 rfl) ?_
        refine lv_istore (lv' := [(8, .int (p_rnds mem i 6)), (14, .int ((((p_rnds mem i 0) &&& (p_rnds mem i 1)) ^^^ ((p_rnds mem i 0) &&& (p_rnds mem i 2))) ^^^ ((p_rnds mem i 1) &&& (p_rnds mem i 2)))), (13, .int (((rotr (p_rnds mem i 0) (nI 2)) ^^^ (rotr (p_rnds mem i 0) (nI 13))) ^^^ (rotr (p_rnds mem i 0) (nI 22)))), (12, .int (((((p_rnds mem i 7) + (((rotr (p_rnds mem i 4) (nI 6)) ^^^ (rotr (p_rnds mem i 4) (nI 11))) ^^^ (rotr (p_rnds mem i 4) (nI 25)))) + (((p_rnds mem i 4) &&& (p_rnds mem i 5)) ^^^ (((p_rnds mem i 4) ^^^ (-1)) &&& (p_rnds mem i 6)))) + (kc i)) + (mem 4 i))), (11, .int (((p_rnds mem i 4) &&& (p_rnds mem i 5)) ^^^ (((p_rnds mem i 4) ^^^ (-1)) &&& (p_rnds mem i 6)))), (10, .int (((rotr (p_rnds mem i 4) (nI 6)) ^^^ (rotr (p_rnds mem i 4) (nI 11))) ^^^ (rotr (p_rnds mem i 4) (nI 25)))), (0, .ref (o 1)), (1, .int (p_rnds mem i 0)), (2, .int (p_rnds mem i 1)), (3, .int (p_rnds mem i 2)), (4, .int (p_rnds mem i 3)), (5, .int (p_rnds mem i 4)), (6, .int (p_rnds mem i 5)), (7, .int (p_rnds mem i 6)), (9, .int (nI i))]) hx hb dX0_stirState_174 hl (by decide) rfl (fun ls hl => ?_)
        refine lv_iload hx hb dX0_stirState_176 (lv_at hl 12 rfl) ?_
        refine lv_istore (lv' := [(7, .int (p_rnds mem i 5)), (8, .int (p_rnds mem i 6)), (14, .int ((((p_rnds mem i 0) &&& (p_rnds mem i 1)) ^^^ ((p_rnds mem i 0) &&& (p_rnds mem i 2))) ^^^ ((p_rnds mem i 1) &&& (p_rnds mem i 2)))), (13, .int (((rotr (p_rnds mem i 0) (nI 2)) ^^^ (rotr (p_rnds mem i 0) (nI 13))) ^^^ (rotr (p_rnds mem i 0) (nI 22)))), (12, .int (((((p_rnds mem i 7) + (((rotr (p_rnds mem i 4) (nI 6)) ^^^ (rotr (p_rnds mem i 4) (nI 11))) ^^^ (rotr (p_rnds mem i 4) (nI 25)))) + (((p_rnds mem i 4) &&& (p_rnds mem i 5)) ^^^ (((p_rnds mem i 4) ^^^ (-1)) &&& (p_rnds mem i 6)))) + (kc i)) + (mem 4 i))), (11, .int (((p_rnds mem i 4) &&& (p_rnds mem i 5)) ^^^ (((p_rnds mem i 4) ^^^ (-1)) &&& (p_rnds mem i 6)))), (10, .int (((rotr (p_rnds mem i 4) (nI 6)) ^^^ (rotr (p_rnds mem i 4) (nI 11))) ^^^ (rotr (p_rnds mem i 4) (nI 25)))), (0, .ref (o 1)), (1, .int (p_rnds mem i 0)), (2, .int (p_rnds mem i 1)), (3, .int (p_rnds mem i 2)), (4, .int (p_rnds mem i 3)), (5, .int (p_rnds mem i 4)), (6, .int (p_rnds mem i 5)), (9, .int (nI i))]) hx hb dX0_stirState_178 hl (by decide) rfl (fun ls hl => ?_)
        refine lv_iload hx hb dX0_stirState_180 (lv_at hl 12 rfl) ?_
        refine lv_istore (lv' := [(6, .int (p_rnds mem i 4)), (7, .int (p_rnds mem i 5)), (8, .int (p_rnds mem i 6)), (14, .int ((((p_rnds mem i 0) &&& (p_rnds mem i 1)) ^^^ ((p_rnds mem i 0) &&& (p_rnds mem i 2))) ^^^ ((p_rnds mem i 1) &&& (p_rnds mem i 2)))), (13, .int (((rotr (p_rnds mem i 0) (nI 2)) ^^^ (rotr (p_rnds mem i 0) (nI 13))) ^^^ (rotr (p_rnds mem i 0) (nI 22)))), (12, .int (((((p_rnds mem i 7) + (((rotr (p_rnds mem i 4) (nI 6)) ^^^ (rotr (p_rnds mem i 4) (nI 11))) ^^^ (rotr (p_rnds mem i 4) (nI 25)))) + (((p_rnds mem i 4) &&& (p_rnds mem i 5)) ^^^ (((p_rnds mem i 4) ^^^ (-1)) &&& (p_rnds mem i 6)))) + (kc i)) + (mem 4 i))), (11, .int (((p_rnds mem i 4) &&& (p_rnds mem i 5)) ^^^ (((p_rnds mem i 4) ^^^ (-1)) &&& (p_rnds mem i 6)))), (10, .int (((rotr (p_rnds mem i 4) (nI 6)) ^^^ (rotr (p_rnds mem i 4) (nI 11))) ^^^ (rotr (p_rnds mem i 4) (nI 25)))), (0, .ref (o 1)), (1, .int (p_rnds mem i 0)), (2, .int (p_rnds mem i 1)), (3, .int (p_rnds mem i 2)), (4, .int (p_rnds mem i 3)), (5, .int (p_rnds mem i 4)), (9, .int (nI i))]) hx hb dX0_stirState_182 hl (by decide) rfl (fun ls hl => ?_)
        refine lv_iload hx hb dX0_stirState_184 (lv_at hl 12 rfl) ?_
        refine lv_iload hx hb dX0_stirState_186 (lv_at hl 5 rfl) ?_
        refine lv_iadd hx hb dX0_stirState_188 ?_
        refine lv_istore (lv' := [(5, .int ((p_rnds mem i 3) + (((((p_rnds mem i 7) + (((rotr (p_rnds mem i 4) (nI 6)) ^^^ (rotr (p_rnds mem i 4) (nI 11))) ^^^ (rotr (p_rnds mem i 4) (nI 25)))) + (((p_rnds mem i 4) &&& (p_rnds mem i 5)) ^^^ (((p_rnds mem i 4) ^^^ (-1)) &&& (p_rnds mem i 6)))) + (kc i)) + (mem 4 i)))), (6, .int (p_rnds mem i 4)), (7, .int (p_rnds mem i 5)), (8, .int (p_rnds mem i 6)), (14, .int ((((p_rnds mem i 0) &&& (p_rnds mem i 1)) ^^^ ((p_rnds mem i 0) &&& (p_rnds mem i 2))) ^^^ ((p_rnds mem i 1) &&& (p_rnds mem i 2)))), (13, .int (((rotr (p_rnds mem i 0) (nI 2)) ^^^ (rotr (p_rnds mem i 0) (nI 13))) ^^^ (rotr (p_rnds mem i 0) (nI 22)))), (12, .int (((((p_rnds mem i 7) + (((rotr (p_rnds mem i 4) (nI 6)) ^^^ (rotr (p_rnds mem i 4) (nI 11))) ^^^ (rotr (p_rnds mem i 4) (nI 25)))) + (((p_rnds mem i 4) &&& (p_rnds mem i 5)) ^^^ (((p_rnds mem i 4) ^^^ (-1)) &&& (p_rnds mem i 6)))) + (kc i)) + (mem 4 i))), (11, .int (((p_rnds mem i 4) &&& (p_rnds mem i 5)) ^^^ (((p_rnds mem i 4) ^^^ (-1)) &&& (p_rnds mem i 6)))), (10, .int (((rotr (p_rnds mem i 4) (nI 6)) ^^^ (rotr (p_rnds mem i 4) (nI 11))) ^^^ (rotr (p_rnds mem i 4) (nI 25)))), (0, .ref (o 1)), (1, .int (p_rnds mem i 0)), (2, .int (p_rnds mem i 1)), (3, .int (p_rnds mem i 2)), (4, .int (p_rnds mem i 3)), (9, .int (nI i))]) hx hb dX0_stirState_189 hl (by decide) rfl (fun ls hl => ?_)
        refine lv_iload_n hx hb dX0_stirState_191 rfl (lv_at hl 12 rfl) ?_
        refine lv_istore (lv' := [(4, .int (p_rnds mem i 2)), (5, .int ((p_rnds mem i 3) + (((((p_rnds mem i 7) + (((rotr (p_rnds mem i 4) (nI 6)) ^^^ (rotr (p_rnds mem i 4) (nI 11))) ^^^ (rotr (p_rnds mem i 4) (nI 25)))) + (((p_rnds mem i 4) &&& (p_rnds mem i 5)) ^^^ (((p_rnds mem i 4) ^^^ (-1)) &&& (p_rnds mem i 6)))) + (kc i)) + (mem 4 i)))), (6, .int (p_rnds mem i 4)), (7, .int (p_rnds mem i 5)), (8, .int (p_rnds mem i 6)), (14, .int ((((p_rnds mem i 0) &&& (p_rnds mem i 1)) ^^^ ((p_rnds mem i 0) &&& (p_rnds mem i 2))) ^^^ ((p_rnds mem i 1) &&& (p_rnds mem i 2)))), (13, .int (((rotr (p_rnds mem i 0) (nI 2)) ^^^ (rotr (p_rnds mem i 0) (nI 13))) ^^^ (rotr (p_rnds mem i 0) (nI 22)))), (12, .int (((((p_rnds mem i 7) + (((rotr (p_rnds mem i 4) (nI 6)) ^^^ (rotr (p_rnds mem i 4) (nI 11))) ^^^ (rotr (p_rnds mem i 4) (nI 25)))) + (((p_rnds mem i 4) &&& (p_rnds mem i 5)) ^^^ (((p_rnds mem i 4) ^^^ (-1)) &&& (p_rnds mem i 6)))) + (kc i)) + (mem 4 i))), (11, .int (((p_rnds mem i 4) &&& (p_rnds mem i 5)) ^^^ (((p_rnds mem i 4) ^^^ (-1)) &&& (p_rnds mem i 6)))), (10, .int (((rotr (p_rnds mem i 4) (nI 6)) ^^^ (rotr (p_rnds mem i 4) (nI 11))) ^^^ (rotr (p_rnds mem i 4) (nI 25)))), (0, .ref (o 1)), (1, .int (p_rnds mem i 0)), (2, .int (p_rnds mem i 1)), (3, .int (p_rnds mem i 2)), (9, .int (nI i))]) hx hb dX0_stirState_192 hl (by decide) rfl (fun ls hl => ?_)
        refine lv_iload_n hx hb dX0_stirState_194 rfl (lv_at hl 12 rfl) ?_
        refine lv_istore_n (lv' := [(3, .int (p_rnds mem i 1)), (4, .int (p_rnds mem i 2)), (5, .int ((p_rnds mem i 3) + (((((p_rnds mem i 7) + (((rotr (p_rnds mem i 4) (nI 6)) ^^^ (rotr (p_rnds mem i 4) (nI 11))) ^^^ (rotr (p_rnds mem i 4) (nI 25)))) + (((p_rnds mem i 4) &&& (p_rnds mem i 5)) ^^^ (((p_rnds mem i 4) ^^^ (-1)) &&& (p_rnds mem i 6)))) + (kc i)) + (mem 4 i)))), (6, .int (p_rnds mem i 4)), (7, .int (p_rnds mem i 5)), (8, .int (p_rnds mem i 6)), (14, .int ((((p_rnds mem i 0) &&& (p_rnds mem i 1)) ^^^ ((p_rnds mem i 0) &&& (p_rnds mem i 2))) ^^^ ((p_rnds mem i 1) &&& (p_rnds mem i 2)))), (13, .int (((rotr (p_rnds mem i 0) (nI 2)) ^^^ (rotr (p_rnds mem i 0) (nI 13))) ^^^ (rotr (p_rnds mem i 0) (nI 22)))), (12, .int (((((p_rnds mem i 7) + (((rotr (p_rnds mem i 4) (nI 6)) ^^^ (rotr (p_rnds mem i 4) (nI 11))) ^^^ (rotr (p_rnds mem i 4) (nI 25)))) + (((p_rnds mem i 4) &&& (p_rnds mem i 5)) ^^^ (((p_rnds mem i 4) ^^^ (-1)) &&& (p_rnds mem i 6)))) + (kc i)) + (mem 4 i))), (11, .int (((p_rnds mem i 4) &&& (p_rnds mem i 5)) ^^^ (((p_rnds mem i 4) ^^^ (-1)) &&& (p_rnds mem i 6)))), (10, .int (((rotr (p_rnds mem i 4) (nI 6)) ^^^ (rotr (p_rnds mem i 4) (nI 11))) ^^^ (rotr (p_rnds mem i 4) (nI 25)))), (0, .ref (o 1)), (1, .int (p_rnds mem i 0)), (2, .int (p_rnds mem i 1)), (9, .int (nI i))]) hx hb dX0_stirState_195 rfl hl (by decide) rfl (fun ls hl => ?_)
        refine lv_iload_n hx hb dX0_stirState_196 rfl (lv_at hl 12 rfl) ?_
        refine lv_istore_n (lv' := [(2, .int (p_rnds mem i 0)), (3, .int (p_rnds mem i 1)), (4, .int (p_rnds mem i 2)), (5, .int ((p_rnds mem i 3) + (((((p_rnds mem i 7) + (((rotr (p_rnds mem i 4) (nI 6)) ^^^ (rotr (p_rnds mem i 4) (nI 11))) ^^^ (rotr (p_rnds mem i 4) (nI 25)))) + (((p_rnds mem i 4) &&& (p_rnds mem i 5)) ^^^ (((p_rnds mem i 4) ^^^ (-1)) &&& (p_rnds mem i 6)))) + (kc i)) + (mem 4 i)))), (6, .int (p_rnds mem i 4)), (7, .int (p_rnds mem i 5)), (8, .int (p_rnds mem i 6)), (14, .int ((((p_rnds mem i 0) &&& (p_rnds mem i 1)) ^^^ ((p_rnds mem i 0) &&& (p_rnds mem i 2))) ^^^ ((p_rnds mem i 1) &&& (p_rnds mem i 2)))), (13, .int (((rotr (p_rnds mem i 0) (nI 2)) ^^^ (rotr (p_rnds mem i 0) (nI 13))) ^^^ (rotr (p_rnds mem i 0) (nI 22)))), (12, .int (((((p_rnds mem i 7) + (((rotr (p_rnds mem i 4) (nI 6)) ^^^ (rotr (p_rnds mem i 4) (nI 11))) ^^^ (rotr (p_rnds mem i 4) (nI 25)))) + (((p_rnds mem i 4) &&& (p_rnds mem i 5)) ^^^ (((p_rnds mem i 4) ^^^ (-1)) &&& (p_rnds mem i 6)))) + (kc i)) + (mem 4 i))), (11, .int (((p_rnds mem i 4) &&& (p_rnds mem i 5)) ^^^ (((p_rnds mem i 4) ^^^ (-1)) &&& (p_rnds mem i 6)))), (10, .int (((rotr (p_rnds mem i 4) (nI 6)) ^^^ (rotr (p_rnds mem i 4) (nI 11))) ^^^ (rotr (p_rnds mem i 4) (nI 25)))), (0, .ref (o 1)), (1, .int (p_rnds mem i 0)), (9, .int (nI i))]) hx hb dX0_stirState_197 rfl hl (by decide) rfl (fun ls hl => ?_)
        refine lv_iload hx hb dX0_stirState_198 (lv_at hl 9 rfl) ?_
        refine lv_iload hx hb dX0_stirState_200 (lv_at hl 8 rfl) ?_
        refine lv_iadd hx hb dX0_stirState_202 ?_
        refine lv_iload hx hb dX0_stirState_203 (lv_at hl 7 rfl) ?_
        refine lv_iadd hx hb dX0_stirState_205 ?_
        refine lv_istore_n (lv' := [(1, .int (((((((p_rnds mem i 7) + (((rotr (p_rnds mem i 4) (nI 6)) ^^^ (rotr (p_rnds mem i 4) (nI 11))) ^^^ (rotr (p_rnds mem i 4) (nI 25)))) + (((p_rnds mem i 4) &&& (p_rnds mem i 5)) ^^^ (((p_rnds mem i 4) ^^^ (-1)) &&& (p_rnds mem i 6)))) + (kc i)) + (mem 4 i)) + (((rotr (p_rnds mem i 0) (nI 2)) ^^^ (rotr (p_rnds mem i 0) (nI 13))) ^^^ (rotr (p_rnds mem i 0) (nI 22)))) + ((((p_rnds mem i 0) &&& (p_rnds mem i 1)) ^^^ ((p_rnds mem i 0) &&& (p_rnds mem i 2))) ^^^ ((p_rnds mem i 1) &&& (p_rnds mem i 2))))), (2, .int (p_rnds mem i 0)), (3, .int (p_rnds mem i 1)), (4, .int (p_rnds mem i 2)), (5, .int ((p_rnds mem i 3) + (((((p_rnds mem i 7) + (((rotr (p_rnds mem i 4) (nI 6)) ^^^ (rotr (p_rnds mem i 4) (nI 11))) ^^^ (rotr (p_rnds mem i 4) (nI 25)))) + (((p_rnds mem i 4) &&& (p_rnds mem i 5)) ^^^ (((p_rnds mem i 4) ^^^ (-1)) &&& (p_rnds mem i 6)))) + (kc i)) + (mem 4 i)))), (6, .int (p_rnds mem i 4)), (7, .int (p_rnds mem i 5)), (8, .int (p_rnds mem i 6)), (14, .int ((((p_rnds mem i 0) &&& (p_rnds mem i 1)) ^^^ ((p_rnds mem i 0) &&& (p_rnds mem i 2))) ^^^ ((p_rnds mem i 1) &&& (p_rnds mem i 2)))), (13, .int (((rotr (p_rnds mem i 0) (nI 2)) ^^^ (rotr (p_rnds mem i 0) (nI 13))) ^^^ (rotr (p_rnds mem i 0) (nI 22)))), (12, .int (((((p_rnds mem i 7) + (((rotr (p_rnds mem i 4) (nI 6)) ^^^ (rotr (p_rnds mem i 4) (nI 11))) ^^^ (rotr (p_rnds mem i 4) (nI 25)))) + (((p_rnds mem i 4) &&& (p_rnds mem i 5)) ^^^ (((p_rnds mem i 4) ^^^ (-1)) &&& (p_rnds mem i 6)))) + (kc i)) + (mem 4 i))), (11, .int (((p_rnds mem i 4) &&& (p_rnds mem i 5)) ^^^ (((p_rnds mem i 4) ^^^ (-1)) &&& (p_rnds mem i 6)))), (10, .int (((rotr (p_rnds mem i 4) (nI 6)) ^^^ (rotr (p_rnds mem i 4) (nI 11))) ^^^ (rotr (p_rnds mem i 4) (nI 25)))), (0, .ref (o 1)), (9, .int (nI i))]) hx hb dX0_stirState_206 rfl hl (by decide) rfl (fun ls hl => ?_)
        refine lv_iinc (v := nI (i + 1)) (lv' := [(9, .int (nI (i + 1))), (1, .int (((((((p_rnds mem i 7) + (((rotr (p_rnds mem i 4) (nI 6)) ^^^ (rotr (p_rnds mem i 4) (nI 11))) ^^^ (rotr (p_rnds mem i 4) (nI 25)))) + (((p_rnds mem i 4) &&& (p_rnds mem i 5)) ^^^ (((p_rnds mem i 4) ^^^ (-1)) &&& (p_rnds mem i 6)))) + (kc i)) + (mem 4 i)) + (((rotr (p_rnds mem i 0) (nI 2)) ^^^ (rotr (p_rnds mem i 0) (nI 13))) ^^^ (rotr (p_rnds mem i 0) (nI 22)))) + ((((p_rnds mem i 0) &&& (p_rnds mem i 1)) ^^^ ((p_rnds mem i 0) &&& (p_rnds mem i 2))) ^^^ ((p_rnds mem i 1) &&& (p_rnds mem i 2))))), (2, .int (p_rnds mem i 0)), (3, .int (p_rnds mem i 1)), (4, .int (p_rnds mem i 2)), (5, .int ((p_rnds mem i 3) + (((((p_rnds mem i 7) + (((rotr (p_rnds mem i 4) (nI 6)) ^^^ (rotr (p_rnds mem i 4) (nI 11))) ^^^ (rotr (p_rnds mem i 4) (nI 25)))) + (((p_rnds mem i 4) &&& (p_rnds mem i 5)) ^^^ (((p_rnds mem i 4) ^^^ (-1)) &&& (p_rnds mem i 6)))) + (kc i)) + (mem 4 i)))), (6, .int (p_rnds mem i 4)), (7, .int (p_rnds mem i 5)), (8, .int (p_rnds mem i 6)), (14, .int ((((p_rnds mem i 0) &&& (p_rnds mem i 1)) ^^^ ((p_rnds mem i 0) &&& (p_rnds mem i 2))) ^^^ ((p_rnds mem i 1) &&& (p_rnds mem i 2)))), (13, .int (((rotr (p_rnds mem i 0) (nI 2)) ^^^ (rotr (p_rnds mem i 0) (nI 13))) ^^^ (rotr (p_rnds mem i 0) (nI 22)))), (12, .int (((((p_rnds mem i 7) + (((rotr (p_rnds mem i 4) (nI 6)) ^^^ (rotr (p_rnds mem i 4) (nI 11))) ^^^ (rotr (p_rnds mem i 4) (nI 25)))) + (((p_rnds mem i 4) &&& (p_rnds mem i 5)) ^^^ (((p_rnds mem i 4) ^^^ (-1)) &&& (p_rnds mem i 6)))) + (kc i)) + (mem 4 i))), (11, .int (((p_rnds mem i 4) &&& (p_rnds mem i 5)) ^^^ (((p_rnds mem i 4) ^^^ (-1)) &&& (p_rnds mem i 6)))), (10, .int (((rotr (p_rnds mem i 4) (nI 6)) ^^^ (rotr (p_rnds mem i 4) (nI 11))) ^^^ (rotr (p_rnds mem i 4) (nI 25)))), (0, .ref (o 1))]) hx hb dX0_stirState_207 hl (k := 14) rfl (nI_1 i) (by decide) rfl (fun ls hl => ?_)
        refine lv_goto (tgt := 66) hx hb dX0_stirState_210 (by decide) ?_
        exact ih (i + 1) H locs ls (by omega) hP hD hS (lv_sub hl [14, 1, 2, 3, 4, 5, 6, 7, 8, 0] rfl)
  refine lv_aload_n hx hb dX0_stirState_0 rfl (lv_at hl 0 rfl) ?_
  refine va_get (D := D) (ci := 1) (v := .ref (ad 5)) (C := RX0) (T := TX0) (N := 4) hx hb hW iSH hown hK hP 1 rfl rfl 3 (by decide) (hW _ tw_31) (fun _ h9 => h9) rfl dX0_stirState_1 ?_
  refine lv_iconst (v := nI 0) hx hb dX0_stirState_4 (by decide) ?_
  refine m_ld (X := wX o ad cZ cG tl lc wc dc pn (nI n) isw) hx hb hK hP 0 5 0 rfl (by decide) (show 0 < 8 by omega) (by decide) dX0_stirState_5 ?_
  refine lv_istore_n (lv' := [(1, .int (mem 5 0)), (0, .ref (o 1))]) hx hb dX0_stirState_6 rfl hl (by decide) rfl (fun ls hl => ?_)
  refine lv_aload_n hx hb dX0_stirState_7 rfl (lv_at hl 1 rfl) ?_
  refine va_get (D := D) (ci := 1) (v := .ref (ad 5)) (C := RX0) (T := TX0) (N := 4) hx hb hW iSH hown hK hP 1 rfl rfl 3 (by decide) (hW _ tw_31) (fun _ h9 => h9) rfl dX0_stirState_8 ?_
  refine lv_iconst (v := nI 1) hx hb dX0_stirState_11 (by decide) ?_
  refine m_ld (X := wX o ad cZ cG tl lc wc dc pn (nI n) isw) hx hb hK hP 0 5 1 rfl (by decide) (show 1 < 8 by omega) (by decide) dX0_stirState_12 ?_
  refine lv_istore_n (lv' := [(2, .int (mem 5 1)), (1, .int (mem 5 0)), (0, .ref (o 1))]) hx hb dX0_stirState_13 rfl hl (by decide) rfl (fun ls hl => ?_)
  refine lv_aload_n hx hb dX0_stirState_14 rfl (lv_at hl 2 rfl) ?_
  refine va_get (D := D) (ci := 1) (v := .ref (ad 5)) (C := RX0) (T := TX0) (N := 4) hx hb hW iSH hown hK hP 1 rfl rfl 3 (by decide) (hW _ tw_31) (fun _ h9 => h9) rfl dX0_stirState_15 ?_
  refine lv_iconst (v := nI 2) hx hb dX0_stirState_18 (by decide) ?_
  refine m_ld (X := wX o ad cZ cG tl lc wc dc pn (nI n) isw) hx hb hK hP 0 5 2 rfl (by decide) (show 2 < 8 by omega) (by decide) dX0_stirState_19 ?_
  refine lv_istore_n (lv' := [(3, .int (mem 5 2)), (2, .int (mem 5 1)), (1, .int (mem 5 0)), (0, .ref (o 1))]) hx hb dX0_stirState_20 rfl hl (by decide) rfl (fun ls hl => ?_)
  refine lv_aload_n hx hb dX0_stirState_21 rfl (lv_at hl 3 rfl) ?_
  refine va_get (D := D) (ci := 1) (v := .ref (ad 5)) (C := RX0) (T := TX0) (N := 4) hx hb hW iSH hown hK hP 1 rfl rfl 3 (by decide) (hW _ tw_31) (fun _ h9 => h9) rfl dX0_stirState_22 ?_
  refine lv_iconst (v := nI 3) hx hb dX0_stirState_25 (by decide) ?_
  refine m_ld (X := wX o ad cZ cG tl lc wc dc pn (nI n) isw) hx hb hK hP 0 5 3 rfl (by decide) (show 3 < 8 by omega) (by decide) dX0_stirState_26 ?_
  refine lv_istore (lv' := [(4, .int (mem 5 3)), (3, .int (mem 5 2)), (2, .int (mem 5 1)), (1, .int (mem 5 0)), (0, .ref (o 1))]) hx hb dX0_stirState_27 hl (by decide) rfl (fun ls hl => ?_)
  refine lv_aload_n hx hb dX0_stirState_29 rfl (lv_at hl 4 rfl) ?_
  refine va_get (D := D) (ci := 1) (v := .ref (ad 5)) (C := RX0) (T := TX0) (N := 4) hx hb hW iSH hown hK hP 1 rfl rfl 3 (by decide) (hW _ tw_31) (fun _ h9 => h9) rfl dX0_stirState_30 ?_
  refine lv_iconst (v := nI 4) hx hb dX0_stirState_33 (by decide) ?_
  refine m_ld (X := wX o ad cZ cG tl lc wc dc pn (nI n) isw) hx hb hK hP 0 5 4 rfl (by decide) (show 4 < 8 by omega) (by decide) dX0_stirState_34 ?_
  refine lv_istore (lv' := [(5, .int (mem 5 4)), (4, .int (mem 5 3)), (3, .int (mem 5 2)), (2, .int (mem 5 1)), (1, .int (mem 5 0)), (0, .ref (o 1))]) hx hb dX0_stirState_35 hl (by decide) rfl (fun ls hl => ?_)
  refine lv_aload_n hx hb dX0_stirState_37 rfl (lv_at hl 5 rfl) ?_
  refine va_get (D := D) (ci := 1) (v := .ref (ad 5)) (C := RX0) (T := TX0) (N := 4) hx hb hW iSH hown hK hP 1 rfl rfl 3 (by decide) (hW _ tw_31) (fun _ h9 => h9) rfl dX0_stirState_38 ?_
  refine lv_iconst (v := nI 5) hx hb dX0_stirState_41 (by decide) ?_
  refine m_ld (X := wX o ad cZ cG tl lc wc dc pn (nI n) isw) hx hb hK hP 0 5 5 rfl (by decide) (show 5 < 8 by omega) (by decide) dX0_stirState_42 ?_
  refine lv_istore (lv' := [(6, .int (mem 5 5)), (5, .int (mem 5 4)), (4, .int (mem 5 3)), (3, .int (mem 5 2)), (2, .int (mem 5 1)), (1, .int (mem 5 0)), (0, .ref (o 1))]) hx hb dX0_stirState_43 hl (by decide) rfl (fun ls hl => ?_)
  refine lv_aload_n hx hb dX0_stirState_45 rfl (lv_at hl 6 rfl) ?_
  refine va_get (D := D) (ci := 1) (v := .ref (ad 5)) (C := RX0) (T := TX0) (N := 4) hx hb hW iSH hown hK hP 1 rfl rfl 3 (by decide) (hW _ tw_31) (fun _ h9 => h9) rfl dX0_stirState_46 ?_
  refine lv_bipush (v := nI 6) hx hb dX0_stirState_49 (by decide) ?_
  refine m_ld (X := wX o ad cZ cG tl lc wc dc pn (nI n) isw) hx hb hK hP 0 5 6 rfl (by decide) (show 6 < 8 by omega) (by decide) dX0_stirState_51 ?_
  refine lv_istore (lv' := [(7, .int (mem 5 6)), (6, .int (mem 5 5)), (5, .int (mem 5 4)), (4, .int (mem 5 3)), (3, .int (mem 5 2)), (2, .int (mem 5 1)), (1, .int (mem 5 0)), (0, .ref (o 1))]) hx hb dX0_stirState_52 hl (by decide) rfl (fun ls hl => ?_)
  refine lv_aload_n hx hb dX0_stirState_54 rfl (lv_at hl 7 rfl) ?_
  refine va_get (D := D) (ci := 1) (v := .ref (ad 5)) (C := RX0) (T := TX0) (N := 4) hx hb hW iSH hown hK hP 1 rfl rfl 3 (by decide) (hW _ tw_31) (fun _ h9 => h9) rfl dX0_stirState_55 ?_
  refine lv_bipush (v := nI 7) hx hb dX0_stirState_58 (by decide) ?_
  refine m_ld (X := wX o ad cZ cG tl lc wc dc pn (nI n) isw) hx hb hK hP 0 5 7 rfl (by decide) (show 7 < 8 by omega) (by decide) dX0_stirState_60 ?_
  refine lv_istore (lv' := [(8, .int (mem 5 7)), (7, .int (mem 5 6)), (6, .int (mem 5 5)), (5, .int (mem 5 4)), (4, .int (mem 5 3)), (3, .int (mem 5 2)), (2, .int (mem 5 1)), (1, .int (mem 5 0)), (0, .ref (o 1))]) hx hb dX0_stirState_61 hl (by decide) rfl (fun ls hl => ?_)
  refine lv_iconst (v := nI 0) hx hb dX0_stirState_63 (by decide) ?_
  refine lv_istore (lv' := [(9, .int (nI 0)), (8, .int (mem 5 7)), (7, .int (mem 5 6)), (6, .int (mem 5 5)), (5, .int (mem 5 4)), (4, .int (mem 5 3)), (3, .int (mem 5 2)), (2, .int (mem 5 1)), (1, .int (mem 5 0)), (0, .ref (o 1))]) hx hb dX0_stirState_64 hl (by decide) rfl (fun ls hl => ?_)
  exact loop 64 0 s.heap [] ls (by omega) hP hD hS (lv_sub hl [9, 8, 7, 6, 5, 4, 3, 2, 1, 0] rfl)
