theorem pz_s (i : Nat) (z : Nat × xMem) : itr (fun _ => p_take (nI 0)) (i + 1) z = P_take (nI 0) (itr (fun _ => p_take (nI 0)) i z) := by rw [itr_s, P_take_e]
theorem p_rnds_0 (m : xMem) : p_rnds m 0 = m 5 := rfl
theorem lenM_lt (k : Nat) : lenM k < 2 ^ 31 := by
  unfold lenM
  split <;> decide
theorem p_in_nar (x a b : Int32) : narrow .boolean (.int (p_in x a b)) = .int (p_in x a b) := by
  unfold p_in
  split
  · rfl
  · split <;> rfl
theorem p_long_s (v : Int64) (i : Nat) (z : Nat × xMem) : p_takeLongN v (i + 1) z = p_take ((lush v (p_sh i)).toInt32 &&& nI 255) (p_takeLongN v i z) := rfl
set_option maxHeartbeats 4000000 in
set_option maxRecDepth 100000 in
theorem n_thrown {l : Launch} {D : va_G} {om am : Nat → Nat} {cI cZ cG : ClassId} {th tp lv dy pv pm by_ pt wy : Int32} {gone oR : Nat → Int32} (mem : xMem) : MI l nE yX2_thrown (.code yX2_thrown cX2_thrown 1 (some .int) :: tW) ({ frames := 0, cells := 0, slots := 0, locals := 0 }) D vwCl (tC cI cZ cG) [.ref (om 0)] (wM om am cI cZ th tp lv dy pv pm by_ pt wy gone oR mem) (wM om am cI cZ th tp lv dy pv pm by_ pt wy gone oR mem) (th) := by
  refine MI.ofW (by decide +kernel) rfl (Nat.le_of_ble_eq_true rfl) ?_
  intro p e s m below meth c A ls hx hb hr hts hown hlk hml hA hP hK hD hT hl
  have hS : va_S A s.heap s.heap [] := va_S.rf
  have hown : s.vm.findClass RX2 = some m.cls := hown
  have hW : ∀ w ∈ tW, w.before _ s = true := fun w h => hts w (List.mem_cons_of_mem _ h)
  have hl : lv_has ls 1 [(0, .ref (om 0))] := hl
  refine lv_aload_n hx hb dX2_thrown_0 rfl (lv_at hl 0 rfl) ?_
  refine va_get (D := D) (ci := 2) (v := .int th) (C := RX2) (T := TX2) (N := 25) hx hb hW iMD hown hK hP 0 rfl rfl 0 (by decide) (hW _ tw_514) (fun _ h9 => h9) rfl dX2_thrown_1 ?_
  have hP : va_P D vwCl (wM om am cI cZ th tp lv dy pv pm by_ pt wy gone oR mem) s.heap := by exact hP
  have hD : va_D A (wM om am cI cZ th tp lv dy pv pm by_ pt wy gone oR mem) := by exact hD
  exact mi_ret hx hb hr (rfl) hlk hS hP hD (rfl) dX2_thrown_4
set_option maxHeartbeats 4000000 in
set_option maxRecDepth 100000 in
theorem n_in {l : Launch} {D : va_G} {cI cZ cG : ClassId} (w : va_W) (x a b : Int32) : MI l nE yX2_in (.code yX2_in cX2_in 3 (some .boolean) :: tW) ({ frames := 0, cells := 0, slots := 0, locals := 0 }) D vwCl (tC cI cZ cG) [.int x, .int a, .int b] (w) (w) (p_in x a b) := by
  refine MI.ofW (by decide +kernel) rfl (Nat.le_of_ble_eq_true rfl) ?_
  intro p e s m below meth c A ls hx hb hr hts hown hlk hml hA hP hK hD hT hl
  have hS : va_S A s.heap s.heap [] := va_S.rf
  have hown : s.vm.findClass RX2 = some m.cls := hown
  have hW : ∀ w ∈ tW, w.before _ s = true := fun w h => hts w (List.mem_cons_of_mem _ h)
  have hl : lv_has ls 3 [(0, .int x), (1, .int a), (2, .int b)] := hl
  refine lv_iload_n hx hb dX2_in_0 rfl (lv_at hl 0 rfl) ?_
  refine lv_iload_n hx hb dX2_in_1 rfl (lv_at hl 1 rfl) ?_
  refine lv_icmp_lt (tgt := 14) hx hb dX2_in_2 (by decide) (fun ha => ?_) (fun ha => ?_)
  · refine lv_iconst (v := nI 0) hx hb dX2_in_14 (by decide) ?_
    have hP : va_P D vwCl (w) s.heap := by exact hP
    have hD : va_D A (w) := by exact hD
    exact mi_ret hx hb hr (rfl) hlk hS hP hD ((if_pos ha).symm) dX2_in_15
  · refine lv_iload_n hx hb dX2_in_5 rfl (lv_at hl 0 rfl) ?_
    refine lv_iload_n hx hb dX2_in_6 rfl (lv_at hl 2 rfl) ?_
    refine lv_icmp_gt (tgt := 14) hx hb dX2_in_7 (by decide) (fun hc => ?_) (fun hc => ?_)
    · refine lv_iconst (v := nI 0) hx hb dX2_in_14 (by decide) ?_
      have hP : va_P D vwCl (w) s.heap := by exact hP
      have hD : va_D A (w) := by exact hD
      exact mi_ret hx hb hr (rfl) hlk hS hP hD (((if_neg ha).trans (if_pos hc)).symm) dX2_in_15
    · refine lv_iconst (v := nI 1) hx hb dX2_in_10 (by decide) ?_
      refine lv_goto (tgt := 15) hx hb dX2_in_11 (by decide) ?_
      have hP : va_P D vwCl (w) s.heap := by exact hP
      have hD : va_D A (w) := by exact hD
      exact mi_ret hx hb hr (rfl) hlk hS hP hD (((if_neg ha).trans (if_neg hc)).symm) dX2_in_15
set_option maxHeartbeats 4000000 in
set_option maxRecDepth 100000 in
theorem n_goes {l : Launch} {D : va_G} {om am : Nat → Nat} {cI cZ cG : ClassId} {th tp lv dy pv pm by_ pt wy : Int32} {gone oR : Nat → Int32} (a b c0 t r : Int32) (mem : xMem) (ht : gth a b c0 = t) (hr0 : (if t = 0 then nI 1 else nI 0) = r) : MI l nE yX2_goes (.code yX2_goes cX2_goes 4 (some .boolean) :: tW) ({ frames := 0, cells := 0, slots := 0, locals := 0 }) D vwCl (tC cI cZ cG) [.ref (om 0), .int a, .int b, .int c0] (wM om am cI cZ th tp lv dy pv pm by_ pt wy gone oR mem) (wM om am cI cZ t tp lv dy pv pm by_ pt wy gone oR mem) (r) := by
  refine MI.ofW (by decide +kernel) rfl (Nat.le_of_ble_eq_true rfl) ?_
  intro p e s m below meth c A ls hx hb hr hts hown hlk hml hA hP hK hD hT hl
  have hS : va_S A s.heap s.heap [] := va_S.rf
  have hown : s.vm.findClass RX2 = some m.cls := hown
  have hW : ∀ w ∈ tW, w.before _ s = true := fun w h => hts w (List.mem_cons_of_mem _ h)
  have hl : lv_has ls 4 [(0, .ref (om 0)), (1, .int a), (2, .int b), (3, .int c0)] := hl
  refine lv_aload_n hx hb dX2_goes_0 rfl (lv_at hl 0 rfl) ?_
  refine lv_iload_n hx hb dX2_goes_1 rfl (lv_at hl 1 rfl) ?_
  refine lv_if_ne (tgt := 9) hx hb dX2_goes_2 (by decide) (fun ha => ?_) (fun ha => ?_)
  · refine lv_iload_n hx hb dX2_goes_9 rfl (lv_at hl 2 rfl) ?_
    refine lv_if_ne (tgt := 17) hx hb dX2_goes_10 (by decide) (fun hb2 => ?_) (fun hb2 => ?_)
    · refine lv_iload_n hx hb dX2_goes_17 rfl (lv_at hl 3 rfl) ?_
      refine lv_if_ne (tgt := 25) hx hb dX2_goes_18 (by decide) (fun hc => ?_) (fun hc => ?_)
      · have ht9 : t = nI 0 := ht.symm.trans ((if_neg ha).trans ((if_neg hb2).trans (if_neg hc)))
        refine lv_iconst (v := nI 0) hx hb dX2_goes_25 (by decide) ?_
        refine va_put (D := D) (ci := 2) (v := .int (nI 0)) (ty := .int) (C := RX2) (T := TX2) (N := 25) hx hb hW iMD tyX2 tyX2_ok nmX2 hown hK hP hD hS 0 rfl rfl 0 (by decide) (hW _ tw_514) (fun _ h9 => h9) rfl (by decide +kernel) rfl rfl (Nat.le_of_ble_eq_true rfl) dX2_goes_26 (fun H locs hP hD hS => ?_)
        have hP : va_P D vwCl (wM om am cI cZ (nI 0) tp lv dy pv pm by_ pt wy gone oR mem) H := hP
        have hD : va_D A (wM om am cI cZ (nI 0) tp lv dy pv pm by_ pt wy gone oR mem) := hD
        refine lv_aload_n hx hb dX2_goes_29 rfl (lv_at hl 0 rfl) ?_
        refine va_get (D := D) (ci := 2) (v := .int (nI 0)) (C := RX2) (T := TX2) (N := 25) hx hb hW iMD hown hK hP 0 rfl rfl 0 (by decide) (hW _ tw_514) (fun _ h9 => h9) rfl dX2_goes_30 ?_
        refine lv_if_ne (tgt := 40) hx hb dX2_goes_33 (by decide) (fun hq9 => absurd (by decide) hq9) (fun _ => ?_)
        refine lv_iconst (v := nI 1) hx hb dX2_goes_36 (by decide) ?_
        refine lv_goto (tgt := 41) hx hb dX2_goes_37 (by decide) ?_
        have hP : va_P D vwCl (wM om am cI cZ t tp lv dy pv pm by_ pt wy gone oR mem) H := by rw [ht9]; exact hP
        have hD : va_D A (wM om am cI cZ t tp lv dy pv pm by_ pt wy gone oR mem) := by rw [ht9]; exact hD
        exact mi_ret hx hb hr (rfl) hlk hS hP hD (by rw [← hr0, ht9]; decide) dX2_goes_41
      · have ht9 : t = nI 3 := ht.symm.trans ((if_neg ha).trans ((if_neg hb2).trans (if_pos hc)))
        refine lv_iconst (v := nI 3) hx hb dX2_goes_21 (by decide) ?_
        refine lv_goto (tgt := 26) hx hb dX2_goes_22 (by decide) ?_
        refine va_put (D := D) (ci := 2) (v := .int (nI 3)) (ty := .int) (C := RX2) (T := TX2) (N := 25) hx hb hW iMD tyX2 tyX2_ok nmX2 hown hK hP hD hS 0 rfl rfl 0 (by decide) (hW _ tw_514) (fun _ h9 => h9) rfl (by decide +kernel) rfl rfl (Nat.le_of_ble_eq_true rfl) dX2_goes_26 (fun H locs hP hD hS => ?_)
        have hP : va_P D vwCl (wM om am cI cZ (nI 3) tp lv dy pv pm by_ pt wy gone oR mem) H := hP
        have hD : va_D A (wM om am cI cZ (nI 3) tp lv dy pv pm by_ pt wy gone oR mem) := hD
        refine lv_aload_n hx hb dX2_goes_29 rfl (lv_at hl 0 rfl) ?_
        refine va_get (D := D) (ci := 2) (v := .int (nI 3)) (C := RX2) (T := TX2) (N := 25) hx hb hW iMD hown hK hP 0 rfl rfl 0 (by decide) (hW _ tw_514) (fun _ h9 => h9) rfl dX2_goes_30 ?_
        refine lv_if_ne (tgt := 40) hx hb dX2_goes_33 (by decide) (fun _ => ?_) (fun hq9 => absurd hq9 (by decide))
        refine lv_iconst (v := nI 0) hx hb dX2_goes_40 (by decide) ?_
        have hP : va_P D vwCl (wM om am cI cZ t tp lv dy pv pm by_ pt wy gone oR mem) H := by rw [ht9]; exact hP
        have hD : va_D A (wM om am cI cZ t tp lv dy pv pm by_ pt wy gone oR mem) := by rw [ht9]; exact hD
        exact mi_ret hx hb hr (rfl) hlk hS hP hD (by rw [← hr0, ht9]; decide) dX2_goes_41
    · have ht9 : t = nI 2 := ht.symm.trans ((if_neg ha).trans (if_pos hb2))
      refine lv_iconst (v := nI 2) hx hb dX2_goes_13 (by decide) ?_
      refine lv_goto (tgt := 26) hx hb dX2_goes_14 (by decide) ?_
      refine va_put (D := D) (ci := 2) (v := .int (nI 2)) (ty := .int) (C := RX2) (T := TX2) (N := 25) hx hb hW iMD tyX2 tyX2_ok nmX2 hown hK hP hD hS 0 rfl rfl 0 (by decide) (hW _ tw_514) (fun _ h9 => h9) rfl (by decide +kernel) rfl rfl (Nat.le_of_ble_eq_true rfl) dX2_goes_26 (fun H locs hP hD hS => ?_)
      have hP : va_P D vwCl (wM om am cI cZ (nI 2) tp lv dy pv pm by_ pt wy gone oR mem) H := hP
      have hD : va_D A (wM om am cI cZ (nI 2) tp lv dy pv pm by_ pt wy gone oR mem) := hD
      refine lv_aload_n hx hb dX2_goes_29 rfl (lv_at hl 0 rfl) ?_
      refine va_get (D := D) (ci := 2) (v := .int (nI 2)) (C := RX2) (T := TX2) (N := 25) hx hb hW iMD hown hK hP 0 rfl rfl 0 (by decide) (hW _ tw_514) (fun _ h9 => h9) rfl dX2_goes_30 ?_
      refine lv_if_ne (tgt := 40) hx hb dX2_goes_33 (by decide) (fun _ => ?_) (fun hq9 => absurd hq9 (by decide))
      refine lv_iconst (v := nI 0) hx hb dX2_goes_40 (by decide) ?_
      have hP : va_P D vwCl (wM om am cI cZ t tp lv dy pv pm by_ pt wy gone oR mem) H := by rw [ht9]; exact hP
      have hD : va_D A (wM om am cI cZ t tp lv dy pv pm by_ pt wy gone oR mem) := by rw [ht9]; exact hD
      exact mi_ret hx hb hr (rfl) hlk hS hP hD (by rw [← hr0, ht9]; decide) dX2_goes_41
  · have ht9 : t = nI 1 := ht.symm.trans (if_pos ha)
    refine lv_iconst (v := nI 1) hx hb dX2_goes_5 (by decide) ?_
    refine lv_goto (tgt := 26) hx hb dX2_goes_6 (by decide) ?_
    refine va_put (D := D) (ci := 2) (v := .int (nI 1)) (ty := .int) (C := RX2) (T := TX2) (N := 25) hx hb hW iMD tyX2 tyX2_ok nmX2 hown hK hP hD hS 0 rfl rfl 0 (by decide) (hW _ tw_514) (fun _ h9 => h9) rfl (by decide +kernel) rfl rfl (Nat.le_of_ble_eq_true rfl) dX2_goes_26 (fun H locs hP hD hS => ?_)
    have hP : va_P D vwCl (wM om am cI cZ (nI 1) tp lv dy pv pm by_ pt wy gone oR mem) H := hP
    have hD : va_D A (wM om am cI cZ (nI 1) tp lv dy pv pm by_ pt wy gone oR mem) := hD
    refine lv_aload_n hx hb dX2_goes_29 rfl (lv_at hl 0 rfl) ?_
    refine va_get (D := D) (ci := 2) (v := .int (nI 1)) (C := RX2) (T := TX2) (N := 25) hx hb hW iMD hown hK hP 0 rfl rfl 0 (by decide) (hW _ tw_514) (fun _ h9 => h9) rfl dX2_goes_30 ?_
    refine lv_if_ne (tgt := 40) hx hb dX2_goes_33 (by decide) (fun _ => ?_) (fun hq9 => absurd hq9 (by decide))
    refine lv_iconst (v := nI 0) hx hb dX2_goes_40 (by decide) ?_
    have hP : va_P D vwCl (wM om am cI cZ t tp lv dy pv pm by_ pt wy gone oR mem) H := by rw [ht9]; exact hP
    have hD : va_D A (wM om am cI cZ t tp lv dy pv pm by_ pt wy gone oR mem) := by rw [ht9]; exact hD
    exact mi_ret hx hb hr (rfl) hlk hS hP hD (by rw [← hr0, ht9]; decide) dX2_goes_41
set_option maxHeartbeats 4000000 in
set_option maxRecDepth 100000 in
theorem n_isLeaf {l : Launch} {D : va_G} {om am : Nat → Nat} {cI cZ cG : ClassId} {th tp dy pv pm by_ pt wy : Int32} {gone oR : Nat → Int32} (v : Int32) (q : Nat) (hq : q < 2 ^ 30) (mem : xMem) : MI l nE yX2_isLeaf (.code yX2_isLeaf cX2_isLeaf 2 (some .boolean) :: tW) ({ frames := 1, cells := 0, slots := 0, locals := 24 }) D vwCl (tC cI cZ cG) [.ref (om 0), .int v] (wM om am cI cZ th tp (nI q) dy pv pm by_ pt wy gone oR mem) (wM om am cI cZ th tp (nI q) dy pv pm by_ pt wy gone oR mem) (b01 (x_req v (nI q))) := by
  refine MI.ofW (by decide +kernel) rfl (Nat.le_of_ble_eq_true rfl) ?_
  intro p e s m below meth c A ls hx hb hr hts hown hlk hml hA hP hK hD hT hl
  have hS : va_S A s.heap s.heap [] := va_S.rf
  have hown : s.vm.findClass RX2 = some m.cls := hown
  have hW : ∀ w ∈ tW, w.before _ s = true := fun w h => hts w (List.mem_cons_of_mem _ h)
  have hl : lv_has ls 2 [(0, .ref (om 0)), (1, .int v)] := hl
  refine lv_iload_n hx hb dX2_isLeaf_0 rfl (lv_at hl 1 rfl) ?_
  refine lv_iconst (v := nI 0) hx hb dX2_isLeaf_1 (by decide) ?_
  refine lv_aload_n hx hb dX2_isLeaf_2 rfl (lv_at hl 0 rfl) ?_
  refine va_get (D := D) (ci := 2) (v := .int (nI q)) (C := RX2) (T := TX2) (N := 25) hx hb hW iMD hown hK hP 0 rfl rfl 3 (by decide) (hW _ tw_517) (fun _ h9 => h9) rfl dX2_isLeaf_3 ?_
  refine lv_iconst (v := nI 1) hx hb dX2_isLeaf_6 (by decide) ?_
  refine lv_isub hx hb dX2_isLeaf_7 ?_
  refine mi_callS (As := [.int v, .int (nI 0), .int ((nI q) - (nI 1))]) (rest := []) ⟨hx, hb, hml, hown, hW⟩ (n_in _ v (nI 0) ((nI q) - (nI 1))) nE_ok (va_cwS 3 hW (gS tw_598 tw_599 tw_3 tw_600) rfl rfl rfl (by decide +kernel) ⟨Nat.le_of_ble_eq_true rfl, Nat.le_of_ble_eq_true rfl⟩) hP hD hK hS hA hT rfl hl.1 rfl (Nat.le_of_ble_eq_true rfl) dX2_isLeaf_8 ⟨Nat.zero_le _, Nat.zero_le _⟩ (fun H locs hP hD hS => ?_)
  have hP : va_P D vwCl (wM om am cI cZ th tp (nI q) dy pv pm by_ pt wy gone oR mem) H := by exact hP
  have hD : va_D A (wM om am cI cZ th tp (nI q) dy pv pm by_ pt wy gone oR mem) := by exact hD
  exact mi_ret hx hb hr (p_in_nar _ _ _) hlk hS hP hD (p_in_req v q hq) dX2_isLeaf_11
set_option maxHeartbeats 4000000 in
set_option maxRecDepth 100000 in
theorem n_isDay {l : Launch} {D : va_G} {om am : Nat → Nat} {cI cZ cG : ClassId} {th tp lv pv pm by_ pt wy : Int32} {gone oR : Nat → Int32} (v : Int32) (q : Nat) (hq : q < 2 ^ 30) (mem : xMem) : MI l nE yX2_isDay (.code yX2_isDay cX2_isDay 2 (some .boolean) :: tW) ({ frames := 1, cells := 0, slots := 0, locals := 24 }) D vwCl (tC cI cZ cG) [.ref (om 0), .int v] (wM om am cI cZ th tp lv (nI q) pv pm by_ pt wy gone oR mem) (wM om am cI cZ th tp lv (nI q) pv pm by_ pt wy gone oR mem) (b01 (x_req v (nI q))) := by
  refine MI.ofW (by decide +kernel) rfl (Nat.le_of_ble_eq_true rfl) ?_
  intro p e s m below meth c A ls hx hb hr hts hown hlk hml hA hP hK hD hT hl
  have hS : va_S A s.heap s.heap [] := va_S.rf
  have hown : s.vm.findClass RX2 = some m.cls := hown
  have hW : ∀ w ∈ tW, w.before _ s = true := fun w h => hts w (List.mem_cons_of_mem _ h)
  have hl : lv_has ls 2 [(0, .ref (om 0)), (1, .int v)] := hl
  refine lv_iload_n hx hb dX2_isDay_0 rfl (lv_at hl 1 rfl) ?_
  refine lv_iconst (v := nI 0) hx hb dX2_isDay_1 (by decide) ?_
  refine lv_aload_n hx hb dX2_isDay_2 rfl (lv_at hl 0 rfl) ?_
  refine va_get (D := D) (ci := 2) (v := .int (nI q)) (C := RX2) (T := TX2) (N := 25) hx hb hW iMD hown hK hP 0 rfl rfl 6 (by decide) (hW _ tw_520) (fun _ h9 => h9) rfl dX2_isDay_3 ?_
  refine lv_iconst (v := nI 1) hx hb dX2_isDay_6 (by decide) ?_
  refine lv_isub hx hb dX2_isDay_7 ?_
  refine mi_callS (As := [.int v, .int (nI 0), .int ((nI q) - (nI 1))]) (rest := []) ⟨hx, hb, hml, hown, hW⟩ (n_in _ v (nI 0) ((nI q) - (nI 1))) nE_ok (va_cwS 3 hW (gS tw_598 tw_599 tw_3 tw_600) rfl rfl rfl (by decide +kernel) ⟨Nat.le_of_ble_eq_true rfl, Nat.le_of_ble_eq_true rfl⟩) hP hD hK hS hA hT rfl hl.1 rfl (Nat.le_of_ble_eq_true rfl) dX2_isDay_8 ⟨Nat.zero_le _, Nat.zero_le _⟩ (fun H locs hP hD hS => ?_)
  have hP : va_P D vwCl (wM om am cI cZ th tp lv (nI q) pv pm by_ pt wy gone oR mem) H := by exact hP
  have hD : va_D A (wM om am cI cZ th tp lv (nI q) pv pm by_ pt wy gone oR mem) := by exact hD
  exact mi_ret hx hb hr (p_in_nar _ _ _) hlk hS hP hD (p_in_req v q hq) dX2_isDay_11
set_option maxHeartbeats 4000000 in
set_option maxRecDepth 100000 in
theorem n_isByte {l : Launch} {D : va_G} {cI cZ cG : ClassId} (w : va_W) (v : Int32) : MI l nE yX2_isByte (.code yX2_isByte cX2_isByte 1 (some .boolean) :: tW) ({ frames := 1, cells := 0, slots := 0, locals := 24 }) D vwCl (tC cI cZ cG) [.int v] (w) (w) (b01 (x_req v (nI 32))) := by
  refine MI.ofW (by decide +kernel) rfl (Nat.le_of_ble_eq_true rfl) ?_
  intro p e s m below meth c A ls hx hb hr hts hown hlk hml hA hP hK hD hT hl
  have hS : va_S A s.heap s.heap [] := va_S.rf
  have hown : s.vm.findClass RX2 = some m.cls := hown
  have hW : ∀ w ∈ tW, w.before _ s = true := fun w h => hts w (List.mem_cons_of_mem _ h)
  have hl : lv_has ls 1 [(0, .int v)] := hl
  refine lv_iload_n hx hb dX2_isByte_0 rfl (lv_at hl 0 rfl) ?_
  refine lv_iconst (v := nI 0) hx hb dX2_isByte_1 (by decide) ?_
  refine lv_bipush (v := nI 31) hx hb dX2_isByte_2 (by decide) ?_
  refine mi_callS (As := [.int v, .int (nI 0), .int (nI 31)]) (rest := []) ⟨hx, hb, hml, hown, hW⟩ (n_in _ v (nI 0) (nI 31)) nE_ok (va_cwS 3 hW (gS tw_598 tw_599 tw_3 tw_600) rfl rfl rfl (by decide +kernel) ⟨Nat.le_of_ble_eq_true rfl, Nat.le_of_ble_eq_true rfl⟩) hP hD hK hS hA hT rfl hl.1 rfl (Nat.le_of_ble_eq_true rfl) dX2_isByte_4 ⟨Nat.zero_le _, Nat.zero_le _⟩ (fun H locs hP hD hS => ?_)
  have hP : va_P D vwCl (w) H := by exact hP
  have hD : va_D A (w) := by exact hD
  exact mi_ret hx hb hr (p_in_nar _ _ _) hlk hS hP hD (p_in_byte v) dX2_isByte_7
set_option maxHeartbeats 4000000 in
set_option maxRecDepth 100000 in
theorem n_right {l : Launch} {D : va_G} {cI cZ cG : ClassId} (w : va_W) (x d : Int32) (hd : (nI 32 - d) &&& 31 = (-d) &&& 31) : MI l nE yX2_right (.code yX2_right cX2_right 2 (some .int) :: tW) ({ frames := 0, cells := 0, slots := 0, locals := 0 }) D vwCl (tC cI cZ cG) [.int x, .int d] (w) (w) (rotr x d) := by
  refine MI.ofW (by decide +kernel) rfl (Nat.le_of_ble_eq_true rfl) ?_
  intro p e s m below meth c A ls hx hb hr hts hown hlk hml hA hP hK hD hT hl
  have hS : va_S A s.heap s.heap [] := va_S.rf
  have hown : s.vm.findClass RX2 = some m.cls := hown
  have hW : ∀ w ∈ tW, w.before _ s = true := fun w h => hts w (List.mem_cons_of_mem _ h)
  have hl : lv_has ls 2 [(0, .int x), (1, .int d)] := hl
  refine lv_iload_n hx hb dX2_right_0 rfl (lv_at hl 0 rfl) ?_
  refine lv_iload_n hx hb dX2_right_1 rfl (lv_at hl 1 rfl) ?_
  refine lv_iushr (v := ush x d) hx hb dX2_right_2 rfl ?_
  refine lv_iload_n hx hb dX2_right_3 rfl (lv_at hl 0 rfl) ?_
  refine lv_bipush (v := nI 32) hx hb dX2_right_4 (by decide) ?_
  refine lv_iload_n hx hb dX2_right_6 rfl (lv_at hl 1 rfl) ?_
  refine lv_isub hx hb dX2_right_7 ?_
  refine lv_ishl hx hb dX2_right_8 ?_
  refine lv_ior hx hb dX2_right_9 ?_
  have hP : va_P D vwCl (w) s.heap := by exact hP
  have hD : va_D A (w) := by exact hD
  exact mi_ret hx hb hr (rfl) hlk hS hP hD (rgt_eq hd) dX2_right_10
set_option maxHeartbeats 4000000 in
set_option maxRecDepth 100000 in
theorem n_begin {l : Launch} {D : va_G} {om am : Nat → Nat} {cI cZ cG : ClassId} {th tp lv dy pv pm by_ pt wy : Int32} {gone oR : Nat → Int32} (mem : xMem) : MV l nE yX2_begin (.code yX2_begin cX2_begin 1 none :: tW) ({ frames := 0, cells := 0, slots := 0, locals := 0 }) D vwCl (tC cI cZ cG) [.ref (om 0)] (wM om am cI cZ th tp lv dy pv pm by_ pt wy gone oR mem) (wM om am cI cZ th tp lv dy pv pm (nI 0) pt wy gone oR mem) := by
  refine MV.ofW (by decide +kernel) rfl (Nat.le_of_ble_eq_true rfl) ?_
  intro p e s m below meth c A ls hx hb hr hts hown hlk hml hA hP hK hD hT hl
  have hS : va_S A s.heap s.heap [] := va_S.rf
  have hown : s.vm.findClass RX2 = some m.cls := hown
  have hW : ∀ w ∈ tW, w.before _ s = true := fun w h => hts w (List.mem_cons_of_mem _ h)
  have hl : lv_has ls 1 [(0, .ref (om 0))] := hl
  refine lv_aload_n hx hb dX2_begin_0 rfl (lv_at hl 0 rfl) ?_
  refine lv_iconst (v := nI 0) hx hb dX2_begin_1 (by decide) ?_
  refine va_put (D := D) (ci := 2) (v := .int (nI 0)) (ty := .int) (C := RX2) (T := TX2) (N := 25) hx hb hW iMD tyX2 tyX2_ok nmX2 hown hK hP hD hS 0 rfl rfl 12 (by decide) (hW _ tw_526) (fun _ h9 => h9) rfl (by decide +kernel) rfl rfl (Nat.le_of_ble_eq_true rfl) dX2_begin_2 (fun H locs hP hD hS => ?_)
  have hP : va_P D vwCl (wM om am cI cZ th tp lv dy pv pm (nI 0) pt wy gone oR mem) H := hP
  have hD : va_D A (wM om am cI cZ th tp lv dy pv pm (nI 0) pt wy gone oR mem) := hD
  have hP : va_P D vwCl (wM om am cI cZ th tp lv dy pv pm (nI 0) pt wy gone oR mem) H := by exact hP
  have hD : va_D A (wM om am cI cZ th tp lv dy pv pm (nI 0) pt wy gone oR mem) := by exact hD
  exact mv_ret hx hb hr hlk hS hP hD dX2_begin_5
set_option maxHeartbeats 4000000 in
set_option maxRecDepth 100000 in
theorem n_add {l : Launch} {D : va_G} {om am : Nat → Nat} {cI cZ cG : ClassId} {th tp lv dy pv pm pt wy : Int32} {gone oR : Nat → Int32} (n : Nat) (hn : n < 256) (mem : xMem) (x : Int32) : MV l nE yX2_add (.code yX2_add cX2_add 2 none :: tW) ({ frames := 0, cells := 0, slots := 0, locals := 0 }) D vwCl (tC cI cZ cG) [.ref (om 0), .int x] (wM om am cI cZ th tp lv dy pv pm (nI n) pt wy gone oR mem) (wM om am cI cZ th tp lv dy pv pm (nI (P_take x (n, mem)).1) pt wy gone oR ((P_take x (n, mem)).2)) := by
  refine MV.ofW (by decide +kernel) rfl (Nat.le_of_ble_eq_true rfl) ?_
  intro p e s m below meth c A ls hx hb hr hts hown hlk hml hA hP hK hD hT hl
  have hS : va_S A s.heap s.heap [] := va_S.rf
  have hown : s.vm.findClass RX2 = some m.cls := hown
  have hW : ∀ w ∈ tW, w.before _ s = true := fun w h => hts w (List.mem_cons_of_mem _ h)
  have hl : lv_has ls 2 [(0, .ref (om 0)), (1, .int x)] := hl
  refine lv_aload_n hx hb dX2_add_0 rfl (lv_at hl 0 rfl) ?_
  refine va_get (D := D) (ci := 2) (v := .ref (am 3)) (C := RX2) (T := TX2) (N := 25) hx hb hW iMD hown hK hP 0 rfl rfl 13 (by decide) (hW _ tw_527) (fun _ h9 => h9) rfl dX2_add_1 ?_
  refine lv_aload_n hx hb dX2_add_4 rfl (lv_at hl 0 rfl) ?_
  refine va_get (D := D) (ci := 2) (v := .int (nI n)) (C := RX2) (T := TX2) (N := 25) hx hb hW iMD hown hK hP 0 rfl rfl 12 (by decide) (hW _ tw_526) (fun _ h9 => h9) rfl dX2_add_5 ?_
  refine lv_iload_n hx hb dX2_add_8 rfl (lv_at hl 1 rfl) ?_
  refine m_st (X := wMx om am cZ th tp lv dy pv pm (nI n) pt wy gone oR) hx hb hK hP hD hS 0 3 n rfl (by decide) (show n < 256 by omega) (by decide) dX2_add_9 (fun H locs hP hD hS => ?_)
  have hP : va_P D vwCl (wM om am cI cZ th tp lv dy pv pm (nI n) pt wy gone oR (va_up mem 3 (upd (mem 3) n x))) H := hP
  have hD : va_D A (wM om am cI cZ th tp lv dy pv pm (nI n) pt wy gone oR (va_up mem 3 (upd (mem 3) n x))) := hD
  refine lv_aload_n hx hb dX2_add_10 rfl (lv_at hl 0 rfl) ?_
  refine lv_dup hx hb dX2_add_11 rfl ?_
  refine va_get (D := D) (ci := 2) (v := .int (nI n)) (C := RX2) (T := TX2) (N := 25) hx hb hW iMD hown hK hP 0 rfl rfl 12 (by decide) (hW _ tw_526) (fun _ h9 => h9) rfl dX2_add_12 ?_
  refine lv_iconst (v := nI 1) hx hb dX2_add_15 (by decide) ?_
  refine lv_iadd hx hb dX2_add_16 ?_
  refine lv_eqi (v := nI (n + 1)) (nI_add _ _) ?_
  refine va_put (D := D) (ci := 2) (v := .int (nI (n + 1))) (ty := .int) (C := RX2) (T := TX2) (N := 25) hx hb hW iMD tyX2 tyX2_ok nmX2 hown hK hP hD hS 0 rfl rfl 12 (by decide) (hW _ tw_526) (fun _ h9 => h9) rfl (by decide +kernel) rfl rfl (Nat.le_of_ble_eq_true rfl) dX2_add_17 (fun H locs hP hD hS => ?_)
  have hP : va_P D vwCl (wM om am cI cZ th tp lv dy pv pm (nI (n + 1)) pt wy gone oR (va_up mem 3 (upd (mem 3) n x))) H := hP
  have hD : va_D A (wM om am cI cZ th tp lv dy pv pm (nI (n + 1)) pt wy gone oR (va_up mem 3 (upd (mem 3) n x))) := hD
  have e1 : P_take x (n, mem) = (n + 1, va_up mem 3 (upd (mem 3) n x)) := by rw [P_take_e]; exact if_pos hn
  have hP : va_P D vwCl (wM om am cI cZ th tp lv dy pv pm (nI (P_take x (n, mem)).1) pt wy gone oR ((P_take x (n, mem)).2)) H := by rw [e1]; exact hP
  have hD : va_D A (wM om am cI cZ th tp lv dy pv pm (nI (P_take x (n, mem)).1) pt wy gone oR ((P_take x (n, mem)).2)) := by rw [e1]; exact hD
  exact mv_ret hx hb hr hlk hS hP hD dX2_add_20
set_option maxHeartbeats 4000000 in
set_option maxRecDepth 100000 in
theorem n_addRow {l : Launch} {D : va_G} {om am : Nat → Nat} {cI cZ cG : ClassId} {th tp lv dy pv pm pt wy : Int32} {gone oR : Nat → Int32} (n kk a : Nat) (hn : n + 32 ≤ 256) (hkk : kk < 14) (hq : a + 32 ≤ lenM kk) (mem : xMem) : MV l nE yX2_addRow (.code yX2_addRow cX2_addRow 4 none :: tW) ({ frames := 1, cells := 0, slots := 0, locals := 24 }) D vwCl (tC cI cZ cG) [.ref (om 0), .ref (am kk), .int (nI a)] (wM om am cI cZ th tp lv dy pv pm (nI n) pt wy gone oR mem) (wM om am cI cZ th tp lv dy pv pm (nI (P_row kk a 32 (n, mem)).1) pt wy gone oR ((P_row kk a 32 (n, mem)).2)) := by
  refine MV.ofW (by decide +kernel) rfl (Nat.le_of_ble_eq_true rfl) ?_
  intro p e s m below meth c A ls hx hb hr hts hown hlk hml hA hP hK hD hT hl
  have hS : va_S A s.heap s.heap [] := va_S.rf
  have hown : s.vm.findClass RX2 = some m.cls := hown
  have hW : ∀ w ∈ tW, w.before _ s = true := fun w h => hts w (List.mem_cons_of_mem _ h)
  have hl : lv_has ls 4 [(0, .ref (om 0)), (1, .ref (am kk)), (2, .int (nI a))] := hl
  have hq2 := lenM_lt kk
  have loop : ∀ (k i : Nat) (H : Heap) (locs : List Loc) (ls : Array Slot), i + k = 32 → va_P D vwCl (wM om am cI cZ th tp lv dy pv pm (nI (p_row kk a i (n, mem)).1) pt wy gone oR ((p_row kk a i (n, mem)).2)) H → va_D A (wM om am cI cZ th tp lv dy pv pm (nI (p_row kk a i (n, mem)).1) pt wy gone oR ((p_row kk a i (n, mem)).2)) → va_S A s.heap H locs → lv_has ls 4 [(0, .ref (om 0)), (1, .ref (am kk)), (2, .int (nI a)), (3, .int (nI i))] → W p l e ({ frames := 1, cells := 0, slots := 0, locals := 24 }) s m ([.ref (om 0), .ref (am kk), .int (nI a)] : List Value).toArray below meth c H locs 0 0 (MQ below (xQv D vwCl (wM om am cI cZ th tp lv dy pv pm (nI (P_row kk a 32 (n, mem)).1) pt wy gone oR ((P_row kk a 32 (n, mem)).2)) A) ([.ref (om 0), .ref (am kk), .int (nI a)] : List Value).toArray s 0 0 A) (F0 m 2 ls []) := by
    intro k
    induction k with
    | zero =>
      intro i H locs ls hk hP hD hS hl
      have hk9 : i = 32 := by omega
      subst hk9
      refine lv_iload_n hx hb dX2_addRow_2 rfl (lv_at hl 3 rfl) ?_
      refine lv_bipush (v := nI 32) hx hb dX2_addRow_3 (by decide) ?_
      refine lv_icmp_ge (tgt := 23) hx hb dX2_addRow_5 (by decide) (fun _ => ?_) (fun hq9 => absurd (by decide) hq9)
      have hP : va_P D vwCl (wM om am cI cZ th tp lv dy pv pm (nI (P_row kk a 32 (n, mem)).1) pt wy gone oR ((P_row kk a 32 (n, mem)).2)) H := by rw [P_row_e]; exact hP
      have hD : va_D A (wM om am cI cZ th tp lv dy pv pm (nI (P_row kk a 32 (n, mem)).1) pt wy gone oR ((P_row kk a 32 (n, mem)).2)) := by rw [P_row_e]; exact hD
      exact mv_ret hx hb hr hlk hS hP hD dX2_addRow_23
    | succ k ih =>
      intro i H locs ls hk hP hD hS hl
      have e0 := p_row_fst kk a i (n, mem) (show n + i ≤ 256 by omega)
      have e0 : (p_row kk a i (n, mem)).1 = n + i := e0
      refine lv_iload_n hx hb dX2_addRow_2 rfl (lv_at hl 3 rfl) ?_
      refine lv_bipush (v := nI 32) hx hb dX2_addRow_3 (by decide) ?_
      refine lv_icmp_ge (tgt := 23) hx hb dX2_addRow_5 (by decide) (fun hq9 => absurd hq9 (nI_ge (by omega) (by decide))) (fun _ => ?_)
      refine lv_aload_n hx hb dX2_addRow_8 rfl (lv_at hl 0 rfl) ?_
      refine lv_aload_n hx hb dX2_addRow_9 rfl (lv_at hl 1 rfl) ?_
      refine lv_iload_n hx hb dX2_addRow_10 rfl (lv_at hl 2 rfl) ?_
      refine lv_iload_n hx hb dX2_addRow_11 rfl (lv_at hl 3 rfl) ?_
      refine lv_iadd hx hb dX2_addRow_12 ?_
      refine lv_eqi (v := nI (a + i)) (nI_add _ _) ?_
      refine m_ld (X := wMx om am cZ th tp lv dy pv pm (nI (p_row kk a i (n, mem)).1) pt wy gone oR) hx hb hK hP 0 kk (a + i) rfl hkk (by omega) (lenM_lt kk) dX2_addRow_13 ?_
      refine mv_callV (C := RX2) (As := [.int (((p_row kk a i (n, mem)).2) kk (a + i))]) (rest := []) ⟨hx, hb, hml, hown, hW⟩ (n_add ((p_row kk a i (n, mem)).1) (by rw [e0]; omega) ((p_row kk a i (n, mem)).2) (((p_row kk a i (n, mem)).2) kk (a + i))) nE_ok (cwV 1 hW (gV tw_613 tw_615 tv_X2_add tw_3 tw_616) rfl rfl rfl (by decide +kernel) ⟨Nat.le_of_ble_eq_true rfl, Nat.le_of_ble_eq_true rfl⟩) (va_recv hK hP (ci := 2) (q0 := 0) rfl rfl) hP hD hK hS hA hT rfl hl.1 rfl (Nat.le_of_ble_eq_true rfl) dX2_addRow_14 ⟨Nat.zero_le _, Nat.zero_le _⟩ (fun H locs hP hD hS => ?_)
      have hP : va_P D vwCl (wM om am cI cZ th tp lv dy pv pm (nI (P_take (((p_row kk a i (n, mem)).2) kk (a + i)) (p_row kk a i (n, mem))).1) pt wy gone oR ((P_take (((p_row kk a i (n, mem)).2) kk (a + i)) (p_row kk a i (n, mem))).2)) H := hP
      have hD : va_D A (wM om am cI cZ th tp lv dy pv pm (nI (P_take (((p_row kk a i (n, mem)).2) kk (a + i)) (p_row kk a i (n, mem))).1) pt wy gone oR ((P_take (((p_row kk a i (n, mem)).2) kk (a + i)) (p_row kk a i (n, mem))).2)) := hD
      have hP : va_P D vwCl (wM om am cI cZ th tp lv dy pv pm (nI (p_row kk a (i + 1) (n, mem)).1) pt wy gone oR ((p_row kk a (i + 1) (n, mem)).2)) H := by rw [p_row_s, ← P_take_e]; exact hP
      have hD : va_D A (wM om am cI cZ th tp lv dy pv pm (nI (p_row kk a (i + 1) (n, mem)).1) pt wy gone oR ((p_row kk a (i + 1) (n, mem)).2)) := by rw [p_row_s, ← P_take_e]; exact hD
      refine lv_iinc (v := nI (i + 1)) (lv' := [(3, .int (nI (i + 1))), (0, .ref (om 0)), (1, .ref (am kk)), (2, .int (nI a))]) hx hb dX2_addRow_17 hl (k := 3) rfl (nI_1 _) (by decide) rfl (fun ls hl => ?_)
      refine lv_goto (tgt := 2) hx hb dX2_addRow_20 (by decide) ?_
      exact ih (i + 1) H locs ls (by omega) hP hD hS (lv_sub hl [1, 2, 3, 0] rfl)
  refine lv_iconst (v := nI 0) hx hb dX2_addRow_0 (by decide) ?_
  refine lv_istore_n (lv' := [(3, .int (nI 0)), (0, .ref (om 0)), (1, .ref (am kk)), (2, .int (nI a))]) hx hb dX2_addRow_1 rfl hl (by decide) rfl (fun ls hl => ?_)
  exact loop 32 0 s.heap [] ls (by omega) hP hD hS (lv_sub hl [1, 2, 3, 0] rfl)
set_option maxHeartbeats 4000000 in
set_option maxRecDepth 100000 in
theorem n_addLong {l : Launch} {D : va_G} {om am : Nat → Nat} {cI cZ cG : ClassId} {th tp lv dy pv pm pt wy : Int32} {gone oR : Nat → Int32} (n : Nat) (hn : n + 8 ≤ 256) (mem : xMem) (v : Int64) : MV l nE yX2_addLong (.code yX2_addLong cX2_addLong 4 none :: tW) ({ frames := 1, cells := 0, slots := 0, locals := 24 }) D vwCl (tC cI cZ cG) [.ref (om 0), .long v] (wM om am cI cZ th tp lv dy pv pm (nI n) pt wy gone oR mem) (wM om am cI cZ th tp lv dy pv pm (nI (P_long v (n, mem)).1) pt wy gone oR ((P_long v (n, mem)).2)) := by
  refine MV.ofW (by decide +kernel) rfl (Nat.le_of_ble_eq_true rfl) ?_
  intro p e s m below meth c A ls hx hb hr hts hown hlk hml hA hP hK hD hT hl
  have hS : va_S A s.heap s.heap [] := va_S.rf
  have hown : s.vm.findClass RX2 = some m.cls := hown
  have hW : ∀ w ∈ tW, w.before _ s = true := fun w h => hts w (List.mem_cons_of_mem _ h)
  have hl : lv_has ls 4 [(0, .ref (om 0)), (1, .long v)] := hl
  have loop : ∀ (k i : Nat) (H : Heap) (locs : List Loc) (ls : Array Slot), i + k = 8 → va_P D vwCl (wM om am cI cZ th tp lv dy pv pm (nI (p_takeLongN v i (n, mem)).1) pt wy gone oR ((p_takeLongN v i (n, mem)).2)) H → va_D A (wM om am cI cZ th tp lv dy pv pm (nI (p_takeLongN v i (n, mem)).1) pt wy gone oR ((p_takeLongN v i (n, mem)).2)) → va_S A s.heap H locs → lv_has ls 4 [(0, .ref (om 0)), (1, .long v), (3, .int (p_sh i))] → W p l e ({ frames := 1, cells := 0, slots := 0, locals := 24 }) s m ([.ref (om 0), .long v] : List Value).toArray below meth c H locs 0 0 (MQ below (xQv D vwCl (wM om am cI cZ th tp lv dy pv pm (nI (P_long v (n, mem)).1) pt wy gone oR ((P_long v (n, mem)).2)) A) ([.ref (om 0), .long v] : List Value).toArray s 0 0 A) (F0 m 3 ls []) := by
    intro k
    induction k with
    | zero =>
      intro i H locs ls hk hP hD hS hl
      have hk9 : i = 8 := by omega
      subst hk9
      refine lv_iload_n hx hb dX2_addLong_3 rfl (lv_at hl 2 rfl) ?_
      refine lv_if_lt (tgt := 25) hx hb dX2_addLong_4 (by decide) (fun _ => ?_) (fun hq9 => absurd (by decide) hq9)
      have hP : va_P D vwCl (wM om am cI cZ th tp lv dy pv pm (nI (P_long v (n, mem)).1) pt wy gone oR ((P_long v (n, mem)).2)) H := by rw [P_long_e]; unfold p_takeLong; exact hP
      have hD : va_D A (wM om am cI cZ th tp lv dy pv pm (nI (P_long v (n, mem)).1) pt wy gone oR ((P_long v (n, mem)).2)) := by rw [P_long_e]; unfold p_takeLong; exact hD
      exact mv_ret hx hb hr hlk hS hP hD dX2_addLong_25
    | succ k ih =>
      intro i H locs ls hk hP hD hS hl
      have e0 : (p_takeLongN v i (n, mem)).1 = n + i := p_takeLongN_fst v i (n, mem) (show n + i ≤ 256 by omega)
      refine lv_iload_n hx hb dX2_addLong_3 rfl (lv_at hl 2 rfl) ?_
      refine lv_if_lt (tgt := 25) hx hb dX2_addLong_4 (by decide) (fun hq9 => absurd hq9 (p_sh_pos i (by omega))) (fun _ => ?_)
      refine lv_aload_n hx hb dX2_addLong_7 rfl (lv_at hl 0 rfl) ?_
      refine lv_lload_n hx hb dX2_addLong_8 rfl (lv_at hl 1 rfl) ?_
      refine lv_iload_n hx hb dX2_addLong_9 rfl (lv_at hl 2 rfl) ?_
      refine lv_lushr (v := lush v (p_sh i)) hx hb dX2_addLong_10 rfl ?_
      refine lv_l2i (v := (lush v (p_sh i)).toInt32) hx hb dX2_addLong_11 rfl ?_
      refine lv_sipush (v := nI 255) hx hb dX2_addLong_12 (by decide) ?_
      refine lv_iand hx hb dX2_addLong_15 ?_
      refine mv_callV (C := RX2) (As := [.int (((lush v (p_sh i)).toInt32) &&& (nI 255))]) (rest := []) ⟨hx, hb, hml, hown, hW⟩ (n_add ((p_takeLongN v i (n, mem)).1) (by rw [e0]; omega) ((p_takeLongN v i (n, mem)).2) (((lush v (p_sh i)).toInt32) &&& (nI 255))) nE_ok (cwV 1 hW (gV tw_613 tw_615 tv_X2_add tw_3 tw_616) rfl rfl rfl (by decide +kernel) ⟨Nat.le_of_ble_eq_true rfl, Nat.le_of_ble_eq_true rfl⟩) (va_recv hK hP (ci := 2) (q0 := 0) rfl rfl) hP hD hK hS hA hT rfl hl.1 rfl (Nat.le_of_ble_eq_true rfl) dX2_addLong_16 ⟨Nat.zero_le _, Nat.zero_le _⟩ (fun H locs hP hD hS => ?_)
      have hP : va_P D vwCl (wM om am cI cZ th tp lv dy pv pm (nI (P_take (((lush v (p_sh i)).toInt32) &&& (nI 255)) (p_takeLongN v i (n, mem))).1) pt wy gone oR ((P_take (((lush v (p_sh i)).toInt32) &&& (nI 255)) (p_takeLongN v i (n, mem))).2)) H := hP
      have hD : va_D A (wM om am cI cZ th tp lv dy pv pm (nI (P_take (((lush v (p_sh i)).toInt32) &&& (nI 255)) (p_takeLongN v i (n, mem))).1) pt wy gone oR ((P_take (((lush v (p_sh i)).toInt32) &&& (nI 255)) (p_takeLongN v i (n, mem))).2)) := hD
      have hP : va_P D vwCl (wM om am cI cZ th tp lv dy pv pm (nI (p_takeLongN v (i + 1) (n, mem)).1) pt wy gone oR ((p_takeLongN v (i + 1) (n, mem)).2)) H := by rw [p_long_s, ← P_take_e]; exact hP
      have hD : va_D A (wM om am cI cZ th tp lv dy pv pm (nI (p_takeLongN v (i + 1) (n, mem)).1) pt wy gone oR ((p_takeLongN v (i + 1) (n, mem)).2)) := by rw [p_long_s, ← P_take_e]; exact hD
      refine lv_iinc (v := p_sh (i + 1)) (lv' := [(3, .int (p_sh (i + 1))), (0, .ref (om 0)), (1, .long v)]) hx hb dX2_addLong_19 hl (k := 2) rfl (p_sh_next i (by omega)) (by decide) rfl (fun ls hl => ?_)
      refine lv_goto (tgt := 3) hx hb dX2_addLong_22 (by decide) ?_
      exact ih (i + 1) H locs ls (by omega) hP hD hS (lv_sub hl [1, 2, 0] rfl)
  refine lv_bipush (v := nI 56) hx hb dX2_addLong_0 (by decide) ?_
  refine lv_eqi (v := p_sh 0) (by decide) ?_
  refine lv_istore_n (lv' := [(3, .int (p_sh 0)), (0, .ref (om 0)), (1, .long v)]) hx hb dX2_addLong_2 rfl hl (by decide) rfl (fun ls hl => ?_)
  exact loop 8 0 s.heap [] ls (by omega) hP hD hS (lv_sub hl [1, 2, 0] rfl)
