theorem p_first_s (kk i : Nat) (z : Nat × xMem) : p_takeFirst kk (i + 1) z = p_take ((p_takeFirst kk i z).2 kk i) (p_takeFirst kk i z) := rfl
theorem p_first_0 (kk : Nat) (z : Nat × xMem) : p_takeFirst kk 0 z = z := rfl
theorem bI_0 {b : Bool} (h : bI b = 0) : ¬ b = true := by
  intro h1
  subst h1
  exact absurd h (by decide)
theorem bI_1 {b : Bool} (h : ¬ bI b = 0) : b = true := by
  cases b with
  | true => rfl
  | false => exact absurd (by decide) h
theorem gIt_ok {L : List (Bool × Nat × Nat)} {i : Nat} (h : L.all (fun x => decide (x.2.1 + x.2.2 ≤ 24 ∧ 1 ≤ x.2.2)) = true) (hi : L.length - 1 - i < L.length) : (gIt L i).2.1 + (gIt L i).2.2 ≤ 24 ∧ 1 ≤ (gIt L i).2.2 := by
  have e : gIt L i = L[L.length - 1 - i] := by
    unfold gIt
    rw [List.getD_eq_getElem?_getD, List.getElem?_eq_getElem hi]
    rfl
  rw [e]
  have := List.all_eq_true.mp h _ (List.getElem_mem hi)
  exact of_decide_eq_true this
theorem isoA_nar (f g : Nat → Int32) : ∀ k i, narrow .boolean (.int (isoA f g k i)) = .int (isoA f g k i)
  | 0, _ => by
    unfold isoA
    rfl
  | k + 1, i => by
    unfold isoA
    split
    · exact isoA_nar f g k (i + 1)
    · rfl
theorem p_iso_nar (kk a : Nat) (mem : xMem) : narrow .boolean (.int (p_iso kk a mem)) = .int (p_iso kk a mem) := isoA_nar _ _ 32 0
set_option maxHeartbeats 800000 in
set_option maxRecDepth 100000 in
theorem n_root_no {l : Launch} {D : va_G} {om am : Nat → Nat} {cI cZ cG : ClassId} {th tp lv pv pm by_ pt wy : Int32} {gone oR : Nat → Int32} (y : Nat) (hy : y ≤ 12) (v u : Int32) (mem : xMem) (nm : String) (hX : (x_req v (nI y)).or (x_req u (nI 32)) = some nm) : MI l nE yX2_root (.code yX2_root cX2_root 3 (some .int) :: tW) ({ frames := 4, cells := 0, slots := 0, locals := 100 }) D vwCl (tC cI cZ cG) [.ref (om 0), .int v, .int u] (wM om am cI cZ th tp lv (nI y) pv pm by_ pt wy gone oR mem) (wM om am cI cZ (cdL [nIOB] nm) tp lv (nI y) pv pm by_ pt wy gone oR mem) (nI 0) := by
  refine MI.ofW (by decide +kernel) rfl (Nat.le_of_ble_eq_true rfl) ?_
  intro p e s m below meth c A ls hx hb hr hts hown hlk hml hA hP hK hD hT hl
  have hS : va_S A s.heap s.heap [] := va_S.rf
  have hown : s.vm.findClass RX2 = some m.cls := hown
  have hW : ∀ w ∈ tW, w.before _ s = true := fun w h => hts w (List.mem_cons_of_mem _ h)
  have hl : lv_has ls 3 [(0, .ref (om 0)), (1, .int v), (2, .int u)] := hl
  rcases x_or_some hX with hg1 | ⟨hg1, hY1⟩
  · skip
    have hn9 := x_req_some hg1
    skip
    refine lv_aload_n hx hb dX2_root_0 rfl (lv_at hl 0 rfl) ?_
    refine lv_aload_n hx hb dX2_root_1 rfl (lv_at hl 0 rfl) ?_
    refine lv_iload_n hx hb dX2_root_2 rfl (lv_at hl 1 rfl) ?_
    refine mi_callV (C := RX2) (As := [.int v]) (rest := [.ref (om 0)]) ⟨hx, hb, hml, hown, hW⟩ (n_isDay v y (by omega) mem) nE_ok (cwV 1 hW (gV tw_665 tw_667 tv_X2_isDay tw_3 tw_668) rfl rfl rfl (by decide +kernel) ⟨Nat.le_of_ble_eq_true rfl, Nat.le_of_ble_eq_true rfl⟩) (va_recv hK hP (ci := 2) (q0 := 0) rfl rfl) hP hD hK hS hA hT rfl hl.1 rfl (Nat.le_of_ble_eq_true rfl) dX2_root_3 ⟨Nat.zero_le _, Nat.zero_le _⟩ (fun H locs hP hD hS => ?_)
    refine lv_eqi (v := nI 0) (by rw [hg1]; rfl) ?_
    refine lv_if_eq (tgt := 20) hx hb dX2_root_6 (by decide) (fun _ => ?_) (fun hq9 => absurd (by decide) hq9)
    refine lv_iconst (v := nI 0) hx hb dX2_root_20 (by decide) ?_
    refine lv_iconst (v := nI 1) hx hb dX2_root_21 (by decide) ?_
    refine lv_iconst (v := nI 1) hx hb dX2_root_22 (by decide) ?_
    refine mi_callV (C := RX2) (As := [.int (nI 0), .int (nI 1), .int (nI 1)]) (rest := []) ⟨hx, hb, hml, hown, hW⟩ (n_goes (nI 0) (nI 1) (nI 1) (nI 1) (nI 0) mem (if_pos (by decide)) (by decide)) nE_ok (cwV 3 hW (gV tw_601 tw_603 tv_X2_goes tw_3 tw_604) rfl rfl rfl (by decide +kernel) ⟨Nat.le_of_ble_eq_true rfl, Nat.le_of_ble_eq_true rfl⟩) (va_recv hK hP (ci := 2) (q0 := 0) rfl rfl) hP hD hK hS hA hT rfl hl.1 rfl (Nat.le_of_ble_eq_true rfl) dX2_root_23 ⟨Nat.zero_le _, Nat.zero_le _⟩ (fun H locs hP hD hS => ?_)
    have hP : va_P D vwCl (wM om am cI cZ (nI 1) tp lv (nI y) pv pm by_ pt wy gone oR mem) H := hP
    have hD : va_D A (wM om am cI cZ (nI 1) tp lv (nI y) pv pm by_ pt wy gone oR mem) := hD
    refine lv_if_ne (tgt := 31) hx hb dX2_root_26 (by decide) (fun hq9 => absurd (by decide) hq9) (fun _ => ?_)
    refine lv_iconst (v := nI 0) hx hb dX2_root_29 (by decide) ?_
    have hP : va_P D vwCl (wM om am cI cZ (cdL [nIOB] nm) tp lv (nI y) pv pm by_ pt wy gone oR mem) H := by rw [show cdL [nIOB] nm = nI 1 from by rw [hn9]; decide +kernel]; exact hP
    have hD : va_D A (wM om am cI cZ (cdL [nIOB] nm) tp lv (nI y) pv pm by_ pt wy gone oR mem) := by rw [show cdL [nIOB] nm = nI 1 from by rw [hn9]; decide +kernel]; exact hD
    exact mi_ret hx hb hr (rfl) hlk hS hP hD (rfl) dX2_root_30
  · skip
    have hg2 := hY1
    have hn9 := x_req_some hg2
    skip
    refine lv_aload_n hx hb dX2_root_0 rfl (lv_at hl 0 rfl) ?_
    refine lv_aload_n hx hb dX2_root_1 rfl (lv_at hl 0 rfl) ?_
    refine lv_iload_n hx hb dX2_root_2 rfl (lv_at hl 1 rfl) ?_
    refine mi_callV (C := RX2) (As := [.int v]) (rest := [.ref (om 0)]) ⟨hx, hb, hml, hown, hW⟩ (n_isDay v y (by omega) mem) nE_ok (cwV 1 hW (gV tw_665 tw_667 tv_X2_isDay tw_3 tw_668) rfl rfl rfl (by decide +kernel) ⟨Nat.le_of_ble_eq_true rfl, Nat.le_of_ble_eq_true rfl⟩) (va_recv hK hP (ci := 2) (q0 := 0) rfl rfl) hP hD hK hS hA hT rfl hl.1 rfl (Nat.le_of_ble_eq_true rfl) dX2_root_3 ⟨Nat.zero_le _, Nat.zero_le _⟩ (fun H locs hP hD hS => ?_)
    refine lv_eqi (v := nI 1) (by rw [hg1]; rfl) ?_
    refine lv_if_eq (tgt := 20) hx hb dX2_root_6 (by decide) (fun hq9 => absurd hq9 (by decide)) (fun _ => ?_)
    refine lv_iload_n hx hb dX2_root_9 rfl (lv_at hl 2 rfl) ?_
    refine mi_callS (As := [.int u]) (rest := [.ref (om 0)]) ⟨hx, hb, hml, hown, hW⟩ (n_isByte _ u) nE_ok (va_cwS 1 hW (gS tw_669 tw_670 tw_3 tw_671) rfl rfl rfl (by decide +kernel) ⟨Nat.le_of_ble_eq_true rfl, Nat.le_of_ble_eq_true rfl⟩) hP hD hK hS hA hT rfl hl.1 rfl (Nat.le_of_ble_eq_true rfl) dX2_root_10 ⟨Nat.zero_le _, Nat.zero_le _⟩ (fun H locs hP hD hS => ?_)
    refine lv_eqi (v := nI 0) (by rw [hg2]; rfl) ?_
    refine lv_if_eq (tgt := 20) hx hb dX2_root_13 (by decide) (fun _ => ?_) (fun hq9 => absurd (by decide) hq9)
    refine lv_iconst (v := nI 0) hx hb dX2_root_20 (by decide) ?_
    refine lv_iconst (v := nI 1) hx hb dX2_root_21 (by decide) ?_
    refine lv_iconst (v := nI 1) hx hb dX2_root_22 (by decide) ?_
    refine mi_callV (C := RX2) (As := [.int (nI 0), .int (nI 1), .int (nI 1)]) (rest := []) ⟨hx, hb, hml, hown, hW⟩ (n_goes (nI 0) (nI 1) (nI 1) (nI 1) (nI 0) mem (if_pos (by decide)) (by decide)) nE_ok (cwV 3 hW (gV tw_601 tw_603 tv_X2_goes tw_3 tw_604) rfl rfl rfl (by decide +kernel) ⟨Nat.le_of_ble_eq_true rfl, Nat.le_of_ble_eq_true rfl⟩) (va_recv hK hP (ci := 2) (q0 := 0) rfl rfl) hP hD hK hS hA hT rfl hl.1 rfl (Nat.le_of_ble_eq_true rfl) dX2_root_23 ⟨Nat.zero_le _, Nat.zero_le _⟩ (fun H locs hP hD hS => ?_)
    have hP : va_P D vwCl (wM om am cI cZ (nI 1) tp lv (nI y) pv pm by_ pt wy gone oR mem) H := hP
    have hD : va_D A (wM om am cI cZ (nI 1) tp lv (nI y) pv pm by_ pt wy gone oR mem) := hD
    refine lv_if_ne (tgt := 31) hx hb dX2_root_26 (by decide) (fun hq9 => absurd (by decide) hq9) (fun _ => ?_)
    refine lv_iconst (v := nI 0) hx hb dX2_root_29 (by decide) ?_
    have hP : va_P D vwCl (wM om am cI cZ (cdL [nIOB] nm) tp lv (nI y) pv pm by_ pt wy gone oR mem) H := by rw [show cdL [nIOB] nm = nI 1 from by rw [hn9]; decide +kernel]; exact hP
    have hD : va_D A (wM om am cI cZ (cdL [nIOB] nm) tp lv (nI y) pv pm by_ pt wy gone oR mem) := by rw [show cdL [nIOB] nm = nI 1 from by rw [hn9]; decide +kernel]; exact hD
    exact mi_ret hx hb hr (rfl) hlk hS hP hD (rfl) dX2_root_30
set_option maxHeartbeats 800000 in
set_option maxRecDepth 100000 in
theorem n_root {l : Launch} {D : va_G} {om am : Nat → Nat} {cI cZ cG : ClassId} {th tp lv pv pm by_ pt wy : Int32} {gone oR : Nat → Int32} (y d i : Nat) (hy : y ≤ 12) (hd : d < y) (hi : i < 32) (mem : xMem) : MI l nE yX2_root (.code yX2_root cX2_root 3 (some .int) :: tW) ({ frames := 4, cells := 0, slots := 0, locals := 100 }) D vwCl (tC cI cZ cG) [.ref (om 0), .int (nI d), .int (nI i)] (wM om am cI cZ th tp lv (nI y) pv pm by_ pt wy gone oR mem) (wM om am cI cZ (nI 0) tp lv (nI y) pv pm by_ pt wy gone oR mem) (mem 7 (32 * d + i)) := by
  refine MI.ofW (by decide +kernel) rfl (Nat.le_of_ble_eq_true rfl) ?_
  intro p e s m below meth c A ls hx hb hr hts hown hlk hml hA hP hK hD hT hl
  have hS : va_S A s.heap s.heap [] := va_S.rf
  have hown : s.vm.findClass RX2 = some m.cls := hown
  have hW : ∀ w ∈ tW, w.before _ s = true := fun w h => hts w (List.mem_cons_of_mem _ h)
  have hl : lv_has ls 3 [(0, .ref (om 0)), (1, .int (nI d)), (2, .int (nI i))] := hl
  refine lv_aload_n hx hb dX2_root_0 rfl (lv_at hl 0 rfl) ?_
  refine lv_aload_n hx hb dX2_root_1 rfl (lv_at hl 0 rfl) ?_
  refine lv_iload_n hx hb dX2_root_2 rfl (lv_at hl 1 rfl) ?_
  refine mi_callV (C := RX2) (As := [.int (nI d)]) (rest := [.ref (om 0)]) ⟨hx, hb, hml, hown, hW⟩ (n_isDay (nI d) y (by omega) mem) nE_ok (cwV 1 hW (gV tw_665 tw_667 tv_X2_isDay tw_3 tw_668) rfl rfl rfl (by decide +kernel) ⟨Nat.le_of_ble_eq_true rfl, Nat.le_of_ble_eq_true rfl⟩) (va_recv hK hP (ci := 2) (q0 := 0) rfl rfl) hP hD hK hS hA hT rfl hl.1 rfl (Nat.le_of_ble_eq_true rfl) dX2_root_3 ⟨Nat.zero_le _, Nat.zero_le _⟩ (fun H locs hP hD hS => ?_)
  refine lv_eqi (v := nI 1) (by rw [x_req_nat hd (by omega)]; rfl) ?_
  refine lv_if_eq (tgt := 20) hx hb dX2_root_6 (by decide) (fun hq9 => absurd hq9 (by decide)) (fun _ => ?_)
  refine lv_iload_n hx hb dX2_root_9 rfl (lv_at hl 2 rfl) ?_
  refine mi_callS (As := [.int (nI i)]) (rest := [.ref (om 0)]) ⟨hx, hb, hml, hown, hW⟩ (n_isByte _ (nI i)) nE_ok (va_cwS 1 hW (gS tw_669 tw_670 tw_3 tw_671) rfl rfl rfl (by decide +kernel) ⟨Nat.le_of_ble_eq_true rfl, Nat.le_of_ble_eq_true rfl⟩) hP hD hK hS hA hT rfl hl.1 rfl (Nat.le_of_ble_eq_true rfl) dX2_root_10 ⟨Nat.zero_le _, Nat.zero_le _⟩ (fun H locs hP hD hS => ?_)
  refine lv_eqi (v := nI 1) (by rw [x_req_nat hi (by decide)]; rfl) ?_
  refine lv_if_eq (tgt := 20) hx hb dX2_root_13 (by decide) (fun hq9 => absurd hq9 (by decide)) (fun _ => ?_)
  refine lv_iconst (v := nI 1) hx hb dX2_root_16 (by decide) ?_
  refine lv_goto (tgt := 21) hx hb dX2_root_17 (by decide) ?_
  refine lv_iconst (v := nI 1) hx hb dX2_root_21 (by decide) ?_
  refine lv_iconst (v := nI 1) hx hb dX2_root_22 (by decide) ?_
  refine mi_callV (C := RX2) (As := [.int (nI 1), .int (nI 1), .int (nI 1)]) (rest := []) ⟨hx, hb, hml, hown, hW⟩ (n_goes (nI 1) (nI 1) (nI 1) (nI 0) (nI 1) mem ((if_neg (by decide)).trans ((if_neg (by decide)).trans (if_neg (by decide)))) (by decide)) nE_ok (cwV 3 hW (gV tw_601 tw_603 tv_X2_goes tw_3 tw_604) rfl rfl rfl (by decide +kernel) ⟨Nat.le_of_ble_eq_true rfl, Nat.le_of_ble_eq_true rfl⟩) (va_recv hK hP (ci := 2) (q0 := 0) rfl rfl) hP hD hK hS hA hT rfl hl.1 rfl (Nat.le_of_ble_eq_true rfl) dX2_root_23 ⟨Nat.zero_le _, Nat.zero_le _⟩ (fun H locs hP hD hS => ?_)
  have hP : va_P D vwCl (wM om am cI cZ (nI 0) tp lv (nI y) pv pm by_ pt wy gone oR mem) H := hP
  have hD : va_D A (wM om am cI cZ (nI 0) tp lv (nI y) pv pm by_ pt wy gone oR mem) := hD
  refine lv_if_ne (tgt := 31) hx hb dX2_root_26 (by decide) (fun _ => ?_) (fun hq9 => absurd hq9 (by decide))
  refine lv_aload_n hx hb dX2_root_31 rfl (lv_at hl 0 rfl) ?_
  refine va_get (D := D) (ci := 2) (v := .ref (am 7)) (C := RX2) (T := TX2) (N := 25) hx hb hW iMD hown hK hP 0 rfl rfl 8 (by decide) (hW _ tw_522) (fun _ h9 => h9) rfl dX2_root_32 ?_
  refine lv_bipush (v := nI 32) hx hb dX2_root_35 (by decide) ?_
  refine lv_iload_n hx hb dX2_root_37 rfl (lv_at hl 1 rfl) ?_
  refine lv_imul hx hb dX2_root_38 ?_
  refine lv_eqi (v := nI (32 * d)) (pk_mul _ _) ?_
  refine lv_iload_n hx hb dX2_root_39 rfl (lv_at hl 2 rfl) ?_
  refine lv_iadd hx hb dX2_root_40 ?_
  refine lv_eqi (v := nI (32 * d + i)) (nI_add _ _) ?_
  refine m_ld (X := wMx om am cZ (nI 0) tp lv (nI y) pv pm by_ pt wy gone oR) hx hb hK hP 0 7 (32 * d + i) rfl (by decide) (show 32 * d + i < 384 by omega) (by decide) dX2_root_41 ?_
  have hP : va_P D vwCl (wM om am cI cZ (nI 0) tp lv (nI y) pv pm by_ pt wy gone oR mem) H := by exact hP
  have hD : va_D A (wM om am cI cZ (nI 0) tp lv (nI y) pv pm by_ pt wy gone oR mem) := by exact hD
  exact mi_ret hx hb hr (rfl) hlk hS hP hD (rfl) dX2_root_42
set_option maxHeartbeats 800000 in
set_option maxRecDepth 100000 in
theorem n_digest_no {l : Launch} {D : va_G} {om am : Nat → Nat} {cI cZ cG : ClassId} {th tp dy pv pm by_ pt wy : Int32} {gone oR : Nat → Int32} (q : Nat) (hq : q ≤ 24) (v u : Int32) (mem : xMem) (nm : String) (hX : (x_req v (nI q)).or (x_req u (nI 32)) = some nm) : MI l nE yX2_digest (.code yX2_digest cX2_digest 3 (some .int) :: tW) ({ frames := 4, cells := 0, slots := 0, locals := 100 }) D vwCl (tC cI cZ cG) [.ref (om 0), .int v, .int u] (wM om am cI cZ th tp (nI q) dy pv pm by_ pt wy gone oR mem) (wM om am cI cZ (cdL [nIOB] nm) tp (nI q) dy pv pm by_ pt wy gone oR mem) (nI 0) := by
  refine MI.ofW (by decide +kernel) rfl (Nat.le_of_ble_eq_true rfl) ?_
  intro p e s m below meth c A ls hx hb hr hts hown hlk hml hA hP hK hD hT hl
  have hS : va_S A s.heap s.heap [] := va_S.rf
  have hown : s.vm.findClass RX2 = some m.cls := hown
  have hW : ∀ w ∈ tW, w.before _ s = true := fun w h => hts w (List.mem_cons_of_mem _ h)
  have hl : lv_has ls 3 [(0, .ref (om 0)), (1, .int v), (2, .int u)] := hl
  rcases x_or_some hX with hg1 | ⟨hg1, hY1⟩
  · skip
    have hn9 := x_req_some hg1
    skip
    refine lv_aload_n hx hb dX2_digest_0 rfl (lv_at hl 0 rfl) ?_
    refine lv_aload_n hx hb dX2_digest_1 rfl (lv_at hl 0 rfl) ?_
    refine lv_iload_n hx hb dX2_digest_2 rfl (lv_at hl 1 rfl) ?_
    refine mi_callV (C := RX2) (As := [.int v]) (rest := [.ref (om 0)]) ⟨hx, hb, hml, hown, hW⟩ (n_isLeaf v q (by omega) mem) nE_ok (cwV 1 hW (gV tw_676 tw_678 tv_X2_isLeaf tw_3 tw_679) rfl rfl rfl (by decide +kernel) ⟨Nat.le_of_ble_eq_true rfl, Nat.le_of_ble_eq_true rfl⟩) (va_recv hK hP (ci := 2) (q0 := 0) rfl rfl) hP hD hK hS hA hT rfl hl.1 rfl (Nat.le_of_ble_eq_true rfl) dX2_digest_3 ⟨Nat.zero_le _, Nat.zero_le _⟩ (fun H locs hP hD hS => ?_)
    refine lv_eqi (v := nI 0) (by rw [hg1]; rfl) ?_
    refine lv_if_eq (tgt := 20) hx hb dX2_digest_6 (by decide) (fun _ => ?_) (fun hq9 => absurd (by decide) hq9)
    refine lv_iconst (v := nI 0) hx hb dX2_digest_20 (by decide) ?_
    refine lv_iconst (v := nI 1) hx hb dX2_digest_21 (by decide) ?_
    refine lv_iconst (v := nI 1) hx hb dX2_digest_22 (by decide) ?_
    refine mi_callV (C := RX2) (As := [.int (nI 0), .int (nI 1), .int (nI 1)]) (rest := []) ⟨hx, hb, hml, hown, hW⟩ (n_goes (nI 0) (nI 1) (nI 1) (nI 1) (nI 0) mem (if_pos (by decide)) (by decide)) nE_ok (cwV 3 hW (gV tw_601 tw_603 tv_X2_goes tw_3 tw_604) rfl rfl rfl (by decide +kernel) ⟨Nat.le_of_ble_eq_true rfl, Nat.le_of_ble_eq_true rfl⟩) (va_recv hK hP (ci := 2) (q0 := 0) rfl rfl) hP hD hK hS hA hT rfl hl.1 rfl (Nat.le_of_ble_eq_true rfl) dX2_digest_23 ⟨Nat.zero_le _, Nat.zero_le _⟩ (fun H locs hP hD hS => ?_)
    have hP : va_P D vwCl (wM om am cI cZ (nI 1) tp (nI q) dy pv pm by_ pt wy gone oR mem) H := hP
    have hD : va_D A (wM om am cI cZ (nI 1) tp (nI q) dy pv pm by_ pt wy gone oR mem) := hD
    refine lv_if_ne (tgt := 31) hx hb dX2_digest_26 (by decide) (fun hq9 => absurd (by decide) hq9) (fun _ => ?_)
    refine lv_iconst (v := nI 0) hx hb dX2_digest_29 (by decide) ?_
    have hP : va_P D vwCl (wM om am cI cZ (cdL [nIOB] nm) tp (nI q) dy pv pm by_ pt wy gone oR mem) H := by rw [show cdL [nIOB] nm = nI 1 from by rw [hn9]; decide +kernel]; exact hP
    have hD : va_D A (wM om am cI cZ (cdL [nIOB] nm) tp (nI q) dy pv pm by_ pt wy gone oR mem) := by rw [show cdL [nIOB] nm = nI 1 from by rw [hn9]; decide +kernel]; exact hD
    exact mi_ret hx hb hr (rfl) hlk hS hP hD (rfl) dX2_digest_30
  · skip
    have hg2 := hY1
    have hn9 := x_req_some hg2
    skip
    refine lv_aload_n hx hb dX2_digest_0 rfl (lv_at hl 0 rfl) ?_
    refine lv_aload_n hx hb dX2_digest_1 rfl (lv_at hl 0 rfl) ?_
    refine lv_iload_n hx hb dX2_digest_2 rfl (lv_at hl 1 rfl) ?_
    refine mi_callV (C := RX2) (As := [.int v]) (rest := [.ref (om 0)]) ⟨hx, hb, hml, hown, hW⟩ (n_isLeaf v q (by omega) mem) nE_ok (cwV 1 hW (gV tw_676 tw_678 tv_X2_isLeaf tw_3 tw_679) rfl rfl rfl (by decide +kernel) ⟨Nat.le_of_ble_eq_true rfl, Nat.le_of_ble_eq_true rfl⟩) (va_recv hK hP (ci := 2) (q0 := 0) rfl rfl) hP hD hK hS hA hT rfl hl.1 rfl (Nat.le_of_ble_eq_true rfl) dX2_digest_3 ⟨Nat.zero_le _, Nat.zero_le _⟩ (fun H locs hP hD hS => ?_)
    refine lv_eqi (v := nI 1) (by rw [hg1]; rfl) ?_
    refine lv_if_eq (tgt := 20) hx hb dX2_digest_6 (by decide) (fun hq9 => absurd hq9 (by decide)) (fun _ => ?_)
    refine lv_iload_n hx hb dX2_digest_9 rfl (lv_at hl 2 rfl) ?_
    refine mi_callS (As := [.int u]) (rest := [.ref (om 0)]) ⟨hx, hb, hml, hown, hW⟩ (n_isByte _ u) nE_ok (va_cwS 1 hW (gS tw_669 tw_670 tw_3 tw_671) rfl rfl rfl (by decide +kernel) ⟨Nat.le_of_ble_eq_true rfl, Nat.le_of_ble_eq_true rfl⟩) hP hD hK hS hA hT rfl hl.1 rfl (Nat.le_of_ble_eq_true rfl) dX2_digest_10 ⟨Nat.zero_le _, Nat.zero_le _⟩ (fun H locs hP hD hS => ?_)
    refine lv_eqi (v := nI 0) (by rw [hg2]; rfl) ?_
    refine lv_if_eq (tgt := 20) hx hb dX2_digest_13 (by decide) (fun _ => ?_) (fun hq9 => absurd (by decide) hq9)
    refine lv_iconst (v := nI 0) hx hb dX2_digest_20 (by decide) ?_
    refine lv_iconst (v := nI 1) hx hb dX2_digest_21 (by decide) ?_
    refine lv_iconst (v := nI 1) hx hb dX2_digest_22 (by decide) ?_
    refine mi_callV (C := RX2) (As := [.int (nI 0), .int (nI 1), .int (nI 1)]) (rest := []) ⟨hx, hb, hml, hown, hW⟩ (n_goes (nI 0) (nI 1) (nI 1) (nI 1) (nI 0) mem (if_pos (by decide)) (by decide)) nE_ok (cwV 3 hW (gV tw_601 tw_603 tv_X2_goes tw_3 tw_604) rfl rfl rfl (by decide +kernel) ⟨Nat.le_of_ble_eq_true rfl, Nat.le_of_ble_eq_true rfl⟩) (va_recv hK hP (ci := 2) (q0 := 0) rfl rfl) hP hD hK hS hA hT rfl hl.1 rfl (Nat.le_of_ble_eq_true rfl) dX2_digest_23 ⟨Nat.zero_le _, Nat.zero_le _⟩ (fun H locs hP hD hS => ?_)
    have hP : va_P D vwCl (wM om am cI cZ (nI 1) tp (nI q) dy pv pm by_ pt wy gone oR mem) H := hP
    have hD : va_D A (wM om am cI cZ (nI 1) tp (nI q) dy pv pm by_ pt wy gone oR mem) := hD
    refine lv_if_ne (tgt := 31) hx hb dX2_digest_26 (by decide) (fun hq9 => absurd (by decide) hq9) (fun _ => ?_)
    refine lv_iconst (v := nI 0) hx hb dX2_digest_29 (by decide) ?_
    have hP : va_P D vwCl (wM om am cI cZ (cdL [nIOB] nm) tp (nI q) dy pv pm by_ pt wy gone oR mem) H := by rw [show cdL [nIOB] nm = nI 1 from by rw [hn9]; decide +kernel]; exact hP
    have hD : va_D A (wM om am cI cZ (cdL [nIOB] nm) tp (nI q) dy pv pm by_ pt wy gone oR mem) := by rw [show cdL [nIOB] nm = nI 1 from by rw [hn9]; decide +kernel]; exact hD
    exact mi_ret hx hb hr (rfl) hlk hS hP hD (rfl) dX2_digest_30
set_option maxHeartbeats 800000 in
set_option maxRecDepth 100000 in
theorem n_digest {l : Launch} {D : va_G} {om am : Nat → Nat} {cI cZ cG : ClassId} {th tp dy pv pm by_ pt wy : Int32} {gone oR : Nat → Int32} (q d i : Nat) (hq : q ≤ 24) (hd : d < q) (hi : i < 32) (mem : xMem) : MI l nE yX2_digest (.code yX2_digest cX2_digest 3 (some .int) :: tW) ({ frames := 4, cells := 0, slots := 0, locals := 100 }) D vwCl (tC cI cZ cG) [.ref (om 0), .int (nI d), .int (nI i)] (wM om am cI cZ th tp (nI q) dy pv pm by_ pt wy gone oR mem) (wM om am cI cZ (nI 0) tp (nI q) dy pv pm by_ pt wy gone oR mem) (mem 6 (32 * d + i)) := by
  refine MI.ofW (by decide +kernel) rfl (Nat.le_of_ble_eq_true rfl) ?_
  intro p e s m below meth c A ls hx hb hr hts hown hlk hml hA hP hK hD hT hl
  have hS : va_S A s.heap s.heap [] := va_S.rf
  have hown : s.vm.findClass RX2 = some m.cls := hown
  have hW : ∀ w ∈ tW, w.before _ s = true := fun w h => hts w (List.mem_cons_of_mem _ h)
  have hl : lv_has ls 3 [(0, .ref (om 0)), (1, .int (nI d)), (2, .int (nI i))] := hl
  refine lv_aload_n hx hb dX2_digest_0 rfl (lv_at hl 0 rfl) ?_
  refine lv_aload_n hx hb dX2_digest_1 rfl (lv_at hl 0 rfl) ?_
  refine lv_iload_n hx hb dX2_digest_2 rfl (lv_at hl 1 rfl) ?_
  refine mi_callV (C := RX2) (As := [.int (nI d)]) (rest := [.ref (om 0)]) ⟨hx, hb, hml, hown, hW⟩ (n_isLeaf (nI d) q (by omega) mem) nE_ok (cwV 1 hW (gV tw_676 tw_678 tv_X2_isLeaf tw_3 tw_679) rfl rfl rfl (by decide +kernel) ⟨Nat.le_of_ble_eq_true rfl, Nat.le_of_ble_eq_true rfl⟩) (va_recv hK hP (ci := 2) (q0 := 0) rfl rfl) hP hD hK hS hA hT rfl hl.1 rfl (Nat.le_of_ble_eq_true rfl) dX2_digest_3 ⟨Nat.zero_le _, Nat.zero_le _⟩ (fun H locs hP hD hS => ?_)
  refine lv_eqi (v := nI 1) (by rw [x_req_nat hd (by omega)]; rfl) ?_
  refine lv_if_eq (tgt := 20) hx hb dX2_digest_6 (by decide) (fun hq9 => absurd hq9 (by decide)) (fun _ => ?_)
  refine lv_iload_n hx hb dX2_digest_9 rfl (lv_at hl 2 rfl) ?_
  refine mi_callS (As := [.int (nI i)]) (rest := [.ref (om 0)]) ⟨hx, hb, hml, hown, hW⟩ (n_isByte _ (nI i)) nE_ok (va_cwS 1 hW (gS tw_669 tw_670 tw_3 tw_671) rfl rfl rfl (by decide +kernel) ⟨Nat.le_of_ble_eq_true rfl, Nat.le_of_ble_eq_true rfl⟩) hP hD hK hS hA hT rfl hl.1 rfl (Nat.le_of_ble_eq_true rfl) dX2_digest_10 ⟨Nat.zero_le _, Nat.zero_le _⟩ (fun H locs hP hD hS => ?_)
  refine lv_eqi (v := nI 1) (by rw [x_req_nat hi (by decide)]; rfl) ?_
  refine lv_if_eq (tgt := 20) hx hb dX2_digest_13 (by decide) (fun hq9 => absurd hq9 (by decide)) (fun _ => ?_)
  refine lv_iconst (v := nI 1) hx hb dX2_digest_16 (by decide) ?_
  refine lv_goto (tgt := 21) hx hb dX2_digest_17 (by decide) ?_
  refine lv_iconst (v := nI 1) hx hb dX2_digest_21 (by decide) ?_
  refine lv_iconst (v := nI 1) hx hb dX2_digest_22 (by decide) ?_
  refine mi_callV (C := RX2) (As := [.int (nI 1), .int (nI 1), .int (nI 1)]) (rest := []) ⟨hx, hb, hml, hown, hW⟩ (n_goes (nI 1) (nI 1) (nI 1) (nI 0) (nI 1) mem ((if_neg (by decide)).trans ((if_neg (by decide)).trans (if_neg (by decide)))) (by decide)) nE_ok (cwV 3 hW (gV tw_601 tw_603 tv_X2_goes tw_3 tw_604) rfl rfl rfl (by decide +kernel) ⟨Nat.le_of_ble_eq_true rfl, Nat.le_of_ble_eq_true rfl⟩) (va_recv hK hP (ci := 2) (q0 := 0) rfl rfl) hP hD hK hS hA hT rfl hl.1 rfl (Nat.le_of_ble_eq_true rfl) dX2_digest_23 ⟨Nat.zero_le _, Nat.zero_le _⟩ (fun H locs hP hD hS => ?_)
  have hP : va_P D vwCl (wM om am cI cZ (nI 0) tp (nI q) dy pv pm by_ pt wy gone oR mem) H := hP
  have hD : va_D A (wM om am cI cZ (nI 0) tp (nI q) dy pv pm by_ pt wy gone oR mem) := hD
  refine lv_if_ne (tgt := 31) hx hb dX2_digest_26 (by decide) (fun _ => ?_) (fun hq9 => absurd hq9 (by decide))
  refine lv_aload_n hx hb dX2_digest_31 rfl (lv_at hl 0 rfl) ?_
  refine va_get (D := D) (ci := 2) (v := .ref (am 6)) (C := RX2) (T := TX2) (N := 25) hx hb hW iMD hown hK hP 0 rfl rfl 4 (by decide) (hW _ tw_518) (fun _ h9 => h9) rfl dX2_digest_32 ?_
  refine lv_bipush (v := nI 32) hx hb dX2_digest_35 (by decide) ?_
  refine lv_iload_n hx hb dX2_digest_37 rfl (lv_at hl 1 rfl) ?_
  refine lv_imul hx hb dX2_digest_38 ?_
  refine lv_eqi (v := nI (32 * d)) (pk_mul _ _) ?_
  refine lv_iload_n hx hb dX2_digest_39 rfl (lv_at hl 2 rfl) ?_
  refine lv_iadd hx hb dX2_digest_40 ?_
  refine lv_eqi (v := nI (32 * d + i)) (nI_add _ _) ?_
  refine m_ld (X := wMx om am cZ (nI 0) tp (nI q) dy pv pm by_ pt wy gone oR) hx hb hK hP 0 6 (32 * d + i) rfl (by decide) (show 32 * d + i < 768 by omega) (by decide) dX2_digest_41 ?_
  have hP : va_P D vwCl (wM om am cI cZ (nI 0) tp (nI q) dy pv pm by_ pt wy gone oR mem) H := by exact hP
  have hD : va_D A (wM om am cI cZ (nI 0) tp (nI q) dy pv pm by_ pt wy gone oR mem) := by exact hD
  exact mi_ret hx hb hr (rfl) hlk hS hP hD (rfl) dX2_digest_42
set_option maxHeartbeats 800000 in
set_option maxRecDepth 100000 in
theorem n_count_no {l : Launch} {D : va_G} {om am : Nat → Nat} {cI cZ cG : ClassId} {th tp lv pv pm by_ pt wy : Int32} {gone oR : Nat → Int32} (y : Nat) (hy : y ≤ 12) (v : Int32) (mem : xMem) (nm : String) (hX : x_req v (nI y) = some nm) : MI l nE yX2_count (.code yX2_count cX2_count 2 (some .int) :: tW) ({ frames := 4, cells := 0, slots := 0, locals := 100 }) D vwCl (tC cI cZ cG) [.ref (om 0), .int v] (wM om am cI cZ th tp lv (nI y) pv pm by_ pt wy gone oR mem) (wM om am cI cZ (cdL [nIOB] nm) tp lv (nI y) pv pm by_ pt wy gone oR mem) (nI 0) := by
  refine MI.ofW (by decide +kernel) rfl (Nat.le_of_ble_eq_true rfl) ?_
  intro p e s m below meth c A ls hx hb hr hts hown hlk hml hA hP hK hD hT hl
  have hS : va_S A s.heap s.heap [] := va_S.rf
  have hown : s.vm.findClass RX2 = some m.cls := hown
  have hW : ∀ w ∈ tW, w.before _ s = true := fun w h => hts w (List.mem_cons_of_mem _ h)
  have hl : lv_has ls 2 [(0, .ref (om 0)), (1, .int v)] := hl
  have hg1 := hX
  have hn9 := x_req_some hg1
  skip
  refine lv_aload_n hx hb dX2_count_0 rfl (lv_at hl 0 rfl) ?_
  refine lv_aload_n hx hb dX2_count_1 rfl (lv_at hl 0 rfl) ?_
  refine lv_iload_n hx hb dX2_count_2 rfl (lv_at hl 1 rfl) ?_
  refine mi_callV (C := RX2) (As := [.int v]) (rest := [.ref (om 0)]) ⟨hx, hb, hml, hown, hW⟩ (n_isDay v y (by omega) mem) nE_ok (cwV 1 hW (gV tw_665 tw_667 tv_X2_isDay tw_3 tw_668) rfl rfl rfl (by decide +kernel) ⟨Nat.le_of_ble_eq_true rfl, Nat.le_of_ble_eq_true rfl⟩) (va_recv hK hP (ci := 2) (q0 := 0) rfl rfl) hP hD hK hS hA hT rfl hl.1 rfl (Nat.le_of_ble_eq_true rfl) dX2_count_3 ⟨Nat.zero_le _, Nat.zero_le _⟩ (fun H locs hP hD hS => ?_)
  refine lv_eqi (v := nI 0) (by rw [hg1]; rfl) ?_
  refine lv_iconst (v := nI 1) hx hb dX2_count_6 (by decide) ?_
  refine lv_iconst (v := nI 1) hx hb dX2_count_7 (by decide) ?_
  refine mi_callV (C := RX2) (As := [.int (nI 0), .int (nI 1), .int (nI 1)]) (rest := []) ⟨hx, hb, hml, hown, hW⟩ (n_goes (nI 0) (nI 1) (nI 1) (nI 1) (nI 0) mem (if_pos (by decide)) (by decide)) nE_ok (cwV 3 hW (gV tw_601 tw_603 tv_X2_goes tw_3 tw_604) rfl rfl rfl (by decide +kernel) ⟨Nat.le_of_ble_eq_true rfl, Nat.le_of_ble_eq_true rfl⟩) (va_recv hK hP (ci := 2) (q0 := 0) rfl rfl) hP hD hK hS hA hT rfl hl.1 rfl (Nat.le_of_ble_eq_true rfl) dX2_count_8 ⟨Nat.zero_le _, Nat.zero_le _⟩ (fun H locs hP hD hS => ?_)
  have hP : va_P D vwCl (wM om am cI cZ (nI 1) tp lv (nI y) pv pm by_ pt wy gone oR mem) H := hP
  have hD : va_D A (wM om am cI cZ (nI 1) tp lv (nI y) pv pm by_ pt wy gone oR mem) := hD
  refine lv_if_ne (tgt := 16) hx hb dX2_count_11 (by decide) (fun hq9 => absurd (by decide) hq9) (fun _ => ?_)
  refine lv_iconst (v := nI 0) hx hb dX2_count_14 (by decide) ?_
  have hP : va_P D vwCl (wM om am cI cZ (cdL [nIOB] nm) tp lv (nI y) pv pm by_ pt wy gone oR mem) H := by rw [show cdL [nIOB] nm = nI 1 from by rw [hn9]; decide +kernel]; exact hP
  have hD : va_D A (wM om am cI cZ (cdL [nIOB] nm) tp lv (nI y) pv pm by_ pt wy gone oR mem) := by rw [show cdL [nIOB] nm = nI 1 from by rw [hn9]; decide +kernel]; exact hD
  exact mi_ret hx hb hr (rfl) hlk hS hP hD (rfl) dX2_count_15
set_option maxHeartbeats 800000 in
set_option maxRecDepth 100000 in
theorem n_count {l : Launch} {D : va_G} {om am : Nat → Nat} {cI cZ cG : ClassId} {th tp lv pv pm by_ pt wy : Int32} {gone oR : Nat → Int32} (y d : Nat) (hy : y ≤ 12) (hd : d < y) (mem : xMem) : MI l nE yX2_count (.code yX2_count cX2_count 2 (some .int) :: tW) ({ frames := 4, cells := 0, slots := 0, locals := 100 }) D vwCl (tC cI cZ cG) [.ref (om 0), .int (nI d)] (wM om am cI cZ th tp lv (nI y) pv pm by_ pt wy gone oR mem) (wM om am cI cZ (nI 0) tp lv (nI y) pv pm by_ pt wy gone oR mem) (mem 1 d) := by
  refine MI.ofW (by decide +kernel) rfl (Nat.le_of_ble_eq_true rfl) ?_
  intro p e s m below meth c A ls hx hb hr hts hown hlk hml hA hP hK hD hT hl
  have hS : va_S A s.heap s.heap [] := va_S.rf
  have hown : s.vm.findClass RX2 = some m.cls := hown
  have hW : ∀ w ∈ tW, w.before _ s = true := fun w h => hts w (List.mem_cons_of_mem _ h)
  have hl : lv_has ls 2 [(0, .ref (om 0)), (1, .int (nI d))] := hl
  refine lv_aload_n hx hb dX2_count_0 rfl (lv_at hl 0 rfl) ?_
  refine lv_aload_n hx hb dX2_count_1 rfl (lv_at hl 0 rfl) ?_
  refine lv_iload_n hx hb dX2_count_2 rfl (lv_at hl 1 rfl) ?_
  refine mi_callV (C := RX2) (As := [.int (nI d)]) (rest := [.ref (om 0)]) ⟨hx, hb, hml, hown, hW⟩ (n_isDay (nI d) y (by omega) mem) nE_ok (cwV 1 hW (gV tw_665 tw_667 tv_X2_isDay tw_3 tw_668) rfl rfl rfl (by decide +kernel) ⟨Nat.le_of_ble_eq_true rfl, Nat.le_of_ble_eq_true rfl⟩) (va_recv hK hP (ci := 2) (q0 := 0) rfl rfl) hP hD hK hS hA hT rfl hl.1 rfl (Nat.le_of_ble_eq_true rfl) dX2_count_3 ⟨Nat.zero_le _, Nat.zero_le _⟩ (fun H locs hP hD hS => ?_)
  refine lv_eqi (v := nI 1) (by rw [x_req_nat hd (by omega)]; rfl) ?_
  refine lv_iconst (v := nI 1) hx hb dX2_count_6 (by decide) ?_
  refine lv_iconst (v := nI 1) hx hb dX2_count_7 (by decide) ?_
  refine mi_callV (C := RX2) (As := [.int (nI 1), .int (nI 1), .int (nI 1)]) (rest := []) ⟨hx, hb, hml, hown, hW⟩ (n_goes (nI 1) (nI 1) (nI 1) (nI 0) (nI 1) mem ((if_neg (by decide)).trans ((if_neg (by decide)).trans (if_neg (by decide)))) (by decide)) nE_ok (cwV 3 hW (gV tw_601 tw_603 tv_X2_goes tw_3 tw_604) rfl rfl rfl (by decide +kernel) ⟨Nat.le_of_ble_eq_true rfl, Nat.le_of_ble_eq_true rfl⟩) (va_recv hK hP (ci := 2) (q0 := 0) rfl rfl) hP hD hK hS hA hT rfl hl.1 rfl (Nat.le_of_ble_eq_true rfl) dX2_count_8 ⟨Nat.zero_le _, Nat.zero_le _⟩ (fun H locs hP hD hS => ?_)
  have hP : va_P D vwCl (wM om am cI cZ (nI 0) tp lv (nI y) pv pm by_ pt wy gone oR mem) H := hP
  have hD : va_D A (wM om am cI cZ (nI 0) tp lv (nI y) pv pm by_ pt wy gone oR mem) := hD
  refine lv_if_ne (tgt := 16) hx hb dX2_count_11 (by decide) (fun _ => ?_) (fun hq9 => absurd hq9 (by decide))
  refine lv_aload_n hx hb dX2_count_16 rfl (lv_at hl 0 rfl) ?_
  refine va_get (D := D) (ci := 2) (v := .ref (am 1)) (C := RX2) (T := TX2) (N := 25) hx hb hW iMD hown hK hP 0 rfl rfl 7 (by decide) (hW _ tw_521) (fun _ h9 => h9) rfl dX2_count_17 ?_
  refine lv_iload_n hx hb dX2_count_20 rfl (lv_at hl 1 rfl) ?_
  refine m_ld (X := wMx om am cZ (nI 0) tp lv (nI y) pv pm by_ pt wy gone oR) hx hb hK hP 0 1 d rfl (by decide) (show d < 12 by omega) (by decide) dX2_count_21 ?_
  have hP : va_P D vwCl (wM om am cI cZ (nI 0) tp lv (nI y) pv pm by_ pt wy gone oR mem) H := by exact hP
  have hD : va_D A (wM om am cI cZ (nI 0) tp lv (nI y) pv pm by_ pt wy gone oR mem) := by exact hD
  exact mi_ret hx hb hr (rfl) hlk hS hP hD (rfl) dX2_count_22
set_option maxHeartbeats 800000 in
set_option maxRecDepth 100000 in
theorem n_proof_no {l : Launch} {D : va_G} {om am : Nat → Nat} {cI cZ cG : ClassId} {th tp lv dy pv by_ pt wy : Int32} {gone oR : Nat → Int32} (q : Nat) (hq : q ≤ 5) (v u : Int32) (mem : xMem) (nm : String) (hX : (x_req v (nI q)).or (x_req u (nI 32)) = some nm) : MI l nE yX2_proof (.code yX2_proof cX2_proof 3 (some .int) :: tW) ({ frames := 4, cells := 0, slots := 0, locals := 100 }) D vwCl (tC cI cZ cG) [.ref (om 0), .int v, .int u] (wM om am cI cZ th tp lv dy pv (nI q) by_ pt wy gone oR mem) (wM om am cI cZ (cdL [nIOB] nm) tp lv dy pv (nI q) by_ pt wy gone oR mem) (nI 0) := by
  refine MI.ofW (by decide +kernel) rfl (Nat.le_of_ble_eq_true rfl) ?_
  intro p e s m below meth c A ls hx hb hr hts hown hlk hml hA hP hK hD hT hl
  have hS : va_S A s.heap s.heap [] := va_S.rf
  have hown : s.vm.findClass RX2 = some m.cls := hown
  have hW : ∀ w ∈ tW, w.before _ s = true := fun w h => hts w (List.mem_cons_of_mem _ h)
  have hl : lv_has ls 3 [(0, .ref (om 0)), (1, .int v), (2, .int u)] := hl
  rcases x_or_some hX with hg1 | ⟨hg1, hY1⟩
  · skip
    have hn9 := x_req_some hg1
    skip
    refine lv_aload_n hx hb dX2_proof_0 rfl (lv_at hl 0 rfl) ?_
    refine lv_iload_n hx hb dX2_proof_1 rfl (lv_at hl 1 rfl) ?_
    refine lv_iconst (v := nI 0) hx hb dX2_proof_2 (by decide) ?_
    refine lv_aload_n hx hb dX2_proof_3 rfl (lv_at hl 0 rfl) ?_
    refine va_get (D := D) (ci := 2) (v := .int (nI q)) (C := RX2) (T := TX2) (N := 25) hx hb hW iMD hown hK hP 0 rfl rfl 10 (by decide) (hW _ tw_524) (fun _ h9 => h9) rfl dX2_proof_4 ?_
    refine lv_iconst (v := nI 1) hx hb dX2_proof_7 (by decide) ?_
    refine lv_isub hx hb dX2_proof_8 ?_
    refine mi_callS (As := [.int v, .int (nI 0), .int ((nI q) - (nI 1))]) (rest := [.ref (om 0)]) ⟨hx, hb, hml, hown, hW⟩ (n_in _ v (nI 0) ((nI q) - (nI 1))) nE_ok (va_cwS 3 hW (gS tw_598 tw_599 tw_3 tw_600) rfl rfl rfl (by decide +kernel) ⟨Nat.le_of_ble_eq_true rfl, Nat.le_of_ble_eq_true rfl⟩) hP hD hK hS hA hT rfl hl.1 rfl (Nat.le_of_ble_eq_true rfl) dX2_proof_9 ⟨Nat.zero_le _, Nat.zero_le _⟩ (fun H locs hP hD hS => ?_)
    refine lv_eqi (v := nI 0) (by rw [p_in_req _ q (by omega)]; rw [hg1]; rfl) ?_
    refine lv_if_eq (tgt := 26) hx hb dX2_proof_12 (by decide) (fun _ => ?_) (fun hq9 => absurd (by decide) hq9)
    refine lv_iconst (v := nI 0) hx hb dX2_proof_26 (by decide) ?_
    refine lv_iconst (v := nI 1) hx hb dX2_proof_27 (by decide) ?_
    refine lv_iconst (v := nI 1) hx hb dX2_proof_28 (by decide) ?_
    refine mi_callV (C := RX2) (As := [.int (nI 0), .int (nI 1), .int (nI 1)]) (rest := []) ⟨hx, hb, hml, hown, hW⟩ (n_goes (nI 0) (nI 1) (nI 1) (nI 1) (nI 0) mem (if_pos (by decide)) (by decide)) nE_ok (cwV 3 hW (gV tw_601 tw_603 tv_X2_goes tw_3 tw_604) rfl rfl rfl (by decide +kernel) ⟨Nat.le_of_ble_eq_true rfl, Nat.le_of_ble_eq_true rfl⟩) (va_recv hK hP (ci := 2) (q0 := 0) rfl rfl) hP hD hK hS hA hT rfl hl.1 rfl (Nat.le_of_ble_eq_true rfl) dX2_proof_29 ⟨Nat.zero_le _, Nat.zero_le _⟩ (fun H locs hP hD hS => ?_)
    have hP : va_P D vwCl (wM om am cI cZ (nI 1) tp lv dy pv (nI q) by_ pt wy gone oR mem) H := hP
    have hD : va_D A (wM om am cI cZ (nI 1) tp lv dy pv (nI q) by_ pt wy gone oR mem) := hD
    refine lv_if_ne (tgt := 37) hx hb dX2_proof_32 (by decide) (fun hq9 => absurd (by decide) hq9) (fun _ => ?_)
    refine lv_iconst (v := nI 0) hx hb dX2_proof_35 (by decide) ?_
    have hP : va_P D vwCl (wM om am cI cZ (cdL [nIOB] nm) tp lv dy pv (nI q) by_ pt wy gone oR mem) H := by rw [show cdL [nIOB] nm = nI 1 from by rw [hn9]; decide +kernel]; exact hP
    have hD : va_D A (wM om am cI cZ (cdL [nIOB] nm) tp lv dy pv (nI q) by_ pt wy gone oR mem) := by rw [show cdL [nIOB] nm = nI 1 from by rw [hn9]; decide +kernel]; exact hD
    exact mi_ret hx hb hr (rfl) hlk hS hP hD (rfl) dX2_proof_36
  · skip
    have hg2 := hY1
    have hn9 := x_req_some hg2
    skip
    refine lv_aload_n hx hb dX2_proof_0 rfl (lv_at hl 0 rfl) ?_
    refine lv_iload_n hx hb dX2_proof_1 rfl (lv_at hl 1 rfl) ?_
    refine lv_iconst (v := nI 0) hx hb dX2_proof_2 (by decide) ?_
    refine lv_aload_n hx hb dX2_proof_3 rfl (lv_at hl 0 rfl) ?_
    refine va_get (D := D) (ci := 2) (v := .int (nI q)) (C := RX2) (T := TX2) (N := 25) hx hb hW iMD hown hK hP 0 rfl rfl 10 (by decide) (hW _ tw_524) (fun _ h9 => h9) rfl dX2_proof_4 ?_
    refine lv_iconst (v := nI 1) hx hb dX2_proof_7 (by decide) ?_
    refine lv_isub hx hb dX2_proof_8 ?_
    refine mi_callS (As := [.int v, .int (nI 0), .int ((nI q) - (nI 1))]) (rest := [.ref (om 0)]) ⟨hx, hb, hml, hown, hW⟩ (n_in _ v (nI 0) ((nI q) - (nI 1))) nE_ok (va_cwS 3 hW (gS tw_598 tw_599 tw_3 tw_600) rfl rfl rfl (by decide +kernel) ⟨Nat.le_of_ble_eq_true rfl, Nat.le_of_ble_eq_true rfl⟩) hP hD hK hS hA hT rfl hl.1 rfl (Nat.le_of_ble_eq_true rfl) dX2_proof_9 ⟨Nat.zero_le _, Nat.zero_le _⟩ (fun H locs hP hD hS => ?_)
    refine lv_eqi (v := nI 1) (by rw [p_in_req _ q (by omega)]; rw [hg1]; rfl) ?_
    refine lv_if_eq (tgt := 26) hx hb dX2_proof_12 (by decide) (fun hq9 => absurd hq9 (by decide)) (fun _ => ?_)
    refine lv_iload_n hx hb dX2_proof_15 rfl (lv_at hl 2 rfl) ?_
    refine mi_callS (As := [.int u]) (rest := [.ref (om 0)]) ⟨hx, hb, hml, hown, hW⟩ (n_isByte _ u) nE_ok (va_cwS 1 hW (gS tw_669 tw_670 tw_3 tw_671) rfl rfl rfl (by decide +kernel) ⟨Nat.le_of_ble_eq_true rfl, Nat.le_of_ble_eq_true rfl⟩) hP hD hK hS hA hT rfl hl.1 rfl (Nat.le_of_ble_eq_true rfl) dX2_proof_16 ⟨Nat.zero_le _, Nat.zero_le _⟩ (fun H locs hP hD hS => ?_)
    refine lv_eqi (v := nI 0) (by rw [hg2]; rfl) ?_
    refine lv_if_eq (tgt := 26) hx hb dX2_proof_19 (by decide) (fun _ => ?_) (fun hq9 => absurd (by decide) hq9)
    refine lv_iconst (v := nI 0) hx hb dX2_proof_26 (by decide) ?_
    refine lv_iconst (v := nI 1) hx hb dX2_proof_27 (by decide) ?_
    refine lv_iconst (v := nI 1) hx hb dX2_proof_28 (by decide) ?_
    refine mi_callV (C := RX2) (As := [.int (nI 0), .int (nI 1), .int (nI 1)]) (rest := []) ⟨hx, hb, hml, hown, hW⟩ (n_goes (nI 0) (nI 1) (nI 1) (nI 1) (nI 0) mem (if_pos (by decide)) (by decide)) nE_ok (cwV 3 hW (gV tw_601 tw_603 tv_X2_goes tw_3 tw_604) rfl rfl rfl (by decide +kernel) ⟨Nat.le_of_ble_eq_true rfl, Nat.le_of_ble_eq_true rfl⟩) (va_recv hK hP (ci := 2) (q0 := 0) rfl rfl) hP hD hK hS hA hT rfl hl.1 rfl (Nat.le_of_ble_eq_true rfl) dX2_proof_29 ⟨Nat.zero_le _, Nat.zero_le _⟩ (fun H locs hP hD hS => ?_)
    have hP : va_P D vwCl (wM om am cI cZ (nI 1) tp lv dy pv (nI q) by_ pt wy gone oR mem) H := hP
    have hD : va_D A (wM om am cI cZ (nI 1) tp lv dy pv (nI q) by_ pt wy gone oR mem) := hD
    refine lv_if_ne (tgt := 37) hx hb dX2_proof_32 (by decide) (fun hq9 => absurd (by decide) hq9) (fun _ => ?_)
    refine lv_iconst (v := nI 0) hx hb dX2_proof_35 (by decide) ?_
    have hP : va_P D vwCl (wM om am cI cZ (cdL [nIOB] nm) tp lv dy pv (nI q) by_ pt wy gone oR mem) H := by rw [show cdL [nIOB] nm = nI 1 from by rw [hn9]; decide +kernel]; exact hP
    have hD : va_D A (wM om am cI cZ (cdL [nIOB] nm) tp lv dy pv (nI q) by_ pt wy gone oR mem) := by rw [show cdL [nIOB] nm = nI 1 from by rw [hn9]; decide +kernel]; exact hD
    exact mi_ret hx hb hr (rfl) hlk hS hP hD (rfl) dX2_proof_36
set_option maxHeartbeats 800000 in
set_option maxRecDepth 100000 in
theorem n_proof {l : Launch} {D : va_G} {om am : Nat → Nat} {cI cZ cG : ClassId} {th tp lv dy pv by_ pt wy : Int32} {gone oR : Nat → Int32} (q d i : Nat) (hq : q ≤ 5) (hd : d < q) (hi : i < 32) (mem : xMem) : MI l nE yX2_proof (.code yX2_proof cX2_proof 3 (some .int) :: tW) ({ frames := 4, cells := 0, slots := 0, locals := 100 }) D vwCl (tC cI cZ cG) [.ref (om 0), .int (nI d), .int (nI i)] (wM om am cI cZ th tp lv dy pv (nI q) by_ pt wy gone oR mem) (wM om am cI cZ (nI 0) tp lv dy pv (nI q) by_ pt wy gone oR mem) (mem 8 (32 * d + i)) := by
  refine MI.ofW (by decide +kernel) rfl (Nat.le_of_ble_eq_true rfl) ?_
  intro p e s m below meth c A ls hx hb hr hts hown hlk hml hA hP hK hD hT hl
  have hS : va_S A s.heap s.heap [] := va_S.rf
  have hown : s.vm.findClass RX2 = some m.cls := hown
  have hW : ∀ w ∈ tW, w.before _ s = true := fun w h => hts w (List.mem_cons_of_mem _ h)
  have hl : lv_has ls 3 [(0, .ref (om 0)), (1, .int (nI d)), (2, .int (nI i))] := hl
  refine lv_aload_n hx hb dX2_proof_0 rfl (lv_at hl 0 rfl) ?_
  refine lv_iload_n hx hb dX2_proof_1 rfl (lv_at hl 1 rfl) ?_
  refine lv_iconst (v := nI 0) hx hb dX2_proof_2 (by decide) ?_
  refine lv_aload_n hx hb dX2_proof_3 rfl (lv_at hl 0 rfl) ?_
  refine va_get (D := D) (ci := 2) (v := .int (nI q)) (C := RX2) (T := TX2) (N := 25) hx hb hW iMD hown hK hP 0 rfl rfl 10 (by decide) (hW _ tw_524) (fun _ h9 => h9) rfl dX2_proof_4 ?_
  refine lv_iconst (v := nI 1) hx hb dX2_proof_7 (by decide) ?_
  refine lv_isub hx hb dX2_proof_8 ?_
  refine mi_callS (As := [.int (nI d), .int (nI 0), .int ((nI q) - (nI 1))]) (rest := [.ref (om 0)]) ⟨hx, hb, hml, hown, hW⟩ (n_in _ (nI d) (nI 0) ((nI q) - (nI 1))) nE_ok (va_cwS 3 hW (gS tw_598 tw_599 tw_3 tw_600) rfl rfl rfl (by decide +kernel) ⟨Nat.le_of_ble_eq_true rfl, Nat.le_of_ble_eq_true rfl⟩) hP hD hK hS hA hT rfl hl.1 rfl (Nat.le_of_ble_eq_true rfl) dX2_proof_9 ⟨Nat.zero_le _, Nat.zero_le _⟩ (fun H locs hP hD hS => ?_)
  refine lv_eqi (v := nI 1) (by rw [p_in_req _ q (by omega)]; rw [x_req_nat hd (by omega)]; rfl) ?_
  refine lv_if_eq (tgt := 26) hx hb dX2_proof_12 (by decide) (fun hq9 => absurd hq9 (by decide)) (fun _ => ?_)
  refine lv_iload_n hx hb dX2_proof_15 rfl (lv_at hl 2 rfl) ?_
  refine mi_callS (As := [.int (nI i)]) (rest := [.ref (om 0)]) ⟨hx, hb, hml, hown, hW⟩ (n_isByte _ (nI i)) nE_ok (va_cwS 1 hW (gS tw_669 tw_670 tw_3 tw_671) rfl rfl rfl (by decide +kernel) ⟨Nat.le_of_ble_eq_true rfl, Nat.le_of_ble_eq_true rfl⟩) hP hD hK hS hA hT rfl hl.1 rfl (Nat.le_of_ble_eq_true rfl) dX2_proof_16 ⟨Nat.zero_le _, Nat.zero_le _⟩ (fun H locs hP hD hS => ?_)
  refine lv_eqi (v := nI 1) (by rw [x_req_nat hi (by decide)]; rfl) ?_
  refine lv_if_eq (tgt := 26) hx hb dX2_proof_19 (by decide) (fun hq9 => absurd hq9 (by decide)) (fun _ => ?_)
  refine lv_iconst (v := nI 1) hx hb dX2_proof_22 (by decide) ?_
  refine lv_goto (tgt := 27) hx hb dX2_proof_23 (by decide) ?_
  refine lv_iconst (v := nI 1) hx hb dX2_proof_27 (by decide) ?_
  refine lv_iconst (v := nI 1) hx hb dX2_proof_28 (by decide) ?_
  refine mi_callV (C := RX2) (As := [.int (nI 1), .int (nI 1), .int (nI 1)]) (rest := []) ⟨hx, hb, hml, hown, hW⟩ (n_goes (nI 1) (nI 1) (nI 1) (nI 0) (nI 1) mem ((if_neg (by decide)).trans ((if_neg (by decide)).trans (if_neg (by decide)))) (by decide)) nE_ok (cwV 3 hW (gV tw_601 tw_603 tv_X2_goes tw_3 tw_604) rfl rfl rfl (by decide +kernel) ⟨Nat.le_of_ble_eq_true rfl, Nat.le_of_ble_eq_true rfl⟩) (va_recv hK hP (ci := 2) (q0 := 0) rfl rfl) hP hD hK hS hA hT rfl hl.1 rfl (Nat.le_of_ble_eq_true rfl) dX2_proof_29 ⟨Nat.zero_le _, Nat.zero_le _⟩ (fun H locs hP hD hS => ?_)
  have hP : va_P D vwCl (wM om am cI cZ (nI 0) tp lv dy pv (nI q) by_ pt wy gone oR mem) H := hP
  have hD : va_D A (wM om am cI cZ (nI 0) tp lv dy pv (nI q) by_ pt wy gone oR mem) := hD
  refine lv_if_ne (tgt := 37) hx hb dX2_proof_32 (by decide) (fun _ => ?_) (fun hq9 => absurd hq9 (by decide))
  refine lv_aload_n hx hb dX2_proof_37 rfl (lv_at hl 0 rfl) ?_
  refine va_get (D := D) (ci := 2) (v := .ref (am 8)) (C := RX2) (T := TX2) (N := 25) hx hb hW iMD hown hK hP 0 rfl rfl 11 (by decide) (hW _ tw_525) (fun _ h9 => h9) rfl dX2_proof_38 ?_
  refine lv_bipush (v := nI 32) hx hb dX2_proof_41 (by decide) ?_
  refine lv_iload_n hx hb dX2_proof_43 rfl (lv_at hl 1 rfl) ?_
  refine lv_imul hx hb dX2_proof_44 ?_
  refine lv_eqi (v := nI (32 * d)) (pk_mul _ _) ?_
  refine lv_iload_n hx hb dX2_proof_45 rfl (lv_at hl 2 rfl) ?_
  refine lv_iadd hx hb dX2_proof_46 ?_
  refine lv_eqi (v := nI (32 * d + i)) (nI_add _ _) ?_
  refine m_ld (X := wMx om am cZ (nI 0) tp lv dy pv (nI q) by_ pt wy gone oR) hx hb hK hP 0 8 (32 * d + i) rfl (by decide) (show 32 * d + i < 320 by omega) (by decide) dX2_proof_47 ?_
  have hP : va_P D vwCl (wM om am cI cZ (nI 0) tp lv dy pv (nI q) by_ pt wy gone oR mem) H := by exact hP
  have hD : va_D A (wM om am cI cZ (nI 0) tp lv dy pv (nI q) by_ pt wy gone oR mem) := by exact hD
  exact mi_ret hx hb hr (rfl) hlk hS hP hD (rfl) dX2_proof_48
set_option maxHeartbeats 800000 in
set_option maxRecDepth 100000 in
theorem n_bend_no {l : Launch} {D : va_G} {om am : Nat → Nat} {cI cZ cG : ClassId} {th tp lv dy pv by_ pt wy : Int32} {gone oR : Nat → Int32} (q : Nat) (hq : q ≤ 5) (v u x : Int32) (mem : xMem) (nm : String) (hX : (x_req v (nI q)).or ((x_req u (nI 32)).or (x_mask x)) = some nm) : MV l nE yX2_bend (.code yX2_bend cX2_bend 4 none :: tW) ({ frames := 4, cells := 0, slots := 0, locals := 100 }) D vwCl (tC cI cZ cG) [.ref (om 0), .int v, .int u, .int x] (wM om am cI cZ th tp lv dy pv (nI q) by_ pt wy gone oR mem) (wM om am cI cZ (cdL [nIOB, nIAE] nm) tp lv dy pv (nI q) by_ pt wy gone oR mem) := by
  refine MV.ofW (by decide +kernel) rfl (Nat.le_of_ble_eq_true rfl) ?_
  intro p e s m below meth c A ls hx hb hr hts hown hlk hml hA hP hK hD hT hl
  have hS : va_S A s.heap s.heap [] := va_S.rf
  have hown : s.vm.findClass RX2 = some m.cls := hown
  have hW : ∀ w ∈ tW, w.before _ s = true := fun w h => hts w (List.mem_cons_of_mem _ h)
  have hl : lv_has ls 4 [(0, .ref (om 0)), (1, .int v), (2, .int u), (3, .int x)] := hl
  rcases x_or_some hX with hg1 | ⟨hg1, hY1⟩
  · skip
    have hn9 := x_req_some hg1
    skip
    refine lv_aload_n hx hb dX2_bend_0 rfl (lv_at hl 0 rfl) ?_
    refine lv_iload_n hx hb dX2_bend_1 rfl (lv_at hl 1 rfl) ?_
    refine lv_iconst (v := nI 0) hx hb dX2_bend_2 (by decide) ?_
    refine lv_aload_n hx hb dX2_bend_3 rfl (lv_at hl 0 rfl) ?_
    refine va_get (D := D) (ci := 2) (v := .int (nI q)) (C := RX2) (T := TX2) (N := 25) hx hb hW iMD hown hK hP 0 rfl rfl 10 (by decide) (hW _ tw_524) (fun _ h9 => h9) rfl dX2_bend_4 ?_
    refine lv_iconst (v := nI 1) hx hb dX2_bend_7 (by decide) ?_
    refine lv_isub hx hb dX2_bend_8 ?_
    refine mi_callS (As := [.int v, .int (nI 0), .int ((nI q) - (nI 1))]) (rest := [.ref (om 0)]) ⟨hx, hb, hml, hown, hW⟩ (n_in _ v (nI 0) ((nI q) - (nI 1))) nE_ok (va_cwS 3 hW (gS tw_598 tw_599 tw_3 tw_600) rfl rfl rfl (by decide +kernel) ⟨Nat.le_of_ble_eq_true rfl, Nat.le_of_ble_eq_true rfl⟩) hP hD hK hS hA hT rfl hl.1 rfl (Nat.le_of_ble_eq_true rfl) dX2_bend_9 ⟨Nat.zero_le _, Nat.zero_le _⟩ (fun H locs hP hD hS => ?_)
    refine lv_eqi (v := nI 0) (by rw [p_in_req _ q (by omega)]; rw [hg1]; rfl) ?_
    refine lv_if_eq (tgt := 26) hx hb dX2_bend_12 (by decide) (fun _ => ?_) (fun hq9 => absurd (by decide) hq9)
    refine lv_iconst (v := nI 0) hx hb dX2_bend_26 (by decide) ?_
    refine lv_iload_n hx hb dX2_bend_27 rfl (lv_at hl 3 rfl) ?_
    refine lv_iconst (v := nI 1) hx hb dX2_bend_28 (by decide) ?_
    refine lv_sipush (v := nI 255) hx hb dX2_bend_29 (by decide) ?_
    refine mi_callS (As := [.int x, .int (nI 1), .int (nI 255)]) (rest := [.int (nI 0), .ref (om 0)]) ⟨hx, hb, hml, hown, hW⟩ (n_in _ x (nI 1) (nI 255)) nE_ok (va_cwS 3 hW (gS tw_598 tw_599 tw_3 tw_600) rfl rfl rfl (by decide +kernel) ⟨Nat.le_of_ble_eq_true rfl, Nat.le_of_ble_eq_true rfl⟩) hP hD hK hS hA hT rfl hl.1 rfl (Nat.le_of_ble_eq_true rfl) dX2_bend_32 ⟨Nat.zero_le _, Nat.zero_le _⟩ (fun H locs hP hD hS => ?_)
    refine lv_iconst (v := nI 1) hx hb dX2_bend_35 (by decide) ?_
    refine mi_callV (C := RX2) (As := [.int (nI 0), .int (p_in x (nI 1) (nI 255)), .int (nI 1)]) (rest := []) ⟨hx, hb, hml, hown, hW⟩ (n_goes (nI 0) (p_in x (nI 1) (nI 255)) (nI 1) (nI 1) (nI 0) mem (if_pos (by decide)) (by decide)) nE_ok (cwV 3 hW (gV tw_601 tw_603 tv_X2_goes tw_3 tw_604) rfl rfl rfl (by decide +kernel) ⟨Nat.le_of_ble_eq_true rfl, Nat.le_of_ble_eq_true rfl⟩) (va_recv hK hP (ci := 2) (q0 := 0) rfl rfl) hP hD hK hS hA hT rfl hl.1 rfl (Nat.le_of_ble_eq_true rfl) dX2_bend_36 ⟨Nat.zero_le _, Nat.zero_le _⟩ (fun H locs hP hD hS => ?_)
    have hP : va_P D vwCl (wM om am cI cZ (nI 1) tp lv dy pv (nI q) by_ pt wy gone oR mem) H := hP
    have hD : va_D A (wM om am cI cZ (nI 1) tp lv dy pv (nI q) by_ pt wy gone oR mem) := hD
    refine lv_if_eq (tgt := 66) hx hb dX2_bend_39 (by decide) (fun _ => ?_) (fun hq9 => absurd (by decide) hq9)
    have hP : va_P D vwCl (wM om am cI cZ (cdL [nIOB, nIAE] nm) tp lv dy pv (nI q) by_ pt wy gone oR mem) H := by rw [show cdL [nIOB, nIAE] nm = nI 1 from by rw [hn9]; decide +kernel]; exact hP
    have hD : va_D A (wM om am cI cZ (cdL [nIOB, nIAE] nm) tp lv dy pv (nI q) by_ pt wy gone oR mem) := by rw [show cdL [nIOB, nIAE] nm = nI 1 from by rw [hn9]; decide +kernel]; exact hD
    exact mv_ret hx hb hr hlk hS hP hD dX2_bend_66
  · skip
    rcases x_or_some hY1 with hg2 | ⟨hg2, hY2⟩
    · skip
      have hn9 := x_req_some hg2
      skip
      refine lv_aload_n hx hb dX2_bend_0 rfl (lv_at hl 0 rfl) ?_
      refine lv_iload_n hx hb dX2_bend_1 rfl (lv_at hl 1 rfl) ?_
      refine lv_iconst (v := nI 0) hx hb dX2_bend_2 (by decide) ?_
      refine lv_aload_n hx hb dX2_bend_3 rfl (lv_at hl 0 rfl) ?_
      refine va_get (D := D) (ci := 2) (v := .int (nI q)) (C := RX2) (T := TX2) (N := 25) hx hb hW iMD hown hK hP 0 rfl rfl 10 (by decide) (hW _ tw_524) (fun _ h9 => h9) rfl dX2_bend_4 ?_
      refine lv_iconst (v := nI 1) hx hb dX2_bend_7 (by decide) ?_
      refine lv_isub hx hb dX2_bend_8 ?_
      refine mi_callS (As := [.int v, .int (nI 0), .int ((nI q) - (nI 1))]) (rest := [.ref (om 0)]) ⟨hx, hb, hml, hown, hW⟩ (n_in _ v (nI 0) ((nI q) - (nI 1))) nE_ok (va_cwS 3 hW (gS tw_598 tw_599 tw_3 tw_600) rfl rfl rfl (by decide +kernel) ⟨Nat.le_of_ble_eq_true rfl, Nat.le_of_ble_eq_true rfl⟩) hP hD hK hS hA hT rfl hl.1 rfl (Nat.le_of_ble_eq_true rfl) dX2_bend_9 ⟨Nat.zero_le _, Nat.zero_le _⟩ (fun H locs hP hD hS => ?_)
      refine lv_eqi (v := nI 1) (by rw [p_in_req _ q (by omega)]; rw [hg1]; rfl) ?_
      refine lv_if_eq (tgt := 26) hx hb dX2_bend_12 (by decide) (fun hq9 => absurd hq9 (by decide)) (fun _ => ?_)
      refine lv_iload_n hx hb dX2_bend_15 rfl (lv_at hl 2 rfl) ?_
      refine mi_callS (As := [.int u]) (rest := [.ref (om 0)]) ⟨hx, hb, hml, hown, hW⟩ (n_isByte _ u) nE_ok (va_cwS 1 hW (gS tw_669 tw_670 tw_3 tw_671) rfl rfl rfl (by decide +kernel) ⟨Nat.le_of_ble_eq_true rfl, Nat.le_of_ble_eq_true rfl⟩) hP hD hK hS hA hT rfl hl.1 rfl (Nat.le_of_ble_eq_true rfl) dX2_bend_16 ⟨Nat.zero_le _, Nat.zero_le _⟩ (fun H locs hP hD hS => ?_)
      refine lv_eqi (v := nI 0) (by rw [hg2]; rfl) ?_
      refine lv_if_eq (tgt := 26) hx hb dX2_bend_19 (by decide) (fun _ => ?_) (fun hq9 => absurd (by decide) hq9)
      refine lv_iconst (v := nI 0) hx hb dX2_bend_26 (by decide) ?_
      refine lv_iload_n hx hb dX2_bend_27 rfl (lv_at hl 3 rfl) ?_
      refine lv_iconst (v := nI 1) hx hb dX2_bend_28 (by decide) ?_
      refine lv_sipush (v := nI 255) hx hb dX2_bend_29 (by decide) ?_
      refine mi_callS (As := [.int x, .int (nI 1), .int (nI 255)]) (rest := [.int (nI 0), .ref (om 0)]) ⟨hx, hb, hml, hown, hW⟩ (n_in _ x (nI 1) (nI 255)) nE_ok (va_cwS 3 hW (gS tw_598 tw_599 tw_3 tw_600) rfl rfl rfl (by decide +kernel) ⟨Nat.le_of_ble_eq_true rfl, Nat.le_of_ble_eq_true rfl⟩) hP hD hK hS hA hT rfl hl.1 rfl (Nat.le_of_ble_eq_true rfl) dX2_bend_32 ⟨Nat.zero_le _, Nat.zero_le _⟩ (fun H locs hP hD hS => ?_)
      refine lv_iconst (v := nI 1) hx hb dX2_bend_35 (by decide) ?_
      refine mi_callV (C := RX2) (As := [.int (nI 0), .int (p_in x (nI 1) (nI 255)), .int (nI 1)]) (rest := []) ⟨hx, hb, hml, hown, hW⟩ (n_goes (nI 0) (p_in x (nI 1) (nI 255)) (nI 1) (nI 1) (nI 0) mem (if_pos (by decide)) (by decide)) nE_ok (cwV 3 hW (gV tw_601 tw_603 tv_X2_goes tw_3 tw_604) rfl rfl rfl (by decide +kernel) ⟨Nat.le_of_ble_eq_true rfl, Nat.le_of_ble_eq_true rfl⟩) (va_recv hK hP (ci := 2) (q0 := 0) rfl rfl) hP hD hK hS hA hT rfl hl.1 rfl (Nat.le_of_ble_eq_true rfl) dX2_bend_36 ⟨Nat.zero_le _, Nat.zero_le _⟩ (fun H locs hP hD hS => ?_)
      have hP : va_P D vwCl (wM om am cI cZ (nI 1) tp lv dy pv (nI q) by_ pt wy gone oR mem) H := hP
      have hD : va_D A (wM om am cI cZ (nI 1) tp lv dy pv (nI q) by_ pt wy gone oR mem) := hD
      refine lv_if_eq (tgt := 66) hx hb dX2_bend_39 (by decide) (fun _ => ?_) (fun hq9 => absurd (by decide) hq9)
      have hP : va_P D vwCl (wM om am cI cZ (cdL [nIOB, nIAE] nm) tp lv dy pv (nI q) by_ pt wy gone oR mem) H := by rw [show cdL [nIOB, nIAE] nm = nI 1 from by rw [hn9]; decide +kernel]; exact hP
      have hD : va_D A (wM om am cI cZ (cdL [nIOB, nIAE] nm) tp lv dy pv (nI q) by_ pt wy gone oR mem) := by rw [show cdL [nIOB, nIAE] nm = nI 1 from by rw [hn9]; decide +kernel]; exact hD
      exact mv_ret hx hb hr hlk hS hP hD dX2_bend_66
    · skip
      have hg3 := hY2
      have hn9 := x_mask_some hg3
      skip
      refine lv_aload_n hx hb dX2_bend_0 rfl (lv_at hl 0 rfl) ?_
      refine lv_iload_n hx hb dX2_bend_1 rfl (lv_at hl 1 rfl) ?_
      refine lv_iconst (v := nI 0) hx hb dX2_bend_2 (by decide) ?_
      refine lv_aload_n hx hb dX2_bend_3 rfl (lv_at hl 0 rfl) ?_
      refine va_get (D := D) (ci := 2) (v := .int (nI q)) (C := RX2) (T := TX2) (N := 25) hx hb hW iMD hown hK hP 0 rfl rfl 10 (by decide) (hW _ tw_524) (fun _ h9 => h9) rfl dX2_bend_4 ?_
      refine lv_iconst (v := nI 1) hx hb dX2_bend_7 (by decide) ?_
      refine lv_isub hx hb dX2_bend_8 ?_
      refine mi_callS (As := [.int v, .int (nI 0), .int ((nI q) - (nI 1))]) (rest := [.ref (om 0)]) ⟨hx, hb, hml, hown, hW⟩ (n_in _ v (nI 0) ((nI q) - (nI 1))) nE_ok (va_cwS 3 hW (gS tw_598 tw_599 tw_3 tw_600) rfl rfl rfl (by decide +kernel) ⟨Nat.le_of_ble_eq_true rfl, Nat.le_of_ble_eq_true rfl⟩) hP hD hK hS hA hT rfl hl.1 rfl (Nat.le_of_ble_eq_true rfl) dX2_bend_9 ⟨Nat.zero_le _, Nat.zero_le _⟩ (fun H locs hP hD hS => ?_)
      refine lv_eqi (v := nI 1) (by rw [p_in_req _ q (by omega)]; rw [hg1]; rfl) ?_
      refine lv_if_eq (tgt := 26) hx hb dX2_bend_12 (by decide) (fun hq9 => absurd hq9 (by decide)) (fun _ => ?_)
      refine lv_iload_n hx hb dX2_bend_15 rfl (lv_at hl 2 rfl) ?_
      refine mi_callS (As := [.int u]) (rest := [.ref (om 0)]) ⟨hx, hb, hml, hown, hW⟩ (n_isByte _ u) nE_ok (va_cwS 1 hW (gS tw_669 tw_670 tw_3 tw_671) rfl rfl rfl (by decide +kernel) ⟨Nat.le_of_ble_eq_true rfl, Nat.le_of_ble_eq_true rfl⟩) hP hD hK hS hA hT rfl hl.1 rfl (Nat.le_of_ble_eq_true rfl) dX2_bend_16 ⟨Nat.zero_le _, Nat.zero_le _⟩ (fun H locs hP hD hS => ?_)
      refine lv_eqi (v := nI 1) (by rw [hg2]; rfl) ?_
      refine lv_if_eq (tgt := 26) hx hb dX2_bend_19 (by decide) (fun hq9 => absurd hq9 (by decide)) (fun _ => ?_)
      refine lv_iconst (v := nI 1) hx hb dX2_bend_22 (by decide) ?_
      refine lv_goto (tgt := 27) hx hb dX2_bend_23 (by decide) ?_
      refine lv_iload_n hx hb dX2_bend_27 rfl (lv_at hl 3 rfl) ?_
      refine lv_iconst (v := nI 1) hx hb dX2_bend_28 (by decide) ?_
      refine lv_sipush (v := nI 255) hx hb dX2_bend_29 (by decide) ?_
      refine mi_callS (As := [.int x, .int (nI 1), .int (nI 255)]) (rest := [.int (nI 1), .ref (om 0)]) ⟨hx, hb, hml, hown, hW⟩ (n_in _ x (nI 1) (nI 255)) nE_ok (va_cwS 3 hW (gS tw_598 tw_599 tw_3 tw_600) rfl rfl rfl (by decide +kernel) ⟨Nat.le_of_ble_eq_true rfl, Nat.le_of_ble_eq_true rfl⟩) hP hD hK hS hA hT rfl hl.1 rfl (Nat.le_of_ble_eq_true rfl) dX2_bend_32 ⟨Nat.zero_le _, Nat.zero_le _⟩ (fun H locs hP hD hS => ?_)
      refine lv_eqi (v := nI 0) (by rw [p_in_mask]; rw [hg3]; rfl) ?_
      refine lv_iconst (v := nI 1) hx hb dX2_bend_35 (by decide) ?_
      refine mi_callV (C := RX2) (As := [.int (nI 1), .int (nI 0), .int (nI 1)]) (rest := []) ⟨hx, hb, hml, hown, hW⟩ (n_goes (nI 1) (nI 0) (nI 1) (nI 2) (nI 0) mem ((if_neg (by decide)).trans (if_pos (by decide))) (by decide)) nE_ok (cwV 3 hW (gV tw_601 tw_603 tv_X2_goes tw_3 tw_604) rfl rfl rfl (by decide +kernel) ⟨Nat.le_of_ble_eq_true rfl, Nat.le_of_ble_eq_true rfl⟩) (va_recv hK hP (ci := 2) (q0 := 0) rfl rfl) hP hD hK hS hA hT rfl hl.1 rfl (Nat.le_of_ble_eq_true rfl) dX2_bend_36 ⟨Nat.zero_le _, Nat.zero_le _⟩ (fun H locs hP hD hS => ?_)
      have hP : va_P D vwCl (wM om am cI cZ (nI 2) tp lv dy pv (nI q) by_ pt wy gone oR mem) H := hP
      have hD : va_D A (wM om am cI cZ (nI 2) tp lv dy pv (nI q) by_ pt wy gone oR mem) := hD
      refine lv_if_eq (tgt := 66) hx hb dX2_bend_39 (by decide) (fun _ => ?_) (fun hq9 => absurd (by decide) hq9)
      have hP : va_P D vwCl (wM om am cI cZ (cdL [nIOB, nIAE] nm) tp lv dy pv (nI q) by_ pt wy gone oR mem) H := by rw [show cdL [nIOB, nIAE] nm = nI 2 from by rw [hn9]; decide +kernel]; exact hP
      have hD : va_D A (wM om am cI cZ (cdL [nIOB, nIAE] nm) tp lv dy pv (nI q) by_ pt wy gone oR mem) := by rw [show cdL [nIOB, nIAE] nm = nI 2 from by rw [hn9]; decide +kernel]; exact hD
      exact mv_ret hx hb hr hlk hS hP hD dX2_bend_66
set_option maxHeartbeats 800000 in
set_option maxRecDepth 100000 in
theorem n_bend {l : Launch} {D : va_G} {om am : Nat → Nat} {cI cZ cG : ClassId} {th tp lv dy pv by_ pt wy : Int32} {gone oR : Nat → Int32} (q d i : Nat) (hq : q ≤ 5) (hd : d < q) (hi : i < 32) (x : Int32) (hx0 : x_mask x = none) (mem : xMem) : MV l nE yX2_bend (.code yX2_bend cX2_bend 4 none :: tW) ({ frames := 4, cells := 0, slots := 0, locals := 100 }) D vwCl (tC cI cZ cG) [.ref (om 0), .int (nI d), .int (nI i), .int x] (wM om am cI cZ th tp lv dy pv (nI q) by_ pt wy gone oR mem) (wM om am cI cZ (nI 0) tp lv dy pv (nI q) by_ pt wy gone oR (m_bend 8 (32 * d + i) x mem)) := by
  refine MV.ofW (by decide +kernel) rfl (Nat.le_of_ble_eq_true rfl) ?_
  intro p e s m below meth c A ls hx hb hr hts hown hlk hml hA hP hK hD hT hl
  have hS : va_S A s.heap s.heap [] := va_S.rf
  have hown : s.vm.findClass RX2 = some m.cls := hown
  have hW : ∀ w ∈ tW, w.before _ s = true := fun w h => hts w (List.mem_cons_of_mem _ h)
  have hl : lv_has ls 4 [(0, .ref (om 0)), (1, .int (nI d)), (2, .int (nI i)), (3, .int x)] := hl
  refine lv_aload_n hx hb dX2_bend_0 rfl (lv_at hl 0 rfl) ?_
  refine lv_iload_n hx hb dX2_bend_1 rfl (lv_at hl 1 rfl) ?_
  refine lv_iconst (v := nI 0) hx hb dX2_bend_2 (by decide) ?_
  refine lv_aload_n hx hb dX2_bend_3 rfl (lv_at hl 0 rfl) ?_
  refine va_get (D := D) (ci := 2) (v := .int (nI q)) (C := RX2) (T := TX2) (N := 25) hx hb hW iMD hown hK hP 0 rfl rfl 10 (by decide) (hW _ tw_524) (fun _ h9 => h9) rfl dX2_bend_4 ?_
  refine lv_iconst (v := nI 1) hx hb dX2_bend_7 (by decide) ?_
  refine lv_isub hx hb dX2_bend_8 ?_
  refine mi_callS (As := [.int (nI d), .int (nI 0), .int ((nI q) - (nI 1))]) (rest := [.ref (om 0)]) ⟨hx, hb, hml, hown, hW⟩ (n_in _ (nI d) (nI 0) ((nI q) - (nI 1))) nE_ok (va_cwS 3 hW (gS tw_598 tw_599 tw_3 tw_600) rfl rfl rfl (by decide +kernel) ⟨Nat.le_of_ble_eq_true rfl, Nat.le_of_ble_eq_true rfl⟩) hP hD hK hS hA hT rfl hl.1 rfl (Nat.le_of_ble_eq_true rfl) dX2_bend_9 ⟨Nat.zero_le _, Nat.zero_le _⟩ (fun H locs hP hD hS => ?_)
  refine lv_eqi (v := nI 1) (by rw [p_in_req _ q (by omega)]; rw [x_req_nat hd (by omega)]; rfl) ?_
  refine lv_if_eq (tgt := 26) hx hb dX2_bend_12 (by decide) (fun hq9 => absurd hq9 (by decide)) (fun _ => ?_)
  refine lv_iload_n hx hb dX2_bend_15 rfl (lv_at hl 2 rfl) ?_
  refine mi_callS (As := [.int (nI i)]) (rest := [.ref (om 0)]) ⟨hx, hb, hml, hown, hW⟩ (n_isByte _ (nI i)) nE_ok (va_cwS 1 hW (gS tw_669 tw_670 tw_3 tw_671) rfl rfl rfl (by decide +kernel) ⟨Nat.le_of_ble_eq_true rfl, Nat.le_of_ble_eq_true rfl⟩) hP hD hK hS hA hT rfl hl.1 rfl (Nat.le_of_ble_eq_true rfl) dX2_bend_16 ⟨Nat.zero_le _, Nat.zero_le _⟩ (fun H locs hP hD hS => ?_)
  refine lv_eqi (v := nI 1) (by rw [x_req_nat hi (by decide)]; rfl) ?_
  refine lv_if_eq (tgt := 26) hx hb dX2_bend_19 (by decide) (fun hq9 => absurd hq9 (by decide)) (fun _ => ?_)
  refine lv_iconst (v := nI 1) hx hb dX2_bend_22 (by decide) ?_
  refine lv_goto (tgt := 27) hx hb dX2_bend_23 (by decide) ?_
  refine lv_iload_n hx hb dX2_bend_27 rfl (lv_at hl 3 rfl) ?_
  refine lv_iconst (v := nI 1) hx hb dX2_bend_28 (by decide) ?_
  refine lv_sipush (v := nI 255) hx hb dX2_bend_29 (by decide) ?_
  refine mi_callS (As := [.int x, .int (nI 1), .int (nI 255)]) (rest := [.int (nI 1), .ref (om 0)]) ⟨hx, hb, hml, hown, hW⟩ (n_in _ x (nI 1) (nI 255)) nE_ok (va_cwS 3 hW (gS tw_598 tw_599 tw_3 tw_600) rfl rfl rfl (by decide +kernel) ⟨Nat.le_of_ble_eq_true rfl, Nat.le_of_ble_eq_true rfl⟩) hP hD hK hS hA hT rfl hl.1 rfl (Nat.le_of_ble_eq_true rfl) dX2_bend_32 ⟨Nat.zero_le _, Nat.zero_le _⟩ (fun H locs hP hD hS => ?_)
  refine lv_eqi (v := nI 1) (by rw [p_in_mask]; rw [hx0]; rfl) ?_
  refine lv_iconst (v := nI 1) hx hb dX2_bend_35 (by decide) ?_
  refine mi_callV (C := RX2) (As := [.int (nI 1), .int (nI 1), .int (nI 1)]) (rest := []) ⟨hx, hb, hml, hown, hW⟩ (n_goes (nI 1) (nI 1) (nI 1) (nI 0) (nI 1) mem ((if_neg (by decide)).trans ((if_neg (by decide)).trans (if_neg (by decide)))) (by decide)) nE_ok (cwV 3 hW (gV tw_601 tw_603 tv_X2_goes tw_3 tw_604) rfl rfl rfl (by decide +kernel) ⟨Nat.le_of_ble_eq_true rfl, Nat.le_of_ble_eq_true rfl⟩) (va_recv hK hP (ci := 2) (q0 := 0) rfl rfl) hP hD hK hS hA hT rfl hl.1 rfl (Nat.le_of_ble_eq_true rfl) dX2_bend_36 ⟨Nat.zero_le _, Nat.zero_le _⟩ (fun H locs hP hD hS => ?_)
  have hP : va_P D vwCl (wM om am cI cZ (nI 0) tp lv dy pv (nI q) by_ pt wy gone oR mem) H := hP
  have hD : va_D A (wM om am cI cZ (nI 0) tp lv dy pv (nI q) by_ pt wy gone oR mem) := hD
  refine lv_if_eq (tgt := 66) hx hb dX2_bend_39 (by decide) (fun hq9 => absurd hq9 (by decide)) (fun _ => ?_)
  refine lv_aload_n hx hb dX2_bend_42 rfl (lv_at hl 0 rfl) ?_
  refine va_get (D := D) (ci := 2) (v := .ref (am 8)) (C := RX2) (T := TX2) (N := 25) hx hb hW iMD hown hK hP 0 rfl rfl 11 (by decide) (hW _ tw_525) (fun _ h9 => h9) rfl dX2_bend_43 ?_
  refine lv_bipush (v := nI 32) hx hb dX2_bend_46 (by decide) ?_
  refine lv_iload_n hx hb dX2_bend_48 rfl (lv_at hl 1 rfl) ?_
  refine lv_imul hx hb dX2_bend_49 ?_
  refine lv_eqi (v := nI (32 * d)) (pk_mul _ _) ?_
  refine lv_iload_n hx hb dX2_bend_50 rfl (lv_at hl 2 rfl) ?_
  refine lv_iadd hx hb dX2_bend_51 ?_
  refine lv_eqi (v := nI (32 * d + i)) (nI_add _ _) ?_
  refine lv_aload_n hx hb dX2_bend_52 rfl (lv_at hl 0 rfl) ?_
  refine va_get (D := D) (ci := 2) (v := .ref (am 8)) (C := RX2) (T := TX2) (N := 25) hx hb hW iMD hown hK hP 0 rfl rfl 11 (by decide) (hW _ tw_525) (fun _ h9 => h9) rfl dX2_bend_53 ?_
  refine lv_bipush (v := nI 32) hx hb dX2_bend_56 (by decide) ?_
  refine lv_iload_n hx hb dX2_bend_58 rfl (lv_at hl 1 rfl) ?_
  refine lv_imul hx hb dX2_bend_59 ?_
  refine lv_eqi (v := nI (32 * d)) (pk_mul _ _) ?_
  refine lv_iload_n hx hb dX2_bend_60 rfl (lv_at hl 2 rfl) ?_
  refine lv_iadd hx hb dX2_bend_61 ?_
  refine lv_eqi (v := nI (32 * d + i)) (nI_add _ _) ?_
  refine m_ld (X := wMx om am cZ (nI 0) tp lv dy pv (nI q) by_ pt wy gone oR) hx hb hK hP 0 8 (32 * d + i) rfl (by decide) (show 32 * d + i < 320 by omega) (by decide) dX2_bend_62 ?_
  refine lv_iload_n hx hb dX2_bend_63 rfl (lv_at hl 3 rfl) ?_
  refine lv_ixor hx hb dX2_bend_64 ?_
  refine m_st (X := wMx om am cZ (nI 0) tp lv dy pv (nI q) by_ pt wy gone oR) hx hb hK hP hD hS 0 8 (32 * d + i) rfl (by decide) (show 32 * d + i < 320 by omega) (by decide) dX2_bend_65 (fun H locs hP hD hS => ?_)
  have hP : va_P D vwCl (wM om am cI cZ (nI 0) tp lv dy pv (nI q) by_ pt wy gone oR (va_up mem 8 (upd (mem 8) (32 * d + i) ((mem 8 (32 * d + i)) ^^^ x)))) H := hP
  have hD : va_D A (wM om am cI cZ (nI 0) tp lv dy pv (nI q) by_ pt wy gone oR (va_up mem 8 (upd (mem 8) (32 * d + i) ((mem 8 (32 * d + i)) ^^^ x)))) := hD
  have hP : va_P D vwCl (wM om am cI cZ (nI 0) tp lv dy pv (nI q) by_ pt wy gone oR (m_bend 8 (32 * d + i) x mem)) H := by exact hP
  have hD : va_D A (wM om am cI cZ (nI 0) tp lv dy pv (nI q) by_ pt wy gone oR (m_bend 8 (32 * d + i) x mem)) := by exact hD
  exact mv_ret hx hb hr hlk hS hP hD dX2_bend_66
set_option maxHeartbeats 800000 in
set_option maxRecDepth 100000 in
theorem n_poke_no {l : Launch} {D : va_G} {om am : Nat → Nat} {cI cZ cG : ClassId} {th tp dy pv pm by_ pt wy : Int32} {gone oR : Nat → Int32} (q : Nat) (hq : q ≤ 24) (v u x : Int32) (mem : xMem) (nm : String) (hX : (x_req v (nI q)).or ((x_req u (nI 32)).or (x_mask x)) = some nm) : MV l nE yX2_poke (.code yX2_poke cX2_poke 4 none :: tW) ({ frames := 4, cells := 0, slots := 0, locals := 100 }) D vwCl (tC cI cZ cG) [.ref (om 0), .int v, .int u, .int x] (wM om am cI cZ th tp (nI q) dy pv pm by_ pt wy gone oR mem) (wM om am cI cZ (cdL [nIOB, nIAE] nm) tp (nI q) dy pv pm by_ pt wy gone oR mem) := by
  refine MV.ofW (by decide +kernel) rfl (Nat.le_of_ble_eq_true rfl) ?_
  intro p e s m below meth c A ls hx hb hr hts hown hlk hml hA hP hK hD hT hl
  have hS : va_S A s.heap s.heap [] := va_S.rf
  have hown : s.vm.findClass RX2 = some m.cls := hown
  have hW : ∀ w ∈ tW, w.before _ s = true := fun w h => hts w (List.mem_cons_of_mem _ h)
  have hl : lv_has ls 4 [(0, .ref (om 0)), (1, .int v), (2, .int u), (3, .int x)] := hl
  rcases x_or_some hX with hg1 | ⟨hg1, hY1⟩
  · skip
    have hn9 := x_req_some hg1
    skip
    refine lv_aload_n hx hb dX2_poke_0 rfl (lv_at hl 0 rfl) ?_
    refine lv_aload_n hx hb dX2_poke_1 rfl (lv_at hl 0 rfl) ?_
    refine lv_iload_n hx hb dX2_poke_2 rfl (lv_at hl 1 rfl) ?_
    refine mi_callV (C := RX2) (As := [.int v]) (rest := [.ref (om 0)]) ⟨hx, hb, hml, hown, hW⟩ (n_isLeaf v q (by omega) mem) nE_ok (cwV 1 hW (gV tw_676 tw_678 tv_X2_isLeaf tw_3 tw_679) rfl rfl rfl (by decide +kernel) ⟨Nat.le_of_ble_eq_true rfl, Nat.le_of_ble_eq_true rfl⟩) (va_recv hK hP (ci := 2) (q0 := 0) rfl rfl) hP hD hK hS hA hT rfl hl.1 rfl (Nat.le_of_ble_eq_true rfl) dX2_poke_3 ⟨Nat.zero_le _, Nat.zero_le _⟩ (fun H locs hP hD hS => ?_)
    refine lv_eqi (v := nI 0) (by rw [hg1]; rfl) ?_
    refine lv_if_eq (tgt := 20) hx hb dX2_poke_6 (by decide) (fun _ => ?_) (fun hq9 => absurd (by decide) hq9)
    refine lv_iconst (v := nI 0) hx hb dX2_poke_20 (by decide) ?_
    refine lv_iload_n hx hb dX2_poke_21 rfl (lv_at hl 3 rfl) ?_
    refine lv_iconst (v := nI 1) hx hb dX2_poke_22 (by decide) ?_
    refine lv_sipush (v := nI 255) hx hb dX2_poke_23 (by decide) ?_
    refine mi_callS (As := [.int x, .int (nI 1), .int (nI 255)]) (rest := [.int (nI 0), .ref (om 0)]) ⟨hx, hb, hml, hown, hW⟩ (n_in _ x (nI 1) (nI 255)) nE_ok (va_cwS 3 hW (gS tw_598 tw_599 tw_3 tw_600) rfl rfl rfl (by decide +kernel) ⟨Nat.le_of_ble_eq_true rfl, Nat.le_of_ble_eq_true rfl⟩) hP hD hK hS hA hT rfl hl.1 rfl (Nat.le_of_ble_eq_true rfl) dX2_poke_26 ⟨Nat.zero_le _, Nat.zero_le _⟩ (fun H locs hP hD hS => ?_)
    refine lv_iconst (v := nI 1) hx hb dX2_poke_29 (by decide) ?_
    refine mi_callV (C := RX2) (As := [.int (nI 0), .int (p_in x (nI 1) (nI 255)), .int (nI 1)]) (rest := []) ⟨hx, hb, hml, hown, hW⟩ (n_goes (nI 0) (p_in x (nI 1) (nI 255)) (nI 1) (nI 1) (nI 0) mem (if_pos (by decide)) (by decide)) nE_ok (cwV 3 hW (gV tw_601 tw_603 tv_X2_goes tw_3 tw_604) rfl rfl rfl (by decide +kernel) ⟨Nat.le_of_ble_eq_true rfl, Nat.le_of_ble_eq_true rfl⟩) (va_recv hK hP (ci := 2) (q0 := 0) rfl rfl) hP hD hK hS hA hT rfl hl.1 rfl (Nat.le_of_ble_eq_true rfl) dX2_poke_30 ⟨Nat.zero_le _, Nat.zero_le _⟩ (fun H locs hP hD hS => ?_)
    have hP : va_P D vwCl (wM om am cI cZ (nI 1) tp (nI q) dy pv pm by_ pt wy gone oR mem) H := hP
    have hD : va_D A (wM om am cI cZ (nI 1) tp (nI q) dy pv pm by_ pt wy gone oR mem) := hD
    refine lv_if_eq (tgt := 60) hx hb dX2_poke_33 (by decide) (fun _ => ?_) (fun hq9 => absurd (by decide) hq9)
    have hP : va_P D vwCl (wM om am cI cZ (cdL [nIOB, nIAE] nm) tp (nI q) dy pv pm by_ pt wy gone oR mem) H := by rw [show cdL [nIOB, nIAE] nm = nI 1 from by rw [hn9]; decide +kernel]; exact hP
    have hD : va_D A (wM om am cI cZ (cdL [nIOB, nIAE] nm) tp (nI q) dy pv pm by_ pt wy gone oR mem) := by rw [show cdL [nIOB, nIAE] nm = nI 1 from by rw [hn9]; decide +kernel]; exact hD
    exact mv_ret hx hb hr hlk hS hP hD dX2_poke_60
  · skip
    rcases x_or_some hY1 with hg2 | ⟨hg2, hY2⟩
    · skip
      have hn9 := x_req_some hg2
      skip
      refine lv_aload_n hx hb dX2_poke_0 rfl (lv_at hl 0 rfl) ?_
      refine lv_aload_n hx hb dX2_poke_1 rfl (lv_at hl 0 rfl) ?_
      refine lv_iload_n hx hb dX2_poke_2 rfl (lv_at hl 1 rfl) ?_
      refine mi_callV (C := RX2) (As := [.int v]) (rest := [.ref (om 0)]) ⟨hx, hb, hml, hown, hW⟩ (n_isLeaf v q (by omega) mem) nE_ok (cwV 1 hW (gV tw_676 tw_678 tv_X2_isLeaf tw_3 tw_679) rfl rfl rfl (by decide +kernel) ⟨Nat.le_of_ble_eq_true rfl, Nat.le_of_ble_eq_true rfl⟩) (va_recv hK hP (ci := 2) (q0 := 0) rfl rfl) hP hD hK hS hA hT rfl hl.1 rfl (Nat.le_of_ble_eq_true rfl) dX2_poke_3 ⟨Nat.zero_le _, Nat.zero_le _⟩ (fun H locs hP hD hS => ?_)
      refine lv_eqi (v := nI 1) (by rw [hg1]; rfl) ?_
      refine lv_if_eq (tgt := 20) hx hb dX2_poke_6 (by decide) (fun hq9 => absurd hq9 (by decide)) (fun _ => ?_)
      refine lv_iload_n hx hb dX2_poke_9 rfl (lv_at hl 2 rfl) ?_
      refine mi_callS (As := [.int u]) (rest := [.ref (om 0)]) ⟨hx, hb, hml, hown, hW⟩ (n_isByte _ u) nE_ok (va_cwS 1 hW (gS tw_669 tw_670 tw_3 tw_671) rfl rfl rfl (by decide +kernel) ⟨Nat.le_of_ble_eq_true rfl, Nat.le_of_ble_eq_true rfl⟩) hP hD hK hS hA hT rfl hl.1 rfl (Nat.le_of_ble_eq_true rfl) dX2_poke_10 ⟨Nat.zero_le _, Nat.zero_le _⟩ (fun H locs hP hD hS => ?_)
      refine lv_eqi (v := nI 0) (by rw [hg2]; rfl) ?_
      refine lv_if_eq (tgt := 20) hx hb dX2_poke_13 (by decide) (fun _ => ?_) (fun hq9 => absurd (by decide) hq9)
      refine lv_iconst (v := nI 0) hx hb dX2_poke_20 (by decide) ?_
      refine lv_iload_n hx hb dX2_poke_21 rfl (lv_at hl 3 rfl) ?_
      refine lv_iconst (v := nI 1) hx hb dX2_poke_22 (by decide) ?_
      refine lv_sipush (v := nI 255) hx hb dX2_poke_23 (by decide) ?_
      refine mi_callS (As := [.int x, .int (nI 1), .int (nI 255)]) (rest := [.int (nI 0), .ref (om 0)]) ⟨hx, hb, hml, hown, hW⟩ (n_in _ x (nI 1) (nI 255)) nE_ok (va_cwS 3 hW (gS tw_598 tw_599 tw_3 tw_600) rfl rfl rfl (by decide +kernel) ⟨Nat.le_of_ble_eq_true rfl, Nat.le_of_ble_eq_true rfl⟩) hP hD hK hS hA hT rfl hl.1 rfl (Nat.le_of_ble_eq_true rfl) dX2_poke_26 ⟨Nat.zero_le _, Nat.zero_le _⟩ (fun H locs hP hD hS => ?_)
      refine lv_iconst (v := nI 1) hx hb dX2_poke_29 (by decide) ?_
      refine mi_callV (C := RX2) (As := [.int (nI 0), .int (p_in x (nI 1) (nI 255)), .int (nI 1)]) (rest := []) ⟨hx, hb, hml, hown, hW⟩ (n_goes (nI 0) (p_in x (nI 1) (nI 255)) (nI 1) (nI 1) (nI 0) mem (if_pos (by decide)) (by decide)) nE_ok (cwV 3 hW (gV tw_601 tw_603 tv_X2_goes tw_3 tw_604) rfl rfl rfl (by decide +kernel) ⟨Nat.le_of_ble_eq_true rfl, Nat.le_of_ble_eq_true rfl⟩) (va_recv hK hP (ci := 2) (q0 := 0) rfl rfl) hP hD hK hS hA hT rfl hl.1 rfl (Nat.le_of_ble_eq_true rfl) dX2_poke_30 ⟨Nat.zero_le _, Nat.zero_le _⟩ (fun H locs hP hD hS => ?_)
      have hP : va_P D vwCl (wM om am cI cZ (nI 1) tp (nI q) dy pv pm by_ pt wy gone oR mem) H := hP
      have hD : va_D A (wM om am cI cZ (nI 1) tp (nI q) dy pv pm by_ pt wy gone oR mem) := hD
      refine lv_if_eq (tgt := 60) hx hb dX2_poke_33 (by decide) (fun _ => ?_) (fun hq9 => absurd (by decide) hq9)
      have hP : va_P D vwCl (wM om am cI cZ (cdL [nIOB, nIAE] nm) tp (nI q) dy pv pm by_ pt wy gone oR mem) H := by rw [show cdL [nIOB, nIAE] nm = nI 1 from by rw [hn9]; decide +kernel]; exact hP
      have hD : va_D A (wM om am cI cZ (cdL [nIOB, nIAE] nm) tp (nI q) dy pv pm by_ pt wy gone oR mem) := by rw [show cdL [nIOB, nIAE] nm = nI 1 from by rw [hn9]; decide +kernel]; exact hD
      exact mv_ret hx hb hr hlk hS hP hD dX2_poke_60
    · skip
      have hg3 := hY2
      have hn9 := x_mask_some hg3
      skip
      refine lv_aload_n hx hb dX2_poke_0 rfl (lv_at hl 0 rfl) ?_
      refine lv_aload_n hx hb dX2_poke_1 rfl (lv_at hl 0 rfl) ?_
      refine lv_iload_n hx hb dX2_poke_2 rfl (lv_at hl 1 rfl) ?_
      refine mi_callV (C := RX2) (As := [.int v]) (rest := [.ref (om 0)]) ⟨hx, hb, hml, hown, hW⟩ (n_isLeaf v q (by omega) mem) nE_ok (cwV 1 hW (gV tw_676 tw_678 tv_X2_isLeaf tw_3 tw_679) rfl rfl rfl (by decide +kernel) ⟨Nat.le_of_ble_eq_true rfl, Nat.le_of_ble_eq_true rfl⟩) (va_recv hK hP (ci := 2) (q0 := 0) rfl rfl) hP hD hK hS hA hT rfl hl.1 rfl (Nat.le_of_ble_eq_true rfl) dX2_poke_3 ⟨Nat.zero_le _, Nat.zero_le _⟩ (fun H locs hP hD hS => ?_)
      refine lv_eqi (v := nI 1) (by rw [hg1]; rfl) ?_
      refine lv_if_eq (tgt := 20) hx hb dX2_poke_6 (by decide) (fun hq9 => absurd hq9 (by decide)) (fun _ => ?_)
      refine lv_iload_n hx hb dX2_poke_9 rfl (lv_at hl 2 rfl) ?_
      refine mi_callS (As := [.int u]) (rest := [.ref (om 0)]) ⟨hx, hb, hml, hown, hW⟩ (n_isByte _ u) nE_ok (va_cwS 1 hW (gS tw_669 tw_670 tw_3 tw_671) rfl rfl rfl (by decide +kernel) ⟨Nat.le_of_ble_eq_true rfl, Nat.le_of_ble_eq_true rfl⟩) hP hD hK hS hA hT rfl hl.1 rfl (Nat.le_of_ble_eq_true rfl) dX2_poke_10 ⟨Nat.zero_le _, Nat.zero_le _⟩ (fun H locs hP hD hS => ?_)
      refine lv_eqi (v := nI 1) (by rw [hg2]; rfl) ?_
      refine lv_if_eq (tgt := 20) hx hb dX2_poke_13 (by decide) (fun hq9 => absurd hq9 (by decide)) (fun _ => ?_)
      refine lv_iconst (v := nI 1) hx hb dX2_poke_16 (by decide) ?_
      refine lv_goto (tgt := 21) hx hb dX2_poke_17 (by decide) ?_
      refine lv_iload_n hx hb dX2_poke_21 rfl (lv_at hl 3 rfl) ?_
      refine lv_iconst (v := nI 1) hx hb dX2_poke_22 (by decide) ?_
      refine lv_sipush (v := nI 255) hx hb dX2_poke_23 (by decide) ?_
      refine mi_callS (As := [.int x, .int (nI 1), .int (nI 255)]) (rest := [.int (nI 1), .ref (om 0)]) ⟨hx, hb, hml, hown, hW⟩ (n_in _ x (nI 1) (nI 255)) nE_ok (va_cwS 3 hW (gS tw_598 tw_599 tw_3 tw_600) rfl rfl rfl (by decide +kernel) ⟨Nat.le_of_ble_eq_true rfl, Nat.le_of_ble_eq_true rfl⟩) hP hD hK hS hA hT rfl hl.1 rfl (Nat.le_of_ble_eq_true rfl) dX2_poke_26 ⟨Nat.zero_le _, Nat.zero_le _⟩ (fun H locs hP hD hS => ?_)
      refine lv_eqi (v := nI 0) (by rw [p_in_mask]; rw [hg3]; rfl) ?_
      refine lv_iconst (v := nI 1) hx hb dX2_poke_29 (by decide) ?_
      refine mi_callV (C := RX2) (As := [.int (nI 1), .int (nI 0), .int (nI 1)]) (rest := []) ⟨hx, hb, hml, hown, hW⟩ (n_goes (nI 1) (nI 0) (nI 1) (nI 2) (nI 0) mem ((if_neg (by decide)).trans (if_pos (by decide))) (by decide)) nE_ok (cwV 3 hW (gV tw_601 tw_603 tv_X2_goes tw_3 tw_604) rfl rfl rfl (by decide +kernel) ⟨Nat.le_of_ble_eq_true rfl, Nat.le_of_ble_eq_true rfl⟩) (va_recv hK hP (ci := 2) (q0 := 0) rfl rfl) hP hD hK hS hA hT rfl hl.1 rfl (Nat.le_of_ble_eq_true rfl) dX2_poke_30 ⟨Nat.zero_le _, Nat.zero_le _⟩ (fun H locs hP hD hS => ?_)
      have hP : va_P D vwCl (wM om am cI cZ (nI 2) tp (nI q) dy pv pm by_ pt wy gone oR mem) H := hP
      have hD : va_D A (wM om am cI cZ (nI 2) tp (nI q) dy pv pm by_ pt wy gone oR mem) := hD
      refine lv_if_eq (tgt := 60) hx hb dX2_poke_33 (by decide) (fun _ => ?_) (fun hq9 => absurd (by decide) hq9)
      have hP : va_P D vwCl (wM om am cI cZ (cdL [nIOB, nIAE] nm) tp (nI q) dy pv pm by_ pt wy gone oR mem) H := by rw [show cdL [nIOB, nIAE] nm = nI 2 from by rw [hn9]; decide +kernel]; exact hP
      have hD : va_D A (wM om am cI cZ (cdL [nIOB, nIAE] nm) tp (nI q) dy pv pm by_ pt wy gone oR mem) := by rw [show cdL [nIOB, nIAE] nm = nI 2 from by rw [hn9]; decide +kernel]; exact hD
      exact mv_ret hx hb hr hlk hS hP hD dX2_poke_60
set_option maxHeartbeats 800000 in
set_option maxRecDepth 100000 in
theorem n_poke {l : Launch} {D : va_G} {om am : Nat → Nat} {cI cZ cG : ClassId} {th tp dy pv pm by_ pt wy : Int32} {gone oR : Nat → Int32} (q d i : Nat) (hq : q ≤ 24) (hd : d < q) (hi : i < 32) (x : Int32) (hx0 : x_mask x = none) (mem : xMem) : MV l nE yX2_poke (.code yX2_poke cX2_poke 4 none :: tW) ({ frames := 4, cells := 0, slots := 0, locals := 100 }) D vwCl (tC cI cZ cG) [.ref (om 0), .int (nI d), .int (nI i), .int x] (wM om am cI cZ th tp (nI q) dy pv pm by_ pt wy gone oR mem) (wM om am cI cZ (nI 0) tp (nI q) dy pv pm by_ pt wy gone oR (m_bend 6 (32 * d + i) x mem)) := by
  refine MV.ofW (by decide +kernel) rfl (Nat.le_of_ble_eq_true rfl) ?_
  intro p e s m below meth c A ls hx hb hr hts hown hlk hml hA hP hK hD hT hl
  have hS : va_S A s.heap s.heap [] := va_S.rf
  have hown : s.vm.findClass RX2 = some m.cls := hown
  have hW : ∀ w ∈ tW, w.before _ s = true := fun w h => hts w (List.mem_cons_of_mem _ h)
  have hl : lv_has ls 4 [(0, .ref (om 0)), (1, .int (nI d)), (2, .int (nI i)), (3, .int x)] := hl
  refine lv_aload_n hx hb dX2_poke_0 rfl (lv_at hl 0 rfl) ?_
  refine lv_aload_n hx hb dX2_poke_1 rfl (lv_at hl 0 rfl) ?_
  refine lv_iload_n hx hb dX2_poke_2 rfl (lv_at hl 1 rfl) ?_
  refine mi_callV (C := RX2) (As := [.int (nI d)]) (rest := [.ref (om 0)]) ⟨hx, hb, hml, hown, hW⟩ (n_isLeaf (nI d) q (by omega) mem) nE_ok (cwV 1 hW (gV tw_676 tw_678 tv_X2_isLeaf tw_3 tw_679) rfl rfl rfl (by decide +kernel) ⟨Nat.le_of_ble_eq_true rfl, Nat.le_of_ble_eq_true rfl⟩) (va_recv hK hP (ci := 2) (q0 := 0) rfl rfl) hP hD hK hS hA hT rfl hl.1 rfl (Nat.le_of_ble_eq_true rfl) dX2_poke_3 ⟨Nat.zero_le _, Nat.zero_le _⟩ (fun H locs hP hD hS => ?_)
  refine lv_eqi (v := nI 1) (by rw [x_req_nat hd (by omega)]; rfl) ?_
  refine lv_if_eq (tgt := 20) hx hb dX2_poke_6 (by decide) (fun hq9 => absurd hq9 (by decide)) (fun _ => ?_)
  refine lv_iload_n hx hb dX2_poke_9 rfl (lv_at hl 2 rfl) ?_
  refine mi_callS (As := [.int (nI i)]) (rest := [.ref (om 0)]) ⟨hx, hb, hml, hown, hW⟩ (n_isByte _ (nI i)) nE_ok (va_cwS 1 hW (gS tw_669 tw_670 tw_3 tw_671) rfl rfl rfl (by decide +kernel) ⟨Nat.le_of_ble_eq_true rfl, Nat.le_of_ble_eq_true rfl⟩) hP hD hK hS hA hT rfl hl.1 rfl (Nat.le_of_ble_eq_true rfl) dX2_poke_10 ⟨Nat.zero_le _, Nat.zero_le _⟩ (fun H locs hP hD hS => ?_)
  refine lv_eqi (v := nI 1) (by rw [x_req_nat hi (by decide)]; rfl) ?_
  refine lv_if_eq (tgt := 20) hx hb dX2_poke_13 (by decide) (fun hq9 => absurd hq9 (by decide)) (fun _ => ?_)
  refine lv_iconst (v := nI 1) hx hb dX2_poke_16 (by decide) ?_
  refine lv_goto (tgt := 21) hx hb dX2_poke_17 (by decide) ?_
  refine lv_iload_n hx hb dX2_poke_21 rfl (lv_at hl 3 rfl) ?_
  refine lv_iconst (v := nI 1) hx hb dX2_poke_22 (by decide) ?_
  refine lv_sipush (v := nI 255) hx hb dX2_poke_23 (by decide) ?_
  refine mi_callS (As := [.int x, .int (nI 1), .int (nI 255)]) (rest := [.int (nI 1), .ref (om 0)]) ⟨hx, hb, hml, hown, hW⟩ (n_in _ x (nI 1) (nI 255)) nE_ok (va_cwS 3 hW (gS tw_598 tw_599 tw_3 tw_600) rfl rfl rfl (by decide +kernel) ⟨Nat.le_of_ble_eq_true rfl, Nat.le_of_ble_eq_true rfl⟩) hP hD hK hS hA hT rfl hl.1 rfl (Nat.le_of_ble_eq_true rfl) dX2_poke_26 ⟨Nat.zero_le _, Nat.zero_le _⟩ (fun H locs hP hD hS => ?_)
  refine lv_eqi (v := nI 1) (by rw [p_in_mask]; rw [hx0]; rfl) ?_
  refine lv_iconst (v := nI 1) hx hb dX2_poke_29 (by decide) ?_
  refine mi_callV (C := RX2) (As := [.int (nI 1), .int (nI 1), .int (nI 1)]) (rest := []) ⟨hx, hb, hml, hown, hW⟩ (n_goes (nI 1) (nI 1) (nI 1) (nI 0) (nI 1) mem ((if_neg (by decide)).trans ((if_neg (by decide)).trans (if_neg (by decide)))) (by decide)) nE_ok (cwV 3 hW (gV tw_601 tw_603 tv_X2_goes tw_3 tw_604) rfl rfl rfl (by decide +kernel) ⟨Nat.le_of_ble_eq_true rfl, Nat.le_of_ble_eq_true rfl⟩) (va_recv hK hP (ci := 2) (q0 := 0) rfl rfl) hP hD hK hS hA hT rfl hl.1 rfl (Nat.le_of_ble_eq_true rfl) dX2_poke_30 ⟨Nat.zero_le _, Nat.zero_le _⟩ (fun H locs hP hD hS => ?_)
  have hP : va_P D vwCl (wM om am cI cZ (nI 0) tp (nI q) dy pv pm by_ pt wy gone oR mem) H := hP
  have hD : va_D A (wM om am cI cZ (nI 0) tp (nI q) dy pv pm by_ pt wy gone oR mem) := hD
  refine lv_if_eq (tgt := 60) hx hb dX2_poke_33 (by decide) (fun hq9 => absurd hq9 (by decide)) (fun _ => ?_)
  refine lv_aload_n hx hb dX2_poke_36 rfl (lv_at hl 0 rfl) ?_
  refine va_get (D := D) (ci := 2) (v := .ref (am 6)) (C := RX2) (T := TX2) (N := 25) hx hb hW iMD hown hK hP 0 rfl rfl 4 (by decide) (hW _ tw_518) (fun _ h9 => h9) rfl dX2_poke_37 ?_
  refine lv_bipush (v := nI 32) hx hb dX2_poke_40 (by decide) ?_
  refine lv_iload_n hx hb dX2_poke_42 rfl (lv_at hl 1 rfl) ?_
  refine lv_imul hx hb dX2_poke_43 ?_
  refine lv_eqi (v := nI (32 * d)) (pk_mul _ _) ?_
  refine lv_iload_n hx hb dX2_poke_44 rfl (lv_at hl 2 rfl) ?_
  refine lv_iadd hx hb dX2_poke_45 ?_
  refine lv_eqi (v := nI (32 * d + i)) (nI_add _ _) ?_
  refine lv_aload_n hx hb dX2_poke_46 rfl (lv_at hl 0 rfl) ?_
  refine va_get (D := D) (ci := 2) (v := .ref (am 6)) (C := RX2) (T := TX2) (N := 25) hx hb hW iMD hown hK hP 0 rfl rfl 4 (by decide) (hW _ tw_518) (fun _ h9 => h9) rfl dX2_poke_47 ?_
  refine lv_bipush (v := nI 32) hx hb dX2_poke_50 (by decide) ?_
  refine lv_iload_n hx hb dX2_poke_52 rfl (lv_at hl 1 rfl) ?_
  refine lv_imul hx hb dX2_poke_53 ?_
  refine lv_eqi (v := nI (32 * d)) (pk_mul _ _) ?_
  refine lv_iload_n hx hb dX2_poke_54 rfl (lv_at hl 2 rfl) ?_
  refine lv_iadd hx hb dX2_poke_55 ?_
  refine lv_eqi (v := nI (32 * d + i)) (nI_add _ _) ?_
  refine m_ld (X := wMx om am cZ (nI 0) tp (nI q) dy pv pm by_ pt wy gone oR) hx hb hK hP 0 6 (32 * d + i) rfl (by decide) (show 32 * d + i < 768 by omega) (by decide) dX2_poke_56 ?_
  refine lv_iload_n hx hb dX2_poke_57 rfl (lv_at hl 3 rfl) ?_
  refine lv_ixor hx hb dX2_poke_58 ?_
  refine m_st (X := wMx om am cZ (nI 0) tp (nI q) dy pv pm by_ pt wy gone oR) hx hb hK hP hD hS 0 6 (32 * d + i) rfl (by decide) (show 32 * d + i < 768 by omega) (by decide) dX2_poke_59 (fun H locs hP hD hS => ?_)
  have hP : va_P D vwCl (wM om am cI cZ (nI 0) tp (nI q) dy pv pm by_ pt wy gone oR (va_up mem 6 (upd (mem 6) (32 * d + i) ((mem 6 (32 * d + i)) ^^^ x)))) H := hP
  have hD : va_D A (wM om am cI cZ (nI 0) tp (nI q) dy pv pm by_ pt wy gone oR (va_up mem 6 (upd (mem 6) (32 * d + i) ((mem 6 (32 * d + i)) ^^^ x)))) := hD
  have hP : va_P D vwCl (wM om am cI cZ (nI 0) tp (nI q) dy pv pm by_ pt wy gone oR (m_bend 6 (32 * d + i) x mem)) H := by exact hP
  have hD : va_D A (wM om am cI cZ (nI 0) tp (nI q) dy pv pm by_ pt wy gone oR (m_bend 6 (32 * d + i) x mem)) := by exact hD
  exact mv_ret hx hb hr hlk hS hP hD dX2_poke_60
set_option maxHeartbeats 800000 in
set_option maxRecDepth 100000 in
theorem n_leaf_no {l : Launch} {D : va_G} {om am : Nat → Nat} {cI cZ cG : ClassId} {th dy pv pm by_ pt wy : Int32} {gone oR : Nat → Int32} (q t : Nat) (mem : xMem) (nm : String) (hX : x_if (¬ nI q < nI 24) nUOE = some nm) : MI l nE yX2_leaf (.code yX2_leaf cX2_leaf 2 (some .int) :: tW) ({ frames := 4, cells := 0, slots := 0, locals := 100 }) D vwCl (tC cI cZ cG) [.ref (om 0)] (wM om am cI cZ th (nI t) (nI q) dy pv pm by_ pt wy gone oR mem) (wM om am cI cZ (cdL [nUOE] nm) (nI t) (nI q) dy pv pm by_ pt wy gone oR mem) (nI 0) := by
  refine MI.ofW (by decide +kernel) rfl (Nat.le_of_ble_eq_true rfl) ?_
  intro p e s m below meth c A ls hx hb hr hts hown hlk hml hA hP hK hD hT hl
  have hS : va_S A s.heap s.heap [] := va_S.rf
  have hown : s.vm.findClass RX2 = some m.cls := hown
  have hW : ∀ w ∈ tW, w.before _ s = true := fun w h => hts w (List.mem_cons_of_mem _ h)
  have hl : lv_has ls 2 [(0, .ref (om 0))] := hl
  have hg1 := hX
  obtain ⟨hn9, hc9⟩ := x_if_some hg1
  skip
  refine lv_aload_n hx hb dX2_leaf_0 rfl (lv_at hl 0 rfl) ?_
  refine lv_aload_n hx hb dX2_leaf_1 rfl (lv_at hl 0 rfl) ?_
  refine va_get (D := D) (ci := 2) (v := .int (nI q)) (C := RX2) (T := TX2) (N := 25) hx hb hW iMD hown hK hP 0 rfl rfl 3 (by decide) (hW _ tw_517) (fun _ h9 => h9) rfl dX2_leaf_2 ?_
  refine lv_bipush (v := nI 24) hx hb dX2_leaf_5 (by decide) ?_
  refine lv_icmp_ge (tgt := 14) hx hb dX2_leaf_7 (by decide) (fun _ => ?_) (fun hq9 => absurd (Int32.not_lt.mp hc9) hq9)
  refine lv_iconst (v := nI 0) hx hb dX2_leaf_14 (by decide) ?_
  refine lv_iconst (v := nI 1) hx hb dX2_leaf_15 (by decide) ?_
  refine lv_iconst (v := nI 1) hx hb dX2_leaf_16 (by decide) ?_
  refine mi_callV (C := RX2) (As := [.int (nI 0), .int (nI 1), .int (nI 1)]) (rest := []) ⟨hx, hb, hml, hown, hW⟩ (n_goes (nI 0) (nI 1) (nI 1) (nI 1) (nI 0) mem (if_pos (by decide)) (by decide)) nE_ok (cwV 3 hW (gV tw_601 tw_603 tv_X2_goes tw_3 tw_604) rfl rfl rfl (by decide +kernel) ⟨Nat.le_of_ble_eq_true rfl, Nat.le_of_ble_eq_true rfl⟩) (va_recv hK hP (ci := 2) (q0 := 0) rfl rfl) hP hD hK hS hA hT rfl hl.1 rfl (Nat.le_of_ble_eq_true rfl) dX2_leaf_17 ⟨Nat.zero_le _, Nat.zero_le _⟩ (fun H locs hP hD hS => ?_)
  have hP : va_P D vwCl (wM om am cI cZ (nI 1) (nI t) (nI q) dy pv pm by_ pt wy gone oR mem) H := hP
  have hD : va_D A (wM om am cI cZ (nI 1) (nI t) (nI q) dy pv pm by_ pt wy gone oR mem) := hD
  refine lv_if_ne (tgt := 25) hx hb dX2_leaf_20 (by decide) (fun hq9 => absurd (by decide) hq9) (fun _ => ?_)
  refine lv_iconst (v := nI 0) hx hb dX2_leaf_23 (by decide) ?_
  have hP : va_P D vwCl (wM om am cI cZ (cdL [nUOE] nm) (nI t) (nI q) dy pv pm by_ pt wy gone oR mem) H := by rw [show cdL [nUOE] nm = nI 1 from by rw [hn9]; decide +kernel]; exact hP
  have hD : va_D A (wM om am cI cZ (cdL [nUOE] nm) (nI t) (nI q) dy pv pm by_ pt wy gone oR mem) := by rw [show cdL [nUOE] nm = nI 1 from by rw [hn9]; decide +kernel]; exact hD
  exact mi_ret hx hb hr (rfl) hlk hS hP hD (rfl) dX2_leaf_24
set_option maxHeartbeats 800000 in
set_option maxRecDepth 100000 in
theorem n_leaf {l : Launch} {D : va_G} {om am : Nat → Nat} {cI cZ cG : ClassId} {th dy pv pm by_ pt wy : Int32} {gone oR : Nat → Int32} (q t : Nat) (hq : q < 24) (ht : t ≤ 200) (mem : xMem) (hkc : ∀ i, i < 64 → mem 13 i = kc i) : MI l nE yX2_leaf (.code yX2_leaf cX2_leaf 2 (some .int) :: tW) ({ frames := 4, cells := 0, slots := 0, locals := 120 }) D vwCl (tC cI cZ cG) [.ref (om 0)] (wM om am cI cZ th (nI t) (nI q) dy pv pm by_ pt wy gone oR mem) (wM om am cI cZ (nI 0) (nI 0) (nI (q + 1)) dy pv pm (nI (m_leaf q t mem).1) pt wy gone oR ((m_leaf q t mem).2)) (nI q) := by
  refine MI.ofW (by decide +kernel) rfl (Nat.le_of_ble_eq_true rfl) ?_
  intro p e s m below meth c A ls hx hb hr hts hown hlk hml hA hP hK hD hT hl
  have hS : va_S A s.heap s.heap [] := va_S.rf
  have hown : s.vm.findClass RX2 = some m.cls := hown
  have hW : ∀ w ∈ tW, w.before _ s = true := fun w h => hts w (List.mem_cons_of_mem _ h)
  have hl : lv_has ls 2 [(0, .ref (om 0))] := hl
  have e1 : (P_take (nI 0) (0, mem)).1 = 1 := P_take_fst _ _ (show 0 < 256 by decide)
  have e2 : (P_first 0 t (P_take (nI 0) (0, mem))).1 = 1 + t := by rw [P_first_fst 0 t _ (by omega), e1]
  have lr : ∀ (kr r : Nat) (H : Heap) (locs : List Loc) (ls : Array Slot), r + kr = 32 → va_P D vwCl (wM om am cI cZ (nI 0) (nI 0) (nI q) dy pv pm (nI (P_fin 2 (P_first 0 t (P_take (nI 0) (0, mem)))).1) pt wy gone oR (rcp 6 (32 * q) 2 0 r ((P_fin 2 (P_first 0 t (P_take (nI 0) (0, mem)))).2))) H → va_D A (wM om am cI cZ (nI 0) (nI 0) (nI q) dy pv pm (nI (P_fin 2 (P_first 0 t (P_take (nI 0) (0, mem)))).1) pt wy gone oR (rcp 6 (32 * q) 2 0 r ((P_fin 2 (P_first 0 t (P_take (nI 0) (0, mem)))).2))) → va_S A s.heap H locs → lv_has ls 2 [(0, .ref (om 0)), (1, .int (nI r))] → W p l e ({ frames := 4, cells := 0, slots := 0, locals := 120 }) s m ([.ref (om 0)] : List Value).toArray below meth c H locs 0 0 (MQ below (xQi D vwCl (wM om am cI cZ (nI 0) (nI 0) (nI (q + 1)) dy pv pm (nI (m_leaf q t mem).1) pt wy gone oR ((m_leaf q t mem).2)) (nI q) A) ([.ref (om 0)] : List Value).toArray s 0 0 A) (F0 m 71 ls []) := by
    intro kr
    induction kr with
    | zero =>
      intro r H locs ls hk hP hD hS hl
      have hr9 : r = 32 := by omega
      rw [hr9, ← P_rcp_e] at hP hD
      refine lv_iload_n hx hb dX2_leaf_71 rfl (lv_at hl 1 rfl) ?_
      refine lv_bipush (v := nI 32) hx hb dX2_leaf_72 (by decide) ?_
      refine lv_icmp_ge (tgt := 103) hx hb dX2_leaf_74 (by decide) (fun _ => ?_) (fun hq9 => absurd (nI_le (by omega) (by omega)) hq9)
      refine lv_aload_n hx hb dX2_leaf_103 rfl (lv_at hl 0 rfl) ?_
      refine lv_dup hx hb dX2_leaf_104 rfl ?_
      refine va_get (D := D) (ci := 2) (v := .int (nI q)) (C := RX2) (T := TX2) (N := 25) hx hb hW iMD hown hK hP 0 rfl rfl 3 (by decide) (hW _ tw_517) (fun _ h9 => h9) rfl dX2_leaf_105 ?_
      refine lv_iconst (v := nI 1) hx hb dX2_leaf_108 (by decide) ?_
      refine lv_iadd hx hb dX2_leaf_109 ?_
      refine lv_eqi (v := nI (q + 1)) (nI_add q 1) ?_
      refine va_put (D := D) (ci := 2) (v := .int (nI (q + 1))) (ty := .int) (C := RX2) (T := TX2) (N := 25) hx hb hW iMD tyX2 tyX2_ok nmX2 hown hK hP hD hS 0 rfl rfl 3 (by decide) (hW _ tw_517) (fun _ h9 => h9) rfl (by decide +kernel) rfl rfl (Nat.le_of_ble_eq_true rfl) dX2_leaf_110 (fun H locs hP hD hS => ?_)
      have hP : va_P D vwCl (wM om am cI cZ (nI 0) (nI 0) (nI (q + 1)) dy pv pm (nI (P_fin 2 (P_first 0 t (P_take (nI 0) (0, mem)))).1) pt wy gone oR (P_rcp 6 (32 * q) 2 0 ((P_fin 2 (P_first 0 t (P_take (nI 0) (0, mem)))).2))) H := hP
      have hD : va_D A (wM om am cI cZ (nI 0) (nI 0) (nI (q + 1)) dy pv pm (nI (P_fin 2 (P_first 0 t (P_take (nI 0) (0, mem)))).1) pt wy gone oR (P_rcp 6 (32 * q) 2 0 ((P_fin 2 (P_first 0 t (P_take (nI 0) (0, mem)))).2))) := hD
      refine lv_aload_n hx hb dX2_leaf_113 rfl (lv_at hl 0 rfl) ?_
      refine va_get (D := D) (ci := 2) (v := .int (nI (q + 1))) (C := RX2) (T := TX2) (N := 25) hx hb hW iMD hown hK hP 0 rfl rfl 3 (by decide) (hW _ tw_517) (fun _ h9 => h9) rfl dX2_leaf_114 ?_
      refine lv_iconst (v := nI 1) hx hb dX2_leaf_117 (by decide) ?_
      refine lv_isub hx hb dX2_leaf_118 ?_
      refine lv_eqi (v := nI q) (nI_prd q) ?_
      have hP : va_P D vwCl (wM om am cI cZ (nI 0) (nI 0) (nI (q + 1)) dy pv pm (nI (m_leaf q t mem).1) pt wy gone oR ((m_leaf q t mem).2)) H := by exact hP
      have hD : va_D A (wM om am cI cZ (nI 0) (nI 0) (nI (q + 1)) dy pv pm (nI (m_leaf q t mem).1) pt wy gone oR ((m_leaf q t mem).2)) := by exact hD
      exact mi_ret hx hb hr (rfl) hlk hS hP hD (rfl) dX2_leaf_119
    | succ kr ihkr =>
      intro r H locs ls hk hP hD hS hl
      refine lv_iload_n hx hb dX2_leaf_71 rfl (lv_at hl 1 rfl) ?_
      refine lv_bipush (v := nI 32) hx hb dX2_leaf_72 (by decide) ?_
      refine lv_icmp_ge (tgt := 103) hx hb dX2_leaf_74 (by decide) (fun hq9 => absurd hq9 (nI_ge (by omega) (by decide))) (fun _ => ?_)
      refine lv_aload_n hx hb dX2_leaf_77 rfl (lv_at hl 0 rfl) ?_
      refine va_get (D := D) (ci := 2) (v := .ref (am 6)) (C := RX2) (T := TX2) (N := 25) hx hb hW iMD hown hK hP 0 rfl rfl 4 (by decide) (hW _ tw_518) (fun _ h9 => h9) rfl dX2_leaf_78 ?_
      refine lv_bipush (v := nI 32) hx hb dX2_leaf_81 (by decide) ?_
      refine lv_aload_n hx hb dX2_leaf_83 rfl (lv_at hl 0 rfl) ?_
      refine va_get (D := D) (ci := 2) (v := .int (nI q)) (C := RX2) (T := TX2) (N := 25) hx hb hW iMD hown hK hP 0 rfl rfl 3 (by decide) (hW _ tw_517) (fun _ h9 => h9) rfl dX2_leaf_84 ?_
      refine lv_imul hx hb dX2_leaf_87 ?_
      refine lv_eqi (v := nI (32 * q)) (pk_mul _ _) ?_
      refine lv_iload_n hx hb dX2_leaf_88 rfl (lv_at hl 1 rfl) ?_
      refine lv_iadd hx hb dX2_leaf_89 ?_
      refine lv_eqi (v := nI (32 * q + r)) (nI_add _ _) ?_
      refine lv_aload_n hx hb dX2_leaf_90 rfl (lv_at hl 0 rfl) ?_
      refine va_get (D := D) (ci := 2) (v := .ref (am 2)) (C := RX2) (T := TX2) (N := 25) hx hb hW iMD hown hK hP 0 rfl rfl 14 (by decide) (hW _ tw_528) (fun _ h9 => h9) rfl dX2_leaf_91 ?_
      refine lv_iload_n hx hb dX2_leaf_94 rfl (lv_at hl 1 rfl) ?_
      refine m_ld (X := wMx om am cZ (nI 0) (nI 0) (nI q) dy pv pm (nI (P_fin 2 (P_first 0 t (P_take (nI 0) (0, mem)))).1) pt wy gone oR) hx hb hK hP 0 2 r rfl (by decide) (show r < 32 by omega) (by decide) dX2_leaf_95 ?_
      refine m_st (X := wMx om am cZ (nI 0) (nI 0) (nI q) dy pv pm (nI (P_fin 2 (P_first 0 t (P_take (nI 0) (0, mem)))).1) pt wy gone oR) hx hb hK hP hD hS 0 6 (32 * q + r) rfl (by decide) (show 32 * q + r < 768 by omega) (by decide) dX2_leaf_96 (fun H locs hP hD hS => ?_)
      have hP : va_P D vwCl (wM om am cI cZ (nI 0) (nI 0) (nI q) dy pv pm (nI (P_fin 2 (P_first 0 t (P_take (nI 0) (0, mem)))).1) pt wy gone oR (rcp 6 (32 * q) 2 0 (r + 1) ((P_fin 2 (P_first 0 t (P_take (nI 0) (0, mem)))).2))) H := by rw [rcp_s, Nat.zero_add]; exact hP
      have hD : va_D A (wM om am cI cZ (nI 0) (nI 0) (nI q) dy pv pm (nI (P_fin 2 (P_first 0 t (P_take (nI 0) (0, mem)))).1) pt wy gone oR (rcp 6 (32 * q) 2 0 (r + 1) ((P_fin 2 (P_first 0 t (P_take (nI 0) (0, mem)))).2))) := by rw [rcp_s, Nat.zero_add]; exact hD
      refine lv_iinc (v := nI (r + 1)) (lv' := [(1, .int (nI (r + 1))), (0, .ref (om 0))]) hx hb dX2_leaf_97 hl (k := 1) rfl (nI_1 _) (by decide) rfl (fun ls hl => ?_)
      refine lv_goto (tgt := 71) hx hb dX2_leaf_100 (by decide) ?_
      exact ihkr (r + 1) H locs ls (by omega) hP hD hS (lv_sub hl [1, 0] rfl)
  have lo : ∀ (k i : Nat) (H : Heap) (locs : List Loc) (ls : Array Slot), i + k = t → va_P D vwCl (wM om am cI cZ (nI 0) (nI t) (nI q) dy pv pm (nI (p_takeFirst 0 i (P_take (nI 0) (0, mem))).1) pt wy gone oR ((p_takeFirst 0 i (P_take (nI 0) (0, mem))).2)) H → va_D A (wM om am cI cZ (nI 0) (nI t) (nI q) dy pv pm (nI (p_takeFirst 0 i (P_take (nI 0) (0, mem))).1) pt wy gone oR ((p_takeFirst 0 i (P_take (nI 0) (0, mem))).2)) → va_S A s.heap H locs → lv_has ls 2 [(0, .ref (om 0)), (1, .int (nI i))] → W p l e ({ frames := 4, cells := 0, slots := 0, locals := 120 }) s m ([.ref (om 0)] : List Value).toArray below meth c H locs 0 0 (MQ below (xQi D vwCl (wM om am cI cZ (nI 0) (nI 0) (nI (q + 1)) dy pv pm (nI (m_leaf q t mem).1) pt wy gone oR ((m_leaf q t mem).2)) (nI q) A) ([.ref (om 0)] : List Value).toArray s 0 0 A) (F0 m 36 ls []) := by
    intro k
    induction k with
    | zero =>
      intro i H locs ls hk hP hD hS hl
      have hk9 : i = t := by omega
      refine lv_iload_n hx hb dX2_leaf_36 rfl (lv_at hl 1 rfl) ?_
      refine lv_aload_n hx hb dX2_leaf_37 rfl (lv_at hl 0 rfl) ?_
      refine va_get (D := D) (ci := 2) (v := .int (nI t)) (C := RX2) (T := TX2) (N := 25) hx hb hW iMD hown hK hP 0 rfl rfl 1 (by decide) (hW _ tw_515) (fun _ h9 => h9) rfl dX2_leaf_38 ?_
      refine lv_icmp_ge (tgt := 60) hx hb dX2_leaf_41 (by decide) (fun _ => ?_) (fun hq9 => absurd (nI_le (by omega) (by omega)) hq9)
      rw [hk9, ← P_first_e] at hP hD
      refine lv_aload_n hx hb dX2_leaf_60 rfl (lv_at hl 0 rfl) ?_
      refine mv_callV (C := RX2) (As := []) (rest := []) ⟨hx, hb, hml, hown, hW⟩ (n_digest0 ((P_first 0 t (P_take (nI 0) (0, mem))).1) (by rw [e2]; omega) ((P_first 0 t (P_take (nI 0) (0, mem))).2) (fun j hj => by rw [P_first_k (by decide), P_take_k (by decide)]; exact hkc j hj)) nE_ok (cwV 0 hW (gV tw_617 tw_619 tv_X2_digest0 tw_3 tw_620) rfl rfl rfl (by decide +kernel) ⟨Nat.le_of_ble_eq_true rfl, Nat.le_of_ble_eq_true rfl⟩) (va_recv hK hP (ci := 2) (q0 := 0) rfl rfl) hP hD hK hS hA hT rfl hl.1 rfl (Nat.le_of_ble_eq_true rfl) dX2_leaf_61 ⟨Nat.zero_le _, Nat.zero_le _⟩ (fun H locs hP hD hS => ?_)
      have hP : va_P D vwCl (wM om am cI cZ (nI 0) (nI t) (nI q) dy pv pm (nI (P_fin 2 (P_first 0 t (P_take (nI 0) (0, mem)))).1) pt wy gone oR ((P_fin 2 (P_first 0 t (P_take (nI 0) (0, mem)))).2)) H := hP
      have hD : va_D A (wM om am cI cZ (nI 0) (nI t) (nI q) dy pv pm (nI (P_fin 2 (P_first 0 t (P_take (nI 0) (0, mem)))).1) pt wy gone oR ((P_fin 2 (P_first 0 t (P_take (nI 0) (0, mem)))).2)) := hD
      refine lv_aload_n hx hb dX2_leaf_64 rfl (lv_at hl 0 rfl) ?_
      refine lv_iconst (v := nI 0) hx hb dX2_leaf_65 (by decide) ?_
      refine va_put (D := D) (ci := 2) (v := .int (nI 0)) (ty := .int) (C := RX2) (T := TX2) (N := 25) hx hb hW iMD tyX2 tyX2_ok nmX2 hown hK hP hD hS 0 rfl rfl 1 (by decide) (hW _ tw_515) (fun _ h9 => h9) rfl (by decide +kernel) rfl rfl (Nat.le_of_ble_eq_true rfl) dX2_leaf_66 (fun H locs hP hD hS => ?_)
      have hP : va_P D vwCl (wM om am cI cZ (nI 0) (nI 0) (nI q) dy pv pm (nI (P_fin 2 (P_first 0 t (P_take (nI 0) (0, mem)))).1) pt wy gone oR ((P_fin 2 (P_first 0 t (P_take (nI 0) (0, mem)))).2)) H := hP
      have hD : va_D A (wM om am cI cZ (nI 0) (nI 0) (nI q) dy pv pm (nI (P_fin 2 (P_first 0 t (P_take (nI 0) (0, mem)))).1) pt wy gone oR ((P_fin 2 (P_first 0 t (P_take (nI 0) (0, mem)))).2)) := hD
      refine lv_iconst (v := nI 0) hx hb dX2_leaf_69 (by decide) ?_
      refine lv_istore_n (lv' := [(1, .int (nI 0)), (0, .ref (om 0))]) hx hb dX2_leaf_70 rfl hl (by decide) rfl (fun ls hl => ?_)
      have hP : va_P D vwCl (wM om am cI cZ (nI 0) (nI 0) (nI q) dy pv pm (nI (P_fin 2 (P_first 0 t (P_take (nI 0) (0, mem)))).1) pt wy gone oR (rcp 6 (32 * q) 2 0 0 ((P_fin 2 (P_first 0 t (P_take (nI 0) (0, mem)))).2))) H := by rw [rcp_0]; exact hP
      have hD : va_D A (wM om am cI cZ (nI 0) (nI 0) (nI q) dy pv pm (nI (P_fin 2 (P_first 0 t (P_take (nI 0) (0, mem)))).1) pt wy gone oR (rcp 6 (32 * q) 2 0 0 ((P_fin 2 (P_first 0 t (P_take (nI 0) (0, mem)))).2))) := by rw [rcp_0]; exact hD
      exact lr 32 0 H locs ls (by omega) hP hD hS (lv_sub hl [1, 0] rfl)
    | succ k ih =>
      intro i H locs ls hk hP hD hS hl
      have e0 : (p_takeFirst 0 i (P_take (nI 0) (0, mem))).1 = 1 + i := by rw [p_takeFirst_fst 0 i _ (by omega), e1]
      refine lv_iload_n hx hb dX2_leaf_36 rfl (lv_at hl 1 rfl) ?_
      refine lv_aload_n hx hb dX2_leaf_37 rfl (lv_at hl 0 rfl) ?_
      refine va_get (D := D) (ci := 2) (v := .int (nI t)) (C := RX2) (T := TX2) (N := 25) hx hb hW iMD hown hK hP 0 rfl rfl 1 (by decide) (hW _ tw_515) (fun _ h9 => h9) rfl dX2_leaf_38 ?_
      refine lv_icmp_ge (tgt := 60) hx hb dX2_leaf_41 (by decide) (fun hq9 => absurd hq9 (nI_ge (by omega) (by omega))) (fun _ => ?_)
      refine lv_aload_n hx hb dX2_leaf_44 rfl (lv_at hl 0 rfl) ?_
      refine lv_aload_n hx hb dX2_leaf_45 rfl (lv_at hl 0 rfl) ?_
      refine va_get (D := D) (ci := 2) (v := .ref (am 0)) (C := RX2) (T := TX2) (N := 25) hx hb hW iMD hown hK hP 0 rfl rfl 2 (by decide) (hW _ tw_516) (fun _ h9 => h9) rfl dX2_leaf_46 ?_
      refine lv_iload_n hx hb dX2_leaf_49 rfl (lv_at hl 1 rfl) ?_
      refine m_ld (X := wMx om am cZ (nI 0) (nI t) (nI q) dy pv pm (nI (p_takeFirst 0 i (P_take (nI 0) (0, mem))).1) pt wy gone oR) hx hb hK hP 0 0 i rfl (by decide) (show i < 200 by omega) (by decide) dX2_leaf_50 ?_
      refine mv_callV (C := RX2) (As := [.int (((p_takeFirst 0 i (P_take (nI 0) (0, mem))).2) 0 i)]) (rest := []) ⟨hx, hb, hml, hown, hW⟩ (n_add ((p_takeFirst 0 i (P_take (nI 0) (0, mem))).1) (by rw [e0]; omega) ((p_takeFirst 0 i (P_take (nI 0) (0, mem))).2) (((p_takeFirst 0 i (P_take (nI 0) (0, mem))).2) 0 i)) nE_ok (cwV 1 hW (gV tw_613 tw_615 tv_X2_add tw_3 tw_616) rfl rfl rfl (by decide +kernel) ⟨Nat.le_of_ble_eq_true rfl, Nat.le_of_ble_eq_true rfl⟩) (va_recv hK hP (ci := 2) (q0 := 0) rfl rfl) hP hD hK hS hA hT rfl hl.1 rfl (Nat.le_of_ble_eq_true rfl) dX2_leaf_51 ⟨Nat.zero_le _, Nat.zero_le _⟩ (fun H locs hP hD hS => ?_)
      have hP : va_P D vwCl (wM om am cI cZ (nI 0) (nI t) (nI q) dy pv pm (nI (P_take (((p_takeFirst 0 i (P_take (nI 0) (0, mem))).2) 0 i) (p_takeFirst 0 i (P_take (nI 0) (0, mem)))).1) pt wy gone oR ((P_take (((p_takeFirst 0 i (P_take (nI 0) (0, mem))).2) 0 i) (p_takeFirst 0 i (P_take (nI 0) (0, mem)))).2)) H := hP
      have hD : va_D A (wM om am cI cZ (nI 0) (nI t) (nI q) dy pv pm (nI (P_take (((p_takeFirst 0 i (P_take (nI 0) (0, mem))).2) 0 i) (p_takeFirst 0 i (P_take (nI 0) (0, mem)))).1) pt wy gone oR ((P_take (((p_takeFirst 0 i (P_take (nI 0) (0, mem))).2) 0 i) (p_takeFirst 0 i (P_take (nI 0) (0, mem)))).2)) := hD
      have hP : va_P D vwCl (wM om am cI cZ (nI 0) (nI t) (nI q) dy pv pm (nI (p_takeFirst 0 (i + 1) (P_take (nI 0) (0, mem))).1) pt wy gone oR ((p_takeFirst 0 (i + 1) (P_take (nI 0) (0, mem))).2)) H := by rw [p_first_s, ← P_take_e]; exact hP
      have hD : va_D A (wM om am cI cZ (nI 0) (nI t) (nI q) dy pv pm (nI (p_takeFirst 0 (i + 1) (P_take (nI 0) (0, mem))).1) pt wy gone oR ((p_takeFirst 0 (i + 1) (P_take (nI 0) (0, mem))).2)) := by rw [p_first_s, ← P_take_e]; exact hD
      refine lv_iinc (v := nI (i + 1)) (lv' := [(1, .int (nI (i + 1))), (0, .ref (om 0))]) hx hb dX2_leaf_54 hl (k := 1) rfl (nI_1 _) (by decide) rfl (fun ls hl => ?_)
      refine lv_goto (tgt := 36) hx hb dX2_leaf_57 (by decide) ?_
      exact ih (i + 1) H locs ls (by omega) hP hD hS (lv_sub hl [1, 0] rfl)
  refine lv_aload_n hx hb dX2_leaf_0 rfl (lv_at hl 0 rfl) ?_
  refine lv_aload_n hx hb dX2_leaf_1 rfl (lv_at hl 0 rfl) ?_
  refine va_get (D := D) (ci := 2) (v := .int (nI q)) (C := RX2) (T := TX2) (N := 25) hx hb hW iMD hown hK hP 0 rfl rfl 3 (by decide) (hW _ tw_517) (fun _ h9 => h9) rfl dX2_leaf_2 ?_
  refine lv_bipush (v := nI 24) hx hb dX2_leaf_5 (by decide) ?_
  refine lv_icmp_ge (tgt := 14) hx hb dX2_leaf_7 (by decide) (fun hq9 => absurd hq9 (nI_ge (by omega) (by decide))) (fun _ => ?_)
  refine lv_iconst (v := nI 1) hx hb dX2_leaf_10 (by decide) ?_
  refine lv_goto (tgt := 15) hx hb dX2_leaf_11 (by decide) ?_
  refine lv_iconst (v := nI 1) hx hb dX2_leaf_15 (by decide) ?_
  refine lv_iconst (v := nI 1) hx hb dX2_leaf_16 (by decide) ?_
  refine mi_callV (C := RX2) (As := [.int (nI 1), .int (nI 1), .int (nI 1)]) (rest := []) ⟨hx, hb, hml, hown, hW⟩ (n_goes (nI 1) (nI 1) (nI 1) (nI 0) (nI 1) mem ((if_neg (by decide)).trans ((if_neg (by decide)).trans (if_neg (by decide)))) (by decide)) nE_ok (cwV 3 hW (gV tw_601 tw_603 tv_X2_goes tw_3 tw_604) rfl rfl rfl (by decide +kernel) ⟨Nat.le_of_ble_eq_true rfl, Nat.le_of_ble_eq_true rfl⟩) (va_recv hK hP (ci := 2) (q0 := 0) rfl rfl) hP hD hK hS hA hT rfl hl.1 rfl (Nat.le_of_ble_eq_true rfl) dX2_leaf_17 ⟨Nat.zero_le _, Nat.zero_le _⟩ (fun H locs hP hD hS => ?_)
  have hP : va_P D vwCl (wM om am cI cZ (nI 0) (nI t) (nI q) dy pv pm by_ pt wy gone oR mem) H := hP
  have hD : va_D A (wM om am cI cZ (nI 0) (nI t) (nI q) dy pv pm by_ pt wy gone oR mem) := hD
  refine lv_if_ne (tgt := 25) hx hb dX2_leaf_20 (by decide) (fun _ => ?_) (fun hq9 => absurd hq9 (by decide))
  refine lv_aload_n hx hb dX2_leaf_25 rfl (lv_at hl 0 rfl) ?_
  refine mv_callV (C := RX2) (As := []) (rest := []) ⟨hx, hb, hml, hown, hW⟩ (n_begin mem) nE_ok (cwV 0 hW (gV tw_609 tw_611 tv_X2_begin tw_3 tw_612) rfl rfl rfl (by decide +kernel) ⟨Nat.le_of_ble_eq_true rfl, Nat.le_of_ble_eq_true rfl⟩) (va_recv hK hP (ci := 2) (q0 := 0) rfl rfl) hP hD hK hS hA hT rfl hl.1 rfl (Nat.le_of_ble_eq_true rfl) dX2_leaf_26 ⟨Nat.zero_le _, Nat.zero_le _⟩ (fun H locs hP hD hS => ?_)
  have hP : va_P D vwCl (wM om am cI cZ (nI 0) (nI t) (nI q) dy pv pm (nI 0) pt wy gone oR mem) H := hP
  have hD : va_D A (wM om am cI cZ (nI 0) (nI t) (nI q) dy pv pm (nI 0) pt wy gone oR mem) := hD
  refine lv_aload_n hx hb dX2_leaf_29 rfl (lv_at hl 0 rfl) ?_
  refine lv_iconst (v := nI 0) hx hb dX2_leaf_30 (by decide) ?_
  refine mv_callV (C := RX2) (As := [.int (nI 0)]) (rest := []) ⟨hx, hb, hml, hown, hW⟩ (n_add 0 (by decide) mem (nI 0)) nE_ok (cwV 1 hW (gV tw_613 tw_615 tv_X2_add tw_3 tw_616) rfl rfl rfl (by decide +kernel) ⟨Nat.le_of_ble_eq_true rfl, Nat.le_of_ble_eq_true rfl⟩) (va_recv hK hP (ci := 2) (q0 := 0) rfl rfl) hP hD hK hS hA hT rfl hl.1 rfl (Nat.le_of_ble_eq_true rfl) dX2_leaf_31 ⟨Nat.zero_le _, Nat.zero_le _⟩ (fun H locs hP hD hS => ?_)
  have hP : va_P D vwCl (wM om am cI cZ (nI 0) (nI t) (nI q) dy pv pm (nI (P_take (nI 0) (0, mem)).1) pt wy gone oR ((P_take (nI 0) (0, mem)).2)) H := hP
  have hD : va_D A (wM om am cI cZ (nI 0) (nI t) (nI q) dy pv pm (nI (P_take (nI 0) (0, mem)).1) pt wy gone oR ((P_take (nI 0) (0, mem)).2)) := hD
  refine lv_iconst (v := nI 0) hx hb dX2_leaf_34 (by decide) ?_
  refine lv_istore_n (lv' := [(1, .int (nI 0)), (0, .ref (om 0))]) hx hb dX2_leaf_35 rfl hl (by decide) rfl (fun ls hl => ?_)
  have hP : va_P D vwCl (wM om am cI cZ (nI 0) (nI t) (nI q) dy pv pm (nI (p_takeFirst 0 0 (P_take (nI 0) (0, mem))).1) pt wy gone oR ((p_takeFirst 0 0 (P_take (nI 0) (0, mem))).2)) H := by rw [p_first_0]; exact hP
  have hD : va_D A (wM om am cI cZ (nI 0) (nI t) (nI q) dy pv pm (nI (p_takeFirst 0 0 (P_take (nI 0) (0, mem))).1) pt wy gone oR ((p_takeFirst 0 0 (P_take (nI 0) (0, mem))).2)) := by rw [p_first_0]; exact hD
  exact lo t 0 H locs ls (by omega) hP hD hS (lv_sub hl [1, 0] rfl)
set_option maxHeartbeats 800000 in
set_option maxRecDepth 100000 in
theorem n_feed_no {l : Launch} {D : va_G} {om am : Nat → Nat} {cI cZ cG : ClassId} {th lv dy pv pm by_ pt wy : Int32} {gone oR : Nat → Int32} (t : Nat) (v : Int32) (b : Int64) (mem : xMem) (nm : String) (hX : x_feed (nI t) v = some nm) : MI l nE yX2_feed (.code yX2_feed cX2_feed 5 (some .int) :: tW) ({ frames := 4, cells := 0, slots := 0, locals := 100 }) D vwCl (tC cI cZ cG) [.ref (om 0), .long b, .int v] (wM om am cI cZ th (nI t) lv dy pv pm by_ pt wy gone oR mem) (wM om am cI cZ (cdL [nIAE, nUOE] nm) (nI t) lv dy pv pm by_ pt wy gone oR mem) (nI 0) := by
  refine MI.ofW (by decide +kernel) rfl (Nat.le_of_ble_eq_true rfl) ?_
  intro p e s m below meth c A ls hx hb hr hts hown hlk hml hA hP hK hD hT hl
  have hS : va_S A s.heap s.heap [] := va_S.rf
  have hown : s.vm.findClass RX2 = some m.cls := hown
  have hW : ∀ w ∈ tW, w.before _ s = true := fun w h => hts w (List.mem_cons_of_mem _ h)
  have hl : lv_has ls 5 [(0, .ref (om 0)), (1, .long b), (3, .int v)] := hl
  have hg1 := hX
  unfold x_feed at hg1
  by_cases hc1 : v < nI 1 ∨ ¬ v ≤ nI 8
  · rw [if_pos hc1] at hg1
    have hn9 : nm = nIAE := (Option.some.inj hg1).symm
    skip
    refine lv_aload_n hx hb dX2_feed_0 rfl (lv_at hl 0 rfl) ?_
    refine lv_iload_n hx hb dX2_feed_1 rfl (lv_at hl 2 rfl) ?_
    refine lv_iconst (v := nI 1) hx hb dX2_feed_2 (by decide) ?_
    refine lv_bipush (v := nI 8) hx hb dX2_feed_3 (by decide) ?_
    refine mi_callS (As := [.int v, .int (nI 1), .int (nI 8)]) (rest := [.ref (om 0)]) ⟨hx, hb, hml, hown, hW⟩ (n_in _ v (nI 1) (nI 8)) nE_ok (va_cwS 3 hW (gS tw_598 tw_599 tw_3 tw_600) rfl rfl rfl (by decide +kernel) ⟨Nat.le_of_ble_eq_true rfl, Nat.le_of_ble_eq_true rfl⟩) hP hD hK hS hA hT rfl hl.1 rfl (Nat.le_of_ble_eq_true rfl) dX2_feed_5 ⟨Nat.zero_le _, Nat.zero_le _⟩ (fun H locs hP hD hS => ?_)
    refine lv_eqi (v := nI 0) (by rw [p_in_feed]; exact if_pos hc1) ?_
    refine lv_aload_n hx hb dX2_feed_8 rfl (lv_at hl 0 rfl) ?_
    refine va_get (D := D) (ci := 2) (v := .int (nI t)) (C := RX2) (T := TX2) (N := 25) hx hb hW iMD hown hK hP 0 rfl rfl 1 (by decide) (hW _ tw_515) (fun _ h9 => h9) rfl dX2_feed_9 ?_
    refine lv_iload_n hx hb dX2_feed_12 rfl (lv_at hl 2 rfl) ?_
    refine lv_iadd hx hb dX2_feed_13 ?_
    refine lv_sipush (v := nI 200) hx hb dX2_feed_14 (by decide) ?_
    refine lv_icmp_gt (tgt := 24) hx hb dX2_feed_17 (by decide) (fun hq1 => ?_) (fun hq1 => ?_)
    · refine lv_iconst (v := nI 0) hx hb dX2_feed_24 (by decide) ?_
      refine lv_iconst (v := nI 1) hx hb dX2_feed_25 (by decide) ?_
      refine mi_callV (C := RX2) (As := [.int (nI 0), .int (nI 0), .int (nI 1)]) (rest := []) ⟨hx, hb, hml, hown, hW⟩ (n_goes (nI 0) (nI 0) (nI 1) (nI 1) (nI 0) mem (if_pos (by decide)) (by decide)) nE_ok (cwV 3 hW (gV tw_601 tw_603 tv_X2_goes tw_3 tw_604) rfl rfl rfl (by decide +kernel) ⟨Nat.le_of_ble_eq_true rfl, Nat.le_of_ble_eq_true rfl⟩) (va_recv hK hP (ci := 2) (q0 := 0) rfl rfl) hP hD hK hS hA hT rfl hl.1 rfl (Nat.le_of_ble_eq_true rfl) dX2_feed_26 ⟨Nat.zero_le _, Nat.zero_le _⟩ (fun H locs hP hD hS => ?_)
      have hP : va_P D vwCl (wM om am cI cZ (nI 1) (nI t) lv dy pv pm by_ pt wy gone oR mem) H := hP
      have hD : va_D A (wM om am cI cZ (nI 1) (nI t) lv dy pv pm by_ pt wy gone oR mem) := hD
      refine lv_if_ne (tgt := 34) hx hb dX2_feed_29 (by decide) (fun hq9 => absurd (by decide) hq9) (fun _ => ?_)
      refine lv_iconst (v := nI 0) hx hb dX2_feed_32 (by decide) ?_
      have hP : va_P D vwCl (wM om am cI cZ (cdL [nIAE, nUOE] nm) (nI t) lv dy pv pm by_ pt wy gone oR mem) H := by rw [show cdL [nIAE, nUOE] nm = nI 1 from by rw [hn9]; decide +kernel]; exact hP
      have hD : va_D A (wM om am cI cZ (cdL [nIAE, nUOE] nm) (nI t) lv dy pv pm by_ pt wy gone oR mem) := by rw [show cdL [nIAE, nUOE] nm = nI 1 from by rw [hn9]; decide +kernel]; exact hD
      exact mi_ret hx hb hr (rfl) hlk hS hP hD (rfl) dX2_feed_33
    · refine lv_iconst (v := nI 1) hx hb dX2_feed_20 (by decide) ?_
      refine lv_goto (tgt := 25) hx hb dX2_feed_21 (by decide) ?_
      refine lv_iconst (v := nI 1) hx hb dX2_feed_25 (by decide) ?_
      refine mi_callV (C := RX2) (As := [.int (nI 0), .int (nI 1), .int (nI 1)]) (rest := []) ⟨hx, hb, hml, hown, hW⟩ (n_goes (nI 0) (nI 1) (nI 1) (nI 1) (nI 0) mem (if_pos (by decide)) (by decide)) nE_ok (cwV 3 hW (gV tw_601 tw_603 tv_X2_goes tw_3 tw_604) rfl rfl rfl (by decide +kernel) ⟨Nat.le_of_ble_eq_true rfl, Nat.le_of_ble_eq_true rfl⟩) (va_recv hK hP (ci := 2) (q0 := 0) rfl rfl) hP hD hK hS hA hT rfl hl.1 rfl (Nat.le_of_ble_eq_true rfl) dX2_feed_26 ⟨Nat.zero_le _, Nat.zero_le _⟩ (fun H locs hP hD hS => ?_)
      have hP : va_P D vwCl (wM om am cI cZ (nI 1) (nI t) lv dy pv pm by_ pt wy gone oR mem) H := hP
      have hD : va_D A (wM om am cI cZ (nI 1) (nI t) lv dy pv pm by_ pt wy gone oR mem) := hD
      refine lv_if_ne (tgt := 34) hx hb dX2_feed_29 (by decide) (fun hq9 => absurd (by decide) hq9) (fun _ => ?_)
      refine lv_iconst (v := nI 0) hx hb dX2_feed_32 (by decide) ?_
      have hP : va_P D vwCl (wM om am cI cZ (cdL [nIAE, nUOE] nm) (nI t) lv dy pv pm by_ pt wy gone oR mem) H := by rw [show cdL [nIAE, nUOE] nm = nI 1 from by rw [hn9]; decide +kernel]; exact hP
      have hD : va_D A (wM om am cI cZ (cdL [nIAE, nUOE] nm) (nI t) lv dy pv pm by_ pt wy gone oR mem) := by rw [show cdL [nIAE, nUOE] nm = nI 1 from by rw [hn9]; decide +kernel]; exact hD
      exact mi_ret hx hb hr (rfl) hlk hS hP hD (rfl) dX2_feed_33
  · rw [if_neg hc1] at hg1
    by_cases hc2 : nI t + v ≤ nI 200
    · rw [if_pos hc2] at hg1; cases hg1
    · rw [if_neg hc2] at hg1
      have hn9 : nm = nUOE := (Option.some.inj hg1).symm
      skip
      refine lv_aload_n hx hb dX2_feed_0 rfl (lv_at hl 0 rfl) ?_
      refine lv_iload_n hx hb dX2_feed_1 rfl (lv_at hl 2 rfl) ?_
      refine lv_iconst (v := nI 1) hx hb dX2_feed_2 (by decide) ?_
      refine lv_bipush (v := nI 8) hx hb dX2_feed_3 (by decide) ?_
      refine mi_callS (As := [.int v, .int (nI 1), .int (nI 8)]) (rest := [.ref (om 0)]) ⟨hx, hb, hml, hown, hW⟩ (n_in _ v (nI 1) (nI 8)) nE_ok (va_cwS 3 hW (gS tw_598 tw_599 tw_3 tw_600) rfl rfl rfl (by decide +kernel) ⟨Nat.le_of_ble_eq_true rfl, Nat.le_of_ble_eq_true rfl⟩) hP hD hK hS hA hT rfl hl.1 rfl (Nat.le_of_ble_eq_true rfl) dX2_feed_5 ⟨Nat.zero_le _, Nat.zero_le _⟩ (fun H locs hP hD hS => ?_)
      refine lv_eqi (v := nI 1) (by rw [p_in_feed]; exact if_neg hc1) ?_
      refine lv_aload_n hx hb dX2_feed_8 rfl (lv_at hl 0 rfl) ?_
      refine va_get (D := D) (ci := 2) (v := .int (nI t)) (C := RX2) (T := TX2) (N := 25) hx hb hW iMD hown hK hP 0 rfl rfl 1 (by decide) (hW _ tw_515) (fun _ h9 => h9) rfl dX2_feed_9 ?_
      refine lv_iload_n hx hb dX2_feed_12 rfl (lv_at hl 2 rfl) ?_
      refine lv_iadd hx hb dX2_feed_13 ?_
      refine lv_sipush (v := nI 200) hx hb dX2_feed_14 (by decide) ?_
      refine lv_icmp_gt (tgt := 24) hx hb dX2_feed_17 (by decide) (fun _ => ?_) (fun hq9 => absurd (Int32.not_le.mp hc2) hq9)
      refine lv_iconst (v := nI 0) hx hb dX2_feed_24 (by decide) ?_
      refine lv_iconst (v := nI 1) hx hb dX2_feed_25 (by decide) ?_
      refine mi_callV (C := RX2) (As := [.int (nI 1), .int (nI 0), .int (nI 1)]) (rest := []) ⟨hx, hb, hml, hown, hW⟩ (n_goes (nI 1) (nI 0) (nI 1) (nI 2) (nI 0) mem ((if_neg (by decide)).trans (if_pos (by decide))) (by decide)) nE_ok (cwV 3 hW (gV tw_601 tw_603 tv_X2_goes tw_3 tw_604) rfl rfl rfl (by decide +kernel) ⟨Nat.le_of_ble_eq_true rfl, Nat.le_of_ble_eq_true rfl⟩) (va_recv hK hP (ci := 2) (q0 := 0) rfl rfl) hP hD hK hS hA hT rfl hl.1 rfl (Nat.le_of_ble_eq_true rfl) dX2_feed_26 ⟨Nat.zero_le _, Nat.zero_le _⟩ (fun H locs hP hD hS => ?_)
      have hP : va_P D vwCl (wM om am cI cZ (nI 2) (nI t) lv dy pv pm by_ pt wy gone oR mem) H := hP
      have hD : va_D A (wM om am cI cZ (nI 2) (nI t) lv dy pv pm by_ pt wy gone oR mem) := hD
      refine lv_if_ne (tgt := 34) hx hb dX2_feed_29 (by decide) (fun hq9 => absurd (by decide) hq9) (fun _ => ?_)
      refine lv_iconst (v := nI 0) hx hb dX2_feed_32 (by decide) ?_
      have hP : va_P D vwCl (wM om am cI cZ (cdL [nIAE, nUOE] nm) (nI t) lv dy pv pm by_ pt wy gone oR mem) H := by rw [show cdL [nIAE, nUOE] nm = nI 2 from by rw [hn9]; decide +kernel]; exact hP
      have hD : va_D A (wM om am cI cZ (cdL [nIAE, nUOE] nm) (nI t) lv dy pv pm by_ pt wy gone oR mem) := by rw [show cdL [nIAE, nUOE] nm = nI 2 from by rw [hn9]; decide +kernel]; exact hD
      exact mi_ret hx hb hr (rfl) hlk hS hP hD (rfl) dX2_feed_33
set_option maxHeartbeats 800000 in
set_option maxRecDepth 100000 in
theorem n_feed {l : Launch} {D : va_G} {om am : Nat → Nat} {cI cZ cG : ClassId} {th lv dy pv pm by_ pt wy : Int32} {gone oR : Nat → Int32} (t q : Nat) (q1 : 1 ≤ q) (q8 : q ≤ 8) (q2 : t + q ≤ 200) (b : Int64) (mem : xMem) : MI l nE yX2_feed (.code yX2_feed cX2_feed 5 (some .int) :: tW) ({ frames := 4, cells := 0, slots := 0, locals := 100 }) D vwCl (tC cI cZ cG) [.ref (om 0), .long b, .int (nI q)] (wM om am cI cZ th (nI t) lv dy pv pm by_ pt wy gone oR mem) (wM om am cI cZ (nI 0) (nI (t + q)) lv dy pv pm by_ pt wy gone oR (p_feed b t q q mem)) (nI (t + q)) := by
  refine MI.ofW (by decide +kernel) rfl (Nat.le_of_ble_eq_true rfl) ?_
  intro p e s m below meth c A ls hx hb hr hts hown hlk hml hA hP hK hD hT hl
  have hS : va_S A s.heap s.heap [] := va_S.rf
  have hown : s.vm.findClass RX2 = some m.cls := hown
  have hW : ∀ w ∈ tW, w.before _ s = true := fun w h => hts w (List.mem_cons_of_mem _ h)
  have hl : lv_has ls 5 [(0, .ref (om 0)), (1, .long b), (3, .int (nI q))] := hl
  have lo : ∀ (k i : Nat) (H : Heap) (locs : List Loc) (ls : Array Slot), i + k = q → va_P D vwCl (wM om am cI cZ (nI 0) (nI (t + i)) lv dy pv pm by_ pt wy gone oR (p_feed b t q i mem)) H → va_D A (wM om am cI cZ (nI 0) (nI (t + i)) lv dy pv pm by_ pt wy gone oR (p_feed b t q i mem)) → va_S A s.heap H locs → lv_has ls 5 [(0, .ref (om 0)), (1, .long b), (3, .int (nI q)), (4, .int (fdC q i))] → W p l e ({ frames := 4, cells := 0, slots := 0, locals := 100 }) s m ([.ref (om 0), .long b, .int (nI q)] : List Value).toArray below meth c H locs 0 0 (MQ below (xQi D vwCl (wM om am cI cZ (nI 0) (nI (t + q)) lv dy pv pm by_ pt wy gone oR (p_feed b t q q mem)) (nI (t + q)) A) ([.ref (om 0), .long b, .int (nI q)] : List Value).toArray s 0 0 A) (F0 m 39 ls []) := by
    intro k
    induction k with
    | zero =>
      intro i H locs ls hk hP hD hS hl
      have hk9 : i = q := by omega
      refine lv_iload hx hb dX2_feed_39 (lv_at hl 3 rfl) ?_
      refine lv_if_lt (tgt := 81) hx hb dX2_feed_41 (by decide) (fun _ => ?_) (fun hq9 => absurd (fdC_neg q i (by omega) (by omega)) hq9)
      refine lv_aload_n hx hb dX2_feed_81 rfl (lv_at hl 0 rfl) ?_
      refine va_get (D := D) (ci := 2) (v := .int (nI (t + i))) (C := RX2) (T := TX2) (N := 25) hx hb hW iMD hown hK hP 0 rfl rfl 1 (by decide) (hW _ tw_515) (fun _ h9 => h9) rfl dX2_feed_82 ?_
      rw [hk9] at hP hD
      have hP : va_P D vwCl (wM om am cI cZ (nI 0) (nI (t + q)) lv dy pv pm by_ pt wy gone oR (p_feed b t q q mem)) H := by exact hP
      have hD : va_D A (wM om am cI cZ (nI 0) (nI (t + q)) lv dy pv pm by_ pt wy gone oR (p_feed b t q q mem)) := by exact hD
      exact mi_ret hx hb hr (rfl) hlk hS hP hD (by rw [hk9]) dX2_feed_85
    | succ k ih =>
      intro i H locs ls hk hP hD hS hl
      have hi8 : i < q := by omega
      refine lv_iload hx hb dX2_feed_39 (lv_at hl 3 rfl) ?_
      refine lv_if_lt (tgt := 81) hx hb dX2_feed_41 (by decide) (fun hq9 => absurd hq9 (by rw [fdC_pos q i hi8]; exact nI_pos (by omega))) (fun _ => ?_)
      rw [fdC_pos q i hi8] at hl
      refine lv_aload_n hx hb dX2_feed_44 rfl (lv_at hl 0 rfl) ?_
      refine va_get (D := D) (ci := 2) (v := .ref (am 0)) (C := RX2) (T := TX2) (N := 25) hx hb hW iMD hown hK hP 0 rfl rfl 2 (by decide) (hW _ tw_516) (fun _ h9 => h9) rfl dX2_feed_45 ?_
      refine lv_aload_n hx hb dX2_feed_48 rfl (lv_at hl 0 rfl) ?_
      refine va_get (D := D) (ci := 2) (v := .int (nI (t + i))) (C := RX2) (T := TX2) (N := 25) hx hb hW iMD hown hK hP 0 rfl rfl 1 (by decide) (hW _ tw_515) (fun _ h9 => h9) rfl dX2_feed_49 ?_
      refine lv_lload_n hx hb dX2_feed_52 rfl (lv_at hl 1 rfl) ?_
      refine lv_bipush (v := nI 8) hx hb dX2_feed_53 (by decide) ?_
      refine lv_iload hx hb dX2_feed_55 (lv_at hl 3 rfl) ?_
      refine lv_imul hx hb dX2_feed_57 ?_
      refine lv_lushr (v := lush b ((nI 8) * (nI (q - 1 - i)))) hx hb dX2_feed_58 rfl ?_
      refine lv_l2i (v := (lush b ((nI 8) * (nI (q - 1 - i)))).toInt32) hx hb dX2_feed_59 rfl ?_
      refine lv_sipush (v := nI 255) hx hb dX2_feed_60 (by decide) ?_
      refine lv_iand hx hb dX2_feed_63 ?_
      refine lv_eqi (v := fdB b q i) (rfl) ?_
      refine m_st (X := wMx om am cZ (nI 0) (nI (t + i)) lv dy pv pm by_ pt wy gone oR) hx hb hK hP hD hS 0 0 (t + i) rfl (by decide) (show t + i < 200 by omega) (by decide) dX2_feed_64 (fun H locs hP hD hS => ?_)
      have hP : va_P D vwCl (wM om am cI cZ (nI 0) (nI (t + i)) lv dy pv pm by_ pt wy gone oR (va_up (p_feed b t q i mem) 0 (upd ((p_feed b t q i mem) 0) (t + i) (fdB b q i)))) H := hP
      have hD : va_D A (wM om am cI cZ (nI 0) (nI (t + i)) lv dy pv pm by_ pt wy gone oR (va_up (p_feed b t q i mem) 0 (upd ((p_feed b t q i mem) 0) (t + i) (fdB b q i)))) := hD
      have hP : va_P D vwCl (wM om am cI cZ (nI 0) (nI (t + i)) lv dy pv pm by_ pt wy gone oR (p_feed b t q (i + 1) mem)) H := by rw [p_feed_s]; exact hP
      have hD : va_D A (wM om am cI cZ (nI 0) (nI (t + i)) lv dy pv pm by_ pt wy gone oR (p_feed b t q (i + 1) mem)) := by rw [p_feed_s]; exact hD
      refine lv_aload_n hx hb dX2_feed_65 rfl (lv_at hl 0 rfl) ?_
      refine lv_dup hx hb dX2_feed_66 rfl ?_
      refine va_get (D := D) (ci := 2) (v := .int (nI (t + i))) (C := RX2) (T := TX2) (N := 25) hx hb hW iMD hown hK hP 0 rfl rfl 1 (by decide) (hW _ tw_515) (fun _ h9 => h9) rfl dX2_feed_67 ?_
      refine lv_iconst (v := nI 1) hx hb dX2_feed_70 (by decide) ?_
      refine lv_iadd hx hb dX2_feed_71 ?_
      refine lv_eqi (v := nI (t + (i + 1))) (nI_add (t + i) 1) ?_
      refine va_put (D := D) (ci := 2) (v := .int (nI (t + (i + 1)))) (ty := .int) (C := RX2) (T := TX2) (N := 25) hx hb hW iMD tyX2 tyX2_ok nmX2 hown hK hP hD hS 0 rfl rfl 1 (by decide) (hW _ tw_515) (fun _ h9 => h9) rfl (by decide +kernel) rfl rfl (Nat.le_of_ble_eq_true rfl) dX2_feed_72 (fun H locs hP hD hS => ?_)
      have hP : va_P D vwCl (wM om am cI cZ (nI 0) (nI (t + (i + 1))) lv dy pv pm by_ pt wy gone oR (p_feed b t q (i + 1) mem)) H := hP
      have hD : va_D A (wM om am cI cZ (nI 0) (nI (t + (i + 1))) lv dy pv pm by_ pt wy gone oR (p_feed b t q (i + 1) mem)) := hD
      refine lv_iinc (v := fdC q (i + 1)) (lv' := [(4, .int (fdC q (i + 1))), (0, .ref (om 0)), (1, .long b), (3, .int (nI q))]) hx hb dX2_feed_75 hl (k := 3) rfl (fdC_s q (by omega) i hi8) (by decide) rfl (fun ls hl => ?_)
      refine lv_goto (tgt := 39) hx hb dX2_feed_78 (by decide) ?_
      exact ih (i + 1) H locs ls (by omega) hP hD hS (lv_sub hl [1, 2, 3, 0] rfl)
  refine lv_aload_n hx hb dX2_feed_0 rfl (lv_at hl 0 rfl) ?_
  refine lv_iload_n hx hb dX2_feed_1 rfl (lv_at hl 2 rfl) ?_
  refine lv_iconst (v := nI 1) hx hb dX2_feed_2 (by decide) ?_
  refine lv_bipush (v := nI 8) hx hb dX2_feed_3 (by decide) ?_
  refine mi_callS (As := [.int (nI q), .int (nI 1), .int (nI 8)]) (rest := [.ref (om 0)]) ⟨hx, hb, hml, hown, hW⟩ (n_in _ (nI q) (nI 1) (nI 8)) nE_ok (va_cwS 3 hW (gS tw_598 tw_599 tw_3 tw_600) rfl rfl rfl (by decide +kernel) ⟨Nat.le_of_ble_eq_true rfl, Nat.le_of_ble_eq_true rfl⟩) hP hD hK hS hA hT rfl hl.1 rfl (Nat.le_of_ble_eq_true rfl) dX2_feed_5 ⟨Nat.zero_le _, Nat.zero_le _⟩ (fun H locs hP hD hS => ?_)
  refine lv_eqi (v := nI 1) (by rw [p_in_feed]; exact if_neg (fun h => h.elim (nI_nlt q1 (by omega)) (fun h1 => h1 (nI_le q8 (by decide))))) ?_
  refine lv_aload_n hx hb dX2_feed_8 rfl (lv_at hl 0 rfl) ?_
  refine va_get (D := D) (ci := 2) (v := .int (nI t)) (C := RX2) (T := TX2) (N := 25) hx hb hW iMD hown hK hP 0 rfl rfl 1 (by decide) (hW _ tw_515) (fun _ h9 => h9) rfl dX2_feed_9 ?_
  refine lv_iload_n hx hb dX2_feed_12 rfl (lv_at hl 2 rfl) ?_
  refine lv_iadd hx hb dX2_feed_13 ?_
  refine lv_eqi (v := nI (t + q)) (nI_add _ _) ?_
  refine lv_sipush (v := nI 200) hx hb dX2_feed_14 (by decide) ?_
  refine lv_icmp_gt (tgt := 24) hx hb dX2_feed_17 (by decide) (fun hq9 => absurd hq9 (nI_nlt (by omega) (by decide))) (fun _ => ?_)
  refine lv_iconst (v := nI 1) hx hb dX2_feed_20 (by decide) ?_
  refine lv_goto (tgt := 25) hx hb dX2_feed_21 (by decide) ?_
  refine lv_iconst (v := nI 1) hx hb dX2_feed_25 (by decide) ?_
  refine mi_callV (C := RX2) (As := [.int (nI 1), .int (nI 1), .int (nI 1)]) (rest := []) ⟨hx, hb, hml, hown, hW⟩ (n_goes (nI 1) (nI 1) (nI 1) (nI 0) (nI 1) mem ((if_neg (by decide)).trans ((if_neg (by decide)).trans (if_neg (by decide)))) (by decide)) nE_ok (cwV 3 hW (gV tw_601 tw_603 tv_X2_goes tw_3 tw_604) rfl rfl rfl (by decide +kernel) ⟨Nat.le_of_ble_eq_true rfl, Nat.le_of_ble_eq_true rfl⟩) (va_recv hK hP (ci := 2) (q0 := 0) rfl rfl) hP hD hK hS hA hT rfl hl.1 rfl (Nat.le_of_ble_eq_true rfl) dX2_feed_26 ⟨Nat.zero_le _, Nat.zero_le _⟩ (fun H locs hP hD hS => ?_)
  have hP : va_P D vwCl (wM om am cI cZ (nI 0) (nI t) lv dy pv pm by_ pt wy gone oR mem) H := hP
  have hD : va_D A (wM om am cI cZ (nI 0) (nI t) lv dy pv pm by_ pt wy gone oR mem) := hD
  refine lv_if_ne (tgt := 34) hx hb dX2_feed_29 (by decide) (fun _ => ?_) (fun hq9 => absurd hq9 (by decide))
  refine lv_iload_n hx hb dX2_feed_34 rfl (lv_at hl 2 rfl) ?_
  refine lv_iconst (v := nI 1) hx hb dX2_feed_35 (by decide) ?_
  refine lv_isub hx hb dX2_feed_36 ?_
  refine lv_eqi (v := fdC q 0) (by rw [fdC_0]; exact pk_sub (by omega)) ?_
  refine lv_istore (lv' := [(4, .int (fdC q 0)), (0, .ref (om 0)), (1, .long b), (3, .int (nI q))]) hx hb dX2_feed_37 hl (by decide) rfl (fun ls hl => ?_)
  exact lo q 0 H locs ls (by omega) hP hD hS (lv_sub hl [1, 2, 3, 0] rfl)
set_option maxHeartbeats 800000 in
set_option maxRecDepth 100000 in
theorem n_close_no {l : Launch} {D : va_G} {om am : Nat → Nat} {cI cZ cG : ClassId} {th tp pv pm pt wy : Int32} {gone oR : Nat → Int32} (q y b : Nat) (mem : xMem) (nm : String) (hX : x_if (¬ nI y < nI 12) nUOE = some nm) : MI l nE yX2_close (.code yX2_close cX2_close 2 (some .int) :: tW) ({ frames := 4, cells := 0, slots := 0, locals := 100 }) D vwCl (tC cI cZ cG) [.ref (om 0)] (wM om am cI cZ th tp (nI q) (nI y) pv pm (nI b) pt wy gone oR mem) (wM om am cI cZ (cdL [nUOE] nm) tp (nI q) (nI y) pv pm (nI b) pt wy gone oR mem) (nI 0) := by
  refine MI.ofW (by decide +kernel) rfl (Nat.le_of_ble_eq_true rfl) ?_
  intro p e s m below meth c A ls hx hb hr hts hown hlk hml hA hP hK hD hT hl
  have hS : va_S A s.heap s.heap [] := va_S.rf
  have hown : s.vm.findClass RX2 = some m.cls := hown
  have hW : ∀ w ∈ tW, w.before _ s = true := fun w h => hts w (List.mem_cons_of_mem _ h)
  have hl : lv_has ls 2 [(0, .ref (om 0))] := hl
  have hg1 := hX
  obtain ⟨hn9, hc9⟩ := x_if_some hg1
  skip
  refine lv_aload_n hx hb dX2_close_0 rfl (lv_at hl 0 rfl) ?_
  refine lv_aload_n hx hb dX2_close_1 rfl (lv_at hl 0 rfl) ?_
  refine va_get (D := D) (ci := 2) (v := .int (nI y)) (C := RX2) (T := TX2) (N := 25) hx hb hW iMD hown hK hP 0 rfl rfl 6 (by decide) (hW _ tw_520) (fun _ h9 => h9) rfl dX2_close_2 ?_
  refine lv_bipush (v := nI 12) hx hb dX2_close_5 (by decide) ?_
  refine lv_icmp_ge (tgt := 14) hx hb dX2_close_7 (by decide) (fun _ => ?_) (fun hq9 => absurd (Int32.not_lt.mp hc9) hq9)
  refine lv_iconst (v := nI 0) hx hb dX2_close_14 (by decide) ?_
  refine lv_iconst (v := nI 1) hx hb dX2_close_15 (by decide) ?_
  refine lv_iconst (v := nI 1) hx hb dX2_close_16 (by decide) ?_
  refine mi_callV (C := RX2) (As := [.int (nI 0), .int (nI 1), .int (nI 1)]) (rest := []) ⟨hx, hb, hml, hown, hW⟩ (n_goes (nI 0) (nI 1) (nI 1) (nI 1) (nI 0) mem (if_pos (by decide)) (by decide)) nE_ok (cwV 3 hW (gV tw_601 tw_603 tv_X2_goes tw_3 tw_604) rfl rfl rfl (by decide +kernel) ⟨Nat.le_of_ble_eq_true rfl, Nat.le_of_ble_eq_true rfl⟩) (va_recv hK hP (ci := 2) (q0 := 0) rfl rfl) hP hD hK hS hA hT rfl hl.1 rfl (Nat.le_of_ble_eq_true rfl) dX2_close_17 ⟨Nat.zero_le _, Nat.zero_le _⟩ (fun H locs hP hD hS => ?_)
  have hP : va_P D vwCl (wM om am cI cZ (nI 1) tp (nI q) (nI y) pv pm (nI b) pt wy gone oR mem) H := hP
  have hD : va_D A (wM om am cI cZ (nI 1) tp (nI q) (nI y) pv pm (nI b) pt wy gone oR mem) := hD
  refine lv_if_ne (tgt := 25) hx hb dX2_close_20 (by decide) (fun hq9 => absurd (by decide) hq9) (fun _ => ?_)
  refine lv_iconst (v := nI 0) hx hb dX2_close_23 (by decide) ?_
  have hP : va_P D vwCl (wM om am cI cZ (cdL [nUOE] nm) tp (nI q) (nI y) pv pm (nI b) pt wy gone oR mem) H := by rw [show cdL [nUOE] nm = nI 1 from by rw [hn9]; decide +kernel]; exact hP
  have hD : va_D A (wM om am cI cZ (cdL [nUOE] nm) tp (nI q) (nI y) pv pm (nI b) pt wy gone oR mem) := by rw [show cdL [nUOE] nm = nI 1 from by rw [hn9]; decide +kernel]; exact hD
  exact mi_ret hx hb hr (rfl) hlk hS hP hD (rfl) dX2_close_24
set_option maxHeartbeats 800000 in
set_option maxRecDepth 100000 in
theorem n_close {l : Launch} {D : va_G} {om am : Nat → Nat} {cI cZ cG : ClassId} {th tp pv pm pt wy : Int32} {gone oR : Nat → Int32} (q y b : Nat) (hq : q ≤ 24) (hy : y < 12) (mem : xMem) (hkc : ∀ i, i < 64 → mem 13 i = kc i) : MI l nE yX2_close (.code yX2_close cX2_close 2 (some .int) :: tW) ({ frames := 6, cells := 0, slots := 0, locals := 220 }) D vwCl (tC cI cZ cG) [.ref (om 0)] (wM om am cI cZ th tp (nI q) (nI y) pv pm (nI b) pt wy gone oR mem) (wM om am cI cZ (nI 0) tp (nI q) (nI (y + 1)) pv pm (nI (m_close q y (b, mem)).1) (ptT q pt) wy gone oR ((m_close q y (b, mem)).2)) (nI y) := by
  refine MI.ofW (by decide +kernel) rfl (Nat.le_of_ble_eq_true rfl) ?_
  intro p e s m below meth c A ls hx hb hr hts hown hlk hml hA hP hK hD hT hl
  have hS : va_S A s.heap s.heap [] := va_S.rf
  have hown : s.vm.findClass RX2 = some m.cls := hown
  have hW : ∀ w ∈ tW, w.before _ s = true := fun w h => hts w (List.mem_cons_of_mem _ h)
  have hl : lv_has ls 2 [(0, .ref (om 0))] := hl
  have lr : ∀ (kr r : Nat) (H : Heap) (locs : List Loc) (ls : Array Slot), r + kr = 32 → va_P D vwCl (wM om am cI cZ (nI 0) tp (nI q) (nI y) pv pm (nI (m_tree 0 q (b, mem)).1) (ptT q pt) wy gone oR (rcp 7 (32 * y) 2 0 r (va_up (m_tree 0 q (b, mem)).2 1 (upd ((m_tree 0 q (b, mem)).2 1) y (nI q))))) H → va_D A (wM om am cI cZ (nI 0) tp (nI q) (nI y) pv pm (nI (m_tree 0 q (b, mem)).1) (ptT q pt) wy gone oR (rcp 7 (32 * y) 2 0 r (va_up (m_tree 0 q (b, mem)).2 1 (upd ((m_tree 0 q (b, mem)).2 1) y (nI q))))) → va_S A s.heap H locs → lv_has ls 2 [(0, .ref (om 0)), (1, .int (nI r))] → W p l e ({ frames := 6, cells := 0, slots := 0, locals := 220 }) s m ([.ref (om 0)] : List Value).toArray below meth c H locs 0 0 (MQ below (xQi D vwCl (wM om am cI cZ (nI 0) tp (nI q) (nI (y + 1)) pv pm (nI (m_close q y (b, mem)).1) (ptT q pt) wy gone oR ((m_close q y (b, mem)).2)) (nI y) A) ([.ref (om 0)] : List Value).toArray s 0 0 A) (F0 m 49 ls []) := by
    intro kr
    induction kr with
    | zero =>
      intro r H locs ls hk hP hD hS hl
      have hr9 : r = 32 := by omega
      rw [hr9, ← P_rcp_e] at hP hD
      refine lv_iload_n hx hb dX2_close_49 rfl (lv_at hl 1 rfl) ?_
      refine lv_bipush (v := nI 32) hx hb dX2_close_50 (by decide) ?_
      refine lv_icmp_ge (tgt := 81) hx hb dX2_close_52 (by decide) (fun _ => ?_) (fun hq9 => absurd (nI_le (by omega) (by omega)) hq9)
      refine lv_aload_n hx hb dX2_close_81 rfl (lv_at hl 0 rfl) ?_
      refine lv_dup hx hb dX2_close_82 rfl ?_
      refine va_get (D := D) (ci := 2) (v := .int (nI y)) (C := RX2) (T := TX2) (N := 25) hx hb hW iMD hown hK hP 0 rfl rfl 6 (by decide) (hW _ tw_520) (fun _ h9 => h9) rfl dX2_close_83 ?_
      refine lv_iconst (v := nI 1) hx hb dX2_close_86 (by decide) ?_
      refine lv_iadd hx hb dX2_close_87 ?_
      refine lv_eqi (v := nI (y + 1)) (nI_add y 1) ?_
      refine va_put (D := D) (ci := 2) (v := .int (nI (y + 1))) (ty := .int) (C := RX2) (T := TX2) (N := 25) hx hb hW iMD tyX2 tyX2_ok nmX2 hown hK hP hD hS 0 rfl rfl 6 (by decide) (hW _ tw_520) (fun _ h9 => h9) rfl (by decide +kernel) rfl rfl (Nat.le_of_ble_eq_true rfl) dX2_close_88 (fun H locs hP hD hS => ?_)
      have hP : va_P D vwCl (wM om am cI cZ (nI 0) tp (nI q) (nI (y + 1)) pv pm (nI (m_tree 0 q (b, mem)).1) (ptT q pt) wy gone oR (P_rcp 7 (32 * y) 2 0 (va_up (m_tree 0 q (b, mem)).2 1 (upd ((m_tree 0 q (b, mem)).2 1) y (nI q))))) H := hP
      have hD : va_D A (wM om am cI cZ (nI 0) tp (nI q) (nI (y + 1)) pv pm (nI (m_tree 0 q (b, mem)).1) (ptT q pt) wy gone oR (P_rcp 7 (32 * y) 2 0 (va_up (m_tree 0 q (b, mem)).2 1 (upd ((m_tree 0 q (b, mem)).2 1) y (nI q))))) := hD
      refine lv_aload_n hx hb dX2_close_91 rfl (lv_at hl 0 rfl) ?_
      refine va_get (D := D) (ci := 2) (v := .int (nI (y + 1))) (C := RX2) (T := TX2) (N := 25) hx hb hW iMD hown hK hP 0 rfl rfl 6 (by decide) (hW _ tw_520) (fun _ h9 => h9) rfl dX2_close_92 ?_
      refine lv_iconst (v := nI 1) hx hb dX2_close_95 (by decide) ?_
      refine lv_isub hx hb dX2_close_96 ?_
      refine lv_eqi (v := nI y) (nI_prd y) ?_
      have hP : va_P D vwCl (wM om am cI cZ (nI 0) tp (nI q) (nI (y + 1)) pv pm (nI (m_close q y (b, mem)).1) (ptT q pt) wy gone oR ((m_close q y (b, mem)).2)) H := by exact hP
      have hD : va_D A (wM om am cI cZ (nI 0) tp (nI q) (nI (y + 1)) pv pm (nI (m_close q y (b, mem)).1) (ptT q pt) wy gone oR ((m_close q y (b, mem)).2)) := by exact hD
      exact mi_ret hx hb hr (rfl) hlk hS hP hD (rfl) dX2_close_97
    | succ kr ihkr =>
      intro r H locs ls hk hP hD hS hl
      refine lv_iload_n hx hb dX2_close_49 rfl (lv_at hl 1 rfl) ?_
      refine lv_bipush (v := nI 32) hx hb dX2_close_50 (by decide) ?_
      refine lv_icmp_ge (tgt := 81) hx hb dX2_close_52 (by decide) (fun hq9 => absurd hq9 (nI_ge (by omega) (by decide))) (fun _ => ?_)
      refine lv_aload_n hx hb dX2_close_55 rfl (lv_at hl 0 rfl) ?_
      refine va_get (D := D) (ci := 2) (v := .ref (am 7)) (C := RX2) (T := TX2) (N := 25) hx hb hW iMD hown hK hP 0 rfl rfl 8 (by decide) (hW _ tw_522) (fun _ h9 => h9) rfl dX2_close_56 ?_
      refine lv_bipush (v := nI 32) hx hb dX2_close_59 (by decide) ?_
      refine lv_aload_n hx hb dX2_close_61 rfl (lv_at hl 0 rfl) ?_
      refine va_get (D := D) (ci := 2) (v := .int (nI y)) (C := RX2) (T := TX2) (N := 25) hx hb hW iMD hown hK hP 0 rfl rfl 6 (by decide) (hW _ tw_520) (fun _ h9 => h9) rfl dX2_close_62 ?_
      refine lv_imul hx hb dX2_close_65 ?_
      refine lv_eqi (v := nI (32 * y)) (pk_mul _ _) ?_
      refine lv_iload_n hx hb dX2_close_66 rfl (lv_at hl 1 rfl) ?_
      refine lv_iadd hx hb dX2_close_67 ?_
      refine lv_eqi (v := nI (32 * y + r)) (nI_add _ _) ?_
      refine lv_aload_n hx hb dX2_close_68 rfl (lv_at hl 0 rfl) ?_
      refine va_get (D := D) (ci := 2) (v := .ref (am 2)) (C := RX2) (T := TX2) (N := 25) hx hb hW iMD hown hK hP 0 rfl rfl 14 (by decide) (hW _ tw_528) (fun _ h9 => h9) rfl dX2_close_69 ?_
      refine lv_iload_n hx hb dX2_close_72 rfl (lv_at hl 1 rfl) ?_
      refine m_ld (X := wMx om am cZ (nI 0) tp (nI q) (nI y) pv pm (nI (m_tree 0 q (b, mem)).1) (ptT q pt) wy gone oR) hx hb hK hP 0 2 r rfl (by decide) (show r < 32 by omega) (by decide) dX2_close_73 ?_
      refine m_st (X := wMx om am cZ (nI 0) tp (nI q) (nI y) pv pm (nI (m_tree 0 q (b, mem)).1) (ptT q pt) wy gone oR) hx hb hK hP hD hS 0 7 (32 * y + r) rfl (by decide) (show 32 * y + r < 384 by omega) (by decide) dX2_close_74 (fun H locs hP hD hS => ?_)
      have hP : va_P D vwCl (wM om am cI cZ (nI 0) tp (nI q) (nI y) pv pm (nI (m_tree 0 q (b, mem)).1) (ptT q pt) wy gone oR (rcp 7 (32 * y) 2 0 (r + 1) (va_up (m_tree 0 q (b, mem)).2 1 (upd ((m_tree 0 q (b, mem)).2 1) y (nI q))))) H := by rw [rcp_s, Nat.zero_add]; exact hP
      have hD : va_D A (wM om am cI cZ (nI 0) tp (nI q) (nI y) pv pm (nI (m_tree 0 q (b, mem)).1) (ptT q pt) wy gone oR (rcp 7 (32 * y) 2 0 (r + 1) (va_up (m_tree 0 q (b, mem)).2 1 (upd ((m_tree 0 q (b, mem)).2 1) y (nI q))))) := by rw [rcp_s, Nat.zero_add]; exact hD
      refine lv_iinc (v := nI (r + 1)) (lv' := [(1, .int (nI (r + 1))), (0, .ref (om 0))]) hx hb dX2_close_75 hl (k := 1) rfl (nI_1 _) (by decide) rfl (fun ls hl => ?_)
      refine lv_goto (tgt := 49) hx hb dX2_close_78 (by decide) ?_
      exact ihkr (r + 1) H locs ls (by omega) hP hD hS (lv_sub hl [1, 0] rfl)
  refine lv_aload_n hx hb dX2_close_0 rfl (lv_at hl 0 rfl) ?_
  refine lv_aload_n hx hb dX2_close_1 rfl (lv_at hl 0 rfl) ?_
  refine va_get (D := D) (ci := 2) (v := .int (nI y)) (C := RX2) (T := TX2) (N := 25) hx hb hW iMD hown hK hP 0 rfl rfl 6 (by decide) (hW _ tw_520) (fun _ h9 => h9) rfl dX2_close_2 ?_
  refine lv_bipush (v := nI 12) hx hb dX2_close_5 (by decide) ?_
  refine lv_icmp_ge (tgt := 14) hx hb dX2_close_7 (by decide) (fun hq9 => absurd hq9 (nI_ge (by omega) (by decide))) (fun _ => ?_)
  refine lv_iconst (v := nI 1) hx hb dX2_close_10 (by decide) ?_
  refine lv_goto (tgt := 15) hx hb dX2_close_11 (by decide) ?_
  refine lv_iconst (v := nI 1) hx hb dX2_close_15 (by decide) ?_
  refine lv_iconst (v := nI 1) hx hb dX2_close_16 (by decide) ?_
  refine mi_callV (C := RX2) (As := [.int (nI 1), .int (nI 1), .int (nI 1)]) (rest := []) ⟨hx, hb, hml, hown, hW⟩ (n_goes (nI 1) (nI 1) (nI 1) (nI 0) (nI 1) mem ((if_neg (by decide)).trans ((if_neg (by decide)).trans (if_neg (by decide)))) (by decide)) nE_ok (cwV 3 hW (gV tw_601 tw_603 tv_X2_goes tw_3 tw_604) rfl rfl rfl (by decide +kernel) ⟨Nat.le_of_ble_eq_true rfl, Nat.le_of_ble_eq_true rfl⟩) (va_recv hK hP (ci := 2) (q0 := 0) rfl rfl) hP hD hK hS hA hT rfl hl.1 rfl (Nat.le_of_ble_eq_true rfl) dX2_close_17 ⟨Nat.zero_le _, Nat.zero_le _⟩ (fun H locs hP hD hS => ?_)
  have hP : va_P D vwCl (wM om am cI cZ (nI 0) tp (nI q) (nI y) pv pm (nI b) pt wy gone oR mem) H := hP
  have hD : va_D A (wM om am cI cZ (nI 0) tp (nI q) (nI y) pv pm (nI b) pt wy gone oR mem) := hD
  refine lv_if_ne (tgt := 25) hx hb dX2_close_20 (by decide) (fun _ => ?_) (fun hq9 => absurd hq9 (by decide))
  refine lv_aload_n hx hb dX2_close_25 rfl (lv_at hl 0 rfl) ?_
  refine lv_iconst (v := nI 0) hx hb dX2_close_26 (by decide) ?_
  refine lv_aload_n hx hb dX2_close_27 rfl (lv_at hl 0 rfl) ?_
  refine va_get (D := D) (ci := 2) (v := .int (nI q)) (C := RX2) (T := TX2) (N := 25) hx hb hW iMD hown hK hP 0 rfl rfl 3 (by decide) (hW _ tw_517) (fun _ h9 => h9) rfl dX2_close_28 ?_
  refine mv_callV (C := RX2) (As := [.int (nI 0), .int (nI q)]) (rest := []) ⟨hx, hb, hml, hown, hW⟩ (n_tree 0 q (by omega) b mem (hkc)) nE_ok (cwV 2 hW (gV tw_645 tw_647 tv_X2_tree tw_3 tw_648) rfl rfl rfl (by decide +kernel) ⟨Nat.le_of_ble_eq_true rfl, Nat.le_of_ble_eq_true rfl⟩) (va_recv hK hP (ci := 2) (q0 := 0) rfl rfl) hP hD hK hS hA hT rfl hl.1 rfl (Nat.le_of_ble_eq_true rfl) dX2_close_31 ⟨Nat.zero_le _, Nat.zero_le _⟩ (fun H locs hP hD hS => ?_)
  have hP : va_P D vwCl (wM om am cI cZ (nI 0) tp (nI q) (nI y) pv pm (nI (m_tree 0 q (b, mem)).1) (ptT q pt) wy gone oR ((m_tree 0 q (b, mem)).2)) H := hP
  have hD : va_D A (wM om am cI cZ (nI 0) tp (nI q) (nI y) pv pm (nI (m_tree 0 q (b, mem)).1) (ptT q pt) wy gone oR ((m_tree 0 q (b, mem)).2)) := hD
  refine lv_aload_n hx hb dX2_close_34 rfl (lv_at hl 0 rfl) ?_
  refine va_get (D := D) (ci := 2) (v := .ref (am 1)) (C := RX2) (T := TX2) (N := 25) hx hb hW iMD hown hK hP 0 rfl rfl 7 (by decide) (hW _ tw_521) (fun _ h9 => h9) rfl dX2_close_35 ?_
  refine lv_aload_n hx hb dX2_close_38 rfl (lv_at hl 0 rfl) ?_
  refine va_get (D := D) (ci := 2) (v := .int (nI y)) (C := RX2) (T := TX2) (N := 25) hx hb hW iMD hown hK hP 0 rfl rfl 6 (by decide) (hW _ tw_520) (fun _ h9 => h9) rfl dX2_close_39 ?_
  refine lv_aload_n hx hb dX2_close_42 rfl (lv_at hl 0 rfl) ?_
  refine va_get (D := D) (ci := 2) (v := .int (nI q)) (C := RX2) (T := TX2) (N := 25) hx hb hW iMD hown hK hP 0 rfl rfl 3 (by decide) (hW _ tw_517) (fun _ h9 => h9) rfl dX2_close_43 ?_
  refine m_st (X := wMx om am cZ (nI 0) tp (nI q) (nI y) pv pm (nI (m_tree 0 q (b, mem)).1) (ptT q pt) wy gone oR) hx hb hK hP hD hS 0 1 y rfl (by decide) (show y < 12 by omega) (by decide) dX2_close_46 (fun H locs hP hD hS => ?_)
  have hP : va_P D vwCl (wM om am cI cZ (nI 0) tp (nI q) (nI y) pv pm (nI (m_tree 0 q (b, mem)).1) (ptT q pt) wy gone oR (va_up ((m_tree 0 q (b, mem)).2) 1 (upd (((m_tree 0 q (b, mem)).2) 1) y (nI q)))) H := hP
  have hD : va_D A (wM om am cI cZ (nI 0) tp (nI q) (nI y) pv pm (nI (m_tree 0 q (b, mem)).1) (ptT q pt) wy gone oR (va_up ((m_tree 0 q (b, mem)).2) 1 (upd (((m_tree 0 q (b, mem)).2) 1) y (nI q)))) := hD
  refine lv_iconst (v := nI 0) hx hb dX2_close_47 (by decide) ?_
  refine lv_istore_n (lv' := [(1, .int (nI 0)), (0, .ref (om 0))]) hx hb dX2_close_48 rfl hl (by decide) rfl (fun ls hl => ?_)
  have hP : va_P D vwCl (wM om am cI cZ (nI 0) tp (nI q) (nI y) pv pm (nI (m_tree 0 q (b, mem)).1) (ptT q pt) wy gone oR (rcp 7 (32 * y) 2 0 0 (va_up ((m_tree 0 q (b, mem)).2) 1 (upd (((m_tree 0 q (b, mem)).2) 1) y (nI q))))) H := by rw [rcp_0]; exact hP
  have hD : va_D A (wM om am cI cZ (nI 0) tp (nI q) (nI y) pv pm (nI (m_tree 0 q (b, mem)).1) (ptT q pt) wy gone oR (rcp 7 (32 * y) 2 0 0 (va_up ((m_tree 0 q (b, mem)).2) 1 (upd (((m_tree 0 q (b, mem)).2) 1) y (nI q))))) := by rw [rcp_0]; exact hD
  exact lr 32 0 H locs ls (by omega) hP hD hS (lv_sub hl [1, 0] rfl)
set_option maxHeartbeats 800000 in
set_option maxRecDepth 100000 in
theorem n_mark_no {l : Launch} {D : va_G} {om am : Nat → Nat} {cI cZ cG : ClassId} {th tp dy pv pm by_ pt wy : Int32} {gone oR : Nat → Int32} (q : Nat) (hq : q ≤ 24) (v u : Int32) (k1 k2 : Int64) (mem : xMem) (nm : String) (hX : (x_req v (nI q)).or (x_req u (nI 32)) = some nm) : MI l nE yX2_mark (.code yX2_mark cX2_mark 8 (some .int) :: tW) ({ frames := 4, cells := 0, slots := 0, locals := 100 }) D vwCl (tC cI cZ cG) [.ref (om 0), .int v, .long k1, .long k2, .int u] (wM om am cI cZ th tp (nI q) dy pv pm by_ pt wy gone oR mem) (wM om am cI cZ (cdL [nIOB] nm) tp (nI q) dy pv pm by_ pt wy gone oR mem) (nI 0) := by
  refine MI.ofW (by decide +kernel) rfl (Nat.le_of_ble_eq_true rfl) ?_
  intro p e s m below meth c A ls hx hb hr hts hown hlk hml hA hP hK hD hT hl
  have hS : va_S A s.heap s.heap [] := va_S.rf
  have hown : s.vm.findClass RX2 = some m.cls := hown
  have hW : ∀ w ∈ tW, w.before _ s = true := fun w h => hts w (List.mem_cons_of_mem _ h)
  have hl : lv_has ls 8 [(0, .ref (om 0)), (1, .int v), (2, .long k1), (4, .long k2), (6, .int u)] := hl
  rcases x_or_some hX with hg1 | ⟨hg1, hY1⟩
  · skip
    have hn9 := x_req_some hg1
    skip
    refine lv_aload_n hx hb dX2_mark_0 rfl (lv_at hl 0 rfl) ?_
    refine lv_aload_n hx hb dX2_mark_1 rfl (lv_at hl 0 rfl) ?_
    refine lv_iload_n hx hb dX2_mark_2 rfl (lv_at hl 1 rfl) ?_
    refine mi_callV (C := RX2) (As := [.int v]) (rest := [.ref (om 0)]) ⟨hx, hb, hml, hown, hW⟩ (n_isLeaf v q (by omega) mem) nE_ok (cwV 1 hW (gV tw_676 tw_678 tv_X2_isLeaf tw_3 tw_679) rfl rfl rfl (by decide +kernel) ⟨Nat.le_of_ble_eq_true rfl, Nat.le_of_ble_eq_true rfl⟩) (va_recv hK hP (ci := 2) (q0 := 0) rfl rfl) hP hD hK hS hA hT rfl hl.1 rfl (Nat.le_of_ble_eq_true rfl) dX2_mark_3 ⟨Nat.zero_le _, Nat.zero_le _⟩ (fun H locs hP hD hS => ?_)
    refine lv_eqi (v := nI 0) (by rw [hg1]; rfl) ?_
    refine lv_if_eq (tgt := 21) hx hb dX2_mark_6 (by decide) (fun _ => ?_) (fun hq9 => absurd (by decide) hq9)
    refine lv_iconst (v := nI 0) hx hb dX2_mark_21 (by decide) ?_
    refine lv_iconst (v := nI 1) hx hb dX2_mark_22 (by decide) ?_
    refine lv_iconst (v := nI 1) hx hb dX2_mark_23 (by decide) ?_
    refine mi_callV (C := RX2) (As := [.int (nI 0), .int (nI 1), .int (nI 1)]) (rest := []) ⟨hx, hb, hml, hown, hW⟩ (n_goes (nI 0) (nI 1) (nI 1) (nI 1) (nI 0) mem (if_pos (by decide)) (by decide)) nE_ok (cwV 3 hW (gV tw_601 tw_603 tv_X2_goes tw_3 tw_604) rfl rfl rfl (by decide +kernel) ⟨Nat.le_of_ble_eq_true rfl, Nat.le_of_ble_eq_true rfl⟩) (va_recv hK hP (ci := 2) (q0 := 0) rfl rfl) hP hD hK hS hA hT rfl hl.1 rfl (Nat.le_of_ble_eq_true rfl) dX2_mark_24 ⟨Nat.zero_le _, Nat.zero_le _⟩ (fun H locs hP hD hS => ?_)
    have hP : va_P D vwCl (wM om am cI cZ (nI 1) tp (nI q) dy pv pm by_ pt wy gone oR mem) H := hP
    have hD : va_D A (wM om am cI cZ (nI 1) tp (nI q) dy pv pm by_ pt wy gone oR mem) := hD
    refine lv_if_ne (tgt := 32) hx hb dX2_mark_27 (by decide) (fun hq9 => absurd (by decide) hq9) (fun _ => ?_)
    refine lv_iconst (v := nI 0) hx hb dX2_mark_30 (by decide) ?_
    have hP : va_P D vwCl (wM om am cI cZ (cdL [nIOB] nm) tp (nI q) dy pv pm by_ pt wy gone oR mem) H := by rw [show cdL [nIOB] nm = nI 1 from by rw [hn9]; decide +kernel]; exact hP
    have hD : va_D A (wM om am cI cZ (cdL [nIOB] nm) tp (nI q) dy pv pm by_ pt wy gone oR mem) := by rw [show cdL [nIOB] nm = nI 1 from by rw [hn9]; decide +kernel]; exact hD
    exact mi_ret hx hb hr (rfl) hlk hS hP hD (rfl) dX2_mark_31
  · skip
    have hg2 := hY1
    have hn9 := x_req_some hg2
    skip
    refine lv_aload_n hx hb dX2_mark_0 rfl (lv_at hl 0 rfl) ?_
    refine lv_aload_n hx hb dX2_mark_1 rfl (lv_at hl 0 rfl) ?_
    refine lv_iload_n hx hb dX2_mark_2 rfl (lv_at hl 1 rfl) ?_
    refine mi_callV (C := RX2) (As := [.int v]) (rest := [.ref (om 0)]) ⟨hx, hb, hml, hown, hW⟩ (n_isLeaf v q (by omega) mem) nE_ok (cwV 1 hW (gV tw_676 tw_678 tv_X2_isLeaf tw_3 tw_679) rfl rfl rfl (by decide +kernel) ⟨Nat.le_of_ble_eq_true rfl, Nat.le_of_ble_eq_true rfl⟩) (va_recv hK hP (ci := 2) (q0 := 0) rfl rfl) hP hD hK hS hA hT rfl hl.1 rfl (Nat.le_of_ble_eq_true rfl) dX2_mark_3 ⟨Nat.zero_le _, Nat.zero_le _⟩ (fun H locs hP hD hS => ?_)
    refine lv_eqi (v := nI 1) (by rw [hg1]; rfl) ?_
    refine lv_if_eq (tgt := 21) hx hb dX2_mark_6 (by decide) (fun hq9 => absurd hq9 (by decide)) (fun _ => ?_)
    refine lv_iload hx hb dX2_mark_9 (lv_at hl 4 rfl) ?_
    refine mi_callS (As := [.int u]) (rest := [.ref (om 0)]) ⟨hx, hb, hml, hown, hW⟩ (n_isByte _ u) nE_ok (va_cwS 1 hW (gS tw_669 tw_670 tw_3 tw_671) rfl rfl rfl (by decide +kernel) ⟨Nat.le_of_ble_eq_true rfl, Nat.le_of_ble_eq_true rfl⟩) hP hD hK hS hA hT rfl hl.1 rfl (Nat.le_of_ble_eq_true rfl) dX2_mark_11 ⟨Nat.zero_le _, Nat.zero_le _⟩ (fun H locs hP hD hS => ?_)
    refine lv_eqi (v := nI 0) (by rw [hg2]; rfl) ?_
    refine lv_if_eq (tgt := 21) hx hb dX2_mark_14 (by decide) (fun _ => ?_) (fun hq9 => absurd (by decide) hq9)
    refine lv_iconst (v := nI 0) hx hb dX2_mark_21 (by decide) ?_
    refine lv_iconst (v := nI 1) hx hb dX2_mark_22 (by decide) ?_
    refine lv_iconst (v := nI 1) hx hb dX2_mark_23 (by decide) ?_
    refine mi_callV (C := RX2) (As := [.int (nI 0), .int (nI 1), .int (nI 1)]) (rest := []) ⟨hx, hb, hml, hown, hW⟩ (n_goes (nI 0) (nI 1) (nI 1) (nI 1) (nI 0) mem (if_pos (by decide)) (by decide)) nE_ok (cwV 3 hW (gV tw_601 tw_603 tv_X2_goes tw_3 tw_604) rfl rfl rfl (by decide +kernel) ⟨Nat.le_of_ble_eq_true rfl, Nat.le_of_ble_eq_true rfl⟩) (va_recv hK hP (ci := 2) (q0 := 0) rfl rfl) hP hD hK hS hA hT rfl hl.1 rfl (Nat.le_of_ble_eq_true rfl) dX2_mark_24 ⟨Nat.zero_le _, Nat.zero_le _⟩ (fun H locs hP hD hS => ?_)
    have hP : va_P D vwCl (wM om am cI cZ (nI 1) tp (nI q) dy pv pm by_ pt wy gone oR mem) H := hP
    have hD : va_D A (wM om am cI cZ (nI 1) tp (nI q) dy pv pm by_ pt wy gone oR mem) := hD
    refine lv_if_ne (tgt := 32) hx hb dX2_mark_27 (by decide) (fun hq9 => absurd (by decide) hq9) (fun _ => ?_)
    refine lv_iconst (v := nI 0) hx hb dX2_mark_30 (by decide) ?_
    have hP : va_P D vwCl (wM om am cI cZ (cdL [nIOB] nm) tp (nI q) dy pv pm by_ pt wy gone oR mem) H := by rw [show cdL [nIOB] nm = nI 1 from by rw [hn9]; decide +kernel]; exact hP
    have hD : va_D A (wM om am cI cZ (cdL [nIOB] nm) tp (nI q) dy pv pm by_ pt wy gone oR mem) := by rw [show cdL [nIOB] nm = nI 1 from by rw [hn9]; decide +kernel]; exact hD
    exact mi_ret hx hb hr (rfl) hlk hS hP hD (rfl) dX2_mark_31
set_option maxHeartbeats 800000 in
set_option maxRecDepth 100000 in
theorem n_mark {l : Launch} {D : va_G} {om am : Nat → Nat} {cI cZ cG : ClassId} {th tp dy pv pm by_ pt wy : Int32} {gone oR : Nat → Int32} (q d i : Nat) (hq : q ≤ 24) (hd : d < q) (hi : i < 32) (k1 k2 : Int64) (mem : xMem) (hkc : ∀ i, i < 64 → mem 13 i = kc i) : MI l nE yX2_mark (.code yX2_mark cX2_mark 8 (some .int) :: tW) ({ frames := 4, cells := 0, slots := 0, locals := 130 }) D vwCl (tC cI cZ cG) [.ref (om 0), .int (nI d), .long k1, .long k2, .int (nI i)] (wM om am cI cZ th tp (nI q) dy pv pm by_ pt wy gone oR mem) (wM om am cI cZ (nI 0) tp (nI q) dy pv pm (nI (m_mark d k1 k2 mem).1) pt wy gone oR ((m_mark d k1 k2 mem).2)) ((m_mark d k1 k2 mem).2 2 i) := by
  refine MI.ofW (by decide +kernel) rfl (Nat.le_of_ble_eq_true rfl) ?_
  intro p e s m below meth c A ls hx hb hr hts hown hlk hml hA hP hK hD hT hl
  have hS : va_S A s.heap s.heap [] := va_S.rf
  have hown : s.vm.findClass RX2 = some m.cls := hown
  have hW : ∀ w ∈ tW, w.before _ s = true := fun w h => hts w (List.mem_cons_of_mem _ h)
  have hl : lv_has ls 8 [(0, .ref (om 0)), (1, .int (nI d)), (2, .long k1), (4, .long k2), (6, .int (nI i))] := hl
  have e1 : (P_long k1 (0, mem)).1 = 8 := P_long_fst _ _ (show 0 + 8 ≤ 256 by decide)
  have e2 : (P_row 6 (32 * d) 32 (P_long k1 (0, mem))).1 = 40 := by rw [P_row_fst 6 (32 * d) 32 _ (by omega), e1]
  have e3 : (P_long k2 (0, P_rcp 9 0 2 0 (P_fin 2 (P_row 6 (32 * d) 32 (P_long k1 (0, mem)))).2)).1 = 8 := P_long_fst _ _ (show 0 + 8 ≤ 256 by decide)
  have e4 : (P_row 9 0 32 (P_long k2 (0, P_rcp 9 0 2 0 (P_fin 2 (P_row 6 (32 * d) 32 (P_long k1 (0, mem)))).2))).1 = 40 := by rw [P_row_fst 9 0 32 _ (by omega), e3]
  have hk1 : ∀ j, j < 64 → (P_row 6 (32 * d) 32 (P_long k1 (0, mem))).2 13 j = kc j := fun j hj => by rw [P_row_k (by decide), P_long_k (by decide)]; exact hkc j hj
  have hk2 : ∀ j, j < 64 → (P_row 9 0 32 (P_long k2 (0, P_rcp 9 0 2 0 (P_fin 2 (P_row 6 (32 * d) 32 (P_long k1 (0, mem)))).2))).2 13 j = kc j := fun j hj => (congrFun ((P_row_k (k := 13) (by decide) _ _ _ _).trans ((P_long_k (k := 13) (by decide) _ _).trans ((P_rcp_k (k := 13) (kd := 9) (by decide) _ _ _ _).trans (P_fin_k (k := 13) (kk := 2) (by decide) (by decide) (by decide) (by decide) _)))) j).trans (hk1 j hj)
  have lr : ∀ (kr r : Nat) (H : Heap) (locs : List Loc) (ls : Array Slot), r + kr = 32 → va_P D vwCl (wM om am cI cZ (nI 0) tp (nI q) dy pv pm (nI (P_fin 2 (P_row 6 (32 * d) 32 (P_long k1 (0, mem)))).1) pt wy gone oR (rcp 9 0 2 0 r ((P_fin 2 (P_row 6 (32 * d) 32 (P_long k1 (0, mem)))).2))) H → va_D A (wM om am cI cZ (nI 0) tp (nI q) dy pv pm (nI (P_fin 2 (P_row 6 (32 * d) 32 (P_long k1 (0, mem)))).1) pt wy gone oR (rcp 9 0 2 0 r ((P_fin 2 (P_row 6 (32 * d) 32 (P_long k1 (0, mem)))).2))) → va_S A s.heap H locs → lv_has ls 8 [(0, .ref (om 0)), (4, .long k2), (6, .int (nI i)), (7, .int (nI r))] → W p l e ({ frames := 4, cells := 0, slots := 0, locals := 130 }) s m ([.ref (om 0), .int (nI d), .long k1, .long k2, .int (nI i)] : List Value).toArray below meth c H locs 0 0 (MQ below (xQi D vwCl (wM om am cI cZ (nI 0) tp (nI q) dy pv pm (nI (m_mark d k1 k2 mem).1) pt wy gone oR ((m_mark d k1 k2 mem).2)) ((m_mark d k1 k2 mem).2 2 i) A) ([.ref (om 0), .int (nI d), .long k1, .long k2, .int (nI i)] : List Value).toArray s 0 0 A) (F0 m 60 ls []) := by
    intro kr
    induction kr with
    | zero =>
      intro r H locs ls hk hP hD hS hl
      have hr9 : r = 32 := by omega
      rw [hr9, ← P_rcp_e] at hP hD
      refine lv_iload hx hb dX2_mark_60 (lv_at hl 3 rfl) ?_
      refine lv_bipush (v := nI 32) hx hb dX2_mark_62 (by decide) ?_
      refine lv_icmp_ge (tgt := 87) hx hb dX2_mark_64 (by decide) (fun _ => ?_) (fun hq9 => absurd (nI_le (by omega) (by omega)) hq9)
      refine lv_aload_n hx hb dX2_mark_87 rfl (lv_at hl 0 rfl) ?_
      refine mv_callV (C := RX2) (As := []) (rest := []) ⟨hx, hb, hml, hown, hW⟩ (n_begin (P_rcp 9 0 2 0 ((P_fin 2 (P_row 6 (32 * d) 32 (P_long k1 (0, mem)))).2))) nE_ok (cwV 0 hW (gV tw_609 tw_611 tv_X2_begin tw_3 tw_612) rfl rfl rfl (by decide +kernel) ⟨Nat.le_of_ble_eq_true rfl, Nat.le_of_ble_eq_true rfl⟩) (va_recv hK hP (ci := 2) (q0 := 0) rfl rfl) hP hD hK hS hA hT rfl hl.1 rfl (Nat.le_of_ble_eq_true rfl) dX2_mark_88 ⟨Nat.zero_le _, Nat.zero_le _⟩ (fun H locs hP hD hS => ?_)
      have hP : va_P D vwCl (wM om am cI cZ (nI 0) tp (nI q) dy pv pm (nI 0) pt wy gone oR (P_rcp 9 0 2 0 ((P_fin 2 (P_row 6 (32 * d) 32 (P_long k1 (0, mem)))).2))) H := hP
      have hD : va_D A (wM om am cI cZ (nI 0) tp (nI q) dy pv pm (nI 0) pt wy gone oR (P_rcp 9 0 2 0 ((P_fin 2 (P_row 6 (32 * d) 32 (P_long k1 (0, mem)))).2))) := hD
      refine lv_aload_n hx hb dX2_mark_91 rfl (lv_at hl 0 rfl) ?_
      refine lv_lload hx hb dX2_mark_92 (lv_at hl 1 rfl) ?_
      refine mv_callV (C := RX2) (As := [.long k2]) (rest := []) ⟨hx, hb, hml, hown, hW⟩ (n_addLong 0 (by decide) (P_rcp 9 0 2 0 ((P_fin 2 (P_row 6 (32 * d) 32 (P_long k1 (0, mem)))).2)) k2) nE_ok (cwV 1 hW (gV tw_630 tw_632 tv_X2_addLong tw_3 tw_633) rfl rfl rfl (by decide +kernel) ⟨Nat.le_of_ble_eq_true rfl, Nat.le_of_ble_eq_true rfl⟩) (va_recv hK hP (ci := 2) (q0 := 0) rfl rfl) hP hD hK hS hA hT rfl hl.1 rfl (Nat.le_of_ble_eq_true rfl) dX2_mark_94 ⟨Nat.zero_le _, Nat.zero_le _⟩ (fun H locs hP hD hS => ?_)
      have hP : va_P D vwCl (wM om am cI cZ (nI 0) tp (nI q) dy pv pm (nI (P_long k2 (0, P_rcp 9 0 2 0 ((P_fin 2 (P_row 6 (32 * d) 32 (P_long k1 (0, mem)))).2))).1) pt wy gone oR ((P_long k2 (0, P_rcp 9 0 2 0 ((P_fin 2 (P_row 6 (32 * d) 32 (P_long k1 (0, mem)))).2))).2)) H := hP
      have hD : va_D A (wM om am cI cZ (nI 0) tp (nI q) dy pv pm (nI (P_long k2 (0, P_rcp 9 0 2 0 ((P_fin 2 (P_row 6 (32 * d) 32 (P_long k1 (0, mem)))).2))).1) pt wy gone oR ((P_long k2 (0, P_rcp 9 0 2 0 ((P_fin 2 (P_row 6 (32 * d) 32 (P_long k1 (0, mem)))).2))).2)) := hD
      refine lv_aload_n hx hb dX2_mark_97 rfl (lv_at hl 0 rfl) ?_
      refine lv_aload_n hx hb dX2_mark_98 rfl (lv_at hl 0 rfl) ?_
      refine va_get (D := D) (ci := 2) (v := .ref (am 9)) (C := RX2) (T := TX2) (N := 25) hx hb hW iMD hown hK hP 0 rfl rfl 18 (by decide) (hW _ tw_532) (fun _ h9 => h9) rfl dX2_mark_99 ?_
      refine lv_iconst (v := nI 0) hx hb dX2_mark_102 (by decide) ?_
      refine mv_callV (C := RX2) (As := [.ref (am 9), .int (nI 0)]) (rest := []) ⟨hx, hb, hml, hown, hW⟩ (n_addRow ((P_long k2 (0, P_rcp 9 0 2 0 ((P_fin 2 (P_row 6 (32 * d) 32 (P_long k1 (0, mem)))).2))).1) 9 0 (by rw [e3]; decide) (by decide) (show 0 + 32 ≤ 256 by decide) ((P_long k2 (0, P_rcp 9 0 2 0 ((P_fin 2 (P_row 6 (32 * d) 32 (P_long k1 (0, mem)))).2))).2)) nE_ok (cwV 2 hW (gV tw_657 tw_659 tv_X2_addRow tw_3 tw_660) rfl rfl rfl (by decide +kernel) ⟨Nat.le_of_ble_eq_true rfl, Nat.le_of_ble_eq_true rfl⟩) (va_recv hK hP (ci := 2) (q0 := 0) rfl rfl) hP hD hK hS hA hT rfl hl.1 rfl (Nat.le_of_ble_eq_true rfl) dX2_mark_103 ⟨Nat.zero_le _, Nat.zero_le _⟩ (fun H locs hP hD hS => ?_)
      have hP : va_P D vwCl (wM om am cI cZ (nI 0) tp (nI q) dy pv pm (nI (P_row 9 0 32 (P_long k2 (0, P_rcp 9 0 2 0 ((P_fin 2 (P_row 6 (32 * d) 32 (P_long k1 (0, mem)))).2)))).1) pt wy gone oR ((P_row 9 0 32 (P_long k2 (0, P_rcp 9 0 2 0 ((P_fin 2 (P_row 6 (32 * d) 32 (P_long k1 (0, mem)))).2)))).2)) H := hP
      have hD : va_D A (wM om am cI cZ (nI 0) tp (nI q) dy pv pm (nI (P_row 9 0 32 (P_long k2 (0, P_rcp 9 0 2 0 ((P_fin 2 (P_row 6 (32 * d) 32 (P_long k1 (0, mem)))).2)))).1) pt wy gone oR ((P_row 9 0 32 (P_long k2 (0, P_rcp 9 0 2 0 ((P_fin 2 (P_row 6 (32 * d) 32 (P_long k1 (0, mem)))).2)))).2)) := hD
      refine lv_aload_n hx hb dX2_mark_106 rfl (lv_at hl 0 rfl) ?_
      refine mv_callV (C := RX2) (As := []) (rest := []) ⟨hx, hb, hml, hown, hW⟩ (n_digest0 ((P_row 9 0 32 (P_long k2 (0, P_rcp 9 0 2 0 ((P_fin 2 (P_row 6 (32 * d) 32 (P_long k1 (0, mem)))).2)))).1) (by rw [e4]; decide) ((P_row 9 0 32 (P_long k2 (0, P_rcp 9 0 2 0 ((P_fin 2 (P_row 6 (32 * d) 32 (P_long k1 (0, mem)))).2)))).2) (hk2)) nE_ok (cwV 0 hW (gV tw_617 tw_619 tv_X2_digest0 tw_3 tw_620) rfl rfl rfl (by decide +kernel) ⟨Nat.le_of_ble_eq_true rfl, Nat.le_of_ble_eq_true rfl⟩) (va_recv hK hP (ci := 2) (q0 := 0) rfl rfl) hP hD hK hS hA hT rfl hl.1 rfl (Nat.le_of_ble_eq_true rfl) dX2_mark_107 ⟨Nat.zero_le _, Nat.zero_le _⟩ (fun H locs hP hD hS => ?_)
      have hP : va_P D vwCl (wM om am cI cZ (nI 0) tp (nI q) dy pv pm (nI (P_fin 2 (P_row 9 0 32 (P_long k2 (0, P_rcp 9 0 2 0 ((P_fin 2 (P_row 6 (32 * d) 32 (P_long k1 (0, mem)))).2))))).1) pt wy gone oR ((P_fin 2 (P_row 9 0 32 (P_long k2 (0, P_rcp 9 0 2 0 ((P_fin 2 (P_row 6 (32 * d) 32 (P_long k1 (0, mem)))).2))))).2)) H := hP
      have hD : va_D A (wM om am cI cZ (nI 0) tp (nI q) dy pv pm (nI (P_fin 2 (P_row 9 0 32 (P_long k2 (0, P_rcp 9 0 2 0 ((P_fin 2 (P_row 6 (32 * d) 32 (P_long k1 (0, mem)))).2))))).1) pt wy gone oR ((P_fin 2 (P_row 9 0 32 (P_long k2 (0, P_rcp 9 0 2 0 ((P_fin 2 (P_row 6 (32 * d) 32 (P_long k1 (0, mem)))).2))))).2)) := hD
      refine lv_aload_n hx hb dX2_mark_110 rfl (lv_at hl 0 rfl) ?_
      refine va_get (D := D) (ci := 2) (v := .ref (am 2)) (C := RX2) (T := TX2) (N := 25) hx hb hW iMD hown hK hP 0 rfl rfl 14 (by decide) (hW _ tw_528) (fun _ h9 => h9) rfl dX2_mark_111 ?_
      refine lv_iload hx hb dX2_mark_114 (lv_at hl 2 rfl) ?_
      refine m_ld (X := wMx om am cZ (nI 0) tp (nI q) dy pv pm (nI (P_fin 2 (P_row 9 0 32 (P_long k2 (0, P_rcp 9 0 2 0 ((P_fin 2 (P_row 6 (32 * d) 32 (P_long k1 (0, mem)))).2))))).1) pt wy gone oR) hx hb hK hP 0 2 i rfl (by decide) (show i < 32 by omega) (by decide) dX2_mark_116 ?_
      have hP : va_P D vwCl (wM om am cI cZ (nI 0) tp (nI q) dy pv pm (nI (m_mark d k1 k2 mem).1) pt wy gone oR ((m_mark d k1 k2 mem).2)) H := by exact hP
      have hD : va_D A (wM om am cI cZ (nI 0) tp (nI q) dy pv pm (nI (m_mark d k1 k2 mem).1) pt wy gone oR ((m_mark d k1 k2 mem).2)) := by exact hD
      exact mi_ret hx hb hr (rfl) hlk hS hP hD (rfl) dX2_mark_117
    | succ kr ihkr =>
      intro r H locs ls hk hP hD hS hl
      refine lv_iload hx hb dX2_mark_60 (lv_at hl 3 rfl) ?_
      refine lv_bipush (v := nI 32) hx hb dX2_mark_62 (by decide) ?_
      refine lv_icmp_ge (tgt := 87) hx hb dX2_mark_64 (by decide) (fun hq9 => absurd hq9 (nI_ge (by omega) (by decide))) (fun _ => ?_)
      refine lv_aload_n hx hb dX2_mark_67 rfl (lv_at hl 0 rfl) ?_
      refine va_get (D := D) (ci := 2) (v := .ref (am 9)) (C := RX2) (T := TX2) (N := 25) hx hb hW iMD hown hK hP 0 rfl rfl 18 (by decide) (hW _ tw_532) (fun _ h9 => h9) rfl dX2_mark_68 ?_
      refine lv_iload hx hb dX2_mark_71 (lv_at hl 3 rfl) ?_
      refine lv_aload_n hx hb dX2_mark_73 rfl (lv_at hl 0 rfl) ?_
      refine va_get (D := D) (ci := 2) (v := .ref (am 2)) (C := RX2) (T := TX2) (N := 25) hx hb hW iMD hown hK hP 0 rfl rfl 14 (by decide) (hW _ tw_528) (fun _ h9 => h9) rfl dX2_mark_74 ?_
      refine lv_iload hx hb dX2_mark_77 (lv_at hl 3 rfl) ?_
      refine m_ld (X := wMx om am cZ (nI 0) tp (nI q) dy pv pm (nI (P_fin 2 (P_row 6 (32 * d) 32 (P_long k1 (0, mem)))).1) pt wy gone oR) hx hb hK hP 0 2 r rfl (by decide) (show r < 32 by omega) (by decide) dX2_mark_79 ?_
      refine m_st (X := wMx om am cZ (nI 0) tp (nI q) dy pv pm (nI (P_fin 2 (P_row 6 (32 * d) 32 (P_long k1 (0, mem)))).1) pt wy gone oR) hx hb hK hP hD hS 0 9 r rfl (by decide) (show r < 256 by omega) (by decide) dX2_mark_80 (fun H locs hP hD hS => ?_)
      have hP : va_P D vwCl (wM om am cI cZ (nI 0) tp (nI q) dy pv pm (nI (P_fin 2 (P_row 6 (32 * d) 32 (P_long k1 (0, mem)))).1) pt wy gone oR (rcp 9 0 2 0 (r + 1) ((P_fin 2 (P_row 6 (32 * d) 32 (P_long k1 (0, mem)))).2))) H := by rw [rcp_s, Nat.zero_add]; exact hP
      have hD : va_D A (wM om am cI cZ (nI 0) tp (nI q) dy pv pm (nI (P_fin 2 (P_row 6 (32 * d) 32 (P_long k1 (0, mem)))).1) pt wy gone oR (rcp 9 0 2 0 (r + 1) ((P_fin 2 (P_row 6 (32 * d) 32 (P_long k1 (0, mem)))).2))) := by rw [rcp_s, Nat.zero_add]; exact hD
      refine lv_iinc (v := nI (r + 1)) (lv' := [(7, .int (nI (r + 1))), (0, .ref (om 0)), (4, .long k2), (6, .int (nI i))]) hx hb dX2_mark_81 hl (k := 3) rfl (nI_1 _) (by decide) rfl (fun ls hl => ?_)
      refine lv_goto (tgt := 60) hx hb dX2_mark_84 (by decide) ?_
      exact ihkr (r + 1) H locs ls (by omega) hP hD hS (lv_sub hl [1, 2, 3, 0] rfl)
  refine lv_aload_n hx hb dX2_mark_0 rfl (lv_at hl 0 rfl) ?_
  refine lv_aload_n hx hb dX2_mark_1 rfl (lv_at hl 0 rfl) ?_
  refine lv_iload_n hx hb dX2_mark_2 rfl (lv_at hl 1 rfl) ?_
  refine mi_callV (C := RX2) (As := [.int (nI d)]) (rest := [.ref (om 0)]) ⟨hx, hb, hml, hown, hW⟩ (n_isLeaf (nI d) q (by omega) mem) nE_ok (cwV 1 hW (gV tw_676 tw_678 tv_X2_isLeaf tw_3 tw_679) rfl rfl rfl (by decide +kernel) ⟨Nat.le_of_ble_eq_true rfl, Nat.le_of_ble_eq_true rfl⟩) (va_recv hK hP (ci := 2) (q0 := 0) rfl rfl) hP hD hK hS hA hT rfl hl.1 rfl (Nat.le_of_ble_eq_true rfl) dX2_mark_3 ⟨Nat.zero_le _, Nat.zero_le _⟩ (fun H locs hP hD hS => ?_)
  refine lv_eqi (v := nI 1) (by rw [x_req_nat hd (by omega)]; rfl) ?_
  refine lv_if_eq (tgt := 21) hx hb dX2_mark_6 (by decide) (fun hq9 => absurd hq9 (by decide)) (fun _ => ?_)
  refine lv_iload hx hb dX2_mark_9 (lv_at hl 4 rfl) ?_
  refine mi_callS (As := [.int (nI i)]) (rest := [.ref (om 0)]) ⟨hx, hb, hml, hown, hW⟩ (n_isByte _ (nI i)) nE_ok (va_cwS 1 hW (gS tw_669 tw_670 tw_3 tw_671) rfl rfl rfl (by decide +kernel) ⟨Nat.le_of_ble_eq_true rfl, Nat.le_of_ble_eq_true rfl⟩) hP hD hK hS hA hT rfl hl.1 rfl (Nat.le_of_ble_eq_true rfl) dX2_mark_11 ⟨Nat.zero_le _, Nat.zero_le _⟩ (fun H locs hP hD hS => ?_)
  refine lv_eqi (v := nI 1) (by rw [x_req_nat hi (by decide)]; rfl) ?_
  refine lv_if_eq (tgt := 21) hx hb dX2_mark_14 (by decide) (fun hq9 => absurd hq9 (by decide)) (fun _ => ?_)
  refine lv_iconst (v := nI 1) hx hb dX2_mark_17 (by decide) ?_
  refine lv_goto (tgt := 22) hx hb dX2_mark_18 (by decide) ?_
  refine lv_iconst (v := nI 1) hx hb dX2_mark_22 (by decide) ?_
  refine lv_iconst (v := nI 1) hx hb dX2_mark_23 (by decide) ?_
  refine mi_callV (C := RX2) (As := [.int (nI 1), .int (nI 1), .int (nI 1)]) (rest := []) ⟨hx, hb, hml, hown, hW⟩ (n_goes (nI 1) (nI 1) (nI 1) (nI 0) (nI 1) mem ((if_neg (by decide)).trans ((if_neg (by decide)).trans (if_neg (by decide)))) (by decide)) nE_ok (cwV 3 hW (gV tw_601 tw_603 tv_X2_goes tw_3 tw_604) rfl rfl rfl (by decide +kernel) ⟨Nat.le_of_ble_eq_true rfl, Nat.le_of_ble_eq_true rfl⟩) (va_recv hK hP (ci := 2) (q0 := 0) rfl rfl) hP hD hK hS hA hT rfl hl.1 rfl (Nat.le_of_ble_eq_true rfl) dX2_mark_24 ⟨Nat.zero_le _, Nat.zero_le _⟩ (fun H locs hP hD hS => ?_)
  have hP : va_P D vwCl (wM om am cI cZ (nI 0) tp (nI q) dy pv pm by_ pt wy gone oR mem) H := hP
  have hD : va_D A (wM om am cI cZ (nI 0) tp (nI q) dy pv pm by_ pt wy gone oR mem) := hD
  refine lv_if_ne (tgt := 32) hx hb dX2_mark_27 (by decide) (fun _ => ?_) (fun hq9 => absurd hq9 (by decide))
  refine lv_aload_n hx hb dX2_mark_32 rfl (lv_at hl 0 rfl) ?_
  refine mv_callV (C := RX2) (As := []) (rest := []) ⟨hx, hb, hml, hown, hW⟩ (n_begin mem) nE_ok (cwV 0 hW (gV tw_609 tw_611 tv_X2_begin tw_3 tw_612) rfl rfl rfl (by decide +kernel) ⟨Nat.le_of_ble_eq_true rfl, Nat.le_of_ble_eq_true rfl⟩) (va_recv hK hP (ci := 2) (q0 := 0) rfl rfl) hP hD hK hS hA hT rfl hl.1 rfl (Nat.le_of_ble_eq_true rfl) dX2_mark_33 ⟨Nat.zero_le _, Nat.zero_le _⟩ (fun H locs hP hD hS => ?_)
  have hP : va_P D vwCl (wM om am cI cZ (nI 0) tp (nI q) dy pv pm (nI 0) pt wy gone oR mem) H := hP
  have hD : va_D A (wM om am cI cZ (nI 0) tp (nI q) dy pv pm (nI 0) pt wy gone oR mem) := hD
  refine lv_aload_n hx hb dX2_mark_36 rfl (lv_at hl 0 rfl) ?_
  refine lv_lload_n hx hb dX2_mark_37 rfl (lv_at hl 2 rfl) ?_
  refine mv_callV (C := RX2) (As := [.long k1]) (rest := []) ⟨hx, hb, hml, hown, hW⟩ (n_addLong 0 (by decide) mem k1) nE_ok (cwV 1 hW (gV tw_630 tw_632 tv_X2_addLong tw_3 tw_633) rfl rfl rfl (by decide +kernel) ⟨Nat.le_of_ble_eq_true rfl, Nat.le_of_ble_eq_true rfl⟩) (va_recv hK hP (ci := 2) (q0 := 0) rfl rfl) hP hD hK hS hA hT rfl hl.1 rfl (Nat.le_of_ble_eq_true rfl) dX2_mark_38 ⟨Nat.zero_le _, Nat.zero_le _⟩ (fun H locs hP hD hS => ?_)
  have hP : va_P D vwCl (wM om am cI cZ (nI 0) tp (nI q) dy pv pm (nI (P_long k1 (0, mem)).1) pt wy gone oR ((P_long k1 (0, mem)).2)) H := hP
  have hD : va_D A (wM om am cI cZ (nI 0) tp (nI q) dy pv pm (nI (P_long k1 (0, mem)).1) pt wy gone oR ((P_long k1 (0, mem)).2)) := hD
  refine lv_aload_n hx hb dX2_mark_41 rfl (lv_at hl 0 rfl) ?_
  refine lv_aload_n hx hb dX2_mark_42 rfl (lv_at hl 0 rfl) ?_
  refine va_get (D := D) (ci := 2) (v := .ref (am 6)) (C := RX2) (T := TX2) (N := 25) hx hb hW iMD hown hK hP 0 rfl rfl 4 (by decide) (hW _ tw_518) (fun _ h9 => h9) rfl dX2_mark_43 ?_
  refine lv_bipush (v := nI 32) hx hb dX2_mark_46 (by decide) ?_
  refine lv_iload_n hx hb dX2_mark_48 rfl (lv_at hl 1 rfl) ?_
  refine lv_imul hx hb dX2_mark_49 ?_
  refine lv_eqi (v := nI (32 * d)) (pk_mul _ _) ?_
  refine mv_callV (C := RX2) (As := [.ref (am 6), .int (nI (32 * d))]) (rest := []) ⟨hx, hb, hml, hown, hW⟩ (n_addRow ((P_long k1 (0, mem)).1) 6 (32 * d) (by rw [e1]; decide) (by decide) (show 32 * d + 32 ≤ 768 by omega) ((P_long k1 (0, mem)).2)) nE_ok (cwV 2 hW (gV tw_657 tw_659 tv_X2_addRow tw_3 tw_660) rfl rfl rfl (by decide +kernel) ⟨Nat.le_of_ble_eq_true rfl, Nat.le_of_ble_eq_true rfl⟩) (va_recv hK hP (ci := 2) (q0 := 0) rfl rfl) hP hD hK hS hA hT rfl hl.1 rfl (Nat.le_of_ble_eq_true rfl) dX2_mark_50 ⟨Nat.zero_le _, Nat.zero_le _⟩ (fun H locs hP hD hS => ?_)
  have hP : va_P D vwCl (wM om am cI cZ (nI 0) tp (nI q) dy pv pm (nI (P_row 6 (32 * d) 32 (P_long k1 (0, mem))).1) pt wy gone oR ((P_row 6 (32 * d) 32 (P_long k1 (0, mem))).2)) H := hP
  have hD : va_D A (wM om am cI cZ (nI 0) tp (nI q) dy pv pm (nI (P_row 6 (32 * d) 32 (P_long k1 (0, mem))).1) pt wy gone oR ((P_row 6 (32 * d) 32 (P_long k1 (0, mem))).2)) := hD
  refine lv_aload_n hx hb dX2_mark_53 rfl (lv_at hl 0 rfl) ?_
  refine mv_callV (C := RX2) (As := []) (rest := []) ⟨hx, hb, hml, hown, hW⟩ (n_digest0 ((P_row 6 (32 * d) 32 (P_long k1 (0, mem))).1) (by rw [e2]; decide) ((P_row 6 (32 * d) 32 (P_long k1 (0, mem))).2) (hk1)) nE_ok (cwV 0 hW (gV tw_617 tw_619 tv_X2_digest0 tw_3 tw_620) rfl rfl rfl (by decide +kernel) ⟨Nat.le_of_ble_eq_true rfl, Nat.le_of_ble_eq_true rfl⟩) (va_recv hK hP (ci := 2) (q0 := 0) rfl rfl) hP hD hK hS hA hT rfl hl.1 rfl (Nat.le_of_ble_eq_true rfl) dX2_mark_54 ⟨Nat.zero_le _, Nat.zero_le _⟩ (fun H locs hP hD hS => ?_)
  have hP : va_P D vwCl (wM om am cI cZ (nI 0) tp (nI q) dy pv pm (nI (P_fin 2 (P_row 6 (32 * d) 32 (P_long k1 (0, mem)))).1) pt wy gone oR ((P_fin 2 (P_row 6 (32 * d) 32 (P_long k1 (0, mem)))).2)) H := hP
  have hD : va_D A (wM om am cI cZ (nI 0) tp (nI q) dy pv pm (nI (P_fin 2 (P_row 6 (32 * d) 32 (P_long k1 (0, mem)))).1) pt wy gone oR ((P_fin 2 (P_row 6 (32 * d) 32 (P_long k1 (0, mem)))).2)) := hD
  refine lv_iconst (v := nI 0) hx hb dX2_mark_57 (by decide) ?_
  refine lv_istore (lv' := [(7, .int (nI 0)), (0, .ref (om 0)), (1, .int (nI d)), (2, .long k1), (4, .long k2), (6, .int (nI i))]) hx hb dX2_mark_58 hl (by decide) rfl (fun ls hl => ?_)
  have hP : va_P D vwCl (wM om am cI cZ (nI 0) tp (nI q) dy pv pm (nI (P_fin 2 (P_row 6 (32 * d) 32 (P_long k1 (0, mem)))).1) pt wy gone oR (rcp 9 0 2 0 0 ((P_fin 2 (P_row 6 (32 * d) 32 (P_long k1 (0, mem)))).2))) H := by rw [rcp_0]; exact hP
  have hD : va_D A (wM om am cI cZ (nI 0) tp (nI q) dy pv pm (nI (P_fin 2 (P_row 6 (32 * d) 32 (P_long k1 (0, mem)))).1) pt wy gone oR (rcp 9 0 2 0 0 ((P_fin 2 (P_row 6 (32 * d) 32 (P_long k1 (0, mem)))).2))) := by rw [rcp_0]; exact hD
  exact lr 32 0 H locs ls (by omega) hP hD hS (lv_sub hl [1, 4, 5, 0] rfl)
set_option maxHeartbeats 800000 in
set_option maxRecDepth 100000 in
theorem n_withdraw_no {l : Launch} {D : va_G} {om am : Nat → Nat} {cI cZ cG : ClassId} {th tp dy pv pm by_ pt wy : Int32} {gone oR : Nat → Int32} (q : Nat) (hq : q ≤ 24) (v : Int32) (mem : xMem) (nm : String) (hX : (x_req v (nI q)).or (x_if (¬ gone (tn v) = 0) nUOE) = some nm) : MI l nE yX2_withdraw (.code yX2_withdraw cX2_withdraw 5 (some .int) :: tW) ({ frames := 4, cells := 0, slots := 0, locals := 100 }) D vwCl (tC cI cZ cG) [.ref (om 0), .int v] (wM om am cI cZ th tp (nI q) dy pv pm by_ pt wy gone oR mem) (wM om am cI cZ (cdL [nIOB, nUOE] nm) tp (nI q) dy pv pm by_ pt wy gone oR mem) (nI 0) := by
  refine MI.ofW (by decide +kernel) rfl (Nat.le_of_ble_eq_true rfl) ?_
  intro p e s m below meth c A ls hx hb hr hts hown hlk hml hA hP hK hD hT hl
  have hS : va_S A s.heap s.heap [] := va_S.rf
  have hown : s.vm.findClass RX2 = some m.cls := hown
  have hW : ∀ w ∈ tW, w.before _ s = true := fun w h => hts w (List.mem_cons_of_mem _ h)
  have hl : lv_has ls 5 [(0, .ref (om 0)), (1, .int v)] := hl
  rcases x_or_some hX with hg1 | ⟨hg1, hY1⟩
  · skip
    have hn9 := x_req_some hg1
    skip
    refine lv_aload_n hx hb dX2_withdraw_0 rfl (lv_at hl 0 rfl) ?_
    refine lv_iload_n hx hb dX2_withdraw_1 rfl (lv_at hl 1 rfl) ?_
    refine mi_callV (C := RX2) (As := [.int v]) (rest := []) ⟨hx, hb, hml, hown, hW⟩ (n_isLeaf v q (by omega) mem) nE_ok (cwV 1 hW (gV tw_676 tw_678 tv_X2_isLeaf tw_3 tw_679) rfl rfl rfl (by decide +kernel) ⟨Nat.le_of_ble_eq_true rfl, Nat.le_of_ble_eq_true rfl⟩) (va_recv hK hP (ci := 2) (q0 := 0) rfl rfl) hP hD hK hS hA hT rfl hl.1 rfl (Nat.le_of_ble_eq_true rfl) dX2_withdraw_2 ⟨Nat.zero_le _, Nat.zero_le _⟩ (fun H locs hP hD hS => ?_)
    refine lv_eqi (v := nI 0) (by rw [hg1]; rfl) ?_
    refine lv_istore_n (lv' := [(2, .int (nI 0)), (0, .ref (om 0)), (1, .int v)]) hx hb dX2_withdraw_5 rfl hl (by decide) rfl (fun ls hl => ?_)
    refine lv_aload_n hx hb dX2_withdraw_6 rfl (lv_at hl 1 rfl) ?_
    refine lv_iload_n hx hb dX2_withdraw_7 rfl (lv_at hl 0 rfl) ?_
    refine lv_iload_n hx hb dX2_withdraw_8 rfl (lv_at hl 0 rfl) ?_
    refine lv_if_eq (tgt := 25) hx hb dX2_withdraw_9 (by decide) (fun _ => ?_) (fun hq9 => absurd (by decide) hq9)
    refine lv_iconst (v := nI 0) hx hb dX2_withdraw_25 (by decide) ?_
    refine lv_iconst (v := nI 1) hx hb dX2_withdraw_26 (by decide) ?_
    refine mi_callV (C := RX2) (As := [.int (nI 0), .int (nI 0), .int (nI 1)]) (rest := []) ⟨hx, hb, hml, hown, hW⟩ (n_goes (nI 0) (nI 0) (nI 1) (nI 1) (nI 0) mem (if_pos (by decide)) (by decide)) nE_ok (cwV 3 hW (gV tw_601 tw_603 tv_X2_goes tw_3 tw_604) rfl rfl rfl (by decide +kernel) ⟨Nat.le_of_ble_eq_true rfl, Nat.le_of_ble_eq_true rfl⟩) (va_recv hK hP (ci := 2) (q0 := 0) rfl rfl) hP hD hK hS hA hT rfl hl.1 rfl (Nat.le_of_ble_eq_true rfl) dX2_withdraw_27 ⟨Nat.zero_le _, Nat.zero_le _⟩ (fun H locs hP hD hS => ?_)
    have hP : va_P D vwCl (wM om am cI cZ (nI 1) tp (nI q) dy pv pm by_ pt wy gone oR mem) H := hP
    have hD : va_D A (wM om am cI cZ (nI 1) tp (nI q) dy pv pm by_ pt wy gone oR mem) := hD
    refine lv_if_ne (tgt := 35) hx hb dX2_withdraw_30 (by decide) (fun hq9 => absurd (by decide) hq9) (fun _ => ?_)
    refine lv_iconst (v := nI 0) hx hb dX2_withdraw_33 (by decide) ?_
    have hP : va_P D vwCl (wM om am cI cZ (cdL [nIOB, nUOE] nm) tp (nI q) dy pv pm by_ pt wy gone oR mem) H := by rw [show cdL [nIOB, nUOE] nm = nI 1 from by rw [hn9]; decide +kernel]; exact hP
    have hD : va_D A (wM om am cI cZ (cdL [nIOB, nUOE] nm) tp (nI q) dy pv pm by_ pt wy gone oR mem) := by rw [show cdL [nIOB, nUOE] nm = nI 1 from by rw [hn9]; decide +kernel]; exact hD
    exact mi_ret hx hb hr (rfl) hlk hS hP hD (rfl) dX2_withdraw_34
  · skip
    have hg2 := hY1
    obtain ⟨hn9, hc9⟩ := x_if_some hg2
    skip
    obtain ⟨d, hd, rfl⟩ := x_req_none (by omega) hg1
    rw [show tn (nI d) = d from nI_clamp (by omega)] at hc9
    refine lv_aload_n hx hb dX2_withdraw_0 rfl (lv_at hl 0 rfl) ?_
    refine lv_iload_n hx hb dX2_withdraw_1 rfl (lv_at hl 1 rfl) ?_
    refine mi_callV (C := RX2) (As := [.int (nI d)]) (rest := []) ⟨hx, hb, hml, hown, hW⟩ (n_isLeaf (nI d) q (by omega) mem) nE_ok (cwV 1 hW (gV tw_676 tw_678 tv_X2_isLeaf tw_3 tw_679) rfl rfl rfl (by decide +kernel) ⟨Nat.le_of_ble_eq_true rfl, Nat.le_of_ble_eq_true rfl⟩) (va_recv hK hP (ci := 2) (q0 := 0) rfl rfl) hP hD hK hS hA hT rfl hl.1 rfl (Nat.le_of_ble_eq_true rfl) dX2_withdraw_2 ⟨Nat.zero_le _, Nat.zero_le _⟩ (fun H locs hP hD hS => ?_)
    refine lv_eqi (v := nI 1) (by rw [hg1]; rfl) ?_
    refine lv_istore_n (lv' := [(2, .int (nI 1)), (0, .ref (om 0)), (1, .int (nI d))]) hx hb dX2_withdraw_5 rfl hl (by decide) rfl (fun ls hl => ?_)
    refine lv_aload_n hx hb dX2_withdraw_6 rfl (lv_at hl 1 rfl) ?_
    refine lv_iload_n hx hb dX2_withdraw_7 rfl (lv_at hl 0 rfl) ?_
    refine lv_iload_n hx hb dX2_withdraw_8 rfl (lv_at hl 0 rfl) ?_
    refine lv_if_eq (tgt := 25) hx hb dX2_withdraw_9 (by decide) (fun hq9 => absurd hq9 (by decide)) (fun _ => ?_)
    refine lv_aload_n hx hb dX2_withdraw_12 rfl (lv_at hl 1 rfl) ?_
    refine va_get (D := D) (ci := 2) (v := .ref (om 1)) (C := RX2) (T := TX2) (N := 25) hx hb hW iMD hown hK hP 0 rfl rfl 5 (by decide) (hW _ tw_519) (fun _ h9 => h9) rfl dX2_withdraw_13 ?_
    refine lv_iload_n hx hb dX2_withdraw_16 rfl (lv_at hl 2 rfl) ?_
    refine m_zld hx hb hK hP 1 1 d rfl rfl (by omega) (by decide) dX2_withdraw_17 ?_
    refine lv_if_ne (tgt := 25) hx hb dX2_withdraw_18 (by decide) (fun _ => ?_) (fun hq9 => absurd hq9 (hc9))
    refine lv_iconst (v := nI 0) hx hb dX2_withdraw_25 (by decide) ?_
    refine lv_iconst (v := nI 1) hx hb dX2_withdraw_26 (by decide) ?_
    refine mi_callV (C := RX2) (As := [.int (nI 1), .int (nI 0), .int (nI 1)]) (rest := []) ⟨hx, hb, hml, hown, hW⟩ (n_goes (nI 1) (nI 0) (nI 1) (nI 2) (nI 0) mem ((if_neg (by decide)).trans (if_pos (by decide))) (by decide)) nE_ok (cwV 3 hW (gV tw_601 tw_603 tv_X2_goes tw_3 tw_604) rfl rfl rfl (by decide +kernel) ⟨Nat.le_of_ble_eq_true rfl, Nat.le_of_ble_eq_true rfl⟩) (va_recv hK hP (ci := 2) (q0 := 0) rfl rfl) hP hD hK hS hA hT rfl hl.1 rfl (Nat.le_of_ble_eq_true rfl) dX2_withdraw_27 ⟨Nat.zero_le _, Nat.zero_le _⟩ (fun H locs hP hD hS => ?_)
    have hP : va_P D vwCl (wM om am cI cZ (nI 2) tp (nI q) dy pv pm by_ pt wy gone oR mem) H := hP
    have hD : va_D A (wM om am cI cZ (nI 2) tp (nI q) dy pv pm by_ pt wy gone oR mem) := hD
    refine lv_if_ne (tgt := 35) hx hb dX2_withdraw_30 (by decide) (fun hq9 => absurd (by decide) hq9) (fun _ => ?_)
    refine lv_iconst (v := nI 0) hx hb dX2_withdraw_33 (by decide) ?_
    have hP : va_P D vwCl (wM om am cI cZ (cdL [nIOB, nUOE] nm) tp (nI q) dy pv pm by_ pt wy gone oR mem) H := by rw [show cdL [nIOB, nUOE] nm = nI 2 from by rw [hn9]; decide +kernel]; exact hP
    have hD : va_D A (wM om am cI cZ (cdL [nIOB, nUOE] nm) tp (nI q) dy pv pm by_ pt wy gone oR mem) := by rw [show cdL [nIOB, nUOE] nm = nI 2 from by rw [hn9]; decide +kernel]; exact hD
    exact mi_ret hx hb hr (rfl) hlk hS hP hD (rfl) dX2_withdraw_34
set_option maxHeartbeats 800000 in
set_option maxRecDepth 100000 in
theorem n_withdraw {l : Launch} {D : va_G} {om am : Nat → Nat} {cI cZ cG : ClassId} {th tp dy pv pm by_ pt wy : Int32} {gone oR : Nat → Int32} (q d : Nat) (hq : q ≤ 24) (hd : d < q) (hg : gone d = 0) (mem : xMem) : MI l nE yX2_withdraw (.code yX2_withdraw cX2_withdraw 5 (some .int) :: tW) ({ frames := 4, cells := 0, slots := 0, locals := 100 }) D vwCl (tC cI cZ cG) [.ref (om 0), .int (nI d)] (wM om am cI cZ th tp (nI q) dy pv pm by_ pt wy gone oR mem) (wM om am cI cZ (nI 0) tp (nI q) dy pv pm by_ pt wy (upd gone d (nI 1)) oR mem) (nI (wcn (upd gone d (nI 1)) q)) := by
  refine MI.ofW (by decide +kernel) rfl (Nat.le_of_ble_eq_true rfl) ?_
  intro p e s m below meth c A ls hx hb hr hts hown hlk hml hA hP hK hD hT hl
  have hS : va_S A s.heap s.heap [] := va_S.rf
  have hown : s.vm.findClass RX2 = some m.cls := hown
  have hW : ∀ w ∈ tW, w.before _ s = true := fun w h => hts w (List.mem_cons_of_mem _ h)
  have hl : lv_has ls 5 [(0, .ref (om 0)), (1, .int (nI d))] := hl
  have lo : ∀ (k i : Nat) (H : Heap) (locs : List Loc) (ls : Array Slot), i + k = q → va_P D vwCl (wM om am cI cZ (nI 0) tp (nI q) dy pv pm by_ pt wy (upd gone d (nI 1)) oR mem) H → va_D A (wM om am cI cZ (nI 0) tp (nI q) dy pv pm by_ pt wy (upd gone d (nI 1)) oR mem) → va_S A s.heap H locs → lv_has ls 5 [(0, .ref (om 0)), (3, .int (nI (wcn (upd gone d (nI 1)) i))), (4, .int (nI i))] → W p l e ({ frames := 4, cells := 0, slots := 0, locals := 100 }) s m ([.ref (om 0), .int (nI d)] : List Value).toArray below meth c H locs 0 0 (MQ below (xQi D vwCl (wM om am cI cZ (nI 0) tp (nI q) dy pv pm by_ pt wy (upd gone d (nI 1)) oR mem) (nI (wcn (upd gone d (nI 1)) q)) A) ([.ref (om 0), .int (nI d)] : List Value).toArray s 0 0 A) (F0 m 47 ls []) := by
    intro k
    induction k with
    | zero =>
      intro i H locs ls hk hP hD hS hl
      have hk9 : i = q := by omega
      refine lv_iload hx hb dX2_withdraw_47 (lv_at hl 2 rfl) ?_
      refine lv_aload_n hx hb dX2_withdraw_49 rfl (lv_at hl 0 rfl) ?_
      refine va_get (D := D) (ci := 2) (v := .int (nI q)) (C := RX2) (T := TX2) (N := 25) hx hb hW iMD hown hK hP 0 rfl rfl 3 (by decide) (hW _ tw_517) (fun _ h9 => h9) rfl dX2_withdraw_50 ?_
      refine lv_icmp_ge (tgt := 75) hx hb dX2_withdraw_53 (by decide) (fun _ => ?_) (fun hq9 => absurd (nI_le (by omega) (by omega)) hq9)
      refine lv_iload_n hx hb dX2_withdraw_75 rfl (lv_at hl 1 rfl) ?_
      have hP : va_P D vwCl (wM om am cI cZ (nI 0) tp (nI q) dy pv pm by_ pt wy (upd gone d (nI 1)) oR mem) H := by exact hP
      have hD : va_D A (wM om am cI cZ (nI 0) tp (nI q) dy pv pm by_ pt wy (upd gone d (nI 1)) oR mem) := by exact hD
      exact mi_ret hx hb hr (rfl) hlk hS hP hD (by rw [hk9]) dX2_withdraw_76
    | succ k ih =>
      intro i H locs ls hk hP hD hS hl
      refine lv_iload hx hb dX2_withdraw_47 (lv_at hl 2 rfl) ?_
      refine lv_aload_n hx hb dX2_withdraw_49 rfl (lv_at hl 0 rfl) ?_
      refine va_get (D := D) (ci := 2) (v := .int (nI q)) (C := RX2) (T := TX2) (N := 25) hx hb hW iMD hown hK hP 0 rfl rfl 3 (by decide) (hW _ tw_517) (fun _ h9 => h9) rfl dX2_withdraw_50 ?_
      refine lv_icmp_ge (tgt := 75) hx hb dX2_withdraw_53 (by decide) (fun hq9 => absurd hq9 (nI_ge (by omega) (by omega))) (fun _ => ?_)
      refine lv_aload_n hx hb dX2_withdraw_56 rfl (lv_at hl 0 rfl) ?_
      refine va_get (D := D) (ci := 2) (v := .ref (om 1)) (C := RX2) (T := TX2) (N := 25) hx hb hW iMD hown hK hP 0 rfl rfl 5 (by decide) (hW _ tw_519) (fun _ h9 => h9) rfl dX2_withdraw_57 ?_
      refine lv_iload hx hb dX2_withdraw_60 (lv_at hl 2 rfl) ?_
      refine m_zld hx hb hK hP 1 1 i rfl rfl (by omega) (by decide) dX2_withdraw_62 ?_
      refine lv_if_eq (tgt := 69) hx hb dX2_withdraw_63 (by decide) (fun hz => ?_) (fun hz => ?_)
      · have e1 : wcn (upd gone d (nI 1)) (i + 1) = wcn (upd gone d (nI 1)) i := if_pos hz
        refine lv_iinc (v := nI (i + 1)) (lv' := [(4, .int (nI (i + 1))), (0, .ref (om 0)), (3, .int (nI (wcn (upd gone d (nI 1)) i)))]) hx hb dX2_withdraw_69 hl (k := 2) rfl (nI_1 _) (by decide) rfl (fun ls hl => ?_)
        refine lv_goto (tgt := 47) hx hb dX2_withdraw_72 (by decide) ?_
        have hl := lv_sub hl [1, 2, 0] rfl
        rw [← e1] at hl
        exact ih (i + 1) H locs ls (by omega) hP hD hS hl
      · have e1 : wcn (upd gone d (nI 1)) (i + 1) = wcn (upd gone d (nI 1)) i + 1 := if_neg hz
        refine lv_iinc (v := nI (wcn (upd gone d (nI 1)) i + 1)) (lv' := [(3, .int (nI (wcn (upd gone d (nI 1)) i + 1))), (0, .ref (om 0)), (4, .int (nI i))]) hx hb dX2_withdraw_66 hl (k := 1) rfl (nI_1 _) (by decide) rfl (fun ls hl => ?_)
        refine lv_iinc (v := nI (i + 1)) (lv' := [(4, .int (nI (i + 1))), (3, .int (nI (wcn (upd gone d (nI 1)) i + 1))), (0, .ref (om 0))]) hx hb dX2_withdraw_69 hl (k := 2) rfl (nI_1 _) (by decide) rfl (fun ls hl => ?_)
        refine lv_goto (tgt := 47) hx hb dX2_withdraw_72 (by decide) ?_
        have hl := lv_sub hl [2, 1, 0] rfl
        rw [← e1] at hl
        exact ih (i + 1) H locs ls (by omega) hP hD hS hl
  refine lv_aload_n hx hb dX2_withdraw_0 rfl (lv_at hl 0 rfl) ?_
  refine lv_iload_n hx hb dX2_withdraw_1 rfl (lv_at hl 1 rfl) ?_
  refine mi_callV (C := RX2) (As := [.int (nI d)]) (rest := []) ⟨hx, hb, hml, hown, hW⟩ (n_isLeaf (nI d) q (by omega) mem) nE_ok (cwV 1 hW (gV tw_676 tw_678 tv_X2_isLeaf tw_3 tw_679) rfl rfl rfl (by decide +kernel) ⟨Nat.le_of_ble_eq_true rfl, Nat.le_of_ble_eq_true rfl⟩) (va_recv hK hP (ci := 2) (q0 := 0) rfl rfl) hP hD hK hS hA hT rfl hl.1 rfl (Nat.le_of_ble_eq_true rfl) dX2_withdraw_2 ⟨Nat.zero_le _, Nat.zero_le _⟩ (fun H locs hP hD hS => ?_)
  refine lv_eqi (v := nI 1) (by rw [x_req_nat hd (by omega)]; rfl) ?_
  refine lv_istore_n (lv' := [(2, .int (nI 1)), (0, .ref (om 0)), (1, .int (nI d))]) hx hb dX2_withdraw_5 rfl hl (by decide) rfl (fun ls hl => ?_)
  refine lv_aload_n hx hb dX2_withdraw_6 rfl (lv_at hl 1 rfl) ?_
  refine lv_iload_n hx hb dX2_withdraw_7 rfl (lv_at hl 0 rfl) ?_
  refine lv_iload_n hx hb dX2_withdraw_8 rfl (lv_at hl 0 rfl) ?_
  refine lv_if_eq (tgt := 25) hx hb dX2_withdraw_9 (by decide) (fun hq9 => absurd hq9 (by decide)) (fun _ => ?_)
  refine lv_aload_n hx hb dX2_withdraw_12 rfl (lv_at hl 1 rfl) ?_
  refine va_get (D := D) (ci := 2) (v := .ref (om 1)) (C := RX2) (T := TX2) (N := 25) hx hb hW iMD hown hK hP 0 rfl rfl 5 (by decide) (hW _ tw_519) (fun _ h9 => h9) rfl dX2_withdraw_13 ?_
  refine lv_iload_n hx hb dX2_withdraw_16 rfl (lv_at hl 2 rfl) ?_
  refine m_zld hx hb hK hP 1 1 d rfl rfl (by omega) (by decide) dX2_withdraw_17 ?_
  refine lv_if_ne (tgt := 25) hx hb dX2_withdraw_18 (by decide) (fun hq9 => absurd (hg) hq9) (fun _ => ?_)
  refine lv_iconst (v := nI 1) hx hb dX2_withdraw_21 (by decide) ?_
  refine lv_goto (tgt := 26) hx hb dX2_withdraw_22 (by decide) ?_
  refine lv_iconst (v := nI 1) hx hb dX2_withdraw_26 (by decide) ?_
  refine mi_callV (C := RX2) (As := [.int (nI 1), .int (nI 1), .int (nI 1)]) (rest := []) ⟨hx, hb, hml, hown, hW⟩ (n_goes (nI 1) (nI 1) (nI 1) (nI 0) (nI 1) mem ((if_neg (by decide)).trans ((if_neg (by decide)).trans (if_neg (by decide)))) (by decide)) nE_ok (cwV 3 hW (gV tw_601 tw_603 tv_X2_goes tw_3 tw_604) rfl rfl rfl (by decide +kernel) ⟨Nat.le_of_ble_eq_true rfl, Nat.le_of_ble_eq_true rfl⟩) (va_recv hK hP (ci := 2) (q0 := 0) rfl rfl) hP hD hK hS hA hT rfl hl.1 rfl (Nat.le_of_ble_eq_true rfl) dX2_withdraw_27 ⟨Nat.zero_le _, Nat.zero_le _⟩ (fun H locs hP hD hS => ?_)
  have hP : va_P D vwCl (wM om am cI cZ (nI 0) tp (nI q) dy pv pm by_ pt wy gone oR mem) H := hP
  have hD : va_D A (wM om am cI cZ (nI 0) tp (nI q) dy pv pm by_ pt wy gone oR mem) := hD
  refine lv_if_ne (tgt := 35) hx hb dX2_withdraw_30 (by decide) (fun _ => ?_) (fun hq9 => absurd hq9 (by decide))
  refine lv_aload_n hx hb dX2_withdraw_35 rfl (lv_at hl 1 rfl) ?_
  refine va_get (D := D) (ci := 2) (v := .ref (om 1)) (C := RX2) (T := TX2) (N := 25) hx hb hW iMD hown hK hP 0 rfl rfl 5 (by decide) (hW _ tw_519) (fun _ h9 => h9) rfl dX2_withdraw_36 ?_
  refine lv_iload_n hx hb dX2_withdraw_39 rfl (lv_at hl 2 rfl) ?_
  refine lv_iconst (v := nI 1) hx hb dX2_withdraw_40 (by decide) ?_
  refine m_zst (x := nI 1) (v := nI 1) hx hb hK hP hD hS 1 1 d rfl rfl (by omega) (by decide) (rfl) dX2_withdraw_41 (fun H locs hP hD hS => ?_)
  have hP : va_P D vwCl (wM om am cI cZ (nI 0) tp (nI q) dy pv pm by_ pt wy (upd gone d (nI 1)) oR mem) H := hP
  have hD : va_D A (wM om am cI cZ (nI 0) tp (nI q) dy pv pm by_ pt wy (upd gone d (nI 1)) oR mem) := hD
  refine lv_iconst (v := nI 0) hx hb dX2_withdraw_42 (by decide) ?_
  refine lv_istore_n (lv' := [(3, .int (nI 0)), (2, .int (nI 1)), (0, .ref (om 0)), (1, .int (nI d))]) hx hb dX2_withdraw_43 rfl hl (by decide) rfl (fun ls hl => ?_)
  refine lv_iconst (v := nI 0) hx hb dX2_withdraw_44 (by decide) ?_
  refine lv_istore (lv' := [(4, .int (nI 0)), (3, .int (nI 0)), (2, .int (nI 1)), (0, .ref (om 0)), (1, .int (nI d))]) hx hb dX2_withdraw_45 hl (by decide) rfl (fun ls hl => ?_)
  exact lo q 0 H locs ls (by omega) hP hD hS (lv_sub hl [3, 1, 0] rfl)
