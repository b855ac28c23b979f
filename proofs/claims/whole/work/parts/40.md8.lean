set_option maxHeartbeats 800000 in
set_option maxRecDepth 100000 in
theorem n_prove_no {l : Launch} {D : va_G} {om am : Nat → Nat} {cI cZ cG : ClassId} {th tp pv pm pt wy : Int32} {gone oR : Nat → Int32} (q y b : Nat) (hq : q ≤ 24) (hy : y ≤ 12) (v u : Int32) (mem : xMem) (nm : String) (hX : (x_req v (nI q)).or ((x_req u (nI y)).or (x_if (¬ v < mem 1 (tn u)) nISE)) = some nm) : MI l nE yX2_prove (.code yX2_prove cX2_prove 6 (some .int) :: tW) ({ frames := 4, cells := 0, slots := 0, locals := 100 }) D vwCl (tC cI cZ cG) [.ref (om 0), .int v, .int u] (wM om am cI cZ th tp (nI q) (nI y) pv pm (nI b) pt wy gone oR mem) (wM om am cI cZ (cdL [nIOB, nISE] nm) tp (nI q) (nI y) pv pm (nI b) pt wy gone oR mem) (nI 0) := by
  refine MI.ofW (by decide +kernel) rfl (Nat.le_of_ble_eq_true rfl) ?_
  intro p e s m below meth c A ls hx hb hr hts hown hlk hml hA hP hK hD hT hl
  have hS : va_S A s.heap s.heap [] := va_S.rf
  have hown : s.vm.findClass RX2 = some m.cls := hown
  have hW : ∀ w ∈ tW, w.before _ s = true := fun w h => hts w (List.mem_cons_of_mem _ h)
  have hl : lv_has ls 6 [(0, .ref (om 0)), (1, .int v), (2, .int u)] := hl
  rcases x_or_some hX with hg1 | ⟨hg1, hY1⟩
  · skip
    have hn9 := x_req_some hg1
    skip
    refine lv_aload_n hx hb dX2_prove_0 rfl (lv_at hl 0 rfl) ?_
    refine lv_iload_n hx hb dX2_prove_1 rfl (lv_at hl 1 rfl) ?_
    refine mi_callV (C := RX2) (As := [.int v]) (rest := []) ⟨hx, hb, hml, hown, hW⟩ (n_isLeaf v q (by omega) mem) nE_ok (cwV 1 hW (gV tw_676 tw_678 tv_X2_isLeaf tw_3 tw_679) rfl rfl rfl (by decide +kernel) ⟨Nat.le_of_ble_eq_true rfl, Nat.le_of_ble_eq_true rfl⟩) (va_recv hK hP (ci := 2) (q0 := 0) rfl rfl) hP hD hK hS hA hT rfl hl.1 rfl (Nat.le_of_ble_eq_true rfl) dX2_prove_2 ⟨Nat.zero_le _, Nat.zero_le _⟩ (fun H locs hP hD hS => ?_)
    refine lv_eqi (v := nI 0) (by rw [hg1]; rfl) ?_
    refine lv_if_eq (tgt := 20) hx hb dX2_prove_5 (by decide) (fun _ => ?_) (fun hq9 => absurd (by decide) hq9)
    refine lv_iconst (v := nI 0) hx hb dX2_prove_20 (by decide) ?_
    refine lv_istore_n (lv' := [(3, .int (nI 0)), (0, .ref (om 0)), (1, .int v), (2, .int u)]) hx hb dX2_prove_21 rfl hl (by decide) rfl (fun ls hl => ?_)
    refine lv_aload_n hx hb dX2_prove_22 rfl (lv_at hl 1 rfl) ?_
    refine lv_iload_n hx hb dX2_prove_23 rfl (lv_at hl 0 rfl) ?_
    refine lv_iload_n hx hb dX2_prove_24 rfl (lv_at hl 0 rfl) ?_
    refine lv_if_eq (tgt := 42) hx hb dX2_prove_25 (by decide) (fun _ => ?_) (fun hq9 => absurd (by decide) hq9)
    refine lv_iconst (v := nI 0) hx hb dX2_prove_42 (by decide) ?_
    refine lv_iconst (v := nI 1) hx hb dX2_prove_43 (by decide) ?_
    refine mi_callV (C := RX2) (As := [.int (nI 0), .int (nI 0), .int (nI 1)]) (rest := []) ⟨hx, hb, hml, hown, hW⟩ (n_goes (nI 0) (nI 0) (nI 1) (nI 1) (nI 0) mem (if_pos (by decide)) (by decide)) nE_ok (cwV 3 hW (gV tw_601 tw_603 tv_X2_goes tw_3 tw_604) rfl rfl rfl (by decide +kernel) ⟨Nat.le_of_ble_eq_true rfl, Nat.le_of_ble_eq_true rfl⟩) (va_recv hK hP (ci := 2) (q0 := 0) rfl rfl) hP hD hK hS hA hT rfl hl.1 rfl (Nat.le_of_ble_eq_true rfl) dX2_prove_44 ⟨Nat.zero_le _, Nat.zero_le _⟩ (fun H locs hP hD hS => ?_)
    have hP : va_P D vwCl (wM om am cI cZ (nI 1) tp (nI q) (nI y) pv pm (nI b) pt wy gone oR mem) H := hP
    have hD : va_D A (wM om am cI cZ (nI 1) tp (nI q) (nI y) pv pm (nI b) pt wy gone oR mem) := hD
    refine lv_if_ne (tgt := 52) hx hb dX2_prove_47 (by decide) (fun hq9 => absurd (by decide) hq9) (fun _ => ?_)
    refine lv_iconst (v := nI 0) hx hb dX2_prove_50 (by decide) ?_
    have hP : va_P D vwCl (wM om am cI cZ (cdL [nIOB, nISE] nm) tp (nI q) (nI y) pv pm (nI b) pt wy gone oR mem) H := by rw [show cdL [nIOB, nISE] nm = nI 1 from by rw [hn9]; decide +kernel]; exact hP
    have hD : va_D A (wM om am cI cZ (cdL [nIOB, nISE] nm) tp (nI q) (nI y) pv pm (nI b) pt wy gone oR mem) := by rw [show cdL [nIOB, nISE] nm = nI 1 from by rw [hn9]; decide +kernel]; exact hD
    exact mi_ret hx hb hr (rfl) hlk hS hP hD (rfl) dX2_prove_51
  · skip
    rcases x_or_some hY1 with hg2 | ⟨hg2, hY2⟩
    · skip
      have hn9 := x_req_some hg2
      skip
      refine lv_aload_n hx hb dX2_prove_0 rfl (lv_at hl 0 rfl) ?_
      refine lv_iload_n hx hb dX2_prove_1 rfl (lv_at hl 1 rfl) ?_
      refine mi_callV (C := RX2) (As := [.int v]) (rest := []) ⟨hx, hb, hml, hown, hW⟩ (n_isLeaf v q (by omega) mem) nE_ok (cwV 1 hW (gV tw_676 tw_678 tv_X2_isLeaf tw_3 tw_679) rfl rfl rfl (by decide +kernel) ⟨Nat.le_of_ble_eq_true rfl, Nat.le_of_ble_eq_true rfl⟩) (va_recv hK hP (ci := 2) (q0 := 0) rfl rfl) hP hD hK hS hA hT rfl hl.1 rfl (Nat.le_of_ble_eq_true rfl) dX2_prove_2 ⟨Nat.zero_le _, Nat.zero_le _⟩ (fun H locs hP hD hS => ?_)
      refine lv_eqi (v := nI 1) (by rw [hg1]; rfl) ?_
      refine lv_if_eq (tgt := 20) hx hb dX2_prove_5 (by decide) (fun hq9 => absurd hq9 (by decide)) (fun _ => ?_)
      refine lv_aload_n hx hb dX2_prove_8 rfl (lv_at hl 0 rfl) ?_
      refine lv_iload_n hx hb dX2_prove_9 rfl (lv_at hl 2 rfl) ?_
      refine mi_callV (C := RX2) (As := [.int u]) (rest := []) ⟨hx, hb, hml, hown, hW⟩ (n_isDay u y (by omega) mem) nE_ok (cwV 1 hW (gV tw_665 tw_667 tv_X2_isDay tw_3 tw_668) rfl rfl rfl (by decide +kernel) ⟨Nat.le_of_ble_eq_true rfl, Nat.le_of_ble_eq_true rfl⟩) (va_recv hK hP (ci := 2) (q0 := 0) rfl rfl) hP hD hK hS hA hT rfl hl.1 rfl (Nat.le_of_ble_eq_true rfl) dX2_prove_10 ⟨Nat.zero_le _, Nat.zero_le _⟩ (fun H locs hP hD hS => ?_)
      refine lv_eqi (v := nI 0) (by rw [hg2]; rfl) ?_
      refine lv_if_eq (tgt := 20) hx hb dX2_prove_13 (by decide) (fun _ => ?_) (fun hq9 => absurd (by decide) hq9)
      refine lv_iconst (v := nI 0) hx hb dX2_prove_20 (by decide) ?_
      refine lv_istore_n (lv' := [(3, .int (nI 0)), (0, .ref (om 0)), (1, .int v), (2, .int u)]) hx hb dX2_prove_21 rfl hl (by decide) rfl (fun ls hl => ?_)
      refine lv_aload_n hx hb dX2_prove_22 rfl (lv_at hl 1 rfl) ?_
      refine lv_iload_n hx hb dX2_prove_23 rfl (lv_at hl 0 rfl) ?_
      refine lv_iload_n hx hb dX2_prove_24 rfl (lv_at hl 0 rfl) ?_
      refine lv_if_eq (tgt := 42) hx hb dX2_prove_25 (by decide) (fun _ => ?_) (fun hq9 => absurd (by decide) hq9)
      refine lv_iconst (v := nI 0) hx hb dX2_prove_42 (by decide) ?_
      refine lv_iconst (v := nI 1) hx hb dX2_prove_43 (by decide) ?_
      refine mi_callV (C := RX2) (As := [.int (nI 0), .int (nI 0), .int (nI 1)]) (rest := []) ⟨hx, hb, hml, hown, hW⟩ (n_goes (nI 0) (nI 0) (nI 1) (nI 1) (nI 0) mem (if_pos (by decide)) (by decide)) nE_ok (cwV 3 hW (gV tw_601 tw_603 tv_X2_goes tw_3 tw_604) rfl rfl rfl (by decide +kernel) ⟨Nat.le_of_ble_eq_true rfl, Nat.le_of_ble_eq_true rfl⟩) (va_recv hK hP (ci := 2) (q0 := 0) rfl rfl) hP hD hK hS hA hT rfl hl.1 rfl (Nat.le_of_ble_eq_true rfl) dX2_prove_44 ⟨Nat.zero_le _, Nat.zero_le _⟩ (fun H locs hP hD hS => ?_)
      have hP : va_P D vwCl (wM om am cI cZ (nI 1) tp (nI q) (nI y) pv pm (nI b) pt wy gone oR mem) H := hP
      have hD : va_D A (wM om am cI cZ (nI 1) tp (nI q) (nI y) pv pm (nI b) pt wy gone oR mem) := hD
      refine lv_if_ne (tgt := 52) hx hb dX2_prove_47 (by decide) (fun hq9 => absurd (by decide) hq9) (fun _ => ?_)
      refine lv_iconst (v := nI 0) hx hb dX2_prove_50 (by decide) ?_
      have hP : va_P D vwCl (wM om am cI cZ (cdL [nIOB, nISE] nm) tp (nI q) (nI y) pv pm (nI b) pt wy gone oR mem) H := by rw [show cdL [nIOB, nISE] nm = nI 1 from by rw [hn9]; decide +kernel]; exact hP
      have hD : va_D A (wM om am cI cZ (cdL [nIOB, nISE] nm) tp (nI q) (nI y) pv pm (nI b) pt wy gone oR mem) := by rw [show cdL [nIOB, nISE] nm = nI 1 from by rw [hn9]; decide +kernel]; exact hD
      exact mi_ret hx hb hr (rfl) hlk hS hP hD (rfl) dX2_prove_51
    · skip
      have hg3 := hY2
      obtain ⟨hn9, hc9⟩ := x_if_some hg3
      skip
      obtain ⟨d, hd, rfl⟩ := x_req_none (by omega) hg2
      rw [show tn (nI d) = d from nI_clamp (by omega)] at hc9
      refine lv_aload_n hx hb dX2_prove_0 rfl (lv_at hl 0 rfl) ?_
      refine lv_iload_n hx hb dX2_prove_1 rfl (lv_at hl 1 rfl) ?_
      refine mi_callV (C := RX2) (As := [.int v]) (rest := []) ⟨hx, hb, hml, hown, hW⟩ (n_isLeaf v q (by omega) mem) nE_ok (cwV 1 hW (gV tw_676 tw_678 tv_X2_isLeaf tw_3 tw_679) rfl rfl rfl (by decide +kernel) ⟨Nat.le_of_ble_eq_true rfl, Nat.le_of_ble_eq_true rfl⟩) (va_recv hK hP (ci := 2) (q0 := 0) rfl rfl) hP hD hK hS hA hT rfl hl.1 rfl (Nat.le_of_ble_eq_true rfl) dX2_prove_2 ⟨Nat.zero_le _, Nat.zero_le _⟩ (fun H locs hP hD hS => ?_)
      refine lv_eqi (v := nI 1) (by rw [hg1]; rfl) ?_
      refine lv_if_eq (tgt := 20) hx hb dX2_prove_5 (by decide) (fun hq9 => absurd hq9 (by decide)) (fun _ => ?_)
      refine lv_aload_n hx hb dX2_prove_8 rfl (lv_at hl 0 rfl) ?_
      refine lv_iload_n hx hb dX2_prove_9 rfl (lv_at hl 2 rfl) ?_
      refine mi_callV (C := RX2) (As := [.int (nI d)]) (rest := []) ⟨hx, hb, hml, hown, hW⟩ (n_isDay (nI d) y (by omega) mem) nE_ok (cwV 1 hW (gV tw_665 tw_667 tv_X2_isDay tw_3 tw_668) rfl rfl rfl (by decide +kernel) ⟨Nat.le_of_ble_eq_true rfl, Nat.le_of_ble_eq_true rfl⟩) (va_recv hK hP (ci := 2) (q0 := 0) rfl rfl) hP hD hK hS hA hT rfl hl.1 rfl (Nat.le_of_ble_eq_true rfl) dX2_prove_10 ⟨Nat.zero_le _, Nat.zero_le _⟩ (fun H locs hP hD hS => ?_)
      refine lv_eqi (v := nI 1) (by rw [hg2]; rfl) ?_
      refine lv_if_eq (tgt := 20) hx hb dX2_prove_13 (by decide) (fun hq9 => absurd hq9 (by decide)) (fun _ => ?_)
      refine lv_iconst (v := nI 1) hx hb dX2_prove_16 (by decide) ?_
      refine lv_goto (tgt := 21) hx hb dX2_prove_17 (by decide) ?_
      refine lv_istore_n (lv' := [(3, .int (nI 1)), (0, .ref (om 0)), (1, .int v), (2, .int (nI d))]) hx hb dX2_prove_21 rfl hl (by decide) rfl (fun ls hl => ?_)
      refine lv_aload_n hx hb dX2_prove_22 rfl (lv_at hl 1 rfl) ?_
      refine lv_iload_n hx hb dX2_prove_23 rfl (lv_at hl 0 rfl) ?_
      refine lv_iload_n hx hb dX2_prove_24 rfl (lv_at hl 0 rfl) ?_
      refine lv_if_eq (tgt := 42) hx hb dX2_prove_25 (by decide) (fun hq9 => absurd hq9 (by decide)) (fun _ => ?_)
      refine lv_iload_n hx hb dX2_prove_28 rfl (lv_at hl 2 rfl) ?_
      refine lv_aload_n hx hb dX2_prove_29 rfl (lv_at hl 1 rfl) ?_
      refine va_get (D := D) (ci := 2) (v := .ref (am 1)) (C := RX2) (T := TX2) (N := 25) hx hb hW iMD hown hK hP 0 rfl rfl 7 (by decide) (hW _ tw_521) (fun _ h9 => h9) rfl dX2_prove_30 ?_
      refine lv_iload_n hx hb dX2_prove_33 rfl (lv_at hl 3 rfl) ?_
      refine m_ld (X := wMx om am cZ th tp (nI q) (nI y) pv pm (nI b) pt wy gone oR) hx hb hK hP 0 1 d rfl (by decide) (show d < 12 by omega) (by decide) dX2_prove_34 ?_
      refine lv_icmp_ge (tgt := 42) hx hb dX2_prove_35 (by decide) (fun _ => ?_) (fun hq9 => absurd (Int32.not_lt.mp hc9) hq9)
      refine lv_iconst (v := nI 0) hx hb dX2_prove_42 (by decide) ?_
      refine lv_iconst (v := nI 1) hx hb dX2_prove_43 (by decide) ?_
      refine mi_callV (C := RX2) (As := [.int (nI 1), .int (nI 0), .int (nI 1)]) (rest := []) ⟨hx, hb, hml, hown, hW⟩ (n_goes (nI 1) (nI 0) (nI 1) (nI 2) (nI 0) mem ((if_neg (by decide)).trans (if_pos (by decide))) (by decide)) nE_ok (cwV 3 hW (gV tw_601 tw_603 tv_X2_goes tw_3 tw_604) rfl rfl rfl (by decide +kernel) ⟨Nat.le_of_ble_eq_true rfl, Nat.le_of_ble_eq_true rfl⟩) (va_recv hK hP (ci := 2) (q0 := 0) rfl rfl) hP hD hK hS hA hT rfl hl.1 rfl (Nat.le_of_ble_eq_true rfl) dX2_prove_44 ⟨Nat.zero_le _, Nat.zero_le _⟩ (fun H locs hP hD hS => ?_)
      have hP : va_P D vwCl (wM om am cI cZ (nI 2) tp (nI q) (nI y) pv pm (nI b) pt wy gone oR mem) H := hP
      have hD : va_D A (wM om am cI cZ (nI 2) tp (nI q) (nI y) pv pm (nI b) pt wy gone oR mem) := hD
      refine lv_if_ne (tgt := 52) hx hb dX2_prove_47 (by decide) (fun hq9 => absurd (by decide) hq9) (fun _ => ?_)
      refine lv_iconst (v := nI 0) hx hb dX2_prove_50 (by decide) ?_
      have hP : va_P D vwCl (wM om am cI cZ (cdL [nIOB, nISE] nm) tp (nI q) (nI y) pv pm (nI b) pt wy gone oR mem) H := by rw [show cdL [nIOB, nISE] nm = nI 2 from by rw [hn9]; decide +kernel]; exact hP
      have hD : va_D A (wM om am cI cZ (cdL [nIOB, nISE] nm) tp (nI q) (nI y) pv pm (nI b) pt wy gone oR mem) := by rw [show cdL [nIOB, nISE] nm = nI 2 from by rw [hn9]; decide +kernel]; exact hD
      exact mi_ret hx hb hr (rfl) hlk hS hP hD (rfl) dX2_prove_51
set_option maxHeartbeats 800000 in
set_option maxRecDepth 100000 in
theorem n_prove {l : Launch} {D : va_G} {om am : Nat → Nat} {cI cZ cG : ClassId} {th tp pv pm pt wy : Int32} {gone oR : Nat → Int32} (q y b lf d cc0 : Nat) (hq : q ≤ 24) (hy : y ≤ 12) (hlf : lf < q) (hd : d < y) (mem : xMem) (hm : mem 1 d = nI cc0) (hc : lf < cc0) (hc2 : cc0 ≤ 24) (hkc : ∀ i, i < 64 → mem 13 i = kc i) : MI l nE yX2_prove (.code yX2_prove cX2_prove 6 (some .int) :: tW) ({ frames := 6, cells := 0, slots := 0, locals := 230 }) D vwCl (tC cI cZ cG) [.ref (om 0), .int (nI lf), .int (nI d)] (wM om am cI cZ th tp (nI q) (nI y) pv pm (nI b) pt wy gone oR mem) (wM om am cI cZ (nI 0) tp (nI q) (nI y) (nI 1) (nI (glist lf cc0).length) (nI (pvI (glist lf cc0) ((glist lf cc0).length) (pt, b, (gW (glist lf cc0) 0 (oR, mem)).2)).2.1) ((pvI (glist lf cc0) ((glist lf cc0).length) (pt, b, (gW (glist lf cc0) 0 (oR, mem)).2)).1) (nI (glist lf cc0).length) gone ((gW (glist lf cc0) 0 (oR, mem)).1) ((pvI (glist lf cc0) ((glist lf cc0).length) (pt, b, (gW (glist lf cc0) 0 (oR, mem)).2)).2.2)) (nI (glist lf cc0).length) := by
  refine MI.ofW (by decide +kernel) rfl (Nat.le_of_ble_eq_true rfl) ?_
  intro p e s m below meth c A ls hx hb hr hts hown hlk hml hA hP hK hD hT hl
  have hS : va_S A s.heap s.heap [] := va_S.rf
  have hown : s.vm.findClass RX2 = some m.cls := hown
  have hW : ∀ w ∈ tW, w.before _ s = true := fun w h => hts w (List.mem_cons_of_mem _ h)
  have hl : lv_has ls 6 [(0, .ref (om 0)), (1, .int (nI lf)), (2, .int (nI d))] := hl
  have hlen := glist_len cc0 (by omega) lf hc
  have hok := glist_ok cc0 (by omega) lf hc
  have hat := gW_at (glist lf cc0) 0 (oR, mem)
  have hkg : ∀ j, j < 64 → (gW (glist lf cc0) 0 (oR, mem)).2 13 j = kc j := fun j hj => by rw [gW_k (by decide) (by decide)]; exact hkc j hj
  generalize hG : glist lf cc0 = gL at *
  generalize hG0 : gW gL 0 (oR, mem) = g0 at *
  have lo : ∀ (k i : Nat) (H : Heap) (locs : List Loc) (ls : Array Slot), i + k = gL.length → va_P D vwCl (wM om am cI cZ (nI 0) tp (nI q) (nI y) (nI 1) (nI gL.length) (nI (pvI gL i (pt, b, g0.2)).2.1) ((pvI gL i (pt, b, g0.2)).1) (nI gL.length) gone g0.1 ((pvI gL i (pt, b, g0.2)).2.2)) H → va_D A (wM om am cI cZ (nI 0) tp (nI q) (nI y) (nI 1) (nI gL.length) (nI (pvI gL i (pt, b, g0.2)).2.1) ((pvI gL i (pt, b, g0.2)).1) (nI gL.length) gone g0.1 ((pvI gL i (pt, b, g0.2)).2.2)) → va_S A s.heap H locs → lv_has ls 6 [(0, .ref (om 0)), (4, .int (nI i))] → W p l e ({ frames := 6, cells := 0, slots := 0, locals := 230 }) s m ([.ref (om 0), .int (nI lf), .int (nI d)] : List Value).toArray below meth c H locs 0 0 (MQ below (xQi D vwCl (wM om am cI cZ (nI 0) tp (nI q) (nI y) (nI 1) (nI gL.length) (nI (pvI gL (gL.length) (pt, b, g0.2)).2.1) ((pvI gL (gL.length) (pt, b, g0.2)).1) (nI gL.length) gone (g0.1) ((pvI gL (gL.length) (pt, b, g0.2)).2.2)) (nI gL.length) A) ([.ref (om 0), .int (nI lf), .int (nI d)] : List Value).toArray s 0 0 A) (F0 m 79 ls []) := by
    intro k
    induction k with
    | zero =>
      intro i H locs ls hk hP hD hS hl
      have hk9 : i = gL.length := by omega
      refine lv_iload hx hb dX2_prove_79 (lv_at hl 1 rfl) ?_
      refine lv_aload_n hx hb dX2_prove_81 rfl (lv_at hl 0 rfl) ?_
      refine va_get (D := D) (ci := 2) (v := .int (nI gL.length)) (C := RX2) (T := TX2) (N := 25) hx hb hW iMD hown hK hP 0 rfl rfl 20 (by decide) (hW _ tw_534) (fun _ h9 => h9) rfl dX2_prove_82 ?_
      refine lv_icmp_ge (tgt := 162) hx hb dX2_prove_85 (by decide) (fun _ => ?_) (fun hq9 => absurd (nI_le (by omega) (by omega)) hq9)
      refine lv_aload_n hx hb dX2_prove_162 rfl (lv_at hl 0 rfl) ?_
      refine va_get (D := D) (ci := 2) (v := .int (nI gL.length)) (C := RX2) (T := TX2) (N := 25) hx hb hW iMD hown hK hP 0 rfl rfl 10 (by decide) (hW _ tw_524) (fun _ h9 => h9) rfl dX2_prove_163 ?_
      rw [hk9] at hP hD
      have hP : va_P D vwCl (wM om am cI cZ (nI 0) tp (nI q) (nI y) (nI 1) (nI gL.length) (nI (pvI gL (gL.length) (pt, b, g0.2)).2.1) ((pvI gL (gL.length) (pt, b, g0.2)).1) (nI gL.length) gone (g0.1) ((pvI gL (gL.length) (pt, b, g0.2)).2.2)) H := by exact hP
      have hD : va_D A (wM om am cI cZ (nI 0) tp (nI q) (nI y) (nI 1) (nI gL.length) (nI (pvI gL (gL.length) (pt, b, g0.2)).2.1) ((pvI gL (gL.length) (pt, b, g0.2)).1) (nI gL.length) gone (g0.1) ((pvI gL (gL.length) (pt, b, g0.2)).2.2)) := by exact hD
      exact mi_ret hx hb hr (rfl) hlk hS hP hD (rfl) dX2_prove_166
    | succ k ih =>
      intro i H locs ls hk hP hD hS hl
      have hi0 : gL.length - 1 - i < gL.length := by omega
      obtain ⟨-, ha1, ha2⟩ := hat _ hi0
      rw [Nat.zero_add] at ha1 ha2
      have hx9 : (gIt gL i).2.1 + (gIt gL i).2.2 ≤ 24 ∧ 1 ≤ (gIt gL i).2.2 := gIt_ok hok hi0
      have hb1 : (pvI gL i (pt, b, g0.2)).2.2 11 = g0.2 11 := pvI_k (by decide) (by decide) (by decide) (by decide) (by decide) (by decide) (by decide) _ _ i
      have hb2 : (pvI gL i (pt, b, g0.2)).2.2 12 = g0.2 12 := pvI_k (by decide) (by decide) (by decide) (by decide) (by decide) (by decide) (by decide) _ _ i
      have hb3 : (pvI gL i (pt, b, g0.2)).2.2 13 = g0.2 13 := pvI_k (by decide) (by decide) (by decide) (by decide) (by decide) (by decide) (by decide) _ _ i
      have lr : ∀ (kr r : Nat) (H : Heap) (locs : List Loc) (ls : Array Slot), r + kr = 32 → va_P D vwCl (wM om am cI cZ (nI 0) tp (nI q) (nI y) (nI 1) (nI gL.length) (nI (m_tree (gIt gL i).2.1 (gIt gL i).2.2 (pvI gL i (pt, b, g0.2)).2).1) (ptT (gIt gL i).2.2 (pvI gL i (pt, b, g0.2)).1) (nI gL.length) gone g0.1 (rcp 8 (32 * i) 2 0 r ((m_tree (gIt gL i).2.1 (gIt gL i).2.2 (pvI gL i (pt, b, g0.2)).2).2))) H → va_D A (wM om am cI cZ (nI 0) tp (nI q) (nI y) (nI 1) (nI gL.length) (nI (m_tree (gIt gL i).2.1 (gIt gL i).2.2 (pvI gL i (pt, b, g0.2)).2).1) (ptT (gIt gL i).2.2 (pvI gL i (pt, b, g0.2)).1) (nI gL.length) gone g0.1 (rcp 8 (32 * i) 2 0 r ((m_tree (gIt gL i).2.1 (gIt gL i).2.2 (pvI gL i (pt, b, g0.2)).2).2))) → va_S A s.heap H locs → lv_has ls 6 [(0, .ref (om 0)), (4, .int (nI i)), (5, .int (nI r))] → W p l e ({ frames := 6, cells := 0, slots := 0, locals := 230 }) s m ([.ref (om 0), .int (nI lf), .int (nI d)] : List Value).toArray below meth c H locs 0 0 (MQ below (xQi D vwCl (wM om am cI cZ (nI 0) tp (nI q) (nI y) (nI 1) (nI gL.length) (nI (pvI gL (gL.length) (pt, b, g0.2)).2.1) ((pvI gL (gL.length) (pt, b, g0.2)).1) (nI gL.length) gone (g0.1) ((pvI gL (gL.length) (pt, b, g0.2)).2.2)) (nI gL.length) A) ([.ref (om 0), .int (nI lf), .int (nI d)] : List Value).toArray s 0 0 A) (F0 m 123 ls []) := by
        intro kr
        induction kr with
        | zero =>
          intro r H locs ls hk hP hD hS hl
          have hr9 : r = 32 := by omega
          rw [hr9, ← P_rcp_e] at hP hD
          refine lv_iload hx hb dX2_prove_123 (lv_at hl 2 rfl) ?_
          refine lv_bipush (v := nI 32) hx hb dX2_prove_125 (by decide) ?_
          refine lv_icmp_ge (tgt := 156) hx hb dX2_prove_127 (by decide) (fun _ => ?_) (fun hq9 => absurd (nI_le (by omega) (by omega)) hq9)
          have hP : va_P D vwCl (wM om am cI cZ (nI 0) tp (nI q) (nI y) (nI 1) (nI gL.length) (nI (pvI gL (i + 1) (pt, b, g0.2)).2.1) ((pvI gL (i + 1) (pt, b, g0.2)).1) (nI gL.length) gone g0.1 ((pvI gL (i + 1) (pt, b, g0.2)).2.2)) H := by rw [pvI_s]; exact hP
          have hD : va_D A (wM om am cI cZ (nI 0) tp (nI q) (nI y) (nI 1) (nI gL.length) (nI (pvI gL (i + 1) (pt, b, g0.2)).2.1) ((pvI gL (i + 1) (pt, b, g0.2)).1) (nI gL.length) gone g0.1 ((pvI gL (i + 1) (pt, b, g0.2)).2.2)) := by rw [pvI_s]; exact hD
          refine lv_iinc (v := nI (i + 1)) (lv' := [(4, .int (nI (i + 1))), (0, .ref (om 0)), (5, .int (nI r))]) hx hb dX2_prove_156 hl (k := 1) rfl (nI_1 _) (by decide) rfl (fun ls hl => ?_)
          refine lv_goto (tgt := 79) hx hb dX2_prove_159 (by decide) ?_
          exact ih (i + 1) H locs ls (by omega) hP hD hS (lv_sub hl [1, 0] rfl)
        | succ kr ihkr =>
          intro r H locs ls hk hP hD hS hl
          refine lv_iload hx hb dX2_prove_123 (lv_at hl 2 rfl) ?_
          refine lv_bipush (v := nI 32) hx hb dX2_prove_125 (by decide) ?_
          refine lv_icmp_ge (tgt := 156) hx hb dX2_prove_127 (by decide) (fun hq9 => absurd hq9 (nI_ge (by omega) (by decide))) (fun _ => ?_)
          refine lv_aload_n hx hb dX2_prove_130 rfl (lv_at hl 0 rfl) ?_
          refine va_get (D := D) (ci := 2) (v := .ref (am 8)) (C := RX2) (T := TX2) (N := 25) hx hb hW iMD hown hK hP 0 rfl rfl 11 (by decide) (hW _ tw_525) (fun _ h9 => h9) rfl dX2_prove_131 ?_
          refine lv_bipush (v := nI 32) hx hb dX2_prove_134 (by decide) ?_
          refine lv_iload hx hb dX2_prove_136 (lv_at hl 1 rfl) ?_
          refine lv_imul hx hb dX2_prove_138 ?_
          refine lv_eqi (v := nI (32 * i)) (pk_mul _ _) ?_
          refine lv_iload hx hb dX2_prove_139 (lv_at hl 2 rfl) ?_
          refine lv_iadd hx hb dX2_prove_141 ?_
          refine lv_eqi (v := nI (32 * i + r)) (nI_add _ _) ?_
          refine lv_aload_n hx hb dX2_prove_142 rfl (lv_at hl 0 rfl) ?_
          refine va_get (D := D) (ci := 2) (v := .ref (am 2)) (C := RX2) (T := TX2) (N := 25) hx hb hW iMD hown hK hP 0 rfl rfl 14 (by decide) (hW _ tw_528) (fun _ h9 => h9) rfl dX2_prove_143 ?_
          refine lv_iload hx hb dX2_prove_146 (lv_at hl 2 rfl) ?_
          refine m_ld (X := wMx om am cZ (nI 0) tp (nI q) (nI y) (nI 1) (nI gL.length) (nI (m_tree (gIt gL i).2.1 (gIt gL i).2.2 (pvI gL i (pt, b, g0.2)).2).1) (ptT (gIt gL i).2.2 (pvI gL i (pt, b, g0.2)).1) (nI gL.length) gone g0.1) hx hb hK hP 0 2 r rfl (by decide) (show r < 32 by omega) (by decide) dX2_prove_148 ?_
          refine m_st (X := wMx om am cZ (nI 0) tp (nI q) (nI y) (nI 1) (nI gL.length) (nI (m_tree (gIt gL i).2.1 (gIt gL i).2.2 (pvI gL i (pt, b, g0.2)).2).1) (ptT (gIt gL i).2.2 (pvI gL i (pt, b, g0.2)).1) (nI gL.length) gone g0.1) hx hb hK hP hD hS 0 8 (32 * i + r) rfl (by decide) (show 32 * i + r < 320 by omega) (by decide) dX2_prove_149 (fun H locs hP hD hS => ?_)
          have hP : va_P D vwCl (wM om am cI cZ (nI 0) tp (nI q) (nI y) (nI 1) (nI gL.length) (nI (m_tree (gIt gL i).2.1 (gIt gL i).2.2 (pvI gL i (pt, b, g0.2)).2).1) (ptT (gIt gL i).2.2 (pvI gL i (pt, b, g0.2)).1) (nI gL.length) gone g0.1 (rcp 8 (32 * i) 2 0 (r + 1) ((m_tree (gIt gL i).2.1 (gIt gL i).2.2 (pvI gL i (pt, b, g0.2)).2).2))) H := by rw [rcp_s, Nat.zero_add]; exact hP
          have hD : va_D A (wM om am cI cZ (nI 0) tp (nI q) (nI y) (nI 1) (nI gL.length) (nI (m_tree (gIt gL i).2.1 (gIt gL i).2.2 (pvI gL i (pt, b, g0.2)).2).1) (ptT (gIt gL i).2.2 (pvI gL i (pt, b, g0.2)).1) (nI gL.length) gone g0.1 (rcp 8 (32 * i) 2 0 (r + 1) ((m_tree (gIt gL i).2.1 (gIt gL i).2.2 (pvI gL i (pt, b, g0.2)).2).2))) := by rw [rcp_s, Nat.zero_add]; exact hD
          refine lv_iinc (v := nI (r + 1)) (lv' := [(5, .int (nI (r + 1))), (0, .ref (om 0)), (4, .int (nI i))]) hx hb dX2_prove_150 hl (k := 2) rfl (nI_1 _) (by decide) rfl (fun ls hl => ?_)
          refine lv_goto (tgt := 123) hx hb dX2_prove_153 (by decide) ?_
          exact ihkr (r + 1) H locs ls (by omega) hP hD hS (lv_sub hl [1, 2, 0] rfl)
      refine lv_iload hx hb dX2_prove_79 (lv_at hl 1 rfl) ?_
      refine lv_aload_n hx hb dX2_prove_81 rfl (lv_at hl 0 rfl) ?_
      refine va_get (D := D) (ci := 2) (v := .int (nI gL.length)) (C := RX2) (T := TX2) (N := 25) hx hb hW iMD hown hK hP 0 rfl rfl 20 (by decide) (hW _ tw_534) (fun _ h9 => h9) rfl dX2_prove_82 ?_
      refine lv_icmp_ge (tgt := 162) hx hb dX2_prove_85 (by decide) (fun hq9 => absurd hq9 (nI_ge (by omega) (by omega))) (fun _ => ?_)
      refine lv_aload_n hx hb dX2_prove_88 rfl (lv_at hl 0 rfl) ?_
      refine lv_aload_n hx hb dX2_prove_89 rfl (lv_at hl 0 rfl) ?_
      refine va_get (D := D) (ci := 2) (v := .ref (am 11)) (C := RX2) (T := TX2) (N := 25) hx hb hW iMD hown hK hP 0 rfl rfl 21 (by decide) (hW _ tw_535) (fun _ h9 => h9) rfl dX2_prove_90 ?_
      refine lv_aload_n hx hb dX2_prove_93 rfl (lv_at hl 0 rfl) ?_
      refine va_get (D := D) (ci := 2) (v := .int (nI gL.length)) (C := RX2) (T := TX2) (N := 25) hx hb hW iMD hown hK hP 0 rfl rfl 20 (by decide) (hW _ tw_534) (fun _ h9 => h9) rfl dX2_prove_94 ?_
      refine lv_iconst (v := nI 1) hx hb dX2_prove_97 (by decide) ?_
      refine lv_isub hx hb dX2_prove_98 ?_
      refine lv_eqi (v := nI (gL.length - 1)) (pk_sub (by omega)) ?_
      refine lv_iload hx hb dX2_prove_99 (lv_at hl 1 rfl) ?_
      refine lv_isub hx hb dX2_prove_101 ?_
      refine lv_eqi (v := nI ((gL.length - 1) - i)) (pk_sub (by omega)) ?_
      refine m_ld (X := wMx om am cZ (nI 0) tp (nI q) (nI y) (nI 1) (nI gL.length) (nI (pvI gL i (pt, b, g0.2)).2.1) ((pvI gL i (pt, b, g0.2)).1) (nI gL.length) gone g0.1) hx hb hK hP 0 11 ((gL.length - 1) - i) rfl (by decide) (show (gL.length - 1) - i < 8 by omega) (by decide) dX2_prove_102 ?_
      refine lv_eqi (v := nI (gIt gL i).2.1) (by rw [hb1]; exact ha1) ?_
      refine lv_aload_n hx hb dX2_prove_103 rfl (lv_at hl 0 rfl) ?_
      refine va_get (D := D) (ci := 2) (v := .ref (am 12)) (C := RX2) (T := TX2) (N := 25) hx hb hW iMD hown hK hP 0 rfl rfl 22 (by decide) (hW _ tw_536) (fun _ h9 => h9) rfl dX2_prove_104 ?_
      refine lv_aload_n hx hb dX2_prove_107 rfl (lv_at hl 0 rfl) ?_
      refine va_get (D := D) (ci := 2) (v := .int (nI gL.length)) (C := RX2) (T := TX2) (N := 25) hx hb hW iMD hown hK hP 0 rfl rfl 20 (by decide) (hW _ tw_534) (fun _ h9 => h9) rfl dX2_prove_108 ?_
      refine lv_iconst (v := nI 1) hx hb dX2_prove_111 (by decide) ?_
      refine lv_isub hx hb dX2_prove_112 ?_
      refine lv_eqi (v := nI (gL.length - 1)) (pk_sub (by omega)) ?_
      refine lv_iload hx hb dX2_prove_113 (lv_at hl 1 rfl) ?_
      refine lv_isub hx hb dX2_prove_115 ?_
      refine lv_eqi (v := nI ((gL.length - 1) - i)) (pk_sub (by omega)) ?_
      refine m_ld (X := wMx om am cZ (nI 0) tp (nI q) (nI y) (nI 1) (nI gL.length) (nI (pvI gL i (pt, b, g0.2)).2.1) ((pvI gL i (pt, b, g0.2)).1) (nI gL.length) gone g0.1) hx hb hK hP 0 12 ((gL.length - 1) - i) rfl (by decide) (show (gL.length - 1) - i < 8 by omega) (by decide) dX2_prove_116 ?_
      refine lv_eqi (v := nI (gIt gL i).2.2) (by rw [hb2]; exact ha2) ?_
      refine mv_callV (C := RX2) (As := [.int (nI (gIt gL i).2.1), .int (nI (gIt gL i).2.2)]) (rest := []) ⟨hx, hb, hml, hown, hW⟩ (n_tree ((gIt gL i).2.1) ((gIt gL i).2.2) (hx9.1) ((pvI gL i (pt, b, g0.2)).2.1) ((pvI gL i (pt, b, g0.2)).2.2) (fun j hj => by rw [hb3]; exact hkg j hj)) nE_ok (cwV 2 hW (gV tw_645 tw_647 tv_X2_tree tw_3 tw_648) rfl rfl rfl (by decide +kernel) ⟨Nat.le_of_ble_eq_true rfl, Nat.le_of_ble_eq_true rfl⟩) (va_recv hK hP (ci := 2) (q0 := 0) rfl rfl) hP hD hK hS hA hT rfl hl.1 rfl (Nat.le_of_ble_eq_true rfl) dX2_prove_117 ⟨Nat.zero_le _, Nat.zero_le _⟩ (fun H locs hP hD hS => ?_)
      have hP : va_P D vwCl (wM om am cI cZ (nI 0) tp (nI q) (nI y) (nI 1) (nI gL.length) (nI (m_tree ((gIt gL i).2.1) ((gIt gL i).2.2) ((pvI gL i (pt, b, g0.2)).2.1, (pvI gL i (pt, b, g0.2)).2.2)).1) (ptT ((gIt gL i).2.2) ((pvI gL i (pt, b, g0.2)).1)) (nI gL.length) gone g0.1 ((m_tree ((gIt gL i).2.1) ((gIt gL i).2.2) ((pvI gL i (pt, b, g0.2)).2.1, (pvI gL i (pt, b, g0.2)).2.2)).2)) H := hP
      have hD : va_D A (wM om am cI cZ (nI 0) tp (nI q) (nI y) (nI 1) (nI gL.length) (nI (m_tree ((gIt gL i).2.1) ((gIt gL i).2.2) ((pvI gL i (pt, b, g0.2)).2.1, (pvI gL i (pt, b, g0.2)).2.2)).1) (ptT ((gIt gL i).2.2) ((pvI gL i (pt, b, g0.2)).1)) (nI gL.length) gone g0.1 ((m_tree ((gIt gL i).2.1) ((gIt gL i).2.2) ((pvI gL i (pt, b, g0.2)).2.1, (pvI gL i (pt, b, g0.2)).2.2)).2)) := hD
      have hP : va_P D vwCl (wM om am cI cZ (nI 0) tp (nI q) (nI y) (nI 1) (nI gL.length) (nI (m_tree (gIt gL i).2.1 (gIt gL i).2.2 (pvI gL i (pt, b, g0.2)).2).1) (ptT (gIt gL i).2.2 (pvI gL i (pt, b, g0.2)).1) (nI gL.length) gone g0.1 ((m_tree (gIt gL i).2.1 (gIt gL i).2.2 (pvI gL i (pt, b, g0.2)).2).2)) H := by skip; exact hP
      have hD : va_D A (wM om am cI cZ (nI 0) tp (nI q) (nI y) (nI 1) (nI gL.length) (nI (m_tree (gIt gL i).2.1 (gIt gL i).2.2 (pvI gL i (pt, b, g0.2)).2).1) (ptT (gIt gL i).2.2 (pvI gL i (pt, b, g0.2)).1) (nI gL.length) gone g0.1 ((m_tree (gIt gL i).2.1 (gIt gL i).2.2 (pvI gL i (pt, b, g0.2)).2).2)) := by skip; exact hD
      refine lv_iconst (v := nI 0) hx hb dX2_prove_120 (by decide) ?_
      refine lv_istore (lv' := [(5, .int (nI 0)), (0, .ref (om 0)), (4, .int (nI i))]) hx hb dX2_prove_121 hl (by decide) rfl (fun ls hl => ?_)
      have hP : va_P D vwCl (wM om am cI cZ (nI 0) tp (nI q) (nI y) (nI 1) (nI gL.length) (nI (m_tree (gIt gL i).2.1 (gIt gL i).2.2 (pvI gL i (pt, b, g0.2)).2).1) (ptT (gIt gL i).2.2 (pvI gL i (pt, b, g0.2)).1) (nI gL.length) gone g0.1 (rcp 8 (32 * i) 2 0 0 ((m_tree (gIt gL i).2.1 (gIt gL i).2.2 (pvI gL i (pt, b, g0.2)).2).2))) H := by rw [rcp_0]; exact hP
      have hD : va_D A (wM om am cI cZ (nI 0) tp (nI q) (nI y) (nI 1) (nI gL.length) (nI (m_tree (gIt gL i).2.1 (gIt gL i).2.2 (pvI gL i (pt, b, g0.2)).2).1) (ptT (gIt gL i).2.2 (pvI gL i (pt, b, g0.2)).1) (nI gL.length) gone g0.1 (rcp 8 (32 * i) 2 0 0 ((m_tree (gIt gL i).2.1 (gIt gL i).2.2 (pvI gL i (pt, b, g0.2)).2).2))) := by rw [rcp_0]; exact hD
      exact lr 32 0 H locs ls (by omega) hP hD hS (lv_sub hl [1, 2, 0] rfl)
  refine lv_aload_n hx hb dX2_prove_0 rfl (lv_at hl 0 rfl) ?_
  refine lv_iload_n hx hb dX2_prove_1 rfl (lv_at hl 1 rfl) ?_
  refine mi_callV (C := RX2) (As := [.int (nI lf)]) (rest := []) ⟨hx, hb, hml, hown, hW⟩ (n_isLeaf (nI lf) q (by omega) mem) nE_ok (cwV 1 hW (gV tw_676 tw_678 tv_X2_isLeaf tw_3 tw_679) rfl rfl rfl (by decide +kernel) ⟨Nat.le_of_ble_eq_true rfl, Nat.le_of_ble_eq_true rfl⟩) (va_recv hK hP (ci := 2) (q0 := 0) rfl rfl) hP hD hK hS hA hT rfl hl.1 rfl (Nat.le_of_ble_eq_true rfl) dX2_prove_2 ⟨Nat.zero_le _, Nat.zero_le _⟩ (fun H locs hP hD hS => ?_)
  refine lv_eqi (v := nI 1) (by rw [x_req_nat hlf (by omega)]; rfl) ?_
  refine lv_if_eq (tgt := 20) hx hb dX2_prove_5 (by decide) (fun hq9 => absurd hq9 (by decide)) (fun _ => ?_)
  refine lv_aload_n hx hb dX2_prove_8 rfl (lv_at hl 0 rfl) ?_
  refine lv_iload_n hx hb dX2_prove_9 rfl (lv_at hl 2 rfl) ?_
  refine mi_callV (C := RX2) (As := [.int (nI d)]) (rest := []) ⟨hx, hb, hml, hown, hW⟩ (n_isDay (nI d) y (by omega) mem) nE_ok (cwV 1 hW (gV tw_665 tw_667 tv_X2_isDay tw_3 tw_668) rfl rfl rfl (by decide +kernel) ⟨Nat.le_of_ble_eq_true rfl, Nat.le_of_ble_eq_true rfl⟩) (va_recv hK hP (ci := 2) (q0 := 0) rfl rfl) hP hD hK hS hA hT rfl hl.1 rfl (Nat.le_of_ble_eq_true rfl) dX2_prove_10 ⟨Nat.zero_le _, Nat.zero_le _⟩ (fun H locs hP hD hS => ?_)
  refine lv_eqi (v := nI 1) (by rw [x_req_nat hd (by omega)]; rfl) ?_
  refine lv_if_eq (tgt := 20) hx hb dX2_prove_13 (by decide) (fun hq9 => absurd hq9 (by decide)) (fun _ => ?_)
  refine lv_iconst (v := nI 1) hx hb dX2_prove_16 (by decide) ?_
  refine lv_goto (tgt := 21) hx hb dX2_prove_17 (by decide) ?_
  refine lv_istore_n (lv' := [(3, .int (nI 1)), (0, .ref (om 0)), (1, .int (nI lf)), (2, .int (nI d))]) hx hb dX2_prove_21 rfl hl (by decide) rfl (fun ls hl => ?_)
  refine lv_aload_n hx hb dX2_prove_22 rfl (lv_at hl 1 rfl) ?_
  refine lv_iload_n hx hb dX2_prove_23 rfl (lv_at hl 0 rfl) ?_
  refine lv_iload_n hx hb dX2_prove_24 rfl (lv_at hl 0 rfl) ?_
  refine lv_if_eq (tgt := 42) hx hb dX2_prove_25 (by decide) (fun hq9 => absurd hq9 (by decide)) (fun _ => ?_)
  refine lv_iload_n hx hb dX2_prove_28 rfl (lv_at hl 2 rfl) ?_
  refine lv_aload_n hx hb dX2_prove_29 rfl (lv_at hl 1 rfl) ?_
  refine va_get (D := D) (ci := 2) (v := .ref (am 1)) (C := RX2) (T := TX2) (N := 25) hx hb hW iMD hown hK hP 0 rfl rfl 7 (by decide) (hW _ tw_521) (fun _ h9 => h9) rfl dX2_prove_30 ?_
  refine lv_iload_n hx hb dX2_prove_33 rfl (lv_at hl 3 rfl) ?_
  refine m_ld (X := wMx om am cZ th tp (nI q) (nI y) pv pm (nI b) pt wy gone oR) hx hb hK hP 0 1 d rfl (by decide) (show d < 12 by omega) (by decide) dX2_prove_34 ?_
  refine lv_eqi (v := nI cc0) (hm) ?_
  refine lv_icmp_ge (tgt := 42) hx hb dX2_prove_35 (by decide) (fun hq9 => absurd hq9 (nI_ge (by omega) (by omega))) (fun _ => ?_)
  refine lv_iconst (v := nI 1) hx hb dX2_prove_38 (by decide) ?_
  refine lv_goto (tgt := 43) hx hb dX2_prove_39 (by decide) ?_
  refine lv_iconst (v := nI 1) hx hb dX2_prove_43 (by decide) ?_
  refine mi_callV (C := RX2) (As := [.int (nI 1), .int (nI 1), .int (nI 1)]) (rest := []) ⟨hx, hb, hml, hown, hW⟩ (n_goes (nI 1) (nI 1) (nI 1) (nI 0) (nI 1) mem ((if_neg (by decide)).trans ((if_neg (by decide)).trans (if_neg (by decide)))) (by decide)) nE_ok (cwV 3 hW (gV tw_601 tw_603 tv_X2_goes tw_3 tw_604) rfl rfl rfl (by decide +kernel) ⟨Nat.le_of_ble_eq_true rfl, Nat.le_of_ble_eq_true rfl⟩) (va_recv hK hP (ci := 2) (q0 := 0) rfl rfl) hP hD hK hS hA hT rfl hl.1 rfl (Nat.le_of_ble_eq_true rfl) dX2_prove_44 ⟨Nat.zero_le _, Nat.zero_le _⟩ (fun H locs hP hD hS => ?_)
  have hP : va_P D vwCl (wM om am cI cZ (nI 0) tp (nI q) (nI y) pv pm (nI b) pt wy gone oR mem) H := hP
  have hD : va_D A (wM om am cI cZ (nI 0) tp (nI q) (nI y) pv pm (nI b) pt wy gone oR mem) := hD
  refine lv_if_ne (tgt := 52) hx hb dX2_prove_47 (by decide) (fun _ => ?_) (fun hq9 => absurd hq9 (by decide))
  refine lv_aload_n hx hb dX2_prove_52 rfl (lv_at hl 1 rfl) ?_
  refine lv_iload_n hx hb dX2_prove_53 rfl (lv_at hl 2 rfl) ?_
  refine lv_aload_n hx hb dX2_prove_54 rfl (lv_at hl 1 rfl) ?_
  refine va_get (D := D) (ci := 2) (v := .ref (am 1)) (C := RX2) (T := TX2) (N := 25) hx hb hW iMD hown hK hP 0 rfl rfl 7 (by decide) (hW _ tw_521) (fun _ h9 => h9) rfl dX2_prove_55 ?_
  refine lv_iload_n hx hb dX2_prove_58 rfl (lv_at hl 3 rfl) ?_
  refine m_ld (X := wMx om am cZ (nI 0) tp (nI q) (nI y) pv pm (nI b) pt wy gone oR) hx hb hK hP 0 1 d rfl (by decide) (show d < 12 by omega) (by decide) dX2_prove_59 ?_
  refine lv_eqi (v := nI cc0) (hm) ?_
  refine mv_callV (C := RX2) (As := [.int (nI lf), .int (nI cc0)]) (rest := []) ⟨hx, hb, hml, hown, hW⟩ (n_goTo lf cc0 (by omega) (by omega) mem) nE_ok (cwV 2 hW (gV tw_688 tw_690 tv_X2_goTo tw_3 tw_691) rfl rfl rfl (by decide +kernel) ⟨Nat.le_of_ble_eq_true rfl, Nat.le_of_ble_eq_true rfl⟩) (va_recv hK hP (ci := 2) (q0 := 0) rfl rfl) hP hD hK hS hA hT rfl hl.1 rfl (Nat.le_of_ble_eq_true rfl) dX2_prove_60 ⟨Nat.zero_le _, Nat.zero_le _⟩ (fun H locs hP hD hS => ?_)
  have hP : va_P D vwCl (wM om am cI cZ (nI 0) tp (nI q) (nI y) pv pm (nI b) pt (nI (glist lf cc0).length) gone ((gW (glist lf cc0) 0 (oR, mem)).1) ((gW (glist lf cc0) 0 (oR, mem)).2)) H := hP
  have hD : va_D A (wM om am cI cZ (nI 0) tp (nI q) (nI y) pv pm (nI b) pt (nI (glist lf cc0).length) gone ((gW (glist lf cc0) 0 (oR, mem)).1) ((gW (glist lf cc0) 0 (oR, mem)).2)) := hD
  rw [hG, hG0] at hP hD
  refine lv_aload_n hx hb dX2_prove_63 rfl (lv_at hl 1 rfl) ?_
  refine lv_aload_n hx hb dX2_prove_64 rfl (lv_at hl 1 rfl) ?_
  refine va_get (D := D) (ci := 2) (v := .int (nI gL.length)) (C := RX2) (T := TX2) (N := 25) hx hb hW iMD hown hK hP 0 rfl rfl 20 (by decide) (hW _ tw_534) (fun _ h9 => h9) rfl dX2_prove_65 ?_
  refine va_put (D := D) (ci := 2) (v := .int (nI gL.length)) (ty := .int) (C := RX2) (T := TX2) (N := 25) hx hb hW iMD tyX2 tyX2_ok nmX2 hown hK hP hD hS 0 rfl rfl 10 (by decide) (hW _ tw_524) (fun _ h9 => h9) rfl (by decide +kernel) rfl rfl (Nat.le_of_ble_eq_true rfl) dX2_prove_68 (fun H locs hP hD hS => ?_)
  have hP : va_P D vwCl (wM om am cI cZ (nI 0) tp (nI q) (nI y) pv (nI gL.length) (nI b) pt (nI gL.length) gone g0.1 g0.2) H := hP
  have hD : va_D A (wM om am cI cZ (nI 0) tp (nI q) (nI y) pv (nI gL.length) (nI b) pt (nI gL.length) gone g0.1 g0.2) := hD
  refine lv_aload_n hx hb dX2_prove_71 rfl (lv_at hl 1 rfl) ?_
  refine lv_iconst (v := nI 1) hx hb dX2_prove_72 (by decide) ?_
  refine va_put (D := D) (ci := 2) (v := .int (nI 1)) (ty := .boolean) (C := RX2) (T := TX2) (N := 25) hx hb hW iMD tyX2 tyX2_ok nmX2 hown hK hP hD hS 0 rfl rfl 9 (by decide) (hW _ tw_523) (fun _ h9 => h9) rfl (by decide +kernel) rfl rfl (Nat.le_of_ble_eq_true rfl) dX2_prove_73 (fun H locs hP hD hS => ?_)
  have hP : va_P D vwCl (wM om am cI cZ (nI 0) tp (nI q) (nI y) (nI 1) (nI gL.length) (nI b) pt (nI gL.length) gone g0.1 g0.2) H := hP
  have hD : va_D A (wM om am cI cZ (nI 0) tp (nI q) (nI y) (nI 1) (nI gL.length) (nI b) pt (nI gL.length) gone g0.1 g0.2) := hD
  refine lv_iconst (v := nI 0) hx hb dX2_prove_76 (by decide) ?_
  refine lv_istore (lv' := [(4, .int (nI 0)), (3, .int (nI 1)), (0, .ref (om 0)), (1, .int (nI lf)), (2, .int (nI d))]) hx hb dX2_prove_77 hl (by decide) rfl (fun ls hl => ?_)
  have hP : va_P D vwCl (wM om am cI cZ (nI 0) tp (nI q) (nI y) (nI 1) (nI gL.length) (nI (pvI gL 0 (pt, b, g0.2)).2.1) ((pvI gL 0 (pt, b, g0.2)).1) (nI gL.length) gone g0.1 ((pvI gL 0 (pt, b, g0.2)).2.2)) H := by skip; exact hP
  have hD : va_D A (wM om am cI cZ (nI 0) tp (nI q) (nI y) (nI 1) (nI gL.length) (nI (pvI gL 0 (pt, b, g0.2)).2.1) ((pvI gL 0 (pt, b, g0.2)).1) (nI gL.length) gone g0.1 ((pvI gL 0 (pt, b, g0.2)).2.2)) := by skip; exact hD
  exact lo gL.length 0 H locs ls (by omega) hP hD hS (lv_sub hl [2, 0] rfl)
set_option maxHeartbeats 800000 in
set_option maxRecDepth 100000 in
theorem n_check_no {l : Launch} {D : va_G} {om am : Nat → Nat} {cI cZ cG : ClassId} {th tp pv pt wy : Int32} {gone oR : Nat → Int32} (q y b pq : Nat) (hq : q ≤ 24) (hy : y ≤ 12) (hpv : pv = 0 ∨ pv = nI 1) (v u x k0 : Int32) (mem : xMem) (nm : String) (hX : (x_req v (nI q)).or ((x_req u (nI y)).or ((x_if (pv = 0) nISE).or (x_if (x < 0 ∨ ¬ x < k0) nIAE))) = some nm) : MI l nE yX2_check (.code yX2_check cX2_check 7 (some .int) :: tW) ({ frames := 4, cells := 0, slots := 0, locals := 100 }) D vwCl (tC cI cZ cG) [.ref (om 0), .int v, .int u, .int x, .int k0] (wM om am cI cZ th tp (nI q) (nI y) pv (nI pq) (nI b) pt wy gone oR mem) (wM om am cI cZ (cdL [nIOB, nISE, nIAE] nm) tp (nI q) (nI y) pv (nI pq) (nI b) pt wy gone oR mem) (nI 0) := by
  refine MI.ofW (by decide +kernel) rfl (Nat.le_of_ble_eq_true rfl) ?_
  intro p e s m below meth c A ls hx hb hr hts hown hlk hml hA hP hK hD hT hl
  have hS : va_S A s.heap s.heap [] := va_S.rf
  have hown : s.vm.findClass RX2 = some m.cls := hown
  have hW : ∀ w ∈ tW, w.before _ s = true := fun w h => hts w (List.mem_cons_of_mem _ h)
  have hl : lv_has ls 7 [(0, .ref (om 0)), (1, .int v), (2, .int u), (3, .int x), (4, .int k0)] := hl
  rcases x_or_some hX with hg1 | ⟨hg1, hY1⟩
  · skip
    have hn9 := x_req_some hg1
    skip
    refine lv_aload_n hx hb dX2_check_0 rfl (lv_at hl 0 rfl) ?_
    refine lv_aload_n hx hb dX2_check_1 rfl (lv_at hl 0 rfl) ?_
    refine lv_iload_n hx hb dX2_check_2 rfl (lv_at hl 1 rfl) ?_
    refine mi_callV (C := RX2) (As := [.int v]) (rest := [.ref (om 0)]) ⟨hx, hb, hml, hown, hW⟩ (n_isLeaf v q (by omega) mem) nE_ok (cwV 1 hW (gV tw_676 tw_678 tv_X2_isLeaf tw_3 tw_679) rfl rfl rfl (by decide +kernel) ⟨Nat.le_of_ble_eq_true rfl, Nat.le_of_ble_eq_true rfl⟩) (va_recv hK hP (ci := 2) (q0 := 0) rfl rfl) hP hD hK hS hA hT rfl hl.1 rfl (Nat.le_of_ble_eq_true rfl) dX2_check_3 ⟨Nat.zero_le _, Nat.zero_le _⟩ (fun H locs hP hD hS => ?_)
    refine lv_eqi (v := nI 0) (by rw [hg1]; rfl) ?_
    refine lv_if_eq (tgt := 21) hx hb dX2_check_6 (by decide) (fun _ => ?_) (fun hq9 => absurd (by decide) hq9)
    refine lv_iconst (v := nI 0) hx hb dX2_check_21 (by decide) ?_
    refine lv_aload_n hx hb dX2_check_22 rfl (lv_at hl 0 rfl) ?_
    refine va_get (D := D) (ci := 2) (v := .int pv) (C := RX2) (T := TX2) (N := 25) hx hb hW iMD hown hK hP 0 rfl rfl 9 (by decide) (hW _ tw_523) (fun _ h9 => h9) rfl dX2_check_23 ?_
    refine lv_iload_n hx hb dX2_check_26 rfl (lv_at hl 3 rfl) ?_
    refine lv_if_lt (tgt := 40) hx hb dX2_check_27 (by decide) (fun hq1 => ?_) (fun hq1 => ?_)
    · refine lv_iconst (v := nI 0) hx hb dX2_check_40 (by decide) ?_
      refine mi_callV (C := RX2) (As := [.int (nI 0), .int pv, .int (nI 0)]) (rest := []) ⟨hx, hb, hml, hown, hW⟩ (n_goes (nI 0) pv (nI 0) (nI 1) (nI 0) mem (if_pos (by decide)) (by decide)) nE_ok (cwV 3 hW (gV tw_601 tw_603 tv_X2_goes tw_3 tw_604) rfl rfl rfl (by decide +kernel) ⟨Nat.le_of_ble_eq_true rfl, Nat.le_of_ble_eq_true rfl⟩) (va_recv hK hP (ci := 2) (q0 := 0) rfl rfl) hP hD hK hS hA hT rfl hl.1 rfl (Nat.le_of_ble_eq_true rfl) dX2_check_41 ⟨Nat.zero_le _, Nat.zero_le _⟩ (fun H locs hP hD hS => ?_)
      have hP : va_P D vwCl (wM om am cI cZ (nI 1) tp (nI q) (nI y) pv (nI pq) (nI b) pt wy gone oR mem) H := hP
      have hD : va_D A (wM om am cI cZ (nI 1) tp (nI q) (nI y) pv (nI pq) (nI b) pt wy gone oR mem) := hD
      refine lv_if_ne (tgt := 49) hx hb dX2_check_44 (by decide) (fun hq9 => absurd (by decide) hq9) (fun _ => ?_)
      refine lv_iconst (v := nI 0) hx hb dX2_check_47 (by decide) ?_
      have hP : va_P D vwCl (wM om am cI cZ (cdL [nIOB, nISE, nIAE] nm) tp (nI q) (nI y) pv (nI pq) (nI b) pt wy gone oR mem) H := by rw [show cdL [nIOB, nISE, nIAE] nm = nI 1 from by rw [hn9]; decide +kernel]; exact hP
      have hD : va_D A (wM om am cI cZ (cdL [nIOB, nISE, nIAE] nm) tp (nI q) (nI y) pv (nI pq) (nI b) pt wy gone oR mem) := by rw [show cdL [nIOB, nISE, nIAE] nm = nI 1 from by rw [hn9]; decide +kernel]; exact hD
      exact mi_ret hx hb hr (rfl) hlk hS hP hD (rfl) dX2_check_48
    · refine lv_iload_n hx hb dX2_check_30 rfl (lv_at hl 3 rfl) ?_
      refine lv_iload hx hb dX2_check_31 (lv_at hl 4 rfl) ?_
      refine lv_icmp_ge (tgt := 40) hx hb dX2_check_33 (by decide) (fun hq2 => ?_) (fun hq2 => ?_)
      · refine lv_iconst (v := nI 0) hx hb dX2_check_40 (by decide) ?_
        refine mi_callV (C := RX2) (As := [.int (nI 0), .int pv, .int (nI 0)]) (rest := []) ⟨hx, hb, hml, hown, hW⟩ (n_goes (nI 0) pv (nI 0) (nI 1) (nI 0) mem (if_pos (by decide)) (by decide)) nE_ok (cwV 3 hW (gV tw_601 tw_603 tv_X2_goes tw_3 tw_604) rfl rfl rfl (by decide +kernel) ⟨Nat.le_of_ble_eq_true rfl, Nat.le_of_ble_eq_true rfl⟩) (va_recv hK hP (ci := 2) (q0 := 0) rfl rfl) hP hD hK hS hA hT rfl hl.1 rfl (Nat.le_of_ble_eq_true rfl) dX2_check_41 ⟨Nat.zero_le _, Nat.zero_le _⟩ (fun H locs hP hD hS => ?_)
        have hP : va_P D vwCl (wM om am cI cZ (nI 1) tp (nI q) (nI y) pv (nI pq) (nI b) pt wy gone oR mem) H := hP
        have hD : va_D A (wM om am cI cZ (nI 1) tp (nI q) (nI y) pv (nI pq) (nI b) pt wy gone oR mem) := hD
        refine lv_if_ne (tgt := 49) hx hb dX2_check_44 (by decide) (fun hq9 => absurd (by decide) hq9) (fun _ => ?_)
        refine lv_iconst (v := nI 0) hx hb dX2_check_47 (by decide) ?_
        have hP : va_P D vwCl (wM om am cI cZ (cdL [nIOB, nISE, nIAE] nm) tp (nI q) (nI y) pv (nI pq) (nI b) pt wy gone oR mem) H := by rw [show cdL [nIOB, nISE, nIAE] nm = nI 1 from by rw [hn9]; decide +kernel]; exact hP
        have hD : va_D A (wM om am cI cZ (cdL [nIOB, nISE, nIAE] nm) tp (nI q) (nI y) pv (nI pq) (nI b) pt wy gone oR mem) := by rw [show cdL [nIOB, nISE, nIAE] nm = nI 1 from by rw [hn9]; decide +kernel]; exact hD
        exact mi_ret hx hb hr (rfl) hlk hS hP hD (rfl) dX2_check_48
      · refine lv_iconst (v := nI 1) hx hb dX2_check_36 (by decide) ?_
        refine lv_goto (tgt := 41) hx hb dX2_check_37 (by decide) ?_
        refine mi_callV (C := RX2) (As := [.int (nI 0), .int pv, .int (nI 1)]) (rest := []) ⟨hx, hb, hml, hown, hW⟩ (n_goes (nI 0) pv (nI 1) (nI 1) (nI 0) mem (if_pos (by decide)) (by decide)) nE_ok (cwV 3 hW (gV tw_601 tw_603 tv_X2_goes tw_3 tw_604) rfl rfl rfl (by decide +kernel) ⟨Nat.le_of_ble_eq_true rfl, Nat.le_of_ble_eq_true rfl⟩) (va_recv hK hP (ci := 2) (q0 := 0) rfl rfl) hP hD hK hS hA hT rfl hl.1 rfl (Nat.le_of_ble_eq_true rfl) dX2_check_41 ⟨Nat.zero_le _, Nat.zero_le _⟩ (fun H locs hP hD hS => ?_)
        have hP : va_P D vwCl (wM om am cI cZ (nI 1) tp (nI q) (nI y) pv (nI pq) (nI b) pt wy gone oR mem) H := hP
        have hD : va_D A (wM om am cI cZ (nI 1) tp (nI q) (nI y) pv (nI pq) (nI b) pt wy gone oR mem) := hD
        refine lv_if_ne (tgt := 49) hx hb dX2_check_44 (by decide) (fun hq9 => absurd (by decide) hq9) (fun _ => ?_)
        refine lv_iconst (v := nI 0) hx hb dX2_check_47 (by decide) ?_
        have hP : va_P D vwCl (wM om am cI cZ (cdL [nIOB, nISE, nIAE] nm) tp (nI q) (nI y) pv (nI pq) (nI b) pt wy gone oR mem) H := by rw [show cdL [nIOB, nISE, nIAE] nm = nI 1 from by rw [hn9]; decide +kernel]; exact hP
        have hD : va_D A (wM om am cI cZ (cdL [nIOB, nISE, nIAE] nm) tp (nI q) (nI y) pv (nI pq) (nI b) pt wy gone oR mem) := by rw [show cdL [nIOB, nISE, nIAE] nm = nI 1 from by rw [hn9]; decide +kernel]; exact hD
        exact mi_ret hx hb hr (rfl) hlk hS hP hD (rfl) dX2_check_48
  · skip
    rcases x_or_some hY1 with hg2 | ⟨hg2, hY2⟩
    · skip
      have hn9 := x_req_some hg2
      skip
      refine lv_aload_n hx hb dX2_check_0 rfl (lv_at hl 0 rfl) ?_
      refine lv_aload_n hx hb dX2_check_1 rfl (lv_at hl 0 rfl) ?_
      refine lv_iload_n hx hb dX2_check_2 rfl (lv_at hl 1 rfl) ?_
      refine mi_callV (C := RX2) (As := [.int v]) (rest := [.ref (om 0)]) ⟨hx, hb, hml, hown, hW⟩ (n_isLeaf v q (by omega) mem) nE_ok (cwV 1 hW (gV tw_676 tw_678 tv_X2_isLeaf tw_3 tw_679) rfl rfl rfl (by decide +kernel) ⟨Nat.le_of_ble_eq_true rfl, Nat.le_of_ble_eq_true rfl⟩) (va_recv hK hP (ci := 2) (q0 := 0) rfl rfl) hP hD hK hS hA hT rfl hl.1 rfl (Nat.le_of_ble_eq_true rfl) dX2_check_3 ⟨Nat.zero_le _, Nat.zero_le _⟩ (fun H locs hP hD hS => ?_)
      refine lv_eqi (v := nI 1) (by rw [hg1]; rfl) ?_
      refine lv_if_eq (tgt := 21) hx hb dX2_check_6 (by decide) (fun hq9 => absurd hq9 (by decide)) (fun _ => ?_)
      refine lv_aload_n hx hb dX2_check_9 rfl (lv_at hl 0 rfl) ?_
      refine lv_iload_n hx hb dX2_check_10 rfl (lv_at hl 2 rfl) ?_
      refine mi_callV (C := RX2) (As := [.int u]) (rest := [.ref (om 0)]) ⟨hx, hb, hml, hown, hW⟩ (n_isDay u y (by omega) mem) nE_ok (cwV 1 hW (gV tw_665 tw_667 tv_X2_isDay tw_3 tw_668) rfl rfl rfl (by decide +kernel) ⟨Nat.le_of_ble_eq_true rfl, Nat.le_of_ble_eq_true rfl⟩) (va_recv hK hP (ci := 2) (q0 := 0) rfl rfl) hP hD hK hS hA hT rfl hl.1 rfl (Nat.le_of_ble_eq_true rfl) dX2_check_11 ⟨Nat.zero_le _, Nat.zero_le _⟩ (fun H locs hP hD hS => ?_)
      refine lv_eqi (v := nI 0) (by rw [hg2]; rfl) ?_
      refine lv_if_eq (tgt := 21) hx hb dX2_check_14 (by decide) (fun _ => ?_) (fun hq9 => absurd (by decide) hq9)
      refine lv_iconst (v := nI 0) hx hb dX2_check_21 (by decide) ?_
      refine lv_aload_n hx hb dX2_check_22 rfl (lv_at hl 0 rfl) ?_
      refine va_get (D := D) (ci := 2) (v := .int pv) (C := RX2) (T := TX2) (N := 25) hx hb hW iMD hown hK hP 0 rfl rfl 9 (by decide) (hW _ tw_523) (fun _ h9 => h9) rfl dX2_check_23 ?_
      refine lv_iload_n hx hb dX2_check_26 rfl (lv_at hl 3 rfl) ?_
      refine lv_if_lt (tgt := 40) hx hb dX2_check_27 (by decide) (fun hq1 => ?_) (fun hq1 => ?_)
      · refine lv_iconst (v := nI 0) hx hb dX2_check_40 (by decide) ?_
        refine mi_callV (C := RX2) (As := [.int (nI 0), .int pv, .int (nI 0)]) (rest := []) ⟨hx, hb, hml, hown, hW⟩ (n_goes (nI 0) pv (nI 0) (nI 1) (nI 0) mem (if_pos (by decide)) (by decide)) nE_ok (cwV 3 hW (gV tw_601 tw_603 tv_X2_goes tw_3 tw_604) rfl rfl rfl (by decide +kernel) ⟨Nat.le_of_ble_eq_true rfl, Nat.le_of_ble_eq_true rfl⟩) (va_recv hK hP (ci := 2) (q0 := 0) rfl rfl) hP hD hK hS hA hT rfl hl.1 rfl (Nat.le_of_ble_eq_true rfl) dX2_check_41 ⟨Nat.zero_le _, Nat.zero_le _⟩ (fun H locs hP hD hS => ?_)
        have hP : va_P D vwCl (wM om am cI cZ (nI 1) tp (nI q) (nI y) pv (nI pq) (nI b) pt wy gone oR mem) H := hP
        have hD : va_D A (wM om am cI cZ (nI 1) tp (nI q) (nI y) pv (nI pq) (nI b) pt wy gone oR mem) := hD
        refine lv_if_ne (tgt := 49) hx hb dX2_check_44 (by decide) (fun hq9 => absurd (by decide) hq9) (fun _ => ?_)
        refine lv_iconst (v := nI 0) hx hb dX2_check_47 (by decide) ?_
        have hP : va_P D vwCl (wM om am cI cZ (cdL [nIOB, nISE, nIAE] nm) tp (nI q) (nI y) pv (nI pq) (nI b) pt wy gone oR mem) H := by rw [show cdL [nIOB, nISE, nIAE] nm = nI 1 from by rw [hn9]; decide +kernel]; exact hP
        have hD : va_D A (wM om am cI cZ (cdL [nIOB, nISE, nIAE] nm) tp (nI q) (nI y) pv (nI pq) (nI b) pt wy gone oR mem) := by rw [show cdL [nIOB, nISE, nIAE] nm = nI 1 from by rw [hn9]; decide +kernel]; exact hD
        exact mi_ret hx hb hr (rfl) hlk hS hP hD (rfl) dX2_check_48
      · refine lv_iload_n hx hb dX2_check_30 rfl (lv_at hl 3 rfl) ?_
        refine lv_iload hx hb dX2_check_31 (lv_at hl 4 rfl) ?_
        refine lv_icmp_ge (tgt := 40) hx hb dX2_check_33 (by decide) (fun hq2 => ?_) (fun hq2 => ?_)
        · refine lv_iconst (v := nI 0) hx hb dX2_check_40 (by decide) ?_
          refine mi_callV (C := RX2) (As := [.int (nI 0), .int pv, .int (nI 0)]) (rest := []) ⟨hx, hb, hml, hown, hW⟩ (n_goes (nI 0) pv (nI 0) (nI 1) (nI 0) mem (if_pos (by decide)) (by decide)) nE_ok (cwV 3 hW (gV tw_601 tw_603 tv_X2_goes tw_3 tw_604) rfl rfl rfl (by decide +kernel) ⟨Nat.le_of_ble_eq_true rfl, Nat.le_of_ble_eq_true rfl⟩) (va_recv hK hP (ci := 2) (q0 := 0) rfl rfl) hP hD hK hS hA hT rfl hl.1 rfl (Nat.le_of_ble_eq_true rfl) dX2_check_41 ⟨Nat.zero_le _, Nat.zero_le _⟩ (fun H locs hP hD hS => ?_)
          have hP : va_P D vwCl (wM om am cI cZ (nI 1) tp (nI q) (nI y) pv (nI pq) (nI b) pt wy gone oR mem) H := hP
          have hD : va_D A (wM om am cI cZ (nI 1) tp (nI q) (nI y) pv (nI pq) (nI b) pt wy gone oR mem) := hD
          refine lv_if_ne (tgt := 49) hx hb dX2_check_44 (by decide) (fun hq9 => absurd (by decide) hq9) (fun _ => ?_)
          refine lv_iconst (v := nI 0) hx hb dX2_check_47 (by decide) ?_
          have hP : va_P D vwCl (wM om am cI cZ (cdL [nIOB, nISE, nIAE] nm) tp (nI q) (nI y) pv (nI pq) (nI b) pt wy gone oR mem) H := by rw [show cdL [nIOB, nISE, nIAE] nm = nI 1 from by rw [hn9]; decide +kernel]; exact hP
          have hD : va_D A (wM om am cI cZ (cdL [nIOB, nISE, nIAE] nm) tp (nI q) (nI y) pv (nI pq) (nI b) pt wy gone oR mem) := by rw [show cdL [nIOB, nISE, nIAE] nm = nI 1 from by rw [hn9]; decide +kernel]; exact hD
          exact mi_ret hx hb hr (rfl) hlk hS hP hD (rfl) dX2_check_48
        · refine lv_iconst (v := nI 1) hx hb dX2_check_36 (by decide) ?_
          refine lv_goto (tgt := 41) hx hb dX2_check_37 (by decide) ?_
          refine mi_callV (C := RX2) (As := [.int (nI 0), .int pv, .int (nI 1)]) (rest := []) ⟨hx, hb, hml, hown, hW⟩ (n_goes (nI 0) pv (nI 1) (nI 1) (nI 0) mem (if_pos (by decide)) (by decide)) nE_ok (cwV 3 hW (gV tw_601 tw_603 tv_X2_goes tw_3 tw_604) rfl rfl rfl (by decide +kernel) ⟨Nat.le_of_ble_eq_true rfl, Nat.le_of_ble_eq_true rfl⟩) (va_recv hK hP (ci := 2) (q0 := 0) rfl rfl) hP hD hK hS hA hT rfl hl.1 rfl (Nat.le_of_ble_eq_true rfl) dX2_check_41 ⟨Nat.zero_le _, Nat.zero_le _⟩ (fun H locs hP hD hS => ?_)
          have hP : va_P D vwCl (wM om am cI cZ (nI 1) tp (nI q) (nI y) pv (nI pq) (nI b) pt wy gone oR mem) H := hP
          have hD : va_D A (wM om am cI cZ (nI 1) tp (nI q) (nI y) pv (nI pq) (nI b) pt wy gone oR mem) := hD
          refine lv_if_ne (tgt := 49) hx hb dX2_check_44 (by decide) (fun hq9 => absurd (by decide) hq9) (fun _ => ?_)
          refine lv_iconst (v := nI 0) hx hb dX2_check_47 (by decide) ?_
          have hP : va_P D vwCl (wM om am cI cZ (cdL [nIOB, nISE, nIAE] nm) tp (nI q) (nI y) pv (nI pq) (nI b) pt wy gone oR mem) H := by rw [show cdL [nIOB, nISE, nIAE] nm = nI 1 from by rw [hn9]; decide +kernel]; exact hP
          have hD : va_D A (wM om am cI cZ (cdL [nIOB, nISE, nIAE] nm) tp (nI q) (nI y) pv (nI pq) (nI b) pt wy gone oR mem) := by rw [show cdL [nIOB, nISE, nIAE] nm = nI 1 from by rw [hn9]; decide +kernel]; exact hD
          exact mi_ret hx hb hr (rfl) hlk hS hP hD (rfl) dX2_check_48
    · skip
      rcases x_or_some hY2 with hg3 | ⟨hg3, hY3⟩
      · skip
        obtain ⟨hn9, hc9⟩ := x_if_some hg3
        skip
        refine lv_aload_n hx hb dX2_check_0 rfl (lv_at hl 0 rfl) ?_
        refine lv_aload_n hx hb dX2_check_1 rfl (lv_at hl 0 rfl) ?_
        refine lv_iload_n hx hb dX2_check_2 rfl (lv_at hl 1 rfl) ?_
        refine mi_callV (C := RX2) (As := [.int v]) (rest := [.ref (om 0)]) ⟨hx, hb, hml, hown, hW⟩ (n_isLeaf v q (by omega) mem) nE_ok (cwV 1 hW (gV tw_676 tw_678 tv_X2_isLeaf tw_3 tw_679) rfl rfl rfl (by decide +kernel) ⟨Nat.le_of_ble_eq_true rfl, Nat.le_of_ble_eq_true rfl⟩) (va_recv hK hP (ci := 2) (q0 := 0) rfl rfl) hP hD hK hS hA hT rfl hl.1 rfl (Nat.le_of_ble_eq_true rfl) dX2_check_3 ⟨Nat.zero_le _, Nat.zero_le _⟩ (fun H locs hP hD hS => ?_)
        refine lv_eqi (v := nI 1) (by rw [hg1]; rfl) ?_
        refine lv_if_eq (tgt := 21) hx hb dX2_check_6 (by decide) (fun hq9 => absurd hq9 (by decide)) (fun _ => ?_)
        refine lv_aload_n hx hb dX2_check_9 rfl (lv_at hl 0 rfl) ?_
        refine lv_iload_n hx hb dX2_check_10 rfl (lv_at hl 2 rfl) ?_
        refine mi_callV (C := RX2) (As := [.int u]) (rest := [.ref (om 0)]) ⟨hx, hb, hml, hown, hW⟩ (n_isDay u y (by omega) mem) nE_ok (cwV 1 hW (gV tw_665 tw_667 tv_X2_isDay tw_3 tw_668) rfl rfl rfl (by decide +kernel) ⟨Nat.le_of_ble_eq_true rfl, Nat.le_of_ble_eq_true rfl⟩) (va_recv hK hP (ci := 2) (q0 := 0) rfl rfl) hP hD hK hS hA hT rfl hl.1 rfl (Nat.le_of_ble_eq_true rfl) dX2_check_11 ⟨Nat.zero_le _, Nat.zero_le _⟩ (fun H locs hP hD hS => ?_)
        refine lv_eqi (v := nI 1) (by rw [hg2]; rfl) ?_
        refine lv_if_eq (tgt := 21) hx hb dX2_check_14 (by decide) (fun hq9 => absurd hq9 (by decide)) (fun _ => ?_)
        refine lv_iconst (v := nI 1) hx hb dX2_check_17 (by decide) ?_
        refine lv_goto (tgt := 22) hx hb dX2_check_18 (by decide) ?_
        refine lv_aload_n hx hb dX2_check_22 rfl (lv_at hl 0 rfl) ?_
        refine va_get (D := D) (ci := 2) (v := .int pv) (C := RX2) (T := TX2) (N := 25) hx hb hW iMD hown hK hP 0 rfl rfl 9 (by decide) (hW _ tw_523) (fun _ h9 => h9) rfl dX2_check_23 ?_
        refine lv_eqi (v := nI 0) (hc9) ?_
        refine lv_iload_n hx hb dX2_check_26 rfl (lv_at hl 3 rfl) ?_
        refine lv_if_lt (tgt := 40) hx hb dX2_check_27 (by decide) (fun hq1 => ?_) (fun hq1 => ?_)
        · refine lv_iconst (v := nI 0) hx hb dX2_check_40 (by decide) ?_
          refine mi_callV (C := RX2) (As := [.int (nI 1), .int (nI 0), .int (nI 0)]) (rest := []) ⟨hx, hb, hml, hown, hW⟩ (n_goes (nI 1) (nI 0) (nI 0) (nI 2) (nI 0) mem ((if_neg (by decide)).trans (if_pos (by decide))) (by decide)) nE_ok (cwV 3 hW (gV tw_601 tw_603 tv_X2_goes tw_3 tw_604) rfl rfl rfl (by decide +kernel) ⟨Nat.le_of_ble_eq_true rfl, Nat.le_of_ble_eq_true rfl⟩) (va_recv hK hP (ci := 2) (q0 := 0) rfl rfl) hP hD hK hS hA hT rfl hl.1 rfl (Nat.le_of_ble_eq_true rfl) dX2_check_41 ⟨Nat.zero_le _, Nat.zero_le _⟩ (fun H locs hP hD hS => ?_)
          have hP : va_P D vwCl (wM om am cI cZ (nI 2) tp (nI q) (nI y) pv (nI pq) (nI b) pt wy gone oR mem) H := hP
          have hD : va_D A (wM om am cI cZ (nI 2) tp (nI q) (nI y) pv (nI pq) (nI b) pt wy gone oR mem) := hD
          refine lv_if_ne (tgt := 49) hx hb dX2_check_44 (by decide) (fun hq9 => absurd (by decide) hq9) (fun _ => ?_)
          refine lv_iconst (v := nI 0) hx hb dX2_check_47 (by decide) ?_
          have hP : va_P D vwCl (wM om am cI cZ (cdL [nIOB, nISE, nIAE] nm) tp (nI q) (nI y) pv (nI pq) (nI b) pt wy gone oR mem) H := by rw [show cdL [nIOB, nISE, nIAE] nm = nI 2 from by rw [hn9]; decide +kernel]; exact hP
          have hD : va_D A (wM om am cI cZ (cdL [nIOB, nISE, nIAE] nm) tp (nI q) (nI y) pv (nI pq) (nI b) pt wy gone oR mem) := by rw [show cdL [nIOB, nISE, nIAE] nm = nI 2 from by rw [hn9]; decide +kernel]; exact hD
          exact mi_ret hx hb hr (rfl) hlk hS hP hD (rfl) dX2_check_48
        · refine lv_iload_n hx hb dX2_check_30 rfl (lv_at hl 3 rfl) ?_
          refine lv_iload hx hb dX2_check_31 (lv_at hl 4 rfl) ?_
          refine lv_icmp_ge (tgt := 40) hx hb dX2_check_33 (by decide) (fun hq2 => ?_) (fun hq2 => ?_)
          · refine lv_iconst (v := nI 0) hx hb dX2_check_40 (by decide) ?_
            refine mi_callV (C := RX2) (As := [.int (nI 1), .int (nI 0), .int (nI 0)]) (rest := []) ⟨hx, hb, hml, hown, hW⟩ (n_goes (nI 1) (nI 0) (nI 0) (nI 2) (nI 0) mem ((if_neg (by decide)).trans (if_pos (by decide))) (by decide)) nE_ok (cwV 3 hW (gV tw_601 tw_603 tv_X2_goes tw_3 tw_604) rfl rfl rfl (by decide +kernel) ⟨Nat.le_of_ble_eq_true rfl, Nat.le_of_ble_eq_true rfl⟩) (va_recv hK hP (ci := 2) (q0 := 0) rfl rfl) hP hD hK hS hA hT rfl hl.1 rfl (Nat.le_of_ble_eq_true rfl) dX2_check_41 ⟨Nat.zero_le _, Nat.zero_le _⟩ (fun H locs hP hD hS => ?_)
            have hP : va_P D vwCl (wM om am cI cZ (nI 2) tp (nI q) (nI y) pv (nI pq) (nI b) pt wy gone oR mem) H := hP
            have hD : va_D A (wM om am cI cZ (nI 2) tp (nI q) (nI y) pv (nI pq) (nI b) pt wy gone oR mem) := hD
            refine lv_if_ne (tgt := 49) hx hb dX2_check_44 (by decide) (fun hq9 => absurd (by decide) hq9) (fun _ => ?_)
            refine lv_iconst (v := nI 0) hx hb dX2_check_47 (by decide) ?_
            have hP : va_P D vwCl (wM om am cI cZ (cdL [nIOB, nISE, nIAE] nm) tp (nI q) (nI y) pv (nI pq) (nI b) pt wy gone oR mem) H := by rw [show cdL [nIOB, nISE, nIAE] nm = nI 2 from by rw [hn9]; decide +kernel]; exact hP
            have hD : va_D A (wM om am cI cZ (cdL [nIOB, nISE, nIAE] nm) tp (nI q) (nI y) pv (nI pq) (nI b) pt wy gone oR mem) := by rw [show cdL [nIOB, nISE, nIAE] nm = nI 2 from by rw [hn9]; decide +kernel]; exact hD
            exact mi_ret hx hb hr (rfl) hlk hS hP hD (rfl) dX2_check_48
          · refine lv_iconst (v := nI 1) hx hb dX2_check_36 (by decide) ?_
            refine lv_goto (tgt := 41) hx hb dX2_check_37 (by decide) ?_
            refine mi_callV (C := RX2) (As := [.int (nI 1), .int (nI 0), .int (nI 1)]) (rest := []) ⟨hx, hb, hml, hown, hW⟩ (n_goes (nI 1) (nI 0) (nI 1) (nI 2) (nI 0) mem ((if_neg (by decide)).trans (if_pos (by decide))) (by decide)) nE_ok (cwV 3 hW (gV tw_601 tw_603 tv_X2_goes tw_3 tw_604) rfl rfl rfl (by decide +kernel) ⟨Nat.le_of_ble_eq_true rfl, Nat.le_of_ble_eq_true rfl⟩) (va_recv hK hP (ci := 2) (q0 := 0) rfl rfl) hP hD hK hS hA hT rfl hl.1 rfl (Nat.le_of_ble_eq_true rfl) dX2_check_41 ⟨Nat.zero_le _, Nat.zero_le _⟩ (fun H locs hP hD hS => ?_)
            have hP : va_P D vwCl (wM om am cI cZ (nI 2) tp (nI q) (nI y) pv (nI pq) (nI b) pt wy gone oR mem) H := hP
            have hD : va_D A (wM om am cI cZ (nI 2) tp (nI q) (nI y) pv (nI pq) (nI b) pt wy gone oR mem) := hD
            refine lv_if_ne (tgt := 49) hx hb dX2_check_44 (by decide) (fun hq9 => absurd (by decide) hq9) (fun _ => ?_)
            refine lv_iconst (v := nI 0) hx hb dX2_check_47 (by decide) ?_
            have hP : va_P D vwCl (wM om am cI cZ (cdL [nIOB, nISE, nIAE] nm) tp (nI q) (nI y) pv (nI pq) (nI b) pt wy gone oR mem) H := by rw [show cdL [nIOB, nISE, nIAE] nm = nI 2 from by rw [hn9]; decide +kernel]; exact hP
            have hD : va_D A (wM om am cI cZ (cdL [nIOB, nISE, nIAE] nm) tp (nI q) (nI y) pv (nI pq) (nI b) pt wy gone oR mem) := by rw [show cdL [nIOB, nISE, nIAE] nm = nI 2 from by rw [hn9]; decide +kernel]; exact hD
            exact mi_ret hx hb hr (rfl) hlk hS hP hD (rfl) dX2_check_48
      · skip
        have hg4 := hY3
        obtain ⟨hn9, hc9⟩ := x_if_some hg4
        skip
        have hv9 := x_if_none hg3
        have hv8 : pv = nI 1 := hpv.resolve_left hv9
        refine lv_aload_n hx hb dX2_check_0 rfl (lv_at hl 0 rfl) ?_
        refine lv_aload_n hx hb dX2_check_1 rfl (lv_at hl 0 rfl) ?_
        refine lv_iload_n hx hb dX2_check_2 rfl (lv_at hl 1 rfl) ?_
        refine mi_callV (C := RX2) (As := [.int v]) (rest := [.ref (om 0)]) ⟨hx, hb, hml, hown, hW⟩ (n_isLeaf v q (by omega) mem) nE_ok (cwV 1 hW (gV tw_676 tw_678 tv_X2_isLeaf tw_3 tw_679) rfl rfl rfl (by decide +kernel) ⟨Nat.le_of_ble_eq_true rfl, Nat.le_of_ble_eq_true rfl⟩) (va_recv hK hP (ci := 2) (q0 := 0) rfl rfl) hP hD hK hS hA hT rfl hl.1 rfl (Nat.le_of_ble_eq_true rfl) dX2_check_3 ⟨Nat.zero_le _, Nat.zero_le _⟩ (fun H locs hP hD hS => ?_)
        refine lv_eqi (v := nI 1) (by rw [hg1]; rfl) ?_
        refine lv_if_eq (tgt := 21) hx hb dX2_check_6 (by decide) (fun hq9 => absurd hq9 (by decide)) (fun _ => ?_)
        refine lv_aload_n hx hb dX2_check_9 rfl (lv_at hl 0 rfl) ?_
        refine lv_iload_n hx hb dX2_check_10 rfl (lv_at hl 2 rfl) ?_
        refine mi_callV (C := RX2) (As := [.int u]) (rest := [.ref (om 0)]) ⟨hx, hb, hml, hown, hW⟩ (n_isDay u y (by omega) mem) nE_ok (cwV 1 hW (gV tw_665 tw_667 tv_X2_isDay tw_3 tw_668) rfl rfl rfl (by decide +kernel) ⟨Nat.le_of_ble_eq_true rfl, Nat.le_of_ble_eq_true rfl⟩) (va_recv hK hP (ci := 2) (q0 := 0) rfl rfl) hP hD hK hS hA hT rfl hl.1 rfl (Nat.le_of_ble_eq_true rfl) dX2_check_11 ⟨Nat.zero_le _, Nat.zero_le _⟩ (fun H locs hP hD hS => ?_)
        refine lv_eqi (v := nI 1) (by rw [hg2]; rfl) ?_
        refine lv_if_eq (tgt := 21) hx hb dX2_check_14 (by decide) (fun hq9 => absurd hq9 (by decide)) (fun _ => ?_)
        refine lv_iconst (v := nI 1) hx hb dX2_check_17 (by decide) ?_
        refine lv_goto (tgt := 22) hx hb dX2_check_18 (by decide) ?_
        refine lv_aload_n hx hb dX2_check_22 rfl (lv_at hl 0 rfl) ?_
        refine va_get (D := D) (ci := 2) (v := .int pv) (C := RX2) (T := TX2) (N := 25) hx hb hW iMD hown hK hP 0 rfl rfl 9 (by decide) (hW _ tw_523) (fun _ h9 => h9) rfl dX2_check_23 ?_
        refine lv_eqi (v := nI 1) (hv8) ?_
        refine lv_iload_n hx hb dX2_check_26 rfl (lv_at hl 3 rfl) ?_
        refine lv_if_lt (tgt := 40) hx hb dX2_check_27 (by decide) (fun hq1 => ?_) (fun hq1 => ?_)
        · refine lv_iconst (v := nI 0) hx hb dX2_check_40 (by decide) ?_
          refine mi_callV (C := RX2) (As := [.int (nI 1), .int (nI 1), .int (nI 0)]) (rest := []) ⟨hx, hb, hml, hown, hW⟩ (n_goes (nI 1) (nI 1) (nI 0) (nI 3) (nI 0) mem ((if_neg (by decide)).trans ((if_neg (by decide)).trans (if_pos (by decide)))) (by decide)) nE_ok (cwV 3 hW (gV tw_601 tw_603 tv_X2_goes tw_3 tw_604) rfl rfl rfl (by decide +kernel) ⟨Nat.le_of_ble_eq_true rfl, Nat.le_of_ble_eq_true rfl⟩) (va_recv hK hP (ci := 2) (q0 := 0) rfl rfl) hP hD hK hS hA hT rfl hl.1 rfl (Nat.le_of_ble_eq_true rfl) dX2_check_41 ⟨Nat.zero_le _, Nat.zero_le _⟩ (fun H locs hP hD hS => ?_)
          have hP : va_P D vwCl (wM om am cI cZ (nI 3) tp (nI q) (nI y) pv (nI pq) (nI b) pt wy gone oR mem) H := hP
          have hD : va_D A (wM om am cI cZ (nI 3) tp (nI q) (nI y) pv (nI pq) (nI b) pt wy gone oR mem) := hD
          refine lv_if_ne (tgt := 49) hx hb dX2_check_44 (by decide) (fun hq9 => absurd (by decide) hq9) (fun _ => ?_)
          refine lv_iconst (v := nI 0) hx hb dX2_check_47 (by decide) ?_
          have hP : va_P D vwCl (wM om am cI cZ (cdL [nIOB, nISE, nIAE] nm) tp (nI q) (nI y) pv (nI pq) (nI b) pt wy gone oR mem) H := by rw [show cdL [nIOB, nISE, nIAE] nm = nI 3 from by rw [hn9]; decide +kernel]; exact hP
          have hD : va_D A (wM om am cI cZ (cdL [nIOB, nISE, nIAE] nm) tp (nI q) (nI y) pv (nI pq) (nI b) pt wy gone oR mem) := by rw [show cdL [nIOB, nISE, nIAE] nm = nI 3 from by rw [hn9]; decide +kernel]; exact hD
          exact mi_ret hx hb hr (rfl) hlk hS hP hD (rfl) dX2_check_48
        · refine lv_iload_n hx hb dX2_check_30 rfl (lv_at hl 3 rfl) ?_
          refine lv_iload hx hb dX2_check_31 (lv_at hl 4 rfl) ?_
          refine lv_icmp_ge (tgt := 40) hx hb dX2_check_33 (by decide) (fun _ => ?_) (fun hq9 => absurd (by
                  rcases hc9 with h | h
                  · exact absurd h hq1
                  · exact Int32.not_lt.mp h) hq9)
          refine lv_iconst (v := nI 0) hx hb dX2_check_40 (by decide) ?_
          refine mi_callV (C := RX2) (As := [.int (nI 1), .int (nI 1), .int (nI 0)]) (rest := []) ⟨hx, hb, hml, hown, hW⟩ (n_goes (nI 1) (nI 1) (nI 0) (nI 3) (nI 0) mem ((if_neg (by decide)).trans ((if_neg (by decide)).trans (if_pos (by decide)))) (by decide)) nE_ok (cwV 3 hW (gV tw_601 tw_603 tv_X2_goes tw_3 tw_604) rfl rfl rfl (by decide +kernel) ⟨Nat.le_of_ble_eq_true rfl, Nat.le_of_ble_eq_true rfl⟩) (va_recv hK hP (ci := 2) (q0 := 0) rfl rfl) hP hD hK hS hA hT rfl hl.1 rfl (Nat.le_of_ble_eq_true rfl) dX2_check_41 ⟨Nat.zero_le _, Nat.zero_le _⟩ (fun H locs hP hD hS => ?_)
          have hP : va_P D vwCl (wM om am cI cZ (nI 3) tp (nI q) (nI y) pv (nI pq) (nI b) pt wy gone oR mem) H := hP
          have hD : va_D A (wM om am cI cZ (nI 3) tp (nI q) (nI y) pv (nI pq) (nI b) pt wy gone oR mem) := hD
          refine lv_if_ne (tgt := 49) hx hb dX2_check_44 (by decide) (fun hq9 => absurd (by decide) hq9) (fun _ => ?_)
          refine lv_iconst (v := nI 0) hx hb dX2_check_47 (by decide) ?_
          have hP : va_P D vwCl (wM om am cI cZ (cdL [nIOB, nISE, nIAE] nm) tp (nI q) (nI y) pv (nI pq) (nI b) pt wy gone oR mem) H := by rw [show cdL [nIOB, nISE, nIAE] nm = nI 3 from by rw [hn9]; decide +kernel]; exact hP
          have hD : va_D A (wM om am cI cZ (cdL [nIOB, nISE, nIAE] nm) tp (nI q) (nI y) pv (nI pq) (nI b) pt wy gone oR mem) := by rw [show cdL [nIOB, nISE, nIAE] nm = nI 3 from by rw [hn9]; decide +kernel]; exact hD
          exact mi_ret hx hb hr (rfl) hlk hS hP hD (rfl) dX2_check_48
set_option maxHeartbeats 800000 in
set_option maxRecDepth 100000 in
theorem n_check1 {l : Launch} {D : va_G} {om am : Nat → Nat} {cI cZ cG : ClassId} {th tp pv pt wy : Int32} {gone oR : Nat → Int32} (q y b pq lf d : Nat) (hq : q ≤ 24) (hy : y ≤ 12) (hlf : lf < q) (hd : d < y) (hpv : pv = nI 1) (x k0 : Int32) (hx1 : ¬ x < 0) (hx2 : x < k0) (mem : xMem) (hm : ¬ k0 = mem 1 d) : MI l nE yX2_check (.code yX2_check cX2_check 7 (some .int) :: tW) ({ frames := 6, cells := 0, slots := 0, locals := 230 }) D vwCl (tC cI cZ cG) [.ref (om 0), .int (nI lf), .int (nI d), .int x, .int k0] (wM om am cI cZ th tp (nI q) (nI y) pv (nI pq) (nI b) pt wy gone oR mem) (wM om am cI cZ (nI 0) tp (nI q) (nI y) pv (nI pq) (nI b) pt wy gone oR mem) (nI 1) := by
  refine MI.ofW (by decide +kernel) rfl (Nat.le_of_ble_eq_true rfl) ?_
  intro p e s m below meth c A ls hx hb hr hts hown hlk hml hA hP hK hD hT hl
  have hS : va_S A s.heap s.heap [] := va_S.rf
  have hown : s.vm.findClass RX2 = some m.cls := hown
  have hW : ∀ w ∈ tW, w.before _ s = true := fun w h => hts w (List.mem_cons_of_mem _ h)
  have hl : lv_has ls 7 [(0, .ref (om 0)), (1, .int (nI lf)), (2, .int (nI d)), (3, .int x), (4, .int k0)] := hl
  refine lv_aload_n hx hb dX2_check_0 rfl (lv_at hl 0 rfl) ?_
  refine lv_aload_n hx hb dX2_check_1 rfl (lv_at hl 0 rfl) ?_
  refine lv_iload_n hx hb dX2_check_2 rfl (lv_at hl 1 rfl) ?_
  refine mi_callV (C := RX2) (As := [.int (nI lf)]) (rest := [.ref (om 0)]) ⟨hx, hb, hml, hown, hW⟩ (n_isLeaf (nI lf) q (by omega) mem) nE_ok (cwV 1 hW (gV tw_676 tw_678 tv_X2_isLeaf tw_3 tw_679) rfl rfl rfl (by decide +kernel) ⟨Nat.le_of_ble_eq_true rfl, Nat.le_of_ble_eq_true rfl⟩) (va_recv hK hP (ci := 2) (q0 := 0) rfl rfl) hP hD hK hS hA hT rfl hl.1 rfl (Nat.le_of_ble_eq_true rfl) dX2_check_3 ⟨Nat.zero_le _, Nat.zero_le _⟩ (fun H locs hP hD hS => ?_)
  refine lv_eqi (v := nI 1) (by rw [x_req_nat hlf (by omega)]; rfl) ?_
  refine lv_if_eq (tgt := 21) hx hb dX2_check_6 (by decide) (fun hq9 => absurd hq9 (by decide)) (fun _ => ?_)
  refine lv_aload_n hx hb dX2_check_9 rfl (lv_at hl 0 rfl) ?_
  refine lv_iload_n hx hb dX2_check_10 rfl (lv_at hl 2 rfl) ?_
  refine mi_callV (C := RX2) (As := [.int (nI d)]) (rest := [.ref (om 0)]) ⟨hx, hb, hml, hown, hW⟩ (n_isDay (nI d) y (by omega) mem) nE_ok (cwV 1 hW (gV tw_665 tw_667 tv_X2_isDay tw_3 tw_668) rfl rfl rfl (by decide +kernel) ⟨Nat.le_of_ble_eq_true rfl, Nat.le_of_ble_eq_true rfl⟩) (va_recv hK hP (ci := 2) (q0 := 0) rfl rfl) hP hD hK hS hA hT rfl hl.1 rfl (Nat.le_of_ble_eq_true rfl) dX2_check_11 ⟨Nat.zero_le _, Nat.zero_le _⟩ (fun H locs hP hD hS => ?_)
  refine lv_eqi (v := nI 1) (by rw [x_req_nat hd (by omega)]; rfl) ?_
  refine lv_if_eq (tgt := 21) hx hb dX2_check_14 (by decide) (fun hq9 => absurd hq9 (by decide)) (fun _ => ?_)
  refine lv_iconst (v := nI 1) hx hb dX2_check_17 (by decide) ?_
  refine lv_goto (tgt := 22) hx hb dX2_check_18 (by decide) ?_
  refine lv_aload_n hx hb dX2_check_22 rfl (lv_at hl 0 rfl) ?_
  refine va_get (D := D) (ci := 2) (v := .int pv) (C := RX2) (T := TX2) (N := 25) hx hb hW iMD hown hK hP 0 rfl rfl 9 (by decide) (hW _ tw_523) (fun _ h9 => h9) rfl dX2_check_23 ?_
  refine lv_eqi (v := nI 1) (hpv) ?_
  refine lv_iload_n hx hb dX2_check_26 rfl (lv_at hl 3 rfl) ?_
  refine lv_if_lt (tgt := 40) hx hb dX2_check_27 (by decide) (fun hq9 => absurd hq9 (hx1)) (fun _ => ?_)
  refine lv_iload_n hx hb dX2_check_30 rfl (lv_at hl 3 rfl) ?_
  refine lv_iload hx hb dX2_check_31 (lv_at hl 4 rfl) ?_
  refine lv_icmp_ge (tgt := 40) hx hb dX2_check_33 (by decide) (fun hq9 => absurd hq9 (Int32.not_le.mpr hx2)) (fun _ => ?_)
  refine lv_iconst (v := nI 1) hx hb dX2_check_36 (by decide) ?_
  refine lv_goto (tgt := 41) hx hb dX2_check_37 (by decide) ?_
  refine mi_callV (C := RX2) (As := [.int (nI 1), .int (nI 1), .int (nI 1)]) (rest := []) ⟨hx, hb, hml, hown, hW⟩ (n_goes (nI 1) (nI 1) (nI 1) (nI 0) (nI 1) mem ((if_neg (by decide)).trans ((if_neg (by decide)).trans (if_neg (by decide)))) (by decide)) nE_ok (cwV 3 hW (gV tw_601 tw_603 tv_X2_goes tw_3 tw_604) rfl rfl rfl (by decide +kernel) ⟨Nat.le_of_ble_eq_true rfl, Nat.le_of_ble_eq_true rfl⟩) (va_recv hK hP (ci := 2) (q0 := 0) rfl rfl) hP hD hK hS hA hT rfl hl.1 rfl (Nat.le_of_ble_eq_true rfl) dX2_check_41 ⟨Nat.zero_le _, Nat.zero_le _⟩ (fun H locs hP hD hS => ?_)
  have hP : va_P D vwCl (wM om am cI cZ (nI 0) tp (nI q) (nI y) pv (nI pq) (nI b) pt wy gone oR mem) H := hP
  have hD : va_D A (wM om am cI cZ (nI 0) tp (nI q) (nI y) pv (nI pq) (nI b) pt wy gone oR mem) := hD
  refine lv_if_ne (tgt := 49) hx hb dX2_check_44 (by decide) (fun _ => ?_) (fun hq9 => absurd hq9 (by decide))
  refine lv_iload hx hb dX2_check_49 (lv_at hl 4 rfl) ?_
  refine lv_aload_n hx hb dX2_check_51 rfl (lv_at hl 0 rfl) ?_
  refine va_get (D := D) (ci := 2) (v := .ref (am 1)) (C := RX2) (T := TX2) (N := 25) hx hb hW iMD hown hK hP 0 rfl rfl 7 (by decide) (hW _ tw_521) (fun _ h9 => h9) rfl dX2_check_52 ?_
  refine lv_iload_n hx hb dX2_check_55 rfl (lv_at hl 2 rfl) ?_
  refine m_ld (X := wMx om am cZ (nI 0) tp (nI q) (nI y) pv (nI pq) (nI b) pt wy gone oR) hx hb hK hP 0 1 d rfl (by decide) (show d < 12 by omega) (by decide) dX2_check_56 ?_
  refine lv_icmp_eq (tgt := 62) hx hb dX2_check_57 (by decide) (fun hq9 => absurd hq9 (hm)) (fun _ => ?_)
  refine lv_iconst (v := nI 1) hx hb dX2_check_60 (by decide) ?_
  have hP : va_P D vwCl (wM om am cI cZ (nI 0) tp (nI q) (nI y) pv (nI pq) (nI b) pt wy gone oR mem) H := by exact hP
  have hD : va_D A (wM om am cI cZ (nI 0) tp (nI q) (nI y) pv (nI pq) (nI b) pt wy gone oR mem) := by exact hD
  exact mi_ret hx hb hr (rfl) hlk hS hP hD (rfl) dX2_check_61
set_option maxHeartbeats 800000 in
set_option maxRecDepth 100000 in
theorem n_check2 {l : Launch} {D : va_G} {om am : Nat → Nat} {cI cZ cG : ClassId} {th tp pv pt wy : Int32} {gone oR : Nat → Int32} (q y b pq lf d x0 cc0 : Nat) (hq : q ≤ 24) (hy : y ≤ 12) (hpq : pq ≤ 5) (hlf : lf < q) (hd : d < y) (hpv : pv = nI 1) (mem : xMem) (hm : mem 1 d = nI cc0) (hc : x0 < cc0) (hc2 : cc0 ≤ 24) (hne : ¬ (glist x0 cc0).length = pq) : MI l nE yX2_check (.code yX2_check cX2_check 7 (some .int) :: tW) ({ frames := 6, cells := 0, slots := 0, locals := 230 }) D vwCl (tC cI cZ cG) [.ref (om 0), .int (nI lf), .int (nI d), .int (nI x0), .int (nI cc0)] (wM om am cI cZ th tp (nI q) (nI y) pv (nI pq) (nI b) pt wy gone oR mem) (wM om am cI cZ (nI 0) tp (nI q) (nI y) pv (nI pq) (nI b) pt (nI (glist x0 cc0).length) gone ((gW (glist x0 cc0) 0 (oR, mem)).1) ((gW (glist x0 cc0) 0 (oR, mem)).2)) (nI 2) := by
  refine MI.ofW (by decide +kernel) rfl (Nat.le_of_ble_eq_true rfl) ?_
  intro p e s m below meth c A ls hx hb hr hts hown hlk hml hA hP hK hD hT hl
  have hS : va_S A s.heap s.heap [] := va_S.rf
  have hown : s.vm.findClass RX2 = some m.cls := hown
  have hW : ∀ w ∈ tW, w.before _ s = true := fun w h => hts w (List.mem_cons_of_mem _ h)
  have hl : lv_has ls 7 [(0, .ref (om 0)), (1, .int (nI lf)), (2, .int (nI d)), (3, .int (nI x0)), (4, .int (nI cc0))] := hl
  have hlen := glist_len cc0 (by omega) x0 hc
  refine lv_aload_n hx hb dX2_check_0 rfl (lv_at hl 0 rfl) ?_
  refine lv_aload_n hx hb dX2_check_1 rfl (lv_at hl 0 rfl) ?_
  refine lv_iload_n hx hb dX2_check_2 rfl (lv_at hl 1 rfl) ?_
  refine mi_callV (C := RX2) (As := [.int (nI lf)]) (rest := [.ref (om 0)]) ⟨hx, hb, hml, hown, hW⟩ (n_isLeaf (nI lf) q (by omega) mem) nE_ok (cwV 1 hW (gV tw_676 tw_678 tv_X2_isLeaf tw_3 tw_679) rfl rfl rfl (by decide +kernel) ⟨Nat.le_of_ble_eq_true rfl, Nat.le_of_ble_eq_true rfl⟩) (va_recv hK hP (ci := 2) (q0 := 0) rfl rfl) hP hD hK hS hA hT rfl hl.1 rfl (Nat.le_of_ble_eq_true rfl) dX2_check_3 ⟨Nat.zero_le _, Nat.zero_le _⟩ (fun H locs hP hD hS => ?_)
  refine lv_eqi (v := nI 1) (by rw [x_req_nat hlf (by omega)]; rfl) ?_
  refine lv_if_eq (tgt := 21) hx hb dX2_check_6 (by decide) (fun hq9 => absurd hq9 (by decide)) (fun _ => ?_)
  refine lv_aload_n hx hb dX2_check_9 rfl (lv_at hl 0 rfl) ?_
  refine lv_iload_n hx hb dX2_check_10 rfl (lv_at hl 2 rfl) ?_
  refine mi_callV (C := RX2) (As := [.int (nI d)]) (rest := [.ref (om 0)]) ⟨hx, hb, hml, hown, hW⟩ (n_isDay (nI d) y (by omega) mem) nE_ok (cwV 1 hW (gV tw_665 tw_667 tv_X2_isDay tw_3 tw_668) rfl rfl rfl (by decide +kernel) ⟨Nat.le_of_ble_eq_true rfl, Nat.le_of_ble_eq_true rfl⟩) (va_recv hK hP (ci := 2) (q0 := 0) rfl rfl) hP hD hK hS hA hT rfl hl.1 rfl (Nat.le_of_ble_eq_true rfl) dX2_check_11 ⟨Nat.zero_le _, Nat.zero_le _⟩ (fun H locs hP hD hS => ?_)
  refine lv_eqi (v := nI 1) (by rw [x_req_nat hd (by omega)]; rfl) ?_
  refine lv_if_eq (tgt := 21) hx hb dX2_check_14 (by decide) (fun hq9 => absurd hq9 (by decide)) (fun _ => ?_)
  refine lv_iconst (v := nI 1) hx hb dX2_check_17 (by decide) ?_
  refine lv_goto (tgt := 22) hx hb dX2_check_18 (by decide) ?_
  refine lv_aload_n hx hb dX2_check_22 rfl (lv_at hl 0 rfl) ?_
  refine va_get (D := D) (ci := 2) (v := .int pv) (C := RX2) (T := TX2) (N := 25) hx hb hW iMD hown hK hP 0 rfl rfl 9 (by decide) (hW _ tw_523) (fun _ h9 => h9) rfl dX2_check_23 ?_
  refine lv_eqi (v := nI 1) (hpv) ?_
  refine lv_iload_n hx hb dX2_check_26 rfl (lv_at hl 3 rfl) ?_
  refine lv_if_lt (tgt := 40) hx hb dX2_check_27 (by decide) (fun hq9 => absurd hq9 (nI_pos (by omega))) (fun _ => ?_)
  refine lv_iload_n hx hb dX2_check_30 rfl (lv_at hl 3 rfl) ?_
  refine lv_iload hx hb dX2_check_31 (lv_at hl 4 rfl) ?_
  refine lv_icmp_ge (tgt := 40) hx hb dX2_check_33 (by decide) (fun hq9 => absurd hq9 (nI_ge (by omega) (by omega))) (fun _ => ?_)
  refine lv_iconst (v := nI 1) hx hb dX2_check_36 (by decide) ?_
  refine lv_goto (tgt := 41) hx hb dX2_check_37 (by decide) ?_
  refine mi_callV (C := RX2) (As := [.int (nI 1), .int (nI 1), .int (nI 1)]) (rest := []) ⟨hx, hb, hml, hown, hW⟩ (n_goes (nI 1) (nI 1) (nI 1) (nI 0) (nI 1) mem ((if_neg (by decide)).trans ((if_neg (by decide)).trans (if_neg (by decide)))) (by decide)) nE_ok (cwV 3 hW (gV tw_601 tw_603 tv_X2_goes tw_3 tw_604) rfl rfl rfl (by decide +kernel) ⟨Nat.le_of_ble_eq_true rfl, Nat.le_of_ble_eq_true rfl⟩) (va_recv hK hP (ci := 2) (q0 := 0) rfl rfl) hP hD hK hS hA hT rfl hl.1 rfl (Nat.le_of_ble_eq_true rfl) dX2_check_41 ⟨Nat.zero_le _, Nat.zero_le _⟩ (fun H locs hP hD hS => ?_)
  have hP : va_P D vwCl (wM om am cI cZ (nI 0) tp (nI q) (nI y) pv (nI pq) (nI b) pt wy gone oR mem) H := hP
  have hD : va_D A (wM om am cI cZ (nI 0) tp (nI q) (nI y) pv (nI pq) (nI b) pt wy gone oR mem) := hD
  refine lv_if_ne (tgt := 49) hx hb dX2_check_44 (by decide) (fun _ => ?_) (fun hq9 => absurd hq9 (by decide))
  refine lv_iload hx hb dX2_check_49 (lv_at hl 4 rfl) ?_
  refine lv_aload_n hx hb dX2_check_51 rfl (lv_at hl 0 rfl) ?_
  refine va_get (D := D) (ci := 2) (v := .ref (am 1)) (C := RX2) (T := TX2) (N := 25) hx hb hW iMD hown hK hP 0 rfl rfl 7 (by decide) (hW _ tw_521) (fun _ h9 => h9) rfl dX2_check_52 ?_
  refine lv_iload_n hx hb dX2_check_55 rfl (lv_at hl 2 rfl) ?_
  refine m_ld (X := wMx om am cZ (nI 0) tp (nI q) (nI y) pv (nI pq) (nI b) pt wy gone oR) hx hb hK hP 0 1 d rfl (by decide) (show d < 12 by omega) (by decide) dX2_check_56 ?_
  refine lv_eqi (v := nI cc0) (hm) ?_
  refine lv_icmp_eq (tgt := 62) hx hb dX2_check_57 (by decide) (fun _ => ?_) (fun hq9 => absurd (rfl) hq9)
  refine lv_aload_n hx hb dX2_check_62 rfl (lv_at hl 0 rfl) ?_
  refine lv_iload_n hx hb dX2_check_63 rfl (lv_at hl 3 rfl) ?_
  refine lv_iload hx hb dX2_check_64 (lv_at hl 4 rfl) ?_
  refine mv_callV (C := RX2) (As := [.int (nI x0), .int (nI cc0)]) (rest := []) ⟨hx, hb, hml, hown, hW⟩ (n_goTo x0 cc0 (by omega) (by omega) mem) nE_ok (cwV 2 hW (gV tw_688 tw_690 tv_X2_goTo tw_3 tw_691) rfl rfl rfl (by decide +kernel) ⟨Nat.le_of_ble_eq_true rfl, Nat.le_of_ble_eq_true rfl⟩) (va_recv hK hP (ci := 2) (q0 := 0) rfl rfl) hP hD hK hS hA hT rfl hl.1 rfl (Nat.le_of_ble_eq_true rfl) dX2_check_66 ⟨Nat.zero_le _, Nat.zero_le _⟩ (fun H locs hP hD hS => ?_)
  have hP : va_P D vwCl (wM om am cI cZ (nI 0) tp (nI q) (nI y) pv (nI pq) (nI b) pt (nI (glist x0 cc0).length) gone ((gW (glist x0 cc0) 0 (oR, mem)).1) ((gW (glist x0 cc0) 0 (oR, mem)).2)) H := hP
  have hD : va_D A (wM om am cI cZ (nI 0) tp (nI q) (nI y) pv (nI pq) (nI b) pt (nI (glist x0 cc0).length) gone ((gW (glist x0 cc0) 0 (oR, mem)).1) ((gW (glist x0 cc0) 0 (oR, mem)).2)) := hD
  refine lv_aload_n hx hb dX2_check_69 rfl (lv_at hl 0 rfl) ?_
  refine va_get (D := D) (ci := 2) (v := .int (nI (glist x0 cc0).length)) (C := RX2) (T := TX2) (N := 25) hx hb hW iMD hown hK hP 0 rfl rfl 20 (by decide) (hW _ tw_534) (fun _ h9 => h9) rfl dX2_check_70 ?_
  refine lv_aload_n hx hb dX2_check_73 rfl (lv_at hl 0 rfl) ?_
  refine va_get (D := D) (ci := 2) (v := .int (nI pq)) (C := RX2) (T := TX2) (N := 25) hx hb hW iMD hown hK hP 0 rfl rfl 10 (by decide) (hW _ tw_524) (fun _ h9 => h9) rfl dX2_check_74 ?_
  refine lv_icmp_eq (tgt := 82) hx hb dX2_check_77 (by decide) (fun hq9 => absurd hq9 (fun h => hne ((nI_eq (by omega) (by omega)).mp h))) (fun _ => ?_)
  refine lv_iconst (v := nI 2) hx hb dX2_check_80 (by decide) ?_
  have hP : va_P D vwCl (wM om am cI cZ (nI 0) tp (nI q) (nI y) pv (nI pq) (nI b) pt (nI (glist x0 cc0).length) gone ((gW (glist x0 cc0) 0 (oR, mem)).1) ((gW (glist x0 cc0) 0 (oR, mem)).2)) H := by exact hP
  have hD : va_D A (wM om am cI cZ (nI 0) tp (nI q) (nI y) pv (nI pq) (nI b) pt (nI (glist x0 cc0).length) gone ((gW (glist x0 cc0) 0 (oR, mem)).1) ((gW (glist x0 cc0) 0 (oR, mem)).2)) := by exact hD
  exact mi_ret hx hb hr (rfl) hlk hS hP hD (rfl) dX2_check_81
set_option maxHeartbeats 800000 in
set_option maxRecDepth 100000 in
theorem n_check3 {l : Launch} {D : va_G} {om am : Nat → Nat} {cI cZ cG : ClassId} {th tp pv pt wy : Int32} {gone oR : Nat → Int32} (q y b pq lf d x0 cc0 : Nat) (hq : q ≤ 24) (hy : y ≤ 12) (hpq : pq ≤ 5) (hlf : lf < q) (hd : d < y) (hpv : pv = nI 1) (mem : xMem) (hm : mem 1 d = nI cc0) (hc : x0 < cc0) (hc2 : cc0 ≤ 24) (hne : (glist x0 cc0).length = pq) (hkc : ∀ i, i < 64 → mem 13 i = kc i) : MI l nE yX2_check (.code yX2_check cX2_check 7 (some .int) :: tW) ({ frames := 6, cells := 0, slots := 0, locals := 230 }) D vwCl (tC cI cZ cG) [.ref (om 0), .int (nI lf), .int (nI d), .int (nI x0), .int (nI cc0)] (wM om am cI cZ th tp (nI q) (nI y) pv (nI pq) (nI b) pt wy gone oR mem) (wM om am cI cZ (nI 0) tp (nI q) (nI y) pv (nI pq) (nI (ckE (glist x0 cc0) lf (b, (gW (glist x0 cc0) 0 (oR, mem)).2)).1) pt (nI (glist x0 cc0).length) gone ((gW (glist x0 cc0) 0 (oR, mem)).1) ((ckE (glist x0 cc0) lf (b, (gW (glist x0 cc0) 0 (oR, mem)).2)).2)) (if p_iso 7 (32 * d) (ckE (glist x0 cc0) lf (b, (gW (glist x0 cc0) 0 (oR, mem)).2)).2 = 0 then nI 3 else nI 0) := by
  refine MI.ofW (by decide +kernel) rfl (Nat.le_of_ble_eq_true rfl) ?_
  intro p e s m below meth c A ls hx hb hr hts hown hlk hml hA hP hK hD hT hl
  have hS : va_S A s.heap s.heap [] := va_S.rf
  have hown : s.vm.findClass RX2 = some m.cls := hown
  have hW : ∀ w ∈ tW, w.before _ s = true := fun w h => hts w (List.mem_cons_of_mem _ h)
  have hl : lv_has ls 7 [(0, .ref (om 0)), (1, .int (nI lf)), (2, .int (nI d)), (3, .int (nI x0)), (4, .int (nI cc0))] := hl
  have hlen := glist_len cc0 (by omega) x0 hc
  have hat := gW_at (glist x0 cc0) 0 (oR, mem)
  have hkg : ∀ j, j < 64 → (gW (glist x0 cc0) 0 (oR, mem)).2 13 j = kc j := fun j hj => by rw [gW_k (by decide) (by decide)]; exact hkc j hj
  generalize hG : glist x0 cc0 = gL at *
  generalize hG0 : gW gL 0 (oR, mem) = g0 at *
  have lr3 : ∀ (kr r : Nat) (H : Heap) (locs : List Loc) (ls : Array Slot), r + kr = 32 → va_P D vwCl (wM om am cI cZ (nI 0) tp (nI q) (nI y) pv (nI pq) (nI (ckI gL gL.length (b, P_rcp 9 0 6 (32 * lf) g0.2)).1) pt (nI gL.length) gone g0.1 (rcp 2 0 9 0 r ((ckI gL gL.length (b, P_rcp 9 0 6 (32 * lf) g0.2)).2))) H → va_D A (wM om am cI cZ (nI 0) tp (nI q) (nI y) pv (nI pq) (nI (ckI gL gL.length (b, P_rcp 9 0 6 (32 * lf) g0.2)).1) pt (nI gL.length) gone g0.1 (rcp 2 0 9 0 r ((ckI gL gL.length (b, P_rcp 9 0 6 (32 * lf) g0.2)).2))) → va_S A s.heap H locs → lv_has ls 7 [(0, .ref (om 0)), (2, .int (nI d)), (5, .int (nI r))] → W p l e ({ frames := 6, cells := 0, slots := 0, locals := 230 }) s m ([.ref (om 0), .int (nI lf), .int (nI d), .int (nI x0), .int (nI cc0)] : List Value).toArray below meth c H locs 0 0 (MQ below (xQi D vwCl (wM om am cI cZ (nI 0) tp (nI q) (nI y) pv (nI pq) (nI (ckE gL lf (b, g0.2)).1) pt (nI gL.length) gone (g0.1) ((ckE gL lf (b, g0.2)).2)) (if p_iso 7 (32 * d) (ckE gL lf (b, g0.2)).2 = 0 then nI 3 else nI 0) A) ([.ref (om 0), .int (nI lf), .int (nI d), .int (nI x0), .int (nI cc0)] : List Value).toArray s 0 0 A) (F0 m 224 ls []) := by
    intro kr
    induction kr with
    | zero =>
      intro r H locs ls hk hP hD hS hl
      have hr9 : r = 32 := by omega
      rw [hr9, ← P_rcp_e] at hP hD
      refine lv_iload hx hb dX2_check_224 (lv_at hl 2 rfl) ?_
      refine lv_bipush (v := nI 32) hx hb dX2_check_226 (by decide) ?_
      refine lv_icmp_ge (tgt := 251) hx hb dX2_check_228 (by decide) (fun _ => ?_) (fun hq9 => absurd (nI_le (by omega) (by omega)) hq9)
      have hP : va_P D vwCl (wM om am cI cZ (nI 0) tp (nI q) (nI y) pv (nI pq) (nI (ckE gL lf (b, g0.2)).1) pt (nI gL.length) gone g0.1 ((ckE gL lf (b, g0.2)).2)) H := hP
      have hD : va_D A (wM om am cI cZ (nI 0) tp (nI q) (nI y) pv (nI pq) (nI (ckE gL lf (b, g0.2)).1) pt (nI gL.length) gone g0.1 ((ckE gL lf (b, g0.2)).2)) := hD
      refine lv_aload_n hx hb dX2_check_251 rfl (lv_at hl 0 rfl) ?_
      refine lv_aload_n hx hb dX2_check_252 rfl (lv_at hl 0 rfl) ?_
      refine va_get (D := D) (ci := 2) (v := .ref (am 7)) (C := RX2) (T := TX2) (N := 25) hx hb hW iMD hown hK hP 0 rfl rfl 8 (by decide) (hW _ tw_522) (fun _ h9 => h9) rfl dX2_check_253 ?_
      refine lv_bipush (v := nI 32) hx hb dX2_check_256 (by decide) ?_
      refine lv_iload_n hx hb dX2_check_258 rfl (lv_at hl 1 rfl) ?_
      refine lv_imul hx hb dX2_check_259 ?_
      refine lv_eqi (v := nI (32 * d)) (pk_mul _ _) ?_
      refine mi_callV (C := RX2) (As := [.ref (am 7), .int (nI (32 * d))]) (rest := []) ⟨hx, hb, hml, hown, hW⟩ (n_isOut 7 (32 * d) (by decide) (show 32 * d + 32 ≤ 384 by omega) ((ckE gL lf (b, g0.2)).2)) nE_ok (cwV 2 hW (gV tw_704 tw_706 tv_X2_isOut tw_3 tw_707) rfl rfl rfl (by decide +kernel) ⟨Nat.le_of_ble_eq_true rfl, Nat.le_of_ble_eq_true rfl⟩) (va_recv hK hP (ci := 2) (q0 := 0) rfl rfl) hP hD hK hS hA hT rfl hl.1 rfl (Nat.le_of_ble_eq_true rfl) dX2_check_260 ⟨Nat.zero_le _, Nat.zero_le _⟩ (fun H locs hP hD hS => ?_)
      refine lv_if_eq (tgt := 270) hx hb dX2_check_263 (by decide) (fun hz => ?_) (fun hz => ?_)
      · refine lv_iconst (v := nI 3) hx hb dX2_check_270 (by decide) ?_
        have hP : va_P D vwCl (wM om am cI cZ (nI 0) tp (nI q) (nI y) pv (nI pq) (nI (ckE gL lf (b, g0.2)).1) pt (nI gL.length) gone (g0.1) ((ckE gL lf (b, g0.2)).2)) H := by exact hP
        have hD : va_D A (wM om am cI cZ (nI 0) tp (nI q) (nI y) pv (nI pq) (nI (ckE gL lf (b, g0.2)).1) pt (nI gL.length) gone (g0.1) ((ckE gL lf (b, g0.2)).2)) := by exact hD
        exact mi_ret hx hb hr (rfl) hlk hS hP hD ((if_pos hz).symm) dX2_check_271
      · refine lv_iconst (v := nI 0) hx hb dX2_check_266 (by decide) ?_
        refine lv_goto (tgt := 271) hx hb dX2_check_267 (by decide) ?_
        have hP : va_P D vwCl (wM om am cI cZ (nI 0) tp (nI q) (nI y) pv (nI pq) (nI (ckE gL lf (b, g0.2)).1) pt (nI gL.length) gone (g0.1) ((ckE gL lf (b, g0.2)).2)) H := by exact hP
        have hD : va_D A (wM om am cI cZ (nI 0) tp (nI q) (nI y) pv (nI pq) (nI (ckE gL lf (b, g0.2)).1) pt (nI gL.length) gone (g0.1) ((ckE gL lf (b, g0.2)).2)) := by exact hD
        exact mi_ret hx hb hr (rfl) hlk hS hP hD ((if_neg hz).symm) dX2_check_271
    | succ kr ihkr =>
      intro r H locs ls hk hP hD hS hl
      refine lv_iload hx hb dX2_check_224 (lv_at hl 2 rfl) ?_
      refine lv_bipush (v := nI 32) hx hb dX2_check_226 (by decide) ?_
      refine lv_icmp_ge (tgt := 251) hx hb dX2_check_228 (by decide) (fun hq9 => absurd hq9 (nI_ge (by omega) (by decide))) (fun _ => ?_)
      refine lv_aload_n hx hb dX2_check_231 rfl (lv_at hl 0 rfl) ?_
      refine va_get (D := D) (ci := 2) (v := .ref (am 2)) (C := RX2) (T := TX2) (N := 25) hx hb hW iMD hown hK hP 0 rfl rfl 14 (by decide) (hW _ tw_528) (fun _ h9 => h9) rfl dX2_check_232 ?_
      refine lv_iload hx hb dX2_check_235 (lv_at hl 2 rfl) ?_
      refine lv_aload_n hx hb dX2_check_237 rfl (lv_at hl 0 rfl) ?_
      refine va_get (D := D) (ci := 2) (v := .ref (am 9)) (C := RX2) (T := TX2) (N := 25) hx hb hW iMD hown hK hP 0 rfl rfl 18 (by decide) (hW _ tw_532) (fun _ h9 => h9) rfl dX2_check_238 ?_
      refine lv_iload hx hb dX2_check_241 (lv_at hl 2 rfl) ?_
      refine m_ld (X := wMx om am cZ (nI 0) tp (nI q) (nI y) pv (nI pq) (nI (ckI gL gL.length (b, P_rcp 9 0 6 (32 * lf) g0.2)).1) pt (nI gL.length) gone g0.1) hx hb hK hP 0 9 r rfl (by decide) (show r < 256 by omega) (by decide) dX2_check_243 ?_
      refine m_st (X := wMx om am cZ (nI 0) tp (nI q) (nI y) pv (nI pq) (nI (ckI gL gL.length (b, P_rcp 9 0 6 (32 * lf) g0.2)).1) pt (nI gL.length) gone g0.1) hx hb hK hP hD hS 0 2 r rfl (by decide) (show r < 32 by omega) (by decide) dX2_check_244 (fun H locs hP hD hS => ?_)
      have hP : va_P D vwCl (wM om am cI cZ (nI 0) tp (nI q) (nI y) pv (nI pq) (nI (ckI gL gL.length (b, P_rcp 9 0 6 (32 * lf) g0.2)).1) pt (nI gL.length) gone g0.1 (rcp 2 0 9 0 (r + 1) ((ckI gL gL.length (b, P_rcp 9 0 6 (32 * lf) g0.2)).2))) H := by rw [rcp_s, Nat.zero_add]; exact hP
      have hD : va_D A (wM om am cI cZ (nI 0) tp (nI q) (nI y) pv (nI pq) (nI (ckI gL gL.length (b, P_rcp 9 0 6 (32 * lf) g0.2)).1) pt (nI gL.length) gone g0.1 (rcp 2 0 9 0 (r + 1) ((ckI gL gL.length (b, P_rcp 9 0 6 (32 * lf) g0.2)).2))) := by rw [rcp_s, Nat.zero_add]; exact hD
      refine lv_iinc (v := nI (r + 1)) (lv' := [(5, .int (nI (r + 1))), (0, .ref (om 0)), (2, .int (nI d))]) hx hb dX2_check_245 hl (k := 2) rfl (nI_1 _) (by decide) rfl (fun ls hl => ?_)
      refine lv_goto (tgt := 224) hx hb dX2_check_248 (by decide) ?_
      exact ihkr (r + 1) H locs ls (by omega) hP hD hS (lv_sub hl [1, 2, 0] rfl)
  have lo : ∀ (k i : Nat) (H : Heap) (locs : List Loc) (ls : Array Slot), i + k = gL.length → va_P D vwCl (wM om am cI cZ (nI 0) tp (nI q) (nI y) pv (nI pq) (nI (ckI gL i (b, P_rcp 9 0 6 (32 * lf) g0.2)).1) pt (nI gL.length) gone g0.1 ((ckI gL i (b, P_rcp 9 0 6 (32 * lf) g0.2)).2)) H → va_D A (wM om am cI cZ (nI 0) tp (nI q) (nI y) pv (nI pq) (nI (ckI gL i (b, P_rcp 9 0 6 (32 * lf) g0.2)).1) pt (nI gL.length) gone g0.1 ((ckI gL i (b, P_rcp 9 0 6 (32 * lf) g0.2)).2)) → va_S A s.heap H locs → lv_has ls 7 [(0, .ref (om 0)), (2, .int (nI d)), (5, .int (nI i))] → W p l e ({ frames := 6, cells := 0, slots := 0, locals := 230 }) s m ([.ref (om 0), .int (nI lf), .int (nI d), .int (nI x0), .int (nI cc0)] : List Value).toArray below meth c H locs 0 0 (MQ below (xQi D vwCl (wM om am cI cZ (nI 0) tp (nI q) (nI y) pv (nI pq) (nI (ckE gL lf (b, g0.2)).1) pt (nI gL.length) gone (g0.1) ((ckE gL lf (b, g0.2)).2)) (if p_iso 7 (32 * d) (ckE gL lf (b, g0.2)).2 = 0 then nI 3 else nI 0) A) ([.ref (om 0), .int (nI lf), .int (nI d), .int (nI x0), .int (nI cc0)] : List Value).toArray s 0 0 A) (F0 m 120 ls []) := by
    intro k
    induction k with
    | zero =>
      intro i H locs ls hk hP hD hS hl
      have hk9 : i = gL.length := by omega
      refine lv_iload hx hb dX2_check_120 (lv_at hl 2 rfl) ?_
      refine lv_aload_n hx hb dX2_check_122 rfl (lv_at hl 0 rfl) ?_
      refine va_get (D := D) (ci := 2) (v := .int (nI gL.length)) (C := RX2) (T := TX2) (N := 25) hx hb hW iMD hown hK hP 0 rfl rfl 20 (by decide) (hW _ tw_534) (fun _ h9 => h9) rfl dX2_check_123 ?_
      refine lv_icmp_ge (tgt := 221) hx hb dX2_check_126 (by decide) (fun _ => ?_) (fun hq9 => absurd (nI_le (by omega) (by omega)) hq9)
      rw [hk9] at hP hD
      refine lv_iconst (v := nI 0) hx hb dX2_check_221 (by decide) ?_
      refine lv_istore (lv' := [(5, .int (nI 0)), (0, .ref (om 0)), (2, .int (nI d))]) hx hb dX2_check_222 hl (by decide) rfl (fun ls hl => ?_)
      have hP : va_P D vwCl (wM om am cI cZ (nI 0) tp (nI q) (nI y) pv (nI pq) (nI (ckI gL gL.length (b, P_rcp 9 0 6 (32 * lf) g0.2)).1) pt (nI gL.length) gone g0.1 (rcp 2 0 9 0 0 ((ckI gL gL.length (b, P_rcp 9 0 6 (32 * lf) g0.2)).2))) H := by rw [rcp_0]; exact hP
      have hD : va_D A (wM om am cI cZ (nI 0) tp (nI q) (nI y) pv (nI pq) (nI (ckI gL gL.length (b, P_rcp 9 0 6 (32 * lf) g0.2)).1) pt (nI gL.length) gone g0.1 (rcp 2 0 9 0 0 ((ckI gL gL.length (b, P_rcp 9 0 6 (32 * lf) g0.2)).2))) := by rw [rcp_0]; exact hD
      exact lr3 32 0 H locs ls (by omega) hP hD hS (lv_sub hl [1, 2, 0] rfl)
    | succ k ih =>
      intro i H locs ls hk hP hD hS hl
      have hi0 : gL.length - 1 - i < gL.length := by omega
      obtain ⟨ha0, -, -⟩ := hat _ hi0
      rw [Nat.zero_add] at ha0
      have hkk : ∀ j, j < 64 → (ckI gL i (b, P_rcp 9 0 6 (32 * lf) g0.2)).2 13 j = kc j := fun j hj => (congrFun ((ckI_k (k := 13) (by decide) (by decide) (by decide) (by decide) (by decide) _ _ _).trans (P_rcp_k (k := 13) (kd := 9) (by decide) _ _ _ _)) j).trans (hkg j hj)
      have lr2 : ∀ (kr r : Nat) (H : Heap) (locs : List Loc) (ls : Array Slot), r + kr = 32 → va_P D vwCl (wM om am cI cZ (nI 0) tp (nI q) (nI y) pv (nI pq) (nI (ckN gL i (ckI gL i (b, P_rcp 9 0 6 (32 * lf) g0.2)).2).1) pt (nI gL.length) gone g0.1 (rcp 9 0 2 0 r ((ckN gL i (ckI gL i (b, P_rcp 9 0 6 (32 * lf) g0.2)).2).2))) H → va_D A (wM om am cI cZ (nI 0) tp (nI q) (nI y) pv (nI pq) (nI (ckN gL i (ckI gL i (b, P_rcp 9 0 6 (32 * lf) g0.2)).2).1) pt (nI gL.length) gone g0.1 (rcp 9 0 2 0 r ((ckN gL i (ckI gL i (b, P_rcp 9 0 6 (32 * lf) g0.2)).2).2))) → va_S A s.heap H locs → lv_has ls 7 [(0, .ref (om 0)), (2, .int (nI d)), (5, .int (nI i)), (6, .int (nI r))] → W p l e ({ frames := 6, cells := 0, slots := 0, locals := 230 }) s m ([.ref (om 0), .int (nI lf), .int (nI d), .int (nI x0), .int (nI cc0)] : List Value).toArray below meth c H locs 0 0 (MQ below (xQi D vwCl (wM om am cI cZ (nI 0) tp (nI q) (nI y) pv (nI pq) (nI (ckE gL lf (b, g0.2)).1) pt (nI gL.length) gone (g0.1) ((ckE gL lf (b, g0.2)).2)) (if p_iso 7 (32 * d) (ckE gL lf (b, g0.2)).2 = 0 then nI 3 else nI 0) A) ([.ref (om 0), .int (nI lf), .int (nI d), .int (nI x0), .int (nI cc0)] : List Value).toArray s 0 0 A) (F0 m 188 ls []) := by
        intro kr
        induction kr with
        | zero =>
          intro r H locs ls hk hP hD hS hl
          have hr9 : r = 32 := by omega
          rw [hr9, ← P_rcp_e] at hP hD
          refine lv_iload hx hb dX2_check_188 (lv_at hl 3 rfl) ?_
          refine lv_bipush (v := nI 32) hx hb dX2_check_190 (by decide) ?_
          refine lv_icmp_ge (tgt := 215) hx hb dX2_check_192 (by decide) (fun _ => ?_) (fun hq9 => absurd (nI_le (by omega) (by omega)) hq9)
          have hP : va_P D vwCl (wM om am cI cZ (nI 0) tp (nI q) (nI y) pv (nI pq) (nI (ckI gL (i + 1) (b, P_rcp 9 0 6 (32 * lf) g0.2)).1) pt (nI gL.length) gone g0.1 ((ckI gL (i + 1) (b, P_rcp 9 0 6 (32 * lf) g0.2)).2)) H := by rw [ckI_s]; exact hP
          have hD : va_D A (wM om am cI cZ (nI 0) tp (nI q) (nI y) pv (nI pq) (nI (ckI gL (i + 1) (b, P_rcp 9 0 6 (32 * lf) g0.2)).1) pt (nI gL.length) gone g0.1 ((ckI gL (i + 1) (b, P_rcp 9 0 6 (32 * lf) g0.2)).2)) := by rw [ckI_s]; exact hD
          refine lv_iinc (v := nI (i + 1)) (lv' := [(5, .int (nI (i + 1))), (0, .ref (om 0)), (2, .int (nI d)), (6, .int (nI r))]) hx hb dX2_check_215 hl (k := 2) rfl (nI_1 _) (by decide) rfl (fun ls hl => ?_)
          refine lv_goto (tgt := 120) hx hb dX2_check_218 (by decide) ?_
          exact ih (i + 1) H locs ls (by omega) hP hD hS (lv_sub hl [1, 2, 0] rfl)
        | succ kr ihkr =>
          intro r H locs ls hk hP hD hS hl
          refine lv_iload hx hb dX2_check_188 (lv_at hl 3 rfl) ?_
          refine lv_bipush (v := nI 32) hx hb dX2_check_190 (by decide) ?_
          refine lv_icmp_ge (tgt := 215) hx hb dX2_check_192 (by decide) (fun hq9 => absurd hq9 (nI_ge (by omega) (by decide))) (fun _ => ?_)
          refine lv_aload_n hx hb dX2_check_195 rfl (lv_at hl 0 rfl) ?_
          refine va_get (D := D) (ci := 2) (v := .ref (am 9)) (C := RX2) (T := TX2) (N := 25) hx hb hW iMD hown hK hP 0 rfl rfl 18 (by decide) (hW _ tw_532) (fun _ h9 => h9) rfl dX2_check_196 ?_
          refine lv_iload hx hb dX2_check_199 (lv_at hl 3 rfl) ?_
          refine lv_aload_n hx hb dX2_check_201 rfl (lv_at hl 0 rfl) ?_
          refine va_get (D := D) (ci := 2) (v := .ref (am 2)) (C := RX2) (T := TX2) (N := 25) hx hb hW iMD hown hK hP 0 rfl rfl 14 (by decide) (hW _ tw_528) (fun _ h9 => h9) rfl dX2_check_202 ?_
          refine lv_iload hx hb dX2_check_205 (lv_at hl 3 rfl) ?_
          refine m_ld (X := wMx om am cZ (nI 0) tp (nI q) (nI y) pv (nI pq) (nI (ckN gL i (ckI gL i (b, P_rcp 9 0 6 (32 * lf) g0.2)).2).1) pt (nI gL.length) gone g0.1) hx hb hK hP 0 2 r rfl (by decide) (show r < 32 by omega) (by decide) dX2_check_207 ?_
          refine m_st (X := wMx om am cZ (nI 0) tp (nI q) (nI y) pv (nI pq) (nI (ckN gL i (ckI gL i (b, P_rcp 9 0 6 (32 * lf) g0.2)).2).1) pt (nI gL.length) gone g0.1) hx hb hK hP hD hS 0 9 r rfl (by decide) (show r < 256 by omega) (by decide) dX2_check_208 (fun H locs hP hD hS => ?_)
          have hP : va_P D vwCl (wM om am cI cZ (nI 0) tp (nI q) (nI y) pv (nI pq) (nI (ckN gL i (ckI gL i (b, P_rcp 9 0 6 (32 * lf) g0.2)).2).1) pt (nI gL.length) gone g0.1 (rcp 9 0 2 0 (r + 1) ((ckN gL i (ckI gL i (b, P_rcp 9 0 6 (32 * lf) g0.2)).2).2))) H := by rw [rcp_s, Nat.zero_add]; exact hP
          have hD : va_D A (wM om am cI cZ (nI 0) tp (nI q) (nI y) pv (nI pq) (nI (ckN gL i (ckI gL i (b, P_rcp 9 0 6 (32 * lf) g0.2)).2).1) pt (nI gL.length) gone g0.1 (rcp 9 0 2 0 (r + 1) ((ckN gL i (ckI gL i (b, P_rcp 9 0 6 (32 * lf) g0.2)).2).2))) := by rw [rcp_s, Nat.zero_add]; exact hD
          refine lv_iinc (v := nI (r + 1)) (lv' := [(6, .int (nI (r + 1))), (0, .ref (om 0)), (2, .int (nI d)), (5, .int (nI i))]) hx hb dX2_check_209 hl (k := 3) rfl (nI_1 _) (by decide) rfl (fun ls hl => ?_)
          refine lv_goto (tgt := 188) hx hb dX2_check_212 (by decide) ?_
          exact ihkr (r + 1) H locs ls (by omega) hP hD hS (lv_sub hl [1, 2, 3, 0] rfl)
      refine lv_iload hx hb dX2_check_120 (lv_at hl 2 rfl) ?_
      refine lv_aload_n hx hb dX2_check_122 rfl (lv_at hl 0 rfl) ?_
      refine va_get (D := D) (ci := 2) (v := .int (nI gL.length)) (C := RX2) (T := TX2) (N := 25) hx hb hW iMD hown hK hP 0 rfl rfl 20 (by decide) (hW _ tw_534) (fun _ h9 => h9) rfl dX2_check_123 ?_
      refine lv_icmp_ge (tgt := 221) hx hb dX2_check_126 (by decide) (fun hq9 => absurd hq9 (nI_ge (by omega) (by omega))) (fun _ => ?_)
      refine lv_aload_n hx hb dX2_check_129 rfl (lv_at hl 0 rfl) ?_
      refine va_get (D := D) (ci := 2) (v := .ref (om 2)) (C := RX2) (T := TX2) (N := 25) hx hb hW iMD hown hK hP 0 rfl rfl 23 (by decide) (hW _ tw_537) (fun _ h9 => h9) rfl dX2_check_130 ?_
      refine lv_aload_n hx hb dX2_check_133 rfl (lv_at hl 0 rfl) ?_
      refine va_get (D := D) (ci := 2) (v := .int (nI gL.length)) (C := RX2) (T := TX2) (N := 25) hx hb hW iMD hown hK hP 0 rfl rfl 20 (by decide) (hW _ tw_534) (fun _ h9 => h9) rfl dX2_check_134 ?_
      refine lv_iconst (v := nI 1) hx hb dX2_check_137 (by decide) ?_
      refine lv_isub hx hb dX2_check_138 ?_
      refine lv_eqi (v := nI (gL.length - 1)) (pk_sub (by omega)) ?_
      refine lv_iload hx hb dX2_check_139 (lv_at hl 2 rfl) ?_
      refine lv_isub hx hb dX2_check_141 ?_
      refine lv_eqi (v := nI ((gL.length - 1) - i)) (pk_sub (by omega)) ?_
      refine m_zld hx hb hK hP 2 1 ((gL.length - 1) - i) rfl rfl (by omega) (by decide) dX2_check_142 ?_
      refine lv_eqi (v := bI (gIt gL i).1) (ha0) ?_
      refine lv_if_eq (tgt := 167) hx hb dX2_check_143 (by decide) (fun hz => ?_) (fun hz => ?_)
      · have hcn : ¬ (gIt gL i).1 = true := bI_0 hz
        have hC : ckN gL i (ckI gL i (b, P_rcp 9 0 6 (32 * lf) g0.2)).2 = mN 8 (32 * i) 9 0 (ckI gL i (b, P_rcp 9 0 6 (32 * lf) g0.2)).2 := if_neg hcn
        refine lv_aload_n hx hb dX2_check_167 rfl (lv_at hl 0 rfl) ?_
        refine lv_aload_n hx hb dX2_check_168 rfl (lv_at hl 0 rfl) ?_
        refine va_get (D := D) (ci := 2) (v := .ref (am 8)) (C := RX2) (T := TX2) (N := 25) hx hb hW iMD hown hK hP 0 rfl rfl 11 (by decide) (hW _ tw_525) (fun _ h9 => h9) rfl dX2_check_169 ?_
        refine lv_bipush (v := nI 32) hx hb dX2_check_172 (by decide) ?_
        refine lv_iload hx hb dX2_check_174 (lv_at hl 2 rfl) ?_
        refine lv_imul hx hb dX2_check_176 ?_
        refine lv_eqi (v := nI (32 * i)) (pk_mul _ _) ?_
        refine lv_aload_n hx hb dX2_check_177 rfl (lv_at hl 0 rfl) ?_
        refine va_get (D := D) (ci := 2) (v := .ref (am 9)) (C := RX2) (T := TX2) (N := 25) hx hb hW iMD hown hK hP 0 rfl rfl 18 (by decide) (hW _ tw_532) (fun _ h9 => h9) rfl dX2_check_178 ?_
        refine lv_iconst (v := nI 0) hx hb dX2_check_181 (by decide) ?_
        refine mv_callV (C := RX2) (As := [.ref (am 8), .int (nI (32 * i)), .ref (am 9), .int (nI 0)]) (rest := []) ⟨hx, hb, hml, hown, hW⟩ (n_node 8 (32 * i) 9 0 (⟨⟨by decide, show 32 * i + 32 ≤ 320 by omega⟩, by decide, show 0 + 32 ≤ 256 by omega⟩) ((ckI gL i (b, P_rcp 9 0 6 (32 * lf) g0.2)).2) (hkk)) nE_ok (cwV 4 hW (gV tw_653 tw_655 tv_X2_node tw_3 tw_656) rfl rfl rfl (by decide +kernel) ⟨Nat.le_of_ble_eq_true rfl, Nat.le_of_ble_eq_true rfl⟩) (va_recv hK hP (ci := 2) (q0 := 0) rfl rfl) hP hD hK hS hA hT rfl hl.1 rfl (Nat.le_of_ble_eq_true rfl) dX2_check_182 ⟨Nat.zero_le _, Nat.zero_le _⟩ (fun H locs hP hD hS => ?_)
        have hP : va_P D vwCl (wM om am cI cZ (nI 0) tp (nI q) (nI y) pv (nI pq) (nI (mN 8 (32 * i) 9 0 ((ckI gL i (b, P_rcp 9 0 6 (32 * lf) g0.2)).2)).1) pt (nI gL.length) gone g0.1 ((mN 8 (32 * i) 9 0 ((ckI gL i (b, P_rcp 9 0 6 (32 * lf) g0.2)).2)).2)) H := hP
        have hD : va_D A (wM om am cI cZ (nI 0) tp (nI q) (nI y) pv (nI pq) (nI (mN 8 (32 * i) 9 0 ((ckI gL i (b, P_rcp 9 0 6 (32 * lf) g0.2)).2)).1) pt (nI gL.length) gone g0.1 ((mN 8 (32 * i) 9 0 ((ckI gL i (b, P_rcp 9 0 6 (32 * lf) g0.2)).2)).2)) := hD
        have hP : va_P D vwCl (wM om am cI cZ (nI 0) tp (nI q) (nI y) pv (nI pq) (nI (ckN gL i (ckI gL i (b, P_rcp 9 0 6 (32 * lf) g0.2)).2).1) pt (nI gL.length) gone g0.1 ((ckN gL i (ckI gL i (b, P_rcp 9 0 6 (32 * lf) g0.2)).2).2)) H := by rw [hC]; exact hP
        have hD : va_D A (wM om am cI cZ (nI 0) tp (nI q) (nI y) pv (nI pq) (nI (ckN gL i (ckI gL i (b, P_rcp 9 0 6 (32 * lf) g0.2)).2).1) pt (nI gL.length) gone g0.1 ((ckN gL i (ckI gL i (b, P_rcp 9 0 6 (32 * lf) g0.2)).2).2)) := by rw [hC]; exact hD
        refine lv_iconst (v := nI 0) hx hb dX2_check_185 (by decide) ?_
        refine lv_istore (lv' := [(6, .int (nI 0)), (0, .ref (om 0)), (2, .int (nI d)), (5, .int (nI i))]) hx hb dX2_check_186 hl (by decide) rfl (fun ls hl => ?_)
        have hP : va_P D vwCl (wM om am cI cZ (nI 0) tp (nI q) (nI y) pv (nI pq) (nI (ckN gL i (ckI gL i (b, P_rcp 9 0 6 (32 * lf) g0.2)).2).1) pt (nI gL.length) gone g0.1 (rcp 9 0 2 0 0 ((ckN gL i (ckI gL i (b, P_rcp 9 0 6 (32 * lf) g0.2)).2).2))) H := by rw [rcp_0]; exact hP
        have hD : va_D A (wM om am cI cZ (nI 0) tp (nI q) (nI y) pv (nI pq) (nI (ckN gL i (ckI gL i (b, P_rcp 9 0 6 (32 * lf) g0.2)).2).1) pt (nI gL.length) gone g0.1 (rcp 9 0 2 0 0 ((ckN gL i (ckI gL i (b, P_rcp 9 0 6 (32 * lf) g0.2)).2).2))) := by rw [rcp_0]; exact hD
        exact lr2 32 0 H locs ls (by omega) hP hD hS (lv_sub hl [1, 2, 3, 0] rfl)
      · have hcn : (gIt gL i).1 = true := bI_1 hz
        have hC : ckN gL i (ckI gL i (b, P_rcp 9 0 6 (32 * lf) g0.2)).2 = mN 9 0 8 (32 * i) (ckI gL i (b, P_rcp 9 0 6 (32 * lf) g0.2)).2 := if_pos hcn
        refine lv_aload_n hx hb dX2_check_146 rfl (lv_at hl 0 rfl) ?_
        refine lv_aload_n hx hb dX2_check_147 rfl (lv_at hl 0 rfl) ?_
        refine va_get (D := D) (ci := 2) (v := .ref (am 9)) (C := RX2) (T := TX2) (N := 25) hx hb hW iMD hown hK hP 0 rfl rfl 18 (by decide) (hW _ tw_532) (fun _ h9 => h9) rfl dX2_check_148 ?_
        refine lv_iconst (v := nI 0) hx hb dX2_check_151 (by decide) ?_
        refine lv_aload_n hx hb dX2_check_152 rfl (lv_at hl 0 rfl) ?_
        refine va_get (D := D) (ci := 2) (v := .ref (am 8)) (C := RX2) (T := TX2) (N := 25) hx hb hW iMD hown hK hP 0 rfl rfl 11 (by decide) (hW _ tw_525) (fun _ h9 => h9) rfl dX2_check_153 ?_
        refine lv_bipush (v := nI 32) hx hb dX2_check_156 (by decide) ?_
        refine lv_iload hx hb dX2_check_158 (lv_at hl 2 rfl) ?_
        refine lv_imul hx hb dX2_check_160 ?_
        refine lv_eqi (v := nI (32 * i)) (pk_mul _ _) ?_
        refine mv_callV (C := RX2) (As := [.ref (am 9), .int (nI 0), .ref (am 8), .int (nI (32 * i))]) (rest := []) ⟨hx, hb, hml, hown, hW⟩ (n_node 9 0 8 (32 * i) (⟨⟨by decide, show 0 + 32 ≤ 256 by omega⟩, by decide, show 32 * i + 32 ≤ 320 by omega⟩) ((ckI gL i (b, P_rcp 9 0 6 (32 * lf) g0.2)).2) (hkk)) nE_ok (cwV 4 hW (gV tw_653 tw_655 tv_X2_node tw_3 tw_656) rfl rfl rfl (by decide +kernel) ⟨Nat.le_of_ble_eq_true rfl, Nat.le_of_ble_eq_true rfl⟩) (va_recv hK hP (ci := 2) (q0 := 0) rfl rfl) hP hD hK hS hA hT rfl hl.1 rfl (Nat.le_of_ble_eq_true rfl) dX2_check_161 ⟨Nat.zero_le _, Nat.zero_le _⟩ (fun H locs hP hD hS => ?_)
        have hP : va_P D vwCl (wM om am cI cZ (nI 0) tp (nI q) (nI y) pv (nI pq) (nI (mN 9 0 8 (32 * i) ((ckI gL i (b, P_rcp 9 0 6 (32 * lf) g0.2)).2)).1) pt (nI gL.length) gone g0.1 ((mN 9 0 8 (32 * i) ((ckI gL i (b, P_rcp 9 0 6 (32 * lf) g0.2)).2)).2)) H := hP
        have hD : va_D A (wM om am cI cZ (nI 0) tp (nI q) (nI y) pv (nI pq) (nI (mN 9 0 8 (32 * i) ((ckI gL i (b, P_rcp 9 0 6 (32 * lf) g0.2)).2)).1) pt (nI gL.length) gone g0.1 ((mN 9 0 8 (32 * i) ((ckI gL i (b, P_rcp 9 0 6 (32 * lf) g0.2)).2)).2)) := hD
        refine lv_goto (tgt := 185) hx hb dX2_check_164 (by decide) ?_
        have hP : va_P D vwCl (wM om am cI cZ (nI 0) tp (nI q) (nI y) pv (nI pq) (nI (ckN gL i (ckI gL i (b, P_rcp 9 0 6 (32 * lf) g0.2)).2).1) pt (nI gL.length) gone g0.1 ((ckN gL i (ckI gL i (b, P_rcp 9 0 6 (32 * lf) g0.2)).2).2)) H := by rw [hC]; exact hP
        have hD : va_D A (wM om am cI cZ (nI 0) tp (nI q) (nI y) pv (nI pq) (nI (ckN gL i (ckI gL i (b, P_rcp 9 0 6 (32 * lf) g0.2)).2).1) pt (nI gL.length) gone g0.1 ((ckN gL i (ckI gL i (b, P_rcp 9 0 6 (32 * lf) g0.2)).2).2)) := by rw [hC]; exact hD
        refine lv_iconst (v := nI 0) hx hb dX2_check_185 (by decide) ?_
        refine lv_istore (lv' := [(6, .int (nI 0)), (0, .ref (om 0)), (2, .int (nI d)), (5, .int (nI i))]) hx hb dX2_check_186 hl (by decide) rfl (fun ls hl => ?_)
        have hP : va_P D vwCl (wM om am cI cZ (nI 0) tp (nI q) (nI y) pv (nI pq) (nI (ckN gL i (ckI gL i (b, P_rcp 9 0 6 (32 * lf) g0.2)).2).1) pt (nI gL.length) gone g0.1 (rcp 9 0 2 0 0 ((ckN gL i (ckI gL i (b, P_rcp 9 0 6 (32 * lf) g0.2)).2).2))) H := by rw [rcp_0]; exact hP
        have hD : va_D A (wM om am cI cZ (nI 0) tp (nI q) (nI y) pv (nI pq) (nI (ckN gL i (ckI gL i (b, P_rcp 9 0 6 (32 * lf) g0.2)).2).1) pt (nI gL.length) gone g0.1 (rcp 9 0 2 0 0 ((ckN gL i (ckI gL i (b, P_rcp 9 0 6 (32 * lf) g0.2)).2).2))) := by rw [rcp_0]; exact hD
        exact lr2 32 0 H locs ls (by omega) hP hD hS (lv_sub hl [1, 2, 3, 0] rfl)
  have lr1 : ∀ (kr r : Nat) (H : Heap) (locs : List Loc) (ls : Array Slot), r + kr = 32 → va_P D vwCl (wM om am cI cZ (nI 0) tp (nI q) (nI y) pv (nI pq) (nI b) pt (nI gL.length) gone g0.1 (rcp 9 0 6 (32 * lf) r g0.2)) H → va_D A (wM om am cI cZ (nI 0) tp (nI q) (nI y) pv (nI pq) (nI b) pt (nI gL.length) gone g0.1 (rcp 9 0 6 (32 * lf) r g0.2)) → va_S A s.heap H locs → lv_has ls 7 [(0, .ref (om 0)), (1, .int (nI lf)), (2, .int (nI d)), (5, .int (nI r))] → W p l e ({ frames := 6, cells := 0, slots := 0, locals := 230 }) s m ([.ref (om 0), .int (nI lf), .int (nI d), .int (nI x0), .int (nI cc0)] : List Value).toArray below meth c H locs 0 0 (MQ below (xQi D vwCl (wM om am cI cZ (nI 0) tp (nI q) (nI y) pv (nI pq) (nI (ckE gL lf (b, g0.2)).1) pt (nI gL.length) gone (g0.1) ((ckE gL lf (b, g0.2)).2)) (if p_iso 7 (32 * d) (ckE gL lf (b, g0.2)).2 = 0 then nI 3 else nI 0) A) ([.ref (om 0), .int (nI lf), .int (nI d), .int (nI x0), .int (nI cc0)] : List Value).toArray s 0 0 A) (F0 m 85 ls []) := by
    intro kr
    induction kr with
    | zero =>
      intro r H locs ls hk hP hD hS hl
      have hr9 : r = 32 := by omega
      rw [hr9, ← P_rcp_e] at hP hD
      refine lv_iload hx hb dX2_check_85 (lv_at hl 3 rfl) ?_
      refine lv_bipush (v := nI 32) hx hb dX2_check_87 (by decide) ?_
      refine lv_icmp_ge (tgt := 117) hx hb dX2_check_89 (by decide) (fun _ => ?_) (fun hq9 => absurd (nI_le (by omega) (by omega)) hq9)
      refine lv_iconst (v := nI 0) hx hb dX2_check_117 (by decide) ?_
      refine lv_istore (lv' := [(5, .int (nI 0)), (0, .ref (om 0)), (1, .int (nI lf)), (2, .int (nI d))]) hx hb dX2_check_118 hl (by decide) rfl (fun ls hl => ?_)
      have hP : va_P D vwCl (wM om am cI cZ (nI 0) tp (nI q) (nI y) pv (nI pq) (nI (ckI gL 0 (b, P_rcp 9 0 6 (32 * lf) g0.2)).1) pt (nI gL.length) gone g0.1 ((ckI gL 0 (b, P_rcp 9 0 6 (32 * lf) g0.2)).2)) H := by skip; exact hP
      have hD : va_D A (wM om am cI cZ (nI 0) tp (nI q) (nI y) pv (nI pq) (nI (ckI gL 0 (b, P_rcp 9 0 6 (32 * lf) g0.2)).1) pt (nI gL.length) gone g0.1 ((ckI gL 0 (b, P_rcp 9 0 6 (32 * lf) g0.2)).2)) := by skip; exact hD
      exact lo gL.length 0 H locs ls (by omega) hP hD hS (lv_sub hl [1, 3, 0] rfl)
    | succ kr ihkr =>
      intro r H locs ls hk hP hD hS hl
      refine lv_iload hx hb dX2_check_85 (lv_at hl 3 rfl) ?_
      refine lv_bipush (v := nI 32) hx hb dX2_check_87 (by decide) ?_
      refine lv_icmp_ge (tgt := 117) hx hb dX2_check_89 (by decide) (fun hq9 => absurd hq9 (nI_ge (by omega) (by decide))) (fun _ => ?_)
      refine lv_aload_n hx hb dX2_check_92 rfl (lv_at hl 0 rfl) ?_
      refine va_get (D := D) (ci := 2) (v := .ref (am 9)) (C := RX2) (T := TX2) (N := 25) hx hb hW iMD hown hK hP 0 rfl rfl 18 (by decide) (hW _ tw_532) (fun _ h9 => h9) rfl dX2_check_93 ?_
      refine lv_iload hx hb dX2_check_96 (lv_at hl 3 rfl) ?_
      refine lv_aload_n hx hb dX2_check_98 rfl (lv_at hl 0 rfl) ?_
      refine va_get (D := D) (ci := 2) (v := .ref (am 6)) (C := RX2) (T := TX2) (N := 25) hx hb hW iMD hown hK hP 0 rfl rfl 4 (by decide) (hW _ tw_518) (fun _ h9 => h9) rfl dX2_check_99 ?_
      refine lv_bipush (v := nI 32) hx hb dX2_check_102 (by decide) ?_
      refine lv_iload_n hx hb dX2_check_104 rfl (lv_at hl 1 rfl) ?_
      refine lv_imul hx hb dX2_check_105 ?_
      refine lv_eqi (v := nI (32 * lf)) (pk_mul _ _) ?_
      refine lv_iload hx hb dX2_check_106 (lv_at hl 3 rfl) ?_
      refine lv_iadd hx hb dX2_check_108 ?_
      refine lv_eqi (v := nI (32 * lf + r)) (nI_add _ _) ?_
      refine m_ld (X := wMx om am cZ (nI 0) tp (nI q) (nI y) pv (nI pq) (nI b) pt (nI gL.length) gone g0.1) hx hb hK hP 0 6 (32 * lf + r) rfl (by decide) (show 32 * lf + r < 768 by omega) (by decide) dX2_check_109 ?_
      refine m_st (X := wMx om am cZ (nI 0) tp (nI q) (nI y) pv (nI pq) (nI b) pt (nI gL.length) gone g0.1) hx hb hK hP hD hS 0 9 r rfl (by decide) (show r < 256 by omega) (by decide) dX2_check_110 (fun H locs hP hD hS => ?_)
      have hP : va_P D vwCl (wM om am cI cZ (nI 0) tp (nI q) (nI y) pv (nI pq) (nI b) pt (nI gL.length) gone g0.1 (rcp 9 0 6 (32 * lf) (r + 1) g0.2)) H := by rw [rcp_s, Nat.zero_add]; exact hP
      have hD : va_D A (wM om am cI cZ (nI 0) tp (nI q) (nI y) pv (nI pq) (nI b) pt (nI gL.length) gone g0.1 (rcp 9 0 6 (32 * lf) (r + 1) g0.2)) := by rw [rcp_s, Nat.zero_add]; exact hD
      refine lv_iinc (v := nI (r + 1)) (lv' := [(5, .int (nI (r + 1))), (0, .ref (om 0)), (1, .int (nI lf)), (2, .int (nI d))]) hx hb dX2_check_111 hl (k := 3) rfl (nI_1 _) (by decide) rfl (fun ls hl => ?_)
      refine lv_goto (tgt := 85) hx hb dX2_check_114 (by decide) ?_
      exact ihkr (r + 1) H locs ls (by omega) hP hD hS (lv_sub hl [1, 2, 3, 0] rfl)
  refine lv_aload_n hx hb dX2_check_0 rfl (lv_at hl 0 rfl) ?_
  refine lv_aload_n hx hb dX2_check_1 rfl (lv_at hl 0 rfl) ?_
  refine lv_iload_n hx hb dX2_check_2 rfl (lv_at hl 1 rfl) ?_
  refine mi_callV (C := RX2) (As := [.int (nI lf)]) (rest := [.ref (om 0)]) ⟨hx, hb, hml, hown, hW⟩ (n_isLeaf (nI lf) q (by omega) mem) nE_ok (cwV 1 hW (gV tw_676 tw_678 tv_X2_isLeaf tw_3 tw_679) rfl rfl rfl (by decide +kernel) ⟨Nat.le_of_ble_eq_true rfl, Nat.le_of_ble_eq_true rfl⟩) (va_recv hK hP (ci := 2) (q0 := 0) rfl rfl) hP hD hK hS hA hT rfl hl.1 rfl (Nat.le_of_ble_eq_true rfl) dX2_check_3 ⟨Nat.zero_le _, Nat.zero_le _⟩ (fun H locs hP hD hS => ?_)
  refine lv_eqi (v := nI 1) (by rw [x_req_nat hlf (by omega)]; rfl) ?_
  refine lv_if_eq (tgt := 21) hx hb dX2_check_6 (by decide) (fun hq9 => absurd hq9 (by decide)) (fun _ => ?_)
  refine lv_aload_n hx hb dX2_check_9 rfl (lv_at hl 0 rfl) ?_
  refine lv_iload_n hx hb dX2_check_10 rfl (lv_at hl 2 rfl) ?_
  refine mi_callV (C := RX2) (As := [.int (nI d)]) (rest := [.ref (om 0)]) ⟨hx, hb, hml, hown, hW⟩ (n_isDay (nI d) y (by omega) mem) nE_ok (cwV 1 hW (gV tw_665 tw_667 tv_X2_isDay tw_3 tw_668) rfl rfl rfl (by decide +kernel) ⟨Nat.le_of_ble_eq_true rfl, Nat.le_of_ble_eq_true rfl⟩) (va_recv hK hP (ci := 2) (q0 := 0) rfl rfl) hP hD hK hS hA hT rfl hl.1 rfl (Nat.le_of_ble_eq_true rfl) dX2_check_11 ⟨Nat.zero_le _, Nat.zero_le _⟩ (fun H locs hP hD hS => ?_)
  refine lv_eqi (v := nI 1) (by rw [x_req_nat hd (by omega)]; rfl) ?_
  refine lv_if_eq (tgt := 21) hx hb dX2_check_14 (by decide) (fun hq9 => absurd hq9 (by decide)) (fun _ => ?_)
  refine lv_iconst (v := nI 1) hx hb dX2_check_17 (by decide) ?_
  refine lv_goto (tgt := 22) hx hb dX2_check_18 (by decide) ?_
  refine lv_aload_n hx hb dX2_check_22 rfl (lv_at hl 0 rfl) ?_
  refine va_get (D := D) (ci := 2) (v := .int pv) (C := RX2) (T := TX2) (N := 25) hx hb hW iMD hown hK hP 0 rfl rfl 9 (by decide) (hW _ tw_523) (fun _ h9 => h9) rfl dX2_check_23 ?_
  refine lv_eqi (v := nI 1) (hpv) ?_
  refine lv_iload_n hx hb dX2_check_26 rfl (lv_at hl 3 rfl) ?_
  refine lv_if_lt (tgt := 40) hx hb dX2_check_27 (by decide) (fun hq9 => absurd hq9 (nI_pos (by omega))) (fun _ => ?_)
  refine lv_iload_n hx hb dX2_check_30 rfl (lv_at hl 3 rfl) ?_
  refine lv_iload hx hb dX2_check_31 (lv_at hl 4 rfl) ?_
  refine lv_icmp_ge (tgt := 40) hx hb dX2_check_33 (by decide) (fun hq9 => absurd hq9 (nI_ge (by omega) (by omega))) (fun _ => ?_)
  refine lv_iconst (v := nI 1) hx hb dX2_check_36 (by decide) ?_
  refine lv_goto (tgt := 41) hx hb dX2_check_37 (by decide) ?_
  refine mi_callV (C := RX2) (As := [.int (nI 1), .int (nI 1), .int (nI 1)]) (rest := []) ⟨hx, hb, hml, hown, hW⟩ (n_goes (nI 1) (nI 1) (nI 1) (nI 0) (nI 1) mem ((if_neg (by decide)).trans ((if_neg (by decide)).trans (if_neg (by decide)))) (by decide)) nE_ok (cwV 3 hW (gV tw_601 tw_603 tv_X2_goes tw_3 tw_604) rfl rfl rfl (by decide +kernel) ⟨Nat.le_of_ble_eq_true rfl, Nat.le_of_ble_eq_true rfl⟩) (va_recv hK hP (ci := 2) (q0 := 0) rfl rfl) hP hD hK hS hA hT rfl hl.1 rfl (Nat.le_of_ble_eq_true rfl) dX2_check_41 ⟨Nat.zero_le _, Nat.zero_le _⟩ (fun H locs hP hD hS => ?_)
  have hP : va_P D vwCl (wM om am cI cZ (nI 0) tp (nI q) (nI y) pv (nI pq) (nI b) pt wy gone oR mem) H := hP
  have hD : va_D A (wM om am cI cZ (nI 0) tp (nI q) (nI y) pv (nI pq) (nI b) pt wy gone oR mem) := hD
  refine lv_if_ne (tgt := 49) hx hb dX2_check_44 (by decide) (fun _ => ?_) (fun hq9 => absurd hq9 (by decide))
  refine lv_iload hx hb dX2_check_49 (lv_at hl 4 rfl) ?_
  refine lv_aload_n hx hb dX2_check_51 rfl (lv_at hl 0 rfl) ?_
  refine va_get (D := D) (ci := 2) (v := .ref (am 1)) (C := RX2) (T := TX2) (N := 25) hx hb hW iMD hown hK hP 0 rfl rfl 7 (by decide) (hW _ tw_521) (fun _ h9 => h9) rfl dX2_check_52 ?_
  refine lv_iload_n hx hb dX2_check_55 rfl (lv_at hl 2 rfl) ?_
  refine m_ld (X := wMx om am cZ (nI 0) tp (nI q) (nI y) pv (nI pq) (nI b) pt wy gone oR) hx hb hK hP 0 1 d rfl (by decide) (show d < 12 by omega) (by decide) dX2_check_56 ?_
  refine lv_eqi (v := nI cc0) (hm) ?_
  refine lv_icmp_eq (tgt := 62) hx hb dX2_check_57 (by decide) (fun _ => ?_) (fun hq9 => absurd (rfl) hq9)
  refine lv_aload_n hx hb dX2_check_62 rfl (lv_at hl 0 rfl) ?_
  refine lv_iload_n hx hb dX2_check_63 rfl (lv_at hl 3 rfl) ?_
  refine lv_iload hx hb dX2_check_64 (lv_at hl 4 rfl) ?_
  refine mv_callV (C := RX2) (As := [.int (nI x0), .int (nI cc0)]) (rest := []) ⟨hx, hb, hml, hown, hW⟩ (n_goTo x0 cc0 (by omega) (by omega) mem) nE_ok (cwV 2 hW (gV tw_688 tw_690 tv_X2_goTo tw_3 tw_691) rfl rfl rfl (by decide +kernel) ⟨Nat.le_of_ble_eq_true rfl, Nat.le_of_ble_eq_true rfl⟩) (va_recv hK hP (ci := 2) (q0 := 0) rfl rfl) hP hD hK hS hA hT rfl hl.1 rfl (Nat.le_of_ble_eq_true rfl) dX2_check_66 ⟨Nat.zero_le _, Nat.zero_le _⟩ (fun H locs hP hD hS => ?_)
  have hP : va_P D vwCl (wM om am cI cZ (nI 0) tp (nI q) (nI y) pv (nI pq) (nI b) pt (nI (glist x0 cc0).length) gone ((gW (glist x0 cc0) 0 (oR, mem)).1) ((gW (glist x0 cc0) 0 (oR, mem)).2)) H := hP
  have hD : va_D A (wM om am cI cZ (nI 0) tp (nI q) (nI y) pv (nI pq) (nI b) pt (nI (glist x0 cc0).length) gone ((gW (glist x0 cc0) 0 (oR, mem)).1) ((gW (glist x0 cc0) 0 (oR, mem)).2)) := hD
  rw [hG, hG0] at hP hD
  refine lv_aload_n hx hb dX2_check_69 rfl (lv_at hl 0 rfl) ?_
  refine va_get (D := D) (ci := 2) (v := .int (nI gL.length)) (C := RX2) (T := TX2) (N := 25) hx hb hW iMD hown hK hP 0 rfl rfl 20 (by decide) (hW _ tw_534) (fun _ h9 => h9) rfl dX2_check_70 ?_
  refine lv_aload_n hx hb dX2_check_73 rfl (lv_at hl 0 rfl) ?_
  refine va_get (D := D) (ci := 2) (v := .int (nI pq)) (C := RX2) (T := TX2) (N := 25) hx hb hW iMD hown hK hP 0 rfl rfl 10 (by decide) (hW _ tw_524) (fun _ h9 => h9) rfl dX2_check_74 ?_
  refine lv_icmp_eq (tgt := 82) hx hb dX2_check_77 (by decide) (fun _ => ?_) (fun hq9 => absurd (congrArg nI hne) hq9)
  refine lv_iconst (v := nI 0) hx hb dX2_check_82 (by decide) ?_
  refine lv_istore (lv' := [(5, .int (nI 0)), (0, .ref (om 0)), (1, .int (nI lf)), (2, .int (nI d)), (3, .int (nI x0)), (4, .int (nI cc0))]) hx hb dX2_check_83 hl (by decide) rfl (fun ls hl => ?_)
  have hP : va_P D vwCl (wM om am cI cZ (nI 0) tp (nI q) (nI y) pv (nI pq) (nI b) pt (nI gL.length) gone g0.1 (rcp 9 0 6 (32 * lf) 0 g0.2)) H := by rw [rcp_0]; exact hP
  have hD : va_D A (wM om am cI cZ (nI 0) tp (nI q) (nI y) pv (nI pq) (nI b) pt (nI gL.length) gone g0.1 (rcp 9 0 6 (32 * lf) 0 g0.2)) := by rw [rcp_0]; exact hD
  exact lr1 32 0 H locs ls (by omega) hP hD hS (lv_sub hl [1, 2, 3, 0] rfl)
set_option maxHeartbeats 800000 in
set_option maxRecDepth 100000 in
theorem n_grew_no {l : Launch} {D : va_G} {om am : Nat → Nat} {cI cZ cG : ClassId} {th tp lv pv pm pt wy : Int32} {gone oR : Nat → Int32} (y b : Nat) (hy : y ≤ 12) (v u : Int32) (mem : xMem) (nm : String) (hX : (x_req v (nI y)).or ((x_req u (nI y)).or (x_if (¬ v ≤ u) nIAE)) = some nm) : MI l nE yX2_grew (.code yX2_grew cX2_grew 3 (some .boolean) :: tW) ({ frames := 4, cells := 0, slots := 0, locals := 100 }) D vwCl (tC cI cZ cG) [.ref (om 0), .int v, .int u] (wM om am cI cZ th tp lv (nI y) pv pm (nI b) pt wy gone oR mem) (wM om am cI cZ (cdL [nIOB, nIAE] nm) tp lv (nI y) pv pm (nI b) pt wy gone oR mem) (nI 0) := by
  refine MI.ofW (by decide +kernel) rfl (Nat.le_of_ble_eq_true rfl) ?_
  intro p e s m below meth c A ls hx hb hr hts hown hlk hml hA hP hK hD hT hl
  have hS : va_S A s.heap s.heap [] := va_S.rf
  have hown : s.vm.findClass RX2 = some m.cls := hown
  have hW : ∀ w ∈ tW, w.before _ s = true := fun w h => hts w (List.mem_cons_of_mem _ h)
  have hl : lv_has ls 3 [(0, .ref (om 0)), (1, .int v), (2, .int u)] := hl
  rcases x_or_some hX with hg1 | ⟨hg1, hY1⟩
  · skip
    have hn9 := x_req_some hg1
    skip
    refine lv_aload_n hx hb dX2_grew_0 rfl (lv_at hl 0 rfl) ?_
    refine lv_aload_n hx hb dX2_grew_1 rfl (lv_at hl 0 rfl) ?_
    refine lv_iload_n hx hb dX2_grew_2 rfl (lv_at hl 1 rfl) ?_
    refine mi_callV (C := RX2) (As := [.int v]) (rest := [.ref (om 0)]) ⟨hx, hb, hml, hown, hW⟩ (n_isDay v y (by omega) mem) nE_ok (cwV 1 hW (gV tw_665 tw_667 tv_X2_isDay tw_3 tw_668) rfl rfl rfl (by decide +kernel) ⟨Nat.le_of_ble_eq_true rfl, Nat.le_of_ble_eq_true rfl⟩) (va_recv hK hP (ci := 2) (q0 := 0) rfl rfl) hP hD hK hS hA hT rfl hl.1 rfl (Nat.le_of_ble_eq_true rfl) dX2_grew_3 ⟨Nat.zero_le _, Nat.zero_le _⟩ (fun H locs hP hD hS => ?_)
    refine lv_eqi (v := nI 0) (by rw [hg1]; rfl) ?_
    refine lv_if_eq (tgt := 21) hx hb dX2_grew_6 (by decide) (fun _ => ?_) (fun hq9 => absurd (by decide) hq9)
    refine lv_iconst (v := nI 0) hx hb dX2_grew_21 (by decide) ?_
    refine lv_iload_n hx hb dX2_grew_22 rfl (lv_at hl 1 rfl) ?_
    refine lv_iload_n hx hb dX2_grew_23 rfl (lv_at hl 2 rfl) ?_
    refine lv_icmp_gt (tgt := 31) hx hb dX2_grew_24 (by decide) (fun hq1 => ?_) (fun hq1 => ?_)
    · refine lv_iconst (v := nI 0) hx hb dX2_grew_31 (by decide) ?_
      refine lv_iconst (v := nI 1) hx hb dX2_grew_32 (by decide) ?_
      refine mi_callV (C := RX2) (As := [.int (nI 0), .int (nI 0), .int (nI 1)]) (rest := []) ⟨hx, hb, hml, hown, hW⟩ (n_goes (nI 0) (nI 0) (nI 1) (nI 1) (nI 0) mem (if_pos (by decide)) (by decide)) nE_ok (cwV 3 hW (gV tw_601 tw_603 tv_X2_goes tw_3 tw_604) rfl rfl rfl (by decide +kernel) ⟨Nat.le_of_ble_eq_true rfl, Nat.le_of_ble_eq_true rfl⟩) (va_recv hK hP (ci := 2) (q0 := 0) rfl rfl) hP hD hK hS hA hT rfl hl.1 rfl (Nat.le_of_ble_eq_true rfl) dX2_grew_33 ⟨Nat.zero_le _, Nat.zero_le _⟩ (fun H locs hP hD hS => ?_)
      have hP : va_P D vwCl (wM om am cI cZ (nI 1) tp lv (nI y) pv pm (nI b) pt wy gone oR mem) H := hP
      have hD : va_D A (wM om am cI cZ (nI 1) tp lv (nI y) pv pm (nI b) pt wy gone oR mem) := hD
      refine lv_if_ne (tgt := 41) hx hb dX2_grew_36 (by decide) (fun hq9 => absurd (by decide) hq9) (fun _ => ?_)
      refine lv_iconst (v := nI 0) hx hb dX2_grew_39 (by decide) ?_
      have hP : va_P D vwCl (wM om am cI cZ (cdL [nIOB, nIAE] nm) tp lv (nI y) pv pm (nI b) pt wy gone oR mem) H := by rw [show cdL [nIOB, nIAE] nm = nI 1 from by rw [hn9]; decide +kernel]; exact hP
      have hD : va_D A (wM om am cI cZ (cdL [nIOB, nIAE] nm) tp lv (nI y) pv pm (nI b) pt wy gone oR mem) := by rw [show cdL [nIOB, nIAE] nm = nI 1 from by rw [hn9]; decide +kernel]; exact hD
      exact mi_ret hx hb hr (rfl) hlk hS hP hD (rfl) dX2_grew_40
    · refine lv_iconst (v := nI 1) hx hb dX2_grew_27 (by decide) ?_
      refine lv_goto (tgt := 32) hx hb dX2_grew_28 (by decide) ?_
      refine lv_iconst (v := nI 1) hx hb dX2_grew_32 (by decide) ?_
      refine mi_callV (C := RX2) (As := [.int (nI 0), .int (nI 1), .int (nI 1)]) (rest := []) ⟨hx, hb, hml, hown, hW⟩ (n_goes (nI 0) (nI 1) (nI 1) (nI 1) (nI 0) mem (if_pos (by decide)) (by decide)) nE_ok (cwV 3 hW (gV tw_601 tw_603 tv_X2_goes tw_3 tw_604) rfl rfl rfl (by decide +kernel) ⟨Nat.le_of_ble_eq_true rfl, Nat.le_of_ble_eq_true rfl⟩) (va_recv hK hP (ci := 2) (q0 := 0) rfl rfl) hP hD hK hS hA hT rfl hl.1 rfl (Nat.le_of_ble_eq_true rfl) dX2_grew_33 ⟨Nat.zero_le _, Nat.zero_le _⟩ (fun H locs hP hD hS => ?_)
      have hP : va_P D vwCl (wM om am cI cZ (nI 1) tp lv (nI y) pv pm (nI b) pt wy gone oR mem) H := hP
      have hD : va_D A (wM om am cI cZ (nI 1) tp lv (nI y) pv pm (nI b) pt wy gone oR mem) := hD
      refine lv_if_ne (tgt := 41) hx hb dX2_grew_36 (by decide) (fun hq9 => absurd (by decide) hq9) (fun _ => ?_)
      refine lv_iconst (v := nI 0) hx hb dX2_grew_39 (by decide) ?_
      have hP : va_P D vwCl (wM om am cI cZ (cdL [nIOB, nIAE] nm) tp lv (nI y) pv pm (nI b) pt wy gone oR mem) H := by rw [show cdL [nIOB, nIAE] nm = nI 1 from by rw [hn9]; decide +kernel]; exact hP
      have hD : va_D A (wM om am cI cZ (cdL [nIOB, nIAE] nm) tp lv (nI y) pv pm (nI b) pt wy gone oR mem) := by rw [show cdL [nIOB, nIAE] nm = nI 1 from by rw [hn9]; decide +kernel]; exact hD
      exact mi_ret hx hb hr (rfl) hlk hS hP hD (rfl) dX2_grew_40
  · skip
    rcases x_or_some hY1 with hg2 | ⟨hg2, hY2⟩
    · skip
      have hn9 := x_req_some hg2
      skip
      refine lv_aload_n hx hb dX2_grew_0 rfl (lv_at hl 0 rfl) ?_
      refine lv_aload_n hx hb dX2_grew_1 rfl (lv_at hl 0 rfl) ?_
      refine lv_iload_n hx hb dX2_grew_2 rfl (lv_at hl 1 rfl) ?_
      refine mi_callV (C := RX2) (As := [.int v]) (rest := [.ref (om 0)]) ⟨hx, hb, hml, hown, hW⟩ (n_isDay v y (by omega) mem) nE_ok (cwV 1 hW (gV tw_665 tw_667 tv_X2_isDay tw_3 tw_668) rfl rfl rfl (by decide +kernel) ⟨Nat.le_of_ble_eq_true rfl, Nat.le_of_ble_eq_true rfl⟩) (va_recv hK hP (ci := 2) (q0 := 0) rfl rfl) hP hD hK hS hA hT rfl hl.1 rfl (Nat.le_of_ble_eq_true rfl) dX2_grew_3 ⟨Nat.zero_le _, Nat.zero_le _⟩ (fun H locs hP hD hS => ?_)
      refine lv_eqi (v := nI 1) (by rw [hg1]; rfl) ?_
      refine lv_if_eq (tgt := 21) hx hb dX2_grew_6 (by decide) (fun hq9 => absurd hq9 (by decide)) (fun _ => ?_)
      refine lv_aload_n hx hb dX2_grew_9 rfl (lv_at hl 0 rfl) ?_
      refine lv_iload_n hx hb dX2_grew_10 rfl (lv_at hl 2 rfl) ?_
      refine mi_callV (C := RX2) (As := [.int u]) (rest := [.ref (om 0)]) ⟨hx, hb, hml, hown, hW⟩ (n_isDay u y (by omega) mem) nE_ok (cwV 1 hW (gV tw_665 tw_667 tv_X2_isDay tw_3 tw_668) rfl rfl rfl (by decide +kernel) ⟨Nat.le_of_ble_eq_true rfl, Nat.le_of_ble_eq_true rfl⟩) (va_recv hK hP (ci := 2) (q0 := 0) rfl rfl) hP hD hK hS hA hT rfl hl.1 rfl (Nat.le_of_ble_eq_true rfl) dX2_grew_11 ⟨Nat.zero_le _, Nat.zero_le _⟩ (fun H locs hP hD hS => ?_)
      refine lv_eqi (v := nI 0) (by rw [hg2]; rfl) ?_
      refine lv_if_eq (tgt := 21) hx hb dX2_grew_14 (by decide) (fun _ => ?_) (fun hq9 => absurd (by decide) hq9)
      refine lv_iconst (v := nI 0) hx hb dX2_grew_21 (by decide) ?_
      refine lv_iload_n hx hb dX2_grew_22 rfl (lv_at hl 1 rfl) ?_
      refine lv_iload_n hx hb dX2_grew_23 rfl (lv_at hl 2 rfl) ?_
      refine lv_icmp_gt (tgt := 31) hx hb dX2_grew_24 (by decide) (fun hq1 => ?_) (fun hq1 => ?_)
      · refine lv_iconst (v := nI 0) hx hb dX2_grew_31 (by decide) ?_
        refine lv_iconst (v := nI 1) hx hb dX2_grew_32 (by decide) ?_
        refine mi_callV (C := RX2) (As := [.int (nI 0), .int (nI 0), .int (nI 1)]) (rest := []) ⟨hx, hb, hml, hown, hW⟩ (n_goes (nI 0) (nI 0) (nI 1) (nI 1) (nI 0) mem (if_pos (by decide)) (by decide)) nE_ok (cwV 3 hW (gV tw_601 tw_603 tv_X2_goes tw_3 tw_604) rfl rfl rfl (by decide +kernel) ⟨Nat.le_of_ble_eq_true rfl, Nat.le_of_ble_eq_true rfl⟩) (va_recv hK hP (ci := 2) (q0 := 0) rfl rfl) hP hD hK hS hA hT rfl hl.1 rfl (Nat.le_of_ble_eq_true rfl) dX2_grew_33 ⟨Nat.zero_le _, Nat.zero_le _⟩ (fun H locs hP hD hS => ?_)
        have hP : va_P D vwCl (wM om am cI cZ (nI 1) tp lv (nI y) pv pm (nI b) pt wy gone oR mem) H := hP
        have hD : va_D A (wM om am cI cZ (nI 1) tp lv (nI y) pv pm (nI b) pt wy gone oR mem) := hD
        refine lv_if_ne (tgt := 41) hx hb dX2_grew_36 (by decide) (fun hq9 => absurd (by decide) hq9) (fun _ => ?_)
        refine lv_iconst (v := nI 0) hx hb dX2_grew_39 (by decide) ?_
        have hP : va_P D vwCl (wM om am cI cZ (cdL [nIOB, nIAE] nm) tp lv (nI y) pv pm (nI b) pt wy gone oR mem) H := by rw [show cdL [nIOB, nIAE] nm = nI 1 from by rw [hn9]; decide +kernel]; exact hP
        have hD : va_D A (wM om am cI cZ (cdL [nIOB, nIAE] nm) tp lv (nI y) pv pm (nI b) pt wy gone oR mem) := by rw [show cdL [nIOB, nIAE] nm = nI 1 from by rw [hn9]; decide +kernel]; exact hD
        exact mi_ret hx hb hr (rfl) hlk hS hP hD (rfl) dX2_grew_40
      · refine lv_iconst (v := nI 1) hx hb dX2_grew_27 (by decide) ?_
        refine lv_goto (tgt := 32) hx hb dX2_grew_28 (by decide) ?_
        refine lv_iconst (v := nI 1) hx hb dX2_grew_32 (by decide) ?_
        refine mi_callV (C := RX2) (As := [.int (nI 0), .int (nI 1), .int (nI 1)]) (rest := []) ⟨hx, hb, hml, hown, hW⟩ (n_goes (nI 0) (nI 1) (nI 1) (nI 1) (nI 0) mem (if_pos (by decide)) (by decide)) nE_ok (cwV 3 hW (gV tw_601 tw_603 tv_X2_goes tw_3 tw_604) rfl rfl rfl (by decide +kernel) ⟨Nat.le_of_ble_eq_true rfl, Nat.le_of_ble_eq_true rfl⟩) (va_recv hK hP (ci := 2) (q0 := 0) rfl rfl) hP hD hK hS hA hT rfl hl.1 rfl (Nat.le_of_ble_eq_true rfl) dX2_grew_33 ⟨Nat.zero_le _, Nat.zero_le _⟩ (fun H locs hP hD hS => ?_)
        have hP : va_P D vwCl (wM om am cI cZ (nI 1) tp lv (nI y) pv pm (nI b) pt wy gone oR mem) H := hP
        have hD : va_D A (wM om am cI cZ (nI 1) tp lv (nI y) pv pm (nI b) pt wy gone oR mem) := hD
        refine lv_if_ne (tgt := 41) hx hb dX2_grew_36 (by decide) (fun hq9 => absurd (by decide) hq9) (fun _ => ?_)
        refine lv_iconst (v := nI 0) hx hb dX2_grew_39 (by decide) ?_
        have hP : va_P D vwCl (wM om am cI cZ (cdL [nIOB, nIAE] nm) tp lv (nI y) pv pm (nI b) pt wy gone oR mem) H := by rw [show cdL [nIOB, nIAE] nm = nI 1 from by rw [hn9]; decide +kernel]; exact hP
        have hD : va_D A (wM om am cI cZ (cdL [nIOB, nIAE] nm) tp lv (nI y) pv pm (nI b) pt wy gone oR mem) := by rw [show cdL [nIOB, nIAE] nm = nI 1 from by rw [hn9]; decide +kernel]; exact hD
        exact mi_ret hx hb hr (rfl) hlk hS hP hD (rfl) dX2_grew_40
    · skip
      have hg3 := hY2
      obtain ⟨hn9, hc9⟩ := x_if_some hg3
      skip
      refine lv_aload_n hx hb dX2_grew_0 rfl (lv_at hl 0 rfl) ?_
      refine lv_aload_n hx hb dX2_grew_1 rfl (lv_at hl 0 rfl) ?_
      refine lv_iload_n hx hb dX2_grew_2 rfl (lv_at hl 1 rfl) ?_
      refine mi_callV (C := RX2) (As := [.int v]) (rest := [.ref (om 0)]) ⟨hx, hb, hml, hown, hW⟩ (n_isDay v y (by omega) mem) nE_ok (cwV 1 hW (gV tw_665 tw_667 tv_X2_isDay tw_3 tw_668) rfl rfl rfl (by decide +kernel) ⟨Nat.le_of_ble_eq_true rfl, Nat.le_of_ble_eq_true rfl⟩) (va_recv hK hP (ci := 2) (q0 := 0) rfl rfl) hP hD hK hS hA hT rfl hl.1 rfl (Nat.le_of_ble_eq_true rfl) dX2_grew_3 ⟨Nat.zero_le _, Nat.zero_le _⟩ (fun H locs hP hD hS => ?_)
      refine lv_eqi (v := nI 1) (by rw [hg1]; rfl) ?_
      refine lv_if_eq (tgt := 21) hx hb dX2_grew_6 (by decide) (fun hq9 => absurd hq9 (by decide)) (fun _ => ?_)
      refine lv_aload_n hx hb dX2_grew_9 rfl (lv_at hl 0 rfl) ?_
      refine lv_iload_n hx hb dX2_grew_10 rfl (lv_at hl 2 rfl) ?_
      refine mi_callV (C := RX2) (As := [.int u]) (rest := [.ref (om 0)]) ⟨hx, hb, hml, hown, hW⟩ (n_isDay u y (by omega) mem) nE_ok (cwV 1 hW (gV tw_665 tw_667 tv_X2_isDay tw_3 tw_668) rfl rfl rfl (by decide +kernel) ⟨Nat.le_of_ble_eq_true rfl, Nat.le_of_ble_eq_true rfl⟩) (va_recv hK hP (ci := 2) (q0 := 0) rfl rfl) hP hD hK hS hA hT rfl hl.1 rfl (Nat.le_of_ble_eq_true rfl) dX2_grew_11 ⟨Nat.zero_le _, Nat.zero_le _⟩ (fun H locs hP hD hS => ?_)
      refine lv_eqi (v := nI 1) (by rw [hg2]; rfl) ?_
      refine lv_if_eq (tgt := 21) hx hb dX2_grew_14 (by decide) (fun hq9 => absurd hq9 (by decide)) (fun _ => ?_)
      refine lv_iconst (v := nI 1) hx hb dX2_grew_17 (by decide) ?_
      refine lv_goto (tgt := 22) hx hb dX2_grew_18 (by decide) ?_
      refine lv_iload_n hx hb dX2_grew_22 rfl (lv_at hl 1 rfl) ?_
      refine lv_iload_n hx hb dX2_grew_23 rfl (lv_at hl 2 rfl) ?_
      refine lv_icmp_gt (tgt := 31) hx hb dX2_grew_24 (by decide) (fun _ => ?_) (fun hq9 => absurd (Int32.not_le.mp hc9) hq9)
      refine lv_iconst (v := nI 0) hx hb dX2_grew_31 (by decide) ?_
      refine lv_iconst (v := nI 1) hx hb dX2_grew_32 (by decide) ?_
      refine mi_callV (C := RX2) (As := [.int (nI 1), .int (nI 0), .int (nI 1)]) (rest := []) ⟨hx, hb, hml, hown, hW⟩ (n_goes (nI 1) (nI 0) (nI 1) (nI 2) (nI 0) mem ((if_neg (by decide)).trans (if_pos (by decide))) (by decide)) nE_ok (cwV 3 hW (gV tw_601 tw_603 tv_X2_goes tw_3 tw_604) rfl rfl rfl (by decide +kernel) ⟨Nat.le_of_ble_eq_true rfl, Nat.le_of_ble_eq_true rfl⟩) (va_recv hK hP (ci := 2) (q0 := 0) rfl rfl) hP hD hK hS hA hT rfl hl.1 rfl (Nat.le_of_ble_eq_true rfl) dX2_grew_33 ⟨Nat.zero_le _, Nat.zero_le _⟩ (fun H locs hP hD hS => ?_)
      have hP : va_P D vwCl (wM om am cI cZ (nI 2) tp lv (nI y) pv pm (nI b) pt wy gone oR mem) H := hP
      have hD : va_D A (wM om am cI cZ (nI 2) tp lv (nI y) pv pm (nI b) pt wy gone oR mem) := hD
      refine lv_if_ne (tgt := 41) hx hb dX2_grew_36 (by decide) (fun hq9 => absurd (by decide) hq9) (fun _ => ?_)
      refine lv_iconst (v := nI 0) hx hb dX2_grew_39 (by decide) ?_
      have hP : va_P D vwCl (wM om am cI cZ (cdL [nIOB, nIAE] nm) tp lv (nI y) pv pm (nI b) pt wy gone oR mem) H := by rw [show cdL [nIOB, nIAE] nm = nI 2 from by rw [hn9]; decide +kernel]; exact hP
      have hD : va_D A (wM om am cI cZ (cdL [nIOB, nIAE] nm) tp lv (nI y) pv pm (nI b) pt wy gone oR mem) := by rw [show cdL [nIOB, nIAE] nm = nI 2 from by rw [hn9]; decide +kernel]; exact hD
      exact mi_ret hx hb hr (rfl) hlk hS hP hD (rfl) dX2_grew_40
set_option maxHeartbeats 800000 in
set_option maxRecDepth 100000 in
theorem n_grew0 {l : Launch} {D : va_G} {om am : Nat → Nat} {cI cZ cG : ClassId} {th tp lv pv pm pt wy : Int32} {gone oR : Nat → Int32} (y b da db ca cb : Nat) (hy : y ≤ 12) (hda : da < y) (hdb : db < y) (hab : da ≤ db) (mem : xMem) (hca : mem 1 da = nI ca) (hcb : mem 1 db = nI cb) (hca2 : ca ≤ 24) (hcb2 : cb ≤ 24) (hkc : ∀ i, i < 64 → mem 13 i = kc i) (h1 : p_iso 7 (32 * da) (m_tree 0 ca (b, mem)).2 = 0) : MI l nE yX2_grew (.code yX2_grew cX2_grew 3 (some .boolean) :: tW) ({ frames := 6, cells := 0, slots := 0, locals := 230 }) D vwCl (tC cI cZ cG) [.ref (om 0), .int (nI da), .int (nI db)] (wM om am cI cZ th tp lv (nI y) pv pm (nI b) pt wy gone oR mem) (wM om am cI cZ (nI 0) tp lv (nI y) pv pm (nI (m_tree 0 ca (b, mem)).1) (ptT ca pt) wy gone oR ((m_tree 0 ca (b, mem)).2)) (nI 0) := by
  refine MI.ofW (by decide +kernel) rfl (Nat.le_of_ble_eq_true rfl) ?_
  intro p e s m below meth c A ls hx hb hr hts hown hlk hml hA hP hK hD hT hl
  have hS : va_S A s.heap s.heap [] := va_S.rf
  have hown : s.vm.findClass RX2 = some m.cls := hown
  have hW : ∀ w ∈ tW, w.before _ s = true := fun w h => hts w (List.mem_cons_of_mem _ h)
  have hl : lv_has ls 3 [(0, .ref (om 0)), (1, .int (nI da)), (2, .int (nI db))] := hl
  have hk1 : ∀ j, j < 64 → (m_tree 0 ca (b, mem)).2 13 j = kc j := fun j hj => by rw [m_tree_k (by decide) (by decide) (by decide) (by decide) (by decide) (by decide)]; exact hkc j hj
  refine lv_aload_n hx hb dX2_grew_0 rfl (lv_at hl 0 rfl) ?_
  refine lv_aload_n hx hb dX2_grew_1 rfl (lv_at hl 0 rfl) ?_
  refine lv_iload_n hx hb dX2_grew_2 rfl (lv_at hl 1 rfl) ?_
  refine mi_callV (C := RX2) (As := [.int (nI da)]) (rest := [.ref (om 0)]) ⟨hx, hb, hml, hown, hW⟩ (n_isDay (nI da) y (by omega) mem) nE_ok (cwV 1 hW (gV tw_665 tw_667 tv_X2_isDay tw_3 tw_668) rfl rfl rfl (by decide +kernel) ⟨Nat.le_of_ble_eq_true rfl, Nat.le_of_ble_eq_true rfl⟩) (va_recv hK hP (ci := 2) (q0 := 0) rfl rfl) hP hD hK hS hA hT rfl hl.1 rfl (Nat.le_of_ble_eq_true rfl) dX2_grew_3 ⟨Nat.zero_le _, Nat.zero_le _⟩ (fun H locs hP hD hS => ?_)
  refine lv_eqi (v := nI 1) (by rw [x_req_nat hda (by omega)]; rfl) ?_
  refine lv_if_eq (tgt := 21) hx hb dX2_grew_6 (by decide) (fun hq9 => absurd hq9 (by decide)) (fun _ => ?_)
  refine lv_aload_n hx hb dX2_grew_9 rfl (lv_at hl 0 rfl) ?_
  refine lv_iload_n hx hb dX2_grew_10 rfl (lv_at hl 2 rfl) ?_
  refine mi_callV (C := RX2) (As := [.int (nI db)]) (rest := [.ref (om 0)]) ⟨hx, hb, hml, hown, hW⟩ (n_isDay (nI db) y (by omega) mem) nE_ok (cwV 1 hW (gV tw_665 tw_667 tv_X2_isDay tw_3 tw_668) rfl rfl rfl (by decide +kernel) ⟨Nat.le_of_ble_eq_true rfl, Nat.le_of_ble_eq_true rfl⟩) (va_recv hK hP (ci := 2) (q0 := 0) rfl rfl) hP hD hK hS hA hT rfl hl.1 rfl (Nat.le_of_ble_eq_true rfl) dX2_grew_11 ⟨Nat.zero_le _, Nat.zero_le _⟩ (fun H locs hP hD hS => ?_)
  refine lv_eqi (v := nI 1) (by rw [x_req_nat hdb (by omega)]; rfl) ?_
  refine lv_if_eq (tgt := 21) hx hb dX2_grew_14 (by decide) (fun hq9 => absurd hq9 (by decide)) (fun _ => ?_)
  refine lv_iconst (v := nI 1) hx hb dX2_grew_17 (by decide) ?_
  refine lv_goto (tgt := 22) hx hb dX2_grew_18 (by decide) ?_
  refine lv_iload_n hx hb dX2_grew_22 rfl (lv_at hl 1 rfl) ?_
  refine lv_iload_n hx hb dX2_grew_23 rfl (lv_at hl 2 rfl) ?_
  refine lv_icmp_gt (tgt := 31) hx hb dX2_grew_24 (by decide) (fun hq9 => absurd hq9 (nI_nlt (by omega) (by omega))) (fun _ => ?_)
  refine lv_iconst (v := nI 1) hx hb dX2_grew_27 (by decide) ?_
  refine lv_goto (tgt := 32) hx hb dX2_grew_28 (by decide) ?_
  refine lv_iconst (v := nI 1) hx hb dX2_grew_32 (by decide) ?_
  refine mi_callV (C := RX2) (As := [.int (nI 1), .int (nI 1), .int (nI 1)]) (rest := []) ⟨hx, hb, hml, hown, hW⟩ (n_goes (nI 1) (nI 1) (nI 1) (nI 0) (nI 1) mem ((if_neg (by decide)).trans ((if_neg (by decide)).trans (if_neg (by decide)))) (by decide)) nE_ok (cwV 3 hW (gV tw_601 tw_603 tv_X2_goes tw_3 tw_604) rfl rfl rfl (by decide +kernel) ⟨Nat.le_of_ble_eq_true rfl, Nat.le_of_ble_eq_true rfl⟩) (va_recv hK hP (ci := 2) (q0 := 0) rfl rfl) hP hD hK hS hA hT rfl hl.1 rfl (Nat.le_of_ble_eq_true rfl) dX2_grew_33 ⟨Nat.zero_le _, Nat.zero_le _⟩ (fun H locs hP hD hS => ?_)
  have hP : va_P D vwCl (wM om am cI cZ (nI 0) tp lv (nI y) pv pm (nI b) pt wy gone oR mem) H := hP
  have hD : va_D A (wM om am cI cZ (nI 0) tp lv (nI y) pv pm (nI b) pt wy gone oR mem) := hD
  refine lv_if_ne (tgt := 41) hx hb dX2_grew_36 (by decide) (fun _ => ?_) (fun hq9 => absurd hq9 (by decide))
  refine lv_aload_n hx hb dX2_grew_41 rfl (lv_at hl 0 rfl) ?_
  refine lv_iconst (v := nI 0) hx hb dX2_grew_42 (by decide) ?_
  refine lv_aload_n hx hb dX2_grew_43 rfl (lv_at hl 0 rfl) ?_
  refine va_get (D := D) (ci := 2) (v := .ref (am 1)) (C := RX2) (T := TX2) (N := 25) hx hb hW iMD hown hK hP 0 rfl rfl 7 (by decide) (hW _ tw_521) (fun _ h9 => h9) rfl dX2_grew_44 ?_
  refine lv_iload_n hx hb dX2_grew_47 rfl (lv_at hl 1 rfl) ?_
  refine m_ld (X := wMx om am cZ (nI 0) tp lv (nI y) pv pm (nI b) pt wy gone oR) hx hb hK hP 0 1 da rfl (by decide) (show da < 12 by omega) (by decide) dX2_grew_48 ?_
  refine lv_eqi (v := nI ca) (hca) ?_
  refine mv_callV (C := RX2) (As := [.int (nI 0), .int (nI ca)]) (rest := []) ⟨hx, hb, hml, hown, hW⟩ (n_tree 0 ca (by omega) b mem (hkc)) nE_ok (cwV 2 hW (gV tw_645 tw_647 tv_X2_tree tw_3 tw_648) rfl rfl rfl (by decide +kernel) ⟨Nat.le_of_ble_eq_true rfl, Nat.le_of_ble_eq_true rfl⟩) (va_recv hK hP (ci := 2) (q0 := 0) rfl rfl) hP hD hK hS hA hT rfl hl.1 rfl (Nat.le_of_ble_eq_true rfl) dX2_grew_49 ⟨Nat.zero_le _, Nat.zero_le _⟩ (fun H locs hP hD hS => ?_)
  have hP : va_P D vwCl (wM om am cI cZ (nI 0) tp lv (nI y) pv pm (nI (m_tree 0 ca (b, mem)).1) (ptT ca pt) wy gone oR ((m_tree 0 ca (b, mem)).2)) H := hP
  have hD : va_D A (wM om am cI cZ (nI 0) tp lv (nI y) pv pm (nI (m_tree 0 ca (b, mem)).1) (ptT ca pt) wy gone oR ((m_tree 0 ca (b, mem)).2)) := hD
  refine lv_aload_n hx hb dX2_grew_52 rfl (lv_at hl 0 rfl) ?_
  refine lv_aload_n hx hb dX2_grew_53 rfl (lv_at hl 0 rfl) ?_
  refine va_get (D := D) (ci := 2) (v := .ref (am 7)) (C := RX2) (T := TX2) (N := 25) hx hb hW iMD hown hK hP 0 rfl rfl 8 (by decide) (hW _ tw_522) (fun _ h9 => h9) rfl dX2_grew_54 ?_
  refine lv_bipush (v := nI 32) hx hb dX2_grew_57 (by decide) ?_
  refine lv_iload_n hx hb dX2_grew_59 rfl (lv_at hl 1 rfl) ?_
  refine lv_imul hx hb dX2_grew_60 ?_
  refine lv_eqi (v := nI (32 * da)) (pk_mul _ _) ?_
  refine mi_callV (C := RX2) (As := [.ref (am 7), .int (nI (32 * da))]) (rest := []) ⟨hx, hb, hml, hown, hW⟩ (n_isOut 7 (32 * da) (by decide) (show 32 * da + 32 ≤ 384 by omega) ((m_tree 0 ca (b, mem)).2)) nE_ok (cwV 2 hW (gV tw_704 tw_706 tv_X2_isOut tw_3 tw_707) rfl rfl rfl (by decide +kernel) ⟨Nat.le_of_ble_eq_true rfl, Nat.le_of_ble_eq_true rfl⟩) (va_recv hK hP (ci := 2) (q0 := 0) rfl rfl) hP hD hK hS hA hT rfl hl.1 rfl (Nat.le_of_ble_eq_true rfl) dX2_grew_61 ⟨Nat.zero_le _, Nat.zero_le _⟩ (fun H locs hP hD hS => ?_)
  refine lv_if_ne (tgt := 69) hx hb dX2_grew_64 (by decide) (fun hq9 => absurd (h1) hq9) (fun _ => ?_)
  refine lv_iconst (v := nI 0) hx hb dX2_grew_67 (by decide) ?_
  have hP : va_P D vwCl (wM om am cI cZ (nI 0) tp lv (nI y) pv pm (nI (m_tree 0 ca (b, mem)).1) (ptT ca pt) wy gone oR ((m_tree 0 ca (b, mem)).2)) H := by exact hP
  have hD : va_D A (wM om am cI cZ (nI 0) tp lv (nI y) pv pm (nI (m_tree 0 ca (b, mem)).1) (ptT ca pt) wy gone oR ((m_tree 0 ca (b, mem)).2)) := by exact hD
  exact mi_ret hx hb hr (rfl) hlk hS hP hD (rfl) dX2_grew_68
set_option maxHeartbeats 800000 in
set_option maxRecDepth 100000 in
theorem n_grew1 {l : Launch} {D : va_G} {om am : Nat → Nat} {cI cZ cG : ClassId} {th tp lv pv pm pt wy : Int32} {gone oR : Nat → Int32} (y b da db ca cb : Nat) (hy : y ≤ 12) (hda : da < y) (hdb : db < y) (hab : da ≤ db) (mem : xMem) (hca : mem 1 da = nI ca) (hcb : mem 1 db = nI cb) (hca2 : ca ≤ 24) (hcb2 : cb ≤ 24) (hkc : ∀ i, i < 64 → mem 13 i = kc i) (h1 : ¬ p_iso 7 (32 * da) (m_tree 0 ca (b, mem)).2 = 0) : MI l nE yX2_grew (.code yX2_grew cX2_grew 3 (some .boolean) :: tW) ({ frames := 6, cells := 0, slots := 0, locals := 230 }) D vwCl (tC cI cZ cG) [.ref (om 0), .int (nI da), .int (nI db)] (wM om am cI cZ th tp lv (nI y) pv pm (nI b) pt wy gone oR mem) (wM om am cI cZ (nI 0) tp lv (nI y) pv pm (nI (m_tree 0 cb (m_tree 0 ca (b, mem))).1) (ptT cb (ptT ca pt)) wy gone oR ((m_tree 0 cb (m_tree 0 ca (b, mem))).2)) (p_iso 7 (32 * db) (m_tree 0 cb (m_tree 0 ca (b, mem))).2) := by
  refine MI.ofW (by decide +kernel) rfl (Nat.le_of_ble_eq_true rfl) ?_
  intro p e s m below meth c A ls hx hb hr hts hown hlk hml hA hP hK hD hT hl
  have hS : va_S A s.heap s.heap [] := va_S.rf
  have hown : s.vm.findClass RX2 = some m.cls := hown
  have hW : ∀ w ∈ tW, w.before _ s = true := fun w h => hts w (List.mem_cons_of_mem _ h)
  have hl : lv_has ls 3 [(0, .ref (om 0)), (1, .int (nI da)), (2, .int (nI db))] := hl
  have hk1 : ∀ j, j < 64 → (m_tree 0 ca (b, mem)).2 13 j = kc j := fun j hj => by rw [m_tree_k (by decide) (by decide) (by decide) (by decide) (by decide) (by decide)]; exact hkc j hj
  refine lv_aload_n hx hb dX2_grew_0 rfl (lv_at hl 0 rfl) ?_
  refine lv_aload_n hx hb dX2_grew_1 rfl (lv_at hl 0 rfl) ?_
  refine lv_iload_n hx hb dX2_grew_2 rfl (lv_at hl 1 rfl) ?_
  refine mi_callV (C := RX2) (As := [.int (nI da)]) (rest := [.ref (om 0)]) ⟨hx, hb, hml, hown, hW⟩ (n_isDay (nI da) y (by omega) mem) nE_ok (cwV 1 hW (gV tw_665 tw_667 tv_X2_isDay tw_3 tw_668) rfl rfl rfl (by decide +kernel) ⟨Nat.le_of_ble_eq_true rfl, Nat.le_of_ble_eq_true rfl⟩) (va_recv hK hP (ci := 2) (q0 := 0) rfl rfl) hP hD hK hS hA hT rfl hl.1 rfl (Nat.le_of_ble_eq_true rfl) dX2_grew_3 ⟨Nat.zero_le _, Nat.zero_le _⟩ (fun H locs hP hD hS => ?_)
  refine lv_eqi (v := nI 1) (by rw [x_req_nat hda (by omega)]; rfl) ?_
  refine lv_if_eq (tgt := 21) hx hb dX2_grew_6 (by decide) (fun hq9 => absurd hq9 (by decide)) (fun _ => ?_)
  refine lv_aload_n hx hb dX2_grew_9 rfl (lv_at hl 0 rfl) ?_
  refine lv_iload_n hx hb dX2_grew_10 rfl (lv_at hl 2 rfl) ?_
  refine mi_callV (C := RX2) (As := [.int (nI db)]) (rest := [.ref (om 0)]) ⟨hx, hb, hml, hown, hW⟩ (n_isDay (nI db) y (by omega) mem) nE_ok (cwV 1 hW (gV tw_665 tw_667 tv_X2_isDay tw_3 tw_668) rfl rfl rfl (by decide +kernel) ⟨Nat.le_of_ble_eq_true rfl, Nat.le_of_ble_eq_true rfl⟩) (va_recv hK hP (ci := 2) (q0 := 0) rfl rfl) hP hD hK hS hA hT rfl hl.1 rfl (Nat.le_of_ble_eq_true rfl) dX2_grew_11 ⟨Nat.zero_le _, Nat.zero_le _⟩ (fun H locs hP hD hS => ?_)
  refine lv_eqi (v := nI 1) (by rw [x_req_nat hdb (by omega)]; rfl) ?_
  refine lv_if_eq (tgt := 21) hx hb dX2_grew_14 (by decide) (fun hq9 => absurd hq9 (by decide)) (fun _ => ?_)
  refine lv_iconst (v := nI 1) hx hb dX2_grew_17 (by decide) ?_
  refine lv_goto (tgt := 22) hx hb dX2_grew_18 (by decide) ?_
  refine lv_iload_n hx hb dX2_grew_22 rfl (lv_at hl 1 rfl) ?_
  refine lv_iload_n hx hb dX2_grew_23 rfl (lv_at hl 2 rfl) ?_
  refine lv_icmp_gt (tgt := 31) hx hb dX2_grew_24 (by decide) (fun hq9 => absurd hq9 (nI_nlt (by omega) (by omega))) (fun _ => ?_)
  refine lv_iconst (v := nI 1) hx hb dX2_grew_27 (by decide) ?_
  refine lv_goto (tgt := 32) hx hb dX2_grew_28 (by decide) ?_
  refine lv_iconst (v := nI 1) hx hb dX2_grew_32 (by decide) ?_
  refine mi_callV (C := RX2) (As := [.int (nI 1), .int (nI 1), .int (nI 1)]) (rest := []) ⟨hx, hb, hml, hown, hW⟩ (n_goes (nI 1) (nI 1) (nI 1) (nI 0) (nI 1) mem ((if_neg (by decide)).trans ((if_neg (by decide)).trans (if_neg (by decide)))) (by decide)) nE_ok (cwV 3 hW (gV tw_601 tw_603 tv_X2_goes tw_3 tw_604) rfl rfl rfl (by decide +kernel) ⟨Nat.le_of_ble_eq_true rfl, Nat.le_of_ble_eq_true rfl⟩) (va_recv hK hP (ci := 2) (q0 := 0) rfl rfl) hP hD hK hS hA hT rfl hl.1 rfl (Nat.le_of_ble_eq_true rfl) dX2_grew_33 ⟨Nat.zero_le _, Nat.zero_le _⟩ (fun H locs hP hD hS => ?_)
  have hP : va_P D vwCl (wM om am cI cZ (nI 0) tp lv (nI y) pv pm (nI b) pt wy gone oR mem) H := hP
  have hD : va_D A (wM om am cI cZ (nI 0) tp lv (nI y) pv pm (nI b) pt wy gone oR mem) := hD
  refine lv_if_ne (tgt := 41) hx hb dX2_grew_36 (by decide) (fun _ => ?_) (fun hq9 => absurd hq9 (by decide))
  refine lv_aload_n hx hb dX2_grew_41 rfl (lv_at hl 0 rfl) ?_
  refine lv_iconst (v := nI 0) hx hb dX2_grew_42 (by decide) ?_
  refine lv_aload_n hx hb dX2_grew_43 rfl (lv_at hl 0 rfl) ?_
  refine va_get (D := D) (ci := 2) (v := .ref (am 1)) (C := RX2) (T := TX2) (N := 25) hx hb hW iMD hown hK hP 0 rfl rfl 7 (by decide) (hW _ tw_521) (fun _ h9 => h9) rfl dX2_grew_44 ?_
  refine lv_iload_n hx hb dX2_grew_47 rfl (lv_at hl 1 rfl) ?_
  refine m_ld (X := wMx om am cZ (nI 0) tp lv (nI y) pv pm (nI b) pt wy gone oR) hx hb hK hP 0 1 da rfl (by decide) (show da < 12 by omega) (by decide) dX2_grew_48 ?_
  refine lv_eqi (v := nI ca) (hca) ?_
  refine mv_callV (C := RX2) (As := [.int (nI 0), .int (nI ca)]) (rest := []) ⟨hx, hb, hml, hown, hW⟩ (n_tree 0 ca (by omega) b mem (hkc)) nE_ok (cwV 2 hW (gV tw_645 tw_647 tv_X2_tree tw_3 tw_648) rfl rfl rfl (by decide +kernel) ⟨Nat.le_of_ble_eq_true rfl, Nat.le_of_ble_eq_true rfl⟩) (va_recv hK hP (ci := 2) (q0 := 0) rfl rfl) hP hD hK hS hA hT rfl hl.1 rfl (Nat.le_of_ble_eq_true rfl) dX2_grew_49 ⟨Nat.zero_le _, Nat.zero_le _⟩ (fun H locs hP hD hS => ?_)
  have hP : va_P D vwCl (wM om am cI cZ (nI 0) tp lv (nI y) pv pm (nI (m_tree 0 ca (b, mem)).1) (ptT ca pt) wy gone oR ((m_tree 0 ca (b, mem)).2)) H := hP
  have hD : va_D A (wM om am cI cZ (nI 0) tp lv (nI y) pv pm (nI (m_tree 0 ca (b, mem)).1) (ptT ca pt) wy gone oR ((m_tree 0 ca (b, mem)).2)) := hD
  refine lv_aload_n hx hb dX2_grew_52 rfl (lv_at hl 0 rfl) ?_
  refine lv_aload_n hx hb dX2_grew_53 rfl (lv_at hl 0 rfl) ?_
  refine va_get (D := D) (ci := 2) (v := .ref (am 7)) (C := RX2) (T := TX2) (N := 25) hx hb hW iMD hown hK hP 0 rfl rfl 8 (by decide) (hW _ tw_522) (fun _ h9 => h9) rfl dX2_grew_54 ?_
  refine lv_bipush (v := nI 32) hx hb dX2_grew_57 (by decide) ?_
  refine lv_iload_n hx hb dX2_grew_59 rfl (lv_at hl 1 rfl) ?_
  refine lv_imul hx hb dX2_grew_60 ?_
  refine lv_eqi (v := nI (32 * da)) (pk_mul _ _) ?_
  refine mi_callV (C := RX2) (As := [.ref (am 7), .int (nI (32 * da))]) (rest := []) ⟨hx, hb, hml, hown, hW⟩ (n_isOut 7 (32 * da) (by decide) (show 32 * da + 32 ≤ 384 by omega) ((m_tree 0 ca (b, mem)).2)) nE_ok (cwV 2 hW (gV tw_704 tw_706 tv_X2_isOut tw_3 tw_707) rfl rfl rfl (by decide +kernel) ⟨Nat.le_of_ble_eq_true rfl, Nat.le_of_ble_eq_true rfl⟩) (va_recv hK hP (ci := 2) (q0 := 0) rfl rfl) hP hD hK hS hA hT rfl hl.1 rfl (Nat.le_of_ble_eq_true rfl) dX2_grew_61 ⟨Nat.zero_le _, Nat.zero_le _⟩ (fun H locs hP hD hS => ?_)
  refine lv_if_ne (tgt := 69) hx hb dX2_grew_64 (by decide) (fun _ => ?_) (fun hq9 => absurd hq9 (h1))
  refine lv_aload_n hx hb dX2_grew_69 rfl (lv_at hl 0 rfl) ?_
  refine lv_iconst (v := nI 0) hx hb dX2_grew_70 (by decide) ?_
  refine lv_aload_n hx hb dX2_grew_71 rfl (lv_at hl 0 rfl) ?_
  refine va_get (D := D) (ci := 2) (v := .ref (am 1)) (C := RX2) (T := TX2) (N := 25) hx hb hW iMD hown hK hP 0 rfl rfl 7 (by decide) (hW _ tw_521) (fun _ h9 => h9) rfl dX2_grew_72 ?_
  refine lv_iload_n hx hb dX2_grew_75 rfl (lv_at hl 2 rfl) ?_
  refine m_ld (X := wMx om am cZ (nI 0) tp lv (nI y) pv pm (nI (m_tree 0 ca (b, mem)).1) (ptT ca pt) wy gone oR) hx hb hK hP 0 1 db rfl (by decide) (show db < 12 by omega) (by decide) dX2_grew_76 ?_
  refine lv_eqi (v := nI cb) (by rw [m_tree_k (by decide) (by decide) (by decide) (by decide) (by decide) (by decide)]; exact hcb) ?_
  refine mv_callV (C := RX2) (As := [.int (nI 0), .int (nI cb)]) (rest := []) ⟨hx, hb, hml, hown, hW⟩ (n_tree 0 cb (by omega) ((m_tree 0 ca (b, mem)).1) ((m_tree 0 ca (b, mem)).2) (hk1)) nE_ok (cwV 2 hW (gV tw_645 tw_647 tv_X2_tree tw_3 tw_648) rfl rfl rfl (by decide +kernel) ⟨Nat.le_of_ble_eq_true rfl, Nat.le_of_ble_eq_true rfl⟩) (va_recv hK hP (ci := 2) (q0 := 0) rfl rfl) hP hD hK hS hA hT rfl hl.1 rfl (Nat.le_of_ble_eq_true rfl) dX2_grew_77 ⟨Nat.zero_le _, Nat.zero_le _⟩ (fun H locs hP hD hS => ?_)
  have hP : va_P D vwCl (wM om am cI cZ (nI 0) tp lv (nI y) pv pm (nI (m_tree 0 cb (m_tree 0 ca (b, mem))).1) (ptT cb (ptT ca pt)) wy gone oR ((m_tree 0 cb (m_tree 0 ca (b, mem))).2)) H := hP
  have hD : va_D A (wM om am cI cZ (nI 0) tp lv (nI y) pv pm (nI (m_tree 0 cb (m_tree 0 ca (b, mem))).1) (ptT cb (ptT ca pt)) wy gone oR ((m_tree 0 cb (m_tree 0 ca (b, mem))).2)) := hD
  refine lv_aload_n hx hb dX2_grew_80 rfl (lv_at hl 0 rfl) ?_
  refine lv_aload_n hx hb dX2_grew_81 rfl (lv_at hl 0 rfl) ?_
  refine va_get (D := D) (ci := 2) (v := .ref (am 7)) (C := RX2) (T := TX2) (N := 25) hx hb hW iMD hown hK hP 0 rfl rfl 8 (by decide) (hW _ tw_522) (fun _ h9 => h9) rfl dX2_grew_82 ?_
  refine lv_bipush (v := nI 32) hx hb dX2_grew_85 (by decide) ?_
  refine lv_iload_n hx hb dX2_grew_87 rfl (lv_at hl 2 rfl) ?_
  refine lv_imul hx hb dX2_grew_88 ?_
  refine lv_eqi (v := nI (32 * db)) (pk_mul _ _) ?_
  refine mi_callV (C := RX2) (As := [.ref (am 7), .int (nI (32 * db))]) (rest := []) ⟨hx, hb, hml, hown, hW⟩ (n_isOut 7 (32 * db) (by decide) (show 32 * db + 32 ≤ 384 by omega) ((m_tree 0 cb (m_tree 0 ca (b, mem))).2)) nE_ok (cwV 2 hW (gV tw_704 tw_706 tv_X2_isOut tw_3 tw_707) rfl rfl rfl (by decide +kernel) ⟨Nat.le_of_ble_eq_true rfl, Nat.le_of_ble_eq_true rfl⟩) (va_recv hK hP (ci := 2) (q0 := 0) rfl rfl) hP hD hK hS hA hT rfl hl.1 rfl (Nat.le_of_ble_eq_true rfl) dX2_grew_89 ⟨Nat.zero_le _, Nat.zero_le _⟩ (fun H locs hP hD hS => ?_)
  have hP : va_P D vwCl (wM om am cI cZ (nI 0) tp lv (nI y) pv pm (nI (m_tree 0 cb (m_tree 0 ca (b, mem))).1) (ptT cb (ptT ca pt)) wy gone oR ((m_tree 0 cb (m_tree 0 ca (b, mem))).2)) H := by exact hP
  have hD : va_D A (wM om am cI cZ (nI 0) tp lv (nI y) pv pm (nI (m_tree 0 cb (m_tree 0 ca (b, mem))).1) (ptT cb (ptT ca pt)) wy gone oR ((m_tree 0 cb (m_tree 0 ca (b, mem))).2)) := by exact hD
  exact mi_ret hx hb hr (p_iso_nar _ _ _) hlk hS hP hD (rfl) dX2_grew_92
set_option maxHeartbeats 800000 in
set_option maxRecDepth 100000 in
theorem n_absence_no {l : Launch} {D : va_G} {om am : Nat → Nat} {cI cZ cG : ClassId} {th tp dy pv pm by_ pt wy : Int32} {gone oR : Nat → Int32} (q : Nat) (hq : q ≤ 24) (v sd : Int32) (mem : xMem) (nm : String) (hX : (x_req v (nI q)).or ((x_if (¬ (sd = 0 ∨ sd = nI 1)) nIOB).or (x_if (¬ gone (tn v) = 0) nISE)) = some nm) : MI l nE yX2_absence (.code yX2_absence cX2_absence 7 (some .int) :: tW) ({ frames := 4, cells := 0, slots := 0, locals := 100 }) D vwCl (tC cI cZ cG) [.ref (om 0), .int v, .int sd] (wM om am cI cZ th tp (nI q) dy pv pm by_ pt wy gone oR mem) (wM om am cI cZ (cdL [nIOB, nISE] nm) tp (nI q) dy pv pm by_ pt wy gone oR mem) (nI 0) := by
  refine MI.ofW (by decide +kernel) rfl (Nat.le_of_ble_eq_true rfl) ?_
  intro p e s m below meth c A ls hx hb hr hts hown hlk hml hA hP hK hD hT hl
  have hS : va_S A s.heap s.heap [] := va_S.rf
  have hown : s.vm.findClass RX2 = some m.cls := hown
  have hW : ∀ w ∈ tW, w.before _ s = true := fun w h => hts w (List.mem_cons_of_mem _ h)
  have hl : lv_has ls 7 [(0, .ref (om 0)), (1, .int v), (2, .int sd)] := hl
  rcases x_or_some hX with hg1 | ⟨hg1, hY1⟩
  · skip
    have hn9 := x_req_some hg1
    skip
    refine lv_aload_n hx hb dX2_absence_0 rfl (lv_at hl 0 rfl) ?_
    refine lv_iload_n hx hb dX2_absence_1 rfl (lv_at hl 1 rfl) ?_
    refine mi_callV (C := RX2) (As := [.int v]) (rest := []) ⟨hx, hb, hml, hown, hW⟩ (n_isLeaf v q (by omega) mem) nE_ok (cwV 1 hW (gV tw_676 tw_678 tv_X2_isLeaf tw_3 tw_679) rfl rfl rfl (by decide +kernel) ⟨Nat.le_of_ble_eq_true rfl, Nat.le_of_ble_eq_true rfl⟩) (va_recv hK hP (ci := 2) (q0 := 0) rfl rfl) hP hD hK hS hA hT rfl hl.1 rfl (Nat.le_of_ble_eq_true rfl) dX2_absence_2 ⟨Nat.zero_le _, Nat.zero_le _⟩ (fun H locs hP hD hS => ?_)
    refine lv_eqi (v := nI 0) (by rw [hg1]; rfl) ?_
    refine lv_if_eq (tgt := 21) hx hb dX2_absence_5 (by decide) (fun _ => ?_) (fun hq9 => absurd (by decide) hq9)
    refine lv_iconst (v := nI 0) hx hb dX2_absence_21 (by decide) ?_
    refine lv_istore_n (lv' := [(3, .int (nI 0)), (0, .ref (om 0)), (1, .int v), (2, .int sd)]) hx hb dX2_absence_22 rfl hl (by decide) rfl (fun ls hl => ?_)
    refine lv_aload_n hx hb dX2_absence_23 rfl (lv_at hl 1 rfl) ?_
    refine lv_iload_n hx hb dX2_absence_24 rfl (lv_at hl 0 rfl) ?_
    refine lv_iload_n hx hb dX2_absence_25 rfl (lv_at hl 0 rfl) ?_
    refine lv_if_eq (tgt := 42) hx hb dX2_absence_26 (by decide) (fun _ => ?_) (fun hq9 => absurd (by decide) hq9)
    refine lv_iconst (v := nI 0) hx hb dX2_absence_42 (by decide) ?_
    refine lv_iconst (v := nI 1) hx hb dX2_absence_43 (by decide) ?_
    refine mi_callV (C := RX2) (As := [.int (nI 0), .int (nI 0), .int (nI 1)]) (rest := []) ⟨hx, hb, hml, hown, hW⟩ (n_goes (nI 0) (nI 0) (nI 1) (nI 1) (nI 0) mem (if_pos (by decide)) (by decide)) nE_ok (cwV 3 hW (gV tw_601 tw_603 tv_X2_goes tw_3 tw_604) rfl rfl rfl (by decide +kernel) ⟨Nat.le_of_ble_eq_true rfl, Nat.le_of_ble_eq_true rfl⟩) (va_recv hK hP (ci := 2) (q0 := 0) rfl rfl) hP hD hK hS hA hT rfl hl.1 rfl (Nat.le_of_ble_eq_true rfl) dX2_absence_44 ⟨Nat.zero_le _, Nat.zero_le _⟩ (fun H locs hP hD hS => ?_)
    have hP : va_P D vwCl (wM om am cI cZ (nI 1) tp (nI q) dy pv pm by_ pt wy gone oR mem) H := hP
    have hD : va_D A (wM om am cI cZ (nI 1) tp (nI q) dy pv pm by_ pt wy gone oR mem) := hD
    refine lv_if_ne (tgt := 52) hx hb dX2_absence_47 (by decide) (fun hq9 => absurd (by decide) hq9) (fun _ => ?_)
    refine lv_iconst (v := nI 0) hx hb dX2_absence_50 (by decide) ?_
    have hP : va_P D vwCl (wM om am cI cZ (cdL [nIOB, nISE] nm) tp (nI q) dy pv pm by_ pt wy gone oR mem) H := by rw [show cdL [nIOB, nISE] nm = nI 1 from by rw [hn9]; decide +kernel]; exact hP
    have hD : va_D A (wM om am cI cZ (cdL [nIOB, nISE] nm) tp (nI q) dy pv pm by_ pt wy gone oR mem) := by rw [show cdL [nIOB, nISE] nm = nI 1 from by rw [hn9]; decide +kernel]; exact hD
    exact mi_ret hx hb hr (rfl) hlk hS hP hD (rfl) dX2_absence_51
  · skip
    rcases x_or_some hY1 with hg2 | ⟨hg2, hY2⟩
    · skip
      obtain ⟨hn9, hc9⟩ := x_if_some hg2
      skip
      refine lv_aload_n hx hb dX2_absence_0 rfl (lv_at hl 0 rfl) ?_
      refine lv_iload_n hx hb dX2_absence_1 rfl (lv_at hl 1 rfl) ?_
      refine mi_callV (C := RX2) (As := [.int v]) (rest := []) ⟨hx, hb, hml, hown, hW⟩ (n_isLeaf v q (by omega) mem) nE_ok (cwV 1 hW (gV tw_676 tw_678 tv_X2_isLeaf tw_3 tw_679) rfl rfl rfl (by decide +kernel) ⟨Nat.le_of_ble_eq_true rfl, Nat.le_of_ble_eq_true rfl⟩) (va_recv hK hP (ci := 2) (q0 := 0) rfl rfl) hP hD hK hS hA hT rfl hl.1 rfl (Nat.le_of_ble_eq_true rfl) dX2_absence_2 ⟨Nat.zero_le _, Nat.zero_le _⟩ (fun H locs hP hD hS => ?_)
      refine lv_eqi (v := nI 1) (by rw [hg1]; rfl) ?_
      refine lv_if_eq (tgt := 21) hx hb dX2_absence_5 (by decide) (fun hq9 => absurd hq9 (by decide)) (fun _ => ?_)
      refine lv_iload_n hx hb dX2_absence_8 rfl (lv_at hl 2 rfl) ?_
      refine lv_iconst (v := nI 0) hx hb dX2_absence_9 (by decide) ?_
      refine lv_iconst (v := nI 1) hx hb dX2_absence_10 (by decide) ?_
      refine mi_callS (As := [.int sd, .int (nI 0), .int (nI 1)]) (rest := []) ⟨hx, hb, hml, hown, hW⟩ (n_in _ sd (nI 0) (nI 1)) nE_ok (va_cwS 3 hW (gS tw_598 tw_599 tw_3 tw_600) rfl rfl rfl (by decide +kernel) ⟨Nat.le_of_ble_eq_true rfl, Nat.le_of_ble_eq_true rfl⟩) hP hD hK hS hA hT rfl hl.1 rfl (Nat.le_of_ble_eq_true rfl) dX2_absence_11 ⟨Nat.zero_le _, Nat.zero_le _⟩ (fun H locs hP hD hS => ?_)
      refine lv_eqi (v := nI 0) (by rw [p_in_side]; rw [hg2]; rfl) ?_
      refine lv_if_eq (tgt := 21) hx hb dX2_absence_14 (by decide) (fun _ => ?_) (fun hq9 => absurd (by decide) hq9)
      refine lv_iconst (v := nI 0) hx hb dX2_absence_21 (by decide) ?_
      refine lv_istore_n (lv' := [(3, .int (nI 0)), (0, .ref (om 0)), (1, .int v), (2, .int sd)]) hx hb dX2_absence_22 rfl hl (by decide) rfl (fun ls hl => ?_)
      refine lv_aload_n hx hb dX2_absence_23 rfl (lv_at hl 1 rfl) ?_
      refine lv_iload_n hx hb dX2_absence_24 rfl (lv_at hl 0 rfl) ?_
      refine lv_iload_n hx hb dX2_absence_25 rfl (lv_at hl 0 rfl) ?_
      refine lv_if_eq (tgt := 42) hx hb dX2_absence_26 (by decide) (fun _ => ?_) (fun hq9 => absurd (by decide) hq9)
      refine lv_iconst (v := nI 0) hx hb dX2_absence_42 (by decide) ?_
      refine lv_iconst (v := nI 1) hx hb dX2_absence_43 (by decide) ?_
      refine mi_callV (C := RX2) (As := [.int (nI 0), .int (nI 0), .int (nI 1)]) (rest := []) ⟨hx, hb, hml, hown, hW⟩ (n_goes (nI 0) (nI 0) (nI 1) (nI 1) (nI 0) mem (if_pos (by decide)) (by decide)) nE_ok (cwV 3 hW (gV tw_601 tw_603 tv_X2_goes tw_3 tw_604) rfl rfl rfl (by decide +kernel) ⟨Nat.le_of_ble_eq_true rfl, Nat.le_of_ble_eq_true rfl⟩) (va_recv hK hP (ci := 2) (q0 := 0) rfl rfl) hP hD hK hS hA hT rfl hl.1 rfl (Nat.le_of_ble_eq_true rfl) dX2_absence_44 ⟨Nat.zero_le _, Nat.zero_le _⟩ (fun H locs hP hD hS => ?_)
      have hP : va_P D vwCl (wM om am cI cZ (nI 1) tp (nI q) dy pv pm by_ pt wy gone oR mem) H := hP
      have hD : va_D A (wM om am cI cZ (nI 1) tp (nI q) dy pv pm by_ pt wy gone oR mem) := hD
      refine lv_if_ne (tgt := 52) hx hb dX2_absence_47 (by decide) (fun hq9 => absurd (by decide) hq9) (fun _ => ?_)
      refine lv_iconst (v := nI 0) hx hb dX2_absence_50 (by decide) ?_
      have hP : va_P D vwCl (wM om am cI cZ (cdL [nIOB, nISE] nm) tp (nI q) dy pv pm by_ pt wy gone oR mem) H := by rw [show cdL [nIOB, nISE] nm = nI 1 from by rw [hn9]; decide +kernel]; exact hP
      have hD : va_D A (wM om am cI cZ (cdL [nIOB, nISE] nm) tp (nI q) dy pv pm by_ pt wy gone oR mem) := by rw [show cdL [nIOB, nISE] nm = nI 1 from by rw [hn9]; decide +kernel]; exact hD
      exact mi_ret hx hb hr (rfl) hlk hS hP hD (rfl) dX2_absence_51
    · skip
      have hg3 := hY2
      obtain ⟨hn9, hc9⟩ := x_if_some hg3
      skip
      obtain ⟨d, hd, rfl⟩ := x_req_none (by omega) hg1
      rw [show tn (nI d) = d from nI_clamp (by omega)] at hc9
      refine lv_aload_n hx hb dX2_absence_0 rfl (lv_at hl 0 rfl) ?_
      refine lv_iload_n hx hb dX2_absence_1 rfl (lv_at hl 1 rfl) ?_
      refine mi_callV (C := RX2) (As := [.int (nI d)]) (rest := []) ⟨hx, hb, hml, hown, hW⟩ (n_isLeaf (nI d) q (by omega) mem) nE_ok (cwV 1 hW (gV tw_676 tw_678 tv_X2_isLeaf tw_3 tw_679) rfl rfl rfl (by decide +kernel) ⟨Nat.le_of_ble_eq_true rfl, Nat.le_of_ble_eq_true rfl⟩) (va_recv hK hP (ci := 2) (q0 := 0) rfl rfl) hP hD hK hS hA hT rfl hl.1 rfl (Nat.le_of_ble_eq_true rfl) dX2_absence_2 ⟨Nat.zero_le _, Nat.zero_le _⟩ (fun H locs hP hD hS => ?_)
      refine lv_eqi (v := nI 1) (by rw [hg1]; rfl) ?_
      refine lv_if_eq (tgt := 21) hx hb dX2_absence_5 (by decide) (fun hq9 => absurd hq9 (by decide)) (fun _ => ?_)
      refine lv_iload_n hx hb dX2_absence_8 rfl (lv_at hl 2 rfl) ?_
      refine lv_iconst (v := nI 0) hx hb dX2_absence_9 (by decide) ?_
      refine lv_iconst (v := nI 1) hx hb dX2_absence_10 (by decide) ?_
      refine mi_callS (As := [.int sd, .int (nI 0), .int (nI 1)]) (rest := []) ⟨hx, hb, hml, hown, hW⟩ (n_in _ sd (nI 0) (nI 1)) nE_ok (va_cwS 3 hW (gS tw_598 tw_599 tw_3 tw_600) rfl rfl rfl (by decide +kernel) ⟨Nat.le_of_ble_eq_true rfl, Nat.le_of_ble_eq_true rfl⟩) hP hD hK hS hA hT rfl hl.1 rfl (Nat.le_of_ble_eq_true rfl) dX2_absence_11 ⟨Nat.zero_le _, Nat.zero_le _⟩ (fun H locs hP hD hS => ?_)
      refine lv_eqi (v := nI 1) (by rw [p_in_side]; rw [hg2]; rfl) ?_
      refine lv_if_eq (tgt := 21) hx hb dX2_absence_14 (by decide) (fun hq9 => absurd hq9 (by decide)) (fun _ => ?_)
      refine lv_iconst (v := nI 1) hx hb dX2_absence_17 (by decide) ?_
      refine lv_goto (tgt := 22) hx hb dX2_absence_18 (by decide) ?_
      refine lv_istore_n (lv' := [(3, .int (nI 1)), (0, .ref (om 0)), (1, .int (nI d)), (2, .int sd)]) hx hb dX2_absence_22 rfl hl (by decide) rfl (fun ls hl => ?_)
      refine lv_aload_n hx hb dX2_absence_23 rfl (lv_at hl 1 rfl) ?_
      refine lv_iload_n hx hb dX2_absence_24 rfl (lv_at hl 0 rfl) ?_
      refine lv_iload_n hx hb dX2_absence_25 rfl (lv_at hl 0 rfl) ?_
      refine lv_if_eq (tgt := 42) hx hb dX2_absence_26 (by decide) (fun hq9 => absurd hq9 (by decide)) (fun _ => ?_)
      refine lv_aload_n hx hb dX2_absence_29 rfl (lv_at hl 1 rfl) ?_
      refine va_get (D := D) (ci := 2) (v := .ref (om 1)) (C := RX2) (T := TX2) (N := 25) hx hb hW iMD hown hK hP 0 rfl rfl 5 (by decide) (hW _ tw_519) (fun _ h9 => h9) rfl dX2_absence_30 ?_
      refine lv_iload_n hx hb dX2_absence_33 rfl (lv_at hl 2 rfl) ?_
      refine m_zld hx hb hK hP 1 1 d rfl rfl (by omega) (by decide) dX2_absence_34 ?_
      refine lv_if_ne (tgt := 42) hx hb dX2_absence_35 (by decide) (fun _ => ?_) (fun hq9 => absurd hq9 (hc9))
      refine lv_iconst (v := nI 0) hx hb dX2_absence_42 (by decide) ?_
      refine lv_iconst (v := nI 1) hx hb dX2_absence_43 (by decide) ?_
      refine mi_callV (C := RX2) (As := [.int (nI 1), .int (nI 0), .int (nI 1)]) (rest := []) ⟨hx, hb, hml, hown, hW⟩ (n_goes (nI 1) (nI 0) (nI 1) (nI 2) (nI 0) mem ((if_neg (by decide)).trans (if_pos (by decide))) (by decide)) nE_ok (cwV 3 hW (gV tw_601 tw_603 tv_X2_goes tw_3 tw_604) rfl rfl rfl (by decide +kernel) ⟨Nat.le_of_ble_eq_true rfl, Nat.le_of_ble_eq_true rfl⟩) (va_recv hK hP (ci := 2) (q0 := 0) rfl rfl) hP hD hK hS hA hT rfl hl.1 rfl (Nat.le_of_ble_eq_true rfl) dX2_absence_44 ⟨Nat.zero_le _, Nat.zero_le _⟩ (fun H locs hP hD hS => ?_)
      have hP : va_P D vwCl (wM om am cI cZ (nI 2) tp (nI q) dy pv pm by_ pt wy gone oR mem) H := hP
      have hD : va_D A (wM om am cI cZ (nI 2) tp (nI q) dy pv pm by_ pt wy gone oR mem) := hD
      refine lv_if_ne (tgt := 52) hx hb dX2_absence_47 (by decide) (fun hq9 => absurd (by decide) hq9) (fun _ => ?_)
      refine lv_iconst (v := nI 0) hx hb dX2_absence_50 (by decide) ?_
      have hP : va_P D vwCl (wM om am cI cZ (cdL [nIOB, nISE] nm) tp (nI q) dy pv pm by_ pt wy gone oR mem) H := by rw [show cdL [nIOB, nISE] nm = nI 2 from by rw [hn9]; decide +kernel]; exact hP
      have hD : va_D A (wM om am cI cZ (cdL [nIOB, nISE] nm) tp (nI q) dy pv pm by_ pt wy gone oR mem) := by rw [show cdL [nIOB, nISE] nm = nI 2 from by rw [hn9]; decide +kernel]; exact hD
      exact mi_ret hx hb hr (rfl) hlk hS hP hD (rfl) dX2_absence_51
set_option maxHeartbeats 800000 in
set_option maxRecDepth 100000 in
theorem n_absence {l : Launch} {D : va_G} {om am : Nat → Nat} {cI cZ cG : ClassId} {th tp dy pv pm by_ pt wy : Int32} {gone oR : Nat → Int32} (q lf : Nat) (hq : q ≤ 24) (hlf : lf < q) (sd : Int32) (hsd : x_if (¬ (sd = 0 ∨ sd = nI 1)) nIOB = none) (hg : gone lf = 0) (mem : xMem) : MI l nE yX2_absence (.code yX2_absence cX2_absence 7 (some .int) :: tW) ({ frames := 4, cells := 0, slots := 0, locals := 120 }) D vwCl (tC cI cZ cG) [.ref (om 0), .int (nI lf), .int sd] (wM om am cI cZ th tp (nI q) dy pv pm by_ pt wy gone oR mem) (wM om am cI cZ (nI 0) tp (nI q) dy pv pm by_ pt wy gone oR mem) (nrI (mnr sd gone mem lf q)) := by
  refine MI.ofW (by decide +kernel) rfl (Nat.le_of_ble_eq_true rfl) ?_
  intro p e s m below meth c A ls hx hb hr hts hown hlk hml hA hP hK hD hT hl
  have hS : va_S A s.heap s.heap [] := va_S.rf
  have hown : s.vm.findClass RX2 = some m.cls := hown
  have hW : ∀ w ∈ tW, w.before _ s = true := fun w h => hts w (List.mem_cons_of_mem _ h)
  have hl : lv_has ls 7 [(0, .ref (om 0)), (1, .int (nI lf)), (2, .int sd)] := hl
  have lo : ∀ (k i : Nat) (H : Heap) (locs : List Loc) (ls : Array Slot), i + k = q → va_P D vwCl (wM om am cI cZ (nI 0) tp (nI q) dy pv pm by_ pt wy gone oR mem) H → va_D A (wM om am cI cZ (nI 0) tp (nI q) dy pv pm by_ pt wy gone oR mem) → va_S A s.heap H locs → lv_has ls 7 [(0, .ref (om 0)), (1, .int (nI lf)), (2, .int sd), (4, .int (nrI (mnr sd gone mem lf i))), (5, .int (nI i))] → W p l e ({ frames := 4, cells := 0, slots := 0, locals := 120 }) s m ([.ref (om 0), .int (nI lf), .int sd] : List Value).toArray below meth c H locs 0 0 (MQ below (xQi D vwCl (wM om am cI cZ (nI 0) tp (nI q) dy pv pm by_ pt wy gone oR mem) (nrI (mnr sd gone mem lf q)) A) ([.ref (om 0), .int (nI lf), .int sd] : List Value).toArray s 0 0 A) (F0 m 58 ls []) := by
    intro k
    induction k with
    | zero =>
      intro i H locs ls hk hP hD hS hl
      have hk9 : i = q := by omega
      refine lv_iload hx hb dX2_absence_58 (lv_at hl 4 rfl) ?_
      refine lv_aload_n hx hb dX2_absence_60 rfl (lv_at hl 0 rfl) ?_
      refine va_get (D := D) (ci := 2) (v := .int (nI q)) (C := RX2) (T := TX2) (N := 25) hx hb hW iMD hown hK hP 0 rfl rfl 3 (by decide) (hW _ tw_517) (fun _ h9 => h9) rfl dX2_absence_61 ?_
      refine lv_icmp_ge (tgt := 150) hx hb dX2_absence_64 (by decide) (fun _ => ?_) (fun hq9 => absurd (nI_le (by omega) (by omega)) hq9)
      refine lv_iload hx hb dX2_absence_150 (lv_at hl 3 rfl) ?_
      have hP : va_P D vwCl (wM om am cI cZ (nI 0) tp (nI q) dy pv pm by_ pt wy gone oR mem) H := by exact hP
      have hD : va_D A (wM om am cI cZ (nI 0) tp (nI q) dy pv pm by_ pt wy gone oR mem) := by exact hD
      exact mi_ret hx hb hr (rfl) hlk hS hP hD (by rw [hk9]) dX2_absence_152
    | succ k ih =>
      intro i H locs ls hk hP hD hS hl
      refine lv_iload hx hb dX2_absence_58 (lv_at hl 4 rfl) ?_
      refine lv_aload_n hx hb dX2_absence_60 rfl (lv_at hl 0 rfl) ?_
      refine va_get (D := D) (ci := 2) (v := .int (nI q)) (C := RX2) (T := TX2) (N := 25) hx hb hW iMD hown hK hP 0 rfl rfl 3 (by decide) (hW _ tw_517) (fun _ h9 => h9) rfl dX2_absence_61 ?_
      refine lv_icmp_ge (tgt := 150) hx hb dX2_absence_64 (by decide) (fun hq9 => absurd hq9 (nI_ge (by omega) (by omega))) (fun _ => ?_)
      refine lv_aload_n hx hb dX2_absence_67 rfl (lv_at hl 0 rfl) ?_
      refine lv_iload hx hb dX2_absence_68 (lv_at hl 4 rfl) ?_
      refine lv_iload_n hx hb dX2_absence_70 rfl (lv_at hl 1 rfl) ?_
      refine mi_callV (C := RX2) (As := [.int (nI i), .int (nI lf)]) (rest := []) ⟨hx, hb, hml, hown, hW⟩ (n_order i lf (by omega) (by omega) mem) nE_ok (cwV 2 hW (gV tw_720 tw_722 tv_X2_order tw_3 tw_723) rfl rfl rfl (by decide +kernel) ⟨Nat.le_of_ble_eq_true rfl, Nat.le_of_ble_eq_true rfl⟩) (va_recv hK hP (ci := 2) (q0 := 0) rfl rfl) hP hD hK hS hA hT rfl hl.1 rfl (Nat.le_of_ble_eq_true rfl) dX2_absence_71 ⟨Nat.zero_le _, Nat.zero_le _⟩ (fun H locs hP hD hS => ?_)
      refine lv_istore (lv' := [(6, .int (p_ord i lf mem)), (0, .ref (om 0)), (1, .int (nI lf)), (2, .int sd), (4, .int (nrI (mnr sd gone mem lf i))), (5, .int (nI i))]) hx hb dX2_absence_74 hl (by decide) rfl (fun ls hl => ?_)
      refine lv_aload_n hx hb dX2_absence_76 rfl (lv_at hl 1 rfl) ?_
      refine va_get (D := D) (ci := 2) (v := .ref (om 1)) (C := RX2) (T := TX2) (N := 25) hx hb hW iMD hown hK hP 0 rfl rfl 5 (by decide) (hW _ tw_519) (fun _ h9 => h9) rfl dX2_absence_77 ?_
      refine lv_iload hx hb dX2_absence_80 (lv_at hl 5 rfl) ?_
      refine m_zld hx hb hK hP 1 1 i rfl rfl (by omega) (by decide) dX2_absence_82 ?_
      refine lv_if_eq (tgt := 144) hx hb dX2_absence_83 (by decide) (fun ha => ?_) (fun ha => ?_)
      · have e1 : mnr sd gone mem lf (i + 1) = mnr sd gone mem lf i := by
          rw [mnr_s]
          unfold mnS
          rw [if_pos ha]
        refine lv_iinc (v := nI (i + 1)) (lv' := [(5, .int (nI (i + 1))), (6, .int (p_ord i lf mem)), (0, .ref (om 0)), (1, .int (nI lf)), (2, .int sd), (4, .int (nrI (mnr sd gone mem lf i)))]) hx hb dX2_absence_144 hl (k := 5) rfl (nI_1 _) (by decide) rfl (fun ls hl => ?_)
        refine lv_goto (tgt := 58) hx hb dX2_absence_147 (by decide) ?_
        have hl := lv_sub hl [2, 3, 4, 5, 0] rfl
        refine ih (i + 1) H locs ls (by omega) hP hD hS ?_
        rw [e1]
        exact hl
      · refine lv_iload_n hx hb dX2_absence_86 rfl (lv_at hl 3 rfl) ?_
        refine lv_if_ne (tgt := 98) hx hb dX2_absence_87 (by decide) (fun hs => ?_) (fun hs => ?_)
        · refine lv_iload hx hb dX2_absence_98 (lv_at hl 0 rfl) ?_
          refine lv_if_gt (tgt := 106) hx hb dX2_absence_100 (by decide) (fun ho => ?_) (fun ho => ?_)
          · cases hr9 : mnr sd gone mem lf i with
            | none =>
              rw [hr9] at hl
              refine lv_iload hx hb dX2_absence_106 (lv_at hl 4 rfl) ?_
              refine lv_if_lt (tgt := 140) hx hb dX2_absence_108 (by decide) (fun _ => ?_) (fun hq9 => absurd (by decide) hq9)
              have e1 : mnr sd gone mem lf (i + 1) = some i := by
                rw [mnr_s, hr9]
                unfold mnS
                rw [if_neg ha, if_neg hs, if_pos ho]
              refine lv_iload hx hb dX2_absence_140 (lv_at hl 5 rfl) ?_
              refine lv_istore (lv' := [(4, .int (nI i)), (6, .int (p_ord i lf mem)), (0, .ref (om 0)), (1, .int (nI lf)), (2, .int sd), (5, .int (nI i))]) hx hb dX2_absence_142 hl (by decide) rfl (fun ls hl => ?_)
              refine lv_iinc (v := nI (i + 1)) (lv' := [(5, .int (nI (i + 1))), (4, .int (nI i)), (6, .int (p_ord i lf mem)), (0, .ref (om 0)), (1, .int (nI lf)), (2, .int sd)]) hx hb dX2_absence_144 hl (k := 5) rfl (nI_1 _) (by decide) rfl (fun ls hl => ?_)
              refine lv_goto (tgt := 58) hx hb dX2_absence_147 (by decide) ?_
              have hl := lv_sub hl [3, 4, 5, 1, 0] rfl
              refine ih (i + 1) H locs ls (by omega) hP hD hS ?_
              rw [e1]
              exact hl
            | some j =>
              rw [hr9] at hl
              have hj := mnr_lt sd gone mem lf i j hr9
              have hl : lv_has ls 7 [(6, .int (p_ord i lf mem)), (0, .ref (om 0)), (1, .int (nI lf)), (2, .int sd), (4, .int (nI j)), (5, .int (nI i))] := hl
              refine lv_iload hx hb dX2_absence_106 (lv_at hl 4 rfl) ?_
              refine lv_if_lt (tgt := 140) hx hb dX2_absence_108 (by decide) (fun hq9 => absurd hq9 (nI_pos (by omega))) (fun _ => ?_)
              refine lv_iload_n hx hb dX2_absence_111 rfl (lv_at hl 3 rfl) ?_
              refine lv_if_ne (tgt := 129) hx hb dX2_absence_112 (by decide) (fun _ => ?_) (fun hq9 => absurd hq9 (hs))
              refine lv_aload_n hx hb dX2_absence_129 rfl (lv_at hl 1 rfl) ?_
              refine lv_iload hx hb dX2_absence_130 (lv_at hl 5 rfl) ?_
              refine lv_iload hx hb dX2_absence_132 (lv_at hl 4 rfl) ?_
              refine mi_callV (C := RX2) (As := [.int (nI i), .int (nI j)]) (rest := []) ⟨hx, hb, hml, hown, hW⟩ (n_order i j (by omega) (by omega) mem) nE_ok (cwV 2 hW (gV tw_720 tw_722 tv_X2_order tw_3 tw_723) rfl rfl rfl (by decide +kernel) ⟨Nat.le_of_ble_eq_true rfl, Nat.le_of_ble_eq_true rfl⟩) (va_recv hK hP (ci := 2) (q0 := 0) rfl rfl) hP hD hK hS hA hT rfl hl.1 rfl (Nat.le_of_ble_eq_true rfl) dX2_absence_134 ⟨Nat.zero_le _, Nat.zero_le _⟩ (fun H locs hP hD hS => ?_)
              refine lv_if_ge (tgt := 144) hx hb dX2_absence_137 (by decide) (fun h4 => ?_) (fun h4 => ?_)
              · have e1 : mnr sd gone mem lf (i + 1) = some j := by
                  rw [mnr_s, hr9]
                  unfold mnS
                  rw [if_neg ha, if_neg hs, if_pos ho]
                  exact if_neg (Int32.not_lt.mpr h4)
                refine lv_iinc (v := nI (i + 1)) (lv' := [(5, .int (nI (i + 1))), (6, .int (p_ord i lf mem)), (0, .ref (om 0)), (1, .int (nI lf)), (2, .int sd), (4, .int (nI j))]) hx hb dX2_absence_144 hl (k := 5) rfl (nI_1 _) (by decide) rfl (fun ls hl => ?_)
                refine lv_goto (tgt := 58) hx hb dX2_absence_147 (by decide) ?_
                have hl := lv_sub hl [2, 3, 4, 5, 0] rfl
                refine ih (i + 1) H locs ls (by omega) hP hD hS ?_
                rw [e1]
                exact hl
              · have e1 : mnr sd gone mem lf (i + 1) = some i := by
                  rw [mnr_s, hr9]
                  unfold mnS
                  rw [if_neg ha, if_neg hs, if_pos ho]
                  exact if_pos (Int32.not_le.mp h4)
                refine lv_iload hx hb dX2_absence_140 (lv_at hl 5 rfl) ?_
                refine lv_istore (lv' := [(4, .int (nI i)), (6, .int (p_ord i lf mem)), (0, .ref (om 0)), (1, .int (nI lf)), (2, .int sd), (5, .int (nI i))]) hx hb dX2_absence_142 hl (by decide) rfl (fun ls hl => ?_)
                refine lv_iinc (v := nI (i + 1)) (lv' := [(5, .int (nI (i + 1))), (4, .int (nI i)), (6, .int (p_ord i lf mem)), (0, .ref (om 0)), (1, .int (nI lf)), (2, .int sd)]) hx hb dX2_absence_144 hl (k := 5) rfl (nI_1 _) (by decide) rfl (fun ls hl => ?_)
                refine lv_goto (tgt := 58) hx hb dX2_absence_147 (by decide) ?_
                have hl := lv_sub hl [3, 4, 5, 1, 0] rfl
                refine ih (i + 1) H locs ls (by omega) hP hD hS ?_
                rw [e1]
                exact hl
          · refine lv_goto (tgt := 144) hx hb dX2_absence_103 (by decide) ?_
            have e1 : mnr sd gone mem lf (i + 1) = mnr sd gone mem lf i := by
              rw [mnr_s]
              unfold mnS
              rw [if_neg ha, if_neg hs, if_neg (ho)]
            refine lv_iinc (v := nI (i + 1)) (lv' := [(5, .int (nI (i + 1))), (6, .int (p_ord i lf mem)), (0, .ref (om 0)), (1, .int (nI lf)), (2, .int sd), (4, .int (nrI (mnr sd gone mem lf i)))]) hx hb dX2_absence_144 hl (k := 5) rfl (nI_1 _) (by decide) rfl (fun ls hl => ?_)
            refine lv_goto (tgt := 58) hx hb dX2_absence_147 (by decide) ?_
            have hl := lv_sub hl [2, 3, 4, 5, 0] rfl
            refine ih (i + 1) H locs ls (by omega) hP hD hS ?_
            rw [e1]
            exact hl
        · refine lv_iload hx hb dX2_absence_90 (lv_at hl 0 rfl) ?_
          refine lv_if_lt (tgt := 106) hx hb dX2_absence_92 (by decide) (fun ho => ?_) (fun ho => ?_)
          · cases hr9 : mnr sd gone mem lf i with
            | none =>
              rw [hr9] at hl
              refine lv_iload hx hb dX2_absence_106 (lv_at hl 4 rfl) ?_
              refine lv_if_lt (tgt := 140) hx hb dX2_absence_108 (by decide) (fun _ => ?_) (fun hq9 => absurd (by decide) hq9)
              have e1 : mnr sd gone mem lf (i + 1) = some i := by
                rw [mnr_s, hr9]
                unfold mnS
                rw [if_neg ha, if_pos hs, if_pos ho]
              refine lv_iload hx hb dX2_absence_140 (lv_at hl 5 rfl) ?_
              refine lv_istore (lv' := [(4, .int (nI i)), (6, .int (p_ord i lf mem)), (0, .ref (om 0)), (1, .int (nI lf)), (2, .int sd), (5, .int (nI i))]) hx hb dX2_absence_142 hl (by decide) rfl (fun ls hl => ?_)
              refine lv_iinc (v := nI (i + 1)) (lv' := [(5, .int (nI (i + 1))), (4, .int (nI i)), (6, .int (p_ord i lf mem)), (0, .ref (om 0)), (1, .int (nI lf)), (2, .int sd)]) hx hb dX2_absence_144 hl (k := 5) rfl (nI_1 _) (by decide) rfl (fun ls hl => ?_)
              refine lv_goto (tgt := 58) hx hb dX2_absence_147 (by decide) ?_
              have hl := lv_sub hl [3, 4, 5, 1, 0] rfl
              refine ih (i + 1) H locs ls (by omega) hP hD hS ?_
              rw [e1]
              exact hl
            | some j =>
              rw [hr9] at hl
              have hj := mnr_lt sd gone mem lf i j hr9
              have hl : lv_has ls 7 [(6, .int (p_ord i lf mem)), (0, .ref (om 0)), (1, .int (nI lf)), (2, .int sd), (4, .int (nI j)), (5, .int (nI i))] := hl
              refine lv_iload hx hb dX2_absence_106 (lv_at hl 4 rfl) ?_
              refine lv_if_lt (tgt := 140) hx hb dX2_absence_108 (by decide) (fun hq9 => absurd hq9 (nI_pos (by omega))) (fun _ => ?_)
              refine lv_iload_n hx hb dX2_absence_111 rfl (lv_at hl 3 rfl) ?_
              refine lv_if_ne (tgt := 129) hx hb dX2_absence_112 (by decide) (fun hq9 => absurd (hs) hq9) (fun _ => ?_)
              refine lv_aload_n hx hb dX2_absence_115 rfl (lv_at hl 1 rfl) ?_
              refine lv_iload hx hb dX2_absence_116 (lv_at hl 5 rfl) ?_
              refine lv_iload hx hb dX2_absence_118 (lv_at hl 4 rfl) ?_
              refine mi_callV (C := RX2) (As := [.int (nI i), .int (nI j)]) (rest := []) ⟨hx, hb, hml, hown, hW⟩ (n_order i j (by omega) (by omega) mem) nE_ok (cwV 2 hW (gV tw_720 tw_722 tv_X2_order tw_3 tw_723) rfl rfl rfl (by decide +kernel) ⟨Nat.le_of_ble_eq_true rfl, Nat.le_of_ble_eq_true rfl⟩) (va_recv hK hP (ci := 2) (q0 := 0) rfl rfl) hP hD hK hS hA hT rfl hl.1 rfl (Nat.le_of_ble_eq_true rfl) dX2_absence_120 ⟨Nat.zero_le _, Nat.zero_le _⟩ (fun H locs hP hD hS => ?_)
              refine lv_if_le (tgt := 144) hx hb dX2_absence_123 (by decide) (fun h4 => ?_) (fun h4 => ?_)
              · have e1 : mnr sd gone mem lf (i + 1) = some j := by
                  rw [mnr_s, hr9]
                  unfold mnS
                  rw [if_neg ha, if_pos hs, if_pos ho]
                  exact if_neg (Int32.not_lt.mpr h4)
                refine lv_iinc (v := nI (i + 1)) (lv' := [(5, .int (nI (i + 1))), (6, .int (p_ord i lf mem)), (0, .ref (om 0)), (1, .int (nI lf)), (2, .int sd), (4, .int (nI j))]) hx hb dX2_absence_144 hl (k := 5) rfl (nI_1 _) (by decide) rfl (fun ls hl => ?_)
                refine lv_goto (tgt := 58) hx hb dX2_absence_147 (by decide) ?_
                have hl := lv_sub hl [2, 3, 4, 5, 0] rfl
                refine ih (i + 1) H locs ls (by omega) hP hD hS ?_
                rw [e1]
                exact hl
              · have e1 : mnr sd gone mem lf (i + 1) = some i := by
                  rw [mnr_s, hr9]
                  unfold mnS
                  rw [if_neg ha, if_pos hs, if_pos ho]
                  exact if_pos (Int32.not_le.mp h4)
                refine lv_goto (tgt := 140) hx hb dX2_absence_126 (by decide) ?_
                refine lv_iload hx hb dX2_absence_140 (lv_at hl 5 rfl) ?_
                refine lv_istore (lv' := [(4, .int (nI i)), (6, .int (p_ord i lf mem)), (0, .ref (om 0)), (1, .int (nI lf)), (2, .int sd), (5, .int (nI i))]) hx hb dX2_absence_142 hl (by decide) rfl (fun ls hl => ?_)
                refine lv_iinc (v := nI (i + 1)) (lv' := [(5, .int (nI (i + 1))), (4, .int (nI i)), (6, .int (p_ord i lf mem)), (0, .ref (om 0)), (1, .int (nI lf)), (2, .int sd)]) hx hb dX2_absence_144 hl (k := 5) rfl (nI_1 _) (by decide) rfl (fun ls hl => ?_)
                refine lv_goto (tgt := 58) hx hb dX2_absence_147 (by decide) ?_
                have hl := lv_sub hl [3, 4, 5, 1, 0] rfl
                refine ih (i + 1) H locs ls (by omega) hP hD hS ?_
                rw [e1]
                exact hl
          · refine lv_goto (tgt := 144) hx hb dX2_absence_95 (by decide) ?_
            have e1 : mnr sd gone mem lf (i + 1) = mnr sd gone mem lf i := by
              rw [mnr_s]
              unfold mnS
              rw [if_neg ha, if_pos hs, if_neg (ho)]
            refine lv_iinc (v := nI (i + 1)) (lv' := [(5, .int (nI (i + 1))), (6, .int (p_ord i lf mem)), (0, .ref (om 0)), (1, .int (nI lf)), (2, .int sd), (4, .int (nrI (mnr sd gone mem lf i)))]) hx hb dX2_absence_144 hl (k := 5) rfl (nI_1 _) (by decide) rfl (fun ls hl => ?_)
            refine lv_goto (tgt := 58) hx hb dX2_absence_147 (by decide) ?_
            have hl := lv_sub hl [2, 3, 4, 5, 0] rfl
            refine ih (i + 1) H locs ls (by omega) hP hD hS ?_
            rw [e1]
            exact hl
  refine lv_aload_n hx hb dX2_absence_0 rfl (lv_at hl 0 rfl) ?_
  refine lv_iload_n hx hb dX2_absence_1 rfl (lv_at hl 1 rfl) ?_
  refine mi_callV (C := RX2) (As := [.int (nI lf)]) (rest := []) ⟨hx, hb, hml, hown, hW⟩ (n_isLeaf (nI lf) q (by omega) mem) nE_ok (cwV 1 hW (gV tw_676 tw_678 tv_X2_isLeaf tw_3 tw_679) rfl rfl rfl (by decide +kernel) ⟨Nat.le_of_ble_eq_true rfl, Nat.le_of_ble_eq_true rfl⟩) (va_recv hK hP (ci := 2) (q0 := 0) rfl rfl) hP hD hK hS hA hT rfl hl.1 rfl (Nat.le_of_ble_eq_true rfl) dX2_absence_2 ⟨Nat.zero_le _, Nat.zero_le _⟩ (fun H locs hP hD hS => ?_)
  refine lv_eqi (v := nI 1) (by rw [x_req_nat hlf (by omega)]; rfl) ?_
  refine lv_if_eq (tgt := 21) hx hb dX2_absence_5 (by decide) (fun hq9 => absurd hq9 (by decide)) (fun _ => ?_)
  refine lv_iload_n hx hb dX2_absence_8 rfl (lv_at hl 2 rfl) ?_
  refine lv_iconst (v := nI 0) hx hb dX2_absence_9 (by decide) ?_
  refine lv_iconst (v := nI 1) hx hb dX2_absence_10 (by decide) ?_
  refine mi_callS (As := [.int sd, .int (nI 0), .int (nI 1)]) (rest := []) ⟨hx, hb, hml, hown, hW⟩ (n_in _ sd (nI 0) (nI 1)) nE_ok (va_cwS 3 hW (gS tw_598 tw_599 tw_3 tw_600) rfl rfl rfl (by decide +kernel) ⟨Nat.le_of_ble_eq_true rfl, Nat.le_of_ble_eq_true rfl⟩) hP hD hK hS hA hT rfl hl.1 rfl (Nat.le_of_ble_eq_true rfl) dX2_absence_11 ⟨Nat.zero_le _, Nat.zero_le _⟩ (fun H locs hP hD hS => ?_)
  refine lv_eqi (v := nI 1) (by rw [p_in_side]; rw [hsd]; rfl) ?_
  refine lv_if_eq (tgt := 21) hx hb dX2_absence_14 (by decide) (fun hq9 => absurd hq9 (by decide)) (fun _ => ?_)
  refine lv_iconst (v := nI 1) hx hb dX2_absence_17 (by decide) ?_
  refine lv_goto (tgt := 22) hx hb dX2_absence_18 (by decide) ?_
  refine lv_istore_n (lv' := [(3, .int (nI 1)), (0, .ref (om 0)), (1, .int (nI lf)), (2, .int sd)]) hx hb dX2_absence_22 rfl hl (by decide) rfl (fun ls hl => ?_)
  refine lv_aload_n hx hb dX2_absence_23 rfl (lv_at hl 1 rfl) ?_
  refine lv_iload_n hx hb dX2_absence_24 rfl (lv_at hl 0 rfl) ?_
  refine lv_iload_n hx hb dX2_absence_25 rfl (lv_at hl 0 rfl) ?_
  refine lv_if_eq (tgt := 42) hx hb dX2_absence_26 (by decide) (fun hq9 => absurd hq9 (by decide)) (fun _ => ?_)
  refine lv_aload_n hx hb dX2_absence_29 rfl (lv_at hl 1 rfl) ?_
  refine va_get (D := D) (ci := 2) (v := .ref (om 1)) (C := RX2) (T := TX2) (N := 25) hx hb hW iMD hown hK hP 0 rfl rfl 5 (by decide) (hW _ tw_519) (fun _ h9 => h9) rfl dX2_absence_30 ?_
  refine lv_iload_n hx hb dX2_absence_33 rfl (lv_at hl 2 rfl) ?_
  refine m_zld hx hb hK hP 1 1 lf rfl rfl (by omega) (by decide) dX2_absence_34 ?_
  refine lv_if_ne (tgt := 42) hx hb dX2_absence_35 (by decide) (fun hq9 => absurd (hg) hq9) (fun _ => ?_)
  refine lv_iconst (v := nI 1) hx hb dX2_absence_38 (by decide) ?_
  refine lv_goto (tgt := 43) hx hb dX2_absence_39 (by decide) ?_
  refine lv_iconst (v := nI 1) hx hb dX2_absence_43 (by decide) ?_
  refine mi_callV (C := RX2) (As := [.int (nI 1), .int (nI 1), .int (nI 1)]) (rest := []) ⟨hx, hb, hml, hown, hW⟩ (n_goes (nI 1) (nI 1) (nI 1) (nI 0) (nI 1) mem ((if_neg (by decide)).trans ((if_neg (by decide)).trans (if_neg (by decide)))) (by decide)) nE_ok (cwV 3 hW (gV tw_601 tw_603 tv_X2_goes tw_3 tw_604) rfl rfl rfl (by decide +kernel) ⟨Nat.le_of_ble_eq_true rfl, Nat.le_of_ble_eq_true rfl⟩) (va_recv hK hP (ci := 2) (q0 := 0) rfl rfl) hP hD hK hS hA hT rfl hl.1 rfl (Nat.le_of_ble_eq_true rfl) dX2_absence_44 ⟨Nat.zero_le _, Nat.zero_le _⟩ (fun H locs hP hD hS => ?_)
  have hP : va_P D vwCl (wM om am cI cZ (nI 0) tp (nI q) dy pv pm by_ pt wy gone oR mem) H := hP
  have hD : va_D A (wM om am cI cZ (nI 0) tp (nI q) dy pv pm by_ pt wy gone oR mem) := hD
  refine lv_if_ne (tgt := 52) hx hb dX2_absence_47 (by decide) (fun _ => ?_) (fun hq9 => absurd hq9 (by decide))
  refine lv_iconst (v := (-1)) hx hb dX2_absence_52 (by decide) ?_
  refine lv_istore (lv' := [(4, .int (-1)), (3, .int (nI 1)), (0, .ref (om 0)), (1, .int (nI lf)), (2, .int sd)]) hx hb dX2_absence_53 hl (by decide) rfl (fun ls hl => ?_)
  refine lv_iconst (v := nI 0) hx hb dX2_absence_55 (by decide) ?_
  refine lv_istore (lv' := [(5, .int (nI 0)), (4, .int (-1)), (3, .int (nI 1)), (0, .ref (om 0)), (1, .int (nI lf)), (2, .int sd)]) hx hb dX2_absence_56 hl (by decide) rfl (fun ls hl => ?_)
  exact lo q 0 H locs ls (by omega) hP hD hS (lv_sub hl [3, 4, 5, 1, 0] rfl)
