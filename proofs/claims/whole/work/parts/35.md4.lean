set_option maxHeartbeats 400000 in
set_option maxRecDepth 100000 in
theorem n_join {l : Launch} {D : va_G} {om am : Nat → Nat} {cI cZ cG : ClassId} {th tp lv dy pv pm wy : Int32} {gone oR : Nat → Int32} (pq : Nat) (hp2 : 2 ≤ pq) (hp8 : pq ≤ 8) (b : Nat) (mem : xMem) (hkc : ∀ i, i < 64 → mem 13 i = kc i) : MV l nE yX2_join (.code yX2_join cX2_join 2 none :: tW) ({ frames := 4, cells := 0, slots := 0, locals := 130 }) D vwCl (tC cI cZ cG) [.ref (om 0)] (wM om am cI cZ th tp lv dy pv pm (nI b) (nI pq) wy gone oR mem) (wM om am cI cZ th tp lv dy pv pm (nI (jn pq (b, mem)).1) (nI (pq - 1)) wy gone oR ((jn pq (b, mem)).2)) := by
  refine MV.ofW (by decide +kernel) rfl (Nat.le_of_ble_eq_true rfl) ?_
  intro p e s m below meth c A ls hx hb hr hts hown hlk hml hA hP hK hD hT hl
  have hS : va_S A s.heap s.heap [] := va_S.rf
  have hown : s.vm.findClass RX2 = some m.cls := hown
  have hW : ∀ w ∈ tW, w.before _ s = true := fun w h => hts w (List.mem_cons_of_mem _ h)
  have hl : lv_has ls 2 [(0, .ref (om 0))] := hl
  have lr : ∀ (kr r : Nat) (H : Heap) (locs : List Loc) (ls : Array Slot), r + kr = 32 → va_P D vwCl (wM om am cI cZ th tp lv dy pv pm (nI (jnZ pq mem).1) (nI (pq - 1)) wy gone oR (rcp 9 (32 * (pq - 2)) 2 0 r (jn2 pq (jnZ pq mem).2))) H → va_D A (wM om am cI cZ th tp lv dy pv pm (nI (jnZ pq mem).1) (nI (pq - 1)) wy gone oR (rcp 9 (32 * (pq - 2)) 2 0 r (jn2 pq (jnZ pq mem).2))) → va_S A s.heap H locs → lv_has ls 2 [(0, .ref (om 0)), (1, .int (nI r))] → W p l e ({ frames := 4, cells := 0, slots := 0, locals := 130 }) s m ([.ref (om 0)] : List Value).toArray below meth c H locs 0 0 (MQ below (xQv D vwCl (wM om am cI cZ th tp lv dy pv pm (nI (jn pq (b, mem)).1) (nI (pq - 1)) wy gone oR ((jn pq (b, mem)).2)) A) ([.ref (om 0)] : List Value).toArray s 0 0 A) (F0 m 74 ls []) := by
    intro kr
    induction kr with
    | zero =>
      intro r H locs ls hk hP hD hS hl
      have hr9 : r = 32 := by omega
      rw [hr9, ← P_rcp_e] at hP hD
      refine lv_iload_n hx hb dX2_join_74 rfl (lv_at hl 1 rfl) ?_
      refine lv_bipush (v := nI 32) hx hb dX2_join_75 (by decide) ?_
      refine lv_icmp_ge (tgt := 108) hx hb dX2_join_77 (by decide) (fun _ => ?_) (fun hq9 => absurd (nI_le (by omega) (by omega)) hq9)
      have hP : va_P D vwCl (wM om am cI cZ th tp lv dy pv pm (nI (jn pq (b, mem)).1) (nI (pq - 1)) wy gone oR ((jn pq (b, mem)).2)) H := by exact hP
      have hD : va_D A (wM om am cI cZ th tp lv dy pv pm (nI (jn pq (b, mem)).1) (nI (pq - 1)) wy gone oR ((jn pq (b, mem)).2)) := by exact hD
      exact mv_ret hx hb hr hlk hS hP hD dX2_join_108
    | succ kr ihkr =>
      intro r H locs ls hk hP hD hS hl
      refine lv_iload_n hx hb dX2_join_74 rfl (lv_at hl 1 rfl) ?_
      refine lv_bipush (v := nI 32) hx hb dX2_join_75 (by decide) ?_
      refine lv_icmp_ge (tgt := 108) hx hb dX2_join_77 (by decide) (fun hq9 => absurd hq9 (nI_ge (by omega) (by decide))) (fun _ => ?_)
      refine lv_aload_n hx hb dX2_join_80 rfl (lv_at hl 0 rfl) ?_
      refine va_get (D := D) (ci := 2) (v := .ref (am 9)) (C := RX2) (T := TX2) (N := 25) hx hb hW iMD hown hK hP 0 rfl rfl 18 (by decide) (hW _ tw_532) (fun _ h9 => h9) rfl dX2_join_81 ?_
      refine lv_bipush (v := nI 32) hx hb dX2_join_84 (by decide) ?_
      refine lv_aload_n hx hb dX2_join_86 rfl (lv_at hl 0 rfl) ?_
      refine va_get (D := D) (ci := 2) (v := .int (nI (pq - 1))) (C := RX2) (T := TX2) (N := 25) hx hb hW iMD hown hK hP 0 rfl rfl 17 (by decide) (hW _ tw_531) (fun _ h9 => h9) rfl dX2_join_87 ?_
      refine lv_iconst (v := nI 1) hx hb dX2_join_90 (by decide) ?_
      refine lv_isub hx hb dX2_join_91 ?_
      refine lv_eqi (v := nI (pq - 2)) ((pk_sub (by omega)).trans (congrArg nI (by omega))) ?_
      refine lv_imul hx hb dX2_join_92 ?_
      refine lv_eqi (v := nI (32 * (pq - 2))) (pk_mul _ _) ?_
      refine lv_iload_n hx hb dX2_join_93 rfl (lv_at hl 1 rfl) ?_
      refine lv_iadd hx hb dX2_join_94 ?_
      refine lv_eqi (v := nI (32 * (pq - 2) + r)) (nI_add _ _) ?_
      refine lv_aload_n hx hb dX2_join_95 rfl (lv_at hl 0 rfl) ?_
      refine va_get (D := D) (ci := 2) (v := .ref (am 2)) (C := RX2) (T := TX2) (N := 25) hx hb hW iMD hown hK hP 0 rfl rfl 14 (by decide) (hW _ tw_528) (fun _ h9 => h9) rfl dX2_join_96 ?_
      refine lv_iload_n hx hb dX2_join_99 rfl (lv_at hl 1 rfl) ?_
      refine m_ld (X := wMx om am cZ th tp lv dy pv pm (nI (jnZ pq mem).1) (nI (pq - 1)) wy gone oR) hx hb hK hP 0 2 r rfl (by decide) (show r < 32 by omega) (by decide) dX2_join_100 ?_
      refine m_st (X := wMx om am cZ th tp lv dy pv pm (nI (jnZ pq mem).1) (nI (pq - 1)) wy gone oR) hx hb hK hP hD hS 0 9 (32 * (pq - 2) + r) rfl (by decide) (show 32 * (pq - 2) + r < 256 by omega) (by decide) dX2_join_101 (fun H locs hP hD hS => ?_)
      have hP : va_P D vwCl (wM om am cI cZ th tp lv dy pv pm (nI (jnZ pq mem).1) (nI (pq - 1)) wy gone oR (rcp 9 (32 * (pq - 2)) 2 0 (r + 1) (jn2 pq (jnZ pq mem).2))) H := by rw [rcp_s, Nat.zero_add]; exact hP
      have hD : va_D A (wM om am cI cZ th tp lv dy pv pm (nI (jnZ pq mem).1) (nI (pq - 1)) wy gone oR (rcp 9 (32 * (pq - 2)) 2 0 (r + 1) (jn2 pq (jnZ pq mem).2))) := by rw [rcp_s, Nat.zero_add]; exact hD
      refine lv_iinc (v := nI (r + 1)) (lv' := [(1, .int (nI (r + 1))), (0, .ref (om 0))]) hx hb dX2_join_102 hl (k := 1) rfl (nI_1 _) (by decide) rfl (fun ls hl => ?_)
      refine lv_goto (tgt := 74) hx hb dX2_join_105 (by decide) ?_
      exact ihkr (r + 1) H locs ls (by omega) hP hD hS (lv_sub hl [1, 0] rfl)
  refine lv_aload_n hx hb dX2_join_0 rfl (lv_at hl 0 rfl) ?_
  refine lv_aload_n hx hb dX2_join_1 rfl (lv_at hl 0 rfl) ?_
  refine va_get (D := D) (ci := 2) (v := .ref (am 9)) (C := RX2) (T := TX2) (N := 25) hx hb hW iMD hown hK hP 0 rfl rfl 18 (by decide) (hW _ tw_532) (fun _ h9 => h9) rfl dX2_join_2 ?_
  refine lv_bipush (v := nI 32) hx hb dX2_join_5 (by decide) ?_
  refine lv_aload_n hx hb dX2_join_7 rfl (lv_at hl 0 rfl) ?_
  refine va_get (D := D) (ci := 2) (v := .int (nI pq)) (C := RX2) (T := TX2) (N := 25) hx hb hW iMD hown hK hP 0 rfl rfl 17 (by decide) (hW _ tw_531) (fun _ h9 => h9) rfl dX2_join_8 ?_
  refine lv_iconst (v := nI 2) hx hb dX2_join_11 (by decide) ?_
  refine lv_isub hx hb dX2_join_12 ?_
  refine lv_eqi (v := nI (pq - 2)) (pk_sub (by omega)) ?_
  refine lv_imul hx hb dX2_join_13 ?_
  refine lv_eqi (v := nI (32 * (pq - 2))) (pk_mul _ _) ?_
  refine lv_aload_n hx hb dX2_join_14 rfl (lv_at hl 0 rfl) ?_
  refine va_get (D := D) (ci := 2) (v := .ref (am 9)) (C := RX2) (T := TX2) (N := 25) hx hb hW iMD hown hK hP 0 rfl rfl 18 (by decide) (hW _ tw_532) (fun _ h9 => h9) rfl dX2_join_15 ?_
  refine lv_bipush (v := nI 32) hx hb dX2_join_18 (by decide) ?_
  refine lv_aload_n hx hb dX2_join_20 rfl (lv_at hl 0 rfl) ?_
  refine va_get (D := D) (ci := 2) (v := .int (nI pq)) (C := RX2) (T := TX2) (N := 25) hx hb hW iMD hown hK hP 0 rfl rfl 17 (by decide) (hW _ tw_531) (fun _ h9 => h9) rfl dX2_join_21 ?_
  refine lv_iconst (v := nI 1) hx hb dX2_join_24 (by decide) ?_
  refine lv_isub hx hb dX2_join_25 ?_
  refine lv_eqi (v := nI (pq - 1)) (pk_sub (by omega)) ?_
  refine lv_imul hx hb dX2_join_26 ?_
  refine lv_eqi (v := nI (32 * (pq - 1))) (pk_mul _ _) ?_
  refine mv_callV (C := RX2) (As := [.ref (am 9), .int (nI (32 * (pq - 2))), .ref (am 9), .int (nI (32 * (pq - 1)))]) (rest := []) ⟨hx, hb, hml, hown, hW⟩ (n_node 9 (32 * (pq - 2)) 9 (32 * (pq - 1)) (⟨⟨by decide, show 32 * (pq - 2) + 32 ≤ 256 by omega⟩, by decide, show 32 * (pq - 1) + 32 ≤ 256 by omega⟩) mem (hkc)) nE_ok (cwV 4 hW (gV tw_653 tw_655 tv_X2_node tw_3 tw_656) rfl rfl rfl (by decide +kernel) ⟨Nat.le_of_ble_eq_true rfl, Nat.le_of_ble_eq_true rfl⟩) (va_recv hK hP (ci := 2) (q0 := 0) rfl rfl) hP hD hK hS hA hT rfl hl.1 rfl (Nat.le_of_ble_eq_true rfl) dX2_join_27 ⟨Nat.zero_le _, Nat.zero_le _⟩ (fun H locs hP hD hS => ?_)
  have hP : va_P D vwCl (wM om am cI cZ th tp lv dy pv pm (nI (mN 9 (32 * (pq - 2)) 9 (32 * (pq - 1)) mem).1) (nI pq) wy gone oR ((mN 9 (32 * (pq - 2)) 9 (32 * (pq - 1)) mem).2)) H := hP
  have hD : va_D A (wM om am cI cZ th tp lv dy pv pm (nI (mN 9 (32 * (pq - 2)) 9 (32 * (pq - 1)) mem).1) (nI pq) wy gone oR ((mN 9 (32 * (pq - 2)) 9 (32 * (pq - 1)) mem).2)) := hD
  have hP : va_P D vwCl (wM om am cI cZ th tp lv dy pv pm (nI (jnZ pq mem).1) (nI pq) wy gone oR ((jnZ pq mem).2)) H := by unfold jnZ; exact hP
  have hD : va_D A (wM om am cI cZ th tp lv dy pv pm (nI (jnZ pq mem).1) (nI pq) wy gone oR ((jnZ pq mem).2)) := by unfold jnZ; exact hD
  refine lv_aload_n hx hb dX2_join_30 rfl (lv_at hl 0 rfl) ?_
  refine lv_dup hx hb dX2_join_31 rfl ?_
  refine va_get (D := D) (ci := 2) (v := .int (nI pq)) (C := RX2) (T := TX2) (N := 25) hx hb hW iMD hown hK hP 0 rfl rfl 17 (by decide) (hW _ tw_531) (fun _ h9 => h9) rfl dX2_join_32 ?_
  refine lv_iconst (v := nI 1) hx hb dX2_join_35 (by decide) ?_
  refine lv_isub hx hb dX2_join_36 ?_
  refine lv_eqi (v := nI (pq - 1)) (pk_sub (by omega)) ?_
  refine va_put (D := D) (ci := 2) (v := .int (nI (pq - 1))) (ty := .int) (C := RX2) (T := TX2) (N := 25) hx hb hW iMD tyX2 tyX2_ok nmX2 hown hK hP hD hS 0 rfl rfl 17 (by decide) (hW _ tw_531) (fun _ h9 => h9) rfl (by decide +kernel) rfl rfl (Nat.le_of_ble_eq_true rfl) dX2_join_37 (fun H locs hP hD hS => ?_)
  have hP : va_P D vwCl (wM om am cI cZ th tp lv dy pv pm (nI (jnZ pq mem).1) (nI (pq - 1)) wy gone oR ((jnZ pq mem).2)) H := hP
  have hD : va_D A (wM om am cI cZ th tp lv dy pv pm (nI (jnZ pq mem).1) (nI (pq - 1)) wy gone oR ((jnZ pq mem).2)) := hD
  refine lv_aload_n hx hb dX2_join_40 rfl (lv_at hl 0 rfl) ?_
  refine va_get (D := D) (ci := 2) (v := .ref (am 10)) (C := RX2) (T := TX2) (N := 25) hx hb hW iMD hown hK hP 0 rfl rfl 19 (by decide) (hW _ tw_533) (fun _ h9 => h9) rfl dX2_join_41 ?_
  refine lv_aload_n hx hb dX2_join_44 rfl (lv_at hl 0 rfl) ?_
  refine va_get (D := D) (ci := 2) (v := .int (nI (pq - 1))) (C := RX2) (T := TX2) (N := 25) hx hb hW iMD hown hK hP 0 rfl rfl 17 (by decide) (hW _ tw_531) (fun _ h9 => h9) rfl dX2_join_45 ?_
  refine lv_iconst (v := nI 1) hx hb dX2_join_48 (by decide) ?_
  refine lv_isub hx hb dX2_join_49 ?_
  refine lv_eqi (v := nI (pq - 2)) ((pk_sub (by omega)).trans (congrArg nI (by omega))) ?_
  refine lv_aload_n hx hb dX2_join_50 rfl (lv_at hl 0 rfl) ?_
  refine va_get (D := D) (ci := 2) (v := .ref (am 10)) (C := RX2) (T := TX2) (N := 25) hx hb hW iMD hown hK hP 0 rfl rfl 19 (by decide) (hW _ tw_533) (fun _ h9 => h9) rfl dX2_join_51 ?_
  refine lv_aload_n hx hb dX2_join_54 rfl (lv_at hl 0 rfl) ?_
  refine va_get (D := D) (ci := 2) (v := .int (nI (pq - 1))) (C := RX2) (T := TX2) (N := 25) hx hb hW iMD hown hK hP 0 rfl rfl 17 (by decide) (hW _ tw_531) (fun _ h9 => h9) rfl dX2_join_55 ?_
  refine lv_iconst (v := nI 1) hx hb dX2_join_58 (by decide) ?_
  refine lv_isub hx hb dX2_join_59 ?_
  refine lv_eqi (v := nI (pq - 2)) ((pk_sub (by omega)).trans (congrArg nI (by omega))) ?_
  refine m_ld (X := wMx om am cZ th tp lv dy pv pm (nI (jnZ pq mem).1) (nI (pq - 1)) wy gone oR) hx hb hK hP 0 10 (pq - 2) rfl (by decide) (show pq - 2 < 8 by omega) (by decide) dX2_join_60 ?_
  refine lv_aload_n hx hb dX2_join_61 rfl (lv_at hl 0 rfl) ?_
  refine va_get (D := D) (ci := 2) (v := .ref (am 10)) (C := RX2) (T := TX2) (N := 25) hx hb hW iMD hown hK hP 0 rfl rfl 19 (by decide) (hW _ tw_533) (fun _ h9 => h9) rfl dX2_join_62 ?_
  refine lv_aload_n hx hb dX2_join_65 rfl (lv_at hl 0 rfl) ?_
  refine va_get (D := D) (ci := 2) (v := .int (nI (pq - 1))) (C := RX2) (T := TX2) (N := 25) hx hb hW iMD hown hK hP 0 rfl rfl 17 (by decide) (hW _ tw_531) (fun _ h9 => h9) rfl dX2_join_66 ?_
  refine m_ld (X := wMx om am cZ th tp lv dy pv pm (nI (jnZ pq mem).1) (nI (pq - 1)) wy gone oR) hx hb hK hP 0 10 (pq - 1) rfl (by decide) (show pq - 1 < 8 by omega) (by decide) dX2_join_69 ?_
  refine lv_iadd hx hb dX2_join_70 ?_
  refine m_st (X := wMx om am cZ th tp lv dy pv pm (nI (jnZ pq mem).1) (nI (pq - 1)) wy gone oR) hx hb hK hP hD hS 0 10 (pq - 2) rfl (by decide) (show pq - 2 < 8 by omega) (by decide) dX2_join_71 (fun H locs hP hD hS => ?_)
  have hP : va_P D vwCl (wM om am cI cZ th tp lv dy pv pm (nI (jnZ pq mem).1) (nI (pq - 1)) wy gone oR (jn2 pq (jnZ pq mem).2)) H := hP
  have hD : va_D A (wM om am cI cZ th tp lv dy pv pm (nI (jnZ pq mem).1) (nI (pq - 1)) wy gone oR (jn2 pq (jnZ pq mem).2)) := hD
  refine lv_iconst (v := nI 0) hx hb dX2_join_72 (by decide) ?_
  refine lv_istore_n (lv' := [(1, .int (nI 0)), (0, .ref (om 0))]) hx hb dX2_join_73 rfl hl (by decide) rfl (fun ls hl => ?_)
  have hP : va_P D vwCl (wM om am cI cZ th tp lv dy pv pm (nI (jnZ pq mem).1) (nI (pq - 1)) wy gone oR (rcp 9 (32 * (pq - 2)) 2 0 0 (jn2 pq (jnZ pq mem).2))) H := by rw [rcp_0]; exact hP
  have hD : va_D A (wM om am cI cZ th tp lv dy pv pm (nI (jnZ pq mem).1) (nI (pq - 1)) wy gone oR (rcp 9 (32 * (pq - 2)) 2 0 0 (jn2 pq (jnZ pq mem).2))) := by rw [rcp_0]; exact hD
  exact lr 32 0 H locs ls (by omega) hP hD hS (lv_sub hl [1, 0] rfl)
set_option maxHeartbeats 400000 in
set_option maxRecDepth 100000 in
theorem n_isOut {l : Launch} {D : va_G} {om am : Nat → Nat} {cI cZ cG : ClassId} {th tp lv dy pv pm by_ pt wy : Int32} {gone oR : Nat → Int32} (kk a : Nat) (hkk : kk < 14) (hq : a + 32 ≤ lenM kk) (mem : xMem) : MI l nE yX2_isOut (.code yX2_isOut cX2_isOut 4 (some .boolean) :: tW) ({ frames := 0, cells := 0, slots := 0, locals := 0 }) D vwCl (tC cI cZ cG) [.ref (om 0), .ref (am kk), .int (nI a)] (wM om am cI cZ th tp lv dy pv pm by_ pt wy gone oR mem) (wM om am cI cZ th tp lv dy pv pm by_ pt wy gone oR mem) (p_iso kk a mem) := by
  refine MI.ofW (by decide +kernel) rfl (Nat.le_of_ble_eq_true rfl) ?_
  intro p e s m below meth c A ls hx hb hr hts hown hlk hml hA hP hK hD hT hl
  have hS : va_S A s.heap s.heap [] := va_S.rf
  have hown : s.vm.findClass RX2 = some m.cls := hown
  have hW : ∀ w ∈ tW, w.before _ s = true := fun w h => hts w (List.mem_cons_of_mem _ h)
  have hl : lv_has ls 4 [(0, .ref (om 0)), (1, .ref (am kk)), (2, .int (nI a))] := hl
  have hq2 := lenM_lt kk
  have loop : ∀ (k i : Nat) (H : Heap) (locs : List Loc) (ls : Array Slot), i + k = 32 ∧ isoA (fun i => mem kk (a + i)) (mem 2) k i = p_iso kk a mem → va_P D vwCl (wM om am cI cZ th tp lv dy pv pm by_ pt wy gone oR mem) H → va_D A (wM om am cI cZ th tp lv dy pv pm by_ pt wy gone oR mem) → va_S A s.heap H locs → lv_has ls 4 [(0, .ref (om 0)), (1, .ref (am kk)), (2, .int (nI a)), (3, .int (nI i))] → W p l e ({ frames := 0, cells := 0, slots := 0, locals := 0 }) s m ([.ref (om 0), .ref (am kk), .int (nI a)] : List Value).toArray below meth c H locs 0 0 (MQ below (xQi D vwCl (wM om am cI cZ th tp lv dy pv pm by_ pt wy gone oR mem) (p_iso kk a mem) A) ([.ref (om 0), .ref (am kk), .int (nI a)] : List Value).toArray s 0 0 A) (F0 m 2 ls []) := by
    intro k
    induction k with
    | zero =>
      intro i H locs ls hk hP hD hS hl
      obtain ⟨hk, hv⟩ := hk
      refine lv_iload_n hx hb dX2_isOut_2 rfl (lv_at hl 3 rfl) ?_
      refine lv_bipush (v := nI 32) hx hb dX2_isOut_3 (by decide) ?_
      refine lv_icmp_ge (tgt := 30) hx hb dX2_isOut_5 (by decide) (fun _ => ?_) (fun hq9 => absurd (nI_le (by omega) (by omega)) hq9)
      refine lv_iconst (v := nI 1) hx hb dX2_isOut_30 (by decide) ?_
      have hP : va_P D vwCl (wM om am cI cZ th tp lv dy pv pm by_ pt wy gone oR mem) H := by exact hP
      have hD : va_D A (wM om am cI cZ th tp lv dy pv pm by_ pt wy gone oR mem) := by exact hD
      exact mi_ret hx hb hr (rfl) hlk hS hP hD (hv) dX2_isOut_31
    | succ k ih =>
      intro i H locs ls hk hP hD hS hl
      obtain ⟨hk, hv⟩ := hk
      refine lv_iload_n hx hb dX2_isOut_2 rfl (lv_at hl 3 rfl) ?_
      refine lv_bipush (v := nI 32) hx hb dX2_isOut_3 (by decide) ?_
      refine lv_icmp_ge (tgt := 30) hx hb dX2_isOut_5 (by decide) (fun hq9 => absurd hq9 (nI_ge (by omega) (by decide))) (fun _ => ?_)
      refine lv_aload_n hx hb dX2_isOut_8 rfl (lv_at hl 1 rfl) ?_
      refine lv_iload_n hx hb dX2_isOut_9 rfl (lv_at hl 2 rfl) ?_
      refine lv_iload_n hx hb dX2_isOut_10 rfl (lv_at hl 3 rfl) ?_
      refine lv_iadd hx hb dX2_isOut_11 ?_
      refine lv_eqi (v := nI (a + i)) (nI_add _ _) ?_
      refine m_ld (X := wMx om am cZ th tp lv dy pv pm by_ pt wy gone oR) hx hb hK hP 0 kk (a + i) rfl hkk (by omega) (lenM_lt kk) dX2_isOut_12 ?_
      refine lv_aload_n hx hb dX2_isOut_13 rfl (lv_at hl 0 rfl) ?_
      refine va_get (D := D) (ci := 2) (v := .ref (am 2)) (C := RX2) (T := TX2) (N := 25) hx hb hW iMD hown hK hP 0 rfl rfl 14 (by decide) (hW _ tw_528) (fun _ h9 => h9) rfl dX2_isOut_14 ?_
      refine lv_iload_n hx hb dX2_isOut_17 rfl (lv_at hl 3 rfl) ?_
      refine m_ld (X := wMx om am cZ th tp lv dy pv pm by_ pt wy gone oR) hx hb hK hP 0 2 i rfl (by decide) (show i < 32 by omega) (by decide) dX2_isOut_18 ?_
      refine lv_icmp_eq (tgt := 24) hx hb dX2_isOut_19 (by decide) (fun ha => ?_) (fun ha => ?_)
      · refine lv_iinc (v := nI (i + 1)) (lv' := [(3, .int (nI (i + 1))), (0, .ref (om 0)), (1, .ref (am kk)), (2, .int (nI a))]) hx hb dX2_isOut_24 hl (k := 3) rfl (nI_1 _) (by decide) rfl (fun ls hl => ?_)
        refine lv_goto (tgt := 2) hx hb dX2_isOut_27 (by decide) ?_
        exact ih (i + 1) H locs ls ⟨by omega, by rw [← hv]; exact (if_pos ha).symm⟩ hP hD hS (lv_sub hl [1, 2, 3, 0] rfl)
      · refine lv_iconst (v := nI 0) hx hb dX2_isOut_22 (by decide) ?_
        have hP : va_P D vwCl (wM om am cI cZ th tp lv dy pv pm by_ pt wy gone oR mem) H := by exact hP
        have hD : va_D A (wM om am cI cZ th tp lv dy pv pm by_ pt wy gone oR mem) := by exact hD
        exact mi_ret hx hb hr (rfl) hlk hS hP hD (by rw [← hv]; exact (if_neg ha).symm) dX2_isOut_23
  refine lv_iconst (v := nI 0) hx hb dX2_isOut_0 (by decide) ?_
  refine lv_istore_n (lv' := [(3, .int (nI 0)), (0, .ref (om 0)), (1, .ref (am kk)), (2, .int (nI a))]) hx hb dX2_isOut_1 rfl hl (by decide) rfl (fun ls hl => ?_)
  exact loop 32 0 s.heap [] ls ⟨by omega, rfl⟩ hP hD hS (lv_sub hl [1, 2, 3, 0] rfl)
set_option maxHeartbeats 400000 in
set_option maxRecDepth 100000 in
theorem n_order {l : Launch} {D : va_G} {om am : Nat → Nat} {cI cZ cG : ClassId} {th tp lv dy pv pm by_ pt wy : Int32} {gone oR : Nat → Int32} (a b : Nat) (ha : a < 24) (hb0 : b < 24) (mem : xMem) : MI l nE yX2_order (.code yX2_order cX2_order 5 (some .int) :: tW) ({ frames := 0, cells := 0, slots := 0, locals := 0 }) D vwCl (tC cI cZ cG) [.ref (om 0), .int (nI a), .int (nI b)] (wM om am cI cZ th tp lv dy pv pm by_ pt wy gone oR mem) (wM om am cI cZ th tp lv dy pv pm by_ pt wy gone oR mem) (p_ord a b mem) := by
  refine MI.ofW (by decide +kernel) rfl (Nat.le_of_ble_eq_true rfl) ?_
  intro p e s m below meth c A ls hx hb hr hts hown hlk hml hA hP hK hD hT hl
  have hS : va_S A s.heap s.heap [] := va_S.rf
  have hown : s.vm.findClass RX2 = some m.cls := hown
  have hW : ∀ w ∈ tW, w.before _ s = true := fun w h => hts w (List.mem_cons_of_mem _ h)
  have hl : lv_has ls 5 [(0, .ref (om 0)), (1, .int (nI a)), (2, .int (nI b))] := hl
  have loop : ∀ (k i : Nat) (H : Heap) (locs : List Loc) (ls : Array Slot), i + k = 32 ∧ ordA (fun i => mem 6 (32 * a + i)) (fun i => mem 6 (32 * b + i)) k i = p_ord a b mem → va_P D vwCl (wM om am cI cZ th tp lv dy pv pm by_ pt wy gone oR mem) H → va_D A (wM om am cI cZ th tp lv dy pv pm by_ pt wy gone oR mem) → va_S A s.heap H locs → lv_has ls 5 [(0, .ref (om 0)), (1, .int (nI a)), (2, .int (nI b)), (3, .int (nI i))] → W p l e ({ frames := 0, cells := 0, slots := 0, locals := 0 }) s m ([.ref (om 0), .int (nI a), .int (nI b)] : List Value).toArray below meth c H locs 0 0 (MQ below (xQi D vwCl (wM om am cI cZ th tp lv dy pv pm by_ pt wy gone oR mem) (p_ord a b mem) A) ([.ref (om 0), .int (nI a), .int (nI b)] : List Value).toArray s 0 0 A) (F0 m 2 ls []) := by
    intro k
    induction k with
    | zero =>
      intro i H locs ls hk hP hD hS hl
      obtain ⟨hk, hv⟩ := hk
      refine lv_iload_n hx hb dX2_order_2 rfl (lv_at hl 3 rfl) ?_
      refine lv_bipush (v := nI 32) hx hb dX2_order_3 (by decide) ?_
      refine lv_icmp_ge (tgt := 47) hx hb dX2_order_5 (by decide) (fun _ => ?_) (fun hq9 => absurd (nI_le (by omega) (by omega)) hq9)
      refine lv_iconst (v := nI 0) hx hb dX2_order_47 (by decide) ?_
      have hP : va_P D vwCl (wM om am cI cZ th tp lv dy pv pm by_ pt wy gone oR mem) H := by exact hP
      have hD : va_D A (wM om am cI cZ th tp lv dy pv pm by_ pt wy gone oR mem) := by exact hD
      exact mi_ret hx hb hr (rfl) hlk hS hP hD (hv) dX2_order_48
    | succ k ih =>
      intro i H locs ls hk hP hD hS hl
      obtain ⟨hk, hv⟩ := hk
      refine lv_iload_n hx hb dX2_order_2 rfl (lv_at hl 3 rfl) ?_
      refine lv_bipush (v := nI 32) hx hb dX2_order_3 (by decide) ?_
      refine lv_icmp_ge (tgt := 47) hx hb dX2_order_5 (by decide) (fun hq9 => absurd hq9 (nI_ge (by omega) (by decide))) (fun _ => ?_)
      refine lv_aload_n hx hb dX2_order_8 rfl (lv_at hl 0 rfl) ?_
      refine va_get (D := D) (ci := 2) (v := .ref (am 6)) (C := RX2) (T := TX2) (N := 25) hx hb hW iMD hown hK hP 0 rfl rfl 4 (by decide) (hW _ tw_518) (fun _ h9 => h9) rfl dX2_order_9 ?_
      refine lv_bipush (v := nI 32) hx hb dX2_order_12 (by decide) ?_
      refine lv_iload_n hx hb dX2_order_14 rfl (lv_at hl 1 rfl) ?_
      refine lv_imul hx hb dX2_order_15 ?_
      refine lv_eqi (v := nI (32 * a)) (pk_mul _ _) ?_
      refine lv_iload_n hx hb dX2_order_16 rfl (lv_at hl 3 rfl) ?_
      refine lv_iadd hx hb dX2_order_17 ?_
      refine lv_eqi (v := nI (32 * a + i)) (nI_add _ _) ?_
      refine m_ld (X := wMx om am cZ th tp lv dy pv pm by_ pt wy gone oR) hx hb hK hP 0 6 (32 * a + i) rfl (by decide) (show 32 * a + i < 768 by omega) (by decide) dX2_order_18 ?_
      refine lv_aload_n hx hb dX2_order_19 rfl (lv_at hl 0 rfl) ?_
      refine va_get (D := D) (ci := 2) (v := .ref (am 6)) (C := RX2) (T := TX2) (N := 25) hx hb hW iMD hown hK hP 0 rfl rfl 4 (by decide) (hW _ tw_518) (fun _ h9 => h9) rfl dX2_order_20 ?_
      refine lv_bipush (v := nI 32) hx hb dX2_order_23 (by decide) ?_
      refine lv_iload_n hx hb dX2_order_25 rfl (lv_at hl 2 rfl) ?_
      refine lv_imul hx hb dX2_order_26 ?_
      refine lv_eqi (v := nI (32 * b)) (pk_mul _ _) ?_
      refine lv_iload_n hx hb dX2_order_27 rfl (lv_at hl 3 rfl) ?_
      refine lv_iadd hx hb dX2_order_28 ?_
      refine lv_eqi (v := nI (32 * b + i)) (nI_add _ _) ?_
      refine m_ld (X := wMx om am cZ th tp lv dy pv pm by_ pt wy gone oR) hx hb hK hP 0 6 (32 * b + i) rfl (by decide) (show 32 * b + i < 768 by omega) (by decide) dX2_order_29 ?_
      refine lv_isub hx hb dX2_order_30 ?_
      refine lv_istore (lv' := [(4, .int ((mem 6 (32 * a + i)) - (mem 6 (32 * b + i)))), (0, .ref (om 0)), (1, .int (nI a)), (2, .int (nI b)), (3, .int (nI i))]) hx hb dX2_order_31 hl (by decide) rfl (fun ls hl => ?_)
      refine lv_iload hx hb dX2_order_33 (lv_at hl 0 rfl) ?_
      refine lv_if_eq (tgt := 41) hx hb dX2_order_35 (by decide) (fun hc => ?_) (fun hc => ?_)
      · refine lv_iinc (v := nI (i + 1)) (lv' := [(3, .int (nI (i + 1))), (4, .int ((mem 6 (32 * a + i)) - (mem 6 (32 * b + i)))), (0, .ref (om 0)), (1, .int (nI a)), (2, .int (nI b))]) hx hb dX2_order_41 hl (k := 4) rfl (nI_1 _) (by decide) rfl (fun ls hl => ?_)
        refine lv_goto (tgt := 2) hx hb dX2_order_44 (by decide) ?_
        exact ih (i + 1) H locs ls ⟨by omega, by rw [← hv]; exact (if_pos hc).symm⟩ hP hD hS (lv_sub hl [2, 3, 4, 0] rfl)
      · refine lv_iload hx hb dX2_order_38 (lv_at hl 0 rfl) ?_
        have hP : va_P D vwCl (wM om am cI cZ th tp lv dy pv pm by_ pt wy gone oR mem) H := by exact hP
        have hD : va_D A (wM om am cI cZ th tp lv dy pv pm by_ pt wy gone oR mem) := by exact hD
        exact mi_ret hx hb hr (rfl) hlk hS hP hD (by rw [← hv]; exact (if_neg hc).symm) dX2_order_40
  refine lv_iconst (v := nI 0) hx hb dX2_order_0 (by decide) ?_
  refine lv_istore_n (lv' := [(3, .int (nI 0)), (0, .ref (om 0)), (1, .int (nI a)), (2, .int (nI b))]) hx hb dX2_order_1 rfl hl (by decide) rfl (fun ls hl => ?_)
  exact loop 32 0 s.heap [] ls ⟨by omega, rfl⟩ hP hD hS (lv_sub hl [1, 2, 3, 0] rfl)
