set_option maxHeartbeats 4000000 in
set_option maxRecDepth 100000 in
/-- finishInto(array kk) -/
theorem c_finishInto {l : Launch} {D : va_G} {o ad : Nat → Nat} {cI cZ cG : ClassId} {tl lc wc dc pn : Int32} {isw : Nat → Int32} (n kk : Nat) (hn : n ≤ 247) (hkk : kk < 71) (hk3 : lenC kk = 32) (mem : Nat → Nat → Int32) : MV l gE yX0_finishInto (.code yX0_finishInto cX0_finishInto 6 none :: tW) ({ frames := 2, cells := 0, slots := 0, locals := 96 }) D vwCl (tC cI cZ cG) [.ref (o 1), .ref (ad kk)] (wC o ad cI cZ cG tl lc wc dc pn (nI n) isw mem) (wC o ad cI cZ cG tl lc wc dc pn (nI (p_finish kk (n, mem)).1) isw ((p_finish kk (n, mem)).2)) := by
  refine MV.ofW (by decide +kernel) rfl (Nat.le_of_ble_eq_true rfl) ?_
  intro p e s m below meth c A ls hx hb hr hts hown hlk hml hA hP hK hD hT hl
  have hS : va_S A s.heap s.heap [] := va_S.rf
  have hown : s.vm.findClass RX0 = some m.cls := hown
  have hW : ∀ w ∈ tW, w.before _ s = true := fun w h => hts w (List.mem_cons_of_mem _ h)
  have hl : lv_has ls 6 [(0, .ref (o 1)), (1, .ref (ad kk))] := hl
  obtain ⟨⟨t1, t2, hZ1, hT1, hZ2, hT2⟩, hTx⟩ := id hT
  have hC := pfC_le (n, mem) (show n ≤ 247 from hn)
  have loop3 : ∀ (k i : Nat) (H : Heap) (locs : List Loc) (ls : Array Slot), i + k = 32 → va_P D vwCl (wC o ad cI cZ cG tl lc wc dc pn (nI (pfC (n, mem)).1) isw (pfF kk (n, mem) i)) H → va_D A (wC o ad cI cZ cG tl lc wc dc pn (nI (pfC (n, mem)).1) isw (pfF kk (n, mem) i)) → va_S A s.heap H locs → lv_has ls 6 [(0, .ref (o 1)), (1, .ref (ad kk)), (5, .int (nI i))] → W p l e ({ frames := 2, cells := 0, slots := 0, locals := 96 }) s m ([.ref (o 1), .ref (ad kk)] : List Value).toArray below meth c H locs 0 0 (MQ below (xQv D vwCl (wC o ad cI cZ cG tl lc wc dc pn (nI (p_finish kk (n, mem)).1) isw ((p_finish kk (n, mem)).2)) A) ([.ref (o 1), .ref (ad kk)] : List Value).toArray s 0 0 A) (F0 m 105 ls []) := by
    intro k
    induction k with
    | zero =>
      intro i H locs ls hk hP hD hS hl
      have hk : i = 32 := by omega
      rw [hk] at hP hD
      refine lv_iload hx hb dX0_finishInto_105 (lv_at hl 2 rfl) ?_
      refine lv_bipush (v := nI 32) hx hb dX0_finishInto_107 (by decide) ?_
      refine lv_icmp_ge (tgt := 146) hx hb dX0_finishInto_109 (by decide) (fun hc => ?_) (fun hc => ?_)
      · have hP : va_P D vwCl (wC o ad cI cZ cG tl lc wc dc pn (nI (p_finish kk (n, mem)).1) isw ((p_finish kk (n, mem)).2)) H := by rw [p_finish_1, p_finish_2]; exact hP
        have hD : va_D A (wC o ad cI cZ cG tl lc wc dc pn (nI (p_finish kk (n, mem)).1) isw ((p_finish kk (n, mem)).2)) := by rw [p_finish_1, p_finish_2]; exact hD
        exact mv_ret hx hb hr hlk hS hP hD dX0_finishInto_146
      · exact absurd (nI_le (by omega) (by omega)) hc
    | succ k ih =>
      intro i H locs ls hk hP hD hS hl
      refine lv_iload hx hb dX0_finishInto_105 (lv_at hl 2 rfl) ?_
      refine lv_bipush (v := nI 32) hx hb dX0_finishInto_107 (by decide) ?_
      refine lv_icmp_ge (tgt := 146) hx hb dX0_finishInto_109 (by decide) (fun hc => ?_) (fun hc => ?_)
      · exact absurd hc (nI_ge (by omega) (by omega))
      · refine lv_aload_n hx hb dX0_finishInto_112 rfl (lv_at hl 1 rfl) ?_
        refine lv_iload hx hb dX0_finishInto_113 (lv_at hl 2 rfl) ?_
        refine lv_aload_n hx hb dX0_finishInto_115 rfl (lv_at hl 0 rfl) ?_
        refine va_get (D := D) (ci := 1) (v := .ref (ad 5)) (C := RX0) (T := TX0) (N := 4) hx hb hW iSH hown hK hP 1 rfl rfl 3 (by decide) (hW _ tw_31) (fun _ h9 => h9) rfl dX0_finishInto_116 ?_
        refine lv_iload hx hb dX0_finishInto_119 (lv_at hl 2 rfl) ?_
        refine lv_iconst (v := nI 4) hx hb dX0_finishInto_121 (by decide) ?_
        refine lv_idiv hx hb dX0_finishInto_122 (by decide) ?_
        refine lv_eqi (v := nI (i / 4)) (pk_div (by omega) (by decide) (by decide)) ?_
        refine m_ld (X := wX o ad cZ cG tl lc wc dc pn (nI (pfC (n, mem)).1) isw) hx hb hK hP 0 5 (i / 4) rfl (by decide) (show i / 4 < 8 by omega) (by decide) dX0_finishInto_123 ?_
        refine lv_bipush (v := nI 24) hx hb dX0_finishInto_124 (by decide) ?_
        refine lv_bipush (v := nI 8) hx hb dX0_finishInto_126 (by decide) ?_
        refine lv_iload hx hb dX0_finishInto_128 (lv_at hl 2 rfl) ?_
        refine lv_iconst (v := nI 4) hx hb dX0_finishInto_130 (by decide) ?_
        refine lv_irem hx hb dX0_finishInto_131 (by decide) ?_
        refine lv_eqi (v := nI (i % 4)) (pk_rem (by omega) (by decide) (by decide)) ?_
        refine lv_imul hx hb dX0_finishInto_132 ?_
        refine lv_eqi (v := nI (8 * (i % 4))) (pk_mul 8 (i % 4)) ?_
        refine lv_isub hx hb dX0_finishInto_133 ?_
        refine lv_eqi (v := nI (24 - 8 * (i % 4))) (pk_sub (by omega)) ?_
        refine lv_iushr (v := ush ((pfF kk (n, mem) i) 5 (i / 4)) (nI (24 - 8 * (i % 4)))) hx hb dX0_finishInto_134 rfl ?_
        refine lv_sipush (v := nI 255) hx hb dX0_finishInto_135 (by decide) ?_
        refine lv_iand hx hb dX0_finishInto_138 ?_
        refine m_st (X := wX o ad cZ cG tl lc wc dc pn (nI (pfC (n, mem)).1) isw) hx hb hK hP hD hS 0 kk i rfl hkk (by omega) (by omega) dX0_finishInto_139 (fun H locs hP hD hS => ?_)
        have hP : va_P D vwCl (wC o ad cI cZ cG tl lc wc dc pn (nI (pfC (n, mem)).1) isw (pfF kk (n, mem) (i + 1))) H := by rw [pfF_s]; exact hP
        have hD : va_D A (wC o ad cI cZ cG tl lc wc dc pn (nI (pfC (n, mem)).1) isw (pfF kk (n, mem) (i + 1))) := by rw [pfF_s]; exact hD
        refine lv_iinc (v := nI (i + 1)) (lv' := [(5, .int (nI (i + 1))), (0, .ref (o 1)), (1, .ref (ad kk))]) hx hb dX0_finishInto_140 hl (k := 2) rfl (nI_1 i) (by decide) rfl (fun ls hl => ?_)
        refine lv_goto (tgt := 105) hx hb dX0_finishInto_143 (by decide) ?_
        exact ih (i + 1) H locs ls (by omega) hP hD hS (lv_sub hl [1, 2, 0] rfl)
  have loop2 : ∀ (k i : Nat) (H : Heap) (locs : List Loc) (ls : Array Slot), i + k = (pfC (n, mem)).1 / 64 → va_P D vwCl (wC o ad cI cZ cG tl lc wc dc pn (nI (pfC (n, mem)).1) isw (pfE (n, mem) i)) H → va_D A (wC o ad cI cZ cG tl lc wc dc pn (nI (pfC (n, mem)).1) isw (pfE (n, mem) i)) → va_S A s.heap H locs → lv_has ls 6 [(0, .ref (o 1)), (1, .ref (ad kk)), (5, .int (nI (64 * i)))] → W p l e ({ frames := 2, cells := 0, slots := 0, locals := 96 }) s m ([.ref (o 1), .ref (ad kk)] : List Value).toArray below meth c H locs 0 0 (MQ below (xQv D vwCl (wC o ad cI cZ cG tl lc wc dc pn (nI (p_finish kk (n, mem)).1) isw ((p_finish kk (n, mem)).2)) A) ([.ref (o 1), .ref (ad kk)] : List Value).toArray s 0 0 A) (F0 m 74 ls []) := by
    intro k
    induction k with
    | zero =>
      intro i H locs ls hk hP hD hS hl
      have hk : i = (pfC (n, mem)).1 / 64 := by omega
      refine lv_iload hx hb dX0_finishInto_74 (lv_at hl 2 rfl) ?_
      refine lv_bipush (v := nI 64) hx hb dX0_finishInto_76 (by decide) ?_
      refine lv_iadd hx hb dX0_finishInto_78 ?_
      refine lv_eqi (v := nI (64 * i + 64)) (nI_add (64 * i) 64) ?_
      refine lv_aload_n hx hb dX0_finishInto_79 rfl (lv_at hl 0 rfl) ?_
      refine va_get (D := D) (ci := 1) (v := .int (nI (pfC (n, mem)).1)) (C := RX0) (T := TX0) (N := 4) hx hb hW iSH hown hK hP 1 rfl rfl 1 (by decide) (hW _ tw_29) (fun _ h9 => h9) rfl dX0_finishInto_80 ?_
      refine lv_icmp_gt (tgt := 102) hx hb dX0_finishInto_83 (by decide) (fun hc => ?_) (fun hc => ?_)
      · rw [hk] at hP hD
        have hP : va_P D vwCl (wC o ad cI cZ cG tl lc wc dc pn (nI (pfC (n, mem)).1) isw (pfF kk (n, mem) 0)) H := by rw [pfF_0]; exact hP
        have hD : va_D A (wC o ad cI cZ cG tl lc wc dc pn (nI (pfC (n, mem)).1) isw (pfF kk (n, mem) 0)) := by rw [pfF_0]; exact hD
        refine lv_iconst (v := nI 0) hx hb dX0_finishInto_102 (by decide) ?_
        refine lv_istore (lv' := [(5, .int (nI 0)), (0, .ref (o 1)), (1, .ref (ad kk))]) hx hb dX0_finishInto_103 hl (by decide) rfl (fun ls hl => ?_)
        exact loop3 32 0 H locs ls (by omega) hP hD hS (lv_sub hl [1, 2, 0] rfl)
      · exact absurd (nI_lt (by omega) (by omega)) hc
    | succ k ih =>
      intro i H locs ls hk hP hD hS hl
      refine lv_iload hx hb dX0_finishInto_74 (lv_at hl 2 rfl) ?_
      refine lv_bipush (v := nI 64) hx hb dX0_finishInto_76 (by decide) ?_
      refine lv_iadd hx hb dX0_finishInto_78 ?_
      refine lv_eqi (v := nI (64 * i + 64)) (nI_add (64 * i) 64) ?_
      refine lv_aload_n hx hb dX0_finishInto_79 rfl (lv_at hl 0 rfl) ?_
      refine va_get (D := D) (ci := 1) (v := .int (nI (pfC (n, mem)).1)) (C := RX0) (T := TX0) (N := 4) hx hb hW iSH hown hK hP 1 rfl rfl 1 (by decide) (hW _ tw_29) (fun _ h9 => h9) rfl dX0_finishInto_80 ?_
      refine lv_icmp_gt (tgt := 102) hx hb dX0_finishInto_83 (by decide) (fun hc => ?_) (fun hc => ?_)
      · exact absurd hc (nI_nlt (by omega) (by omega))
      · refine lv_aload_n hx hb dX0_finishInto_86 rfl (lv_at hl 0 rfl) ?_
        refine lv_iload hx hb dX0_finishInto_87 (lv_at hl 2 rfl) ?_
        refine mv_callV (C := RX0) (As := [.int (nI (64 * i))]) (rest := []) ⟨hx, hb, hml, hown, hW⟩ (c_spreadBlock _ (64 * i) (by omega) (pfE (n, mem) i)) gE_ok (cwV 1 hW (gV tw_220 tw_222 tv_X0_spreadBlock tw_2 tw_223) rfl rfl rfl (by decide +kernel) ⟨Nat.le_of_ble_eq_true rfl, Nat.le_of_ble_eq_true rfl⟩) (va_recv hK hP (ci := 1) (q0 := 1) rfl rfl) hP hD hK hS hA hT rfl hl.1 rfl (Nat.le_of_ble_eq_true rfl) dX0_finishInto_89 ⟨Nat.zero_le _, Nat.zero_le _⟩ (fun H locs hP hD hS => ?_)
        have hP : va_P D vwCl (wC o ad cI cZ cG tl lc wc dc pn (nI (pfC (n, mem)).1) isw (p_spread (64 * i) (pfE (n, mem) i))) H := hP
        have hD : va_D A (wC o ad cI cZ cG tl lc wc dc pn (nI (pfC (n, mem)).1) isw (p_spread (64 * i) (pfE (n, mem) i))) := hD
        refine lv_aload_n hx hb dX0_finishInto_92 rfl (lv_at hl 0 rfl) ?_
        refine mv_callV (C := RX0) (As := []) (rest := []) ⟨hx, hb, hml, hown, hW⟩ (c_stirState _ (p_spread (64 * i) (pfE (n, mem) i))) gE_ok (cwV 0 hW (gV tw_227 tw_229 tv_X0_stirState tw_2 tw_230) rfl rfl rfl (by decide +kernel) ⟨Nat.le_of_ble_eq_true rfl, Nat.le_of_ble_eq_true rfl⟩) (va_recv hK hP (ci := 1) (q0 := 1) rfl rfl) hP hD hK hS hA hT rfl hl.1 rfl (Nat.le_of_ble_eq_true rfl) dX0_finishInto_93 ⟨Nat.zero_le _, Nat.zero_le _⟩ (fun H locs hP hD hS => ?_)
        have hP : va_P D vwCl (wC o ad cI cZ cG tl lc wc dc pn (nI (pfC (n, mem)).1) isw (p_stir (p_spread (64 * i) (pfE (n, mem) i)))) H := hP
        have hD : va_D A (wC o ad cI cZ cG tl lc wc dc pn (nI (pfC (n, mem)).1) isw (p_stir (p_spread (64 * i) (pfE (n, mem) i)))) := hD
        have hP : va_P D vwCl (wC o ad cI cZ cG tl lc wc dc pn (nI (pfC (n, mem)).1) isw (pfE (n, mem) (i + 1))) H := by rw [pfE_s]; exact hP
        have hD : va_D A (wC o ad cI cZ cG tl lc wc dc pn (nI (pfC (n, mem)).1) isw (pfE (n, mem) (i + 1))) := by rw [pfE_s]; exact hD
        refine lv_iinc (v := nI (64 * (i + 1))) (lv' := [(5, .int (nI (64 * (i + 1)))), (0, .ref (o 1)), (1, .ref (ad kk))]) hx hb dX0_finishInto_96 hl (k := 2) rfl ((nI_add (64 * i) 64)) (by decide) rfl (fun ls hl => ?_)
        refine lv_goto (tgt := 74) hx hb dX0_finishInto_99 (by decide) ?_
        exact ih (i + 1) H locs ls (by omega) hP hD hS (lv_sub hl [1, 2, 0] rfl)
  have loop1 : ∀ (k i : Nat) (H : Heap) (locs : List Loc) (ls : Array Slot), i + k = zz n → va_P D vwCl (wC o ad cI cZ cG tl lc wc dc pn (nI (itr (fun _ => p_take (nI 0)) i (pfA (n, mem))).1) isw ((itr (fun _ => p_take (nI 0)) i (pfA (n, mem))).2)) H → va_D A (wC o ad cI cZ cG tl lc wc dc pn (nI (itr (fun _ => p_take (nI 0)) i (pfA (n, mem))).1) isw ((itr (fun _ => p_take (nI 0)) i (pfA (n, mem))).2)) → va_S A s.heap H locs → lv_has ls 6 [(0, .ref (o 1)), (1, .ref (ad kk)), (2, .long (lN 8 * (nI n).toInt64)), (4, .int (nI (zz n))), (5, .int (nI i))] → W p l e ({ frames := 2, cells := 0, slots := 0, locals := 96 }) s m ([.ref (o 1), .ref (ad kk)] : List Value).toArray below meth c H locs 0 0 (MQ below (xQv D vwCl (wC o ad cI cZ cG tl lc wc dc pn (nI (p_finish kk (n, mem)).1) isw ((p_finish kk (n, mem)).2)) A) ([.ref (o 1), .ref (ad kk)] : List Value).toArray s 0 0 A) (F0 m 34 ls []) := by
    intro k
    induction k with
    | zero =>
      intro i H locs ls hk hP hD hS hl
      have hk : i = zz n := by omega
      rw [hk] at hP hD
      have hP : va_P D vwCl (wC o ad cI cZ cG tl lc wc dc pn (nI (pfB (n, mem)).1) isw ((pfB (n, mem)).2)) H := by rw [pfB_e]; exact hP
      have hD : va_D A (wC o ad cI cZ cG tl lc wc dc pn (nI (pfB (n, mem)).1) isw ((pfB (n, mem)).2)) := by rw [pfB_e]; exact hD
      refine lv_iload hx hb dX0_finishInto_34 (lv_at hl 4 rfl) ?_
      refine lv_iload hx hb dX0_finishInto_36 (lv_at hl 3 rfl) ?_
      refine lv_icmp_ge (tgt := 52) hx hb dX0_finishInto_38 (by decide) (fun hc => ?_) (fun hc => ?_)
      · refine lv_aload_n hx hb dX0_finishInto_52 rfl (lv_at hl 0 rfl) ?_
        refine lv_lload_n hx hb dX0_finishInto_53 rfl (lv_at hl 2 rfl) ?_
        refine mv_callV (C := RX0) (As := [.long (lN 8 * (nI n).toInt64)]) (rest := []) ⟨hx, hb, hml, hown, hW⟩ (c_takeLong ((pfB (n, mem)).1) (pfB_le (n, mem) hn) ((pfB (n, mem)).2) (lN 8 * (nI n).toInt64)) gE_ok (cwV 1 hW (gV tw_211 tw_212 tw_213 tw_2 tw_214) rfl rfl rfl (by decide +kernel) ⟨Nat.le_of_ble_eq_true rfl, Nat.le_of_ble_eq_true rfl⟩) (va_recv hK hP (ci := 1) (q0 := 1) rfl rfl) hP hD hK hS hA hT rfl hl.1 rfl (Nat.le_of_ble_eq_true rfl) dX0_finishInto_54 ⟨Nat.zero_le _, Nat.zero_le _⟩ (fun H locs hP hD hS => ?_)
        have hP : va_P D vwCl (wC o ad cI cZ cG tl lc wc dc pn (nI (p_takeLong (lN 8 * (nI n).toInt64) ((pfB (n, mem)).1, (pfB (n, mem)).2)).1) isw ((p_takeLong (lN 8 * (nI n).toInt64) ((pfB (n, mem)).1, (pfB (n, mem)).2)).2)) H := hP
        have hD : va_D A (wC o ad cI cZ cG tl lc wc dc pn (nI (p_takeLong (lN 8 * (nI n).toInt64) ((pfB (n, mem)).1, (pfB (n, mem)).2)).1) isw ((p_takeLong (lN 8 * (nI n).toInt64) ((pfB (n, mem)).1, (pfB (n, mem)).2)).2)) := hD
        have hP : va_P D vwCl (wC o ad cI cZ cG tl lc wc dc pn (nI (pfC (n, mem)).1) isw ((pfC (n, mem)).2)) H := by rw [pfC_e]; exact hP
        have hD : va_D A (wC o ad cI cZ cG tl lc wc dc pn (nI (pfC (n, mem)).1) isw ((pfC (n, mem)).2)) := by rw [pfC_e]; exact hD
        refine va_gets hx hb hZ1 hS hown (hW _ tw_215) (fun _ h => h) dX0_finishInto_57 ?_
        refine lv_iconst (v := nI 0) hx hb dX0_finishInto_60 (by decide) ?_
        refine lv_aload_n hx hb dX0_finishInto_61 rfl (lv_at hl 0 rfl) ?_
        refine va_get (D := D) (ci := 1) (v := .ref (ad 5)) (C := RX0) (T := TX0) (N := 4) hx hb hW iSH hown hK hP 1 rfl rfl 3 (by decide) (hW _ tw_31) (fun _ h9 => h9) rfl dX0_finishInto_62 ?_
        refine lv_iconst (v := nI 0) hx hb dX0_finishInto_65 (by decide) ?_
        refine lv_bipush (v := nI 8) hx hb dX0_finishInto_66 (by decide) ?_
        refine m_cpyT (X := wX o ad cZ cG tl lc wc dc pn (nI (pfC (n, mem)).1) isw) hx hb (hml.trans hl.1.symm) hown (hW _ tw_217) (hW _ tw_219) (hW _ tw_218) (hW _ tw_10) hK hP hD hS hT1 0 5 8 rfl (by decide) (by decide) (by decide) (by decide) (Nat.le_of_ble_eq_true rfl) (Nat.le_of_ble_eq_true rfl) dX0_finishInto_68 (fun H locs hP hD hS => ?_)
        have hP : va_P D vwCl (wC o ad cI cZ cG tl lc wc dc pn (nI (pfC (n, mem)).1) isw (pfD (n, mem))) H := by rw [pfD_e]; exact hP
        have hD : va_D A (wC o ad cI cZ cG tl lc wc dc pn (nI (pfC (n, mem)).1) isw (pfD (n, mem))) := by rw [pfD_e]; exact hD
        have hP : va_P D vwCl (wC o ad cI cZ cG tl lc wc dc pn (nI (pfC (n, mem)).1) isw (pfE (n, mem) 0)) H := by rw [pfE_0]; exact hP
        have hD : va_D A (wC o ad cI cZ cG tl lc wc dc pn (nI (pfC (n, mem)).1) isw (pfE (n, mem) 0)) := by rw [pfE_0]; exact hD
        refine lv_iconst (v := nI 0) hx hb dX0_finishInto_71 (by decide) ?_
        refine lv_istore (lv' := [(5, .int (nI 0)), (0, .ref (o 1)), (1, .ref (ad kk)), (2, .long (lN 8 * (nI n).toInt64)), (4, .int (nI (zz n)))]) hx hb dX0_finishInto_72 hl (by decide) rfl (fun ls hl => ?_)
        exact loop2 ((pfC (n, mem)).1 / 64) 0 H locs ls (by omega) hP hD hS (lv_sub hl [1, 2, 0] rfl)
      · exact absurd (nI_le (by omega) (by have := zz_lt n; omega)) hc
    | succ k ih =>
      intro i H locs ls hk hP hD hS hl
      refine lv_iload hx hb dX0_finishInto_34 (lv_at hl 4 rfl) ?_
      refine lv_iload hx hb dX0_finishInto_36 (lv_at hl 3 rfl) ?_
      refine lv_icmp_ge (tgt := 52) hx hb dX0_finishInto_38 (by decide) (fun hc => ?_) (fun hc => ?_)
      · exact absurd hc (nI_ge (by omega) (by have := zz_lt n; omega))
      · refine lv_aload_n hx hb dX0_finishInto_41 rfl (lv_at hl 0 rfl) ?_
        refine lv_iconst (v := nI 0) hx hb dX0_finishInto_42 (by decide) ?_
        refine mv_callV (C := RX0) (As := [.int (nI 0)]) (rest := []) ⟨hx, hb, hml, hown, hW⟩ (c_take ((itr (fun _ => p_take (nI 0)) i (pfA (n, mem))).1) (pfZ_le i (n, mem) hn) ((itr (fun _ => p_take (nI 0)) i (pfA (n, mem))).2) (nI 0)) gE_ok (cwV 1 hW (gV tw_202 tw_195 tw_196 tw_2 tw_197) rfl rfl rfl (by decide +kernel) ⟨Nat.le_of_ble_eq_true rfl, Nat.le_of_ble_eq_true rfl⟩) (va_recv hK hP (ci := 1) (q0 := 1) rfl rfl) hP hD hK hS hA hT rfl hl.1 rfl (Nat.le_of_ble_eq_true rfl) dX0_finishInto_43 ⟨Nat.zero_le _, Nat.zero_le _⟩ (fun H locs hP hD hS => ?_)
        have hP : va_P D vwCl (wC o ad cI cZ cG tl lc wc dc pn (nI (p_take (nI 0) ((itr (fun _ => p_take (nI 0)) i (pfA (n, mem))).1, (itr (fun _ => p_take (nI 0)) i (pfA (n, mem))).2)).1) isw ((p_take (nI 0) ((itr (fun _ => p_take (nI 0)) i (pfA (n, mem))).1, (itr (fun _ => p_take (nI 0)) i (pfA (n, mem))).2)).2)) H := hP
        have hD : va_D A (wC o ad cI cZ cG tl lc wc dc pn (nI (p_take (nI 0) ((itr (fun _ => p_take (nI 0)) i (pfA (n, mem))).1, (itr (fun _ => p_take (nI 0)) i (pfA (n, mem))).2)).1) isw ((p_take (nI 0) ((itr (fun _ => p_take (nI 0)) i (pfA (n, mem))).1, (itr (fun _ => p_take (nI 0)) i (pfA (n, mem))).2)).2)) := hD
        have hP : va_P D vwCl (wC o ad cI cZ cG tl lc wc dc pn (nI (itr (fun _ => p_take (nI 0)) (i + 1) (pfA (n, mem))).1) isw ((itr (fun _ => p_take (nI 0)) (i + 1) (pfA (n, mem))).2)) H := by rw [itr_s]; exact hP
        have hD : va_D A (wC o ad cI cZ cG tl lc wc dc pn (nI (itr (fun _ => p_take (nI 0)) (i + 1) (pfA (n, mem))).1) isw ((itr (fun _ => p_take (nI 0)) (i + 1) (pfA (n, mem))).2)) := by rw [itr_s]; exact hD
        refine lv_iinc (v := nI (i + 1)) (lv' := [(5, .int (nI (i + 1))), (0, .ref (o 1)), (1, .ref (ad kk)), (2, .long (lN 8 * (nI n).toInt64)), (4, .int (nI (zz n)))]) hx hb dX0_finishInto_46 hl (k := 4) rfl (nI_1 i) (by decide) rfl (fun ls hl => ?_)
        refine lv_goto (tgt := 34) hx hb dX0_finishInto_49 (by decide) ?_
        exact ih (i + 1) H locs ls (by omega) hP hD hS (lv_sub hl [1, 2, 3, 4, 0] rfl)
  refine lv_ldc2 (v := lN 8) hx hb hown (hW _ tw_207) dX0_finishInto_0 ?_
  refine lv_aload_n hx hb dX0_finishInto_3 rfl (lv_at hl 0 rfl) ?_
  refine va_get (D := D) (ci := 1) (v := .int (nI n)) (C := RX0) (T := TX0) (N := 4) hx hb hW iSH hown hK hP 1 rfl rfl 1 (by decide) (hW _ tw_29) (fun _ h9 => h9) rfl dX0_finishInto_4 ?_
  refine lv_i2l (v := (nI n).toInt64) hx hb dX0_finishInto_7 rfl ?_
  refine lv_lmul hx hb dX0_finishInto_8 ?_
  refine lv_lstore_n (lv' := [(2, .long ((lN 8) * ((nI n).toInt64))), (0, .ref (o 1)), (1, .ref (ad kk))]) hx hb dX0_finishInto_9 rfl hl (by decide) rfl (fun ls hl => ?_)
  refine lv_bipush (v := nI 55) hx hb dX0_finishInto_10 (by decide) ?_
  refine lv_aload_n hx hb dX0_finishInto_12 rfl (lv_at hl 1 rfl) ?_
  refine va_get (D := D) (ci := 1) (v := .int (nI n)) (C := RX0) (T := TX0) (N := 4) hx hb hW iSH hown hK hP 1 rfl rfl 1 (by decide) (hW _ tw_29) (fun _ h9 => h9) rfl dX0_finishInto_13 ?_
  refine lv_isub hx hb dX0_finishInto_16 ?_
  refine lv_bipush (v := nI 64) hx hb dX0_finishInto_17 (by decide) ?_
  refine mi_callS (As := [.int ((nI 55) - (nI n)), .int (nI 64)]) (rest := []) ⟨hx, hb, hml, hown, hW⟩ (c_floorMod _ ((nI 55) - (nI n)) (nI 64) (by decide)) gE_ok (va_cwS 2 hW (gS tw_208 tw_209 tw_9 tw_210) rfl rfl rfl (by decide +kernel) ⟨Nat.le_of_ble_eq_true rfl, Nat.le_of_ble_eq_true rfl⟩) hP hD hK hS hA hT rfl hl.1 rfl (Nat.le_of_ble_eq_true rfl) dX0_finishInto_19 ⟨Nat.zero_le _, Nat.zero_le _⟩ (fun H locs hP hD hS => ?_)
  refine lv_eqi (v := nI (zz n)) (zz_eq n (by omega)) ?_
  refine lv_istore (lv' := [(4, .int (nI (zz n))), (2, .long ((lN 8) * ((nI n).toInt64))), (0, .ref (o 1)), (1, .ref (ad kk))]) hx hb dX0_finishInto_22 hl (by decide) rfl (fun ls hl => ?_)
  refine lv_aload_n hx hb dX0_finishInto_24 rfl (lv_at hl 2 rfl) ?_
  refine lv_sipush (v := nI 128) hx hb dX0_finishInto_25 (by decide) ?_
  refine mv_callV (C := RX0) (As := [.int (nI 128)]) (rest := []) ⟨hx, hb, hml, hown, hW⟩ (c_take n (by omega) mem (nI 128)) gE_ok (cwV 1 hW (gV tw_202 tw_195 tw_196 tw_2 tw_197) rfl rfl rfl (by decide +kernel) ⟨Nat.le_of_ble_eq_true rfl, Nat.le_of_ble_eq_true rfl⟩) (va_recv hK hP (ci := 1) (q0 := 1) rfl rfl) hP hD hK hS hA hT rfl hl.1 rfl (Nat.le_of_ble_eq_true rfl) dX0_finishInto_28 ⟨Nat.zero_le _, Nat.zero_le _⟩ (fun H locs hP hD hS => ?_)
  have hP : va_P D vwCl (wC o ad cI cZ cG tl lc wc dc pn (nI (p_take (nI 128) (n, mem)).1) isw ((p_take (nI 128) (n, mem)).2)) H := hP
  have hD : va_D A (wC o ad cI cZ cG tl lc wc dc pn (nI (p_take (nI 128) (n, mem)).1) isw ((p_take (nI 128) (n, mem)).2)) := hD
  have hP : va_P D vwCl (wC o ad cI cZ cG tl lc wc dc pn (nI (pfA (n, mem)).1) isw ((pfA (n, mem)).2)) H := by rw [pfA_e]; exact hP
  have hD : va_D A (wC o ad cI cZ cG tl lc wc dc pn (nI (pfA (n, mem)).1) isw ((pfA (n, mem)).2)) := by rw [pfA_e]; exact hD
  refine lv_iconst (v := nI 0) hx hb dX0_finishInto_31 (by decide) ?_
  refine lv_istore (lv' := [(5, .int (nI 0)), (4, .int (nI (zz n))), (2, .long ((lN 8) * ((nI n).toInt64))), (0, .ref (o 1)), (1, .ref (ad kk))]) hx hb dX0_finishInto_32 hl (by decide) rfl (fun ls hl => ?_)
  have hP : va_P D vwCl (wC o ad cI cZ cG tl lc wc dc pn (nI (itr (fun _ => p_take (nI 0)) 0 (pfA (n, mem))).1) isw ((itr (fun _ => p_take (nI 0)) 0 (pfA (n, mem))).2)) H := by rw [itr_0]; exact hP
  have hD : va_D A (wC o ad cI cZ cG tl lc wc dc pn (nI (itr (fun _ => p_take (nI 0)) 0 (pfA (n, mem))).1) isw ((itr (fun _ => p_take (nI 0)) 0 (pfA (n, mem))).2)) := by rw [itr_0]; exact hD
  exact loop1 (zz n) 0 H locs ls (by omega) hP hD hS (lv_sub hl [3, 4, 2, 1, 0] rfl)
