set_option maxHeartbeats 4000000 in
set_option maxRecDepth 100000 in
theorem n_digest0 {l : Launch} {D : va_G} {om am : Nat → Nat} {cI cZ cG : ClassId} {th tp lv dy pv pm pt wy : Int32} {gone oR : Nat → Int32} (n : Nat) (hn : n ≤ 247) (mem : xMem) (hkc : ∀ i, i < 64 → mem 13 i = kc i) : MV l nE yX2_digest0 (.code yX2_digest0 cX2_digest0 3 none :: tW) ({ frames := 2, cells := 0, slots := 0, locals := 56 }) D vwCl (tC cI cZ cG) [.ref (om 0)] (wM om am cI cZ th tp lv dy pv pm (nI n) pt wy gone oR mem) (wM om am cI cZ th tp lv dy pv pm (nI (P_fin 2 (n, mem)).1) pt wy gone oR ((P_fin 2 (n, mem)).2)) := by
  refine MV.ofW (by decide +kernel) rfl (Nat.le_of_ble_eq_true rfl) ?_
  intro p e s m below meth c A ls hx hb hr hts hown hlk hml hA hP hK hD hT hl
  have hS : va_S A s.heap s.heap [] := va_S.rf
  have hown : s.vm.findClass RX2 = some m.cls := hown
  have hW : ∀ w ∈ tW, w.before _ s = true := fun w h => hts w (List.mem_cons_of_mem _ h)
  have hl : lv_has ls 3 [(0, .ref (om 0))] := hl
  have hz := zz_lt n
  have hzz : (311 - n) % 64 = zz n := rfl
  generalize hz0 : zz n = zn at hz hzz
  have hC : (pfC (n, mem)).1 = n + 9 + zn := (pfC_fst n mem hn).trans (by rw [hz0])
  have loop3 : ∀ (k i : Nat) (H : Heap) (locs : List Loc) (ls : Array Slot), i + k = 32 → va_P D vwCl (wM om am cI cZ th tp lv dy pv pm (nI (pfC (n, mem)).1) pt wy gone oR (pfF 2 (n, mem) i)) H → va_D A (wM om am cI cZ th tp lv dy pv pm (nI (pfC (n, mem)).1) pt wy gone oR (pfF 2 (n, mem) i)) → va_S A s.heap H locs → lv_has ls 3 [(0, .ref (om 0)), (2, .int (nI i))] → W p l e ({ frames := 2, cells := 0, slots := 0, locals := 56 }) s m ([.ref (om 0)] : List Value).toArray below meth c H locs 0 0 (MQ below (xQv D vwCl (wM om am cI cZ th tp lv dy pv pm (nI (P_fin 2 (n, mem)).1) pt wy gone oR ((P_fin 2 (n, mem)).2)) A) ([.ref (om 0)] : List Value).toArray s 0 0 A) (F0 m 131 ls []) := by
    intro k
    induction k with
    | zero =>
      intro i H locs ls hk hP hD hS hl
      have hk9 : i = 32 := by omega
      subst hk9
      refine lv_iload_n hx hb dX2_digest0_131 rfl (lv_at hl 1 rfl) ?_
      refine lv_bipush (v := nI 32) hx hb dX2_digest0_132 (by decide) ?_
      refine lv_icmp_ge (tgt := 171) hx hb dX2_digest0_134 (by decide) (fun _ => ?_) (fun hq9 => absurd (by decide) hq9)
      have hP : va_P D vwCl (wM om am cI cZ th tp lv dy pv pm (nI (P_fin 2 (n, mem)).1) pt wy gone oR ((P_fin 2 (n, mem)).2)) H := by rw [P_fin_e, p_finish_1, p_finish_2]; exact hP
      have hD : va_D A (wM om am cI cZ th tp lv dy pv pm (nI (P_fin 2 (n, mem)).1) pt wy gone oR ((P_fin 2 (n, mem)).2)) := by rw [P_fin_e, p_finish_1, p_finish_2]; exact hD
      exact mv_ret hx hb hr hlk hS hP hD dX2_digest0_171
    | succ k ih =>
      intro i H locs ls hk hP hD hS hl
      refine lv_iload_n hx hb dX2_digest0_131 rfl (lv_at hl 1 rfl) ?_
      refine lv_bipush (v := nI 32) hx hb dX2_digest0_132 (by decide) ?_
      refine lv_icmp_ge (tgt := 171) hx hb dX2_digest0_134 (by decide) (fun hq9 => absurd hq9 (nI_ge (by omega) (by decide))) (fun _ => ?_)
      refine lv_aload_n hx hb dX2_digest0_137 rfl (lv_at hl 0 rfl) ?_
      refine va_get (D := D) (ci := 2) (v := .ref (am 2)) (C := RX2) (T := TX2) (N := 25) hx hb hW iMD hown hK hP 0 rfl rfl 14 (by decide) (hW _ tw_528) (fun _ h9 => h9) rfl dX2_digest0_138 ?_
      refine lv_iload_n hx hb dX2_digest0_141 rfl (lv_at hl 1 rfl) ?_
      refine lv_aload_n hx hb dX2_digest0_142 rfl (lv_at hl 0 rfl) ?_
      refine va_get (D := D) (ci := 2) (v := .ref (am 5)) (C := RX2) (T := TX2) (N := 25) hx hb hW iMD hown hK hP 0 rfl rfl 16 (by decide) (hW _ tw_530) (fun _ h9 => h9) rfl dX2_digest0_143 ?_
      refine lv_iload_n hx hb dX2_digest0_146 rfl (lv_at hl 1 rfl) ?_
      refine lv_iconst (v := nI 4) hx hb dX2_digest0_147 (by decide) ?_
      refine lv_idiv hx hb dX2_digest0_148 (by decide) ?_
      refine lv_eqi (v := nI (i / 4)) (pk_div (by omega) (by decide) (by decide)) ?_
      refine m_ld (X := wMx om am cZ th tp lv dy pv pm (nI (pfC (n, mem)).1) pt wy gone oR) hx hb hK hP 0 5 (i / 4) rfl (by decide) (show i / 4 < 8 by omega) (by decide) dX2_digest0_149 ?_
      refine lv_bipush (v := nI 24) hx hb dX2_digest0_150 (by decide) ?_
      refine lv_bipush (v := nI 8) hx hb dX2_digest0_152 (by decide) ?_
      refine lv_iload_n hx hb dX2_digest0_154 rfl (lv_at hl 1 rfl) ?_
      refine lv_iconst (v := nI 4) hx hb dX2_digest0_155 (by decide) ?_
      refine lv_irem hx hb dX2_digest0_156 (by decide) ?_
      refine lv_eqi (v := nI (i % 4)) (pk_rem (by omega) (by decide) (by decide)) ?_
      refine lv_imul hx hb dX2_digest0_157 ?_
      refine lv_eqi (v := nI (8 * (i % 4))) (pk_mul _ _) ?_
      refine lv_isub hx hb dX2_digest0_158 ?_
      refine lv_eqi (v := nI (24 - (8 * (i % 4)))) (pk_sub (by omega)) ?_
      refine lv_iushr (v := ush ((pfF 2 (n, mem) i) 5 (i / 4)) (nI (24 - (8 * (i % 4))))) hx hb dX2_digest0_159 rfl ?_
      refine lv_sipush (v := nI 255) hx hb dX2_digest0_160 (by decide) ?_
      refine lv_iand hx hb dX2_digest0_163 ?_
      refine m_st (X := wMx om am cZ th tp lv dy pv pm (nI (pfC (n, mem)).1) pt wy gone oR) hx hb hK hP hD hS 0 2 i rfl (by decide) (show i < 32 by omega) (by decide) dX2_digest0_164 (fun H locs hP hD hS => ?_)
      have hP : va_P D vwCl (wM om am cI cZ th tp lv dy pv pm (nI (pfC (n, mem)).1) pt wy gone oR (pfF 2 (n, mem) (i + 1))) H := by rw [pfF_s]; exact hP
      have hD : va_D A (wM om am cI cZ th tp lv dy pv pm (nI (pfC (n, mem)).1) pt wy gone oR (pfF 2 (n, mem) (i + 1))) := by rw [pfF_s]; exact hD
      refine lv_iinc (v := nI (i + 1)) (lv' := [(2, .int (nI (i + 1))), (0, .ref (om 0))]) hx hb dX2_digest0_165 hl (k := 1) rfl (nI_1 _) (by decide) rfl (fun ls hl => ?_)
      refine lv_goto (tgt := 131) hx hb dX2_digest0_168 (by decide) ?_
      exact ih (i + 1) H locs ls (by omega) hP hD hS (lv_sub hl [1, 0] rfl)
  have loop2 : ∀ (k i : Nat) (H : Heap) (locs : List Loc) (ls : Array Slot), 64 * (i + k) = n + 9 + zn → va_P D vwCl (wM om am cI cZ th tp lv dy pv pm (nI (pfC (n, mem)).1) pt wy gone oR (pfE (n, mem) i)) H → va_D A (wM om am cI cZ th tp lv dy pv pm (nI (pfC (n, mem)).1) pt wy gone oR (pfE (n, mem) i)) → va_S A s.heap H locs → lv_has ls 3 [(0, .ref (om 0)), (2, .int (nI (64 * i)))] → W p l e ({ frames := 2, cells := 0, slots := 0, locals := 56 }) s m ([.ref (om 0)] : List Value).toArray below meth c H locs 0 0 (MQ below (xQv D vwCl (wM om am cI cZ th tp lv dy pv pm (nI (P_fin 2 (n, mem)).1) pt wy gone oR ((P_fin 2 (n, mem)).2)) A) ([.ref (om 0)] : List Value).toArray s 0 0 A) (F0 m 110 ls []) := by
    intro k
    induction k with
    | zero =>
      intro i H locs ls hk hP hD hS hl
      have hk9 : 64 * i = n + 9 + zn := by omega
      refine lv_iload_n hx hb dX2_digest0_110 rfl (lv_at hl 1 rfl) ?_
      refine lv_aload_n hx hb dX2_digest0_111 rfl (lv_at hl 0 rfl) ?_
      refine va_get (D := D) (ci := 2) (v := .int (nI (pfC (n, mem)).1)) (C := RX2) (T := TX2) (N := 25) hx hb hW iMD hown hK hP 0 rfl rfl 12 (by decide) (hW _ tw_526) (fun _ h9 => h9) rfl dX2_digest0_112 ?_
      refine lv_eqi (v := nI (n + 9 + zn)) (congrArg nI hC) ?_
      refine lv_icmp_ge (tgt := 129) hx hb dX2_digest0_115 (by decide) (fun _ => ?_) (fun hq9 => absurd (nI_le (by omega) (by omega)) hq9)
      have hk8 : i = (pfC (n, mem)).1 / 64 := by rw [hC]; omega
      have hP : va_P D vwCl (wM om am cI cZ th tp lv dy pv pm (nI (pfC (n, mem)).1) pt wy gone oR (pfF 2 (n, mem) 0)) H := by rw [pfF_0, ← hk8]; exact hP
      have hD : va_D A (wM om am cI cZ th tp lv dy pv pm (nI (pfC (n, mem)).1) pt wy gone oR (pfF 2 (n, mem) 0)) := by rw [pfF_0, ← hk8]; exact hD
      refine lv_iconst (v := nI 0) hx hb dX2_digest0_129 (by decide) ?_
      refine lv_istore_n (lv' := [(2, .int (nI 0)), (0, .ref (om 0))]) hx hb dX2_digest0_130 rfl hl (by decide) rfl (fun ls hl => ?_)
      exact loop3 32 0 H locs ls (by omega) hP hD hS (lv_sub hl [1, 0] rfl)
    | succ k ih =>
      intro i H locs ls hk hP hD hS hl
      refine lv_iload_n hx hb dX2_digest0_110 rfl (lv_at hl 1 rfl) ?_
      refine lv_aload_n hx hb dX2_digest0_111 rfl (lv_at hl 0 rfl) ?_
      refine va_get (D := D) (ci := 2) (v := .int (nI (pfC (n, mem)).1)) (C := RX2) (T := TX2) (N := 25) hx hb hW iMD hown hK hP 0 rfl rfl 12 (by decide) (hW _ tw_526) (fun _ h9 => h9) rfl dX2_digest0_112 ?_
      refine lv_eqi (v := nI (n + 9 + zn)) (congrArg nI hC) ?_
      refine lv_icmp_ge (tgt := 129) hx hb dX2_digest0_115 (by decide) (fun hq9 => absurd hq9 (nI_ge (by omega) (by omega))) (fun _ => ?_)
      refine lv_aload_n hx hb dX2_digest0_118 rfl (lv_at hl 0 rfl) ?_
      refine lv_iload_n hx hb dX2_digest0_119 rfl (lv_at hl 1 rfl) ?_
      refine mv_callV (C := RX2) (As := [.int (nI (64 * i))]) (rest := []) ⟨hx, hb, hml, hown, hW⟩ (n_block (64 * i) (by omega) (pfE (n, mem) i) (fun j hj => by rw [pfE_k (by decide) (by decide) (by decide)]; exact hkc j hj)) nE_ok (cwV 1 hW (gV tw_634 tw_636 tv_X2_block tw_3 tw_637) rfl rfl rfl (by decide +kernel) ⟨Nat.le_of_ble_eq_true rfl, Nat.le_of_ble_eq_true rfl⟩) (va_recv hK hP (ci := 2) (q0 := 0) rfl rfl) hP hD hK hS hA hT rfl hl.1 rfl (Nat.le_of_ble_eq_true rfl) dX2_digest0_120 ⟨Nat.zero_le _, Nat.zero_le _⟩ (fun H locs hP hD hS => ?_)
      have hP : va_P D vwCl (wM om am cI cZ th tp lv dy pv pm (nI (pfC (n, mem)).1) pt wy gone oR (p_stir (p_spread (64 * i) (pfE (n, mem) i)))) H := hP
      have hD : va_D A (wM om am cI cZ th tp lv dy pv pm (nI (pfC (n, mem)).1) pt wy gone oR (p_stir (p_spread (64 * i) (pfE (n, mem) i)))) := hD
      have hP : va_P D vwCl (wM om am cI cZ th tp lv dy pv pm (nI (pfC (n, mem)).1) pt wy gone oR (pfE (n, mem) (i + 1))) H := by rw [pfE_s]; exact hP
      have hD : va_D A (wM om am cI cZ th tp lv dy pv pm (nI (pfC (n, mem)).1) pt wy gone oR (pfE (n, mem) (i + 1))) := by rw [pfE_s]; exact hD
      refine lv_iinc (v := nI (64 * (i + 1))) (lv' := [(2, .int (nI (64 * (i + 1)))), (0, .ref (om 0))]) hx hb dX2_digest0_123 hl (k := 1) rfl (nI_add (64 * i) 64) (by decide) rfl (fun ls hl => ?_)
      refine lv_goto (tgt := 110) hx hb dX2_digest0_126 (by decide) ?_
      exact ih (i + 1) H locs ls (by omega) hP hD hS (lv_sub hl [1, 0] rfl)
  have loop1 : ∀ (k i : Nat) (H : Heap) (locs : List Loc) (ls : Array Slot), i + k = zn → va_P D vwCl (wM om am cI cZ th tp lv dy pv pm (nI (itr (fun _ => p_take (nI 0)) i (pfA (n, hS5 mem))).1) pt wy gone oR ((itr (fun _ => p_take (nI 0)) i (pfA (n, hS5 mem))).2)) H → va_D A (wM om am cI cZ th tp lv dy pv pm (nI (itr (fun _ => p_take (nI 0)) i (pfA (n, hS5 mem))).1) pt wy gone oR ((itr (fun _ => p_take (nI 0)) i (pfA (n, hS5 mem))).2)) → va_S A s.heap H locs → lv_has ls 3 [(0, .ref (om 0)), (1, .int (nI n))] → W p l e ({ frames := 2, cells := 0, slots := 0, locals := 56 }) s m ([.ref (om 0)] : List Value).toArray below meth c H locs 0 0 (MQ below (xQv D vwCl (wM om am cI cZ th tp lv dy pv pm (nI (P_fin 2 (n, mem)).1) pt wy gone oR ((P_fin 2 (n, mem)).2)) A) ([.ref (om 0)] : List Value).toArray s 0 0 A) (F0 m 78 ls []) := by
    intro k
    induction k with
    | zero =>
      intro i H locs ls hk hP hD hS hl
      have hk9 : i = zn := by omega
      have e0 : (itr (fun _ => p_take (nI 0)) i (pfA (n, hS5 mem))).1 = n + 1 + i := pfZ_fst n (hS5 mem) i (by omega)
      refine lv_aload_n hx hb dX2_digest0_78 rfl (lv_at hl 0 rfl) ?_
      refine va_get (D := D) (ci := 2) (v := .int (nI (itr (fun _ => p_take (nI 0)) i (pfA (n, hS5 mem))).1)) (C := RX2) (T := TX2) (N := 25) hx hb hW iMD hown hK hP 0 rfl rfl 12 (by decide) (hW _ tw_526) (fun _ h9 => h9) rfl dX2_digest0_79 ?_
      refine lv_eqi (v := nI (n + 1 + i)) (congrArg nI e0) ?_
      refine lv_bipush (v := nI 64) hx hb dX2_digest0_82 (by decide) ?_
      refine lv_irem hx hb dX2_digest0_84 (by decide) ?_
      refine lv_eqi (v := nI ((n + 1 + i) % 64)) (pk_rem (by omega) (by decide) (by decide)) ?_
      refine lv_bipush (v := nI 56) hx hb dX2_digest0_85 (by decide) ?_
      refine lv_icmp_eq (tgt := 98) hx hb dX2_digest0_87 (by decide) (fun _ => ?_) (fun hq9 => absurd ((nI_eq (by omega) (by decide)).mpr (by omega)) hq9)
      rw [hk9] at hP hD e0
      have hP : va_P D vwCl (wM om am cI cZ th tp lv dy pv pm (nI (pfB (n, hS5 mem)).1) pt wy gone oR ((pfB (n, hS5 mem)).2)) H := by rw [pfB_e, hz0]; exact hP
      have hD : va_D A (wM om am cI cZ th tp lv dy pv pm (nI (pfB (n, hS5 mem)).1) pt wy gone oR ((pfB (n, hS5 mem)).2)) := by rw [pfB_e, hz0]; exact hD
      have e1 : (pfB (n, hS5 mem)).1 = n + 1 + zn := by rw [pfB_e, hz0]; exact e0
      refine lv_aload_n hx hb dX2_digest0_98 rfl (lv_at hl 0 rfl) ?_
      refine lv_ldc2 (v := lN 8) hx hb hown (hW _ tw_629) dX2_digest0_99 ?_
      refine lv_iload_n hx hb dX2_digest0_102 rfl (lv_at hl 1 rfl) ?_
      refine lv_i2l (v := (nI n).toInt64) hx hb dX2_digest0_103 rfl ?_
      refine lv_lmul hx hb dX2_digest0_104 ?_
      refine mv_callV (C := RX2) (As := [.long ((lN 8) * ((nI n).toInt64))]) (rest := []) ⟨hx, hb, hml, hown, hW⟩ (n_addLong ((pfB (n, hS5 mem)).1) (by rw [e1]; omega) ((pfB (n, hS5 mem)).2) ((lN 8) * ((nI n).toInt64))) nE_ok (cwV 1 hW (gV tw_630 tw_632 tv_X2_addLong tw_3 tw_633) rfl rfl rfl (by decide +kernel) ⟨Nat.le_of_ble_eq_true rfl, Nat.le_of_ble_eq_true rfl⟩) (va_recv hK hP (ci := 2) (q0 := 0) rfl rfl) hP hD hK hS hA hT rfl hl.1 rfl (Nat.le_of_ble_eq_true rfl) dX2_digest0_105 ⟨Nat.zero_le _, Nat.zero_le _⟩ (fun H locs hP hD hS => ?_)
      have hP : va_P D vwCl (wM om am cI cZ th tp lv dy pv pm (nI (P_long ((lN 8) * ((nI n).toInt64)) (pfB (n, hS5 mem))).1) pt wy gone oR ((P_long ((lN 8) * ((nI n).toInt64)) (pfB (n, hS5 mem))).2)) H := hP
      have hD : va_D A (wM om am cI cZ th tp lv dy pv pm (nI (P_long ((lN 8) * ((nI n).toInt64)) (pfB (n, hS5 mem))).1) pt wy gone oR ((P_long ((lN 8) * ((nI n).toInt64)) (pfB (n, hS5 mem))).2)) := hD
      have e2 : P_long (lN 8 * (nI n).toInt64) (pfB (n, hS5 mem)) = pfC (n, hS5 mem) := by rw [P_long_e, pfC_e]
      have hP : va_P D vwCl (wM om am cI cZ th tp lv dy pv pm (nI (pfC (n, mem)).1) pt wy gone oR (pfE (n, mem) 0)) H := by rw [pfE_0, ← pfC_U, ← pfD_U, ← e2]; exact hP
      have hD : va_D A (wM om am cI cZ th tp lv dy pv pm (nI (pfC (n, mem)).1) pt wy gone oR (pfE (n, mem) 0)) := by rw [pfE_0, ← pfC_U, ← pfD_U, ← e2]; exact hD
      refine lv_iconst (v := nI 0) hx hb dX2_digest0_108 (by decide) ?_
      refine lv_istore_n (lv' := [(2, .int (nI 0)), (0, .ref (om 0)), (1, .int (nI n))]) hx hb dX2_digest0_109 rfl hl (by decide) rfl (fun ls hl => ?_)
      obtain ⟨kb, hkb⟩ : ∃ kb, 64 * kb = n + 9 + zn := ⟨(n + 9 + zn) / 64, by omega⟩
      exact loop2 kb 0 H locs ls (by omega) hP hD hS (lv_sub hl [1, 0] rfl)
    | succ k ih =>
      intro i H locs ls hk hP hD hS hl
      have e0 : (itr (fun _ => p_take (nI 0)) i (pfA (n, hS5 mem))).1 = n + 1 + i := pfZ_fst n (hS5 mem) i (by omega)
      refine lv_aload_n hx hb dX2_digest0_78 rfl (lv_at hl 0 rfl) ?_
      refine va_get (D := D) (ci := 2) (v := .int (nI (itr (fun _ => p_take (nI 0)) i (pfA (n, hS5 mem))).1)) (C := RX2) (T := TX2) (N := 25) hx hb hW iMD hown hK hP 0 rfl rfl 12 (by decide) (hW _ tw_526) (fun _ h9 => h9) rfl dX2_digest0_79 ?_
      refine lv_eqi (v := nI (n + 1 + i)) (congrArg nI e0) ?_
      refine lv_bipush (v := nI 64) hx hb dX2_digest0_82 (by decide) ?_
      refine lv_irem hx hb dX2_digest0_84 (by decide) ?_
      refine lv_eqi (v := nI ((n + 1 + i) % 64)) (pk_rem (by omega) (by decide) (by decide)) ?_
      refine lv_bipush (v := nI 56) hx hb dX2_digest0_85 (by decide) ?_
      refine lv_icmp_eq (tgt := 98) hx hb dX2_digest0_87 (by decide) (fun hq9 => absurd hq9 (fun h9 => absurd ((nI_eq (by omega) (by decide)).mp h9) (by omega))) (fun _ => ?_)
      refine lv_aload_n hx hb dX2_digest0_90 rfl (lv_at hl 0 rfl) ?_
      refine lv_iconst (v := nI 0) hx hb dX2_digest0_91 (by decide) ?_
      refine mv_callV (C := RX2) (As := [.int (nI 0)]) (rest := []) ⟨hx, hb, hml, hown, hW⟩ (n_add ((itr (fun _ => p_take (nI 0)) i (pfA (n, hS5 mem))).1) (by rw [e0]; omega) ((itr (fun _ => p_take (nI 0)) i (pfA (n, hS5 mem))).2) (nI 0)) nE_ok (cwV 1 hW (gV tw_613 tw_615 tv_X2_add tw_3 tw_616) rfl rfl rfl (by decide +kernel) ⟨Nat.le_of_ble_eq_true rfl, Nat.le_of_ble_eq_true rfl⟩) (va_recv hK hP (ci := 2) (q0 := 0) rfl rfl) hP hD hK hS hA hT rfl hl.1 rfl (Nat.le_of_ble_eq_true rfl) dX2_digest0_92 ⟨Nat.zero_le _, Nat.zero_le _⟩ (fun H locs hP hD hS => ?_)
      have hP : va_P D vwCl (wM om am cI cZ th tp lv dy pv pm (nI (P_take (nI 0) (itr (fun _ => p_take (nI 0)) i (pfA (n, hS5 mem)))).1) pt wy gone oR ((P_take (nI 0) (itr (fun _ => p_take (nI 0)) i (pfA (n, hS5 mem)))).2)) H := hP
      have hD : va_D A (wM om am cI cZ th tp lv dy pv pm (nI (P_take (nI 0) (itr (fun _ => p_take (nI 0)) i (pfA (n, hS5 mem)))).1) pt wy gone oR ((P_take (nI 0) (itr (fun _ => p_take (nI 0)) i (pfA (n, hS5 mem)))).2)) := hD
      have hP : va_P D vwCl (wM om am cI cZ th tp lv dy pv pm (nI (itr (fun _ => p_take (nI 0)) (i + 1) (pfA (n, hS5 mem))).1) pt wy gone oR ((itr (fun _ => p_take (nI 0)) (i + 1) (pfA (n, hS5 mem))).2)) H := by rw [pz_s]; exact hP
      have hD : va_D A (wM om am cI cZ th tp lv dy pv pm (nI (itr (fun _ => p_take (nI 0)) (i + 1) (pfA (n, hS5 mem))).1) pt wy gone oR ((itr (fun _ => p_take (nI 0)) (i + 1) (pfA (n, hS5 mem))).2)) := by rw [pz_s]; exact hD
      refine lv_goto (tgt := 78) hx hb dX2_digest0_95 (by decide) ?_
      exact ih (i + 1) H locs ls (by omega) hP hD hS (lv_sub hl [0, 1] rfl)
  refine lv_aload_n hx hb dX2_digest0_0 rfl (lv_at hl 0 rfl) ?_
  refine va_get (D := D) (ci := 2) (v := .ref (am 5)) (C := RX2) (T := TX2) (N := 25) hx hb hW iMD hown hK hP 0 rfl rfl 16 (by decide) (hW _ tw_530) (fun _ h9 => h9) rfl dX2_digest0_1 ?_
  refine lv_iconst (v := nI 0) hx hb dX2_digest0_4 (by decide) ?_
  refine lv_ldc (v := 1779033703) hx hb hown (hW _ tw_621) dX2_digest0_5 ?_
  refine m_st (X := wMx om am cZ th tp lv dy pv pm (nI n) pt wy gone oR) hx hb hK hP hD hS 0 5 0 rfl (by decide) (show 0 < 8 by omega) (by decide) dX2_digest0_7 (fun H locs hP hD hS => ?_)
  have hP : va_P D vwCl (wM om am cI cZ th tp lv dy pv pm (nI n) pt wy gone oR (st5 0 1779033703 mem)) H := hP
  have hD : va_D A (wM om am cI cZ th tp lv dy pv pm (nI n) pt wy gone oR (st5 0 1779033703 mem)) := hD
  refine lv_aload_n hx hb dX2_digest0_8 rfl (lv_at hl 0 rfl) ?_
  refine va_get (D := D) (ci := 2) (v := .ref (am 5)) (C := RX2) (T := TX2) (N := 25) hx hb hW iMD hown hK hP 0 rfl rfl 16 (by decide) (hW _ tw_530) (fun _ h9 => h9) rfl dX2_digest0_9 ?_
  refine lv_iconst (v := nI 1) hx hb dX2_digest0_12 (by decide) ?_
  refine lv_ldc (v := (-1150833019)) hx hb hown (hW _ tw_622) dX2_digest0_13 ?_
  refine m_st (X := wMx om am cZ th tp lv dy pv pm (nI n) pt wy gone oR) hx hb hK hP hD hS 0 5 1 rfl (by decide) (show 1 < 8 by omega) (by decide) dX2_digest0_15 (fun H locs hP hD hS => ?_)
  have hP : va_P D vwCl (wM om am cI cZ th tp lv dy pv pm (nI n) pt wy gone oR (st5 1 (-1150833019) (st5 0 1779033703 mem))) H := hP
  have hD : va_D A (wM om am cI cZ th tp lv dy pv pm (nI n) pt wy gone oR (st5 1 (-1150833019) (st5 0 1779033703 mem))) := hD
  refine lv_aload_n hx hb dX2_digest0_16 rfl (lv_at hl 0 rfl) ?_
  refine va_get (D := D) (ci := 2) (v := .ref (am 5)) (C := RX2) (T := TX2) (N := 25) hx hb hW iMD hown hK hP 0 rfl rfl 16 (by decide) (hW _ tw_530) (fun _ h9 => h9) rfl dX2_digest0_17 ?_
  refine lv_iconst (v := nI 2) hx hb dX2_digest0_20 (by decide) ?_
  refine lv_ldc (v := 1013904242) hx hb hown (hW _ tw_623) dX2_digest0_21 ?_
  refine m_st (X := wMx om am cZ th tp lv dy pv pm (nI n) pt wy gone oR) hx hb hK hP hD hS 0 5 2 rfl (by decide) (show 2 < 8 by omega) (by decide) dX2_digest0_23 (fun H locs hP hD hS => ?_)
  have hP : va_P D vwCl (wM om am cI cZ th tp lv dy pv pm (nI n) pt wy gone oR (st5 2 1013904242 (st5 1 (-1150833019) (st5 0 1779033703 mem)))) H := hP
  have hD : va_D A (wM om am cI cZ th tp lv dy pv pm (nI n) pt wy gone oR (st5 2 1013904242 (st5 1 (-1150833019) (st5 0 1779033703 mem)))) := hD
  refine lv_aload_n hx hb dX2_digest0_24 rfl (lv_at hl 0 rfl) ?_
  refine va_get (D := D) (ci := 2) (v := .ref (am 5)) (C := RX2) (T := TX2) (N := 25) hx hb hW iMD hown hK hP 0 rfl rfl 16 (by decide) (hW _ tw_530) (fun _ h9 => h9) rfl dX2_digest0_25 ?_
  refine lv_iconst (v := nI 3) hx hb dX2_digest0_28 (by decide) ?_
  refine lv_ldc (v := (-1521486534)) hx hb hown (hW _ tw_624) dX2_digest0_29 ?_
  refine m_st (X := wMx om am cZ th tp lv dy pv pm (nI n) pt wy gone oR) hx hb hK hP hD hS 0 5 3 rfl (by decide) (show 3 < 8 by omega) (by decide) dX2_digest0_31 (fun H locs hP hD hS => ?_)
  have hP : va_P D vwCl (wM om am cI cZ th tp lv dy pv pm (nI n) pt wy gone oR (st5 3 (-1521486534) (st5 2 1013904242 (st5 1 (-1150833019) (st5 0 1779033703 mem))))) H := hP
  have hD : va_D A (wM om am cI cZ th tp lv dy pv pm (nI n) pt wy gone oR (st5 3 (-1521486534) (st5 2 1013904242 (st5 1 (-1150833019) (st5 0 1779033703 mem))))) := hD
  refine lv_aload_n hx hb dX2_digest0_32 rfl (lv_at hl 0 rfl) ?_
  refine va_get (D := D) (ci := 2) (v := .ref (am 5)) (C := RX2) (T := TX2) (N := 25) hx hb hW iMD hown hK hP 0 rfl rfl 16 (by decide) (hW _ tw_530) (fun _ h9 => h9) rfl dX2_digest0_33 ?_
  refine lv_iconst (v := nI 4) hx hb dX2_digest0_36 (by decide) ?_
  refine lv_ldc (v := 1359893119) hx hb hown (hW _ tw_625) dX2_digest0_37 ?_
  refine m_st (X := wMx om am cZ th tp lv dy pv pm (nI n) pt wy gone oR) hx hb hK hP hD hS 0 5 4 rfl (by decide) (show 4 < 8 by omega) (by decide) dX2_digest0_39 (fun H locs hP hD hS => ?_)
  have hP : va_P D vwCl (wM om am cI cZ th tp lv dy pv pm (nI n) pt wy gone oR (st5 4 1359893119 (st5 3 (-1521486534) (st5 2 1013904242 (st5 1 (-1150833019) (st5 0 1779033703 mem)))))) H := hP
  have hD : va_D A (wM om am cI cZ th tp lv dy pv pm (nI n) pt wy gone oR (st5 4 1359893119 (st5 3 (-1521486534) (st5 2 1013904242 (st5 1 (-1150833019) (st5 0 1779033703 mem)))))) := hD
  refine lv_aload_n hx hb dX2_digest0_40 rfl (lv_at hl 0 rfl) ?_
  refine va_get (D := D) (ci := 2) (v := .ref (am 5)) (C := RX2) (T := TX2) (N := 25) hx hb hW iMD hown hK hP 0 rfl rfl 16 (by decide) (hW _ tw_530) (fun _ h9 => h9) rfl dX2_digest0_41 ?_
  refine lv_iconst (v := nI 5) hx hb dX2_digest0_44 (by decide) ?_
  refine lv_ldc (v := (-1694144372)) hx hb hown (hW _ tw_626) dX2_digest0_45 ?_
  refine m_st (X := wMx om am cZ th tp lv dy pv pm (nI n) pt wy gone oR) hx hb hK hP hD hS 0 5 5 rfl (by decide) (show 5 < 8 by omega) (by decide) dX2_digest0_47 (fun H locs hP hD hS => ?_)
  have hP : va_P D vwCl (wM om am cI cZ th tp lv dy pv pm (nI n) pt wy gone oR (st5 5 (-1694144372) (st5 4 1359893119 (st5 3 (-1521486534) (st5 2 1013904242 (st5 1 (-1150833019) (st5 0 1779033703 mem))))))) H := hP
  have hD : va_D A (wM om am cI cZ th tp lv dy pv pm (nI n) pt wy gone oR (st5 5 (-1694144372) (st5 4 1359893119 (st5 3 (-1521486534) (st5 2 1013904242 (st5 1 (-1150833019) (st5 0 1779033703 mem))))))) := hD
  refine lv_aload_n hx hb dX2_digest0_48 rfl (lv_at hl 0 rfl) ?_
  refine va_get (D := D) (ci := 2) (v := .ref (am 5)) (C := RX2) (T := TX2) (N := 25) hx hb hW iMD hown hK hP 0 rfl rfl 16 (by decide) (hW _ tw_530) (fun _ h9 => h9) rfl dX2_digest0_49 ?_
  refine lv_bipush (v := nI 6) hx hb dX2_digest0_52 (by decide) ?_
  refine lv_ldc (v := 528734635) hx hb hown (hW _ tw_627) dX2_digest0_54 ?_
  refine m_st (X := wMx om am cZ th tp lv dy pv pm (nI n) pt wy gone oR) hx hb hK hP hD hS 0 5 6 rfl (by decide) (show 6 < 8 by omega) (by decide) dX2_digest0_56 (fun H locs hP hD hS => ?_)
  have hP : va_P D vwCl (wM om am cI cZ th tp lv dy pv pm (nI n) pt wy gone oR (st5 6 528734635 (st5 5 (-1694144372) (st5 4 1359893119 (st5 3 (-1521486534) (st5 2 1013904242 (st5 1 (-1150833019) (st5 0 1779033703 mem)))))))) H := hP
  have hD : va_D A (wM om am cI cZ th tp lv dy pv pm (nI n) pt wy gone oR (st5 6 528734635 (st5 5 (-1694144372) (st5 4 1359893119 (st5 3 (-1521486534) (st5 2 1013904242 (st5 1 (-1150833019) (st5 0 1779033703 mem)))))))) := hD
  refine lv_aload_n hx hb dX2_digest0_57 rfl (lv_at hl 0 rfl) ?_
  refine va_get (D := D) (ci := 2) (v := .ref (am 5)) (C := RX2) (T := TX2) (N := 25) hx hb hW iMD hown hK hP 0 rfl rfl 16 (by decide) (hW _ tw_530) (fun _ h9 => h9) rfl dX2_digest0_58 ?_
  refine lv_bipush (v := nI 7) hx hb dX2_digest0_61 (by decide) ?_
  refine lv_ldc (v := 1541459225) hx hb hown (hW _ tw_628) dX2_digest0_63 ?_
  refine m_st (X := wMx om am cZ th tp lv dy pv pm (nI n) pt wy gone oR) hx hb hK hP hD hS 0 5 7 rfl (by decide) (show 7 < 8 by omega) (by decide) dX2_digest0_65 (fun H locs hP hD hS => ?_)
  have hP : va_P D vwCl (wM om am cI cZ th tp lv dy pv pm (nI n) pt wy gone oR (st5 7 1541459225 (st5 6 528734635 (st5 5 (-1694144372) (st5 4 1359893119 (st5 3 (-1521486534) (st5 2 1013904242 (st5 1 (-1150833019) (st5 0 1779033703 mem))))))))) H := hP
  have hD : va_D A (wM om am cI cZ th tp lv dy pv pm (nI n) pt wy gone oR (st5 7 1541459225 (st5 6 528734635 (st5 5 (-1694144372) (st5 4 1359893119 (st5 3 (-1521486534) (st5 2 1013904242 (st5 1 (-1150833019) (st5 0 1779033703 mem))))))))) := hD
  have hP : va_P D vwCl (wM om am cI cZ th tp lv dy pv pm (nI n) pt wy gone oR (hS5 mem)) H := by rw [← st8]; exact hP
  have hD : va_D A (wM om am cI cZ th tp lv dy pv pm (nI n) pt wy gone oR (hS5 mem)) := by rw [← st8]; exact hD
  refine lv_aload_n hx hb dX2_digest0_66 rfl (lv_at hl 0 rfl) ?_
  refine va_get (D := D) (ci := 2) (v := .int (nI n)) (C := RX2) (T := TX2) (N := 25) hx hb hW iMD hown hK hP 0 rfl rfl 12 (by decide) (hW _ tw_526) (fun _ h9 => h9) rfl dX2_digest0_67 ?_
  refine lv_istore_n (lv' := [(1, .int (nI n)), (0, .ref (om 0))]) hx hb dX2_digest0_70 rfl hl (by decide) rfl (fun ls hl => ?_)
  refine lv_aload_n hx hb dX2_digest0_71 rfl (lv_at hl 1 rfl) ?_
  refine lv_sipush (v := nI 128) hx hb dX2_digest0_72 (by decide) ?_
  refine mv_callV (C := RX2) (As := [.int (nI 128)]) (rest := []) ⟨hx, hb, hml, hown, hW⟩ (n_add n (show n < 256 by omega) (hS5 mem) (nI 128)) nE_ok (cwV 1 hW (gV tw_613 tw_615 tv_X2_add tw_3 tw_616) rfl rfl rfl (by decide +kernel) ⟨Nat.le_of_ble_eq_true rfl, Nat.le_of_ble_eq_true rfl⟩) (va_recv hK hP (ci := 2) (q0 := 0) rfl rfl) hP hD hK hS hA hT rfl hl.1 rfl (Nat.le_of_ble_eq_true rfl) dX2_digest0_75 ⟨Nat.zero_le _, Nat.zero_le _⟩ (fun H locs hP hD hS => ?_)
  have hP : va_P D vwCl (wM om am cI cZ th tp lv dy pv pm (nI (P_take (nI 128) (n, hS5 mem)).1) pt wy gone oR ((P_take (nI 128) (n, hS5 mem)).2)) H := hP
  have hD : va_D A (wM om am cI cZ th tp lv dy pv pm (nI (P_take (nI 128) (n, hS5 mem)).1) pt wy gone oR ((P_take (nI 128) (n, hS5 mem)).2)) := hD
  have hP : va_P D vwCl (wM om am cI cZ th tp lv dy pv pm (nI (itr (fun _ => p_take (nI 0)) 0 (pfA (n, hS5 mem))).1) pt wy gone oR ((itr (fun _ => p_take (nI 0)) 0 (pfA (n, hS5 mem))).2)) H := by rw [itr_0, pfA_e, ← P_take_e]; exact hP
  have hD : va_D A (wM om am cI cZ th tp lv dy pv pm (nI (itr (fun _ => p_take (nI 0)) 0 (pfA (n, hS5 mem))).1) pt wy gone oR ((itr (fun _ => p_take (nI 0)) 0 (pfA (n, hS5 mem))).2)) := by rw [itr_0, pfA_e, ← P_take_e]; exact hD
  exact loop1 zn 0 H locs ls (by omega) hP hD hS (lv_sub hl [1, 0] rfl)
set_option maxHeartbeats 4000000 in
set_option maxRecDepth 100000 in
theorem n_node {l : Launch} {D : va_G} {om am : Nat → Nat} {cI cZ cG : ClassId} {th tp lv dy pv pm by_ pt wy : Int32} {gone oR : Nat → Int32} (a x b y : Nat) (h : (a < 14 ∧ x + 32 ≤ lenM a) ∧ b < 14 ∧ y + 32 ≤ lenM b) (mem : xMem) (hkc : ∀ i, i < 64 → mem 13 i = kc i) : MV l nE yX2_node (.code yX2_node cX2_node 5 none :: tW) ({ frames := 3, cells := 0, slots := 0, locals := 88 }) D vwCl (tC cI cZ cG) [.ref (om 0), .ref (am a), .int (nI x), .ref (am b), .int (nI y)] (wM om am cI cZ th tp lv dy pv pm by_ pt wy gone oR mem) (wM om am cI cZ th tp lv dy pv pm (nI (mN a x b y mem).1) pt wy gone oR ((mN a x b y mem).2)) := by
  refine MV.ofW (by decide +kernel) rfl (Nat.le_of_ble_eq_true rfl) ?_
  intro p e s m below meth c A ls hx hb hr hts hown hlk hml hA hP hK hD hT hl
  have hS : va_S A s.heap s.heap [] := va_S.rf
  have hown : s.vm.findClass RX2 = some m.cls := hown
  have hW : ∀ w ∈ tW, w.before _ s = true := fun w h => hts w (List.mem_cons_of_mem _ h)
  have hl : lv_has ls 5 [(0, .ref (om 0)), (1, .ref (am a)), (2, .int (nI x)), (3, .ref (am b)), (4, .int (nI y))] := hl
  have e1 : (P_take (nI 1) (0, mem)).1 = 1 := P_take_fst _ _ (show 0 < 256 by decide)
  have e2 : (P_row a x 32 (P_take (nI 1) (0, mem))).1 = 33 := by rw [P_row_fst a x 32 _ (by omega), e1]
  have e3 : (P_row b y 32 (P_row a x 32 (P_take (nI 1) (0, mem)))).1 = 65 := by rw [P_row_fst b y 32 _ (by omega), e2]
  refine lv_aload_n hx hb dX2_node_0 rfl (lv_at hl 0 rfl) ?_
  refine mv_callV (C := RX2) (As := []) (rest := []) ⟨hx, hb, hml, hown, hW⟩ (n_begin mem) nE_ok (cwV 0 hW (gV tw_609 tw_611 tv_X2_begin tw_3 tw_612) rfl rfl rfl (by decide +kernel) ⟨Nat.le_of_ble_eq_true rfl, Nat.le_of_ble_eq_true rfl⟩) (va_recv hK hP (ci := 2) (q0 := 0) rfl rfl) hP hD hK hS hA hT rfl hl.1 rfl (Nat.le_of_ble_eq_true rfl) dX2_node_1 ⟨Nat.zero_le _, Nat.zero_le _⟩ (fun H locs hP hD hS => ?_)
  have hP : va_P D vwCl (wM om am cI cZ th tp lv dy pv pm (nI 0) pt wy gone oR mem) H := hP
  have hD : va_D A (wM om am cI cZ th tp lv dy pv pm (nI 0) pt wy gone oR mem) := hD
  refine lv_aload_n hx hb dX2_node_4 rfl (lv_at hl 0 rfl) ?_
  refine lv_iconst (v := nI 1) hx hb dX2_node_5 (by decide) ?_
  refine mv_callV (C := RX2) (As := [.int (nI 1)]) (rest := []) ⟨hx, hb, hml, hown, hW⟩ (n_add 0 (by decide) mem (nI 1)) nE_ok (cwV 1 hW (gV tw_613 tw_615 tv_X2_add tw_3 tw_616) rfl rfl rfl (by decide +kernel) ⟨Nat.le_of_ble_eq_true rfl, Nat.le_of_ble_eq_true rfl⟩) (va_recv hK hP (ci := 2) (q0 := 0) rfl rfl) hP hD hK hS hA hT rfl hl.1 rfl (Nat.le_of_ble_eq_true rfl) dX2_node_6 ⟨Nat.zero_le _, Nat.zero_le _⟩ (fun H locs hP hD hS => ?_)
  have hP : va_P D vwCl (wM om am cI cZ th tp lv dy pv pm (nI (P_take (nI 1) (0, mem)).1) pt wy gone oR ((P_take (nI 1) (0, mem)).2)) H := hP
  have hD : va_D A (wM om am cI cZ th tp lv dy pv pm (nI (P_take (nI 1) (0, mem)).1) pt wy gone oR ((P_take (nI 1) (0, mem)).2)) := hD
  refine lv_aload_n hx hb dX2_node_9 rfl (lv_at hl 0 rfl) ?_
  refine lv_aload_n hx hb dX2_node_10 rfl (lv_at hl 1 rfl) ?_
  refine lv_iload_n hx hb dX2_node_11 rfl (lv_at hl 2 rfl) ?_
  refine mv_callV (C := RX2) (As := [.ref (am a), .int (nI x)]) (rest := []) ⟨hx, hb, hml, hown, hW⟩ (n_addRow ((P_take (nI 1) (0, mem)).1) a x (by rw [e1]; decide) (h.1.1) (h.1.2) ((P_take (nI 1) (0, mem)).2)) nE_ok (cwV 2 hW (gV tw_657 tw_659 tv_X2_addRow tw_3 tw_660) rfl rfl rfl (by decide +kernel) ⟨Nat.le_of_ble_eq_true rfl, Nat.le_of_ble_eq_true rfl⟩) (va_recv hK hP (ci := 2) (q0 := 0) rfl rfl) hP hD hK hS hA hT rfl hl.1 rfl (Nat.le_of_ble_eq_true rfl) dX2_node_12 ⟨Nat.zero_le _, Nat.zero_le _⟩ (fun H locs hP hD hS => ?_)
  have hP : va_P D vwCl (wM om am cI cZ th tp lv dy pv pm (nI (P_row a x 32 (P_take (nI 1) (0, mem))).1) pt wy gone oR ((P_row a x 32 (P_take (nI 1) (0, mem))).2)) H := hP
  have hD : va_D A (wM om am cI cZ th tp lv dy pv pm (nI (P_row a x 32 (P_take (nI 1) (0, mem))).1) pt wy gone oR ((P_row a x 32 (P_take (nI 1) (0, mem))).2)) := hD
  refine lv_aload_n hx hb dX2_node_15 rfl (lv_at hl 0 rfl) ?_
  refine lv_aload_n hx hb dX2_node_16 rfl (lv_at hl 3 rfl) ?_
  refine lv_iload hx hb dX2_node_17 (lv_at hl 4 rfl) ?_
  refine mv_callV (C := RX2) (As := [.ref (am b), .int (nI y)]) (rest := []) ⟨hx, hb, hml, hown, hW⟩ (n_addRow ((P_row a x 32 (P_take (nI 1) (0, mem))).1) b y (by rw [e2]; decide) (h.2.1) (h.2.2) ((P_row a x 32 (P_take (nI 1) (0, mem))).2)) nE_ok (cwV 2 hW (gV tw_657 tw_659 tv_X2_addRow tw_3 tw_660) rfl rfl rfl (by decide +kernel) ⟨Nat.le_of_ble_eq_true rfl, Nat.le_of_ble_eq_true rfl⟩) (va_recv hK hP (ci := 2) (q0 := 0) rfl rfl) hP hD hK hS hA hT rfl hl.1 rfl (Nat.le_of_ble_eq_true rfl) dX2_node_19 ⟨Nat.zero_le _, Nat.zero_le _⟩ (fun H locs hP hD hS => ?_)
  have hP : va_P D vwCl (wM om am cI cZ th tp lv dy pv pm (nI (P_row b y 32 (P_row a x 32 (P_take (nI 1) (0, mem)))).1) pt wy gone oR ((P_row b y 32 (P_row a x 32 (P_take (nI 1) (0, mem)))).2)) H := hP
  have hD : va_D A (wM om am cI cZ th tp lv dy pv pm (nI (P_row b y 32 (P_row a x 32 (P_take (nI 1) (0, mem)))).1) pt wy gone oR ((P_row b y 32 (P_row a x 32 (P_take (nI 1) (0, mem)))).2)) := hD
  refine lv_aload_n hx hb dX2_node_22 rfl (lv_at hl 0 rfl) ?_
  refine mv_callV (C := RX2) (As := []) (rest := []) ⟨hx, hb, hml, hown, hW⟩ (n_digest0 ((P_row b y 32 (P_row a x 32 (P_take (nI 1) (0, mem)))).1) (by rw [e3]; decide) ((P_row b y 32 (P_row a x 32 (P_take (nI 1) (0, mem)))).2) (fun j hj => by rw [P_row_k (by decide), P_row_k (by decide), P_take_k (by decide)]; exact hkc j hj)) nE_ok (cwV 0 hW (gV tw_617 tw_619 tv_X2_digest0 tw_3 tw_620) rfl rfl rfl (by decide +kernel) ⟨Nat.le_of_ble_eq_true rfl, Nat.le_of_ble_eq_true rfl⟩) (va_recv hK hP (ci := 2) (q0 := 0) rfl rfl) hP hD hK hS hA hT rfl hl.1 rfl (Nat.le_of_ble_eq_true rfl) dX2_node_23 ⟨Nat.zero_le _, Nat.zero_le _⟩ (fun H locs hP hD hS => ?_)
  have hP : va_P D vwCl (wM om am cI cZ th tp lv dy pv pm (nI (P_fin 2 (P_row b y 32 (P_row a x 32 (P_take (nI 1) (0, mem))))).1) pt wy gone oR ((P_fin 2 (P_row b y 32 (P_row a x 32 (P_take (nI 1) (0, mem))))).2)) H := hP
  have hD : va_D A (wM om am cI cZ th tp lv dy pv pm (nI (P_fin 2 (P_row b y 32 (P_row a x 32 (P_take (nI 1) (0, mem))))).1) pt wy gone oR ((P_fin 2 (P_row b y 32 (P_row a x 32 (P_take (nI 1) (0, mem))))).2)) := hD
  have hP : va_P D vwCl (wM om am cI cZ th tp lv dy pv pm (nI (mN a x b y mem).1) pt wy gone oR ((mN a x b y mem).2)) H := by rw [mN_e]; exact hP
  have hD : va_D A (wM om am cI cZ th tp lv dy pv pm (nI (mN a x b y mem).1) pt wy gone oR ((mN a x b y mem).2)) := by rw [mN_e]; exact hD
  exact mv_ret hx hb hr hlk hS hP hD dX2_node_26
