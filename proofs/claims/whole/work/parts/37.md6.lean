set_option maxHeartbeats 800000 in
set_option maxRecDepth 100000 in
theorem n_goTo {l : Launch} {D : va_G} {om am : Nat → Nat} {cI cZ cG : ClassId} {th tp lv dy pv pm by_ pt wy : Int32} {gone oR : Nat → Int32} (l0 n : Nat) (hl0 : l0 < n) (hn : n ≤ 24) (mem : xMem) : MV l nE yX2_goTo (.code yX2_goTo cX2_goTo 7 none :: tW) ({ frames := 0, cells := 0, slots := 0, locals := 0 }) D vwCl (tC cI cZ cG) [.ref (om 0), .int (nI l0), .int (nI n)] (wM om am cI cZ th tp lv dy pv pm by_ pt wy gone oR mem) (wM om am cI cZ th tp lv dy pv pm by_ pt (nI (glist l0 n).length) gone ((gW (glist l0 n) 0 (oR, mem)).1) ((gW (glist l0 n) 0 (oR, mem)).2)) := by
  refine MV.ofW (by decide +kernel) rfl (Nat.le_of_ble_eq_true rfl) ?_
  intro p e s m below meth c A ls hx hb hr hts hown hlk hml hA hP hK hD hT hl
  have hS : va_S A s.heap s.heap [] := va_S.rf
  have hown : s.vm.findClass RX2 = some m.cls := hown
  have hW : ∀ w ∈ tW, w.before _ s = true := fun w h => hts w (List.mem_cons_of_mem _ h)
  have hl : lv_has ls 7 [(0, .ref (om 0)), (1, .int (nI l0)), (2, .int (nI n))] := hl
  have hlen := glist_len n (by omega) l0 hl0
  have lo : ∀ (k c1 : Nat) (H : Heap) (locs : List Loc) (ls : Array Slot) (fr m1 : Nat) (r0 : Nat → Int32) (m2 : xMem), 1 ≤ m1 ∧ m1 ≤ k ∧ fr + m1 ≤ 24 ∧ (fr ≤ l0 ∧ l0 < fr + m1) ∧ c1 + (gl k l0 fr m1).length = (glist l0 n).length ∧ gW (gl k l0 fr m1) c1 (r0, m2) = gW (glist l0 n) 0 (oR, mem) → va_P D vwCl (wM om am cI cZ th tp lv dy pv pm by_ pt (nI c1) gone r0 m2) H → va_D A (wM om am cI cZ th tp lv dy pv pm by_ pt (nI c1) gone r0 m2) → va_S A s.heap H locs → lv_has ls 7 [(0, .ref (om 0)), (1, .int (nI l0)), (3, .int (nI fr)), (4, .int (nI m1))] → W p l e ({ frames := 0, cells := 0, slots := 0, locals := 0 }) s m ([.ref (om 0), .int (nI l0), .int (nI n)] : List Value).toArray below meth c H locs 0 0 (MQ below (xQv D vwCl (wM om am cI cZ th tp lv dy pv pm by_ pt (nI (glist l0 n).length) gone ((gW (glist l0 n) 0 (oR, mem)).1) ((gW (glist l0 n) 0 (oR, mem)).2)) A) ([.ref (om 0), .int (nI l0), .int (nI n)] : List Value).toArray s 0 0 A) (F0 m 10 ls []) := by
    intro k
    induction k with
    | zero =>
      intro c1 H locs ls fr m1 r0 m2 hk hP hD hS hl
      exact absurd hk.1 (by omega)
    | succ k ih =>
      intro c1 H locs ls fr m1 r0 m2 hk hP hD hS hl
      obtain ⟨g1, g2, g3, g4, g5, g6⟩ := hk
      refine lv_iload hx hb dX2_goTo_10 (lv_at hl 3 rfl) ?_
      refine lv_iconst (v := nI 1) hx hb dX2_goTo_12 (by decide) ?_
      refine lv_icmp_le (tgt := 153) hx hb dX2_goTo_13 (by decide) (fun hd => ?_) (fun hd => ?_)
      · have g7 : m1 ≤ 1 := (nI_leI (by omega) (by decide)).mp hd
        have g8 : gl (k + 1) l0 fr m1 = [] := if_pos g7
        rw [g8] at g5 g6
        have g9 : c1 = (glist l0 n).length := g5
        have gA : (r0, m2) = gW (glist l0 n) 0 (oR, mem) := g6
        have hP : va_P D vwCl (wM om am cI cZ th tp lv dy pv pm by_ pt (nI (glist l0 n).length) gone ((gW (glist l0 n) 0 (oR, mem)).1) ((gW (glist l0 n) 0 (oR, mem)).2)) H := by rw [← g9, ← gA]; exact hP
        have hD : va_D A (wM om am cI cZ th tp lv dy pv pm by_ pt (nI (glist l0 n).length) gone ((gW (glist l0 n) 0 (oR, mem)).1) ((gW (glist l0 n) 0 (oR, mem)).2)) := by rw [← g9, ← gA]; exact hD
        exact mv_ret hx hb hr hlk hS hP hD dX2_goTo_153
      · have g7 : 2 ≤ m1 := by
          rcases Nat.lt_or_ge m1 2 with h | h
          · exact absurd (nI_le (by omega) (by decide)) hd
          · exact h
        have gl1 := lft_ok m1 (by omega) g7
        have ld : ∀ (kd lf : Nat) (H : Heap) (locs : List Loc) (ls : Array Slot), (1 ≤ lf ∧ lf < m1) ∧ 24 ≤ lf * 2 ^ (kd + 1) ∧ dbl kd lf m1 = lft m1 → va_P D vwCl (wM om am cI cZ th tp lv dy pv pm by_ pt (nI c1) gone r0 m2) H → va_D A (wM om am cI cZ th tp lv dy pv pm by_ pt (nI c1) gone r0 m2) → va_S A s.heap H locs → lv_has ls 7 [(0, .ref (om 0)), (1, .int (nI l0)), (3, .int (nI fr)), (4, .int (nI m1)), (5, .int (nI lf))] → W p l e ({ frames := 0, cells := 0, slots := 0, locals := 0 }) s m ([.ref (om 0), .int (nI l0), .int (nI n)] : List Value).toArray below meth c H locs 0 0 (MQ below (xQv D vwCl (wM om am cI cZ th tp lv dy pv pm by_ pt (nI (glist l0 n).length) gone ((gW (glist l0 n) 0 (oR, mem)).1) ((gW (glist l0 n) 0 (oR, mem)).2)) A) ([.ref (om 0), .int (nI l0), .int (nI n)] : List Value).toArray s 0 0 A) (F0 m 19 ls []) := by
          intro kd
          induction kd with
          | zero =>
            intro lf H locs ls hk hP hD hS hl
            obtain ⟨e1, e2, e3⟩ := hk
            refine lv_iconst (v := nI 2) hx hb dX2_goTo_19 (by decide) ?_
            refine lv_iload hx hb dX2_goTo_20 (lv_at hl 4 rfl) ?_
            refine lv_imul hx hb dX2_goTo_22 ?_
            refine lv_eqi (v := nI (2 * lf)) (pk_mul _ _) ?_
            refine lv_iload hx hb dX2_goTo_23 (lv_at hl 3 rfl) ?_
            refine lv_icmp_ge (tgt := 37) hx hb dX2_goTo_25 (by decide) (fun _ => ?_) (fun hq9 => absurd (nI_le (by omega) (by omega)) hq9)
            have gf : lf = lft m1 := e3
            subst gf
            refine lv_iload_n hx hb dX2_goTo_37 rfl (lv_at hl 1 rfl) ?_
            refine lv_iload_n hx hb dX2_goTo_38 rfl (lv_at hl 2 rfl) ?_
            refine lv_iload hx hb dX2_goTo_39 (lv_at hl 4 rfl) ?_
            refine lv_iadd hx hb dX2_goTo_41 ?_
            refine lv_eqi (v := nI (fr + lft m1)) (nI_add _ _) ?_
            refine lv_icmp_ge (tgt := 49) hx hb dX2_goTo_42 (by decide) (fun hf => ?_) (fun hf => ?_)
            · have gc : ¬ l0 < fr + lft m1 := fun h => nI_ge h (by omega) hf
              have g8 : gl (k + 1) l0 fr m1 = (false, fr, lft m1) :: gl k l0 (fr + lft m1) (m1 - lft m1) := (if_neg (by omega)).trans (if_neg gc)
              rw [g8] at g5 g6
              have g5 : c1 + 1 + (gl k l0 (fr + lft m1) (m1 - lft m1)).length = (glist l0 n).length := by rw [← g5]; simp only [List.length_cons]; omega
              refine lv_iconst (v := nI 0) hx hb dX2_goTo_49 (by decide) ?_
              refine lv_istore (lv' := [(6, .int (nI 0)), (0, .ref (om 0)), (1, .int (nI l0)), (3, .int (nI fr)), (4, .int (nI m1)), (5, .int (nI (lft m1)))]) hx hb dX2_goTo_50 hl (by decide) rfl (fun ls hl => ?_)
              refine lv_aload_n hx hb dX2_goTo_52 rfl (lv_at hl 1 rfl) ?_
              refine va_get (D := D) (ci := 2) (v := .ref (om 2)) (C := RX2) (T := TX2) (N := 25) hx hb hW iMD hown hK hP 0 rfl rfl 23 (by decide) (hW _ tw_537) (fun _ h9 => h9) rfl dX2_goTo_53 ?_
              refine lv_aload_n hx hb dX2_goTo_56 rfl (lv_at hl 1 rfl) ?_
              refine va_get (D := D) (ci := 2) (v := .int (nI c1)) (C := RX2) (T := TX2) (N := 25) hx hb hW iMD hown hK hP 0 rfl rfl 20 (by decide) (hW _ tw_534) (fun _ h9 => h9) rfl dX2_goTo_57 ?_
              refine lv_iload hx hb dX2_goTo_60 (lv_at hl 0 rfl) ?_
              refine m_zst (x := nI 0) (v := nI 0) hx hb hK hP hD hS 2 1 c1 rfl rfl (by omega) (by decide) (rfl) dX2_goTo_62 (fun H locs hP hD hS => ?_)
              have hP : va_P D vwCl (wM om am cI cZ th tp lv dy pv pm by_ pt (nI c1) gone (upd r0 c1 (nI 0)) m2) H := hP
              have hD : va_D A (wM om am cI cZ th tp lv dy pv pm by_ pt (nI c1) gone (upd r0 c1 (nI 0)) m2) := hD
              refine lv_aload_n hx hb dX2_goTo_63 rfl (lv_at hl 1 rfl) ?_
              refine va_get (D := D) (ci := 2) (v := .ref (am 11)) (C := RX2) (T := TX2) (N := 25) hx hb hW iMD hown hK hP 0 rfl rfl 21 (by decide) (hW _ tw_535) (fun _ h9 => h9) rfl dX2_goTo_64 ?_
              refine lv_aload_n hx hb dX2_goTo_67 rfl (lv_at hl 1 rfl) ?_
              refine va_get (D := D) (ci := 2) (v := .int (nI c1)) (C := RX2) (T := TX2) (N := 25) hx hb hW iMD hown hK hP 0 rfl rfl 20 (by decide) (hW _ tw_534) (fun _ h9 => h9) rfl dX2_goTo_68 ?_
              refine lv_iload hx hb dX2_goTo_71 (lv_at hl 0 rfl) ?_
              refine lv_if_eq (tgt := 83) hx hb dX2_goTo_73 (by decide) (fun _ => ?_) (fun hq9 => absurd (by decide) hq9)
              refine lv_iload_n hx hb dX2_goTo_83 rfl (lv_at hl 3 rfl) ?_
              refine m_st (X := wMx om am cZ th tp lv dy pv pm by_ pt (nI c1) gone (upd r0 c1 (nI 0))) hx hb hK hP hD hS 0 11 c1 rfl (by decide) (show c1 < 8 by omega) (by decide) dX2_goTo_84 (fun H locs hP hD hS => ?_)
              have hP : va_P D vwCl (wM om am cI cZ th tp lv dy pv pm by_ pt (nI c1) gone (upd r0 c1 (nI 0)) (va_up m2 11 (upd (m2 11) c1 (nI fr)))) H := hP
              have hD : va_D A (wM om am cI cZ th tp lv dy pv pm by_ pt (nI c1) gone (upd r0 c1 (nI 0)) (va_up m2 11 (upd (m2 11) c1 (nI fr)))) := hD
              refine lv_aload_n hx hb dX2_goTo_85 rfl (lv_at hl 1 rfl) ?_
              refine va_get (D := D) (ci := 2) (v := .ref (am 12)) (C := RX2) (T := TX2) (N := 25) hx hb hW iMD hown hK hP 0 rfl rfl 22 (by decide) (hW _ tw_536) (fun _ h9 => h9) rfl dX2_goTo_86 ?_
              refine lv_aload_n hx hb dX2_goTo_89 rfl (lv_at hl 1 rfl) ?_
              refine va_get (D := D) (ci := 2) (v := .int (nI c1)) (C := RX2) (T := TX2) (N := 25) hx hb hW iMD hown hK hP 0 rfl rfl 20 (by decide) (hW _ tw_534) (fun _ h9 => h9) rfl dX2_goTo_90 ?_
              refine lv_iload hx hb dX2_goTo_93 (lv_at hl 0 rfl) ?_
              refine lv_if_eq (tgt := 106) hx hb dX2_goTo_95 (by decide) (fun _ => ?_) (fun hq9 => absurd (by decide) hq9)
              refine lv_iload hx hb dX2_goTo_106 (lv_at hl 5 rfl) ?_
              refine m_st (X := wMx om am cZ th tp lv dy pv pm by_ pt (nI c1) gone (upd r0 c1 (nI 0))) hx hb hK hP hD hS 0 12 c1 rfl (by decide) (show c1 < 8 by omega) (by decide) dX2_goTo_108 (fun H locs hP hD hS => ?_)
              have hP : va_P D vwCl (wM om am cI cZ th tp lv dy pv pm by_ pt (nI c1) gone (upd r0 c1 (nI 0)) (va_up (va_up m2 11 (upd (m2 11) c1 (nI fr))) 12 (upd ((va_up m2 11 (upd (m2 11) c1 (nI fr))) 12) c1 (nI (lft m1))))) H := hP
              have hD : va_D A (wM om am cI cZ th tp lv dy pv pm by_ pt (nI c1) gone (upd r0 c1 (nI 0)) (va_up (va_up m2 11 (upd (m2 11) c1 (nI fr))) 12 (upd ((va_up m2 11 (upd (m2 11) c1 (nI fr))) 12) c1 (nI (lft m1))))) := hD
              have hP : va_P D vwCl (wM om am cI cZ th tp lv dy pv pm by_ pt (nI c1) gone ((gtS (false, fr, lft m1) c1 (r0, m2)).1) ((gtS (false, fr, lft m1) c1 (r0, m2)).2)) H := hP
              have hD : va_D A (wM om am cI cZ th tp lv dy pv pm by_ pt (nI c1) gone ((gtS (false, fr, lft m1) c1 (r0, m2)).1) ((gtS (false, fr, lft m1) c1 (r0, m2)).2)) := hD
              refine lv_aload_n hx hb dX2_goTo_109 rfl (lv_at hl 1 rfl) ?_
              refine lv_dup hx hb dX2_goTo_110 rfl ?_
              refine va_get (D := D) (ci := 2) (v := .int (nI c1)) (C := RX2) (T := TX2) (N := 25) hx hb hW iMD hown hK hP 0 rfl rfl 20 (by decide) (hW _ tw_534) (fun _ h9 => h9) rfl dX2_goTo_111 ?_
              refine lv_iconst (v := nI 1) hx hb dX2_goTo_114 (by decide) ?_
              refine lv_iadd hx hb dX2_goTo_115 ?_
              refine lv_eqi (v := nI (c1 + 1)) (nI_add _ _) ?_
              refine va_put (D := D) (ci := 2) (v := .int (nI (c1 + 1))) (ty := .int) (C := RX2) (T := TX2) (N := 25) hx hb hW iMD tyX2 tyX2_ok nmX2 hown hK hP hD hS 0 rfl rfl 20 (by decide) (hW _ tw_534) (fun _ h9 => h9) rfl (by decide +kernel) rfl rfl (Nat.le_of_ble_eq_true rfl) dX2_goTo_116 (fun H locs hP hD hS => ?_)
              have hP : va_P D vwCl (wM om am cI cZ th tp lv dy pv pm by_ pt (nI (c1 + 1)) gone ((gtS (false, fr, lft m1) c1 (r0, m2)).1) ((gtS (false, fr, lft m1) c1 (r0, m2)).2)) H := hP
              have hD : va_D A (wM om am cI cZ th tp lv dy pv pm by_ pt (nI (c1 + 1)) gone ((gtS (false, fr, lft m1) c1 (r0, m2)).1) ((gtS (false, fr, lft m1) c1 (r0, m2)).2)) := hD
              refine lv_iload hx hb dX2_goTo_119 (lv_at hl 0 rfl) ?_
              refine lv_if_eq (tgt := 128) hx hb dX2_goTo_121 (by decide) (fun _ => ?_) (fun hq9 => absurd (by decide) hq9)
              refine lv_iload_n hx hb dX2_goTo_128 rfl (lv_at hl 3 rfl) ?_
              refine lv_iload hx hb dX2_goTo_129 (lv_at hl 5 rfl) ?_
              refine lv_iadd hx hb dX2_goTo_131 ?_
              refine lv_eqi (v := nI (fr + lft m1)) (nI_add _ _) ?_
              refine lv_istore_n (lv' := [(3, .int (nI (fr + lft m1))), (6, .int (nI 0)), (0, .ref (om 0)), (1, .int (nI l0)), (4, .int (nI m1)), (5, .int (nI (lft m1)))]) hx hb dX2_goTo_132 rfl hl (by decide) rfl (fun ls hl => ?_)
              refine lv_iload hx hb dX2_goTo_133 (lv_at hl 1 rfl) ?_
              refine lv_if_eq (tgt := 143) hx hb dX2_goTo_135 (by decide) (fun _ => ?_) (fun hq9 => absurd (by decide) hq9)
              refine lv_iload hx hb dX2_goTo_143 (lv_at hl 4 rfl) ?_
              refine lv_iload hx hb dX2_goTo_145 (lv_at hl 5 rfl) ?_
              refine lv_isub hx hb dX2_goTo_147 ?_
              refine lv_eqi (v := nI (m1 - (lft m1))) (pk_sub (by omega)) ?_
              refine lv_istore (lv' := [(4, .int (nI (m1 - (lft m1)))), (3, .int (nI (fr + lft m1))), (6, .int (nI 0)), (0, .ref (om 0)), (1, .int (nI l0)), (5, .int (nI (lft m1)))]) hx hb dX2_goTo_148 hl (by decide) rfl (fun ls hl => ?_)
              refine lv_goto (tgt := 10) hx hb dX2_goTo_150 (by decide) ?_
              exact ih (c1 + 1) H locs ls (fr + lft m1) (m1 - lft m1) _ _ ⟨by omega, by omega, by omega, by omega, g5, g6⟩ hP hD hS (lv_sub hl [3, 4, 1, 0] rfl)
            · have gc : l0 < fr + lft m1 := by
                rcases Nat.lt_or_ge l0 (fr + lft m1) with h | h
                · exact h
                · exact absurd (nI_le h (by omega)) hf
              have g8 : gl (k + 1) l0 fr m1 = (true, fr + lft m1, m1 - lft m1) :: gl k l0 fr (lft m1) := (if_neg (by omega)).trans (if_pos gc)
              rw [g8] at g5 g6
              have g5 : c1 + 1 + (gl k l0 (fr) (lft m1)).length = (glist l0 n).length := by rw [← g5]; simp only [List.length_cons]; omega
              refine lv_iconst (v := nI 1) hx hb dX2_goTo_45 (by decide) ?_
              refine lv_goto (tgt := 50) hx hb dX2_goTo_46 (by decide) ?_
              refine lv_istore (lv' := [(6, .int (nI 1)), (0, .ref (om 0)), (1, .int (nI l0)), (3, .int (nI fr)), (4, .int (nI m1)), (5, .int (nI (lft m1)))]) hx hb dX2_goTo_50 hl (by decide) rfl (fun ls hl => ?_)
              refine lv_aload_n hx hb dX2_goTo_52 rfl (lv_at hl 1 rfl) ?_
              refine va_get (D := D) (ci := 2) (v := .ref (om 2)) (C := RX2) (T := TX2) (N := 25) hx hb hW iMD hown hK hP 0 rfl rfl 23 (by decide) (hW _ tw_537) (fun _ h9 => h9) rfl dX2_goTo_53 ?_
              refine lv_aload_n hx hb dX2_goTo_56 rfl (lv_at hl 1 rfl) ?_
              refine va_get (D := D) (ci := 2) (v := .int (nI c1)) (C := RX2) (T := TX2) (N := 25) hx hb hW iMD hown hK hP 0 rfl rfl 20 (by decide) (hW _ tw_534) (fun _ h9 => h9) rfl dX2_goTo_57 ?_
              refine lv_iload hx hb dX2_goTo_60 (lv_at hl 0 rfl) ?_
              refine m_zst (x := nI 1) (v := nI 1) hx hb hK hP hD hS 2 1 c1 rfl rfl (by omega) (by decide) (rfl) dX2_goTo_62 (fun H locs hP hD hS => ?_)
              have hP : va_P D vwCl (wM om am cI cZ th tp lv dy pv pm by_ pt (nI c1) gone (upd r0 c1 (nI 1)) m2) H := hP
              have hD : va_D A (wM om am cI cZ th tp lv dy pv pm by_ pt (nI c1) gone (upd r0 c1 (nI 1)) m2) := hD
              refine lv_aload_n hx hb dX2_goTo_63 rfl (lv_at hl 1 rfl) ?_
              refine va_get (D := D) (ci := 2) (v := .ref (am 11)) (C := RX2) (T := TX2) (N := 25) hx hb hW iMD hown hK hP 0 rfl rfl 21 (by decide) (hW _ tw_535) (fun _ h9 => h9) rfl dX2_goTo_64 ?_
              refine lv_aload_n hx hb dX2_goTo_67 rfl (lv_at hl 1 rfl) ?_
              refine va_get (D := D) (ci := 2) (v := .int (nI c1)) (C := RX2) (T := TX2) (N := 25) hx hb hW iMD hown hK hP 0 rfl rfl 20 (by decide) (hW _ tw_534) (fun _ h9 => h9) rfl dX2_goTo_68 ?_
              refine lv_iload hx hb dX2_goTo_71 (lv_at hl 0 rfl) ?_
              refine lv_if_eq (tgt := 83) hx hb dX2_goTo_73 (by decide) (fun hq9 => absurd hq9 (by decide)) (fun _ => ?_)
              refine lv_iload_n hx hb dX2_goTo_76 rfl (lv_at hl 3 rfl) ?_
              refine lv_iload hx hb dX2_goTo_77 (lv_at hl 5 rfl) ?_
              refine lv_iadd hx hb dX2_goTo_79 ?_
              refine lv_eqi (v := nI (fr + lft m1)) (nI_add _ _) ?_
              refine lv_goto (tgt := 84) hx hb dX2_goTo_80 (by decide) ?_
              refine m_st (X := wMx om am cZ th tp lv dy pv pm by_ pt (nI c1) gone (upd r0 c1 (nI 1))) hx hb hK hP hD hS 0 11 c1 rfl (by decide) (show c1 < 8 by omega) (by decide) dX2_goTo_84 (fun H locs hP hD hS => ?_)
              have hP : va_P D vwCl (wM om am cI cZ th tp lv dy pv pm by_ pt (nI c1) gone (upd r0 c1 (nI 1)) (va_up m2 11 (upd (m2 11) c1 (nI (fr + lft m1))))) H := hP
              have hD : va_D A (wM om am cI cZ th tp lv dy pv pm by_ pt (nI c1) gone (upd r0 c1 (nI 1)) (va_up m2 11 (upd (m2 11) c1 (nI (fr + lft m1))))) := hD
              refine lv_aload_n hx hb dX2_goTo_85 rfl (lv_at hl 1 rfl) ?_
              refine va_get (D := D) (ci := 2) (v := .ref (am 12)) (C := RX2) (T := TX2) (N := 25) hx hb hW iMD hown hK hP 0 rfl rfl 22 (by decide) (hW _ tw_536) (fun _ h9 => h9) rfl dX2_goTo_86 ?_
              refine lv_aload_n hx hb dX2_goTo_89 rfl (lv_at hl 1 rfl) ?_
              refine va_get (D := D) (ci := 2) (v := .int (nI c1)) (C := RX2) (T := TX2) (N := 25) hx hb hW iMD hown hK hP 0 rfl rfl 20 (by decide) (hW _ tw_534) (fun _ h9 => h9) rfl dX2_goTo_90 ?_
              refine lv_iload hx hb dX2_goTo_93 (lv_at hl 0 rfl) ?_
              refine lv_if_eq (tgt := 106) hx hb dX2_goTo_95 (by decide) (fun hq9 => absurd hq9 (by decide)) (fun _ => ?_)
              refine lv_iload hx hb dX2_goTo_98 (lv_at hl 4 rfl) ?_
              refine lv_iload hx hb dX2_goTo_100 (lv_at hl 5 rfl) ?_
              refine lv_isub hx hb dX2_goTo_102 ?_
              refine lv_eqi (v := nI (m1 - (lft m1))) (pk_sub (by omega)) ?_
              refine lv_goto (tgt := 108) hx hb dX2_goTo_103 (by decide) ?_
              refine m_st (X := wMx om am cZ th tp lv dy pv pm by_ pt (nI c1) gone (upd r0 c1 (nI 1))) hx hb hK hP hD hS 0 12 c1 rfl (by decide) (show c1 < 8 by omega) (by decide) dX2_goTo_108 (fun H locs hP hD hS => ?_)
              have hP : va_P D vwCl (wM om am cI cZ th tp lv dy pv pm by_ pt (nI c1) gone (upd r0 c1 (nI 1)) (va_up (va_up m2 11 (upd (m2 11) c1 (nI (fr + lft m1)))) 12 (upd ((va_up m2 11 (upd (m2 11) c1 (nI (fr + lft m1)))) 12) c1 (nI (m1 - (lft m1)))))) H := hP
              have hD : va_D A (wM om am cI cZ th tp lv dy pv pm by_ pt (nI c1) gone (upd r0 c1 (nI 1)) (va_up (va_up m2 11 (upd (m2 11) c1 (nI (fr + lft m1)))) 12 (upd ((va_up m2 11 (upd (m2 11) c1 (nI (fr + lft m1)))) 12) c1 (nI (m1 - (lft m1)))))) := hD
              have hP : va_P D vwCl (wM om am cI cZ th tp lv dy pv pm by_ pt (nI c1) gone ((gtS (true, fr + lft m1, m1 - lft m1) c1 (r0, m2)).1) ((gtS (true, fr + lft m1, m1 - lft m1) c1 (r0, m2)).2)) H := hP
              have hD : va_D A (wM om am cI cZ th tp lv dy pv pm by_ pt (nI c1) gone ((gtS (true, fr + lft m1, m1 - lft m1) c1 (r0, m2)).1) ((gtS (true, fr + lft m1, m1 - lft m1) c1 (r0, m2)).2)) := hD
              refine lv_aload_n hx hb dX2_goTo_109 rfl (lv_at hl 1 rfl) ?_
              refine lv_dup hx hb dX2_goTo_110 rfl ?_
              refine va_get (D := D) (ci := 2) (v := .int (nI c1)) (C := RX2) (T := TX2) (N := 25) hx hb hW iMD hown hK hP 0 rfl rfl 20 (by decide) (hW _ tw_534) (fun _ h9 => h9) rfl dX2_goTo_111 ?_
              refine lv_iconst (v := nI 1) hx hb dX2_goTo_114 (by decide) ?_
              refine lv_iadd hx hb dX2_goTo_115 ?_
              refine lv_eqi (v := nI (c1 + 1)) (nI_add _ _) ?_
              refine va_put (D := D) (ci := 2) (v := .int (nI (c1 + 1))) (ty := .int) (C := RX2) (T := TX2) (N := 25) hx hb hW iMD tyX2 tyX2_ok nmX2 hown hK hP hD hS 0 rfl rfl 20 (by decide) (hW _ tw_534) (fun _ h9 => h9) rfl (by decide +kernel) rfl rfl (Nat.le_of_ble_eq_true rfl) dX2_goTo_116 (fun H locs hP hD hS => ?_)
              have hP : va_P D vwCl (wM om am cI cZ th tp lv dy pv pm by_ pt (nI (c1 + 1)) gone ((gtS (true, fr + lft m1, m1 - lft m1) c1 (r0, m2)).1) ((gtS (true, fr + lft m1, m1 - lft m1) c1 (r0, m2)).2)) H := hP
              have hD : va_D A (wM om am cI cZ th tp lv dy pv pm by_ pt (nI (c1 + 1)) gone ((gtS (true, fr + lft m1, m1 - lft m1) c1 (r0, m2)).1) ((gtS (true, fr + lft m1, m1 - lft m1) c1 (r0, m2)).2)) := hD
              refine lv_iload hx hb dX2_goTo_119 (lv_at hl 0 rfl) ?_
              refine lv_if_eq (tgt := 128) hx hb dX2_goTo_121 (by decide) (fun hq9 => absurd hq9 (by decide)) (fun _ => ?_)
              refine lv_iload_n hx hb dX2_goTo_124 rfl (lv_at hl 3 rfl) ?_
              refine lv_goto (tgt := 132) hx hb dX2_goTo_125 (by decide) ?_
              refine lv_istore_n (lv' := [(3, .int (nI fr)), (6, .int (nI 1)), (0, .ref (om 0)), (1, .int (nI l0)), (4, .int (nI m1)), (5, .int (nI (lft m1)))]) hx hb dX2_goTo_132 rfl hl (by decide) rfl (fun ls hl => ?_)
              refine lv_iload hx hb dX2_goTo_133 (lv_at hl 1 rfl) ?_
              refine lv_if_eq (tgt := 143) hx hb dX2_goTo_135 (by decide) (fun hq9 => absurd hq9 (by decide)) (fun _ => ?_)
              refine lv_iload hx hb dX2_goTo_138 (lv_at hl 5 rfl) ?_
              refine lv_goto (tgt := 148) hx hb dX2_goTo_140 (by decide) ?_
              refine lv_istore (lv' := [(4, .int (nI (lft m1))), (3, .int (nI fr)), (6, .int (nI 1)), (0, .ref (om 0)), (1, .int (nI l0)), (5, .int (nI (lft m1)))]) hx hb dX2_goTo_148 hl (by decide) rfl (fun ls hl => ?_)
              refine lv_goto (tgt := 10) hx hb dX2_goTo_150 (by decide) ?_
              exact ih (c1 + 1) H locs ls (fr) (lft m1) _ _ ⟨by omega, by omega, by omega, by omega, g5, g6⟩ hP hD hS (lv_sub hl [3, 4, 1, 0] rfl)
          | succ kd ihkd =>
            intro lf H locs ls hk hP hD hS hl
            obtain ⟨e1, e2, e3⟩ := hk
            refine lv_iconst (v := nI 2) hx hb dX2_goTo_19 (by decide) ?_
            refine lv_iload hx hb dX2_goTo_20 (lv_at hl 4 rfl) ?_
            refine lv_imul hx hb dX2_goTo_22 ?_
            refine lv_eqi (v := nI (2 * lf)) (pk_mul _ _) ?_
            refine lv_iload hx hb dX2_goTo_23 (lv_at hl 3 rfl) ?_
            refine lv_icmp_ge (tgt := 37) hx hb dX2_goTo_25 (by decide) (fun hb2 => ?_) (fun hb2 => ?_)
            · have gd : ¬ 2 * lf < m1 := fun h => nI_ge h (by omega) hb2
              have gf : lf = lft m1 := by rw [← e3]; exact (if_neg gd).symm
              subst gf
              refine lv_iload_n hx hb dX2_goTo_37 rfl (lv_at hl 1 rfl) ?_
              refine lv_iload_n hx hb dX2_goTo_38 rfl (lv_at hl 2 rfl) ?_
              refine lv_iload hx hb dX2_goTo_39 (lv_at hl 4 rfl) ?_
              refine lv_iadd hx hb dX2_goTo_41 ?_
              refine lv_eqi (v := nI (fr + lft m1)) (nI_add _ _) ?_
              refine lv_icmp_ge (tgt := 49) hx hb dX2_goTo_42 (by decide) (fun hf => ?_) (fun hf => ?_)
              · have gc : ¬ l0 < fr + lft m1 := fun h => nI_ge h (by omega) hf
                have g8 : gl (k + 1) l0 fr m1 = (false, fr, lft m1) :: gl k l0 (fr + lft m1) (m1 - lft m1) := (if_neg (by omega)).trans (if_neg gc)
                rw [g8] at g5 g6
                have g5 : c1 + 1 + (gl k l0 (fr + lft m1) (m1 - lft m1)).length = (glist l0 n).length := by rw [← g5]; simp only [List.length_cons]; omega
                refine lv_iconst (v := nI 0) hx hb dX2_goTo_49 (by decide) ?_
                refine lv_istore (lv' := [(6, .int (nI 0)), (0, .ref (om 0)), (1, .int (nI l0)), (3, .int (nI fr)), (4, .int (nI m1)), (5, .int (nI (lft m1)))]) hx hb dX2_goTo_50 hl (by decide) rfl (fun ls hl => ?_)
                refine lv_aload_n hx hb dX2_goTo_52 rfl (lv_at hl 1 rfl) ?_
                refine va_get (D := D) (ci := 2) (v := .ref (om 2)) (C := RX2) (T := TX2) (N := 25) hx hb hW iMD hown hK hP 0 rfl rfl 23 (by decide) (hW _ tw_537) (fun _ h9 => h9) rfl dX2_goTo_53 ?_
                refine lv_aload_n hx hb dX2_goTo_56 rfl (lv_at hl 1 rfl) ?_
                refine va_get (D := D) (ci := 2) (v := .int (nI c1)) (C := RX2) (T := TX2) (N := 25) hx hb hW iMD hown hK hP 0 rfl rfl 20 (by decide) (hW _ tw_534) (fun _ h9 => h9) rfl dX2_goTo_57 ?_
                refine lv_iload hx hb dX2_goTo_60 (lv_at hl 0 rfl) ?_
                refine m_zst (x := nI 0) (v := nI 0) hx hb hK hP hD hS 2 1 c1 rfl rfl (by omega) (by decide) (rfl) dX2_goTo_62 (fun H locs hP hD hS => ?_)
                have hP : va_P D vwCl (wM om am cI cZ th tp lv dy pv pm by_ pt (nI c1) gone (upd r0 c1 (nI 0)) m2) H := hP
                have hD : va_D A (wM om am cI cZ th tp lv dy pv pm by_ pt (nI c1) gone (upd r0 c1 (nI 0)) m2) := hD
                refine lv_aload_n hx hb dX2_goTo_63 rfl (lv_at hl 1 rfl) ?_
                refine va_get (D := D) (ci := 2) (v := .ref (am 11)) (C := RX2) (T := TX2) (N := 25) hx hb hW iMD hown hK hP 0 rfl rfl 21 (by decide) (hW _ tw_535) (fun _ h9 => h9) rfl dX2_goTo_64 ?_
                refine lv_aload_n hx hb dX2_goTo_67 rfl (lv_at hl 1 rfl) ?_
                refine va_get (D := D) (ci := 2) (v := .int (nI c1)) (C := RX2) (T := TX2) (N := 25) hx hb hW iMD hown hK hP 0 rfl rfl 20 (by decide) (hW _ tw_534) (fun _ h9 => h9) rfl dX2_goTo_68 ?_
                refine lv_iload hx hb dX2_goTo_71 (lv_at hl 0 rfl) ?_
                refine lv_if_eq (tgt := 83) hx hb dX2_goTo_73 (by decide) (fun _ => ?_) (fun hq9 => absurd (by decide) hq9)
                refine lv_iload_n hx hb dX2_goTo_83 rfl (lv_at hl 3 rfl) ?_
                refine m_st (X := wMx om am cZ th tp lv dy pv pm by_ pt (nI c1) gone (upd r0 c1 (nI 0))) hx hb hK hP hD hS 0 11 c1 rfl (by decide) (show c1 < 8 by omega) (by decide) dX2_goTo_84 (fun H locs hP hD hS => ?_)
                have hP : va_P D vwCl (wM om am cI cZ th tp lv dy pv pm by_ pt (nI c1) gone (upd r0 c1 (nI 0)) (va_up m2 11 (upd (m2 11) c1 (nI fr)))) H := hP
                have hD : va_D A (wM om am cI cZ th tp lv dy pv pm by_ pt (nI c1) gone (upd r0 c1 (nI 0)) (va_up m2 11 (upd (m2 11) c1 (nI fr)))) := hD
                refine lv_aload_n hx hb dX2_goTo_85 rfl (lv_at hl 1 rfl) ?_
                refine va_get (D := D) (ci := 2) (v := .ref (am 12)) (C := RX2) (T := TX2) (N := 25) hx hb hW iMD hown hK hP 0 rfl rfl 22 (by decide) (hW _ tw_536) (fun _ h9 => h9) rfl dX2_goTo_86 ?_
                refine lv_aload_n hx hb dX2_goTo_89 rfl (lv_at hl 1 rfl) ?_
                refine va_get (D := D) (ci := 2) (v := .int (nI c1)) (C := RX2) (T := TX2) (N := 25) hx hb hW iMD hown hK hP 0 rfl rfl 20 (by decide) (hW _ tw_534) (fun _ h9 => h9) rfl dX2_goTo_90 ?_
                refine lv_iload hx hb dX2_goTo_93 (lv_at hl 0 rfl) ?_
                refine lv_if_eq (tgt := 106) hx hb dX2_goTo_95 (by decide) (fun _ => ?_) (fun hq9 => absurd (by decide) hq9)
                refine lv_iload hx hb dX2_goTo_106 (lv_at hl 5 rfl) ?_
                refine m_st (X := wMx om am cZ th tp lv dy pv pm by_ pt (nI c1) gone (upd r0 c1 (nI 0))) hx hb hK hP hD hS 0 12 c1 rfl (by decide) (show c1 < 8 by omega) (by decide) dX2_goTo_108 (fun H locs hP hD hS => ?_)
                have hP : va_P D vwCl (wM om am cI cZ th tp lv dy pv pm by_ pt (nI c1) gone (upd r0 c1 (nI 0)) (va_up (va_up m2 11 (upd (m2 11) c1 (nI fr))) 12 (upd ((va_up m2 11 (upd (m2 11) c1 (nI fr))) 12) c1 (nI (lft m1))))) H := hP
                have hD : va_D A (wM om am cI cZ th tp lv dy pv pm by_ pt (nI c1) gone (upd r0 c1 (nI 0)) (va_up (va_up m2 11 (upd (m2 11) c1 (nI fr))) 12 (upd ((va_up m2 11 (upd (m2 11) c1 (nI fr))) 12) c1 (nI (lft m1))))) := hD
                have hP : va_P D vwCl (wM om am cI cZ th tp lv dy pv pm by_ pt (nI c1) gone ((gtS (false, fr, lft m1) c1 (r0, m2)).1) ((gtS (false, fr, lft m1) c1 (r0, m2)).2)) H := hP
                have hD : va_D A (wM om am cI cZ th tp lv dy pv pm by_ pt (nI c1) gone ((gtS (false, fr, lft m1) c1 (r0, m2)).1) ((gtS (false, fr, lft m1) c1 (r0, m2)).2)) := hD
                refine lv_aload_n hx hb dX2_goTo_109 rfl (lv_at hl 1 rfl) ?_
                refine lv_dup hx hb dX2_goTo_110 rfl ?_
                refine va_get (D := D) (ci := 2) (v := .int (nI c1)) (C := RX2) (T := TX2) (N := 25) hx hb hW iMD hown hK hP 0 rfl rfl 20 (by decide) (hW _ tw_534) (fun _ h9 => h9) rfl dX2_goTo_111 ?_
                refine lv_iconst (v := nI 1) hx hb dX2_goTo_114 (by decide) ?_
                refine lv_iadd hx hb dX2_goTo_115 ?_
                refine lv_eqi (v := nI (c1 + 1)) (nI_add _ _) ?_
                refine va_put (D := D) (ci := 2) (v := .int (nI (c1 + 1))) (ty := .int) (C := RX2) (T := TX2) (N := 25) hx hb hW iMD tyX2 tyX2_ok nmX2 hown hK hP hD hS 0 rfl rfl 20 (by decide) (hW _ tw_534) (fun _ h9 => h9) rfl (by decide +kernel) rfl rfl (Nat.le_of_ble_eq_true rfl) dX2_goTo_116 (fun H locs hP hD hS => ?_)
                have hP : va_P D vwCl (wM om am cI cZ th tp lv dy pv pm by_ pt (nI (c1 + 1)) gone ((gtS (false, fr, lft m1) c1 (r0, m2)).1) ((gtS (false, fr, lft m1) c1 (r0, m2)).2)) H := hP
                have hD : va_D A (wM om am cI cZ th tp lv dy pv pm by_ pt (nI (c1 + 1)) gone ((gtS (false, fr, lft m1) c1 (r0, m2)).1) ((gtS (false, fr, lft m1) c1 (r0, m2)).2)) := hD
                refine lv_iload hx hb dX2_goTo_119 (lv_at hl 0 rfl) ?_
                refine lv_if_eq (tgt := 128) hx hb dX2_goTo_121 (by decide) (fun _ => ?_) (fun hq9 => absurd (by decide) hq9)
                refine lv_iload_n hx hb dX2_goTo_128 rfl (lv_at hl 3 rfl) ?_
                refine lv_iload hx hb dX2_goTo_129 (lv_at hl 5 rfl) ?_
                refine lv_iadd hx hb dX2_goTo_131 ?_
                refine lv_eqi (v := nI (fr + lft m1)) (nI_add _ _) ?_
                refine lv_istore_n (lv' := [(3, .int (nI (fr + lft m1))), (6, .int (nI 0)), (0, .ref (om 0)), (1, .int (nI l0)), (4, .int (nI m1)), (5, .int (nI (lft m1)))]) hx hb dX2_goTo_132 rfl hl (by decide) rfl (fun ls hl => ?_)
                refine lv_iload hx hb dX2_goTo_133 (lv_at hl 1 rfl) ?_
                refine lv_if_eq (tgt := 143) hx hb dX2_goTo_135 (by decide) (fun _ => ?_) (fun hq9 => absurd (by decide) hq9)
                refine lv_iload hx hb dX2_goTo_143 (lv_at hl 4 rfl) ?_
                refine lv_iload hx hb dX2_goTo_145 (lv_at hl 5 rfl) ?_
                refine lv_isub hx hb dX2_goTo_147 ?_
                refine lv_eqi (v := nI (m1 - (lft m1))) (pk_sub (by omega)) ?_
                refine lv_istore (lv' := [(4, .int (nI (m1 - (lft m1)))), (3, .int (nI (fr + lft m1))), (6, .int (nI 0)), (0, .ref (om 0)), (1, .int (nI l0)), (5, .int (nI (lft m1)))]) hx hb dX2_goTo_148 hl (by decide) rfl (fun ls hl => ?_)
                refine lv_goto (tgt := 10) hx hb dX2_goTo_150 (by decide) ?_
                exact ih (c1 + 1) H locs ls (fr + lft m1) (m1 - lft m1) _ _ ⟨by omega, by omega, by omega, by omega, g5, g6⟩ hP hD hS (lv_sub hl [3, 4, 1, 0] rfl)
              · have gc : l0 < fr + lft m1 := by
                  rcases Nat.lt_or_ge l0 (fr + lft m1) with h | h
                  · exact h
                  · exact absurd (nI_le h (by omega)) hf
                have g8 : gl (k + 1) l0 fr m1 = (true, fr + lft m1, m1 - lft m1) :: gl k l0 fr (lft m1) := (if_neg (by omega)).trans (if_pos gc)
                rw [g8] at g5 g6
                have g5 : c1 + 1 + (gl k l0 (fr) (lft m1)).length = (glist l0 n).length := by rw [← g5]; simp only [List.length_cons]; omega
                refine lv_iconst (v := nI 1) hx hb dX2_goTo_45 (by decide) ?_
                refine lv_goto (tgt := 50) hx hb dX2_goTo_46 (by decide) ?_
                refine lv_istore (lv' := [(6, .int (nI 1)), (0, .ref (om 0)), (1, .int (nI l0)), (3, .int (nI fr)), (4, .int (nI m1)), (5, .int (nI (lft m1)))]) hx hb dX2_goTo_50 hl (by decide) rfl (fun ls hl => ?_)
                refine lv_aload_n hx hb dX2_goTo_52 rfl (lv_at hl 1 rfl) ?_
                refine va_get (D := D) (ci := 2) (v := .ref (om 2)) (C := RX2) (T := TX2) (N := 25) hx hb hW iMD hown hK hP 0 rfl rfl 23 (by decide) (hW _ tw_537) (fun _ h9 => h9) rfl dX2_goTo_53 ?_
                refine lv_aload_n hx hb dX2_goTo_56 rfl (lv_at hl 1 rfl) ?_
                refine va_get (D := D) (ci := 2) (v := .int (nI c1)) (C := RX2) (T := TX2) (N := 25) hx hb hW iMD hown hK hP 0 rfl rfl 20 (by decide) (hW _ tw_534) (fun _ h9 => h9) rfl dX2_goTo_57 ?_
                refine lv_iload hx hb dX2_goTo_60 (lv_at hl 0 rfl) ?_
                refine m_zst (x := nI 1) (v := nI 1) hx hb hK hP hD hS 2 1 c1 rfl rfl (by omega) (by decide) (rfl) dX2_goTo_62 (fun H locs hP hD hS => ?_)
                have hP : va_P D vwCl (wM om am cI cZ th tp lv dy pv pm by_ pt (nI c1) gone (upd r0 c1 (nI 1)) m2) H := hP
                have hD : va_D A (wM om am cI cZ th tp lv dy pv pm by_ pt (nI c1) gone (upd r0 c1 (nI 1)) m2) := hD
                refine lv_aload_n hx hb dX2_goTo_63 rfl (lv_at hl 1 rfl) ?_
                refine va_get (D := D) (ci := 2) (v := .ref (am 11)) (C := RX2) (T := TX2) (N := 25) hx hb hW iMD hown hK hP 0 rfl rfl 21 (by decide) (hW _ tw_535) (fun _ h9 => h9) rfl dX2_goTo_64 ?_
                refine lv_aload_n hx hb dX2_goTo_67 rfl (lv_at hl 1 rfl) ?_
                refine va_get (D := D) (ci := 2) (v := .int (nI c1)) (C := RX2) (T := TX2) (N := 25) hx hb hW iMD hown hK hP 0 rfl rfl 20 (by decide) (hW _ tw_534) (fun _ h9 => h9) rfl dX2_goTo_68 ?_
                refine lv_iload hx hb dX2_goTo_71 (lv_at hl 0 rfl) ?_
                refine lv_if_eq (tgt := 83) hx hb dX2_goTo_73 (by decide) (fun hq9 => absurd hq9 (by decide)) (fun _ => ?_)
                refine lv_iload_n hx hb dX2_goTo_76 rfl (lv_at hl 3 rfl) ?_
                refine lv_iload hx hb dX2_goTo_77 (lv_at hl 5 rfl) ?_
                refine lv_iadd hx hb dX2_goTo_79 ?_
                refine lv_eqi (v := nI (fr + lft m1)) (nI_add _ _) ?_
                refine lv_goto (tgt := 84) hx hb dX2_goTo_80 (by decide) ?_
                refine m_st (X := wMx om am cZ th tp lv dy pv pm by_ pt (nI c1) gone (upd r0 c1 (nI 1))) hx hb hK hP hD hS 0 11 c1 rfl (by decide) (show c1 < 8 by omega) (by decide) dX2_goTo_84 (fun H locs hP hD hS => ?_)
                have hP : va_P D vwCl (wM om am cI cZ th tp lv dy pv pm by_ pt (nI c1) gone (upd r0 c1 (nI 1)) (va_up m2 11 (upd (m2 11) c1 (nI (fr + lft m1))))) H := hP
                have hD : va_D A (wM om am cI cZ th tp lv dy pv pm by_ pt (nI c1) gone (upd r0 c1 (nI 1)) (va_up m2 11 (upd (m2 11) c1 (nI (fr + lft m1))))) := hD
                refine lv_aload_n hx hb dX2_goTo_85 rfl (lv_at hl 1 rfl) ?_
                refine va_get (D := D) (ci := 2) (v := .ref (am 12)) (C := RX2) (T := TX2) (N := 25) hx hb hW iMD hown hK hP 0 rfl rfl 22 (by decide) (hW _ tw_536) (fun _ h9 => h9) rfl dX2_goTo_86 ?_
                refine lv_aload_n hx hb dX2_goTo_89 rfl (lv_at hl 1 rfl) ?_
                refine va_get (D := D) (ci := 2) (v := .int (nI c1)) (C := RX2) (T := TX2) (N := 25) hx hb hW iMD hown hK hP 0 rfl rfl 20 (by decide) (hW _ tw_534) (fun _ h9 => h9) rfl dX2_goTo_90 ?_
                refine lv_iload hx hb dX2_goTo_93 (lv_at hl 0 rfl) ?_
                refine lv_if_eq (tgt := 106) hx hb dX2_goTo_95 (by decide) (fun hq9 => absurd hq9 (by decide)) (fun _ => ?_)
                refine lv_iload hx hb dX2_goTo_98 (lv_at hl 4 rfl) ?_
                refine lv_iload hx hb dX2_goTo_100 (lv_at hl 5 rfl) ?_
                refine lv_isub hx hb dX2_goTo_102 ?_
                refine lv_eqi (v := nI (m1 - (lft m1))) (pk_sub (by omega)) ?_
                refine lv_goto (tgt := 108) hx hb dX2_goTo_103 (by decide) ?_
                refine m_st (X := wMx om am cZ th tp lv dy pv pm by_ pt (nI c1) gone (upd r0 c1 (nI 1))) hx hb hK hP hD hS 0 12 c1 rfl (by decide) (show c1 < 8 by omega) (by decide) dX2_goTo_108 (fun H locs hP hD hS => ?_)
                have hP : va_P D vwCl (wM om am cI cZ th tp lv dy pv pm by_ pt (nI c1) gone (upd r0 c1 (nI 1)) (va_up (va_up m2 11 (upd (m2 11) c1 (nI (fr + lft m1)))) 12 (upd ((va_up m2 11 (upd (m2 11) c1 (nI (fr + lft m1)))) 12) c1 (nI (m1 - (lft m1)))))) H := hP
                have hD : va_D A (wM om am cI cZ th tp lv dy pv pm by_ pt (nI c1) gone (upd r0 c1 (nI 1)) (va_up (va_up m2 11 (upd (m2 11) c1 (nI (fr + lft m1)))) 12 (upd ((va_up m2 11 (upd (m2 11) c1 (nI (fr + lft m1)))) 12) c1 (nI (m1 - (lft m1)))))) := hD
                have hP : va_P D vwCl (wM om am cI cZ th tp lv dy pv pm by_ pt (nI c1) gone ((gtS (true, fr + lft m1, m1 - lft m1) c1 (r0, m2)).1) ((gtS (true, fr + lft m1, m1 - lft m1) c1 (r0, m2)).2)) H := hP
                have hD : va_D A (wM om am cI cZ th tp lv dy pv pm by_ pt (nI c1) gone ((gtS (true, fr + lft m1, m1 - lft m1) c1 (r0, m2)).1) ((gtS (true, fr + lft m1, m1 - lft m1) c1 (r0, m2)).2)) := hD
                refine lv_aload_n hx hb dX2_goTo_109 rfl (lv_at hl 1 rfl) ?_
                refine lv_dup hx hb dX2_goTo_110 rfl ?_
                refine va_get (D := D) (ci := 2) (v := .int (nI c1)) (C := RX2) (T := TX2) (N := 25) hx hb hW iMD hown hK hP 0 rfl rfl 20 (by decide) (hW _ tw_534) (fun _ h9 => h9) rfl dX2_goTo_111 ?_
                refine lv_iconst (v := nI 1) hx hb dX2_goTo_114 (by decide) ?_
                refine lv_iadd hx hb dX2_goTo_115 ?_
                refine lv_eqi (v := nI (c1 + 1)) (nI_add _ _) ?_
                refine va_put (D := D) (ci := 2) (v := .int (nI (c1 + 1))) (ty := .int) (C := RX2) (T := TX2) (N := 25) hx hb hW iMD tyX2 tyX2_ok nmX2 hown hK hP hD hS 0 rfl rfl 20 (by decide) (hW _ tw_534) (fun _ h9 => h9) rfl (by decide +kernel) rfl rfl (Nat.le_of_ble_eq_true rfl) dX2_goTo_116 (fun H locs hP hD hS => ?_)
                have hP : va_P D vwCl (wM om am cI cZ th tp lv dy pv pm by_ pt (nI (c1 + 1)) gone ((gtS (true, fr + lft m1, m1 - lft m1) c1 (r0, m2)).1) ((gtS (true, fr + lft m1, m1 - lft m1) c1 (r0, m2)).2)) H := hP
                have hD : va_D A (wM om am cI cZ th tp lv dy pv pm by_ pt (nI (c1 + 1)) gone ((gtS (true, fr + lft m1, m1 - lft m1) c1 (r0, m2)).1) ((gtS (true, fr + lft m1, m1 - lft m1) c1 (r0, m2)).2)) := hD
                refine lv_iload hx hb dX2_goTo_119 (lv_at hl 0 rfl) ?_
                refine lv_if_eq (tgt := 128) hx hb dX2_goTo_121 (by decide) (fun hq9 => absurd hq9 (by decide)) (fun _ => ?_)
                refine lv_iload_n hx hb dX2_goTo_124 rfl (lv_at hl 3 rfl) ?_
                refine lv_goto (tgt := 132) hx hb dX2_goTo_125 (by decide) ?_
                refine lv_istore_n (lv' := [(3, .int (nI fr)), (6, .int (nI 1)), (0, .ref (om 0)), (1, .int (nI l0)), (4, .int (nI m1)), (5, .int (nI (lft m1)))]) hx hb dX2_goTo_132 rfl hl (by decide) rfl (fun ls hl => ?_)
                refine lv_iload hx hb dX2_goTo_133 (lv_at hl 1 rfl) ?_
                refine lv_if_eq (tgt := 143) hx hb dX2_goTo_135 (by decide) (fun hq9 => absurd hq9 (by decide)) (fun _ => ?_)
                refine lv_iload hx hb dX2_goTo_138 (lv_at hl 5 rfl) ?_
                refine lv_goto (tgt := 148) hx hb dX2_goTo_140 (by decide) ?_
                refine lv_istore (lv' := [(4, .int (nI (lft m1))), (3, .int (nI fr)), (6, .int (nI 1)), (0, .ref (om 0)), (1, .int (nI l0)), (5, .int (nI (lft m1)))]) hx hb dX2_goTo_148 hl (by decide) rfl (fun ls hl => ?_)
                refine lv_goto (tgt := 10) hx hb dX2_goTo_150 (by decide) ?_
                exact ih (c1 + 1) H locs ls (fr) (lft m1) _ _ ⟨by omega, by omega, by omega, by omega, g5, g6⟩ hP hD hS (lv_sub hl [3, 4, 1, 0] rfl)
            · have gd : 2 * lf < m1 := by
                rcases Nat.lt_or_ge (2 * lf) m1 with h | h
                · exact h
                · exact absurd (nI_le h (by omega)) hb2
              refine lv_iconst (v := nI 2) hx hb dX2_goTo_28 (by decide) ?_
              refine lv_iload hx hb dX2_goTo_29 (lv_at hl 4 rfl) ?_
              refine lv_imul hx hb dX2_goTo_31 ?_
              refine lv_eqi (v := nI (2 * lf)) (pk_mul _ _) ?_
              refine lv_istore (lv' := [(5, .int (nI (2 * lf))), (0, .ref (om 0)), (1, .int (nI l0)), (3, .int (nI fr)), (4, .int (nI m1))]) hx hb dX2_goTo_32 hl (by decide) rfl (fun ls hl => ?_)
              refine lv_goto (tgt := 19) hx hb dX2_goTo_34 (by decide) ?_
              exact ihkd (2 * lf) H locs ls ⟨by omega, dbl_step e2, by rw [← e3]; exact (if_pos gd).symm⟩ hP hD hS (lv_sub hl [1, 2, 3, 4, 0] rfl)
        refine lv_iconst (v := nI 1) hx hb dX2_goTo_16 (by decide) ?_
        refine lv_istore (lv' := [(5, .int (nI 1)), (0, .ref (om 0)), (1, .int (nI l0)), (3, .int (nI fr)), (4, .int (nI m1))]) hx hb dX2_goTo_17 hl (by decide) rfl (fun ls hl => ?_)
        exact ld 5 1 H locs ls ⟨by omega, by decide, rfl⟩ hP hD hS (lv_sub hl [1, 2, 3, 4, 0] rfl)
  refine lv_aload_n hx hb dX2_goTo_0 rfl (lv_at hl 0 rfl) ?_
  refine lv_iconst (v := nI 0) hx hb dX2_goTo_1 (by decide) ?_
  refine va_put (D := D) (ci := 2) (v := .int (nI 0)) (ty := .int) (C := RX2) (T := TX2) (N := 25) hx hb hW iMD tyX2 tyX2_ok nmX2 hown hK hP hD hS 0 rfl rfl 20 (by decide) (hW _ tw_534) (fun _ h9 => h9) rfl (by decide +kernel) rfl rfl (Nat.le_of_ble_eq_true rfl) dX2_goTo_2 (fun H locs hP hD hS => ?_)
  have hP : va_P D vwCl (wM om am cI cZ th tp lv dy pv pm by_ pt (nI 0) gone oR mem) H := hP
  have hD : va_D A (wM om am cI cZ th tp lv dy pv pm by_ pt (nI 0) gone oR mem) := hD
  refine lv_iconst (v := nI 0) hx hb dX2_goTo_5 (by decide) ?_
  refine lv_istore_n (lv' := [(3, .int (nI 0)), (0, .ref (om 0)), (1, .int (nI l0)), (2, .int (nI n))]) hx hb dX2_goTo_6 rfl hl (by decide) rfl (fun ls hl => ?_)
  refine lv_iload_n hx hb dX2_goTo_7 rfl (lv_at hl 3 rfl) ?_
  refine lv_istore (lv' := [(4, .int (nI n)), (3, .int (nI 0)), (0, .ref (om 0)), (1, .int (nI l0)), (2, .int (nI n))]) hx hb dX2_goTo_8 hl (by decide) rfl (fun ls hl => ?_)
  exact lo 24 0 H locs ls 0 n oR mem ⟨by omega, by omega, by omega, by omega, Nat.zero_add _, rfl⟩ hP hD hS (lv_sub hl [2, 3, 1, 0] rfl)
