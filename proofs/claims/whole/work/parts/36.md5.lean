set_option maxHeartbeats 800000 in
set_option maxRecDepth 100000 in
theorem n_tree {l : Launch} {D : va_G} {om am : Nat → Nat} {cI cZ cG : ClassId} {th tp lv dy pv pm pt wy : Int32} {gone oR : Nat → Int32} (fr n : Nat) (hn : fr + n ≤ 24) (b : Nat) (mem : xMem) (hkc : ∀ i, i < 64 → mem 13 i = kc i) : MV l nE yX2_tree (.code yX2_tree cX2_tree 5 none :: tW) ({ frames := 5, cells := 0, slots := 0, locals := 180 }) D vwCl (tC cI cZ cG) [.ref (om 0), .int (nI fr), .int (nI n)] (wM om am cI cZ th tp lv dy pv pm (nI b) pt wy gone oR mem) (wM om am cI cZ th tp lv dy pv pm (nI (m_tree fr n (b, mem)).1) (ptT n pt) wy gone oR ((m_tree fr n (b, mem)).2)) := by
  refine MV.ofW (by decide +kernel) rfl (Nat.le_of_ble_eq_true rfl) ?_
  intro p e s m below meth c A ls hx hb hr hts hown hlk hml hA hP hK hD hT hl
  have hS : va_S A s.heap s.heap [] := va_S.rf
  have hown : s.vm.findClass RX2 = some m.cls := hown
  have hW : ∀ w ∈ tW, w.before _ s = true := fun w h => hts w (List.mem_cons_of_mem _ h)
  have hl : lv_has ls 5 [(0, .ref (om 0)), (1, .int (nI fr)), (2, .int (nI n))] := hl
  refine lv_iload_n hx hb dX2_tree_0 rfl (lv_at hl 2 rfl) ?_
  refine lv_if_ne (tgt := 13) hx hb dX2_tree_1 (by decide) (fun h0 => ?_) (fun h0 => ?_)
  · have hn0 : ¬ n = 0 := fun h => h0 (by rw [h]; rfl)
    have hT1 : ptT n pt = nI 1 := if_neg hn0
    have sp := stk_ok n (by omega)
    have sp2 := stk_pos n (by omega) (by omega)
    have hT2 : m_tree fr n (b, mem) = ((clz (stk n).length (trI fr n (b, mem))).1, P_rcp 2 0 9 0 (clz (stk n).length (trI fr n (b, mem))).2) := if_neg hn0
    have lr : ∀ (kr r : Nat) (H : Heap) (locs : List Loc) (ls : Array Slot), r + kr = 32 → va_P D vwCl (wM om am cI cZ th tp lv dy pv pm (nI (clz (stk n).length (trI fr n (b, mem))).1) (nI 1) wy gone oR (rcp 2 0 9 0 r ((clz (stk n).length (trI fr n (b, mem))).2))) H → va_D A (wM om am cI cZ th tp lv dy pv pm (nI (clz (stk n).length (trI fr n (b, mem))).1) (nI 1) wy gone oR (rcp 2 0 9 0 r ((clz (stk n).length (trI fr n (b, mem))).2))) → va_S A s.heap H locs → lv_has ls 5 [(0, .ref (om 0)), (3, .int (nI r))] → W p l e ({ frames := 5, cells := 0, slots := 0, locals := 180 }) s m ([.ref (om 0), .int (nI fr), .int (nI n)] : List Value).toArray below meth c H locs 0 0 (MQ below (xQv D vwCl (wM om am cI cZ th tp lv dy pv pm (nI (m_tree fr n (b, mem)).1) (ptT n pt) wy gone oR ((m_tree fr n (b, mem)).2)) A) ([.ref (om 0), .int (nI fr), .int (nI n)] : List Value).toArray s 0 0 A) (F0 m 153 ls []) := by
      intro kr
      induction kr with
      | zero =>
        intro r H locs ls hk hP hD hS hl
        have hr9 : r = 32 := by omega
        rw [hr9, ← P_rcp_e] at hP hD
        refine lv_iload_n hx hb dX2_tree_153 rfl (lv_at hl 1 rfl) ?_
        refine lv_bipush (v := nI 32) hx hb dX2_tree_154 (by decide) ?_
        refine lv_icmp_ge (tgt := 177) hx hb dX2_tree_156 (by decide) (fun _ => ?_) (fun hq9 => absurd (nI_le (by omega) (by omega)) hq9)
        have hP : va_P D vwCl (wM om am cI cZ th tp lv dy pv pm (nI (m_tree fr n (b, mem)).1) (ptT n pt) wy gone oR ((m_tree fr n (b, mem)).2)) H := by rw [hT1, hT2]; exact hP
        have hD : va_D A (wM om am cI cZ th tp lv dy pv pm (nI (m_tree fr n (b, mem)).1) (ptT n pt) wy gone oR ((m_tree fr n (b, mem)).2)) := by rw [hT1, hT2]; exact hD
        exact mv_ret hx hb hr hlk hS hP hD dX2_tree_177
      | succ kr ihkr =>
        intro r H locs ls hk hP hD hS hl
        refine lv_iload_n hx hb dX2_tree_153 rfl (lv_at hl 1 rfl) ?_
        refine lv_bipush (v := nI 32) hx hb dX2_tree_154 (by decide) ?_
        refine lv_icmp_ge (tgt := 177) hx hb dX2_tree_156 (by decide) (fun hq9 => absurd hq9 (nI_ge (by omega) (by decide))) (fun _ => ?_)
        refine lv_aload_n hx hb dX2_tree_159 rfl (lv_at hl 0 rfl) ?_
        refine va_get (D := D) (ci := 2) (v := .ref (am 2)) (C := RX2) (T := TX2) (N := 25) hx hb hW iMD hown hK hP 0 rfl rfl 14 (by decide) (hW _ tw_528) (fun _ h9 => h9) rfl dX2_tree_160 ?_
        refine lv_iload_n hx hb dX2_tree_163 rfl (lv_at hl 1 rfl) ?_
        refine lv_aload_n hx hb dX2_tree_164 rfl (lv_at hl 0 rfl) ?_
        refine va_get (D := D) (ci := 2) (v := .ref (am 9)) (C := RX2) (T := TX2) (N := 25) hx hb hW iMD hown hK hP 0 rfl rfl 18 (by decide) (hW _ tw_532) (fun _ h9 => h9) rfl dX2_tree_165 ?_
        refine lv_iload_n hx hb dX2_tree_168 rfl (lv_at hl 1 rfl) ?_
        refine m_ld (X := wMx om am cZ th tp lv dy pv pm (nI (clz (stk n).length (trI fr n (b, mem))).1) (nI 1) wy gone oR) hx hb hK hP 0 9 r rfl (by decide) (show r < 256 by omega) (by decide) dX2_tree_169 ?_
        refine m_st (X := wMx om am cZ th tp lv dy pv pm (nI (clz (stk n).length (trI fr n (b, mem))).1) (nI 1) wy gone oR) hx hb hK hP hD hS 0 2 r rfl (by decide) (show r < 32 by omega) (by decide) dX2_tree_170 (fun H locs hP hD hS => ?_)
        have hP : va_P D vwCl (wM om am cI cZ th tp lv dy pv pm (nI (clz (stk n).length (trI fr n (b, mem))).1) (nI 1) wy gone oR (rcp 2 0 9 0 (r + 1) ((clz (stk n).length (trI fr n (b, mem))).2))) H := by rw [rcp_s, Nat.zero_add]; exact hP
        have hD : va_D A (wM om am cI cZ th tp lv dy pv pm (nI (clz (stk n).length (trI fr n (b, mem))).1) (nI 1) wy gone oR (rcp 2 0 9 0 (r + 1) ((clz (stk n).length (trI fr n (b, mem))).2))) := by rw [rcp_s, Nat.zero_add]; exact hD
        refine lv_iinc (v := nI (r + 1)) (lv' := [(3, .int (nI (r + 1))), (0, .ref (om 0))]) hx hb dX2_tree_171 hl (k := 1) rfl (nI_1 _) (by decide) rfl (fun ls hl => ?_)
        refine lv_goto (tgt := 153) hx hb dX2_tree_174 (by decide) ?_
        exact ihkr (r + 1) H locs ls (by omega) hP hD hS (lv_sub hl [1, 0] rfl)
    have lj : ∀ (k pp : Nat) (H : Heap) (locs : List Loc) (ls : Array Slot) (a : Nat) (m2 : xMem), 1 ≤ pp ∧ (pp ≤ k ∧ pp ≤ 8) ∧ clz pp (a, m2) = clz (stk n).length (trI fr n (b, mem)) ∧ (∀ j, j < 64 → m2 13 j = kc j) → va_P D vwCl (wM om am cI cZ th tp lv dy pv pm (nI a) (nI pp) wy gone oR m2) H → va_D A (wM om am cI cZ th tp lv dy pv pm (nI a) (nI pp) wy gone oR m2) → va_S A s.heap H locs → lv_has ls 5 [(0, .ref (om 0))] → W p l e ({ frames := 5, cells := 0, slots := 0, locals := 180 }) s m ([.ref (om 0), .int (nI fr), .int (nI n)] : List Value).toArray below meth c H locs 0 0 (MQ below (xQv D vwCl (wM om am cI cZ th tp lv dy pv pm (nI (m_tree fr n (b, mem)).1) (ptT n pt) wy gone oR ((m_tree fr n (b, mem)).2)) A) ([.ref (om 0), .int (nI fr), .int (nI n)] : List Value).toArray s 0 0 A) (F0 m 136 ls []) := by
      intro k
      induction k with
      | zero =>
        intro pp H locs ls a m2 hk hP hD hS hl
        exact absurd hk.1 (by omega)
      | succ k ih =>
        intro pp H locs ls a m2 hk hP hD hS hl
        obtain ⟨g1, g2, g3, g4⟩ := hk
        refine lv_aload_n hx hb dX2_tree_136 rfl (lv_at hl 0 rfl) ?_
        refine va_get (D := D) (ci := 2) (v := .int (nI pp)) (C := RX2) (T := TX2) (N := 25) hx hb hW iMD hown hK hP 0 rfl rfl 17 (by decide) (hW _ tw_531) (fun _ h9 => h9) rfl dX2_tree_137 ?_
        refine lv_iconst (v := nI 1) hx hb dX2_tree_140 (by decide) ?_
        refine lv_icmp_le (tgt := 151) hx hb dX2_tree_141 (by decide) (fun hd => ?_) (fun hd => ?_)
        · have g5 : pp = 1 := by
            have := (nI_leI (by omega) (by decide)).mp hd
            omega
          subst g5
          have g6 : (a, m2) = clz (stk n).length (trI fr n (b, mem)) := g3
          have hP : va_P D vwCl (wM om am cI cZ th tp lv dy pv pm (nI (clz (stk n).length (trI fr n (b, mem))).1) (nI 1) wy gone oR ((clz (stk n).length (trI fr n (b, mem))).2)) H := by rw [← g6]; exact hP
          have hD : va_D A (wM om am cI cZ th tp lv dy pv pm (nI (clz (stk n).length (trI fr n (b, mem))).1) (nI 1) wy gone oR ((clz (stk n).length (trI fr n (b, mem))).2)) := by rw [← g6]; exact hD
          refine lv_iconst (v := nI 0) hx hb dX2_tree_151 (by decide) ?_
          refine lv_istore_n (lv' := [(3, .int (nI 0)), (0, .ref (om 0))]) hx hb dX2_tree_152 rfl hl (by decide) rfl (fun ls hl => ?_)
          have hP : va_P D vwCl (wM om am cI cZ th tp lv dy pv pm (nI (clz (stk n).length (trI fr n (b, mem))).1) (nI 1) wy gone oR (rcp 2 0 9 0 0 ((clz (stk n).length (trI fr n (b, mem))).2))) H := by rw [rcp_0]; exact hP
          have hD : va_D A (wM om am cI cZ th tp lv dy pv pm (nI (clz (stk n).length (trI fr n (b, mem))).1) (nI 1) wy gone oR (rcp 2 0 9 0 0 ((clz (stk n).length (trI fr n (b, mem))).2))) := by rw [rcp_0]; exact hD
          exact lr 32 0 H locs ls (by omega) hP hD hS (lv_sub hl [1, 0] rfl)
        · obtain ⟨p2, rfl⟩ : ∃ p2, pp = p2 + 2 := by
            rcases Nat.lt_or_ge pp 2 with h | h
            · exact absurd (nI_le (by omega) (by decide)) hd
            · exact ⟨pp - 2, by omega⟩
          refine lv_aload_n hx hb dX2_tree_144 rfl (lv_at hl 0 rfl) ?_
          refine mv_callV (C := RX2) (As := []) (rest := []) ⟨hx, hb, hml, hown, hW⟩ (n_join (p2 + 2) (by omega) (by omega) a m2 (g4)) nE_ok (cwV 0 hW (gV tw_649 tw_651 tv_X2_join tw_3 tw_652) rfl rfl rfl (by decide +kernel) ⟨Nat.le_of_ble_eq_true rfl, Nat.le_of_ble_eq_true rfl⟩) (va_recv hK hP (ci := 2) (q0 := 0) rfl rfl) hP hD hK hS hA hT rfl hl.1 rfl (Nat.le_of_ble_eq_true rfl) dX2_tree_145 ⟨Nat.zero_le _, Nat.zero_le _⟩ (fun H locs hP hD hS => ?_)
          have hP : va_P D vwCl (wM om am cI cZ th tp lv dy pv pm (nI (jn (p2 + 2) (a, m2)).1) (nI (p2 + 2 - 1)) wy gone oR ((jn (p2 + 2) (a, m2)).2)) H := hP
          have hD : va_D A (wM om am cI cZ th tp lv dy pv pm (nI (jn (p2 + 2) (a, m2)).1) (nI (p2 + 2 - 1)) wy gone oR ((jn (p2 + 2) (a, m2)).2)) := hD
          refine lv_goto (tgt := 136) hx hb dX2_tree_148 (by decide) ?_
          exact ih (p2 + 1) H locs ls ((jn (p2 + 2) (a, m2)).1) ((jn (p2 + 2) (a, m2)).2) ⟨by omega, by omega, g3, fun j hj => by rw [jn_k (by decide) (by decide) (by decide) (by decide) (by decide) (by decide)]; exact g4 j hj⟩ hP hD hS (lv_sub hl [0] rfl)
    have lo : ∀ (k i : Nat) (H : Heap) (locs : List Loc) (ls : Array Slot), i + k = n → va_P D vwCl (wM om am cI cZ th tp lv dy pv pm (nI (trI fr i (b, mem)).1) (nI (stk i).length) wy gone oR ((trI fr i (b, mem)).2)) H → va_D A (wM om am cI cZ th tp lv dy pv pm (nI (trI fr i (b, mem)).1) (nI (stk i).length) wy gone oR ((trI fr i (b, mem)).2)) → va_S A s.heap H locs → lv_has ls 5 [(0, .ref (om 0)), (1, .int (nI fr)), (2, .int (nI n)), (3, .int (nI (fr + i)))] → W p l e ({ frames := 5, cells := 0, slots := 0, locals := 180 }) s m ([.ref (om 0), .int (nI fr), .int (nI n)] : List Value).toArray below meth c H locs 0 0 (MQ below (xQv D vwCl (wM om am cI cZ th tp lv dy pv pm (nI (m_tree fr n (b, mem)).1) (ptT n pt) wy gone oR ((m_tree fr n (b, mem)).2)) A) ([.ref (om 0), .int (nI fr), .int (nI n)] : List Value).toArray s 0 0 A) (F0 m 20 ls []) := by
      intro k
      induction k with
      | zero =>
        intro i H locs ls hk hP hD hS hl
        have hk9 : i = n := by omega
        refine lv_iload_n hx hb dX2_tree_20 rfl (lv_at hl 3 rfl) ?_
        refine lv_iload_n hx hb dX2_tree_21 rfl (lv_at hl 1 rfl) ?_
        refine lv_iload_n hx hb dX2_tree_22 rfl (lv_at hl 2 rfl) ?_
        refine lv_iadd hx hb dX2_tree_23 ?_
        refine lv_eqi (v := nI (fr + n)) (nI_add _ _) ?_
        refine lv_icmp_ge (tgt := 136) hx hb dX2_tree_24 (by decide) (fun _ => ?_) (fun hq9 => absurd (nI_le (by omega) (by omega)) hq9)
        rw [hk9] at hP hD
        exact lj ((stk n).length) ((stk n).length) H locs ls ((trI fr n (b, mem)).1) ((trI fr n (b, mem)).2) ⟨by omega, by omega, rfl, fun j hj => by rw [trI_k (by decide) (by decide) (by decide) (by decide) (by decide) (by decide)]; exact hkc j hj⟩ hP hD hS (lv_sub hl [0] rfl)
      | succ k ih =>
        intro i H locs ls hk hP hD hS hl
        have si := stk_ok i (by omega)
        have hSz := Sz_trI fr (b, mem) i
        have lm : ∀ (km : Nat) (H : Heap) (locs : List Loc) (ls : Array Slot) (s0 : List Nat) (a : Nat) (m2 : xMem), 1 ≤ s0.length ∧ (s0.length ≤ 7 ∧ s0.length ≤ km + 1) ∧ s0.sum ≤ 24 ∧ Sz s0 m2 ∧ (∀ j, j < 64 → m2 13 j = kc j) ∧ mrg km s0 (a, m2) = mrg 8 (1 :: stk i) (psh (fr + i) (stk i).length (trI fr i (b, mem))) ∧ nrmF km s0 = stk (i + 1) → va_P D vwCl (wM om am cI cZ th tp lv dy pv pm (nI a) (nI s0.length) wy gone oR m2) H → va_D A (wM om am cI cZ th tp lv dy pv pm (nI a) (nI s0.length) wy gone oR m2) → va_S A s.heap H locs → lv_has ls 5 [(0, .ref (om 0)), (1, .int (nI fr)), (2, .int (nI n)), (3, .int (nI (fr + i)))] → W p l e ({ frames := 5, cells := 0, slots := 0, locals := 180 }) s m ([.ref (om 0), .int (nI fr), .int (nI n)] : List Value).toArray below meth c H locs 0 0 (MQ below (xQv D vwCl (wM om am cI cZ th tp lv dy pv pm (nI (m_tree fr n (b, mem)).1) (ptT n pt) wy gone oR ((m_tree fr n (b, mem)).2)) A) ([.ref (om 0), .int (nI fr), .int (nI n)] : List Value).toArray s 0 0 A) (F0 m 90 ls []) := by
          intro km
          induction km with
          | zero =>
            intro H locs ls s0 a m2 hk hP hD hS hl
            obtain ⟨g1, g2, g3, g4, g5, g6, g7⟩ := hk
            refine lv_aload_n hx hb dX2_tree_90 rfl (lv_at hl 0 rfl) ?_
            refine va_get (D := D) (ci := 2) (v := .int (nI s0.length)) (C := RX2) (T := TX2) (N := 25) hx hb hW iMD hown hK hP 0 rfl rfl 17 (by decide) (hW _ tw_531) (fun _ h9 => h9) rfl dX2_tree_91 ?_
            refine lv_iconst (v := nI 1) hx hb dX2_tree_94 (by decide) ?_
            refine lv_icmp_le (tgt := 130) hx hb dX2_tree_95 (by decide) (fun hd => ?_) (fun hd => ?_)
            · have g8 : s0.length = 1 := by
                have := (nI_leI (by omega) (by decide)).mp hd
                omega
              obtain ⟨a0, rfl⟩ : ∃ a0, s0 = [a0] := List.length_eq_one_iff.mp g8
              have g9 : (a, m2) = trI fr (i + 1) (b, mem) := by rw [trI_s, ← g6]; rfl
              have gA : [a0] = stk (i + 1) := by rw [← g7]; rfl
              have hP : va_P D vwCl (wM om am cI cZ th tp lv dy pv pm (nI (trI fr (i + 1) (b, mem)).1) (nI (stk (i + 1)).length) wy gone oR ((trI fr (i + 1) (b, mem)).2)) H := by rw [← gA, ← g9]; exact hP
              have hD : va_D A (wM om am cI cZ th tp lv dy pv pm (nI (trI fr (i + 1) (b, mem)).1) (nI (stk (i + 1)).length) wy gone oR ((trI fr (i + 1) (b, mem)).2)) := by rw [← gA, ← g9]; exact hD
              refine lv_iinc (v := nI (fr + (i + 1))) (lv' := [(3, .int (nI (fr + (i + 1)))), (0, .ref (om 0)), (1, .int (nI fr)), (2, .int (nI n))]) hx hb dX2_tree_130 hl (k := 3) rfl (nI_1 (fr + i)) (by decide) rfl (fun ls hl => ?_)
              refine lv_goto (tgt := 20) hx hb dX2_tree_133 (by decide) ?_
              exact ih (i + 1) H locs ls (by omega) hP hD hS (lv_sub hl [1, 2, 3, 0] rfl)
            · obtain ⟨x, y, s1, rfl⟩ : ∃ x y s1, s0 = x :: y :: s1 := by
                match s0, hd with
                | [], h => exact absurd (nI_le (by decide) (by decide)) h
                | [_], h => exact absurd (nI_le (Nat.le_refl 1) (by decide)) h
                | x :: y :: s1, _ => exact ⟨x, y, s1, rfl⟩
              have g8 : (x :: y :: s1).length = s1.length + 2 := rfl
              rw [g8] at hP hD g1 g2
              have g10 : x + (y + s1.sum) ≤ 24 := by simpa using g3
              exact absurd g2.2 (by omega)
          | succ km ihkm =>
            intro H locs ls s0 a m2 hk hP hD hS hl
            obtain ⟨g1, g2, g3, g4, g5, g6, g7⟩ := hk
            refine lv_aload_n hx hb dX2_tree_90 rfl (lv_at hl 0 rfl) ?_
            refine va_get (D := D) (ci := 2) (v := .int (nI s0.length)) (C := RX2) (T := TX2) (N := 25) hx hb hW iMD hown hK hP 0 rfl rfl 17 (by decide) (hW _ tw_531) (fun _ h9 => h9) rfl dX2_tree_91 ?_
            refine lv_iconst (v := nI 1) hx hb dX2_tree_94 (by decide) ?_
            refine lv_icmp_le (tgt := 130) hx hb dX2_tree_95 (by decide) (fun hd => ?_) (fun hd => ?_)
            · have g8 : s0.length = 1 := by
                have := (nI_leI (by omega) (by decide)).mp hd
                omega
              obtain ⟨a0, rfl⟩ : ∃ a0, s0 = [a0] := List.length_eq_one_iff.mp g8
              have g9 : (a, m2) = trI fr (i + 1) (b, mem) := by rw [trI_s, ← g6]; cases km <;> rfl
              have gA : [a0] = stk (i + 1) := by rw [← g7]; cases km <;> rfl
              have hP : va_P D vwCl (wM om am cI cZ th tp lv dy pv pm (nI (trI fr (i + 1) (b, mem)).1) (nI (stk (i + 1)).length) wy gone oR ((trI fr (i + 1) (b, mem)).2)) H := by rw [← gA, ← g9]; exact hP
              have hD : va_D A (wM om am cI cZ th tp lv dy pv pm (nI (trI fr (i + 1) (b, mem)).1) (nI (stk (i + 1)).length) wy gone oR ((trI fr (i + 1) (b, mem)).2)) := by rw [← gA, ← g9]; exact hD
              refine lv_iinc (v := nI (fr + (i + 1))) (lv' := [(3, .int (nI (fr + (i + 1)))), (0, .ref (om 0)), (1, .int (nI fr)), (2, .int (nI n))]) hx hb dX2_tree_130 hl (k := 3) rfl (nI_1 (fr + i)) (by decide) rfl (fun ls hl => ?_)
              refine lv_goto (tgt := 20) hx hb dX2_tree_133 (by decide) ?_
              exact ih (i + 1) H locs ls (by omega) hP hD hS (lv_sub hl [1, 2, 3, 0] rfl)
            · obtain ⟨x, y, s1, rfl⟩ : ∃ x y s1, s0 = x :: y :: s1 := by
                match s0, hd with
                | [], h => exact absurd (nI_le (by decide) (by decide)) h
                | [_], h => exact absurd (nI_le (Nat.le_refl 1) (by decide)) h
                | x :: y :: s1, _ => exact ⟨x, y, s1, rfl⟩
              have g8 : (x :: y :: s1).length = s1.length + 2 := rfl
              rw [g8] at hP hD g1 g2
              have g10 : x + (y + s1.sum) ≤ 24 := by simpa using g3
              refine lv_aload_n hx hb dX2_tree_98 rfl (lv_at hl 0 rfl) ?_
              refine va_get (D := D) (ci := 2) (v := .ref (am 10)) (C := RX2) (T := TX2) (N := 25) hx hb hW iMD hown hK hP 0 rfl rfl 19 (by decide) (hW _ tw_533) (fun _ h9 => h9) rfl dX2_tree_99 ?_
              refine lv_aload_n hx hb dX2_tree_102 rfl (lv_at hl 0 rfl) ?_
              refine va_get (D := D) (ci := 2) (v := .int (nI (s1.length + 2))) (C := RX2) (T := TX2) (N := 25) hx hb hW iMD hown hK hP 0 rfl rfl 17 (by decide) (hW _ tw_531) (fun _ h9 => h9) rfl dX2_tree_103 ?_
              refine lv_iconst (v := nI 1) hx hb dX2_tree_106 (by decide) ?_
              refine lv_isub hx hb dX2_tree_107 ?_
              refine lv_eqi (v := nI (s1.length + 1)) ((pk_sub (by omega)).trans (congrArg nI (by omega))) ?_
              refine m_ld (X := wMx om am cZ th tp lv dy pv pm (nI a) (nI (s1.length + 2)) wy gone oR) hx hb hK hP 0 10 (s1.length + 1) rfl (by decide) (show s1.length + 1 < 8 by omega) (by decide) dX2_tree_108 ?_
              refine lv_eqi (v := nI x) (Sz_top g4) ?_
              refine lv_aload_n hx hb dX2_tree_109 rfl (lv_at hl 0 rfl) ?_
              refine va_get (D := D) (ci := 2) (v := .ref (am 10)) (C := RX2) (T := TX2) (N := 25) hx hb hW iMD hown hK hP 0 rfl rfl 19 (by decide) (hW _ tw_533) (fun _ h9 => h9) rfl dX2_tree_110 ?_
              refine lv_aload_n hx hb dX2_tree_113 rfl (lv_at hl 0 rfl) ?_
              refine va_get (D := D) (ci := 2) (v := .int (nI (s1.length + 2))) (C := RX2) (T := TX2) (N := 25) hx hb hW iMD hown hK hP 0 rfl rfl 17 (by decide) (hW _ tw_531) (fun _ h9 => h9) rfl dX2_tree_114 ?_
              refine lv_iconst (v := nI 2) hx hb dX2_tree_117 (by decide) ?_
              refine lv_isub hx hb dX2_tree_118 ?_
              refine lv_eqi (v := nI s1.length) ((pk_sub (by omega)).trans (congrArg nI (by omega))) ?_
              refine m_ld (X := wMx om am cZ th tp lv dy pv pm (nI a) (nI (s1.length + 2)) wy gone oR) hx hb hK hP 0 10 s1.length rfl (by decide) (show s1.length < 8 by omega) (by decide) dX2_tree_119 ?_
              refine lv_eqi (v := nI y) (Sz_snd g4) ?_
              refine lv_icmp_ne (tgt := 130) hx hb dX2_tree_120 (by decide) (fun he => ?_) (fun he => ?_)
              · have gn : ¬ x = y := fun h => he (by rw [h])
                have g9 : (a, m2) = trI fr (i + 1) (b, mem) := by rw [trI_s, ← g6]; exact (if_neg gn).symm
                have gA : x :: y :: s1 = stk (i + 1) := by rw [← g7]; exact (if_neg gn).symm
                have gB : s1.length + 2 = (stk (i + 1)).length := by rw [← gA]; rfl
                have hP : va_P D vwCl (wM om am cI cZ th tp lv dy pv pm (nI (trI fr (i + 1) (b, mem)).1) (nI (stk (i + 1)).length) wy gone oR ((trI fr (i + 1) (b, mem)).2)) H := by rw [← gB, ← g9]; exact hP
                have hD : va_D A (wM om am cI cZ th tp lv dy pv pm (nI (trI fr (i + 1) (b, mem)).1) (nI (stk (i + 1)).length) wy gone oR ((trI fr (i + 1) (b, mem)).2)) := by rw [← gB, ← g9]; exact hD
                refine lv_iinc (v := nI (fr + (i + 1))) (lv' := [(3, .int (nI (fr + (i + 1)))), (0, .ref (om 0)), (1, .int (nI fr)), (2, .int (nI n))]) hx hb dX2_tree_130 hl (k := 3) rfl (nI_1 (fr + i)) (by decide) rfl (fun ls hl => ?_)
                refine lv_goto (tgt := 20) hx hb dX2_tree_133 (by decide) ?_
                exact ih (i + 1) H locs ls (by omega) hP hD hS (lv_sub hl [1, 2, 3, 0] rfl)
              · have gn : x = y := (nI_eq (by omega) (by omega)).mp he
                refine lv_aload_n hx hb dX2_tree_123 rfl (lv_at hl 0 rfl) ?_
                refine mv_callV (C := RX2) (As := []) (rest := []) ⟨hx, hb, hml, hown, hW⟩ (n_join (s1.length + 2) (by omega) (by omega) a m2 (g5)) nE_ok (cwV 0 hW (gV tw_649 tw_651 tv_X2_join tw_3 tw_652) rfl rfl rfl (by decide +kernel) ⟨Nat.le_of_ble_eq_true rfl, Nat.le_of_ble_eq_true rfl⟩) (va_recv hK hP (ci := 2) (q0 := 0) rfl rfl) hP hD hK hS hA hT rfl hl.1 rfl (Nat.le_of_ble_eq_true rfl) dX2_tree_124 ⟨Nat.zero_le _, Nat.zero_le _⟩ (fun H locs hP hD hS => ?_)
                have hP : va_P D vwCl (wM om am cI cZ th tp lv dy pv pm (nI (jn (s1.length + 2) (a, m2)).1) (nI (s1.length + 2 - 1)) wy gone oR ((jn (s1.length + 2) (a, m2)).2)) H := hP
                have hD : va_D A (wM om am cI cZ th tp lv dy pv pm (nI (jn (s1.length + 2) (a, m2)).1) (nI (s1.length + 2 - 1)) wy gone oR ((jn (s1.length + 2) (a, m2)).2)) := hD
                refine lv_goto (tgt := 90) hx hb dX2_tree_127 (by decide) ?_
                exact ihkm H locs ls ((x + y) :: s1) ((jn (s1.length + 2) (a, m2)).1) ((jn (s1.length + 2) (a, m2)).2) ⟨by simp, by simp only [List.length_cons]; omega, by simp only [List.sum_cons]; omega, Sz_jn g4, fun j hj => by rw [jn_k (by decide) (by decide) (by decide) (by decide) (by decide) (by decide)]; exact g5 j hj, by rw [← g6]; exact (if_pos gn).symm, by rw [← g7]; exact (if_pos gn).symm⟩ hP hD hS (lv_sub hl [0, 1, 2, 3] rfl)
        have lc : ∀ (kr r : Nat) (H : Heap) (locs : List Loc) (ls : Array Slot), r + kr = 32 → va_P D vwCl (wM om am cI cZ th tp lv dy pv pm (nI (trI fr i (b, mem)).1) (nI (stk i).length) wy gone oR (rcp 9 (32 * (stk i).length) 6 (32 * (fr + i)) r ((trI fr i (b, mem)).2))) H → va_D A (wM om am cI cZ th tp lv dy pv pm (nI (trI fr i (b, mem)).1) (nI (stk i).length) wy gone oR (rcp 9 (32 * (stk i).length) 6 (32 * (fr + i)) r ((trI fr i (b, mem)).2))) → va_S A s.heap H locs → lv_has ls 5 [(0, .ref (om 0)), (1, .int (nI fr)), (2, .int (nI n)), (3, .int (nI (fr + i))), (4, .int (nI r))] → W p l e ({ frames := 5, cells := 0, slots := 0, locals := 180 }) s m ([.ref (om 0), .int (nI fr), .int (nI n)] : List Value).toArray below meth c H locs 0 0 (MQ below (xQv D vwCl (wM om am cI cZ th tp lv dy pv pm (nI (m_tree fr n (b, mem)).1) (ptT n pt) wy gone oR ((m_tree fr n (b, mem)).2)) A) ([.ref (om 0), .int (nI fr), .int (nI n)] : List Value).toArray s 0 0 A) (F0 m 30 ls []) := by
          intro kr
          induction kr with
          | zero =>
            intro r H locs ls hk hP hD hS hl
            have hr9 : r = 32 := by omega
            rw [hr9, ← P_rcp_e] at hP hD
            refine lv_iload hx hb dX2_tree_30 (lv_at hl 4 rfl) ?_
            refine lv_bipush (v := nI 32) hx hb dX2_tree_32 (by decide) ?_
            refine lv_icmp_ge (tgt := 70) hx hb dX2_tree_34 (by decide) (fun _ => ?_) (fun hq9 => absurd (nI_le (by omega) (by omega)) hq9)
            refine lv_aload_n hx hb dX2_tree_70 rfl (lv_at hl 0 rfl) ?_
            refine va_get (D := D) (ci := 2) (v := .ref (am 10)) (C := RX2) (T := TX2) (N := 25) hx hb hW iMD hown hK hP 0 rfl rfl 19 (by decide) (hW _ tw_533) (fun _ h9 => h9) rfl dX2_tree_71 ?_
            refine lv_aload_n hx hb dX2_tree_74 rfl (lv_at hl 0 rfl) ?_
            refine va_get (D := D) (ci := 2) (v := .int (nI (stk i).length)) (C := RX2) (T := TX2) (N := 25) hx hb hW iMD hown hK hP 0 rfl rfl 17 (by decide) (hW _ tw_531) (fun _ h9 => h9) rfl dX2_tree_75 ?_
            refine lv_iconst (v := nI 1) hx hb dX2_tree_78 (by decide) ?_
            refine m_st (X := wMx om am cZ th tp lv dy pv pm (nI (trI fr i (b, mem)).1) (nI (stk i).length) wy gone oR) hx hb hK hP hD hS 0 10 ((stk i).length) rfl (by decide) (show (stk i).length < 8 by omega) (by decide) dX2_tree_79 (fun H locs hP hD hS => ?_)
            have hP : va_P D vwCl (wM om am cI cZ th tp lv dy pv pm (nI (trI fr i (b, mem)).1) (nI (stk i).length) wy gone oR ((psh (fr + i) (stk i).length (trI fr i (b, mem))).2)) H := hP
            have hD : va_D A (wM om am cI cZ th tp lv dy pv pm (nI (trI fr i (b, mem)).1) (nI (stk i).length) wy gone oR ((psh (fr + i) (stk i).length (trI fr i (b, mem))).2)) := hD
            refine lv_aload_n hx hb dX2_tree_80 rfl (lv_at hl 0 rfl) ?_
            refine lv_dup hx hb dX2_tree_81 rfl ?_
            refine va_get (D := D) (ci := 2) (v := .int (nI (stk i).length)) (C := RX2) (T := TX2) (N := 25) hx hb hW iMD hown hK hP 0 rfl rfl 17 (by decide) (hW _ tw_531) (fun _ h9 => h9) rfl dX2_tree_82 ?_
            refine lv_iconst (v := nI 1) hx hb dX2_tree_85 (by decide) ?_
            refine lv_iadd hx hb dX2_tree_86 ?_
            refine lv_eqi (v := nI (1 :: stk i).length) (nI_1 (stk i).length) ?_
            refine va_put (D := D) (ci := 2) (v := .int (nI (1 :: stk i).length)) (ty := .int) (C := RX2) (T := TX2) (N := 25) hx hb hW iMD tyX2 tyX2_ok nmX2 hown hK hP hD hS 0 rfl rfl 17 (by decide) (hW _ tw_531) (fun _ h9 => h9) rfl (by decide +kernel) rfl rfl (Nat.le_of_ble_eq_true rfl) dX2_tree_87 (fun H locs hP hD hS => ?_)
            have hP : va_P D vwCl (wM om am cI cZ th tp lv dy pv pm (nI (psh (fr + i) (stk i).length (trI fr i (b, mem))).1) (nI (1 :: stk i).length) wy gone oR ((psh (fr + i) (stk i).length (trI fr i (b, mem))).2)) H := hP
            have hD : va_D A (wM om am cI cZ th tp lv dy pv pm (nI (psh (fr + i) (stk i).length (trI fr i (b, mem))).1) (nI (1 :: stk i).length) wy gone oR ((psh (fr + i) (stk i).length (trI fr i (b, mem))).2)) := hD
            exact lm 8 H locs ls (1 :: stk i) ((psh (fr + i) (stk i).length (trI fr i (b, mem))).1) ((psh (fr + i) (stk i).length (trI fr i (b, mem))).2) ⟨by simp, by simp only [List.length_cons]; omega, by simp only [List.sum_cons]; omega, Sz_psh hSz _, fun j hj => by rw [psh_k (by decide) (by decide), trI_k (by decide) (by decide) (by decide) (by decide) (by decide) (by decide)]; exact hkc j hj, rfl, rfl⟩ hP hD hS (lv_sub hl [0, 1, 2, 3] rfl)
          | succ kr ihkr =>
            intro r H locs ls hk hP hD hS hl
            refine lv_iload hx hb dX2_tree_30 (lv_at hl 4 rfl) ?_
            refine lv_bipush (v := nI 32) hx hb dX2_tree_32 (by decide) ?_
            refine lv_icmp_ge (tgt := 70) hx hb dX2_tree_34 (by decide) (fun hq9 => absurd hq9 (nI_ge (by omega) (by decide))) (fun _ => ?_)
            refine lv_aload_n hx hb dX2_tree_37 rfl (lv_at hl 0 rfl) ?_
            refine va_get (D := D) (ci := 2) (v := .ref (am 9)) (C := RX2) (T := TX2) (N := 25) hx hb hW iMD hown hK hP 0 rfl rfl 18 (by decide) (hW _ tw_532) (fun _ h9 => h9) rfl dX2_tree_38 ?_
            refine lv_bipush (v := nI 32) hx hb dX2_tree_41 (by decide) ?_
            refine lv_aload_n hx hb dX2_tree_43 rfl (lv_at hl 0 rfl) ?_
            refine va_get (D := D) (ci := 2) (v := .int (nI (stk i).length)) (C := RX2) (T := TX2) (N := 25) hx hb hW iMD hown hK hP 0 rfl rfl 17 (by decide) (hW _ tw_531) (fun _ h9 => h9) rfl dX2_tree_44 ?_
            refine lv_imul hx hb dX2_tree_47 ?_
            refine lv_eqi (v := nI (32 * ((stk i).length))) (pk_mul _ _) ?_
            refine lv_iload hx hb dX2_tree_48 (lv_at hl 4 rfl) ?_
            refine lv_iadd hx hb dX2_tree_50 ?_
            refine lv_eqi (v := nI (32 * ((stk i).length) + r)) (nI_add _ _) ?_
            refine lv_aload_n hx hb dX2_tree_51 rfl (lv_at hl 0 rfl) ?_
            refine va_get (D := D) (ci := 2) (v := .ref (am 6)) (C := RX2) (T := TX2) (N := 25) hx hb hW iMD hown hK hP 0 rfl rfl 4 (by decide) (hW _ tw_518) (fun _ h9 => h9) rfl dX2_tree_52 ?_
            refine lv_bipush (v := nI 32) hx hb dX2_tree_55 (by decide) ?_
            refine lv_iload_n hx hb dX2_tree_57 rfl (lv_at hl 3 rfl) ?_
            refine lv_imul hx hb dX2_tree_58 ?_
            refine lv_eqi (v := nI (32 * (fr + i))) (pk_mul _ _) ?_
            refine lv_iload hx hb dX2_tree_59 (lv_at hl 4 rfl) ?_
            refine lv_iadd hx hb dX2_tree_61 ?_
            refine lv_eqi (v := nI (32 * (fr + i) + r)) (nI_add _ _) ?_
            refine m_ld (X := wMx om am cZ th tp lv dy pv pm (nI (trI fr i (b, mem)).1) (nI (stk i).length) wy gone oR) hx hb hK hP 0 6 (32 * (fr + i) + r) rfl (by decide) (show 32 * (fr + i) + r < 768 by omega) (by decide) dX2_tree_62 ?_
            refine m_st (X := wMx om am cZ th tp lv dy pv pm (nI (trI fr i (b, mem)).1) (nI (stk i).length) wy gone oR) hx hb hK hP hD hS 0 9 (32 * ((stk i).length) + r) rfl (by decide) (show 32 * ((stk i).length) + r < 256 by omega) (by decide) dX2_tree_63 (fun H locs hP hD hS => ?_)
            have hP : va_P D vwCl (wM om am cI cZ th tp lv dy pv pm (nI (trI fr i (b, mem)).1) (nI (stk i).length) wy gone oR (rcp 9 (32 * (stk i).length) 6 (32 * (fr + i)) (r + 1) ((trI fr i (b, mem)).2))) H := by rw [rcp_s]; exact hP
            have hD : va_D A (wM om am cI cZ th tp lv dy pv pm (nI (trI fr i (b, mem)).1) (nI (stk i).length) wy gone oR (rcp 9 (32 * (stk i).length) 6 (32 * (fr + i)) (r + 1) ((trI fr i (b, mem)).2))) := by rw [rcp_s]; exact hD
            refine lv_iinc (v := nI (r + 1)) (lv' := [(4, .int (nI (r + 1))), (0, .ref (om 0)), (1, .int (nI fr)), (2, .int (nI n)), (3, .int (nI (fr + i)))]) hx hb dX2_tree_64 hl (k := 4) rfl (nI_1 _) (by decide) rfl (fun ls hl => ?_)
            refine lv_goto (tgt := 30) hx hb dX2_tree_67 (by decide) ?_
            exact ihkr (r + 1) H locs ls (by omega) hP hD hS (lv_sub hl [1, 2, 3, 4, 0] rfl)
        refine lv_iload_n hx hb dX2_tree_20 rfl (lv_at hl 3 rfl) ?_
        refine lv_iload_n hx hb dX2_tree_21 rfl (lv_at hl 1 rfl) ?_
        refine lv_iload_n hx hb dX2_tree_22 rfl (lv_at hl 2 rfl) ?_
        refine lv_iadd hx hb dX2_tree_23 ?_
        refine lv_eqi (v := nI (fr + n)) (nI_add _ _) ?_
        refine lv_icmp_ge (tgt := 136) hx hb dX2_tree_24 (by decide) (fun hq9 => absurd hq9 (nI_ge (by omega) (by omega))) (fun _ => ?_)
        refine lv_iconst (v := nI 0) hx hb dX2_tree_27 (by decide) ?_
        refine lv_istore (lv' := [(4, .int (nI 0)), (0, .ref (om 0)), (1, .int (nI fr)), (2, .int (nI n)), (3, .int (nI (fr + i)))]) hx hb dX2_tree_28 hl (by decide) rfl (fun ls hl => ?_)
        have hP : va_P D vwCl (wM om am cI cZ th tp lv dy pv pm (nI (trI fr i (b, mem)).1) (nI (stk i).length) wy gone oR (rcp 9 (32 * (stk i).length) 6 (32 * (fr + i)) 0 ((trI fr i (b, mem)).2))) H := by rw [rcp_0]; exact hP
        have hD : va_D A (wM om am cI cZ th tp lv dy pv pm (nI (trI fr i (b, mem)).1) (nI (stk i).length) wy gone oR (rcp 9 (32 * (stk i).length) 6 (32 * (fr + i)) 0 ((trI fr i (b, mem)).2))) := by rw [rcp_0]; exact hD
        exact lc 32 0 H locs ls (by omega) hP hD hS (lv_sub hl [1, 2, 3, 4, 0] rfl)
    refine lv_aload_n hx hb dX2_tree_13 rfl (lv_at hl 0 rfl) ?_
    refine lv_iconst (v := nI 0) hx hb dX2_tree_14 (by decide) ?_
    refine va_put (D := D) (ci := 2) (v := .int (nI 0)) (ty := .int) (C := RX2) (T := TX2) (N := 25) hx hb hW iMD tyX2 tyX2_ok nmX2 hown hK hP hD hS 0 rfl rfl 17 (by decide) (hW _ tw_531) (fun _ h9 => h9) rfl (by decide +kernel) rfl rfl (Nat.le_of_ble_eq_true rfl) dX2_tree_15 (fun H locs hP hD hS => ?_)
    have hP : va_P D vwCl (wM om am cI cZ th tp lv dy pv pm (nI b) (nI 0) wy gone oR mem) H := hP
    have hD : va_D A (wM om am cI cZ th tp lv dy pv pm (nI b) (nI 0) wy gone oR mem) := hD
    refine lv_iload_n hx hb dX2_tree_18 rfl (lv_at hl 1 rfl) ?_
    refine lv_istore_n (lv' := [(3, .int (nI fr)), (0, .ref (om 0)), (1, .int (nI fr)), (2, .int (nI n))]) hx hb dX2_tree_19 rfl hl (by decide) rfl (fun ls hl => ?_)
    exact lo n 0 H locs ls (by omega) hP hD hS (lv_sub hl [1, 2, 3, 0] rfl)
  · have hn0 : n = 0 := (nI_eq (by omega) (by decide)).mp h0
    have hT1 : ptT n pt = pt := if_pos hn0
    have hT2 : m_tree fr n (b, mem) = P_fin 2 (0, mem) := if_pos hn0
    refine lv_aload_n hx hb dX2_tree_4 rfl (lv_at hl 0 rfl) ?_
    refine mv_callV (C := RX2) (As := []) (rest := []) ⟨hx, hb, hml, hown, hW⟩ (n_begin mem) nE_ok (cwV 0 hW (gV tw_609 tw_611 tv_X2_begin tw_3 tw_612) rfl rfl rfl (by decide +kernel) ⟨Nat.le_of_ble_eq_true rfl, Nat.le_of_ble_eq_true rfl⟩) (va_recv hK hP (ci := 2) (q0 := 0) rfl rfl) hP hD hK hS hA hT rfl hl.1 rfl (Nat.le_of_ble_eq_true rfl) dX2_tree_5 ⟨Nat.zero_le _, Nat.zero_le _⟩ (fun H locs hP hD hS => ?_)
    have hP : va_P D vwCl (wM om am cI cZ th tp lv dy pv pm (nI 0) pt wy gone oR mem) H := hP
    have hD : va_D A (wM om am cI cZ th tp lv dy pv pm (nI 0) pt wy gone oR mem) := hD
    refine lv_aload_n hx hb dX2_tree_8 rfl (lv_at hl 0 rfl) ?_
    refine mv_callV (C := RX2) (As := []) (rest := []) ⟨hx, hb, hml, hown, hW⟩ (n_digest0 0 (by decide) mem (hkc)) nE_ok (cwV 0 hW (gV tw_617 tw_619 tv_X2_digest0 tw_3 tw_620) rfl rfl rfl (by decide +kernel) ⟨Nat.le_of_ble_eq_true rfl, Nat.le_of_ble_eq_true rfl⟩) (va_recv hK hP (ci := 2) (q0 := 0) rfl rfl) hP hD hK hS hA hT rfl hl.1 rfl (Nat.le_of_ble_eq_true rfl) dX2_tree_9 ⟨Nat.zero_le _, Nat.zero_le _⟩ (fun H locs hP hD hS => ?_)
    have hP : va_P D vwCl (wM om am cI cZ th tp lv dy pv pm (nI (P_fin 2 (0, mem)).1) pt wy gone oR ((P_fin 2 (0, mem)).2)) H := hP
    have hD : va_D A (wM om am cI cZ th tp lv dy pv pm (nI (P_fin 2 (0, mem)).1) pt wy gone oR ((P_fin 2 (0, mem)).2)) := hD
    have hP : va_P D vwCl (wM om am cI cZ th tp lv dy pv pm (nI (m_tree fr n (b, mem)).1) (ptT n pt) wy gone oR ((m_tree fr n (b, mem)).2)) H := by rw [hT1, hT2]; exact hP
    have hD : va_D A (wM om am cI cZ th tp lv dy pv pm (nI (m_tree fr n (b, mem)).1) (ptT n pt) wy gone oR ((m_tree fr n (b, mem)).2)) := by rw [hT1, hT2]; exact hD
    exact mv_ret hx hb hr hlk hS hP hD dX2_tree_12
