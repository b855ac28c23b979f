set_option maxHeartbeats 4000000 in
set_option maxRecDepth 100000 in
theorem n_block {l : Launch} {D : va_G} {om am : Nat → Nat} {cI cZ cG : ClassId} {th tp lv dy pv pm by_ pt wy : Int32} {gone oR : Nat → Int32} (f : Nat) (hf : f + 64 ≤ 256) (mem : xMem) (hkc : ∀ i, i < 64 → mem 13 i = kc i) : MV l nE yX2_block (.code yX2_block cX2_block 13 none :: tW) ({ frames := 1, cells := 0, slots := 0, locals := 24 }) D vwCl (tC cI cZ cG) [.ref (om 0), .int (nI f)] (wM om am cI cZ th tp lv dy pv pm by_ pt wy gone oR mem) (wM om am cI cZ th tp lv dy pv pm by_ pt wy gone oR (p_stir (p_spread f mem))) := by
  refine MV.ofW (by decide +kernel) rfl (Nat.le_of_ble_eq_true rfl) ?_
  intro p e s m below meth c A ls hx hb hr hts hown hlk hml hA hP hK hD hT hl
  have hS : va_S A s.heap s.heap [] := va_S.rf
  have hown : s.vm.findClass RX2 = some m.cls := hown
  have hW : ∀ w ∈ tW, w.before _ s = true := fun w h => hts w (List.mem_cons_of_mem _ h)
  have hl : lv_has ls 13 [(0, .ref (om 0)), (1, .int (nI f))] := hl
  have hk2 : ∀ i, i < 64 → p_spread f mem 13 i = kc i := fun i hi => by rw [p_spread_k (by decide)]; exact hkc i hi
  have hm2 : itr p_w2 48 (itr (p_w1 f) 16 mem) = p_spread f mem := rfl
  generalize p_spread f mem = m1 at hk2 hm2 ⊢
  have loop3 : ∀ (k i : Nat) (H : Heap) (locs : List Loc) (ls : Array Slot), i + k = 64 → va_P D vwCl (wM om am cI cZ th tp lv dy pv pm by_ pt wy gone oR m1) H → va_D A (wM om am cI cZ th tp lv dy pv pm by_ pt wy gone oR m1) → va_S A s.heap H locs → lv_has ls 13 [(0, .ref (om 0)), (2, .int (p_rnds (m1) i 0)), (3, .int (p_rnds (m1) i 1)), (4, .int (p_rnds (m1) i 2)), (5, .int (p_rnds (m1) i 3)), (6, .int (p_rnds (m1) i 4)), (7, .int (p_rnds (m1) i 5)), (8, .int (p_rnds (m1) i 6)), (9, .int (p_rnds (m1) i 7)), (10, .int (nI i))] → W p l e ({ frames := 1, cells := 0, slots := 0, locals := 24 }) s m ([.ref (om 0), .int (nI f)] : List Value).toArray below meth c H locs 0 0 (MQ below (xQv D vwCl (wM om am cI cZ th tp lv dy pv pm by_ pt wy gone oR (p_stir m1)) A) ([.ref (om 0), .int (nI f)] : List Value).toArray s 0 0 A) (F0 m 253 ls []) := by
    intro k
    induction k with
    | zero =>
      intro i H locs ls hk hP hD hS hl
      have hk9 : i = 64 := by omega
      rw [hk9] at hl
      refine lv_iload hx hb dX2_block_253 (lv_at hl 9 rfl) ?_
      refine lv_bipush (v := nI 64) hx hb dX2_block_255 (by decide) ?_
      refine lv_icmp_ge (tgt := 393) hx hb dX2_block_257 (by decide) (fun _ => ?_) (fun hq9 => absurd (by decide) hq9)
      refine lv_aload_n hx hb dX2_block_393 rfl (lv_at hl 0 rfl) ?_
      refine va_get (D := D) (ci := 2) (v := .ref (am 5)) (C := RX2) (T := TX2) (N := 25) hx hb hW iMD hown hK hP 0 rfl rfl 16 (by decide) (hW _ tw_530) (fun _ h9 => h9) rfl dX2_block_394 ?_
      refine lv_iconst (v := nI 0) hx hb dX2_block_397 (by decide) ?_
      refine lv_aload_n hx hb dX2_block_398 rfl (lv_at hl 0 rfl) ?_
      refine va_get (D := D) (ci := 2) (v := .ref (am 5)) (C := RX2) (T := TX2) (N := 25) hx hb hW iMD hown hK hP 0 rfl rfl 16 (by decide) (hW _ tw_530) (fun _ h9 => h9) rfl dX2_block_399 ?_
      refine lv_iconst (v := nI 0) hx hb dX2_block_402 (by decide) ?_
      refine m_ld (X := wMx om am cZ th tp lv dy pv pm by_ pt wy gone oR) hx hb hK hP 0 5 0 rfl (by decide) (show 0 < 8 by omega) (by decide) dX2_block_403 ?_
      refine lv_iload_n hx hb dX2_block_404 rfl (lv_at hl 1 rfl) ?_
      refine lv_iadd hx hb dX2_block_405 ?_
      refine m_st (X := wMx om am cZ th tp lv dy pv pm by_ pt wy gone oR) hx hb hK hP hD hS 0 5 0 rfl (by decide) (show 0 < 8 by omega) (by decide) dX2_block_406 (fun H locs hP hD hS => ?_)
      have hP : va_P D vwCl (wM om am cI cZ th tp lv dy pv pm by_ pt wy gone oR (p_add 0 (p_rnds (m1) 64 0) (m1))) H := hP
      have hD : va_D A (wM om am cI cZ th tp lv dy pv pm by_ pt wy gone oR (p_add 0 (p_rnds (m1) 64 0) (m1))) := hD
      refine lv_aload_n hx hb dX2_block_407 rfl (lv_at hl 0 rfl) ?_
      refine va_get (D := D) (ci := 2) (v := .ref (am 5)) (C := RX2) (T := TX2) (N := 25) hx hb hW iMD hown hK hP 0 rfl rfl 16 (by decide) (hW _ tw_530) (fun _ h9 => h9) rfl dX2_block_408 ?_
      refine lv_iconst (v := nI 1) hx hb dX2_block_411 (by decide) ?_
      refine lv_aload_n hx hb dX2_block_412 rfl (lv_at hl 0 rfl) ?_
      refine va_get (D := D) (ci := 2) (v := .ref (am 5)) (C := RX2) (T := TX2) (N := 25) hx hb hW iMD hown hK hP 0 rfl rfl 16 (by decide) (hW _ tw_530) (fun _ h9 => h9) rfl dX2_block_413 ?_
      refine lv_iconst (v := nI 1) hx hb dX2_block_416 (by decide) ?_
      refine m_ld (X := wMx om am cZ th tp lv dy pv pm by_ pt wy gone oR) hx hb hK hP 0 5 1 rfl (by decide) (show 1 < 8 by omega) (by decide) dX2_block_417 ?_
      refine lv_iload_n hx hb dX2_block_418 rfl (lv_at hl 2 rfl) ?_
      refine lv_iadd hx hb dX2_block_419 ?_
      refine m_st (X := wMx om am cZ th tp lv dy pv pm by_ pt wy gone oR) hx hb hK hP hD hS 0 5 1 rfl (by decide) (show 1 < 8 by omega) (by decide) dX2_block_420 (fun H locs hP hD hS => ?_)
      have hP : va_P D vwCl (wM om am cI cZ th tp lv dy pv pm by_ pt wy gone oR (p_add 1 (p_rnds (m1) 64 1) (p_add 0 (p_rnds (m1) 64 0) (m1)))) H := hP
      have hD : va_D A (wM om am cI cZ th tp lv dy pv pm by_ pt wy gone oR (p_add 1 (p_rnds (m1) 64 1) (p_add 0 (p_rnds (m1) 64 0) (m1)))) := hD
      refine lv_aload_n hx hb dX2_block_421 rfl (lv_at hl 0 rfl) ?_
      refine va_get (D := D) (ci := 2) (v := .ref (am 5)) (C := RX2) (T := TX2) (N := 25) hx hb hW iMD hown hK hP 0 rfl rfl 16 (by decide) (hW _ tw_530) (fun _ h9 => h9) rfl dX2_block_422 ?_
      refine lv_iconst (v := nI 2) hx hb dX2_block_425 (by decide) ?_
      refine lv_aload_n hx hb dX2_block_426 rfl (lv_at hl 0 rfl) ?_
      refine va_get (D := D) (ci := 2) (v := .ref (am 5)) (C := RX2) (T := TX2) (N := 25) hx hb hW iMD hown hK hP 0 rfl rfl 16 (by decide) (hW _ tw_530) (fun _ h9 => h9) rfl dX2_block_427 ?_
      refine lv_iconst (v := nI 2) hx hb dX2_block_430 (by decide) ?_
      refine m_ld (X := wMx om am cZ th tp lv dy pv pm by_ pt wy gone oR) hx hb hK hP 0 5 2 rfl (by decide) (show 2 < 8 by omega) (by decide) dX2_block_431 ?_
      refine lv_iload hx hb dX2_block_432 (lv_at hl 3 rfl) ?_
      refine lv_iadd hx hb dX2_block_434 ?_
      refine m_st (X := wMx om am cZ th tp lv dy pv pm by_ pt wy gone oR) hx hb hK hP hD hS 0 5 2 rfl (by decide) (show 2 < 8 by omega) (by decide) dX2_block_435 (fun H locs hP hD hS => ?_)
      have hP : va_P D vwCl (wM om am cI cZ th tp lv dy pv pm by_ pt wy gone oR (p_add 2 (p_rnds (m1) 64 2) (p_add 1 (p_rnds (m1) 64 1) (p_add 0 (p_rnds (m1) 64 0) (m1))))) H := hP
      have hD : va_D A (wM om am cI cZ th tp lv dy pv pm by_ pt wy gone oR (p_add 2 (p_rnds (m1) 64 2) (p_add 1 (p_rnds (m1) 64 1) (p_add 0 (p_rnds (m1) 64 0) (m1))))) := hD
      refine lv_aload_n hx hb dX2_block_436 rfl (lv_at hl 0 rfl) ?_
      refine va_get (D := D) (ci := 2) (v := .ref (am 5)) (C := RX2) (T := TX2) (N := 25) hx hb hW iMD hown hK hP 0 rfl rfl 16 (by decide) (hW _ tw_530) (fun _ h9 => h9) rfl dX2_block_437 ?_
      refine lv_iconst (v := nI 3) hx hb dX2_block_440 (by decide) ?_
      refine lv_aload_n hx hb dX2_block_441 rfl (lv_at hl 0 rfl) ?_
      refine va_get (D := D) (ci := 2) (v := .ref (am 5)) (C := RX2) (T := TX2) (N := 25) hx hb hW iMD hown hK hP 0 rfl rfl 16 (by decide) (hW _ tw_530) (fun _ h9 => h9) rfl dX2_block_442 ?_
      refine lv_iconst (v := nI 3) hx hb dX2_block_445 (by decide) ?_
      refine m_ld (X := wMx om am cZ th tp lv dy pv pm by_ pt wy gone oR) hx hb hK hP 0 5 3 rfl (by decide) (show 3 < 8 by omega) (by decide) dX2_block_446 ?_
      refine lv_iload hx hb dX2_block_447 (lv_at hl 4 rfl) ?_
      refine lv_iadd hx hb dX2_block_449 ?_
      refine m_st (X := wMx om am cZ th tp lv dy pv pm by_ pt wy gone oR) hx hb hK hP hD hS 0 5 3 rfl (by decide) (show 3 < 8 by omega) (by decide) dX2_block_450 (fun H locs hP hD hS => ?_)
      have hP : va_P D vwCl (wM om am cI cZ th tp lv dy pv pm by_ pt wy gone oR (p_add 3 (p_rnds (m1) 64 3) (p_add 2 (p_rnds (m1) 64 2) (p_add 1 (p_rnds (m1) 64 1) (p_add 0 (p_rnds (m1) 64 0) (m1)))))) H := hP
      have hD : va_D A (wM om am cI cZ th tp lv dy pv pm by_ pt wy gone oR (p_add 3 (p_rnds (m1) 64 3) (p_add 2 (p_rnds (m1) 64 2) (p_add 1 (p_rnds (m1) 64 1) (p_add 0 (p_rnds (m1) 64 0) (m1)))))) := hD
      refine lv_aload_n hx hb dX2_block_451 rfl (lv_at hl 0 rfl) ?_
      refine va_get (D := D) (ci := 2) (v := .ref (am 5)) (C := RX2) (T := TX2) (N := 25) hx hb hW iMD hown hK hP 0 rfl rfl 16 (by decide) (hW _ tw_530) (fun _ h9 => h9) rfl dX2_block_452 ?_
      refine lv_iconst (v := nI 4) hx hb dX2_block_455 (by decide) ?_
      refine lv_aload_n hx hb dX2_block_456 rfl (lv_at hl 0 rfl) ?_
      refine va_get (D := D) (ci := 2) (v := .ref (am 5)) (C := RX2) (T := TX2) (N := 25) hx hb hW iMD hown hK hP 0 rfl rfl 16 (by decide) (hW _ tw_530) (fun _ h9 => h9) rfl dX2_block_457 ?_
      refine lv_iconst (v := nI 4) hx hb dX2_block_460 (by decide) ?_
      refine m_ld (X := wMx om am cZ th tp lv dy pv pm by_ pt wy gone oR) hx hb hK hP 0 5 4 rfl (by decide) (show 4 < 8 by omega) (by decide) dX2_block_461 ?_
      refine lv_iload hx hb dX2_block_462 (lv_at hl 5 rfl) ?_
      refine lv_iadd hx hb dX2_block_464 ?_
      refine m_st (X := wMx om am cZ th tp lv dy pv pm by_ pt wy gone oR) hx hb hK hP hD hS 0 5 4 rfl (by decide) (show 4 < 8 by omega) (by decide) dX2_block_465 (fun H locs hP hD hS => ?_)
      have hP : va_P D vwCl (wM om am cI cZ th tp lv dy pv pm by_ pt wy gone oR (p_add 4 (p_rnds (m1) 64 4) (p_add 3 (p_rnds (m1) 64 3) (p_add 2 (p_rnds (m1) 64 2) (p_add 1 (p_rnds (m1) 64 1) (p_add 0 (p_rnds (m1) 64 0) (m1))))))) H := hP
      have hD : va_D A (wM om am cI cZ th tp lv dy pv pm by_ pt wy gone oR (p_add 4 (p_rnds (m1) 64 4) (p_add 3 (p_rnds (m1) 64 3) (p_add 2 (p_rnds (m1) 64 2) (p_add 1 (p_rnds (m1) 64 1) (p_add 0 (p_rnds (m1) 64 0) (m1))))))) := hD
      refine lv_aload_n hx hb dX2_block_466 rfl (lv_at hl 0 rfl) ?_
      refine va_get (D := D) (ci := 2) (v := .ref (am 5)) (C := RX2) (T := TX2) (N := 25) hx hb hW iMD hown hK hP 0 rfl rfl 16 (by decide) (hW _ tw_530) (fun _ h9 => h9) rfl dX2_block_467 ?_
      refine lv_iconst (v := nI 5) hx hb dX2_block_470 (by decide) ?_
      refine lv_aload_n hx hb dX2_block_471 rfl (lv_at hl 0 rfl) ?_
      refine va_get (D := D) (ci := 2) (v := .ref (am 5)) (C := RX2) (T := TX2) (N := 25) hx hb hW iMD hown hK hP 0 rfl rfl 16 (by decide) (hW _ tw_530) (fun _ h9 => h9) rfl dX2_block_472 ?_
      refine lv_iconst (v := nI 5) hx hb dX2_block_475 (by decide) ?_
      refine m_ld (X := wMx om am cZ th tp lv dy pv pm by_ pt wy gone oR) hx hb hK hP 0 5 5 rfl (by decide) (show 5 < 8 by omega) (by decide) dX2_block_476 ?_
      refine lv_iload hx hb dX2_block_477 (lv_at hl 6 rfl) ?_
      refine lv_iadd hx hb dX2_block_479 ?_
      refine m_st (X := wMx om am cZ th tp lv dy pv pm by_ pt wy gone oR) hx hb hK hP hD hS 0 5 5 rfl (by decide) (show 5 < 8 by omega) (by decide) dX2_block_480 (fun H locs hP hD hS => ?_)
      have hP : va_P D vwCl (wM om am cI cZ th tp lv dy pv pm by_ pt wy gone oR (p_add 5 (p_rnds (m1) 64 5) (p_add 4 (p_rnds (m1) 64 4) (p_add 3 (p_rnds (m1) 64 3) (p_add 2 (p_rnds (m1) 64 2) (p_add 1 (p_rnds (m1) 64 1) (p_add 0 (p_rnds (m1) 64 0) (m1)))))))) H := hP
      have hD : va_D A (wM om am cI cZ th tp lv dy pv pm by_ pt wy gone oR (p_add 5 (p_rnds (m1) 64 5) (p_add 4 (p_rnds (m1) 64 4) (p_add 3 (p_rnds (m1) 64 3) (p_add 2 (p_rnds (m1) 64 2) (p_add 1 (p_rnds (m1) 64 1) (p_add 0 (p_rnds (m1) 64 0) (m1)))))))) := hD
      refine lv_aload_n hx hb dX2_block_481 rfl (lv_at hl 0 rfl) ?_
      refine va_get (D := D) (ci := 2) (v := .ref (am 5)) (C := RX2) (T := TX2) (N := 25) hx hb hW iMD hown hK hP 0 rfl rfl 16 (by decide) (hW _ tw_530) (fun _ h9 => h9) rfl dX2_block_482 ?_
      refine lv_bipush (v := nI 6) hx hb dX2_block_485 (by decide) ?_
      refine lv_aload_n hx hb dX2_block_487 rfl (lv_at hl 0 rfl) ?_
      refine va_get (D := D) (ci := 2) (v := .ref (am 5)) (C := RX2) (T := TX2) (N := 25) hx hb hW iMD hown hK hP 0 rfl rfl 16 (by decide) (hW _ tw_530) (fun _ h9 => h9) rfl dX2_block_488 ?_
      refine lv_bipush (v := nI 6) hx hb dX2_block_491 (by decide) ?_
      refine m_ld (X := wMx om am cZ th tp lv dy pv pm by_ pt wy gone oR) hx hb hK hP 0 5 6 rfl (by decide) (show 6 < 8 by omega) (by decide) dX2_block_493 ?_
      refine lv_iload hx hb dX2_block_494 (lv_at hl 7 rfl) ?_
      refine lv_iadd hx hb dX2_block_496 ?_
      refine m_st (X := wMx om am cZ th tp lv dy pv pm by_ pt wy gone oR) hx hb hK hP hD hS 0 5 6 rfl (by decide) (show 6 < 8 by omega) (by decide) dX2_block_497 (fun H locs hP hD hS => ?_)
      have hP : va_P D vwCl (wM om am cI cZ th tp lv dy pv pm by_ pt wy gone oR (p_add 6 (p_rnds (m1) 64 6) (p_add 5 (p_rnds (m1) 64 5) (p_add 4 (p_rnds (m1) 64 4) (p_add 3 (p_rnds (m1) 64 3) (p_add 2 (p_rnds (m1) 64 2) (p_add 1 (p_rnds (m1) 64 1) (p_add 0 (p_rnds (m1) 64 0) (m1))))))))) H := hP
      have hD : va_D A (wM om am cI cZ th tp lv dy pv pm by_ pt wy gone oR (p_add 6 (p_rnds (m1) 64 6) (p_add 5 (p_rnds (m1) 64 5) (p_add 4 (p_rnds (m1) 64 4) (p_add 3 (p_rnds (m1) 64 3) (p_add 2 (p_rnds (m1) 64 2) (p_add 1 (p_rnds (m1) 64 1) (p_add 0 (p_rnds (m1) 64 0) (m1))))))))) := hD
      refine lv_aload_n hx hb dX2_block_498 rfl (lv_at hl 0 rfl) ?_
      refine va_get (D := D) (ci := 2) (v := .ref (am 5)) (C := RX2) (T := TX2) (N := 25) hx hb hW iMD hown hK hP 0 rfl rfl 16 (by decide) (hW _ tw_530) (fun _ h9 => h9) rfl dX2_block_499 ?_
      refine lv_bipush (v := nI 7) hx hb dX2_block_502 (by decide) ?_
      refine lv_aload_n hx hb dX2_block_504 rfl (lv_at hl 0 rfl) ?_
      refine va_get (D := D) (ci := 2) (v := .ref (am 5)) (C := RX2) (T := TX2) (N := 25) hx hb hW iMD hown hK hP 0 rfl rfl 16 (by decide) (hW _ tw_530) (fun _ h9 => h9) rfl dX2_block_505 ?_
      refine lv_bipush (v := nI 7) hx hb dX2_block_508 (by decide) ?_
      refine m_ld (X := wMx om am cZ th tp lv dy pv pm by_ pt wy gone oR) hx hb hK hP 0 5 7 rfl (by decide) (show 7 < 8 by omega) (by decide) dX2_block_510 ?_
      refine lv_iload hx hb dX2_block_511 (lv_at hl 8 rfl) ?_
      refine lv_iadd hx hb dX2_block_513 ?_
      refine m_st (X := wMx om am cZ th tp lv dy pv pm by_ pt wy gone oR) hx hb hK hP hD hS 0 5 7 rfl (by decide) (show 7 < 8 by omega) (by decide) dX2_block_514 (fun H locs hP hD hS => ?_)
      have hP : va_P D vwCl (wM om am cI cZ th tp lv dy pv pm by_ pt wy gone oR (p_add 7 (p_rnds (m1) 64 7) (p_add 6 (p_rnds (m1) 64 6) (p_add 5 (p_rnds (m1) 64 5) (p_add 4 (p_rnds (m1) 64 4) (p_add 3 (p_rnds (m1) 64 3) (p_add 2 (p_rnds (m1) 64 2) (p_add 1 (p_rnds (m1) 64 1) (p_add 0 (p_rnds (m1) 64 0) (m1)))))))))) H := hP
      have hD : va_D A (wM om am cI cZ th tp lv dy pv pm by_ pt wy gone oR (p_add 7 (p_rnds (m1) 64 7) (p_add 6 (p_rnds (m1) 64 6) (p_add 5 (p_rnds (m1) 64 5) (p_add 4 (p_rnds (m1) 64 4) (p_add 3 (p_rnds (m1) 64 3) (p_add 2 (p_rnds (m1) 64 2) (p_add 1 (p_rnds (m1) 64 1) (p_add 0 (p_rnds (m1) 64 0) (m1)))))))))) := hD
      have hP : va_P D vwCl (wM om am cI cZ th tp lv dy pv pm by_ pt wy gone oR (p_stir m1)) H := by exact hP
      have hD : va_D A (wM om am cI cZ th tp lv dy pv pm by_ pt wy gone oR (p_stir m1)) := by exact hD
      exact mv_ret hx hb hr hlk hS hP hD dX2_block_515
    | succ k ih =>
      intro i H locs ls hk hP hD hS hl
      refine lv_iload hx hb dX2_block_253 (lv_at hl 9 rfl) ?_
      refine lv_bipush (v := nI 64) hx hb dX2_block_255 (by decide) ?_
      refine lv_icmp_ge (tgt := 393) hx hb dX2_block_257 (by decide) (fun hq9 => absurd hq9 (nI_ge (by omega) (by decide))) (fun _ => ?_)
      refine lv_iload hx hb dX2_block_260 (lv_at hl 8 rfl) ?_
      refine lv_iload hx hb dX2_block_262 (lv_at hl 5 rfl) ?_
      refine lv_bipush (v := nI 6) hx hb dX2_block_264 (by decide) ?_
      refine mi_callS (As := [.int (p_rnds (m1) i 4), .int (nI 6)]) (rest := [.int (p_rnds (m1) i 7)]) ⟨hx, hb, hml, hown, hW⟩ (n_right _ (p_rnds (m1) i 4) (nI 6) (by decide)) nE_ok (va_cwS 2 hW (gS tw_638 tw_639 tw_3 tw_640) rfl rfl rfl (by decide +kernel) ⟨Nat.le_of_ble_eq_true rfl, Nat.le_of_ble_eq_true rfl⟩) hP hD hK hS hA hT rfl hl.1 rfl (Nat.le_of_ble_eq_true rfl) dX2_block_266 ⟨Nat.zero_le _, Nat.zero_le _⟩ (fun H locs hP hD hS => ?_)
      refine lv_iload hx hb dX2_block_269 (lv_at hl 5 rfl) ?_
      refine lv_bipush (v := nI 11) hx hb dX2_block_271 (by decide) ?_
      refine mi_callS (As := [.int (p_rnds (m1) i 4), .int (nI 11)]) (rest := [.int (rotr (p_rnds (m1) i 4) (nI 6)), .int (p_rnds (m1) i 7)]) ⟨hx, hb, hml, hown, hW⟩ (n_right _ (p_rnds (m1) i 4) (nI 11) (by decide)) nE_ok (va_cwS 2 hW (gS tw_638 tw_639 tw_3 tw_640) rfl rfl rfl (by decide +kernel) ⟨Nat.le_of_ble_eq_true rfl, Nat.le_of_ble_eq_true rfl⟩) hP hD hK hS hA hT rfl hl.1 rfl (Nat.le_of_ble_eq_true rfl) dX2_block_273 ⟨Nat.zero_le _, Nat.zero_le _⟩ (fun H locs hP hD hS => ?_)
      refine lv_ixor hx hb dX2_block_276 ?_
      refine lv_iload hx hb dX2_block_277 (lv_at hl 5 rfl) ?_
      refine lv_bipush (v := nI 25) hx hb dX2_block_279 (by decide) ?_
      refine mi_callS (As := [.int (p_rnds (m1) i 4), .int (nI 25)]) (rest := [.int ((rotr (p_rnds (m1) i 4) (nI 6)) ^^^ (rotr (p_rnds (m1) i 4) (nI 11))), .int (p_rnds (m1) i 7)]) ⟨hx, hb, hml, hown, hW⟩ (n_right _ (p_rnds (m1) i 4) (nI 25) (by decide)) nE_ok (va_cwS 2 hW (gS tw_638 tw_639 tw_3 tw_640) rfl rfl rfl (by decide +kernel) ⟨Nat.le_of_ble_eq_true rfl, Nat.le_of_ble_eq_true rfl⟩) hP hD hK hS hA hT rfl hl.1 rfl (Nat.le_of_ble_eq_true rfl) dX2_block_281 ⟨Nat.zero_le _, Nat.zero_le _⟩ (fun H locs hP hD hS => ?_)
      refine lv_ixor hx hb dX2_block_284 ?_
      refine lv_iadd hx hb dX2_block_285 ?_
      refine lv_iload hx hb dX2_block_286 (lv_at hl 5 rfl) ?_
      refine lv_iload hx hb dX2_block_288 (lv_at hl 6 rfl) ?_
      refine lv_iand hx hb dX2_block_290 ?_
      refine lv_iload hx hb dX2_block_291 (lv_at hl 5 rfl) ?_
      refine lv_iconst (v := (-1)) hx hb dX2_block_293 (by decide) ?_
      refine lv_ixor hx hb dX2_block_294 ?_
      refine lv_iload hx hb dX2_block_295 (lv_at hl 7 rfl) ?_
      refine lv_iand hx hb dX2_block_297 ?_
      refine lv_ixor hx hb dX2_block_298 ?_
      refine lv_iadd hx hb dX2_block_299 ?_
      refine lv_aload_n hx hb dX2_block_300 rfl (lv_at hl 0 rfl) ?_
      refine va_get (D := D) (ci := 2) (v := .ref (am 13)) (C := RX2) (T := TX2) (N := 25) hx hb hW iMD hown hK hP 0 rfl rfl 24 (by decide) (hW _ tw_538) (fun _ h9 => h9) rfl dX2_block_301 ?_
      refine lv_iload hx hb dX2_block_304 (lv_at hl 9 rfl) ?_
      refine m_ld (X := wMx om am cZ th tp lv dy pv pm by_ pt wy gone oR) hx hb hK hP 0 13 i rfl (by decide) (show i < 64 by omega) (by decide) dX2_block_306 ?_
      refine lv_eqi (v := kc i) (hk2 i (by omega)) ?_
      refine lv_iadd hx hb dX2_block_307 ?_
      refine lv_aload_n hx hb dX2_block_308 rfl (lv_at hl 0 rfl) ?_
      refine va_get (D := D) (ci := 2) (v := .ref (am 4)) (C := RX2) (T := TX2) (N := 25) hx hb hW iMD hown hK hP 0 rfl rfl 15 (by decide) (hW _ tw_529) (fun _ h9 => h9) rfl dX2_block_309 ?_
      refine lv_iload hx hb dX2_block_312 (lv_at hl 9 rfl) ?_
      refine m_ld (X := wMx om am cZ th tp lv dy pv pm by_ pt wy gone oR) hx hb hK hP 0 4 i rfl (by decide) (show i < 64 by omega) (by decide) dX2_block_314 ?_
      refine lv_iadd hx hb dX2_block_315 ?_
      refine lv_istore (lv' := [(11, .int (((((p_rnds (m1) i 7) + (((rotr (p_rnds (m1) i 4) (nI 6)) ^^^ (rotr (p_rnds (m1) i 4) (nI 11))) ^^^ (rotr (p_rnds (m1) i 4) (nI 25)))) + (((p_rnds (m1) i 4) &&& (p_rnds (m1) i 5)) ^^^ (((p_rnds (m1) i 4) ^^^ (-1)) &&& (p_rnds (m1) i 6)))) + (kc i)) + (m1 4 i))), (0, .ref (om 0)), (2, .int (p_rnds (m1) i 0)), (3, .int (p_rnds (m1) i 1)), (4, .int (p_rnds (m1) i 2)), (5, .int (p_rnds (m1) i 3)), (6, .int (p_rnds (m1) i 4)), (7, .int (p_rnds (m1) i 5)), (8, .int (p_rnds (m1) i 6)), (9, .int (p_rnds (m1) i 7)), (10, .int (nI i))]) hx hb dX2_block_316 hl (by decide) rfl (fun ls hl => ?_)
      refine lv_iload_n hx hb dX2_block_318 rfl (lv_at hl 2 rfl) ?_
      refine lv_iconst (v := nI 2) hx hb dX2_block_319 (by decide) ?_
      refine mi_callS (As := [.int (p_rnds (m1) i 0), .int (nI 2)]) (rest := []) ⟨hx, hb, hml, hown, hW⟩ (n_right _ (p_rnds (m1) i 0) (nI 2) (by decide)) nE_ok (va_cwS 2 hW (gS tw_638 tw_639 tw_3 tw_640) rfl rfl rfl (by decide +kernel) ⟨Nat.le_of_ble_eq_true rfl, Nat.le_of_ble_eq_true rfl⟩) hP hD hK hS hA hT rfl hl.1 rfl (Nat.le_of_ble_eq_true rfl) dX2_block_320 ⟨Nat.zero_le _, Nat.zero_le _⟩ (fun H locs hP hD hS => ?_)
      refine lv_iload_n hx hb dX2_block_323 rfl (lv_at hl 2 rfl) ?_
      refine lv_bipush (v := nI 13) hx hb dX2_block_324 (by decide) ?_
      refine mi_callS (As := [.int (p_rnds (m1) i 0), .int (nI 13)]) (rest := [.int (rotr (p_rnds (m1) i 0) (nI 2))]) ⟨hx, hb, hml, hown, hW⟩ (n_right _ (p_rnds (m1) i 0) (nI 13) (by decide)) nE_ok (va_cwS 2 hW (gS tw_638 tw_639 tw_3 tw_640) rfl rfl rfl (by decide +kernel) ⟨Nat.le_of_ble_eq_true rfl, Nat.le_of_ble_eq_true rfl⟩) hP hD hK hS hA hT rfl hl.1 rfl (Nat.le_of_ble_eq_true rfl) dX2_block_326 ⟨Nat.zero_le _, Nat.zero_le _⟩ (fun H locs hP hD hS => ?_)
      refine lv_ixor hx hb dX2_block_329 ?_
      refine lv_iload_n hx hb dX2_block_330 rfl (lv_at hl 2 rfl) ?_
      refine lv_bipush (v := nI 22) hx hb dX2_block_331 (by decide) ?_
      refine mi_callS (As := [.int (p_rnds (m1) i 0), .int (nI 22)]) (rest := [.int ((rotr (p_rnds (m1) i 0) (nI 2)) ^^^ (rotr (p_rnds (m1) i 0) (nI 13)))]) ⟨hx, hb, hml, hown, hW⟩ (n_right _ (p_rnds (m1) i 0) (nI 22) (by decide)) nE_ok (va_cwS 2 hW (gS tw_638 tw_639 tw_3 tw_640) rfl rfl rfl (by decide +kernel) ⟨Nat.le_of_ble_eq_true rfl, Nat.le_of_ble_eq_true rfl⟩) hP hD hK hS hA hT rfl hl.1 rfl (Nat.le_of_ble_eq_true rfl) dX2_block_333 ⟨Nat.zero_le _, Nat.zero_le _⟩ (fun H locs hP hD hS => ?_)
      refine lv_ixor hx hb dX2_block_336 ?_
      refine lv_iload_n hx hb dX2_block_337 rfl (lv_at hl 2 rfl) ?_
      refine lv_iload_n hx hb dX2_block_338 rfl (lv_at hl 3 rfl) ?_
      refine lv_iand hx hb dX2_block_339 ?_
      refine lv_iload_n hx hb dX2_block_340 rfl (lv_at hl 2 rfl) ?_
      refine lv_iload hx hb dX2_block_341 (lv_at hl 4 rfl) ?_
      refine lv_iand hx hb dX2_block_343 ?_
      refine lv_ixor hx hb dX2_block_344 ?_
      refine lv_iload_n hx hb dX2_block_345 rfl (lv_at hl 3 rfl) ?_
      refine lv_iload hx hb dX2_block_346 (lv_at hl 4 rfl) ?_
      refine lv_iand hx hb dX2_block_348 ?_
      refine lv_ixor hx hb dX2_block_349 ?_
      refine lv_iadd hx hb dX2_block_350 ?_
      refine lv_istore (lv' := [(12, .int ((((rotr (p_rnds (m1) i 0) (nI 2)) ^^^ (rotr (p_rnds (m1) i 0) (nI 13))) ^^^ (rotr (p_rnds (m1) i 0) (nI 22))) + ((((p_rnds (m1) i 0) &&& (p_rnds (m1) i 1)) ^^^ ((p_rnds (m1) i 0) &&& (p_rnds (m1) i 2))) ^^^ ((p_rnds (m1) i 1) &&& (p_rnds (m1) i 2))))), (11, .int (((((p_rnds (m1) i 7) + (((rotr (p_rnds (m1) i 4) (nI 6)) ^^^ (rotr (p_rnds (m1) i 4) (nI 11))) ^^^ (rotr (p_rnds (m1) i 4) (nI 25)))) + (((p_rnds (m1) i 4) &&& (p_rnds (m1) i 5)) ^^^ (((p_rnds (m1) i 4) ^^^ (-1)) &&& (p_rnds (m1) i 6)))) + (kc i)) + (m1 4 i))), (0, .ref (om 0)), (2, .int (p_rnds (m1) i 0)), (3, .int (p_rnds (m1) i 1)), (4, .int (p_rnds (m1) i 2)), (5, .int (p_rnds (m1) i 3)), (6, .int (p_rnds (m1) i 4)), (7, .int (p_rnds (m1) i 5)), (8, .int (p_rnds (m1) i 6)), (9, .int (p_rnds (m1) i 7)), (10, .int (nI i))]) hx hb dX2_block_351 hl (by decide) rfl (fun ls hl => ?_)
      refine lv_iload hx hb dX2_block_353 (lv_at hl 9 rfl) ?_
      refine lv_istore (lv' := [(9, .int (p_rnds (m1) i 6)), (12, .int ((((rotr (p_rnds (m1) i 0) (nI 2)) ^^^ (rotr (p_rnds (m1) i 0) (nI 13))) ^^^ (rotr (p_rnds (m1) i 0) (nI 22))) + ((((p_rnds (m1) i 0) &&& (p_rnds (m1) i 1)) ^^^ ((p_rnds (m1) i 0) &&& (p_rnds (m1) i 2))) ^^^ ((p_rnds (m1) i 1) &&& (p_rnds (m1) i 2))))), (11, .int (((((p_rnds (m1) i 7) + (((rotr (p_rnds (m1) i 4) (nI 6)) ^^^ (rotr (p_rnds (m1) i 4) (nI 11))) ^^^ (rotr (p_rnds (m1) i 4) (nI 25)))) + (((p_rnds (m1) i 4) &&& (p_rnds (m1) i 5)) ^^^ (((p_rnds (m1) i 4) ^^^ (-1)) &&& (p_rnds (m1) i 6)))) + (kc i)) + (m1 4 i))), (0, .ref (om 0)), (2, .int (p_rnds (m1) i 0)), (3, .int (p_rnds (m1) i 1)), (4, .int (p_rnds (m1) i 2)), (5, .int (p_rnds (m1) i 3)), (6, .int (p_rnds (m1) i 4)), (7, .int (p_rnds (m1) i 5)), (8, .int (p_rnds (m1) i 6)), (10, .int (nI i))]) hx hb dX2_block_355 hl (by decide) rfl (fun ls hl => ?_)
      refine lv_iload hx hb dX2_block_357 (lv_at hl 9 rfl) ?_
      refine lv_istore (lv' := [(8, .int (p_rnds (m1) i 5)), (9, .int (p_rnds (m1) i 6)), (12, .int ((((rotr (p_rnds (m1) i 0) (nI 2)) ^^^ (rotr (p_rnds (m1) i 0) (nI 13))) ^^^ (rotr (p_rnds (m1) i 0) (nI 22))) + ((((p_rnds (m1) i 0) &&& (p_rnds (m1) i 1)) ^^^ ((p_rnds (m1) i 0) &&& (p_rnds (m1) i 2))) ^^^ ((p_rnds (m1) i 1) &&& (p_rnds (m1) i 2))))), (11, .int (((((p_rnds (m1) i 7) + (((rotr (p_rnds (m1) i 4) (nI 6)) ^^^ (rotr (p_rnds (m1) i 4) (nI 11))) ^^^ (rotr (p_rnds (m1) i 4) (nI 25)))) + (((p_rnds (m1) i 4) &&& (p_rnds (m1) i 5)) ^^^ (((p_rnds (m1) i 4) ^^^ (-1)) &&& (p_rnds (m1) i 6)))) + (kc i)) + (m1 4 i))), (0, .ref (om 0)), (2, .int (p_rnds (m1) i 0)), (3, .int (p_rnds (m1) i 1)), (4, .int (p_rnds (m1) i 2)), (5, .int (p_rnds (m1) i 3)), (6, .int (p_rnds (m1) i 4)), (7, .int (p_rnds (m1) i 5)), (10, .int (nI i))]) hx hb dX2_block_359 hl (by decide) rfl (fun ls hl => ?_)
      refine lv_iload hx hb dX2_block_361 (lv_at hl 9 rfl) ?_
      refine lv_istore (lv' := [(7, .int (p_rnds (m1) i 4)), (8, .int (p_rnds (m1) i 5)), (9, .int (p_rnds (m1) i 6)), (12, .int ((((rotr (p_rnds (m1) i 0) (nI 2)) ^^^ (rotr (p_rnds (m1) i 0) (nI 13))) ^^^ (rotr (p_rnds (m1) i 0) (nI 22))) + ((((p_rnds (m1) i 0) &&& (p_rnds (m1) i 1)) ^^^ ((p_rnds (m1) i 0) &&& (p_rnds (m1) i 2))) ^^^ ((p_rnds (m1) i 1) &&& (p_rnds (m1) i 2))))), (11, .int (((((p_rnds (m1) i 7) + (((rotr (p_rnds (m1) i 4) (nI 6)) ^^^ (rotr (p_rnds (m1) i 4) (nI 11))) ^^^ (rotr (p_rnds (m1) i 4) (nI 25)))) + (((p_rnds (m1) i 4) &&& (p_rnds (m1) i 5)) ^^^ (((p_rnds (m1) i 4) ^^^ (-1)) &&& (p_rnds (m1) i 6)))) + (kc i)) + (m1 4 i))), (0, .ref (om 0)), (2, .int (p_rnds (m1) i 0)), (3, .int (p_rnds (m1) i 1)), (4, .int (p_rnds (m1) i 2)), (5, .int (p_rnds (m1) i 3)), (6, .int (p_rnds (m1) i 4)), (10, .int (nI i))]) hx hb dX2_block_363 hl (by decide) rfl (fun ls hl => ?_)
      refine lv_iload hx hb dX2_block_365 (lv_at hl 9 rfl) ?_
      refine lv_iload hx hb dX2_block_367 (lv_at hl 4 rfl) ?_
      refine lv_iadd hx hb dX2_block_369 ?_
      refine lv_istore (lv' := [(6, .int ((p_rnds (m1) i 3) + (((((p_rnds (m1) i 7) + (((rotr (p_rnds (m1) i 4) (nI 6)) ^^^ (rotr (p_rnds (m1) i 4) (nI 11))) ^^^ (rotr (p_rnds (m1) i 4) (nI 25)))) + (((p_rnds (m1) i 4) &&& (p_rnds (m1) i 5)) ^^^ (((p_rnds (m1) i 4) ^^^ (-1)) &&& (p_rnds (m1) i 6)))) + (kc i)) + (m1 4 i)))), (7, .int (p_rnds (m1) i 4)), (8, .int (p_rnds (m1) i 5)), (9, .int (p_rnds (m1) i 6)), (12, .int ((((rotr (p_rnds (m1) i 0) (nI 2)) ^^^ (rotr (p_rnds (m1) i 0) (nI 13))) ^^^ (rotr (p_rnds (m1) i 0) (nI 22))) + ((((p_rnds (m1) i 0) &&& (p_rnds (m1) i 1)) ^^^ ((p_rnds (m1) i 0) &&& (p_rnds (m1) i 2))) ^^^ ((p_rnds (m1) i 1) &&& (p_rnds (m1) i 2))))), (11, .int (((((p_rnds (m1) i 7) + (((rotr (p_rnds (m1) i 4) (nI 6)) ^^^ (rotr (p_rnds (m1) i 4) (nI 11))) ^^^ (rotr (p_rnds (m1) i 4) (nI 25)))) + (((p_rnds (m1) i 4) &&& (p_rnds (m1) i 5)) ^^^ (((p_rnds (m1) i 4) ^^^ (-1)) &&& (p_rnds (m1) i 6)))) + (kc i)) + (m1 4 i))), (0, .ref (om 0)), (2, .int (p_rnds (m1) i 0)), (3, .int (p_rnds (m1) i 1)), (4, .int (p_rnds (m1) i 2)), (5, .int (p_rnds (m1) i 3)), (10, .int (nI i))]) hx hb dX2_block_370 hl (by decide) rfl (fun ls hl => ?_)
      refine lv_iload hx hb dX2_block_372 (lv_at hl 9 rfl) ?_
      refine lv_istore (lv' := [(5, .int (p_rnds (m1) i 2)), (6, .int ((p_rnds (m1) i 3) + (((((p_rnds (m1) i 7) + (((rotr (p_rnds (m1) i 4) (nI 6)) ^^^ (rotr (p_rnds (m1) i 4) (nI 11))) ^^^ (rotr (p_rnds (m1) i 4) (nI 25)))) + (((p_rnds (m1) i 4) &&& (p_rnds (m1) i 5)) ^^^ (((p_rnds (m1) i 4) ^^^ (-1)) &&& (p_rnds (m1) i 6)))) + (kc i)) + (m1 4 i)))), (7, .int (p_rnds (m1) i 4)), (8, .int (p_rnds (m1) i 5)), (9, .int (p_rnds (m1) i 6)), (12, .int ((((rotr (p_rnds (m1) i 0) (nI 2)) ^^^ (rotr (p_rnds (m1) i 0) (nI 13))) ^^^ (rotr (p_rnds (m1) i 0) (nI 22))) + ((((p_rnds (m1) i 0) &&& (p_rnds (m1) i 1)) ^^^ ((p_rnds (m1) i 0) &&& (p_rnds (m1) i 2))) ^^^ ((p_rnds (m1) i 1) &&& (p_rnds (m1) i 2))))), (11, .int (((((p_rnds (m1) i 7) + (((rotr (p_rnds (m1) i 4) (nI 6)) ^^^ (rotr (p_rnds (m1) i 4) (nI 11))) ^^^ (rotr (p_rnds (m1) i 4) (nI 25)))) + (((p_rnds (m1) i 4) &&& (p_rnds (m1) i 5)) ^^^ (((p_rnds (m1) i 4) ^^^ (-1)) &&& (p_rnds (m1) i 6)))) + (kc i)) + (m1 4 i))), (0, .ref (om 0)), (2, .int (p_rnds (m1) i 0)), (3, .int (p_rnds (m1) i 1)), (4, .int (p_rnds (m1) i 2)), (10, .int (nI i))]) hx hb dX2_block_374 hl (by decide) rfl (fun ls hl => ?_)
      refine lv_iload_n hx hb dX2_block_376 rfl (lv_at hl 9 rfl) ?_
      refine lv_istore (lv' := [(4, .int (p_rnds (m1) i 1)), (5, .int (p_rnds (m1) i 2)), (6, .int ((p_rnds (m1) i 3) + (((((p_rnds (m1) i 7) + (((rotr (p_rnds (m1) i 4) (nI 6)) ^^^ (rotr (p_rnds (m1) i 4) (nI 11))) ^^^ (rotr (p_rnds (m1) i 4) (nI 25)))) + (((p_rnds (m1) i 4) &&& (p_rnds (m1) i 5)) ^^^ (((p_rnds (m1) i 4) ^^^ (-1)) &&& (p_rnds (m1) i 6)))) + (kc i)) + (m1 4 i)))), (7, .int (p_rnds (m1) i 4)), (8, .int (p_rnds (m1) i 5)), (9, .int (p_rnds (m1) i 6)), (12, .int ((((rotr (p_rnds (m1) i 0) (nI 2)) ^^^ (rotr (p_rnds (m1) i 0) (nI 13))) ^^^ (rotr (p_rnds (m1) i 0) (nI 22))) + ((((p_rnds (m1) i 0) &&& (p_rnds (m1) i 1)) ^^^ ((p_rnds (m1) i 0) &&& (p_rnds (m1) i 2))) ^^^ ((p_rnds (m1) i 1) &&& (p_rnds (m1) i 2))))), (11, .int (((((p_rnds (m1) i 7) + (((rotr (p_rnds (m1) i 4) (nI 6)) ^^^ (rotr (p_rnds (m1) i 4) (nI 11))) ^^^ (rotr (p_rnds (m1) i 4) (nI 25)))) + (((p_rnds (m1) i 4) &&& (p_rnds (m1) i 5)) ^^^ (((p_rnds (m1) i 4) ^^^ (-1)) &&& (p_rnds (m1) i 6)))) + (kc i)) + (m1 4 i))), (0, .ref (om 0)), (2, .int (p_rnds (m1) i 0)), (3, .int (p_rnds (m1) i 1)), (10, .int (nI i))]) hx hb dX2_block_377 hl (by decide) rfl (fun ls hl => ?_)
      refine lv_iload_n hx hb dX2_block_379 rfl (lv_at hl 9 rfl) ?_
      refine lv_istore_n (lv' := [(3, .int (p_rnds (m1) i 0)), (4, .int (p_rnds (m1) i 1)), (5, .int (p_rnds (m1) i 2)), (6, .int ((p_rnds (m1) i 3) + (((((p_rnds (m1) i 7) + (((rotr (p_rnds (m1) i 4) (nI 6)) ^^^ (rotr (p_rnds (m1) i 4) (nI 11))) ^^^ (rotr (p_rnds (m1) i 4) (nI 25)))) + (((p_rnds (m1) i 4) &&& (p_rnds (m1) i 5)) ^^^ (((p_rnds (m1) i 4) ^^^ (-1)) &&& (p_rnds (m1) i 6)))) + (kc i)) + (m1 4 i)))), (7, .int (p_rnds (m1) i 4)), (8, .int (p_rnds (m1) i 5)), (9, .int (p_rnds (m1) i 6)), (12, .int ((((rotr (p_rnds (m1) i 0) (nI 2)) ^^^ (rotr (p_rnds (m1) i 0) (nI 13))) ^^^ (rotr (p_rnds (m1) i 0) (nI 22))) + ((((p_rnds (m1) i 0) &&& (p_rnds (m1) i 1)) ^^^ ((p_rnds (m1) i 0) &&& (p_rnds (m1) i 2))) ^^^ ((p_rnds (m1) i 1) &&& (p_rnds (m1) i 2))))), (11, .int (((((p_rnds (m1) i 7) + (((rotr (p_rnds (m1) i 4) (nI 6)) ^^^ (rotr (p_rnds (m1) i 4) (nI 11))) ^^^ (rotr (p_rnds (m1) i 4) (nI 25)))) + (((p_rnds (m1) i 4) &&& (p_rnds (m1) i 5)) ^^^ (((p_rnds (m1) i 4) ^^^ (-1)) &&& (p_rnds (m1) i 6)))) + (kc i)) + (m1 4 i))), (0, .ref (om 0)), (2, .int (p_rnds (m1) i 0)), (10, .int (nI i))]) hx hb dX2_block_380 rfl hl (by decide) rfl (fun ls hl => ?_)
      refine lv_iload hx hb dX2_block_381 (lv_at hl 8 rfl) ?_
      refine lv_iload hx hb dX2_block_383 (lv_at hl 7 rfl) ?_
      refine lv_iadd hx hb dX2_block_385 ?_
      refine lv_eqi (v := p_rnds (m1) (i + 1) 0) ((Int32.add_assoc _ _ _).symm) ?_
      refine lv_istore_n (lv' := [(2, .int (p_rnds (m1) (i + 1) 0)), (3, .int (p_rnds (m1) i 0)), (4, .int (p_rnds (m1) i 1)), (5, .int (p_rnds (m1) i 2)), (6, .int ((p_rnds (m1) i 3) + (((((p_rnds (m1) i 7) + (((rotr (p_rnds (m1) i 4) (nI 6)) ^^^ (rotr (p_rnds (m1) i 4) (nI 11))) ^^^ (rotr (p_rnds (m1) i 4) (nI 25)))) + (((p_rnds (m1) i 4) &&& (p_rnds (m1) i 5)) ^^^ (((p_rnds (m1) i 4) ^^^ (-1)) &&& (p_rnds (m1) i 6)))) + (kc i)) + (m1 4 i)))), (7, .int (p_rnds (m1) i 4)), (8, .int (p_rnds (m1) i 5)), (9, .int (p_rnds (m1) i 6)), (12, .int ((((rotr (p_rnds (m1) i 0) (nI 2)) ^^^ (rotr (p_rnds (m1) i 0) (nI 13))) ^^^ (rotr (p_rnds (m1) i 0) (nI 22))) + ((((p_rnds (m1) i 0) &&& (p_rnds (m1) i 1)) ^^^ ((p_rnds (m1) i 0) &&& (p_rnds (m1) i 2))) ^^^ ((p_rnds (m1) i 1) &&& (p_rnds (m1) i 2))))), (11, .int (((((p_rnds (m1) i 7) + (((rotr (p_rnds (m1) i 4) (nI 6)) ^^^ (rotr (p_rnds (m1) i 4) (nI 11))) ^^^ (rotr (p_rnds (m1) i 4) (nI 25)))) + (((p_rnds (m1) i 4) &&& (p_rnds (m1) i 5)) ^^^ (((p_rnds (m1) i 4) ^^^ (-1)) &&& (p_rnds (m1) i 6)))) + (kc i)) + (m1 4 i))), (0, .ref (om 0)), (10, .int (nI i))]) hx hb dX2_block_386 rfl hl (by decide) rfl (fun ls hl => ?_)
      refine lv_iinc (v := nI (i + 1)) (lv' := [(10, .int (nI (i + 1))), (2, .int (p_rnds (m1) (i + 1) 0)), (3, .int (p_rnds (m1) i 0)), (4, .int (p_rnds (m1) i 1)), (5, .int (p_rnds (m1) i 2)), (6, .int ((p_rnds (m1) i 3) + (((((p_rnds (m1) i 7) + (((rotr (p_rnds (m1) i 4) (nI 6)) ^^^ (rotr (p_rnds (m1) i 4) (nI 11))) ^^^ (rotr (p_rnds (m1) i 4) (nI 25)))) + (((p_rnds (m1) i 4) &&& (p_rnds (m1) i 5)) ^^^ (((p_rnds (m1) i 4) ^^^ (-1)) &&& (p_rnds (m1) i 6)))) + (kc i)) + (m1 4 i)))), (7, .int (p_rnds (m1) i 4)), (8, .int (p_rnds (m1) i 5)), (9, .int (p_rnds (m1) i 6)), (12, .int ((((rotr (p_rnds (m1) i 0) (nI 2)) ^^^ (rotr (p_rnds (m1) i 0) (nI 13))) ^^^ (rotr (p_rnds (m1) i 0) (nI 22))) + ((((p_rnds (m1) i 0) &&& (p_rnds (m1) i 1)) ^^^ ((p_rnds (m1) i 0) &&& (p_rnds (m1) i 2))) ^^^ ((p_rnds (m1) i 1) &&& (p_rnds (m1) i 2))))), (11, .int (((((p_rnds (m1) i 7) + (((rotr (p_rnds (m1) i 4) (nI 6)) ^^^ (rotr (p_rnds (m1) i 4) (nI 11))) ^^^ (rotr (p_rnds (m1) i 4) (nI 25)))) + (((p_rnds (m1) i 4) &&& (p_rnds (m1) i 5)) ^^^ (((p_rnds (m1) i 4) ^^^ (-1)) &&& (p_rnds (m1) i 6)))) + (kc i)) + (m1 4 i))), (0, .ref (om 0))]) hx hb dX2_block_387 hl (k := 11) rfl (nI_1 _) (by decide) rfl (fun ls hl => ?_)
      refine lv_goto (tgt := 253) hx hb dX2_block_390 (by decide) ?_
      exact ih (i + 1) H locs ls (by omega) hP hD hS (lv_sub hl [11, 1, 2, 3, 4, 5, 6, 7, 8, 0] rfl)
  have loop2 : ∀ (k i : Nat) (H : Heap) (locs : List Loc) (ls : Array Slot), i + k = 48 → va_P D vwCl (wM om am cI cZ th tp lv dy pv pm by_ pt wy gone oR (itr p_w2 i (itr (p_w1 f) 16 mem))) H → va_D A (wM om am cI cZ th tp lv dy pv pm by_ pt wy gone oR (itr p_w2 i (itr (p_w1 f) 16 mem))) → va_S A s.heap H locs → lv_has ls 13 [(0, .ref (om 0)), (2, .int (nI (16 + i)))] → W p l e ({ frames := 1, cells := 0, slots := 0, locals := 24 }) s m ([.ref (om 0), .int (nI f)] : List Value).toArray below meth c H locs 0 0 (MQ below (xQv D vwCl (wM om am cI cZ th tp lv dy pv pm by_ pt wy gone oR (p_stir m1)) A) ([.ref (om 0), .int (nI f)] : List Value).toArray s 0 0 A) (F0 m 81 ls []) := by
    intro k
    induction k with
    | zero =>
      intro i H locs ls hk hP hD hS hl
      have hk9 : i = 48 := by omega
      rw [hk9, hm2] at hP hD
      refine lv_iload_n hx hb dX2_block_81 rfl (lv_at hl 1 rfl) ?_
      refine lv_bipush (v := nI 64) hx hb dX2_block_82 (by decide) ?_
      refine lv_icmp_ge (tgt := 186) hx hb dX2_block_84 (by decide) (fun _ => ?_) (fun hq9 => absurd (nI_le (by omega) (by omega)) hq9)
      refine lv_aload_n hx hb dX2_block_186 rfl (lv_at hl 0 rfl) ?_
      refine va_get (D := D) (ci := 2) (v := .ref (am 5)) (C := RX2) (T := TX2) (N := 25) hx hb hW iMD hown hK hP 0 rfl rfl 16 (by decide) (hW _ tw_530) (fun _ h9 => h9) rfl dX2_block_187 ?_
      refine lv_iconst (v := nI 0) hx hb dX2_block_190 (by decide) ?_
      refine m_ld (X := wMx om am cZ th tp lv dy pv pm by_ pt wy gone oR) hx hb hK hP 0 5 0 rfl (by decide) (show 0 < 8 by omega) (by decide) dX2_block_191 ?_
      refine lv_istore_n (lv' := [(2, .int (m1 5 0)), (0, .ref (om 0))]) hx hb dX2_block_192 rfl hl (by decide) rfl (fun ls hl => ?_)
      refine lv_aload_n hx hb dX2_block_193 rfl (lv_at hl 1 rfl) ?_
      refine va_get (D := D) (ci := 2) (v := .ref (am 5)) (C := RX2) (T := TX2) (N := 25) hx hb hW iMD hown hK hP 0 rfl rfl 16 (by decide) (hW _ tw_530) (fun _ h9 => h9) rfl dX2_block_194 ?_
      refine lv_iconst (v := nI 1) hx hb dX2_block_197 (by decide) ?_
      refine m_ld (X := wMx om am cZ th tp lv dy pv pm by_ pt wy gone oR) hx hb hK hP 0 5 1 rfl (by decide) (show 1 < 8 by omega) (by decide) dX2_block_198 ?_
      refine lv_istore_n (lv' := [(3, .int (m1 5 1)), (2, .int (m1 5 0)), (0, .ref (om 0))]) hx hb dX2_block_199 rfl hl (by decide) rfl (fun ls hl => ?_)
      refine lv_aload_n hx hb dX2_block_200 rfl (lv_at hl 2 rfl) ?_
      refine va_get (D := D) (ci := 2) (v := .ref (am 5)) (C := RX2) (T := TX2) (N := 25) hx hb hW iMD hown hK hP 0 rfl rfl 16 (by decide) (hW _ tw_530) (fun _ h9 => h9) rfl dX2_block_201 ?_
      refine lv_iconst (v := nI 2) hx hb dX2_block_204 (by decide) ?_
      refine m_ld (X := wMx om am cZ th tp lv dy pv pm by_ pt wy gone oR) hx hb hK hP 0 5 2 rfl (by decide) (show 2 < 8 by omega) (by decide) dX2_block_205 ?_
      refine lv_istore (lv' := [(4, .int (m1 5 2)), (3, .int (m1 5 1)), (2, .int (m1 5 0)), (0, .ref (om 0))]) hx hb dX2_block_206 hl (by decide) rfl (fun ls hl => ?_)
      refine lv_aload_n hx hb dX2_block_208 rfl (lv_at hl 3 rfl) ?_
      refine va_get (D := D) (ci := 2) (v := .ref (am 5)) (C := RX2) (T := TX2) (N := 25) hx hb hW iMD hown hK hP 0 rfl rfl 16 (by decide) (hW _ tw_530) (fun _ h9 => h9) rfl dX2_block_209 ?_
      refine lv_iconst (v := nI 3) hx hb dX2_block_212 (by decide) ?_
      refine m_ld (X := wMx om am cZ th tp lv dy pv pm by_ pt wy gone oR) hx hb hK hP 0 5 3 rfl (by decide) (show 3 < 8 by omega) (by decide) dX2_block_213 ?_
      refine lv_istore (lv' := [(5, .int (m1 5 3)), (4, .int (m1 5 2)), (3, .int (m1 5 1)), (2, .int (m1 5 0)), (0, .ref (om 0))]) hx hb dX2_block_214 hl (by decide) rfl (fun ls hl => ?_)
      refine lv_aload_n hx hb dX2_block_216 rfl (lv_at hl 4 rfl) ?_
      refine va_get (D := D) (ci := 2) (v := .ref (am 5)) (C := RX2) (T := TX2) (N := 25) hx hb hW iMD hown hK hP 0 rfl rfl 16 (by decide) (hW _ tw_530) (fun _ h9 => h9) rfl dX2_block_217 ?_
      refine lv_iconst (v := nI 4) hx hb dX2_block_220 (by decide) ?_
      refine m_ld (X := wMx om am cZ th tp lv dy pv pm by_ pt wy gone oR) hx hb hK hP 0 5 4 rfl (by decide) (show 4 < 8 by omega) (by decide) dX2_block_221 ?_
      refine lv_istore (lv' := [(6, .int (m1 5 4)), (5, .int (m1 5 3)), (4, .int (m1 5 2)), (3, .int (m1 5 1)), (2, .int (m1 5 0)), (0, .ref (om 0))]) hx hb dX2_block_222 hl (by decide) rfl (fun ls hl => ?_)
      refine lv_aload_n hx hb dX2_block_224 rfl (lv_at hl 5 rfl) ?_
      refine va_get (D := D) (ci := 2) (v := .ref (am 5)) (C := RX2) (T := TX2) (N := 25) hx hb hW iMD hown hK hP 0 rfl rfl 16 (by decide) (hW _ tw_530) (fun _ h9 => h9) rfl dX2_block_225 ?_
      refine lv_iconst (v := nI 5) hx hb dX2_block_228 (by decide) ?_
      refine m_ld (X := wMx om am cZ th tp lv dy pv pm by_ pt wy gone oR) hx hb hK hP 0 5 5 rfl (by decide) (show 5 < 8 by omega) (by decide) dX2_block_229 ?_
      refine lv_istore (lv' := [(7, .int (m1 5 5)), (6, .int (m1 5 4)), (5, .int (m1 5 3)), (4, .int (m1 5 2)), (3, .int (m1 5 1)), (2, .int (m1 5 0)), (0, .ref (om 0))]) hx hb dX2_block_230 hl (by decide) rfl (fun ls hl => ?_)
      refine lv_aload_n hx hb dX2_block_232 rfl (lv_at hl 6 rfl) ?_
      refine va_get (D := D) (ci := 2) (v := .ref (am 5)) (C := RX2) (T := TX2) (N := 25) hx hb hW iMD hown hK hP 0 rfl rfl 16 (by decide) (hW _ tw_530) (fun _ h9 => h9) rfl dX2_block_233 ?_
      refine lv_bipush (v := nI 6) hx hb dX2_block_236 (by decide) ?_
      refine m_ld (X := wMx om am cZ th tp lv dy pv pm by_ pt wy gone oR) hx hb hK hP 0 5 6 rfl (by decide) (show 6 < 8 by omega) (by decide) dX2_block_238 ?_
      refine lv_istore (lv' := [(8, .int (m1 5 6)), (7, .int (m1 5 5)), (6, .int (m1 5 4)), (5, .int (m1 5 3)), (4, .int (m1 5 2)), (3, .int (m1 5 1)), (2, .int (m1 5 0)), (0, .ref (om 0))]) hx hb dX2_block_239 hl (by decide) rfl (fun ls hl => ?_)
      refine lv_aload_n hx hb dX2_block_241 rfl (lv_at hl 7 rfl) ?_
      refine va_get (D := D) (ci := 2) (v := .ref (am 5)) (C := RX2) (T := TX2) (N := 25) hx hb hW iMD hown hK hP 0 rfl rfl 16 (by decide) (hW _ tw_530) (fun _ h9 => h9) rfl dX2_block_242 ?_
      refine lv_bipush (v := nI 7) hx hb dX2_block_245 (by decide) ?_
      refine m_ld (X := wMx om am cZ th tp lv dy pv pm by_ pt wy gone oR) hx hb hK hP 0 5 7 rfl (by decide) (show 7 < 8 by omega) (by decide) dX2_block_247 ?_
      refine lv_istore (lv' := [(9, .int (m1 5 7)), (8, .int (m1 5 6)), (7, .int (m1 5 5)), (6, .int (m1 5 4)), (5, .int (m1 5 3)), (4, .int (m1 5 2)), (3, .int (m1 5 1)), (2, .int (m1 5 0)), (0, .ref (om 0))]) hx hb dX2_block_248 hl (by decide) rfl (fun ls hl => ?_)
      refine lv_iconst (v := nI 0) hx hb dX2_block_250 (by decide) ?_
      refine lv_istore (lv' := [(10, .int (nI 0)), (9, .int (m1 5 7)), (8, .int (m1 5 6)), (7, .int (m1 5 5)), (6, .int (m1 5 4)), (5, .int (m1 5 3)), (4, .int (m1 5 2)), (3, .int (m1 5 1)), (2, .int (m1 5 0)), (0, .ref (om 0))]) hx hb dX2_block_251 hl (by decide) rfl (fun ls hl => ?_)
      have hl := lv_sub hl [9, 8, 7, 6, 5, 4, 3, 2, 1, 0] rfl
      rw [← p_rnds_0 m1] at hl
      exact loop3 64 0 H locs ls (by omega) hP hD hS hl
    | succ k ih =>
      intro i H locs ls hk hP hD hS hl
      refine lv_iload_n hx hb dX2_block_81 rfl (lv_at hl 1 rfl) ?_
      refine lv_bipush (v := nI 64) hx hb dX2_block_82 (by decide) ?_
      refine lv_icmp_ge (tgt := 186) hx hb dX2_block_84 (by decide) (fun hq9 => absurd hq9 (nI_ge (by omega) (by decide))) (fun _ => ?_)
      refine lv_aload_n hx hb dX2_block_87 rfl (lv_at hl 0 rfl) ?_
      refine va_get (D := D) (ci := 2) (v := .ref (am 4)) (C := RX2) (T := TX2) (N := 25) hx hb hW iMD hown hK hP 0 rfl rfl 15 (by decide) (hW _ tw_529) (fun _ h9 => h9) rfl dX2_block_88 ?_
      refine lv_iload_n hx hb dX2_block_91 rfl (lv_at hl 1 rfl) ?_
      refine lv_bipush (v := nI 15) hx hb dX2_block_92 (by decide) ?_
      refine lv_isub hx hb dX2_block_94 ?_
      refine lv_eqi (v := nI (1 + i)) ((pk_sub (by omega)).trans (congrArg nI (by omega))) ?_
      refine m_ld (X := wMx om am cZ th tp lv dy pv pm by_ pt wy gone oR) hx hb hK hP 0 4 (1 + i) rfl (by decide) (show 1 + i < 64 by omega) (by decide) dX2_block_95 ?_
      refine lv_istore_n (lv' := [(3, .int ((itr p_w2 i (itr (p_w1 f) 16 mem)) 4 (1 + i))), (0, .ref (om 0)), (2, .int (nI (16 + i)))]) hx hb dX2_block_96 rfl hl (by decide) rfl (fun ls hl => ?_)
      refine lv_aload_n hx hb dX2_block_97 rfl (lv_at hl 1 rfl) ?_
      refine va_get (D := D) (ci := 2) (v := .ref (am 4)) (C := RX2) (T := TX2) (N := 25) hx hb hW iMD hown hK hP 0 rfl rfl 15 (by decide) (hW _ tw_529) (fun _ h9 => h9) rfl dX2_block_98 ?_
      refine lv_iload_n hx hb dX2_block_101 rfl (lv_at hl 2 rfl) ?_
      refine lv_iconst (v := nI 2) hx hb dX2_block_102 (by decide) ?_
      refine lv_isub hx hb dX2_block_103 ?_
      refine lv_eqi (v := nI (14 + i)) ((pk_sub (by omega)).trans (congrArg nI (by omega))) ?_
      refine m_ld (X := wMx om am cZ th tp lv dy pv pm by_ pt wy gone oR) hx hb hK hP 0 4 (14 + i) rfl (by decide) (show 14 + i < 64 by omega) (by decide) dX2_block_104 ?_
      refine lv_istore (lv' := [(4, .int ((itr p_w2 i (itr (p_w1 f) 16 mem)) 4 (14 + i))), (3, .int ((itr p_w2 i (itr (p_w1 f) 16 mem)) 4 (1 + i))), (0, .ref (om 0)), (2, .int (nI (16 + i)))]) hx hb dX2_block_105 hl (by decide) rfl (fun ls hl => ?_)
      refine lv_iload_n hx hb dX2_block_107 rfl (lv_at hl 1 rfl) ?_
      refine lv_bipush (v := nI 7) hx hb dX2_block_108 (by decide) ?_
      refine mi_callS (As := [.int ((itr p_w2 i (itr (p_w1 f) 16 mem)) 4 (1 + i)), .int (nI 7)]) (rest := []) ⟨hx, hb, hml, hown, hW⟩ (n_right _ ((itr p_w2 i (itr (p_w1 f) 16 mem)) 4 (1 + i)) (nI 7) (by decide)) nE_ok (va_cwS 2 hW (gS tw_638 tw_639 tw_3 tw_640) rfl rfl rfl (by decide +kernel) ⟨Nat.le_of_ble_eq_true rfl, Nat.le_of_ble_eq_true rfl⟩) hP hD hK hS hA hT rfl hl.1 rfl (Nat.le_of_ble_eq_true rfl) dX2_block_110 ⟨Nat.zero_le _, Nat.zero_le _⟩ (fun H locs hP hD hS => ?_)
      refine lv_iload_n hx hb dX2_block_113 rfl (lv_at hl 1 rfl) ?_
      refine lv_bipush (v := nI 18) hx hb dX2_block_114 (by decide) ?_
      refine mi_callS (As := [.int ((itr p_w2 i (itr (p_w1 f) 16 mem)) 4 (1 + i)), .int (nI 18)]) (rest := [.int (rotr ((itr p_w2 i (itr (p_w1 f) 16 mem)) 4 (1 + i)) (nI 7))]) ⟨hx, hb, hml, hown, hW⟩ (n_right _ ((itr p_w2 i (itr (p_w1 f) 16 mem)) 4 (1 + i)) (nI 18) (by decide)) nE_ok (va_cwS 2 hW (gS tw_638 tw_639 tw_3 tw_640) rfl rfl rfl (by decide +kernel) ⟨Nat.le_of_ble_eq_true rfl, Nat.le_of_ble_eq_true rfl⟩) hP hD hK hS hA hT rfl hl.1 rfl (Nat.le_of_ble_eq_true rfl) dX2_block_116 ⟨Nat.zero_le _, Nat.zero_le _⟩ (fun H locs hP hD hS => ?_)
      refine lv_ixor hx hb dX2_block_119 ?_
      refine lv_iload_n hx hb dX2_block_120 rfl (lv_at hl 1 rfl) ?_
      refine lv_iconst (v := nI 3) hx hb dX2_block_121 (by decide) ?_
      refine lv_iushr (v := ush ((itr p_w2 i (itr (p_w1 f) 16 mem)) 4 (1 + i)) (nI 3)) hx hb dX2_block_122 rfl ?_
      refine lv_ixor hx hb dX2_block_123 ?_
      refine lv_istore (lv' := [(5, .int (((rotr ((itr p_w2 i (itr (p_w1 f) 16 mem)) 4 (1 + i)) (nI 7)) ^^^ (rotr ((itr p_w2 i (itr (p_w1 f) 16 mem)) 4 (1 + i)) (nI 18))) ^^^ (ush ((itr p_w2 i (itr (p_w1 f) 16 mem)) 4 (1 + i)) (nI 3)))), (4, .int ((itr p_w2 i (itr (p_w1 f) 16 mem)) 4 (14 + i))), (3, .int ((itr p_w2 i (itr (p_w1 f) 16 mem)) 4 (1 + i))), (0, .ref (om 0)), (2, .int (nI (16 + i)))]) hx hb dX2_block_124 hl (by decide) rfl (fun ls hl => ?_)
      refine lv_iload hx hb dX2_block_126 (lv_at hl 1 rfl) ?_
      refine lv_bipush (v := nI 17) hx hb dX2_block_128 (by decide) ?_
      refine mi_callS (As := [.int ((itr p_w2 i (itr (p_w1 f) 16 mem)) 4 (14 + i)), .int (nI 17)]) (rest := []) ⟨hx, hb, hml, hown, hW⟩ (n_right _ ((itr p_w2 i (itr (p_w1 f) 16 mem)) 4 (14 + i)) (nI 17) (by decide)) nE_ok (va_cwS 2 hW (gS tw_638 tw_639 tw_3 tw_640) rfl rfl rfl (by decide +kernel) ⟨Nat.le_of_ble_eq_true rfl, Nat.le_of_ble_eq_true rfl⟩) hP hD hK hS hA hT rfl hl.1 rfl (Nat.le_of_ble_eq_true rfl) dX2_block_130 ⟨Nat.zero_le _, Nat.zero_le _⟩ (fun H locs hP hD hS => ?_)
      refine lv_iload hx hb dX2_block_133 (lv_at hl 1 rfl) ?_
      refine lv_bipush (v := nI 19) hx hb dX2_block_135 (by decide) ?_
      refine mi_callS (As := [.int ((itr p_w2 i (itr (p_w1 f) 16 mem)) 4 (14 + i)), .int (nI 19)]) (rest := [.int (rotr ((itr p_w2 i (itr (p_w1 f) 16 mem)) 4 (14 + i)) (nI 17))]) ⟨hx, hb, hml, hown, hW⟩ (n_right _ ((itr p_w2 i (itr (p_w1 f) 16 mem)) 4 (14 + i)) (nI 19) (by decide)) nE_ok (va_cwS 2 hW (gS tw_638 tw_639 tw_3 tw_640) rfl rfl rfl (by decide +kernel) ⟨Nat.le_of_ble_eq_true rfl, Nat.le_of_ble_eq_true rfl⟩) hP hD hK hS hA hT rfl hl.1 rfl (Nat.le_of_ble_eq_true rfl) dX2_block_137 ⟨Nat.zero_le _, Nat.zero_le _⟩ (fun H locs hP hD hS => ?_)
      refine lv_ixor hx hb dX2_block_140 ?_
      refine lv_iload hx hb dX2_block_141 (lv_at hl 1 rfl) ?_
      refine lv_bipush (v := nI 10) hx hb dX2_block_143 (by decide) ?_
      refine lv_iushr (v := ush ((itr p_w2 i (itr (p_w1 f) 16 mem)) 4 (14 + i)) (nI 10)) hx hb dX2_block_145 rfl ?_
      refine lv_ixor hx hb dX2_block_146 ?_
      refine lv_istore (lv' := [(6, .int (((rotr ((itr p_w2 i (itr (p_w1 f) 16 mem)) 4 (14 + i)) (nI 17)) ^^^ (rotr ((itr p_w2 i (itr (p_w1 f) 16 mem)) 4 (14 + i)) (nI 19))) ^^^ (ush ((itr p_w2 i (itr (p_w1 f) 16 mem)) 4 (14 + i)) (nI 10)))), (5, .int (((rotr ((itr p_w2 i (itr (p_w1 f) 16 mem)) 4 (1 + i)) (nI 7)) ^^^ (rotr ((itr p_w2 i (itr (p_w1 f) 16 mem)) 4 (1 + i)) (nI 18))) ^^^ (ush ((itr p_w2 i (itr (p_w1 f) 16 mem)) 4 (1 + i)) (nI 3)))), (4, .int ((itr p_w2 i (itr (p_w1 f) 16 mem)) 4 (14 + i))), (3, .int ((itr p_w2 i (itr (p_w1 f) 16 mem)) 4 (1 + i))), (0, .ref (om 0)), (2, .int (nI (16 + i)))]) hx hb dX2_block_147 hl (by decide) rfl (fun ls hl => ?_)
      refine lv_aload_n hx hb dX2_block_149 rfl (lv_at hl 4 rfl) ?_
      refine va_get (D := D) (ci := 2) (v := .ref (am 4)) (C := RX2) (T := TX2) (N := 25) hx hb hW iMD hown hK hP 0 rfl rfl 15 (by decide) (hW _ tw_529) (fun _ h9 => h9) rfl dX2_block_150 ?_
      refine lv_iload_n hx hb dX2_block_153 rfl (lv_at hl 5 rfl) ?_
      refine lv_aload_n hx hb dX2_block_154 rfl (lv_at hl 4 rfl) ?_
      refine va_get (D := D) (ci := 2) (v := .ref (am 4)) (C := RX2) (T := TX2) (N := 25) hx hb hW iMD hown hK hP 0 rfl rfl 15 (by decide) (hW _ tw_529) (fun _ h9 => h9) rfl dX2_block_155 ?_
      refine lv_iload_n hx hb dX2_block_158 rfl (lv_at hl 5 rfl) ?_
      refine lv_bipush (v := nI 16) hx hb dX2_block_159 (by decide) ?_
      refine lv_isub hx hb dX2_block_161 ?_
      refine lv_eqi (v := nI i) ((pk_sub (by omega)).trans (congrArg nI (by omega))) ?_
      refine m_ld (X := wMx om am cZ th tp lv dy pv pm by_ pt wy gone oR) hx hb hK hP 0 4 i rfl (by decide) (show i < 64 by omega) (by decide) dX2_block_162 ?_
      refine lv_iload hx hb dX2_block_163 (lv_at hl 1 rfl) ?_
      refine lv_iadd hx hb dX2_block_165 ?_
      refine lv_aload_n hx hb dX2_block_166 rfl (lv_at hl 4 rfl) ?_
      refine va_get (D := D) (ci := 2) (v := .ref (am 4)) (C := RX2) (T := TX2) (N := 25) hx hb hW iMD hown hK hP 0 rfl rfl 15 (by decide) (hW _ tw_529) (fun _ h9 => h9) rfl dX2_block_167 ?_
      refine lv_iload_n hx hb dX2_block_170 rfl (lv_at hl 5 rfl) ?_
      refine lv_bipush (v := nI 7) hx hb dX2_block_171 (by decide) ?_
      refine lv_isub hx hb dX2_block_173 ?_
      refine lv_eqi (v := nI (9 + i)) ((pk_sub (by omega)).trans (congrArg nI (by omega))) ?_
      refine m_ld (X := wMx om am cZ th tp lv dy pv pm by_ pt wy gone oR) hx hb hK hP 0 4 (9 + i) rfl (by decide) (show 9 + i < 64 by omega) (by decide) dX2_block_174 ?_
      refine lv_iadd hx hb dX2_block_175 ?_
      refine lv_iload hx hb dX2_block_176 (lv_at hl 0 rfl) ?_
      refine lv_iadd hx hb dX2_block_178 ?_
      refine lv_eqi (v := (((rotr ((itr p_w2 i (itr (p_w1 f) 16 mem)) 4 (14 + i)) (nI 17) ^^^ rotr ((itr p_w2 i (itr (p_w1 f) 16 mem)) 4 (14 + i)) (nI 19)) ^^^ ush ((itr p_w2 i (itr (p_w1 f) 16 mem)) 4 (14 + i)) (nI 10)) + (itr p_w2 i (itr (p_w1 f) 16 mem)) 4 (9 + i) + ((rotr ((itr p_w2 i (itr (p_w1 f) 16 mem)) 4 (1 + i)) (nI 7) ^^^ rotr ((itr p_w2 i (itr (p_w1 f) 16 mem)) 4 (1 + i)) (nI 18)) ^^^ ush ((itr p_w2 i (itr (p_w1 f) 16 mem)) 4 (1 + i)) (nI 3))) + (itr p_w2 i (itr (p_w1 f) 16 mem)) 4 i) (w2c _ _ _ _) ?_
      refine m_st (X := wMx om am cZ th tp lv dy pv pm by_ pt wy gone oR) hx hb hK hP hD hS 0 4 (16 + i) rfl (by decide) (show 16 + i < 64 by omega) (by decide) dX2_block_179 (fun H locs hP hD hS => ?_)
      have hP : va_P D vwCl (wM om am cI cZ th tp lv dy pv pm by_ pt wy gone oR (va_up (itr p_w2 i (itr (p_w1 f) 16 mem)) 4 (upd ((itr p_w2 i (itr (p_w1 f) 16 mem)) 4) (16 + i) ((((rotr ((itr p_w2 i (itr (p_w1 f) 16 mem)) 4 (14 + i)) (nI 17) ^^^ rotr ((itr p_w2 i (itr (p_w1 f) 16 mem)) 4 (14 + i)) (nI 19)) ^^^ ush ((itr p_w2 i (itr (p_w1 f) 16 mem)) 4 (14 + i)) (nI 10)) + (itr p_w2 i (itr (p_w1 f) 16 mem)) 4 (9 + i) + ((rotr ((itr p_w2 i (itr (p_w1 f) 16 mem)) 4 (1 + i)) (nI 7) ^^^ rotr ((itr p_w2 i (itr (p_w1 f) 16 mem)) 4 (1 + i)) (nI 18)) ^^^ ush ((itr p_w2 i (itr (p_w1 f) 16 mem)) 4 (1 + i)) (nI 3))) + (itr p_w2 i (itr (p_w1 f) 16 mem)) 4 i)))) H := hP
      have hD : va_D A (wM om am cI cZ th tp lv dy pv pm by_ pt wy gone oR (va_up (itr p_w2 i (itr (p_w1 f) 16 mem)) 4 (upd ((itr p_w2 i (itr (p_w1 f) 16 mem)) 4) (16 + i) ((((rotr ((itr p_w2 i (itr (p_w1 f) 16 mem)) 4 (14 + i)) (nI 17) ^^^ rotr ((itr p_w2 i (itr (p_w1 f) 16 mem)) 4 (14 + i)) (nI 19)) ^^^ ush ((itr p_w2 i (itr (p_w1 f) 16 mem)) 4 (14 + i)) (nI 10)) + (itr p_w2 i (itr (p_w1 f) 16 mem)) 4 (9 + i) + ((rotr ((itr p_w2 i (itr (p_w1 f) 16 mem)) 4 (1 + i)) (nI 7) ^^^ rotr ((itr p_w2 i (itr (p_w1 f) 16 mem)) 4 (1 + i)) (nI 18)) ^^^ ush ((itr p_w2 i (itr (p_w1 f) 16 mem)) 4 (1 + i)) (nI 3))) + (itr p_w2 i (itr (p_w1 f) 16 mem)) 4 i)))) := hD
      have hP : va_P D vwCl (wM om am cI cZ th tp lv dy pv pm by_ pt wy gone oR (itr p_w2 (i + 1) (itr (p_w1 f) 16 mem))) H := hP
      have hD : va_D A (wM om am cI cZ th tp lv dy pv pm by_ pt wy gone oR (itr p_w2 (i + 1) (itr (p_w1 f) 16 mem))) := hD
      refine lv_iinc (v := nI (16 + (i + 1))) (lv' := [(2, .int (nI (16 + (i + 1)))), (6, .int (((rotr ((itr p_w2 i (itr (p_w1 f) 16 mem)) 4 (14 + i)) (nI 17)) ^^^ (rotr ((itr p_w2 i (itr (p_w1 f) 16 mem)) 4 (14 + i)) (nI 19))) ^^^ (ush ((itr p_w2 i (itr (p_w1 f) 16 mem)) 4 (14 + i)) (nI 10)))), (5, .int (((rotr ((itr p_w2 i (itr (p_w1 f) 16 mem)) 4 (1 + i)) (nI 7)) ^^^ (rotr ((itr p_w2 i (itr (p_w1 f) 16 mem)) 4 (1 + i)) (nI 18))) ^^^ (ush ((itr p_w2 i (itr (p_w1 f) 16 mem)) 4 (1 + i)) (nI 3)))), (4, .int ((itr p_w2 i (itr (p_w1 f) 16 mem)) 4 (14 + i))), (3, .int ((itr p_w2 i (itr (p_w1 f) 16 mem)) 4 (1 + i))), (0, .ref (om 0))]) hx hb dX2_block_180 hl (k := 5) rfl (nI_1 (16 + i)) (by decide) rfl (fun ls hl => ?_)
      refine lv_goto (tgt := 81) hx hb dX2_block_183 (by decide) ?_
      exact ih (i + 1) H locs ls (by omega) hP hD hS (lv_sub hl [5, 0] rfl)
  have loop1 : ∀ (k i : Nat) (H : Heap) (locs : List Loc) (ls : Array Slot), i + k = 16 → va_P D vwCl (wM om am cI cZ th tp lv dy pv pm by_ pt wy gone oR (itr (p_w1 f) i mem)) H → va_D A (wM om am cI cZ th tp lv dy pv pm by_ pt wy gone oR (itr (p_w1 f) i mem)) → va_S A s.heap H locs → lv_has ls 13 [(0, .ref (om 0)), (1, .int (nI f)), (2, .int (nI i))] → W p l e ({ frames := 1, cells := 0, slots := 0, locals := 24 }) s m ([.ref (om 0), .int (nI f)] : List Value).toArray below meth c H locs 0 0 (MQ below (xQv D vwCl (wM om am cI cZ th tp lv dy pv pm by_ pt wy gone oR (p_stir m1)) A) ([.ref (om 0), .int (nI f)] : List Value).toArray s 0 0 A) (F0 m 2 ls []) := by
    intro k
    induction k with
    | zero =>
      intro i H locs ls hk hP hD hS hl
      have hk9 : i = 16 := by omega
      rw [hk9] at hP hD
      refine lv_iload_n hx hb dX2_block_2 rfl (lv_at hl 2 rfl) ?_
      refine lv_bipush (v := nI 16) hx hb dX2_block_3 (by decide) ?_
      refine lv_icmp_ge (tgt := 78) hx hb dX2_block_5 (by decide) (fun _ => ?_) (fun hq9 => absurd (nI_le (by omega) (by omega)) hq9)
      refine lv_bipush (v := nI 16) hx hb dX2_block_78 (by decide) ?_
      refine lv_istore_n (lv' := [(2, .int (nI 16)), (0, .ref (om 0)), (1, .int (nI f))]) hx hb dX2_block_80 rfl hl (by decide) rfl (fun ls hl => ?_)
      have hP : va_P D vwCl (wM om am cI cZ th tp lv dy pv pm by_ pt wy gone oR (itr p_w2 0 (itr (p_w1 f) 16 mem))) H := by rw [itr_0]; exact hP
      have hD : va_D A (wM om am cI cZ th tp lv dy pv pm by_ pt wy gone oR (itr p_w2 0 (itr (p_w1 f) 16 mem))) := by rw [itr_0]; exact hD
      exact loop2 48 0 H locs ls (by omega) hP hD hS (lv_sub hl [1, 0] rfl)
    | succ k ih =>
      intro i H locs ls hk hP hD hS hl
      refine lv_iload_n hx hb dX2_block_2 rfl (lv_at hl 2 rfl) ?_
      refine lv_bipush (v := nI 16) hx hb dX2_block_3 (by decide) ?_
      refine lv_icmp_ge (tgt := 78) hx hb dX2_block_5 (by decide) (fun hq9 => absurd hq9 (nI_ge (by omega) (by decide))) (fun _ => ?_)
      refine lv_aload_n hx hb dX2_block_8 rfl (lv_at hl 0 rfl) ?_
      refine va_get (D := D) (ci := 2) (v := .ref (am 4)) (C := RX2) (T := TX2) (N := 25) hx hb hW iMD hown hK hP 0 rfl rfl 15 (by decide) (hW _ tw_529) (fun _ h9 => h9) rfl dX2_block_9 ?_
      refine lv_iload_n hx hb dX2_block_12 rfl (lv_at hl 2 rfl) ?_
      refine lv_aload_n hx hb dX2_block_13 rfl (lv_at hl 0 rfl) ?_
      refine va_get (D := D) (ci := 2) (v := .ref (am 3)) (C := RX2) (T := TX2) (N := 25) hx hb hW iMD hown hK hP 0 rfl rfl 13 (by decide) (hW _ tw_527) (fun _ h9 => h9) rfl dX2_block_14 ?_
      refine lv_iload_n hx hb dX2_block_17 rfl (lv_at hl 1 rfl) ?_
      refine lv_iconst (v := nI 4) hx hb dX2_block_18 (by decide) ?_
      refine lv_iload_n hx hb dX2_block_19 rfl (lv_at hl 2 rfl) ?_
      refine lv_imul hx hb dX2_block_20 ?_
      refine lv_eqi (v := nI (4 * i)) (pk_mul _ _) ?_
      refine lv_iadd hx hb dX2_block_21 ?_
      refine lv_eqi (v := nI (f + 4 * i)) (nI_add _ _) ?_
      refine m_ld (X := wMx om am cZ th tp lv dy pv pm by_ pt wy gone oR) hx hb hK hP 0 3 (f + 4 * i) rfl (by decide) (show f + 4 * i < 256 by omega) (by decide) dX2_block_22 ?_
      refine lv_bipush (v := nI 24) hx hb dX2_block_23 (by decide) ?_
      refine lv_ishl hx hb dX2_block_25 ?_
      refine lv_aload_n hx hb dX2_block_26 rfl (lv_at hl 0 rfl) ?_
      refine va_get (D := D) (ci := 2) (v := .ref (am 3)) (C := RX2) (T := TX2) (N := 25) hx hb hW iMD hown hK hP 0 rfl rfl 13 (by decide) (hW _ tw_527) (fun _ h9 => h9) rfl dX2_block_27 ?_
      refine lv_iload_n hx hb dX2_block_30 rfl (lv_at hl 1 rfl) ?_
      refine lv_iconst (v := nI 4) hx hb dX2_block_31 (by decide) ?_
      refine lv_iload_n hx hb dX2_block_32 rfl (lv_at hl 2 rfl) ?_
      refine lv_imul hx hb dX2_block_33 ?_
      refine lv_eqi (v := nI (4 * i)) (pk_mul _ _) ?_
      refine lv_iadd hx hb dX2_block_34 ?_
      refine lv_eqi (v := nI (f + 4 * i)) (nI_add _ _) ?_
      refine lv_iconst (v := nI 1) hx hb dX2_block_35 (by decide) ?_
      refine lv_iadd hx hb dX2_block_36 ?_
      refine lv_eqi (v := nI (f + 4 * i + 1)) (nI_add _ _) ?_
      refine m_ld (X := wMx om am cZ th tp lv dy pv pm by_ pt wy gone oR) hx hb hK hP 0 3 (f + 4 * i + 1) rfl (by decide) (show f + 4 * i + 1 < 256 by omega) (by decide) dX2_block_37 ?_
      refine lv_bipush (v := nI 16) hx hb dX2_block_38 (by decide) ?_
      refine lv_ishl hx hb dX2_block_40 ?_
      refine lv_ior hx hb dX2_block_41 ?_
      refine lv_aload_n hx hb dX2_block_42 rfl (lv_at hl 0 rfl) ?_
      refine va_get (D := D) (ci := 2) (v := .ref (am 3)) (C := RX2) (T := TX2) (N := 25) hx hb hW iMD hown hK hP 0 rfl rfl 13 (by decide) (hW _ tw_527) (fun _ h9 => h9) rfl dX2_block_43 ?_
      refine lv_iload_n hx hb dX2_block_46 rfl (lv_at hl 1 rfl) ?_
      refine lv_iconst (v := nI 4) hx hb dX2_block_47 (by decide) ?_
      refine lv_iload_n hx hb dX2_block_48 rfl (lv_at hl 2 rfl) ?_
      refine lv_imul hx hb dX2_block_49 ?_
      refine lv_eqi (v := nI (4 * i)) (pk_mul _ _) ?_
      refine lv_iadd hx hb dX2_block_50 ?_
      refine lv_eqi (v := nI (f + 4 * i)) (nI_add _ _) ?_
      refine lv_iconst (v := nI 2) hx hb dX2_block_51 (by decide) ?_
      refine lv_iadd hx hb dX2_block_52 ?_
      refine lv_eqi (v := nI (f + 4 * i + 2)) (nI_add _ _) ?_
      refine m_ld (X := wMx om am cZ th tp lv dy pv pm by_ pt wy gone oR) hx hb hK hP 0 3 (f + 4 * i + 2) rfl (by decide) (show f + 4 * i + 2 < 256 by omega) (by decide) dX2_block_53 ?_
      refine lv_bipush (v := nI 8) hx hb dX2_block_54 (by decide) ?_
      refine lv_ishl hx hb dX2_block_56 ?_
      refine lv_ior hx hb dX2_block_57 ?_
      refine lv_aload_n hx hb dX2_block_58 rfl (lv_at hl 0 rfl) ?_
      refine va_get (D := D) (ci := 2) (v := .ref (am 3)) (C := RX2) (T := TX2) (N := 25) hx hb hW iMD hown hK hP 0 rfl rfl 13 (by decide) (hW _ tw_527) (fun _ h9 => h9) rfl dX2_block_59 ?_
      refine lv_iload_n hx hb dX2_block_62 rfl (lv_at hl 1 rfl) ?_
      refine lv_iconst (v := nI 4) hx hb dX2_block_63 (by decide) ?_
      refine lv_iload_n hx hb dX2_block_64 rfl (lv_at hl 2 rfl) ?_
      refine lv_imul hx hb dX2_block_65 ?_
      refine lv_eqi (v := nI (4 * i)) (pk_mul _ _) ?_
      refine lv_iadd hx hb dX2_block_66 ?_
      refine lv_eqi (v := nI (f + 4 * i)) (nI_add _ _) ?_
      refine lv_iconst (v := nI 3) hx hb dX2_block_67 (by decide) ?_
      refine lv_iadd hx hb dX2_block_68 ?_
      refine lv_eqi (v := nI (f + 4 * i + 3)) (nI_add _ _) ?_
      refine m_ld (X := wMx om am cZ th tp lv dy pv pm by_ pt wy gone oR) hx hb hK hP 0 3 (f + 4 * i + 3) rfl (by decide) (show f + 4 * i + 3 < 256 by omega) (by decide) dX2_block_69 ?_
      refine lv_ior hx hb dX2_block_70 ?_
      refine m_st (X := wMx om am cZ th tp lv dy pv pm by_ pt wy gone oR) hx hb hK hP hD hS 0 4 i rfl (by decide) (show i < 64 by omega) (by decide) dX2_block_71 (fun H locs hP hD hS => ?_)
      have hP : va_P D vwCl (wM om am cI cZ th tp lv dy pv pm by_ pt wy gone oR (va_up (itr (p_w1 f) i mem) 4 (upd ((itr (p_w1 f) i mem) 4) i ((((((itr (p_w1 f) i mem) 3 (f + 4 * i)) <<< ((nI 24) &&& 31)) ||| (((itr (p_w1 f) i mem) 3 (f + 4 * i + 1)) <<< ((nI 16) &&& 31))) ||| (((itr (p_w1 f) i mem) 3 (f + 4 * i + 2)) <<< ((nI 8) &&& 31))) ||| ((itr (p_w1 f) i mem) 3 (f + 4 * i + 3)))))) H := hP
      have hD : va_D A (wM om am cI cZ th tp lv dy pv pm by_ pt wy gone oR (va_up (itr (p_w1 f) i mem) 4 (upd ((itr (p_w1 f) i mem) 4) i ((((((itr (p_w1 f) i mem) 3 (f + 4 * i)) <<< ((nI 24) &&& 31)) ||| (((itr (p_w1 f) i mem) 3 (f + 4 * i + 1)) <<< ((nI 16) &&& 31))) ||| (((itr (p_w1 f) i mem) 3 (f + 4 * i + 2)) <<< ((nI 8) &&& 31))) ||| ((itr (p_w1 f) i mem) 3 (f + 4 * i + 3)))))) := hD
      have hP : va_P D vwCl (wM om am cI cZ th tp lv dy pv pm by_ pt wy gone oR (itr (p_w1 f) (i + 1) mem)) H := hP
      have hD : va_D A (wM om am cI cZ th tp lv dy pv pm by_ pt wy gone oR (itr (p_w1 f) (i + 1) mem)) := hD
      refine lv_iinc (v := nI (i + 1)) (lv' := [(2, .int (nI (i + 1))), (0, .ref (om 0)), (1, .int (nI f))]) hx hb dX2_block_72 hl (k := 2) rfl (nI_1 _) (by decide) rfl (fun ls hl => ?_)
      refine lv_goto (tgt := 2) hx hb dX2_block_75 (by decide) ?_
      exact ih (i + 1) H locs ls (by omega) hP hD hS (lv_sub hl [1, 2, 0] rfl)
  refine lv_iconst (v := nI 0) hx hb dX2_block_0 (by decide) ?_
  refine lv_istore_n (lv' := [(2, .int (nI 0)), (0, .ref (om 0)), (1, .int (nI f))]) hx hb dX2_block_1 rfl hl (by decide) rfl (fun ls hl => ?_)
  exact loop1 16 0 s.heap [] ls (by omega) hP hD hS (lv_sub hl [1, 2, 0] rfl)
