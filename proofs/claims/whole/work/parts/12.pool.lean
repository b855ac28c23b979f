/-! INT ARRAYS BY NUMBERS: array k (k < n) lies at ad k, has len k places and holds mem k -/
def mp (ad : Nat → Nat) (cI : ClassId) (len : Nat → Nat) (mem : Nat → Nat → Int32) (n : Nat) : va_W := (List.range n).map (fun k => (ad k, .inl (cI, len k, .inl (mem k))))
theorem mp_get {X : va_W} {ad : Nat → Nat} {cI : ClassId} {len : Nat → Nat} {mem : Nat → Nat → Int32} {n k : Nat} (h : k < n) : (X ++ mp ad cI len mem n)[X.length + k]? = some (ad k, .inl (cI, len k, .inl (mem k))) := by
  rw [List.getElem?_append_right (by omega), Nat.add_sub_cancel_left]
  simp [mp, h]
theorem mp_set {X : va_W} {ad : Nat → Nat} {cI : ClassId} {len : Nat → Nat} {mem : Nat → Nat → Int32} {n k : Nat} {v : Nat → Int32} (h : k < n) : (X ++ mp ad cI len mem n).set (X.length + k) (ad k, .inl (cI, len k, .inl v)) = X ++ mp ad cI len (va_up mem k v) n := by
  rw [List.set_append_right _ _ (by omega), Nat.add_sub_cancel_left]
  congr 1
  apply List.ext_getElem?
  intro j
  by_cases hj : j = k
  · subst hj
    rw [List.getElem?_set_self (by simp [mp, h])]
    simp [mp, h, va_up]
  · rw [List.getElem?_set_ne (Ne.symm hj)]
    simp only [mp, List.getElem?_map]
    cases hb : (List.range n)[j]? with
    | none => rfl
    | some b =>
      have hbj : b = j := by
        have := List.getElem?_eq_some_iff.mp hb
        obtain ⟨_, h2⟩ := this
        simpa using h2.symm
      simp [va_up, hbj, hj]
section MPW
variable {p : Program} {l : Launch} {e : Env} {R : Room} {s : State} {m : MethodId} {args : Array Value} {below : List Frame} {meth : Method} {c : Code} {H : Heap} {locs : List Loc} {cells slots : Nat} {Q : State → Prop}
variable {cc : ByteArray} {pc : Nat} {ls : Array Slot} {rest : List Value} {D : va_G} {cl : List vw_C} {A : Nat → Prop} {tys : List (ClassId × FieldType)} {ws X : va_W} {H0 : Heap}
variable {ad : Nat → Nat} {cI : ClassId} {len : Nat → Nat} {mem : Nat → Nat → Int32} {n : Nat}
theorem lv_eqi {x v : Int32} (h : x = v) (k : W p l e R s m args below meth c H locs cells slots Q (F0 m pc ls (.int v :: rest))) : W p l e R s m args below meth c H locs cells slots Q (F0 m pc ls (.int x :: rest)) := h ▸ k
theorem lv_eql {x v : Int64} (h : x = v) (k : W p l e R s m args below meth c H locs cells slots Q (F0 m pc ls (.long v :: rest))) : W p l e R s m args below meth c H locs cells slots Q (F0 m pc ls (.long x :: rest)) := h ▸ k
/-- iaload of array k at j -/
theorem m_ld (hexec : p.tables.exec = Jvm.exec) (hb : c.code = cc) (hK : va_K D cl tys s) (hP : va_P D cl (X ++ mp ad cI len mem n) H) (t0 k j : Nat) (ht : tys[t0]? = some (cI, .int)) (hk : k < n) (hj : j < len k) (hl : len k < 2 ^ 31) (hdg : decode cc pc = .ok (.iaload, 1))
    (kk : W p l e R s m args below meth c H locs cells slots Q (F0 m (pc + 1) ls (.int (mem k j) :: rest))) : W p l e R s m args below meth c H locs cells slots Q (F0 m pc ls (.int (nI j) :: .ref (ad k) :: rest)) := by
  refine va_iald hexec hb hK hP (X.length + k) t0 (mp_get hk) ht (vp_in_nI hj hl) hdg ?_
  rw [nI_clamp (Nat.lt_trans hj hl)]
  exact kk
/-- iastore into array k at j -/
theorem m_st (hexec : p.tables.exec = Jvm.exec) (hb : c.code = cc) (hK : va_K D cl tys s) (hP : va_P D cl (X ++ mp ad cI len mem n) H) (hD : va_D A (X ++ mp ad cI len mem n)) (hS : va_S A H0 H locs) (t0 k j : Nat) (ht : tys[t0]? = some (cI, .int)) (hk : k < n) (hj : j < len k) (hl : len k < 2 ^ 31) {x : Int32} (hdg : decode cc pc = .ok (.iastore, 1))
    (kk : ∀ (H1 : Heap) (locs1 : List Loc), va_P D cl (X ++ mp ad cI len (va_up mem k (upd (mem k) j x)) n) H1 → va_D A (X ++ mp ad cI len (va_up mem k (upd (mem k) j x)) n) → va_S A H0 H1 locs1 → W p l e R s m args below meth c H1 locs1 cells slots Q (F0 m (pc + 1) ls rest)) : W p l e R s m args below meth c H locs cells slots Q (F0 m pc ls (.int x :: .int (nI j) :: .ref (ad k) :: rest)) := by
  refine va_iast hexec hb hK hP hD hS (X.length + k) t0 (mp_get hk) ht (vp_in_nI hj hl) hdg (fun H1 locs1 hP1 hD1 hS1 => ?_)
  rw [nI_clamp (Nat.lt_trans hj hl), mp_set hk] at hP1 hD1
  exact kk H1 locs1 hP1 hD1 hS1
/-- System.arraycopy from array k0 to array k, both from place 0 on, w places -/
theorem m_cpy (hexec : p.tables.exec = Jvm.exec) (hb : c.code = cc) (hml : c.maxLocals = ls.size) {own : String} {index : Nat} (hown : s.vm.findClass own = some m.cls) (hlink : (Cond.methodLink own index arraycopyName).before args s = true) (hnat : (Cond.native arraycopyName).before args s = true) (hstat : (Cond.static arraycopyName).before args s = true) (hini : (Cond.initialized "java/lang/System").before args s = true)
    (hK : va_K D cl tys s) (hP : va_P D cl (X ++ mp ad cI len mem n) H) (hD : va_D A (X ++ mp ad cI len mem n)) (hS : va_S A H0 H locs) (t0 k0 k w : Nat) (ht : tys[t0]? = some (cI, .int)) (hk0 : k0 < n) (hk : k < n) (hw0 : w ≤ len k0) (hw : w ≤ len k) (hw2 : w < 2 ^ 31)
    (hframes : 1 ≤ R.frames) (hlocals : (rest.map fun v => v.category).sum + (nativeFrameWords "java/lang/System" "arraycopy" 5 + 11) ≤ R.locals) (hdg : decode cc pc = .ok (.invokestatic index, 3))
    (kk : ∀ (H1 : Heap) (locs1 : List Loc), va_P D cl (X ++ mp ad cI len (va_up mem k (va_cpy (mem k0) (mem k) 0 0 w)) n) H1 → va_D A (X ++ mp ad cI len (va_up mem k (va_cpy (mem k0) (mem k) 0 0 w)) n) → va_S A H0 H1 locs1 → W p l e R s m args below meth c H1 locs1 cells slots Q (F0 m (pc + 3) ls rest)) : W p l e R s m args below meth c H locs cells slots Q (F0 m pc ls (.int (nI w) :: .int (nI 0) :: .ref (ad k) :: .int (nI 0) :: .ref (ad k0) :: rest)) := by
  have hz : (nI 0).toNatClampNeg = 0 := nI_clamp (by decide)
  have hw1 : (nI w).toNatClampNeg = w := nI_clamp hw2
  refine va_copyi hexec hb hml hown hlink hnat hstat hini hK hP hD hS (X.length + k0) (X.length + k) t0 t0 (mp_get hk0) (mp_get hk) ht ht rfl (nI_pos (by decide)) (nI_pos (by decide)) (nI_pos hw2) (by rw [hz, hw1]; omega) (by rw [hz, hw1]; omega) (fun _ _ => rfl) hframes hlocals hdg (fun H1 locs1 hP1 hD1 hS1 => ?_)
  rw [hz, hw1, mp_set hk] at hP1 hD1
  exact kk H1 locs1 hP1 hD1 hS1
/-- aaload out of a row of rows -/
theorem m_row (hexec : p.tables.exec = Jvm.exec) (hb : c.code = cc) (hK : va_K D cl tys s) (hP : va_P D cl ws H) (q0 t0 j : Nat) {a : Nat} {cG : ClassId} {N y : Nat} {g : Nat → Option Nat} (ha : ws[q0]? = some (a, .inl (cG, N, .inr (.inr (.inr (.inr g)))))) (ht : tys[t0]? = some (cG, .array .int)) (hj : j < N) (hN : N < 2 ^ 31) (hg : g j = some y) (hdg : decode cc pc = .ok (.aaload, 1))
    (kk : W p l e R s m args below meth c H locs cells slots Q (F0 m (pc + 1) ls (.ref y :: rest))) : W p l e R s m args below meth c H locs cells slots Q (F0 m pc ls (.int (nI j) :: .ref a :: rest)) := by
  have hcj : (nI j).toNatClampNeg = j := nI_clamp (Nat.lt_trans hj hN)
  have hin : vp_in (nI j) N := vp_in_nI hj hN
  refine W.aald (v := .ref y) (ty := .array .int) hexec hb (hP q0 _ ha) ((hK.2 t0 _ ht).1 N (fun j => va_rf (g j))) rfl (fun q => by cases q) (by show ¬ (nI j < 0 ∨ (arrV _ _ _).slots.size ≤ _); rw [arrV_size]; exact hin) ?_ rfl rfl hdg kk
  show (arrV _ _ _).slots[_]? = _
  rw [hcj, arrV_read _ _ hj, hg]
  rfl
/-- System.arraycopy out of a static table -/
theorem m_cpyT (hexec : p.tables.exec = Jvm.exec) (hb : c.code = cc) (hml : c.maxLocals = ls.size) {own : String} {index : Nat} (hown : s.vm.findClass own = some m.cls) (hlink : (Cond.methodLink own index arraycopyName).before args s = true) (hnat : (Cond.native arraycopyName).before args s = true) (hstat : (Cond.static arraycopyName).before args s = true) (hini : (Cond.initialized "java/lang/System").before args s = true)
    (hK : va_K D cl tys s) (hP : va_P D cl (X ++ mp ad cI len mem n) H) (hD : va_D A (X ++ mp ad cI len mem n)) (hS : va_S A s.heap H locs) {t N : Nat} {f : Nat → Int32} (hX : va_T .int t N (fun j => .int (f j)) A s s.heap) (t0 k w : Nat) (ht : tys[t0]? = some (cI, .int)) (hk : k < n) (hw0 : w ≤ N) (hw : w ≤ len k) (hw2 : w < 2 ^ 31)
    (hframes : 1 ≤ R.frames) (hlocals : (rest.map fun v => v.category).sum + (nativeFrameWords "java/lang/System" "arraycopy" 5 + 11) ≤ R.locals) (hdg : decode cc pc = .ok (.invokestatic index, 3))
    (kk : ∀ (H1 : Heap) (locs1 : List Loc), va_P D cl (X ++ mp ad cI len (va_up mem k (va_cpy f (mem k) 0 0 w)) n) H1 → va_D A (X ++ mp ad cI len (va_up mem k (va_cpy f (mem k) 0 0 w)) n) → va_S A s.heap H1 locs1 → W p l e R s m args below meth c H1 locs1 cells slots Q (F0 m (pc + 3) ls rest)) : W p l e R s m args below meth c H locs cells slots Q (F0 m pc ls (.int (nI w) :: .int (nI 0) :: .ref (ad k) :: .int (nI 0) :: .ref t :: rest)) := by
  have hz : (nI 0).toNatClampNeg = 0 := nI_clamp (by decide)
  have hw1 : (nI w).toNatClampNeg = w := nI_clamp hw2
  have hi0 : (nI 0).toInt = 0 := nI_toInt (by decide)
  have hiw : (nI w).toInt = (w : Int) := nI_toInt hw2
  intro T hT X0
  obtain ⟨scr, hs1, ⟨hs6, k0, hk0, cm0, hkk0⟩, hs3, hs4, -, hs5, hs7⟩ := hX
  have hc0 : H[t]? = some scr := by rw [hS.2.1 t (Array.getElem?_eq_some_iff.mp hs1).1 hs7]; exact hs1
  have ha1 := mp_get (X := X) (ad := ad) (cI := cI) (len := len) (mem := mem) hk
  have hc1 : H[ad k]? = some (vp_cell cI (len k, .inl (mem k))) := hP _ _ ha1
  obtain ⟨-, k1, hk1, cm1, hkk1⟩ := (hK.2 t0 _ ht).1 (len k) (fun j => .int (mem k j))
  obtain ⟨vm', X', step⟩ := X0.arraycopy hexec hown hlink hnat hstat hini (src := t) (dst := ad k) (cs := scr) (cd := vp_cell cI (len k, .inl (mem k))) (srcPos := nI 0) (destPos := nI 0) (n := nI w) (by rw [hT]; exact hc0) (by rw [hT]; exact hc1)
    hs6 (fun _ h => by cases h) hs3 (fun h => by cases h) hk0 hk1 hkk0 hkk1 (by simp [refKind]) (nI_pos (by decide)) (nI_pos (by decide)) (nI_pos hw2)
    (by rw [hi0, hiw]; omega)
    (by rw [hi0, hiw]; show ¬ _ > ((arrV cI (len k) (fun j => .int (mem k j))).slots.size : Int); rw [arrV_size]; omega)
    (fun vm₁ _ i hi => by
      have e : scr.slots.getD ((nI 0).toNatClampNeg + i) .null = .int (f ((nI 0).toNatClampNeg + i)) := by
        rw [Array.getD_eq_getD_getElem?, hs5 _ (by omega)]
        rfl
      refine ⟨?_, ?_⟩
      · rw [e]
        rfl
      · rw [e]
        exact trivial)
    (g := F0 m pc ls (.int (nI w) :: .int (nI 0) :: .ref (ad k) :: .int (nI 0) :: .ref t :: rest)) rfl (by rw [hml]) (rest := rest) rfl (by rw [hb]; exact hdg) hframes (by show 2 * 0 + _ + _ ≤ _; omega)
  have e1 : copied scr (vp_cell cI (len k, .inl (mem k))) (nI 0) (nI 0) (nI w) = vp_cell cI (len k, .inl (va_cpy f (mem k) (nI 0).toNatClampNeg (nI 0).toNatClampNeg (nI w).toNatClampNeg)) := va_copiedX (fun z => .int z) scr cI f (mem k) hs5 (by omega)
  rw [e1, hz, hw1] at X' step
  have hl : ad k < H.size := (Array.getElem?_eq_some_iff.mp hc1).1
  generalize hV : va_cpy f (mem k) 0 0 w = V at X' step kk
  have hheap : ((T.setVm vm').setCell (ad k) (vp_cell cI (len k, .inl V))).heap = H.setIfInBounds (ad k) (vp_cell cI (len k, .inl V)) := by rw [← hT]; rfl
  have oq : ∀ q : Nat, q ≠ ad k → (H.setIfInBounds (ad k) (vp_cell cI (len k, .inl V)))[q]? = H[q]? := fun q hq => by simp [Array.getElem?_setIfInBounds, Ne.symm hq]
  have hP1 := hP.set (e := .inl (cI, len k, .inl V)) hD ha1 (show (H.setIfInBounds (ad k) (vp_cell cI (len k, .inl V)))[ad k]? = some (vp_cell cI (len k, .inl V)) by simp [Array.getElem?_setIfInBounds, hl]) oq
  have hD1 := hD.set (e := .inl (cI, len k, .inl V)) ha1
  rw [mp_set hk] at hP1 hD1
  obtain ⟨t9, a1, b1⟩ := kk _ _ hP1 hD1 ⟨by simp; exact hS.1, fun q g1 g2 => by
      rw [oq q (fun e => g2 (by rw [e]; exact hD.2 _ _ ha1))]
      exact hS.2.1 q g1 g2, fun q hq => by
      rcases List.mem_append.mp hq with h | h
      · exact hS.2.2 q h
      · obtain ⟨z, -, hz⟩ := List.mem_map.mp h
        rw [← hz]
        exact hD.2 _ _ ha1⟩ _ hheap X'
  exact ⟨t9, step t9 a1, b1⟩
/-- baload out of a boolean array -/
theorem m_zld (hexec : p.tables.exec = Jvm.exec) (hb : c.code = cc) (hK : va_K D cl tys s) (hP : va_P D cl ws H) (q0 t0 j : Nat) {a : Nat} {cZ : ClassId} {N : Nat} {f : Nat → Int32} (ha : ws[q0]? = some (a, .inl (cZ, N, .inl f))) (ht : tys[t0]? = some (cZ, .boolean)) (hj : j < N) (hN : N < 2 ^ 31) (hdg : decode cc pc = .ok (.baload, 1))
    (kk : W p l e R s m args below meth c H locs cells slots Q (F0 m (pc + 1) ls (.int (f j) :: rest))) : W p l e R s m args below meth c H locs cells slots Q (F0 m pc ls (.int (nI j) :: .ref a :: rest)) := by
  refine va_zald hexec hb hK hP q0 t0 ha ht (vp_in_nI hj hN) hdg ?_
  rw [nI_clamp (Nat.lt_trans hj hN)]
  exact kk
end MPW
