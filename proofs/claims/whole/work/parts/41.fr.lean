/-! CALLS WITH A REST OF THE WORLD; METHODS WITH HANDLERS; CATCHING -/
theorem va_P_left {D : va_G} {cl : List vw_C} {w wr : va_W} {H : Heap} (h : va_P D cl (w ++ wr) H) : va_P D cl w H := fun k q hk => h k q (by rw [List.getElem?_append_left (List.getElem?_eq_some_iff.mp hk).1]; exact hk)
theorem va_P_right {D : va_G} {cl : List vw_C} {w wr : va_W} {H : Heap} (h : va_P D cl (w ++ wr) H) : va_P D cl wr H := fun k q hk => h (w.length + k) q (by rw [List.getElem?_append_right (by omega), Nat.add_sub_cancel_left]; exact hk)
theorem va_D_left {A : Nat → Prop} {w wr : va_W} (h : va_D A (w ++ wr)) : va_D A w := h.by (fun k => k) (fun k q hk => by rw [List.getElem?_append_left (List.getElem?_eq_some_iff.mp hk).1]; exact hk) (fun _ _ _ _ e => e)
theorem va_D_right {A : Nat → Prop} {w wr : va_W} (h : va_D A (w ++ wr)) : va_D A wr := h.by (fun k => w.length + k) (fun k q hk => by rw [List.getElem?_append_right (by omega), Nat.add_sub_cancel_left]; exact hk) (fun _ _ _ _ e => by omega)
theorem va_D_apart {A : Nat → Prop} {w wr : va_W} (h : va_D A (w ++ wr)) (i j : Nat) (p q : Nat × va_E) (hi : w[i]? = some p) (hj : wr[j]? = some q) : p.1 ≠ q.1 := by
  intro e
  have hl := (List.getElem?_eq_some_iff.mp hi).1
  have := h.1 i (w.length + j) p q (by rw [List.getElem?_append_left hl]; exact hi) (by rw [List.getElem?_append_right (by omega), Nat.add_sub_cancel_left]; exact hj) e
  omega
theorem va_P_sw {D : va_G} {cl : List vw_C} {a b : va_W} {H : Heap} (h : va_P D cl (a ++ b) H) : va_P D cl (b ++ a) H := va_P.app (va_P_right h) (va_P_left h)
theorem va_D_sw {A : Nat → Prop} {a b : va_W} (h : va_D A (a ++ b)) : va_D A (b ++ a) := va_D.app (va_D_right h) (va_D_left h) (fun i j p q hi hj e => va_D_apart h j i q p hj hi e.symm)
theorem x_fr {A : Nat → Prop} {D : va_G} {cl : List vw_C} {w wr w1 : va_W} {H H1 : Heap} (hP : va_P D cl (w ++ wr) H) (hD : va_D A (w ++ wr)) (hk : ∀ q : Nat, q < H.size → ¬ va_A w H.size q → H1[q]? = H[q]?) (hF : ∀ q, va_A w H.size q → A q) (hP1 : va_P D cl w1 H1) (hD1 : va_D (va_A w H.size) w1) : va_P D cl (w1 ++ wr) H1 ∧ va_D A (w1 ++ wr) := by
  have apart : ∀ (k : Nat) (q : Nat × va_E), wr[k]? = some q → q.1 < H.size ∧ ¬ va_A w H.size q.1 := by
    intro k q hq
    have hl := (va_P_right hP k q hq).lt
    refine ⟨hl, fun h => ?_⟩
    rcases h with ⟨k2, e, h⟩ | h
    · exact va_D_apart hD k2 k (q.1, e) q h hq rfl
    · omega
  refine ⟨va_P.app hP1 (fun k q hq => ?_), va_D.app (hD1.weaken (fun k q _ h => hF q.1 h)) (va_D_right hD) (fun i j x y hx hy hxy => ?_)⟩
  · obtain ⟨g1, g2⟩ := apart k q hq
    exact (va_P_right hP k q hq).kept (hk q.1 g1 g2)
  · exact (apart j y hy).2 (by rw [← hxy]; exact hD1.2 i x hx)
theorem x_frS {A : Nat → Prop} {w : va_W} {H0 H H1 : Heap} {locs L : List Loc} (hS : va_S A H0 H locs) (hz : H.size ≤ H1.size) (hk : ∀ q : Nat, q < H.size → ¬ va_A w H.size q → H1[q]? = H[q]?) (hF : ∀ q, va_A w H.size q → A q) (hL : ∀ q ∈ L, va_A w H.size q.base) : va_S A H0 H1 (locs ++ L) :=
  ⟨Nat.le_trans hS.1 hz, fun q h1 h2 => by rw [hk q (Nat.lt_of_lt_of_le h1 hS.1) (fun z => h2 (hF q z))]; exact hS.2.1 q h1 h2, fun q hq => by
    rcases List.mem_append.mp hq with h | h
    · exact hS.2.2 q h
    · exact hF _ (hL q h)⟩
theorem va_P_grow {D : va_G} {cl : List vw_C} {w : va_W} {H H1 : Heap} (h : va_P D cl w H) (hk : ∀ q : Nat, q < H.size → H1[q]? = H[q]?) : va_P D cl w H1 := fun k q hq => (h k q hq).kept (hk q.1 (h k q hq).lt)
section FR1
variable {p : Program} {l : Launch} {e : Env} {R : Room} {s : State} {m : MethodId} {args : Array Value} {below : List Frame} {meth : Method} {c : Code} {H : Heap} {locs : List Loc} {cells slots : Nat} {Q : State → Prop}
variable {cc bytes : ByteArray} {pc nL maxL n index mc ms : Nat} {ls : Array Slot} {rest st0 As : List Value} {D : va_G} {cl : List vw_C} {A : Nat → Prop} {tys : List (ClassId × FieldType)} {w0 w1 wr : va_W} {E : xE} {Ts ws : List Cond} {own C : String} {y : MethodName} {rm : Room} {ret : Option FieldType} {res : Int32} {b : Nat} {x : Option String}
theorem mi_frV (S : CallFix p m c cc nL s args Ts own) (hM : MI l E y ws rm D cl tys (.ref b :: As) w0 w1 res) (hE : okE E) (cw : CallW R s args own C index y bytes maxL ret ws rm 0 0 n) (hrc : ∃ cellB : Cell, H[b]? = some cellB ∧ cellB.vm.isStatics = false ∧ s.vm.findClass C = some cellB.cls)
    (hP : va_P D cl (w0 ++ wr) H) (hD : va_D A (w0 ++ wr)) (hK : va_K D cl tys s) (hS : va_S A s.heap H locs) (hA : ∀ q : Nat, s.heap.size ≤ q → A q) (hT : E A s s.heap) (hn : As.length = n) (hsz : ls.size = nL) (hst : st0 = As.reverse ++ .ref b :: rest) (hW : (rest.map fun v => v.category).sum ≤ 8) (hdg : decode cc pc = .ok (.invokevirtual index, 3)) (hf : cells ≤ R.cells ∧ slots ≤ R.slots)
    (kk : ∀ (H1 : Heap) (locs1 : List Loc), va_P D cl (w1 ++ wr) H1 → va_D A (w1 ++ wr) → va_S A s.heap H1 locs1 → W p l e R s m args below meth c H1 locs1 cells slots Q (F0 m (pc + 3) ls (.int res :: rest))) : W p l e R s m args below meth c H locs cells slots Q (F0 m pc ls st0) := by
  have hFc := mc_free (H := H) (va_D_left hD) hS hA
  refine va_calli (va_runV (As := As) (rest := rest) S (hM H.size) cw ⟨mc_blind hE, hrc, mc_pre hE (va_P_left hP) (va_D_left hD) hK hS hA hT _⟩ rfl hn hsz hst (lv_room hW) hdg hf) hS (fun q _ h => hFc q h) hFc (fun r u t H1 locs1 ht _ hr hB _ hk hS1 => ?_)
  obtain ⟨hP1, hD1⟩ := hB
  rw [ht] at hP1
  subst hr
  obtain ⟨a1, a2⟩ := x_fr hP hD hk hFc hP1 hD1
  exact kk H1 locs1 a1 a2 hS1
theorem mv_frV (S : CallFix p m c cc nL s args Ts own) (hM : MV l E y ws rm D cl tys (.ref b :: As) w0 w1) (hE : okE E) (cw : CallW R s args own C index y bytes maxL ret ws rm 0 0 n) (hrc : ∃ cellB : Cell, H[b]? = some cellB ∧ cellB.vm.isStatics = false ∧ s.vm.findClass C = some cellB.cls)
    (hP : va_P D cl (w0 ++ wr) H) (hD : va_D A (w0 ++ wr)) (hK : va_K D cl tys s) (hS : va_S A s.heap H locs) (hA : ∀ q : Nat, s.heap.size ≤ q → A q) (hT : E A s s.heap) (hn : As.length = n) (hsz : ls.size = nL) (hst : st0 = As.reverse ++ .ref b :: rest) (hW : (rest.map fun v => v.category).sum ≤ 8) (hdg : decode cc pc = .ok (.invokevirtual index, 3)) (hf : cells ≤ R.cells ∧ slots ≤ R.slots)
    (kk : ∀ (H1 : Heap) (locs1 : List Loc), va_P D cl (w1 ++ wr) H1 → va_D A (w1 ++ wr) → va_S A s.heap H1 locs1 → W p l e R s m args below meth c H1 locs1 cells slots Q (F0 m (pc + 3) ls rest)) : W p l e R s m args below meth c H locs cells slots Q (F0 m pc ls st0) := by
  have hFc := mc_free (H := H) (va_D_left hD) hS hA
  refine va_callv (va_runV (As := As) (rest := rest) S (hM H.size) cw ⟨mc_blind hE, hrc, mc_pre hE (va_P_left hP) (va_D_left hD) hK hS hA hT _⟩ rfl hn hsz hst (lv_room hW) hdg hf) hS (fun q _ h => hFc q h) hFc (fun u t H1 locs1 ht _ _ hB _ hk hS1 => ?_)
  obtain ⟨hP1, hD1⟩ := hB
  rw [ht] at hP1
  obtain ⟨a1, a2⟩ := x_fr hP hD hk hFc hP1 hD1
  exact kk H1 locs1 a1 a2 hS1
/-- a method that may throw, of which it is known that it doesn't -/
theorem ti_frV (S : CallFix p m c cc nL s args Ts own) (hM : MTi l E y ws rm D cl tys (.ref b :: As) w0 w1 res x mc ms) (hx0 : x = none) (hE : okE E) (cw : CallW R s args own C index y bytes maxL ret ws rm mc ms n) (hrc : ∃ cellB : Cell, H[b]? = some cellB ∧ cellB.vm.isStatics = false ∧ s.vm.findClass C = some cellB.cls)
    (hP : va_P D cl (w0 ++ wr) H) (hD : va_D A (w0 ++ wr)) (hK : va_K D cl tys s) (hS : va_S A s.heap H locs) (hA : ∀ q : Nat, s.heap.size ≤ q → A q) (hT : E A s s.heap) (hn : As.length = n) (hsz : ls.size = nL) (hst : st0 = As.reverse ++ .ref b :: rest) (hW : (rest.map fun v => v.category).sum ≤ 8) (hdg : decode cc pc = .ok (.invokevirtual index, 3)) (hf : cells + mc ≤ R.cells ∧ slots + ms ≤ R.slots)
    (kk : ∀ (H1 : Heap) (locs1 : List Loc), va_P D cl (w1 ++ wr) H1 → va_D A (w1 ++ wr) → va_S A s.heap H1 locs1 → W p l e R s m args below meth c H1 locs1 (cells + mc) (slots + ms) Q (F0 m (pc + 3) ls (.int res :: rest))) : W p l e R s m args below meth c H locs cells slots Q (F0 m pc ls st0) := by
  have hFc := mc_free (H := H) (va_D_left hD) hS hA
  refine xt_call (xt_runV (As := As) (rest := rest) S (hM H.size) cw ⟨mc_blind hE, hrc, mc_pre hE (va_P_left hP) (va_D_left hD) hK hS hA hT _⟩ rfl hn hsz hst (lv_room hW) hdg hf) (fun u st t H1 L h0 h1 _ hp hL => ?_) (fun nm xa t H1 L _ _ ht => ?_)
  · obtain ⟨-, hr, hP1, hD1, hz, hk⟩ := hp
    rw [h0] at hz hk
    rw [h1] at hP1 hz hk
    subst hr
    obtain ⟨a1, a2⟩ := x_fr hP hD hk hFc hP1 hD1
    exact kk H1 _ a1 a2 (x_frS hS hz hk hFc hL)
  · rw [hx0] at ht; cases ht
theorem tv_frV (S : CallFix p m c cc nL s args Ts own) (hM : MTv l E y ws rm D cl tys (.ref b :: As) w0 w1 x mc ms) (hx0 : x = none) (hE : okE E) (cw : CallW R s args own C index y bytes maxL ret ws rm mc ms n) (hrc : ∃ cellB : Cell, H[b]? = some cellB ∧ cellB.vm.isStatics = false ∧ s.vm.findClass C = some cellB.cls)
    (hP : va_P D cl (w0 ++ wr) H) (hD : va_D A (w0 ++ wr)) (hK : va_K D cl tys s) (hS : va_S A s.heap H locs) (hA : ∀ q : Nat, s.heap.size ≤ q → A q) (hT : E A s s.heap) (hn : As.length = n) (hsz : ls.size = nL) (hst : st0 = As.reverse ++ .ref b :: rest) (hW : (rest.map fun v => v.category).sum ≤ 8) (hdg : decode cc pc = .ok (.invokevirtual index, 3)) (hf : cells + mc ≤ R.cells ∧ slots + ms ≤ R.slots)
    (kk : ∀ (H1 : Heap) (locs1 : List Loc), va_P D cl (w1 ++ wr) H1 → va_D A (w1 ++ wr) → va_S A s.heap H1 locs1 → W p l e R s m args below meth c H1 locs1 (cells + mc) (slots + ms) Q (F0 m (pc + 3) ls rest)) : W p l e R s m args below meth c H locs cells slots Q (F0 m pc ls st0) := by
  have hFc := mc_free (H := H) (va_D_left hD) hS hA
  refine xt_call (xt_runV (As := As) (rest := rest) S (hM H.size) cw ⟨mc_blind hE, hrc, mc_pre hE (va_P_left hP) (va_D_left hD) hK hS hA hT _⟩ rfl hn hsz hst (lv_room hW) hdg hf) (fun u st t H1 L h0 h1 _ hp hL => ?_) (fun nm xa t H1 L _ _ ht => ?_)
  · obtain ⟨-, hP1, hD1, hz, hk⟩ := hp
    rw [h0] at hz hk
    rw [h1] at hP1 hz hk
    obtain ⟨a1, a2⟩ := x_fr hP hD hk hFc hP1 hD1
    exact kk H1 _ a1 a2 (x_frS hS hz hk hFc hL)
  · rw [hx0] at ht; cases ht
/-- the thrown object, seen from the state ahead of the method -/
def xt_Ob (s : State) (nm : String) (xa : Nat) (H : Heap) : Prop := ∃ ce : Cell, H[xa]? = some ce ∧ ce.vm = .none ∧ s.vm.findClass nm = some ce.cls
/-- .. and of which it is known that it does -/
theorem ti_frN {nm : String} (S : CallFix p m c cc nL s args Ts own) (hM : MTi l E y ws rm D cl tys (.ref b :: As) w0 w1 res x mc ms) (hx0 : x = some nm) (hE : okE E) (cw : CallW R s args own C index y bytes maxL ret ws rm mc ms n) (hrc : ∃ cellB : Cell, H[b]? = some cellB ∧ cellB.vm.isStatics = false ∧ s.vm.findClass C = some cellB.cls)
    (hP : va_P D cl (w0 ++ wr) H) (hD : va_D A (w0 ++ wr)) (hK : va_K D cl tys s) (hS : va_S A s.heap H locs) (hA : ∀ q : Nat, s.heap.size ≤ q → A q) (hT : E A s s.heap) (hn : As.length = n) (hsz : ls.size = nL) (hst : st0 = As.reverse ++ .ref b :: rest) (hW : (rest.map fun v => v.category).sum ≤ 8) (hdg : decode cc pc = .ok (.invokevirtual index, 3)) (hf : cells + mc ≤ R.cells ∧ slots + ms ≤ R.slots)
    (kt : ∀ (xa : Nat) (H1 : Heap) (locs1 : List Loc), xt_Ob s nm xa H1 → va_P D cl (w0 ++ wr) H1 → va_S A s.heap H1 locs1 → WT p l e R s m args below meth c H1 locs1 (cells + mc) (slots + ms) Q (F0 m pc ls rest) xa) : W p l e R s m args below meth c H locs cells slots Q (F0 m pc ls st0) := by
  have hFc := mc_free (H := H) (va_D_left hD) hS hA
  refine xt_call (xt_runV (As := As) (rest := rest) S (hM H.size) cw ⟨mc_blind hE, hrc, mc_pre hE (va_P_left hP) (va_D_left hD) hK hS hA hT _⟩ rfl hn hsz hst (lv_room hW) hdg hf) (fun u st t H1 L h0 h1 _ hp hL => ?_) (fun nm' xa t H1 L h1 hal ht hTh hz hk hL => ?_)
  · rw [hx0] at hp; cases hp.1
  · have e0 : nm' = nm := Option.some.inj (ht.symm.trans hx0)
    subst e0
    obtain ⟨ce, c1, c2, c3⟩ := hTh
    exact kt xa H1 _ ⟨ce, by rw [← h1]; exact c1, c2, by rw [← hal.findClass]; exact c3⟩ (va_P_grow hP hk) (x_frS (w := w0) hS hz (fun q h _ => hk q h) hFc hL)
theorem tv_frN {nm : String} (S : CallFix p m c cc nL s args Ts own) (hM : MTv l E y ws rm D cl tys (.ref b :: As) w0 w1 x mc ms) (hx0 : x = some nm) (hE : okE E) (cw : CallW R s args own C index y bytes maxL ret ws rm mc ms n) (hrc : ∃ cellB : Cell, H[b]? = some cellB ∧ cellB.vm.isStatics = false ∧ s.vm.findClass C = some cellB.cls)
    (hP : va_P D cl (w0 ++ wr) H) (hD : va_D A (w0 ++ wr)) (hK : va_K D cl tys s) (hS : va_S A s.heap H locs) (hA : ∀ q : Nat, s.heap.size ≤ q → A q) (hT : E A s s.heap) (hn : As.length = n) (hsz : ls.size = nL) (hst : st0 = As.reverse ++ .ref b :: rest) (hW : (rest.map fun v => v.category).sum ≤ 8) (hdg : decode cc pc = .ok (.invokevirtual index, 3)) (hf : cells + mc ≤ R.cells ∧ slots + ms ≤ R.slots)
    (kt : ∀ (xa : Nat) (H1 : Heap) (locs1 : List Loc), xt_Ob s nm xa H1 → va_P D cl (w0 ++ wr) H1 → va_S A s.heap H1 locs1 → WT p l e R s m args below meth c H1 locs1 (cells + mc) (slots + ms) Q (F0 m pc ls rest) xa) : W p l e R s m args below meth c H locs cells slots Q (F0 m pc ls st0) := by
  have hFc := mc_free (H := H) (va_D_left hD) hS hA
  refine xt_call (xt_runV (As := As) (rest := rest) S (hM H.size) cw ⟨mc_blind hE, hrc, mc_pre hE (va_P_left hP) (va_D_left hD) hK hS hA hT _⟩ rfl hn hsz hst (lv_room hW) hdg hf) (fun u st t H1 L h0 h1 _ hp hL => ?_) (fun nm' xa t H1 L h1 hal ht hTh hz hk hL => ?_)
  · rw [hx0] at hp; cases hp.1
  · have e0 : nm' = nm := Option.some.inj (ht.symm.trans hx0)
    subst e0
    obtain ⟨ce, c1, c2, c3⟩ := hTh
    exact kt xa H1 _ ⟨ce, by rw [← h1]; exact c1, c2, by rw [← hal.findClass]; exact c3⟩ (va_P_grow hP hk) (x_frS (w := w0) hS hz (fun q h _ => hk q h) hFc hL)
/-- the handler's row: those ahead of it are passed, it catches -/
theorem xt_catchT {nm name : String} {xa pc' : Nat} {st1 : List Value} (hown : s.vm.findClass own = some m.cls) (hOb : xt_Ob s nm xa H) (pre rest' : List ExceptionTableEntry) (z : ExceptionTableEntry) (hsplit : c.exceptionTable.toList = pre ++ z :: rest')
    (hpass : ∀ y ∈ pre, y.catchType ≠ 0 ∧ ∃ n2, (Cond.classLink own y.catchType n2).before args s = true ∧ (Cond.not (.castable nm n2)).before args s = true) (hz0 : covers z pc = true) (h0 : z.catchType ≠ 0) (hlink : (Cond.classLink own z.catchType name).before args s = true) (hcast : (Cond.castable nm name).before args s = true) (hpc : z.handlerPc = pc')
    (k : W p l e R s m args below meth c H locs cells slots Q (F0 m pc' ls [.ref xa])) : WT p l e R s m args below meth c H locs cells slots Q (F0 m pc ls st1) xa := by
  intro T hT X
  obtain ⟨ce, c1, c2, c3⟩ := hOb
  have hpl : e.platform.magicAccessors = ({} : Platform).magicAccessors := by rw [X.admits.platform]
  obtain ⟨a1, cT, b1, b2, b3⟩ := Cond.castable_spec hcast
  cases c3.symm.trans b1
  obtain ⟨cL, hcL, hlk⟩ := Cond.classLink_spec hown hlink e.platform hpl
  cases b2.symm.trans hcL
  obtain ⟨kth, hkth⟩ := Vm.classAt_of_findClass c3
  obtain ⟨vm', hW', hq⟩ := og_go (e := e) (s0 := s) (f := F0 m pc ls st1) (a := xa) (cell := ce) (VmData.ne_statics_of (by rw [c2]; rfl)) hkth z rest' hz0 h0 hlk b3 pre ((T.setTop (F0 m pc ls st1)).pushFrame (.throwing xa)) X.warmed (by rw [← hT] at c1; exact c1) (fun y hy => by
    obtain ⟨g0, n2, g1, g2⟩ := hpass y hy
    obtain ⟨cY, hcY, hlY⟩ := Cond.classLink_spec hown g1 e.platform hpl
    have hv := Cond.holds_not_iff.mp g2
    simp only [Cond.value, c3, hcY] at hv
    exact ⟨g0, cY, hlY, Option.some.inj hv⟩)
  obtain ⟨t, a, b⟩ := k (T.setVm vm') hT (X.noted hW')
  refine ⟨t, ?_, b⟩
  subst hpc
  exact og_step (g := F0 m pc ls st1) X.here (fun Q E d acts => by rw [W.findHandler_eq X.method' X.code, hsplit]; exact hq Q E d acts) a
end FR1
