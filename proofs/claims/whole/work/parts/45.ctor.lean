/-! MAKING: newarray, new int[N][M], constructors' contracts -/
theorem z_out (cA : ClassId) (N h : Nat) : g2_out cA N h N = vp_cell cA (N, .inr (.inr (.inr (.inr (fun i => some (h + 1 + i)))))) := by
  rw [g2_out_is cA N h N (Nat.le_refl _)]
  have e1 : vp_cell cA (N, .inr (.inr (.inr (.inr (fun i => some (h + 1 + i)))))) = arrV cA N (fun i => .ref (h + 1 + i)) := rfl
  rw [e1]
  unfold arrV
  congr 1
  congr 1
  funext j
  exact if_pos j.isLt
section MAK
variable {p : Program} {l : Launch} {e : Env} {R : Room} {s : State} {m : MethodId} {args : Array Value} {below : List Frame} {meth : Method} {c : Code} {H : Heap} {locs : List Loc} {cells slots : Nat} {Q : State → Prop}
variable {cc bytes : ByteArray} {pc nL maxL n index mc ms : Nat} {ls : Array Slot} {rest st0 As : List Value} {D : va_G} {cl : List vw_C} {A : Nat → Prop} {tys : List (ClassId × FieldType)} {ws w0 wr : va_W} {E : xE} {Ts wds : List Cond} {own C : String} {y : MethodName} {rm : Room} {H0 : Heap} {b : Nat}
theorem z_newa (hexec : p.tables.exec = Jvm.exec) (hb : c.code = cc) {atype : ArrayType} (harr : (Cond.arrayClass (newarray.typeOf atype)).before args s = true) {cA : ClassId} (hf : s.vm.findClass ("[" ++ (newarray.typeOf atype).toString) = some cA) (hP : va_P D cl ws H) (hD : va_D A ws) (hS : va_S A H0 H locs) (hA : ∀ q, H0.size ≤ q → A q)
    {n : Int32} {N' : Nat} {a0 : vp_A} (ha : vp_cell cA a0 = arrV cA N' (fun _ => defaultValue (newarray.typeOf atype))) (hn : ¬ n < 0) (hN : n.toNatClampNeg = N') (hbytes : N' * componentBytes (newarray.typeOf atype) ≤ 536870912) (hcells : cells + 1 ≤ R.cells) (hslots : slots + N' ≤ R.slots) (hdg : decode cc pc = .ok (.newarray atype, 2))
    (kk : ∀ (q : Nat) (H1 : Heap), va_P D cl (ws ++ [(q, .inl (cA, a0))]) H1 → va_D A (ws ++ [(q, .inl (cA, a0))]) → va_S A H0 H1 locs →
      W p l e R s m args below meth c H1 locs (cells + 1) (slots + N') Q (F0 m (pc + 2) ls (.ref q :: rest))) : W p l e R s m args below meth c H locs cells slots Q (F0 m pc ls (.int n :: rest)) := by
  refine va_newaK hexec hb harr rfl hdg rfl hn hN hbytes hcells hslots rfl fun H1 cB e1 z1 o1 hAr hNm => ?_
  cases hNm.symm.trans hf
  have hk : ∀ (k : Nat) (x : Nat × va_E), ws[k]? = some x → H1[x.1]? = H[x.1]? := fun k x hx => o1 x.1 ((hP k x hx).lt)
  refine kk H.size H1 ((hP.kept hk).app (fun k x hx => ?_)) (hD.push hP rfl (hA _ hS.1)) ⟨Nat.le_trans hS.1 (by omega), fun x h1 h2 => (o1 x (Nat.lt_of_lt_of_le h1 hS.1)).trans (hS.2.1 x h1 h2), hS.2.2⟩
  have hz : k < 1 := (List.getElem?_eq_some_iff.mp hx).1
  rw [show k = 0 by omega] at hx
  cases hx
  show H1[H.size]? = some (vp_cell cA a0)
  rw [ha]
  exact e1
abbrev z_grid (q : Nat) (cG cI : ClassId) (N M : Nat) : va_W := (q, .inl (cG, N, .inr (.inr (.inr (.inr (fun i => some (q + 1 + i))))))) :: mp (fun i => q + 1 + i) cI (fun _ => M) (fun _ _ => 0) N
theorem z_new2 (hexec : p.tables.exec = Jvm.exec) (hb : c.code = cc) {cG cI : ClassId} {index : Nat} (hown : s.vm.findClass own = some m.cls) (hclink : (Cond.classLink own index ("[" ++ (FieldType.array .int).toString)).before args s = true)
    (hover : (Cond.arrayOver (.array .int)).before args s = true) (harr : (Cond.arrayClass .int).before args s = true) (hG : s.vm.findClass ("[" ++ (FieldType.array .int).toString) = some cG) (hI : s.vm.findClass ((FieldType.array .int).toString) = some cI)
    (hP : va_P D cl ws H) (hD : va_D A ws) (hS : va_S A H0 H locs) (hA : ∀ q, H0.size ≤ q → A q) {n k : Int32} (N M : Nat) (hn : ¬ n < 0) (hk : ¬ k < 0) (hN : n.toNatClampNeg = N) (hM : k.toNatClampNeg = M) (hN2 : N ≤ 1000) (hM2 : M ≤ 1000)
    (hcells : cells + (1 + N) ≤ R.cells) (hslots : slots + (N + N * M) ≤ R.slots) (hdg : decode cc pc = .ok (.multianewarray index 2, 4))
    (kk : ∀ (q : Nat) (H1 : Heap), va_P D cl (ws ++ z_grid q cG cI N M) H1 → va_D A (ws ++ z_grid q cG cI N M) → va_S A H0 H1 locs →
      W p l e R s m args below meth c H1 locs (cells + 1 + N) (slots + N + N * M) Q (F0 m (pc + 4) ls (.ref q :: rest))) : W p l e R s m args below meth c H locs cells slots Q (F0 m pc ls (.int k :: .int n :: rest)) := by
  intro T hT X
  subst hN
  subst hM
  subst hT
  obtain ⟨vm₁, cA, comp, hfA, hfC, X1, st⟩ := g2_step X hexec hown hclink hover harr (g := F0 m pc ls (.int k :: .int n :: rest)) rfl (by rw [hb]; exact hdg) rfl hn hk hN2 hM2 hcells hslots
  cases hfA.symm.trans hG
  cases hfC.symm.trans hI
  obtain ⟨f1, f2, f3, f4, fo, fi⟩ := g2_st_is (T.setVm vm₁) cG cI n.toNatClampNeg k.toNatClampNeg n.toNatClampNeg
  generalize hT' : g2_st (T.setVm vm₁) cG cI n.toNatClampNeg k.toNatClampNeg n.toNatClampNeg = T' at *
  generalize n.toNatClampNeg = N at *
  generalize k.toNatClampNeg = M at *
  have fo : ∀ a : Nat, a < T.heap.size → T'.heap[a]? = T.heap[a]? := fo
  have f1 : T'.heap.size = T.heap.size + 1 + N := f1
  have f2 : T'.heap[T.heap.size]? = some (g2_out cG N T.heap.size N) := f2
  have fi : ∀ j : Nat, j < N → T'.heap[T.heap.size + 1 + j]? = some (g2_in cI M) := fi
  have hPg : va_P D cl (z_grid T.heap.size cG cI N M) T'.heap := by
    intro i x hx
    match i with
    | 0 =>
      cases hx
      show T'.heap[T.heap.size]? = some _
      rw [f2, z_out]
    | j + 1 =>
      have hx : (mp (fun i => T.heap.size + 1 + i) cI (fun _ => M) (fun _ _ => 0) N)[j]? = some x := hx
      have hj : j < N := by
        have := (List.getElem?_eq_some_iff.mp hx).1
        simpa [mp] using this
      simp [mp, hj] at hx
      subst hx
      show T'.heap[T.heap.size + 1 + j]? = some _
      rw [fi j hj]
      show some (g2_in cI M) = some (arrV cI M (fun _ => .int 0))
      rw [← arrV_new]
      rfl
  have hadr : ∀ (i : Nat) (x : Nat × va_E), (z_grid T.heap.size cG cI N M)[i]? = some x → x.1 = T.heap.size + i := by
    intro i x hx
    match i with
    | 0 => cases hx; rfl
    | j + 1 =>
      have hx : (mp (fun i => T.heap.size + 1 + i) cI (fun _ => M) (fun _ _ => 0) N)[j]? = some x := hx
      have hj : j < N := by
        have := (List.getElem?_eq_some_iff.mp hx).1
        simpa [mp] using this
      simp [mp, hj] at hx
      subst hx
      show T.heap.size + 1 + j = _
      omega
  have hDg : va_D A (z_grid T.heap.size cG cI N M) := ⟨fun i j x z hx hz exz => by
    have a1 := hadr i x hx
    have a2 := hadr j z hz
    omega, fun i x hx => by
    rw [hadr i x hx]
    exact hA _ (Nat.le_trans hS.1 (Nat.le_add_right _ _))⟩
  obtain ⟨t, a, hq⟩ := kk T.heap.size T'.heap ((hP.kept (fun i x hx => fo x.1 ((hP i x hx).lt))).app hPg) (va_D.app hD hDg (fun i j x z hx hz exz => by
    have a1 := (hP i x hx).lt
    have a2 := hadr j z hz
    omega)) ⟨Nat.le_trans hS.1 (by omega), fun x h1 h2 => (fo x (Nat.lt_of_lt_of_le h1 hS.1)).trans (hS.2.1 x h1 h2), hS.2.2⟩ T' rfl X1
  exact ⟨t, st t a, hq⟩
/-- a constructor's contract: it turns the world w0 into w1 u, for some u -/
def MK (l : Launch) (E : xE) (y : MethodName) (ws : List Cond) (rm : Room) (D : va_G) (cl : List vw_C) (tys : List (ClassId × FieldType)) (av : List Value) (w0 : va_W) {β : Type} (ok : β → Prop) (w1 : β → va_W) (mc ms : Nat) : Prop :=
  ∀ sz : Nat, Met l y ws rm (xPc E D cl tys av w0 sz) (va_Qv ok (fun u t => va_P D cl (w1 u) t.heap ∧ va_D (va_A w0 sz) (w1 u)) (va_A w0 sz)) mc ms (va_A w0 sz)
theorem MK.ofW {l : Launch} {E : xE} {y : MethodName} {ws ws' : List Cond} {rm : Room} {D : va_G} {cl : List vw_C} {tys : List (ClassId × FieldType)} {av : List Value} {w0 : va_W} {β : Type} {ok : β → Prop} {w1 : β → va_W} {mc ms : Nat} {cc : ByteArray} {maxL : Nat}
    (hy : plainName y.cls = true) (hw : ws = Cond.code y cc maxL none :: ws') (hlen : (lg_sl av).length ≤ maxL)
    (body : ∀ (p : Program) (e : Env) (s : State) (m : MethodId) (below : List Frame) (meth : Method) (c : Code) (A : Nat → Prop) (ls : Array Slot), p.tables.exec = Jvm.exec → c.code = cc → meth.sig.returnType = none → (∀ w ∈ ws, w.before av.toArray s = true) → s.vm.findClass y.cls = some m.cls → meth.locks = false → c.maxLocals = maxL → (∀ q : Nat, s.heap.size ≤ q → A q) →
      va_P D cl w0 s.heap → va_K D cl tys s → va_D A w0 → E A s s.heap → lv_has ls maxL (lv_args 0 av) → meth.name = y.name → W p l e rm s m av.toArray below meth c s.heap [] 0 0 (MQ below (va_Qv ok (fun u t => va_P D cl (w1 u) t.heap ∧ va_D A (w1 u)) A) av.toArray s mc ms A) (F0 m 0 ls [])) : MK l E y ws rm D cl tys av w0 ok w1 mc ms := by
  intro sz
  refine Met.ofW (cc := cc) (maxL := maxL) (ret := none) hy hw ?_
  intro p e s m args below meth c s₁ B hml hv
  obtain ⟨rfl, hsz, hP, hK, hD0, hE⟩ := hv
  subst hsz
  have hl := lv_entry av (n := maxL) hlen
  rw [lg_entry_eq]
  exact body p e s m below meth c _ _ B.exec B.bytes B.returns (atoms_spec (ws := ws) B.pre) (findClass_of_methodNamed B.named) B.notSynchronized hml (fun q h => Or.inr h) hP hK hD0.self hE hl (name_of_methodNamed B.named B.method).1
theorem mk_ret {β : Type} {ok : β → Prop} {w1 : β → va_W} (u : β) (hu : ok u) (hx : p.tables.exec = Jvm.exec) (hb : c.code = cc) (hr : meth.sig.returnType = none) (hlk : meth.locks = false) (hS : va_S A s.heap H locs) (hP : va_P D cl (w1 u) H) (hD : va_D A (w1 u)) (hdg : decode cc pc = .ok (.return_, 1)) :
    W p l e R s m args below meth c H locs cells slots (MQ below (va_Qv ok (fun u t => va_P D cl (w1 u) t.heap ∧ va_D A (w1 u)) A) args s cells slots A) (F0 m pc ls []) :=
  W.vret hx hb hr (fun t ht _ => ⟨⟨u, rfl, hu, by rw [ht]; exact hP, hD⟩, hS.F ht⟩) hS.2.2 hdg hlk
theorem mk_frI {β : Type} {ok : β → Prop} {w1 : β → va_W} (S : CallFix p m c cc nL s args Ts own) (hM : MK l E y wds rm D cl tys (.ref b :: As) w0 ok w1 mc ms) (hE : okE E) (cw : CallB R s args own index y bytes maxL none wds rm mc ms n ∧ y.name = "<init>" ∧ (Cond.instanceMethod y).before args s = true)
    (hP : va_P D cl (w0 ++ wr) H) (hD : va_D A (w0 ++ wr)) (hK : va_K D cl tys s) (hS : va_S A s.heap H locs) (hA : ∀ q : Nat, s.heap.size ≤ q → A q) (hT : E A s s.heap) (hn : As.length = n) (hsz : ls.size = nL) (hst : st0 = As.reverse ++ .ref b :: rest) (hW : (rest.map fun v => v.category).sum ≤ 8) (hdg : decode cc pc = .ok (.invokespecial index, 3)) (hf : cells + mc ≤ R.cells ∧ slots + ms ≤ R.slots)
    (kk : ∀ (u : β) (H1 : Heap) (locs1 : List Loc), ok u → va_P D cl (w1 u ++ wr) H1 → va_D A (w1 u ++ wr) → va_S A s.heap H1 locs1 → W p l e R s m args below meth c H1 locs1 (cells + mc) (slots + ms) Q (F0 m (pc + 3) ls rest)) : W p l e R s m args below meth c H locs cells slots Q (F0 m pc ls st0) := by
  have hFc := mc_free (H := H) (va_D_left hD) hS hA
  refine va_callv (va_runI (As := As) (rest := rest) S (hM H.size) cw ⟨mc_blind hE, mc_pre hE (va_P_left hP) (va_D_left hD) hK hS hA hT _⟩ rfl hn hsz hst (lv_room hW) hdg hf) hS (fun q _ h => hFc q h) hFc (fun u t H1 locs1 ht _ hu hB _ hk hS1 => ?_)
  obtain ⟨hP1, hD1⟩ := hB
  rw [ht] at hP1
  obtain ⟨a1, a2⟩ := x_fr hP hD hk hFc hP1 hD1
  exact kk u H1 locs1 hu a1 a2 hS1
end MAK
theorem gI {y : MethodName} {c : ByteArray} {n : Nat} (h5 : Cond.code y c n none ∈ tW) : GoodIn tW (.code y c n none :: tW) := by
  have g : ∀ w ∈ tW, w ∈ tW ∧ ((w.onTables && w.keeps) = true ∨ ∃ ty, w = .arrayClass ty) := fun w h => ⟨h, good_of_word (List.mem_filter.mp h).2⟩
  intro w hw
  rcases List.mem_cons.mp hw with rfl | hw
  · exact g _ h5
  · exact g _ hw
/-- the reference's table as it is laid, j places of it -/
def kup (j : Nat) (i : Nat) : Int32 := if i < j then kc i else 0
theorem kup_0 : kup 0 = fun _ => 0 := by
  funext i
  exact if_neg (by omega)
theorem kup_S (j : Nat) : upd (kup j) j (kc j) = kup (j + 1) := by
  funext i
  unfold upd kup
  by_cases h : i = j
  · subst h
    rw [if_pos rfl, if_pos (by omega)]
  · rw [if_neg h]
    by_cases h2 : i < j
    · rw [if_pos h2, if_pos (by omega)]
    · rw [if_neg h2, if_neg (by omega)]
/-- two entries of one cell: the same, or rows of references that agree where they have places -/
def simE (x z : Nat × va_E) : Prop := x.1 = z.1 ∧ (x.2 = z.2 ∨ ∃ (cc : ClassId) (n : Nat) (f g : Nat → Option Nat), x.2 = .inl (cc, n, .inr (.inr (.inr (.inr f)))) ∧ z.2 = .inl (cc, n, .inr (.inr (.inr (.inr g)))) ∧ ∀ i, i < n → f i = g i)
theorem simE.at {D : va_G} {cl : List vw_C} {x z : Nat × va_E} {H : Heap} (h : simE x z) (hx : va_at D cl x H) : va_at D cl z H := by
  obtain ⟨x1, x2⟩ := x
  obtain ⟨z1, z2⟩ := z
  obtain ⟨h1, h2⟩ := h
  have h1 : x1 = z1 := h1
  subst h1
  rcases h2 with h2 | ⟨cc, n, f, g, e1, e2, h3⟩
  · have h2 : x2 = z2 := h2
    subst h2
    exact hx
  · have e1 : x2 = _ := e1
    have e2 : z2 = _ := e2
    subst e1
    subst e2
    have hx : H[x1]? = some (arrV cc n (fun j => va_rf (f j))) := hx
    show H[x1]? = some (arrV cc n (fun j => va_rf (g j)))
    rw [hx]
    have e : (fun j : Fin n => va_rf (f j.val)) = fun j : Fin n => va_rf (g j.val) := by
      funext j
      rw [h3 j.val j.isLt]
    unfold arrV
    rw [e]
theorem va_P.bys {D : va_G} {cl : List vw_C} {ws ws' : va_W} {H : Heap} (h : va_P D cl ws H) (g : Nat → Nat) (hg : ∀ (k : Nat) (z : Nat × va_E), ws'[k]? = some z → ∃ x, ws[g k]? = some x ∧ simE x z) : va_P D cl ws' H := fun k z hk => by
  obtain ⟨x, h1, h2⟩ := hg k z hk
  exact h2.at (h (g k) x h1)
theorem va_D.bys {A : Nat → Prop} {ws ws' : va_W} (h : va_D A ws) (g : Nat → Nat) (hg : ∀ (k : Nat) (z : Nat × va_E), ws'[k]? = some z → ∃ x, ws[g k]? = some x ∧ simE x z) (hi : ∀ i j : Nat, i < ws'.length → j < ws'.length → g i = g j → i = j) : va_D A ws' := by
  refine ⟨fun i j x z hx hz e => ?_, fun k z hz => ?_⟩
  · obtain ⟨x0, a1, a2⟩ := hg i x hx
    obtain ⟨z0, b1, b2⟩ := hg j z hz
    exact hi i j (List.getElem?_eq_some_iff.mp hx).1 (List.getElem?_eq_some_iff.mp hz).1 (h.1 _ _ x0 z0 a1 b1 (by rw [a2.1, b2.1]; exact e))
  · obtain ⟨x0, a1, a2⟩ := hg k z hz
    rw [← a2.1]
    exact h.2 _ x0 a1
theorem z_over {args : Array Value} {s : State} (h : (Cond.arrayOver (.array .int)).before #[] s = true) : (Cond.arrayOver (.array .int)).before args s = true := by
  simp only [Cond.before, Cond.holds, Cond.value] at h ⊢
  exact h
section MDF
variable {p : Program} {l : Launch} {e : Env} {R : Room} {s : State} {m : MethodId} {args : Array Value} {below : List Frame} {meth : Method} {c : Code} {H : Heap} {locs : List Loc} {cells slots : Nat} {Q : State → Prop}
variable {cc : ByteArray} {pc : Nat} {ls : Array Slot} {rest : List Value} {D : va_G} {cl : List vw_C} {A : Nat → Prop} {tys : List (ClassId × FieldType)} {X : va_W} {H0 : Heap} {q : Nat} {cI : ClassId}
theorem z_ik {j : Nat} (hexec : p.tables.exec = Jvm.exec) (hb : c.code = cc) (hK : va_K D cl tys s) (ht : tys[0]? = some (cI, .int)) (hP : va_P D cl (X ++ [(q, .inl (cI, 64, .inl (kup j)))]) H) (hD : va_D A (X ++ [(q, .inl (cI, 64, .inl (kup j)))])) (hS : va_S A H0 H locs) (hj : j < 64) (hdg : decode cc pc = .ok (.iastore, 1))
    (kk : ∀ (H1 : Heap) (locs1 : List Loc), va_P D cl (X ++ [(q, .inl (cI, 64, .inl (kup (j + 1))))]) H1 → va_D A (X ++ [(q, .inl (cI, 64, .inl (kup (j + 1))))]) → va_S A H0 H1 locs1 → W p l e R s m args below meth c H1 locs1 cells slots Q (F0 m (pc + 1) ls rest)) : W p l e R s m args below meth c H locs cells slots Q (F0 m pc ls (.int (kc j) :: .int (nI j) :: .ref q :: rest)) := by
  have h1 : (X ++ [(q, (.inl (cI, 64, .inl (kup j)) : va_E))])[X.length]? = some (q, .inl (cI, 64, .inl (kup j))) := by simp
  refine va_iast hexec hb hK hP hD hS X.length 0 h1 ht (vp_in_nI hj (by decide)) hdg (fun H1 locs1 hP1 hD1 hS1 => ?_)
  have h2 : (X ++ [(q, (.inl (cI, 64, .inl (kup j)) : va_E))]).set X.length (q, .inl (cI, 64, .inl (upd (kup j) (nI j).toNatClampNeg (kc j)))) = X ++ [(q, .inl (cI, 64, .inl (kup (j + 1))))] := by
    rw [nI_clamp (Nat.lt_trans hj (by decide)), kup_S]
    simp
  rw [h2] at hP1 hD1
  exact kk H1 locs1 hP1 hD1 hS1
end MDF
