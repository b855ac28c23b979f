/-! TREES AS TERMS: what the class's levels and the reference's stack compute, for any leaves -/
abbrev TT : Type := Lean.Grind.CommRing.Expr
abbrev tv0 : TT := Lean.Grind.CommRing.Expr.var 0
abbrev tva (i : Nat) : TT := Lean.Grind.CommRing.Expr.var i
noncomputable def ev (env : Nat → Nat → Int32) : TT → Nat → Int32
  | .var i => env i
  | .add a b => hN (ev env a) (ev env b)
  | _ => fun _ => 0
def tbd (n : Nat) : TT → Bool
  | .var i => decide (i < n)
  | .add a b => tbd n a && tbd n b
  | _ => true
def teq : TT → TT → Bool
  | .var i, .var j => decide (i = j)
  | .add a b, .add c d => teq a c && teq b d
  | _, _ => false
theorem teq_eq : ∀ x z : TT, teq x z = true → x = z := by
  intro x
  induction x with
  | var i =>
    intro z h
    cases z <;> simp_all [teq]
  | add a b iha ihb =>
    intro z h
    cases z <;> simp [teq] at h
    rw [iha _ h.1, ihb _ h.2]
  | _ =>
    intro z h
    cases z <;> simp [teq] at h
theorem ev_eq {env env' : Nat → Nat → Int32} {n : Nat} (h : ∀ i, i < n → rEq (env i) (env' i)) : ∀ x : TT, tbd n x = true → rEq (ev env x) (ev env' x)
  | .var i, hb => h i (by simpa [tbd] using hb)
  | .add a b, hb => by
    have hb : tbd n a = true ∧ tbd n b = true := by simpa [tbd] using hb
    exact hN_eq (ev_eq h a hb.1) (ev_eq h b hb.2)
  | .num _, _ => rEq.rf _
  | .natCast _, _ => rEq.rf _
  | .intCast _, _ => rEq.rf _
  | .neg _, _ => rEq.rf _
  | .sub _ _, _ => rEq.rf _
  | .mul _ _, _ => rEq.rf _
  | .pow _ _, _ => rEq.rf _
-- the class's levels
def foldF (w : Nat) (lam : Nat → TT) (j : Nat) : TT := if j < w / 2 then .add (lam (2 * j)) (lam (2 * j + 1)) else lam (w - 1)
def upT : Nat → Nat → (Nat → TT) → Nat → TT
  | 0, _, lam => lam
  | f + 1, w, lam => if w ≤ 1 then lam else upT f (w - w / 2) (foldF w lam)
def wU : Nat → Nat → Nat
  | 0, w => w
  | f + 1, w => if w ≤ 1 then w else wU f (w - w / 2)
def cT (n : Nat) : TT := upT n n .var 0
def LV (env : Nat → Nat → Int32) (w : Nat) (lam : Nat → TT) (m : xMem) : Prop := ∀ j, j < w → rEq (m (47 + j)) (ev env (lam j))
noncomputable def fldI (j : Nat) (z : Nat × xMem) : Nat × xMem := itr (fun j z => p_node (47 + 2 * j) (47 + (2 * j + 1)) (47 + j) z.2) j z
theorem fldI_s (j : Nat) (z : Nat × xMem) : fldI (j + 1) z = p_node (47 + 2 * j) (47 + (2 * j + 1)) (47 + j) (fldI j z).2 := rfl
theorem p_fold_e (w : Nat) (z : Nat × xMem) : p_fold w z = if w % 2 = 1 then ((fldI (w / 2) z).1, p_copy (47 + (w - 1)) (47 + w / 2) (fldI (w / 2) z).2) else fldI (w / 2) z := rfl
theorem fldI_is {env : Nat → Nat → Int32} {w : Nat} {lam : Nat → TT} {z : Nat × xMem} (h : LV env w lam z.2) : ∀ j, j ≤ w / 2 → (∀ i, i < j → rEq ((fldI j z).2 (47 + i)) (hN (ev env (lam (2 * i))) (ev env (lam (2 * i + 1))))) ∧ ∀ i, j ≤ i → i < w → rEq ((fldI j z).2 (47 + i)) (ev env (lam i))
  | 0, _ => ⟨fun i hi => absurd hi (by omega), fun i _ hi => h i hi⟩
  | j + 1, hj => by
    obtain ⟨i1, i2⟩ := fldI_is h j (by omega)
    rw [fldI_s]
    refine ⟨fun i hi => ?_, fun i h1 h2 => ?_⟩
    · by_cases e : i = j
      · subst e
        exact (p_node_row (by omega) (by omega) (by omega) _).tr (hN_eq (i2 (2 * i) (by omega) (by omega)) (i2 (2 * i + 1) (by omega) (by omega)))
      · rw [p_node_k (by omega) (by omega) (by omega) (by omega)]
        exact i1 i (by omega)
    · rw [p_node_k (by omega) (by omega) (by omega) (by omega)]
      exact i2 i (by omega) h2
theorem p_fold_is {env : Nat → Nat → Int32} {w : Nat} {lam : Nat → TT} {z : Nat × xMem} (h : LV env w lam z.2) : LV env (w - w / 2) (foldF w lam) (p_fold w z).2 := by
  obtain ⟨i1, i2⟩ := fldI_is h (w / 2) (Nat.le_refl _)
  intro j hj
  rw [p_fold_e]
  unfold foldF
  by_cases hw : w % 2 = 1
  · rw [if_pos hw]
    show rEq (p_copy (47 + (w - 1)) (47 + w / 2) (fldI (w / 2) z).2 (47 + j)) _
    by_cases e : j < w / 2
    · rw [if_pos e, p_copy_k (by omega)]
      exact i1 j e
    · have e2 : j = w / 2 := by omega
      subst e2
      rw [if_neg e]
      exact (p_copy_row _ _ _).tr (i2 (w - 1) (by omega) (by omega))
  · rw [if_neg hw, if_pos (show j < w / 2 by omega)]
    exact i1 j (by omega)
theorem p_up_is {env : Nat → Nat → Int32} : ∀ (f w : Nat) (lam : Nat → TT) (z : Nat × xMem), LV env w lam z.2 → LV env (wU f w) (upT f w lam) (p_up f w z).2
  | 0, w, lam, z, h => h
  | f + 1, w, lam, z, h => by
    show LV env (if w ≤ 1 then w else wU f (w - w / 2)) (if w ≤ 1 then lam else upT f (w - w / 2) (foldF w lam)) (if w ≤ 1 then z else p_up f (w - w / 2) (p_fold w z)).2
    by_cases hw : w ≤ 1
    · rw [if_pos hw, if_pos hw, if_pos hw]; exact h
    · rw [if_neg hw, if_neg hw, if_neg hw]
      exact p_up_is f _ _ _ (p_fold_is h)
theorem p_lay_is (m : xMem) : ∀ n, n ≤ 24 → (∀ i, i < n → rEq (p_lay n m (47 + i)) (m (6 + i)))
  | 0, _ => fun i hi => absurd hi (by omega)
  | n + 1, hn => fun i hi => by
    have ih := p_lay_is m n (by omega)
    have e : p_lay (n + 1) m = p_copy (6 + n) (47 + n) (p_lay n m) := rfl
    rw [e]
    by_cases c : i = n
    · subst c
      refine (p_copy_row _ _ _).tr ?_
      rw [p_lay_k (by omega)]
      exact rEq.rf _
    · rw [p_copy_k (by omega)]
      exact ih i (by omega)
theorem wU_1 : ∀ n, n < 25 → 1 ≤ n → wU n n = 1 := by decide +kernel
theorem p_tree_row {n t : Nat} (h1 : 1 ≤ n) (hn : n ≤ 24) (z : Nat × xMem) : rEq ((p_tree n t z).2 t) (ev (fun l => z.2 (6 + l)) (cT n)) := by
  have h0 : LV (fun l => z.2 (6 + l)) n .var (p_lay n z.2) := fun j hj => p_lay_is z.2 n hn j hj
  have h := p_up_is n n .var (z.1, p_lay n z.2) h0
  rw [wU_1 n (by omega) h1] at h
  have h := h 0 (by decide)
  unfold p_tree
  rw [if_neg (by omega)]
  exact (p_copy_row _ _ _).tr h
-- the reference's stack of parts
def ST (env : Nat → Nat → Int32) (s : List TT) (m : xMem) : Prop := ∀ j, j < s.length → rEq (fun i => m 9 (32 * j + i)) (ev env (s.getD (s.length - 1 - j) (tv0)))
theorem ST_top {env : Nat → Nat → Int32} {x : TT} {s : List TT} {m : xMem} (h : ST env (x :: s) m) : rEq (fun i => m 9 (32 * s.length + i)) (ev env x) := by
  have := h s.length (by simp)
  simpa using this
theorem ST_snd {env : Nat → Nat → Int32} {x y : TT} {s : List TT} {m : xMem} (h : ST env (x :: y :: s) m) : rEq (fun i => m 9 (32 * s.length + i)) (ev env y) := by
  have := h s.length (by simp; omega)
  have e : (x :: y :: s).length - 1 - s.length = 1 := by simp only [List.length_cons]; omega
  rw [e] at this
  exact this
theorem ST_tail {env : Nat → Nat → Int32} {x : TT} {s : List TT} {m : xMem} (h : ST env (x :: s) m) : ST env s m := by
  intro j hj
  have := h j (by simp; omega)
  have e : (x :: s).length - 1 - j = (s.length - 1 - j) + 1 := by simp only [List.length_cons]; omega
  rw [e] at this
  exact this
theorem ST_cons {env : Nat → Nat → Int32} {x : TT} {s : List TT} {m m' : xMem} (h : ST env s m) (hk : ∀ j, j < s.length → rEq (fun i => m' 9 (32 * j + i)) (fun i => m 9 (32 * j + i))) (hx : rEq (fun i => m' 9 (32 * s.length + i)) (ev env x)) : ST env (x :: s) m' := by
  intro j hj
  by_cases e : j = s.length
  · subst e
    have e : (x :: s).length - 1 - s.length = 0 := by simp only [List.length_cons]; omega
    rw [e]
    exact hx
  · have hj : j < s.length := by simp only [List.length_cons] at hj; omega
    have e : (x :: s).length - 1 - j = (s.length - 1 - j) + 1 := by simp only [List.length_cons]; omega
    rw [e]
    exact (hk j hj).tr (h j hj)
theorem jn_is {env : Nat → Nat → Int32} {x y : TT} {s : List TT} {z : Nat × xMem} (h : ST env (x :: y :: s) z.2) : ST env (.add y x :: s) (jn (s.length + 2) z).2 := by
  have hx := ST_top h
  have hy := ST_snd h
  have hs := ST_tail (ST_tail h)
  have hx : rEq (fun i => z.2 9 (32 * (s.length + 1) + i)) (ev env x) := hx
  have e1 : s.length + 2 - 2 = s.length := rfl
  have e2 : s.length + 2 - 1 = s.length + 1 := rfl
  have hb : ∀ a, jn2 (s.length + 2) (jnZ (s.length + 2) z.2).2 9 a = z.2 9 a := fun a => by
    unfold jn2
    rw [va_up_ne _ _ (by decide)]
    exact congrFun (mN_k (by decide) (by decide) (by decide) (by decide) _ _ _ _ _) a
  have hb2 : jn2 (s.length + 2) (jnZ (s.length + 2) z.2).2 2 = (jnZ (s.length + 2) z.2).2 2 := va_up_ne _ _ (by decide)
  have ej : (jn (s.length + 2) z).2 = P_rcp 9 (32 * s.length) 2 0 (jn2 (s.length + 2) (jnZ (s.length + 2) z.2).2) := rfl
  rw [ej]
  refine ST_cons (m := z.2) hs (fun j hj => ?_) ?_
  · refine (P_rcp_rows (by decide) _ _ _ j (by omega)).tr ?_
    intro i _
    exact hb _
  · refine (P_rcp_row (by decide) _ _ _).tr ?_
    intro i hi
    show jn2 (s.length + 2) (jnZ (s.length + 2) z.2).2 2 (0 + i) = _
    rw [hb2, Nat.zero_add]
    have hm := mN_row (a := 9) (b := 9) (by decide) (by decide) (32 * s.length) (32 * (s.length + 1)) z.2
    have hm : rEq ((jnZ (s.length + 2) z.2).2 2) _ := hm
    exact (hm.tr (hN_eq hy hx)) i hi
def mrgT : Nat → List Nat → List TT → List TT
  | f + 1, a :: b :: s, x :: y :: r => if a = b then mrgT f ((a + b) :: s) (.add y x :: r) else x :: y :: r
  | _, _, L => L
theorem mrgT_len : ∀ (f : Nat) (s : List Nat) (r : List TT), s.length = r.length → (mrgT f s r).length = (nrmF f s).length
  | 0, s, r, h => by
    cases s <;> cases r <;> simp_all [mrgT, nrmF]
  | f + 1, [], r, h => by cases r <;> simp_all [mrgT, nrmF]
  | f + 1, [a], r, h => by
    match r, h with
    | [x], _ => rfl
  | f + 1, a :: b :: s, r, h => by
    match r, h with
    | x :: y :: r, h =>
      show (if a = b then mrgT f ((a + b) :: s) (.add y x :: r) else x :: y :: r).length = (if a = b then nrmF f ((a + b) :: s) else a :: b :: s).length
      by_cases c : a = b
      · rw [if_pos c, if_pos c]
        exact mrgT_len f _ _ (by simpa using h)
      · rw [if_neg c, if_neg c]
        exact h.symm
theorem mrg_is {env : Nat → Nat → Int32} : ∀ (f : Nat) (s : List Nat) (r : List TT) (z : Nat × xMem), s.length = r.length → ST env r z.2 → ST env (mrgT f s r) (mrg f s z).2
  | 0, s, r, z, h, hS => by
    have e : mrgT 0 s r = r := by cases s <;> cases r <;> rfl
    have e2 : mrg 0 s z = z := by cases s <;> rfl
    rw [e, e2]; exact hS
  | f + 1, [], r, z, h, hS => by
    match r, h with
    | [], _ => exact hS
  | f + 1, [a], r, z, h, hS => by
    match r, h with
    | [x], _ => exact hS
  | f + 1, a :: b :: s, r, z, h, hS => by
    match r, h, hS with
    | x :: y :: r, h, hS =>
      show ST env (if a = b then mrgT f ((a + b) :: s) (.add y x :: r) else x :: y :: r) (if a = b then mrg f ((a + b) :: s) (jn (s.length + 2) z) else z).2
      have hl : s.length = r.length := by simpa using h
      by_cases c : a = b
      · rw [if_pos c, if_pos c]
        refine mrg_is f _ _ _ (by simpa using hl) ?_
        rw [hl]
        exact jn_is hS
      · rw [if_neg c, if_neg c]
        exact hS
def trT (fr : Nat) : Nat → List TT
  | 0 => []
  | i + 1 => mrgT 8 (1 :: stk i) (.var (fr + i) :: trT fr i)
theorem trT_len (fr : Nat) : ∀ i, (trT fr i).length = (stk i).length
  | 0 => rfl
  | i + 1 => by
    have ih := trT_len fr i
    exact mrgT_len 8 (1 :: stk i) (.var (fr + i) :: trT fr i) (by simp [ih])
theorem trI_is {env : Nat → Nat → Int32} (fr : Nat) (z : Nat × xMem) (henv : env = fun l i => z.2 6 (32 * l + i)) : ∀ i, ST env (trT fr i) (trI fr i z).2
  | 0 => fun j hj => absurd hj (by simp [trT])
  | i + 1 => by
    have ih := trI_is fr z henv i
    have hl := trT_len fr i
    rw [trI_s]
    refine mrg_is 8 (1 :: stk i) (.var (fr + i) :: trT fr i) _ (by simp [hl]) ?_
    have e : (psh (fr + i) (stk i).length (trI fr i z)).2 9 = P_rcp 9 (32 * (stk i).length) 6 (32 * (fr + i)) (trI fr i z).2 9 := by
      show va_up (P_rcp 9 (32 * (stk i).length) 6 (32 * (fr + i)) (trI fr i z).2) 10 (upd (P_rcp 9 (32 * (stk i).length) 6 (32 * (fr + i)) (trI fr i z).2 10) (stk i).length (nI 1)) 9 = _
      exact va_up_ne _ _ (by decide)
    refine ST_cons ih (fun j hj => ?_) ?_
    · rw [e]
      exact P_rcp_rows (by decide) _ _ _ j (by omega)
    · rw [e, hl]
      refine (P_rcp_row (by decide) _ _ _).tr ?_
      intro j hj
      show (trI fr i z).2 6 (32 * (fr + i) + j) = ev env (.var (fr + i)) j
      rw [trI_k (by decide) (by decide) (by decide) (by decide) (by decide) (by decide), henv]
      rfl
def clzT : Nat → List TT → List TT
  | p + 2, x :: y :: r => clzT (p + 1) (.add y x :: r)
  | _, L => L
theorem clz_is {env : Nat → Nat → Int32} : ∀ (p : Nat) (s : List TT) (z : Nat × xMem), s.length = p → ST env s z.2 → ST env (clzT p s) (clz p z).2 ∧ (1 ≤ p → (clzT p s).length = 1)
  | 0, s, z, h, hS => by
    match s, h with
    | [], _ => exact ⟨hS, fun h => absurd h (by decide)⟩
  | 1, s, z, h, hS => by
    match s, h with
    | [x], _ => exact ⟨hS, fun _ => rfl⟩
  | p + 2, s, z, h, hS => by
    match s, h, hS with
    | x :: y :: r, h, hS =>
      have hl : r.length = p := by simpa using h
      have hj := jn_is hS
      rw [hl] at hj
      have ih := clz_is (p + 1) (.add y x :: r) (jn (p + 2) z) (by simp [hl]) hj
      exact ⟨ih.1, fun _ => ih.2 (by omega)⟩
def mT (fr n : Nat) : TT := (clzT (stk n).length (trT fr n)).headD (tv0)
theorem m_tree_row {fr n : Nat} (h1 : 1 ≤ n) (hn : n ≤ 24) (z : Nat × xMem) : rEq ((m_tree fr n z).2 2) (ev (fun l i => z.2 6 (32 * l + i)) (mT fr n)) := by
  have h := trI_is fr z rfl n
  obtain ⟨c1, c2⟩ := clz_is (stk n).length (trT fr n) _ (trT_len fr n) h
  have c2 := c2 (stk_pos n (by omega) h1)
  unfold m_tree
  rw [if_neg (by omega)]
  unfold mT
  match hs : clzT (stk n).length (trT fr n), c2, c1 with
  | [x], _, c1 =>
    have ht := ST_top c1
    intro i hi
    have e := P_rcp_row (kd := 2) (ks := 9) (by decide) 0 0 (clz (stk n).length (trI fr n z)).2 i hi
    have e : P_rcp 2 0 9 0 (clz (stk n).length (trI fr n z)).2 2 (0 + i) = (clz (stk n).length (trI fr n z)).2 9 (0 + i) := e
    rw [Nat.zero_add] at e
    show P_rcp 2 0 9 0 (clz (stk n).length (trI fr n z)).2 2 i = _
    rw [e]
    have ht := ht i hi
    have ht : (clz (stk n).length (trI fr n z)).2 9 (32 * 0 + i) = _ := ht
    rw [Nat.mul_zero, Nat.zero_add] at ht
    exact ht
-- the class's path, the reference's
def pathT : Nat → Nat → Nat → (Nat → TT) → List TT → List TT
  | 0, _, _, _, acc => acc
  | f + 1, a, w, lam, acc => if w ≤ 1 then acc else pathT f (a / 2) (w - w / 2) (foldF w lam) (if a ^^^ 1 < w then acc ++ [lam (a ^^^ 1)] else acc)
def pT (a n : Nat) : List TT := pathT n a n .var []
theorem pathT_len : ∀ (f a w : Nat) (lam : Nat → TT) (acc : List TT), acc.length ≤ (pathT f a w lam acc).length
  | 0, _, _, _, _ => Nat.le_refl _
  | f + 1, a, w, lam, acc => by
    show acc.length ≤ (if w ≤ 1 then acc else pathT f (a / 2) (w - w / 2) (foldF w lam) (if a ^^^ 1 < w then acc ++ [lam (a ^^^ 1)] else acc)).length
    by_cases h : w ≤ 1
    · rw [if_pos h]; exact Nat.le_refl _
    · rw [if_neg h]
      refine Nat.le_trans ?_ (pathT_len f _ _ _ _)
      split
      · simp
      · exact Nat.le_refl _
def PA (env : Nat → Nat → Int32) (acc : List TT) (m : xMem) : Prop := ∀ k, k < acc.length → rEq (m (42 + k)) (ev env (acc.getD k (tv0)))
theorem p_pathA_is {env : Nat → Nat → Int32} : ∀ (f a w : Nat) (lam : Nat → TT) (acc : List TT) (z : Nat × Nat × xMem), (pathT f a w lam acc).length ≤ 5 → z.1 = acc.length → LV env w lam z.2.2 → PA env acc z.2.2 →
    (p_pathA f a w z).1 = (pathT f a w lam acc).length ∧ PA env (pathT f a w lam acc) (p_pathA f a w z).2.2
  | 0, a, w, lam, acc, z, h5, h1, hL, hA => ⟨h1, hA⟩
  | f + 1, a, w, lam, acc, z, h5, h1, hL, hA => by
    have e1 : pathT (f + 1) a w lam acc = if w ≤ 1 then acc else pathT f (a / 2) (w - w / 2) (foldF w lam) (if a ^^^ 1 < w then acc ++ [lam (a ^^^ 1)] else acc) := rfl
    have e2 : p_pathA (f + 1) a w z = if w ≤ 1 then z else p_pathA f (a / 2) (w - w / 2) (if a ^^^ 1 < w then (z.1 + 1, p_fold w (z.2.1, p_copy (47 + (a ^^^ 1)) (42 + z.1) z.2.2)) else (z.1, p_fold w z.2)) := rfl
    by_cases h : w ≤ 1
    · rw [e1, e2, if_pos h, if_pos h]; exact ⟨h1, hA⟩
    · rw [e1, if_neg h] at h5
      rw [e1, e2, if_neg h, if_neg h]
      by_cases c : a ^^^ 1 < w
      · rw [if_pos c] at h5
        rw [if_pos c, if_pos c]
        have hle := pathT_len f (a / 2) (w - w / 2) (foldF w lam) (acc ++ [lam (a ^^^ 1)])
        have hz5 : z.1 < 5 := by
          have : (acc ++ [lam (a ^^^ 1)]).length = acc.length + 1 := by simp
          omega
        have hL' : LV env w lam (p_copy (47 + (a ^^^ 1)) (42 + z.1) z.2.2) := fun j hj => by
          rw [p_copy_k (by omega)]
          exact hL j hj
        refine p_pathA_is f _ _ _ _ _ h5 (by simp [h1]) (p_fold_is (z := (z.2.1, p_copy (47 + (a ^^^ 1)) (42 + z.1) z.2.2)) hL') ?_
        intro k hk
        have hk : k < acc.length + 1 := by simpa using hk
        show rEq ((p_fold w (z.2.1, p_copy (47 + (a ^^^ 1)) (42 + z.1) z.2.2)).2 (42 + k)) _
        rw [p_fold_k (by omega) (by omega) (by omega) (by omega)]
        by_cases e : k = acc.length
        · subst e
          have e3 : (acc ++ [lam (a ^^^ 1)]).getD acc.length (tv0) = lam (a ^^^ 1) := by simp
          rw [e3, ← h1]
          exact (p_copy_row _ _ _).tr (hL _ c)
        · have e3 : (acc ++ [lam (a ^^^ 1)]).getD k (tv0) = acc.getD k (tv0) := by
            have hk2 : k < acc.length := by omega
            simp [List.getElem?_append_left hk2]
          rw [e3]
          show rEq (p_copy (47 + (a ^^^ 1)) (42 + z.1) z.2.2 (42 + k)) _
          rw [p_copy_k (by omega)]
          exact hA k (by omega)
      · rw [if_neg c] at h5
        rw [if_neg c, if_neg c]
        refine p_pathA_is f _ _ _ _ _ h5 h1 (p_fold_is hL) ?_
        intro k hk
        have hk5 : k < 5 := Nat.lt_of_lt_of_le hk (Nat.le_trans (pathT_len f (a / 2) (w - w / 2) (foldF w lam) acc) h5)
        show rEq ((p_fold w z.2).2 (42 + k)) _
        rw [p_fold_k (by omega) (by omega) (by omega) (by omega)]
        exact hA k hk
theorem p_path_is {a n : Nat} (hn : n ≤ 24) (h5 : (pT a n).length ≤ 5) (z : Nat × xMem) : (p_path a n z).1 = (pT a n).length ∧ PA (fun l => z.2 (6 + l)) (pT a n) (p_path a n z).2.2 := by
  unfold p_path
  exact p_pathA_is n a n .var [] (0, z.1, p_lay n z.2) h5 rfl (fun j hj => p_lay_is z.2 n hn j hj) (fun k hk => absurd hk (by simp))
theorem pvI_is (L : List (Bool × Nat × Nat)) (z : Int32 × Nat × xMem) (hL : ∀ j, j < L.length → 1 ≤ (gIt L j).2.2 ∧ (gIt L j).2.2 ≤ 24) : ∀ i, i ≤ L.length → ∀ j, j < i → rEq (fun x => (pvI L i z).2.2 8 (32 * j + x)) (ev (fun l x => z.2.2 6 (32 * l + x)) (mT (gIt L j).2.1 (gIt L j).2.2))
  | 0, _ => fun j hj => absurd hj (by omega)
  | i + 1, hi => fun j hj => by
    have ih := pvI_is L z hL i (by omega)
    rw [pvI_s]
    show rEq (fun x => P_rcp 8 (32 * i) 2 0 (m_tree (gIt L i).2.1 (gIt L i).2.2 (pvI L i z).2).2 8 (32 * j + x)) _
    by_cases e : j = i
    · subst e
      refine (P_rcp_row (by decide) _ _ _).tr ?_
      have hm := m_tree_row (fr := (gIt L j).2.1) (hL j (by omega)).1 (hL j (by omega)).2 (pvI L j z).2
      have e6 : (pvI L j z).2.2 6 = z.2.2 6 := pvI_k (by decide) (by decide) (by decide) (by decide) (by decide) (by decide) (by decide) L z j
      rw [e6] at hm
      intro x hx
      show (m_tree (gIt L j).2.1 (gIt L j).2.2 (pvI L j z).2).2 2 (0 + x) = _
      rw [Nat.zero_add]
      exact hm x hx
    · refine (P_rcp_rows (by decide) _ _ _ j e).tr ?_
      have e8 : (m_tree (gIt L i).2.1 (gIt L i).2.2 (pvI L i z).2).2 8 = (pvI L i z).2.2 8 := m_tree_k (by decide) (by decide) (by decide) (by decide) (by decide) (by decide) _ _ _
      rw [e8]
      exact ih j (by omega)
-- climbing
noncomputable def hG (b : Nat → Bool) (P : Nat → Nat → Int32) (cur : Nat → Int32) : Nat → Nat → Int32
  | 0 => cur
  | i + 1 => if b i = true then hN (hG b P cur i) (P i) else hN (P i) (hG b P cur i)
theorem hG_eq {b : Nat → Bool} {P P' : Nat → Nat → Int32} {cur cur' : Nat → Int32} (hc : rEq cur cur') : ∀ n, (∀ i, i < n → rEq (P i) (P' i)) → rEq (hG b P cur n) (hG b P' cur' n)
  | 0, _ => hc
  | n + 1, h => by
    have ih := hG_eq (b := b) hc n (fun i hi => h i (by omega))
    show rEq (if b n = true then hN (hG b P cur n) (P n) else hN (P n) (hG b P cur n)) (if b n = true then hN (hG b P' cur' n) (P' n) else hN (P' n) (hG b P' cur' n))
    split
    · exact hN_eq ih (h n (by omega))
    · exact hN_eq (h n (by omega)) ih
def sdC : Nat → Nat → Nat → List Bool
  | 0, _, _ => []
  | f + 1, a, w => if w ≤ 1 then [] else if a ^^^ 1 < w then decide (a < a ^^^ 1) :: sdC f (a / 2) (w - w / 2) else sdC f (a / 2) (w - w / 2)
theorem p_climbA_is (b : Nat → Bool) (P : Nat → Nat → Int32) (cur : Nat → Int32) : ∀ (f a k w : Nat) (z : Nat × xMem), (∀ j, j < (sdC f a w).length → b (k + j) = (sdC f a w).getD j false) → (∀ j, k ≤ j → j < k + (sdC f a w).length → rEq (z.2 (42 + j)) (P j)) → rEq (z.2 2) (hG b P cur k) → rEq ((p_climbA f a k w z).2 2) (hG b P cur (k + (sdC f a w).length))
  | 0, a, k, w, z, hb, hP, hc => hc
  | f + 1, a, k, w, z, hb, hP, hc => by
    have e1 : sdC (f + 1) a w = if w ≤ 1 then [] else if a ^^^ 1 < w then decide (a < a ^^^ 1) :: sdC f (a / 2) (w - w / 2) else sdC f (a / 2) (w - w / 2) := rfl
    have e2 : p_climbA (f + 1) a k w z = if w ≤ 1 then z else if a ^^^ 1 < w then p_climbA f (a / 2) (k + 1) (w - w / 2) (if a < a ^^^ 1 then p_node 2 (42 + k) 2 z.2 else p_node (42 + k) 2 2 z.2) else p_climbA f (a / 2) k (w - w / 2) z := rfl
    by_cases h : w ≤ 1
    · rw [e1, e2, if_pos h, if_pos h]; exact hc
    · by_cases c : a ^^^ 1 < w
      · rw [e1, if_neg h, if_pos c] at hb hP
        rw [e1, e2, if_neg h, if_neg h, if_pos c, if_pos c]
        have hb0 : b k = decide (a < a ^^^ 1) := hb 0 (by simp)
        have hPk : rEq (z.2 (42 + k)) (P k) := hP k (Nat.le_refl _) (by simp)
        have hlen : k + (decide (a < a ^^^ 1) :: sdC f (a / 2) (w - w / 2)).length = (k + 1) + (sdC f (a / 2) (w - w / 2)).length := by simp only [List.length_cons]; omega
        rw [hlen]
        refine p_climbA_is b P cur f _ (k + 1) _ _ (fun j hj => ?_) (fun j h1 h2 => ?_) ?_
        · have := hb (j + 1) (by simp only [List.length_cons]; omega)
          rw [show k + 1 + j = k + (j + 1) by omega, this]
          rfl
        · have e3 : (if a < a ^^^ 1 then p_node 2 (42 + k) 2 z.2 else p_node (42 + k) 2 2 z.2).2 (42 + j) = z.2 (42 + j) := by
            split
            · exact p_node_k (by omega) (by omega) (by omega) (by omega) _ _ _
            · exact p_node_k (by omega) (by omega) (by omega) (by omega) _ _ _
          rw [e3]
          exact hP j (by omega) (by rw [hlen]; omega)
        · show rEq ((if a < a ^^^ 1 then p_node 2 (42 + k) 2 z.2 else p_node (42 + k) 2 2 z.2).2 2) (if b k = true then hN (hG b P cur k) (P k) else hN (P k) (hG b P cur k))
          rw [hb0]
          by_cases d : a < a ^^^ 1
          · rw [if_pos d, if_pos (by simpa using d)]
            exact (p_node_row (by decide) (by omega) (by decide) _).tr (hN_eq hc hPk)
          · rw [if_neg d, if_neg (by simpa using d)]
            exact (p_node_row (by omega) (by decide) (by decide) _).tr (hN_eq hPk hc)
      · rw [e1, if_neg h, if_neg c] at hb hP
        rw [e1, e2, if_neg h, if_neg h, if_neg c, if_neg c]
        exact p_climbA_is b P cur f _ k _ _ hb hP hc
theorem p_climb_is (b : Nat → Bool) (d a w : Nat) (hd : d ≠ 2) (z : Nat × xMem) (hb : ∀ j, j < (sdC w a w).length → b j = (sdC w a w).getD j false) : rEq ((p_climb d a w z).2 2) (hG b (fun j => z.2 (42 + j)) (z.2 d) (sdC w a w).length) := by
  unfold p_climb
  have h := p_climbA_is b (fun j => z.2 (42 + j)) (z.2 d) w a 0 w (z.1, p_copy d 2 z.2) (fun j hj => by rw [Nat.zero_add]; exact hb j hj) (fun j _ _ => by
    show rEq (p_copy d 2 z.2 (42 + j)) _
    rw [p_copy_k (by omega)]
    exact rEq.rf _) (show rEq (p_copy d 2 z.2 2) (z.2 d) from p_copy_row _ _ _)
  rw [Nat.zero_add] at h
  exact h
theorem ckI_is (L : List (Bool × Nat × Nat)) (b : Nat → Bool) (hb : ∀ i, i < L.length → b i = (gIt L i).1) (z : Nat × xMem) : ∀ i, i ≤ L.length → rEq (fun x => (ckI L i z).2 9 (0 + x)) (hG b (fun j x => z.2 8 (32 * j + x)) (fun x => z.2 9 (0 + x)) i)
  | 0, _ => rEq.rf _
  | i + 1, hi => by
    have ih := ckI_is L b hb z i (by omega)
    rw [ckI_s]
    show rEq (fun x => P_rcp 9 0 2 0 (ckN L i (ckI L i z).2).2 9 (0 + x)) (if b i = true then hN (hG b _ _ i) _ else hN _ (hG b _ _ i))
    refine (P_rcp_row (by decide) _ _ _).tr ?_
    have e8 : (ckI L i z).2 8 = z.2 8 := ckI_k (by decide) (by decide) (by decide) (by decide) (by decide) L z i
    rw [hb i (by omega)]
    unfold ckN
    by_cases c : (gIt L i).1 = true
    · rw [if_pos c, if_pos c]
      have hm := mN_row (a := 9) (b := 8) (by decide) (by decide) 0 (32 * i) (ckI L i z).2
      rw [e8] at hm
      intro x hx
      show (mN 9 0 8 (32 * i) (ckI L i z).2).2 2 (0 + x) = _
      rw [Nat.zero_add]
      exact (hm.tr (hN_eq ih (rEq.rf _))) x hx
    · rw [if_neg c, if_neg c]
      have hm := mN_row (a := 8) (b := 9) (by decide) (by decide) (32 * i) 0 (ckI L i z).2
      rw [e8] at hm
      intro x hx
      show (mN 8 (32 * i) 9 0 (ckI L i z).2).2 2 (0 + x) = _
      rw [Nat.zero_add]
      exact (hm.tr (hN_eq (rEq.rf _) ih)) x hx
theorem ckE_is (L : List (Bool × Nat × Nat)) (b : Nat → Bool) (hb : ∀ i, i < L.length → b i = (gIt L i).1) (lf : Nat) (z : Nat × xMem) : rEq ((ckE L lf z).2 2) (hG b (fun j x => z.2 8 (32 * j + x)) (fun x => z.2 6 (32 * lf + x)) L.length) := by
  have h := ckI_is L b hb (z.1, P_rcp 9 0 6 (32 * lf) z.2) L.length (Nat.le_refl _)
  intro x hx
  have e := P_rcp_row (kd := 2) (ks := 9) (by decide) 0 0 (ckI L L.length (z.1, P_rcp 9 0 6 (32 * lf) z.2)).2 x hx
  have e : (ckE L lf z).2 2 (0 + x) = (ckI L L.length (z.1, P_rcp 9 0 6 (32 * lf) z.2)).2 9 (0 + x) := e
  rw [Nat.zero_add] at e
  rw [e]
  have h : (ckI L L.length (z.1, P_rcp 9 0 6 (32 * lf) z.2)).2 9 (0 + x) = _ := h x hx
  rw [Nat.zero_add] at h
  refine h.trans ?_
  refine hG_eq (P_rcp_row (by decide) _ _ _) L.length (fun i hi => ?_) x hx
  intro y hy
  show P_rcp 9 0 6 (32 * lf) z.2 8 _ = _
  rw [P_rcp_k (by decide)]
