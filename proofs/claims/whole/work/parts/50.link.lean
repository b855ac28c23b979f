/-! THE CLASS'S STATE AND THE REFERENCE'S: what links them, and that every call keeps it -/
theorem cT_mT0 : ∀ n, n < 25 → 1 ≤ n → teq (cT n) (mT 0 n) = true := by decide +kernel
theorem cT_mT (n : Nat) (h : n < 25) (h1 : 1 ≤ n) : cT n = mT 0 n := teq_eq _ _ (cT_mT0 n h h1)
theorem cT_bd : ∀ n, n < 25 → 1 ≤ n → tbd n (cT n) = true := by decide +kernel
theorem pT_len : ∀ n, n < 25 → ∀ a, a < n → (pT a n).length = (glist a n).length ∧ (pT a n).length ≤ 5 ∧ (sdC n a n).length = (glist a n).length ∧ p_due n 0 a n = (glist a n).length := by decide +kernel
theorem pT_mT : ∀ n, n < 25 → ∀ a, a < n → ∀ k, k < (glist a n).length → teq ((pT a n).getD k tv0) (mT (gIt (glist a n) k).2.1 (gIt (glist a n) k).2.2) = true ∧ tbd n ((pT a n).getD k tv0) = true ∧ 1 ≤ (gIt (glist a n) k).2.2 ∧ (gIt (glist a n) k).2.2 ≤ 24 ∧ (sdC n a n).getD k false = (gIt (glist a n) k).1 := by decide +kernel
def pnC : Option Nat → Int32
  | none => (-1)
  | some k => nI k
def pvC : Option Nat → Int32
  | none => nI 0
  | some _ => nI 1
def pmC : Option Nat → Int32
  | none => nI 0
  | some k => nI k
def LK (t q y : Nat) (pq : Option Nat) (u : Nat) (isw : Nat → Int32) (m m' : xMem) : Prop := (t ≤ 200) ∧ (q ≤ 24) ∧ (y ≤ 12) ∧ (∀ k, pq = some k → k ≤ 5) ∧ (u = wcn isw q) ∧ (∀ i, q ≤ i → isw i = 0) ∧ (m 0 = m' 0) ∧ (m 1 = m' 1) ∧ (∀ d, d < y → ∃ c, c ≤ q ∧ m 1 d = nI c) ∧ (∀ l, l < q → rEq (m (6 + l)) (fun i => m' 6 (32 * l + i))) ∧ (∀ l, l < q → ∀ i, i < 32 → byte (m (6 + l) i)) ∧ (∀ d, d < y → rEq (m (30 + d)) (fun i => m' 7 (32 * d + i))) ∧ (∀ k j, pq = some k → j < k → rEq (m (42 + j)) (fun i => m' 8 (32 * j + i))) ∧ (∀ i, i < 64 → m' 13 i = kc i)
theorem LK.t200 {t q y : Nat} {pq : Option Nat} {u : Nat} {isw : Nat → Int32} {m m' : xMem} (h : LK t q y pq u isw m m') : t ≤ 200 := h.1
theorem LK.q24 {t q y : Nat} {pq : Option Nat} {u : Nat} {isw : Nat → Int32} {m m' : xMem} (h : LK t q y pq u isw m m') : q ≤ 24 := h.2.1
theorem LK.y12 {t q y : Nat} {pq : Option Nat} {u : Nat} {isw : Nat → Int32} {m m' : xMem} (h : LK t q y pq u isw m m') : y ≤ 12 := h.2.2.1
theorem LK.p5 {t q y : Nat} {pq : Option Nat} {u : Nat} {isw : Nat → Int32} {m m' : xMem} (h : LK t q y pq u isw m m') : ∀ k, pq = some k → k ≤ 5 := h.2.2.2.1
theorem LK.hu {t q y : Nat} {pq : Option Nat} {u : Nat} {isw : Nat → Int32} {m m' : xMem} (h : LK t q y pq u isw m m') : u = wcn isw q := h.2.2.2.2.1
theorem LK.iz {t q y : Nat} {pq : Option Nat} {u : Nat} {isw : Nat → Int32} {m m' : xMem} (h : LK t q y pq u isw m m') : ∀ i, q ≤ i → isw i = 0 := h.2.2.2.2.2.1
theorem LK.e0 {t q y : Nat} {pq : Option Nat} {u : Nat} {isw : Nat → Int32} {m m' : xMem} (h : LK t q y pq u isw m m') : m 0 = m' 0 := h.2.2.2.2.2.2.1
theorem LK.e1 {t q y : Nat} {pq : Option Nat} {u : Nat} {isw : Nat → Int32} {m m' : xMem} (h : LK t q y pq u isw m m') : m 1 = m' 1 := h.2.2.2.2.2.2.2.1
theorem LK.cn {t q y : Nat} {pq : Option Nat} {u : Nat} {isw : Nat → Int32} {m m' : xMem} (h : LK t q y pq u isw m m') : ∀ d, d < y → ∃ c, c ≤ q ∧ m 1 d = nI c := h.2.2.2.2.2.2.2.2.1
theorem LK.lf {t q y : Nat} {pq : Option Nat} {u : Nat} {isw : Nat → Int32} {m m' : xMem} (h : LK t q y pq u isw m m') : ∀ l, l < q → rEq (m (6 + l)) (fun i => m' 6 (32 * l + i)) := h.2.2.2.2.2.2.2.2.2.1
theorem LK.bt {t q y : Nat} {pq : Option Nat} {u : Nat} {isw : Nat → Int32} {m m' : xMem} (h : LK t q y pq u isw m m') : ∀ l, l < q → ∀ i, i < 32 → byte (m (6 + l) i) := h.2.2.2.2.2.2.2.2.2.2.1
theorem LK.rt {t q y : Nat} {pq : Option Nat} {u : Nat} {isw : Nat → Int32} {m m' : xMem} (h : LK t q y pq u isw m m') : ∀ d, d < y → rEq (m (30 + d)) (fun i => m' 7 (32 * d + i)) := h.2.2.2.2.2.2.2.2.2.2.2.1
theorem LK.pt {t q y : Nat} {pq : Option Nat} {u : Nat} {isw : Nat → Int32} {m m' : xMem} (h : LK t q y pq u isw m m') : ∀ k j, pq = some k → j < k → rEq (m (42 + j)) (fun i => m' 8 (32 * j + i)) := h.2.2.2.2.2.2.2.2.2.2.2.2.1
theorem LK.hkc {t q y : Nat} {pq : Option Nat} {u : Nat} {isw : Nat → Int32} {m m' : xMem} (h : LK t q y pq u isw m m') : ∀ i, i < 64 → m' 13 i = kc i := h.2.2.2.2.2.2.2.2.2.2.2.2.2
theorem LK.mk {t q y : Nat} {pq : Option Nat} {u : Nat} {isw : Nat → Int32} {m m' : xMem} (t200 : t ≤ 200) (q24 : q ≤ 24) (y12 : y ≤ 12) (p5 : ∀ k, pq = some k → k ≤ 5) (hu : u = wcn isw q) (iz : ∀ i, q ≤ i → isw i = 0) (e0 : m 0 = m' 0) (e1 : m 1 = m' 1) (cn : ∀ d, d < y → ∃ c, c ≤ q ∧ m 1 d = nI c) (lf : ∀ l, l < q → rEq (m (6 + l)) (fun i => m' 6 (32 * l + i))) (bt : ∀ l, l < q → ∀ i, i < 32 → byte (m (6 + l) i)) (rt : ∀ d, d < y → rEq (m (30 + d)) (fun i => m' 7 (32 * d + i))) (pt : ∀ k j, pq = some k → j < k → rEq (m (42 + j)) (fun i => m' 8 (32 * j + i))) (hkc : ∀ i, i < 64 → m' 13 i = kc i) : LK t q y pq u isw m m' := ⟨t200, q24, y12, p5, hu, iz, e0, e1, cn, lf, bt, rt, pt, hkc⟩
theorem LK.keep {t q y : Nat} {pq : Option Nat} {u : Nat} {isw : Nat → Int32} {m m' m2 m2' : xMem} (h : LK t q y pq u isw m m') (k0 : m2 0 = m 0) (k1 : m2 1 = m 1) (kr : ∀ k, 6 ≤ k → k < 47 → m2 k = m k) (j0 : m2' 0 = m' 0) (j1 : m2' 1 = m' 1) (j6 : m2' 6 = m' 6) (j7 : m2' 7 = m' 7) (j8 : m2' 8 = m' 8) (j13 : m2' 13 = m' 13) : LK t q y pq u isw m2 m2' :=
  LK.mk
    (t200 := h.t200)
    (q24 := h.q24)
    (y12 := h.y12)
    (p5 := h.p5)
    (hu := h.hu)
    (iz := h.iz)
    (e0 := by rw [k0, j0]; exact h.e0)
    (e1 := by rw [k1, j1]; exact h.e1)
    (cn := fun d hd => by rw [k1]; exact h.cn d hd)
    (lf := fun l hl => by
      have := h.q24
      rw [kr (6 + l) (by omega) (by omega), j6]; exact h.lf l hl)
    (bt := fun l hl => by
      have := h.q24
      rw [kr (6 + l) (by omega) (by omega)]; exact h.bt l hl)
    (rt := fun d hd => by
      have := h.y12
      rw [kr (30 + d) (by omega) (by omega), j7]; exact h.rt d hd)
    (pt := fun k j hk hj => by
      have := h.p5 k hk
      rw [kr (42 + j) (by omega) (by omega), j8]; exact h.pt k j hk hj)
    (hkc := fun i hi => by rw [j13]; exact h.hkc i hi)
theorem LK.init : LK 0 0 0 none 0 (fun _ => 0) (fun _ _ => 0) mZ :=
  LK.mk
    (t200 := by decide)
    (q24 := by decide)
    (y12 := by decide)
    (p5 := fun k hk => by cases hk)
    (hu := rfl)
    (iz := fun _ _ => rfl)
    (e0 := rfl)
    (e1 := rfl)
    (cn := fun d hd => absurd hd (by omega))
    (lf := fun d hd => absurd hd (by omega))
    (bt := fun d hd => absurd hd (by omega))
    (rt := fun d hd => absurd hd (by omega))
    (pt := fun k j hk => by cases hk)
    (hkc := fun i hi => by
      show kup 64 i = kc i
      unfold kup
      rw [if_pos hi])
theorem p_feed_k {k : Nat} (h : k ≠ 0) (b : Int64) (t q i : Nat) (m : xMem) : p_feed b t q i m k = m k := itr_keep (f := fun j m => va_up m 0 (upd (m 0) (t + j) (fdB b q j))) (fun j m => va_up_ne _ _ h) i m
theorem p_feed_0 (b : Int64) (t q : Nat) {m m' : xMem} (h : m 0 = m' 0) : ∀ i, p_feed b t q i m 0 = p_feed b t q i m' 0
  | 0 => h
  | i + 1 => by rw [p_feed_s, p_feed_s, va_up_self, va_up_self, p_feed_0 b t q h i]
theorem LK.feed {t q y v : Nat} {pq : Option Nat} {u : Nat} {isw : Nat → Int32} {m m' : xMem} (h : LK t q y pq u isw m m') (hv : t + v ≤ 200) (b : Int64) : LK (t + v) q y pq u isw (p_feed b t v v m) (p_feed b t v v m') :=
  LK.mk
    (t200 := hv)
    (q24 := h.q24)
    (y12 := h.y12)
    (p5 := h.p5)
    (hu := h.hu)
    (iz := h.iz)
    (e0 := p_feed_0 b t v h.e0 v)
    (e1 := by rw [p_feed_k (by decide), p_feed_k (by decide)]; exact h.e1)
    (cn := fun d hd => by rw [p_feed_k (by decide)]; exact h.cn d hd)
    (lf := fun l hl => by rw [p_feed_k (by omega), p_feed_k (by decide)]; exact h.lf l hl)
    (bt := fun l hl => by rw [p_feed_k (by omega)]; exact h.bt l hl)
    (rt := fun d hd => by rw [p_feed_k (by omega), p_feed_k (by decide)]; exact h.rt d hd)
    (pt := fun k j hk hj => by rw [p_feed_k (by omega), p_feed_k (by decide)]; exact h.pt k j hk hj)
    (hkc := fun i hi => by rw [p_feed_k (by decide)]; exact h.hkc i hi)
theorem hL_byte (t : Nat) (f : Nat → Int32) (i : Nat) : byte (hL t f i) := shaD_byte _ _ _
theorem p_leaf_k {k : Nat} (h : k ≠ 3) (h4 : k ≠ 4) (h5 : k ≠ 5) (q t : Nat) (hk : k ≠ 6 + q) (z : Nat × xMem) : (p_leaf q t z).2 k = z.2 k := by
  rw [p_leaf_e, P_fin_k h h4 h5 hk, P_first_k h, P_take_k h]
theorem p_leaf_row (q t : Nat) (ht : t ≤ 200) (z : Nat × xMem) : rEq ((p_leaf q t z).2 (6 + q)) (hL t (z.2 0)) := by
  rw [p_leaf_e]
  exact leaf_row (by omega) t ht z.2
theorem m_leaf_k {k : Nat} (h2 : k ≠ 2) (h : k ≠ 3) (h4 : k ≠ 4) (h5 : k ≠ 5) (h6 : k ≠ 6) (q t : Nat) (m : xMem) : (m_leaf q t m).2 k = m k := by
  show P_rcp 6 (32 * q) 2 0 _ k = _
  rw [P_rcp_k h6, P_fin_k h h4 h5 h2, P_first_k h, P_take_k h]
theorem m_leaf_row (q t : Nat) (ht : t ≤ 200) (m : xMem) : rEq (fun i => (m_leaf q t m).2 6 (32 * q + i)) (hL t (m 0)) := by
  refine (P_rcp_row (by decide) (32 * q) 0 _).tr ?_
  intro i hi
  show (P_fin 2 _).2 2 (0 + i) = _
  rw [Nat.zero_add]
  exact leaf_row (by decide) t ht m i hi
theorem m_leaf_rows (q t l : Nat) (hl : l ≠ q) (m : xMem) : rEq (fun i => (m_leaf q t m).2 6 (32 * l + i)) (fun i => m 6 (32 * l + i)) := by
  refine (P_rcp_rows (by decide) q 0 _ l hl).tr ?_
  intro i _
  show (P_fin 2 _).2 6 _ = _
  rw [P_fin_k (by decide) (by decide) (by decide) (by decide), P_first_k (by decide), P_take_k (by decide)]
theorem LK.leaf {t q y n : Nat} {pq : Option Nat} {u : Nat} {isw : Nat → Int32} {m m' : xMem} (h : LK t q y pq u isw m m') (hq : q < 24) : LK 0 (q + 1) y pq u isw (p_leaf q t (n, m)).2 (m_leaf q t m').2 :=
  LK.mk
    (t200 := Nat.zero_le _)
    (q24 := hq)
    (y12 := h.y12)
    (p5 := h.p5)
    (hu := by rw [wcn_s, if_pos (h.iz q (Nat.le_refl _))]; exact h.hu)
    (iz := fun i hi => h.iz i (by omega))
    (e0 := by rw [p_leaf_k (by decide) (by decide) (by decide) q t (by omega), m_leaf_k (by decide) (by decide) (by decide) (by decide) (by decide)]; exact h.e0)
    (e1 := by rw [p_leaf_k (by decide) (by decide) (by decide) q t (by omega), m_leaf_k (by decide) (by decide) (by decide) (by decide) (by decide)]; exact h.e1)
    (cn := fun d hd => by
      rw [p_leaf_k (by decide) (by decide) (by decide) q t (by omega)]
      obtain ⟨c, h1, h2⟩ := h.cn d hd
      exact ⟨c, by omega, h2⟩)
    (lf := fun l hl => by
      by_cases e : l = q
      · subst e
        refine (p_leaf_row l t h.t200 _).tr ?_
        show rEq (hL t (m 0)) _
        rw [h.e0]
        exact (m_leaf_row l t h.t200 m').sy
      · rw [p_leaf_k (by omega) (by omega) (by omega) q t (by omega)]
        exact (h.lf l (by omega)).tr (m_leaf_rows q t l e m').sy)
    (bt := fun l hl i hi => by
      by_cases e : l = q
      · subst e
        rw [p_leaf_row l t h.t200 _ i hi]
        exact hL_byte _ _ _
      · rw [p_leaf_k (by omega) (by omega) (by omega) q t (by omega)]
        exact h.bt l (by omega) i hi)
    (rt := fun d hd => by
      rw [p_leaf_k (by omega) (by omega) (by omega) q t (by omega), m_leaf_k (by decide) (by decide) (by decide) (by decide) (by decide)]
      exact h.rt d hd)
    (pt := fun k j hk hj => by
      rw [p_leaf_k (by omega) (by omega) (by omega) q t (by omega), m_leaf_k (by decide) (by decide) (by decide) (by decide) (by decide)]
      exact h.pt k j hk hj)
    (hkc := fun i hi => by
      rw [m_leaf_k (by decide) (by decide) (by decide) (by decide) (by decide)]
      exact h.hkc i hi)
/-- both trees over the first c leaves -/
theorem LK.tree {t q y : Nat} {pq : Option Nat} {u : Nat} {isw : Nat → Int32} {m m' : xMem} (h : LK t q y pq u isw m m') {c : Nat} (hc : c ≤ q) {tt : Nat} (ht : tt ≠ 5) (n b : Nat) : rEq ((p_tree c tt (n, m)).2 tt) ((m_tree 0 c (b, m')).2 2) := by
  have hq := h.q24
  by_cases h0 : c = 0
  · subst h0
    have e1 : p_tree 0 tt (n, m) = P_fin tt (0, m) := rfl
    have e2 : m_tree 0 0 (b, m') = P_fin 2 (0, m') := rfl
    rw [e1, e2]
    exact (empty_row ht m m).tr (empty_row (by decide) m' m').sy
  · refine (p_tree_row (by omega) (by omega) (n, m)).tr (rEq.sy ((m_tree_row (by omega) (by omega) (b, m')).tr ?_))
    rw [← cT_mT c (by omega) (by omega)]
    exact ev_eq (n := c) (fun i hi => (h.lf i (by omega)).sy) _ (cT_bd c (by omega) (by omega))
theorem p_close_k {k : Nat} (h : k ≠ 3) (h4 : k ≠ 4) (h5 : k ≠ 5) (h1 : k ≠ 1) (hk : k < 47) (q y : Nat) (hy : k ≠ 30 + y) (z : Nat × xMem) : (p_close q y z).2 k = z.2 k := by
  show va_up _ 1 _ k = _
  rw [va_up_ne _ _ h1, p_tree_k h h4 h5 hk hy]
theorem m_close_k {k : Nat} (h2 : k ≠ 2) (h : k ≠ 3) (h4 : k ≠ 4) (h5 : k ≠ 5) (h1 : k ≠ 1) (h7 : k ≠ 7) (h9 : k ≠ 9) (h10 : k ≠ 10) (q y : Nat) (z : Nat × xMem) : (m_close q y z).2 k = z.2 k := by
  show P_rcp 7 (32 * y) 2 0 _ k = _
  rw [P_rcp_k h7, va_up_ne _ _ h1, m_tree_k h2 h h4 h5 h9 h10]
theorem p_close_1 (q y : Nat) (z : Nat × xMem) : (p_close q y z).2 1 = upd (z.2 1) y (nI q) := by
  show va_up (p_tree q (30 + y) z).2 1 (upd ((p_tree q (30 + y) z).2 1) y (nI q)) 1 = _
  rw [va_up_self, p_tree_k (by decide) (by decide) (by decide) (by decide) (by omega)]
theorem m_close_1 (q y : Nat) (z : Nat × xMem) : (m_close q y z).2 1 = upd (z.2 1) y (nI q) := by
  show P_rcp 7 (32 * y) 2 0 _ 1 = _
  rw [P_rcp_k (by decide), va_up_self, m_tree_k (by decide) (by decide) (by decide) (by decide) (by decide) (by decide)]
theorem LK.close {t q y n b : Nat} {pq : Option Nat} {u : Nat} {isw : Nat → Int32} {m m' : xMem} (h : LK t q y pq u isw m m') (hy : y < 12) : LK t q (y + 1) pq u isw (p_close q y (n, m)).2 (m_close q y (b, m')).2 :=
  LK.mk
    (t200 := h.t200)
    (q24 := h.q24)
    (y12 := hy)
    (p5 := h.p5)
    (hu := h.hu)
    (iz := h.iz)
    (e0 := by rw [p_close_k (by decide) (by decide) (by decide) (by decide) (by decide) q y (by omega), m_close_k (by decide) (by decide) (by decide) (by decide) (by decide) (by decide) (by decide) (by decide)]; exact h.e0)
    (e1 := by
      rw [p_close_1, m_close_1]
      show upd (m 1) y (nI q) = upd (m' 1) y (nI q)
      rw [h.e1])
    (cn := fun d hd => by
      rw [p_close_1]
      unfold upd
      by_cases e : d = y
      · rw [if_pos e]; exact ⟨q, Nat.le_refl _, rfl⟩
      · rw [if_neg e]; exact h.cn d (by omega))
    (lf := fun l hl => by
      have := h.q24
      rw [p_close_k (by omega) (by omega) (by omega) (by omega) (by omega) q y (by omega), m_close_k (by decide) (by decide) (by decide) (by decide) (by decide) (by decide) (by decide) (by decide)]
      exact h.lf l hl)
    (bt := fun l hl => by
      have := h.q24
      rw [p_close_k (by omega) (by omega) (by omega) (by omega) (by omega) q y (by omega)]
      exact h.bt l hl)
    (rt := fun d hd => by
      by_cases e : d = y
      · subst e
        have e1 : (p_close q d (n, m)).2 (30 + d) = (p_tree q (30 + d) (n, m)).2 (30 + d) := va_up_ne _ _ (by omega)
        rw [e1]
        refine (h.tree (Nat.le_refl q) (by omega) n b).tr (rEq.sy ?_)
        refine (P_rcp_row (by decide) (32 * d) 0 _).tr ?_
        intro i _
        show va_up (m_tree 0 q (b, m')).2 1 (upd ((m_tree 0 q (b, m')).2 1) d (nI q)) 2 (0 + i) = _
        rw [va_up_ne _ _ (by decide), Nat.zero_add]
      · rw [p_close_k (by omega) (by omega) (by omega) (by omega) (by omega) q y (by omega)]
        refine (h.rt d (by omega)).tr (rEq.sy ?_)
        refine (P_rcp_rows (by decide) y 0 _ d e).tr ?_
        intro i _
        show va_up (m_tree 0 q (b, m')).2 1 (upd ((m_tree 0 q (b, m')).2 1) y (nI q)) 7 (32 * d + i) = _
        rw [va_up_ne _ _ (by decide), m_tree_k (by decide) (by decide) (by decide) (by decide) (by decide) (by decide)])
    (pt := fun k j hk hj => by
      have := h.p5 k hk
      rw [p_close_k (by omega) (by omega) (by omega) (by omega) (by omega) q y (by omega), m_close_k (by decide) (by decide) (by decide) (by decide) (by decide) (by decide) (by decide) (by decide)]
      exact h.pt k j hk hj)
    (hkc := fun i hi => by
      rw [m_close_k (by decide) (by decide) (by decide) (by decide) (by decide) (by decide) (by decide) (by decide)]
      exact h.hkc i hi)
/-- the path and the proof of leaf lf among the first c -/
theorem LK.prove {t q y n b lf c : Nat} {pq : Option Nat} {u : Nat} {isw oR : Nat → Int32} {ptv : Int32} {m m' : xMem} (h : LK t q y pq u isw m m') (hl : lf < c) (hc : c ≤ q) :
    (p_path lf c (n, m)).1 = (glist lf c).length ∧ LK t q y (some (glist lf c).length) u isw (p_path lf c (n, m)).2.2 (pvI (glist lf c) (glist lf c).length (ptv, b, (gW (glist lf c) 0 (oR, m')).2)).2.2 := by
  have hq := h.q24
  obtain ⟨a1, a2, a3, a4⟩ := pT_len c (by omega) lf hl
  have facts := pT_mT c (by omega) lf hl
  obtain ⟨i1, i2⟩ := p_path_is (by omega : c ≤ 24) a2 (n, m)
  have g6 : ∀ k, k ≠ 11 → k ≠ 12 → (gW (glist lf c) 0 (oR, m')).2 k = m' k := fun k h1 h2 => gW_k h1 h2 _ _ _
  have hv := pvI_is (glist lf c) (ptv, b, (gW (glist lf c) 0 (oR, m')).2) (fun j hj => ⟨(facts j hj).2.2.1, (facts j hj).2.2.2.1⟩) _ (Nat.le_refl _)
  have kp : ∀ k, k ≠ 2 → k ≠ 3 → k ≠ 4 → k ≠ 5 → k ≠ 8 → k ≠ 9 → k ≠ 10 → k ≠ 11 → k ≠ 12 → (pvI (glist lf c) (glist lf c).length (ptv, b, (gW (glist lf c) 0 (oR, m')).2)).2.2 k = m' k := fun k h2 h3 h4 h5 h8 h9 h10 h11 h12 => by
    rw [pvI_k h2 h3 h4 h5 h8 h9 h10]
    exact g6 k h11 h12
  have kc_ : ∀ k, k ≠ 3 → k ≠ 4 → k ≠ 5 → k < 42 → (p_path lf c (n, m)).2.2 k = m k := fun k h3 h4 h5 hk => p_path_k h3 h4 h5 hk lf c (n, m)
  refine ⟨i1.trans a1, ?_⟩
  exact LK.mk
    (t200 := h.t200)
    (q24 := h.q24)
    (y12 := h.y12)
    (p5 := fun k hk => by
        cases hk
        omega)
    (hu := h.hu)
    (iz := h.iz)
    (e0 := by rw [kc_ 0 (by decide) (by decide) (by decide) (by decide), kp 0 (by decide) (by decide) (by decide) (by decide) (by decide) (by decide) (by decide) (by decide) (by decide)]; exact h.e0)
    (e1 := by rw [kc_ 1 (by decide) (by decide) (by decide) (by decide), kp 1 (by decide) (by decide) (by decide) (by decide) (by decide) (by decide) (by decide) (by decide) (by decide)]; exact h.e1)
    (cn := fun d hd => by rw [kc_ 1 (by decide) (by decide) (by decide) (by decide)]; exact h.cn d hd)
    (lf := fun l hl => by rw [kc_ (6 + l) (by omega) (by omega) (by omega) (by omega), kp 6 (by decide) (by decide) (by decide) (by decide) (by decide) (by decide) (by decide) (by decide) (by decide)]; exact h.lf l hl)
    (bt := fun l hl => by rw [kc_ (6 + l) (by omega) (by omega) (by omega) (by omega)]; exact h.bt l hl)
    (rt := fun d hd => by
        have := h.y12
        rw [kc_ (30 + d) (by omega) (by omega) (by omega) (by omega), kp 7 (by decide) (by decide) (by decide) (by decide) (by decide) (by decide) (by decide) (by decide) (by decide)]; exact h.rt d hd)
    (pt := fun k j hk hj => by
        cases hk
        refine (i2 j (by omega)).tr (rEq.sy ((hv j hj).tr ?_))
        rw [← teq_eq _ _ (facts j hj).1]
        show rEq (ev (fun l x => (gW (glist lf c) 0 (oR, m')).2 6 (32 * l + x)) _) _
        rw [g6 6 (by decide) (by decide)]
        exact ev_eq (n := c) (fun i hi => (h.lf i (by omega)).sy) _ (facts j hj).2.1)
    (hkc := fun i hi => by rw [kp 13 (by decide) (by decide) (by decide) (by decide) (by decide) (by decide) (by decide) (by decide) (by decide)]; exact h.hkc i hi)
/-- climbing: both come to the same row -/
theorem LK.climb {t q y n b lf x c : Nat} {pq : Option Nat} {u : Nat} {isw oR : Nat → Int32} {m m' : xMem} (h : LK t q y pq u isw m m') (hpq : pq = some (glist x c).length) (hlf : lf < q) (hx : x < c) (hc : c ≤ 24) :
    rEq ((p_climb (6 + lf) x c (n, m)).2 2) ((ckE (glist x c) lf (b, (gW (glist x c) 0 (oR, m')).2)).2 2) := by
  obtain ⟨a1, a2, a3, a4⟩ := pT_len c (by omega) x hx
  have facts := pT_mT c (by omega) x hx
  have g6 : ∀ k, k ≠ 11 → k ≠ 12 → (gW (glist x c) 0 (oR, m')).2 k = m' k := fun k h1 h2 => gW_k h1 h2 _ _ _
  have hA := p_climb_is (fun j => (gIt (glist x c) j).1) (6 + lf) x c (by omega) (n, m) (fun j hj => ((facts j (by omega)).2.2.2.2).symm)
  have hB := ckE_is (glist x c) (fun j => (gIt (glist x c) j).1) (fun _ _ => rfl) lf (b, (gW (glist x c) 0 (oR, m')).2)
  rw [a3] at hA
  refine hA.tr (rEq.sy (hB.tr ?_))
  show rEq (hG _ (fun j x_1 => (gW (glist x c) 0 (oR, m')).2 8 (32 * j + x_1)) (fun x_1 => (gW (glist x c) 0 (oR, m')).2 6 (32 * lf + x_1)) _) _
  rw [g6 8 (by decide) (by decide), g6 6 (by decide) (by decide)]
  exact hG_eq (h.lf lf hlf).sy _ (fun i hi => (h.pt _ i hpq hi).sy)
theorem wcn_upd (isw : Nat → Int32) (d : Nat) (h0 : isw d = 0) : ∀ q, wcn (upd isw d (nI 1)) q = if d < q then wcn isw q + 1 else wcn isw q
  | 0 => by rw [if_neg (by omega)]; rfl
  | q + 1 => by
    have ih := wcn_upd isw d h0 q
    rw [wcn_s, wcn_s, ih]
    unfold upd
    by_cases e : q = d
    · subst e
      rw [if_neg (show ¬ (if q = q then nI 1 else isw q) = 0 by rw [if_pos rfl]; decide), if_neg (by omega), if_pos h0, if_pos (by omega)]
    · rw [if_neg e]
      by_cases c : d < q
      · rw [if_pos c, if_pos (show d < q + 1 by omega)]
        split <;> rfl
      · rw [if_neg c, if_neg (show ¬ d < q + 1 by omega)]
theorem LK.withdraw {t q y d : Nat} {pq : Option Nat} {u : Nat} {isw : Nat → Int32} {m m' : xMem} (h : LK t q y pq u isw m m') (hd : d < q) (h0 : isw d = 0) : u + 1 = wcn (upd isw d (nI 1)) q ∧ LK t q y pq (u + 1) (upd isw d (nI 1)) m m' := by
  have e : u + 1 = wcn (upd isw d (nI 1)) q := by rw [wcn_upd isw d h0, if_pos hd, ← h.hu]
  exact ⟨e, LK.mk
    (t200 := h.t200)
    (q24 := h.q24)
    (y12 := h.y12)
    (p5 := h.p5)
    (hu := e)
    (iz := fun i hi => by
        unfold upd
        rw [if_neg (by omega)]
        exact h.iz i hi)
    (e0 := h.e0)
    (e1 := h.e1)
    (cn := h.cn)
    (lf := h.lf)
    (bt := h.bt)
    (rt := h.rt)
    (pt := h.pt)
    (hkc := h.hkc)⟩
theorem rEq_upd {f g : Nat → Int32} {i : Nat} {x : Int32} {k : Nat} (a : Nat) (h : rEq f (fun i => g (a + i))) (hk : k = a + i) (hi : i < 32) : rEq (upd f i (f i ^^^ x)) (fun j => upd g k (g k ^^^ x) (a + j)) := by
  intro j hj
  show upd f i (f i ^^^ x) j = upd g k (g k ^^^ x) (a + j)
  unfold upd
  subst hk
  by_cases e : j = i
  · subst e
    rw [if_pos rfl, if_pos rfl, h j hj]
  · rw [if_neg e, if_neg (by omega)]
    exact h j hj
theorem rEq_off {f g : Nat → Int32} {y : Int32} {k : Nat} (a : Nat) (h : rEq f (fun i => g (a + i))) (hk : k < a ∨ a + 32 ≤ k) : rEq f (fun j => upd g k y (a + j)) := by
  intro j hj
  show f j = upd g k y (a + j)
  unfold upd
  rw [if_neg (by omega)]
  exact h j hj
theorem LK.bend {t q y d i k : Nat} {u : Nat} {x : Int32} {isw : Nat → Int32} {m m' : xMem} (h : LK t q y (some k) u isw m m') (hd : d < k) (hi : i < 32) : LK t q y (some k) u isw (p_bend (42 + d) i x m) (m_bend 8 (32 * d + i) x m') := by
  have hk5 := h.p5 k rfl
  have hq := h.q24
  have hy := h.y12
  have c1 : ∀ a, a ≠ 42 + d → p_bend (42 + d) i x m a = m a := fun a ha => va_up_ne _ _ ha
  have c2 : p_bend (42 + d) i x m (42 + d) = upd (m (42 + d)) i (m (42 + d) i ^^^ x) := va_up_self _ _ _
  have d1 : ∀ a, a ≠ 8 → m_bend 8 (32 * d + i) x m' a = m' a := fun a ha => va_up_ne _ _ ha
  have d2 : m_bend 8 (32 * d + i) x m' 8 = upd (m' 8) (32 * d + i) (m' 8 (32 * d + i) ^^^ x) := va_up_self _ _ _
  exact LK.mk
    (t200 := h.t200)
    (q24 := h.q24)
    (y12 := h.y12)
    (p5 := h.p5)
    (hu := h.hu)
    (iz := h.iz)
    (e0 := by rw [c1 _ (by omega), d1 _ (by decide)]; exact h.e0)
    (e1 := by rw [c1 _ (by omega), d1 _ (by decide)]; exact h.e1)
    (cn := fun d hd => by rw [c1 _ (by omega)]; exact h.cn d hd)
    (lf := fun l hl => by rw [c1 _ (by omega), d1 _ (by decide)]; exact h.lf l hl)
    (bt := fun l hl => by rw [c1 _ (by omega)]; exact h.bt l hl)
    (rt := fun d hd => by rw [c1 _ (by omega), d1 _ (by decide)]; exact h.rt d hd)
    (pt := fun k2 j hk hj => by
        cases hk
        rw [d2]
        by_cases e : j = d
        · subst e
          rw [c2]
          exact rEq_upd _ (h.pt k j rfl hj) rfl hi
        · rw [c1 _ (by omega)]
          exact rEq_off _ (h.pt k j rfl hj) (by omega))
    (hkc := fun i hi => by rw [d1 _ (by decide)]; exact h.hkc i hi)
theorem byte_xor {a b : Int32} (ha : byte a) (hb : byte b) : byte (a ^^^ b) := by
  obtain ⟨v, hv, rfl⟩ := ha
  obtain ⟨w, hw, rfl⟩ := hb
  refine ⟨v ^^^ w, Nat.xor_lt_two_pow (n := 8) hv hw, ?_⟩
  apply Int32.toBitVec_inj.1
  show BitVec.ofNat 32 v ^^^ BitVec.ofNat 32 w = BitVec.ofNat 32 (v ^^^ w)
  apply BitVec.eq_of_getLsbD_eq
  intro i hi
  simp [hi]
theorem LK.poke {t q y d i : Nat} {pq : Option Nat} {u : Nat} {x : Int32} {isw : Nat → Int32} {m m' : xMem} (h : LK t q y pq u isw m m') (hd : d < q) (hi : i < 32) (hx : byte x) : LK t q y pq u isw (p_bend (6 + d) i x m) (m_bend 6 (32 * d + i) x m') := by
  have hq := h.q24
  have hy := h.y12
  have c1 : ∀ a, a ≠ 6 + d → p_bend (6 + d) i x m a = m a := fun a ha => va_up_ne _ _ ha
  have c2 : p_bend (6 + d) i x m (6 + d) = upd (m (6 + d)) i (m (6 + d) i ^^^ x) := va_up_self _ _ _
  have d1 : ∀ a, a ≠ 6 → m_bend 6 (32 * d + i) x m' a = m' a := fun a ha => va_up_ne _ _ ha
  have d2 : m_bend 6 (32 * d + i) x m' 6 = upd (m' 6) (32 * d + i) (m' 6 (32 * d + i) ^^^ x) := va_up_self _ _ _
  exact LK.mk
    (t200 := h.t200)
    (q24 := h.q24)
    (y12 := h.y12)
    (p5 := h.p5)
    (hu := h.hu)
    (iz := h.iz)
    (e0 := by rw [c1 _ (by omega), d1 _ (by decide)]; exact h.e0)
    (e1 := by rw [c1 _ (by omega), d1 _ (by decide)]; exact h.e1)
    (cn := fun d hd => by rw [c1 _ (by omega)]; exact h.cn d hd)
    (lf := fun l hl => by
        rw [d2]
        by_cases e : l = d
        · subst e
          rw [c2]
          exact rEq_upd _ (h.lf l hl) rfl hi
        · rw [c1 _ (by omega)]
          exact rEq_off _ (h.lf l hl) (by omega))
    (bt := fun l hl j hj => by
        by_cases e : l = d
        · subst e
          rw [c2]
          unfold upd
          split
          · exact byte_xor (h.bt l hl i hi) hx
          · exact h.bt l hl j hj
        · rw [c1 _ (by omega)]
          exact h.bt l hl j hj)
    (rt := fun d hd => by rw [c1 _ (by omega), d1 _ (by decide)]; exact h.rt d hd)
    (pt := fun k j hk hj => by
        rw [c1 _ (by omega), d1 _ (by decide)]
        exact h.pt k j hk hj)
    (hkc := fun i hi => by rw [d1 _ (by decide)]; exact h.hkc i hi)
