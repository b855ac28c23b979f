/-! ANSWERS: mark, check, grew, absence answer alike -/
theorem p_mark_k {k : Nat} (h2 : k ≠ 2) (h : k ≠ 3) (h4 : k ≠ 4) (h5 : k ≠ 5) (lf : Nat) (k1 k2 : Int64) (m : xMem) : (p_mark lf k1 k2 m).2 k = m k := by
  unfold p_mark
  rw [p_keyed_k h h4 h5 h2, p_keyed_k h h4 h5 h2]
theorem m_mark_k {k : Nat} (h2 : k ≠ 2) (h : k ≠ 3) (h4 : k ≠ 4) (h5 : k ≠ 5) (h9 : k ≠ 9) (lf : Nat) (k1 k2 : Int64) (m : xMem) : (m_mark lf k1 k2 m).2 k = m k := by
  unfold m_mark
  rw [P_fin_k h h4 h5 h2, P_row_k h, P_long_k h]
  show P_rcp 9 0 2 0 (P_fin 2 (P_row 6 (32 * lf) 32 (P_long k1 (0, m)))).2 k = m k
  rw [P_rcp_k h9, P_fin_k h h4 h5 h2, P_row_k h, P_long_k h]
theorem LK.mark {t q y lf : Nat} {pq : Option Nat} {u : Nat} {isw : Nat → Int32} {m m' : xMem} (h : LK t q y pq u isw m m') (hlf : lf < q) (k1 k2 : Int64) : rEq ((p_mark lf k1 k2 m).2 2) ((m_mark lf k1 k2 m').2 2) ∧ LK t q y pq u isw (p_mark lf k1 k2 m).2 (m_mark lf k1 k2 m').2 := by
  have hq := h.q24
  constructor
  · have a1 := p_keyed_row (d := 6 + lf) (t := 2) (by omega) (by decide) k1 m
    have a2 := p_keyed_row (d := 2) (t := 2) (by decide) (by decide) k2 (p_keyed k1 (6 + lf) 2 m).2
    have b1 := m_keyed_row (d := 6) (by decide) (32 * lf) k1 m'
    have b2 := m_keyed_row (d := 9) (by decide) 0 k2 (P_rcp 9 0 2 0 (P_fin 2 (P_row 6 (32 * lf) 32 (P_long k1 (0, m')))).2)
    refine (a2.tr (hK_eq (a1.tr (hK_eq (h.lf lf hlf))))).tr (rEq.sy (b2.tr (hK_eq ?_)))
    refine (P_rcp_row (by decide) 0 0 _).tr ?_
    intro i hi
    show (P_fin 2 (P_row 6 (32 * lf) 32 (P_long k1 (0, m')))).2 2 (0 + i) = _
    rw [Nat.zero_add]
    exact b1 i hi
  · refine h.keep ?_ ?_ (fun k h1 h2 => ?_) ?_ ?_ ?_ ?_ ?_ ?_
    · exact p_mark_k (by decide) (by decide) (by decide) (by decide) _ _ _ _
    · exact p_mark_k (by decide) (by decide) (by decide) (by decide) _ _ _ _
    · exact p_mark_k (by omega) (by omega) (by omega) (by omega) _ _ _ _
    all_goals exact m_mark_k (by decide) (by decide) (by decide) (by decide) (by decide) _ _ _ _
-- grew
theorem LK.treed {t q y n b : Nat} {pq : Option Nat} {u : Nat} {isw : Nat → Int32} {m m' : xMem} (h : LK t q y pq u isw m m') (c : Nat) : LK t q y pq u isw (p_tree c 2 (n, m)).2 (m_tree 0 c (b, m')).2 := by
  refine h.keep ?_ ?_ (fun k h1 h2 => ?_) ?_ ?_ ?_ ?_ ?_ ?_
  · exact p_tree_k (by decide) (by decide) (by decide) (by decide) (by decide) _ _
  · exact p_tree_k (by decide) (by decide) (by decide) (by decide) (by decide) _ _
  · exact p_tree_k (by omega) (by omega) (by omega) (by omega) (by omega) _ _
  all_goals exact m_tree_k (by decide) (by decide) (by decide) (by decide) (by decide) (by decide) _ _ _
theorem LK.kept2 {t q y : Nat} {pq : Option Nat} {u : Nat} {isw : Nat → Int32} {m m' m2' : xMem} (h : LK t q y pq u isw m m') (k : ∀ k, k ≠ 2 → k ≠ 3 → k ≠ 4 → k ≠ 5 → k ≠ 9 → k ≠ 10 → k ≠ 11 → k ≠ 12 → m2' k = m' k) : LK t q y pq u isw m m2' := by
  refine h.keep rfl rfl (fun _ _ _ => rfl) ?_ ?_ ?_ ?_ ?_ ?_
  all_goals exact k _ (by decide) (by decide) (by decide) (by decide) (by decide) (by decide) (by decide) (by decide)
theorem LK.still {t q y n b d c : Nat} {pq : Option Nat} {u : Nat} {isw : Nat → Int32} {m m' : xMem} (h : LK t q y pq u isw m m') (hd : d < y) (hc : c ≤ q) : p_still c d (n, m) = p_iso 7 (32 * d) (m_tree 0 c (b, m')).2 := by
  have hy := h.y12
  have h1 := h.tree hc (tt := 2) (by decide) n b
  have h2 := h.rt d hd
  have e1 : (p_tree c 2 (n, m)).2 (30 + d) = m (30 + d) := p_tree_k (by omega) (by omega) (by omega) (by omega) (by omega) _ _
  have e2 : (m_tree 0 c (b, m')).2 7 = m' 7 := m_tree_k (by decide) (by decide) (by decide) (by decide) (by decide) (by decide) _ _ _
  unfold p_still
  rw [e1]
  rcases p_iso_is 7 (32 * d) (m_tree 0 c (b, m')).2 with ⟨a, r⟩ | ⟨a, r⟩
  · rw [a, if_pos]
    rw [p_cmp_0]
    rw [e2] at r
    exact h1.tr (r.sy.tr h2.sy)
  · rw [a, if_neg]
    rw [p_cmp_0]
    intro H
    apply r
    rw [e2]
    exact h2.sy.tr (H.sy.tr h1)
-- check
theorem LK.check {t q y n b lf d x c : Nat} {pq : Option Nat} {u : Nat} {isw oR : Nat → Int32} {m m' : xMem} (h : LK t q y pq u isw m m') (hpq : pq = some (glist x c).length) (hlf : lf < q) (hd : d < y) (hx : x < c) (hc : c ≤ 24) :
    (if p_cmp ((p_climb (6 + lf) x c (n, m)).2 2) ((p_climb (6 + lf) x c (n, m)).2 (30 + d)) = 0 then nI 0 else nI 3) = (if p_iso 7 (32 * d) (ckE (glist x c) lf (b, (gW (glist x c) 0 (oR, m')).2)).2 = 0 then nI 3 else nI 0) := by
  have hy := h.y12
  have h1 := h.climb (n := n) (b := b) (oR := oR) hpq hlf hx hc
  have h2 := h.rt d hd
  have e1 : (p_climb (6 + lf) x c (n, m)).2 (30 + d) = m (30 + d) := p_climb_k (by omega) (by omega) (by omega) (by omega) _ _ _ _
  have e2 : (ckE (glist x c) lf (b, (gW (glist x c) 0 (oR, m')).2)).2 7 = m' 7 := by
    show P_rcp 2 0 9 0 (ckI (glist x c) (glist x c).length (b, P_rcp 9 0 6 (32 * lf) (gW (glist x c) 0 (oR, m')).2)).2 7 = _
    rw [P_rcp_k (by decide), ckI_k (by decide) (by decide) (by decide) (by decide) (by decide)]
    show P_rcp 9 0 6 (32 * lf) (gW (glist x c) 0 (oR, m')).2 7 = _
    rw [P_rcp_k (by decide)]
    exact gW_k (by decide) (by decide) _ _ _
  rw [e1]
  rcases p_iso_is 7 (32 * d) (ckE (glist x c) lf (b, (gW (glist x c) 0 (oR, m')).2)).2 with ⟨a, r⟩ | ⟨a, r⟩
  · rw [a, if_pos, if_neg (by decide)]
    rw [p_cmp_0]
    rw [e2] at r
    exact h1.tr (r.sy.tr h2.sy)
  · rw [a, if_neg, if_pos (show nI 0 = (0 : Int32) from rfl)]
    rw [p_cmp_0]
    intro H
    apply r
    rw [e2]
    exact h2.sy.tr (H.sy.tr h1)
theorem LK.climbed {t q y n b lf x c : Nat} {pq : Option Nat} {u : Nat} {isw oR : Nat → Int32} {m m' : xMem} (h : LK t q y pq u isw m m') : LK t q y pq u isw (p_climb (6 + lf) x c (n, m)).2 (ckE (glist x c) lf (b, (gW (glist x c) 0 (oR, m')).2)).2 := by
  have k9 : ∀ k, k ≠ 2 → k ≠ 3 → k ≠ 4 → k ≠ 5 → k ≠ 9 → k ≠ 11 → k ≠ 12 → (ckE (glist x c) lf (b, (gW (glist x c) 0 (oR, m')).2)).2 k = m' k := by
    intro k h2 h3 h4 h5 h9 h11 h12
    show P_rcp 2 0 9 0 (ckI (glist x c) (glist x c).length (b, P_rcp 9 0 6 (32 * lf) (gW (glist x c) 0 (oR, m')).2)).2 k = _
    rw [P_rcp_k h2, ckI_k h2 h3 h4 h5 h9]
    show P_rcp 9 0 6 (32 * lf) (gW (glist x c) 0 (oR, m')).2 k = _
    rw [P_rcp_k h9]
    exact gW_k h11 h12 _ _ _
  refine h.keep ?_ ?_ (fun k h1 h2 => ?_) ?_ ?_ ?_ ?_ ?_ ?_
  · exact p_climb_k (by decide) (by decide) (by decide) (by decide) _ _ _ _
  · exact p_climb_k (by decide) (by decide) (by decide) (by decide) _ _ _ _
  · exact p_climb_k (by omega) (by omega) (by omega) (by omega) _ _ _ _
  all_goals exact k9 _ (by decide) (by decide) (by decide) (by decide) (by decide) (by decide) (by decide)
-- absence: the order of rows of bytes
theorem neg_nI : ∀ k, k < 256 → 0 < k → -(nI k) < 0 ∧ ¬ 0 < -(nI k) ∧ 0 < nI k ∧ ¬ nI k < 0 := by decide +kernel
theorem byte_tri {a b : Int32} (ha : byte a) (hb : byte b) : a = b ∨ (¬ a = b ∧ a < b ∧ a - b < 0 ∧ ¬ 0 < a - b ∧ 0 < b - a ∧ ¬ b - a < 0) ∨ (¬ a = b ∧ ¬ a < b ∧ 0 < a - b ∧ ¬ a - b < 0 ∧ b - a < 0 ∧ ¬ 0 < b - a) := by
  obtain ⟨v, hv, rfl⟩ := ha
  obtain ⟨w, hw, rfl⟩ := hb
  rcases Nat.lt_trichotomy v w with c | c | c
  · have e : nI w - nI v = nI (w - v) := pk_sub (by omega)
    have e2 : nI v - nI w = -(nI (w - v)) := by rw [← e, Int32.neg_sub]
    obtain ⟨n1, n2, n3, n4⟩ := neg_nI (w - v) (by omega) (by omega)
    refine Or.inr (Or.inl ⟨fun H => ?_, nI_lt c (by omega), ?_, ?_, ?_, ?_⟩)
    · exact absurd (nI_lt c (by omega)) (by rw [H]; exact Int32.lt_irrefl)
    · rw [e2]; exact n1
    · rw [e2]; exact n2
    · rw [e]; exact n3
    · rw [e]; exact n4
  · exact Or.inl (by rw [c])
  · have e : nI v - nI w = nI (v - w) := pk_sub (by omega)
    have e2 : nI w - nI v = -(nI (v - w)) := by rw [← e, Int32.neg_sub]
    obtain ⟨n1, n2, n3, n4⟩ := neg_nI (v - w) (by omega) (by omega)
    refine Or.inr (Or.inr ⟨fun H => ?_, nI_nlt (by omega) (by omega), ?_, ?_, ?_, ?_⟩)
    · exact absurd (nI_lt c (by omega)) (by rw [H]; exact Int32.lt_irrefl)
    · rw [e]; exact n3
    · rw [e]; exact n4
    · rw [e2]; exact n1
    · rw [e2]; exact n2
theorem sub_0 {a b : Int32} (ha : byte a) (hb : byte b) : a - b = 0 ↔ a = b := by
  constructor
  · intro H
    rcases byte_tri ha hb with h | ⟨_, _, h, _⟩ | ⟨_, _, h, _⟩
    · exact h
    · rw [H] at h; exact absurd h (by decide)
    · rw [H] at h; exact absurd h (by decide)
  · intro H
    rw [H]
    exact Int32.sub_self _
def sgn3 (a b c : Int32) : Prop := (a < 0 ∧ ¬ 0 < a ∧ b < 0 ∧ ¬ 0 < b ∧ 0 < c ∧ ¬ c < 0) ∨ (0 < a ∧ ¬ a < 0 ∧ 0 < b ∧ ¬ b < 0 ∧ c < 0 ∧ ¬ 0 < c) ∨ (a = 0 ∧ b = 0 ∧ c = 0)
theorem cmp_ord {f g f' g' : Nat → Int32} (hf : ∀ i, i < 32 → f i = f' i) (hg : ∀ i, i < 32 → g i = g' i) (bf : ∀ i, i < 32 → byte (f i)) (bg : ∀ i, i < 32 → byte (g i)) : ∀ k i, i + k ≤ 32 → sgn3 (p_cmpA f g k i) (ordA f' g' k i) (ordA g' f' k i)
  | 0, i, _ => Or.inr (Or.inr ⟨rfl, rfl, rfl⟩)
  | k + 1, i, h => by
    have ih := cmp_ord hf hg bf bg k (i + 1) (by omega)
    show sgn3 (if f i = g i then p_cmpA f g k (i + 1) else if f i < g i then (-1) else nI 1) (if f' i - g' i = 0 then ordA f' g' k (i + 1) else f' i - g' i) (if g' i - f' i = 0 then ordA g' f' k (i + 1) else g' i - f' i)
    rw [← hf i (by omega), ← hg i (by omega)]
    have b1 := bf i (by omega)
    have b2 := bg i (by omega)
    rcases byte_tri b1 b2 with e | ⟨e0, e1, e2, e3, e4, e5⟩ | ⟨e0, e1, e2, e3, e4, e5⟩
    · rw [if_pos e, if_pos ((sub_0 b1 b2).2 e), if_pos ((sub_0 b2 b1).2 e.symm)]
      exact ih
    · rw [if_neg e0, if_pos e1, if_neg (fun H => e0 ((sub_0 b1 b2).1 H)), if_neg (fun H => e0 ((sub_0 b2 b1).1 H).symm)]
      exact Or.inl ⟨by decide, by decide, e2, e3, e4, e5⟩
    · rw [if_neg e0, if_neg e1, if_neg (fun H => e0 ((sub_0 b1 b2).1 H)), if_neg (fun H => e0 ((sub_0 b2 b1).1 H).symm)]
      exact Or.inr (Or.inl ⟨by decide, by decide, e2, e3, e4, e5⟩)
theorem LK.ord {t q y a b : Nat} {pq : Option Nat} {u : Nat} {isw : Nat → Int32} {m m' : xMem} (h : LK t q y pq u isw m m') (ha : a < q) (hb : b < q) : sgn3 (p_cmp (m (6 + a)) (m (6 + b))) (p_ord a b m') (p_ord b a m') :=
  cmp_ord (h.lf a ha) (h.lf b hb) (h.bt a ha) (h.bt b hb) 32 0 (by decide)
theorem lies_0 {x : Int32} : p_lies 0 x = 0 ↔ ¬ x < 0 := by
  unfold p_lies
  rw [if_pos rfl]
  by_cases c : x < 0
  · rw [if_pos c]; exact ⟨fun H => absurd H (by decide), fun H => absurd c H⟩
  · rw [if_neg c]; exact ⟨fun _ => c, fun _ => rfl⟩
theorem lies_1 {sd x : Int32} (h : ¬ sd = 0) : p_lies sd x = 0 ↔ ¬ 0 < x := by
  unfold p_lies
  rw [if_neg h]
  by_cases c : 0 < x
  · rw [if_pos c]; exact ⟨fun H => absurd H (by decide), fun H => absurd c H⟩
  · rw [if_neg c]; exact ⟨fun _ => c, fun _ => rfl⟩
theorem sgn_lt {a b c : Int32} (h : sgn3 a b c) : (a < 0 ↔ b < 0) ∧ (0 < a ↔ 0 < b) ∧ (a < 0 ↔ 0 < c) ∧ (0 < a ↔ c < 0) := by
  rcases h with ⟨a1, a2, b1, b2, c1, c2⟩ | ⟨a1, a2, b1, b2, c1, c2⟩ | ⟨rfl, rfl, rfl⟩
  · exact ⟨⟨fun _ => b1, fun _ => a1⟩, ⟨fun H => absurd H a2, fun H => absurd H b2⟩, ⟨fun _ => c1, fun _ => a1⟩, ⟨fun H => absurd H a2, fun H => absurd H c2⟩⟩
  · exact ⟨⟨fun H => absurd H a2, fun H => absurd H b2⟩, ⟨fun _ => b1, fun _ => a1⟩, ⟨fun H => absurd H a2, fun H => absurd H c2⟩, ⟨fun _ => c1, fun _ => a1⟩⟩
  · have z : ¬ (0 : Int32) < 0 := by decide
    exact ⟨Iff.rfl, Iff.rfl, ⟨fun H => absurd H z, fun H => absurd H z⟩, ⟨fun H => absurd H z, fun H => absurd H z⟩⟩
theorem LK.nearS {t q y lf i : Nat} {pq : Option Nat} {u : Nat} {isw : Nat → Int32} {m m' : xMem} (h : LK t q y pq u isw m m') (sd : Int32) (hlf : lf < q) (hi : i < q) (r : Option Nat) (hr : ∀ j, r = some j → j < q) : p_nearS sd isw m lf i r = mnS sd isw m' lf i r := by
  have o1 := sgn_lt (h.ord hi hlf)
  unfold p_nearS mnS
  by_cases c0 : isw i = 0
  · rw [if_pos c0, if_pos c0]
  · rw [if_neg c0, if_neg c0]
    by_cases c1 : sd = 0
    · rw [if_pos c1]
      subst c1
      by_cases c2 : p_cmp (m (6 + i)) (m (6 + lf)) < 0
      · rw [if_neg (fun H => lies_0.1 H c2), if_pos (o1.1.1 c2)]
        cases r with
        | none => rfl
        | some j =>
          have o2 := sgn_lt (h.ord (hr j rfl) hi)
          show (if p_lies 0 (p_cmp (m (6 + j)) (m (6 + i))) = 0 then some j else some i) = if 0 < p_ord i j m' then some i else some j
          by_cases c3 : p_cmp (m (6 + j)) (m (6 + i)) < 0
          · rw [if_neg (fun H => lies_0.1 H c3), if_pos (o2.2.2.1.1 c3)]
          · rw [if_pos (lies_0.2 c3), if_neg (fun H => c3 (o2.2.2.1.2 H))]
      · rw [if_pos (lies_0.2 c2), if_neg (fun H => c2 (o1.1.2 H))]
    · rw [if_neg c1]
      by_cases c2 : 0 < p_cmp (m (6 + i)) (m (6 + lf))
      · rw [if_neg (fun H => (lies_1 c1).1 H c2), if_pos (o1.2.1.1 c2)]
        cases r with
        | none => rfl
        | some j =>
          have o2 := sgn_lt (h.ord (hr j rfl) hi)
          show (if p_lies sd (p_cmp (m (6 + j)) (m (6 + i))) = 0 then some j else some i) = if p_ord i j m' < 0 then some i else some j
          by_cases c3 : 0 < p_cmp (m (6 + j)) (m (6 + i))
          · rw [if_neg (fun H => (lies_1 c1).1 H c3), if_pos (o2.2.2.2.1 c3)]
          · rw [if_pos ((lies_1 c1).2 c3), if_neg (fun H => c3 (o2.2.2.2.2 H))]
      · rw [if_pos ((lies_1 c1).2 c2), if_neg (fun H => c2 (o1.2.1.2 H))]
theorem LK.near {t q y lf : Nat} {pq : Option Nat} {u : Nat} {isw : Nat → Int32} {m m' : xMem} (h : LK t q y pq u isw m m') (sd : Int32) (hlf : lf < q) : ∀ n, n ≤ q → p_near sd isw m lf n = mnr sd isw m' lf n
  | 0, _ => rfl
  | n + 1, hn => by
    have ih := h.near sd hlf n (by omega)
    have e1 : p_near sd isw m lf (n + 1) = p_nearS sd isw m lf n (p_near sd isw m lf n) := rfl
    rw [e1, mnr_s, ← ih]
    exact h.nearS sd hlf (by omega) _ (fun j hj => Nat.lt_of_lt_of_le (p_near_lt sd isw m lf n j hj) (by omega))
