/-! WHAT THE LAW NEEDS OF THE TWO STATES AT EACH CALL -/
theorem tn_nI {d : Nat} (h : d < 2 ^ 31) : tn (nI d) = d := nI_clamp h
theorem LK.hm {t q y : Nat} {pq : Option Nat} {u : Nat} {isw : Nat → Int32} {m m' : xMem} (h : LK t q y pq u isw m m') : ∀ d, d < y → m 1 d = nI (tn (m 1 d)) ∧ tn (m 1 d) ≤ 24 := by
  intro d hd
  have hq := h.q24
  obtain ⟨c, h1, h2⟩ := h.cn d hd
  rw [h2, tn_nI (by omega)]
  exact ⟨rfl, by omega⟩
theorem LK.pn5 {t q y : Nat} {pq : Option Nat} {u : Nat} {isw : Nat → Int32} {m m' : xMem} (h : LK t q y pq u isw m m') : pnC pq ≤ nI 5 := by
  cases pq with
  | none => show (-1 : Int32) ≤ nI 5; decide
  | some k =>
    have hk := h.p5 k rfl
    show nI k ≤ nI 5
    have : k = 0 ∨ k = 1 ∨ k = 2 ∨ k = 3 ∨ k = 4 ∨ k = 5 := by omega
    rcases this with rfl | rfl | rfl | rfl | rfl | rfl <;> decide
theorem req_pn (v : Int32) (pq : Option Nat) : x_req v (pnC pq) = x_req v (nI (pq.getD 0)) := by
  cases pq with
  | some k => rfl
  | none =>
    show x_req v (-1) = x_req v (nI 0)
    unfold x_req
    by_cases h : v < 0
    · rw [if_pos (Or.inl h), if_pos (Or.inl h)]
    · have h0 : (0 : Int32) ≤ v := Int32.not_lt.mp h
      rw [if_pos (Or.inr (fun h1 => absurd (Int32.lt_of_le_of_lt h0 h1) (by decide))), if_pos (Or.inr (show ¬ v < nI 0 from h))]
theorem getD_5 {t q y : Nat} {pq : Option Nat} {u : Nat} {isw : Nat → Int32} {m m' : xMem} (h : LK t q y pq u isw m m') : pq.getD 0 ≤ 5 := by
  cases pq with
  | none => exact Nat.zero_le _
  | some k => exact h.p5 k rfl
theorem pq_some {pq : Option Nat} {d : Nat} (h : d < pq.getD 0) : pq = some (pq.getD 0) := by
  cases pq with
  | none => exact absurd h (Nat.not_lt_zero _)
  | some k => rfl
theorem pv_01 (pq : Option Nat) : pvC pq = 0 ∨ pvC pq = nI 1 := by
  cases pq with
  | none => exact Or.inl rfl
  | some k => exact Or.inr rfl
theorem nI_ne1 {k : Nat} (h : k ≤ 5) : ¬ nI k = (-1 : Int32) := by
  have : k = 0 ∨ k = 1 ∨ k = 2 ∨ k = 3 ∨ k = 4 ∨ k = 5 := by omega
  rcases this with rfl | rfl | rfl | rfl | rfl | rfl <;> decide
theorem ise_pn {t q y : Nat} {pq : Option Nat} {u : Nat} {isw : Nat → Int32} {m m' : xMem} (h : LK t q y pq u isw m m') : x_if (pnC pq = (-1)) nISE = x_if (pvC pq = 0) nISE := by
  cases pq with
  | none => rw [x_if_t (show pnC none = (-1) from rfl), x_if_t (show pvC none = 0 from rfl)]
  | some k => rw [x_if_f (show ¬ pnC (some k) = (-1) from nI_ne1 (h.p5 k rfl)), x_if_f (show ¬ pvC (some k) = 0 by show ¬ nI 1 = (0 : Int32); decide)]
theorem nI_inj5 {a b : Nat} (ha : a ≤ 5) (hb : b ≤ 5) (h : nI a = nI b) : a = b := by
  have e : (nI a).toNatClampNeg = (nI b).toNatClampNeg := by rw [h]
  rw [nI_clamp (by omega), nI_clamp (by omega)] at e
  exact e
theorem LK.grew {t q y n b0 a b ca cb : Nat} {pq : Option Nat} {u : Nat} {isw : Nat → Int32} {m m' : xMem} (h : LK t q y pq u isw m m') (ha : a < y) (hb : b < y) (hca : m 1 a = nI ca) (hcb : m 1 b = nI cb) (hca2 : ca ≤ q) (hcb2 : cb ≤ q) :
    (p_iso 7 (32 * a) (m_tree 0 ca (b0, m')).2 = 0 → p_grewR a b (n, m) = nI 0 ∧ LK t q y pq u isw (p_grewW a b (n, m)).2 (m_tree 0 ca (b0, m')).2) ∧
    (¬ p_iso 7 (32 * a) (m_tree 0 ca (b0, m')).2 = 0 → p_grewR a b (n, m) = p_iso 7 (32 * b) (m_tree 0 cb (m_tree 0 ca (b0, m'))).2 ∧ LK t q y pq u isw (p_grewW a b (n, m)).2 (m_tree 0 cb (m_tree 0 ca (b0, m'))).2) := by
  have hq := h.q24
  have e1 : tn ((n, m).2 1 a) = ca := by
    show tn (m 1 a) = ca
    rw [hca, tn_nI (by omega)]
  have e2 : tn ((n, m).2 1 b) = cb := by
    show tn (m 1 b) = cb
    rw [hcb, tn_nI (by omega)]
  have s1 := h.still (n := n) (b := b0) ha hca2
  have h2 := h.treed (n := n) (b := b0) ca
  rcases e3 : p_tree ca 2 (n, m) with ⟨n1, m1⟩
  rcases e4 : m_tree 0 ca (b0, m') with ⟨b1, m1'⟩
  rw [e3, e4] at h2
  rw [e4] at s1
  have h2 : LK t q y pq u isw m1 m1' := h2
  have s2 := h2.still (n := n1) (b := b1) hb hcb2
  have h3 := h2.treed (n := n1) (b := b1) cb
  unfold p_grewR p_grewW
  rw [e1, e2, e3]
  refine ⟨fun c => ?_, fun c => ?_⟩
  · rw [s1, if_pos c, if_pos c]
    exact ⟨rfl, h2⟩
  · rw [s1, if_neg c, if_neg c]
    refine ⟨?_, h3⟩
    rw [s2]
    rcases p_iso_is 7 (32 * b) (m_tree 0 cb (b1, m1')).2 with ⟨x, _⟩ | ⟨x, _⟩
    · rw [x, if_neg (by decide)]
    · rw [x, if_pos (show nI 0 = (0 : Int32) from rfl)]
theorem LK.check1 {t q y n lf d : Nat} {x k0 pn : Int32} {pq : Option Nat} {u : Nat} {isw : Nat → Int32} {m m' : xMem} (h : LK t q y pq u isw m m') (hne : ¬ k0 = m 1 d) : p_checkR lf d x k0 pn (n, m) = nI 1 ∧ LK t q y pq u isw (p_checkW lf d x k0 pn (n, m)).2 m' := by
  unfold p_checkR p_checkW
  rw [if_neg (show ¬ k0 = (n, m).2 1 d from hne), if_neg (show ¬ k0 = (n, m).2 1 d from hne)]
  exact ⟨rfl, h⟩
theorem LK.check2 {t q y n lf d x0 c pk : Nat} {u : Nat} {isw oR : Nat → Int32} {m m' : xMem} (h : LK t q y (some pk) u isw m m') (hm : m 1 d = nI c) (hc : c ≤ 24) (hx : x0 < c) (hne : ¬ (glist x0 c).length = pk) : p_checkR lf d (nI x0) (nI c) (nI pk) (n, m) = nI 2 ∧ LK t q y (some pk) u isw (p_checkW lf d (nI x0) (nI c) (nI pk) (n, m)).2 (gW (glist x0 c) 0 (oR, m')).2 := by
  obtain ⟨a1, a2, a3, a4⟩ := pT_len c (by omega) x0 hx
  have hk := h.p5 pk rfl
  have e : ¬ nI pk = nI (p_due c 0 x0 c) := fun H => by
    rw [a4] at H
    exact hne (nI_inj5 (by omega) hk H.symm)
  unfold p_checkR p_checkW
  rw [tn_nI (show c < 2 ^ 31 by omega), tn_nI (show x0 < 2 ^ 31 by omega), if_pos (show nI c = (n, m).2 1 d from hm.symm), if_pos (show nI c = (n, m).2 1 d from hm.symm), if_neg e, if_neg e]
  refine ⟨rfl, h.kept2 (fun k _ _ _ _ _ _ h11 h12 => gW_k h11 h12 _ _ _)⟩
theorem LK.check3 {t q y n b lf d x0 c pk : Nat} {u : Nat} {isw oR : Nat → Int32} {m m' : xMem} (h : LK t q y (some pk) u isw m m') (hm : m 1 d = nI c) (hc : c ≤ 24) (hx : x0 < c) (hlf : lf < q) (hd : d < y) (he : (glist x0 c).length = pk) :
    p_checkR lf d (nI x0) (nI c) (nI pk) (n, m) = (if p_iso 7 (32 * d) (ckE (glist x0 c) lf (b, (gW (glist x0 c) 0 (oR, m')).2)).2 = 0 then nI 3 else nI 0) ∧ LK t q y (some pk) u isw (p_checkW lf d (nI x0) (nI c) (nI pk) (n, m)).2 (ckE (glist x0 c) lf (b, (gW (glist x0 c) 0 (oR, m')).2)).2 := by
  obtain ⟨a1, a2, a3, a4⟩ := pT_len c (by omega) x0 hx
  have e : nI pk = nI (p_due c 0 x0 c) := by rw [a4, he]
  unfold p_checkR p_checkW
  rw [tn_nI (show c < 2 ^ 31 by omega), tn_nI (show x0 < 2 ^ 31 by omega), if_pos (show nI c = (n, m).2 1 d from hm.symm), if_pos (show nI c = (n, m).2 1 d from hm.symm), if_pos e, if_pos e]
  exact ⟨h.check (n := n) (b := b) (oR := oR) (by rw [he]) hlf hd hx hc, h.climbed⟩
theorem mask_byte {x : Int32} (h : x_mask x = none) : byte x := by
  unfold x_mask at h
  by_cases c : x < nI 1 ∨ ¬ x ≤ nI 255
  · rw [if_pos c] at h; cases h
  · have h1 : ¬ x < 0 := fun h1 => c (Or.inl (Int32.lt_trans h1 (by decide)))
    obtain ⟨j, hj, rfl⟩ := nI_of h1
    refine ⟨j, ?_, rfl⟩
    rcases Nat.lt_or_ge j 256 with h2 | h2
    · exact h2
    · have h3 : nI 255 < nI j := nI_lt (by omega) hj
      exact absurd (Int32.not_le.mpr h3) (fun H => c (Or.inr H))
theorem va_P_as {D : va_G} {cl : List vw_C} {a b c : va_W} {H : Heap} (h : va_P D cl ((a ++ b) ++ c) H) : va_P D cl (a ++ (b ++ c)) H := by
  rw [← List.append_assoc]; exact h
theorem va_P_sa {D : va_G} {cl : List vw_C} {a b c : va_W} {H : Heap} (h : va_P D cl (a ++ (b ++ c)) H) : va_P D cl ((a ++ b) ++ c) H := by
  rw [List.append_assoc]; exact h
theorem va_D_as {A : Nat → Prop} {a b c : va_W} (h : va_D A ((a ++ b) ++ c)) : va_D A (a ++ (b ++ c)) := by
  rw [← List.append_assoc]; exact h
theorem va_D_sa {A : Nat → Prop} {a b c : va_W} (h : va_D A (a ++ (b ++ c))) : va_D A ((a ++ b) ++ c) := by
  rw [List.append_assoc]; exact h
def lgX (a b : Int32) : Int64 := (a.toInt64 <<< ((nI 32).toInt64 &&& 63)) ||| (b.toInt64 &&& lN 4294967295)
theorem updL_0 (f : Nat → Int64) (x : Int64) : vp_updL f 0 x (nI 0).toNatClampNeg = x := rfl
