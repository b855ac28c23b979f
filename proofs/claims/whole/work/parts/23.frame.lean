/-! WHAT THE PURE FUNCTIONS LEAVE ALONE: array k keeps what it holds -/
theorem itr_keep {f : Nat → xMem → xMem} {k : Nat} (h : ∀ i m, f i m k = m k) : ∀ n m, itr f n m k = m k
  | 0, _ => rfl
  | n + 1, m => by rw [itr_s, h, itr_keep h n m]
theorem itr_keep2 {f : Nat → Nat × xMem → Nat × xMem} {k : Nat} (h : ∀ i z, (f i z).2 k = z.2 k) : ∀ n z, (itr f n z).2 k = z.2 k
  | 0, _ => rfl
  | n + 1, z => by rw [itr_s, h, itr_keep2 h n z]
theorem p_take_k {k : Nat} (h : k ≠ 3) (x : Int32) (z : Nat × xMem) : (p_take x z).2 k = z.2 k := by
  unfold p_take
  split
  · exact va_up_ne _ _ h
  · rfl
theorem P_take_k {k : Nat} (h : k ≠ 3) (x : Int32) (z : Nat × xMem) : (P_take x z).2 k = z.2 k := by rw [P_take_e]; exact p_take_k h x z
theorem P_first_k {k : Nat} (h : k ≠ 3) (kk q : Nat) (z : Nat × xMem) : (P_first kk q z).2 k = z.2 k := by
  rw [P_first_e]
  exact itr_keep2 (fun i z => p_take_k h _ z) q z
theorem p_long_k {k : Nat} (h : k ≠ 3) (v : Int64) (q : Nat) (z : Nat × xMem) : (p_takeLongN v q z).2 k = z.2 k := itr_keep2 (fun i z => p_take_k h _ z) q z
theorem P_long_k {k : Nat} (h : k ≠ 3) (v : Int64) (z : Nat × xMem) : (P_long v z).2 k = z.2 k := by
  rw [P_long_e]
  unfold p_takeLong
  exact p_long_k h v 8 z
theorem p_spread_k {k : Nat} (h : k ≠ 4) (f : Nat) (m : xMem) : p_spread f m k = m k := by
  unfold p_spread
  rw [itr_keep (f := p_w2) (fun i m => va_up_ne _ _ h), itr_keep (f := p_w1 f) (fun i m => va_up_ne _ _ h)]
theorem p_add_k {k : Nat} (h : k ≠ 5) (j : Nat) (x : Int32) (m : xMem) : p_add j x m k = m k := va_up_ne _ _ h
theorem p_stir_k {k : Nat} (h : k ≠ 5) (m : xMem) : p_stir m k = m k := by
  unfold p_stir
  rw [p_add_k h, p_add_k h, p_add_k h, p_add_k h, p_add_k h, p_add_k h, p_add_k h, p_add_k h]
theorem pfC_k {k : Nat} (h : k ≠ 3) (z : Nat × xMem) : (pfC z).2 k = z.2 k := by
  obtain ⟨n, m⟩ := z
  rw [pfC_e]
  unfold p_takeLong
  rw [p_long_k h, pfB_e, itr_keep2 (fun i z => p_take_k h _ z), pfA_e, p_take_k h]
theorem pfD_k {k : Nat} (h : k ≠ 3) (h5 : k ≠ 5) (z : Nat × xMem) : pfD z k = z.2 k := by rw [pfD_e, va_up_ne _ _ h5, pfC_k h]
theorem pfE_k {k : Nat} (h : k ≠ 3) (h4 : k ≠ 4) (h5 : k ≠ 5) (z : Nat × xMem) : ∀ b, pfE z b k = z.2 k
  | 0 => by rw [pfE_0, pfD_k h h5]
  | b + 1 => by rw [pfE_s, p_stir_k h5, p_spread_k h4, pfE_k h h4 h5 z b]
theorem pfF_k {k kk : Nat} (h : k ≠ 3) (h4 : k ≠ 4) (h5 : k ≠ 5) (hk : k ≠ kk) (z : Nat × xMem) : ∀ i, pfF kk z i k = z.2 k
  | 0 => by rw [pfF_0, pfE_k h h4 h5]
  | i + 1 => by rw [pfF_s, va_up_ne _ _ hk, pfF_k h h4 h5 hk z i]
theorem P_fin_k {k kk : Nat} (h : k ≠ 3) (h4 : k ≠ 4) (h5 : k ≠ 5) (hk : k ≠ kk) (z : Nat × xMem) : (P_fin kk z).2 k = z.2 k := by rw [P_fin_e, p_finish_2, pfF_k h h4 h5 hk]
theorem p_copy_k {k t : Nat} (h : k ≠ t) (k0 : Nat) (m : xMem) : p_copy k0 t m k = m k := va_up_ne _ _ h
theorem p_node_k {k t : Nat} (h : k ≠ 3) (h4 : k ≠ 4) (h5 : k ≠ 5) (hk : k ≠ t) (a b : Nat) (m : xMem) : (p_node a b t m).2 k = m k := by
  rw [p_node_e, P_fin_k h h4 h5 hk, P_first_k h, P_first_k h, P_take_k h]
theorem p_keyed_k {k t : Nat} (h : k ≠ 3) (h4 : k ≠ 4) (h5 : k ≠ 5) (hk : k ≠ t) (key : Int64) (d : Nat) (m : xMem) : (p_keyed key d t m).2 k = m k := by
  rw [p_keyed_e, P_fin_k h h4 h5 hk, P_first_k h, P_long_k h]
theorem p_lay_k {k : Nat} (h : k < 47) (n : Nat) (m : xMem) : p_lay n m k = m k := itr_keep (fun i m => p_copy_k (by omega) _ m) n m
theorem p_fold_k {k : Nat} (h : k ≠ 3) (h4 : k ≠ 4) (h5 : k ≠ 5) (hk : k < 47) (w : Nat) (z : Nat × xMem) : (p_fold w z).2 k = z.2 k := by
  have e : ∀ n, (itr (fun j z => p_node (47 + 2 * j) (47 + (2 * j + 1)) (47 + j) z.2) n z).2 k = z.2 k := fun n => itr_keep2 (f := fun j z => p_node (47 + 2 * j) (47 + (2 * j + 1)) (47 + j) z.2) (fun i z => p_node_k h h4 h5 (by omega) _ _ _) n z
  unfold p_fold
  split
  · exact (p_copy_k (by omega) _ _).trans (e _)
  · exact e _
theorem p_up_k {k : Nat} (h : k ≠ 3) (h4 : k ≠ 4) (h5 : k ≠ 5) (hk : k < 47) : ∀ (f w : Nat) (z : Nat × xMem), (p_up f w z).2 k = z.2 k
  | 0, _, _ => rfl
  | f + 1, w, z => by
    unfold p_up
    split
    · rfl
    · rw [p_up_k h h4 h5 hk f, p_fold_k h h4 h5 hk]
theorem p_tree_k {k t : Nat} (h : k ≠ 3) (h4 : k ≠ 4) (h5 : k ≠ 5) (hk : k < 47) (ht : k ≠ t) (n : Nat) (z : Nat × xMem) : (p_tree n t z).2 k = z.2 k := by
  unfold p_tree
  split
  · exact P_fin_k h h4 h5 ht _
  · exact (p_copy_k ht _ _).trans ((p_up_k h h4 h5 hk _ _ _).trans (p_lay_k hk _ _))
theorem p_pathA_k {k : Nat} (h : k ≠ 3) (h4 : k ≠ 4) (h5 : k ≠ 5) (hk : k < 42) : ∀ (f a w : Nat) (z : Nat × Nat × xMem), (p_pathA f a w z).2.2 k = z.2.2 k
  | 0, _, _, _ => rfl
  | f + 1, a, w, z => by
    unfold p_pathA
    split
    · rfl
    · rw [p_pathA_k h h4 h5 hk f]
      split
      · exact (p_fold_k h h4 h5 (by omega) _ _).trans (p_copy_k (by omega) _ _)
      · exact p_fold_k h h4 h5 (by omega) _ _
theorem p_path_k {k : Nat} (h : k ≠ 3) (h4 : k ≠ 4) (h5 : k ≠ 5) (hk : k < 42) (a n : Nat) (z : Nat × xMem) : (p_path a n z).2.2 k = z.2 k := by
  unfold p_path
  rw [p_pathA_k h h4 h5 hk]
  exact p_lay_k (by omega) _ _
theorem p_climbA_k {k : Nat} (h2 : k ≠ 2) (h : k ≠ 3) (h4 : k ≠ 4) (h5 : k ≠ 5) : ∀ (f a k1 w : Nat) (z : Nat × xMem), (p_climbA f a k1 w z).2 k = z.2 k
  | 0, _, _, _, _ => rfl
  | f + 1, a, k1, w, z => by
    unfold p_climbA
    split
    · rfl
    · split
      · rw [p_climbA_k h2 h h4 h5 f]
        split
        · exact p_node_k h h4 h5 h2 _ _ _
        · exact p_node_k h h4 h5 h2 _ _ _
      · rw [p_climbA_k h2 h h4 h5 f]
theorem p_climb_k {k : Nat} (h2 : k ≠ 2) (h : k ≠ 3) (h4 : k ≠ 4) (h5 : k ≠ 5) (d a w : Nat) (z : Nat × xMem) : (p_climb d a w z).2 k = z.2 k := by
  unfold p_climb
  rw [p_climbA_k h2 h h4 h5]
  exact p_copy_k h2 _ _
