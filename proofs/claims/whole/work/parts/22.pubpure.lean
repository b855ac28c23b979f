/-! PURE FUNCTIONS OF THE PUBLIC METHODS: what they throw, what they answer, the world behind them -/
abbrev nIOB : String := "java/lang/IndexOutOfBoundsException"
abbrev nIAE : String := "java/lang/IllegalArgumentException"
abbrev nUOE : String := "java/lang/UnsupportedOperationException"
abbrev nISE : String := "java/lang/IllegalStateException"
abbrev tn (v : Int32) : Nat := v.toNatClampNeg
def x_req (v n : Int32) : Option String := if v < 0 ∨ ¬ v < n then some nIOB else none
def x_mask (v : Int32) : Option String := if v < nI 1 ∨ ¬ v ≤ nI 255 then some nIAE else none
theorem x_req_none {v : Int32} {q : Nat} (hq : q < 2 ^ 31) (h : x_req v (nI q) = none) : ∃ i : Nat, i < q ∧ v = nI i := by
  unfold x_req at h
  by_cases hc : v < 0 ∨ ¬ v < nI q
  · rw [if_pos hc] at h; cases h
  · obtain ⟨j, hj, rfl⟩ := nI_of (fun h => hc (Or.inl h))
    refine ⟨j, ?_, rfl⟩
    rcases Nat.lt_or_ge j q with h1 | h1
    · exact h1
    · exact absurd (Or.inr (nI_nlt h1 hj)) hc
/-- what feed throws -/
def x_feed (tl v : Int32) : Option String := if v < nI 1 ∨ ¬ v ≤ nI 8 then some nIAE else if tl + v ≤ nI 200 then none else some nUOE
theorem x_feed_none {t : Nat} {v : Int32} (ht : t ≤ 200) (h : x_feed (nI t) v = none) : ∃ q : Nat, 1 ≤ q ∧ q ≤ 8 ∧ t + q ≤ 200 ∧ v = nI q := by
  unfold x_feed at h
  by_cases hc : v < nI 1 ∨ ¬ v ≤ nI 8
  · rw [if_pos hc] at h; cases h
  · rw [if_neg hc] at h
    by_cases hd : nI t + v ≤ nI 200
    · have h0 : ¬ v < 0 := by
        intro h1
        exact hc (Or.inl (Int32.lt_of_lt_of_le h1 (nI_pos' (by decide))))
      obtain ⟨q, hq, rfl⟩ := nI_of h0
      have h8 : q ≤ 8 := by
        rcases Nat.lt_or_ge 8 q with h1 | h1
        · exact absurd (Or.inr (nI_ge h1 hq)) hc
        · exact h1
      have h1 : 1 ≤ q := by
        rcases Nat.lt_or_ge q 1 with h1 | h1
        · exact absurd (Or.inl (nI_lt h1 (by decide))) hc
        · exact h1
      rw [nI_add] at hd
      exact ⟨q, h1, h8, (nI_leI (by omega) (by decide)).mp hd, rfl⟩
    · rw [if_neg hd] at h; cases h
def fdB (b : Int64) (q i : Nat) : Int32 := (lush b (nI 8 * nI (q - 1 - i))).toInt32 &&& nI 255
def p_feed (b : Int64) (t q i : Nat) (mem : xMem) : xMem := itr (fun j m => va_up m 0 (upd (m 0) (t + j) (fdB b q j))) i mem
theorem p_feed_s (b : Int64) (t q i : Nat) (mem : xMem) : p_feed b t q (i + 1) mem = va_up (p_feed b t q i mem) 0 (upd (p_feed b t q i mem 0) (t + i) (fdB b q i)) := rfl
noncomputable def p_leaf (q t : Nat) (z : Nat × xMem) : Nat × xMem := P_fin (6 + q) (P_first 0 t (P_take (nI 0) (0, z.2)))
theorem p_leaf_e (q t : Nat) (z : Nat × xMem) : p_leaf q t z = P_fin (6 + q) (P_first 0 t (P_take (nI 0) (0, z.2))) := rfl
def p_bend (k i : Nat) (x : Int32) (mem : xMem) : xMem := va_up mem k (upd (mem k) i (mem k i ^^^ x))
noncomputable def p_close (q y : Nat) (z : Nat × xMem) : Nat × xMem := ((p_tree q (30 + y) z).1, va_up (p_tree q (30 + y) z).2 1 (upd ((p_tree q (30 + y) z).2 1) y (nI q)))
noncomputable def p_mark (lf : Nat) (k1 k2 : Int64) (mem : xMem) : Nat × xMem := p_keyed k2 2 2 (p_keyed k1 (6 + lf) 2 mem).2
/-- check, behind its guards: leaf, day, the number told, the count told -/
noncomputable def p_checkW (lf d : Nat) (x q pn : Int32) (z : Nat × xMem) : Nat × xMem :=
  if q = z.2 1 d then (if pn = nI (p_due (tn q) 0 (tn x) (tn q)) then p_climb (6 + lf) (tn x) (tn q) z else z) else z
noncomputable def p_checkR (lf d : Nat) (x q pn : Int32) (z : Nat × xMem) : Int32 :=
  if q = z.2 1 d then (if pn = nI (p_due (tn q) 0 (tn x) (tn q)) then (if p_cmp ((p_climb (6 + lf) (tn x) (tn q) z).2 2) ((p_climb (6 + lf) (tn x) (tn q) z).2 (30 + d)) = 0 then nI 0 else nI 3) else nI 2) else nI 1
noncomputable def p_grewW (a b : Nat) (z : Nat × xMem) : Nat × xMem :=
  if p_still (tn (z.2 1 a)) a z = 0 then p_tree (tn (z.2 1 a)) 2 z else p_tree (tn (z.2 1 b)) 2 (p_tree (tn (z.2 1 a)) 2 z)
noncomputable def p_grewR (a b : Nat) (z : Nat × xMem) : Int32 :=
  if p_still (tn (z.2 1 a)) a z = 0 then nI 0 else if p_still (tn (z.2 1 b)) b (p_tree (tn (z.2 1 a)) 2 z) = 0 then nI 0 else nI 1
def x_if (c : Prop) [Decidable c] (nm : String) : Option String := if c then some nm else none
theorem x_if_t {c : Prop} [Decidable c] {nm : String} (h : c) : x_if c nm = some nm := if_pos h
theorem x_if_f {c : Prop} [Decidable c] {nm : String} (h : ¬ c) : x_if c nm = none := if_neg h
theorem x_or1 {a b : Option String} {nm : String} (h : a = some nm) : a.or b = some nm := by rw [h]; rfl
theorem x_or2 {a b : Option String} {r : Option String} (h : a = none) (h2 : b = r) : a.or b = r := by rw [h, h2]; rfl
section MZ
variable {p : Program} {l : Launch} {e : Env} {R : Room} {s : State} {m : MethodId} {args : Array Value} {below : List Frame} {meth : Method} {c : Code} {H H0 : Heap} {locs : List Loc} {cells slots : Nat} {Q : State → Prop}
variable {cc : ByteArray} {pc : Nat} {ls : Array Slot} {rest : List Value} {D : va_G} {cl : List vw_C} {A : Nat → Prop} {tys : List (ClassId × FieldType)} {ws : va_W}
/-- bastore into a boolean array -/
theorem m_zst (hexec : p.tables.exec = Jvm.exec) (hb : c.code = cc) (hK : va_K D cl tys s) (hP : va_P D cl ws H) (hD : va_D A ws) (hS : va_S A H0 H locs) (q0 t0 j : Nat) {a : Nat} {cZ : ClassId} {N : Nat} {f : Nat → Int32} {x v : Int32} (ha : ws[q0]? = some (a, .inl (cZ, N, .inl f))) (ht : tys[t0]? = some (cZ, .boolean)) (hj : j < N) (hN : N < 2 ^ 31) (hv : vp_nar .boolean x = v) (hdg : decode cc pc = .ok (.bastore, 1))
    (kk : ∀ (H1 : Heap) (locs1 : List Loc), va_P D cl (ws.set q0 (a, .inl (cZ, N, .inl (upd f j v)))) H1 → va_D A (ws.set q0 (a, .inl (cZ, N, .inl (upd f j v)))) → va_S A H0 H1 locs1 → W p l e R s m args below meth c H1 locs1 cells slots Q (F0 m (pc + 1) ls rest)) : W p l e R s m args below meth c H locs cells slots Q (F0 m pc ls (.int x :: .int (nI j) :: .ref a :: rest)) := by
  refine va_zast hexec hb hK hP hD hS q0 t0 ha ht (vp_in_nI hj hN) hdg (fun H1 locs1 hP1 hD1 hS1 => ?_)
  rw [nI_clamp (Nat.lt_trans hj hN), hv] at hP1 hD1
  exact kk H1 locs1 hP1 hD1 hS1
end MZ
