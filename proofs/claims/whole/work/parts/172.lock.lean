/-! SHA-256'S STEPS UNDER LOCK: the same functions, which unfolding leaves alone; and their contracts -/
theorem lk_ex {α : Type} (a : α) : ∃ b : α, b = a := ⟨a, rfl⟩
noncomputable def lk {α : Type} (a : α) : α := Classical.choose (lk_ex a)
theorem lk_eq {α : Type} (a : α) : lk a = a := Classical.choose_spec (lk_ex a)
noncomputable def P_take : Int32 → Nat × xMem → Nat × xMem := lk p_take
theorem P_take_e : P_take = p_take := lk_eq _
noncomputable def P_first : Nat → Nat → Nat × xMem → Nat × xMem := lk p_takeFirst
theorem P_first_e : P_first = p_takeFirst := lk_eq _
noncomputable def P_long : Int64 → Nat × xMem → Nat × xMem := lk p_takeLong
theorem P_long_e : P_long = p_takeLong := lk_eq _
noncomputable def P_fin : Nat → Nat × xMem → Nat × xMem := lk p_finish
theorem P_fin_e : P_fin = p_finish := lk_eq _
theorem P_take_fst (x : Int32) (z : Nat × xMem) (h : z.1 < 256) : (P_take x z).1 = z.1 + 1 := by rw [P_take_e]; exact p_take_fst x z h
theorem P_first_fst (kk q : Nat) (z : Nat × xMem) (h : z.1 + q ≤ 256) : (P_first kk q z).1 = z.1 + q := by rw [P_first_e]; exact p_takeFirst_fst kk q z h
theorem P_long_fst (v : Int64) (z : Nat × xMem) (h : z.1 + 8 ≤ 256) : (P_long v z).1 = z.1 + 8 := by
  rw [P_long_e]
  unfold p_takeLong
  exact p_takeLongN_fst v 8 z h
section LCK
variable {l : Launch} {D : va_G} {o ad : Nat → Nat} {cI cZ cG : ClassId} {tl lc wc dc pn : Int32} {isw : Nat → Int32}
theorem C_take (n : Nat) (hn : n ≤ 256) (mem : xMem) (x : Int32) : MV l gE yX0_take (.code yX0_take cX0_take 2 none :: tW) ({ frames := 0, cells := 0, slots := 0, locals := 0 }) D vwCl (tC cI cZ cG) [.ref (o 1), .int x] (wC o ad cI cZ cG tl lc wc dc pn (nI n) isw mem) (wC o ad cI cZ cG tl lc wc dc pn (nI (P_take x (n, mem)).1) isw (P_take x (n, mem)).2) := by
  rw [P_take_e]
  exact c_take n hn mem x
theorem C_takeFirst (n q kk : Nat) (hn : n ≤ 256) (hq : q ≤ lenC kk) (hkk : kk < 71) (mem : xMem) : MV l gE yX0_takeFirst (.code yX0_takeFirst cX0_takeFirst 4 none :: tW) ({ frames := 1, cells := 0, slots := 0, locals := 21 }) D vwCl (tC cI cZ cG) [.ref (o 1), .ref (ad kk), .int (nI q)] (wC o ad cI cZ cG tl lc wc dc pn (nI n) isw mem) (wC o ad cI cZ cG tl lc wc dc pn (nI (P_first kk q (n, mem)).1) isw (P_first kk q (n, mem)).2) := by
  rw [P_first_e]
  exact c_takeFirst n q kk hn hq hkk mem
theorem C_takeLong (n : Nat) (hn : n ≤ 256) (mem : xMem) (v : Int64) : MV l gE yX0_takeLong (.code yX0_takeLong cX0_takeLong 4 none :: tW) ({ frames := 1, cells := 0, slots := 0, locals := 21 }) D vwCl (tC cI cZ cG) [.ref (o 1), .long v] (wC o ad cI cZ cG tl lc wc dc pn (nI n) isw mem) (wC o ad cI cZ cG tl lc wc dc pn (nI (P_long v (n, mem)).1) isw (P_long v (n, mem)).2) := by
  rw [P_long_e]
  exact c_takeLong n hn mem v
theorem C_finishInto (n kk : Nat) (hn : n ≤ 247) (hkk : kk < 71) (hk3 : lenC kk = 32) (mem : xMem) : MV l gE yX0_finishInto (.code yX0_finishInto cX0_finishInto 6 none :: tW) ({ frames := 2, cells := 0, slots := 0, locals := 96 }) D vwCl (tC cI cZ cG) [.ref (o 1), .ref (ad kk)] (wC o ad cI cZ cG tl lc wc dc pn (nI n) isw mem) (wC o ad cI cZ cG tl lc wc dc pn (nI (P_fin kk (n, mem)).1) isw (P_fin kk (n, mem)).2) := by
  rw [P_fin_e]
  exact c_finishInto n kk hn hkk hk3 mem
end LCK
