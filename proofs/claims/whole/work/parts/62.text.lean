/-! the reference's gap, its room, the telling's steps -/
theorem rcm {S : Nat → Int32} (w : wf S) : nI (rcN S) - 1 ≤ 999 := by
  have h := wf_r6 w
  rw [Int32.le_iff_toInt_le]
  rw [show nI (rcN S) - 1 = nI (rcN S) - nI 1 from rfl, Int32.toInt_sub, nI_toInt (by omega), nI_toInt (by decide), Int.bmod_eq_of_le (by omega) (by omega)]
  have e : (999 : Int32).toInt = 999 := by decide
  rw [e]; omega
theorem ph_f {T : Nat → Int32} {n i : Nat} {m : Int32} {r : Bool × Nat} (h : (phR T n i m r).1 = false) : r.1 = false := by
  by_cases q : r.1 = true
  · rw [phR_t T n i m q, q] at h; exact absurd h (by decide)
  · simpa using q
theorem ot_f {T : Nat → Int32} {n v : Nat} {m : Int32} {r : Bool × Nat} (h : (otR T n m v r).1 = false) : r.1 = false := by
  by_cases q : r.1 = true
  · rw [otR_t T n m v q, q] at h; exact absurd h (by decide)
  · simpa using q
theorem g_all {T : Nat → Int32} {n : Nat} {S : Nat → Int32} {s : Nat} (h : (g7 T n S s).1 = false) : (g6 T n S s).1 = false ∧ (g5 T n S s).1 = false ∧ (g4 T n S s).1 = false ∧ (g3 T n S s).1 = false ∧ (g2 T n S s).1 = false ∧ gcN S < 20 := by
  have h6 : (g6 T n S s).1 = false := ph_f h
  have h5 : (g5 T n S s).1 = false := ph_f h6
  have h4 : (g4 T n S s).1 = false := ph_f h5
  have h3 : (g3 T n S s).1 = false := (nm_ok h4).1
  have h2 : (g2 T n S s).1 = false := ot_f h3
  have h1 : (g1 T n S s).1 = false := (nm_ok h2).1
  have hg : decide (gcN S < 20) = true := (nd_ok h1).2.1
  exact ⟨h6, h5, h4, h3, h2, of_decide_eq_true hg⟩
theorem g_room {T : Nat → Int32} {n : Nat} {S : Nat → Int32} {s : Nat} (w : wf S) (h : (g2 T n S s).1 = false) : numV T n (g1 T n S s).2 ≤ 999 := by
  have r6 := wf_r6 w
  have := ok_lt r6 (nm_ok h).2
  omega
theorem upd_r0 {S : Nat → Int32} (w : wf S) : upd S 0 (nI (rcN S + 0)) = S := by
  rw [Nat.add_zero, ← wf_r w, upd_back]
theorem im_0 {T : Nat → Int32} {n : Nat} {S : Nat → Int32} {s : Nat} : imR T n S (false, s) = itR T n S s ∧ imS T n S (false, s) = itT T n S s := im_f rfl
theorem im_w {T : Nat → Int32} {n : Nat} {S : Nat → Int32} {s : Nat} : imR T n S (true, s) = (true, s) ∧ imS T n S (true, s) = S := im_t rfl
/-- one round of the reference's walk over the tape -/
theorem tl_go {T : Nat → Int32} {n f i : Nat} {r : Bool × Nat} {X : Nat → Int32} (h0 : ¬ r.1 = true) (h1 : ¬ n ≤ r.2) (hf : 1 ≤ f) :
    tlF T n (f + 1) i r.1 r.2 X = tlF T n f (i + 1) (imR T n X (ndR T n (decide (bt T n r.2 = 44)) r)).1 (imR T n X (ndR T n (decide (bt T n r.2 = 44)) r)).2 (imS T n X (ndR T n (decide (bt T n r.2 = 44)) r)) := by
  have e0 : r.1 = false := by simpa using h0
  rw [e0]
  by_cases q : bt T n r.2 = 44
  · rw [tlF_n h1 q, decide_eq_true q, ndR_y h0 rfl, im_0.1, im_0.2]
  · obtain ⟨f9, rfl⟩ : ∃ f9, f = f9 + 1 := ⟨f - 1, by omega⟩
    rw [tlF_c h1 q, decide_eq_false q, ndR_n (by decide), im_w.1, im_w.2, tlF_q]
theorem tl_pos {T : Nat → Int32} {n : Nat} {r : Bool × Nat} {X : Nat → Int32} (h0 : ¬ r.1 = true) (h1 : r.2 < n) : (imR T n X (ndR T n (decide (bt T n r.2 = 44)) r)).1 = true ∨ r.2 < (imR T n X (ndR T n (decide (bt T n r.2 = 44)) r)).2 := by
  by_cases q : bt T n r.2 = 44
  · have a := nxt_lt (T := T) h1
    have b := nxt_b (T := T) (show r.2 ≤ n by omega)
    rw [decide_eq_true q, ndR_y h0 rfl, im_0.1]
    have c := itR_b (T := T) (X := X) b.2
    exact Or.inr (Nat.lt_of_lt_of_le a c.1)
  · rw [decide_eq_false q, ndR_n (by decide), im_w.1]; exact Or.inl rfl
