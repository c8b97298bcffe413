/-! what the ways of an ITEM end with -/
theorem can_ms {T : Nat → Int32} {n : Nat} {X : Nat → Int32} (w : wf X) (h : gcN X < 20) (k r t : Int32) (s : Nat) : can (if (msR T n (false, s)).1 = false then msS T n (addG X (gcN X) k r t) (gcN X) s else addG X (gcN X) k r t) := by
  by_cases q : (msR T n (false, s)).1 = false
  · rw [if_pos q]; exact can_msS (can_addG (wf_can w) h _ _ _) h
  · rw [if_neg q]; exact can_addG (wf_can w) h _ _ _
theorem can_rmS {X : Nat → Int32} (w : can X) : can (rmS X) := by
  unfold rmS
  by_cases q : rcN X < 6
  · rw [if_pos q]; exact can_upd w (by omega) (Or.inl (by omega))
  · rw [if_neg q]; exact w
theorem can_ntS {T : Nat → Int32} {n : Nat} {X : Nat → Int32} (w : can X) {p s : Nat} (hp : p < 6) : can (ntS T n X p s) := by
  unfold ntS
  by_cases q : okN T n (nxt T n s) (tbM p)
  · rw [if_pos q]; exact can_upd w (by omega) (Or.inl (by omega))
  · rw [if_neg q]; exact w
theorem rmS_ok {T : Nat → Int32} {n : Nat} {X : Nat → Int32} {s : Nat} (h : isW T n s 0 = true) (q : (itR T n X s).1 = false) : rmS X = itS T n X s := by
  rw [(it_room h).1] at q
  rw [(it_room h).2]
  exact if_pos (by simpa using q)
theorem ntS_ok {T : Nat → Int32} {n : Nat} {X : Nat → Int32} {s p : Nat} (h0 : ¬ isW T n s 0 = true) (h1 : knd T n s < 0) (hp : p = 0 ∨ p = 1 ∨ p = 4) (h2 : prt T n s = nI p) (q : (itR T n X s).1 = false) : ntS T n X p s = itS T n X s := by
  rw [(it_night h0 h1 hp h2).1] at q
  rw [(it_night h0 h1 hp h2).2]
  have q2 : (!decide (okN T n (nxt T n s) (tbM p))) = false := q
  exact if_pos (by simpa using q2)
theorem itR_room1 {T : Nat → Int32} {n : Nat} {X : Nat → Int32} {s : Nat} (h : isW T n s 0 = true) : (rcN X < 6) ↔ (itR T n X s).1 = false := by
  rw [(it_room h).1]; show rcN X < 6 ↔ (!decide (rcN X < 6)) = false; simp
theorem itR_night1 {T : Nat → Int32} {n : Nat} {X : Nat → Int32} {s p : Nat} (h0 : ¬ isW T n s 0 = true) (h1 : knd T n s < 0) (hp : p = 0 ∨ p = 1 ∨ p = 4) (h2 : prt T n s = nI p) : okN T n (nxt T n s) (tbM p) ↔ (itR T n X s).1 = false := by
  rw [(it_night h0 h1 hp h2).1]; show _ ↔ (!decide (okN T n (nxt T n s) (tbM p))) = false; simp
theorem tlF_i {T : Nat → Int32} {n : Nat} : ∀ f i q s X, (tlF T n f i q s X).2.2.1 ≤ i + f
  | 0, i, q, s, X => Nat.zero_le _
  | f + 1, i, q, s, X => by
    cases q with
    | true => rw [tlF_q]; exact Nat.zero_le _
    | false =>
      by_cases h : n ≤ s
      · rw [tlF_e h]; exact Nat.le_add_right _ _
      · by_cases h4 : bt T n s = 44
        · rw [tlF_n h h4]; have := tlF_i (T := T) (n := n) f (i + 1) (itR T n X (nxt T n s)).1 (itR T n X (nxt T n s)).2 (itT T n X (nxt T n s)); omega
        · rw [tlF_c h h4]; exact Nat.zero_le _
theorem tlA_i (T : Nat → Int32) (n : Nat) (X : Nat → Int32) : (tlA T n X).2.2.1 ≤ 201 := by
  have := tlF_i (T := T) (n := n) 200 1 (itR T n X (skp T n 0)).1 (itR T n X (skp T n 0)).2 (itT T n X (skp T n 0))
  unfold tlA; omega
theorem itT_s {T : Nat → Int32} {n : Nat} {X : Nat → Int32} {s : Nat} (h : (itR T n X s).1 = false) : itT T n X s = itS T n X s := by
  unfold itT; rw [if_neg (by rw [h]; decide)]
theorem itT_x {T : Nat → Int32} {n : Nat} {X : Nat → Int32} {s : Nat} (h : (itR T n X s).1 = true) : itT T n X s = X := by
  unfold itT; rw [if_pos h]
theorem it_end {T : Nat → Int32} {n : Nat} {X : Nat → Int32} {s : Nat} (h : n ≤ s) : itR T n X s = (true, s) := by
  have hL : ¬ isL (bt T n s) := notL h
  exact it_none (fun z => hL (isW_L (by decide) z)) (by rw [knd_L hL]; decide) (by rw [prt_L hL]; decide)
