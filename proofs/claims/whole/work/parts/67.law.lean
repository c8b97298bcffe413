/-! what each call leaves as it must be: a house, the sheets, the tape -/
theorem op_room {S : Nat → Int32} (w : wf S) : wf (if cRoom S = 7 then upd S 0 (nI (rcN S + 1)) else S) := by
  by_cases h : cRoom S = 7
  · rw [if_pos h]
    have h6 : ¬ S 0 = 6 := fun q => by unfold cRoom at h; rw [if_pos q] at h; exact absurd h (by decide)
    have := wf_r6 w
    exact wf_rm1 w (by have := mt (rc_eq w).mpr h6; omega)
  · rw [if_neg h]; exact w
theorem op_gap {S : Nat → Int32} (w : wf S) (k r t o : Int32) : wf (if cGap S k r t o = 7 then gapS S k r t o else S) := by
  by_cases h : cGap S k r t o = 7
  · rw [if_pos h]
    unfold cGap at h
    by_cases q : (0 ≤ k ∧ k < 6) ∧ (0 ≤ r ∧ r < S 0) ∧ (t = -1 ∨ (0 ≤ t ∧ t < S 0)) ∧ ¬ t = r ∧ (0 ≤ o ∧ o ≤ 999999) ∧ o / 100 - o / 100 / 10 * 10 < 4
    · rw [if_pos q] at h
      obtain ⟨hk, hr, ht, hn, ho, hd⟩ := q
      have h20 : ¬ S 1 = 20 := fun z => by rw [if_pos z] at h; exact absurd h (by decide)
      have g20 := wf_g20 w
      have r6 := wf_r6 w
      have hg : gcN S < 20 := by have := mt (gc_eq w).mpr h20; omega
      obtain ⟨j, hj, rfl⟩ := wf_room w hr
      unfold gapS
      refine (wf_new w hg hk hj ?_ ⟨?_, hd⟩ _ _ _).1
      · rcases ht with z | z
        · exact Or.inl z
        · obtain ⟨z1, z2, z3⟩ := wf_room w z
          exact Or.inr ⟨z1, z3, z2, fun e => hn (by rw [z3, e])⟩
      · obtain ⟨m9, hm9, rfl⟩ := nI_ge0 ho.1
        have e1 : nI m9 / 100 = nI (m9 / 100) := pk_div (d := 100) hm9 (by decide) (by decide)
        have e2 : nI (m9 / 100) / 10 = nI (m9 / 100 / 10) := pk_div (d := 10) (by omega) (by decide) (by decide)
        have e3 : nI (m9 / 100 / 10) * 10 = nI (m9 / 100 / 10 * 10) := pk_mul _ 10
        rw [e1, e2, e3, pk_sub (Nat.div_mul_le_self _ _)]
        exact nI_pos' (by omega)
    · rw [if_neg q] at h; exact absurd h (by decide)
  · rw [if_neg h]; exact w
theorem cG_at {S : Nat → Int32} (w : wf S) {x : Int32} (h : 0 ≤ x ∧ x < S 1) : bstN x < gcN S ∧ bstN x < 20 := by
  have g20 := wf_g20 w
  obtain ⟨j, hj, rfl⟩ := wf_gap w h
  rw [bst_n (by omega)]; omega
theorem op_width {S : Nat → Int32} (w : wf S) (x v : Int32) : wf (if cWidth S x v = 7 then upd S (12 + 8 * bstN x) v else S) := by
  by_cases h : cWidth S x v = 7
  · rw [if_pos h]
    unfold cWidth at h
    by_cases q : (0 ≤ x ∧ x < S 1) ∧ (0 ≤ v ∧ v ≤ 99)
    · exact (wf_wd w (cG_at w q.1).2 v).1
    · rw [if_neg q] at h; exact absurd h (by decide)
  · rw [if_neg h]; exact w
theorem op_shut {S : Nat → Int32} (w : wf S) (x : Int32) {v : Int32} (hv : v = 0 ∨ v = 1) : wf (if cG S x = 7 then upd S (16 + 8 * bstN x) v else S) := by
  by_cases h : cG S x = 7
  · rw [if_pos h]
    unfold cG at h
    by_cases q : 0 ≤ x ∧ x < S 1
    · exact (wf_sh w (cG_at w q).2 hv).1
    · rw [if_neg q] at h; exact absurd h (by decide)
  · rw [if_neg h]; exact w
theorem op_night {S : Nat → Int32} (w : wf S) (x v : Int32) : wf (if cNight x v = 7 then upd S (2 + bstN x) v else S) := by
  by_cases h : cNight x v = 7
  · rw [if_pos h]
    unfold cNight at h
    by_cases q : (0 ≤ x ∧ x ≤ 5) ∧ ((if x = 3 then -99 else 0) ≤ v ∧ v ≤ (if x = 0 then 40 else if x = 2 then 3 else if x = 5 then 100 else 99))
    · obtain ⟨k, hk, rfl⟩ := nI_rn (n := 6) (by decide) (x := x) ⟨q.1.1, Int32.lt_of_le_of_lt q.1.2 (by decide)⟩
      rw [bst_n (by omega)]
      by_cases e : k = 2
      · subst e
        have q2 := q.2
        rw [if_neg (show ¬ nI 2 = 3 by decide), if_neg (show ¬ nI 2 = 0 by decide), if_pos (show nI 2 = 2 by decide)] at q2
        exact (wf_from w ⟨q2.1, Int32.lt_of_le_of_lt q2.2 (by decide)⟩).1
      · exact (wf_nt w (by omega) (by omega) (by omega) v).1
    · rw [if_neg q] at h; exact absurd h (by decide)
  · rw [if_neg h]; exact w
theorem op_stick {S : Nat → Int32} (w : wf S) (x : Int32) : wf (if cG S x = 7 then drw S else S) := by
  by_cases h : cG S x = 7
  · rw [if_pos h]; exact (drw_wf w).1
  · rw [if_neg h]; exact w
theorem op_sticks {S : Nat → Int32} (w : wf S) (c k : Nat) : wf (if c = 7 then drwN S k else S) := by
  by_cases h : c = 7
  · rw [if_pos h]; exact (drwN_wf w k).1
  · rw [if_neg h]; exact w
theorem op_lays {S : Nat → Int32} (w : wf S) (c : Nat) (f : Nat → Int64) (a : Nat) : wf (if c = 7 then lysS f S (minN a (gcN S)) else S) := by
  have g20 := wf_g20 w
  have := minN_l a (gcN S)
  by_cases h : c = 7
  · rw [if_pos h]; exact (lysS_wf w f _ (by omega)).1
  · rw [if_neg h]; exact w
theorem op_undo {S K : Nat → Int32} (w : wf S) (wk : wf K) (c : Nat) : wf (if c = 7 then K else S) := by
  by_cases h : c = 7
  · rw [if_pos h]; exact wk
  · rw [if_neg h]; exact w
def fdN (x : Int32) (n : Nat) : Nat := if cFeed x n = 7 then n + bstN x else n
theorem fdN_e (x : Int32) (n : Nat) : (if cFeed x n = 7 then nI (n + bstN x) else nI n) = nI (fdN x n) := by
  unfold fdN
  by_cases h : cFeed x n = 7
  · rw [if_pos h, if_pos h]
  · rw [if_neg h, if_neg h]
theorem op_feed {n : Nat} (hn : n ≤ 120) (x : Int32) : fdN x n ≤ 120 := by
  unfold fdN
  by_cases h : cFeed x n = 7
  · rw [if_pos h]
    unfold cFeed at h
    by_cases q : 1 ≤ x ∧ x ≤ 4
    · rw [if_pos q] at h
      by_cases z : 120 < n + bstN x
      · rw [if_pos z] at h; exact absurd h (by decide)
      · omega
    · rw [if_neg q] at h; exact absurd h (by decide)
  · rw [if_neg h]; exact hn
theorem numF_ite (c : Nat) (f g : Nat → Nat → Int64) : (if c = 7 then numF f else numF g) = numF (if c = 7 then f else g) := by
  by_cases h : c = 7
  · rw [if_pos h, if_pos h]
  · rw [if_neg h, if_neg h]
theorem sh_at {x : Int32} (h : 0 ≤ x ∧ x ≤ 3) : bstN x < 4 := by
  obtain ⟨k, hk, rfl⟩ := nI_rn (n := 4) (by decide) (x := x) ⟨h.1, Int32.lt_of_le_of_lt h.2 (by decide)⟩
  rw [bst_n (by omega)]; exact hk
theorem shOk_f {si : Nat → Int32} {f : Nat → Nat → Int64} (h : shOk si f) (i : Nat) {g : Nat → Int64} (hg : ∀ j, 40 ≤ j → g j = 0) : shOk si (va_up f i g) := fun k hk => by
  refine ⟨(h k hk).1, (h k hk).2.1, fun j hj => ?_⟩
  unfold va_up
  by_cases e : k = i
  · rw [if_pos e]; exact hg j hj
  · rw [if_neg e]; exact (h k hk).2.2 j hj
theorem op_lay {si : Nat → Int32} {f : Nat → Nat → Int64} (h : shOk si f) (x b n : Int32) : shOk (if cLay x b n = 7 then va_up si (bstN x) (if b = 0 then 0 else n) else si) (if cLay x b n = 7 then va_up f (bstN x) (fun _ => 0) else f) := by
  by_cases c : cLay x b n = 7
  · rw [if_pos c, if_pos c]
    unfold cLay at c
    by_cases q : (0 ≤ x ∧ x ≤ 3) ∧ (b = 0 ∨ b = 8 ∨ b = 16 ∨ b = 64)
    · rw [if_pos q] at c
      by_cases q1 : n < 0
      · rw [if_pos q1] at c; exact absurd c (by decide)
      · rw [if_neg q1] at c
        by_cases q2 : 40 < n
        · rw [if_pos q2] at c; exact absurd c (by decide)
        · obtain ⟨k, hk, rfl⟩ := nI_ge0 (Int32.not_lt.mp q1)
          have h40 : k ≤ 40 := (nI_leI (b := 40) hk (by decide)).mp (Int32.not_lt.mp q2)
          intro j hj
          refine ⟨?_, ?_, fun z hz => ?_⟩
          · unfold va_up
            by_cases e : j = bstN x
            · rw [if_pos e]
              by_cases e0 : b = 0
              · rw [if_pos e0]; rfl
              · rw [if_neg e0, bst_n hk]
            · rw [if_neg e]; exact (h j hj).1
          · unfold va_up
            by_cases e : j = bstN x
            · rw [if_pos e]
              by_cases e0 : b = 0
              · rw [if_pos e0]; exact Nat.zero_le _
              · rw [if_neg e0, bst_n hk]; exact h40
            · rw [if_neg e]; exact (h j hj).2.1
          · unfold va_up
            by_cases e : j = bstN x
            · rw [if_pos e]
            · rw [if_neg e]; exact (h j hj).2.2 z hz
    · rw [if_neg q] at c; exact absurd c (by decide)
  · rw [if_neg c, if_neg c]; exact h
theorem op_write {bi si : Nat → Int32} {f : Nat → Nat → Int64} (h : shOk si f) (x i : Int32) (v : Int64) : shOk si (if cWrite bi si x i = 7 then va_up f (bstN x) (vp_updL (f (bstN x)) (bstN i) v) else f) := by
  by_cases c : cWrite bi si x i = 7
  · rw [if_pos c]
    unfold cWrite at c
    by_cases q : 0 ≤ x ∧ x ≤ 3
    · rw [if_pos q] at c
      have h4 := sh_at q
      by_cases q1 : bi (bstN x) = 0
      · rw [if_pos q1] at c; exact absurd c (by decide)
      · rw [if_neg q1] at c
        by_cases q2 : 0 ≤ i ∧ i < si (bstN x)
        · refine shOk_f h _ fun j hj => ?_
          have h0 := h (bstN x) h4
          rw [h0.1] at q2
          obtain ⟨k, hk, rfl⟩ := nI_rn (n := bstN (si (bstN x))) (by omega) q2
          rw [bst_n (by omega)]
          unfold vp_updL
          rw [if_neg (by omega)]; exact h0.2.2 j hj
        · rw [if_neg q2] at c; exact absurd c (by decide)
    · rw [if_neg q] at c; exact absurd c (by decide)
  · rw [if_neg c]; exact h
theorem op_copy {bi si : Nat → Int32} {f : Nat → Nat → Int64} (h : shOk si f) (x y z w n : Int32) : shOk si (if cCopy bi si x y z w n = 7 then va_up f (bstN z) (va_cpy (f (bstN x)) (f (bstN z)) (bstN y) (bstN w) (bstN n)) else f) := by
  by_cases c : cCopy bi si x y z w n = 7
  · rw [if_pos c]
    unfold cCopy at c
    by_cases q : (0 ≤ x ∧ x ≤ 3) ∧ (0 ≤ z ∧ z ≤ 3)
    · rw [if_pos q] at c
      have h4 := sh_at q.2
      by_cases q1 : bi (bstN x) = 0 ∨ bi (bstN z) = 0
      · rw [if_pos q1] at c; exact absurd c (by decide)
      rw [if_neg q1] at c
      by_cases q2 : ¬ bi (bstN x) = bi (bstN z)
      · rw [if_pos q2] at c; exact absurd c (by decide)
      rw [if_neg q2] at c
      by_cases q3 : (0 ≤ y ∧ 0 ≤ n ∧ n ≤ si (bstN x) ∧ y ≤ si (bstN x) - n) ∧ (0 ≤ w ∧ 0 ≤ n ∧ n ≤ si (bstN z) ∧ w ≤ si (bstN z) - n)
      · refine shOk_f h _ fun j hj => ?_
        have h0 := h (bstN z) h4
        have q4 := q3.2
        rw [h0.1] at q4
        obtain ⟨a, k, hk, rfl, rfl⟩ := row_at (by omega) q4
        rw [bst_n (j := a) (by omega), bst_n (j := k) (by omega), va_cpy, if_neg (by omega)]
        exact h0.2.2 j hj
      · rw [if_neg q3] at c; exact absurd c (by decide)
    · rw [if_neg q] at c; exact absurd c (by decide)
  · rw [if_neg c]; exact h
theorem op_ssh {bi si : Nat → Int32} {f : Nat → Nat → Int64} (h : shOk si f) (S : Nat → Int32) (x : Int32) (b : Nat) : shOk si (if cSh bi x = 7 then va_up f (bstN x) (stkF S (f (bstN x)) (minN (bstN (si (bstN x))) b)) else f) := by
  by_cases c : cSh bi x = 7
  · rw [if_pos c]
    unfold cSh at c
    by_cases q : 0 ≤ x ∧ x ≤ 3
    · have h4 := sh_at q
      have h0 := h (bstN x) h4
      have hm := minN_l (bstN (si (bstN x))) b
      refine shOk_f h _ fun j hj => ?_
      rw [stkF_k, if_neg (by omega)]
      exact h0.2.2 j hj
    · rw [if_neg q] at c; exact absurd c (by decide)
  · rw [if_neg c]; exact h
theorem tpOk_0 (T : Nat → Int32) : tpOk T 0 := fun _ h => absurd h (Nat.not_lt_zero _)
theorem fdT_ok {T : Nat → Int32} {n : Nat} (h : tpOk T n) (x : Int32) (m : Nat) : ∀ k, tpOk (fdT T n x m k) (n + k)
  | 0 => h
  | k + 1 => fun j hj => by
    have ih := fdT_ok h x m k
    unfold fdT
    by_cases e : j = n + k
    · subst e
      rw [upd_s]
      unfold byt
      exact nI_pos' (by omega)
    · rw [upd_n e]
      exact ih j (by omega)
theorem op_tape {T : Nat → Int32} {n : Nat} (h : tpOk T n) (x y : Int32) : tpOk (if cFeed y n = 7 then fdT T n x (bstN y) (bstN y) else T) (fdN y n) := by
  unfold fdN
  by_cases q : cFeed y n = 7
  · rw [if_pos q, if_pos q]; exact fdT_ok h x _ _
  · rw [if_neg q, if_neg q]; exact h
