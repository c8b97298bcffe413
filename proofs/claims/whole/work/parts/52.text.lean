/-! the telling, the class's way: without a flag, by where each step ends -/
theorem te_w {T : Nat → Int32} {n s k : Nat} (hs : s < n) (hL : isL (bt T n s)) (h1 : s ≤ k) (h2 : k ≤ n) (h3 : ∀ j, s ≤ j → j < k → isL (bt T n j)) (h4 : ¬ isL (bt T n k)) : te T n s = k := by
  have hk : s ≠ k := fun e => h4 (e ▸ hL)
  rw [te_L hs hL]
  exact teL_eq (by omega) h2 (fun j a b => h3 j (by omega) b) h4
theorem te_d {T : Nat → Int32} {n s k : Nat} (hs : s < n) (hD : isD (bt T n s)) (h1 : s ≤ k) (h2 : k ≤ n) (h3 : ∀ j, s ≤ j → j < k → isD (bt T n j)) (h4 : ¬ isD (bt T n k)) : te T n s = k := by
  have hk : s ≠ k := fun e => h4 (e ▸ hD)
  rw [te_D hs hD]
  exact teD_eq (by omega) h2 (fun j a b => h3 j (by omega) b) h4
/-- the sort of a token by its first byte; the bytes as they can be -/
def srt (x : Int32) : Int32 := if x < 0 then 0 else if isL x then 1 else if isD x then 2 else if x = 44 then 3 else 4
def tpOk (T : Nat → Int32) (n : Nat) : Prop := ∀ j, j < n → 0 ≤ T j
theorem srt_k {T : Nat → Int32} {n : Nat} (h : tpOk T n) (k : Nat) : srt (bt T n k) = tkn T n k := by
  unfold srt tkn
  by_cases c : k < n
  · have h0 : ¬ bt T n k < 0 := by rw [bt_in c]; exact Int32.not_lt.mpr (h k c)
    rw [if_neg h0, if_pos c]
  · rw [if_neg c, bt_out (Nat.not_lt.mp c)]; decide
def gon (T : Nat → Int32) (n s i : Nat) : Bool := if i = 0 then decide (¬ tkn T n s = 0) else decide ((tkn T n s = 1 ∨ tkn T n s = 2) ∧ tkn T n (s + i) = tkn T n s)
theorem gon_0 {T : Nat → Int32} {n s : Nat} : gon T n s 0 = true ↔ ¬ tkn T n s = 0 := by
  unfold gon; rw [if_pos rfl]; exact decide_eq_true_iff
theorem gon_s {T : Nat → Int32} {n s i : Nat} : gon T n s (i + 1) = true ↔ (tkn T n s = 1 ∨ tkn T n s = 2) ∧ tkn T n (s + (i + 1)) = tkn T n s := by
  unfold gon; rw [if_neg (Nat.succ_ne_zero i)]; exact decide_eq_true_iff
theorem gon_k {T : Nat → Int32} {n s i : Nat} (h : gon T n s i = true) : tkn T n (s + i) = tkn T n s := by
  cases i with
  | zero => rfl
  | succ i => exact (gon_s.mp h).2
theorem gon_1 {T : Nat → Int32} {n s i : Nat} (h : gon T n s i = true) : i = 0 ∨ tkn T n s = 1 ∨ tkn T n s = 2 := by
  cases i with
  | zero => exact Or.inl rfl
  | succ i => exact Or.inr (gon_s.mp h).1
theorem te_go {T : Nat → Int32} {n s i : Nat} (h2 : s + i ≤ n) (hm : ∀ j, s ≤ j → j < s + i → tkn T n j = tkn T n s) (h1 : i ≤ 1 ∨ tkn T n s = 1 ∨ tkn T n s = 2) (he : n ≤ s + i ∨ ¬ gon T n s i = true) : te T n s = s + i := by
  cases i with
  | zero =>
    have hn : n ≤ s := he.elim id (fun h => tkn_0.mp (Classical.byContradiction fun q => h (gon_0.mpr q)))
    exact te_e hn
  | succ i =>
    have hs : s < n := by omega
    have hk : ¬ tkn T n (s + (i + 1)) = tkn T n s ∨ ¬ (tkn T n s = 1 ∨ tkn T n s = 2) := by
      rcases he with h | h
      · exact Or.inl (fun q => absurd (tkn_0.mp (q.symm.trans (tkn_e h))) (by omega))
      · by_cases q : tkn T n (s + (i + 1)) = tkn T n s
        · exact Or.inr (fun z => h (gon_s.mpr ⟨z, q⟩))
        · exact Or.inl q
    by_cases hL : isL (bt T n s)
    · have e1 := tkn_1.mpr hL
      exact te_w hs hL (by omega) h2 (fun j a b => tkn_1.mp ((hm j a b).trans e1)) (fun z => hk.elim (fun q => q ((tkn_1.mpr z).trans e1.symm)) (fun q => q (Or.inl e1)))
    · by_cases hD : isD (bt T n s)
      · have e1 := tkn_2.mpr hD
        exact te_d hs hD (by omega) h2 (fun j a b => tkn_2.mp ((hm j a b).trans e1)) (fun z => hk.elim (fun q => q ((tkn_2.mpr z).trans e1.symm)) (fun q => q (Or.inr e1)))
      · have hi : i = 0 := by
          rcases h1 with h | h | h
          · omega
          · exact absurd (tkn_1.mp h) hL
          · exact absurd (tkn_2.mp h) hD
        subst hi
        exact te_o hs hL hD
theorem dg_n {T : Nat → Int32} {n k : Nat} (h : isD (bt T n k)) : bt T n k - 48 = nI (dg T k) := by
  have a := dg_9 h
  rw [bt_in a.1, a.2.1]
  exact pk_sub (a := dg T k + 48) (b := 48) (by omega)
theorem nvC_n {T : Nat → Int32} {s i : Nat} (hd : dg T (s + i) ≤ 9) : (if 1000 < nI (nvC T s i * 10 + dg T (s + i)) then 1000 else nI (nvC T s i * 10 + dg T (s + i))) = nI (nvC T s (i + 1)) := by
  have h := nvC_le T s i
  have e : nvC T s i * 10 + dg T (s + i) = 10 * nvC T s i + dg T (s + i) := by omega
  rw [e]
  have q : (1000 : Int32) < nI (10 * nvC T s i + dg T (s + i)) ↔ 1000 < 10 * nvC T s i + dg T (s + i) := nI_ltI (a := 1000) (by decide) (by omega)
  by_cases c : 1000 < 10 * nvC T s i + dg T (s + i)
  · rw [if_pos (q.mpr c)]
    show nI 1000 = nI (if 1000 < 10 * nvC T s i + dg T (s + i) then 1000 else 10 * nvC T s i + dg T (s + i))
    rw [if_pos c]
  · rw [if_neg (fun z => c (q.mp z))]
    show _ = nI (if 1000 < 10 * nvC T s i + dg T (s + i) then 1000 else 10 * nvC T s i + dg T (s + i))
    rw [if_neg c]
def tnP (T : Nat → Int32) (n : Nat) (m : Int32) (s : Nat) : Nat := if okN T n s m then nxt T n s else s
def phK (T : Nat → Int32) (n i : Nat) (m : Int32) (s : Nat) : Bool := !isW T n s i || decide (okN T n (nxt T n s) m)
def phN (T : Nat → Int32) (n i s : Nat) : Nat := if isW T n s i then numV T n (nxt T n s) else 0
def phP (T : Nat → Int32) (n i : Nat) (m : Int32) (s : Nat) : Nat := if isW T n s i then tnP T n m (nxt T n s) else s
theorem phV_N (T : Nat → Int32) (n i s : Nat) : phV T n i s = nI (phN T n i s) := by
  unfold phV phN
  by_cases h : isW T n s i = true
  · rw [if_pos h, if_pos h]
  · rw [if_neg h, if_neg h]; rfl
theorem numV_le (T : Nat → Int32) (n s : Nat) : numV T n s ≤ 1000 := nvC_le T s _
theorem phN_le (T : Nat → Int32) (n i s : Nat) : phN T n i s ≤ 1000 := by
  unfold phN
  by_cases h : isW T n s i = true
  · rw [if_pos h]; exact numV_le T n _
  · rw [if_neg h]; omega
theorem tnP_b {T : Nat → Int32} {n : Nat} {m : Int32} {s : Nat} (h : s ≤ n) : s ≤ tnP T n m s ∧ tnP T n m s ≤ n := by
  have := nxt_b (T := T) h
  unfold tnP
  by_cases q : okN T n s m
  · rw [if_pos q]; exact this
  · rw [if_neg q]; exact ⟨Nat.le_refl _, h⟩
theorem phP_b {T : Nat → Int32} {n i : Nat} {m : Int32} {s : Nat} (h : s ≤ n) : s ≤ phP T n i m s ∧ phP T n i m s ≤ n := by
  have a := nxt_b (T := T) h
  have b := tnP_b (T := T) (m := m) a.2
  unfold phP
  by_cases q : isW T n s i = true
  · rw [if_pos q]; exact ⟨Nat.le_trans a.1 b.1, b.2⟩
  · rw [if_neg q]; exact ⟨Nat.le_refl _, h⟩
theorem ndR_f (T : Nat → Int32) (n s : Nat) : ndR T n false (false, s) = (true, s) := rfl
theorem ndR_g (T : Nat → Int32) (n s : Nat) : ndR T n true (false, s) = (false, nxt T n s) := rfl
theorem nmR_p (T : Nat → Int32) (n : Nat) (m : Int32) (s : Nat) : nmR T n m (false, s) = (!decide (okN T n s m), tnP T n m s) := by
  unfold nmR tnP
  rw [if_neg (by simp)]
  by_cases h : okN T n s m
  · rw [decide_eq_true h, if_pos h]; rfl
  · rw [decide_eq_false h, if_neg h]; rfl
theorem phR_p (T : Nat → Int32) (n i : Nat) (m : Int32) (s : Nat) : phR T n i m (false, s) = (!phK T n i m s, phP T n i m s) := by
  unfold phR phK phP
  by_cases h : isW T n s i = true
  · rw [if_neg (by simp [h]), if_pos h, ndR_g, nmR_p, h]; simp
  · rw [if_pos (by simp [h]), if_neg h]; simp [h]
/-- measures, as one step -/
def msR (T : Nat → Int32) (n : Nat) (r : Bool × Nat) : Bool × Nat := phR T n 10 99 (phR T n 9 3 (phR T n 8 9 (nmR T n 99 r)))
def m4 (T : Nat → Int32) (n s : Nat) : Nat := tnP T n 99 s
def m5 (T : Nat → Int32) (n s : Nat) : Nat := phP T n 8 9 (m4 T n s)
def m6 (T : Nat → Int32) (n s : Nat) : Nat := phP T n 9 3 (m5 T n s)
def m7 (T : Nat → Int32) (n s : Nat) : Nat := phP T n 10 99 (m6 T n s)
theorem msR_4 {T : Nat → Int32} {n s : Nat} (h : ¬ okN T n s 99) : msR T n (false, s) = (true, m4 T n s) := by
  unfold msR
  rw [nmR_p, decide_eq_false h]
  rw [phR_t, phR_t, phR_t] <;> rfl
theorem msR_5 {T : Nat → Int32} {n s : Nat} (h : okN T n s 99) (h5 : ¬ phK T n 8 9 (m4 T n s) = true) : msR T n (false, s) = (true, m5 T n s) := by
  unfold msR
  rw [nmR_p, decide_eq_true h]
  show phR T n 10 99 (phR T n 9 3 (phR T n 8 9 (false, m4 T n s))) = _
  rw [phR_p, Bool.eq_false_iff.mpr h5]
  rw [phR_t, phR_t] <;> rfl
theorem msR_6 {T : Nat → Int32} {n s : Nat} (h : okN T n s 99) (h5 : phK T n 8 9 (m4 T n s) = true) (h6 : ¬ phK T n 9 3 (m5 T n s) = true) : msR T n (false, s) = (true, m6 T n s) := by
  unfold msR
  rw [nmR_p, decide_eq_true h]
  show phR T n 10 99 (phR T n 9 3 (phR T n 8 9 (false, m4 T n s))) = _
  rw [phR_p, h5]
  show phR T n 10 99 (phR T n 9 3 (false, m5 T n s)) = _
  rw [phR_p, Bool.eq_false_iff.mpr h6]
  rw [phR_t] <;> rfl
theorem msR_7 {T : Nat → Int32} {n s : Nat} (h : okN T n s 99) (h5 : phK T n 8 9 (m4 T n s) = true) (h6 : phK T n 9 3 (m5 T n s) = true) : msR T n (false, s) = (!phK T n 10 99 (m6 T n s), m7 T n s) := by
  unfold msR
  rw [nmR_p, decide_eq_true h]
  show phR T n 10 99 (phR T n 9 3 (phR T n 8 9 (false, m4 T n s))) = _
  rw [phR_p, h5]
  show phR T n 10 99 (phR T n 9 3 (false, m5 T n s)) = _
  rw [phR_p, h6]
  show phR T n 10 99 (false, m6 T n s) = _
  rw [phR_p]; rfl
theorem msR_b {T : Nat → Int32} {n : Nat} {r : Bool × Nat} (h : r.2 ≤ n) : r.2 ≤ (msR T n r).2 ∧ (msR T n r).2 ≤ n := by
  unfold msR
  have a := nmR_b (T := T) (m := 99) h
  have b := phR_b (T := T) (i := 8) (m := 9) a.2
  have c := phR_b (T := T) (i := 9) (m := 3) b.2
  have d := phR_b (T := T) (i := 10) (m := 99) c.2
  omega
theorem msR_t (T : Nat → Int32) (n : Nat) {r : Bool × Nat} (h : r.1 = true) : msR T n r = r := by
  unfold msR
  rw [nmR_t T n _ h, phR_t T n _ _ h, phR_t T n _ _ h, phR_t T n _ _ h]
/-- the house with its new gap's measures -/
def msS (T : Nat → Int32) (n : Nat) (X : Nat → Int32) (g s : Nat) : Nat → Int32 := measG X g (nI (numV T n s)) (nI (phN T n 8 (m4 T n s))) (nI (phN T n 9 (m5 T n s))) (nI (phN T n 10 (m6 T n s)))
abbrev otK (T : Nat → Int32) (n : Nat) (m : Int32) (v s : Nat) : Prop := ¬ (isD (bt T n s) ∧ numV T n s = v) ∧ okN T n s m
def otP (T : Nat → Int32) (n : Nat) (m : Int32) (v s : Nat) : Nat := if otK T n m v s then nxt T n s else s
theorem otP_b {T : Nat → Int32} {n : Nat} {m : Int32} {v s : Nat} (h : s ≤ n) : s ≤ otP T n m v s ∧ otP T n m v s ≤ n := by
  have := nxt_b (T := T) h
  unfold otP
  by_cases q : otK T n m v s
  · rw [if_pos q]; exact this
  · rw [if_neg q]; exact ⟨Nat.le_refl _, h⟩
theorem otR_o {T : Nat → Int32} {n : Nat} {m : Int32} {v s : Nat} (h : isW T n s 7 = true) : otR T n m v (false, s) = (false, nxt T n s) := by
  unfold otR
  rw [if_neg (by simp), if_pos h]; rfl
theorem otR_p {T : Nat → Int32} {n : Nat} {m : Int32} {v s : Nat} (h : ¬ isW T n s 7 = true) : otR T n m v (false, s) = (!decide (otK T n m v s), otP T n m v s) := by
  unfold otR otP
  rw [if_neg (by simp), if_neg h]
  by_cases q : isD (bt T n s) ∧ numV T n s = v
  · rw [if_pos q, if_neg (fun z => z.1 q), decide_eq_false (fun z => z.1 q)]; rfl
  · rw [if_neg q, nmR_p]
    by_cases c : okN T n s m
    · rw [if_pos ⟨q, c⟩, decide_eq_true c, decide_eq_true ⟨q, c⟩]; unfold tnP; rw [if_pos c]
    · rw [if_neg (fun z => c z.2), decide_eq_false c, decide_eq_false (fun z => c z.2)]; unfold tnP; rw [if_neg c]
/-- the other side as it is taken: out, or another room -/
abbrev otQ (T : Nat → Int32) (n : Nat) (m : Int32) (v s : Nat) : Prop := isW T n s 7 = true ∨ otK T n m v s
def oqP (T : Nat → Int32) (n : Nat) (m : Int32) (v s : Nat) : Nat := if otQ T n m v s then nxt T n s else s
theorem otV_ge (T : Nat → Int32) (n s : Nat) : -1 ≤ otV T n s := by
  unfold otV
  have := numV_le T n s
  by_cases h : isW T n s 7 = true
  · rw [if_pos h]; decide
  · rw [if_neg h]; exact Int32.le_trans (by decide) (nI_pos' (by omega))
theorem g7_ms (T : Nat → Int32) (n : Nat) (S : Nat → Int32) (s : Nat) : g7 T n S s = msR T n (g3 T n S s) := rfl
theorem otR_t (T : Nat → Int32) (n : Nat) (m : Int32) (v : Nat) {r : Bool × Nat} (h : r.1 = true) : otR T n m v r = r := by
  unfold otR; rw [if_pos h]
/-- a gap's ways -/
theorem g7_1 {T : Nat → Int32} {n : Nat} {S : Nat → Int32} {s : Nat} (h : ¬ gcN S < 20) : g7 T n S s = (true, s) := by
  rw [g7_ms]
  unfold g3 g2 g1
  rw [decide_eq_false h, ndR_f, nmR_t T n _ rfl, otR_t T n _ _ rfl, msR_t T n rfl]
theorem g1_ok {T : Nat → Int32} {n : Nat} {S : Nat → Int32} {s : Nat} (h : gcN S < 20) : g1 T n S s = (false, nxt T n s) := by
  unfold g1; rw [decide_eq_true h]; rfl
theorem g7_2 {T : Nat → Int32} {n : Nat} {S : Nat → Int32} {s : Nat} (h : gcN S < 20) (h2 : ¬ okN T n (nxt T n s) (nI (rcN S) - 1)) : g7 T n S s = (true, nxt T n s) := by
  rw [g7_ms]
  unfold g3 g2
  rw [g1_ok h, nmR_p, decide_eq_false h2, otR_t T n _ _ rfl, msR_t T n rfl]
  unfold tnP; rw [if_neg h2]; rfl
theorem g2_ok {T : Nat → Int32} {n : Nat} {S : Nat → Int32} {s : Nat} (h : gcN S < 20) (h2 : okN T n (nxt T n s) (nI (rcN S) - 1)) : g2 T n S s = (false, nxt T n (nxt T n s)) := by
  unfold g2
  rw [g1_ok h, nmR_p, decide_eq_true h2]
  unfold tnP; rw [if_pos h2]; rfl
theorem g3_o {T : Nat → Int32} {n : Nat} {S : Nat → Int32} {s : Nat} (h : gcN S < 20) (h2 : okN T n (nxt T n s) (nI (rcN S) - 1)) (h3 : isW T n (nxt T n (nxt T n s)) 7 = true) : g3 T n S s = (false, nxt T n (nxt T n (nxt T n s))) := by
  unfold g3
  rw [g2_ok h h2, otR_o h3]
theorem g7_3 {T : Nat → Int32} {n : Nat} {S : Nat → Int32} {s : Nat} (h : gcN S < 20) (h2 : okN T n (nxt T n s) (nI (rcN S) - 1)) (h3 : ¬ isW T n (nxt T n (nxt T n s)) 7 = true) (h4 : ¬ otK T n (nI (rcN S) - 1) (numV T n (nxt T n s)) (nxt T n (nxt T n s))) : g7 T n S s = (true, nxt T n (nxt T n s)) := by
  rw [g7_ms]
  unfold g3
  rw [g2_ok h h2, g1_ok h, otR_p h3, decide_eq_false h4, msR_t T n rfl]
  unfold otP; rw [if_neg h4]; rfl
theorem g3_p {T : Nat → Int32} {n : Nat} {S : Nat → Int32} {s : Nat} (h : gcN S < 20) (h2 : okN T n (nxt T n s) (nI (rcN S) - 1)) (h3 : ¬ isW T n (nxt T n (nxt T n s)) 7 = true) (h4 : otK T n (nI (rcN S) - 1) (numV T n (nxt T n s)) (nxt T n (nxt T n s))) : g3 T n S s = (false, nxt T n (nxt T n (nxt T n s))) := by
  unfold g3
  rw [g2_ok h h2, g1_ok h, otR_p h3, decide_eq_true h4]
  unfold otP; rw [if_pos h4]; rfl
theorem g7_q {T : Nat → Int32} {n : Nat} {S : Nat → Int32} {s : Nat} (h : gcN S < 20) (h2 : okN T n (nxt T n s) (nI (rcN S) - 1)) (h4 : ¬ otQ T n (nI (rcN S) - 1) (numV T n (nxt T n s)) (nxt T n (nxt T n s))) : g7 T n S s = (true, nxt T n (nxt T n s)) :=
  g7_3 h h2 (fun q => h4 (Or.inl q)) (fun q => h4 (Or.inr q))
theorem g3_q {T : Nat → Int32} {n : Nat} {S : Nat → Int32} {s : Nat} (h : gcN S < 20) (h2 : okN T n (nxt T n s) (nI (rcN S) - 1)) (h4 : otQ T n (nI (rcN S) - 1) (numV T n (nxt T n s)) (nxt T n (nxt T n s))) : g3 T n S s = (false, nxt T n (nxt T n (nxt T n s))) := by
  by_cases h3 : isW T n (nxt T n (nxt T n s)) 7 = true
  · exact g3_o h h2 h3
  · exact g3_p h h2 h3 (h4.resolve_left h3)
theorem msS_gp {T : Nat → Int32} {n : Nat} {S : Nat → Int32} {k : Int32} {s s3 : Nat} (h : gcN S < 20) (h2 : okN T n (nxt T n s) (nI (rcN S) - 1)) (e3 : g3 T n S s = (false, s3)) (hm : (msR T n (false, s3)).1 = false) : msS T n (addG S (gcN S) k (nI (numV T n (nxt T n s))) (otV T n (nxt T n (nxt T n s)))) (gcN S) s3 = gpS T n S k s := by
  unfold msS gpS
  rw [add_meas]
  have h4 : okN T n s3 99 := Classical.byContradiction fun q => by rw [msR_4 q] at hm; exact absurd (show true = false from hm) (by decide)
  have h5 : phK T n 8 9 (m4 T n s3) = true := Classical.byContradiction fun q => by rw [msR_5 h4 q] at hm; exact absurd (show true = false from hm) (by decide)
  have h6 : phK T n 9 3 (m5 T n s3) = true := Classical.byContradiction fun q => by rw [msR_6 h4 h5 q] at hm; exact absurd (show true = false from hm) (by decide)
  have e4 : (g4 T n S s).2 = m4 T n s3 := by unfold g4; rw [e3, nmR_p]; rfl
  have e4b : g4 T n S s = (false, m4 T n s3) := by unfold g4; rw [e3, nmR_p, decide_eq_true h4]; rfl
  have e5b : g5 T n S s = (false, m5 T n s3) := by unfold g5; rw [e4b, phR_p, h5]; rfl
  have e6b : g6 T n S s = (false, m6 T n s3) := by unfold g6; rw [e5b, phR_p, h6]; rfl
  rw [g1_ok h, g2_ok h h2, e3, e4b, e5b, e6b, phV_N, phV_N, phV_N]
theorem knd_L {T : Nat → Int32} {n s : Nat} (h : ¬ isL (bt T n s)) : knd T n s = -1 := by
  have z := fun i (hi : i < 14) => mt (isW_L (T := T) (n := n) (s := s) hi) h
  unfold knd
  rw [if_neg (z 1 (by decide)), if_neg (z 2 (by decide)), if_neg (z 3 (by decide)), if_neg (z 4 (by decide)), if_neg (z 5 (by decide)), if_neg (z 6 (by decide))]
theorem prt_L {T : Nat → Int32} {n s : Nat} (h : ¬ isL (bt T n s)) : prt T n s = -1 := by
  have z := fun i (hi : i < 14) => mt (isW_L (T := T) (n := n) (s := s) hi) h
  unfold prt
  rw [if_neg (z 11 (by decide)), if_neg (z 12 (by decide)), if_neg (z 13 (by decide))]
theorem knd_room {T : Nat → Int32} {n s : Nat} (h : isW T n s 0 = true) : knd T n s = -1 := by
  have z := fun i (hi : i < 14) (h0 : i ≠ 0) => show ¬ isW T n s i = true from fun q => h0 (isW_1 hi (by decide) q h)
  unfold knd
  rw [if_neg (z 1 (by decide) (by decide)), if_neg (z 2 (by decide) (by decide)), if_neg (z 3 (by decide) (by decide)), if_neg (z 4 (by decide) (by decide)), if_neg (z 5 (by decide) (by decide)), if_neg (z 6 (by decide) (by decide))]
theorem knd_c (T : Nat → Int32) (n s : Nat) : knd T n s = -1 ∨ ∃ k, k < 6 ∧ knd T n s = nI k := by
  unfold knd
  by_cases h1 : isW T n s 1 = true
  · rw [if_pos h1]; exact Or.inr ⟨0, by decide, rfl⟩
  rw [if_neg h1]
  by_cases h2 : isW T n s 2 = true
  · rw [if_pos h2]; exact Or.inr ⟨1, by decide, rfl⟩
  rw [if_neg h2]
  by_cases h3 : isW T n s 3 = true
  · rw [if_pos h3]; exact Or.inr ⟨2, by decide, rfl⟩
  rw [if_neg h3]
  by_cases h4 : isW T n s 4 = true
  · rw [if_pos h4]; exact Or.inr ⟨3, by decide, rfl⟩
  rw [if_neg h4]
  by_cases h5 : isW T n s 5 = true
  · rw [if_pos h5]; exact Or.inr ⟨4, by decide, rfl⟩
  rw [if_neg h5]
  by_cases h6 : isW T n s 6 = true
  · rw [if_pos h6]; exact Or.inr ⟨5, by decide, rfl⟩
  rw [if_neg h6]; exact Or.inl rfl
theorem prt_c (T : Nat → Int32) (n s : Nat) : prt T n s = -1 ∨ ∃ k, (k = 0 ∨ k = 1 ∨ k = 4) ∧ prt T n s = nI k := by
  unfold prt
  by_cases h1 : isW T n s 11 = true
  · rw [if_pos h1]; exact Or.inr ⟨0, Or.inl rfl, rfl⟩
  rw [if_neg h1]
  by_cases h2 : isW T n s 12 = true
  · rw [if_pos h2]; exact Or.inr ⟨1, Or.inr (Or.inl rfl), rfl⟩
  rw [if_neg h2]
  by_cases h3 : isW T n s 13 = true
  · rw [if_pos h3]; exact Or.inr ⟨4, Or.inr (Or.inr rfl), rfl⟩
  rw [if_neg h3]; exact Or.inl rfl
