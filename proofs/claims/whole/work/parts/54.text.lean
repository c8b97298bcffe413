/-! what a house stays under what is told and done; an ITEM's ways; the whole telling -/
theorem ph_val {T : Nat → Int32} {n i s : Nat} {m : Int32} (h : isW T n s i = true) : (if okN T n (nxt T n s) m then nI (numV T n (nxt T n s)) else -1) = if phK T n i m s = true then nI (phN T n i s) else -1 := by
  unfold phK phN
  rw [h]
  by_cases q : okN T n (nxt T n s) m
  · rw [if_pos q, if_pos (by simp [q]), if_pos rfl]
  · rw [if_neg q, if_neg (by simp only [decide_eq_false q]; decide)]
theorem ph_no {T : Nat → Int32} {n i s : Nat} {m : Int32} (h : ¬ isW T n s i = true) : (0 : Int32) = if phK T n i m s = true then nI (phN T n i s) else -1 := by
  unfold phK phN
  rw [if_pos (by simp [h]), if_neg h]; rfl
theorem ot_val {T : Nat → Int32} {n s v : Nat} {m : Int32} (h : ¬ (isD (bt T n s) ∧ numV T n s = v)) : (if okN T n s m then nI (numV T n s) else -1) = if otK T n m v s then nI (numV T n s) else -1 := by
  by_cases q : okN T n s m
  · rw [if_pos q, if_pos ⟨h, q⟩]
  · rw [if_neg q, if_neg (fun z => q z.2)]
theorem ot_pos {T : Nat → Int32} {n s v : Nat} {m : Int32} (h : ¬ (isD (bt T n s) ∧ numV T n s = v)) : otP T n m v s = tnP T n m s := by
  unfold otP tnP
  by_cases q : okN T n s m
  · rw [if_pos q, if_pos ⟨h, q⟩]
  · rw [if_neg q, if_neg (fun z => q z.2)]
def rmP (T : Nat → Int32) (n : Nat) (X : Nat → Int32) (s : Nat) : Nat := if rcN X < 6 then nxt T n s else s
def rmS (X : Nat → Int32) : Nat → Int32 := if rcN X < 6 then upd X 0 (nI (rcN X + 1)) else X
def ntS (T : Nat → Int32) (n : Nat) (X : Nat → Int32) (p s : Nat) : Nat → Int32 := if okN T n (nxt T n s) (tbM p) then upd X (2 + p) (nI (numV T n (nxt T n s))) else X
theorem can_addG {X : Nat → Int32} (h : can X) {n : Nat} (hn : n < 20) (k r t : Int32) : can (addG X n k r t) := by
  unfold addG
  refine can_upd (can_upd (can_upd (can_upd (can_upd h (by omega) (Or.inl (by omega))) (by omega) (Or.inl (by omega))) (by omega) (Or.inl (by omega))) (by omega) (Or.inl (by omega))) (by omega) (Or.inr (Or.inl rfl))
theorem can_measG {X : Nat → Int32} (h : can X) {n : Nat} (hn : n < 20) (w e d c : Int32) : can (measG X n w e d c) := by
  unfold measG
  exact can_upd (can_upd (can_upd (can_upd h (by omega) (Or.inl (by omega))) (by omega) (Or.inl (by omega))) (by omega) (Or.inl (by omega))) (by omega) (Or.inl (by omega))
theorem can_msS {T : Nat → Int32} {n g s : Nat} {X : Nat → Int32} (h : can X) (hg : g < 20) : can (msS T n X g s) := can_measG h hg _ _ _ _
theorem newGap_k (S : Nat → Int32) (n : Nat) (k r t w h d c : Int32) (i : Nat) : newGap S n k r t w h d c i = if i = 1 then nI (n + 1) else if i = 16 + 8 * n then 0 else if i = 15 + 8 * n then c else if i = 14 + 8 * n then d else if i = 13 + 8 * n then h else if i = 12 + 8 * n then w else if i = 11 + 8 * n then t else if i = 10 + 8 * n then r else if i = 9 + 8 * n then k else S i := by
  unfold newGap upd
  rfl
theorem newGap_o (S : Nat → Int32) (n : Nat) (k r t w h d c : Int32) {i : Nat} (h1 : i ≠ 1) (hi : i < 9 + 8 * n ∨ 16 + 8 * n < i) : newGap S n k r t w h d c i = S i := by
  rw [newGap_k, if_neg h1, if_neg (by omega), if_neg (by omega), if_neg (by omega), if_neg (by omega), if_neg (by omega), if_neg (by omega), if_neg (by omega), if_neg (by omega)]
theorem clamp_n {k : Nat} (h : k < 2 ^ 31) : (nI k).toNatClampNeg = k := nI_clamp h
theorem wf_new {S : Nat → Int32} (w : wf S) (hg : gcN S < 20) {k : Int32} (hk : 0 ≤ k ∧ k < 6) {r : Nat} (hr : r < rcN S) {t : Int32} (ht : t = -1 ∨ ∃ o, t = nI o ∧ o < rcN S ∧ o ≠ r) {d : Int32} (hd : 0 ≤ d ∧ d < 4) (v e c : Int32) :
    wf (newGap S (gcN S) k (nI r) t v e d c) ∧ rcN (newGap S (gcN S) k (nI r) t v e d c) = rcN S ∧ gcN (newGap S (gcN S) k (nI r) t v e d c) = gcN S + 1 := by
  have r6 := wf_r6 w
  have o := fun (i : Nat) (h1 : i ≠ 1) (hi : i < 9 + 8 * gcN S ∨ 16 + 8 * gcN S < i) => newGap_o S (gcN S) k (nI r) t v e d c h1 hi
  have e1 : newGap S (gcN S) k (nI r) t v e d c 1 = nI (gcN S + 1) := by rw [newGap_k, if_pos rfl]
  have e0 : newGap S (gcN S) k (nI r) t v e d c 0 = S 0 := o 0 (by omega) (by omega)
  have eg : gcN (newGap S (gcN S) k (nI r) t v e d c) = gcN S + 1 := by
    show (newGap S (gcN S) k (nI r) t v e d c 1).toNatClampNeg = _
    rw [e1]; exact clamp_n (by omega)
  have er : rcN (newGap S (gcN S) k (nI r) t v e d c) = rcN S := by
    show (newGap S (gcN S) k (nI r) t v e d c 0).toNatClampNeg = _
    rw [e0]; rfl
  refine ⟨⟨?_, ?_, ?_, ?_, ?_, ?_, ?_⟩, er, eg⟩
  · unfold newGap
    exact can_upd (can_upd (can_upd (can_upd (can_upd (can_upd (can_upd (can_upd (can_upd (wf_can w) (by omega) (Or.inl (by omega))) (by omega) (Or.inl (by omega))) (by omega) (Or.inl (by omega))) (by omega) (Or.inl (by omega))) (by omega) (Or.inl (by omega))) (by omega) (Or.inl (by omega))) (by omega) (Or.inl (by omega))) (by omega) (Or.inr (Or.inl rfl))) (by omega) (Or.inl (by omega))
  · rw [e0, er]; exact wf_r w
  · rw [er]; exact r6
  · rw [e1, eg]
  · rw [eg]; omega
  · intro g hgl
    rw [eg] at hgl
    rw [er]
    by_cases q : g = gcN S
    · subst q
      have a10 : newGap S (gcN S) k (nI r) t v e d c (10 + 8 * gcN S) = nI r := by rw [newGap_k, if_neg (by omega), if_neg (by omega), if_neg (by omega), if_neg (by omega), if_neg (by omega), if_neg (by omega), if_neg (by omega), if_pos rfl]
      have a11 : newGap S (gcN S) k (nI r) t v e d c (11 + 8 * gcN S) = t := by rw [newGap_k, if_neg (by omega), if_neg (by omega), if_neg (by omega), if_neg (by omega), if_neg (by omega), if_neg (by omega), if_pos rfl]
      have a9 : newGap S (gcN S) k (nI r) t v e d c (9 + 8 * gcN S) = k := by rw [newGap_k, if_neg (by omega), if_neg (by omega), if_neg (by omega), if_neg (by omega), if_neg (by omega), if_neg (by omega), if_neg (by omega), if_neg (by omega), if_pos rfl]
      have a14 : newGap S (gcN S) k (nI r) t v e d c (14 + 8 * gcN S) = d := by rw [newGap_k, if_neg (by omega), if_neg (by omega), if_neg (by omega), if_pos rfl]
      have arm : rmN (newGap S (gcN S) k (nI r) t v e d c) (gcN S) = r := by
        show (newGap S (gcN S) k (nI r) t v e d c (10 + 8 * gcN S)).toNatClampNeg = _
        rw [a10]; exact clamp_n (by omega)
      have aot : otN (newGap S (gcN S) k (nI r) t v e d c) (gcN S) = t.toNatClampNeg := by
        show (newGap S (gcN S) k (nI r) t v e d c (11 + 8 * gcN S)).toNatClampNeg = _
        rw [a11]
      unfold gapOk
      rw [arm, aot, a9, a10, a11, a14]
      refine ⟨rfl, hr, ?_, hk, hd⟩
      rcases ht with rfl | ⟨z, rfl, hz, hn⟩
      · exact Or.inl rfl
      · rw [clamp_n (by omega)]; exact Or.inr ⟨rfl, hz, hn⟩
    · have old := w.2.2.2.2.2.1 g (by omega)
      have arm : rmN (newGap S (gcN S) k (nI r) t v e d c) g = rmN S g := by
        show (newGap S (gcN S) k (nI r) t v e d c (10 + 8 * g)).toNatClampNeg = _
        rw [o (10 + 8 * g) (by omega) (by omega)]; rfl
      have aot : otN (newGap S (gcN S) k (nI r) t v e d c) g = otN S g := by
        show (newGap S (gcN S) k (nI r) t v e d c (11 + 8 * g)).toNatClampNeg = _
        rw [o (11 + 8 * g) (by omega) (by omega)]; rfl
      unfold gapOk at old ⊢
      rw [arm, aot, o (9 + 8 * g) (by omega) (by omega), o (10 + 8 * g) (by omega) (by omega), o (11 + 8 * g) (by omega) (by omega), o (14 + 8 * g) (by omega) (by omega)]
      exact old
  · rw [o 4 (by omega) (by omega)]; exact wf_fr w
theorem wf_rm1 {S : Nat → Int32} (w : wf S) (h : rcN S < 6) : wf (upd S 0 (nI (rcN S + 1))) := by
  have er : rcN (upd S 0 (nI (rcN S + 1))) = rcN S + 1 := by
    show (upd S 0 (nI (rcN S + 1)) 0).toNatClampNeg = _
    rw [upd_s]; exact clamp_n (by omega)
  have eg : gcN (upd S 0 (nI (rcN S + 1))) = gcN S := by
    show (upd S 0 (nI (rcN S + 1)) 1).toNatClampNeg = _
    rw [upd_n (by omega)]; rfl
  refine ⟨can_upd (wf_can w) (by omega) (Or.inl (by omega)), ?_, ?_, ?_, ?_, ?_, ?_⟩
  · rw [upd_s, er]
  · rw [er]; omega
  · rw [upd_n (by omega), eg]; exact wf_g w
  · rw [eg]; exact wf_g20 w
  · intro g hg
    rw [eg] at hg
    have old := w.2.2.2.2.2.1 g hg
    have arm : rmN (upd S 0 (nI (rcN S + 1))) g = rmN S g := by
      show (upd S 0 (nI (rcN S + 1)) (10 + 8 * g)).toNatClampNeg = _
      rw [upd_n (by omega)]; rfl
    have aot : otN (upd S 0 (nI (rcN S + 1))) g = otN S g := by
      show (upd S 0 (nI (rcN S + 1)) (11 + 8 * g)).toNatClampNeg = _
      rw [upd_n (by omega)]; rfl
    unfold gapOk at old ⊢
    rw [arm, aot, er, upd_n (by omega), upd_n (by omega), upd_n (by omega), upd_n (by omega)]
    obtain ⟨h1, h2, h3, h4, h5⟩ := old
    exact ⟨h1, by omega, h3.elim Or.inl (fun z => Or.inr ⟨z.1, by omega, z.2.2⟩), h4, h5⟩
  · rw [upd_n (by omega)]; exact wf_fr w
theorem ok_lt {T : Nat → Int32} {n s k : Nat} (hk : k ≤ 6) (h : okN T n s (nI k - 1)) : numV T n s < k := by
  have := numV_le T n s
  exact (nI_ltI (by omega) (by omega)).mp ((pred_lt (by omega)).mp h.2)
theorem gp_wf {T : Nat → Int32} {n : Nat} {S : Nat → Int32} {k : Int32} {s : Nat} (w : wf S) (hk : 0 ≤ k ∧ k < 6) (h : (g7 T n S s).1 = false) : wf (gpS T n S k s) := by
  have r6 := wf_r6 w
  have h1 : gcN S < 20 := Classical.byContradiction fun q => by rw [g7_1 q] at h; exact absurd (show true = false from h) (by decide)
  have h2 : okN T n (nxt T n s) (nI (rcN S) - 1) := Classical.byContradiction fun q => by rw [g7_2 h1 q] at h; exact absurd (show true = false from h) (by decide)
  have hr := ok_lt r6 h2
  unfold gpS
  rw [g1_ok h1, g2_ok h1 h2]
  have hv6 : ∀ s6, (phR T n 9 3 (false, s6)).1 = false → 0 ≤ phV T n 9 s6 ∧ phV T n 9 s6 < 4 := fun s6 q => by
    rw [phR_p] at q
    have q2 : phK T n 9 3 s6 = true := by
      have q3 : (!phK T n 9 3 s6) = false := q
      simpa using q3
    unfold phK at q2
    unfold phV
    by_cases c : isW T n s6 9 = true
    · rw [if_pos c]
      rw [c] at q2
      have q4 : okN T n (nxt T n s6) 3 := by simpa using q2
      have := numV_le T n (nxt T n s6)
      exact ⟨nI_pos' (by omega), Int32.lt_of_le_of_lt q4.2 (by decide)⟩
    · rw [if_neg c]; decide
  have h6 : (g6 T n S s).1 = false := Classical.byContradiction fun q => by
    have q2 : (g6 T n S s).1 = true := by simpa using q
    have : (g7 T n S s).1 = true := by unfold g7; rw [phR_t T n _ _ q2]; exact q2
    rw [this] at h; exact absurd h (by decide)
  have h5 : (g5 T n S s).1 = false := Classical.byContradiction fun q => by
    have q2 : (g5 T n S s).1 = true := by simpa using q
    have : (g6 T n S s).1 = true := by unfold g6; rw [phR_t T n _ _ q2]; exact q2
    rw [this] at h6; exact absurd h6 (by decide)
  have e5 : g5 T n S s = (false, (g5 T n S s).2) := by rw [← h5]
  refine (wf_new w h1 hk hr ?_ (hv6 (g5 T n S s).2 (by rw [← e5]; exact h6)) _ _ _).1
  show otV T n (nxt T n (nxt T n s)) = -1 ∨ _
  unfold otV
  by_cases h3 : isW T n (nxt T n (nxt T n s)) 7 = true
  · rw [if_pos h3]; exact Or.inl rfl
  · rw [if_neg h3]
    have h4 : otK T n (nI (rcN S) - 1) (numV T n (nxt T n s)) (nxt T n (nxt T n s)) := Classical.byContradiction fun q => by rw [g7_3 h1 h2 h3 q] at h; exact absurd (show true = false from h) (by decide)
    exact Or.inr ⟨_, rfl, ok_lt r6 h4.2, fun q => h4.1 ⟨h4.2.1, q⟩⟩
/-- an ITEM's ways -/
theorem it_room {T : Nat → Int32} {n : Nat} {X : Nat → Int32} {s : Nat} (h : isW T n s 0 = true) : itR T n X s = (!decide (rcN X < 6), rmP T n X s) ∧ itS T n X s = upd X 0 (nI (rcN X + 1)) := by
  unfold itR itS rmP
  have hz : ¬ ¬ (-1 : Int32) < 0 := by decide
  rw [knd_room h, if_neg hz, if_pos h, if_neg hz, if_pos h]
  refine ⟨?_, rfl⟩
  by_cases q : rcN X < 6
  · rw [decide_eq_true q, if_pos q]; rfl
  · rw [decide_eq_false q, if_neg q]; rfl
theorem it_gap {T : Nat → Int32} {n : Nat} {X : Nat → Int32} {s : Nat} (h : ¬ knd T n s < 0) : itR T n X s = g7 T n X s ∧ itS T n X s = gpS T n X (knd T n s) s := by
  unfold itR itS
  rw [if_pos h, if_pos h]; exact ⟨rfl, rfl⟩
theorem it_night {T : Nat → Int32} {n : Nat} {X : Nat → Int32} {s p : Nat} (h0 : ¬ isW T n s 0 = true) (h1 : knd T n s < 0) (hp : p = 0 ∨ p = 1 ∨ p = 4) (h2 : prt T n s = nI p) : itR T n X s = (!decide (okN T n (nxt T n s) (tbM p)), tnP T n (tbM p) (nxt T n s)) ∧ itS T n X s = upd X (2 + p) (nI (numV T n (nxt T n s))) := by
  have hb : bstN (nI p) = p := bst_n (by omega)
  unfold itR itS
  have hz : ¬ ¬ knd T n s < 0 := fun z => z h1
  rw [if_neg hz, if_neg h0, if_neg hz, if_neg h0, h2, hb]
  refine ⟨?_, rfl⟩
  have hm : (if nI p = 0 then (40 : Int32) else 99) = tbM p := by rcases hp with rfl | rfl | rfl <;> decide
  rw [hm, decide_eq_true (nI_pos (by omega)), ndR_g, nmR_p]
theorem it_none {T : Nat → Int32} {n : Nat} {X : Nat → Int32} {s : Nat} (h0 : ¬ isW T n s 0 = true) (h1 : knd T n s < 0) (h2 : prt T n s < 0) : itR T n X s = (true, s) := by
  unfold itR
  rw [if_neg (fun z => z h1), if_neg h0, decide_eq_false (fun z => z h2), ndR_f, nmR_t T n _ rfl]
theorem it_ok_wf {T : Nat → Int32} {n : Nat} {X : Nat → Int32} {s : Nat} (w : wf X) (h : (itR T n X s).1 = false) : wf (itS T n X s) := by
  by_cases h0 : isW T n s 0 = true
  · rw [(it_room h0).2]
    rw [(it_room h0).1] at h
    exact wf_rm1 w (by simpa using h)
  by_cases h1 : knd T n s < 0
  · rcases prt_c T n s with q | ⟨p, hp, q⟩
    · rw [it_none h0 h1 (by rw [q]; decide)] at h; exact absurd (show true = false from h) (by decide)
    · rw [(it_night h0 h1 hp q).2]
      exact (wf_nt w (by omega) (by omega) (by omega) _).1
  · rw [(it_gap h1).2]
    rw [(it_gap h1).1] at h
    refine gp_wf w ?_ h
    rcases knd_c T n s with q | ⟨k, hk, q⟩
    · rw [q] at h1; exact absurd (by decide) h1
    · rw [q]; exact ⟨nI_pos' (by omega), (nI_ltI (b := 6) (by omega) (by decide)).mpr hk⟩
theorem itR_b {T : Nat → Int32} {n : Nat} {X : Nat → Int32} {s : Nat} (hs : s ≤ n) : s ≤ (itR T n X s).2 ∧ (itR T n X s).2 ≤ n := by
  have a := nxt_b (T := T) hs
  by_cases h0 : isW T n s 0 = true
  · rw [(it_room h0).1]
    show s ≤ rmP T n X s ∧ rmP T n X s ≤ n
    unfold rmP
    by_cases q : rcN X < 6
    · rw [if_pos q]; exact a
    · rw [if_neg q]; exact ⟨Nat.le_refl _, hs⟩
  by_cases h1 : knd T n s < 0
  · rcases prt_c T n s with q | ⟨p, hp, q⟩
    · rw [it_none h0 h1 (by rw [q]; decide)]; exact ⟨Nat.le_refl _, hs⟩
    · rw [(it_night h0 h1 hp q).1]
      have b := tnP_b (T := T) (m := tbM p) a.2
      exact ⟨Nat.le_trans a.1 b.1, b.2⟩
  · rw [(it_gap h1).1, g7_ms]
    have b1 : s ≤ (g1 T n X s).2 ∧ (g1 T n X s).2 ≤ n := ndR_b (r := (false, s)) hs
    have b2 := nmR_b (T := T) (m := nI (rcN X) - 1) b1.2
    have b3 : (g2 T n X s).2 ≤ (g3 T n X s).2 ∧ (g3 T n X s).2 ≤ n := by
      unfold g3 otR
      have c1 := ndR_b (T := T) (p := true) b2.2
      have c2 := nmR_b (T := T) (m := nI (rcN X) - 1) b2.2
      by_cases q1 : (g2 T n X s).1 = true
      · rw [if_pos q1]; exact ⟨Nat.le_refl _, b2.2⟩
      rw [if_neg q1]
      by_cases q2 : isW T n (g2 T n X s).2 7 = true
      · rw [if_pos q2]; exact c1
      rw [if_neg q2]
      by_cases q3 : isD (bt T n (g2 T n X s).2) ∧ numV T n (g2 T n X s).2 = numV T n (g1 T n X s).2
      · rw [if_pos q3]; exact ⟨Nat.le_refl _, b2.2⟩
      rw [if_neg q3]; exact c2
    have b4 := msR_b (T := T) b3.2
    have b2' : (g1 T n X s).2 ≤ (g2 T n X s).2 ∧ (g2 T n X s).2 ≤ n := b2
    omega
theorem it_lt {T : Nat → Int32} {n : Nat} {X : Nat → Int32} {s : Nat} (h : (itR T n X s).1 = false) : s < n := by
  refine Classical.byContradiction fun q => ?_
  have hL : ¬ isL (bt T n s) := notL (by omega)
  have h0 : ¬ isW T n s 0 = true := fun z => hL (isW_L (by decide) z)
  rw [it_none h0 (by rw [knd_L hL]; decide) (by rw [prt_L hL]; decide)] at h
  exact absurd (show true = false from h) (by decide)
theorem it_adv {T : Nat → Int32} {n : Nat} {X : Nat → Int32} {s : Nat} (h : (itR T n X s).1 = false) : s < (itR T n X s).2 := by
  have hs := it_lt h
  have hx := nxt_lt (T := T) hs
  have hn := nxt_b (T := T) (show s ≤ n by omega)
  by_cases h0 : isW T n s 0 = true
  · rw [(it_room h0).1] at h ⊢
    have q : rcN X < 6 := by simpa using h
    show s < rmP T n X s
    unfold rmP; rw [if_pos q]; exact hx
  by_cases h1 : knd T n s < 0
  · rcases prt_c T n s with q | ⟨p, hp, q⟩
    · rw [it_none h0 h1 (by rw [q]; decide)] at h; exact absurd (show true = false from h) (by decide)
    · rw [(it_night h0 h1 hp q).1]
      have b := tnP_b (T := T) (m := tbM p) hn.2
      exact Nat.lt_of_lt_of_le hx b.1
  · rw [(it_gap h1).1] at h ⊢
    have c1 : gcN X < 20 := Classical.byContradiction fun q => by rw [g7_1 q] at h; exact absurd (show true = false from h) (by decide)
    have c2 : okN T n (nxt T n s) (nI (rcN X) - 1) := Classical.byContradiction fun q => by rw [g7_2 c1 q] at h; exact absurd (show true = false from h) (by decide)
    have n2 := nxt_b (T := T) hn.2
    have n3 := nxt_b (T := T) n2.2
    rw [g7_ms]
    by_cases c3 : isW T n (nxt T n (nxt T n s)) 7 = true
    · rw [g3_o c1 c2 c3]
      have := msR_b (T := T) (r := (false, nxt T n (nxt T n (nxt T n s)))) n3.2
      have := this.1
      show s < (msR T n (false, nxt T n (nxt T n (nxt T n s)))).2
      have e : (false, nxt T n (nxt T n (nxt T n s))).2 = nxt T n (nxt T n (nxt T n s)) := rfl
      omega
    · have c4 : otK T n (nI (rcN X) - 1) (numV T n (nxt T n s)) (nxt T n (nxt T n s)) := Classical.byContradiction fun q => by rw [g7_3 c1 c2 c3 q] at h; exact absurd (show true = false from h) (by decide)
      rw [g3_p c1 c2 c3 c4]
      have := msR_b (T := T) (r := (false, nxt T n (nxt T n (nxt T n s)))) n3.2
      have := this.1
      show s < (msR T n (false, nxt T n (nxt T n (nxt T n s)))).2
      have e : (false, nxt T n (nxt T n (nxt T n s))).2 = nxt T n (nxt T n (nxt T n s)) := rfl
      omega
def itT (T : Nat → Int32) (n : Nat) (X : Nat → Int32) (s : Nat) : Nat → Int32 := if (itR T n X s).1 = true then X else itS T n X s
/-- the telling behind an ITEM: wrong or not, where, how many items, the house -/
def tlF (T : Nat → Int32) (n : Nat) : Nat → Nat → Bool → Nat → (Nat → Int32) → Bool × Nat × Nat × (Nat → Int32)
  | 0, i, _, s, X => (true, s, 0, X)
  | f + 1, i, q, s, X => if q = true then (true, s, 0, X) else if n ≤ s then (false, s, i, X) else if ¬ bt T n s = 44 then (true, s, 0, X) else tlF T n f (i + 1) (itR T n X (nxt T n s)).1 (itR T n X (nxt T n s)).2 (itT T n X (nxt T n s))
theorem tlF_q {T : Nat → Int32} {n f i s : Nat} {X : Nat → Int32} : tlF T n (f + 1) i true s X = (true, s, 0, X) := by
  unfold tlF; rw [if_pos rfl]
theorem tlF_e {T : Nat → Int32} {n f i s : Nat} {X : Nat → Int32} (h : n ≤ s) : tlF T n (f + 1) i false s X = (false, s, i, X) := by
  unfold tlF; rw [if_neg (by decide), if_pos h]
theorem tlF_c {T : Nat → Int32} {n f i s : Nat} {X : Nat → Int32} (h : ¬ n ≤ s) (h4 : ¬ bt T n s = 44) : tlF T n (f + 1) i false s X = (true, s, 0, X) := by
  unfold tlF; rw [if_neg (by decide), if_neg h, if_pos h4]
theorem tlF_n {T : Nat → Int32} {n f i s : Nat} {X : Nat → Int32} (h : ¬ n ≤ s) (h4 : bt T n s = 44) : tlF T n (f + 1) i false s X = tlF T n f (i + 1) (itR T n X (nxt T n s)).1 (itR T n X (nxt T n s)).2 (itT T n X (nxt T n s)) := by
  show (if false = true then _ else if n ≤ s then _ else if ¬ bt T n s = 44 then _ else _) = _
  rw [if_neg (by decide), if_neg h, if_neg (fun z => z h4)]
theorem it_cases {T : Nat → Int32} {n : Nat} {X : Nat → Int32} {s : Nat} (w : wf X) : wf (itT T n X s) := by
  unfold itT
  by_cases h : (itR T n X s).1 = true
  · rw [if_pos h]; exact w
  · rw [if_neg h]; exact it_ok_wf w (by simpa using h)
theorem tlF_wf {T : Nat → Int32} {n : Nat} : ∀ f i q s X, wf X → wf (tlF T n f i q s X).2.2.2
  | 0, i, q, s, X, w => w
  | f + 1, i, q, s, X, w => by
    cases q with
    | true => rw [tlF_q]; exact w
    | false =>
      by_cases h : n ≤ s
      · rw [tlF_e h]; exact w
      · by_cases h4 : bt T n s = 44
        · rw [tlF_n h h4]; exact tlF_wf f _ _ _ _ (it_cases w)
        · rw [tlF_c h h4]; exact w
/-- all of it, from the tape's first token -/
def tlA (T : Nat → Int32) (n : Nat) (X : Nat → Int32) : Bool × Nat × Nat × (Nat → Int32) := tlF T n 200 1 (itR T n X (skp T n 0)).1 (itR T n X (skp T n 0)).2 (itT T n X (skp T n 0))
def hsV (T : Nat → Int32) (n : Nat) (X : Nat → Int32) : Int32 := if (tlA T n X).1 = true then -1 - nI (tlA T n X).2.1 else nI (tlA T n X).2.2.1
def hsS (T : Nat → Int32) (n : Nat) (X : Nat → Int32) : Nat → Int32 := if (tlA T n X).1 = true then X else (tlA T n X).2.2.2
theorem hsS_wf {T : Nat → Int32} {n : Nat} {X : Nat → Int32} (w : wf X) : wf (hsS T n X) := by
  unfold hsS
  by_cases h : (tlA T n X).1 = true
  · rw [if_pos h]; exact w
  · rw [if_neg h]; exact tlF_wf _ _ _ _ _ (it_cases w)
