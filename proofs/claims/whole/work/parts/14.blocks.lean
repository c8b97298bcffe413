/-! the blocks of cells: a plan by the reference's own row of 169 ints, AIR, the trials, the teller, a sheet, the reference -/
abbrev TY (cy : Nat → ClassId) : List (ClassId × FieldType) := [(cy 0, .int), (cy 1, .long), (cy 2, .boolean), (cy 3, .object "SmokeLeans$Sheet"), (cy 4, .array .int)]
abbrev ia (cy : Nat → ClassId) (q n : Nat) (f : Nat → Int32) : Nat × va_E := (q, .inl (cy 0, n, .inl f))
abbrev la (cy : Nat → ClassId) (q n : Nat) (f : Nat → Int64) : Nat × va_E := (q, .inl (cy 1, n, .inr (.inl f)))
abbrev za (cy : Nat → ClassId) (q n : Nat) (f : Nat → Int32) : Nat × va_E := (q, .inl (cy 2, n, .inl f))
abbrev pS (cy : Nat → ClassId) (a : Nat → Nat) (S : Nat → Int32) : va_W := [(a 0, .inr (1, [.int (S 0), .int (S 1), .ref (a 1), .ref (a 2), .ref (a 3), .ref (a 4), .ref (a 5), .ref (a 6), .ref (a 7), .ref (a 8), .ref (a 9), .int (S 8)])), (a 1, .inl (cy 0, 20, .inl (fun g => S (9 + 8 * g)))), (a 2, .inl (cy 0, 20, .inl (fun g => S (10 + 8 * g)))), (a 3, .inl (cy 0, 20, .inl (fun g => S (11 + 8 * g)))), (a 4, .inl (cy 0, 20, .inl (fun g => S (12 + 8 * g)))), (a 5, .inl (cy 0, 20, .inl (fun g => S (13 + 8 * g)))), (a 6, .inl (cy 0, 20, .inl (fun g => S (14 + 8 * g)))), (a 7, .inl (cy 0, 20, .inl (fun g => S (15 + 8 * g)))), (a 8, .inl (cy 2, 20, .inl (fun g => S (16 + 8 * g)))), (a 9, .inl (cy 0, 6, .inl (fun k => if k < 6 then S (2 + k) else 0)))]
abbrev aS (cy : Nat → ClassId) (b : Nat → Nat) (P F N B O Sd Dv : Nat → Int32) (L : Nat → Nat → Int32) (rc re fr lo sm : Int32) : va_W := [(b 0, .inr (0, [.ref (b 1), .ref (b 2), .int rc, .int re, .int fr, .int lo, .int sm, .ref (b 3), .ref (b 4), .ref (b 5), .ref (b 6), .ref (b 7), .ref (b 8)])), (b 1, .inl (cy 0, 6, .inl P)), (b 2, .inl (cy 0, 20, .inl F)), (b 3, .inl (cy 0, 6, .inl N)), (b 4, .inl (cy 0, 20, .inl B)), (b 5, .inl (cy 0, 20, .inl O)), (b 6, .inl (cy 0, 6, .inl Sd)), (b 7, .inl (cy 0, 6, .inl Dv)), (b 8, .inl (cy 4, 6, .inr (.inr (.inr (.inr (fun i => if i < 6 then some (b (9 + i)) else none)))))), (b 9, .inl (cy 0, 6, .inl (L 0))), (b 10, .inl (cy 0, 6, .inl (L 1))), (b 11, .inl (cy 0, 6, .inl (L 2))), (b 12, .inl (cy 0, 6, .inl (L 3))), (b 13, .inl (cy 0, 6, .inl (L 4))), (b 14, .inl (cy 0, 6, .inl (L 5)))]
abbrev sO (cy : Nat → ClassId) (h : Nat → Nat) (a : Nat → Nat) (k : Nat → Nat) (d : Nat → Nat) (b : Nat → Nat) (t : Nat → Nat) (e : Nat → Nat) (q : Nat → Nat) (ik : Int32) : Nat × va_E := (h 0, .inr (6, [.ref (a 0), .ref (k 0), .int ik, .ref (d 0), .ref (b 0), .ref (t 0), .ref (e 0), .ref (q 0), .ref (h 1)]))
abbrev tO (cy : Nat → ClassId) (t : Nat → Nat) (b : Nat → Nat) (a : Nat → Nat) (wc : Int32) (lw : Int32) (gw : Int32) (ss : Int32) (sl : Int32) (sc : Int32) (st : Int32) : Nat × va_E := (t 0, .inr (5, [.ref (b 0), .int wc, .int lw, .int gw, .int ss, .int sl, .int sc, .int st, .ref (t 1), .ref (t 2), .ref (a 0)]))
abbrev eO (cy : Nat → ClassId) (e : Nat → Nat) (sa : Int32) (en : Int32) (tk : Int32) (va : Int32) : Nat × va_E := (e 0, .inr (4, [.ref (e 1), .int sa, .int en, .int tk, .int va]))
abbrev pO (cy : Nat → ClassId) (e : Nat → Nat) (tl : Int32) : Nat × va_E := (e 1, .inr (3, [.ref (e 2), .int tl]))
abbrev hO (cy : Nat → ClassId) (o : Nat) (r : Nat) (bi : Int32) (si : Int32) : Nat × va_E := (o, .inr (2, [.ref r, .int bi, .int si]))
abbrev mO (cy : Nat → ClassId) (m : Nat → Nat) (ik : Int32) (tl : Int32) (fm : Int32) (to : Int32) (va : Int32) (iw : Int32) (rm : Int32) (rr : Int32) (om : Int32) : Nat × va_E := (m 0, .inr (7, [.ref (m 1), .ref (m 2), .ref (m 3), .ref (m 4), .int ik, .ref (m 5), .int tl, .int fm, .int to, .int va, .int iw, .ref (m 6), .ref (m 7), .int rm, .int rr, .ref (m 8), .ref (m 9), .int om, .ref (m 10), .ref (m 11), .ref (m 12), .ref (m 13), .ref (m 14)]))
theorem upd_s (f : Nat → Int32) (k : Nat) (x : Int32) : upd f k x k = x := if_pos rfl
theorem upd_n {f : Nat → Int32} {k j : Nat} {x : Int32} (h : j ≠ k) : upd f k x j = f j := if_neg h
/-- a row of one field of all gaps, when a place of the 169 is laid -/
theorem upd_row (S : Nat → Int32) (c d j : Nat) (x : Int32) (h : ∀ g, c + 8 * g ≠ d) : (fun g => upd S d x (c + 8 * g)) = (fun g => S (c + 8 * g)) := funext fun g => upd_n (h g)
theorem upd_own (S : Nat → Int32) (c j : Nat) (x : Int32) : (fun g => upd S (c + 8 * j) x (c + 8 * g)) = upd (fun g => S (c + 8 * g)) j x := funext fun g => by
  by_cases h : g = j
  · subst h; rw [upd_s, upd_s]
  · rw [upd_n h, upd_n (by omega)]
theorem upd_nt (S : Nat → Int32) (d : Nat) (x : Int32) (h : d < 2 ∨ 8 ≤ d) : (fun k => if k < 6 then upd S d x (2 + k) else 0) = (fun k => if k < 6 then S (2 + k) else 0) := funext fun k => by
  by_cases hk : k < 6
  · rw [if_pos hk, if_pos hk, upd_n (by omega)]
  · rw [if_neg hk, if_neg hk]
theorem upd_nt2 (S : Nat → Int32) {j : Nat} (x : Int32) (hj : j < 6) : (fun k => if k < 6 then upd S (2 + j) x (2 + k) else 0) = upd (fun k => if k < 6 then S (2 + k) else 0) j x := funext fun k => by
  by_cases h : k = j
  · subst h; rw [upd_s, if_pos hj, upd_s]
  · rw [upd_n h]
    by_cases hk : k < 6
    · rw [if_pos hk, if_pos hk, upd_n (by omega)]
    · rw [if_neg hk, if_neg hk]
theorem pS_f0 (cy : Nat → ClassId) (a : Nat → Nat) (S : Nat → Int32) (v : Int32) : (pS cy a S).set 0 (a 0, .inr (1, [.int v, .int (S 1), .ref (a 1), .ref (a 2), .ref (a 3), .ref (a 4), .ref (a 5), .ref (a 6), .ref (a 7), .ref (a 8), .ref (a 9), .int (S 8)])) = pS cy a (upd S 0 v) := by
  show [_, _, _, _, _, _, _, _, _, _] = [_, _, _, _, _, _, _, _, _, _]
  rw [upd_nt S 0 v (by omega)]
  rw [upd_row S 9 0 0 v (by omega)]
  rw [upd_row S 10 0 0 v (by omega)]
  rw [upd_row S 11 0 0 v (by omega)]
  rw [upd_row S 12 0 0 v (by omega)]
  rw [upd_row S 13 0 0 v (by omega)]
  rw [upd_row S 14 0 0 v (by omega)]
  rw [upd_row S 15 0 0 v (by omega)]
  rw [upd_row S 16 0 0 v (by omega)]
  simp only [upd_s, upd_n (show (0 : Nat) ≠ 1 by decide), upd_n (show (0 : Nat) ≠ 8 by decide), upd_n (show (1 : Nat) ≠ 0 by decide), upd_n (show (1 : Nat) ≠ 8 by decide), upd_n (show (8 : Nat) ≠ 0 by decide), upd_n (show (8 : Nat) ≠ 1 by decide)]
theorem pS_f1 (cy : Nat → ClassId) (a : Nat → Nat) (S : Nat → Int32) (v : Int32) : (pS cy a S).set 0 (a 0, .inr (1, [.int (S 0), .int v, .ref (a 1), .ref (a 2), .ref (a 3), .ref (a 4), .ref (a 5), .ref (a 6), .ref (a 7), .ref (a 8), .ref (a 9), .int (S 8)])) = pS cy a (upd S 1 v) := by
  show [_, _, _, _, _, _, _, _, _, _] = [_, _, _, _, _, _, _, _, _, _]
  rw [upd_nt S 1 v (by omega)]
  rw [upd_row S 9 1 0 v (by omega)]
  rw [upd_row S 10 1 0 v (by omega)]
  rw [upd_row S 11 1 0 v (by omega)]
  rw [upd_row S 12 1 0 v (by omega)]
  rw [upd_row S 13 1 0 v (by omega)]
  rw [upd_row S 14 1 0 v (by omega)]
  rw [upd_row S 15 1 0 v (by omega)]
  rw [upd_row S 16 1 0 v (by omega)]
  simp only [upd_s, upd_n (show (0 : Nat) ≠ 1 by decide), upd_n (show (0 : Nat) ≠ 8 by decide), upd_n (show (1 : Nat) ≠ 0 by decide), upd_n (show (1 : Nat) ≠ 8 by decide), upd_n (show (8 : Nat) ≠ 0 by decide), upd_n (show (8 : Nat) ≠ 1 by decide)]
theorem pS_f8 (cy : Nat → ClassId) (a : Nat → Nat) (S : Nat → Int32) (v : Int32) : (pS cy a S).set 0 (a 0, .inr (1, [.int (S 0), .int (S 1), .ref (a 1), .ref (a 2), .ref (a 3), .ref (a 4), .ref (a 5), .ref (a 6), .ref (a 7), .ref (a 8), .ref (a 9), .int v])) = pS cy a (upd S 8 v) := by
  show [_, _, _, _, _, _, _, _, _, _] = [_, _, _, _, _, _, _, _, _, _]
  rw [upd_nt S 8 v (by omega)]
  rw [upd_row S 9 8 0 v (by omega)]
  rw [upd_row S 10 8 0 v (by omega)]
  rw [upd_row S 11 8 0 v (by omega)]
  rw [upd_row S 12 8 0 v (by omega)]
  rw [upd_row S 13 8 0 v (by omega)]
  rw [upd_row S 14 8 0 v (by omega)]
  rw [upd_row S 15 8 0 v (by omega)]
  rw [upd_row S 16 8 0 v (by omega)]
  simp only [upd_s, upd_n (show (0 : Nat) ≠ 1 by decide), upd_n (show (0 : Nat) ≠ 8 by decide), upd_n (show (1 : Nat) ≠ 0 by decide), upd_n (show (1 : Nat) ≠ 8 by decide), upd_n (show (8 : Nat) ≠ 0 by decide), upd_n (show (8 : Nat) ≠ 1 by decide)]
theorem pS_a0 (cy : Nat → ClassId) (a : Nat → Nat) (S : Nat → Int32) (j : Nat) (v : Int32) : (pS cy a S).set 1 (a 1, .inl (cy 0, 20, .inl (upd (fun g => S (9 + 8 * g)) j v))) = pS cy a (upd S (9 + 8 * j) v) := by
  show [_, _, _, _, _, _, _, _, _, _] = [_, _, _, _, _, _, _, _, _, _]
  rw [upd_nt S (9 + 8 * j) v (by omega), upd_own S 9 j v]
  rw [upd_row S 10 (9 + 8 * j) 0 v (by omega)]
  rw [upd_row S 11 (9 + 8 * j) 0 v (by omega)]
  rw [upd_row S 12 (9 + 8 * j) 0 v (by omega)]
  rw [upd_row S 13 (9 + 8 * j) 0 v (by omega)]
  rw [upd_row S 14 (9 + 8 * j) 0 v (by omega)]
  rw [upd_row S 15 (9 + 8 * j) 0 v (by omega)]
  rw [upd_row S 16 (9 + 8 * j) 0 v (by omega)]
  rw [upd_n (show (0 : Nat) ≠ 9 + 8 * j by omega), upd_n (show (1 : Nat) ≠ 9 + 8 * j by omega), upd_n (show (8 : Nat) ≠ 9 + 8 * j by omega)]
theorem pS_a1 (cy : Nat → ClassId) (a : Nat → Nat) (S : Nat → Int32) (j : Nat) (v : Int32) : (pS cy a S).set 2 (a 2, .inl (cy 0, 20, .inl (upd (fun g => S (10 + 8 * g)) j v))) = pS cy a (upd S (10 + 8 * j) v) := by
  show [_, _, _, _, _, _, _, _, _, _] = [_, _, _, _, _, _, _, _, _, _]
  rw [upd_nt S (10 + 8 * j) v (by omega), upd_own S 10 j v]
  rw [upd_row S 9 (10 + 8 * j) 0 v (by omega)]
  rw [upd_row S 11 (10 + 8 * j) 0 v (by omega)]
  rw [upd_row S 12 (10 + 8 * j) 0 v (by omega)]
  rw [upd_row S 13 (10 + 8 * j) 0 v (by omega)]
  rw [upd_row S 14 (10 + 8 * j) 0 v (by omega)]
  rw [upd_row S 15 (10 + 8 * j) 0 v (by omega)]
  rw [upd_row S 16 (10 + 8 * j) 0 v (by omega)]
  rw [upd_n (show (0 : Nat) ≠ 10 + 8 * j by omega), upd_n (show (1 : Nat) ≠ 10 + 8 * j by omega), upd_n (show (8 : Nat) ≠ 10 + 8 * j by omega)]
theorem pS_a2 (cy : Nat → ClassId) (a : Nat → Nat) (S : Nat → Int32) (j : Nat) (v : Int32) : (pS cy a S).set 3 (a 3, .inl (cy 0, 20, .inl (upd (fun g => S (11 + 8 * g)) j v))) = pS cy a (upd S (11 + 8 * j) v) := by
  show [_, _, _, _, _, _, _, _, _, _] = [_, _, _, _, _, _, _, _, _, _]
  rw [upd_nt S (11 + 8 * j) v (by omega), upd_own S 11 j v]
  rw [upd_row S 9 (11 + 8 * j) 0 v (by omega)]
  rw [upd_row S 10 (11 + 8 * j) 0 v (by omega)]
  rw [upd_row S 12 (11 + 8 * j) 0 v (by omega)]
  rw [upd_row S 13 (11 + 8 * j) 0 v (by omega)]
  rw [upd_row S 14 (11 + 8 * j) 0 v (by omega)]
  rw [upd_row S 15 (11 + 8 * j) 0 v (by omega)]
  rw [upd_row S 16 (11 + 8 * j) 0 v (by omega)]
  rw [upd_n (show (0 : Nat) ≠ 11 + 8 * j by omega), upd_n (show (1 : Nat) ≠ 11 + 8 * j by omega), upd_n (show (8 : Nat) ≠ 11 + 8 * j by omega)]
theorem pS_a3 (cy : Nat → ClassId) (a : Nat → Nat) (S : Nat → Int32) (j : Nat) (v : Int32) : (pS cy a S).set 4 (a 4, .inl (cy 0, 20, .inl (upd (fun g => S (12 + 8 * g)) j v))) = pS cy a (upd S (12 + 8 * j) v) := by
  show [_, _, _, _, _, _, _, _, _, _] = [_, _, _, _, _, _, _, _, _, _]
  rw [upd_nt S (12 + 8 * j) v (by omega), upd_own S 12 j v]
  rw [upd_row S 9 (12 + 8 * j) 0 v (by omega)]
  rw [upd_row S 10 (12 + 8 * j) 0 v (by omega)]
  rw [upd_row S 11 (12 + 8 * j) 0 v (by omega)]
  rw [upd_row S 13 (12 + 8 * j) 0 v (by omega)]
  rw [upd_row S 14 (12 + 8 * j) 0 v (by omega)]
  rw [upd_row S 15 (12 + 8 * j) 0 v (by omega)]
  rw [upd_row S 16 (12 + 8 * j) 0 v (by omega)]
  rw [upd_n (show (0 : Nat) ≠ 12 + 8 * j by omega), upd_n (show (1 : Nat) ≠ 12 + 8 * j by omega), upd_n (show (8 : Nat) ≠ 12 + 8 * j by omega)]
theorem pS_a4 (cy : Nat → ClassId) (a : Nat → Nat) (S : Nat → Int32) (j : Nat) (v : Int32) : (pS cy a S).set 5 (a 5, .inl (cy 0, 20, .inl (upd (fun g => S (13 + 8 * g)) j v))) = pS cy a (upd S (13 + 8 * j) v) := by
  show [_, _, _, _, _, _, _, _, _, _] = [_, _, _, _, _, _, _, _, _, _]
  rw [upd_nt S (13 + 8 * j) v (by omega), upd_own S 13 j v]
  rw [upd_row S 9 (13 + 8 * j) 0 v (by omega)]
  rw [upd_row S 10 (13 + 8 * j) 0 v (by omega)]
  rw [upd_row S 11 (13 + 8 * j) 0 v (by omega)]
  rw [upd_row S 12 (13 + 8 * j) 0 v (by omega)]
  rw [upd_row S 14 (13 + 8 * j) 0 v (by omega)]
  rw [upd_row S 15 (13 + 8 * j) 0 v (by omega)]
  rw [upd_row S 16 (13 + 8 * j) 0 v (by omega)]
  rw [upd_n (show (0 : Nat) ≠ 13 + 8 * j by omega), upd_n (show (1 : Nat) ≠ 13 + 8 * j by omega), upd_n (show (8 : Nat) ≠ 13 + 8 * j by omega)]
theorem pS_a5 (cy : Nat → ClassId) (a : Nat → Nat) (S : Nat → Int32) (j : Nat) (v : Int32) : (pS cy a S).set 6 (a 6, .inl (cy 0, 20, .inl (upd (fun g => S (14 + 8 * g)) j v))) = pS cy a (upd S (14 + 8 * j) v) := by
  show [_, _, _, _, _, _, _, _, _, _] = [_, _, _, _, _, _, _, _, _, _]
  rw [upd_nt S (14 + 8 * j) v (by omega), upd_own S 14 j v]
  rw [upd_row S 9 (14 + 8 * j) 0 v (by omega)]
  rw [upd_row S 10 (14 + 8 * j) 0 v (by omega)]
  rw [upd_row S 11 (14 + 8 * j) 0 v (by omega)]
  rw [upd_row S 12 (14 + 8 * j) 0 v (by omega)]
  rw [upd_row S 13 (14 + 8 * j) 0 v (by omega)]
  rw [upd_row S 15 (14 + 8 * j) 0 v (by omega)]
  rw [upd_row S 16 (14 + 8 * j) 0 v (by omega)]
  rw [upd_n (show (0 : Nat) ≠ 14 + 8 * j by omega), upd_n (show (1 : Nat) ≠ 14 + 8 * j by omega), upd_n (show (8 : Nat) ≠ 14 + 8 * j by omega)]
theorem pS_a6 (cy : Nat → ClassId) (a : Nat → Nat) (S : Nat → Int32) (j : Nat) (v : Int32) : (pS cy a S).set 7 (a 7, .inl (cy 0, 20, .inl (upd (fun g => S (15 + 8 * g)) j v))) = pS cy a (upd S (15 + 8 * j) v) := by
  show [_, _, _, _, _, _, _, _, _, _] = [_, _, _, _, _, _, _, _, _, _]
  rw [upd_nt S (15 + 8 * j) v (by omega), upd_own S 15 j v]
  rw [upd_row S 9 (15 + 8 * j) 0 v (by omega)]
  rw [upd_row S 10 (15 + 8 * j) 0 v (by omega)]
  rw [upd_row S 11 (15 + 8 * j) 0 v (by omega)]
  rw [upd_row S 12 (15 + 8 * j) 0 v (by omega)]
  rw [upd_row S 13 (15 + 8 * j) 0 v (by omega)]
  rw [upd_row S 14 (15 + 8 * j) 0 v (by omega)]
  rw [upd_row S 16 (15 + 8 * j) 0 v (by omega)]
  rw [upd_n (show (0 : Nat) ≠ 15 + 8 * j by omega), upd_n (show (1 : Nat) ≠ 15 + 8 * j by omega), upd_n (show (8 : Nat) ≠ 15 + 8 * j by omega)]
theorem pS_a7 (cy : Nat → ClassId) (a : Nat → Nat) (S : Nat → Int32) (j : Nat) (v : Int32) : (pS cy a S).set 8 (a 8, .inl (cy 2, 20, .inl (upd (fun g => S (16 + 8 * g)) j v))) = pS cy a (upd S (16 + 8 * j) v) := by
  show [_, _, _, _, _, _, _, _, _, _] = [_, _, _, _, _, _, _, _, _, _]
  rw [upd_nt S (16 + 8 * j) v (by omega), upd_own S 16 j v]
  rw [upd_row S 9 (16 + 8 * j) 0 v (by omega)]
  rw [upd_row S 10 (16 + 8 * j) 0 v (by omega)]
  rw [upd_row S 11 (16 + 8 * j) 0 v (by omega)]
  rw [upd_row S 12 (16 + 8 * j) 0 v (by omega)]
  rw [upd_row S 13 (16 + 8 * j) 0 v (by omega)]
  rw [upd_row S 14 (16 + 8 * j) 0 v (by omega)]
  rw [upd_row S 15 (16 + 8 * j) 0 v (by omega)]
  rw [upd_n (show (0 : Nat) ≠ 16 + 8 * j by omega), upd_n (show (1 : Nat) ≠ 16 + 8 * j by omega), upd_n (show (8 : Nat) ≠ 16 + 8 * j by omega)]
theorem pS_nt (cy : Nat → ClassId) (a : Nat → Nat) (S : Nat → Int32) (j : Nat) (v : Int32) (hj : j < 6) : (pS cy a S).set 9 (a 9, .inl (cy 0, 6, .inl (upd (fun k => if k < 6 then S (2 + k) else 0) j v))) = pS cy a (upd S (2 + j) v) := by
  show [_, _, _, _, _, _, _, _, _, _] = [_, _, _, _, _, _, _, _, _, _]
  rw [upd_nt2 S v hj]
  rw [upd_row S 9 (2 + j) 0 v (by omega)]
  rw [upd_row S 10 (2 + j) 0 v (by omega)]
  rw [upd_row S 11 (2 + j) 0 v (by omega)]
  rw [upd_row S 12 (2 + j) 0 v (by omega)]
  rw [upd_row S 13 (2 + j) 0 v (by omega)]
  rw [upd_row S 14 (2 + j) 0 v (by omega)]
  rw [upd_row S 15 (2 + j) 0 v (by omega)]
  rw [upd_row S 16 (2 + j) 0 v (by omega)]
  rw [upd_n (show (0 : Nat) ≠ 2 + j by omega), upd_n (show (1 : Nat) ≠ 2 + j by omega), upd_n (show (8 : Nat) ≠ 2 + j by omega)]
abbrev pD (cy : Nat → ClassId) (a : Nat → Nat) (rc gc : Int32) (kd rm ot wd ht sd co sh nt : Nat → Int32) (z : Int32) : va_W := [(a 0, .inr (1, [.int rc, .int gc, .ref (a 1), .ref (a 2), .ref (a 3), .ref (a 4), .ref (a 5), .ref (a 6), .ref (a 7), .ref (a 8), .ref (a 9), .int z])), (a 1, .inl (cy 0, 20, .inl kd)), (a 2, .inl (cy 0, 20, .inl rm)), (a 3, .inl (cy 0, 20, .inl ot)), (a 4, .inl (cy 0, 20, .inl wd)), (a 5, .inl (cy 0, 20, .inl ht)), (a 6, .inl (cy 0, 20, .inl sd)), (a 7, .inl (cy 0, 20, .inl co)), (a 8, .inl (cy 2, 20, .inl sh)), (a 9, .inl (cy 0, 6, .inl nt))]
theorem nwa_int (c : ClassId) (n : Nat) : vp_cell c (n, .inl (fun _ => 0)) = arrV c n (fun _ => defaultValue .int) := rfl
theorem nwa_bool (c : ClassId) (n : Nat) : vp_cell c (n, .inl (fun _ => 0)) = arrV c n (fun _ => defaultValue .boolean) := rfl
theorem nwa_long (c : ClassId) (n : Nat) : vp_cell c (n, .inr (.inl (fun _ => 0))) = arrV c n (fun _ => defaultValue .long) := rfl
