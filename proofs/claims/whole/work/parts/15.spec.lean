/-! what the class and the reference answer, as functions of the 169 ints of a house -/
theorem sw_out {x : Int32} (lo hi : Int) (h : ∀ v : Int, lo ≤ v → v ≤ hi → x.toInt = v → False) : x.toInt < lo ∨ hi < x.toInt := by
  by_cases h1 : x.toInt < lo
  · exact Or.inl h1
  · by_cases h2 : hi < x.toInt
    · exact Or.inr h2
    · exact (h x.toInt (by omega) (by omega) rfl).elim
abbrev under (k t : Int32) : Prop := (0 ≤ k ∧ k < 6) ∧ (t = 0 ∨ t = k ∨ (k = 5 ∧ t = 2))
abbrev needed (k : Int32) : Prop := k = 2 ∨ k = 5
def sm (f : Nat → Int32) : Nat → Int32
  | 0 => 0
  | n + 1 => sm f n + f n
theorem kind_cases (k : Int32) : k = 0 ∨ k = 1 ∨ k = 2 ∨ k = 3 ∨ k = 4 ∨ k = 5 ∨ ¬ (0 ≤ k ∧ k < 6) := by
  by_cases h : 0 ≤ k ∧ k < 6
  · obtain ⟨n, hn, rfl⟩ := nI_of (x := k) (by have := h.1; rw [Int32.le_iff_toInt_le] at this; rw [Int32.lt_iff_toInt_lt]; omega)
    have h2 : n < 6 := (nI_ltI (b := 6) hn (by decide)).mp h.2
    have : n = 0 ∨ n = 1 ∨ n = 2 ∨ n = 3 ∨ n = 4 ∨ n = 5 := by omega
    rcases this with rfl | rfl | rfl | rfl | rfl | rfl <;> simp [nI] <;> decide
  · simp [h]
theorem under2 (k : Int32) : under k 2 ↔ needed k := by
  rcases kind_cases k with rfl | rfl | rfl | rfl | rfl | rfl | h
  · decide
  · decide
  · decide
  · decide
  · decide
  · decide
  · constructor
    · intro q; exact absurd q.1 h
    · rintro (rfl | rfl)
      · exact absurd (by decide) h
      · exact absurd (by decide) h
def breadth (S : Nat → Int32) (g : Nat) : Int32 :=
  if S (16 + 8 * g) = 0 then
    (if S (9 + 8 * g) = 1 then S (12 + 8 * g) / 2 else if S (9 + 8 * g) = 3 then S 6 else if S (9 + 8 * g) = 4 then (if S (11 + 8 * g) = -1 ∧ 0 < S 3 ∧ S 4 = S (14 + 8 * g) then 2 * S (12 + 8 * g) else S (12 + 8 * g)) else S (12 + 8 * g))
  else 0
/-- the wind on a side: the class's words -/
def windOn (S : Nat → Int32) (d : Int32) : Int32 :=
  if S 4 = d then S 3 else if S 4 = (d + 2) - (d + 2) / 4 * 4 then -(S 3 / 2) else -(S 3 / 4)
def push (S : Nat → Int32) (g : Nat) : Int32 :=
  if S (11 + 8 * g) = -1 then
    (if S (9 + 8 * g) = 5 then (S 2 * (5 - S (13 + 8 * g)) + windOn S (S (14 + 8 * g))) - 3 * S 2 else S 2 * (5 - S (13 + 8 * g)) + windOn S (S (14 + 8 * g)))
  else 0
/-- a row of 169 that is 0 outside -/
def can (S : Nat → Int32) : Prop := (∀ k, 169 ≤ k → S k = 0) ∧ ∀ g, S (16 + 8 * g) = 0 ∨ S (16 + 8 * g) = 1
def S0 : Nat → Int32 := fun k => if k = 2 then 10 else if k = 6 then 5 else if k = 8 then 1 else 0
theorem S0_row (c : Nat) (h : 9 ≤ c) : (fun g => S0 (c + 8 * g)) = (fun _ => 0) := funext fun g => by
  unfold S0; rw [if_neg (by omega), if_neg (by omega), if_neg (by omega)]
theorem can_S0 : can S0 := ⟨fun k h => by unfold S0; rw [if_neg (by omega), if_neg (by omega), if_neg (by omega)], fun g => Or.inl (congrFun (S0_row 16 (by omega)) g)⟩
theorem can_row {S T : Nat → Int32} (hS : can S) (hT : can T) (c : Nat) (hc : 9 ≤ c) : va_cpy (fun g => T (c + 8 * g)) (fun g => S (c + 8 * g)) 0 0 20 = fun g => T (c + 8 * g) := va_fill fun j hj => by rw [hT.1 _ (by omega), hS.1 _ (by omega)]
theorem can_nt {S T : Nat → Int32} : va_cpy (fun k => if k < 6 then T (2 + k) else 0) (fun k => if k < 6 then S (2 + k) else 0) 0 0 6 = fun k => if k < 6 then T (2 + k) else 0 := va_fill fun j hj => by rw [if_neg (by omega), if_neg (by omega)]
def newGap (S : Nat → Int32) (n : Nat) (k r t w h d c : Int32) : Nat → Int32 :=
  upd (upd (upd (upd (upd (upd (upd (upd (upd S (9 + 8 * n) k) (10 + 8 * n) r) (11 + 8 * n) t) (12 + 8 * n) w) (13 + 8 * n) h) (14 + 8 * n) d) (15 + 8 * n) c) (16 + 8 * n) 0) 1 (nI (n + 1))
def addG (S : Nat → Int32) (n : Nat) (k r t : Int32) : Nat → Int32 :=
  upd (upd (upd (upd (upd S 1 (nI (n + 1))) (9 + 8 * n) k) (10 + 8 * n) r) (11 + 8 * n) t) (16 + 8 * n) 0
def measG (S : Nat → Int32) (n : Nat) (w h d c : Int32) : Nat → Int32 :=
  upd (upd (upd (upd S (12 + 8 * n) w) (13 + 8 * n) h) (14 + 8 * n) d) (15 + 8 * n) c
theorem add_meas (S : Nat → Int32) (n : Nat) (k r t w h d c : Int32) : measG (addG S n k r t) n w h d c = newGap S n k r t w h d c := funext fun i => by
  unfold measG addG newGap upd
  grind
theorem S0_nt : (fun k => if k < 6 then S0 (2 + k) else 0) = upd (upd (upd (upd (upd (upd (fun _ => 0) 0 10) 1 0) 2 0) 3 0) 4 5) 5 0 := funext fun k => by
  unfold S0 upd
  grind
/-- the tape: n bytes T; a byte of it, -1 behind its end -/
def bt (T : Nat → Int32) (n k : Nat) : Int32 := if k < n then T k else -1
/-- a number of so many bits out of a long -/
def nrw (b : Int32) (v : Int64) : Int64 := if b = 8 then v.toInt32.toInt8.toInt32.toInt64 else if b = 16 then v.toInt32.toInt16.toInt32.toInt64 else v
def zer (i : Nat) (f : Nat → Int64) : Nat → Int64 := fun j => if j < i then 0 else f j
theorem zer_0 (f : Nat → Int64) : f = zer 0 f := funext fun j => by unfold zer; rw [if_neg (by omega)]
theorem zer_s (f : Nat → Int64) (i : Nat) : vp_updL (zer i f) i 0 = zer (i + 1) f := funext fun j => by
  unfold zer vp_updL
  grind
theorem zer_e {f : Nat → Int64} {i n : Nat} (hi : n ≤ i) (h : ∀ j, n ≤ j → f j = 0) : zer i f = fun _ => 0 := funext fun j => by
  unfold zer
  by_cases q : j < i
  · rw [if_pos q]
  · rw [if_neg q]; exact h j (by omega)
