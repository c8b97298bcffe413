/-! what the class and the reference answer, as functions of the 169 ints of a house -/
theorem sw_out {x : Int32} (lo hi : Int) (h : ∀ v : Int, lo ≤ v → v ≤ hi → x.toInt = v → False) : x.toInt < lo ∨ hi < x.toInt := by
  by_cases h1 : x.toInt < lo
  · exact Or.inl h1
  · by_cases h2 : hi < x.toInt
    · exact Or.inr h2
    · exact (h x.toInt (by omega) (by omega) rfl).elim
abbrev under (k t : Int32) : Prop := (0 ≤ k ∧ k < 6) ∧ (t = 0 ∨ t = k ∨ (k = 5 ∧ t = 2))
abbrev needed (k : Int32) : Prop := k = 2 ∨ k = 5
def sm (f : Nat → Int32) : Nat → Int32
  | 0 => 0
  | n + 1 => sm f n + f n
theorem kind_cases (k : Int32) : k = 0 ∨ k = 1 ∨ k = 2 ∨ k = 3 ∨ k = 4 ∨ k = 5 ∨ ¬ (0 ≤ k ∧ k < 6) := by
  by_cases h : 0 ≤ k ∧ k < 6
  · obtain ⟨n, hn, rfl⟩ := nI_of (x := k) (by have := h.1; rw [Int32.le_iff_toInt_le] at this; rw [Int32.lt_iff_toInt_lt]; omega)
    have h2 : n < 6 := (nI_ltI (b := 6) hn (by decide)).mp h.2
    have : n = 0 ∨ n = 1 ∨ n = 2 ∨ n = 3 ∨ n = 4 ∨ n = 5 := by omega
    rcases this with rfl | rfl | rfl | rfl | rfl | rfl <;> simp [nI] <;> decide
  · simp [h]
theorem under2 (k : Int32) : under k 2 ↔ needed k := by
  rcases kind_cases k with rfl | rfl | rfl | rfl | rfl | rfl | h
  · decide
  · decide
  · decide
  · decide
  · decide
  · decide
  · constructor
    · intro q; exact absurd q.1 h
    · rintro (rfl | rfl)
      · exact absurd (by decide) h
      · exact absurd (by decide) h
def breadth (S : Nat → Int32) (g : Nat) : Int32 :=
  if S (16 + 8 * g) = 0 then
    (if S (9 + 8 * g) = 1 then S (12 + 8 * g) / 2 else if S (9 + 8 * g) = 3 then S 6 else if S (9 + 8 * g) = 4 then (if S (11 + 8 * g) = -1 ∧ 0 < S 3 ∧ S 4 = S (14 + 8 * g) then 2 * S (12 + 8 * g) else S (12 + 8 * g)) else S (12 + 8 * g))
  else 0
/-- the wind on a side: the class's words -/
def windOn (S : Nat → Int32) (d : Int32) : Int32 :=
  if S 4 = d then S 3 else if S 4 = (d + 2) - (d + 2) / 4 * 4 then -(S 3 / 2) else -(S 3 / 4)
def push (S : Nat → Int32) (g : Nat) : Int32 :=
  if S (11 + 8 * g) = -1 then
    (if S (9 + 8 * g) = 5 then (S 2 * (5 - S (13 + 8 * g)) + windOn S (S (14 + 8 * g))) - 3 * S 2 else S 2 * (5 - S (13 + 8 * g)) + windOn S (S (14 + 8 * g)))
  else 0
