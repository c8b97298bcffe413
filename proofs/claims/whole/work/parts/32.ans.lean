/-! the findings and the answers of the methods that everybody calls -/
def fd (k : Nat) : Int32 := -1000000001 - nI k
def fnd (C : Nat → Int32) (k : Nat) : Nat → Int32 := if k < 7 then upd C k (C k + 1) else C
def ans (k : Nat) (v : Int32) : Int32 := if k < 7 then fd k else v
theorem bst_n {j : Nat} (h : j < 2 ^ 31) : bstN (nI j) = j := nI_clamp h
theorem fnd_f {C : Nat → Int32} {k k' : Nat} (h : k = k') (hk : k' < 7) : upd C k' (C k' + 1) = fnd C k := by
  subst h; exact (if_pos hk).symm
theorem fnd_o {C : Nat → Int32} {k : Nat} (h : k = 7) : C = fnd C k := by
  subst h; rfl
theorem ans_f {x v : Int32} {k k' : Nat} (h : k = k') (hk : k' < 7) (hx : x = fd k') : x = ans k v := by
  subst h; subst hx; exact (if_pos hk).symm
theorem ans_o {x v : Int32} {k : Nat} (h : k = 7) (hx : x = v) : x = ans k v := by
  subst h; subst hx; rfl
def ux (x : Int32) : Nat := x.toUInt32.toNat
def cG (S : Nat → Int32) (g : Int32) : Nat := if 0 ≤ g ∧ g < S 1 then 7 else 0
def cR (S : Nat → Int32) (x : Int32) : Nat := if 0 ≤ x ∧ x < S 0 then 7 else 0
def cRoom (S : Nat → Int32) : Nat := if S 0 = 6 then 1 else 7
def cGap (S : Nat → Int32) (k r t o : Int32) : Nat :=
  if (0 ≤ k ∧ k < 6) ∧ (0 ≤ r ∧ r < S 0) ∧ (t = -1 ∨ (0 ≤ t ∧ t < S 0)) ∧ ¬ t = r ∧ (0 ≤ o ∧ o ≤ 999999) ∧ o / 100 - o / 100 / 10 * 10 < 4 then (if S 1 = 20 then 1 else 7) else 0
def gapS (S : Nat → Int32) (k r t o : Int32) : Nat → Int32 := newGap S (gcN S) k r t (o / 10000) (o / 1000 - o / 1000 / 10 * 10) (o / 100 - o / 100 / 10 * 10) (o - o / 100 * 100)
def cOf (S : Nat → Int32) (g w : Int32) : Nat := if (0 ≤ g ∧ g < S 1) ∧ (0 ≤ w ∧ w ≤ 9) then 7 else 0
def vOf (S : Nat → Int32) (j : Nat) (w : Int32) : Int32 :=
  if w < 8 then S (9 + 8 * j + bstN w) else if w = 8 then breadth S j else push S j
def cWidth (S : Nat → Int32) (g v : Int32) : Nat := if (0 ≤ g ∧ g < S 1) ∧ (0 ≤ v ∧ v ≤ 99) then 7 else 0
def cAs (S : Nat → Int32) (g k : Int32) : Nat := if (0 ≤ g ∧ g < S 1) ∧ (0 ≤ k ∧ k ≤ 5) then (if under (S (9 + 8 * bstN g)) k then 7 else 2) else 0
def cNight (w v : Int32) : Nat := if (0 ≤ w ∧ w ≤ 5) ∧ ((if w = 3 then -99 else 0) ≤ v ∧ v ≤ (if w = 0 then 40 else if w = 2 then 3 else if w = 5 then 100 else 99)) then 7 else 0
theorem rc_eq {S : Nat → Int32} (w : wf S) : S 0 = 6 ↔ rcN S = 6 := by
  have := wf_r6 w
  rw [wf_r w]; exact nI_eq (b := 6) (by omega) (by decide)
theorem gc_eq {S : Nat → Int32} (w : wf S) : S 1 = 20 ↔ gcN S = 20 := by
  have := wf_g20 w
  rw [wf_g w]; exact nI_eq (b := 20) (by omega) (by decide)
theorem nI_ge0 {x : Int32} (h : 0 ≤ x) : ∃ m, m < 2 ^ 31 ∧ x = nI m := by
  refine ⟨x.toInt.toNat, ?_, ?_⟩
  · have h1 := x.toInt_lt
    have := Int32.le_iff_toInt_le.mp h
    have e0 : (0 : Int32).toInt = 0 := by decide
    omega
  · apply Int32.toInt_inj.mp
    have := Int32.le_iff_toInt_le.mp h
    have e0 : (0 : Int32).toInt = 0 := by decide
    have h1 := x.toInt_lt
    rw [nI_toInt (by omega)]
    omega
theorem meas_le {o : Int32} (h : 0 ≤ o) : o / 10000 ≤ 99 ↔ o ≤ 999999 := by
  obtain ⟨n, hn, rfl⟩ := nI_ge0 h
  have e : nI n / 10000 = nI (n / 10000) := pk_div (d := 10000) hn (by decide) (by decide)
  rw [e, show (99 : Int32) = nI 99 from rfl, show (999999 : Int32) = nI 999999 from rfl, nI_leI (by omega) (by decide), nI_leI hn (by decide)]
  omega
theorem addG_h {S : Nat → Int32} {n : Nat} {k r t : Int32} (h : n < 20) : 0 ≤ nI n ∧ nI n < addG S n k r t 1 := by
  have e : addG S n k r t 1 = nI (n + 1) := by
    unfold addG
    rw [upd_n (by omega), upd_n (by omega), upd_n (by omega), upd_n (by omega), upd_s]
  rw [e]
  exact ⟨nI_pos' (by omega), (nI_ltI (by omega) (by omega)).mpr (by omega)⟩
theorem nI_rn {x : Int32} {n : Nat} (hn : n < 2 ^ 31) (h : 0 ≤ x ∧ x < nI n) : ∃ k, k < n ∧ x = nI k := by
  obtain ⟨m, hm, rfl⟩ := nI_ge0 h.1
  exact ⟨m, (nI_ltI hm hn).mp h.2, rfl⟩
theorem vOf_k (S : Nat → Int32) (j : Nat) {v : Nat} (h : v < 8) : vOf S j (nI v) = S (9 + v + 8 * j) := by
  unfold vOf
  rw [if_pos (show nI v < 8 from (nI_ltI (b := 8) (by omega) (by decide)).mpr h), bst_n (by omega)]
  congr 1; omega
theorem lt6 {k : Nat} (h : k < 6) : k = 0 ∨ k = 1 ∨ k = 2 ∨ k = 3 ∨ k = 4 ∨ k = 5 := by omega
theorem tb_L {k : Nat} (h : k < 6) : tbL k = if nI k = 3 then -99 else 0 := by
  rcases lt6 h with rfl | rfl | rfl | rfl | rfl | rfl <;> decide
theorem tb_M {k : Nat} (h : k < 6) : tbM k = if nI k = 0 then 40 else if nI k = 2 then 3 else if nI k = 5 then 100 else 99 := by
  rcases lt6 h with rfl | rfl | rfl | rfl | rfl | rfl <;> decide
