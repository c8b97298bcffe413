/-! answers about AIR, the stick, what would be -/
def ansL (k : Nat) (v : Int64) : Int64 := if k < 7 then (fd k).toInt64 else v
theorem ansL_f {x v : Int64} {k k' : Nat} (h : k = k') (hk : k' < 7) (hx : x = (fd k').toInt64) : x = ansL k v := by
  subst h; subst hx; exact (if_pos hk).symm
theorem ansL_o {x v : Int64} {k : Nat} (h : k = 7) (hx : x = v) : x = ansL k v := by
  subst h; subst hx; rfl
def rst (S P : Nat → Int32) (k : Nat) : Nat → Int32
  | 0 => 0
  | g + 1 => if rmN S g = k then rst S P k g + flow S P g else if ¬ S (11 + 8 * g) = -1 ∧ otN S g = k then rst S P k g - flow S P g else rst S P k g
def cAir (x : Int32) : Nat := if 0 ≤ x ∧ x ≤ 3 then 7 else 0
def vAir (S : Nat → Int32) (x : Int32) : Int32 := if x = 0 then fresh S else if x = 1 then lost S else if x = 2 then b2i (smokes S = true) else b2i (RC S = 60)
/-- a draw -/
def drw (S : Nat → Int32) : Nat → Int32 := upd S 8 (S 8 * 1103515245 + 12345)
def drawV (z : Int32) : Int32 := (z.toUInt32 >>> ((8 : Int32).toUInt32 &&& Int32.toUInt32 31)).toInt32 - (z.toUInt32 >>> ((8 : Int32).toUInt32 &&& Int32.toUInt32 31)).toInt32 / 100 * 100
def seenV (S : Nat → Int32) (f : Int32) (j : Nat) : Int32 := if S (9 + 8 * j) = 1 ∨ drawV (drw S 8) < S 7 then 0 else lean f
theorem drw_n {S : Nat → Int32} {k : Nat} (h : k ≠ 8) : drw S k = S k := upd_n h
theorem flow_8 (S P : Nat → Int32) (x : Int32) (j : Nat) : flow (upd S 8 x) P j = flow S P j := by
  unfold flow breadth push windOn rmN otN
  rw [upd_n (show 16 + 8 * j ≠ 8 by omega), upd_n (show 9 + 8 * j ≠ 8 by omega), upd_n (show 12 + 8 * j ≠ 8 by omega), upd_n (show (6 : Nat) ≠ 8 by decide), upd_n (show 11 + 8 * j ≠ 8 by omega), upd_n (show (3 : Nat) ≠ 8 by decide), upd_n (show (4 : Nat) ≠ 8 by decide), upd_n (show 14 + 8 * j ≠ 8 by omega), upd_n (show (2 : Nat) ≠ 8 by decide), upd_n (show 13 + 8 * j ≠ 8 by omega), upd_n (show 10 + 8 * j ≠ 8 by omega)]
theorem drw_wf {S : Nat → Int32} (w : wf S) : wf (drw S) ∧ rcN (drw S) = rcN S ∧ gcN (drw S) = gcN S ∧ rmN (drw S) = rmN S ∧ otN (drw S) = otN S := wf_nt w (by decide) (by decide) (by decide) _
/-- which flow is greatest -/
def mst (F : Nat → Int32) : Nat → Nat
  | 0 => 0
  | g + 1 => if absI (F (mst F g)) < absI (F g) then g else mst F g
theorem mst_lt (F : Nat → Int32) : ∀ n, 0 < n → mst F n < n
  | 0, h => absurd h (Nat.lt_irrefl 0)
  | 1, _ => by
    unfold mst mst
    by_cases q : absI (F 0) < absI (F 0)
    · rw [if_pos q]; omega
    · rw [if_neg q]; omega
  | n + 2, _ => by
    have := mst_lt F (n + 1) (by omega)
    unfold mst
    by_cases q : absI (F (mst F (n + 1))) < absI (F (n + 1))
    · rw [if_pos q]; omega
    · rw [if_neg q]; omega
theorem mst_c {F T : Nat → Int32} : ∀ n, (∀ g, g < n → F g = T g) → mst F n = mst T n
  | 0, _ => rfl
  | n + 1, h => by
    unfold mst
    have ih := mst_c n (fun g hg => h g (by omega))
    rw [ih, h n (by omega)]
    by_cases q : 0 < n
    · rw [h (mst T n) (by have := mst_lt T n q; omega)]
    · have : n = 0 := by omega
      subst this
      rw [show mst T 0 = 0 from rfl, h 0 (by omega)]
def cMost (S : Nat → Int32) : Nat := if S 1 = 0 then 3 else 7
def cWidths (S : Nat → Int32) (g q w : Int32) : Nat := if (0 ≤ g ∧ g < S 1) ∧ (-9 ≤ q ∧ q ≤ 9) ∧ (0 ≤ w ∧ w ≤ 2) then (if w = 0 then 7 else if cntN (okW S (bstN g) q) 100 = 0 then 3 else 7) else 0
def vWidths (S : Nat → Int32) (j : Nat) (q w : Int32) : Int32 := if w = 0 then nI (cntN (okW S j q) 100) else if w = 1 then nI (lowN (okW S j q) 100) else nI (hiN (okW S j q) 100)
def cStop (S : Nat → Int32) (x co le w : Int32) : Nat := if stOk S (ux x) ∧ (0 ≤ co ∧ co ≤ 999) ∧ (0 ≤ le ∧ le ≤ 99999) ∧ (0 ≤ w ∧ w ≤ 2) then (if spB S (ux x) co le (2 ^ pop (ux x)) < 0 then 3 else 7) else 0
def vStop (S : Nat → Int32) (n : Nat) (co le w : Int32) : Int32 := if w = 0 then spB S n co le (2 ^ pop n) else if w = 1 then spL S n co le (2 ^ pop n) else cst S (bstN (spB S n co le (2 ^ pop n))) (gcN S)
def cOrder (S : Nat → Int32) (i : Int32) : Nat := if 0 ≤ i ∧ i ≤ 19 then (if bstN i < ordK S then 7 else 3) else 0
def cSaved (i : Int32) : Nat := if 0 ≤ i ∧ i ≤ 20 then 7 else 0
def cLine (S : Nat → Int32) : Nat := if lineN S = 100 then 3 else 7
def cAlone (S : Nat → Int32) (g h : Int32) : Nat := if (0 ≤ g ∧ g < S 1) ∧ (0 ≤ h ∧ h < S 1) ∧ ¬ g = h then 7 else 0
def without (S : Nat → Int32) (j : Nat) : Nat → Int32 := upd S (16 + 8 * j) 1
def vAlone (S : Nat → Int32) (g h : Nat) : Int32 := flow (without S h) (PR (without S h)) g - flow S (PR S) g
/-- the gaps that lean the other way -/
def trn (F T : Nat → Int32) : Nat → Int32
  | 0 => 0
  | g + 1 => if lean (F g) * lean (T g) < 0 then trn F T g ||| ((1 : Int32) <<< (nI g &&& 31)) else trn F T g
theorem trn_c {F T F' T' : Nat → Int32} : ∀ n, (∀ g, g < n → F g = F' g ∧ T g = T' g) → trn F T n = trn F' T' n
  | 0, _ => rfl
  | n + 1, h => by
    unfold trn
    rw [trn_c n (fun g hg => h g (by omega)), (h n (by omega)).1, (h n (by omega)).2]
theorem or_0 (x : Int32) : x ||| 0 = x := by
  apply Int32.toBitVec_inj.1
  show x.toBitVec ||| 0#32 = x.toBitVec
  simp
def vTurns (S : Nat → Int32) (j : Nat) : Int32 := trn (flow S (PR S)) (flow (without S j) (PR (without S j))) (gcN S)
theorem ux_n {m : Nat} (h : m < 2 ^ 32) : ux (nI m) = m := nI_u h
theorem abs_a (x : Int32) : (if 0 ≤ x then x else 0 - x) = absI x := by unfold absI; grind
def cCount (x : Int32) : Nat := if 0 ≤ x ∧ x ≤ 6 then 7 else 0
def vCount (S : Nat → Int32) (t : Nat) (x : Int32) : Int32 :=
  if x = 0 then S 0 else if x = 1 then S 1 else if x = 2 then sm (fun g => if S (16 + 8 * g) = 0 then 1 else 0) (gcN S) else if x = 3 then nI t else if x = 4 then S 8 else if x = 5 then sm (fun g => S (12 + 8 * g)) (gcN S) else sm (fun g => if S (16 + 8 * g) = 0 then S (15 + 8 * g) else 0) (gcN S)
def cStatus (x : Int32) : Nat := if -1 ≤ x ∧ x ≤ 6 then 7 else 0
def vStatus (C : Nat → Int32) (x : Int32) : Int32 := if x < 0 then sm C 7 else C (bstN x)
def onl (C : Nat → Int32) (w : Int32) : Nat → Int32
  | 0 => 0
  | k + 1 => onl C w k + (if w < 0 ∨ nI k = w then C k else 0)
theorem onl_neg {C : Nat → Int32} {w : Int32} (h : w < 0) : ∀ n, onl C w n = sm C n
  | 0 => rfl
  | n + 1 => by unfold onl sm; rw [onl_neg h n, if_pos (Or.inl h)]
theorem onl_at {C : Nat → Int32} {j : Nat} (hj : j < 7) : onl C (nI j) 7 = C j := by
  have h0 : ¬ nI j < 0 := nI_pos (by omega)
  have e : ∀ k, k < 7 → (nI k = nI j ↔ k = j) := fun k hk => nI_eq (by omega) (by omega)
  have hs : j = 0 ∨ j = 1 ∨ j = 2 ∨ j = 3 ∨ j = 4 ∨ j = 5 ∨ j = 6 := by omega
  simp only [onl, h0, false_or, e 0 (by decide), e 1 (by decide), e 2 (by decide), e 3 (by decide), e 4 (by decide), e 5 (by decide), e 6 (by decide)]
  rcases hs with rfl | rfl | rfl | rfl | rfl | rfl | rfl <;> simp
