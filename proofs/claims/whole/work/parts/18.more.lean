/-! what a change leaves of a house; leans, widths, line, worst side -/
theorem can_upd {S : Nat → Int32} (h : can S) {d : Nat} {x : Int32} (hd : d < 169) (hx : (∀ g, d ≠ 16 + 8 * g) ∨ x = 0 ∨ x = 1) : can (upd S d x) := by
  refine ⟨fun k hk => by rw [upd_n (by omega)]; exact h.1 k hk, fun g => ?_⟩
  by_cases e : 16 + 8 * g = d
  · rw [e, upd_s]
    rcases hx with q | q
    · exact absurd e.symm (q g)
    · exact q
  · rw [upd_n e]; exact h.2 g
theorem wf_same {S T : Nat → Int32} (h : wf S) (hc : can T) (h0 : T 0 = S 0) (h1 : T 1 = S 1) (h4 : 0 ≤ T 4 ∧ T 4 < 4) (hg : ∀ g, T (9 + 8 * g) = S (9 + 8 * g) ∧ T (10 + 8 * g) = S (10 + 8 * g) ∧ T (11 + 8 * g) = S (11 + 8 * g) ∧ T (14 + 8 * g) = S (14 + 8 * g)) : wf T ∧ rcN T = rcN S ∧ gcN T = gcN S ∧ rmN T = rmN S ∧ otN T = otN S := by
  have e0 : rcN T = rcN S := by unfold rcN; rw [h0]
  have e1 : gcN T = gcN S := by unfold gcN; rw [h1]
  have e2 : rmN T = rmN S := funext fun g => by unfold rmN; rw [(hg g).2.1]
  have e3 : otN T = otN S := funext fun g => by unfold otN; rw [(hg g).2.2.1]
  refine ⟨⟨hc, ?_, ?_, ?_, ?_, ?_, h4⟩, e0, e1, e2, e3⟩
  · rw [h0, e0]; exact wf_r h
  · rw [e0]; exact wf_r6 h
  · rw [h1, e1]; exact wf_g h
  · rw [e1]; exact wf_g20 h
  · intro g q
    rw [e1] at q
    have := h.2.2.2.2.2.1 g q
    unfold gapOk at this ⊢
    rw [e0, e2, e3, (hg g).1, (hg g).2.1, (hg g).2.2.1, (hg g).2.2.2]
    exact this
theorem wf_wd {S : Nat → Int32} (h : wf S) {j : Nat} (hj : j < 20) (x : Int32) : wf (upd S (12 + 8 * j) x) ∧ rcN (upd S (12 + 8 * j) x) = rcN S ∧ gcN (upd S (12 + 8 * j) x) = gcN S ∧ rmN (upd S (12 + 8 * j) x) = rmN S ∧ otN (upd S (12 + 8 * j) x) = otN S :=
  wf_same h (can_upd (wf_can h) (by omega) (Or.inl (by omega))) (upd_n (by omega)) (upd_n (by omega)) (by rw [upd_n (by omega)]; exact wf_fr h) (fun g => ⟨upd_n (by omega), upd_n (by omega), upd_n (by omega), upd_n (by omega)⟩)
theorem wf_sh {S : Nat → Int32} (h : wf S) {j : Nat} (hj : j < 20) {x : Int32} (hx : x = 0 ∨ x = 1) : wf (upd S (16 + 8 * j) x) ∧ rcN (upd S (16 + 8 * j) x) = rcN S ∧ gcN (upd S (16 + 8 * j) x) = gcN S ∧ rmN (upd S (16 + 8 * j) x) = rmN S ∧ otN (upd S (16 + 8 * j) x) = otN S :=
  wf_same h (can_upd (wf_can h) (by omega) (Or.inr hx)) (upd_n (by omega)) (upd_n (by omega)) (by rw [upd_n (by omega)]; exact wf_fr h) (fun g => ⟨upd_n (by omega), upd_n (by omega), upd_n (by omega), upd_n (by omega)⟩)
theorem wf_nt {S : Nat → Int32} (h : wf S) {d : Nat} (h2 : 2 ≤ d) (h8 : d ≤ 8) (h4 : d ≠ 4) (x : Int32) : wf (upd S d x) ∧ rcN (upd S d x) = rcN S ∧ gcN (upd S d x) = gcN S ∧ rmN (upd S d x) = rmN S ∧ otN (upd S d x) = otN S :=
  wf_same h (can_upd (wf_can h) (by omega) (Or.inl (by omega))) (upd_n (by omega)) (upd_n (by omega)) (by rw [upd_n (fun q => h4 q.symm)]; exact wf_fr h) (fun g => ⟨upd_n (by omega), upd_n (by omega), upd_n (by omega), upd_n (by omega)⟩)
theorem wf_from {S : Nat → Int32} (h : wf S) {x : Int32} (hx : 0 ≤ x ∧ x < 4) : wf (upd S 4 x) ∧ rcN (upd S 4 x) = rcN S ∧ gcN (upd S 4 x) = gcN S ∧ rmN (upd S 4 x) = rmN S ∧ otN (upd S 4 x) = otN S :=
  wf_same h (can_upd (wf_can h) (by omega) (Or.inl (by omega))) (upd_n (by omega)) (upd_n (by omega)) (by rw [upd_s]; exact hx) (fun g => ⟨upd_n (by omega), upd_n (by omega), upd_n (by omega), upd_n (by omega)⟩)
theorem upd_upd (S : Nat → Int32) (d : Nat) (x y : Int32) : upd (upd S d x) d y = upd S d y := funext fun k => by
  by_cases h : k = d
  · subst h; rw [upd_s, upd_s]
  · rw [upd_n h, upd_n h, upd_n h]
theorem upd_back (S : Nat → Int32) (d : Nat) : upd S d (S d) = S := funext fun k => by
  by_cases h : k = d
  · subst h; rw [upd_s]
  · rw [upd_n h]
def lean (f : Int32) : Int32 :=
  if (if f < 0 then 0 - f else f) < 5 then 0
  else if f < 0 then 0 - (if 9 < (if f < 0 then 0 - f else f) / 20 + 1 then 9 else (if f < 0 then 0 - f else f) / 20 + 1)
  else (if 9 < (if f < 0 then 0 - f else f) / 20 + 1 then 9 else (if f < 0 then 0 - f else f) / 20 + 1)
def absI (f : Int32) : Int32 := if f < 0 then 0 - f else f
/-- counting, the first and the last -/
def cntN (p : Nat → Bool) : Nat → Nat
  | 0 => 0
  | n + 1 => if p n then cntN p n + 1 else cntN p n
theorem cntN_le (p : Nat → Bool) : ∀ n, cntN p n ≤ n
  | 0 => Nat.le_refl _
  | n + 1 => by unfold cntN; have := cntN_le p n; by_cases h : p n = true
                · rw [if_pos h]; omega
                · rw [if_neg h]; omega
def lowN (p : Nat → Bool) : Nat → Nat
  | 0 => 0
  | n + 1 => if p n then (if cntN p n = 0 then n else lowN p n) else lowN p n
def hiN (p : Nat → Bool) : Nat → Nat
  | 0 => 0
  | n + 1 => if p n then n else hiN p n
def okW (S : Nat → Int32) (j : Nat) (q : Int32) (w : Nat) : Bool := decide (lean (flow (upd S (12 + 8 * j) (nI w)) (PR (upd S (12 + 8 * j) (nI w))) j) = q)
def lineN (S : Nat → Int32) : Nat := fst1 (fun w => smokes (upd S 3 (nI w))) 100 0
theorem fst1_le (p : Nat → Bool) : ∀ f k, fst1 p f k ≤ k + f
  | 0, k => by unfold fst1; omega
  | f + 1, k => by
    unfold fst1
    by_cases h : p k = true
    · rw [if_pos h]; omega
    · rw [if_neg h]; have := fst1_le p f (k + 1); omega
def wrM (S : Nat → Int32) : Nat → Int32
  | 0 => -1
  | n + 1 => if wrM S n < lost (upd S 4 (nI n)) then lost (upd S 4 (nI n)) else wrM S n
def wrB (S : Nat → Int32) : Nat → Int32
  | 0 => 0
  | n + 1 => if wrM S n < lost (upd S 4 (nI n)) then nI n else wrB S n
theorem wid_f {p : Nat → Bool} {n : Nat} {x y : Int32} (h : p n = false) (hW : cntN p n ≠ 0 → x = nI (lowN p n) ∧ y = nI (hiN p n)) : cntN p (n + 1) ≠ 0 → x = nI (lowN p (n + 1)) ∧ y = nI (hiN p (n + 1)) := by
  intro h9
  simp only [cntN, lowN, hiN, h] at h9 ⊢
  exact hW h9
theorem wid_z {p : Nat → Bool} {n : Nat} (h : p n = true) (h0 : cntN p n = 0) : cntN p (n + 1) ≠ 0 → nI n = nI (lowN p (n + 1)) ∧ nI n = nI (hiN p (n + 1)) := by
  intro _
  simp [lowN, hiN, h, h0]
theorem wid_t {p : Nat → Bool} {n : Nat} {x y : Int32} (h : p n = true) (h0 : cntN p n ≠ 0) (hW : cntN p n ≠ 0 → x = nI (lowN p n) ∧ y = nI (hiN p n)) : cntN p (n + 1) ≠ 0 → x = nI (lowN p (n + 1)) ∧ nI n = nI (hiN p (n + 1)) := by
  intro _
  refine ⟨?_, ?_⟩
  · rw [(hW h0).1]; simp [lowN, h, h0]
  · simp [hiN, h]
theorem wid_c0 {k : Nat} (hk : k < 2 ^ 31) (h : nI k = 0) : k = 0 := (nI_eq (b := 0) hk (by decide)).mp h
theorem wid_c1 {k : Nat} (hk : k < 2 ^ 31) (h : ¬ nI k = 0) : k ≠ 0 := fun q => h (by rw [q]; rfl)
def lineR (S : Nat → Int32) : Int32 := if lineN S = 100 then -1 else nI (lineN S)
theorem lineR_at {S : Nat → Int32} {i : Nat} (hi : i < 100) (h : ∀ w, w < i → smokes (upd S 3 (nI w)) = false) (hs : smokes (upd S 3 (nI i)) = true) : nI i = lineR S := by
  have e : lineN S = i := fst1_eq 100 0 i (Nat.zero_le _) (by omega) (fun j _ q => h j q) (Or.inr hs)
  unfold lineR; rw [e, if_neg (by omega)]
theorem lineR_no {S : Nat → Int32} (h : ∀ w, w < 100 → smokes (upd S 3 (nI w)) = false) : (-1 : Int32) = lineR S := by
  have e : lineN S = 100 := fst1_eq 100 0 100 (Nat.zero_le _) (by omega) (fun j _ q => h j q) (Or.inl (by omega))
  unfold lineR; rw [e, if_pos rfl]
/-- the order: the next gap to stop, and what is lost then -/
def nsL (S : Nat → Int32) (had : Int32) : Nat → Int32
  | 0 => had
  | g + 1 => if (S (11 + 8 * g) = -1 ∧ S (16 + 8 * g) = 0 ∧ ¬ needed (S (9 + 8 * g))) ∧ lost (upd S (16 + 8 * g) 1) < nsL S had g ∧ smokes (upd S (16 + 8 * g) 1) = false then lost (upd S (16 + 8 * g) 1) else nsL S had g
def nsB (S : Nat → Int32) (had : Int32) : Nat → Int32
  | 0 => -1
  | g + 1 => if (S (11 + 8 * g) = -1 ∧ S (16 + 8 * g) = 0 ∧ ¬ needed (S (9 + 8 * g))) ∧ lost (upd S (16 + 8 * g) 1) < nsL S had g ∧ smokes (upd S (16 + 8 * g) 1) = false then nI g else nsB S had g
theorem nsB_ok (S : Nat → Int32) (had : Int32) : ∀ n, nsB S had n = -1 ∨ ∃ g, g < n ∧ nsB S had n = nI g ∧ S (16 + 8 * g) = 0
  | 0 => Or.inl rfl
  | n + 1 => by
    unfold nsB
    by_cases h : (S (11 + 8 * n) = -1 ∧ S (16 + 8 * n) = 0 ∧ ¬ needed (S (9 + 8 * n))) ∧ lost (upd S (16 + 8 * n) 1) < nsL S had n ∧ smokes (upd S (16 + 8 * n) 1) = false
    · rw [if_pos h]; exact Or.inr ⟨n, by omega, rfl, h.1.2.1⟩
    · rw [if_neg h]
      rcases nsB_ok S had n with q | ⟨g, q1, q2, q3⟩
      · exact Or.inl q
      · exact Or.inr ⟨g, by omega, q2, q3⟩
def bstN (x : Int32) : Nat := x.toNatClampNeg
theorem nsB_nat {S : Nat → Int32} {had : Int32} {n : Nat} (hn : n ≤ 20) (h : ¬ nsB S had n = -1) : nsB S had n = nI (bstN (nsB S had n)) ∧ bstN (nsB S had n) < n ∧ S (16 + 8 * bstN (nsB S had n)) = 0 := by
  rcases nsB_ok S had n with q | ⟨g, q1, q2, q3⟩
  · exact absurd q h
  · have e : bstN (nsB S had n) = g := by unfold bstN; rw [q2, nI_clamp (by omega)]
    rw [e]; exact ⟨q2, q1, q3⟩
theorem nsB_neg {S : Nat → Int32} {had : Int32} {n : Nat} (hn : n ≤ 20) : nsB S had n < 0 ↔ nsB S had n = -1 := by
  rcases nsB_ok S had n with q | ⟨g, q1, q2, q3⟩
  · rw [q]; decide
  · rw [q2]
    constructor
    · intro h; exact absurd h (nI_pos (by omega))
    · intro h
      have : nI g < 0 := by rw [h]; decide
      exact absurd this (nI_pos (by omega))
theorem sh_back {S : Nat → Int32} {g : Nat} (h : S (16 + 8 * g) = 0) : upd (upd S (16 + 8 * g) 1) (16 + 8 * g) 0 = S := by
  rw [upd_upd, ← h, upd_back]
/-- the houses and the losses along the order -/
def ordP (n : Nat) : Nat → (Nat → Int32) × Int32 → (Nat → Int32) × Int32
  | 0, q => q
  | k + 1, q => (upd (ordP n k q).1 (16 + 8 * bstN (nsB (ordP n k q).1 (ordP n k q).2 n)) 1, nsL (ordP n k q).1 (ordP n k q).2 n)
def ordS (S : Nat → Int32) (k : Nat) : Nat → Int32 := (ordP (gcN S) k (S, lost S)).1
def hadS (S : Nat → Int32) (k : Nat) : Int32 := (ordP (gcN S) k (S, lost S)).2
def stp (S : Nat → Int32) (k : Nat) : Int32 := nsB (ordS S k) (hadS S k) (gcN S)
theorem ordS_s (S : Nat → Int32) (k : Nat) : ordS S (k + 1) = upd (ordS S k) (16 + 8 * bstN (stp S k)) 1 := rfl
theorem hadS_s (S : Nat → Int32) (k : Nat) : hadS S (k + 1) = nsL (ordS S k) (hadS S k) (gcN S) := rfl
theorem ordS_wf {S : Nat → Int32} (w : wf S) : ∀ k, (∀ j, j < k → ¬ stp S j = -1) → wf (ordS S k) ∧ gcN (ordS S k) = gcN S
  | 0, _ => ⟨w, rfl⟩
  | k + 1, h => by
    have ih := ordS_wf w k (fun j q => h j (by omega))
    have hb := nsB_nat (wf_g20 w) (h k (by omega))
    have g20 := wf_g20 w
    have := wf_sh ih.1 (j := bstN (stp S k)) (x := 1) (by unfold stp; omega) (Or.inr rfl)
    rw [ordS_s]
    exact ⟨this.1, this.2.2.1.trans ih.2⟩
def ordK (S : Nat → Int32) : Nat := fst1 (fun k => decide (stp S k = -1)) 20 0
theorem ordK_eq {S : Nat → Int32} {k : Nat} (h1 : k ≤ 20) (h2 : ∀ j, j < k → ¬ stp S j = -1) (h3 : k = 20 ∨ stp S k = -1) : ordK S = k :=
  fst1_eq 20 0 k (Nat.zero_le _) (by omega) (fun j _ q => by simp [h2 j q]) (h3.elim (fun q => Or.inl (by omega)) (fun q => Or.inr (by simp [q])))
/-- the SHUT flags, copied one by one -/
theorem fil_can {S T : Nat → Int32} (hS : can S) (hT : can T) : fil (fun g => T (16 + 8 * g)) (fun g => S (16 + 8 * g)) 20 = fun g => T (16 + 8 * g) := funext fun g => by
  by_cases h : g < 20
  · exact fil_in h
  · rw [fil_out (by omega)]
    show S (16 + 8 * g) = T (16 + 8 * g)
    rw [hS.1 _ (by omega), hT.1 _ (by omega)]
