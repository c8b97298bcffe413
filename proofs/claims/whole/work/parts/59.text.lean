/-! the reference's telling: steps with its flag -/
theorem ndR_n {T : Nat → Int32} {n : Nat} {p : Bool} {r : Bool × Nat} (h : ¬ p = true) : ndR T n p r = (true, r.2) := by
  unfold ndR
  rw [if_pos (by simp [h])]
theorem ndR_y {T : Nat → Int32} {n : Nat} {p : Bool} {r : Bool × Nat} (h1 : ¬ r.1 = true) (h : p = true) : ndR T n p r = (false, nxt T n r.2) := by
  unfold ndR
  rw [if_neg (by simp [h, h1])]
theorem nm_g {T : Nat → Int32} {n : Nat} {m : Int32} {r : Bool × Nat} (h : ¬ r.1 = true) : ndR T n (decide (okN T n r.2 m)) r = nmR T n m r := by
  unfold nmR; rw [if_neg h]
theorem nm_ok {T : Nat → Int32} {n : Nat} {m : Int32} {r : Bool × Nat} (h : (nmR T n m r).1 = false) : r.1 = false ∧ okN T n r.2 m := by
  by_cases q : r.1 = true
  · rw [nmR_t T n m q, q] at h; exact absurd h (by decide)
  · rw [← nm_g q] at h
    refine ⟨by simpa using q, Classical.byContradiction fun z => ?_⟩
    rw [decide_eq_false z, ndR_n (by decide)] at h
    exact absurd (show true = false from h) (by decide)
theorem nd_ok {T : Nat → Int32} {n : Nat} {p : Bool} {r : Bool × Nat} (h : (ndR T n p r).1 = false) : r.1 = false ∧ p = true ∧ (ndR T n p r).2 = nxt T n r.2 := by
  by_cases q : r.1 = true
  · rw [ndR_t T n p q, q] at h; exact absurd h (by decide)
  · by_cases z : p = true
    · rw [ndR_y q z]; exact ⟨by simpa using q, z, rfl⟩
    · rw [ndR_n z] at h; exact absurd (show true = false from h) (by decide)
theorem ok_R {T : Nat → Int32} {n s : Nat} {m : Int32} (hm : m ≤ 999) (hD : isD (bt T n s)) : (0 ≤ nI (nvR T s (te T n s - s)) ∧ nI (nvR T s (te T n s - s)) ≤ m) ↔ okN T n s m := by
  have hb : nvR T s (te T n s - s) ≤ 9999 := nvR_le (n := n) _ (fun j a b => te_D_in hD j a (by omega))
  have h := num_le (T := T) (n := n) (s := s) hm
  constructor
  · rintro ⟨h1, h2⟩; exact ⟨hD, (h.mp ⟨h2, by omega⟩).1⟩
  · rintro ⟨h1, h2⟩; exact ⟨nI_pos' (by omega), (h.mpr ⟨h2, by omega⟩).1⟩
theorem num_same {T : Nat → Int32} {n s v : Nat} (hv : v ≤ 999) : nvR T s (te T n s - s) = v ↔ numV T n s = v := by
  have e : numV T n s = if nvR T s (te T n s - s) ≤ 999 then nvR T s (te T n s - s) else 1000 := nvC_R T s _
  by_cases q : nvR T s (te T n s - s) ≤ 999
  · rw [e, if_pos q]
  · rw [e, if_neg q]; omega
theorem ph_g {T : Nat → Int32} {n i : Nat} {m : Int32} {r : Bool × Nat} (h : r.1 = false ∧ isW T n r.2 i = true) : nmR T n m (ndR T n true r) = phR T n i m r := by
  unfold phR; rw [if_neg (by simp [h.1, h.2])]
theorem ph_x {T : Nat → Int32} {n i : Nat} {m : Int32} {r : Bool × Nat} (h : ¬ (r.1 = false ∧ isW T n r.2 i = true)) : r = phR T n i m r := by
  unfold phR
  rw [if_pos]
  by_cases q : r.1 = true
  · simp [q]
  · have q2 : r.1 = false := by simpa using q
    have : ¬ isW T n r.2 i = true := fun z => h ⟨q2, z⟩
    simp [this]
theorem pr_f {r : Bool × Nat} (h : r.1 = false) : r = (false, r.2) := by
  obtain ⟨a, b⟩ := r
  have : a = false := h
  subst this; rfl
theorem pr_t {r : Bool × Nat} (h : r.1 = true) : r = (true, r.2) := by
  obtain ⟨a, b⟩ := r
  have : a = true := h
  subst this; rfl
/-- whether the other side's number is the room's again -/
def smB (T : Nat → Int32) (n : Nat) (v : Nat) (r : Bool × Nat) : Bool := decide (r.1 = false ∧ isD (bt T n r.2) ∧ numV T n r.2 = v)
theorem ot_same {T : Nat → Int32} {n v : Nat} {m : Int32} {r : Bool × Nat} (h7 : ¬ (r.1 = false ∧ isW T n r.2 7 = true)) (h : smB T n v r = true) : nmR T n m (true, r.2) = otR T n m v r := by
  have z : r.1 = false ∧ isD (bt T n r.2) ∧ numV T n r.2 = v := of_decide_eq_true h
  have h0 : ¬ r.1 = true := by rw [z.1]; decide
  have h8 : ¬ isW T n r.2 7 = true := fun q => h7 ⟨z.1, q⟩
  unfold otR
  rw [if_neg h0, if_neg h8, if_pos z.2, nmR_t T n m rfl]
theorem ot_other {T : Nat → Int32} {n v : Nat} {m : Int32} {r : Bool × Nat} (h7 : ¬ (r.1 = false ∧ isW T n r.2 7 = true)) (h : ¬ smB T n v r = true) : nmR T n m r = otR T n m v r := by
  unfold otR
  by_cases h0 : r.1 = true
  · rw [if_pos h0, nmR_t T n m h0]
  · have h1 : r.1 = false := by simpa using h0
    rw [if_neg h0, if_neg (fun q => h7 ⟨h1, q⟩), if_neg (fun q => h (decide_eq_true ⟨h1, q⟩))]
theorem ot_out {T : Nat → Int32} {n v : Nat} {m : Int32} {r : Bool × Nat} (h7 : r.1 = false ∧ isW T n r.2 7 = true) : ndR T n true r = otR T n m v r := by
  unfold otR
  rw [if_neg (by rw [h7.1]; decide), if_pos h7.2]
theorem otR_b {T : Nat → Int32} {n v : Nat} {m : Int32} {r : Bool × Nat} (h : r.2 ≤ n) : r.2 ≤ (otR T n m v r).2 ∧ (otR T n m v r).2 ≤ n := by
  unfold otR
  by_cases q1 : r.1 = true
  · rw [if_pos q1]; exact ⟨Nat.le_refl _, h⟩
  rw [if_neg q1]
  by_cases q2 : isW T n r.2 7 = true
  · rw [if_pos q2]; exact ndR_b h
  rw [if_neg q2]
  by_cases q3 : isD (bt T n r.2) ∧ numV T n r.2 = v
  · rw [if_pos q3]; exact ⟨Nat.le_refl _, h⟩
  rw [if_neg q3]; exact nmR_b h
theorem ot_v {T : Nat → Int32} {n v : Nat} {m : Int32} {r : Bool × Nat} (h7 : ¬ (r.1 = false ∧ isW T n r.2 7 = true)) (h : (otR T n m v r).1 = false) : otV T n r.2 = nI (numV T n r.2) ∧ r.1 = false := by
  by_cases h0 : r.1 = true
  · rw [otR_t T n m v h0, h0] at h; exact absurd h (by decide)
  · have h1 : r.1 = false := by simpa using h0
    unfold otV
    rw [if_neg (fun q => h7 ⟨h1, q⟩)]
    exact ⟨rfl, h1⟩
/-- the night's item, any ITEM, under the flag -/
def ntR (T : Nat → Int32) (n : Nat) (r : Bool × Nat) : Bool × Nat := if r.1 then r else nmR T n (if prt T n r.2 = 0 then 40 else 99) (ndR T n (decide (¬ prt T n r.2 < 0)) r)
def imR (T : Nat → Int32) (n : Nat) (S : Nat → Int32) (r : Bool × Nat) : Bool × Nat := if r.1 then r else itR T n S r.2
def imS (T : Nat → Int32) (n : Nat) (S : Nat → Int32) (r : Bool × Nat) : Nat → Int32 := if r.1 then S else itT T n S r.2
theorem ntR_b {T : Nat → Int32} {n : Nat} {r : Bool × Nat} (h : r.2 ≤ n) : r.2 ≤ (ntR T n r).2 ∧ (ntR T n r).2 ≤ n := by
  unfold ntR
  by_cases q : r.1 = true
  · rw [if_pos q]; exact ⟨Nat.le_refl _, h⟩
  · rw [if_neg q]
    have a := ndR_b (T := T) (p := decide (¬ prt T n r.2 < 0)) h
    have b := nmR_b (T := T) (m := if prt T n r.2 = 0 then 40 else 99) a.2
    exact ⟨Nat.le_trans a.1 b.1, b.2⟩
theorem prt_0 {T : Nat → Int32} {n s : Nat} (h : isW T n s 11 = true) : prt T n s = 0 := by unfold prt; rw [if_pos h]
theorem prt_1 {T : Nat → Int32} {n s : Nat} (h0 : ¬ isW T n s 11 = true) (h : isW T n s 12 = true) : prt T n s = 1 := by unfold prt; rw [if_neg h0, if_pos h]
theorem prt_4 {T : Nat → Int32} {n s : Nat} (h0 : ¬ isW T n s 11 = true) (h1 : ¬ isW T n s 12 = true) (h : isW T n s 13 = true) : prt T n s = 4 := by unfold prt; rw [if_neg h0, if_neg h1, if_pos h]
theorem prt_n {T : Nat → Int32} {n s : Nat} (h0 : ¬ isW T n s 11 = true) (h1 : ¬ isW T n s 12 = true) (h : ¬ isW T n s 13 = true) : prt T n s = -1 := by unfold prt; rw [if_neg h0, if_neg h1, if_neg h]
theorem nt_g {T : Nat → Int32} {n : Nat} {r : Bool × Nat} {p m : Int32} (h : r.1 = false) (e : prt T n r.2 = p) (hp : decide (¬ p < 0) = true) (hm : (if p = 0 then (40 : Int32) else 99) = m) : nmR T n m (ndR T n true r) = ntR T n r := by
  unfold ntR
  rw [if_neg (by rw [h]; decide), e, hm, hp]
theorem nt_x {T : Nat → Int32} {n : Nat} {r : Bool × Nat} {m : Int32} (h : r.1 = true ∨ prt T n r.2 = -1) : nmR T n m (ndR T n false r) = ntR T n r ∧ (ntR T n r).1 = true := by
  have h1 : (ndR T n false r).1 = true := by
    by_cases q : r.1 = true
    · rw [ndR_t T n false q]; exact q
    · rw [ndR_n (by decide)]
  rw [nmR_t T n m h1]
  unfold ntR
  by_cases q : r.1 = true
  · rw [if_pos q, ndR_t T n false q]; exact ⟨rfl, q⟩
  · have e : prt T n r.2 = -1 := h.resolve_left q
    rw [if_neg q, e]
    have hz : decide (¬ (-1 : Int32) < 0) = false := by decide
    rw [hz, nmR_t T n _ h1]; exact ⟨rfl, h1⟩
theorem im_t {T : Nat → Int32} {n : Nat} {S : Nat → Int32} {r : Bool × Nat} (h : r.1 = true) : imR T n S r = r ∧ imS T n S r = S := by
  unfold imR imS; rw [if_pos h, if_pos h]; exact ⟨rfl, rfl⟩
theorem im_f {T : Nat → Int32} {n : Nat} {S : Nat → Int32} {r : Bool × Nat} (h : r.1 = false) : imR T n S r = itR T n S r.2 ∧ imS T n S r = itT T n S r.2 := by
  unfold imR imS; rw [if_neg (by rw [h]; decide), if_neg (by rw [h]; decide)]; exact ⟨rfl, rfl⟩
theorem imR_b {T : Nat → Int32} {n : Nat} {S : Nat → Int32} {r : Bool × Nat} (h : r.2 ≤ n) : r.2 ≤ (imR T n S r).2 ∧ (imR T n S r).2 ≤ n := by
  by_cases q : r.1 = true
  · rw [(im_t q).1]; exact ⟨Nat.le_refl _, h⟩
  · rw [(im_f (by simpa using q)).1]; exact itR_b h
theorem imS_wf {T : Nat → Int32} {n : Nat} {S : Nat → Int32} {r : Bool × Nat} (w : wf S) : wf (imS T n S r) := by
  by_cases q : r.1 = true
  · rw [(im_t q).2]; exact w
  · rw [(im_f (by simpa using q)).2]; exact it_cases w
theorem kndR_0 {T : Nat → Int32} {n : Nat} {r : Bool × Nat} (h : ¬ kndR T n r < 0) : r.1 = false ∧ kndR T n r = knd T n r.2 ∧ ¬ knd T n r.2 < 0 := by
  unfold kndR at h ⊢
  by_cases q : r.1 = true
  · rw [if_pos q] at h; exact absurd (by decide) h
  · rw [if_neg q] at h ⊢; exact ⟨by simpa using q, rfl, h⟩
theorem kndR_1 {T : Nat → Int32} {n : Nat} {r : Bool × Nat} (h : kndR T n r < 0) : r.1 = true ∨ (r.1 = false ∧ knd T n r.2 < 0) := by
  unfold kndR at h
  by_cases q : r.1 = true
  · exact Or.inl q
  · rw [if_neg q] at h; exact Or.inr ⟨by simpa using q, h⟩
/-- the house behind an ITEM, by its way -/
theorem im_gap {T : Nat → Int32} {n : Nat} {S : Nat → Int32} {r : Bool × Nat} (h : ¬ kndR T n r < 0) : g7 T n S r.2 = imR T n S r ∧ (if (g7 T n S r.2).1 = true then S else gpS T n S (kndR T n r) r.2) = imS T n S r := by
  obtain ⟨h1, h2, h3⟩ := kndR_0 h
  rw [(im_f h1).1, (im_f h1).2, h2]
  unfold itT
  rw [(it_gap (X := S) h3).1, (it_gap (X := S) h3).2]
  exact ⟨rfl, rfl⟩
theorem im_room {T : Nat → Int32} {n : Nat} {S : Nat → Int32} {r : Bool × Nat} (h1 : r.1 = false ∧ isW T n r.2 0 = true) : ndR T n (decide (rcN S < 6)) r = imR T n S r ∧ (if (ndR T n (decide (rcN S < 6)) r).1 = true then S else upd S 0 (nI (rcN S + 1))) = imS T n S r := by
  have e : ndR T n (decide (rcN S < 6)) r = itR T n S r.2 := by
    rw [(it_room h1.2).1, pr_f h1.1]
    show ndR T n (decide (rcN S < 6)) (false, r.2) = (!decide (rcN S < 6), rmP T n S r.2)
    unfold rmP
    by_cases q : rcN S < 6
    · rw [decide_eq_true q, if_pos q]; rfl
    · rw [decide_eq_false q, if_neg q]; rfl
  rw [(im_f h1.1).1, (im_f h1.1).2, e]
  unfold itT
  rw [(it_room (X := S) h1.2).2]
  exact ⟨rfl, rfl⟩
theorem im_night {T : Nat → Int32} {n : Nat} {S : Nat → Int32} {r : Bool × Nat} (h : kndR T n r < 0) (h0 : ¬ (r.1 = false ∧ isW T n r.2 0 = true)) : ntR T n r = imR T n S r ∧ (if (ntR T n r).1 = true then S else upd S (2 + bstN (prt T n r.2)) (nI (numV T n (nxt T n r.2)))) = imS T n S r := by
  rcases kndR_1 h with q | ⟨q, hk⟩
  · have e := nt_x (T := T) (n := n) (m := 0) (Or.inl q)
    rw [if_pos e.2, (im_t q).1, (im_t q).2]
    refine ⟨?_, rfl⟩
    unfold ntR; rw [if_pos q]
  · have h0' : ¬ isW T n r.2 0 = true := fun z => h0 ⟨q, z⟩
    have hz : ¬ ¬ knd T n r.2 < 0 := fun z => z hk
    have e : ntR T n r = itR T n S r.2 := by
      unfold ntR itR
      rw [if_neg (show ¬ r.1 = true by rw [q]; decide), if_neg hz, if_neg h0', ← pr_f q]
    rw [(im_f q).1, (im_f q).2, e]
    unfold itT itS
    rw [if_neg hz, if_neg h0']
    exact ⟨rfl, rfl⟩
