/-! AIR, as the reference tells it, and the class's sums ahead of the rounds -/
theorem vpc_i {c : ClassId} {n : Nat} {f g : Nat → Int32} (h : ∀ j, j < n → f j = g j) : vp_cell c (n, .inl f) = vp_cell c (n, .inl g) := by
  show arrV c n (fun j => .int (f j)) = arrV c n (fun j => .int (g j))
  unfold arrV
  congr 1
  apply congrArg
  funext j
  show Value.int (f j.val) = Value.int (g j.val)
  rw [h j.val j.isLt]
theorem cg_P {D : va_G} {cl : List vw_C} {ws ws' : va_W} {H : Heap} {k a : Nat} {c : ClassId} {n : Nat} {f g : Nat → Int32} (h : va_P D cl ws H) (hk : ws[k]? = some (a, .inl (c, n, .inl f))) (hfg : ∀ j, j < n → f j = g j) (hw : ws.set k (a, .inl (c, n, .inl g)) = ws') : va_P D cl ws' H := by
  subst hw
  intro i q hq
  by_cases e : i = k
  · subst e
    have hl := (List.getElem?_eq_some_iff.mp hk).1
    rw [List.getElem?_set_self hl] at hq
    cases hq
    have h1 := h i _ hk
    show H[a]? = some (vp_cell c (n, .inl g))
    rw [← vpc_i hfg]
    exact h1
  · rw [List.getElem?_set_ne (fun q => e q.symm)] at hq
    exact h i q hq
theorem cg_D {A : Nat → Prop} {ws ws' : va_W} {k a : Nat} {e0 e : va_E} (h : va_D A ws) (hk : ws[k]? = some (a, e0)) (hw : ws.set k (a, e) = ws') : va_D A ws' := by
  subst hw
  exact h.set hk
theorem row6 {P : Nat → Prop} (h0 : P 0) (h1 : P 1) (h2 : P 2) (h3 : P 3) (h4 : P 4) (h5 : P 5) {i : Nat} (hi : i < 6) : P i := by
  match i, hi with
  | 0, _ => exact h0
  | 1, _ => exact h1
  | 2, _ => exact h2
  | 3, _ => exact h3
  | 4, _ => exact h4
  | 5, _ => exact h5
def rcN (S : Nat → Int32) : Nat := (S 0).toNatClampNeg
def gcN (S : Nat → Int32) : Nat := (S 1).toNatClampNeg
def rmN (S : Nat → Int32) (g : Nat) : Nat := (S (10 + 8 * g)).toNatClampNeg
def otN (S : Nat → Int32) (g : Nat) : Nat := (S (11 + 8 * g)).toNatClampNeg
/-- a house as it can be -/
def gapOk (S : Nat → Int32) (n g : Nat) : Prop :=
  S (10 + 8 * g) = nI (rmN S g) ∧ rmN S g < n ∧ (S (11 + 8 * g) = -1 ∨ (S (11 + 8 * g) = nI (otN S g) ∧ otN S g < n ∧ otN S g ≠ rmN S g)) ∧ (0 ≤ S (9 + 8 * g) ∧ S (9 + 8 * g) < 6) ∧ (0 ≤ S (14 + 8 * g) ∧ S (14 + 8 * g) < 4)
def wf (S : Nat → Int32) : Prop := can S ∧ S 0 = nI (rcN S) ∧ rcN S ≤ 6 ∧ S 1 = nI (gcN S) ∧ gcN S ≤ 20 ∧ (∀ g, g < gcN S → gapOk S (rcN S) g) ∧ (0 ≤ S 4 ∧ S 4 < 4)
theorem wf_can {S : Nat → Int32} (h : wf S) : can S := h.1
theorem wf_r {S : Nat → Int32} (h : wf S) : S 0 = nI (rcN S) := h.2.1
theorem wf_r6 {S : Nat → Int32} (h : wf S) : rcN S ≤ 6 := h.2.2.1
theorem wf_g {S : Nat → Int32} (h : wf S) : S 1 = nI (gcN S) := h.2.2.2.1
theorem wf_g20 {S : Nat → Int32} (h : wf S) : gcN S ≤ 20 := h.2.2.2.2.1
theorem wf_rm {S : Nat → Int32} {g : Nat} (h : wf S) (hg : g < gcN S) : S (10 + 8 * g) = nI (rmN S g) := (h.2.2.2.2.2.1 g hg).1
theorem wf_rml {S : Nat → Int32} {g : Nat} (h : wf S) (hg : g < gcN S) : rmN S g < rcN S := (h.2.2.2.2.2.1 g hg).2.1
theorem wf_rm6 {S : Nat → Int32} {g : Nat} (h : wf S) (hg : g < gcN S) : rmN S g < 6 := Nat.lt_of_lt_of_le (wf_rml h hg) (wf_r6 h)
theorem wf_ot {S : Nat → Int32} {g : Nat} (h : wf S) (hg : g < gcN S) (hn : ¬ S (11 + 8 * g) = -1) : S (11 + 8 * g) = nI (otN S g) := by
  rcases (h.2.2.2.2.2.1 g hg).2.2.1 with q | q
  · exact absurd q hn
  · exact q.1
theorem wf_otl {S : Nat → Int32} {g : Nat} (h : wf S) (hg : g < gcN S) (hn : ¬ S (11 + 8 * g) = -1) : otN S g < rcN S := by
  rcases (h.2.2.2.2.2.1 g hg).2.2.1 with q | q
  · exact absurd q hn
  · exact q.2.1
theorem wf_ot6 {S : Nat → Int32} {g : Nat} (h : wf S) (hg : g < gcN S) (hn : ¬ S (11 + 8 * g) = -1) : otN S g < 6 := Nat.lt_of_lt_of_le (wf_otl h hg hn) (wf_r6 h)
theorem wf_on {S : Nat → Int32} {g : Nat} (h : wf S) (hg : g < gcN S) (hn : ¬ S (11 + 8 * g) = -1) : otN S g ≠ rmN S g := by
  rcases (h.2.2.2.2.2.1 g hg).2.2.1 with q | q
  · exact absurd q hn
  · exact q.2.2
theorem wf_kd {S : Nat → Int32} {g : Nat} (h : wf S) (hg : g < gcN S) : 0 ≤ S (9 + 8 * g) ∧ S (9 + 8 * g) < 6 := (h.2.2.2.2.2.1 g hg).2.2.2.1
theorem wf_sd {S : Nat → Int32} {g : Nat} (h : wf S) (hg : g < gcN S) : 0 ≤ S (14 + 8 * g) ∧ S (14 + 8 * g) < 4 := (h.2.2.2.2.2.1 g hg).2.2.2.2
theorem wf_fr {S : Nat → Int32} (h : wf S) : 0 ≤ S 4 ∧ S 4 < 4 := h.2.2.2.2.2.2
/-- generic: what has been laid from f, over what was there -/
def fil (f g : Nat → Int32) (i : Nat) : Nat → Int32 := fun j => if j < i then f j else g j
theorem fil_0 (f g : Nat → Int32) : g = fil f g 0 := funext fun j => by unfold fil; rw [if_neg (by omega)]
theorem fil_s (f g : Nat → Int32) (i : Nat) : upd (fil f g i) i (f i) = fil f g (i + 1) := funext fun j => by
  unfold fil upd
  grind
theorem fil_in {f g : Nat → Int32} {i j : Nat} (h : j < i) : fil f g i j = f j := if_pos h
theorem fil_out {f g : Nat → Int32} {i j : Nat} (h : i ≤ j) : fil f g i j = g j := if_neg (by omega)
def zI (i : Nat) (f : Nat → Int32) : Nat → Int32 := fun j => if j < i then 0 else f j
theorem zI_0 (f : Nat → Int32) : f = zI 0 f := funext fun j => by unfold zI; rw [if_neg (by omega)]
theorem zI_s (f : Nat → Int32) (i : Nat) : upd (zI i f) i 0 = zI (i + 1) f := funext fun j => by
  unfold zI upd
  grind
def zL (i : Nat) (L : Nat → Nat → Int32) : Nat → Nat → Int32 := fun r => if r < i then zI 6 (L r) else L r
theorem zL_0 (L : Nat → Nat → Int32) : L = zL 0 L := funext fun j => by unfold zL; rw [if_neg (by omega)]
theorem zL_r (L : Nat → Nat → Int32) {i k j : Nat} (hi : 6 ≤ i) (hk : k < 6) (hj : j < 6) : zL i L k j = 0 := by
  unfold zL zI
  rw [if_pos (by omega), if_pos hj]
theorem zL_i (L : Nat → Nat → Int32) (i : Nat) : zL i L = va_up (zL i L) i (zI 0 (L i)) := funext fun j => by
  unfold va_up
  by_cases h : j = i
  · subst h; rw [if_pos rfl, ← zI_0]; unfold zL; rw [if_neg (by omega)]
  · rw [if_neg h]
theorem va_up_up {α : Type} (f : Nat → α) (i : Nat) (x y : α) : va_up (va_up f i x) i y = va_up f i y := funext fun j => by
  unfold va_up
  by_cases h : j = i
  · rw [if_pos h, if_pos h]
  · rw [if_neg h, if_neg h, if_neg h]
theorem va_up_at {α : Type} (f : Nat → α) (i : Nat) (x : α) : va_up f i x i = x := if_pos rfl
theorem zL_m (L : Nat → Nat → Int32) (i o : Nat) : va_up (va_up (zL i L) i (zI o (L i))) i (upd (va_up (zL i L) i (zI o (L i)) i) o 0) = va_up (zL i L) i (zI (o + 1) (L i)) := by
  rw [va_up_up, va_up_at, zI_s]
theorem zL_s (L : Nat → Nat → Int32) {i o : Nat} (h : o = 6) : va_up (zL i L) i (zI o (L i)) = zL (i + 1) L := funext fun j => by
  subst h
  unfold va_up zL
  by_cases h : j = i
  · subst h; rw [if_pos rfl, if_pos (by omega)]
  · rw [if_neg h]
    by_cases q : j < i
    · rw [if_pos q, if_pos (by omega)]
    · rw [if_neg q, if_neg (by omega)]
/-- the class's rows -/
def gDv (S : Nat → Int32) : Nat → Nat → Int32
  | 0 => fun _ => 0
  | i + 1 => if S (11 + 8 * i) = -1 then upd (gDv S i) (rmN S i) (gDv S i (rmN S i) + breadth S i)
    else upd (upd (gDv S i) (rmN S i) (gDv S i (rmN S i) + breadth S i)) (otN S i) (upd (gDv S i) (rmN S i) (gDv S i (rmN S i) + breadth S i) (otN S i) + breadth S i)
def gSd (S : Nat → Int32) : Nat → Nat → Int32
  | 0 => fun _ => 0
  | i + 1 => if S (11 + 8 * i) = -1 then upd (gSd S i) (rmN S i) (gSd S i (rmN S i) + breadth S i * (8 * push S i)) else gSd S i
def gL1 (S : Nat → Int32) (i : Nat) (L : Nat → Nat → Int32) : Nat → Nat → Int32 := va_up L (rmN S i) (upd (L (rmN S i)) (otN S i) (L (rmN S i) (otN S i) + breadth S i))
def gL2 (S : Nat → Int32) (i : Nat) (L : Nat → Nat → Int32) : Nat → Nat → Int32 := va_up L (otN S i) (upd (L (otN S i)) (rmN S i) (L (otN S i) (rmN S i) + breadth S i))
def gL (S : Nat → Int32) : Nat → Nat → Nat → Int32
  | 0 => fun _ _ => 0
  | i + 1 => if S (11 + 8 * i) = -1 then gL S i else gL2 S i (gL1 S i (gL S i))
/-- generic rounds -/
def anyN (p : Nat → Bool) : Nat → Bool
  | 0 => false
  | n + 1 => anyN p n || p n
def lsm (b : Int32) (f : Nat → Int32) : Nat → Int32
  | 0 => b
  | n + 1 => lsm b f n + f n
def nxC (Sd Dv : Nat → Int32) (L : Nat → Nat → Int32) (n : Nat) (P : Nat → Int32) (r : Nat) : Int32 := if Dv r = 0 then 0 else lsm (Sd r) (fun o => L r o * P o) n / Dv r
def rndG (nx : (Nat → Int32) → Nat → Int32) (n : Nat) (P : Nat → Int32) : Nat → Int32 := fun r => if r < n then nx P r else P r
def chgG (nx : (Nat → Int32) → Nat → Int32) (n : Nat) (P : Nat → Int32) : Bool := anyN (fun r => decide (nx P r ≠ P r)) n
def itG (nx : (Nat → Int32) → Nat → Int32) (n : Nat) (P : Nat → Int32) : Nat → Nat → Int32
  | 0 => P
  | k + 1 => rndG nx n (itG nx n P k)
def fst1 (p : Nat → Bool) : Nat → Nat → Nat
  | 0, k => k
  | f + 1, k => if p k then k else fst1 p f (k + 1)
theorem fst1_eq {p : Nat → Bool} : ∀ (f k m : Nat), k ≤ m → m ≤ k + f → (∀ j, k ≤ j → j < m → p j = false) → (m = k + f ∨ p m = true) → fst1 p f k = m
  | 0, k, m, h1, h2, _, _ => by unfold fst1; omega
  | f + 1, k, m, h1, h2, h3, h4 => by
    unfold fst1
    by_cases e : k = m
    · subst e
      rcases h4 with h4 | h4
      · omega
      · rw [if_pos h4]
    · rw [if_neg (by rw [h3 k (Nat.le_refl _) (by omega)]; decide)]
      exact fst1_eq f (k + 1) m (by omega) (by omega) (fun j a b => h3 j (by omega) b) (h4.elim (fun q => Or.inl (by omega)) Or.inr)
def cntG (nx : (Nat → Int32) → Nat → Int32) (n : Nat) (P : Nat → Int32) : Nat := fst1 (fun k => !chgG nx n (itG nx n P k)) 60 0
theorem cntG_eq {nx : (Nat → Int32) → Nat → Int32} {n : Nat} {P : Nat → Int32} {k : Nat} (h1 : k ≤ 60) (h2 : ∀ j, j < k → chgG nx n (itG nx n P j) = true) (h3 : k = 60 ∨ chgG nx n (itG nx n P k) = false) : cntG nx n P = k :=
  fst1_eq 60 0 k (Nat.zero_le _) (by omega) (fun j _ hj => by rw [h2 j hj]; rfl) (h3.elim (fun q => Or.inl (by omega)) (fun q => Or.inr (by rw [q]; rfl)))
theorem anyN_f {p : Nat → Bool} : ∀ {n : Nat}, anyN p n = false → ∀ k, k < n → p k = false
  | 0, _, k, hk => absurd hk (Nat.not_lt_zero k)
  | n + 1, h, k, hk => by
    unfold anyN at h
    rw [Bool.or_eq_false_iff] at h
    by_cases e : k = n
    · subst e; exact h.2
    · exact anyN_f h.1 k (by omega)
theorem anyN_c {p q : Nat → Bool} : ∀ {n : Nat}, (∀ k, k < n → p k = q k) → anyN p n = anyN q n
  | 0, _ => rfl
  | n + 1, h => by unfold anyN; rw [anyN_c (fun k hk => h k (by omega)), h n (by omega)]
theorem rnd_same {nx : (Nat → Int32) → Nat → Int32} {n : Nat} {P : Nat → Int32} (h : chgG nx n P = false) : rndG nx n P = P := funext fun r => by
  unfold rndG
  by_cases q : r < n
  · rw [if_pos q]
    have := anyN_f h r q
    simpa using this
  · rw [if_neg q]
theorem rnd_cong {nx ny : (Nat → Int32) → Nat → Int32} {n : Nat} (h : ∀ P r, r < n → nx P r = ny P r) : rndG nx n = rndG ny n := funext fun P => funext fun r => by
  unfold rndG
  by_cases q : r < n
  · rw [if_pos q, if_pos q, h P r q]
  · rw [if_neg q, if_neg q]
theorem chg_cong {nx ny : (Nat → Int32) → Nat → Int32} {n : Nat} (h : ∀ P r, r < n → nx P r = ny P r) : chgG nx n = chgG ny n := funext fun P => by
  unfold chgG
  exact anyN_c (fun k hk => by rw [h P k hk])
theorem it_cong {nx ny : (Nat → Int32) → Nat → Int32} {n : Nat} (h : ∀ P r, r < n → nx P r = ny P r) (P : Nat → Int32) : itG nx n P = itG ny n P := funext fun k => by
  induction k with
  | zero => rfl
  | succ k ih => unfold itG; rw [ih, rnd_cong h]
theorem cnt_cong {nx ny : (Nat → Int32) → Nat → Int32} {n : Nat} (h : ∀ P r, r < n → nx P r = ny P r) (P : Nat → Int32) : cntG nx n P = cntG ny n P := by
  unfold cntG
  rw [it_cong h, chg_cong h]
theorem cpy_fil (f N P : Nat → Int32) (n : Nat) : va_cpy (fil f N n) P 0 0 n = fun r => if r < n then f r else P r := funext fun r => by
  by_cases h : r < n
  · rw [pk_cpy_in (Nat.zero_le _) (by omega), if_pos h, fil_in (by omega)]; congr 1; omega
  · rw [pk_cpy_out (Or.inr (by omega)), if_neg h]
/-- the reference's sums -/
def abv (S P : Nat → Int32) (r : Nat) : Nat → Int32
  | 0 => if r = 0 then 80 * S 5 else 0
  | g + 1 => if rmN S g = r then abv S P r g + breadth S g * (if S (11 + 8 * g) = -1 then 8 * push S g else P (otN S g))
    else if ¬ S (11 + 8 * g) = -1 ∧ otN S g = r then abv S P r g + breadth S g * P (rmN S g) else abv S P r g
def blw (S : Nat → Int32) (r : Nat) : Nat → Int32
  | 0 => 0
  | g + 1 => if rmN S g = r then blw S r g + breadth S g else if ¬ S (11 + 8 * g) = -1 ∧ otN S g = r then blw S r g + breadth S g else blw S r g
def asked (S P : Nat → Int32) (r : Nat) : Int32 := if blw S r (gcN S) = 0 then 0 else abv S P r (gcN S) / blw S r (gcN S)
theorem gDv_eq {S : Nat → Int32} (w : wf S) (r : Nat) : ∀ n, n ≤ gcN S → gDv S n r = blw S r n
  | 0, _ => rfl
  | n + 1, h => by
    have ih := gDv_eq w r n (by omega)
    unfold gDv blw
    by_cases ho : S (11 + 8 * n) = -1
    · rw [if_pos ho]
      by_cases hr : rmN S n = r
      · subst hr; rw [upd_s, if_pos rfl, ih]
      · rw [upd_n (fun q => hr q.symm), if_neg hr, if_neg (fun q => q.1 ho), ih]
    · rw [if_neg ho]
      have hne := wf_on w (by omega) ho
      by_cases hr : rmN S n = r
      · subst hr; rw [upd_n (fun q => hne q.symm), upd_s, if_pos rfl, ih]
      · by_cases h2 : otN S n = r
        · subst h2; rw [upd_s, upd_n hne, if_neg hr, if_pos ⟨ho, rfl⟩, ih]
        · rw [upd_n (fun q => h2 q.symm), upd_n (fun q => hr q.symm), if_neg hr, if_neg (fun q => h2 q.2), ih]
theorem lsm_upd (b : Int32) (f P : Nat → Int32) (k : Nat) (x : Int32) : ∀ n, lsm b (fun o => upd f k (f k + x) o * P o) n = lsm b (fun o => f o * P o) n + (if k < n then x * P k else 0)
  | 0 => by unfold lsm; rw [if_neg (by omega)]; simp
  | n + 1 => by
    unfold lsm
    rw [lsm_upd b f P k x n]
    by_cases h : k = n
    · subst h; rw [upd_s, if_neg (by omega), if_pos (by omega)]; grind
    · rw [upd_n (fun q => h q.symm)]
      by_cases q : k < n
      · rw [if_pos q, if_pos (by omega)]; grind
      · rw [if_neg q, if_neg (by omega)]; grind
theorem lsm_b (b : Int32) (f : Nat → Int32) : ∀ n, lsm b f n = b + lsm 0 f n
  | 0 => by unfold lsm; simp
  | n + 1 => by unfold lsm; rw [lsm_b b f n]; grind
theorem gL_eq {S : Nat → Int32} (w : wf S) (P : Nat → Int32) (r : Nat) : ∀ n, n ≤ gcN S → (gSd S n r + (if r = 0 then 80 * S 5 else 0)) + lsm 0 (fun o => gL S n r o * P o) (rcN S) = abv S P r n
  | 0, _ => by
    have : ∀ m, lsm 0 (fun o => gL S 0 r o * P o) m = 0 := fun m => by
      induction m with
      | zero => rfl
      | succ m ih => unfold lsm; rw [ih]; unfold gL; simp
    rw [this]; unfold gSd abv; simp
  | n + 1, h => by
    have ih := gL_eq w P r n (by omega)
    unfold gSd gL abv
    by_cases ho : S (11 + 8 * n) = -1
    · rw [if_pos ho, if_pos ho, if_pos ho]
      by_cases hr : rmN S n = r
      · subst hr; rw [upd_s, if_pos rfl, ← ih]; grind
      · rw [upd_n (fun q => hr q.symm), if_neg (show ¬ rmN S n = r from hr), if_neg (show ¬ (¬ S (11 + 8 * n) = -1 ∧ otN S n = r) from fun q => q.1 ho), ih]
    · rw [if_neg ho, if_neg ho, if_neg ho]
      have hne := wf_on w (by omega) ho
      have hne2 : ¬ rmN S n = otN S n := fun q => hne q.symm
      have hol := wf_otl w (by omega) ho
      have hrl := wf_rml w (g := n) (by omega)
      by_cases hr : rmN S n = r
      · subst hr
        rw [if_pos rfl, ← ih]
        have e : (fun o => gL2 S n (gL1 S n (gL S n)) (rmN S n) o * P o) = (fun o => upd (gL S n (rmN S n)) (otN S n) (gL S n (rmN S n) (otN S n) + breadth S n) o * P o) := by
          funext o; simp [gL2, gL1, va_up, hne2]
        rw [e, lsm_upd, if_pos hol]; grind
      · by_cases h2 : otN S n = r
        · subst h2
          rw [if_neg (show ¬ rmN S n = otN S n from hr), if_pos (show ¬ S (11 + 8 * n) = -1 ∧ otN S n = otN S n from ⟨ho, rfl⟩), ← ih]
          have e : (fun o => gL2 S n (gL1 S n (gL S n)) (otN S n) o * P o) = (fun o => upd (gL S n (otN S n)) (rmN S n) (gL S n (otN S n) (rmN S n) + breadth S n) o * P o) := by
            funext o; simp [gL2, gL1, va_up, hne]
          rw [e, lsm_upd, if_pos hrl]; grind
        · rw [if_neg (show ¬ rmN S n = r from hr), if_neg (show ¬ (¬ S (11 + 8 * n) = -1 ∧ otN S n = r) from fun q => h2 q.2), ← ih]
          have h2b : ¬ r = otN S n := fun q => h2 q.symm
          have hrb : ¬ r = rmN S n := fun q => hr q.symm
          have e : (fun o => gL2 S n (gL1 S n (gL S n)) r o * P o) = (fun o => gL S n r o * P o) := by
            funext o; simp [gL2, gL1, va_up, h2b, hrb]
          rw [e]
def gS0 (S : Nat → Int32) : Nat → Int32 := upd (gSd S (gcN S)) 0 (gSd S (gcN S) 0 + 80 * S 5)
theorem nx_asked {S : Nat → Int32} (w : wf S) (P : Nat → Int32) (r : Nat) : nxC (gS0 S) (gDv S (gcN S)) (gL S (gcN S)) (rcN S) P r = asked S P r := by
  unfold nxC asked
  rw [gDv_eq w r _ (Nat.le_refl _), lsm_b, ← gL_eq w P r _ (Nat.le_refl _)]
  have e : gS0 S r = gSd S (gcN S) r + (if r = 0 then 80 * S 5 else 0) := by
    unfold gS0
    by_cases h : r = 0
    · subst h; rw [upd_s, if_pos rfl]
    · rw [upd_n h, if_neg h]; simp
  rw [e]
def RC (S : Nat → Int32) : Nat := cntG (asked S) (rcN S) (fun _ => 0)
def PR (S : Nat → Int32) : Nat → Int32 := itG (asked S) (rcN S) (fun _ => 0) (RC S)
def flow (S P : Nat → Int32) (g : Nat) : Int32 := breadth S g * ((if S (11 + 8 * g) = -1 then 8 * push S g else P (otN S g)) - P (rmN S g)) / 80
def frs (S P : Nat → Int32) : Nat → Int32
  | 0 => 0
  | g + 1 => if S (11 + 8 * g) = -1 ∧ 0 < flow S P g then frs S P g + flow S P g else frs S P g
def smk (S P : Nat → Int32) : Nat → Bool
  | 0 => false
  | g + 1 => smk S P g || decide (0 ≤ flow S P g ∧ S (11 + 8 * g) = -1 ∧ S (16 + 8 * g) = 0 ∧ needed (S (9 + 8 * g)))
def fresh (S : Nat → Int32) : Int32 := frs S (PR S) (gcN S)
def lost (S : Nat → Int32) : Int32 := fresh S * S 2
def smokes (S : Nat → Int32) : Bool := smk S (PR S) (gcN S)
