/-! the sheets, the tape, images: cells of their own, answers -/
abbrev qs (cy : Nat → ClassId) (q : Nat) (os : Nat → Nat) : Nat × va_E := (q, .inl (cy 3, 4, .inr (.inr (.inr (.inr (fun i => if i < 4 then some (os i) else none))))))
abbrev qa (cy : Nat → ClassId) (q n : Nat) (f : Nat → Option Nat) : Nat × va_E := (q, .inl (cy 3, n, .inr (.inr (.inr (.inr f)))))
section COPYL
variable {p : Program} {l : Launch} {e : Env} {R : Room} {s : State} {m : MethodId} {args : Array Value} {below : List Frame} {meth : Method} {c : Code} {H : Heap} {locs : List Loc} {cells slots : Nat} {Q : State → Prop}
variable {cc : ByteArray} {pc nL : Nat} {ls : Array Slot} {rest : List Value} {D : va_G} {A : Nat → Prop} {a : Nat} {tys : List (ClassId × FieldType)} {ws : va_W} {own : String} {H0 : Heap} {lvs : List (Nat × Value)}
theorem acpL (hexec : p.tables.exec = Jvm.exec) (hb : c.code = cc) (hml : c.maxLocals = nL) (hl : lv_has ls nL lvs) {own : String} {index : Nat} (hts : ∀ w ∈ wg, w.before args s = true) (hown : s.vm.findClass own = some m.cls) (hlink : (Cond.methodLink own index arraycopyName) ∈ wg) (hnat : (Cond.native arraycopyName) ∈ wg) (hstat : (Cond.static arraycopyName) ∈ wg) (hini : (Cond.initialized "java/lang/System") ∈ wg)
    (hK : va_K D vwCl tys s) (hP : va_P D vwCl ws H) (hD : va_D A ws) (hS : va_S A H0 H locs) (q0 q1 t0 : Nat) {a0 : Nat} {c0 : ClassId} {n0 n1 : Nat} {f g : Nat → Int64} (ha0 : ws[q0]? = some (a0, .inl (c0, n0, .inr (.inl f)))) (ha1 : ws[q1]? = some (a, .inl (c0, n1, .inr (.inl g)))) (ht0 : tys[t0]? = some (c0, .long))
    {x y z : Int32} (sp dp n : Nat) (hx : x = nI sp) (hy : y = nI dp) (hz : z = nI n) (h1 : sp < 2 ^ 31) (h2 : dp < 2 ^ 31) (h3 : n < 2 ^ 31) (h4 : sp + n ≤ n0) (h5 : dp + n ≤ n1) {ws' : va_W} (hw : ws.set q1 (a, .inl (c0, n1, .inr (.inl (va_cpy f g sp dp n)))) = ws')
    (hframes : 1 ≤ R.frames) (hlocals : (rest.map fun v => v.category).sum + (nativeFrameWords "java/lang/System" "arraycopy" 5 + 11) ≤ R.locals) (hdg : decode cc pc = .ok (.invokestatic index, 3))
    (kk : ∀ (H1 : Heap) (locs1 : List Loc), va_P D vwCl ws' H1 → va_D A ws' → va_S A H0 H1 locs1 → W p l e R s m args below meth c H1 locs1 cells slots Q (F0 m (pc + 3) ls rest)) : W p l e R s m args below meth c H locs cells slots Q (F0 m pc ls (.int z :: .int y :: .ref a :: .int x :: .ref a0 :: rest)) := by
  subst hx; subst hy; subst hz; subst hw
  refine va_copyl hexec hb (by rw [hml]; exact hl.1.symm) hown (hts _ hlink) (hts _ hnat) (hts _ hstat) (hts _ hini) hK hP hD hS q0 q1 t0 t0 ha0 ha1 ht0 ht0 rfl (nI_pos h1) (nI_pos h2) (nI_pos h3) (by rw [nI_clamp h1, nI_clamp h3]; exact h4) (by rw [nI_clamp h2, nI_clamp h3]; exact h5) (fun _ _ => rfl) hframes hlocals hdg ?_
  rw [nI_clamp h1, nI_clamp h2, nI_clamp h3]
  exact kk
theorem asq (hexec : p.tables.exec = Jvm.exec) (hb : c.code = cc) (hK : va_K D vwCl tys s) (hP : va_P D vwCl ws H) (hD : va_D A ws) (hS : va_S A H0 H locs) (q0 t0 qk ci : Nat) {cA : ClassId} {r : vw_C} {n v : Nat} {vs : List Value} {f : Nat → Option Nat} (ha : ws[q0]? = some (a, .inl (cA, n, .inr (.inr (.inr (.inr f)))))) (ht : tys[t0]? = some (cA, .object r.1)) (hv : ws[qk]? = some (v, .inr (ci, vs))) (hc : vwCl[ci]? = some r) {i : Int32} (j : Nat) (hi : i = nI j) (hj : j < n) (hn : n < 2 ^ 31) {ws' : va_W} (hw : ws.set q0 (a, .inl (cA, n, .inr (.inr (.inr (.inr (va_up f j (some v))))))) = ws') (hdg : decode cc pc = .ok (.aastore, 1))
    (kk : ∀ (H1 : Heap) (locs1 : List Loc), va_P D vwCl ws' H1 → va_D A ws' → va_S A H0 H1 locs1 → W p l e R s m args below meth c H1 locs1 cells slots Q (F0 m (pc + 1) ls rest)) : W p l e R s m args below meth c H locs cells slots Q (F0 m pc ls (.ref v :: .int i :: .ref a :: rest)) := by
  subst hi; subst hw
  have hcl : (nI j).toNatClampNeg = j := nI_clamp (by omega)
  refine va_astq hexec hb hK hP hD hS q0 t0 qk ci ha ht hv hc (vp_in_nI hj hn) hdg ?_
  rw [hcl]
  exact kk
end COPYL
theorem in3 {a : Int32} (h : 0 ≤ a ∧ a ≤ 3) : a = 0 ∨ a = 1 ∨ a = 2 ∨ a = 3 := in4 ⟨h.1, Int32.lt_of_le_of_lt h.2 (by decide)⟩
/-- the sheets as they can be: sizes, numbers behind the end -/
def shOk (si : Nat → Int32) (f : Nat → Nat → Int64) : Prop := ∀ i, i < 4 → si i = nI (bstN (si i)) ∧ bstN (si i) ≤ 40 ∧ ∀ j, 40 ≤ j → f i j = 0
def cSh (bi : Nat → Int32) (x : Int32) : Nat := if 0 ≤ x ∧ x ≤ 3 then (if bi (bstN x) = 0 then 5 else 7) else 0
def cLay (x b n : Int32) : Nat := if (0 ≤ x ∧ x ≤ 3) ∧ (b = 0 ∨ b = 8 ∨ b = 16 ∨ b = 64) then (if n < 0 then 6 else if 40 < n then 0 else 7) else 0
def cWrite (bi si : Nat → Int32) (x i : Int32) : Nat := if 0 ≤ x ∧ x ≤ 3 then (if bi (bstN x) = 0 then 5 else if 0 ≤ i ∧ i < si (bstN x) then 7 else 0) else 0
def rowOk (z from' n : Int32) : Prop := 0 ≤ from' ∧ 0 ≤ n ∧ n ≤ z ∧ from' ≤ z - n
def cCopy (bi si : Nat → Int32) (x y z w n : Int32) : Nat := if (0 ≤ x ∧ x ≤ 3) ∧ (0 ≤ z ∧ z ≤ 3) then (if bi (bstN x) = 0 ∨ bi (bstN z) = 0 then 5 else if ¬ bi (bstN x) = bi (bstN z) then 2 else if (0 ≤ y ∧ 0 ≤ n ∧ n ≤ si (bstN x) ∧ y ≤ si (bstN x) - n) ∧ (0 ≤ w ∧ 0 ≤ n ∧ n ≤ si (bstN z) ∧ w ≤ si (bstN z) - n) then 7 else 0) else 0
def drwN (S : Nat → Int32) : Nat → Nat → Int32
  | 0 => S
  | k + 1 => drw (drwN S k)
def seenK (S : Nat → Int32) (g : Nat) : Int32 := seenV (drwN S g) (flow S (PR S) g) g
def stkF (S : Nat → Int32) (f : Nat → Int64) : Nat → Nat → Int64
  | 0 => f
  | k + 1 => vp_updL (stkF S f k) k (seenK S k).toInt64
theorem stkF_k (S : Nat → Int32) (f : Nat → Int64) : ∀ n j, stkF S f n j = if j < n then (seenK S j).toInt64 else f j
  | 0, j => by rw [if_neg (by omega)]; rfl
  | n + 1, j => by
    unfold stkF vp_updL
    by_cases h : j = n
    · subst h; rw [if_pos rfl, if_pos (by omega)]
    · rw [if_neg h, stkF_k S f n j]
      by_cases q : j < n
      · rw [if_pos q, if_pos (by omega)]
      · rw [if_neg q, if_neg (by omega)]
theorem drwN_n (S : Nat → Int32) {k : Nat} (h : k ≠ 8) : ∀ n, drwN S n k = S k
  | 0 => rfl
  | n + 1 => by show drw (drwN S n) k = S k; rw [drw_n h, drwN_n S h n]
theorem drwN_wf {S : Nat → Int32} (w : wf S) : ∀ n, wf (drwN S n) ∧ rcN (drwN S n) = rcN S ∧ gcN (drwN S n) = gcN S
  | 0 => ⟨w, rfl, rfl⟩
  | n + 1 => by
    have ih := drwN_wf w n
    have := drw_wf ih.1
    exact ⟨this.1, this.2.1.trans ih.2.1, this.2.2.1.trans ih.2.2⟩
theorem drwN_flow (S P : Nat → Int32) (j : Nat) : ∀ n, flow (drwN S n) P j = flow S P j
  | 0 => rfl
  | n + 1 => by
    show flow (drw (drwN S n)) P j = flow S P j
    unfold drw
    rw [flow_8, drwN_flow S P j n]
theorem lt10 {k : Nat} (h : k < 10) : k = 0 ∨ k = 1 ∨ k = 2 ∨ k = 3 ∨ k = 4 ∨ k = 5 ∨ k = 6 ∨ k = 7 ∨ k = 8 ∨ k = 9 := by omega
theorem lean_L {a : Int32} (ha : 0 ≤ a) : ∃ k, k < 10 ∧ (if 9 < a / 20 + 1 then 9 else a / 20 + 1) = nI k := by
  obtain ⟨n, hn, rfl⟩ := nI_ge0 ha
  have e : nI n / 20 = nI (n / 20) := pk_div (d := 20) hn (by decide) (by decide)
  have e2 : nI n / 20 + 1 = nI (n / 20 + 1) := by rw [e]; exact nI_add _ 1
  rw [e2]
  by_cases q : 9 < nI (n / 20 + 1)
  · rw [if_pos q]; exact ⟨9, by decide, rfl⟩
  · rw [if_neg q]
    have := (nI_leI (b := 9) (by omega) (by decide)).mp (Int32.not_lt.mp q)
    exact ⟨_, by omega, rfl⟩
theorem lean_rng (f : Int32) : -9 ≤ lean f ∧ lean f ≤ 9 := by
  unfold lean
  by_cases h5 : (if f < 0 then 0 - f else f) < 5
  · rw [if_pos h5]; decide
  · rw [if_neg h5]
    have ha : 0 ≤ (if f < 0 then 0 - f else f) := Int32.le_trans (by decide) (Int32.not_lt.mp h5)
    obtain ⟨k, hk, e⟩ := lean_L ha
    rw [e]
    by_cases hf : f < 0
    · rw [if_pos hf]
      rcases lt10 hk with rfl | rfl | rfl | rfl | rfl | rfl | rfl | rfl | rfl | rfl <;> decide
    · rw [if_neg hf]
      rcases lt10 hk with rfl | rfl | rfl | rfl | rfl | rfl | rfl | rfl | rfl | rfl <;> decide
theorem nrw_8 : ∀ k, k < 19 → (nI k - 9).toInt64.toInt32.toInt8.toInt32.toInt64 = (nI k - 9).toInt64 := by decide +kernel
theorem nrw_16 : ∀ k, k < 19 → (nI k - 9).toInt64.toInt32.toInt16.toInt32.toInt64 = (nI k - 9).toInt64 := by decide +kernel
theorem rng19 {x : Int32} (h : -9 ≤ x ∧ x ≤ 9) : ∃ k, k < 19 ∧ x = nI k - 9 := by
  have h1 := Int32.le_iff_toInt_le.mp h.1
  have h2 := Int32.le_iff_toInt_le.mp h.2
  have e1 : (-9 : Int32).toInt = -9 := by decide
  have e2 : (9 : Int32).toInt = 9 := by decide
  refine ⟨(x.toInt + 9).toNat, by omega, ?_⟩
  apply Int32.toInt_inj.mp
  rw [Int32.toInt_sub, nI_toInt (by omega), e2, Int.bmod_eq_of_le (by omega) (by omega)]
  omega
theorem nrw_small {b x : Int32} (h : -9 ≤ x ∧ x ≤ 9) : nrw b x.toInt64 = x.toInt64 := by
  obtain ⟨k, hk, rfl⟩ := rng19 h
  unfold nrw
  by_cases h8 : b = 8
  · rw [if_pos h8]; exact nrw_8 k hk
  · rw [if_neg h8]
    by_cases h16 : b = 16
    · rw [if_pos h16]; exact nrw_16 k hk
    · rw [if_neg h16]
theorem seenV_rng (S : Nat → Int32) (f : Int32) (j : Nat) : -9 ≤ seenV S f j ∧ seenV S f j ≤ 9 := by
  unfold seenV
  by_cases h : S (9 + 8 * j) = 1 ∨ drawV (drw S 8) < S 7
  · rw [if_pos h]; decide
  · rw [if_neg h]; exact lean_rng f
def minN (a b : Nat) : Nat := if a < b then a else b
/-- widths out of a sheet -/
def lysS (f : Nat → Int64) (S : Nat → Int32) : Nat → Nat → Int32
  | 0 => S
  | g + 1 => if 0 ≤ f g ∧ f g ≤ 99 then upd (lysS f S g) (12 + 8 * g) (f g).toInt32 else lysS f S g
def lysC (f : Nat → Int64) : Nat → Nat
  | 0 => 0
  | g + 1 => if 0 ≤ f g ∧ f g ≤ 99 then lysC f g + 1 else lysC f g
theorem lysC_le (f : Nat → Int64) : ∀ n, lysC f n ≤ n
  | 0 => Nat.le_refl _
  | n + 1 => by
    unfold lysC; have := lysC_le f n
    by_cases h : 0 ≤ f n ∧ f n ≤ 99
    · rw [if_pos h]; omega
    · rw [if_neg h]; omega
theorem lysS_lo (f : Nat → Int64) (S : Nat → Int32) {k : Nat} (h : k < 9) : ∀ n, lysS f S n k = S k
  | 0 => rfl
  | n + 1 => by
    unfold lysS
    by_cases q : 0 ≤ f n ∧ f n ≤ 99
    · rw [if_pos q, upd_n (by omega), lysS_lo f S h n]
    · rw [if_neg q, lysS_lo f S h n]
theorem lysS_wf {S : Nat → Int32} (w : wf S) (f : Nat → Int64) : ∀ n, n ≤ 20 → wf (lysS f S n) ∧ rcN (lysS f S n) = rcN S ∧ gcN (lysS f S n) = gcN S
  | 0, _ => ⟨w, rfl, rfl⟩
  | n + 1, h => by
    have ih := lysS_wf w f n (by omega)
    unfold lysS
    by_cases q : 0 ≤ f n ∧ f n ≤ 99
    · rw [if_pos q]
      have := wf_wd ih.1 (j := n) (by omega) (f n).toInt32
      exact ⟨this.1, this.2.1.trans ih.2.1, this.2.2.1.trans ih.2.2⟩
    · rw [if_neg q]; exact ih
/-- the first number that isn't the gap's lean -/
def okR (S : Nat → Int32) (f : Nat → Int64) (g : Nat) : Bool := decide (g < gcN S ∧ f g = (lean (flow S (PR S) g)).toInt64)
def rdN (S : Nat → Int32) (f : Nat → Int64) (n : Nat) : Nat := fst1 (fun g => !okR S f g) n 0
def vRead (S : Nat → Int32) (f : Nat → Int64) (n : Nat) : Int32 := if rdN S f n = n then 0 else nI (rdN S f n + 1)
theorem vRead_at {S : Nat → Int32} {f : Nat → Int64} {n i : Nat} (hi : i < n) (h : ∀ g, g < i → okR S f g = true) (hn : okR S f i = false) : nI (i + 1) = vRead S f n := by
  have e : rdN S f n = i := fst1_eq n 0 i (Nat.zero_le _) (by omega) (fun j _ q => by simp [h j q]) (Or.inr (by simp [hn]))
  unfold vRead; rw [e, if_neg (by omega)]
theorem vRead_no {S : Nat → Int32} {f : Nat → Int64} {n : Nat} (h : ∀ g, g < n → okR S f g = true) : (0 : Int32) = vRead S f n := by
  have e : rdN S f n = n := fst1_eq n 0 n (Nat.zero_le _) (by omega) (fun j _ q => by simp [h j q]) (Or.inl (by omega))
  unfold vRead; rw [e, if_pos rfl]
def cUndo (ik : Int32) : Nat := if ik = 0 then 3 else 7
/-- the reference's one row of numbers for the four sheets -/
def numF (f : Nat → Nat → Int64) : Nat → Int64 := fun k => f (k / 40) (k % 40)
theorem numF_at (f : Nat → Nat → Int64) {i j : Nat} (h : j < 40) : numF f (40 * i + j) = f i j := by
  unfold numF
  rw [show (40 * i + j) / 40 = i by omega, show (40 * i + j) % 40 = j by omega]
theorem numF_up (f : Nat → Nat → Int64) {i j : Nat} (x : Int64) (h : j < 40) : vp_updL (numF f) (40 * i + j) x = numF (va_up f i (vp_updL (f i) j x)) := funext fun k => by
  unfold numF va_up vp_updL
  by_cases e : k = 40 * i + j
  · rw [if_pos e, if_pos (by omega)]
    show x = if k % 40 = j then x else f i (k % 40)
    rw [if_pos (by omega)]
  · rw [if_neg e]
    by_cases q : k / 40 = i
    · rw [if_pos q]
      show f (k / 40) (k % 40) = if k % 40 = j then x else f i (k % 40)
      rw [if_neg (by omega), q]
    · rw [if_neg q]
/-- the tape: bytes of an int -/
def byt (x : Int32) (i : Nat) : Int32 := nI (ux x / 2 ^ (8 * i) % 256)
def fdT (T : Nat → Int32) (t : Nat) (x : Int32) (n : Nat) : Nat → Nat → Int32
  | 0 => T
  | k + 1 => upd (fdT T t x n k) (t + k) (byt x (n - 1 - k))
def cFeed (n : Int32) (t : Nat) : Nat := if 1 ≤ n ∧ n ≤ 4 then (if 120 < t + bstN n then 1 else 7) else 0
theorem and_255 (m : Nat) : m &&& 255 = m % 256 := Nat.and_two_pow_sub_one_eq_mod m 8
theorem lineR_neg (S : Nat → Int32) : lineR S < 0 ↔ lineN S = 100 := by
  have := fst1_le (fun w => smokes (upd S 3 (nI w))) 100 0
  unfold lineR lineN
  by_cases h : fst1 (fun w => smokes (upd S 3 (nI w))) 100 0 = 100
  · rw [if_pos h]; exact ⟨fun _ => h, fun _ => by decide⟩
  · rw [if_neg h]; exact ⟨fun q => absurd q (nI_pos (by omega)), fun q => absurd q h⟩
theorem ordK_le (S : Nat → Int32) : ordK S ≤ 20 := by
  have := fst1_le (fun k => decide (stp S k = -1)) 20 0
  unfold ordK; omega
theorem set_pos {n : Nat} (h : n < 2 ^ 32) : ¬ nI n < 0 ↔ n < 2 ^ 31 := by
  constructor
  · intro q
    obtain ⟨j, hj, e⟩ := nI_ge0 (Int32.not_lt.mp q)
    have : n = j := by have z := congrArg (fun z : Int32 => z.toUInt32.toNat) e; simpa only [nI_u h, nI_u (show j < 2 ^ 32 by omega)] using z
    omega
  · exact fun q => nI_pos q
theorem and_lo {x y : Int32} {q : Nat} (hq : q ≤ 8) (h : ∀ i, i < q → x.toBitVec.getLsbD i = y.toBitVec.getLsbD i) (hx : q = 8) : x &&& 255 = y &&& 255 := by
  subst hx
  apply Int32.toBitVec_inj.1
  show x.toBitVec &&& 255#32 = y.toBitVec &&& 255#32
  apply BitVec.eq_of_getLsbD_eq
  intro i hi
  rw [BitVec.getLsbD_and, BitVec.getLsbD_and]
  by_cases c : i < 8
  · rw [h i c]
  · have : (255#32).getLsbD i = false := by
      have e : ∀ i, i < 32 → ¬ i < 8 → (255#32).getLsbD i = false := by decide +kernel
      exact e i hi c
    rw [this, Bool.and_false, Bool.and_false]
theorem sar_n {m i : Nat} (hm : m < 2 ^ 32) (hi : i < 4) : (nI m >>> (nI (8 * i) &&& 31)) &&& 255 = nI (m / 2 ^ (8 * i) % 256) := by
  have h : (nI m >>> (nI (8 * i) &&& 31)) &&& 255 = nI (m / 2 ^ (8 * i)) &&& 255 := by
    refine and_lo (q := 8) (Nat.le_refl _) (fun k hk => ?_) rfl
    show ((nI m).toBitVec.sshiftRight ((nI (8 * i) &&& 31).toBitVec.smod 32).toNat).getLsbD k = (BitVec.ofNat 32 (m / 2 ^ (8 * i))).getLsbD k
    rw [s_l (8 * i) (by omega), BitVec.getLsbD_sshiftRight]
    show (!decide (32 ≤ k) && if 8 * i + k < 32 then (BitVec.ofNat 32 m).getLsbD (8 * i + k) else (BitVec.ofNat 32 m).msb) = _
    rw [if_pos (by omega), BitVec.getLsbD_ofNat, BitVec.getLsbD_ofNat, Nat.testBit_div_two_pow]
    have h1 : decide (8 * i + k < 32) = true := decide_eq_true (by omega)
    have h2 : decide (k < 32) = true := decide_eq_true (by omega)
    have h3 : decide (32 ≤ k) = false := decide_eq_false (by omega)
    rw [h1, h2, h3, Nat.add_comm (8 * i) k]
    rfl
  rw [h, show (255 : Int32) = nI 255 from rfl, nx_and, and_255]
