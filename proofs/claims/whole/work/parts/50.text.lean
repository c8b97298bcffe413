/-! a literal's methods: the row of a call, of a byte -/
section STRC
variable {p : Program} {l : Launch} {e : Env} {R : Room} {s : State} {m : MethodId} {args : Array Value} {below : List Frame} {meth : Method} {c : Code} {H : Heap} {locs : List Loc} {cells slots : Nat} {Q : State → Prop}
variable {cc : ByteArray} {pc nL : Nat} {ls : Array Slot} {rest st0 : List Value} {D : va_G} {A : Nat → Prop} {tys : List (ClassId × FieldType)} {ws : va_W} {own : String} {G : Nat → Nat} {lvs : List (Nat × Value)} {y : MethodName} {bytes : ByteArray} {maxL n fr lo index : Nat} {ret : Option FieldType}
theorem rS_i {post : Int32 → Prop} (hx : p.tables.exec = Jvm.exec) (hb : c.code = cc) (hml : c.maxLocals = nL) (hown : s.vm.findClass own = some m.cls) (hw : ∀ w ∈ wg, w.before args s = true) (hG : cx G A s) (hK : va_K D vwCl tys s) (hP : va_P D vwCl ws H) (hS : va_S A s.heap H locs) (hA : ∀ q : Nat, s.heap.size ≤ q → A q) (hl : lv_has ls nL lvs)
    (kc : kV y bytes maxL ret n) (kl : Cond.methodLink own index y ∈ wg) (As : List Value) {i : Nat} (hi : i < 14) (hcls : y.cls = "java/lang/String") (hM : Met l y (wm y bytes maxL ret) { frames := fr, cells := 0, slots := 0, locals := lo } (va_Pc (.ref (G (10 + i)) :: As) (pd D tys G [] H.size)) (va_Qi (fun r (_ : Unit) => post r) (fun _ _ => True) (va_A [] H.size)) 0 0 (va_A [] H.size))
    (hst : st0 = As.reverse ++ .ref (G (10 + i)) :: rest) (hlen : As.length = n) (hcat : (rest.map fun v => v.category).sum ≤ 8) (hRm : fr + 1 ≤ R.frames ∧ 8 + (maxL + 11) + lo ≤ R.locals) (hdg : decode cc pc = .ok (.invokevirtual index, 3)) (hf : cells ≤ R.cells ∧ slots ≤ R.slots)
    (kk : ∀ (r : Int32) (H1 : Heap) (locs1 : List Loc), post r → va_P D vwCl ws H1 → va_S A s.heap H1 locs1 → W p l e R s m args below meth c H1 locs1 cells slots Q (F0 m (pc + 3) ls (.int r :: rest))) : W p l e R s m args below meth c H locs cells slots Q (F0 m pc ls st0) := by
  have hPc : va_P D vwCl [] H := hP.sub (ws' := []) [] rfl
  have hp : PreV s H "java/lang/String" (G (10 + i)) (va_Pc (.ref (G (10 + i)) :: As) (pd D tys G [] H.size)) As :=
    ⟨pd_blind, vk_recv (i := i) (adK := fun i => G (10 + i)) hG.2.2.1 hi hS, fun U hU hW => ⟨rfl, by rw [hU], by rw [hU]; exact hPc, va_K.moved hW.alike hK, hG.call hS hU hW (free_nil hS hA)⟩⟩
  rw [← hcls] at hp
  exact cr_i (va_runV (rest := rest) ⟨hx, hb, hml, hown, hw⟩ hM (kc.cw kl hw hRm) hp rfl hlen hl.1 hst (lv_room hcat) hdg hf) hP hS hA kk
theorem tld_b (hexec : p.tables.exec = Jvm.exec) (hb : c.code = cc) {t N : Nat} {f : Nat → Int32} (hT : va_T .byte t N (fun j => .int (f j)) A s s.heap) (hS : va_S A s.heap H locs) {i : Int32} (j : Nat) (hi : i = nI j) (hj : j < N) (hn : N < 2 ^ 31) (hdg : decode cc pc = .ok (.baload, 1))
    (kk : W p l e R s m args below meth c H locs cells slots Q (F0 m (pc + 1) ls (.int (f j) :: rest))) : W p l e R s m args below meth c H locs cells slots Q (F0 m pc ls (.int i :: .ref t :: rest)) := by
  subst hi
  exact va_tb hexec hb hT hS (vp_in_nI hj hn) (by rw [nI_clamp (by omega)]) hdg kk
end STRC
theorem wl_c : ∀ i, i < 14 → ∀ k, k < wn i → ((wl i k &&& 255).toUInt32 % 65536).toInt32 = wl i k := by decide +kernel
theorem wl_nar : ∀ i, i < 14 → ∀ k, k < wn i → narrow .char (.int (wl i k)) = .int (wl i k) := by decide +kernel
theorem len_sh (n : Nat) : nI n >>> ((0 : Int32) &&& 31) = nI n := by
  have : (0 : Int32) &&& 31 = 0 := by decide
  rw [this]
  apply Int32.toBitVec_inj.1
  show (nI n).toBitVec.sshiftRight ((0 : Int32).toBitVec.smod 32).toNat = (nI n).toBitVec
  have e : ((0 : Int32).toBitVec.smod 32).toNat = 0 := by decide
  rw [e]; simp
