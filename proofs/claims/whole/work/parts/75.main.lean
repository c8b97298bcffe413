def R_law : String := "SmokeLeansLaw"
def lw_P (b : Addr) (xs : List Int32) (args : Array Value) (s : State) : Prop := args = #[.ref b] ∧ s.IntsAt b xs ∧ xs.length ≤ 384 ∧ (Jvm.Cond.and given_1 narrow_1).before args s = true
def lw_Q (_ : Array Value) (s : State) (o : Outcome) (t : State) : Prop := o = .returned (some (.int 1)) ∧ Framed s o t [] 600000 7302250
def lw_Z (below : List Frame) (a : Array Value) (s : State) : State → Prop := fun t => ∃ o, t.status = .running ∧ Ended t below o ∧ lw_Q a s o t
/-- the law's own end, with 1 on the stack, nothing written that was there before, its room as the claim has it -/
theorem lw_ret {p : Program} {l : Launch} {e : Env} {s : State} {m : MethodId} {below : List Frame} {meth : Method} {c : Code} {b : Nat} (hx : p.tables.exec = Jvm.exec) (hb : c.code = code) (hr : meth.sig.returnType = ret) (hlocks : meth.locks = false) {pc : Nat} {H : Heap} {ls : Array Slot} (hdg : decode code pc = .ok (.ireturn, 1)) : W p l e room_1 s m #[Value.ref b] below meth c H [] 600000 7302250 (lw_Z below #[Value.ref b] s) (F0 m pc ls [.int 1]) := by
  intro T hT X
  obtain ⟨fs, hret, hrun, hended, hW, hframe⟩ := X.leave (v := some (.int 1)) (hlocks := hlocks) (fun h => by rw [hr] at h; cases h)
  have hmeth' : T.vm.method? m = some meth := X.method'
  refine ⟨T.setFrames fs, ?_, .returned (some (.int 1)), hrun, hended, rfl, ⟨_, rfl⟩, hW, hframe⟩
  jvm_step X.here [X.here.top, hx, hb, hdg, hmeth', hr, ret, narrow_b1]
  (try refine ⟨rfl, ?_⟩); (try refine ⟨rfl, ?_⟩)
  first | (intro acts; rw [hret _ acts rfl rfl rfl]) | rw [hret _ _ rfl rfl rfl]
  exact Steps.refl _
/-- what holds at the law's entry: the machine, the code, the tables' words (any of lw_tbl by 'hts w (by decide +kernel)'), the script of L ints xs at the cell b, what the Statement gives of the start (any of its parts by flat_of_before) -/
def lw_At (p : Program) (s : State) (m : MethodId) (meth : Method) (c : Code) (b L : Nat) (xs : Nat → Int32) : Prop :=
  p.tables.exec = Jvm.exec ∧ c.code = code ∧ meth.sig.returnType = ret ∧ c.maxLocals = 4 ∧ s.vm.findClass R_law = some m.cls ∧ (∀ w ∈ lw_tbl, w.before #[Value.ref b] s = true) ∧ va_X b L xs s s.heap ∧ b < s.heap.size ∧ meth.locks = false ∧ (Jvm.Cond.and given_1 narrow_1).before #[Value.ref b] s = true

set_option maxHeartbeats 4000000 in
set_option maxRecDepth 100000 in
/-- the law's loop -/
theorem law_main {p : Program} {l : Launch} {e : Env} {s : State} {m : MethodId} {below : List Frame} {meth : Method} {c : Code} {D : va_G} {cy : Nat → ClassId} {G : Nat → Nat} {sz b0 Ls : Nat} {xs : Nat → Int32} {hh a kk dd b w b2 x ee qq mm : Nat → Nat} (C0 : lwC p s m c D cy G sz b0 Ls xs) (hLs : Ls ≤ 384) (hr : meth.sig.returnType = ret) (hlocks : meth.locks = false) : ∀ (n i : Nat), i ≤ Ls → Ls + 1 ≤ i + n → lwH p l e s m below meth c (lw_Z below #[Value.ref b0] s) D cy sz b0 hh a kk dd b w b2 x ee qq mm i 18 := by
  have C1 := C0
  obtain ⟨hx, hb, hml, hown, hw, hsz, hG, hK, hX, hbl⟩ := C1
  have hbA : ¬ va_A [] sz b0 := not_A0 (hsz ▸ hbl)
  intro n9
  induction n9 with
  | zero => intro i hi hn9; exact absurd hn9 (by omega)
  | succ n9 ih =>
    intro i hi hn9 ik C S K K2 Y n T bi si f P F N B O Sd Dv L rc re fr lo sm wc lw gw ss sl sc sp sg lb P2 F2 N2 B2 O2 Sd2 Dv2 L2 rc2 re2 fr2 lo2 sm2 X sa en tk va fm tz vl iw rm rr om Om Pm Nm od sv le mv hI H locs hP hD hS ls hl
    refine lv_iload_n hx hb dL_law_18 rfl (lv_at hl 0 rfl) ?_
    refine lv_aload_n hx hb dL_law_19 rfl (lv_at hl 3 rfl) ?_
    refine va_slen hx hb hX hbl hbA hS dL_law_20 ?_
    refine lv_bipush (v := 6) hx hb dL_law_21 (by decide) ?_
    refine lv_isub hx hb dL_law_23 ?_
    refine lv_icmp_gt (tgt := 1257) hx hb dL_law_24 (by decide) (fun c1 => ?_) (fun c1 => ?_)
    · refine lv_iconst (v := 1) hx hb dL_law_1257 (by decide) ?_
      refine va_forget (fun q hq => hsz ▸ va_A_nil (hS.2.2 q hq)) ?_
      exact lw_ret hx hb hr hlocks dL_law_1258
    · have hi6 : i + 6 ≤ Ls := law_le (by omega) (by omega) c1
      have back : lwH p l e s m below meth c (lw_Z below #[Value.ref b0] s) D cy sz b0 hh a kk dd b w b2 x ee qq mm i 1251 := by
        intro ik C S K K2 Y n T bi si f P F N B O Sd Dv L rc re fr lo sm wc lw gw ss sl sc sp sg lb P2 F2 N2 B2 O2 Sd2 Dv2 L2 rc2 re2 fr2 lo2 sm2 X sa en tk va fm tz vl iw rm rr om Om Pm Nm od sv le mv hI H locs hP hD hS ls hl
        refine lv_iinc (v := nI (i + 6)) (lv' := [(3, .int (nI (i + 6))), (2, .ref (mm 0)), (1, .ref (hh 0)), (0, .ref b0)]) hx hb dL_law_1251 hl (k := 0) rfl (nI_add i 6) (by decide) rfl (fun ls1 hl1 => ?_)
        refine lv_goto (tgt := 18) hx hb dL_law_1254 (by decide) ?_
        exact ih (i + 6) (by omega) (by omega) ik C S K K2 Y n T bi si f P F N B O Sd Dv L rc re fr lo sm wc lw gw ss sl sc sp sg lb P2 F2 N2 B2 O2 Sd2 Dv2 L2 rc2 re2 fr2 lo2 sm2 X sa en tk va fm tz vl iw rm rr om Om Pm Nm od sv le mv hI H locs hP hD hS ls1 hl1
      refine lv_aload_n hx hb dL_law_27 rfl (lv_at hl 3 rfl) ?_
      refine lv_iload_n hx hb dL_law_28 rfl (lv_at hl 0 rfl) ?_
      refine sld_i hx hb hX hbl hbA hS i rfl (by omega) (by omega) dL_law_29 ?_
      refine lv_bipush (v := 63) hx hb dL_law_30 (by decide) ?_
      refine lv_iand hx hb dL_law_32 ?_
      by_cases c_0 : xs i &&& 63 = 0
      · refine tp c_0 ?_
        refine lv_tableIn (off := 167) (tgt := 200) hx hb dL_law_33 (by decide) (by decide) (by decide) (by decide) ?_
        exact lc_0 C0 hi6 hLs back ik C S K K2 Y n T bi si f P F N B O Sd Dv L rc re fr lo sm wc lw gw ss sl sc sp sg lb P2 F2 N2 B2 O2 Sd2 Dv2 L2 rc2 re2 fr2 lo2 sm2 X sa en tk va fm tz vl iw rm rr om Om Pm Nm od sv le mv hI H locs hP hD hS ls hl
      by_cases c_1 : xs i &&& 63 = 1
      · refine tp c_1 ?_
        refine lv_tableIn (off := 180) (tgt := 213) hx hb dL_law_33 (by decide) (by decide) (by decide) (by decide) ?_
        exact lc_1 C0 hi6 hLs back ik C S K K2 Y n T bi si f P F N B O Sd Dv L rc re fr lo sm wc lw gw ss sl sc sp sg lb P2 F2 N2 B2 O2 Sd2 Dv2 L2 rc2 re2 fr2 lo2 sm2 X sa en tk va fm tz vl iw rm rr om Om Pm Nm od sv le mv hI H locs hP hD hS ls hl
      by_cases c_2 : xs i &&& 63 = 2
      · refine tp c_2 ?_
        refine lv_tableIn (off := 233) (tgt := 266) hx hb dL_law_33 (by decide) (by decide) (by decide) (by decide) ?_
        exact lc_2 C0 hi6 hLs back ik C S K K2 Y n T bi si f P F N B O Sd Dv L rc re fr lo sm wc lw gw ss sl sc sp sg lb P2 F2 N2 B2 O2 Sd2 Dv2 L2 rc2 re2 fr2 lo2 sm2 X sa en tk va fm tz vl iw rm rr om Om Pm Nm od sv le mv hI H locs hP hD hS ls hl
      by_cases c_3 : xs i &&& 63 = 3
      · refine tp c_3 ?_
        refine lv_tableIn (off := 266) (tgt := 299) hx hb dL_law_33 (by decide) (by decide) (by decide) (by decide) ?_
        exact lc_3 C0 hi6 hLs back ik C S K K2 Y n T bi si f P F N B O Sd Dv L rc re fr lo sm wc lw gw ss sl sc sp sg lb P2 F2 N2 B2 O2 Sd2 Dv2 L2 rc2 re2 fr2 lo2 sm2 X sa en tk va fm tz vl iw rm rr om Om Pm Nm od sv le mv hI H locs hP hD hS ls hl
      by_cases c_4 : xs i &&& 63 = 4
      · refine tp c_4 ?_
        refine lv_tableIn (off := 299) (tgt := 332) hx hb dL_law_33 (by decide) (by decide) (by decide) (by decide) ?_
        exact lc_4 C0 hi6 hLs back ik C S K K2 Y n T bi si f P F N B O Sd Dv L rc re fr lo sm wc lw gw ss sl sc sp sg lb P2 F2 N2 B2 O2 Sd2 Dv2 L2 rc2 re2 fr2 lo2 sm2 X sa en tk va fm tz vl iw rm rr om Om Pm Nm od sv le mv hI H locs hP hD hS ls hl
      by_cases c_5 : xs i &&& 63 = 5
      · refine tp c_5 ?_
        refine lv_tableIn (off := 348) (tgt := 381) hx hb dL_law_33 (by decide) (by decide) (by decide) (by decide) ?_
        exact lc_5 C0 hi6 hLs back ik C S K K2 Y n T bi si f P F N B O Sd Dv L rc re fr lo sm wc lw gw ss sl sc sp sg lb P2 F2 N2 B2 O2 Sd2 Dv2 L2 rc2 re2 fr2 lo2 sm2 X sa en tk va fm tz vl iw rm rr om Om Pm Nm od sv le mv hI H locs hP hD hS ls hl
      by_cases c_6 : xs i &&& 63 = 6
      · refine tp c_6 ?_
        refine lv_tableIn (off := 381) (tgt := 414) hx hb dL_law_33 (by decide) (by decide) (by decide) (by decide) ?_
        exact lc_6 C0 hi6 hLs back ik C S K K2 Y n T bi si f P F N B O Sd Dv L rc re fr lo sm wc lw gw ss sl sc sp sg lb P2 F2 N2 B2 O2 Sd2 Dv2 L2 rc2 re2 fr2 lo2 sm2 X sa en tk va fm tz vl iw rm rr om Om Pm Nm od sv le mv hI H locs hP hD hS ls hl
      by_cases c_7 : xs i &&& 63 = 7
      · refine tp c_7 ?_
        refine lv_tableIn (off := 414) (tgt := 447) hx hb dL_law_33 (by decide) (by decide) (by decide) (by decide) ?_
        exact lc_7 C0 hi6 hLs back ik C S K K2 Y n T bi si f P F N B O Sd Dv L rc re fr lo sm wc lw gw ss sl sc sp sg lb P2 F2 N2 B2 O2 Sd2 Dv2 L2 rc2 re2 fr2 lo2 sm2 X sa en tk va fm tz vl iw rm rr om Om Pm Nm od sv le mv hI H locs hP hD hS ls hl
      by_cases c_8 : xs i &&& 63 = 8
      · refine tp c_8 ?_
        refine lv_tableIn (off := 447) (tgt := 480) hx hb dL_law_33 (by decide) (by decide) (by decide) (by decide) ?_
        exact lc_8 C0 hi6 hLs back ik C S K K2 Y n T bi si f P F N B O Sd Dv L rc re fr lo sm wc lw gw ss sl sc sp sg lb P2 F2 N2 B2 O2 Sd2 Dv2 L2 rc2 re2 fr2 lo2 sm2 X sa en tk va fm tz vl iw rm rr om Om Pm Nm od sv le mv hI H locs hP hD hS ls hl
      by_cases c_9 : xs i &&& 63 = 9
      · refine tp c_9 ?_
        refine lv_tableIn (off := 460) (tgt := 493) hx hb dL_law_33 (by decide) (by decide) (by decide) (by decide) ?_
        exact lc_9 C0 hi6 hLs back ik C S K K2 Y n T bi si f P F N B O Sd Dv L rc re fr lo sm wc lw gw ss sl sc sp sg lb P2 F2 N2 B2 O2 Sd2 Dv2 L2 rc2 re2 fr2 lo2 sm2 X sa en tk va fm tz vl iw rm rr om Om Pm Nm od sv le mv hI H locs hP hD hS ls hl
      by_cases c_10 : xs i &&& 63 = 10
      · refine tp c_10 ?_
        refine lv_tableIn (off := 473) (tgt := 506) hx hb dL_law_33 (by decide) (by decide) (by decide) (by decide) ?_
        exact lc_10 C0 hi6 hLs back ik C S K K2 Y n T bi si f P F N B O Sd Dv L rc re fr lo sm wc lw gw ss sl sc sp sg lb P2 F2 N2 B2 O2 Sd2 Dv2 L2 rc2 re2 fr2 lo2 sm2 X sa en tk va fm tz vl iw rm rr om Om Pm Nm od sv le mv hI H locs hP hD hS ls hl
      by_cases c_11 : xs i &&& 63 = 11
      · refine tp c_11 ?_
        refine lv_tableIn (off := 496) (tgt := 529) hx hb dL_law_33 (by decide) (by decide) (by decide) (by decide) ?_
        exact lc_11 C0 hi6 hLs back ik C S K K2 Y n T bi si f P F N B O Sd Dv L rc re fr lo sm wc lw gw ss sl sc sp sg lb P2 F2 N2 B2 O2 Sd2 Dv2 L2 rc2 re2 fr2 lo2 sm2 X sa en tk va fm tz vl iw rm rr om Om Pm Nm od sv le mv hI H locs hP hD hS ls hl
      by_cases c_12 : xs i &&& 63 = 12
      · refine tp c_12 ?_
        refine lv_tableIn (off := 519) (tgt := 552) hx hb dL_law_33 (by decide) (by decide) (by decide) (by decide) ?_
        exact lc_12 C0 hi6 hLs back ik C S K K2 Y n T bi si f P F N B O Sd Dv L rc re fr lo sm wc lw gw ss sl sc sp sg lb P2 F2 N2 B2 O2 Sd2 Dv2 L2 rc2 re2 fr2 lo2 sm2 X sa en tk va fm tz vl iw rm rr om Om Pm Nm od sv le mv hI H locs hP hD hS ls hl
      by_cases c_13 : xs i &&& 63 = 13
      · refine tp c_13 ?_
        refine lv_tableIn (off := 542) (tgt := 575) hx hb dL_law_33 (by decide) (by decide) (by decide) (by decide) ?_
        exact lc_13 C0 hi6 hLs back ik C S K K2 Y n T bi si f P F N B O Sd Dv L rc re fr lo sm wc lw gw ss sl sc sp sg lb P2 F2 N2 B2 O2 Sd2 Dv2 L2 rc2 re2 fr2 lo2 sm2 X sa en tk va fm tz vl iw rm rr om Om Pm Nm od sv le mv hI H locs hP hD hS ls hl
      by_cases c_14 : xs i &&& 63 = 14
      · refine tp c_14 ?_
        refine lv_tableIn (off := 555) (tgt := 588) hx hb dL_law_33 (by decide) (by decide) (by decide) (by decide) ?_
        exact lc_14 C0 hi6 hLs back ik C S K K2 Y n T bi si f P F N B O Sd Dv L rc re fr lo sm wc lw gw ss sl sc sp sg lb P2 F2 N2 B2 O2 Sd2 Dv2 L2 rc2 re2 fr2 lo2 sm2 X sa en tk va fm tz vl iw rm rr om Om Pm Nm od sv le mv hI H locs hP hD hS ls hl
      by_cases c_15 : xs i &&& 63 = 15
      · refine tp c_15 ?_
        refine lv_tableIn (off := 578) (tgt := 611) hx hb dL_law_33 (by decide) (by decide) (by decide) (by decide) ?_
        exact lc_15 C0 hi6 hLs back ik C S K K2 Y n T bi si f P F N B O Sd Dv L rc re fr lo sm wc lw gw ss sl sc sp sg lb P2 F2 N2 B2 O2 Sd2 Dv2 L2 rc2 re2 fr2 lo2 sm2 X sa en tk va fm tz vl iw rm rr om Om Pm Nm od sv le mv hI H locs hP hD hS ls hl
      by_cases c_16 : xs i &&& 63 = 16
      · refine tp c_16 ?_
        refine lv_tableIn (off := 601) (tgt := 634) hx hb dL_law_33 (by decide) (by decide) (by decide) (by decide) ?_
        exact lc_16 C0 hi6 hLs back ik C S K K2 Y n T bi si f P F N B O Sd Dv L rc re fr lo sm wc lw gw ss sl sc sp sg lb P2 F2 N2 B2 O2 Sd2 Dv2 L2 rc2 re2 fr2 lo2 sm2 X sa en tk va fm tz vl iw rm rr om Om Pm Nm od sv le mv hI H locs hP hD hS ls hl
      by_cases c_17 : xs i &&& 63 = 17
      · refine tp c_17 ?_
        refine lv_tableIn (off := 624) (tgt := 657) hx hb dL_law_33 (by decide) (by decide) (by decide) (by decide) ?_
        exact lc_17 C0 hi6 hLs back ik C S K K2 Y n T bi si f P F N B O Sd Dv L rc re fr lo sm wc lw gw ss sl sc sp sg lb P2 F2 N2 B2 O2 Sd2 Dv2 L2 rc2 re2 fr2 lo2 sm2 X sa en tk va fm tz vl iw rm rr om Om Pm Nm od sv le mv hI H locs hP hD hS ls hl
      by_cases c_18 : xs i &&& 63 = 18
      · refine tp c_18 ?_
        refine lv_tableIn (off := 647) (tgt := 680) hx hb dL_law_33 (by decide) (by decide) (by decide) (by decide) ?_
        exact lc_18 C0 hi6 hLs back ik C S K K2 Y n T bi si f P F N B O Sd Dv L rc re fr lo sm wc lw gw ss sl sc sp sg lb P2 F2 N2 B2 O2 Sd2 Dv2 L2 rc2 re2 fr2 lo2 sm2 X sa en tk va fm tz vl iw rm rr om Om Pm Nm od sv le mv hI H locs hP hD hS ls hl
      by_cases c_19 : xs i &&& 63 = 19
      · refine tp c_19 ?_
        refine lv_tableIn (off := 670) (tgt := 703) hx hb dL_law_33 (by decide) (by decide) (by decide) (by decide) ?_
        exact lc_19 C0 hi6 hLs back ik C S K K2 Y n T bi si f P F N B O Sd Dv L rc re fr lo sm wc lw gw ss sl sc sp sg lb P2 F2 N2 B2 O2 Sd2 Dv2 L2 rc2 re2 fr2 lo2 sm2 X sa en tk va fm tz vl iw rm rr om Om Pm Nm od sv le mv hI H locs hP hD hS ls hl
      by_cases c_20 : xs i &&& 63 = 20
      · refine tp c_20 ?_
        refine lv_tableIn (off := 713) (tgt := 746) hx hb dL_law_33 (by decide) (by decide) (by decide) (by decide) ?_
        exact lc_20 C0 hi6 hLs back ik C S K K2 Y n T bi si f P F N B O Sd Dv L rc re fr lo sm wc lw gw ss sl sc sp sg lb P2 F2 N2 B2 O2 Sd2 Dv2 L2 rc2 re2 fr2 lo2 sm2 X sa en tk va fm tz vl iw rm rr om Om Pm Nm od sv le mv hI H locs hP hD hS ls hl
      by_cases c_21 : xs i &&& 63 = 21
      · refine tp c_21 ?_
        refine lv_tableIn (off := 726) (tgt := 759) hx hb dL_law_33 (by decide) (by decide) (by decide) (by decide) ?_
        exact lc_21 C0 hi6 hLs back ik C S K K2 Y n T bi si f P F N B O Sd Dv L rc re fr lo sm wc lw gw ss sl sc sp sg lb P2 F2 N2 B2 O2 Sd2 Dv2 L2 rc2 re2 fr2 lo2 sm2 X sa en tk va fm tz vl iw rm rr om Om Pm Nm od sv le mv hI H locs hP hD hS ls hl
      by_cases c_22 : xs i &&& 63 = 22
      · refine tp c_22 ?_
        refine lv_tableIn (off := 779) (tgt := 812) hx hb dL_law_33 (by decide) (by decide) (by decide) (by decide) ?_
        exact lc_22 C0 hi6 hLs back ik C S K K2 Y n T bi si f P F N B O Sd Dv L rc re fr lo sm wc lw gw ss sl sc sp sg lb P2 F2 N2 B2 O2 Sd2 Dv2 L2 rc2 re2 fr2 lo2 sm2 X sa en tk va fm tz vl iw rm rr om Om Pm Nm od sv le mv hI H locs hP hD hS ls hl
      by_cases c_23 : xs i &&& 63 = 23
      · refine tp c_23 ?_
        refine lv_tableIn (off := 802) (tgt := 835) hx hb dL_law_33 (by decide) (by decide) (by decide) (by decide) ?_
        exact lc_23 C0 hi6 hLs back ik C S K K2 Y n T bi si f P F N B O Sd Dv L rc re fr lo sm wc lw gw ss sl sc sp sg lb P2 F2 N2 B2 O2 Sd2 Dv2 L2 rc2 re2 fr2 lo2 sm2 X sa en tk va fm tz vl iw rm rr om Om Pm Nm od sv le mv hI H locs hP hD hS ls hl
      by_cases c_24 : xs i &&& 63 = 24
      · refine tp c_24 ?_
        refine lv_tableIn (off := 825) (tgt := 858) hx hb dL_law_33 (by decide) (by decide) (by decide) (by decide) ?_
        exact lc_24 C0 hi6 hLs back ik C S K K2 Y n T bi si f P F N B O Sd Dv L rc re fr lo sm wc lw gw ss sl sc sp sg lb P2 F2 N2 B2 O2 Sd2 Dv2 L2 rc2 re2 fr2 lo2 sm2 X sa en tk va fm tz vl iw rm rr om Om Pm Nm od sv le mv hI H locs hP hD hS ls hl
      by_cases c_25 : xs i &&& 63 = 25
      · refine tp c_25 ?_
        refine lv_tableIn (off := 838) (tgt := 871) hx hb dL_law_33 (by decide) (by decide) (by decide) (by decide) ?_
        exact lc_25 C0 hi6 hLs back ik C S K K2 Y n T bi si f P F N B O Sd Dv L rc re fr lo sm wc lw gw ss sl sc sp sg lb P2 F2 N2 B2 O2 Sd2 Dv2 L2 rc2 re2 fr2 lo2 sm2 X sa en tk va fm tz vl iw rm rr om Om Pm Nm od sv le mv hI H locs hP hD hS ls hl
      by_cases c_26 : xs i &&& 63 = 26
      · refine tp c_26 ?_
        refine lv_tableIn (off := 871) (tgt := 904) hx hb dL_law_33 (by decide) (by decide) (by decide) (by decide) ?_
        exact lc_26 C0 hi6 hLs back ik C S K K2 Y n T bi si f P F N B O Sd Dv L rc re fr lo sm wc lw gw ss sl sc sp sg lb P2 F2 N2 B2 O2 Sd2 Dv2 L2 rc2 re2 fr2 lo2 sm2 X sa en tk va fm tz vl iw rm rr om Om Pm Nm od sv le mv hI H locs hP hD hS ls hl
      by_cases c_27 : xs i &&& 63 = 27
      · refine tp c_27 ?_
        refine lv_tableIn (off := 894) (tgt := 927) hx hb dL_law_33 (by decide) (by decide) (by decide) (by decide) ?_
        exact lc_27 C0 hi6 hLs back ik C S K K2 Y n T bi si f P F N B O Sd Dv L rc re fr lo sm wc lw gw ss sl sc sp sg lb P2 F2 N2 B2 O2 Sd2 Dv2 L2 rc2 re2 fr2 lo2 sm2 X sa en tk va fm tz vl iw rm rr om Om Pm Nm od sv le mv hI H locs hP hD hS ls hl
      by_cases c_28 : xs i &&& 63 = 28
      · refine tp c_28 ?_
        refine lv_tableIn (off := 907) (tgt := 940) hx hb dL_law_33 (by decide) (by decide) (by decide) (by decide) ?_
        exact lc_28 C0 hi6 hLs back ik C S K K2 Y n T bi si f P F N B O Sd Dv L rc re fr lo sm wc lw gw ss sl sc sp sg lb P2 F2 N2 B2 O2 Sd2 Dv2 L2 rc2 re2 fr2 lo2 sm2 X sa en tk va fm tz vl iw rm rr om Om Pm Nm od sv le mv hI H locs hP hD hS ls hl
      by_cases c_29 : xs i &&& 63 = 29
      · refine tp c_29 ?_
        refine lv_tableIn (off := 950) (tgt := 983) hx hb dL_law_33 (by decide) (by decide) (by decide) (by decide) ?_
        exact lc_29 C0 hi6 hLs back ik C S K K2 Y n T bi si f P F N B O Sd Dv L rc re fr lo sm wc lw gw ss sl sc sp sg lb P2 F2 N2 B2 O2 Sd2 Dv2 L2 rc2 re2 fr2 lo2 sm2 X sa en tk va fm tz vl iw rm rr om Om Pm Nm od sv le mv hI H locs hP hD hS ls hl
      by_cases c_30 : xs i &&& 63 = 30
      · refine tp c_30 ?_
        refine lv_tableIn (off := 1024) (tgt := 1057) hx hb dL_law_33 (by decide) (by decide) (by decide) (by decide) ?_
        exact lc_30 C0 hi6 hLs back ik C S K K2 Y n T bi si f P F N B O Sd Dv L rc re fr lo sm wc lw gw ss sl sc sp sg lb P2 F2 N2 B2 O2 Sd2 Dv2 L2 rc2 re2 fr2 lo2 sm2 X sa en tk va fm tz vl iw rm rr om Om Pm Nm od sv le mv hI H locs hP hD hS ls hl
      by_cases c_31 : xs i &&& 63 = 31
      · refine tp c_31 ?_
        refine lv_tableIn (off := 1087) (tgt := 1120) hx hb dL_law_33 (by decide) (by decide) (by decide) (by decide) ?_
        exact lc_31 C0 hi6 hLs back ik C S K K2 Y n T bi si f P F N B O Sd Dv L rc re fr lo sm wc lw gw ss sl sc sp sg lb P2 F2 N2 B2 O2 Sd2 Dv2 L2 rc2 re2 fr2 lo2 sm2 X sa en tk va fm tz vl iw rm rr om Om Pm Nm od sv le mv hI H locs hP hD hS ls hl
      by_cases c_32 : xs i &&& 63 = 32
      · refine tp c_32 ?_
        refine lv_tableIn (off := 1110) (tgt := 1143) hx hb dL_law_33 (by decide) (by decide) (by decide) (by decide) ?_
        exact lc_32 C0 hi6 hLs back ik C S K K2 Y n T bi si f P F N B O Sd Dv L rc re fr lo sm wc lw gw ss sl sc sp sg lb P2 F2 N2 B2 O2 Sd2 Dv2 L2 rc2 re2 fr2 lo2 sm2 X sa en tk va fm tz vl iw rm rr om Om Pm Nm od sv le mv hI H locs hP hD hS ls hl
      by_cases c_33 : xs i &&& 63 = 33
      · refine tp c_33 ?_
        refine lv_tableIn (off := 1133) (tgt := 1166) hx hb dL_law_33 (by decide) (by decide) (by decide) (by decide) ?_
        exact lc_33 C0 hi6 hLs back ik C S K K2 Y n T bi si f P F N B O Sd Dv L rc re fr lo sm wc lw gw ss sl sc sp sg lb P2 F2 N2 B2 O2 Sd2 Dv2 L2 rc2 re2 fr2 lo2 sm2 X sa en tk va fm tz vl iw rm rr om Om Pm Nm od sv le mv hI H locs hP hD hS ls hl
      by_cases c_34 : xs i &&& 63 = 34
      · refine tp c_34 ?_
        refine lv_tableIn (off := 1146) (tgt := 1179) hx hb dL_law_33 (by decide) (by decide) (by decide) (by decide) ?_
        exact lc_34 C0 hi6 hLs back ik C S K K2 Y n T bi si f P F N B O Sd Dv L rc re fr lo sm wc lw gw ss sl sc sp sg lb P2 F2 N2 B2 O2 Sd2 Dv2 L2 rc2 re2 fr2 lo2 sm2 X sa en tk va fm tz vl iw rm rr om Om Pm Nm od sv le mv hI H locs hP hD hS ls hl
      by_cases c_35 : xs i &&& 63 = 35
      · refine tp c_35 ?_
        refine lv_tableIn (off := 1159) (tgt := 1192) hx hb dL_law_33 (by decide) (by decide) (by decide) (by decide) ?_
        exact lc_35 C0 hi6 hLs back ik C S K K2 Y n T bi si f P F N B O Sd Dv L rc re fr lo sm wc lw gw ss sl sc sp sg lb P2 F2 N2 B2 O2 Sd2 Dv2 L2 rc2 re2 fr2 lo2 sm2 X sa en tk va fm tz vl iw rm rr om Om Pm Nm od sv le mv hI H locs hP hD hS ls hl
      by_cases c_36 : xs i &&& 63 = 36
      · refine tp c_36 ?_
        refine lv_tableIn (off := 1172) (tgt := 1205) hx hb dL_law_33 (by decide) (by decide) (by decide) (by decide) ?_
        exact lc_36 C0 hi6 hLs back ik C S K K2 Y n T bi si f P F N B O Sd Dv L rc re fr lo sm wc lw gw ss sl sc sp sg lb P2 F2 N2 B2 O2 Sd2 Dv2 L2 rc2 re2 fr2 lo2 sm2 X sa en tk va fm tz vl iw rm rr om Om Pm Nm od sv le mv hI H locs hP hD hS ls hl
      by_cases c_37 : xs i &&& 63 = 37
      · refine tp c_37 ?_
        refine lv_tableIn (off := 1195) (tgt := 1228) hx hb dL_law_33 (by decide) (by decide) (by decide) (by decide) ?_
        exact lc_37 C0 hi6 hLs back ik C S K K2 Y n T bi si f P F N B O Sd Dv L rc re fr lo sm wc lw gw ss sl sc sp sg lb P2 F2 N2 B2 O2 Sd2 Dv2 L2 rc2 re2 fr2 lo2 sm2 X sa en tk va fm tz vl iw rm rr om Om Pm Nm od sv le mv hI H locs hP hD hS ls hl
      refine lv_tableOut (tgt := 1251) hx hb dL_law_33 (sw_out 0 37 (fun v h1 h2 e => ?_)) (by decide) ?_
      · have e := Int32.toInt_inj.mp (e.trans (show v = ((Int32.ofInt v).toInt) from by rcases (show v = 0 ∨ v = 1 ∨ v = 2 ∨ v = 3 ∨ v = 4 ∨ v = 5 ∨ v = 6 ∨ v = 7 ∨ v = 8 ∨ v = 9 ∨ v = 10 ∨ v = 11 ∨ v = 12 ∨ v = 13 ∨ v = 14 ∨ v = 15 ∨ v = 16 ∨ v = 17 ∨ v = 18 ∨ v = 19 ∨ v = 20 ∨ v = 21 ∨ v = 22 ∨ v = 23 ∨ v = 24 ∨ v = 25 ∨ v = 26 ∨ v = 27 ∨ v = 28 ∨ v = 29 ∨ v = 30 ∨ v = 31 ∨ v = 32 ∨ v = 33 ∨ v = 34 ∨ v = 35 ∨ v = 36 ∨ v = 37 by omega) with rfl | rfl | rfl | rfl | rfl | rfl | rfl | rfl | rfl | rfl | rfl | rfl | rfl | rfl | rfl | rfl | rfl | rfl | rfl | rfl | rfl | rfl | rfl | rfl | rfl | rfl | rfl | rfl | rfl | rfl | rfl | rfl | rfl | rfl | rfl | rfl | rfl | rfl <;> rfl))
        rcases (show v = 0 ∨ v = 1 ∨ v = 2 ∨ v = 3 ∨ v = 4 ∨ v = 5 ∨ v = 6 ∨ v = 7 ∨ v = 8 ∨ v = 9 ∨ v = 10 ∨ v = 11 ∨ v = 12 ∨ v = 13 ∨ v = 14 ∨ v = 15 ∨ v = 16 ∨ v = 17 ∨ v = 18 ∨ v = 19 ∨ v = 20 ∨ v = 21 ∨ v = 22 ∨ v = 23 ∨ v = 24 ∨ v = 25 ∨ v = 26 ∨ v = 27 ∨ v = 28 ∨ v = 29 ∨ v = 30 ∨ v = 31 ∨ v = 32 ∨ v = 33 ∨ v = 34 ∨ v = 35 ∨ v = 36 ∨ v = 37 by omega) with rfl | rfl | rfl | rfl | rfl | rfl | rfl | rfl | rfl | rfl | rfl | rfl | rfl | rfl | rfl | rfl | rfl | rfl | rfl | rfl | rfl | rfl | rfl | rfl | rfl | rfl | rfl | rfl | rfl | rfl | rfl | rfl | rfl | rfl | rfl | rfl | rfl | rfl
        · exact c_0 e
        · exact c_1 e
        · exact c_2 e
        · exact c_3 e
        · exact c_4 e
        · exact c_5 e
        · exact c_6 e
        · exact c_7 e
        · exact c_8 e
        · exact c_9 e
        · exact c_10 e
        · exact c_11 e
        · exact c_12 e
        · exact c_13 e
        · exact c_14 e
        · exact c_15 e
        · exact c_16 e
        · exact c_17 e
        · exact c_18 e
        · exact c_19 e
        · exact c_20 e
        · exact c_21 e
        · exact c_22 e
        · exact c_23 e
        · exact c_24 e
        · exact c_25 e
        · exact c_26 e
        · exact c_27 e
        · exact c_28 e
        · exact c_29 e
        · exact c_30 e
        · exact c_31 e
        · exact c_32 e
        · exact c_33 e
        · exact c_34 e
        · exact c_35 e
        · exact c_36 e
        · exact c_37 e
      · exact back ik C S K K2 Y n T bi si f P F N B O Sd Dv L rc re fr lo sm wc lw gw ss sl sc sp sg lb P2 F2 N2 B2 O2 Sd2 Dv2 L2 rc2 re2 fr2 lo2 sm2 X sa en tk va fm tz vl iw rm rr om Om Pm Nm od sv le mv hI H locs hP hD hS ls hl
