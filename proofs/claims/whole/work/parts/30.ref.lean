theorem kc_X7_shuts : kV yX7_shuts cX7_shuts 4 none 2 := ⟨kw_5_156, kw_s_60, kw_1_8, kw_5_157, by decide, by decide, by decide +kernel⟩
set_option maxHeartbeats 4000000 in
set_option maxRecDepth 100000 in
theorem c_X7_shuts (l : Launch) (D : va_G) (cy : Nat → ClassId) (G : Nat → Nat) (sz : Nat) (mm : Nat → Nat) (ik : Int32) (tl : Int32) (fm : Int32) (tz : Int32) (vl : Int32) (iw : Int32) (rm : Int32) (rr : Int32) (om : Int32) (S : Nat → Int32) (sn : Nat) (v : Int32) (wf : wf S) (hm : sn < 2 ^ 31) : Met l yX7_shuts (wm yX7_shuts cX7_shuts 4 none) { frames := 0, cells := 0, slots := 0, locals := 0 } (va_Pc [.ref (mm 0), .int (nI sn), .int v] (pr D (TY cy) G ([mO cy mm ik tl fm tz vl iw rm rr om, ia cy (mm 1) 169 S]) sz)) (va_Qv (fun (u : Unit) => True) (fun (u : Unit) t => po D (va_A ([mO cy mm ik tl fm tz vl iw rm rr om, ia cy (mm 1) 169 S]) sz) ([mO cy mm ik tl fm tz vl iw rm rr om, ia cy (mm 1) 169 (shS S v sn (gcN S))]) t) (va_A ([mO cy mm ik tl fm tz vl iw rm rr om, ia cy (mm 1) 169 S]) sz)) 0 0 (va_A ([mO cy mm ik tl fm tz vl iw rm rr om, ia cy (mm 1) 169 S]) sz) := by
  refine mk_rw (by decide) RX7 rfl (Nat.le_of_ble_eq_true rfl) [(0, .ref (mm 0)), (1, .int (nI sn)), (2, .int v)] rfl ?_
  intro p e s m below meth c hx hb hml hown hr hlocks hin hw hsz hA hG hK H0 locs0 hP0 hD0 hS0 ls0 hl0
  clear hin
  have hg20 := wf_g20 wf
  refine lv_iconst (v := 0) hx hb dX7_shuts_0 (by decide) ?_
  refine lv_istore_n (lv' := [(3, .int 0), (0, .ref (mm 0)), (1, .int (nI sn)), (2, .int v)]) hx hb dX7_shuts_1 rfl hl0 (by decide) rfl (fun ls1 hl1 => ?_)
  clear hl0 ls0
  have hq9 : ([mO cy mm ik tl fm tz vl iw rm rr om, ia cy (mm 1) 169 S]) = ([mO cy mm ik tl fm tz vl iw rm rr om, ia cy (mm 1) 169 (shS S v sn 0)]) := congrArg (fun z9 => [mO cy mm ik tl fm tz vl iw rm rr om, ia cy (mm 1) 169 z9]) (show S = (shS S v sn 0) from rfl)
  replace hP0 := (congrArg (fun z9 => va_P D vwCl z9 _) hq9).mp hP0
  replace hD0 := (congrArg (fun z9 => va_D _ z9) hq9).mp hD0
  clear hq9
  refine wlp (ι := Nat) (nL := 4) (fun x9 => (x9 ≤ gcN S)) (fun x9 => [mO cy mm ik tl fm tz vl iw rm rr om, ia cy (mm 1) 169 (shS S v sn x9)]) (fun x9 => [(3, .int (nI x9)), (0, .ref (mm 0)), (1, .int (nI sn)), (2, .int v)]) (fun x9 => []) (fun x9 => gcN S - x9) 2 ?_ 0 (by first | omega | assumption | rfl | simp_all) rfl hP0 hD0 hS0 (lv_sub hl1 [0, 1, 2, 3] rfl)
  clear hP0 hD0 hS0 locs0 H0 hl1 ls1
  intro x9 hI ih_2 H1 locs1 ls2 hP1 hD1 hS1 hl2
  obtain ⟨i, rfl⟩ : ∃ z9, z9 = x9 := ⟨_, rfl⟩
  have hi := hI
  replace hi : i ≤ gcN S := hi
  replace hP1 : va_P D vwCl ([mO cy mm ik tl fm tz vl iw rm rr om, ia cy (mm 1) 169 (shS S v sn i)]) H1 := hP1
  replace hD1 : va_D (va_A _ sz) ([mO cy mm ik tl fm tz vl iw rm rr om, ia cy (mm 1) 169 (shS S v sn i)]) := hD1
  replace hl2 : lv_has ls2 4 [(3, .int (nI i)), (0, .ref (mm 0)), (1, .int (nI sn)), (2, .int v)] := hl2
  show W p l e _ s m _ below meth c _ _ _ _ _ (F0 m 2 ls2 [])
  refine lv_iload_n hx hb dX7_shuts_2 rfl (lv_at hl2 0 rfl) ?_
  refine lv_aload_n hx hb dX7_shuts_3 rfl (lv_at hl2 1 rfl) ?_
  refine va_get (D := D) (ci := 7) (v := .ref (mm 1)) (C := RX7) (T := TX7) (N := 23) hx hb hw iX7 hown hK hP1 0 rfl rfl 0 (by decide) (hw _ kw_4_64) (fun _ h9 => h9) rfl dX7_shuts_4 ?_
  refine lv_iconst (v := 1) hx hb dX7_shuts_7 (by decide) ?_
  refine ald_i (f := shS S v sn i) hx hb hK hP1 1 0 rfl rfl 1 rfl (by first | omega | assumption) (by decide) dX7_shuts_8 ?_
  refine tp (show ((shS S v sn i) 1) = nI (gcN S) from (shS_lo S v sn i (by decide)).trans (wf_g wf)) ?_
  refine ln_ge (tgt := 43) i (gcN S) rfl rfl (by omega) (by omega) hx hb dX7_shuts_9 (by decide) (fun c_9 => ?_) (fun c_9 => ?_)
  · obtain rfl : i = gcN S := (by omega)
    refine re_v () hx hb hr hlocks hP1 hD1 hS1 dX7_shuts_43 ?_
    exact (trivial)
  · refine lv_iload_n hx hb dX7_shuts_12 rfl (lv_at hl2 2 rfl) ?_
    refine lv_iload_n hx hb dX7_shuts_13 rfl (lv_at hl2 0 rfl) ?_
    refine lv_ishr hx hb dX7_shuts_14 ?_
    refine tp (show ((nI sn) >>> ((nI i) &&& 31)) = nI (sn / 2 ^ i) from shr_n (by omega) (by omega)) ?_
    refine lv_iconst (v := 1) hx hb dX7_shuts_15 (by decide) ?_
    refine lv_iand hx hb dX7_shuts_16 ?_
    refine tp (show ((nI (sn / 2 ^ i)) &&& 1) = b2i (sn.testBit i = true) from (nx_and _ 1).trans (bit_ask sn i)) ?_
    refine lv_iconst (v := 1) hx hb dX7_shuts_17 (by decide) ?_
    refine lv_icmp_ne (tgt := 37) hx hb dX7_shuts_18 (by decide) (fun c_18 => ?_) (fun c_18 => ?_)
    · have hq9 : ([mO cy mm ik tl fm tz vl iw rm rr om, ia cy (mm 1) 169 (shS S v sn i)]) = ([mO cy mm ik tl fm tz vl iw rm rr om, ia cy (mm 1) 169 (shS S v sn (i + 1))]) := congrArg (fun z9 => [mO cy mm ik tl fm tz vl iw rm rr om, ia cy (mm 1) 169 z9]) (show (shS S v sn i) = (shS S v sn (i + 1)) from by clear hx hb hml hown hr hlocks hw hsz hA hG hK hP1 hD1 hS1 hl2 ih_2; grind [shS, b2i])
      replace hP1 := (congrArg (fun z9 => va_P D vwCl z9 _) hq9).mp hP1
      replace hD1 := (congrArg (fun z9 => va_D _ z9) hq9).mp hD1
      clear hq9
      refine lv_iinc (v := nI (i + 1)) (lv' := [(3, .int (nI (i + 1))), (0, .ref (mm 0)), (1, .int (nI sn)), (2, .int v)]) hx hb dX7_shuts_37 hl2 (k := 0) rfl (nI_inc _) (by decide) rfl (fun ls3 hl3 => ?_)
      clear hl2 ls2
      refine lv_goto (tgt := 2) hx hb dX7_shuts_40 (by decide) ?_
      exact ih_2 (i + 1) (by first | omega | assumption | rfl | simp_all) (by (try dsimp only); omega) H1 locs1 ls3 hP1 hD1 hS1 (lv_sub hl3 [0, 1, 2, 3] rfl)
    · refine lv_aload_n hx hb dX7_shuts_21 rfl (lv_at hl2 1 rfl) ?_
      refine va_get (D := D) (ci := 7) (v := .ref (mm 1)) (C := RX7) (T := TX7) (N := 23) hx hb hw iX7 hown hK hP1 0 rfl rfl 0 (by decide) (hw _ kw_4_64) (fun _ h9 => h9) rfl dX7_shuts_22 ?_
      refine lv_bipush (v := 9) hx hb dX7_shuts_25 (by decide) ?_
      refine lv_bipush (v := 8) hx hb dX7_shuts_27 (by decide) ?_
      refine lv_iload_n hx hb dX7_shuts_29 rfl (lv_at hl2 0 rfl) ?_
      refine lv_imul hx hb dX7_shuts_30 ?_
      refine tp (show (8 * (nI i)) = nI (8 * i) from pk_mul _ _) ?_
      refine lv_iadd hx hb dX7_shuts_31 ?_
      refine tp (show (9 + (nI (8 * i))) = nI (9 + 8 * i) from nI_add _ _) ?_
      refine lv_bipush (v := 7) hx hb dX7_shuts_32 (by decide) ?_
      refine lv_iadd hx hb dX7_shuts_34 ?_
      refine tp (show ((nI (9 + 8 * i)) + 7) = nI (9 + 8 * i + 7) from nI_add _ _) ?_
      refine lv_iload_n hx hb dX7_shuts_35 rfl (lv_at hl2 3 rfl) ?_
      refine ast_i (f := shS S v sn i) (ws' := [mO cy mm ik tl fm tz vl iw rm rr om, ia cy (mm 1) 169 (upd (shS S v sn i) (16 + 8 * i) v)]) hx hb hK hP1 hD1 hS1 1 0 rfl rfl (16 + 8 * i) (congrArg nI (by omega)) (by omega) (by decide) rfl dX7_shuts_36 (fun H2 locs2 hP2 hD2 hS2 => ?_)
      clear hP1 hD1 hS1 locs1 H1
      have hq9 : ([mO cy mm ik tl fm tz vl iw rm rr om, ia cy (mm 1) 169 (upd (shS S v sn i) (16 + 8 * i) v)]) = ([mO cy mm ik tl fm tz vl iw rm rr om, ia cy (mm 1) 169 (shS S v sn (i + 1))]) := congrArg (fun z9 => [mO cy mm ik tl fm tz vl iw rm rr om, ia cy (mm 1) 169 z9]) (show (upd (shS S v sn i) (16 + 8 * i) v) = (shS S v sn (i + 1)) from by clear hx hb hml hown hr hlocks hw hsz hA hG hK hP2 hD2 hS2 hl2 ih_2; grind [shS, b2i])
      replace hP2 := (congrArg (fun z9 => va_P D vwCl z9 _) hq9).mp hP2
      replace hD2 := (congrArg (fun z9 => va_D _ z9) hq9).mp hD2
      clear hq9
      refine lv_iinc (v := nI (i + 1)) (lv' := [(3, .int (nI (i + 1))), (0, .ref (mm 0)), (1, .int (nI sn)), (2, .int v)]) hx hb dX7_shuts_37 hl2 (k := 0) rfl (nI_inc _) (by decide) rfl (fun ls3 hl3 => ?_)
      clear hl2 ls2
      refine lv_goto (tgt := 2) hx hb dX7_shuts_40 (by decide) ?_
      exact ih_2 (i + 1) (by first | omega | assumption | rfl | simp_all) (by (try dsimp only); omega) H2 locs2 ls3 hP2 hD2 hS2 (lv_sub hl3 [0, 1, 2, 3] rfl)

theorem kc_X7_ones : kT yX7_ones cX7_ones 3 (some .int) 1 := ⟨kw_5_146, kw_1_8, kw_5_147, by decide, by decide, by decide +kernel⟩
set_option maxHeartbeats 4000000 in
set_option maxRecDepth 100000 in
theorem c_X7_ones (l : Launch) (D : va_G) (cy : Nat → ClassId) (G : Nat → Nat) (sz : Nat) (sn : Nat) (hm : sn < 2 ^ 31) : Met l yX7_ones (wm yX7_ones cX7_ones 3 (some .int)) { frames := 0, cells := 0, slots := 0, locals := 0 } (va_Pc [.int (nI sn)] (pd D (TY cy) G ([]) sz)) (va_Qi (fun r (_ : Unit) => r = nI (pop sn)) (fun _ _ => True) (va_A [] sz)) 0 0 (va_A [] sz) := by
  refine mk_rd (by decide) RX7 rfl (Nat.le_of_ble_eq_true rfl) [(0, .int (nI sn))] rfl ?_
  intro p e s m below meth c hx hb hml hown hr hlocks hw hsz hA hG hK H0 locs0 hP0 hS0 ls0 hl0
  refine lv_iconst (v := 0) hx hb dX7_ones_0 (by decide) ?_
  refine lv_istore_n (lv' := [(1, .int 0), (0, .int (nI sn))]) hx hb dX7_ones_1 rfl hl0 (by decide) rfl (fun ls1 hl1 => ?_)
  clear hl0 ls0
  refine lv_iload_n hx hb dX7_ones_2 rfl (lv_at hl1 1 rfl) ?_
  refine lv_istore_n (lv' := [(2, .int (nI sn)), (1, .int 0), (0, .int (nI sn))]) hx hb dX7_ones_3 rfl hl1 (by decide) rfl (fun ls2 hl2 => ?_)
  clear hl1 ls1
  refine rlp (ι := Nat × Nat) (nL := 3) (ws := []) (fun x9 => (x9.2 < 2 ^ 31) ∧ (x9.1 + pop x9.2 = pop sn)) (fun x9 => [(2, .int (nI x9.2)), (1, .int (nI x9.1)), (0, .int (nI sn))]) (fun x9 => []) (fun x9 => x9.2) 4 ?_ (0, sn) (⟨hm, Nat.zero_add _⟩) rfl hP0 hS0 (lv_sub hl2 [0, 1, 2] rfl)
  clear hP0 hS0 locs0 H0 hl2 ls2
  intro x9 hI ih_4 H1 locs1 ls3 hP1 hS1 hl3
  obtain ⟨c9, k⟩ := x9
  obtain ⟨hk, hc⟩ := hI
  replace hk : k < 2 ^ 31 := hk
  replace hc : c9 + pop k = pop sn := hc
  replace hP1 : va_P D vwCl ([]) H1 := hP1
  replace hl3 : lv_has ls3 3 [(2, .int (nI k)), (1, .int (nI c9)), (0, .int (nI sn))] := hl3
  show W p l e _ s m _ below meth c _ _ _ _ _ (F0 m 4 ls3 [])
  refine lv_iload_n hx hb dX7_ones_4 rfl (lv_at hl3 0 rfl) ?_
  refine lv_if_eq (tgt := 20) hx hb dX7_ones_5 (by decide) (fun c_5 => ?_) (fun c_5 => ?_)
  · have hk0 := wid_c0 hk c_5
    subst hk0
    have hp0 : pop 0 = 0 := popc_0 32
    have hc9 : c9 = pop sn := by omega
    refine lv_iload_n hx hb dX7_ones_20 rfl (lv_at hl3 1 rfl) ?_
    exact rd_i hx hb hr hlocks hS1 dX7_ones_21 (congrArg nI hc9)
  · have hk0 := wid_c1 hk c_5
    have hpl : pop (k &&& (k - 1)) + 1 = pop k := pop_low 32 k (by omega) hk0
    refine lv_iinc (v := nI (c9 + 1)) (lv' := [(1, .int (nI (c9 + 1))), (2, .int (nI k)), (0, .int (nI sn))]) hx hb dX7_ones_8 hl3 (k := 1) rfl (nI_inc _) (by decide) rfl (fun ls4 hl4 => ?_)
    clear hl3 ls3
    refine lv_iload_n hx hb dX7_ones_11 rfl (lv_at hl4 1 rfl) ?_
    refine lv_iload_n hx hb dX7_ones_12 rfl (lv_at hl4 1 rfl) ?_
    refine lv_iconst (v := 1) hx hb dX7_ones_13 (by decide) ?_
    refine lv_isub hx hb dX7_ones_14 ?_
    refine tp (show ((nI k) - 1) = nI (k - 1) from pk_sub (b := 1) (by omega)) ?_
    refine lv_iand hx hb dX7_ones_15 ?_
    refine tp (show ((nI k) &&& (nI (k - 1))) = nI (k &&& (k - 1)) from nx_and _ _) ?_
    refine lv_istore_n (lv' := [(2, .int (nI (k &&& (k - 1)))), (1, .int (nI (c9 + 1))), (0, .int (nI sn))]) hx hb dX7_ones_16 rfl hl4 (by decide) rfl (fun ls5 hl5 => ?_)
    clear hl4 ls4
    refine lv_goto (tgt := 4) hx hb dX7_ones_17 (by decide) ?_
    exact ih_4 (c9 + 1, k &&& (k - 1)) (⟨(by have := and_lt' hk0; omega), (by dsimp only; omega)⟩) (by (try dsimp only); exact and_lt' hk0) H1 locs1 ls5 hP1 hS1 (lv_sub hl5 [0, 1, 2] rfl)

theorem kc_X7_costs : kV yX7_costs cX7_costs 4 (some .int) 1 := ⟨kw_5_152, kw_s_59, kw_1_8, kw_5_153, by decide, by decide, by decide +kernel⟩
set_option maxHeartbeats 4000000 in
set_option maxRecDepth 100000 in
theorem c_X7_costs (l : Launch) (D : va_G) (cy : Nat → ClassId) (G : Nat → Nat) (sz : Nat) (mm : Nat → Nat) (ik : Int32) (tl : Int32) (fm : Int32) (tz : Int32) (vl : Int32) (iw : Int32) (rm : Int32) (rr : Int32) (om : Int32) (S : Nat → Int32) (sn : Nat) (wf : wf S) (hm : sn < 2 ^ 31) : Met l yX7_costs (wm yX7_costs cX7_costs 4 (some .int)) { frames := 1, cells := 0, slots := 0, locals := 22 } (va_Pc [.ref (mm 0), .int (nI sn)] (pd D (TY cy) G ([mO cy mm ik tl fm tz vl iw rm rr om, ia cy (mm 1) 169 S]) sz)) (va_Qi (fun r (_ : Unit) => r = cst S sn (gcN S)) (fun _ _ => True) (va_A [] sz)) 0 0 (va_A [] sz) := by
  refine mk_rd (by decide) RX7 rfl (Nat.le_of_ble_eq_true rfl) [(0, .ref (mm 0)), (1, .int (nI sn))] rfl ?_
  intro p e s m below meth c hx hb hml hown hr hlocks hw hsz hA hG hK H0 locs0 hP0 hS0 ls0 hl0
  have hg20 := wf_g20 wf
  refine lv_iconst (v := 0) hx hb dX7_costs_0 (by decide) ?_
  refine lv_istore_n (lv' := [(2, .int 0), (0, .ref (mm 0)), (1, .int (nI sn))]) hx hb dX7_costs_1 rfl hl0 (by decide) rfl (fun ls1 hl1 => ?_)
  clear hl0 ls0
  refine lv_iconst (v := 0) hx hb dX7_costs_2 (by decide) ?_
  refine lv_istore_n (lv' := [(3, .int 0), (2, .int 0), (0, .ref (mm 0)), (1, .int (nI sn))]) hx hb dX7_costs_3 rfl hl1 (by decide) rfl (fun ls2 hl2 => ?_)
  clear hl1 ls1
  refine rlp (ι := Nat) (nL := 4) (ws := [mO cy mm ik tl fm tz vl iw rm rr om, ia cy (mm 1) 169 S]) (fun x9 => (x9 ≤ gcN S)) (fun x9 => [(3, .int (nI x9)), (2, .int (cst S sn x9)), (0, .ref (mm 0)), (1, .int (nI sn))]) (fun x9 => []) (fun x9 => gcN S - x9) 4 ?_ 0 (by first | omega | assumption | rfl | simp_all) rfl hP0 hS0 (lv_sub hl2 [0, 1, 2, 3] rfl)
  clear hP0 hS0 locs0 H0 hl2 ls2
  intro x9 hI ih_4 H1 locs1 ls3 hP1 hS1 hl3
  obtain ⟨i, rfl⟩ : ∃ z9, z9 = x9 := ⟨_, rfl⟩
  have hi := hI
  replace hi : i ≤ gcN S := hi
  replace hP1 : va_P D vwCl ([mO cy mm ik tl fm tz vl iw rm rr om, ia cy (mm 1) 169 S]) H1 := hP1
  replace hl3 : lv_has ls3 4 [(3, .int (nI i)), (2, .int (cst S sn i)), (0, .ref (mm 0)), (1, .int (nI sn))] := hl3
  show W p l e _ s m _ below meth c _ _ _ _ _ (F0 m 4 ls3 [])
  refine lv_iload_n hx hb dX7_costs_4 rfl (lv_at hl3 0 rfl) ?_
  refine lv_aload_n hx hb dX7_costs_5 rfl (lv_at hl3 2 rfl) ?_
  refine va_get (D := D) (ci := 7) (v := .ref (mm 1)) (C := RX7) (T := TX7) (N := 23) hx hb hw iX7 hown hK hP1 0 rfl rfl 0 (by decide) (hw _ kw_4_64) (fun _ h9 => h9) rfl dX7_costs_6 ?_
  refine lv_iconst (v := 1) hx hb dX7_costs_9 (by decide) ?_
  refine ald_i (f := S) hx hb hK hP1 1 0 rfl rfl 1 rfl (by first | omega | assumption) (by decide) dX7_costs_10 ?_
  refine tp (show (S 1) = nI (gcN S) from wf_g wf) ?_
  refine ln_ge (tgt := 36) i (gcN S) rfl rfl (by omega) (by omega) hx hb dX7_costs_11 (by decide) (fun c_11 => ?_) (fun c_11 => ?_)
  · obtain rfl : i = gcN S := (by omega)
    refine lv_iload_n hx hb dX7_costs_36 rfl (lv_at hl3 1 rfl) ?_
    exact rd_i hx hb hr hlocks hS1 dX7_costs_37 (rfl)
  · refine lv_iload_n hx hb dX7_costs_14 rfl (lv_at hl3 1 rfl) ?_
    refine lv_iload_n hx hb dX7_costs_15 rfl (lv_at hl3 3 rfl) ?_
    refine lv_iload_n hx hb dX7_costs_16 rfl (lv_at hl3 0 rfl) ?_
    refine lv_ishr hx hb dX7_costs_17 ?_
    refine tp (show ((nI sn) >>> ((nI i) &&& 31)) = nI (sn / 2 ^ i) from shr_n (by omega) (by omega)) ?_
    refine lv_iconst (v := 1) hx hb dX7_costs_18 (by decide) ?_
    refine lv_iand hx hb dX7_costs_19 ?_
    refine tp (show ((nI (sn / 2 ^ i)) &&& 1) = b2i (sn.testBit i = true) from (nx_and _ 1).trans (bit_ask sn i)) ?_
    refine lv_aload_n hx hb dX7_costs_20 rfl (lv_at hl3 2 rfl) ?_
    refine lv_iload_n hx hb dX7_costs_21 rfl (lv_at hl3 0 rfl) ?_
    refine lv_bipush (v := 6) hx hb dX7_costs_22 (by decide) ?_
    refine rV_i (wc := [mO cy mm ik tl fm tz vl iw rm rr om, ia cy (mm 1) 169 S]) (rest := [.int (b2i (sn.testBit i = true)), .int (cst S sn i)]) hx hb hml hown hw hG hK hP1 hS1 hA hl3 kc_X7_has kw_4_174 [.int (nI i), .int 6] (c_X7_has l D cy G H1.size mm ik tl fm tz vl iw rm rr om S i 6 (by first | omega | assumption) (by first | omega | assumption)) [0, 1] rfl 0 rfl rfl rfl rfl rfl (Nat.le_of_ble_eq_true rfl) ⟨Nat.le_of_ble_eq_true rfl, Nat.le_of_ble_eq_true rfl⟩ dX7_costs_24 ⟨Nat.le_of_ble_eq_true rfl, Nat.le_of_ble_eq_true rfl⟩ (fun r_24 H2 locs2 hr_24 hP2 hS2 => ?_)
    clear hP1 hS1 locs1 H1
    subst hr_24
    refine tp (show (S (9 + 8 * i + 6)) = S (15 + 8 * i) from congrArg _ (by omega)) ?_
    refine lv_imul hx hb dX7_costs_27 ?_
    refine lv_iadd hx hb dX7_costs_28 ?_
    refine lv_istore_n (lv' := [(2, .int ((cst S sn i) + ((b2i (sn.testBit i = true)) * (S (15 + 8 * i))))), (3, .int (nI i)), (0, .ref (mm 0)), (1, .int (nI sn))]) hx hb dX7_costs_29 rfl hl3 (by decide) rfl (fun ls4 hl4 => ?_)
    clear hl3 ls3
    have hq9 : cst S sn (i + 1) = (cst S sn i) + ((b2i (sn.testBit i = true)) * (S (15 + 8 * i))) := by clear hx hb hml hown hr hlocks hw hsz hA hG hK hP2 hS2 hl4 ih_4; grind [cst, b2i]
    replace hl4 : lv_has ls4 4 [(2, .int (cst S sn (i + 1))), (3, .int (nI i)), (0, .ref (mm 0)), (1, .int (nI sn))] := (congrArg (fun z9 => lv_has ls4 4 [(2, .int z9), (3, .int (nI i)), (0, .ref (mm 0)), (1, .int (nI sn))]) hq9).mpr hl4
    clear hq9
    refine lv_iinc (v := nI (i + 1)) (lv' := [(3, .int (nI (i + 1))), (2, .int (cst S sn (i + 1))), (0, .ref (mm 0)), (1, .int (nI sn))]) hx hb dX7_costs_30 hl4 (k := 1) rfl (nI_inc _) (by decide) rfl (fun ls5 hl5 => ?_)
    clear hl4 ls4
    refine lv_goto (tgt := 4) hx hb dX7_costs_33 (by decide) ?_
    exact ih_4 (i + 1) (by first | omega | assumption | rfl | simp_all) (by (try dsimp only); omega) H2 locs2 ls5 hP2 hS2 (lv_sub hl5 [0, 1, 2, 3] rfl)

theorem kc_X7_isStopping : kV yX7_isStopping cX7_isStopping 4 (some .boolean) 1 := ⟨kw_5_143, kw_s_58, kw_1_8, kw_5_144, by decide, by decide, by decide +kernel⟩
set_option maxHeartbeats 4000000 in
set_option maxRecDepth 100000 in
theorem c_X7_isStopping (l : Launch) (D : va_G) (cy : Nat → ClassId) (G : Nat → Nat) (sz : Nat) (mm : Nat → Nat) (ik : Int32) (tl : Int32) (fm : Int32) (tz : Int32) (vl : Int32) (iw : Int32) (rm : Int32) (rr : Int32) (om : Int32) (S : Nat → Int32) (sn : Nat) (wf : wf S) (hm : sn < 2 ^ 32) : Met l yX7_isStopping (wm yX7_isStopping cX7_isStopping 4 (some .boolean)) { frames := 1, cells := 0, slots := 0, locals := 25 } (va_Pc [.ref (mm 0), .int (nI sn)] (pd D (TY cy) G ([mO cy mm ik tl fm tz vl iw rm rr om, ia cy (mm 1) 169 S]) sz)) (va_Qi (fun r (_ : Unit) => r = b2i (stOk S sn)) (fun _ _ => True) (va_A [] sz)) 0 0 (va_A [] sz) := by
  refine mk_rd (by decide) RX7 rfl (Nat.le_of_ble_eq_true rfl) [(0, .ref (mm 0)), (1, .int (nI sn))] rfl ?_
  intro p e s m below meth c hx hb hml hown hr hlocks hw hsz hA hG hK H0 locs0 hP0 hS0 ls0 hl0
  have hg20 := wf_g20 wf
  have hpl : pop sn ≤ 32 := pop_le 32 sn
  have hpw : 2 ^ gcN S ≤ 2 ^ 20 := Nat.pow_le_pow_right (by decide) hg20
  refine lv_iload_n hx hb dX7_isStopping_0 rfl (lv_at hl0 1 rfl) ?_
  refine lv_i2l hx hb dX7_isStopping_1 rfl ?_
  refine lv_lconst (v := 0) hx hb dX7_isStopping_2 (by decide) ?_
  refine lv_iconst (v := 1) hx hb dX7_isStopping_3 (by decide) ?_
  refine lv_aload_n hx hb dX7_isStopping_4 rfl (lv_at hl0 0 rfl) ?_
  refine va_get (D := D) (ci := 7) (v := .ref (mm 1)) (C := RX7) (T := TX7) (N := 23) hx hb hw iX7 hown hK hP0 0 rfl rfl 0 (by decide) (hw _ kw_4_64) (fun _ h9 => h9) rfl dX7_isStopping_5 ?_
  refine lv_iconst (v := 1) hx hb dX7_isStopping_8 (by decide) ?_
  refine ald_i (f := S) hx hb hK hP0 1 0 rfl rfl 1 rfl (by first | omega | assumption) (by decide) dX7_isStopping_9 ?_
  refine tp (show (S 1) = nI (gcN S) from wf_g wf) ?_
  refine lv_ishl hx hb dX7_isStopping_10 ?_
  refine tp (show (1 <<< ((nI (gcN S)) &&& 31)) = nI (2 ^ gcN S) from shl_1 (by omega)) ?_
  refine lv_iconst (v := 1) hx hb dX7_isStopping_11 (by decide) ?_
  refine lv_isub hx hb dX7_isStopping_12 ?_
  refine lv_i2l hx hb dX7_isStopping_13 rfl ?_
  refine rT_i (wc := []) (rest := []) hx hb hml hown hw hG hK hP0 hS0 hA hl0 kc_X7_in kw_4_153 [.long ((nI sn).toInt64), .long 0, .long (((nI (2 ^ gcN S)) - 1).toInt64)] (c_X7_in l D cy G H0.size ((nI sn).toInt64) 0 (((nI (2 ^ gcN S)) - 1).toInt64)) [] rfl rfl rfl (Nat.le_of_ble_eq_true rfl) ⟨Nat.le_of_ble_eq_true rfl, Nat.le_of_ble_eq_true rfl⟩ dX7_isStopping_14 ⟨Nat.le_of_ble_eq_true rfl, Nat.le_of_ble_eq_true rfl⟩ (fun r_14 H1 locs1 hr_14 hP1 hS1 => ?_)
  clear hP0 hS0 locs0 H0
  subst hr_14
  refine tp (show (b2i (0 ≤ ((nI sn).toInt64) ∧ ((nI sn).toInt64) ≤ (((nI (2 ^ gcN S)) - 1).toInt64))) = b2i (0 ≤ nI sn ∧ nI sn ≤ (nI (2 ^ gcN S)) - 1) from b2i_iff (in_c (by decide) rfl)) ?_
  refine tp (show (b2i (0 ≤ nI sn ∧ nI sn ≤ (nI (2 ^ gcN S)) - 1)) = b2i (sn < 2 ^ gcN S) from b2i_iff (set_in hg20 hm)) ?_
  refine lb_eq (tgt := 33) hx hb dX7_isStopping_17 (by decide) (fun c_17 => ?_) (fun c_17 => ?_)
  · refine lv_iconst (v := 0) hx hb dX7_isStopping_33 (by decide) ?_
    refine tp (show (0) = b2i (sn < 2 ^ gcN S ∧ pop sn ≤ 10) from by clear hx hb hml hown hr hlocks hw hsz hA hG hK hP1 hS1 hl0; grind [b2i]) ?_
    refine lv_istore_n (lv' := [(2, .int (b2i (sn < 2 ^ gcN S ∧ pop sn ≤ 10))), (0, .ref (mm 0)), (1, .int (nI sn))]) hx hb dX7_isStopping_34 rfl hl0 (by decide) rfl (fun ls1 hl1 => ?_)
    clear hl0 ls0
    refine lv_iconst (v := 0) hx hb dX7_isStopping_35 (by decide) ?_
    refine lv_istore_n (lv' := [(3, .int 0), (2, .int (b2i (sn < 2 ^ gcN S ∧ pop sn ≤ 10))), (0, .ref (mm 0)), (1, .int (nI sn))]) hx hb dX7_isStopping_36 rfl hl1 (by decide) rfl (fun ls2 hl2 => ?_)
    clear hl1 ls1
    have hq9 : b2i ((sn < 2 ^ gcN S ∧ pop sn ≤ 10) ∧ opB S sn 0 = true) = b2i (sn < 2 ^ gcN S ∧ pop sn ≤ 10) := b2i_iff ⟨fun z9 => z9.1, fun z9 => ⟨z9, rfl⟩⟩
    replace hl2 : lv_has ls2 4 [(3, .int 0), (2, .int (b2i ((sn < 2 ^ gcN S ∧ pop sn ≤ 10) ∧ opB S sn 0 = true))), (0, .ref (mm 0)), (1, .int (nI sn))] := (congrArg (fun z9 => lv_has ls2 4 [(3, .int 0), (2, .int z9), (0, .ref (mm 0)), (1, .int (nI sn))]) hq9).mpr hl2
    clear hq9
    refine rlp (ι := Nat) (nL := 4) (ws := [mO cy mm ik tl fm tz vl iw rm rr om, ia cy (mm 1) 169 S]) (fun x9 => (x9 ≤ gcN S)) (fun x9 => [(3, .int (nI x9)), (2, .int (b2i ((sn < 2 ^ gcN S ∧ pop sn ≤ 10) ∧ opB S sn x9 = true))), (0, .ref (mm 0)), (1, .int (nI sn))]) (fun x9 => []) (fun x9 => gcN S - x9) 37 ?_ 0 (by first | omega | assumption | rfl | simp_all) rfl hP1 hS1 (lv_sub hl2 [0, 1, 2, 3] rfl)
    clear hP1 hS1 locs1 H1 hl2 ls2
    intro x9 hI ih_37 H2 locs2 ls3 hP2 hS2 hl3
    obtain ⟨i, rfl⟩ : ∃ z9, z9 = x9 := ⟨_, rfl⟩
    have hi := hI
    replace hi : i ≤ gcN S := hi
    replace hP2 : va_P D vwCl ([mO cy mm ik tl fm tz vl iw rm rr om, ia cy (mm 1) 169 S]) H2 := hP2
    replace hl3 : lv_has ls3 4 [(3, .int (nI i)), (2, .int (b2i ((sn < 2 ^ gcN S ∧ pop sn ≤ 10) ∧ opB S sn i = true))), (0, .ref (mm 0)), (1, .int (nI sn))] := hl3
    show W p l e _ s m _ below meth c _ _ _ _ _ (F0 m 37 ls3 [])
    refine lv_iload_n hx hb dX7_isStopping_37 rfl (lv_at hl3 0 rfl) ?_
    refine lv_aload_n hx hb dX7_isStopping_38 rfl (lv_at hl3 2 rfl) ?_
    refine va_get (D := D) (ci := 7) (v := .ref (mm 1)) (C := RX7) (T := TX7) (N := 23) hx hb hw iX7 hown hK hP2 0 rfl rfl 0 (by decide) (hw _ kw_4_64) (fun _ h9 => h9) rfl dX7_isStopping_39 ?_
    refine lv_iconst (v := 1) hx hb dX7_isStopping_42 (by decide) ?_
    refine ald_i (f := S) hx hb hK hP2 1 0 rfl rfl 1 rfl (by first | omega | assumption) (by decide) dX7_isStopping_43 ?_
    refine tp (show (S 1) = nI (gcN S) from wf_g wf) ?_
    refine ln_ge (tgt := 81) i (gcN S) rfl rfl (by omega) (by omega) hx hb dX7_isStopping_44 (by decide) (fun c_44 => ?_) (fun c_44 => ?_)
    · refine lv_iload_n hx hb dX7_isStopping_81 rfl (lv_at hl3 1 rfl) ?_
      exact rd_z hx hb hr hlocks hS2 dX7_isStopping_82 (b2i_z _) ((by obtain rfl : i = gcN S := (by omega); exact b2i_iff ⟨fun z9 => ⟨z9.1.1, z9.1.2, z9.2⟩, fun z9 => ⟨⟨z9.1, z9.2.1⟩, z9.2.2⟩⟩))
    · refine lv_iload_n hx hb dX7_isStopping_47 rfl (lv_at hl3 1 rfl) ?_
      refine lb_eq (tgt := 81) hx hb dX7_isStopping_48 (by decide) (fun c_48 => ?_) (fun c_48 => ?_)
      · refine lv_iload_n hx hb dX7_isStopping_81 rfl (lv_at hl3 1 rfl) ?_
        exact rd_z hx hb hr hlocks hS2 dX7_isStopping_82 (b2i_z _) (b2i_iff ⟨fun z9 => absurd z9 c_48, fun z9 => ⟨⟨z9.1, z9.2.1⟩, opB_le hi z9.2.2⟩⟩)
      · have hm1 := c_48.1.1
        refine lv_iload_n hx hb dX7_isStopping_51 rfl (lv_at hl3 3 rfl) ?_
        refine lv_iload_n hx hb dX7_isStopping_52 rfl (lv_at hl3 0 rfl) ?_
        refine lv_ishr hx hb dX7_isStopping_53 ?_
        refine tp (show ((nI sn) >>> ((nI i) &&& 31)) = nI (sn / 2 ^ i) from shr_n (by omega) (by omega)) ?_
        refine lv_iconst (v := 1) hx hb dX7_isStopping_54 (by decide) ?_
        refine lv_iand hx hb dX7_isStopping_55 ?_
        refine tp (show ((nI (sn / 2 ^ i)) &&& 1) = b2i (sn.testBit i = true) from (nx_and _ 1).trans (bit_ask sn i)) ?_
        refine lb_eq (tgt := 69) hx hb dX7_isStopping_56 (by decide) (fun c_56 => ?_) (fun c_56 => ?_)
        · refine lv_iconst (v := 1) hx hb dX7_isStopping_69 (by decide) ?_
          refine lv_goto (tgt := 74) hx hb dX7_isStopping_70 (by decide) ?_
          refine tp (show (1) = b2i ((sn < 2 ^ gcN S ∧ pop sn ≤ 10) ∧ opB S sn (i + 1) = true) from by simp only [opB]; clear hx hb hml hown hr hlocks hw hsz hA hG hK hP2 hS2 hl3 ih_37; grind [b2i]) ?_
          refine lv_istore_n (lv' := [(2, .int (b2i ((sn < 2 ^ gcN S ∧ pop sn ≤ 10) ∧ opB S sn (i + 1) = true))), (3, .int (nI i)), (0, .ref (mm 0)), (1, .int (nI sn))]) hx hb dX7_isStopping_74 rfl hl3 (by decide) rfl (fun ls4 hl4 => ?_)
          clear hl3 ls3
          refine lv_iinc (v := nI (i + 1)) (lv' := [(3, .int (nI (i + 1))), (2, .int (b2i ((sn < 2 ^ gcN S ∧ pop sn ≤ 10) ∧ opB S sn (i + 1) = true))), (0, .ref (mm 0)), (1, .int (nI sn))]) hx hb dX7_isStopping_75 hl4 (k := 1) rfl (nI_inc _) (by decide) rfl (fun ls5 hl5 => ?_)
          clear hl4 ls4
          refine lv_goto (tgt := 37) hx hb dX7_isStopping_78 (by decide) ?_
          exact ih_37 (i + 1) (by first | omega | assumption | rfl | simp_all) (by (try dsimp only); omega) H2 locs2 ls5 hP2 hS2 (lv_sub hl5 [0, 1, 2, 3] rfl)
        · refine lv_aload_n hx hb dX7_isStopping_59 rfl (lv_at hl3 2 rfl) ?_
          refine lv_iload_n hx hb dX7_isStopping_60 rfl (lv_at hl3 0 rfl) ?_
          refine lv_bipush (v := 7) hx hb dX7_isStopping_61 (by decide) ?_
          refine rV_i (wc := [mO cy mm ik tl fm tz vl iw rm rr om, ia cy (mm 1) 169 S]) (rest := []) hx hb hml hown hw hG hK hP2 hS2 hA hl3 kc_X7_has kw_4_174 [.int (nI i), .int 7] (c_X7_has l D cy G H2.size mm ik tl fm tz vl iw rm rr om S i 7 (by first | omega | assumption) (by first | omega | assumption)) [0, 1] rfl 0 rfl rfl rfl rfl rfl (Nat.le_of_ble_eq_true rfl) ⟨Nat.le_of_ble_eq_true rfl, Nat.le_of_ble_eq_true rfl⟩ dX7_isStopping_63 ⟨Nat.le_of_ble_eq_true rfl, Nat.le_of_ble_eq_true rfl⟩ (fun r_63 H3 locs3 hr_63 hP3 hS3 => ?_)
          clear hP2 hS2 locs2 H2
          subst hr_63
          refine tp (show (S (9 + 8 * i + 7)) = S (16 + 8 * i) from congrArg _ (by omega)) ?_
          refine lv_if_ne (tgt := 73) hx hb dX7_isStopping_66 (by decide) (fun c_66 => ?_) (fun c_66 => ?_)
          · refine lv_iconst (v := 0) hx hb dX7_isStopping_73 (by decide) ?_
            refine tp (show (0) = b2i ((sn < 2 ^ gcN S ∧ pop sn ≤ 10) ∧ opB S sn (i + 1) = true) from by simp only [opB]; clear hx hb hml hown hr hlocks hw hsz hA hG hK hP3 hS3 hl3 ih_37; grind [b2i]) ?_
            refine lv_istore_n (lv' := [(2, .int (b2i ((sn < 2 ^ gcN S ∧ pop sn ≤ 10) ∧ opB S sn (i + 1) = true))), (3, .int (nI i)), (0, .ref (mm 0)), (1, .int (nI sn))]) hx hb dX7_isStopping_74 rfl hl3 (by decide) rfl (fun ls4 hl4 => ?_)
            clear hl3 ls3
            refine lv_iinc (v := nI (i + 1)) (lv' := [(3, .int (nI (i + 1))), (2, .int (b2i ((sn < 2 ^ gcN S ∧ pop sn ≤ 10) ∧ opB S sn (i + 1) = true))), (0, .ref (mm 0)), (1, .int (nI sn))]) hx hb dX7_isStopping_75 hl4 (k := 1) rfl (nI_inc _) (by decide) rfl (fun ls5 hl5 => ?_)
            clear hl4 ls4
            refine lv_goto (tgt := 37) hx hb dX7_isStopping_78 (by decide) ?_
            exact ih_37 (i + 1) (by first | omega | assumption | rfl | simp_all) (by (try dsimp only); omega) H3 locs3 ls5 hP3 hS3 (lv_sub hl5 [0, 1, 2, 3] rfl)
          · refine lv_iconst (v := 1) hx hb dX7_isStopping_69 (by decide) ?_
            refine lv_goto (tgt := 74) hx hb dX7_isStopping_70 (by decide) ?_
            refine tp (show (1) = b2i ((sn < 2 ^ gcN S ∧ pop sn ≤ 10) ∧ opB S sn (i + 1) = true) from by simp only [opB]; clear hx hb hml hown hr hlocks hw hsz hA hG hK hP3 hS3 hl3 ih_37; grind [b2i]) ?_
            refine lv_istore_n (lv' := [(2, .int (b2i ((sn < 2 ^ gcN S ∧ pop sn ≤ 10) ∧ opB S sn (i + 1) = true))), (3, .int (nI i)), (0, .ref (mm 0)), (1, .int (nI sn))]) hx hb dX7_isStopping_74 rfl hl3 (by decide) rfl (fun ls4 hl4 => ?_)
            clear hl3 ls3
            refine lv_iinc (v := nI (i + 1)) (lv' := [(3, .int (nI (i + 1))), (2, .int (b2i ((sn < 2 ^ gcN S ∧ pop sn ≤ 10) ∧ opB S sn (i + 1) = true))), (0, .ref (mm 0)), (1, .int (nI sn))]) hx hb dX7_isStopping_75 hl4 (k := 1) rfl (nI_inc _) (by decide) rfl (fun ls5 hl5 => ?_)
            clear hl4 ls4
            refine lv_goto (tgt := 37) hx hb dX7_isStopping_78 (by decide) ?_
            exact ih_37 (i + 1) (by first | omega | assumption | rfl | simp_all) (by (try dsimp only); omega) H3 locs3 ls5 hP3 hS3 (lv_sub hl5 [0, 1, 2, 3] rfl)
  · refine lv_iload_n hx hb dX7_isStopping_20 rfl (lv_at hl0 1 rfl) ?_
    refine rT_i (wc := []) (rest := []) hx hb hml hown hw hG hK hP1 hS1 hA hl0 kc_X7_ones kw_5_145 [.int (nI sn)] (c_X7_ones l D cy G H1.size sn (by first | omega | assumption)) [] rfl rfl rfl (Nat.le_of_ble_eq_true rfl) ⟨Nat.le_of_ble_eq_true rfl, Nat.le_of_ble_eq_true rfl⟩ dX7_isStopping_21 ⟨Nat.le_of_ble_eq_true rfl, Nat.le_of_ble_eq_true rfl⟩ (fun r_21 H2 locs2 hr_21 hP2 hS2 => ?_)
    clear hP1 hS1 locs1 H1
    subst hr_21
    refine lv_bipush (v := 10) hx hb dX7_isStopping_24 (by decide) ?_
    refine ln_gt (tgt := 33) (pop sn) 10 rfl rfl (by omega) (by omega) hx hb dX7_isStopping_26 (by decide) (fun c_26 => ?_) (fun c_26 => ?_)
    · refine lv_iconst (v := 0) hx hb dX7_isStopping_33 (by decide) ?_
      refine tp (show (0) = b2i (sn < 2 ^ gcN S ∧ pop sn ≤ 10) from by clear hx hb hml hown hr hlocks hw hsz hA hG hK hP2 hS2 hl0; grind [b2i]) ?_
      refine lv_istore_n (lv' := [(2, .int (b2i (sn < 2 ^ gcN S ∧ pop sn ≤ 10))), (0, .ref (mm 0)), (1, .int (nI sn))]) hx hb dX7_isStopping_34 rfl hl0 (by decide) rfl (fun ls1 hl1 => ?_)
      clear hl0 ls0
      refine lv_iconst (v := 0) hx hb dX7_isStopping_35 (by decide) ?_
      refine lv_istore_n (lv' := [(3, .int 0), (2, .int (b2i (sn < 2 ^ gcN S ∧ pop sn ≤ 10))), (0, .ref (mm 0)), (1, .int (nI sn))]) hx hb dX7_isStopping_36 rfl hl1 (by decide) rfl (fun ls2 hl2 => ?_)
      clear hl1 ls1
      have hq9 : b2i ((sn < 2 ^ gcN S ∧ pop sn ≤ 10) ∧ opB S sn 0 = true) = b2i (sn < 2 ^ gcN S ∧ pop sn ≤ 10) := b2i_iff ⟨fun z9 => z9.1, fun z9 => ⟨z9, rfl⟩⟩
      replace hl2 : lv_has ls2 4 [(3, .int 0), (2, .int (b2i ((sn < 2 ^ gcN S ∧ pop sn ≤ 10) ∧ opB S sn 0 = true))), (0, .ref (mm 0)), (1, .int (nI sn))] := (congrArg (fun z9 => lv_has ls2 4 [(3, .int 0), (2, .int z9), (0, .ref (mm 0)), (1, .int (nI sn))]) hq9).mpr hl2
      clear hq9
      refine rlp (ι := Nat) (nL := 4) (ws := [mO cy mm ik tl fm tz vl iw rm rr om, ia cy (mm 1) 169 S]) (fun x9 => (x9 ≤ gcN S)) (fun x9 => [(3, .int (nI x9)), (2, .int (b2i ((sn < 2 ^ gcN S ∧ pop sn ≤ 10) ∧ opB S sn x9 = true))), (0, .ref (mm 0)), (1, .int (nI sn))]) (fun x9 => []) (fun x9 => gcN S - x9) 37 ?_ 0 (by first | omega | assumption | rfl | simp_all) rfl hP2 hS2 (lv_sub hl2 [0, 1, 2, 3] rfl)
      clear hP2 hS2 locs2 H2 hl2 ls2
      intro x9 hI ih_37 H3 locs3 ls3 hP3 hS3 hl3
      obtain ⟨i, rfl⟩ : ∃ z9, z9 = x9 := ⟨_, rfl⟩
      have hi := hI
      replace hi : i ≤ gcN S := hi
      replace hP3 : va_P D vwCl ([mO cy mm ik tl fm tz vl iw rm rr om, ia cy (mm 1) 169 S]) H3 := hP3
      replace hl3 : lv_has ls3 4 [(3, .int (nI i)), (2, .int (b2i ((sn < 2 ^ gcN S ∧ pop sn ≤ 10) ∧ opB S sn i = true))), (0, .ref (mm 0)), (1, .int (nI sn))] := hl3
      show W p l e _ s m _ below meth c _ _ _ _ _ (F0 m 37 ls3 [])
      refine lv_iload_n hx hb dX7_isStopping_37 rfl (lv_at hl3 0 rfl) ?_
      refine lv_aload_n hx hb dX7_isStopping_38 rfl (lv_at hl3 2 rfl) ?_
      refine va_get (D := D) (ci := 7) (v := .ref (mm 1)) (C := RX7) (T := TX7) (N := 23) hx hb hw iX7 hown hK hP3 0 rfl rfl 0 (by decide) (hw _ kw_4_64) (fun _ h9 => h9) rfl dX7_isStopping_39 ?_
      refine lv_iconst (v := 1) hx hb dX7_isStopping_42 (by decide) ?_
      refine ald_i (f := S) hx hb hK hP3 1 0 rfl rfl 1 rfl (by first | omega | assumption) (by decide) dX7_isStopping_43 ?_
      refine tp (show (S 1) = nI (gcN S) from wf_g wf) ?_
      refine ln_ge (tgt := 81) i (gcN S) rfl rfl (by omega) (by omega) hx hb dX7_isStopping_44 (by decide) (fun c_44 => ?_) (fun c_44 => ?_)
      · refine lv_iload_n hx hb dX7_isStopping_81 rfl (lv_at hl3 1 rfl) ?_
        exact rd_z hx hb hr hlocks hS3 dX7_isStopping_82 (b2i_z _) ((by obtain rfl : i = gcN S := (by omega); exact b2i_iff ⟨fun z9 => ⟨z9.1.1, z9.1.2, z9.2⟩, fun z9 => ⟨⟨z9.1, z9.2.1⟩, z9.2.2⟩⟩))
      · refine lv_iload_n hx hb dX7_isStopping_47 rfl (lv_at hl3 1 rfl) ?_
        refine lb_eq (tgt := 81) hx hb dX7_isStopping_48 (by decide) (fun c_48 => ?_) (fun c_48 => ?_)
        · refine lv_iload_n hx hb dX7_isStopping_81 rfl (lv_at hl3 1 rfl) ?_
          exact rd_z hx hb hr hlocks hS3 dX7_isStopping_82 (b2i_z _) (b2i_iff ⟨fun z9 => absurd z9 c_48, fun z9 => ⟨⟨z9.1, z9.2.1⟩, opB_le hi z9.2.2⟩⟩)
        · have hm1 := c_48.1.1
          refine lv_iload_n hx hb dX7_isStopping_51 rfl (lv_at hl3 3 rfl) ?_
          refine lv_iload_n hx hb dX7_isStopping_52 rfl (lv_at hl3 0 rfl) ?_
          refine lv_ishr hx hb dX7_isStopping_53 ?_
          refine tp (show ((nI sn) >>> ((nI i) &&& 31)) = nI (sn / 2 ^ i) from shr_n (by omega) (by omega)) ?_
          refine lv_iconst (v := 1) hx hb dX7_isStopping_54 (by decide) ?_
          refine lv_iand hx hb dX7_isStopping_55 ?_
          refine tp (show ((nI (sn / 2 ^ i)) &&& 1) = b2i (sn.testBit i = true) from (nx_and _ 1).trans (bit_ask sn i)) ?_
          refine lb_eq (tgt := 69) hx hb dX7_isStopping_56 (by decide) (fun c_56 => ?_) (fun c_56 => ?_)
          · refine lv_iconst (v := 1) hx hb dX7_isStopping_69 (by decide) ?_
            refine lv_goto (tgt := 74) hx hb dX7_isStopping_70 (by decide) ?_
            refine tp (show (1) = b2i ((sn < 2 ^ gcN S ∧ pop sn ≤ 10) ∧ opB S sn (i + 1) = true) from by simp only [opB]; clear hx hb hml hown hr hlocks hw hsz hA hG hK hP3 hS3 hl3 ih_37; grind [b2i]) ?_
            refine lv_istore_n (lv' := [(2, .int (b2i ((sn < 2 ^ gcN S ∧ pop sn ≤ 10) ∧ opB S sn (i + 1) = true))), (3, .int (nI i)), (0, .ref (mm 0)), (1, .int (nI sn))]) hx hb dX7_isStopping_74 rfl hl3 (by decide) rfl (fun ls4 hl4 => ?_)
            clear hl3 ls3
            refine lv_iinc (v := nI (i + 1)) (lv' := [(3, .int (nI (i + 1))), (2, .int (b2i ((sn < 2 ^ gcN S ∧ pop sn ≤ 10) ∧ opB S sn (i + 1) = true))), (0, .ref (mm 0)), (1, .int (nI sn))]) hx hb dX7_isStopping_75 hl4 (k := 1) rfl (nI_inc _) (by decide) rfl (fun ls5 hl5 => ?_)
            clear hl4 ls4
            refine lv_goto (tgt := 37) hx hb dX7_isStopping_78 (by decide) ?_
            exact ih_37 (i + 1) (by first | omega | assumption | rfl | simp_all) (by (try dsimp only); omega) H3 locs3 ls5 hP3 hS3 (lv_sub hl5 [0, 1, 2, 3] rfl)
          · refine lv_aload_n hx hb dX7_isStopping_59 rfl (lv_at hl3 2 rfl) ?_
            refine lv_iload_n hx hb dX7_isStopping_60 rfl (lv_at hl3 0 rfl) ?_
            refine lv_bipush (v := 7) hx hb dX7_isStopping_61 (by decide) ?_
            refine rV_i (wc := [mO cy mm ik tl fm tz vl iw rm rr om, ia cy (mm 1) 169 S]) (rest := []) hx hb hml hown hw hG hK hP3 hS3 hA hl3 kc_X7_has kw_4_174 [.int (nI i), .int 7] (c_X7_has l D cy G H3.size mm ik tl fm tz vl iw rm rr om S i 7 (by first | omega | assumption) (by first | omega | assumption)) [0, 1] rfl 0 rfl rfl rfl rfl rfl (Nat.le_of_ble_eq_true rfl) ⟨Nat.le_of_ble_eq_true rfl, Nat.le_of_ble_eq_true rfl⟩ dX7_isStopping_63 ⟨Nat.le_of_ble_eq_true rfl, Nat.le_of_ble_eq_true rfl⟩ (fun r_63 H4 locs4 hr_63 hP4 hS4 => ?_)
            clear hP3 hS3 locs3 H3
            subst hr_63
            refine tp (show (S (9 + 8 * i + 7)) = S (16 + 8 * i) from congrArg _ (by omega)) ?_
            refine lv_if_ne (tgt := 73) hx hb dX7_isStopping_66 (by decide) (fun c_66 => ?_) (fun c_66 => ?_)
            · refine lv_iconst (v := 0) hx hb dX7_isStopping_73 (by decide) ?_
              refine tp (show (0) = b2i ((sn < 2 ^ gcN S ∧ pop sn ≤ 10) ∧ opB S sn (i + 1) = true) from by simp only [opB]; clear hx hb hml hown hr hlocks hw hsz hA hG hK hP4 hS4 hl3 ih_37; grind [b2i]) ?_
              refine lv_istore_n (lv' := [(2, .int (b2i ((sn < 2 ^ gcN S ∧ pop sn ≤ 10) ∧ opB S sn (i + 1) = true))), (3, .int (nI i)), (0, .ref (mm 0)), (1, .int (nI sn))]) hx hb dX7_isStopping_74 rfl hl3 (by decide) rfl (fun ls4 hl4 => ?_)
              clear hl3 ls3
              refine lv_iinc (v := nI (i + 1)) (lv' := [(3, .int (nI (i + 1))), (2, .int (b2i ((sn < 2 ^ gcN S ∧ pop sn ≤ 10) ∧ opB S sn (i + 1) = true))), (0, .ref (mm 0)), (1, .int (nI sn))]) hx hb dX7_isStopping_75 hl4 (k := 1) rfl (nI_inc _) (by decide) rfl (fun ls5 hl5 => ?_)
              clear hl4 ls4
              refine lv_goto (tgt := 37) hx hb dX7_isStopping_78 (by decide) ?_
              exact ih_37 (i + 1) (by first | omega | assumption | rfl | simp_all) (by (try dsimp only); omega) H4 locs4 ls5 hP4 hS4 (lv_sub hl5 [0, 1, 2, 3] rfl)
            · refine lv_iconst (v := 1) hx hb dX7_isStopping_69 (by decide) ?_
              refine lv_goto (tgt := 74) hx hb dX7_isStopping_70 (by decide) ?_
              refine tp (show (1) = b2i ((sn < 2 ^ gcN S ∧ pop sn ≤ 10) ∧ opB S sn (i + 1) = true) from by simp only [opB]; clear hx hb hml hown hr hlocks hw hsz hA hG hK hP4 hS4 hl3 ih_37; grind [b2i]) ?_
              refine lv_istore_n (lv' := [(2, .int (b2i ((sn < 2 ^ gcN S ∧ pop sn ≤ 10) ∧ opB S sn (i + 1) = true))), (3, .int (nI i)), (0, .ref (mm 0)), (1, .int (nI sn))]) hx hb dX7_isStopping_74 rfl hl3 (by decide) rfl (fun ls4 hl4 => ?_)
              clear hl3 ls3
              refine lv_iinc (v := nI (i + 1)) (lv' := [(3, .int (nI (i + 1))), (2, .int (b2i ((sn < 2 ^ gcN S ∧ pop sn ≤ 10) ∧ opB S sn (i + 1) = true))), (0, .ref (mm 0)), (1, .int (nI sn))]) hx hb dX7_isStopping_75 hl4 (k := 1) rfl (nI_inc _) (by decide) rfl (fun ls5 hl5 => ?_)
              clear hl4 ls4
              refine lv_goto (tgt := 37) hx hb dX7_isStopping_78 (by decide) ?_
              exact ih_37 (i + 1) (by first | omega | assumption | rfl | simp_all) (by (try dsimp only); omega) H4 locs4 ls5 hP4 hS4 (lv_sub hl5 [0, 1, 2, 3] rfl)
    · refine lv_iconst (v := 1) hx hb dX7_isStopping_29 (by decide) ?_
      refine lv_goto (tgt := 34) hx hb dX7_isStopping_30 (by decide) ?_
      refine tp (show (1) = b2i (sn < 2 ^ gcN S ∧ pop sn ≤ 10) from by clear hx hb hml hown hr hlocks hw hsz hA hG hK hP2 hS2 hl0; grind [b2i]) ?_
      refine lv_istore_n (lv' := [(2, .int (b2i (sn < 2 ^ gcN S ∧ pop sn ≤ 10))), (0, .ref (mm 0)), (1, .int (nI sn))]) hx hb dX7_isStopping_34 rfl hl0 (by decide) rfl (fun ls1 hl1 => ?_)
      clear hl0 ls0
      refine lv_iconst (v := 0) hx hb dX7_isStopping_35 (by decide) ?_
      refine lv_istore_n (lv' := [(3, .int 0), (2, .int (b2i (sn < 2 ^ gcN S ∧ pop sn ≤ 10))), (0, .ref (mm 0)), (1, .int (nI sn))]) hx hb dX7_isStopping_36 rfl hl1 (by decide) rfl (fun ls2 hl2 => ?_)
      clear hl1 ls1
      have hq9 : b2i ((sn < 2 ^ gcN S ∧ pop sn ≤ 10) ∧ opB S sn 0 = true) = b2i (sn < 2 ^ gcN S ∧ pop sn ≤ 10) := b2i_iff ⟨fun z9 => z9.1, fun z9 => ⟨z9, rfl⟩⟩
      replace hl2 : lv_has ls2 4 [(3, .int 0), (2, .int (b2i ((sn < 2 ^ gcN S ∧ pop sn ≤ 10) ∧ opB S sn 0 = true))), (0, .ref (mm 0)), (1, .int (nI sn))] := (congrArg (fun z9 => lv_has ls2 4 [(3, .int 0), (2, .int z9), (0, .ref (mm 0)), (1, .int (nI sn))]) hq9).mpr hl2
      clear hq9
      refine rlp (ι := Nat) (nL := 4) (ws := [mO cy mm ik tl fm tz vl iw rm rr om, ia cy (mm 1) 169 S]) (fun x9 => (x9 ≤ gcN S)) (fun x9 => [(3, .int (nI x9)), (2, .int (b2i ((sn < 2 ^ gcN S ∧ pop sn ≤ 10) ∧ opB S sn x9 = true))), (0, .ref (mm 0)), (1, .int (nI sn))]) (fun x9 => []) (fun x9 => gcN S - x9) 37 ?_ 0 (by first | omega | assumption | rfl | simp_all) rfl hP2 hS2 (lv_sub hl2 [0, 1, 2, 3] rfl)
      clear hP2 hS2 locs2 H2 hl2 ls2
      intro x9 hI ih_37 H3 locs3 ls3 hP3 hS3 hl3
      obtain ⟨i, rfl⟩ : ∃ z9, z9 = x9 := ⟨_, rfl⟩
      have hi := hI
      replace hi : i ≤ gcN S := hi
      replace hP3 : va_P D vwCl ([mO cy mm ik tl fm tz vl iw rm rr om, ia cy (mm 1) 169 S]) H3 := hP3
      replace hl3 : lv_has ls3 4 [(3, .int (nI i)), (2, .int (b2i ((sn < 2 ^ gcN S ∧ pop sn ≤ 10) ∧ opB S sn i = true))), (0, .ref (mm 0)), (1, .int (nI sn))] := hl3
      show W p l e _ s m _ below meth c _ _ _ _ _ (F0 m 37 ls3 [])
      refine lv_iload_n hx hb dX7_isStopping_37 rfl (lv_at hl3 0 rfl) ?_
      refine lv_aload_n hx hb dX7_isStopping_38 rfl (lv_at hl3 2 rfl) ?_
      refine va_get (D := D) (ci := 7) (v := .ref (mm 1)) (C := RX7) (T := TX7) (N := 23) hx hb hw iX7 hown hK hP3 0 rfl rfl 0 (by decide) (hw _ kw_4_64) (fun _ h9 => h9) rfl dX7_isStopping_39 ?_
      refine lv_iconst (v := 1) hx hb dX7_isStopping_42 (by decide) ?_
      refine ald_i (f := S) hx hb hK hP3 1 0 rfl rfl 1 rfl (by first | omega | assumption) (by decide) dX7_isStopping_43 ?_
      refine tp (show (S 1) = nI (gcN S) from wf_g wf) ?_
      refine ln_ge (tgt := 81) i (gcN S) rfl rfl (by omega) (by omega) hx hb dX7_isStopping_44 (by decide) (fun c_44 => ?_) (fun c_44 => ?_)
      · refine lv_iload_n hx hb dX7_isStopping_81 rfl (lv_at hl3 1 rfl) ?_
        exact rd_z hx hb hr hlocks hS3 dX7_isStopping_82 (b2i_z _) ((by obtain rfl : i = gcN S := (by omega); exact b2i_iff ⟨fun z9 => ⟨z9.1.1, z9.1.2, z9.2⟩, fun z9 => ⟨⟨z9.1, z9.2.1⟩, z9.2.2⟩⟩))
      · refine lv_iload_n hx hb dX7_isStopping_47 rfl (lv_at hl3 1 rfl) ?_
        refine lb_eq (tgt := 81) hx hb dX7_isStopping_48 (by decide) (fun c_48 => ?_) (fun c_48 => ?_)
        · refine lv_iload_n hx hb dX7_isStopping_81 rfl (lv_at hl3 1 rfl) ?_
          exact rd_z hx hb hr hlocks hS3 dX7_isStopping_82 (b2i_z _) (b2i_iff ⟨fun z9 => absurd z9 c_48, fun z9 => ⟨⟨z9.1, z9.2.1⟩, opB_le hi z9.2.2⟩⟩)
        · have hm1 := c_48.1.1
          refine lv_iload_n hx hb dX7_isStopping_51 rfl (lv_at hl3 3 rfl) ?_
          refine lv_iload_n hx hb dX7_isStopping_52 rfl (lv_at hl3 0 rfl) ?_
          refine lv_ishr hx hb dX7_isStopping_53 ?_
          refine tp (show ((nI sn) >>> ((nI i) &&& 31)) = nI (sn / 2 ^ i) from shr_n (by omega) (by omega)) ?_
          refine lv_iconst (v := 1) hx hb dX7_isStopping_54 (by decide) ?_
          refine lv_iand hx hb dX7_isStopping_55 ?_
          refine tp (show ((nI (sn / 2 ^ i)) &&& 1) = b2i (sn.testBit i = true) from (nx_and _ 1).trans (bit_ask sn i)) ?_
          refine lb_eq (tgt := 69) hx hb dX7_isStopping_56 (by decide) (fun c_56 => ?_) (fun c_56 => ?_)
          · refine lv_iconst (v := 1) hx hb dX7_isStopping_69 (by decide) ?_
            refine lv_goto (tgt := 74) hx hb dX7_isStopping_70 (by decide) ?_
            refine tp (show (1) = b2i ((sn < 2 ^ gcN S ∧ pop sn ≤ 10) ∧ opB S sn (i + 1) = true) from by simp only [opB]; clear hx hb hml hown hr hlocks hw hsz hA hG hK hP3 hS3 hl3 ih_37; grind [b2i]) ?_
            refine lv_istore_n (lv' := [(2, .int (b2i ((sn < 2 ^ gcN S ∧ pop sn ≤ 10) ∧ opB S sn (i + 1) = true))), (3, .int (nI i)), (0, .ref (mm 0)), (1, .int (nI sn))]) hx hb dX7_isStopping_74 rfl hl3 (by decide) rfl (fun ls4 hl4 => ?_)
            clear hl3 ls3
            refine lv_iinc (v := nI (i + 1)) (lv' := [(3, .int (nI (i + 1))), (2, .int (b2i ((sn < 2 ^ gcN S ∧ pop sn ≤ 10) ∧ opB S sn (i + 1) = true))), (0, .ref (mm 0)), (1, .int (nI sn))]) hx hb dX7_isStopping_75 hl4 (k := 1) rfl (nI_inc _) (by decide) rfl (fun ls5 hl5 => ?_)
            clear hl4 ls4
            refine lv_goto (tgt := 37) hx hb dX7_isStopping_78 (by decide) ?_
            exact ih_37 (i + 1) (by first | omega | assumption | rfl | simp_all) (by (try dsimp only); omega) H3 locs3 ls5 hP3 hS3 (lv_sub hl5 [0, 1, 2, 3] rfl)
          · refine lv_aload_n hx hb dX7_isStopping_59 rfl (lv_at hl3 2 rfl) ?_
            refine lv_iload_n hx hb dX7_isStopping_60 rfl (lv_at hl3 0 rfl) ?_
            refine lv_bipush (v := 7) hx hb dX7_isStopping_61 (by decide) ?_
            refine rV_i (wc := [mO cy mm ik tl fm tz vl iw rm rr om, ia cy (mm 1) 169 S]) (rest := []) hx hb hml hown hw hG hK hP3 hS3 hA hl3 kc_X7_has kw_4_174 [.int (nI i), .int 7] (c_X7_has l D cy G H3.size mm ik tl fm tz vl iw rm rr om S i 7 (by first | omega | assumption) (by first | omega | assumption)) [0, 1] rfl 0 rfl rfl rfl rfl rfl (Nat.le_of_ble_eq_true rfl) ⟨Nat.le_of_ble_eq_true rfl, Nat.le_of_ble_eq_true rfl⟩ dX7_isStopping_63 ⟨Nat.le_of_ble_eq_true rfl, Nat.le_of_ble_eq_true rfl⟩ (fun r_63 H4 locs4 hr_63 hP4 hS4 => ?_)
            clear hP3 hS3 locs3 H3
            subst hr_63
            refine tp (show (S (9 + 8 * i + 7)) = S (16 + 8 * i) from congrArg _ (by omega)) ?_
            refine lv_if_ne (tgt := 73) hx hb dX7_isStopping_66 (by decide) (fun c_66 => ?_) (fun c_66 => ?_)
            · refine lv_iconst (v := 0) hx hb dX7_isStopping_73 (by decide) ?_
              refine tp (show (0) = b2i ((sn < 2 ^ gcN S ∧ pop sn ≤ 10) ∧ opB S sn (i + 1) = true) from by simp only [opB]; clear hx hb hml hown hr hlocks hw hsz hA hG hK hP4 hS4 hl3 ih_37; grind [b2i]) ?_
              refine lv_istore_n (lv' := [(2, .int (b2i ((sn < 2 ^ gcN S ∧ pop sn ≤ 10) ∧ opB S sn (i + 1) = true))), (3, .int (nI i)), (0, .ref (mm 0)), (1, .int (nI sn))]) hx hb dX7_isStopping_74 rfl hl3 (by decide) rfl (fun ls4 hl4 => ?_)
              clear hl3 ls3
              refine lv_iinc (v := nI (i + 1)) (lv' := [(3, .int (nI (i + 1))), (2, .int (b2i ((sn < 2 ^ gcN S ∧ pop sn ≤ 10) ∧ opB S sn (i + 1) = true))), (0, .ref (mm 0)), (1, .int (nI sn))]) hx hb dX7_isStopping_75 hl4 (k := 1) rfl (nI_inc _) (by decide) rfl (fun ls5 hl5 => ?_)
              clear hl4 ls4
              refine lv_goto (tgt := 37) hx hb dX7_isStopping_78 (by decide) ?_
              exact ih_37 (i + 1) (by first | omega | assumption | rfl | simp_all) (by (try dsimp only); omega) H4 locs4 ls5 hP4 hS4 (lv_sub hl5 [0, 1, 2, 3] rfl)
            · refine lv_iconst (v := 1) hx hb dX7_isStopping_69 (by decide) ?_
              refine lv_goto (tgt := 74) hx hb dX7_isStopping_70 (by decide) ?_
              refine tp (show (1) = b2i ((sn < 2 ^ gcN S ∧ pop sn ≤ 10) ∧ opB S sn (i + 1) = true) from by simp only [opB]; clear hx hb hml hown hr hlocks hw hsz hA hG hK hP4 hS4 hl3 ih_37; grind [b2i]) ?_
              refine lv_istore_n (lv' := [(2, .int (b2i ((sn < 2 ^ gcN S ∧ pop sn ≤ 10) ∧ opB S sn (i + 1) = true))), (3, .int (nI i)), (0, .ref (mm 0)), (1, .int (nI sn))]) hx hb dX7_isStopping_74 rfl hl3 (by decide) rfl (fun ls4 hl4 => ?_)
              clear hl3 ls3
              refine lv_iinc (v := nI (i + 1)) (lv' := [(3, .int (nI (i + 1))), (2, .int (b2i ((sn < 2 ^ gcN S ∧ pop sn ≤ 10) ∧ opB S sn (i + 1) = true))), (0, .ref (mm 0)), (1, .int (nI sn))]) hx hb dX7_isStopping_75 hl4 (k := 1) rfl (nI_inc _) (by decide) rfl (fun ls5 hl5 => ?_)
              clear hl4 ls4
              refine lv_goto (tgt := 37) hx hb dX7_isStopping_78 (by decide) ?_
              exact ih_37 (i + 1) (by first | omega | assumption | rfl | simp_all) (by (try dsimp only); omega) H4 locs4 ls5 hP4 hS4 (lv_sub hl5 [0, 1, 2, 3] rfl)

theorem kc_X7_puts : kV yX7_puts cX7_puts 2 none 0 := ⟨kw_4_229, kw_s_35, kw_1_8, kw_4_230, by decide, by decide, by decide +kernel⟩
set_option maxHeartbeats 4000000 in
set_option maxRecDepth 100000 in
theorem c_X7_puts (l : Launch) (D : va_G) (cy : Nat → ClassId) (G : Nat → Nat) (sz : Nat) (mm : Nat → Nat) (ik : Int32) (tl : Int32) (fm : Int32) (tz : Int32) (vl : Int32) (iw : Int32) (rm : Int32) (rr : Int32) (om : Int32) (S : Nat → Int32) (O : Nat → Int32)  : Met l yX7_puts (wm yX7_puts cX7_puts 2 none) { frames := 0, cells := 0, slots := 0, locals := 0 } (va_Pc [.ref (mm 0)] (pr D (TY cy) G ([mO cy mm ik tl fm tz vl iw rm rr om, ia cy (mm 1) 169 S, ia cy (mm 3) 169 O]) sz)) (va_Qv (fun (u : Unit) => True) (fun (u : Unit) t => po D (va_A ([mO cy mm ik tl fm tz vl iw rm rr om, ia cy (mm 1) 169 S, ia cy (mm 3) 169 O]) sz) ([mO cy mm ik tl fm tz vl iw rm rr om, ia cy (mm 1) 169 S, ia cy (mm 3) 169 S]) t) (va_A ([mO cy mm ik tl fm tz vl iw rm rr om, ia cy (mm 1) 169 S, ia cy (mm 3) 169 O]) sz)) 0 0 (va_A ([mO cy mm ik tl fm tz vl iw rm rr om, ia cy (mm 1) 169 S, ia cy (mm 3) 169 O]) sz) := by
  refine mk_rw (by decide) RX7 rfl (Nat.le_of_ble_eq_true rfl) [(0, .ref (mm 0))] rfl ?_
  intro p e s m below meth c hx hb hml hown hr hlocks hin hw hsz hA hG hK H0 locs0 hP0 hD0 hS0 ls0 hl0
  clear hin
  refine lv_iconst (v := 0) hx hb dX7_puts_0 (by decide) ?_
  refine lv_istore_n (lv' := [(1, .int 0), (0, .ref (mm 0))]) hx hb dX7_puts_1 rfl hl0 (by decide) rfl (fun ls1 hl1 => ?_)
  clear hl0 ls0
  have hq9 : ([mO cy mm ik tl fm tz vl iw rm rr om, ia cy (mm 1) 169 S, ia cy (mm 3) 169 O]) = ([mO cy mm ik tl fm tz vl iw rm rr om, ia cy (mm 1) 169 S, ia cy (mm 3) 169 (fil S O 0)]) := congrArg (fun z9 => [mO cy mm ik tl fm tz vl iw rm rr om, ia cy (mm 1) 169 S, ia cy (mm 3) 169 z9]) (show O = (fil S O 0) from fil_0 _ O)
  replace hP0 := (congrArg (fun z9 => va_P D vwCl z9 _) hq9).mp hP0
  replace hD0 := (congrArg (fun z9 => va_D _ z9) hq9).mp hD0
  clear hq9
  refine wlp (ι := Nat) (nL := 2) (fun x9 => (x9 ≤ 169)) (fun x9 => [mO cy mm ik tl fm tz vl iw rm rr om, ia cy (mm 1) 169 S, ia cy (mm 3) 169 (fil S O x9)]) (fun x9 => [(1, .int (nI x9)), (0, .ref (mm 0))]) (fun x9 => []) (fun x9 => 169 - x9) 2 ?_ 0 (by first | omega | assumption | rfl | simp_all) rfl hP0 hD0 hS0 (lv_sub hl1 [0, 1] rfl)
  clear hP0 hD0 hS0 locs0 H0 hl1 ls1
  intro x9 hI ih_2 H1 locs1 ls2 hP1 hD1 hS1 hl2
  obtain ⟨i, rfl⟩ : ∃ z9, z9 = x9 := ⟨_, rfl⟩
  have hi := hI
  replace hi : i ≤ 169 := hi
  replace hP1 : va_P D vwCl ([mO cy mm ik tl fm tz vl iw rm rr om, ia cy (mm 1) 169 S, ia cy (mm 3) 169 (fil S O i)]) H1 := hP1
  replace hD1 : va_D (va_A _ sz) ([mO cy mm ik tl fm tz vl iw rm rr om, ia cy (mm 1) 169 S, ia cy (mm 3) 169 (fil S O i)]) := hD1
  replace hl2 : lv_has ls2 2 [(1, .int (nI i)), (0, .ref (mm 0))] := hl2
  show W p l e _ s m _ below meth c _ _ _ _ _ (F0 m 2 ls2 [])
  refine lv_iload_n hx hb dX7_puts_2 rfl (lv_at hl2 0 rfl) ?_
  refine lv_sipush (v := 169) hx hb dX7_puts_3 (by decide) ?_
  refine ln_ge (tgt := 27) i 169 rfl rfl (by omega) (by omega) hx hb dX7_puts_6 (by decide) (fun c_6 => ?_) (fun c_6 => ?_)
  · have hq9 := (fun j hj => if_pos (by omega) : ∀ j, j < 169 → fil S O i j = S j)
    replace hD1 := cg_D (ws' := [mO cy mm ik tl fm tz vl iw rm rr om, ia cy (mm 1) 169 S, ia cy (mm 3) 169 S]) hD1 (k := 2) rfl rfl
    replace hP1 := cg_P (ws' := [mO cy mm ik tl fm tz vl iw rm rr om, ia cy (mm 1) 169 S, ia cy (mm 3) 169 S]) hP1 (k := 2) rfl hq9 rfl
    clear hq9
    refine re_v () hx hb hr hlocks hP1 hD1 hS1 dX7_puts_27 ?_
    exact (trivial)
  · refine lv_aload_n hx hb dX7_puts_9 rfl (lv_at hl2 1 rfl) ?_
    refine va_get (D := D) (ci := 7) (v := .ref (mm 3)) (C := RX7) (T := TX7) (N := 23) hx hb hw iX7 hown hK hP1 0 rfl rfl 2 (by decide) (hw _ kw_4_66) (fun _ h9 => h9) rfl dX7_puts_10 ?_
    refine lv_iload_n hx hb dX7_puts_13 rfl (lv_at hl2 0 rfl) ?_
    refine lv_aload_n hx hb dX7_puts_14 rfl (lv_at hl2 1 rfl) ?_
    refine va_get (D := D) (ci := 7) (v := .ref (mm 1)) (C := RX7) (T := TX7) (N := 23) hx hb hw iX7 hown hK hP1 0 rfl rfl 0 (by decide) (hw _ kw_4_64) (fun _ h9 => h9) rfl dX7_puts_15 ?_
    refine lv_iload_n hx hb dX7_puts_18 rfl (lv_at hl2 0 rfl) ?_
    refine ald_i (f := S) hx hb hK hP1 1 0 rfl rfl i rfl (by first | omega | assumption) (by decide) dX7_puts_19 ?_
    refine ast_i (f := fil S O i) (ws' := [mO cy mm ik tl fm tz vl iw rm rr om, ia cy (mm 1) 169 S, ia cy (mm 3) 169 (upd (fil S O i) i (S i))]) hx hb hK hP1 hD1 hS1 2 0 rfl rfl i rfl (by first | omega | assumption) (by decide) rfl dX7_puts_20 (fun H2 locs2 hP2 hD2 hS2 => ?_)
    clear hP1 hD1 hS1 locs1 H1
    refine lv_iinc (v := nI (i + 1)) (lv' := [(1, .int (nI (i + 1))), (0, .ref (mm 0))]) hx hb dX7_puts_21 hl2 (k := 0) rfl (nI_inc _) (by decide) rfl (fun ls3 hl3 => ?_)
    clear hl2 ls2
    refine lv_goto (tgt := 2) hx hb dX7_puts_24 (by decide) ?_
    have hq9 : ([mO cy mm ik tl fm tz vl iw rm rr om, ia cy (mm 1) 169 S, ia cy (mm 3) 169 (upd (fil S O i) i (S i))]) = ([mO cy mm ik tl fm tz vl iw rm rr om, ia cy (mm 1) 169 S, ia cy (mm 3) 169 (fil S O (i + 1))]) := congrArg (fun z9 => [mO cy mm ik tl fm tz vl iw rm rr om, ia cy (mm 1) 169 S, ia cy (mm 3) 169 z9]) (show (upd (fil S O i) i (S i)) = (fil S O (i + 1)) from fil_s _ O i)
    replace hP2 := (congrArg (fun z9 => va_P D vwCl z9 _) hq9).mp hP2
    replace hD2 := (congrArg (fun z9 => va_D _ z9) hq9).mp hD2
    clear hq9
    exact ih_2 (i + 1) (by first | omega | assumption | rfl | simp_all) (by (try dsimp only); omega) H2 locs2 ls3 hP2 hD2 hS2 (lv_sub hl3 [0, 1] rfl)

theorem kc_X7_putsBack : kV yX7_putsBack cX7_putsBack 2 none 0 := ⟨kw_5_51, kw_s_48, kw_1_8, kw_5_52, by decide, by decide, by decide +kernel⟩
set_option maxHeartbeats 4000000 in
set_option maxRecDepth 100000 in
theorem c_X7_putsBack (l : Launch) (D : va_G) (cy : Nat → ClassId) (G : Nat → Nat) (sz : Nat) (mm : Nat → Nat) (ik : Int32) (tl : Int32) (fm : Int32) (tz : Int32) (vl : Int32) (iw : Int32) (rm : Int32) (rr : Int32) (om : Int32) (S : Nat → Int32) (O : Nat → Int32)  : Met l yX7_putsBack (wm yX7_putsBack cX7_putsBack 2 none) { frames := 0, cells := 0, slots := 0, locals := 0 } (va_Pc [.ref (mm 0)] (pr D (TY cy) G ([mO cy mm ik tl fm tz vl iw rm rr om, ia cy (mm 1) 169 S, ia cy (mm 3) 169 O]) sz)) (va_Qv (fun (u : Unit) => True) (fun (u : Unit) t => po D (va_A ([mO cy mm ik tl fm tz vl iw rm rr om, ia cy (mm 1) 169 S, ia cy (mm 3) 169 O]) sz) ([mO cy mm ik tl fm tz vl iw rm rr om, ia cy (mm 1) 169 O, ia cy (mm 3) 169 O]) t) (va_A ([mO cy mm ik tl fm tz vl iw rm rr om, ia cy (mm 1) 169 S, ia cy (mm 3) 169 O]) sz)) 0 0 (va_A ([mO cy mm ik tl fm tz vl iw rm rr om, ia cy (mm 1) 169 S, ia cy (mm 3) 169 O]) sz) := by
  refine mk_rw (by decide) RX7 rfl (Nat.le_of_ble_eq_true rfl) [(0, .ref (mm 0))] rfl ?_
  intro p e s m below meth c hx hb hml hown hr hlocks hin hw hsz hA hG hK H0 locs0 hP0 hD0 hS0 ls0 hl0
  clear hin
  refine lv_iconst (v := 0) hx hb dX7_putsBack_0 (by decide) ?_
  refine lv_istore_n (lv' := [(1, .int 0), (0, .ref (mm 0))]) hx hb dX7_putsBack_1 rfl hl0 (by decide) rfl (fun ls1 hl1 => ?_)
  clear hl0 ls0
  have hq9 : ([mO cy mm ik tl fm tz vl iw rm rr om, ia cy (mm 1) 169 S, ia cy (mm 3) 169 O]) = ([mO cy mm ik tl fm tz vl iw rm rr om, ia cy (mm 1) 169 (fil O S 0), ia cy (mm 3) 169 O]) := congrArg (fun z9 => [mO cy mm ik tl fm tz vl iw rm rr om, ia cy (mm 1) 169 z9, ia cy (mm 3) 169 O]) (show S = (fil O S 0) from fil_0 _ S)
  replace hP0 := (congrArg (fun z9 => va_P D vwCl z9 _) hq9).mp hP0
  replace hD0 := (congrArg (fun z9 => va_D _ z9) hq9).mp hD0
  clear hq9
  refine wlp (ι := Nat) (nL := 2) (fun x9 => (x9 ≤ 169)) (fun x9 => [mO cy mm ik tl fm tz vl iw rm rr om, ia cy (mm 1) 169 (fil O S x9), ia cy (mm 3) 169 O]) (fun x9 => [(1, .int (nI x9)), (0, .ref (mm 0))]) (fun x9 => []) (fun x9 => 169 - x9) 2 ?_ 0 (by first | omega | assumption | rfl | simp_all) rfl hP0 hD0 hS0 (lv_sub hl1 [0, 1] rfl)
  clear hP0 hD0 hS0 locs0 H0 hl1 ls1
  intro x9 hI ih_2 H1 locs1 ls2 hP1 hD1 hS1 hl2
  obtain ⟨i, rfl⟩ : ∃ z9, z9 = x9 := ⟨_, rfl⟩
  have hi := hI
  replace hi : i ≤ 169 := hi
  replace hP1 : va_P D vwCl ([mO cy mm ik tl fm tz vl iw rm rr om, ia cy (mm 1) 169 (fil O S i), ia cy (mm 3) 169 O]) H1 := hP1
  replace hD1 : va_D (va_A _ sz) ([mO cy mm ik tl fm tz vl iw rm rr om, ia cy (mm 1) 169 (fil O S i), ia cy (mm 3) 169 O]) := hD1
  replace hl2 : lv_has ls2 2 [(1, .int (nI i)), (0, .ref (mm 0))] := hl2
  show W p l e _ s m _ below meth c _ _ _ _ _ (F0 m 2 ls2 [])
  refine lv_iload_n hx hb dX7_putsBack_2 rfl (lv_at hl2 0 rfl) ?_
  refine lv_sipush (v := 169) hx hb dX7_putsBack_3 (by decide) ?_
  refine ln_ge (tgt := 27) i 169 rfl rfl (by omega) (by omega) hx hb dX7_putsBack_6 (by decide) (fun c_6 => ?_) (fun c_6 => ?_)
  · have hq9 := (fun j hj => if_pos (by omega) : ∀ j, j < 169 → fil O S i j = O j)
    replace hD1 := cg_D (ws' := [mO cy mm ik tl fm tz vl iw rm rr om, ia cy (mm 1) 169 O, ia cy (mm 3) 169 O]) hD1 (k := 1) rfl rfl
    replace hP1 := cg_P (ws' := [mO cy mm ik tl fm tz vl iw rm rr om, ia cy (mm 1) 169 O, ia cy (mm 3) 169 O]) hP1 (k := 1) rfl hq9 rfl
    clear hq9
    refine re_v () hx hb hr hlocks hP1 hD1 hS1 dX7_putsBack_27 ?_
    exact (trivial)
  · refine lv_aload_n hx hb dX7_putsBack_9 rfl (lv_at hl2 1 rfl) ?_
    refine va_get (D := D) (ci := 7) (v := .ref (mm 1)) (C := RX7) (T := TX7) (N := 23) hx hb hw iX7 hown hK hP1 0 rfl rfl 0 (by decide) (hw _ kw_4_64) (fun _ h9 => h9) rfl dX7_putsBack_10 ?_
    refine lv_iload_n hx hb dX7_putsBack_13 rfl (lv_at hl2 0 rfl) ?_
    refine lv_aload_n hx hb dX7_putsBack_14 rfl (lv_at hl2 1 rfl) ?_
    refine va_get (D := D) (ci := 7) (v := .ref (mm 3)) (C := RX7) (T := TX7) (N := 23) hx hb hw iX7 hown hK hP1 0 rfl rfl 2 (by decide) (hw _ kw_4_66) (fun _ h9 => h9) rfl dX7_putsBack_15 ?_
    refine lv_iload_n hx hb dX7_putsBack_18 rfl (lv_at hl2 0 rfl) ?_
    refine ald_i (f := O) hx hb hK hP1 2 0 rfl rfl i rfl (by first | omega | assumption) (by decide) dX7_putsBack_19 ?_
    refine ast_i (f := fil O S i) (ws' := [mO cy mm ik tl fm tz vl iw rm rr om, ia cy (mm 1) 169 (upd (fil O S i) i (O i)), ia cy (mm 3) 169 O]) hx hb hK hP1 hD1 hS1 1 0 rfl rfl i rfl (by first | omega | assumption) (by decide) rfl dX7_putsBack_20 (fun H2 locs2 hP2 hD2 hS2 => ?_)
    clear hP1 hD1 hS1 locs1 H1
    refine lv_iinc (v := nI (i + 1)) (lv' := [(1, .int (nI (i + 1))), (0, .ref (mm 0))]) hx hb dX7_putsBack_21 hl2 (k := 0) rfl (nI_inc _) (by decide) rfl (fun ls3 hl3 => ?_)
    clear hl2 ls2
    refine lv_goto (tgt := 2) hx hb dX7_putsBack_24 (by decide) ?_
    have hq9 : ([mO cy mm ik tl fm tz vl iw rm rr om, ia cy (mm 1) 169 (upd (fil O S i) i (O i)), ia cy (mm 3) 169 O]) = ([mO cy mm ik tl fm tz vl iw rm rr om, ia cy (mm 1) 169 (fil O S (i + 1)), ia cy (mm 3) 169 O]) := congrArg (fun z9 => [mO cy mm ik tl fm tz vl iw rm rr om, ia cy (mm 1) 169 z9, ia cy (mm 3) 169 O]) (show (upd (fil O S i) i (O i)) = (fil O S (i + 1)) from fil_s _ S i)
    replace hP2 := (congrArg (fun z9 => va_P D vwCl z9 _) hq9).mp hP2
    replace hD2 := (congrArg (fun z9 => va_D _ z9) hq9).mp hD2
    clear hq9
    exact ih_2 (i + 1) (by first | omega | assumption | rfl | simp_all) (by (try dsimp only); omega) H2 locs2 ls3 hP2 hD2 hS2 (lv_sub hl3 [0, 1] rfl)
