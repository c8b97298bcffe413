theorem kc_J6_bitCount_0f7a4 : kT yJ6_bitCount_0f7a4 cJ6_bitCount_0f7a4 1 (some .int) 1 := ⟨kw_3_160, kw_1_15, kw_3_161, by decide, by decide, by decide +kernel⟩
set_option maxHeartbeats 4000000 in
set_option maxRecDepth 100000 in
theorem c_J6_bitCount_0f7a4 (l : Launch) (D : va_G) (cy : Nat → ClassId) (G : Nat → Nat) (sz : Nat) (x : Int32)  : Met l yJ6_bitCount_0f7a4 (wm yJ6_bitCount_0f7a4 cJ6_bitCount_0f7a4 1 (some .int)) { frames := 0, cells := 0, slots := 0, locals := 0 } (va_Pc [.int x] (pd D (TY cy) G ([]) sz)) (va_Qi (fun r (_ : Unit) => r = nI (popI x)) (fun _ _ => True) (va_A [] sz)) 0 0 (va_A [] sz) := by
  refine mk_rd (by decide) RJ6 rfl (Nat.le_of_ble_eq_true rfl) [(0, .int x)] rfl ?_
  intro p e s m below meth c hx hb hml hown hr hlocks hw hsz hA hG hK H0 locs0 hP0 hS0 ls0 hl0
  obtain ⟨m9, hm9, rfl⟩ : ∃ m9, m9 < 2 ^ 32 ∧ x = nI m9 := ⟨_, (nI_all x).2, (nI_all x).1⟩
  rw [popI_n hm9]
  obtain ⟨hb1, hb2, hb3, hb4, hb5⟩ := pop_all hm9
  refine lv_iload_n hx hb dJ6_bitCount_0f7a4_0 rfl (lv_at hl0 0 rfl) ?_
  refine lv_iload_n hx hb dJ6_bitCount_0f7a4_1 rfl (lv_at hl0 0 rfl) ?_
  refine lv_iconst (v := 1) hx hb dJ6_bitCount_0f7a4_2 (by decide) ?_
  refine lv_iushr hx hb dJ6_bitCount_0f7a4_3 rfl ?_
  refine tp (show (((nI m9).toUInt32 >>> ((1 : Int32).toUInt32 &&& Int32.toUInt32 31)).toInt32) = nI (m9 / 2) from ush_n (g := 1) hm9 (by decide)) ?_
  refine lv_ldcw (v := 1431655765) hx hb hown (hw _ kw_3_162) dJ6_bitCount_0f7a4_4 ?_
  refine lv_iand hx hb dJ6_bitCount_0f7a4_7 ?_
  refine tp (show ((nI (m9 / 2)) &&& 1431655765) = nI (m9 / 2 &&& 1431655765) from nx_and _ 1431655765) ?_
  refine lv_isub hx hb dJ6_bitCount_0f7a4_8 ?_
  refine tp (show ((nI m9) - (nI (m9 / 2 &&& 1431655765))) = nI (hd1 m9) from pk_sub hb1) ?_
  refine lv_istore_n (lv' := [(0, .int (nI (hd1 m9)))]) hx hb dJ6_bitCount_0f7a4_9 rfl hl0 (by decide) rfl (fun ls1 hl1 => ?_)
  clear hl0 ls0
  refine lv_iload_n hx hb dJ6_bitCount_0f7a4_10 rfl (lv_at hl1 0 rfl) ?_
  refine lv_ldcw (v := 858993459) hx hb hown (hw _ kw_3_163) dJ6_bitCount_0f7a4_11 ?_
  refine lv_iand hx hb dJ6_bitCount_0f7a4_14 ?_
  refine tp (show ((nI (hd1 m9)) &&& 858993459) = nI (hd1 m9 &&& 858993459) from nx_and _ 858993459) ?_
  refine lv_iload_n hx hb dJ6_bitCount_0f7a4_15 rfl (lv_at hl1 0 rfl) ?_
  refine lv_iconst (v := 2) hx hb dJ6_bitCount_0f7a4_16 (by decide) ?_
  refine lv_iushr hx hb dJ6_bitCount_0f7a4_17 rfl ?_
  refine tp (show (((nI (hd1 m9)).toUInt32 >>> ((2 : Int32).toUInt32 &&& Int32.toUInt32 31)).toInt32) = nI (hd1 m9 / 4) from ush_n (g := 2) hb2 (by decide)) ?_
  refine lv_ldcw (v := 858993459) hx hb hown (hw _ kw_3_163) dJ6_bitCount_0f7a4_18 ?_
  refine lv_iand hx hb dJ6_bitCount_0f7a4_21 ?_
  refine tp (show ((nI (hd1 m9 / 4)) &&& 858993459) = nI (hd1 m9 / 4 &&& 858993459) from nx_and _ 858993459) ?_
  refine lv_iadd hx hb dJ6_bitCount_0f7a4_22 ?_
  refine tp (show ((nI (hd1 m9 &&& 858993459)) + (nI (hd1 m9 / 4 &&& 858993459))) = nI ((hd1 m9 &&& 858993459) + (hd1 m9 / 4 &&& 858993459)) from nI_add _ _) ?_
  refine tp (show (nI ((hd1 m9 &&& 858993459) + (hd1 m9 / 4 &&& 858993459))) = nI (hd2 (hd1 m9)) from rfl) ?_
  refine lv_istore_n (lv' := [(0, .int (nI (hd2 (hd1 m9))))]) hx hb dJ6_bitCount_0f7a4_23 rfl hl1 (by decide) rfl (fun ls2 hl2 => ?_)
  clear hl1 ls1
  refine lv_iload_n hx hb dJ6_bitCount_0f7a4_24 rfl (lv_at hl2 0 rfl) ?_
  refine lv_iload_n hx hb dJ6_bitCount_0f7a4_25 rfl (lv_at hl2 0 rfl) ?_
  refine lv_iconst (v := 4) hx hb dJ6_bitCount_0f7a4_26 (by decide) ?_
  refine lv_iushr hx hb dJ6_bitCount_0f7a4_27 rfl ?_
  refine tp (show (((nI (hd2 (hd1 m9))).toUInt32 >>> ((4 : Int32).toUInt32 &&& Int32.toUInt32 31)).toInt32) = nI (hd2 (hd1 m9) / 16) from ush_n (g := 4) (by omega) (by decide)) ?_
  refine lv_iadd hx hb dJ6_bitCount_0f7a4_28 ?_
  refine tp (show ((nI (hd2 (hd1 m9))) + (nI (hd2 (hd1 m9) / 16))) = nI (hd2 (hd1 m9) + hd2 (hd1 m9) / 16) from nI_add _ _) ?_
  refine lv_ldcw (v := 252645135) hx hb hown (hw _ kw_3_164) dJ6_bitCount_0f7a4_29 ?_
  refine lv_iand hx hb dJ6_bitCount_0f7a4_32 ?_
  refine tp (show ((nI (hd2 (hd1 m9) + hd2 (hd1 m9) / 16)) &&& 252645135) = nI (hd3 (hd2 (hd1 m9))) from nx_and _ 252645135) ?_
  refine lv_istore_n (lv' := [(0, .int (nI (hd3 (hd2 (hd1 m9)))))]) hx hb dJ6_bitCount_0f7a4_33 rfl hl2 (by decide) rfl (fun ls3 hl3 => ?_)
  clear hl2 ls2
  refine lv_iload_n hx hb dJ6_bitCount_0f7a4_34 rfl (lv_at hl3 0 rfl) ?_
  refine lv_iload_n hx hb dJ6_bitCount_0f7a4_35 rfl (lv_at hl3 0 rfl) ?_
  refine lv_bipush (v := 8) hx hb dJ6_bitCount_0f7a4_36 (by decide) ?_
  refine lv_iushr hx hb dJ6_bitCount_0f7a4_38 rfl ?_
  refine tp (show (((nI (hd3 (hd2 (hd1 m9)))).toUInt32 >>> ((8 : Int32).toUInt32 &&& Int32.toUInt32 31)).toInt32) = nI (hd3 (hd2 (hd1 m9)) / 256) from ush_n (g := 8) (by omega) (by decide)) ?_
  refine lv_iadd hx hb dJ6_bitCount_0f7a4_39 ?_
  refine tp (show ((nI (hd3 (hd2 (hd1 m9)))) + (nI (hd3 (hd2 (hd1 m9)) / 256))) = nI (hd3 (hd2 (hd1 m9)) + hd3 (hd2 (hd1 m9)) / 256) from nI_add _ _) ?_
  refine lv_istore_n (lv' := [(0, .int (nI (hd3 (hd2 (hd1 m9)) + hd3 (hd2 (hd1 m9)) / 256)))]) hx hb dJ6_bitCount_0f7a4_40 rfl hl3 (by decide) rfl (fun ls4 hl4 => ?_)
  clear hl3 ls3
  refine lv_iload_n hx hb dJ6_bitCount_0f7a4_41 rfl (lv_at hl4 0 rfl) ?_
  refine lv_iload_n hx hb dJ6_bitCount_0f7a4_42 rfl (lv_at hl4 0 rfl) ?_
  refine lv_bipush (v := 16) hx hb dJ6_bitCount_0f7a4_43 (by decide) ?_
  refine lv_iushr hx hb dJ6_bitCount_0f7a4_45 rfl ?_
  refine tp (show (((nI (hd3 (hd2 (hd1 m9)) + hd3 (hd2 (hd1 m9)) / 256)).toUInt32 >>> ((16 : Int32).toUInt32 &&& Int32.toUInt32 31)).toInt32) = nI ((hd3 (hd2 (hd1 m9)) + hd3 (hd2 (hd1 m9)) / 256) / 65536) from ush_n (g := 16) (by omega) (by decide)) ?_
  refine lv_iadd hx hb dJ6_bitCount_0f7a4_46 ?_
  refine tp (show ((nI (hd3 (hd2 (hd1 m9)) + hd3 (hd2 (hd1 m9)) / 256)) + (nI ((hd3 (hd2 (hd1 m9)) + hd3 (hd2 (hd1 m9)) / 256) / 65536))) = nI (hd3 (hd2 (hd1 m9)) + hd3 (hd2 (hd1 m9)) / 256 + (hd3 (hd2 (hd1 m9)) + hd3 (hd2 (hd1 m9)) / 256) / 65536) from nI_add _ _) ?_
  refine lv_istore_n (lv' := [(0, .int (nI (hd3 (hd2 (hd1 m9)) + hd3 (hd2 (hd1 m9)) / 256 + (hd3 (hd2 (hd1 m9)) + hd3 (hd2 (hd1 m9)) / 256) / 65536)))]) hx hb dJ6_bitCount_0f7a4_47 rfl hl4 (by decide) rfl (fun ls5 hl5 => ?_)
  clear hl4 ls4
  refine lv_iload_n hx hb dJ6_bitCount_0f7a4_48 rfl (lv_at hl5 0 rfl) ?_
  refine lv_bipush (v := 63) hx hb dJ6_bitCount_0f7a4_49 (by decide) ?_
  refine lv_iand hx hb dJ6_bitCount_0f7a4_51 ?_
  refine tp (show ((nI (hd3 (hd2 (hd1 m9)) + hd3 (hd2 (hd1 m9)) / 256 + (hd3 (hd2 (hd1 m9)) + hd3 (hd2 (hd1 m9)) / 256) / 65536)) &&& 63) = nI (pop m9) from (nx_and _ 63).trans (congrArg nI ((and_63 _).trans hb5))) ?_
  exact rd_i hx hb hr hlocks hS0 dJ6_bitCount_0f7a4_52 (rfl)

theorem kc_X6_isIn : kT yX6_isIn cX6_isIn 2 (some .boolean) 2 := ⟨kw_3_166, kw_1_1, kw_3_167, by decide, by decide, by decide +kernel⟩
set_option maxHeartbeats 4000000 in
set_option maxRecDepth 100000 in
theorem c_X6_isIn (l : Launch) (D : va_G) (cy : Nat → ClassId) (G : Nat → Nat) (sz : Nat) (sn : Nat) (j : Nat) (hm : sn < 2 ^ 32) (hj : j < 32) : Met l yX6_isIn (wm yX6_isIn cX6_isIn 2 (some .boolean)) { frames := 0, cells := 0, slots := 0, locals := 0 } (va_Pc [.int (nI sn), .int (nI j)] (pd D (TY cy) G ([]) sz)) (va_Qi (fun r (_ : Unit) => r = b2i (sn.testBit j = true)) (fun _ _ => True) (va_A [] sz)) 0 0 (va_A [] sz) := by
  refine mk_rd (by decide) RX6 rfl (Nat.le_of_ble_eq_true rfl) [(0, .int (nI sn)), (1, .int (nI j))] rfl ?_
  intro p e s m below meth c hx hb hml hown hr hlocks hw hsz hA hG hK H0 locs0 hP0 hS0 ls0 hl0
  refine lv_iload_n hx hb dX6_isIn_0 rfl (lv_at hl0 0 rfl) ?_
  refine lv_iload_n hx hb dX6_isIn_1 rfl (lv_at hl0 1 rfl) ?_
  refine lv_iushr hx hb dX6_isIn_2 rfl ?_
  refine tp (show (((nI sn).toUInt32 >>> ((nI j).toUInt32 &&& Int32.toUInt32 31)).toInt32) = nI (sn / 2 ^ j) from ush_n hm hj) ?_
  refine lv_iconst (v := 1) hx hb dX6_isIn_3 (by decide) ?_
  refine lv_iand hx hb dX6_isIn_4 ?_
  refine tp (show ((nI (sn / 2 ^ j)) &&& 1) = b2i (sn.testBit j = true) from (nx_and _ 1).trans (bit_ask sn j)) ?_
  refine lv_iconst (v := 1) hx hb dX6_isIn_5 (by decide) ?_
  refine lv_icmp_ne (tgt := 13) hx hb dX6_isIn_6 (by decide) (fun c_6 => ?_) (fun c_6 => ?_)
  · refine lv_iconst (v := 0) hx hb dX6_isIn_13 (by decide) ?_
    exact rd_z hx hb hr hlocks hS0 dX6_isIn_14 rfl (by clear hx hb hml hown hr hlocks hw hsz hA hG hK hP0 hS0 hl0; grind [b2i])
  · refine lv_iconst (v := 1) hx hb dX6_isIn_9 (by decide) ?_
    refine lv_goto (tgt := 14) hx hb dX6_isIn_10 (by decide) ?_
    exact rd_z hx hb hr hlocks hS0 dX6_isIn_14 rfl (by clear hx hb hml hown hr hlocks hw hsz hA hG hK hP0 hS0 hl0; grind [b2i])

theorem kc_X5_shutJust : kV yX5_shutJust cX5_shutJust 5 (some .int) 2 := ⟨kw_3_176, kw_s_22, kw_1_4, kw_3_177, by decide, by decide, by decide +kernel⟩
set_option maxHeartbeats 4000000 in
set_option maxRecDepth 100000 in
theorem c_X5_shutJust (l : Launch) (D : va_G) (cy : Nat → ClassId) (G : Nat → Nat) (sz : Nat) (w : Nat → Nat) (b : Nat → Nat) (x : Nat → Nat) (wc : Int32) (lw : Int32) (gw : Int32) (ss : Int32) (sl : Int32) (sc : Int32) (sp : Int32) (X : Nat → Int32) (sn : Nat) (sq : Nat) (wf : wf X) (hm : sn < 2 ^ 32) (hq : sq < 2 ^ 32) : Met l yX5_shutJust (wm yX5_shutJust cX5_shutJust 5 (some .int)) { frames := 1, cells := 0, slots := 0, locals := 21 } (va_Pc [.ref (w 0), .int (nI sn), .int (nI sq)] (pr D (TY cy) G ([tO cy w b x wc lw gw ss sl sc sp] ++ (pS cy x X)) sz)) (va_Qi (fun (r : Int32) (u : Unit) => r = sjC X sn sq (gcN X)) (fun (u : Unit) t => po D (va_A ([tO cy w b x wc lw gw ss sl sc sp] ++ (pS cy x X)) sz) ([tO cy w b x wc lw gw ss sl sc sp] ++ (pS cy x (sjS X sn sq (gcN X)))) t) (va_A ([tO cy w b x wc lw gw ss sl sc sp] ++ (pS cy x X)) sz)) 0 0 (va_A ([tO cy w b x wc lw gw ss sl sc sp] ++ (pS cy x X)) sz) := by
  refine mk_rw (by decide) RX5 rfl (Nat.le_of_ble_eq_true rfl) [(0, .ref (w 0)), (1, .int (nI sn)), (2, .int (nI sq))] rfl ?_
  intro p e s m below meth c hx hb hml hown hr hlocks hin hw hsz hA hG hK H0 locs0 hP0 hD0 hS0 ls0 hl0
  clear hin
  have hg20 := wf_g20 wf
  refine lv_iconst (v := 0) hx hb dX5_shutJust_0 (by decide) ?_
  refine lv_istore_n (lv' := [(3, .int 0), (0, .ref (w 0)), (1, .int (nI sn)), (2, .int (nI sq))]) hx hb dX5_shutJust_1 rfl hl0 (by decide) rfl (fun ls1 hl1 => ?_)
  clear hl0 ls0
  refine lv_iconst (v := 0) hx hb dX5_shutJust_2 (by decide) ?_
  refine lv_istore (lv' := [(4, .int 0), (3, .int 0), (0, .ref (w 0)), (1, .int (nI sn)), (2, .int (nI sq))]) hx hb dX5_shutJust_3 hl1 (by decide) rfl (fun ls2 hl2 => ?_)
  clear hl1 ls1
  have hq9 : ([tO cy w b x wc lw gw ss sl sc sp] ++ (pS cy x X)) = ([tO cy w b x wc lw gw ss sl sc sp] ++ (pS cy x (sjS X sn sq 0))) := congrArg (fun z9 => [tO cy w b x wc lw gw ss sl sc sp] ++ (pS cy x z9)) (show X = (sjS X sn sq 0) from rfl)
  replace hP0 := (congrArg (fun z9 => va_P D vwCl z9 _) hq9).mp hP0
  replace hD0 := (congrArg (fun z9 => va_D _ z9) hq9).mp hD0
  clear hq9
  refine wlp (ι := Nat) (nL := 5) (fun x9 => (x9 ≤ gcN X)) (fun x9 => [tO cy w b x wc lw gw ss sl sc sp] ++ (pS cy x (sjS X sn sq x9))) (fun x9 => [(4, .int (nI x9)), (3, .int (sjC X sn sq x9)), (0, .ref (w 0)), (1, .int (nI sn)), (2, .int (nI sq))]) (fun x9 => []) (fun x9 => gcN X - x9) 5 ?_ 0 (by first | omega | assumption | rfl | simp_all) rfl hP0 hD0 hS0 (lv_sub hl2 [0, 1, 2, 3, 4] rfl)
  clear hP0 hD0 hS0 locs0 H0 hl2 ls2
  intro x9 hI ih_5 H1 locs1 ls3 hP1 hD1 hS1 hl3
  obtain ⟨i, rfl⟩ : ∃ z9, z9 = x9 := ⟨_, rfl⟩
  have hi := hI
  replace hi : i ≤ gcN X := hi
  replace hP1 : va_P D vwCl ([tO cy w b x wc lw gw ss sl sc sp] ++ (pS cy x (sjS X sn sq i))) H1 := hP1
  replace hD1 : va_D (va_A _ sz) ([tO cy w b x wc lw gw ss sl sc sp] ++ (pS cy x (sjS X sn sq i))) := hD1
  replace hl3 : lv_has ls3 5 [(4, .int (nI i)), (3, .int (sjC X sn sq i)), (0, .ref (w 0)), (1, .int (nI sn)), (2, .int (nI sq))] := hl3
  show W p l e _ s m _ below meth c _ _ _ _ _ (F0 m 5 ls3 [])
  refine lv_iload hx hb dX5_shutJust_5 (lv_at hl3 0 rfl) ?_
  refine lv_aload_n hx hb dX5_shutJust_7 rfl (lv_at hl3 2 rfl) ?_
  refine va_get (D := D) (ci := 5) (v := .ref (x 0)) (C := RX5) (T := TX5) (N := 11) hx hb hw iX5 hown hK hP1 0 rfl rfl 10 (by decide) (hw _ kw_1_183) (fun _ h9 => h9) rfl dX5_shutJust_8 ?_
  refine va_get (D := D) (ci := 1) (v := .int ((sjS X sn sq i) 1)) (C := RX1) (T := TX1) (N := 12) hx hb hw iX1 hown hK hP1 1 rfl rfl 1 (by decide) (hw _ kw_1_37) (fun _ h9 => h9) rfl dX5_shutJust_11 ?_
  refine tp (show ((sjS X sn sq i) 1) = nI (gcN X) from (sjS_lo X sn sq i (by decide)).trans (wf_g wf)) ?_
  refine ln_ge (tgt := 78) i (gcN X) rfl rfl (by omega) (by omega) hx hb dX5_shutJust_14 (by decide) (fun c_14 => ?_) (fun c_14 => ?_)
  · obtain rfl : i = gcN X := (by omega)
    refine lv_iload_n hx hb dX5_shutJust_78 rfl (lv_at hl3 1 rfl) ?_
    refine re_i () hx hb hr hlocks hP1 hD1 hS1 dX5_shutJust_79 ?_
    exact (rfl)
  · refine lv_iload_n hx hb dX5_shutJust_17 rfl (lv_at hl3 3 rfl) ?_
    refine lv_iload hx hb dX5_shutJust_18 (lv_at hl3 0 rfl) ?_
    refine rN_i (wc := []) (rest := []) hx hb hml hown hw hG hK hP1 hS1 hA hl3 kc_X6_isIn hG.1.2.2.2.2.2.2.2.2.2.2.1 [.int (nI sn), .int (nI i)] (c_X6_isIn l D cy G H1.size sn i (by first | omega | assumption) (by first | omega | assumption)) [] rfl rfl rfl (Nat.le_of_ble_eq_true rfl) ⟨Nat.le_of_ble_eq_true rfl, Nat.le_of_ble_eq_true rfl⟩ dX5_shutJust_20 ⟨Nat.le_of_ble_eq_true rfl, Nat.le_of_ble_eq_true rfl⟩ (fun r_20 H2 locs2 hr_20 hP2 hS2 => ?_)
    have hD2 := hD1
    clear hP1 hD1 hS1 locs1 H1
    subst hr_20
    refine lb_eq (tgt := 72) hx hb dX5_shutJust_23 (by decide) (fun c_23 => ?_) (fun c_23 => ?_)
    · have hq9 : sjC X sn sq (i + 1) = sjC X sn sq i := by clear hx hb hml hown hr hlocks hw hsz hA hG hK hP2 hD2 hS2 hl3 ih_5; grind [sjC]
      replace hl3 : lv_has ls3 5 [(4, .int (nI i)), (3, .int (sjC X sn sq (i + 1))), (0, .ref (w 0)), (1, .int (nI sn)), (2, .int (nI sq))] := (congrArg (fun z9 => lv_has ls3 5 [(4, .int (nI i)), (3, .int z9), (0, .ref (w 0)), (1, .int (nI sn)), (2, .int (nI sq))]) hq9).mpr hl3
      clear hq9
      have hq9 : ([tO cy w b x wc lw gw ss sl sc sp] ++ (pS cy x (sjS X sn sq i))) = ([tO cy w b x wc lw gw ss sl sc sp] ++ (pS cy x (sjS X sn sq (i + 1)))) := congrArg (fun z9 => [tO cy w b x wc lw gw ss sl sc sp] ++ (pS cy x z9)) (show (sjS X sn sq i) = (sjS X sn sq (i + 1)) from by clear hx hb hml hown hr hlocks hw hsz hA hG hK hP2 hD2 hS2 hl3 ih_5; grind [sjS])
      replace hP2 := (congrArg (fun z9 => va_P D vwCl z9 _) hq9).mp hP2
      replace hD2 := (congrArg (fun z9 => va_D _ z9) hq9).mp hD2
      clear hq9
      refine lv_iinc (v := nI (i + 1)) (lv' := [(4, .int (nI (i + 1))), (3, .int (sjC X sn sq (i + 1))), (0, .ref (w 0)), (1, .int (nI sn)), (2, .int (nI sq))]) hx hb dX5_shutJust_72 hl3 (k := 0) rfl (nI_inc _) (by decide) rfl (fun ls4 hl4 => ?_)
      clear hl3 ls3
      refine lv_goto (tgt := 5) hx hb dX5_shutJust_75 (by decide) ?_
      exact ih_5 (i + 1) (by first | omega | assumption | rfl | simp_all) (by (try dsimp only); omega) H2 locs2 ls4 hP2 hD2 hS2 (lv_sub hl4 [0, 1, 2, 3, 4] rfl)
    · refine lv_aload_n hx hb dX5_shutJust_26 rfl (lv_at hl3 2 rfl) ?_
      refine va_get (D := D) (ci := 5) (v := .ref (x 0)) (C := RX5) (T := TX5) (N := 11) hx hb hw iX5 hown hK hP2 0 rfl rfl 10 (by decide) (hw _ kw_1_183) (fun _ h9 => h9) rfl dX5_shutJust_27 ?_
      refine va_get (D := D) (ci := 1) (v := .ref (x 8)) (C := RX1) (T := TX1) (N := 12) hx hb hw iX1 hown hK hP2 1 rfl rfl 9 (by decide) (hw _ kw_1_58) (fun _ h9 => h9) rfl dX5_shutJust_30 ?_
      refine lv_iload hx hb dX5_shutJust_33 (lv_at hl3 0 rfl) ?_
      refine lv_iload_n hx hb dX5_shutJust_35 rfl (lv_at hl3 4 rfl) ?_
      refine lv_iload hx hb dX5_shutJust_36 (lv_at hl3 0 rfl) ?_
      refine rN_i (wc := []) (rest := [.int (nI i), .ref (x 8)]) hx hb hml hown hw hG hK hP2 hS2 hA hl3 kc_X6_isIn hG.1.2.2.2.2.2.2.2.2.2.2.1 [.int (nI sq), .int (nI i)] (c_X6_isIn l D cy G H2.size sq i (by first | omega | assumption) (by first | omega | assumption)) [] rfl rfl rfl (Nat.le_of_ble_eq_true rfl) ⟨Nat.le_of_ble_eq_true rfl, Nat.le_of_ble_eq_true rfl⟩ dX5_shutJust_38 ⟨Nat.le_of_ble_eq_true rfl, Nat.le_of_ble_eq_true rfl⟩ (fun r_38 H3 locs3 hr_38 hP3 hS3 => ?_)
      have hD3 := hD2
      clear hP2 hD2 hS2 locs2 H2
      subst hr_38
      refine ast_z (f := fun g => (sjS X sn sq i) (16 + 8 * g)) (ws' := [tO cy w b x wc lw gw ss sl sc sp] ++ (pS cy x (upd (sjS X sn sq i) (16 + 8 * i) (b2i (sq.testBit i = true))))) hx hb hK hP3 hD3 hS3 9 2 rfl rfl i rfl (by first | omega | assumption) (by decide) (b2i_01 _) (congrArg (fun z => [tO cy w b x wc lw gw ss sl sc sp] ++ (z)) (pS_a7 cy x (sjS X sn sq i) i (b2i (sq.testBit i = true)))) dX5_shutJust_41 (fun H4 locs4 hP4 hD4 hS4 => ?_)
      clear hP3 hD3 hS3 locs3 H3
      refine lv_iload_n hx hb dX5_shutJust_42 rfl (lv_at hl3 1 rfl) ?_
      refine lv_aload_n hx hb dX5_shutJust_43 rfl (lv_at hl3 2 rfl) ?_
      refine va_get (D := D) (ci := 5) (v := .ref (x 0)) (C := RX5) (T := TX5) (N := 11) hx hb hw iX5 hown hK hP4 0 rfl rfl 10 (by decide) (hw _ kw_1_183) (fun _ h9 => h9) rfl dX5_shutJust_44 ?_
      refine va_get (D := D) (ci := 1) (v := .ref (x 8)) (C := RX1) (T := TX1) (N := 12) hx hb hw iX1 hown hK hP4 1 rfl rfl 9 (by decide) (hw _ kw_1_58) (fun _ h9 => h9) rfl dX5_shutJust_47 ?_
      refine lv_iload hx hb dX5_shutJust_50 (lv_at hl3 0 rfl) ?_
      refine ald_z (f := fun g => (upd (sjS X sn sq i) (16 + 8 * i) (b2i (sq.testBit i = true))) (16 + 8 * g)) hx hb hK hP4 9 2 rfl rfl i rfl (by first | omega | assumption) (by decide) dX5_shutJust_52 ?_
      refine tp (show ((upd (sjS X sn sq i) (16 + 8 * i) (b2i (sq.testBit i = true))) (16 + 8 * i)) = b2i (sq.testBit i = true) from upd_s _ _ _) ?_
      refine lb_eq (tgt := 69) hx hb dX5_shutJust_53 (by decide) (fun c_53 => ?_) (fun c_53 => ?_)
      · refine lv_iconst (v := 0) hx hb dX5_shutJust_69 (by decide) ?_
        refine lv_iadd hx hb dX5_shutJust_70 ?_
        refine lv_istore_n (lv' := [(3, .int ((sjC X sn sq i) + 0)), (4, .int (nI i)), (0, .ref (w 0)), (1, .int (nI sn)), (2, .int (nI sq))]) hx hb dX5_shutJust_71 rfl hl3 (by decide) rfl (fun ls4 hl4 => ?_)
        clear hl3 ls3
        have hq9 : sjC X sn sq (i + 1) = (sjC X sn sq i) + 0 := by clear hx hb hml hown hr hlocks hw hsz hA hG hK hP4 hD4 hS4 hl4 ih_5; grind [sjC]
        replace hl4 : lv_has ls4 5 [(3, .int (sjC X sn sq (i + 1))), (4, .int (nI i)), (0, .ref (w 0)), (1, .int (nI sn)), (2, .int (nI sq))] := (congrArg (fun z9 => lv_has ls4 5 [(3, .int z9), (4, .int (nI i)), (0, .ref (w 0)), (1, .int (nI sn)), (2, .int (nI sq))]) hq9).mpr hl4
        clear hq9
        have hq9 : ([tO cy w b x wc lw gw ss sl sc sp] ++ (pS cy x (upd (sjS X sn sq i) (16 + 8 * i) (b2i (sq.testBit i = true))))) = ([tO cy w b x wc lw gw ss sl sc sp] ++ (pS cy x (sjS X sn sq (i + 1)))) := congrArg (fun z9 => [tO cy w b x wc lw gw ss sl sc sp] ++ (pS cy x z9)) (show (upd (sjS X sn sq i) (16 + 8 * i) (b2i (sq.testBit i = true))) = (sjS X sn sq (i + 1)) from by clear hx hb hml hown hr hlocks hw hsz hA hG hK hP4 hD4 hS4 hl4 ih_5; grind [sjS])
        replace hP4 := (congrArg (fun z9 => va_P D vwCl z9 _) hq9).mp hP4
        replace hD4 := (congrArg (fun z9 => va_D _ z9) hq9).mp hD4
        clear hq9
        refine lv_iinc (v := nI (i + 1)) (lv' := [(4, .int (nI (i + 1))), (3, .int (sjC X sn sq (i + 1))), (0, .ref (w 0)), (1, .int (nI sn)), (2, .int (nI sq))]) hx hb dX5_shutJust_72 hl4 (k := 1) rfl (nI_inc _) (by decide) rfl (fun ls5 hl5 => ?_)
        clear hl4 ls4
        refine lv_goto (tgt := 5) hx hb dX5_shutJust_75 (by decide) ?_
        exact ih_5 (i + 1) (by first | omega | assumption | rfl | simp_all) (by (try dsimp only); omega) H4 locs4 ls5 hP4 hD4 hS4 (lv_sub hl5 [0, 1, 2, 3, 4] rfl)
      · refine lv_aload_n hx hb dX5_shutJust_56 rfl (lv_at hl3 2 rfl) ?_
        refine va_get (D := D) (ci := 5) (v := .ref (x 0)) (C := RX5) (T := TX5) (N := 11) hx hb hw iX5 hown hK hP4 0 rfl rfl 10 (by decide) (hw _ kw_1_183) (fun _ h9 => h9) rfl dX5_shutJust_57 ?_
        refine va_get (D := D) (ci := 1) (v := .ref (x 7)) (C := RX1) (T := TX1) (N := 12) hx hb hw iX1 hown hK hP4 1 rfl rfl 8 (by decide) (hw _ kw_1_56) (fun _ h9 => h9) rfl dX5_shutJust_60 ?_
        refine lv_iload hx hb dX5_shutJust_63 (lv_at hl3 0 rfl) ?_
        refine ald_i (f := fun g => (upd (sjS X sn sq i) (16 + 8 * i) (b2i (sq.testBit i = true))) (15 + 8 * g)) hx hb hK hP4 8 0 rfl rfl i rfl (by first | omega | assumption) (by decide) dX5_shutJust_65 ?_
        refine tp (show ((upd (sjS X sn sq i) (16 + 8 * i) (b2i (sq.testBit i = true))) (15 + 8 * i)) = X (15 + 8 * i) from (upd_n (by omega)).trans (sjS_15 X sn sq i i)) ?_
        refine lv_goto (tgt := 70) hx hb dX5_shutJust_66 (by decide) ?_
        refine lv_iadd hx hb dX5_shutJust_70 ?_
        refine lv_istore_n (lv' := [(3, .int ((sjC X sn sq i) + (X (15 + 8 * i)))), (4, .int (nI i)), (0, .ref (w 0)), (1, .int (nI sn)), (2, .int (nI sq))]) hx hb dX5_shutJust_71 rfl hl3 (by decide) rfl (fun ls4 hl4 => ?_)
        clear hl3 ls3
        have hq9 : sjC X sn sq (i + 1) = (sjC X sn sq i) + (X (15 + 8 * i)) := by clear hx hb hml hown hr hlocks hw hsz hA hG hK hP4 hD4 hS4 hl4 ih_5; grind [sjC]
        replace hl4 : lv_has ls4 5 [(3, .int (sjC X sn sq (i + 1))), (4, .int (nI i)), (0, .ref (w 0)), (1, .int (nI sn)), (2, .int (nI sq))] := (congrArg (fun z9 => lv_has ls4 5 [(3, .int z9), (4, .int (nI i)), (0, .ref (w 0)), (1, .int (nI sn)), (2, .int (nI sq))]) hq9).mpr hl4
        clear hq9
        have hq9 : ([tO cy w b x wc lw gw ss sl sc sp] ++ (pS cy x (upd (sjS X sn sq i) (16 + 8 * i) (b2i (sq.testBit i = true))))) = ([tO cy w b x wc lw gw ss sl sc sp] ++ (pS cy x (sjS X sn sq (i + 1)))) := congrArg (fun z9 => [tO cy w b x wc lw gw ss sl sc sp] ++ (pS cy x z9)) (show (upd (sjS X sn sq i) (16 + 8 * i) (b2i (sq.testBit i = true))) = (sjS X sn sq (i + 1)) from by clear hx hb hml hown hr hlocks hw hsz hA hG hK hP4 hD4 hS4 hl4 ih_5; grind [sjS])
        replace hP4 := (congrArg (fun z9 => va_P D vwCl z9 _) hq9).mp hP4
        replace hD4 := (congrArg (fun z9 => va_D _ z9) hq9).mp hD4
        clear hq9
        refine lv_iinc (v := nI (i + 1)) (lv' := [(4, .int (nI (i + 1))), (3, .int (sjC X sn sq (i + 1))), (0, .ref (w 0)), (1, .int (nI sn)), (2, .int (nI sq))]) hx hb dX5_shutJust_72 hl4 (k := 1) rfl (nI_inc _) (by decide) rfl (fun ls5 hl5 => ?_)
        clear hl4 ls4
        refine lv_goto (tgt := 5) hx hb dX5_shutJust_75 (by decide) ?_
        exact ih_5 (i + 1) (by first | omega | assumption | rfl | simp_all) (by (try dsimp only); omega) H4 locs4 ls5 hP4 hD4 hS4 (lv_sub hl5 [0, 1, 2, 3, 4] rfl)

theorem kc_X5_isBetterStop : kV yX5_isBetterStop cX5_isBetterStop 2 (some .boolean) 1 := ⟨kw_3_185, kw_s_24, kw_1_4, kw_3_186, by decide, by decide, by decide +kernel⟩
set_option maxHeartbeats 4000000 in
set_option maxRecDepth 100000 in
theorem c_X5_isBetterStop (l : Launch) (D : va_G) (cy : Nat → ClassId) (G : Nat → Nat) (sz : Nat) (w : Nat → Nat) (b : Nat → Nat) (x : Nat → Nat) (wc : Int32) (lw : Int32) (gw : Int32) (ss : Int32) (sl : Int32) (sc : Int32) (sp : Int32) (P : Nat → Int32) (F : Nat → Int32) (N : Nat → Int32) (B : Nat → Int32) (O : Nat → Int32) (Sd : Nat → Int32) (Dv : Nat → Int32) (L : Nat → Nat → Int32) (rc : Int32) (re : Int32) (fr : Int32) (lo : Int32) (sm : Int32) (v : Int32)  : Met l yX5_isBetterStop (wm yX5_isBetterStop cX5_isBetterStop 2 (some .boolean)) { frames := 1, cells := 0, slots := 0, locals := 20 } (va_Pc [.ref (w 0), .int v] (pd D (TY cy) G ([tO cy w b x wc lw gw ss sl sc sp] ++ (aS cy b P F N B O Sd Dv L rc re fr lo sm)) sz)) (va_Qi (fun r (_ : Unit) => r = b2i (bet ss sl lo v)) (fun _ _ => True) (va_A [] sz)) 0 0 (va_A [] sz) := by
  refine mk_rd (by decide) RX5 rfl (Nat.le_of_ble_eq_true rfl) [(0, .ref (w 0)), (1, .int v)] rfl ?_
  intro p e s m below meth c hx hb hml hown hr hlocks hw hsz hA hG hK H0 locs0 hP0 hS0 ls0 hl0
  have hv9 := popI_le v
  have hs9 := popI_le ss
  refine lv_aload_n hx hb dX5_isBetterStop_0 rfl (lv_at hl0 0 rfl) ?_
  refine va_get (D := D) (ci := 5) (v := .int ss) (C := RX5) (T := TX5) (N := 11) hx hb hw iX5 hown hK hP0 0 rfl rfl 4 (by decide) (hw _ kw_1_171) (fun _ h9 => h9) rfl dX5_isBetterStop_1 ?_
  refine lv_if_lt (tgt := 21) hx hb dX5_isBetterStop_4 (by decide) (fun c_4 => ?_) (fun c_4 => ?_)
  · refine lv_aload_n hx hb dX5_isBetterStop_21 rfl (lv_at hl0 0 rfl) ?_
    refine va_get (D := D) (ci := 5) (v := .int ss) (C := RX5) (T := TX5) (N := 11) hx hb hw iX5 hown hK hP0 0 rfl rfl 4 (by decide) (hw _ kw_1_171) (fun _ h9 => h9) rfl dX5_isBetterStop_22 ?_
    refine lv_if_lt (tgt := 42) hx hb dX5_isBetterStop_25 (by decide) (fun c_25 => ?_) (fun c_25 => ?_)
    · refine lv_iconst (v := 1) hx hb dX5_isBetterStop_42 (by decide) ?_
      refine lv_goto (tgt := 47) hx hb dX5_isBetterStop_43 (by decide) ?_
      exact rd_z hx hb hr hlocks hS0 dX5_isBetterStop_47 rfl (by clear hx hb hml hown hr hlocks hw hsz hA hG hK hP0 hS0 hl0; grind [b2i])
    · refine lv_aload_n hx hb dX5_isBetterStop_28 rfl (lv_at hl0 0 rfl) ?_
      refine va_get (D := D) (ci := 5) (v := .ref (b 0)) (C := RX5) (T := TX5) (N := 11) hx hb hw iX5 hown hK hP0 0 rfl rfl 0 (by decide) (hw _ kw_1_163) (fun _ h9 => h9) rfl dX5_isBetterStop_29 ?_
      refine va_get (D := D) (ci := 0) (v := .int lo) (C := RX0) (T := TX0) (N := 13) hx hb hw iX0 hown hK hP0 1 rfl rfl 5 (by decide) (hw _ kw_1_115) (fun _ h9 => h9) rfl dX5_isBetterStop_32 ?_
      refine lv_aload_n hx hb dX5_isBetterStop_35 rfl (lv_at hl0 0 rfl) ?_
      refine va_get (D := D) (ci := 5) (v := .int sl) (C := RX5) (T := TX5) (N := 11) hx hb hw iX5 hown hK hP0 0 rfl rfl 5 (by decide) (hw _ kw_1_173) (fun _ h9 => h9) rfl dX5_isBetterStop_36 ?_
      refine lv_icmp_ge (tgt := 46) hx hb dX5_isBetterStop_39 (by decide) (fun c_39 => ?_) (fun c_39 => ?_)
      · refine lv_iconst (v := 0) hx hb dX5_isBetterStop_46 (by decide) ?_
        exact rd_z hx hb hr hlocks hS0 dX5_isBetterStop_47 rfl (by clear hx hb hml hown hr hlocks hw hsz hA hG hK hP0 hS0 hl0; grind [b2i])
      · refine lv_iconst (v := 1) hx hb dX5_isBetterStop_42 (by decide) ?_
        refine lv_goto (tgt := 47) hx hb dX5_isBetterStop_43 (by decide) ?_
        exact rd_z hx hb hr hlocks hS0 dX5_isBetterStop_47 rfl (by clear hx hb hml hown hr hlocks hw hsz hA hG hK hP0 hS0 hl0; grind [b2i])
  · refine lv_aload_n hx hb dX5_isBetterStop_7 rfl (lv_at hl0 0 rfl) ?_
    refine va_get (D := D) (ci := 5) (v := .ref (b 0)) (C := RX5) (T := TX5) (N := 11) hx hb hw iX5 hown hK hP0 0 rfl rfl 0 (by decide) (hw _ kw_1_163) (fun _ h9 => h9) rfl dX5_isBetterStop_8 ?_
    refine va_get (D := D) (ci := 0) (v := .int lo) (C := RX0) (T := TX0) (N := 13) hx hb hw iX0 hown hK hP0 1 rfl rfl 5 (by decide) (hw _ kw_1_115) (fun _ h9 => h9) rfl dX5_isBetterStop_11 ?_
    refine lv_aload_n hx hb dX5_isBetterStop_14 rfl (lv_at hl0 0 rfl) ?_
    refine va_get (D := D) (ci := 5) (v := .int sl) (C := RX5) (T := TX5) (N := 11) hx hb hw iX5 hown hK hP0 0 rfl rfl 5 (by decide) (hw _ kw_1_173) (fun _ h9 => h9) rfl dX5_isBetterStop_15 ?_
    refine lv_icmp_eq (tgt := 48) hx hb dX5_isBetterStop_18 (by decide) (fun c_18 => ?_) (fun c_18 => ?_)
    · refine lv_iload_n hx hb dX5_isBetterStop_48 rfl (lv_at hl0 1 rfl) ?_
      refine rT_i (wc := []) (rest := []) hx hb hml hown hw hG hK hP0 hS0 hA hl0 kc_J6_bitCount_0f7a4 kw_3_173 [.int v] (c_J6_bitCount_0f7a4 l D cy G H0.size v) [] rfl rfl rfl (Nat.le_of_ble_eq_true rfl) ⟨Nat.le_of_ble_eq_true rfl, Nat.le_of_ble_eq_true rfl⟩ dX5_isBetterStop_49 ⟨Nat.le_of_ble_eq_true rfl, Nat.le_of_ble_eq_true rfl⟩ (fun r_49 H1 locs1 hr_49 hP1 hS1 => ?_)
      clear hP0 hS0 locs0 H0
      subst hr_49
      refine lv_aload_n hx hb dX5_isBetterStop_52 rfl (lv_at hl0 0 rfl) ?_
      refine va_get (D := D) (ci := 5) (v := .int ss) (C := RX5) (T := TX5) (N := 11) hx hb hw iX5 hown hK hP1 0 rfl rfl 4 (by decide) (hw _ kw_1_171) (fun _ h9 => h9) rfl dX5_isBetterStop_53 ?_
      refine rT_i (wc := []) (rest := [.int (nI (popI v))]) hx hb hml hown hw hG hK hP1 hS1 hA hl0 kc_J6_bitCount_0f7a4 kw_3_173 [.int ss] (c_J6_bitCount_0f7a4 l D cy G H1.size ss) [] rfl rfl rfl (Nat.le_of_ble_eq_true rfl) ⟨Nat.le_of_ble_eq_true rfl, Nat.le_of_ble_eq_true rfl⟩ dX5_isBetterStop_56 ⟨Nat.le_of_ble_eq_true rfl, Nat.le_of_ble_eq_true rfl⟩ (fun r_56 H2 locs2 hr_56 hP2 hS2 => ?_)
      clear hP1 hS1 locs1 H1
      subst hr_56
      refine ln_ge (tgt := 66) (popI v) (popI ss) rfl rfl (by omega) (by omega) hx hb dX5_isBetterStop_59 (by decide) (fun c_59 => ?_) (fun c_59 => ?_)
      · refine lv_iconst (v := 0) hx hb dX5_isBetterStop_66 (by decide) ?_
        exact rd_z hx hb hr hlocks hS2 dX5_isBetterStop_67 rfl (by clear hx hb hml hown hr hlocks hw hsz hA hG hK hP2 hS2 hl0; grind [b2i])
      · refine lv_iconst (v := 1) hx hb dX5_isBetterStop_62 (by decide) ?_
        refine lv_goto (tgt := 67) hx hb dX5_isBetterStop_63 (by decide) ?_
        exact rd_z hx hb hr hlocks hS2 dX5_isBetterStop_67 rfl (by clear hx hb hml hown hr hlocks hw hsz hA hG hK hP2 hS2 hl0; grind [b2i])
    · refine lv_aload_n hx hb dX5_isBetterStop_21 rfl (lv_at hl0 0 rfl) ?_
      refine va_get (D := D) (ci := 5) (v := .int ss) (C := RX5) (T := TX5) (N := 11) hx hb hw iX5 hown hK hP0 0 rfl rfl 4 (by decide) (hw _ kw_1_171) (fun _ h9 => h9) rfl dX5_isBetterStop_22 ?_
      refine lv_if_lt (tgt := 42) hx hb dX5_isBetterStop_25 (by decide) (fun c_25 => ?_) (fun c_25 => ?_)
      · refine lv_iconst (v := 1) hx hb dX5_isBetterStop_42 (by decide) ?_
        refine lv_goto (tgt := 47) hx hb dX5_isBetterStop_43 (by decide) ?_
        exact rd_z hx hb hr hlocks hS0 dX5_isBetterStop_47 rfl (by clear hx hb hml hown hr hlocks hw hsz hA hG hK hP0 hS0 hl0; grind [b2i])
      · refine lv_aload_n hx hb dX5_isBetterStop_28 rfl (lv_at hl0 0 rfl) ?_
        refine va_get (D := D) (ci := 5) (v := .ref (b 0)) (C := RX5) (T := TX5) (N := 11) hx hb hw iX5 hown hK hP0 0 rfl rfl 0 (by decide) (hw _ kw_1_163) (fun _ h9 => h9) rfl dX5_isBetterStop_29 ?_
        refine va_get (D := D) (ci := 0) (v := .int lo) (C := RX0) (T := TX0) (N := 13) hx hb hw iX0 hown hK hP0 1 rfl rfl 5 (by decide) (hw _ kw_1_115) (fun _ h9 => h9) rfl dX5_isBetterStop_32 ?_
        refine lv_aload_n hx hb dX5_isBetterStop_35 rfl (lv_at hl0 0 rfl) ?_
        refine va_get (D := D) (ci := 5) (v := .int sl) (C := RX5) (T := TX5) (N := 11) hx hb hw iX5 hown hK hP0 0 rfl rfl 5 (by decide) (hw _ kw_1_173) (fun _ h9 => h9) rfl dX5_isBetterStop_36 ?_
        refine lv_icmp_ge (tgt := 46) hx hb dX5_isBetterStop_39 (by decide) (fun c_39 => ?_) (fun c_39 => ?_)
        · refine lv_iconst (v := 0) hx hb dX5_isBetterStop_46 (by decide) ?_
          exact rd_z hx hb hr hlocks hS0 dX5_isBetterStop_47 rfl (by clear hx hb hml hown hr hlocks hw hsz hA hG hK hP0 hS0 hl0; grind [b2i])
        · refine lv_iconst (v := 1) hx hb dX5_isBetterStop_42 (by decide) ?_
          refine lv_goto (tgt := 47) hx hb dX5_isBetterStop_43 (by decide) ?_
          exact rd_z hx hb hr hlocks hS0 dX5_isBetterStop_47 rfl (by clear hx hb hml hown hr hlocks hw hsz hA hG hK hP0 hS0 hl0; grind [b2i])

theorem kc_X5_tryStop : kV yX5_tryStop cX5_tryStop 5 none 4 := ⟨kw_3_181, kw_s_23, kw_1_4, kw_3_182, by decide, by decide, by decide +kernel⟩
set_option maxHeartbeats 4000000 in
set_option maxRecDepth 100000 in
theorem c_X5_tryStop (l : Launch) (D : va_G) (cy : Nat → ClassId) (G : Nat → Nat) (sz : Nat) (w : Nat → Nat) (b : Nat → Nat) (x : Nat → Nat) (wc : Int32) (lw : Int32) (gw : Int32) (ss : Int32) (sl : Int32) (sc : Int32) (sp : Int32) (P : Nat → Int32) (F : Nat → Int32) (N : Nat → Int32) (B : Nat → Int32) (O : Nat → Int32) (Sd : Nat → Int32) (Dv : Nat → Int32) (L : Nat → Nat → Int32) (rc : Int32) (re : Int32) (fr : Int32) (lo : Int32) (sm : Int32) (X : Nat → Int32) (v : Int32) (y : Int32) (co : Int32) (le : Int32) (wf : wf X) : Met l yX5_tryStop (wm yX5_tryStop cX5_tryStop 5 none) { frames := 5, cells := 0, slots := 0, locals := 109 } (va_Pc [.ref (w 0), .int v, .int y, .int co, .int le] (pr D (TY cy) G ([tO cy w b x wc lw gw ss sl sc sp] ++ (aS cy b P F N B O Sd Dv L rc re fr lo sm ++ (pS cy x X))) sz)) (va_Qv (fun (u : (Nat → Int32) × (Nat → Int32) × (Nat → Int32) × (Nat → Int32) × (Nat → Int32) × (Nat → Int32) × (Nat → Int32) × (Nat → Nat → Int32) × Int32 × Int32 × Int32 × Int32 × Int32) => True) (fun (u : (Nat → Int32) × (Nat → Int32) × (Nat → Int32) × (Nat → Int32) × (Nat → Int32) × (Nat → Int32) × (Nat → Int32) × (Nat → Nat → Int32) × Int32 × Int32 × Int32 × Int32 × Int32) t => po D (va_A ([tO cy w b x wc lw gw ss sl sc sp] ++ (aS cy b P F N B O Sd Dv L rc re fr lo sm ++ (pS cy x X))) sz) ([tO cy w b x wc lw gw (if y ≤ co ∧ le ≤ fresh X ∧ smokes X = false ∧ bet ss sl (lost X) v then v else ss) (if y ≤ co ∧ le ≤ fresh X ∧ smokes X = false ∧ bet ss sl (lost X) v then lost X else sl) (if y ≤ co ∧ le ≤ fresh X ∧ smokes X = false ∧ bet ss sl (lost X) v then y else sc) sp] ++ (aS cy b u.1 u.2.1 u.2.2.1 u.2.2.2.1 u.2.2.2.2.1 u.2.2.2.2.2.1 u.2.2.2.2.2.2.1 u.2.2.2.2.2.2.2.1 u.2.2.2.2.2.2.2.2.1 u.2.2.2.2.2.2.2.2.2.1 u.2.2.2.2.2.2.2.2.2.2.1 u.2.2.2.2.2.2.2.2.2.2.2.1 u.2.2.2.2.2.2.2.2.2.2.2.2 ++ (pS cy x X))) t) (va_A ([tO cy w b x wc lw gw ss sl sc sp] ++ (aS cy b P F N B O Sd Dv L rc re fr lo sm ++ (pS cy x X))) sz)) 0 0 (va_A ([tO cy w b x wc lw gw ss sl sc sp] ++ (aS cy b P F N B O Sd Dv L rc re fr lo sm ++ (pS cy x X))) sz) := by
  refine mk_rw (by decide) RX5 rfl (Nat.le_of_ble_eq_true rfl) [(0, .ref (w 0)), (1, .int v), (2, .int y), (3, .int co), (4, .int le)] rfl ?_
  intro p e s m below meth c hx hb hml hown hr hlocks hin hw hsz hA hG hK H0 locs0 hP0 hD0 hS0 ls0 hl0
  clear hin
  refine lv_iload_n hx hb dX5_tryStop_0 rfl (lv_at hl0 2 rfl) ?_
  refine lv_iload_n hx hb dX5_tryStop_1 rfl (lv_at hl0 3 rfl) ?_
  refine lv_icmp_le (tgt := 6) hx hb dX5_tryStop_2 (by decide) (fun c_2 => ?_) (fun c_2 => ?_)
  · refine lv_aload_n hx hb dX5_tryStop_6 rfl (lv_at hl0 0 rfl) ?_
    refine va_get (D := D) (ci := 5) (v := .ref (b 0)) (C := RX5) (T := TX5) (N := 11) hx hb hw iX5 hown hK hP0 0 rfl rfl 0 (by decide) (hw _ kw_1_163) (fun _ h9 => h9) rfl dX5_tryStop_7 ?_
    refine lv_aload_n hx hb dX5_tryStop_10 rfl (lv_at hl0 0 rfl) ?_
    refine va_get (D := D) (ci := 5) (v := .ref (x 0)) (C := RX5) (T := TX5) (N := 11) hx hb hw iX5 hown hK hP0 0 rfl rfl 10 (by decide) (hw _ kw_1_183) (fun _ h9 => h9) rfl dX5_tryStop_11 ?_
    refine cV_v (wc := aS cy b P F N B O Sd Dv L rc re fr lo sm ++ (pS cy x X)) (wr := [tO cy w b x wc lw gw ss sl sc sp]) (rest := []) hx hb hml hown hw hG hK hP0 hD0 hS0 hA hl0 kc_X0_settle kw_3_145 [.ref (x 0)] (c_X0_settle l D cy G H0.size b P F N B O Sd Dv L rc re fr lo sm x X (by first | omega | assumption)) [1, 2, 3, 4, 5, 6, 7, 8, 9, 10, 11, 12, 13, 14, 15, 16, 17, 18, 19, 20, 21, 22, 23, 24, 25] [0] rfl rfl rfl rfl rfl 0 rfl rfl rfl rfl rfl (Nat.le_of_ble_eq_true rfl) ⟨Nat.le_of_ble_eq_true rfl, Nat.le_of_ble_eq_true rfl⟩ dX5_tryStop_14 ⟨Nat.le_of_ble_eq_true rfl, Nat.le_of_ble_eq_true rfl⟩ (fun u9 H1 locs1 hu9 hP1 hD1 hS1 => ?_)
    clear hP0 hD0 hS0 locs0 H0
    obtain ⟨F1_14, N1_14, B1_14, O1_14, Sd1_14, Dv1_14, L1_14⟩ := u9
    have hF_14 := hu9
    replace hF_14 : ∀ g, g < gcN X → F1_14 g = flow X (PR X) g := hF_14
    replace hP1 : va_P D vwCl ([tO cy w b x wc lw gw ss sl sc sp] ++ (aS cy b (PR X) F1_14 N1_14 B1_14 O1_14 Sd1_14 Dv1_14 L1_14 (nI (RC X)) (b2i (RC X = 60)) (fresh X) (lost X) (b2i (smokes X = true)) ++ (pS cy x X))) H1 := hP1
    replace hD1 : va_D (va_A _ sz) ([tO cy w b x wc lw gw ss sl sc sp] ++ (aS cy b (PR X) F1_14 N1_14 B1_14 O1_14 Sd1_14 Dv1_14 L1_14 (nI (RC X)) (b2i (RC X = 60)) (fresh X) (lost X) (b2i (smokes X = true)) ++ (pS cy x X))) := hD1
    refine lv_aload_n hx hb dX5_tryStop_17 rfl (lv_at hl0 0 rfl) ?_
    refine va_get (D := D) (ci := 5) (v := .ref (b 0)) (C := RX5) (T := TX5) (N := 11) hx hb hw iX5 hown hK hP1 0 rfl rfl 0 (by decide) (hw _ kw_1_163) (fun _ h9 => h9) rfl dX5_tryStop_18 ?_
    refine va_get (D := D) (ci := 0) (v := .int (fresh X)) (C := RX0) (T := TX0) (N := 13) hx hb hw iX0 hown hK hP1 1 rfl rfl 4 (by decide) (hw _ kw_1_112) (fun _ h9 => h9) rfl dX5_tryStop_21 ?_
    refine lv_iload hx hb dX5_tryStop_24 (lv_at hl0 4 rfl) ?_
    refine lv_icmp_lt (tgt := 68) hx hb dX5_tryStop_26 (by decide) (fun c_26 => ?_) (fun c_26 => ?_)
    · have hq9 : ([tO cy w b x wc lw gw ss sl sc sp] ++ (aS cy b (PR X) F1_14 N1_14 B1_14 O1_14 Sd1_14 Dv1_14 L1_14 (nI (RC X)) (b2i (RC X = 60)) (fresh X) (lost X) (b2i (smokes X = true)) ++ (pS cy x X))) = ([tO cy w b x wc lw gw (if y ≤ co ∧ le ≤ fresh X ∧ smokes X = false ∧ bet ss sl (lost X) v then v else ss) sl sc sp] ++ (aS cy b (PR X) F1_14 N1_14 B1_14 O1_14 Sd1_14 Dv1_14 L1_14 (nI (RC X)) (b2i (RC X = 60)) (fresh X) (lost X) (b2i (smokes X = true)) ++ (pS cy x X))) := congrArg (fun z9 => [tO cy w b x wc lw gw z9 sl sc sp] ++ (aS cy b (PR X) F1_14 N1_14 B1_14 O1_14 Sd1_14 Dv1_14 L1_14 (nI (RC X)) (b2i (RC X = 60)) (fresh X) (lost X) (b2i (smokes X = true)) ++ (pS cy x X))) (show ss = (if y ≤ co ∧ le ≤ fresh X ∧ smokes X = false ∧ bet ss sl (lost X) v then v else ss) from by clear hx hb hml hown hr hlocks hw hsz hA hG hK hP1 hD1 hS1 hl0; grind)
      replace hP1 := (congrArg (fun z9 => va_P D vwCl z9 _) hq9).mp hP1
      replace hD1 := (congrArg (fun z9 => va_D _ z9) hq9).mp hD1
      clear hq9
      have hq9 : ([tO cy w b x wc lw gw (if y ≤ co ∧ le ≤ fresh X ∧ smokes X = false ∧ bet ss sl (lost X) v then v else ss) sl sc sp] ++ (aS cy b (PR X) F1_14 N1_14 B1_14 O1_14 Sd1_14 Dv1_14 L1_14 (nI (RC X)) (b2i (RC X = 60)) (fresh X) (lost X) (b2i (smokes X = true)) ++ (pS cy x X))) = ([tO cy w b x wc lw gw (if y ≤ co ∧ le ≤ fresh X ∧ smokes X = false ∧ bet ss sl (lost X) v then v else ss) (if y ≤ co ∧ le ≤ fresh X ∧ smokes X = false ∧ bet ss sl (lost X) v then lost X else sl) sc sp] ++ (aS cy b (PR X) F1_14 N1_14 B1_14 O1_14 Sd1_14 Dv1_14 L1_14 (nI (RC X)) (b2i (RC X = 60)) (fresh X) (lost X) (b2i (smokes X = true)) ++ (pS cy x X))) := congrArg (fun z9 => [tO cy w b x wc lw gw (if y ≤ co ∧ le ≤ fresh X ∧ smokes X = false ∧ bet ss sl (lost X) v then v else ss) z9 sc sp] ++ (aS cy b (PR X) F1_14 N1_14 B1_14 O1_14 Sd1_14 Dv1_14 L1_14 (nI (RC X)) (b2i (RC X = 60)) (fresh X) (lost X) (b2i (smokes X = true)) ++ (pS cy x X))) (show sl = (if y ≤ co ∧ le ≤ fresh X ∧ smokes X = false ∧ bet ss sl (lost X) v then lost X else sl) from by clear hx hb hml hown hr hlocks hw hsz hA hG hK hP1 hD1 hS1 hl0; grind)
      replace hP1 := (congrArg (fun z9 => va_P D vwCl z9 _) hq9).mp hP1
      replace hD1 := (congrArg (fun z9 => va_D _ z9) hq9).mp hD1
      clear hq9
      have hq9 : ([tO cy w b x wc lw gw (if y ≤ co ∧ le ≤ fresh X ∧ smokes X = false ∧ bet ss sl (lost X) v then v else ss) (if y ≤ co ∧ le ≤ fresh X ∧ smokes X = false ∧ bet ss sl (lost X) v then lost X else sl) sc sp] ++ (aS cy b (PR X) F1_14 N1_14 B1_14 O1_14 Sd1_14 Dv1_14 L1_14 (nI (RC X)) (b2i (RC X = 60)) (fresh X) (lost X) (b2i (smokes X = true)) ++ (pS cy x X))) = ([tO cy w b x wc lw gw (if y ≤ co ∧ le ≤ fresh X ∧ smokes X = false ∧ bet ss sl (lost X) v then v else ss) (if y ≤ co ∧ le ≤ fresh X ∧ smokes X = false ∧ bet ss sl (lost X) v then lost X else sl) (if y ≤ co ∧ le ≤ fresh X ∧ smokes X = false ∧ bet ss sl (lost X) v then y else sc) sp] ++ (aS cy b (PR X) F1_14 N1_14 B1_14 O1_14 Sd1_14 Dv1_14 L1_14 (nI (RC X)) (b2i (RC X = 60)) (fresh X) (lost X) (b2i (smokes X = true)) ++ (pS cy x X))) := congrArg (fun z9 => [tO cy w b x wc lw gw (if y ≤ co ∧ le ≤ fresh X ∧ smokes X = false ∧ bet ss sl (lost X) v then v else ss) (if y ≤ co ∧ le ≤ fresh X ∧ smokes X = false ∧ bet ss sl (lost X) v then lost X else sl) z9 sp] ++ (aS cy b (PR X) F1_14 N1_14 B1_14 O1_14 Sd1_14 Dv1_14 L1_14 (nI (RC X)) (b2i (RC X = 60)) (fresh X) (lost X) (b2i (smokes X = true)) ++ (pS cy x X))) (show sc = (if y ≤ co ∧ le ≤ fresh X ∧ smokes X = false ∧ bet ss sl (lost X) v then y else sc) from by clear hx hb hml hown hr hlocks hw hsz hA hG hK hP1 hD1 hS1 hl0; grind)
      replace hP1 := (congrArg (fun z9 => va_P D vwCl z9 _) hq9).mp hP1
      replace hD1 := (congrArg (fun z9 => va_D _ z9) hq9).mp hD1
      clear hq9
      refine re_v (PR X, F1_14, N1_14, B1_14, O1_14, Sd1_14, Dv1_14, L1_14, nI (RC X), b2i (RC X = 60), fresh X, lost X, b2i (smokes X = true)) hx hb hr hlocks hP1 hD1 hS1 dX5_tryStop_68 ?_
      exact (trivial)
    · refine lv_aload_n hx hb dX5_tryStop_29 rfl (lv_at hl0 0 rfl) ?_
      refine va_get (D := D) (ci := 5) (v := .ref (b 0)) (C := RX5) (T := TX5) (N := 11) hx hb hw iX5 hown hK hP1 0 rfl rfl 0 (by decide) (hw _ kw_1_163) (fun _ h9 => h9) rfl dX5_tryStop_30 ?_
      refine va_get (D := D) (ci := 0) (v := .int (b2i (smokes X = true))) (C := RX0) (T := TX0) (N := 13) hx hb hw iX0 hown hK hP1 1 rfl rfl 6 (by decide) (hw _ kw_1_118) (fun _ h9 => h9) rfl dX5_tryStop_33 ?_
      refine lb_ne (tgt := 68) hx hb dX5_tryStop_36 (by decide) (fun c_36 => ?_) (fun c_36 => ?_)
      · have hq9 : ([tO cy w b x wc lw gw ss sl sc sp] ++ (aS cy b (PR X) F1_14 N1_14 B1_14 O1_14 Sd1_14 Dv1_14 L1_14 (nI (RC X)) (b2i (RC X = 60)) (fresh X) (lost X) (b2i (smokes X = true)) ++ (pS cy x X))) = ([tO cy w b x wc lw gw (if y ≤ co ∧ le ≤ fresh X ∧ smokes X = false ∧ bet ss sl (lost X) v then v else ss) sl sc sp] ++ (aS cy b (PR X) F1_14 N1_14 B1_14 O1_14 Sd1_14 Dv1_14 L1_14 (nI (RC X)) (b2i (RC X = 60)) (fresh X) (lost X) (b2i (smokes X = true)) ++ (pS cy x X))) := congrArg (fun z9 => [tO cy w b x wc lw gw z9 sl sc sp] ++ (aS cy b (PR X) F1_14 N1_14 B1_14 O1_14 Sd1_14 Dv1_14 L1_14 (nI (RC X)) (b2i (RC X = 60)) (fresh X) (lost X) (b2i (smokes X = true)) ++ (pS cy x X))) (show ss = (if y ≤ co ∧ le ≤ fresh X ∧ smokes X = false ∧ bet ss sl (lost X) v then v else ss) from by clear hx hb hml hown hr hlocks hw hsz hA hG hK hP1 hD1 hS1 hl0; grind)
        replace hP1 := (congrArg (fun z9 => va_P D vwCl z9 _) hq9).mp hP1
        replace hD1 := (congrArg (fun z9 => va_D _ z9) hq9).mp hD1
        clear hq9
        have hq9 : ([tO cy w b x wc lw gw (if y ≤ co ∧ le ≤ fresh X ∧ smokes X = false ∧ bet ss sl (lost X) v then v else ss) sl sc sp] ++ (aS cy b (PR X) F1_14 N1_14 B1_14 O1_14 Sd1_14 Dv1_14 L1_14 (nI (RC X)) (b2i (RC X = 60)) (fresh X) (lost X) (b2i (smokes X = true)) ++ (pS cy x X))) = ([tO cy w b x wc lw gw (if y ≤ co ∧ le ≤ fresh X ∧ smokes X = false ∧ bet ss sl (lost X) v then v else ss) (if y ≤ co ∧ le ≤ fresh X ∧ smokes X = false ∧ bet ss sl (lost X) v then lost X else sl) sc sp] ++ (aS cy b (PR X) F1_14 N1_14 B1_14 O1_14 Sd1_14 Dv1_14 L1_14 (nI (RC X)) (b2i (RC X = 60)) (fresh X) (lost X) (b2i (smokes X = true)) ++ (pS cy x X))) := congrArg (fun z9 => [tO cy w b x wc lw gw (if y ≤ co ∧ le ≤ fresh X ∧ smokes X = false ∧ bet ss sl (lost X) v then v else ss) z9 sc sp] ++ (aS cy b (PR X) F1_14 N1_14 B1_14 O1_14 Sd1_14 Dv1_14 L1_14 (nI (RC X)) (b2i (RC X = 60)) (fresh X) (lost X) (b2i (smokes X = true)) ++ (pS cy x X))) (show sl = (if y ≤ co ∧ le ≤ fresh X ∧ smokes X = false ∧ bet ss sl (lost X) v then lost X else sl) from by clear hx hb hml hown hr hlocks hw hsz hA hG hK hP1 hD1 hS1 hl0; grind)
        replace hP1 := (congrArg (fun z9 => va_P D vwCl z9 _) hq9).mp hP1
        replace hD1 := (congrArg (fun z9 => va_D _ z9) hq9).mp hD1
        clear hq9
        have hq9 : ([tO cy w b x wc lw gw (if y ≤ co ∧ le ≤ fresh X ∧ smokes X = false ∧ bet ss sl (lost X) v then v else ss) (if y ≤ co ∧ le ≤ fresh X ∧ smokes X = false ∧ bet ss sl (lost X) v then lost X else sl) sc sp] ++ (aS cy b (PR X) F1_14 N1_14 B1_14 O1_14 Sd1_14 Dv1_14 L1_14 (nI (RC X)) (b2i (RC X = 60)) (fresh X) (lost X) (b2i (smokes X = true)) ++ (pS cy x X))) = ([tO cy w b x wc lw gw (if y ≤ co ∧ le ≤ fresh X ∧ smokes X = false ∧ bet ss sl (lost X) v then v else ss) (if y ≤ co ∧ le ≤ fresh X ∧ smokes X = false ∧ bet ss sl (lost X) v then lost X else sl) (if y ≤ co ∧ le ≤ fresh X ∧ smokes X = false ∧ bet ss sl (lost X) v then y else sc) sp] ++ (aS cy b (PR X) F1_14 N1_14 B1_14 O1_14 Sd1_14 Dv1_14 L1_14 (nI (RC X)) (b2i (RC X = 60)) (fresh X) (lost X) (b2i (smokes X = true)) ++ (pS cy x X))) := congrArg (fun z9 => [tO cy w b x wc lw gw (if y ≤ co ∧ le ≤ fresh X ∧ smokes X = false ∧ bet ss sl (lost X) v then v else ss) (if y ≤ co ∧ le ≤ fresh X ∧ smokes X = false ∧ bet ss sl (lost X) v then lost X else sl) z9 sp] ++ (aS cy b (PR X) F1_14 N1_14 B1_14 O1_14 Sd1_14 Dv1_14 L1_14 (nI (RC X)) (b2i (RC X = 60)) (fresh X) (lost X) (b2i (smokes X = true)) ++ (pS cy x X))) (show sc = (if y ≤ co ∧ le ≤ fresh X ∧ smokes X = false ∧ bet ss sl (lost X) v then y else sc) from by clear hx hb hml hown hr hlocks hw hsz hA hG hK hP1 hD1 hS1 hl0; grind)
        replace hP1 := (congrArg (fun z9 => va_P D vwCl z9 _) hq9).mp hP1
        replace hD1 := (congrArg (fun z9 => va_D _ z9) hq9).mp hD1
        clear hq9
        refine re_v (PR X, F1_14, N1_14, B1_14, O1_14, Sd1_14, Dv1_14, L1_14, nI (RC X), b2i (RC X = 60), fresh X, lost X, b2i (smokes X = true)) hx hb hr hlocks hP1 hD1 hS1 dX5_tryStop_68 ?_
        exact (trivial)
      · refine lv_aload_n hx hb dX5_tryStop_39 rfl (lv_at hl0 0 rfl) ?_
        refine lv_iload_n hx hb dX5_tryStop_40 rfl (lv_at hl0 1 rfl) ?_
        refine rV_i (wc := [tO cy w b x wc lw gw ss sl sc sp] ++ (aS cy b (PR X) F1_14 N1_14 B1_14 O1_14 Sd1_14 Dv1_14 L1_14 (nI (RC X)) (b2i (RC X = 60)) (fresh X) (lost X) (b2i (smokes X = true)))) (rest := []) hx hb hml hown hw hG hK hP1 hS1 hA hl0 kc_X5_isBetterStop kw_3_183 [.int v] (c_X5_isBetterStop l D cy G H1.size w b x wc lw gw ss sl sc sp (PR X) F1_14 N1_14 B1_14 O1_14 Sd1_14 Dv1_14 L1_14 (nI (RC X)) (b2i (RC X = 60)) (fresh X) (lost X) (b2i (smokes X = true)) v) [0, 1, 2, 3, 4, 5, 6, 7, 8, 9, 10, 11, 12, 13, 14, 15] rfl 0 rfl rfl rfl rfl rfl (Nat.le_of_ble_eq_true rfl) ⟨Nat.le_of_ble_eq_true rfl, Nat.le_of_ble_eq_true rfl⟩ dX5_tryStop_41 ⟨Nat.le_of_ble_eq_true rfl, Nat.le_of_ble_eq_true rfl⟩ (fun r_41 H2 locs2 hr_41 hP2 hS2 => ?_)
        have hD2 := hD1
        clear hP1 hD1 hS1 locs1 H1
        subst hr_41
        refine lb_eq (tgt := 68) hx hb dX5_tryStop_44 (by decide) (fun c_44 => ?_) (fun c_44 => ?_)
        · have hq9 : ([tO cy w b x wc lw gw ss sl sc sp] ++ (aS cy b (PR X) F1_14 N1_14 B1_14 O1_14 Sd1_14 Dv1_14 L1_14 (nI (RC X)) (b2i (RC X = 60)) (fresh X) (lost X) (b2i (smokes X = true)) ++ (pS cy x X))) = ([tO cy w b x wc lw gw (if y ≤ co ∧ le ≤ fresh X ∧ smokes X = false ∧ bet ss sl (lost X) v then v else ss) sl sc sp] ++ (aS cy b (PR X) F1_14 N1_14 B1_14 O1_14 Sd1_14 Dv1_14 L1_14 (nI (RC X)) (b2i (RC X = 60)) (fresh X) (lost X) (b2i (smokes X = true)) ++ (pS cy x X))) := congrArg (fun z9 => [tO cy w b x wc lw gw z9 sl sc sp] ++ (aS cy b (PR X) F1_14 N1_14 B1_14 O1_14 Sd1_14 Dv1_14 L1_14 (nI (RC X)) (b2i (RC X = 60)) (fresh X) (lost X) (b2i (smokes X = true)) ++ (pS cy x X))) (show ss = (if y ≤ co ∧ le ≤ fresh X ∧ smokes X = false ∧ bet ss sl (lost X) v then v else ss) from by clear hx hb hml hown hr hlocks hw hsz hA hG hK hP2 hD2 hS2 hl0; grind)
          replace hP2 := (congrArg (fun z9 => va_P D vwCl z9 _) hq9).mp hP2
          replace hD2 := (congrArg (fun z9 => va_D _ z9) hq9).mp hD2
          clear hq9
          have hq9 : ([tO cy w b x wc lw gw (if y ≤ co ∧ le ≤ fresh X ∧ smokes X = false ∧ bet ss sl (lost X) v then v else ss) sl sc sp] ++ (aS cy b (PR X) F1_14 N1_14 B1_14 O1_14 Sd1_14 Dv1_14 L1_14 (nI (RC X)) (b2i (RC X = 60)) (fresh X) (lost X) (b2i (smokes X = true)) ++ (pS cy x X))) = ([tO cy w b x wc lw gw (if y ≤ co ∧ le ≤ fresh X ∧ smokes X = false ∧ bet ss sl (lost X) v then v else ss) (if y ≤ co ∧ le ≤ fresh X ∧ smokes X = false ∧ bet ss sl (lost X) v then lost X else sl) sc sp] ++ (aS cy b (PR X) F1_14 N1_14 B1_14 O1_14 Sd1_14 Dv1_14 L1_14 (nI (RC X)) (b2i (RC X = 60)) (fresh X) (lost X) (b2i (smokes X = true)) ++ (pS cy x X))) := congrArg (fun z9 => [tO cy w b x wc lw gw (if y ≤ co ∧ le ≤ fresh X ∧ smokes X = false ∧ bet ss sl (lost X) v then v else ss) z9 sc sp] ++ (aS cy b (PR X) F1_14 N1_14 B1_14 O1_14 Sd1_14 Dv1_14 L1_14 (nI (RC X)) (b2i (RC X = 60)) (fresh X) (lost X) (b2i (smokes X = true)) ++ (pS cy x X))) (show sl = (if y ≤ co ∧ le ≤ fresh X ∧ smokes X = false ∧ bet ss sl (lost X) v then lost X else sl) from by clear hx hb hml hown hr hlocks hw hsz hA hG hK hP2 hD2 hS2 hl0; grind)
          replace hP2 := (congrArg (fun z9 => va_P D vwCl z9 _) hq9).mp hP2
          replace hD2 := (congrArg (fun z9 => va_D _ z9) hq9).mp hD2
          clear hq9
          have hq9 : ([tO cy w b x wc lw gw (if y ≤ co ∧ le ≤ fresh X ∧ smokes X = false ∧ bet ss sl (lost X) v then v else ss) (if y ≤ co ∧ le ≤ fresh X ∧ smokes X = false ∧ bet ss sl (lost X) v then lost X else sl) sc sp] ++ (aS cy b (PR X) F1_14 N1_14 B1_14 O1_14 Sd1_14 Dv1_14 L1_14 (nI (RC X)) (b2i (RC X = 60)) (fresh X) (lost X) (b2i (smokes X = true)) ++ (pS cy x X))) = ([tO cy w b x wc lw gw (if y ≤ co ∧ le ≤ fresh X ∧ smokes X = false ∧ bet ss sl (lost X) v then v else ss) (if y ≤ co ∧ le ≤ fresh X ∧ smokes X = false ∧ bet ss sl (lost X) v then lost X else sl) (if y ≤ co ∧ le ≤ fresh X ∧ smokes X = false ∧ bet ss sl (lost X) v then y else sc) sp] ++ (aS cy b (PR X) F1_14 N1_14 B1_14 O1_14 Sd1_14 Dv1_14 L1_14 (nI (RC X)) (b2i (RC X = 60)) (fresh X) (lost X) (b2i (smokes X = true)) ++ (pS cy x X))) := congrArg (fun z9 => [tO cy w b x wc lw gw (if y ≤ co ∧ le ≤ fresh X ∧ smokes X = false ∧ bet ss sl (lost X) v then v else ss) (if y ≤ co ∧ le ≤ fresh X ∧ smokes X = false ∧ bet ss sl (lost X) v then lost X else sl) z9 sp] ++ (aS cy b (PR X) F1_14 N1_14 B1_14 O1_14 Sd1_14 Dv1_14 L1_14 (nI (RC X)) (b2i (RC X = 60)) (fresh X) (lost X) (b2i (smokes X = true)) ++ (pS cy x X))) (show sc = (if y ≤ co ∧ le ≤ fresh X ∧ smokes X = false ∧ bet ss sl (lost X) v then y else sc) from by clear hx hb hml hown hr hlocks hw hsz hA hG hK hP2 hD2 hS2 hl0; grind)
          replace hP2 := (congrArg (fun z9 => va_P D vwCl z9 _) hq9).mp hP2
          replace hD2 := (congrArg (fun z9 => va_D _ z9) hq9).mp hD2
          clear hq9
          refine re_v (PR X, F1_14, N1_14, B1_14, O1_14, Sd1_14, Dv1_14, L1_14, nI (RC X), b2i (RC X = 60), fresh X, lost X, b2i (smokes X = true)) hx hb hr hlocks hP2 hD2 hS2 dX5_tryStop_68 ?_
          exact (trivial)
        · refine lv_aload_n hx hb dX5_tryStop_47 rfl (lv_at hl0 0 rfl) ?_
          refine lv_iload_n hx hb dX5_tryStop_48 rfl (lv_at hl0 1 rfl) ?_
          refine pt (D := D) (ci := 5) (v := .int v) (ty := .int) (C := RX5) (T := TX5) (N := 11) (ws' := [tO cy w b x wc lw gw v sl sc sp] ++ (aS cy b (PR X) F1_14 N1_14 B1_14 O1_14 Sd1_14 Dv1_14 L1_14 (nI (RC X)) (b2i (RC X = 60)) (fresh X) (lost X) (b2i (smokes X = true)) ++ (pS cy x X))) hx hb hw iX5 tyX5 tyX5_ok nmX5 hown hK hP2 hD2 hS2 0 rfl rfl 4 (by decide) kw_1_171 (fun _ h9 => h9) rfl (by decide +kernel) rfl rfl (Nat.le_of_ble_eq_true rfl) rfl dX5_tryStop_49 (fun H3 locs3 hP3 hD3 hS3 => ?_)
          clear hP2 hD2 hS2 locs2 H2
          refine lv_aload_n hx hb dX5_tryStop_52 rfl (lv_at hl0 0 rfl) ?_
          refine lv_aload_n hx hb dX5_tryStop_53 rfl (lv_at hl0 0 rfl) ?_
          refine va_get (D := D) (ci := 5) (v := .ref (b 0)) (C := RX5) (T := TX5) (N := 11) hx hb hw iX5 hown hK hP3 0 rfl rfl 0 (by decide) (hw _ kw_1_163) (fun _ h9 => h9) rfl dX5_tryStop_54 ?_
          refine va_get (D := D) (ci := 0) (v := .int (lost X)) (C := RX0) (T := TX0) (N := 13) hx hb hw iX0 hown hK hP3 1 rfl rfl 5 (by decide) (hw _ kw_1_115) (fun _ h9 => h9) rfl dX5_tryStop_57 ?_
          refine pt (D := D) (ci := 5) (v := .int (lost X)) (ty := .int) (C := RX5) (T := TX5) (N := 11) (ws' := [tO cy w b x wc lw gw v (lost X) sc sp] ++ (aS cy b (PR X) F1_14 N1_14 B1_14 O1_14 Sd1_14 Dv1_14 L1_14 (nI (RC X)) (b2i (RC X = 60)) (fresh X) (lost X) (b2i (smokes X = true)) ++ (pS cy x X))) hx hb hw iX5 tyX5 tyX5_ok nmX5 hown hK hP3 hD3 hS3 0 rfl rfl 5 (by decide) kw_1_173 (fun _ h9 => h9) rfl (by decide +kernel) rfl rfl (Nat.le_of_ble_eq_true rfl) rfl dX5_tryStop_60 (fun H4 locs4 hP4 hD4 hS4 => ?_)
          clear hP3 hD3 hS3 locs3 H3
          refine lv_aload_n hx hb dX5_tryStop_63 rfl (lv_at hl0 0 rfl) ?_
          refine lv_iload_n hx hb dX5_tryStop_64 rfl (lv_at hl0 2 rfl) ?_
          refine pt (D := D) (ci := 5) (v := .int y) (ty := .int) (C := RX5) (T := TX5) (N := 11) (ws' := [tO cy w b x wc lw gw v (lost X) y sp] ++ (aS cy b (PR X) F1_14 N1_14 B1_14 O1_14 Sd1_14 Dv1_14 L1_14 (nI (RC X)) (b2i (RC X = 60)) (fresh X) (lost X) (b2i (smokes X = true)) ++ (pS cy x X))) hx hb hw iX5 tyX5 tyX5_ok nmX5 hown hK hP4 hD4 hS4 0 rfl rfl 6 (by decide) kw_1_175 (fun _ h9 => h9) rfl (by decide +kernel) rfl rfl (Nat.le_of_ble_eq_true rfl) rfl dX5_tryStop_65 (fun H5 locs5 hP5 hD5 hS5 => ?_)
          clear hP4 hD4 hS4 locs4 H4
          have hq9 : ([tO cy w b x wc lw gw v (lost X) y sp] ++ (aS cy b (PR X) F1_14 N1_14 B1_14 O1_14 Sd1_14 Dv1_14 L1_14 (nI (RC X)) (b2i (RC X = 60)) (fresh X) (lost X) (b2i (smokes X = true)) ++ (pS cy x X))) = ([tO cy w b x wc lw gw (if y ≤ co ∧ le ≤ fresh X ∧ smokes X = false ∧ bet ss sl (lost X) v then v else ss) (lost X) y sp] ++ (aS cy b (PR X) F1_14 N1_14 B1_14 O1_14 Sd1_14 Dv1_14 L1_14 (nI (RC X)) (b2i (RC X = 60)) (fresh X) (lost X) (b2i (smokes X = true)) ++ (pS cy x X))) := congrArg (fun z9 => [tO cy w b x wc lw gw z9 (lost X) y sp] ++ (aS cy b (PR X) F1_14 N1_14 B1_14 O1_14 Sd1_14 Dv1_14 L1_14 (nI (RC X)) (b2i (RC X = 60)) (fresh X) (lost X) (b2i (smokes X = true)) ++ (pS cy x X))) (show v = (if y ≤ co ∧ le ≤ fresh X ∧ smokes X = false ∧ bet ss sl (lost X) v then v else ss) from by clear hx hb hml hown hr hlocks hw hsz hA hG hK hP5 hD5 hS5 hl0; grind)
          replace hP5 := (congrArg (fun z9 => va_P D vwCl z9 _) hq9).mp hP5
          replace hD5 := (congrArg (fun z9 => va_D _ z9) hq9).mp hD5
          clear hq9
          have hq9 : ([tO cy w b x wc lw gw (if y ≤ co ∧ le ≤ fresh X ∧ smokes X = false ∧ bet ss sl (lost X) v then v else ss) (lost X) y sp] ++ (aS cy b (PR X) F1_14 N1_14 B1_14 O1_14 Sd1_14 Dv1_14 L1_14 (nI (RC X)) (b2i (RC X = 60)) (fresh X) (lost X) (b2i (smokes X = true)) ++ (pS cy x X))) = ([tO cy w b x wc lw gw (if y ≤ co ∧ le ≤ fresh X ∧ smokes X = false ∧ bet ss sl (lost X) v then v else ss) (if y ≤ co ∧ le ≤ fresh X ∧ smokes X = false ∧ bet ss sl (lost X) v then lost X else sl) y sp] ++ (aS cy b (PR X) F1_14 N1_14 B1_14 O1_14 Sd1_14 Dv1_14 L1_14 (nI (RC X)) (b2i (RC X = 60)) (fresh X) (lost X) (b2i (smokes X = true)) ++ (pS cy x X))) := congrArg (fun z9 => [tO cy w b x wc lw gw (if y ≤ co ∧ le ≤ fresh X ∧ smokes X = false ∧ bet ss sl (lost X) v then v else ss) z9 y sp] ++ (aS cy b (PR X) F1_14 N1_14 B1_14 O1_14 Sd1_14 Dv1_14 L1_14 (nI (RC X)) (b2i (RC X = 60)) (fresh X) (lost X) (b2i (smokes X = true)) ++ (pS cy x X))) (show (lost X) = (if y ≤ co ∧ le ≤ fresh X ∧ smokes X = false ∧ bet ss sl (lost X) v then lost X else sl) from by clear hx hb hml hown hr hlocks hw hsz hA hG hK hP5 hD5 hS5 hl0; grind)
          replace hP5 := (congrArg (fun z9 => va_P D vwCl z9 _) hq9).mp hP5
          replace hD5 := (congrArg (fun z9 => va_D _ z9) hq9).mp hD5
          clear hq9
          have hq9 : ([tO cy w b x wc lw gw (if y ≤ co ∧ le ≤ fresh X ∧ smokes X = false ∧ bet ss sl (lost X) v then v else ss) (if y ≤ co ∧ le ≤ fresh X ∧ smokes X = false ∧ bet ss sl (lost X) v then lost X else sl) y sp] ++ (aS cy b (PR X) F1_14 N1_14 B1_14 O1_14 Sd1_14 Dv1_14 L1_14 (nI (RC X)) (b2i (RC X = 60)) (fresh X) (lost X) (b2i (smokes X = true)) ++ (pS cy x X))) = ([tO cy w b x wc lw gw (if y ≤ co ∧ le ≤ fresh X ∧ smokes X = false ∧ bet ss sl (lost X) v then v else ss) (if y ≤ co ∧ le ≤ fresh X ∧ smokes X = false ∧ bet ss sl (lost X) v then lost X else sl) (if y ≤ co ∧ le ≤ fresh X ∧ smokes X = false ∧ bet ss sl (lost X) v then y else sc) sp] ++ (aS cy b (PR X) F1_14 N1_14 B1_14 O1_14 Sd1_14 Dv1_14 L1_14 (nI (RC X)) (b2i (RC X = 60)) (fresh X) (lost X) (b2i (smokes X = true)) ++ (pS cy x X))) := congrArg (fun z9 => [tO cy w b x wc lw gw (if y ≤ co ∧ le ≤ fresh X ∧ smokes X = false ∧ bet ss sl (lost X) v then v else ss) (if y ≤ co ∧ le ≤ fresh X ∧ smokes X = false ∧ bet ss sl (lost X) v then lost X else sl) z9 sp] ++ (aS cy b (PR X) F1_14 N1_14 B1_14 O1_14 Sd1_14 Dv1_14 L1_14 (nI (RC X)) (b2i (RC X = 60)) (fresh X) (lost X) (b2i (smokes X = true)) ++ (pS cy x X))) (show y = (if y ≤ co ∧ le ≤ fresh X ∧ smokes X = false ∧ bet ss sl (lost X) v then y else sc) from by clear hx hb hml hown hr hlocks hw hsz hA hG hK hP5 hD5 hS5 hl0; grind)
          replace hP5 := (congrArg (fun z9 => va_P D vwCl z9 _) hq9).mp hP5
          replace hD5 := (congrArg (fun z9 => va_D _ z9) hq9).mp hD5
          clear hq9
          refine re_v (PR X, F1_14, N1_14, B1_14, O1_14, Sd1_14, Dv1_14, L1_14, nI (RC X), b2i (RC X = 60), fresh X, lost X, b2i (smokes X = true)) hx hb hr hlocks hP5 hD5 hS5 dX5_tryStop_68 ?_
          exact (trivial)
  · have hq9 : ([tO cy w b x wc lw gw ss sl sc sp] ++ (aS cy b P F N B O Sd Dv L rc re fr lo sm ++ (pS cy x X))) = ([tO cy w b x wc lw gw (if y ≤ co ∧ le ≤ fresh X ∧ smokes X = false ∧ bet ss sl (lost X) v then v else ss) sl sc sp] ++ (aS cy b P F N B O Sd Dv L rc re fr lo sm ++ (pS cy x X))) := congrArg (fun z9 => [tO cy w b x wc lw gw z9 sl sc sp] ++ (aS cy b P F N B O Sd Dv L rc re fr lo sm ++ (pS cy x X))) (show ss = (if y ≤ co ∧ le ≤ fresh X ∧ smokes X = false ∧ bet ss sl (lost X) v then v else ss) from by clear hx hb hml hown hr hlocks hw hsz hA hG hK hP0 hD0 hS0 hl0; grind)
    replace hP0 := (congrArg (fun z9 => va_P D vwCl z9 _) hq9).mp hP0
    replace hD0 := (congrArg (fun z9 => va_D _ z9) hq9).mp hD0
    clear hq9
    have hq9 : ([tO cy w b x wc lw gw (if y ≤ co ∧ le ≤ fresh X ∧ smokes X = false ∧ bet ss sl (lost X) v then v else ss) sl sc sp] ++ (aS cy b P F N B O Sd Dv L rc re fr lo sm ++ (pS cy x X))) = ([tO cy w b x wc lw gw (if y ≤ co ∧ le ≤ fresh X ∧ smokes X = false ∧ bet ss sl (lost X) v then v else ss) (if y ≤ co ∧ le ≤ fresh X ∧ smokes X = false ∧ bet ss sl (lost X) v then lost X else sl) sc sp] ++ (aS cy b P F N B O Sd Dv L rc re fr lo sm ++ (pS cy x X))) := congrArg (fun z9 => [tO cy w b x wc lw gw (if y ≤ co ∧ le ≤ fresh X ∧ smokes X = false ∧ bet ss sl (lost X) v then v else ss) z9 sc sp] ++ (aS cy b P F N B O Sd Dv L rc re fr lo sm ++ (pS cy x X))) (show sl = (if y ≤ co ∧ le ≤ fresh X ∧ smokes X = false ∧ bet ss sl (lost X) v then lost X else sl) from by clear hx hb hml hown hr hlocks hw hsz hA hG hK hP0 hD0 hS0 hl0; grind)
    replace hP0 := (congrArg (fun z9 => va_P D vwCl z9 _) hq9).mp hP0
    replace hD0 := (congrArg (fun z9 => va_D _ z9) hq9).mp hD0
    clear hq9
    have hq9 : ([tO cy w b x wc lw gw (if y ≤ co ∧ le ≤ fresh X ∧ smokes X = false ∧ bet ss sl (lost X) v then v else ss) (if y ≤ co ∧ le ≤ fresh X ∧ smokes X = false ∧ bet ss sl (lost X) v then lost X else sl) sc sp] ++ (aS cy b P F N B O Sd Dv L rc re fr lo sm ++ (pS cy x X))) = ([tO cy w b x wc lw gw (if y ≤ co ∧ le ≤ fresh X ∧ smokes X = false ∧ bet ss sl (lost X) v then v else ss) (if y ≤ co ∧ le ≤ fresh X ∧ smokes X = false ∧ bet ss sl (lost X) v then lost X else sl) (if y ≤ co ∧ le ≤ fresh X ∧ smokes X = false ∧ bet ss sl (lost X) v then y else sc) sp] ++ (aS cy b P F N B O Sd Dv L rc re fr lo sm ++ (pS cy x X))) := congrArg (fun z9 => [tO cy w b x wc lw gw (if y ≤ co ∧ le ≤ fresh X ∧ smokes X = false ∧ bet ss sl (lost X) v then v else ss) (if y ≤ co ∧ le ≤ fresh X ∧ smokes X = false ∧ bet ss sl (lost X) v then lost X else sl) z9 sp] ++ (aS cy b P F N B O Sd Dv L rc re fr lo sm ++ (pS cy x X))) (show sc = (if y ≤ co ∧ le ≤ fresh X ∧ smokes X = false ∧ bet ss sl (lost X) v then y else sc) from by clear hx hb hml hown hr hlocks hw hsz hA hG hK hP0 hD0 hS0 hl0; grind)
    replace hP0 := (congrArg (fun z9 => va_P D vwCl z9 _) hq9).mp hP0
    replace hD0 := (congrArg (fun z9 => va_D _ z9) hq9).mp hD0
    clear hq9
    refine re_v (P, F, N, B, O, Sd, Dv, L, rc, re, fr, lo, sm) hx hb hr hlocks hP0 hD0 hS0 dX5_tryStop_5 ?_
    exact (trivial)

theorem kc_X5_findStop : kV yX5_findStop cX5_findStop 8 (some .boolean) 4 := ⟨kw_3_170, kw_3_171, kw_1_4, kw_3_172, by decide, by decide, by decide +kernel⟩
set_option maxHeartbeats 4000000 in
set_option maxRecDepth 100000 in
theorem c_X5_findStop (l : Launch) (D : va_G) (cy : Nat → ClassId) (G : Nat → Nat) (sz : Nat) (w : Nat → Nat) (b : Nat → Nat) (x : Nat → Nat) (wc : Int32) (lw : Int32) (gw : Int32) (ss : Int32) (sl : Int32) (sc : Int32) (sp : Int32) (P : Nat → Int32) (F : Nat → Int32) (N : Nat → Int32) (B : Nat → Int32) (O : Nat → Int32) (Sd : Nat → Int32) (Dv : Nat → Int32) (L : Nat → Nat → Int32) (rc : Int32) (re : Int32) (fr : Int32) (lo : Int32) (sm : Int32) (X : Nat → Int32) (a : Nat → Nat) (S : Nat → Int32) (sn : Nat) (np : Nat) (co : Int32) (le : Int32) (hX : can X) (wf : wf S) (hm : sn < 2 ^ 20) (hp : pop sn ≤ 10) (hn : np = 2 ^ pop sn) (hn2 : np ≤ 1024) (ho : opn S sn (gcN S)) : Met l yX5_findStop (wm yX5_findStop cX5_findStop 8 (some .boolean)) { frames := 6, cells := 0, slots := 0, locals := 133 } (va_Pc [.ref (w 0), .ref (a 0), .int (nI sn), .int co, .int le] (pr D (TY cy) G ([tO cy w b x wc lw gw ss sl sc sp] ++ (aS cy b P F N B O Sd Dv L rc re fr lo sm ++ (pS cy x X ++ (pS cy a S)))) sz)) (va_Qi (fun (r : Int32) (u : (Nat → Int32) × (Nat → Int32) × (Nat → Int32) × (Nat → Int32) × (Nat → Int32) × (Nat → Int32) × (Nat → Int32) × (Nat → Nat → Int32) × Int32 × Int32 × Int32 × Int32 × Int32 × (Nat → Int32) × Int32 × Int32) => (r = b2i (¬ spB S sn co le (np) < 0)) ∧ (can u.2.2.2.2.2.2.2.2.2.2.2.2.2.1) ∧ (¬ spB S sn co le (np) < 0 → u.2.2.2.2.2.2.2.2.2.2.2.2.2.2.1 = spL S sn co le (np) ∧ u.2.2.2.2.2.2.2.2.2.2.2.2.2.2.2 = cst S (bstN (spB S sn co le (np))) (gcN S))) (fun (u : (Nat → Int32) × (Nat → Int32) × (Nat → Int32) × (Nat → Int32) × (Nat → Int32) × (Nat → Int32) × (Nat → Int32) × (Nat → Nat → Int32) × Int32 × Int32 × Int32 × Int32 × Int32 × (Nat → Int32) × Int32 × Int32) t => po D (va_A ([tO cy w b x wc lw gw ss sl sc sp] ++ (aS cy b P F N B O Sd Dv L rc re fr lo sm ++ (pS cy x X ++ (pS cy a S)))) sz) ([tO cy w b x wc lw gw (spB S sn co le (np)) u.2.2.2.2.2.2.2.2.2.2.2.2.2.2.1 u.2.2.2.2.2.2.2.2.2.2.2.2.2.2.2 sp] ++ (aS cy b u.1 u.2.1 u.2.2.1 u.2.2.2.1 u.2.2.2.2.1 u.2.2.2.2.2.1 u.2.2.2.2.2.2.1 u.2.2.2.2.2.2.2.1 u.2.2.2.2.2.2.2.2.1 u.2.2.2.2.2.2.2.2.2.1 u.2.2.2.2.2.2.2.2.2.2.1 u.2.2.2.2.2.2.2.2.2.2.2.1 u.2.2.2.2.2.2.2.2.2.2.2.2.1 ++ (pS cy x u.2.2.2.2.2.2.2.2.2.2.2.2.2.1 ++ (pS cy a S)))) t) (va_A ([tO cy w b x wc lw gw ss sl sc sp] ++ (aS cy b P F N B O Sd Dv L rc re fr lo sm ++ (pS cy x X ++ (pS cy a S)))) sz)) 0 0 (va_A ([tO cy w b x wc lw gw ss sl sc sp] ++ (aS cy b P F N B O Sd Dv L rc re fr lo sm ++ (pS cy x X ++ (pS cy a S)))) sz) := by
  refine mk_rw (by decide) RX5 rfl (Nat.le_of_ble_eq_true rfl) [(0, .ref (w 0)), (1, .ref (a 0)), (2, .int (nI sn)), (3, .int co), (4, .int le)] rfl ?_
  intro p e s m below meth c hx hb hml hown hr hlocks hin hw hsz hA hG hK H0 locs0 hP0 hD0 hS0 ls0 hl0
  clear hin
  have hg20 := wf_g20 wf
  have hr6 := wf_r6 wf
  have hn3 : np = 2 ^ popc 32 sn := hn
  refine lv_aload_n hx hb dX5_findStop_0 rfl (lv_at hl0 0 rfl) ?_
  refine va_get (D := D) (ci := 5) (v := .ref (x 0)) (C := RX5) (T := TX5) (N := 11) hx hb hw iX5 hown hK hP0 0 rfl rfl 10 (by decide) (hw _ kw_1_183) (fun _ h9 => h9) rfl dX5_findStop_1 ?_
  refine lv_aload_n hx hb dX5_findStop_4 rfl (lv_at hl0 1 rfl) ?_
  refine cV_v (wc := pS cy x X ++ (pS cy a S)) (wr := [tO cy w b x wc lw gw ss sl sc sp] ++ (aS cy b P F N B O Sd Dv L rc re fr lo sm)) (rest := []) hx hb hml hown hw hG hK hP0 hD0 hS0 hA hl0 kc_X1_takeFrom kw_3_144 [.ref (a 0)] (c_X1_takeFrom l D cy G H0.size x X a S hX (wf_can wf)) [16, 17, 18, 19, 20, 21, 22, 23, 24, 25, 26, 27, 28, 29, 30, 31, 32, 33, 34, 35] [0, 1, 2, 3, 4, 5, 6, 7, 8, 9, 10, 11, 12, 13, 14, 15] rfl rfl rfl rfl rfl 0 rfl rfl rfl rfl rfl (Nat.le_of_ble_eq_true rfl) ⟨Nat.le_of_ble_eq_true rfl, Nat.le_of_ble_eq_true rfl⟩ dX5_findStop_5 ⟨Nat.le_of_ble_eq_true rfl, Nat.le_of_ble_eq_true rfl⟩ (fun u9 H1 locs1 hu9 hP1 hD1 hS1 => ?_)
  clear hP0 hD0 hS0 locs0 H0
  replace hP1 : va_P D vwCl ([tO cy w b x wc lw gw ss sl sc sp] ++ (aS cy b P F N B O Sd Dv L rc re fr lo sm ++ (pS cy x S ++ (pS cy a S)))) H1 := hP1
  replace hD1 : va_D (va_A _ sz) ([tO cy w b x wc lw gw ss sl sc sp] ++ (aS cy b P F N B O Sd Dv L rc re fr lo sm ++ (pS cy x S ++ (pS cy a S)))) := hD1
  refine lv_aload_n hx hb dX5_findStop_8 rfl (lv_at hl0 0 rfl) ?_
  refine lv_iconst (v := (-1)) hx hb dX5_findStop_9 (by decide) ?_
  refine pt (D := D) (ci := 5) (v := .int (-1)) (ty := .int) (C := RX5) (T := TX5) (N := 11) (ws' := [tO cy w b x wc lw gw (-1) sl sc sp] ++ (aS cy b P F N B O Sd Dv L rc re fr lo sm ++ (pS cy x S ++ (pS cy a S)))) hx hb hw iX5 tyX5 tyX5_ok nmX5 hown hK hP1 hD1 hS1 0 rfl rfl 4 (by decide) kw_1_171 (fun _ h9 => h9) rfl (by decide +kernel) rfl rfl (Nat.le_of_ble_eq_true rfl) rfl dX5_findStop_10 (fun H2 locs2 hP2 hD2 hS2 => ?_)
  clear hP1 hD1 hS1 locs1 H1
  refine lv_iconst (v := 1) hx hb dX5_findStop_13 (by decide) ?_
  refine lv_iload_n hx hb dX5_findStop_14 rfl (lv_at hl0 2 rfl) ?_
  refine rT_i (wc := []) (rest := [.int 1]) hx hb hml hown hw hG hK hP2 hS2 hA hl0 kc_J6_bitCount_0f7a4 kw_3_173 [.int (nI sn)] (c_J6_bitCount_0f7a4 l D cy G H2.size (nI sn)) [] rfl rfl rfl (Nat.le_of_ble_eq_true rfl) ⟨Nat.le_of_ble_eq_true rfl, Nat.le_of_ble_eq_true rfl⟩ dX5_findStop_15 ⟨Nat.le_of_ble_eq_true rfl, Nat.le_of_ble_eq_true rfl⟩ (fun r_15 H3 locs3 hr_15 hP3 hS3 => ?_)
  have hD3 := hD2
  clear hP2 hD2 hS2 locs2 H2
  subst hr_15
  refine tp (show (nI (popI (nI sn))) = nI (pop sn) from congrArg nI (popI_n (by omega))) ?_
  refine lv_ishl hx hb dX5_findStop_18 ?_
  refine tp (show (1 <<< ((nI (pop sn)) &&& 31)) = nI np from (shl_1 (by omega)).trans (congrArg nI hn.symm)) ?_
  refine lv_istore (lv' := [(5, .int (nI np)), (0, .ref (w 0)), (1, .ref (a 0)), (2, .int (nI sn)), (3, .int co), (4, .int le)]) hx hb dX5_findStop_19 hl0 (by decide) rfl (fun ls1 hl1 => ?_)
  clear hl0 ls0
  refine lv_iconst (v := 0) hx hb dX5_findStop_21 (by decide) ?_
  refine lv_istore (lv' := [(6, .int 0), (5, .int (nI np)), (0, .ref (w 0)), (1, .ref (a 0)), (2, .int (nI sn)), (3, .int co), (4, .int le)]) hx hb dX5_findStop_22 hl1 (by decide) rfl (fun ls2 hl2 => ?_)
  clear hl1 ls1
  refine lv_iconst (v := 0) hx hb dX5_findStop_24 (by decide) ?_
  refine lv_istore (lv' := [(7, .int 0), (6, .int 0), (5, .int (nI np)), (0, .ref (w 0)), (1, .ref (a 0)), (2, .int (nI sn)), (3, .int co), (4, .int le)]) hx hb dX5_findStop_25 hl2 (by decide) rfl (fun ls3 hl3 => ?_)
  clear hl2 ls2
  have hq9 : ([tO cy w b x wc lw gw (-1) sl sc sp] ++ (aS cy b P F N B O Sd Dv L rc re fr lo sm ++ (pS cy x S ++ (pS cy a S)))) = ([tO cy w b x wc lw gw (spB S sn co le (0)) sl sc sp] ++ (aS cy b P F N B O Sd Dv L rc re fr lo sm ++ (pS cy x S ++ (pS cy a S)))) := congrArg (fun z9 => [tO cy w b x wc lw gw z9 sl sc sp] ++ (aS cy b P F N B O Sd Dv L rc re fr lo sm ++ (pS cy x S ++ (pS cy a S)))) (show (-1) = (spB S sn co le (0)) from rfl)
  replace hP3 := (congrArg (fun z9 => va_P D vwCl z9 _) hq9).mp hP3
  replace hD3 := (congrArg (fun z9 => va_D _ z9) hq9).mp hD3
  clear hq9
  refine wlp (ι := Nat × Int32 × Int32 × (Nat → Int32) × (Nat → Int32) × (Nat → Int32) × (Nat → Int32) × (Nat → Int32) × (Nat → Int32) × (Nat → Int32) × (Nat → Nat → Int32) × Int32 × Int32 × Int32 × Int32 × Int32 × (Nat → Int32)) (nL := 8) (fun x9 => (x9.1 ≤ np) ∧ (x9.2.2.2.2.2.2.2.2.2.2.2.2.2.2.2.2 = S ∨ ∃ q9, x9.2.2.2.2.2.2.2.2.2.2.2.2.2.2.2.2 = sjS S sn q9 (gcN S)) ∧ (¬ spB S sn co le (x9.1) < 0 → x9.2.1 = spL S sn co le (x9.1) ∧ x9.2.2.1 = cst S (bstN (spB S sn co le (x9.1))) (gcN S))) (fun x9 => [tO cy w b x wc lw gw (spB S sn co le (x9.1)) x9.2.1 x9.2.2.1 sp] ++ (aS cy b x9.2.2.2.1 x9.2.2.2.2.1 x9.2.2.2.2.2.1 x9.2.2.2.2.2.2.1 x9.2.2.2.2.2.2.2.1 x9.2.2.2.2.2.2.2.2.1 x9.2.2.2.2.2.2.2.2.2.1 x9.2.2.2.2.2.2.2.2.2.2.1 x9.2.2.2.2.2.2.2.2.2.2.2.1 x9.2.2.2.2.2.2.2.2.2.2.2.2.1 x9.2.2.2.2.2.2.2.2.2.2.2.2.2.1 x9.2.2.2.2.2.2.2.2.2.2.2.2.2.2.1 x9.2.2.2.2.2.2.2.2.2.2.2.2.2.2.2.1 ++ (pS cy x x9.2.2.2.2.2.2.2.2.2.2.2.2.2.2.2.2 ++ (pS cy a S)))) (fun x9 => [(7, .int (nI x9.1)), (6, .int (sqI sn x9.1)), (5, .int (nI np)), (0, .ref (w 0)), (1, .ref (a 0)), (2, .int (nI sn)), (3, .int co), (4, .int le)]) (fun x9 => []) (fun x9 => np - x9.1) 27 ?_ (0, sl, sc, P, F, N, B, O, Sd, Dv, L, rc, re, fr, lo, sm, S) (⟨Nat.zero_le _, Or.inl rfl, fun q9 => absurd (by decide : (-1 : Int32) < 0) q9⟩) rfl hP3 hD3 hS3 (lv_sub hl3 [0, 1, 2, 3, 4, 5, 6, 7] rfl)
  clear hP3 hD3 hS3 locs3 H3 hl3 ls3
  intro x9 hI ih_27 H4 locs4 ls4 hP4 hD4 hS4 hl4
  obtain ⟨k, sl1, sc1, P1, F1, N1, B1, O1, Sd1, Dv1, L1, rc1, re1, fr1, lo1, sm1, X1⟩ := x9
  obtain ⟨hk, hXS, hsl⟩ := hI
  replace hk : k ≤ np := hk
  replace hXS : X1 = S ∨ ∃ q9, X1 = sjS S sn q9 (gcN S) := hXS
  replace hsl : ¬ spB S sn co le (k) < 0 → sl1 = spL S sn co le (k) ∧ sc1 = cst S (bstN (spB S sn co le (k))) (gcN S) := hsl
  replace hP4 : va_P D vwCl ([tO cy w b x wc lw gw (spB S sn co le (k)) sl1 sc1 sp] ++ (aS cy b P1 F1 N1 B1 O1 Sd1 Dv1 L1 rc1 re1 fr1 lo1 sm1 ++ (pS cy x X1 ++ (pS cy a S)))) H4 := hP4
  replace hD4 : va_D (va_A _ sz) ([tO cy w b x wc lw gw (spB S sn co le (k)) sl1 sc1 sp] ++ (aS cy b P1 F1 N1 B1 O1 Sd1 Dv1 L1 rc1 re1 fr1 lo1 sm1 ++ (pS cy x X1 ++ (pS cy a S)))) := hD4
  replace hl4 : lv_has ls4 8 [(7, .int (nI k)), (6, .int (sqI sn k)), (5, .int (nI np)), (0, .ref (w 0)), (1, .ref (a 0)), (2, .int (nI sn)), (3, .int co), (4, .int le)] := hl4
  show W p l e _ s m _ below meth c _ _ _ _ _ (F0 m 27 ls4 [])
  refine lv_iload hx hb dX5_findStop_27 (lv_at hl4 0 rfl) ?_
  refine lv_iload hx hb dX5_findStop_29 (lv_at hl4 2 rfl) ?_
  refine ln_ge (tgt := 64) k np rfl rfl (by omega) (by omega) hx hb dX5_findStop_31 (by decide) (fun c_31 => ?_) (fun c_31 => ?_)
  · obtain rfl : np = k := (by omega)
    have hX1 := wf_can (tri wf hXS).1
    refine lv_aload_n hx hb dX5_findStop_64 rfl (lv_at hl4 3 rfl) ?_
    refine va_get (D := D) (ci := 5) (v := .int (spB S sn co le (np))) (C := RX5) (T := TX5) (N := 11) hx hb hw iX5 hown hK hP4 0 rfl rfl 4 (by decide) (hw _ kw_1_171) (fun _ h9 => h9) rfl dX5_findStop_65 ?_
    refine lv_if_lt (tgt := 75) hx hb dX5_findStop_68 (by decide) (fun c_68 => ?_) (fun c_68 => ?_)
    · refine lv_iconst (v := 0) hx hb dX5_findStop_75 (by decide) ?_
      refine re_z (P1, F1, N1, B1, O1, Sd1, Dv1, L1, rc1, re1, fr1, lo1, sm1, X1, sl1, sc1) hx hb hr hlocks hP4 hD4 hS4 dX5_findStop_76 rfl ?_
      exact (⟨(b2i_f (fun z9 => z9 c_68)).symm, hX1, hsl⟩)
    · refine lv_iconst (v := 1) hx hb dX5_findStop_71 (by decide) ?_
      refine lv_goto (tgt := 76) hx hb dX5_findStop_72 (by decide) ?_
      refine re_z (P1, F1, N1, B1, O1, Sd1, Dv1, L1, rc1, re1, fr1, lo1, sm1, X1, sl1, sc1) hx hb hr hlocks hP4 hD4 hS4 dX5_findStop_76 rfl ?_
      exact (⟨(b2i_t c_68).symm, hX1, hsl⟩)
  · obtain ⟨dk, edk⟩ : ∃ z9, z9 = dep 32 sn k := ⟨_, rfl⟩
    have hsq : sqI sn k = nI dk := (sq_dep (by omega) k (by omega)).trans (congrArg nI edk.symm)
    have hq9 : nI dk = sqI sn k := hsq.symm
    replace hl4 : lv_has ls4 8 [(7, .int (nI k)), (6, .int (nI dk)), (5, .int (nI np)), (0, .ref (w 0)), (1, .ref (a 0)), (2, .int (nI sn)), (3, .int co), (4, .int le)] := (congrArg (fun z9 => lv_has ls4 8 [(7, .int (nI k)), (6, .int z9), (5, .int (nI np)), (0, .ref (w 0)), (1, .ref (a 0)), (2, .int (nI sn)), (3, .int co), (4, .int le)]) hq9).mpr hl4
    clear hq9
    have htr := tri wf hXS
    have hdl := dep_le 32 sn k (by omega)
    have hdq := dep_sub (m := sn) (by omega) k
    have hws := shS_wf wf (v := 1) (Or.inr rfl) (dep 32 sn k) (gcN S) (wf_g20 wf)
    have hsp := sp_s (k := k) (co := co) (le := le) (by omega) hsl
    rw [← edk] at hsp hdl hdq hws
    clear edk
    refine lv_aload_n hx hb dX5_findStop_34 rfl (lv_at hl4 3 rfl) ?_
    refine lv_iload hx hb dX5_findStop_35 (lv_at hl4 1 rfl) ?_
    refine lv_aload_n hx hb dX5_findStop_37 rfl (lv_at hl4 3 rfl) ?_
    refine lv_iload_n hx hb dX5_findStop_38 rfl (lv_at hl4 5 rfl) ?_
    refine lv_iload hx hb dX5_findStop_39 (lv_at hl4 1 rfl) ?_
    refine cV_i (wc := [tO cy w b x wc lw gw (spB S sn co le (k)) sl1 sc1 sp] ++ (pS cy x X1)) (wr := aS cy b P1 F1 N1 B1 O1 Sd1 Dv1 L1 rc1 re1 fr1 lo1 sm1 ++ (pS cy a S)) (rest := [.int (nI dk), .ref (w 0)]) hx hb hml hown hw hG hK hP4 hD4 hS4 hA hl4 kc_X5_shutJust kw_3_174 [.int (nI sn), .int (nI dk)] (c_X5_shutJust l D cy G H4.size w b x wc lw gw (spB S sn co le (k)) sl1 sc1 sp X1 sn dk htr.1 (by omega) (by omega)) [0, 16, 17, 18, 19, 20, 21, 22, 23, 24, 25] [1, 2, 3, 4, 5, 6, 7, 8, 9, 10, 11, 12, 13, 14, 15, 26, 27, 28, 29, 30, 31, 32, 33, 34, 35] rfl rfl rfl rfl rfl 0 rfl rfl rfl rfl rfl (Nat.le_of_ble_eq_true rfl) ⟨Nat.le_of_ble_eq_true rfl, Nat.le_of_ble_eq_true rfl⟩ dX5_findStop_41 ⟨Nat.le_of_ble_eq_true rfl, Nat.le_of_ble_eq_true rfl⟩ (fun r_41 u9 H5 locs5 hu9 hP5 hD5 hS5 => ?_)
    clear hP4 hD4 hS4 locs4 H4
    have hr_41 := hu9
    replace hP5 : va_P D vwCl (aS cy b P1 F1 N1 B1 O1 Sd1 Dv1 L1 rc1 re1 fr1 lo1 sm1 ++ (pS cy a S ++ ([tO cy w b x wc lw gw (spB S sn co le (k)) sl1 sc1 sp] ++ (pS cy x (sjS X1 sn dk (gcN X1)))))) H5 := hP5
    replace hD5 : va_D (va_A _ sz) (aS cy b P1 F1 N1 B1 O1 Sd1 Dv1 L1 rc1 re1 fr1 lo1 sm1 ++ (pS cy a S ++ ([tO cy w b x wc lw gw (spB S sn co le (k)) sl1 sc1 sp] ++ (pS cy x (sjS X1 sn dk (gcN X1)))))) := hD5
    replace hP5 := hP5.sub (ws' := [tO cy w b x wc lw gw (spB S sn co le (k)) sl1 sc1 sp] ++ (aS cy b P1 F1 N1 B1 O1 Sd1 Dv1 L1 rc1 re1 fr1 lo1 sm1 ++ (pS cy x (sjS X1 sn dk (gcN X1)) ++ (pS cy a S)))) [25, 0, 1, 2, 3, 4, 5, 6, 7, 8, 9, 10, 11, 12, 13, 14, 26, 27, 28, 29, 30, 31, 32, 33, 34, 35, 15, 16, 17, 18, 19, 20, 21, 22, 23, 24] rfl
    replace hD5 := hD5.sub (ws' := [tO cy w b x wc lw gw (spB S sn co le (k)) sl1 sc1 sp] ++ (aS cy b P1 F1 N1 B1 O1 Sd1 Dv1 L1 rc1 re1 fr1 lo1 sm1 ++ (pS cy x (sjS X1 sn dk (gcN X1)) ++ (pS cy a S)))) [25, 0, 1, 2, 3, 4, 5, 6, 7, 8, 9, 10, 11, 12, 13, 14, 26, 27, 28, 29, 30, 31, 32, 33, 34, 35, 15, 16, 17, 18, 19, 20, 21, 22, 23, 24] (by decide) rfl
    subst hr_41
    refine tp (show (sjC X1 sn dk (gcN X1)) = cst S dk (gcN S) from (htr.2.2.2 _).trans (sjC_sh hdq _)) ?_
    have hq9 : ([tO cy w b x wc lw gw (spB S sn co le (k)) sl1 sc1 sp] ++ (aS cy b P1 F1 N1 B1 O1 Sd1 Dv1 L1 rc1 re1 fr1 lo1 sm1 ++ (pS cy x (sjS X1 sn dk (gcN X1)) ++ (pS cy a S)))) = ([tO cy w b x wc lw gw (spB S sn co le (k)) sl1 sc1 sp] ++ (aS cy b P1 F1 N1 B1 O1 Sd1 Dv1 L1 rc1 re1 fr1 lo1 sm1 ++ (pS cy x (shS S 1 dk (gcN S)) ++ (pS cy a S)))) := congrArg (fun z9 => [tO cy w b x wc lw gw (spB S sn co le (k)) sl1 sc1 sp] ++ (aS cy b P1 F1 N1 B1 O1 Sd1 Dv1 L1 rc1 re1 fr1 lo1 sm1 ++ (pS cy x z9 ++ (pS cy a S)))) (show (sjS X1 sn dk (gcN X1)) = (shS S 1 dk (gcN S)) from (htr.2.2.1 _).trans (sjS_sh ho hdq))
    replace hP5 := (congrArg (fun z9 => va_P D vwCl z9 _) hq9).mp hP5
    replace hD5 := (congrArg (fun z9 => va_D _ z9) hq9).mp hD5
    clear hq9
    refine lv_iload_n hx hb dX5_findStop_44 rfl (lv_at hl4 6 rfl) ?_
    refine lv_iload hx hb dX5_findStop_45 (lv_at hl4 7 rfl) ?_
    refine cV_v (wc := [tO cy w b x wc lw gw (spB S sn co le (k)) sl1 sc1 sp] ++ (aS cy b P1 F1 N1 B1 O1 Sd1 Dv1 L1 rc1 re1 fr1 lo1 sm1 ++ (pS cy x (shS S 1 dk (gcN S))))) (wr := pS cy a S) (rest := []) hx hb hml hown hw hG hK hP5 hD5 hS5 hA hl4 kc_X5_tryStop kw_3_179 [.int (nI dk), .int (cst S dk (gcN S)), .int co, .int le] (c_X5_tryStop l D cy G H5.size w b x wc lw gw (spB S sn co le (k)) sl1 sc1 sp P1 F1 N1 B1 O1 Sd1 Dv1 L1 rc1 re1 fr1 lo1 sm1 (shS S 1 dk (gcN S)) (nI dk) (cst S dk (gcN S)) co le hws.1) [0, 1, 2, 3, 4, 5, 6, 7, 8, 9, 10, 11, 12, 13, 14, 15, 16, 17, 18, 19, 20, 21, 22, 23, 24, 25] [26, 27, 28, 29, 30, 31, 32, 33, 34, 35] rfl rfl rfl rfl rfl 0 rfl rfl rfl rfl rfl (Nat.le_of_ble_eq_true rfl) ⟨Nat.le_of_ble_eq_true rfl, Nat.le_of_ble_eq_true rfl⟩ dX5_findStop_47 ⟨Nat.le_of_ble_eq_true rfl, Nat.le_of_ble_eq_true rfl⟩ (fun u9 H6 locs6 hu9 hP6 hD6 hS6 => ?_)
    clear hP5 hD5 hS5 locs5 H5
    obtain ⟨P1_47, F1_47, N1_47, B1_47, O1_47, Sd1_47, Dv1_47, L1_47, rc1_47, re1_47, fr1_47, lo1_47, sm1_47⟩ := u9
    replace hP6 : va_P D vwCl (pS cy a S ++ ([tO cy w b x wc lw gw (if (cst S dk (gcN S)) ≤ co ∧ le ≤ fresh (shS S 1 dk (gcN S)) ∧ smokes (shS S 1 dk (gcN S)) = false ∧ bet (spB S sn co le (k)) sl1 (lost (shS S 1 dk (gcN S))) (nI dk) then (nI dk) else (spB S sn co le (k))) (if (cst S dk (gcN S)) ≤ co ∧ le ≤ fresh (shS S 1 dk (gcN S)) ∧ smokes (shS S 1 dk (gcN S)) = false ∧ bet (spB S sn co le (k)) sl1 (lost (shS S 1 dk (gcN S))) (nI dk) then lost (shS S 1 dk (gcN S)) else sl1) (if (cst S dk (gcN S)) ≤ co ∧ le ≤ fresh (shS S 1 dk (gcN S)) ∧ smokes (shS S 1 dk (gcN S)) = false ∧ bet (spB S sn co le (k)) sl1 (lost (shS S 1 dk (gcN S))) (nI dk) then (cst S dk (gcN S)) else sc1) sp] ++ (aS cy b P1_47 F1_47 N1_47 B1_47 O1_47 Sd1_47 Dv1_47 L1_47 rc1_47 re1_47 fr1_47 lo1_47 sm1_47 ++ (pS cy x (shS S 1 dk (gcN S)))))) H6 := hP6
    replace hD6 : va_D (va_A _ sz) (pS cy a S ++ ([tO cy w b x wc lw gw (if (cst S dk (gcN S)) ≤ co ∧ le ≤ fresh (shS S 1 dk (gcN S)) ∧ smokes (shS S 1 dk (gcN S)) = false ∧ bet (spB S sn co le (k)) sl1 (lost (shS S 1 dk (gcN S))) (nI dk) then (nI dk) else (spB S sn co le (k))) (if (cst S dk (gcN S)) ≤ co ∧ le ≤ fresh (shS S 1 dk (gcN S)) ∧ smokes (shS S 1 dk (gcN S)) = false ∧ bet (spB S sn co le (k)) sl1 (lost (shS S 1 dk (gcN S))) (nI dk) then lost (shS S 1 dk (gcN S)) else sl1) (if (cst S dk (gcN S)) ≤ co ∧ le ≤ fresh (shS S 1 dk (gcN S)) ∧ smokes (shS S 1 dk (gcN S)) = false ∧ bet (spB S sn co le (k)) sl1 (lost (shS S 1 dk (gcN S))) (nI dk) then (cst S dk (gcN S)) else sc1) sp] ++ (aS cy b P1_47 F1_47 N1_47 B1_47 O1_47 Sd1_47 Dv1_47 L1_47 rc1_47 re1_47 fr1_47 lo1_47 sm1_47 ++ (pS cy x (shS S 1 dk (gcN S)))))) := hD6
    replace hP6 := hP6.sub (ws' := [tO cy w b x wc lw gw (if (cst S dk (gcN S)) ≤ co ∧ le ≤ fresh (shS S 1 dk (gcN S)) ∧ smokes (shS S 1 dk (gcN S)) = false ∧ bet (spB S sn co le (k)) sl1 (lost (shS S 1 dk (gcN S))) (nI dk) then (nI dk) else (spB S sn co le (k))) (if (cst S dk (gcN S)) ≤ co ∧ le ≤ fresh (shS S 1 dk (gcN S)) ∧ smokes (shS S 1 dk (gcN S)) = false ∧ bet (spB S sn co le (k)) sl1 (lost (shS S 1 dk (gcN S))) (nI dk) then lost (shS S 1 dk (gcN S)) else sl1) (if (cst S dk (gcN S)) ≤ co ∧ le ≤ fresh (shS S 1 dk (gcN S)) ∧ smokes (shS S 1 dk (gcN S)) = false ∧ bet (spB S sn co le (k)) sl1 (lost (shS S 1 dk (gcN S))) (nI dk) then (cst S dk (gcN S)) else sc1) sp] ++ (aS cy b P1_47 F1_47 N1_47 B1_47 O1_47 Sd1_47 Dv1_47 L1_47 rc1_47 re1_47 fr1_47 lo1_47 sm1_47 ++ (pS cy x (shS S 1 dk (gcN S)) ++ (pS cy a S)))) [10, 11, 12, 13, 14, 15, 16, 17, 18, 19, 20, 21, 22, 23, 24, 25, 26, 27, 28, 29, 30, 31, 32, 33, 34, 35, 0, 1, 2, 3, 4, 5, 6, 7, 8, 9] rfl
    replace hD6 := hD6.sub (ws' := [tO cy w b x wc lw gw (if (cst S dk (gcN S)) ≤ co ∧ le ≤ fresh (shS S 1 dk (gcN S)) ∧ smokes (shS S 1 dk (gcN S)) = false ∧ bet (spB S sn co le (k)) sl1 (lost (shS S 1 dk (gcN S))) (nI dk) then (nI dk) else (spB S sn co le (k))) (if (cst S dk (gcN S)) ≤ co ∧ le ≤ fresh (shS S 1 dk (gcN S)) ∧ smokes (shS S 1 dk (gcN S)) = false ∧ bet (spB S sn co le (k)) sl1 (lost (shS S 1 dk (gcN S))) (nI dk) then lost (shS S 1 dk (gcN S)) else sl1) (if (cst S dk (gcN S)) ≤ co ∧ le ≤ fresh (shS S 1 dk (gcN S)) ∧ smokes (shS S 1 dk (gcN S)) = false ∧ bet (spB S sn co le (k)) sl1 (lost (shS S 1 dk (gcN S))) (nI dk) then (cst S dk (gcN S)) else sc1) sp] ++ (aS cy b P1_47 F1_47 N1_47 B1_47 O1_47 Sd1_47 Dv1_47 L1_47 rc1_47 re1_47 fr1_47 lo1_47 sm1_47 ++ (pS cy x (shS S 1 dk (gcN S)) ++ (pS cy a S)))) [10, 11, 12, 13, 14, 15, 16, 17, 18, 19, 20, 21, 22, 23, 24, 25, 26, 27, 28, 29, 30, 31, 32, 33, 34, 35, 0, 1, 2, 3, 4, 5, 6, 7, 8, 9] (by decide) rfl
    have hq9 : ([tO cy w b x wc lw gw (if (cst S dk (gcN S)) ≤ co ∧ le ≤ fresh (shS S 1 dk (gcN S)) ∧ smokes (shS S 1 dk (gcN S)) = false ∧ bet (spB S sn co le (k)) sl1 (lost (shS S 1 dk (gcN S))) (nI dk) then (nI dk) else (spB S sn co le (k))) (if (cst S dk (gcN S)) ≤ co ∧ le ≤ fresh (shS S 1 dk (gcN S)) ∧ smokes (shS S 1 dk (gcN S)) = false ∧ bet (spB S sn co le (k)) sl1 (lost (shS S 1 dk (gcN S))) (nI dk) then lost (shS S 1 dk (gcN S)) else sl1) (if (cst S dk (gcN S)) ≤ co ∧ le ≤ fresh (shS S 1 dk (gcN S)) ∧ smokes (shS S 1 dk (gcN S)) = false ∧ bet (spB S sn co le (k)) sl1 (lost (shS S 1 dk (gcN S))) (nI dk) then (cst S dk (gcN S)) else sc1) sp] ++ (aS cy b P1_47 F1_47 N1_47 B1_47 O1_47 Sd1_47 Dv1_47 L1_47 rc1_47 re1_47 fr1_47 lo1_47 sm1_47 ++ (pS cy x (shS S 1 dk (gcN S)) ++ (pS cy a S)))) = ([tO cy w b x wc lw gw (spB S sn co le (k + 1)) (if (cst S dk (gcN S)) ≤ co ∧ le ≤ fresh (shS S 1 dk (gcN S)) ∧ smokes (shS S 1 dk (gcN S)) = false ∧ bet (spB S sn co le (k)) sl1 (lost (shS S 1 dk (gcN S))) (nI dk) then lost (shS S 1 dk (gcN S)) else sl1) (if (cst S dk (gcN S)) ≤ co ∧ le ≤ fresh (shS S 1 dk (gcN S)) ∧ smokes (shS S 1 dk (gcN S)) = false ∧ bet (spB S sn co le (k)) sl1 (lost (shS S 1 dk (gcN S))) (nI dk) then (cst S dk (gcN S)) else sc1) sp] ++ (aS cy b P1_47 F1_47 N1_47 B1_47 O1_47 Sd1_47 Dv1_47 L1_47 rc1_47 re1_47 fr1_47 lo1_47 sm1_47 ++ (pS cy x (shS S 1 dk (gcN S)) ++ (pS cy a S)))) := congrArg (fun z9 => [tO cy w b x wc lw gw z9 (if (cst S dk (gcN S)) ≤ co ∧ le ≤ fresh (shS S 1 dk (gcN S)) ∧ smokes (shS S 1 dk (gcN S)) = false ∧ bet (spB S sn co le (k)) sl1 (lost (shS S 1 dk (gcN S))) (nI dk) then lost (shS S 1 dk (gcN S)) else sl1) (if (cst S dk (gcN S)) ≤ co ∧ le ≤ fresh (shS S 1 dk (gcN S)) ∧ smokes (shS S 1 dk (gcN S)) = false ∧ bet (spB S sn co le (k)) sl1 (lost (shS S 1 dk (gcN S))) (nI dk) then (cst S dk (gcN S)) else sc1) sp] ++ (aS cy b P1_47 F1_47 N1_47 B1_47 O1_47 Sd1_47 Dv1_47 L1_47 rc1_47 re1_47 fr1_47 lo1_47 sm1_47 ++ (pS cy x (shS S 1 dk (gcN S)) ++ (pS cy a S)))) (show (if (cst S dk (gcN S)) ≤ co ∧ le ≤ fresh (shS S 1 dk (gcN S)) ∧ smokes (shS S 1 dk (gcN S)) = false ∧ bet (spB S sn co le (k)) sl1 (lost (shS S 1 dk (gcN S))) (nI dk) then (nI dk) else (spB S sn co le (k))) = (spB S sn co le (k + 1)) from hsp.1)
    replace hP6 := (congrArg (fun z9 => va_P D vwCl z9 _) hq9).mp hP6
    replace hD6 := (congrArg (fun z9 => va_D _ z9) hq9).mp hD6
    clear hq9
    refine lv_iload hx hb dX5_findStop_50 (lv_at hl4 1 rfl) ?_
    refine lv_iload_n hx hb dX5_findStop_52 rfl (lv_at hl4 5 rfl) ?_
    refine lv_isub hx hb dX5_findStop_53 ?_
    refine lv_iload_n hx hb dX5_findStop_54 rfl (lv_at hl4 5 rfl) ?_
    refine lv_iand hx hb dX5_findStop_55 ?_
    refine tp (show (((nI dk) - (nI sn)) &&& (nI sn)) = sqI sn (k + 1) from by rw [← hsq]; rfl) ?_
    refine lv_istore (lv' := [(6, .int (sqI sn (k + 1))), (7, .int (nI k)), (5, .int (nI np)), (0, .ref (w 0)), (1, .ref (a 0)), (2, .int (nI sn)), (3, .int co), (4, .int le)]) hx hb dX5_findStop_56 hl4 (by decide) rfl (fun ls5 hl5 => ?_)
    clear hl4 ls4
    refine lv_iinc (v := nI (k + 1)) (lv' := [(7, .int (nI (k + 1))), (6, .int (sqI sn (k + 1))), (5, .int (nI np)), (0, .ref (w 0)), (1, .ref (a 0)), (2, .int (nI sn)), (3, .int co), (4, .int le)]) hx hb dX5_findStop_58 hl5 (k := 1) rfl (nI_inc _) (by decide) rfl (fun ls6 hl6 => ?_)
    clear hl5 ls5
    refine lv_goto (tgt := 27) hx hb dX5_findStop_61 (by decide) ?_
    exact ih_27 (k + 1, if (cst S dk (gcN S)) ≤ co ∧ le ≤ fresh (shS S 1 dk (gcN S)) ∧ smokes (shS S 1 dk (gcN S)) = false ∧ bet (spB S sn co le (k)) sl1 (lost (shS S 1 dk (gcN S))) (nI dk) then lost (shS S 1 dk (gcN S)) else sl1, if (cst S dk (gcN S)) ≤ co ∧ le ≤ fresh (shS S 1 dk (gcN S)) ∧ smokes (shS S 1 dk (gcN S)) = false ∧ bet (spB S sn co le (k)) sl1 (lost (shS S 1 dk (gcN S))) (nI dk) then (cst S dk (gcN S)) else sc1, P1_47, F1_47, N1_47, B1_47, O1_47, Sd1_47, Dv1_47, L1_47, rc1_47, re1_47, fr1_47, lo1_47, sm1_47, shS S 1 dk (gcN S)) (⟨by omega, Or.inr ⟨_, (sjS_sh ho hdq).symm⟩, hsp.2⟩) (by (try dsimp only); omega) H6 locs6 ls6 hP6 hD6 hS6 (lv_sub hl6 [0, 1, 2, 3, 4, 5, 6, 7] rfl)

theorem kc_X5_init : kI yX5_init cX5_init 1 0 := ⟨kw_1_156, kw_1_4, kw_1_157, rfl, by decide, by decide, by decide +kernel⟩
set_option maxHeartbeats 4000000 in
set_option maxRecDepth 100000 in
theorem c_X5_init (l : Launch) (D : va_G) (cy : Nat → ClassId) (G : Nat → Nat) (sz : Nat) (h : Nat)  : Met l yX5_init (wm yX5_init cX5_init 1 none) { frames := 2, cells := 27, slots := 358, locals := 40 } (va_Pc [.ref h] (pr D (TY cy) G ([(h, .inr (5, [.null, .int 0, .int 0, .int 0, .int 0, .int 0, .int 0, .int 0, .null, .null, .null]))]) sz)) (va_Qv (fun (u : (Nat → Nat) × (Nat → Nat) × (Nat → Nat)) => u.1 0 = h) (fun (u : (Nat → Nat) × (Nat → Nat) × (Nat → Nat)) t => po D (va_A ([(h, .inr (5, [.null, .int 0, .int 0, .int 0, .int 0, .int 0, .int 0, .int 0, .null, .null, .null]))]) sz) ([tO cy u.1 u.2.1 u.2.2 0 0 0 (-1) 0 0 (nI 0)] ++ (aS cy u.2.1 (fun _ => 0) (fun _ => 0) (fun _ => 0) (fun _ => 0) (fun _ => 0) (fun _ => 0) (fun _ => 0) (fun _ _ => 0) 0 0 0 0 0 ++ ([ia cy (u.1 1) 20 (fun _ => 0), ia cy (u.1 2) 21 (fun _ => 0)] ++ (pS cy u.2.2 S0)))) t) (va_A ([(h, .inr (5, [.null, .int 0, .int 0, .int 0, .int 0, .int 0, .int 0, .int 0, .null, .null, .null]))]) sz)) 27 358 (va_A ([(h, .inr (5, [.null, .int 0, .int 0, .int 0, .int 0, .int 0, .int 0, .int 0, .null, .null, .null]))]) sz) := by
  refine mk_rw (by decide) RX5 rfl (Nat.le_of_ble_eq_true rfl) [(0, .ref h)] rfl ?_
  intro p e s m below meth c hx hb hml hown hr hlocks hin hw hsz hA hG hK H0 locs0 hP0 hD0 hS0 ls0 hl0
  have hin : meth.name = "<init>" := hin
  refine lv_aload_n hx hb dX5_init_0 rfl (lv_at hl0 0 rfl) ?_
  refine W.objInit hx hb hown (hw _ kw_1_158) (hw _ kw_1_22) (hw _ kw_1_23) rfl (by rw [hml]; exact hl0.1) rfl dX5_init_1 (Nat.le_of_ble_eq_true rfl) (Nat.le_of_ble_eq_true rfl) ?_
  refine W.eq (g2 := F0 m 4 ls0 []) rfl ?_
  refine lv_aload_n hx hb dX5_init_4 rfl (lv_at hl0 0 rfl) ?_
  refine nwo (ci := 0) (fs := [.null, .null, .int 0, .int 0, .int 0, .int 0, .int 0, .null, .null, .null, .null, .null, .null]) (C := RX0) (T := TX0) (N := 13) hx hb hw iX0 tyX0 tyX0_ok hown kw_1_159 kw_1_95 kw_1_3 hK hP0 hD0 hS0 hA rfl (fun j hj => by rcases (show j = 0 ∨ j = 1 ∨ j = 2 ∨ j = 3 ∨ j = 4 ∨ j = 5 ∨ j = 6 ∨ j = 7 ∨ j = 8 ∨ j = 9 ∨ j = 10 ∨ j = 11 ∨ j = 12 by omega) with rfl | rfl | rfl | rfl | rfl | rfl | rfl | rfl | rfl | rfl | rfl | rfl | rfl <;> rfl) (Nat.le_of_ble_eq_true rfl) (Nat.le_of_ble_eq_true rfl) dX5_init_5 (fun q5 H1 locs1 hP1 hD1 hS1 => ?_)
  clear hP0 hD0 hS0 locs0 H0
  replace hP1 : va_P D vwCl ([(h, .inr (5, [.null, .int 0, .int 0, .int 0, .int 0, .int 0, .int 0, .int 0, .null, .null, .null])), (q5, .inr (0, [.null, .null, .int 0, .int 0, .int 0, .int 0, .int 0, .null, .null, .null, .null, .null, .null]))]) H1 := hP1
  replace hD1 : va_D (va_A _ sz) ([(h, .inr (5, [.null, .int 0, .int 0, .int 0, .int 0, .int 0, .int 0, .int 0, .null, .null, .null])), (q5, .inr (0, [.null, .null, .int 0, .int 0, .int 0, .int 0, .int 0, .null, .null, .null, .null, .null, .null]))]) := hD1
  refine lv_dup hx hb dX5_init_8 rfl ?_
  refine cIN_v (wc := [(q5, .inr (0, [.null, .null, .int 0, .int 0, .int 0, .int 0, .int 0, .null, .null, .null, .null, .null, .null]))]) (wr := [(h, .inr (5, [.null, .int 0, .int 0, .int 0, .int 0, .int 0, .int 0, .int 0, .null, .null, .null]))]) (rest := [.ref q5, .ref h]) hx hb hml hown hw hG hK hP1 hD1 hS1 hA hl0 kc_X0_init hG.1.2.2.2.1 [] (c_X0_init l D cy G H1.size q5) [1] [0] rfl rfl rfl rfl rfl rfl rfl (Nat.le_of_ble_eq_true rfl) ⟨Nat.le_of_ble_eq_true rfl, Nat.le_of_ble_eq_true rfl⟩ dX5_init_9 ⟨Nat.le_of_ble_eq_true rfl, Nat.le_of_ble_eq_true rfl⟩ (fun u9 H2 locs2 hu9 hP2 hD2 hS2 => ?_)
  clear hP1 hD1 hS1 locs1 H1
  obtain ⟨b_9, rfl⟩ : ∃ z9, z9 = u9 := ⟨_, rfl⟩
  have hb9_9 := hu9
  replace hb9_9 : b_9 0 = q5 := hb9_9
  replace hP2 : va_P D vwCl ([(h, .inr (5, [.null, .int 0, .int 0, .int 0, .int 0, .int 0, .int 0, .int 0, .null, .null, .null]))] ++ (aS cy b_9 (fun _ => 0) (fun _ => 0) (fun _ => 0) (fun _ => 0) (fun _ => 0) (fun _ => 0) (fun _ => 0) (fun _ _ => 0) 0 0 0 0 0)) H2 := hP2
  replace hD2 : va_D (va_A _ sz) ([(h, .inr (5, [.null, .int 0, .int 0, .int 0, .int 0, .int 0, .int 0, .int 0, .null, .null, .null]))] ++ (aS cy b_9 (fun _ => 0) (fun _ => 0) (fun _ => 0) (fun _ => 0) (fun _ => 0) (fun _ => 0) (fun _ => 0) (fun _ _ => 0) 0 0 0 0 0)) := hD2
  subst hb9_9
  refine ptF (D := D) (ci := 5) (v := .ref (b_9 0)) (ty := tyX5 0) (C := RX5) (T := TX5) (N := 11) (ws' := [(h, .inr (5, [.ref (b_9 0), .int 0, .int 0, .int 0, .int 0, .int 0, .int 0, .int 0, .null, .null, .null]))] ++ (aS cy b_9 (fun _ => 0) (fun _ => 0) (fun _ => 0) (fun _ => 0) (fun _ => 0) (fun _ => 0) (fun _ => 0) (fun _ _ => 0) 0 0 0 0 0)) hx hb hw iX5 tyX5 tyX5_ok nmX5 hown hK hP2 hD2 hS2 0 rfl rfl 0 (by decide) kw_1_163 (fun _ h9 => h9) rfl hin rfl (by decide +kernel) rfl rfl (Nat.le_of_ble_eq_true rfl) rfl dX5_init_12 (fun H3 locs3 hP3 hD3 hS3 => ?_)
  clear hP2 hD2 hS2 locs2 H2
  refine lv_aload_n hx hb dX5_init_15 rfl (lv_at hl0 0 rfl) ?_
  refine lv_iconst (v := 0) hx hb dX5_init_16 (by decide) ?_
  refine pt (D := D) (ci := 5) (v := .int 0) (ty := .int) (C := RX5) (T := TX5) (N := 11) (ws' := [(h, .inr (5, [.ref (b_9 0), .int 0, .int 0, .int 0, .int 0, .int 0, .int 0, .int 0, .null, .null, .null]))] ++ (aS cy b_9 (fun _ => 0) (fun _ => 0) (fun _ => 0) (fun _ => 0) (fun _ => 0) (fun _ => 0) (fun _ => 0) (fun _ _ => 0) 0 0 0 0 0)) hx hb hw iX5 tyX5 tyX5_ok nmX5 hown hK hP3 hD3 hS3 0 rfl rfl 1 (by decide) kw_1_165 (fun _ h9 => h9) rfl (by decide +kernel) rfl rfl (Nat.le_of_ble_eq_true rfl) rfl dX5_init_17 (fun H4 locs4 hP4 hD4 hS4 => ?_)
  clear hP3 hD3 hS3 locs3 H3
  refine lv_aload_n hx hb dX5_init_20 rfl (lv_at hl0 0 rfl) ?_
  refine lv_iconst (v := 0) hx hb dX5_init_21 (by decide) ?_
  refine pt (D := D) (ci := 5) (v := .int 0) (ty := .int) (C := RX5) (T := TX5) (N := 11) (ws' := [(h, .inr (5, [.ref (b_9 0), .int 0, .int 0, .int 0, .int 0, .int 0, .int 0, .int 0, .null, .null, .null]))] ++ (aS cy b_9 (fun _ => 0) (fun _ => 0) (fun _ => 0) (fun _ => 0) (fun _ => 0) (fun _ => 0) (fun _ => 0) (fun _ _ => 0) 0 0 0 0 0)) hx hb hw iX5 tyX5 tyX5_ok nmX5 hown hK hP4 hD4 hS4 0 rfl rfl 2 (by decide) kw_1_167 (fun _ h9 => h9) rfl (by decide +kernel) rfl rfl (Nat.le_of_ble_eq_true rfl) rfl dX5_init_22 (fun H5 locs5 hP5 hD5 hS5 => ?_)
  clear hP4 hD4 hS4 locs4 H4
  refine lv_aload_n hx hb dX5_init_25 rfl (lv_at hl0 0 rfl) ?_
  refine lv_iconst (v := 0) hx hb dX5_init_26 (by decide) ?_
  refine pt (D := D) (ci := 5) (v := .int 0) (ty := .int) (C := RX5) (T := TX5) (N := 11) (ws' := [(h, .inr (5, [.ref (b_9 0), .int 0, .int 0, .int 0, .int 0, .int 0, .int 0, .int 0, .null, .null, .null]))] ++ (aS cy b_9 (fun _ => 0) (fun _ => 0) (fun _ => 0) (fun _ => 0) (fun _ => 0) (fun _ => 0) (fun _ => 0) (fun _ _ => 0) 0 0 0 0 0)) hx hb hw iX5 tyX5 tyX5_ok nmX5 hown hK hP5 hD5 hS5 0 rfl rfl 3 (by decide) kw_1_169 (fun _ h9 => h9) rfl (by decide +kernel) rfl rfl (Nat.le_of_ble_eq_true rfl) rfl dX5_init_27 (fun H6 locs6 hP6 hD6 hS6 => ?_)
  clear hP5 hD5 hS5 locs5 H5
  refine lv_aload_n hx hb dX5_init_30 rfl (lv_at hl0 0 rfl) ?_
  refine lv_iconst (v := (-1)) hx hb dX5_init_31 (by decide) ?_
  refine pt (D := D) (ci := 5) (v := .int (-1)) (ty := .int) (C := RX5) (T := TX5) (N := 11) (ws' := [(h, .inr (5, [.ref (b_9 0), .int 0, .int 0, .int 0, .int (-1), .int 0, .int 0, .int 0, .null, .null, .null]))] ++ (aS cy b_9 (fun _ => 0) (fun _ => 0) (fun _ => 0) (fun _ => 0) (fun _ => 0) (fun _ => 0) (fun _ => 0) (fun _ _ => 0) 0 0 0 0 0)) hx hb hw iX5 tyX5 tyX5_ok nmX5 hown hK hP6 hD6 hS6 0 rfl rfl 4 (by decide) kw_1_171 (fun _ h9 => h9) rfl (by decide +kernel) rfl rfl (Nat.le_of_ble_eq_true rfl) rfl dX5_init_32 (fun H7 locs7 hP7 hD7 hS7 => ?_)
  clear hP6 hD6 hS6 locs6 H6
  refine lv_aload_n hx hb dX5_init_35 rfl (lv_at hl0 0 rfl) ?_
  refine lv_iconst (v := 0) hx hb dX5_init_36 (by decide) ?_
  refine pt (D := D) (ci := 5) (v := .int 0) (ty := .int) (C := RX5) (T := TX5) (N := 11) (ws' := [(h, .inr (5, [.ref (b_9 0), .int 0, .int 0, .int 0, .int (-1), .int 0, .int 0, .int 0, .null, .null, .null]))] ++ (aS cy b_9 (fun _ => 0) (fun _ => 0) (fun _ => 0) (fun _ => 0) (fun _ => 0) (fun _ => 0) (fun _ => 0) (fun _ _ => 0) 0 0 0 0 0)) hx hb hw iX5 tyX5 tyX5_ok nmX5 hown hK hP7 hD7 hS7 0 rfl rfl 5 (by decide) kw_1_173 (fun _ h9 => h9) rfl (by decide +kernel) rfl rfl (Nat.le_of_ble_eq_true rfl) rfl dX5_init_37 (fun H8 locs8 hP8 hD8 hS8 => ?_)
  clear hP7 hD7 hS7 locs7 H7
  refine lv_aload_n hx hb dX5_init_40 rfl (lv_at hl0 0 rfl) ?_
  refine lv_iconst (v := 0) hx hb dX5_init_41 (by decide) ?_
  refine pt (D := D) (ci := 5) (v := .int 0) (ty := .int) (C := RX5) (T := TX5) (N := 11) (ws' := [(h, .inr (5, [.ref (b_9 0), .int 0, .int 0, .int 0, .int (-1), .int 0, .int 0, .int 0, .null, .null, .null]))] ++ (aS cy b_9 (fun _ => 0) (fun _ => 0) (fun _ => 0) (fun _ => 0) (fun _ => 0) (fun _ => 0) (fun _ => 0) (fun _ _ => 0) 0 0 0 0 0)) hx hb hw iX5 tyX5 tyX5_ok nmX5 hown hK hP8 hD8 hS8 0 rfl rfl 6 (by decide) kw_1_175 (fun _ h9 => h9) rfl (by decide +kernel) rfl rfl (Nat.le_of_ble_eq_true rfl) rfl dX5_init_42 (fun H9 locs9 hP9 hD9 hS9 => ?_)
  clear hP8 hD8 hS8 locs8 H8
  refine lv_aload_n hx hb dX5_init_45 rfl (lv_at hl0 0 rfl) ?_
  refine lv_iconst (v := 0) hx hb dX5_init_46 (by decide) ?_
  refine pt (D := D) (ci := 5) (v := .int 0) (ty := .int) (C := RX5) (T := TX5) (N := 11) (ws' := [(h, .inr (5, [.ref (b_9 0), .int 0, .int 0, .int 0, .int (-1), .int 0, .int 0, .int 0, .null, .null, .null]))] ++ (aS cy b_9 (fun _ => 0) (fun _ => 0) (fun _ => 0) (fun _ => 0) (fun _ => 0) (fun _ => 0) (fun _ => 0) (fun _ _ => 0) 0 0 0 0 0)) hx hb hw iX5 tyX5 tyX5_ok nmX5 hown hK hP9 hD9 hS9 0 rfl rfl 7 (by decide) kw_1_177 (fun _ h9 => h9) rfl (by decide +kernel) rfl rfl (Nat.le_of_ble_eq_true rfl) rfl dX5_init_47 (fun H10 locs10 hP10 hD10 hS10 => ?_)
  clear hP9 hD9 hS9 locs9 H9
  refine lv_aload_n hx hb dX5_init_50 rfl (lv_at hl0 0 rfl) ?_
  refine lv_bipush (v := 20) hx hb dX5_init_51 (by decide) ?_
  refine nwa (atype := .int) (N' := 20) (a0 := (20, .inl (fun _ => 0))) hx hb kw_1_92 hw rfl hK hP10 hD10 hS10 hA 0 rfl (fun c9 => nwa_int c9 20) (by decide) (by decide) (by decide) (Nat.le_of_ble_eq_true rfl) (Nat.le_of_ble_eq_true rfl) dX5_init_53 (fun q53 H11 locs11 hP11 hD11 hS11 => ?_)
  clear hP10 hD10 hS10 locs10 H10
  replace hP11 : va_P D vwCl ([(h, .inr (5, [.ref (b_9 0), .int 0, .int 0, .int 0, .int (-1), .int 0, .int 0, .int 0, .null, .null, .null]))] ++ (aS cy b_9 (fun _ => 0) (fun _ => 0) (fun _ => 0) (fun _ => 0) (fun _ => 0) (fun _ => 0) (fun _ => 0) (fun _ _ => 0) 0 0 0 0 0 ++ ([ia cy q53 20 (fun _ => 0)]))) H11 := hP11
  replace hD11 : va_D (va_A _ sz) ([(h, .inr (5, [.ref (b_9 0), .int 0, .int 0, .int 0, .int (-1), .int 0, .int 0, .int 0, .null, .null, .null]))] ++ (aS cy b_9 (fun _ => 0) (fun _ => 0) (fun _ => 0) (fun _ => 0) (fun _ => 0) (fun _ => 0) (fun _ => 0) (fun _ _ => 0) 0 0 0 0 0 ++ ([ia cy q53 20 (fun _ => 0)]))) := hD11
  refine ptF (D := D) (ci := 5) (v := .ref q53) (ty := tyX5 8) (C := RX5) (T := TX5) (N := 11) (ws' := [(h, .inr (5, [.ref (b_9 0), .int 0, .int 0, .int 0, .int (-1), .int 0, .int 0, .int 0, .ref q53, .null, .null]))] ++ (aS cy b_9 (fun _ => 0) (fun _ => 0) (fun _ => 0) (fun _ => 0) (fun _ => 0) (fun _ => 0) (fun _ => 0) (fun _ _ => 0) 0 0 0 0 0 ++ ([ia cy q53 20 (fun _ => 0)]))) hx hb hw iX5 tyX5 tyX5_ok nmX5 hown hK hP11 hD11 hS11 0 rfl rfl 8 (by decide) kw_1_179 (fun _ h9 => h9) rfl hin rfl (by decide +kernel) rfl rfl (Nat.le_of_ble_eq_true rfl) rfl dX5_init_55 (fun H12 locs12 hP12 hD12 hS12 => ?_)
  clear hP11 hD11 hS11 locs11 H11
  refine lv_aload_n hx hb dX5_init_58 rfl (lv_at hl0 0 rfl) ?_
  refine lv_bipush (v := 21) hx hb dX5_init_59 (by decide) ?_
  refine nwa (atype := .int) (N' := 21) (a0 := (21, .inl (fun _ => 0))) hx hb kw_1_92 hw rfl hK hP12 hD12 hS12 hA 0 rfl (fun c9 => nwa_int c9 21) (by decide) (by decide) (by decide) (Nat.le_of_ble_eq_true rfl) (Nat.le_of_ble_eq_true rfl) dX5_init_61 (fun q61 H13 locs13 hP13 hD13 hS13 => ?_)
  clear hP12 hD12 hS12 locs12 H12
  replace hP13 : va_P D vwCl ([(h, .inr (5, [.ref (b_9 0), .int 0, .int 0, .int 0, .int (-1), .int 0, .int 0, .int 0, .ref q53, .null, .null]))] ++ (aS cy b_9 (fun _ => 0) (fun _ => 0) (fun _ => 0) (fun _ => 0) (fun _ => 0) (fun _ => 0) (fun _ => 0) (fun _ _ => 0) 0 0 0 0 0 ++ ([ia cy q53 20 (fun _ => 0), ia cy q61 21 (fun _ => 0)]))) H13 := hP13
  replace hD13 : va_D (va_A _ sz) ([(h, .inr (5, [.ref (b_9 0), .int 0, .int 0, .int 0, .int (-1), .int 0, .int 0, .int 0, .ref q53, .null, .null]))] ++ (aS cy b_9 (fun _ => 0) (fun _ => 0) (fun _ => 0) (fun _ => 0) (fun _ => 0) (fun _ => 0) (fun _ => 0) (fun _ _ => 0) 0 0 0 0 0 ++ ([ia cy q53 20 (fun _ => 0), ia cy q61 21 (fun _ => 0)]))) := hD13
  refine ptF (D := D) (ci := 5) (v := .ref q61) (ty := tyX5 9) (C := RX5) (T := TX5) (N := 11) (ws' := [(h, .inr (5, [.ref (b_9 0), .int 0, .int 0, .int 0, .int (-1), .int 0, .int 0, .int 0, .ref q53, .ref q61, .null]))] ++ (aS cy b_9 (fun _ => 0) (fun _ => 0) (fun _ => 0) (fun _ => 0) (fun _ => 0) (fun _ => 0) (fun _ => 0) (fun _ _ => 0) 0 0 0 0 0 ++ ([ia cy q53 20 (fun _ => 0), ia cy q61 21 (fun _ => 0)]))) hx hb hw iX5 tyX5 tyX5_ok nmX5 hown hK hP13 hD13 hS13 0 rfl rfl 9 (by decide) kw_1_181 (fun _ h9 => h9) rfl hin rfl (by decide +kernel) rfl rfl (Nat.le_of_ble_eq_true rfl) rfl dX5_init_63 (fun H14 locs14 hP14 hD14 hS14 => ?_)
  clear hP13 hD13 hS13 locs13 H13
  refine lv_aload_n hx hb dX5_init_66 rfl (lv_at hl0 0 rfl) ?_
  refine nwo (ci := 1) (fs := [.int 0, .int 0, .null, .null, .null, .null, .null, .null, .null, .null, .null, .int 0]) (C := RX1) (T := TX1) (N := 12) hx hb hw iX1 tyX1 tyX1_ok hown kw_1_161 kw_1_25 kw_1_2 hK hP14 hD14 hS14 hA rfl (fun j hj => by rcases (show j = 0 ∨ j = 1 ∨ j = 2 ∨ j = 3 ∨ j = 4 ∨ j = 5 ∨ j = 6 ∨ j = 7 ∨ j = 8 ∨ j = 9 ∨ j = 10 ∨ j = 11 by omega) with rfl | rfl | rfl | rfl | rfl | rfl | rfl | rfl | rfl | rfl | rfl | rfl <;> rfl) (Nat.le_of_ble_eq_true rfl) (Nat.le_of_ble_eq_true rfl) dX5_init_67 (fun q67 H15 locs15 hP15 hD15 hS15 => ?_)
  clear hP14 hD14 hS14 locs14 H14
  replace hP15 : va_P D vwCl ([(h, .inr (5, [.ref (b_9 0), .int 0, .int 0, .int 0, .int (-1), .int 0, .int 0, .int 0, .ref q53, .ref q61, .null]))] ++ (aS cy b_9 (fun _ => 0) (fun _ => 0) (fun _ => 0) (fun _ => 0) (fun _ => 0) (fun _ => 0) (fun _ => 0) (fun _ _ => 0) 0 0 0 0 0 ++ ([ia cy q53 20 (fun _ => 0), ia cy q61 21 (fun _ => 0), (q67, .inr (1, [.int 0, .int 0, .null, .null, .null, .null, .null, .null, .null, .null, .null, .int 0]))]))) H15 := hP15
  replace hD15 : va_D (va_A _ sz) ([(h, .inr (5, [.ref (b_9 0), .int 0, .int 0, .int 0, .int (-1), .int 0, .int 0, .int 0, .ref q53, .ref q61, .null]))] ++ (aS cy b_9 (fun _ => 0) (fun _ => 0) (fun _ => 0) (fun _ => 0) (fun _ => 0) (fun _ => 0) (fun _ => 0) (fun _ _ => 0) 0 0 0 0 0 ++ ([ia cy q53 20 (fun _ => 0), ia cy q61 21 (fun _ => 0), (q67, .inr (1, [.int 0, .int 0, .null, .null, .null, .null, .null, .null, .null, .null, .null, .int 0]))]))) := hD15
  refine lv_dup hx hb dX5_init_70 rfl ?_
  refine cIN_v (wc := [(q67, .inr (1, [.int 0, .int 0, .null, .null, .null, .null, .null, .null, .null, .null, .null, .int 0]))]) (wr := [(h, .inr (5, [.ref (b_9 0), .int 0, .int 0, .int 0, .int (-1), .int 0, .int 0, .int 0, .ref q53, .ref q61, .null]))] ++ (aS cy b_9 (fun _ => 0) (fun _ => 0) (fun _ => 0) (fun _ => 0) (fun _ => 0) (fun _ => 0) (fun _ => 0) (fun _ _ => 0) 0 0 0 0 0 ++ ([ia cy q53 20 (fun _ => 0), ia cy q61 21 (fun _ => 0)]))) (rest := [.ref q67, .ref h]) hx hb hml hown hw hG hK hP15 hD15 hS15 hA hl0 kc_X1_init hG.1.2.2.2.2.1 [] (c_X1_init l D cy G H15.size q67) [18] [0, 1, 2, 3, 4, 5, 6, 7, 8, 9, 10, 11, 12, 13, 14, 15, 16, 17] rfl rfl rfl rfl rfl rfl rfl (Nat.le_of_ble_eq_true rfl) ⟨Nat.le_of_ble_eq_true rfl, Nat.le_of_ble_eq_true rfl⟩ dX5_init_71 ⟨Nat.le_of_ble_eq_true rfl, Nat.le_of_ble_eq_true rfl⟩ (fun u9 H16 locs16 hu9 hP16 hD16 hS16 => ?_)
  clear hP15 hD15 hS15 locs15 H15
  obtain ⟨a_71, rfl⟩ : ∃ z9, z9 = u9 := ⟨_, rfl⟩
  have ha_71 := hu9
  replace ha_71 : a_71 0 = q67 := ha_71
  replace hP16 : va_P D vwCl ([(h, .inr (5, [.ref (b_9 0), .int 0, .int 0, .int 0, .int (-1), .int 0, .int 0, .int 0, .ref q53, .ref q61, .null]))] ++ (aS cy b_9 (fun _ => 0) (fun _ => 0) (fun _ => 0) (fun _ => 0) (fun _ => 0) (fun _ => 0) (fun _ => 0) (fun _ _ => 0) 0 0 0 0 0 ++ ([ia cy q53 20 (fun _ => 0), ia cy q61 21 (fun _ => 0)] ++ (pS cy a_71 S0)))) H16 := hP16
  replace hD16 : va_D (va_A _ sz) ([(h, .inr (5, [.ref (b_9 0), .int 0, .int 0, .int 0, .int (-1), .int 0, .int 0, .int 0, .ref q53, .ref q61, .null]))] ++ (aS cy b_9 (fun _ => 0) (fun _ => 0) (fun _ => 0) (fun _ => 0) (fun _ => 0) (fun _ => 0) (fun _ => 0) (fun _ _ => 0) 0 0 0 0 0 ++ ([ia cy q53 20 (fun _ => 0), ia cy q61 21 (fun _ => 0)] ++ (pS cy a_71 S0)))) := hD16
  subst ha_71
  refine ptF (D := D) (ci := 5) (v := .ref (a_71 0)) (ty := tyX5 10) (C := RX5) (T := TX5) (N := 11) (ws' := [(h, .inr (5, [.ref (b_9 0), .int 0, .int 0, .int 0, .int (-1), .int 0, .int 0, .int 0, .ref q53, .ref q61, .ref (a_71 0)]))] ++ (aS cy b_9 (fun _ => 0) (fun _ => 0) (fun _ => 0) (fun _ => 0) (fun _ => 0) (fun _ => 0) (fun _ => 0) (fun _ _ => 0) 0 0 0 0 0 ++ ([ia cy q53 20 (fun _ => 0), ia cy q61 21 (fun _ => 0)] ++ (pS cy a_71 S0)))) hx hb hw iX5 tyX5 tyX5_ok nmX5 hown hK hP16 hD16 hS16 0 rfl rfl 10 (by decide) kw_1_183 (fun _ h9 => h9) rfl hin rfl (by decide +kernel) rfl rfl (Nat.le_of_ble_eq_true rfl) rfl dX5_init_74 (fun H17 locs17 hP17 hD17 hS17 => ?_)
  clear hP16 hD16 hS16 locs16 H16
  have hq9 : ([(h, .inr (5, [.ref (b_9 0), .int 0, .int 0, .int 0, .int (-1), .int 0, .int 0, .int 0, .ref q53, .ref q61, .ref (a_71 0)]))] ++ (aS cy b_9 (fun _ => 0) (fun _ => 0) (fun _ => 0) (fun _ => 0) (fun _ => 0) (fun _ => 0) (fun _ => 0) (fun _ _ => 0) 0 0 0 0 0 ++ ([ia cy q53 20 (fun _ => 0), ia cy q61 21 (fun _ => 0)] ++ (pS cy a_71 S0)))) = [tO cy (fun k => ([h, q53, q61] : List Nat).getD k 0) b_9 a_71 0 0 0 (-1) 0 0 (nI 0)] ++ (aS cy b_9 (fun _ => 0) (fun _ => 0) (fun _ => 0) (fun _ => 0) (fun _ => 0) (fun _ => 0) (fun _ => 0) (fun _ _ => 0) 0 0 0 0 0 ++ ([ia cy ((fun k => ([h, q53, q61] : List Nat).getD k 0) 1) 20 (fun _ => 0), ia cy ((fun k => ([h, q53, q61] : List Nat).getD k 0) 2) 21 (fun _ => 0)] ++ (pS cy a_71 S0))) := rfl
  replace hP17 := (congrArg (fun z9 => va_P D vwCl z9 _) hq9).mp hP17
  replace hD17 := (congrArg (fun z9 => va_D _ z9) hq9).mp hD17
  refine re_v (fun k => ([h, q53, q61] : List Nat).getD k 0, b_9, a_71) hx hb hr hlocks hP17 hD17 hS17 dX5_init_77 ?_
  exact (rfl)
