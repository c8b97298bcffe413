theorem kc_X7_asked : kV yX7_asked cX7_asked 6 (some .int) 1 := ⟨kw_5_67, kw_s_51, kw_1_8, kw_5_68, by decide, by decide, by decide +kernel⟩
set_option maxHeartbeats 4000000 in
set_option maxRecDepth 100000 in
theorem c_X7_asked (l : Launch) (D : va_G) (cy : Nat → ClassId) (G : Nat → Nat) (sz : Nat) (mm : Nat → Nat) (ik : Int32) (tl : Int32) (fm : Int32) (tz : Int32) (vl : Int32) (iw : Int32) (rm : Int32) (rr : Int32) (om : Int32) (S : Nat → Int32) (P : Nat → Int32) (k : Nat) (wf : wf S) (hk : k < 6) : Met l yX7_asked (wm yX7_asked cX7_asked 6 (some .int)) { frames := 2, cells := 0, slots := 0, locals := 45 } (va_Pc [.ref (mm 0), .int (nI k)] (pd D (TY cy) G ([mO cy mm ik tl fm tz vl iw rm rr om, ia cy (mm 1) 169 S, ia cy (mm 6) 6 P]) sz)) (va_Qi (fun r (_ : Unit) => r = asked S P k) (fun _ _ => True) (va_A [] sz)) 0 0 (va_A [] sz) := by
  refine mk_rd (by decide) RX7 rfl (Nat.le_of_ble_eq_true rfl) [(0, .ref (mm 0)), (1, .int (nI k))] rfl ?_
  intro p e s m below meth c hx hb hml hown hr hlocks hw hsz hA hG hK H0 locs0 hP0 hS0 ls0 hl0
  have hg20 := wf_g20 wf
  refine lv_iload_n hx hb dX7_asked_0 rfl (lv_at hl0 1 rfl) ?_
  refine lv_if_ne (tgt := 16) hx hb dX7_asked_1 (by decide) (fun c_1 => ?_) (fun c_1 => ?_)
  · refine lv_iconst (v := 0) hx hb dX7_asked_16 (by decide) ?_
    refine lv_istore_n (lv' := [(2, .int 0), (0, .ref (mm 0)), (1, .int (nI k))]) hx hb dX7_asked_17 rfl hl0 (by decide) rfl (fun ls1 hl1 => ?_)
    clear hl0 ls0
    refine lv_iconst (v := 0) hx hb dX7_asked_18 (by decide) ?_
    refine lv_istore_n (lv' := [(3, .int 0), (2, .int 0), (0, .ref (mm 0)), (1, .int (nI k))]) hx hb dX7_asked_19 rfl hl1 (by decide) rfl (fun ls2 hl2 => ?_)
    clear hl1 ls1
    refine lv_iconst (v := 0) hx hb dX7_asked_20 (by decide) ?_
    refine lv_istore (lv' := [(4, .int 0), (3, .int 0), (2, .int 0), (0, .ref (mm 0)), (1, .int (nI k))]) hx hb dX7_asked_21 hl2 (by decide) rfl (fun ls3 hl3 => ?_)
    clear hl2 ls2
    have hq9 : abv S P k 0 = 0 := by have e9 : nI k = 0 ↔ k = 0 := nI_eq (b := 0) (by omega) (by decide); clear hx hb hml hown hr hlocks hw hsz hA hG hK hP0 hS0 hl3; grind [abv]
    replace hl3 : lv_has ls3 6 [(4, .int 0), (3, .int 0), (2, .int (abv S P k 0)), (0, .ref (mm 0)), (1, .int (nI k))] := (congrArg (fun z9 => lv_has ls3 6 [(4, .int 0), (3, .int 0), (2, .int z9), (0, .ref (mm 0)), (1, .int (nI k))]) hq9).mpr hl3
    clear hq9
    have hq9 : blw S k 0 = 0 := rfl
    replace hl3 : lv_has ls3 6 [(4, .int 0), (3, .int (blw S k 0)), (2, .int (abv S P k 0)), (0, .ref (mm 0)), (1, .int (nI k))] := (congrArg (fun z9 => lv_has ls3 6 [(4, .int 0), (3, .int z9), (2, .int (abv S P k 0)), (0, .ref (mm 0)), (1, .int (nI k))]) hq9).mpr hl3
    clear hq9
    refine rlp (ι := Nat) (nL := 6) (ws := [mO cy mm ik tl fm tz vl iw rm rr om, ia cy (mm 1) 169 S, ia cy (mm 6) 6 P]) (fun x9 => (x9 ≤ gcN S)) (fun x9 => [(4, .int (nI x9)), (3, .int (blw S k x9)), (2, .int (abv S P k x9)), (0, .ref (mm 0)), (1, .int (nI k))]) (fun x9 => []) (fun x9 => gcN S - x9) 23 ?_ 0 (by first | omega | assumption | rfl | simp_all) rfl hP0 hS0 (lv_sub hl3 [0, 1, 2, 3, 4] rfl)
    clear hP0 hS0 locs0 H0 hl3 ls3
    intro x9 hI ih_23 H1 locs1 ls4 hP1 hS1 hl4
    obtain ⟨i, rfl⟩ : ∃ z9, z9 = x9 := ⟨_, rfl⟩
    have hi := hI
    replace hi : i ≤ gcN S := hi
    replace hP1 : va_P D vwCl ([mO cy mm ik tl fm tz vl iw rm rr om, ia cy (mm 1) 169 S, ia cy (mm 6) 6 P]) H1 := hP1
    replace hl4 : lv_has ls4 6 [(4, .int (nI i)), (3, .int (blw S k i)), (2, .int (abv S P k i)), (0, .ref (mm 0)), (1, .int (nI k))] := hl4
    show W p l e _ s m _ below meth c _ _ _ _ _ (F0 m 23 ls4 [])
    refine lv_iload hx hb dX7_asked_23 (lv_at hl4 0 rfl) ?_
    refine lv_aload_n hx hb dX7_asked_25 rfl (lv_at hl4 3 rfl) ?_
    refine va_get (D := D) (ci := 7) (v := .ref (mm 1)) (C := RX7) (T := TX7) (N := 23) hx hb hw iX7 hown hK hP1 0 rfl rfl 0 (by decide) (hw _ kw_4_64) (fun _ h9 => h9) rfl dX7_asked_26 ?_
    refine lv_iconst (v := 1) hx hb dX7_asked_29 (by decide) ?_
    refine ald_i (f := S) hx hb hK hP1 1 0 rfl rfl 1 rfl (by first | omega | assumption) (by decide) dX7_asked_30 ?_
    refine tp (show (S 1) = nI (gcN S) from wf_g wf) ?_
    refine ln_ge (tgt := 142) i (gcN S) rfl rfl (by omega) (by omega) hx hb dX7_asked_31 (by decide) (fun c_31 => ?_) (fun c_31 => ?_)
    · obtain rfl : i = gcN S := (by omega)
      refine lv_iload_n hx hb dX7_asked_142 rfl (lv_at hl4 1 rfl) ?_
      refine lv_if_ne (tgt := 150) hx hb dX7_asked_143 (by decide) (fun c_143 => ?_) (fun c_143 => ?_)
      · refine lv_iload_n hx hb dX7_asked_150 rfl (lv_at hl4 2 rfl) ?_
        refine lv_iload_n hx hb dX7_asked_151 rfl (lv_at hl4 1 rfl) ?_
        refine lv_idiv hx hb dX7_asked_152 (c_143) ?_
        exact rd_i hx hb hr hlocks hS1 dX7_asked_153 (by clear hx hb hml hown hr hlocks hw hsz hA hG hK hP1 hS1 hl4 ih_23; grind [asked])
      · refine lv_iconst (v := 0) hx hb dX7_asked_146 (by decide) ?_
        refine lv_goto (tgt := 153) hx hb dX7_asked_147 (by decide) ?_
        exact rd_i hx hb hr hlocks hS1 dX7_asked_153 (by clear hx hb hml hown hr hlocks hw hsz hA hG hK hP1 hS1 hl4 ih_23; grind [asked])
    · have hr6 := wf_rm6 wf c_31
      have hotk := ot_k (k := k) wf c_31 hk
      refine lv_aload_n hx hb dX7_asked_34 rfl (lv_at hl4 3 rfl) ?_
      refine lv_iload hx hb dX7_asked_35 (lv_at hl4 0 rfl) ?_
      refine rV_i (wc := [mO cy mm ik tl fm tz vl iw rm rr om, ia cy (mm 1) 169 S]) (rest := []) hx hb hml hown hw hG hK hP1 hS1 hA hl4 kc_X7_breadth kw_4_178 [.int (nI i)] (c_X7_breadth l D cy G H1.size mm ik tl fm tz vl iw rm rr om S i (by first | omega | assumption) (by first | omega | assumption)) [0, 1] rfl 0 rfl rfl rfl rfl rfl (Nat.le_of_ble_eq_true rfl) ⟨Nat.le_of_ble_eq_true rfl, Nat.le_of_ble_eq_true rfl⟩ dX7_asked_37 ⟨Nat.le_of_ble_eq_true rfl, Nat.le_of_ble_eq_true rfl⟩ (fun r_37 H2 locs2 hr_37 hP2 hS2 => ?_)
      clear hP1 hS1 locs1 H1
      subst hr_37
      refine lv_istore (lv' := [(5, .int (breadth S i)), (4, .int (nI i)), (3, .int (blw S k i)), (2, .int (abv S P k i)), (0, .ref (mm 0)), (1, .int (nI k))]) hx hb dX7_asked_40 hl4 (by decide) rfl (fun ls5 hl5 => ?_)
      clear hl4 ls4
      refine lv_aload_n hx hb dX7_asked_42 rfl (lv_at hl5 4 rfl) ?_
      refine lv_iload hx hb dX7_asked_43 (lv_at hl5 1 rfl) ?_
      refine lv_iconst (v := 1) hx hb dX7_asked_45 (by decide) ?_
      refine rV_i (wc := [mO cy mm ik tl fm tz vl iw rm rr om, ia cy (mm 1) 169 S]) (rest := []) hx hb hml hown hw hG hK hP2 hS2 hA hl5 kc_X7_has kw_4_174 [.int (nI i), .int 1] (c_X7_has l D cy G H2.size mm ik tl fm tz vl iw rm rr om S i 1 (by first | omega | assumption) (by first | omega | assumption)) [0, 1] rfl 0 rfl rfl rfl rfl rfl (Nat.le_of_ble_eq_true rfl) ⟨Nat.le_of_ble_eq_true rfl, Nat.le_of_ble_eq_true rfl⟩ dX7_asked_46 ⟨Nat.le_of_ble_eq_true rfl, Nat.le_of_ble_eq_true rfl⟩ (fun r_46 H3 locs3 hr_46 hP3 hS3 => ?_)
      clear hP2 hS2 locs2 H2
      subst hr_46
      refine tp (show (S (9 + 8 * i + 1)) = S (10 + 8 * i) from congrArg _ (by omega)) ?_
      refine tp (show (S (10 + 8 * i)) = nI (rmN S i) from wf_rm wf c_31) ?_
      refine lv_iload_n hx hb dX7_asked_49 rfl (lv_at hl5 5 rfl) ?_
      refine ln_ne (tgt := 102) (rmN S i) k rfl rfl (by omega) (by omega) hx hb dX7_asked_50 (by decide) (fun c_50 => ?_) (fun c_50 => ?_)
      · refine lv_aload_n hx hb dX7_asked_102 rfl (lv_at hl5 4 rfl) ?_
        refine lv_iload hx hb dX7_asked_103 (lv_at hl5 1 rfl) ?_
        refine lv_iconst (v := 2) hx hb dX7_asked_105 (by decide) ?_
        refine rV_i (wc := [mO cy mm ik tl fm tz vl iw rm rr om, ia cy (mm 1) 169 S]) (rest := []) hx hb hml hown hw hG hK hP3 hS3 hA hl5 kc_X7_has kw_4_174 [.int (nI i), .int 2] (c_X7_has l D cy G H3.size mm ik tl fm tz vl iw rm rr om S i 2 (by first | omega | assumption) (by first | omega | assumption)) [0, 1] rfl 0 rfl rfl rfl rfl rfl (Nat.le_of_ble_eq_true rfl) ⟨Nat.le_of_ble_eq_true rfl, Nat.le_of_ble_eq_true rfl⟩ dX7_asked_106 ⟨Nat.le_of_ble_eq_true rfl, Nat.le_of_ble_eq_true rfl⟩ (fun r_106 H4 locs4 hr_106 hP4 hS4 => ?_)
        clear hP3 hS3 locs3 H3
        subst hr_106
        refine tp (show (S (9 + 8 * i + 2)) = S (11 + 8 * i) from congrArg _ (by omega)) ?_
        refine lv_iload_n hx hb dX7_asked_109 rfl (lv_at hl5 5 rfl) ?_
        refine lv_icmp_ne (tgt := 136) hx hb dX7_asked_110 (by decide) (fun c_110 => ?_) (fun c_110 => ?_)
        · have hq9 : abv S P k (i + 1) = abv S P k i := by clear hx hb hml hown hr hlocks hw hsz hA hG hK hP4 hS4 hl5 ih_23; grind [abv]
          replace hl5 : lv_has ls5 6 [(5, .int (breadth S i)), (4, .int (nI i)), (3, .int (blw S k i)), (2, .int (abv S P k (i + 1))), (0, .ref (mm 0)), (1, .int (nI k))] := (congrArg (fun z9 => lv_has ls5 6 [(5, .int (breadth S i)), (4, .int (nI i)), (3, .int (blw S k i)), (2, .int z9), (0, .ref (mm 0)), (1, .int (nI k))]) hq9).mpr hl5
          clear hq9
          have hq9 : blw S k (i + 1) = blw S k i := by clear hx hb hml hown hr hlocks hw hsz hA hG hK hP4 hS4 hl5 ih_23; grind [blw]
          replace hl5 : lv_has ls5 6 [(5, .int (breadth S i)), (4, .int (nI i)), (3, .int (blw S k (i + 1))), (2, .int (abv S P k (i + 1))), (0, .ref (mm 0)), (1, .int (nI k))] := (congrArg (fun z9 => lv_has ls5 6 [(5, .int (breadth S i)), (4, .int (nI i)), (3, .int z9), (2, .int (abv S P k (i + 1))), (0, .ref (mm 0)), (1, .int (nI k))]) hq9).mpr hl5
          clear hq9
          refine lv_iinc (v := nI (i + 1)) (lv' := [(4, .int (nI (i + 1))), (5, .int (breadth S i)), (3, .int (blw S k (i + 1))), (2, .int (abv S P k (i + 1))), (0, .ref (mm 0)), (1, .int (nI k))]) hx hb dX7_asked_136 hl5 (k := 1) rfl (nI_inc _) (by decide) rfl (fun ls6 hl6 => ?_)
          clear hl5 ls5
          refine lv_goto (tgt := 23) hx hb dX7_asked_139 (by decide) ?_
          exact ih_23 (i + 1) (by first | omega | assumption | rfl | simp_all) (by (try dsimp only); omega) H4 locs4 ls6 hP4 hS4 (lv_sub hl6 [0, 2, 3, 4, 5] rfl)
        · refine lv_iload_n hx hb dX7_asked_113 rfl (lv_at hl5 3 rfl) ?_
          refine lv_iload hx hb dX7_asked_114 (lv_at hl5 0 rfl) ?_
          refine lv_aload_n hx hb dX7_asked_116 rfl (lv_at hl5 4 rfl) ?_
          refine va_get (D := D) (ci := 7) (v := .ref (mm 6)) (C := RX7) (T := TX7) (N := 23) hx hb hw iX7 hown hK hP4 0 rfl rfl 11 (by decide) (hw _ kw_4_75) (fun _ h9 => h9) rfl dX7_asked_117 ?_
          refine lv_aload_n hx hb dX7_asked_120 rfl (lv_at hl5 4 rfl) ?_
          refine lv_iload hx hb dX7_asked_121 (lv_at hl5 1 rfl) ?_
          refine lv_iconst (v := 1) hx hb dX7_asked_123 (by decide) ?_
          refine rV_i (wc := [mO cy mm ik tl fm tz vl iw rm rr om, ia cy (mm 1) 169 S]) (rest := [.ref (mm 6), .int (breadth S i), .int (abv S P k i)]) hx hb hml hown hw hG hK hP4 hS4 hA hl5 kc_X7_has kw_4_174 [.int (nI i), .int 1] (c_X7_has l D cy G H4.size mm ik tl fm tz vl iw rm rr om S i 1 (by first | omega | assumption) (by first | omega | assumption)) [0, 1] rfl 0 rfl rfl rfl rfl rfl (Nat.le_of_ble_eq_true rfl) ⟨Nat.le_of_ble_eq_true rfl, Nat.le_of_ble_eq_true rfl⟩ dX7_asked_124 ⟨Nat.le_of_ble_eq_true rfl, Nat.le_of_ble_eq_true rfl⟩ (fun r_124 H5 locs5 hr_124 hP5 hS5 => ?_)
          clear hP4 hS4 locs4 H4
          subst hr_124
          refine tp (show (S (9 + 8 * i + 1)) = S (10 + 8 * i) from congrArg _ (by omega)) ?_
          refine tp (show (S (10 + 8 * i)) = nI (rmN S i) from wf_rm wf c_31) ?_
          refine ald_i (f := P) hx hb hK hP5 2 0 rfl rfl (rmN S i) rfl hr6 (by decide) dX7_asked_127 ?_
          refine lv_imul hx hb dX7_asked_128 ?_
          refine lv_iadd hx hb dX7_asked_129 ?_
          refine lv_istore_n (lv' := [(2, .int ((abv S P k i) + ((breadth S i) * (P (rmN S i))))), (5, .int (breadth S i)), (4, .int (nI i)), (3, .int (blw S k i)), (0, .ref (mm 0)), (1, .int (nI k))]) hx hb dX7_asked_130 rfl hl5 (by decide) rfl (fun ls6 hl6 => ?_)
          clear hl5 ls5
          refine lv_iload_n hx hb dX7_asked_131 rfl (lv_at hl6 3 rfl) ?_
          refine lv_iload hx hb dX7_asked_132 (lv_at hl6 1 rfl) ?_
          refine lv_iadd hx hb dX7_asked_134 ?_
          refine lv_istore_n (lv' := [(3, .int ((blw S k i) + (breadth S i))), (2, .int ((abv S P k i) + ((breadth S i) * (P (rmN S i))))), (5, .int (breadth S i)), (4, .int (nI i)), (0, .ref (mm 0)), (1, .int (nI k))]) hx hb dX7_asked_135 rfl hl6 (by decide) rfl (fun ls7 hl7 => ?_)
          clear hl6 ls6
          have hq9 : abv S P k (i + 1) = (abv S P k i) + ((breadth S i) * (P (rmN S i))) := by clear hx hb hml hown hr hlocks hw hsz hA hG hK hP5 hS5 hl7 ih_23; grind [abv]
          replace hl7 : lv_has ls7 6 [(3, .int ((blw S k i) + (breadth S i))), (2, .int (abv S P k (i + 1))), (5, .int (breadth S i)), (4, .int (nI i)), (0, .ref (mm 0)), (1, .int (nI k))] := (congrArg (fun z9 => lv_has ls7 6 [(3, .int ((blw S k i) + (breadth S i))), (2, .int z9), (5, .int (breadth S i)), (4, .int (nI i)), (0, .ref (mm 0)), (1, .int (nI k))]) hq9).mpr hl7
          clear hq9
          have hq9 : blw S k (i + 1) = (blw S k i) + (breadth S i) := by clear hx hb hml hown hr hlocks hw hsz hA hG hK hP5 hS5 hl7 ih_23; grind [blw]
          replace hl7 : lv_has ls7 6 [(3, .int (blw S k (i + 1))), (2, .int (abv S P k (i + 1))), (5, .int (breadth S i)), (4, .int (nI i)), (0, .ref (mm 0)), (1, .int (nI k))] := (congrArg (fun z9 => lv_has ls7 6 [(3, .int z9), (2, .int (abv S P k (i + 1))), (5, .int (breadth S i)), (4, .int (nI i)), (0, .ref (mm 0)), (1, .int (nI k))]) hq9).mpr hl7
          clear hq9
          refine lv_iinc (v := nI (i + 1)) (lv' := [(4, .int (nI (i + 1))), (3, .int (blw S k (i + 1))), (2, .int (abv S P k (i + 1))), (5, .int (breadth S i)), (0, .ref (mm 0)), (1, .int (nI k))]) hx hb dX7_asked_136 hl7 (k := 3) rfl (nI_inc _) (by decide) rfl (fun ls8 hl8 => ?_)
          clear hl7 ls7
          refine lv_goto (tgt := 23) hx hb dX7_asked_139 (by decide) ?_
          exact ih_23 (i + 1) (by first | omega | assumption | rfl | simp_all) (by (try dsimp only); omega) H5 locs5 ls8 hP5 hS5 (lv_sub hl8 [0, 1, 2, 4, 5] rfl)
      · refine lv_iload_n hx hb dX7_asked_53 rfl (lv_at hl5 3 rfl) ?_
        refine lv_iload hx hb dX7_asked_54 (lv_at hl5 0 rfl) ?_
        refine lv_aload_n hx hb dX7_asked_56 rfl (lv_at hl5 4 rfl) ?_
        refine lv_iload hx hb dX7_asked_57 (lv_at hl5 1 rfl) ?_
        refine lv_iconst (v := 2) hx hb dX7_asked_59 (by decide) ?_
        refine rV_i (wc := [mO cy mm ik tl fm tz vl iw rm rr om, ia cy (mm 1) 169 S]) (rest := [.int (breadth S i), .int (abv S P k i)]) hx hb hml hown hw hG hK hP3 hS3 hA hl5 kc_X7_has kw_4_174 [.int (nI i), .int 2] (c_X7_has l D cy G H3.size mm ik tl fm tz vl iw rm rr om S i 2 (by first | omega | assumption) (by first | omega | assumption)) [0, 1] rfl 0 rfl rfl rfl rfl rfl (Nat.le_of_ble_eq_true rfl) ⟨Nat.le_of_ble_eq_true rfl, Nat.le_of_ble_eq_true rfl⟩ dX7_asked_60 ⟨Nat.le_of_ble_eq_true rfl, Nat.le_of_ble_eq_true rfl⟩ (fun r_60 H4 locs4 hr_60 hP4 hS4 => ?_)
        clear hP3 hS3 locs3 H3
        subst hr_60
        refine tp (show (S (9 + 8 * i + 2)) = S (11 + 8 * i) from congrArg _ (by omega)) ?_
        refine lv_iconst (v := (-1)) hx hb dX7_asked_63 (by decide) ?_
        refine lv_icmp_ne (tgt := 79) hx hb dX7_asked_64 (by decide) (fun c_64 => ?_) (fun c_64 => ?_)
        · have ho6 := wf_ot6 wf c_31 c_64
          refine lv_aload_n hx hb dX7_asked_79 rfl (lv_at hl5 4 rfl) ?_
          refine va_get (D := D) (ci := 7) (v := .ref (mm 6)) (C := RX7) (T := TX7) (N := 23) hx hb hw iX7 hown hK hP4 0 rfl rfl 11 (by decide) (hw _ kw_4_75) (fun _ h9 => h9) rfl dX7_asked_80 ?_
          refine lv_aload_n hx hb dX7_asked_83 rfl (lv_at hl5 4 rfl) ?_
          refine lv_iload hx hb dX7_asked_84 (lv_at hl5 1 rfl) ?_
          refine lv_iconst (v := 2) hx hb dX7_asked_86 (by decide) ?_
          refine rV_i (wc := [mO cy mm ik tl fm tz vl iw rm rr om, ia cy (mm 1) 169 S]) (rest := [.ref (mm 6), .int (breadth S i), .int (abv S P k i)]) hx hb hml hown hw hG hK hP4 hS4 hA hl5 kc_X7_has kw_4_174 [.int (nI i), .int 2] (c_X7_has l D cy G H4.size mm ik tl fm tz vl iw rm rr om S i 2 (by first | omega | assumption) (by first | omega | assumption)) [0, 1] rfl 0 rfl rfl rfl rfl rfl (Nat.le_of_ble_eq_true rfl) ⟨Nat.le_of_ble_eq_true rfl, Nat.le_of_ble_eq_true rfl⟩ dX7_asked_87 ⟨Nat.le_of_ble_eq_true rfl, Nat.le_of_ble_eq_true rfl⟩ (fun r_87 H5 locs5 hr_87 hP5 hS5 => ?_)
          clear hP4 hS4 locs4 H4
          subst hr_87
          refine tp (show (S (9 + 8 * i + 2)) = S (11 + 8 * i) from congrArg _ (by omega)) ?_
          refine ald_i (f := P) hx hb hK hP5 2 0 rfl rfl (otN S i) (wf_ot wf c_31 c_64) ho6 (by decide) dX7_asked_90 ?_
          refine lv_imul hx hb dX7_asked_91 ?_
          refine lv_iadd hx hb dX7_asked_92 ?_
          refine lv_istore_n (lv' := [(2, .int ((abv S P k i) + ((breadth S i) * (P (otN S i))))), (5, .int (breadth S i)), (4, .int (nI i)), (3, .int (blw S k i)), (0, .ref (mm 0)), (1, .int (nI k))]) hx hb dX7_asked_93 rfl hl5 (by decide) rfl (fun ls6 hl6 => ?_)
          clear hl5 ls5
          refine lv_iload_n hx hb dX7_asked_94 rfl (lv_at hl6 3 rfl) ?_
          refine lv_iload hx hb dX7_asked_95 (lv_at hl6 1 rfl) ?_
          refine lv_iadd hx hb dX7_asked_97 ?_
          refine lv_istore_n (lv' := [(3, .int ((blw S k i) + (breadth S i))), (2, .int ((abv S P k i) + ((breadth S i) * (P (otN S i))))), (5, .int (breadth S i)), (4, .int (nI i)), (0, .ref (mm 0)), (1, .int (nI k))]) hx hb dX7_asked_98 rfl hl6 (by decide) rfl (fun ls7 hl7 => ?_)
          clear hl6 ls6
          refine lv_goto (tgt := 136) hx hb dX7_asked_99 (by decide) ?_
          have hq9 : abv S P k (i + 1) = (abv S P k i) + ((breadth S i) * (P (otN S i))) := by clear hx hb hml hown hr hlocks hw hsz hA hG hK hP5 hS5 hl7 ih_23; grind [abv]
          replace hl7 : lv_has ls7 6 [(3, .int ((blw S k i) + (breadth S i))), (2, .int (abv S P k (i + 1))), (5, .int (breadth S i)), (4, .int (nI i)), (0, .ref (mm 0)), (1, .int (nI k))] := (congrArg (fun z9 => lv_has ls7 6 [(3, .int ((blw S k i) + (breadth S i))), (2, .int z9), (5, .int (breadth S i)), (4, .int (nI i)), (0, .ref (mm 0)), (1, .int (nI k))]) hq9).mpr hl7
          clear hq9
          have hq9 : blw S k (i + 1) = (blw S k i) + (breadth S i) := by clear hx hb hml hown hr hlocks hw hsz hA hG hK hP5 hS5 hl7 ih_23; grind [blw]
          replace hl7 : lv_has ls7 6 [(3, .int (blw S k (i + 1))), (2, .int (abv S P k (i + 1))), (5, .int (breadth S i)), (4, .int (nI i)), (0, .ref (mm 0)), (1, .int (nI k))] := (congrArg (fun z9 => lv_has ls7 6 [(3, .int z9), (2, .int (abv S P k (i + 1))), (5, .int (breadth S i)), (4, .int (nI i)), (0, .ref (mm 0)), (1, .int (nI k))]) hq9).mpr hl7
          clear hq9
          refine lv_iinc (v := nI (i + 1)) (lv' := [(4, .int (nI (i + 1))), (3, .int (blw S k (i + 1))), (2, .int (abv S P k (i + 1))), (5, .int (breadth S i)), (0, .ref (mm 0)), (1, .int (nI k))]) hx hb dX7_asked_136 hl7 (k := 3) rfl (nI_inc _) (by decide) rfl (fun ls8 hl8 => ?_)
          clear hl7 ls7
          refine lv_goto (tgt := 23) hx hb dX7_asked_139 (by decide) ?_
          exact ih_23 (i + 1) (by first | omega | assumption | rfl | simp_all) (by (try dsimp only); omega) H5 locs5 ls8 hP5 hS5 (lv_sub hl8 [0, 1, 2, 4, 5] rfl)
        · refine lv_bipush (v := 8) hx hb dX7_asked_67 (by decide) ?_
          refine lv_aload_n hx hb dX7_asked_69 rfl (lv_at hl5 4 rfl) ?_
          refine lv_iload hx hb dX7_asked_70 (lv_at hl5 1 rfl) ?_
          refine rV_i (wc := [mO cy mm ik tl fm tz vl iw rm rr om, ia cy (mm 1) 169 S]) (rest := [.int 8, .int (breadth S i), .int (abv S P k i)]) hx hb hml hown hw hG hK hP4 hS4 hA hl5 kc_X7_push kw_4_182 [.int (nI i)] (c_X7_push l D cy G H4.size mm ik tl fm tz vl iw rm rr om S i (by first | omega | assumption) (by first | omega | assumption)) [0, 1] rfl 0 rfl rfl rfl rfl rfl (Nat.le_of_ble_eq_true rfl) ⟨Nat.le_of_ble_eq_true rfl, Nat.le_of_ble_eq_true rfl⟩ dX7_asked_72 ⟨Nat.le_of_ble_eq_true rfl, Nat.le_of_ble_eq_true rfl⟩ (fun r_72 H5 locs5 hr_72 hP5 hS5 => ?_)
          clear hP4 hS4 locs4 H4
          subst hr_72
          refine lv_imul hx hb dX7_asked_75 ?_
          refine lv_goto (tgt := 91) hx hb dX7_asked_76 (by decide) ?_
          refine lv_imul hx hb dX7_asked_91 ?_
          refine lv_iadd hx hb dX7_asked_92 ?_
          refine lv_istore_n (lv' := [(2, .int ((abv S P k i) + ((breadth S i) * (8 * (push S i))))), (5, .int (breadth S i)), (4, .int (nI i)), (3, .int (blw S k i)), (0, .ref (mm 0)), (1, .int (nI k))]) hx hb dX7_asked_93 rfl hl5 (by decide) rfl (fun ls6 hl6 => ?_)
          clear hl5 ls5
          refine lv_iload_n hx hb dX7_asked_94 rfl (lv_at hl6 3 rfl) ?_
          refine lv_iload hx hb dX7_asked_95 (lv_at hl6 1 rfl) ?_
          refine lv_iadd hx hb dX7_asked_97 ?_
          refine lv_istore_n (lv' := [(3, .int ((blw S k i) + (breadth S i))), (2, .int ((abv S P k i) + ((breadth S i) * (8 * (push S i))))), (5, .int (breadth S i)), (4, .int (nI i)), (0, .ref (mm 0)), (1, .int (nI k))]) hx hb dX7_asked_98 rfl hl6 (by decide) rfl (fun ls7 hl7 => ?_)
          clear hl6 ls6
          refine lv_goto (tgt := 136) hx hb dX7_asked_99 (by decide) ?_
          have hq9 : abv S P k (i + 1) = (abv S P k i) + ((breadth S i) * (8 * (push S i))) := by clear hx hb hml hown hr hlocks hw hsz hA hG hK hP5 hS5 hl7 ih_23; grind [abv]
          replace hl7 : lv_has ls7 6 [(3, .int ((blw S k i) + (breadth S i))), (2, .int (abv S P k (i + 1))), (5, .int (breadth S i)), (4, .int (nI i)), (0, .ref (mm 0)), (1, .int (nI k))] := (congrArg (fun z9 => lv_has ls7 6 [(3, .int ((blw S k i) + (breadth S i))), (2, .int z9), (5, .int (breadth S i)), (4, .int (nI i)), (0, .ref (mm 0)), (1, .int (nI k))]) hq9).mpr hl7
          clear hq9
          have hq9 : blw S k (i + 1) = (blw S k i) + (breadth S i) := by clear hx hb hml hown hr hlocks hw hsz hA hG hK hP5 hS5 hl7 ih_23; grind [blw]
          replace hl7 : lv_has ls7 6 [(3, .int (blw S k (i + 1))), (2, .int (abv S P k (i + 1))), (5, .int (breadth S i)), (4, .int (nI i)), (0, .ref (mm 0)), (1, .int (nI k))] := (congrArg (fun z9 => lv_has ls7 6 [(3, .int z9), (2, .int (abv S P k (i + 1))), (5, .int (breadth S i)), (4, .int (nI i)), (0, .ref (mm 0)), (1, .int (nI k))]) hq9).mpr hl7
          clear hq9
          refine lv_iinc (v := nI (i + 1)) (lv' := [(4, .int (nI (i + 1))), (3, .int (blw S k (i + 1))), (2, .int (abv S P k (i + 1))), (5, .int (breadth S i)), (0, .ref (mm 0)), (1, .int (nI k))]) hx hb dX7_asked_136 hl7 (k := 3) rfl (nI_inc _) (by decide) rfl (fun ls8 hl8 => ?_)
          clear hl7 ls7
          refine lv_goto (tgt := 23) hx hb dX7_asked_139 (by decide) ?_
          exact ih_23 (i + 1) (by first | omega | assumption | rfl | simp_all) (by (try dsimp only); omega) H5 locs5 ls8 hP5 hS5 (lv_sub hl8 [0, 1, 2, 4, 5] rfl)
  · refine lv_bipush (v := 80) hx hb dX7_asked_4 (by decide) ?_
    refine lv_aload_n hx hb dX7_asked_6 rfl (lv_at hl0 0 rfl) ?_
    refine va_get (D := D) (ci := 7) (v := .ref (mm 1)) (C := RX7) (T := TX7) (N := 23) hx hb hw iX7 hown hK hP0 0 rfl rfl 0 (by decide) (hw _ kw_4_64) (fun _ h9 => h9) rfl dX7_asked_7 ?_
    refine lv_iconst (v := 5) hx hb dX7_asked_10 (by decide) ?_
    refine ald_i (f := S) hx hb hK hP0 1 0 rfl rfl 5 rfl (by first | omega | assumption) (by decide) dX7_asked_11 ?_
    refine lv_imul hx hb dX7_asked_12 ?_
    refine lv_goto (tgt := 17) hx hb dX7_asked_13 (by decide) ?_
    refine lv_istore_n (lv' := [(2, .int (80 * (S 5))), (0, .ref (mm 0)), (1, .int (nI k))]) hx hb dX7_asked_17 rfl hl0 (by decide) rfl (fun ls1 hl1 => ?_)
    clear hl0 ls0
    refine lv_iconst (v := 0) hx hb dX7_asked_18 (by decide) ?_
    refine lv_istore_n (lv' := [(3, .int 0), (2, .int (80 * (S 5))), (0, .ref (mm 0)), (1, .int (nI k))]) hx hb dX7_asked_19 rfl hl1 (by decide) rfl (fun ls2 hl2 => ?_)
    clear hl1 ls1
    refine lv_iconst (v := 0) hx hb dX7_asked_20 (by decide) ?_
    refine lv_istore (lv' := [(4, .int 0), (3, .int 0), (2, .int (80 * (S 5))), (0, .ref (mm 0)), (1, .int (nI k))]) hx hb dX7_asked_21 hl2 (by decide) rfl (fun ls3 hl3 => ?_)
    clear hl2 ls2
    have hq9 : abv S P k 0 = 80 * (S 5) := by have e9 : nI k = 0 ↔ k = 0 := nI_eq (b := 0) (by omega) (by decide); clear hx hb hml hown hr hlocks hw hsz hA hG hK hP0 hS0 hl3; grind [abv]
    replace hl3 : lv_has ls3 6 [(4, .int 0), (3, .int 0), (2, .int (abv S P k 0)), (0, .ref (mm 0)), (1, .int (nI k))] := (congrArg (fun z9 => lv_has ls3 6 [(4, .int 0), (3, .int 0), (2, .int z9), (0, .ref (mm 0)), (1, .int (nI k))]) hq9).mpr hl3
    clear hq9
    have hq9 : blw S k 0 = 0 := rfl
    replace hl3 : lv_has ls3 6 [(4, .int 0), (3, .int (blw S k 0)), (2, .int (abv S P k 0)), (0, .ref (mm 0)), (1, .int (nI k))] := (congrArg (fun z9 => lv_has ls3 6 [(4, .int 0), (3, .int z9), (2, .int (abv S P k 0)), (0, .ref (mm 0)), (1, .int (nI k))]) hq9).mpr hl3
    clear hq9
    refine rlp (ι := Nat) (nL := 6) (ws := [mO cy mm ik tl fm tz vl iw rm rr om, ia cy (mm 1) 169 S, ia cy (mm 6) 6 P]) (fun x9 => (x9 ≤ gcN S)) (fun x9 => [(4, .int (nI x9)), (3, .int (blw S k x9)), (2, .int (abv S P k x9)), (0, .ref (mm 0)), (1, .int (nI k))]) (fun x9 => []) (fun x9 => gcN S - x9) 23 ?_ 0 (by first | omega | assumption | rfl | simp_all) rfl hP0 hS0 (lv_sub hl3 [0, 1, 2, 3, 4] rfl)
    clear hP0 hS0 locs0 H0 hl3 ls3
    intro x9 hI ih_23 H1 locs1 ls4 hP1 hS1 hl4
    obtain ⟨i, rfl⟩ : ∃ z9, z9 = x9 := ⟨_, rfl⟩
    have hi := hI
    replace hi : i ≤ gcN S := hi
    replace hP1 : va_P D vwCl ([mO cy mm ik tl fm tz vl iw rm rr om, ia cy (mm 1) 169 S, ia cy (mm 6) 6 P]) H1 := hP1
    replace hl4 : lv_has ls4 6 [(4, .int (nI i)), (3, .int (blw S k i)), (2, .int (abv S P k i)), (0, .ref (mm 0)), (1, .int (nI k))] := hl4
    show W p l e _ s m _ below meth c _ _ _ _ _ (F0 m 23 ls4 [])
    refine lv_iload hx hb dX7_asked_23 (lv_at hl4 0 rfl) ?_
    refine lv_aload_n hx hb dX7_asked_25 rfl (lv_at hl4 3 rfl) ?_
    refine va_get (D := D) (ci := 7) (v := .ref (mm 1)) (C := RX7) (T := TX7) (N := 23) hx hb hw iX7 hown hK hP1 0 rfl rfl 0 (by decide) (hw _ kw_4_64) (fun _ h9 => h9) rfl dX7_asked_26 ?_
    refine lv_iconst (v := 1) hx hb dX7_asked_29 (by decide) ?_
    refine ald_i (f := S) hx hb hK hP1 1 0 rfl rfl 1 rfl (by first | omega | assumption) (by decide) dX7_asked_30 ?_
    refine tp (show (S 1) = nI (gcN S) from wf_g wf) ?_
    refine ln_ge (tgt := 142) i (gcN S) rfl rfl (by omega) (by omega) hx hb dX7_asked_31 (by decide) (fun c_31 => ?_) (fun c_31 => ?_)
    · obtain rfl : i = gcN S := (by omega)
      refine lv_iload_n hx hb dX7_asked_142 rfl (lv_at hl4 1 rfl) ?_
      refine lv_if_ne (tgt := 150) hx hb dX7_asked_143 (by decide) (fun c_143 => ?_) (fun c_143 => ?_)
      · refine lv_iload_n hx hb dX7_asked_150 rfl (lv_at hl4 2 rfl) ?_
        refine lv_iload_n hx hb dX7_asked_151 rfl (lv_at hl4 1 rfl) ?_
        refine lv_idiv hx hb dX7_asked_152 (c_143) ?_
        exact rd_i hx hb hr hlocks hS1 dX7_asked_153 (by clear hx hb hml hown hr hlocks hw hsz hA hG hK hP1 hS1 hl4 ih_23; grind [asked])
      · refine lv_iconst (v := 0) hx hb dX7_asked_146 (by decide) ?_
        refine lv_goto (tgt := 153) hx hb dX7_asked_147 (by decide) ?_
        exact rd_i hx hb hr hlocks hS1 dX7_asked_153 (by clear hx hb hml hown hr hlocks hw hsz hA hG hK hP1 hS1 hl4 ih_23; grind [asked])
    · have hr6 := wf_rm6 wf c_31
      have hotk := ot_k (k := k) wf c_31 hk
      refine lv_aload_n hx hb dX7_asked_34 rfl (lv_at hl4 3 rfl) ?_
      refine lv_iload hx hb dX7_asked_35 (lv_at hl4 0 rfl) ?_
      refine rV_i (wc := [mO cy mm ik tl fm tz vl iw rm rr om, ia cy (mm 1) 169 S]) (rest := []) hx hb hml hown hw hG hK hP1 hS1 hA hl4 kc_X7_breadth kw_4_178 [.int (nI i)] (c_X7_breadth l D cy G H1.size mm ik tl fm tz vl iw rm rr om S i (by first | omega | assumption) (by first | omega | assumption)) [0, 1] rfl 0 rfl rfl rfl rfl rfl (Nat.le_of_ble_eq_true rfl) ⟨Nat.le_of_ble_eq_true rfl, Nat.le_of_ble_eq_true rfl⟩ dX7_asked_37 ⟨Nat.le_of_ble_eq_true rfl, Nat.le_of_ble_eq_true rfl⟩ (fun r_37 H2 locs2 hr_37 hP2 hS2 => ?_)
      clear hP1 hS1 locs1 H1
      subst hr_37
      refine lv_istore (lv' := [(5, .int (breadth S i)), (4, .int (nI i)), (3, .int (blw S k i)), (2, .int (abv S P k i)), (0, .ref (mm 0)), (1, .int (nI k))]) hx hb dX7_asked_40 hl4 (by decide) rfl (fun ls5 hl5 => ?_)
      clear hl4 ls4
      refine lv_aload_n hx hb dX7_asked_42 rfl (lv_at hl5 4 rfl) ?_
      refine lv_iload hx hb dX7_asked_43 (lv_at hl5 1 rfl) ?_
      refine lv_iconst (v := 1) hx hb dX7_asked_45 (by decide) ?_
      refine rV_i (wc := [mO cy mm ik tl fm tz vl iw rm rr om, ia cy (mm 1) 169 S]) (rest := []) hx hb hml hown hw hG hK hP2 hS2 hA hl5 kc_X7_has kw_4_174 [.int (nI i), .int 1] (c_X7_has l D cy G H2.size mm ik tl fm tz vl iw rm rr om S i 1 (by first | omega | assumption) (by first | omega | assumption)) [0, 1] rfl 0 rfl rfl rfl rfl rfl (Nat.le_of_ble_eq_true rfl) ⟨Nat.le_of_ble_eq_true rfl, Nat.le_of_ble_eq_true rfl⟩ dX7_asked_46 ⟨Nat.le_of_ble_eq_true rfl, Nat.le_of_ble_eq_true rfl⟩ (fun r_46 H3 locs3 hr_46 hP3 hS3 => ?_)
      clear hP2 hS2 locs2 H2
      subst hr_46
      refine tp (show (S (9 + 8 * i + 1)) = S (10 + 8 * i) from congrArg _ (by omega)) ?_
      refine tp (show (S (10 + 8 * i)) = nI (rmN S i) from wf_rm wf c_31) ?_
      refine lv_iload_n hx hb dX7_asked_49 rfl (lv_at hl5 5 rfl) ?_
      refine ln_ne (tgt := 102) (rmN S i) k rfl rfl (by omega) (by omega) hx hb dX7_asked_50 (by decide) (fun c_50 => ?_) (fun c_50 => ?_)
      · refine lv_aload_n hx hb dX7_asked_102 rfl (lv_at hl5 4 rfl) ?_
        refine lv_iload hx hb dX7_asked_103 (lv_at hl5 1 rfl) ?_
        refine lv_iconst (v := 2) hx hb dX7_asked_105 (by decide) ?_
        refine rV_i (wc := [mO cy mm ik tl fm tz vl iw rm rr om, ia cy (mm 1) 169 S]) (rest := []) hx hb hml hown hw hG hK hP3 hS3 hA hl5 kc_X7_has kw_4_174 [.int (nI i), .int 2] (c_X7_has l D cy G H3.size mm ik tl fm tz vl iw rm rr om S i 2 (by first | omega | assumption) (by first | omega | assumption)) [0, 1] rfl 0 rfl rfl rfl rfl rfl (Nat.le_of_ble_eq_true rfl) ⟨Nat.le_of_ble_eq_true rfl, Nat.le_of_ble_eq_true rfl⟩ dX7_asked_106 ⟨Nat.le_of_ble_eq_true rfl, Nat.le_of_ble_eq_true rfl⟩ (fun r_106 H4 locs4 hr_106 hP4 hS4 => ?_)
        clear hP3 hS3 locs3 H3
        subst hr_106
        refine tp (show (S (9 + 8 * i + 2)) = S (11 + 8 * i) from congrArg _ (by omega)) ?_
        refine lv_iload_n hx hb dX7_asked_109 rfl (lv_at hl5 5 rfl) ?_
        refine lv_icmp_ne (tgt := 136) hx hb dX7_asked_110 (by decide) (fun c_110 => ?_) (fun c_110 => ?_)
        · have hq9 : abv S P k (i + 1) = abv S P k i := by clear hx hb hml hown hr hlocks hw hsz hA hG hK hP4 hS4 hl5 ih_23; grind [abv]
          replace hl5 : lv_has ls5 6 [(5, .int (breadth S i)), (4, .int (nI i)), (3, .int (blw S k i)), (2, .int (abv S P k (i + 1))), (0, .ref (mm 0)), (1, .int (nI k))] := (congrArg (fun z9 => lv_has ls5 6 [(5, .int (breadth S i)), (4, .int (nI i)), (3, .int (blw S k i)), (2, .int z9), (0, .ref (mm 0)), (1, .int (nI k))]) hq9).mpr hl5
          clear hq9
          have hq9 : blw S k (i + 1) = blw S k i := by clear hx hb hml hown hr hlocks hw hsz hA hG hK hP4 hS4 hl5 ih_23; grind [blw]
          replace hl5 : lv_has ls5 6 [(5, .int (breadth S i)), (4, .int (nI i)), (3, .int (blw S k (i + 1))), (2, .int (abv S P k (i + 1))), (0, .ref (mm 0)), (1, .int (nI k))] := (congrArg (fun z9 => lv_has ls5 6 [(5, .int (breadth S i)), (4, .int (nI i)), (3, .int z9), (2, .int (abv S P k (i + 1))), (0, .ref (mm 0)), (1, .int (nI k))]) hq9).mpr hl5
          clear hq9
          refine lv_iinc (v := nI (i + 1)) (lv' := [(4, .int (nI (i + 1))), (5, .int (breadth S i)), (3, .int (blw S k (i + 1))), (2, .int (abv S P k (i + 1))), (0, .ref (mm 0)), (1, .int (nI k))]) hx hb dX7_asked_136 hl5 (k := 1) rfl (nI_inc _) (by decide) rfl (fun ls6 hl6 => ?_)
          clear hl5 ls5
          refine lv_goto (tgt := 23) hx hb dX7_asked_139 (by decide) ?_
          exact ih_23 (i + 1) (by first | omega | assumption | rfl | simp_all) (by (try dsimp only); omega) H4 locs4 ls6 hP4 hS4 (lv_sub hl6 [0, 2, 3, 4, 5] rfl)
        · refine lv_iload_n hx hb dX7_asked_113 rfl (lv_at hl5 3 rfl) ?_
          refine lv_iload hx hb dX7_asked_114 (lv_at hl5 0 rfl) ?_
          refine lv_aload_n hx hb dX7_asked_116 rfl (lv_at hl5 4 rfl) ?_
          refine va_get (D := D) (ci := 7) (v := .ref (mm 6)) (C := RX7) (T := TX7) (N := 23) hx hb hw iX7 hown hK hP4 0 rfl rfl 11 (by decide) (hw _ kw_4_75) (fun _ h9 => h9) rfl dX7_asked_117 ?_
          refine lv_aload_n hx hb dX7_asked_120 rfl (lv_at hl5 4 rfl) ?_
          refine lv_iload hx hb dX7_asked_121 (lv_at hl5 1 rfl) ?_
          refine lv_iconst (v := 1) hx hb dX7_asked_123 (by decide) ?_
          refine rV_i (wc := [mO cy mm ik tl fm tz vl iw rm rr om, ia cy (mm 1) 169 S]) (rest := [.ref (mm 6), .int (breadth S i), .int (abv S P k i)]) hx hb hml hown hw hG hK hP4 hS4 hA hl5 kc_X7_has kw_4_174 [.int (nI i), .int 1] (c_X7_has l D cy G H4.size mm ik tl fm tz vl iw rm rr om S i 1 (by first | omega | assumption) (by first | omega | assumption)) [0, 1] rfl 0 rfl rfl rfl rfl rfl (Nat.le_of_ble_eq_true rfl) ⟨Nat.le_of_ble_eq_true rfl, Nat.le_of_ble_eq_true rfl⟩ dX7_asked_124 ⟨Nat.le_of_ble_eq_true rfl, Nat.le_of_ble_eq_true rfl⟩ (fun r_124 H5 locs5 hr_124 hP5 hS5 => ?_)
          clear hP4 hS4 locs4 H4
          subst hr_124
          refine tp (show (S (9 + 8 * i + 1)) = S (10 + 8 * i) from congrArg _ (by omega)) ?_
          refine tp (show (S (10 + 8 * i)) = nI (rmN S i) from wf_rm wf c_31) ?_
          refine ald_i (f := P) hx hb hK hP5 2 0 rfl rfl (rmN S i) rfl hr6 (by decide) dX7_asked_127 ?_
          refine lv_imul hx hb dX7_asked_128 ?_
          refine lv_iadd hx hb dX7_asked_129 ?_
          refine lv_istore_n (lv' := [(2, .int ((abv S P k i) + ((breadth S i) * (P (rmN S i))))), (5, .int (breadth S i)), (4, .int (nI i)), (3, .int (blw S k i)), (0, .ref (mm 0)), (1, .int (nI k))]) hx hb dX7_asked_130 rfl hl5 (by decide) rfl (fun ls6 hl6 => ?_)
          clear hl5 ls5
          refine lv_iload_n hx hb dX7_asked_131 rfl (lv_at hl6 3 rfl) ?_
          refine lv_iload hx hb dX7_asked_132 (lv_at hl6 1 rfl) ?_
          refine lv_iadd hx hb dX7_asked_134 ?_
          refine lv_istore_n (lv' := [(3, .int ((blw S k i) + (breadth S i))), (2, .int ((abv S P k i) + ((breadth S i) * (P (rmN S i))))), (5, .int (breadth S i)), (4, .int (nI i)), (0, .ref (mm 0)), (1, .int (nI k))]) hx hb dX7_asked_135 rfl hl6 (by decide) rfl (fun ls7 hl7 => ?_)
          clear hl6 ls6
          have hq9 : abv S P k (i + 1) = (abv S P k i) + ((breadth S i) * (P (rmN S i))) := by clear hx hb hml hown hr hlocks hw hsz hA hG hK hP5 hS5 hl7 ih_23; grind [abv]
          replace hl7 : lv_has ls7 6 [(3, .int ((blw S k i) + (breadth S i))), (2, .int (abv S P k (i + 1))), (5, .int (breadth S i)), (4, .int (nI i)), (0, .ref (mm 0)), (1, .int (nI k))] := (congrArg (fun z9 => lv_has ls7 6 [(3, .int ((blw S k i) + (breadth S i))), (2, .int z9), (5, .int (breadth S i)), (4, .int (nI i)), (0, .ref (mm 0)), (1, .int (nI k))]) hq9).mpr hl7
          clear hq9
          have hq9 : blw S k (i + 1) = (blw S k i) + (breadth S i) := by clear hx hb hml hown hr hlocks hw hsz hA hG hK hP5 hS5 hl7 ih_23; grind [blw]
          replace hl7 : lv_has ls7 6 [(3, .int (blw S k (i + 1))), (2, .int (abv S P k (i + 1))), (5, .int (breadth S i)), (4, .int (nI i)), (0, .ref (mm 0)), (1, .int (nI k))] := (congrArg (fun z9 => lv_has ls7 6 [(3, .int z9), (2, .int (abv S P k (i + 1))), (5, .int (breadth S i)), (4, .int (nI i)), (0, .ref (mm 0)), (1, .int (nI k))]) hq9).mpr hl7
          clear hq9
          refine lv_iinc (v := nI (i + 1)) (lv' := [(4, .int (nI (i + 1))), (3, .int (blw S k (i + 1))), (2, .int (abv S P k (i + 1))), (5, .int (breadth S i)), (0, .ref (mm 0)), (1, .int (nI k))]) hx hb dX7_asked_136 hl7 (k := 3) rfl (nI_inc _) (by decide) rfl (fun ls8 hl8 => ?_)
          clear hl7 ls7
          refine lv_goto (tgt := 23) hx hb dX7_asked_139 (by decide) ?_
          exact ih_23 (i + 1) (by first | omega | assumption | rfl | simp_all) (by (try dsimp only); omega) H5 locs5 ls8 hP5 hS5 (lv_sub hl8 [0, 1, 2, 4, 5] rfl)
      · refine lv_iload_n hx hb dX7_asked_53 rfl (lv_at hl5 3 rfl) ?_
        refine lv_iload hx hb dX7_asked_54 (lv_at hl5 0 rfl) ?_
        refine lv_aload_n hx hb dX7_asked_56 rfl (lv_at hl5 4 rfl) ?_
        refine lv_iload hx hb dX7_asked_57 (lv_at hl5 1 rfl) ?_
        refine lv_iconst (v := 2) hx hb dX7_asked_59 (by decide) ?_
        refine rV_i (wc := [mO cy mm ik tl fm tz vl iw rm rr om, ia cy (mm 1) 169 S]) (rest := [.int (breadth S i), .int (abv S P k i)]) hx hb hml hown hw hG hK hP3 hS3 hA hl5 kc_X7_has kw_4_174 [.int (nI i), .int 2] (c_X7_has l D cy G H3.size mm ik tl fm tz vl iw rm rr om S i 2 (by first | omega | assumption) (by first | omega | assumption)) [0, 1] rfl 0 rfl rfl rfl rfl rfl (Nat.le_of_ble_eq_true rfl) ⟨Nat.le_of_ble_eq_true rfl, Nat.le_of_ble_eq_true rfl⟩ dX7_asked_60 ⟨Nat.le_of_ble_eq_true rfl, Nat.le_of_ble_eq_true rfl⟩ (fun r_60 H4 locs4 hr_60 hP4 hS4 => ?_)
        clear hP3 hS3 locs3 H3
        subst hr_60
        refine tp (show (S (9 + 8 * i + 2)) = S (11 + 8 * i) from congrArg _ (by omega)) ?_
        refine lv_iconst (v := (-1)) hx hb dX7_asked_63 (by decide) ?_
        refine lv_icmp_ne (tgt := 79) hx hb dX7_asked_64 (by decide) (fun c_64 => ?_) (fun c_64 => ?_)
        · have ho6 := wf_ot6 wf c_31 c_64
          refine lv_aload_n hx hb dX7_asked_79 rfl (lv_at hl5 4 rfl) ?_
          refine va_get (D := D) (ci := 7) (v := .ref (mm 6)) (C := RX7) (T := TX7) (N := 23) hx hb hw iX7 hown hK hP4 0 rfl rfl 11 (by decide) (hw _ kw_4_75) (fun _ h9 => h9) rfl dX7_asked_80 ?_
          refine lv_aload_n hx hb dX7_asked_83 rfl (lv_at hl5 4 rfl) ?_
          refine lv_iload hx hb dX7_asked_84 (lv_at hl5 1 rfl) ?_
          refine lv_iconst (v := 2) hx hb dX7_asked_86 (by decide) ?_
          refine rV_i (wc := [mO cy mm ik tl fm tz vl iw rm rr om, ia cy (mm 1) 169 S]) (rest := [.ref (mm 6), .int (breadth S i), .int (abv S P k i)]) hx hb hml hown hw hG hK hP4 hS4 hA hl5 kc_X7_has kw_4_174 [.int (nI i), .int 2] (c_X7_has l D cy G H4.size mm ik tl fm tz vl iw rm rr om S i 2 (by first | omega | assumption) (by first | omega | assumption)) [0, 1] rfl 0 rfl rfl rfl rfl rfl (Nat.le_of_ble_eq_true rfl) ⟨Nat.le_of_ble_eq_true rfl, Nat.le_of_ble_eq_true rfl⟩ dX7_asked_87 ⟨Nat.le_of_ble_eq_true rfl, Nat.le_of_ble_eq_true rfl⟩ (fun r_87 H5 locs5 hr_87 hP5 hS5 => ?_)
          clear hP4 hS4 locs4 H4
          subst hr_87
          refine tp (show (S (9 + 8 * i + 2)) = S (11 + 8 * i) from congrArg _ (by omega)) ?_
          refine ald_i (f := P) hx hb hK hP5 2 0 rfl rfl (otN S i) (wf_ot wf c_31 c_64) ho6 (by decide) dX7_asked_90 ?_
          refine lv_imul hx hb dX7_asked_91 ?_
          refine lv_iadd hx hb dX7_asked_92 ?_
          refine lv_istore_n (lv' := [(2, .int ((abv S P k i) + ((breadth S i) * (P (otN S i))))), (5, .int (breadth S i)), (4, .int (nI i)), (3, .int (blw S k i)), (0, .ref (mm 0)), (1, .int (nI k))]) hx hb dX7_asked_93 rfl hl5 (by decide) rfl (fun ls6 hl6 => ?_)
          clear hl5 ls5
          refine lv_iload_n hx hb dX7_asked_94 rfl (lv_at hl6 3 rfl) ?_
          refine lv_iload hx hb dX7_asked_95 (lv_at hl6 1 rfl) ?_
          refine lv_iadd hx hb dX7_asked_97 ?_
          refine lv_istore_n (lv' := [(3, .int ((blw S k i) + (breadth S i))), (2, .int ((abv S P k i) + ((breadth S i) * (P (otN S i))))), (5, .int (breadth S i)), (4, .int (nI i)), (0, .ref (mm 0)), (1, .int (nI k))]) hx hb dX7_asked_98 rfl hl6 (by decide) rfl (fun ls7 hl7 => ?_)
          clear hl6 ls6
          refine lv_goto (tgt := 136) hx hb dX7_asked_99 (by decide) ?_
          have hq9 : abv S P k (i + 1) = (abv S P k i) + ((breadth S i) * (P (otN S i))) := by clear hx hb hml hown hr hlocks hw hsz hA hG hK hP5 hS5 hl7 ih_23; grind [abv]
          replace hl7 : lv_has ls7 6 [(3, .int ((blw S k i) + (breadth S i))), (2, .int (abv S P k (i + 1))), (5, .int (breadth S i)), (4, .int (nI i)), (0, .ref (mm 0)), (1, .int (nI k))] := (congrArg (fun z9 => lv_has ls7 6 [(3, .int ((blw S k i) + (breadth S i))), (2, .int z9), (5, .int (breadth S i)), (4, .int (nI i)), (0, .ref (mm 0)), (1, .int (nI k))]) hq9).mpr hl7
          clear hq9
          have hq9 : blw S k (i + 1) = (blw S k i) + (breadth S i) := by clear hx hb hml hown hr hlocks hw hsz hA hG hK hP5 hS5 hl7 ih_23; grind [blw]
          replace hl7 : lv_has ls7 6 [(3, .int (blw S k (i + 1))), (2, .int (abv S P k (i + 1))), (5, .int (breadth S i)), (4, .int (nI i)), (0, .ref (mm 0)), (1, .int (nI k))] := (congrArg (fun z9 => lv_has ls7 6 [(3, .int z9), (2, .int (abv S P k (i + 1))), (5, .int (breadth S i)), (4, .int (nI i)), (0, .ref (mm 0)), (1, .int (nI k))]) hq9).mpr hl7
          clear hq9
          refine lv_iinc (v := nI (i + 1)) (lv' := [(4, .int (nI (i + 1))), (3, .int (blw S k (i + 1))), (2, .int (abv S P k (i + 1))), (5, .int (breadth S i)), (0, .ref (mm 0)), (1, .int (nI k))]) hx hb dX7_asked_136 hl7 (k := 3) rfl (nI_inc _) (by decide) rfl (fun ls8 hl8 => ?_)
          clear hl7 ls7
          refine lv_goto (tgt := 23) hx hb dX7_asked_139 (by decide) ?_
          exact ih_23 (i + 1) (by first | omega | assumption | rfl | simp_all) (by (try dsimp only); omega) H5 locs5 ls8 hP5 hS5 (lv_sub hl8 [0, 1, 2, 4, 5] rfl)
        · refine lv_bipush (v := 8) hx hb dX7_asked_67 (by decide) ?_
          refine lv_aload_n hx hb dX7_asked_69 rfl (lv_at hl5 4 rfl) ?_
          refine lv_iload hx hb dX7_asked_70 (lv_at hl5 1 rfl) ?_
          refine rV_i (wc := [mO cy mm ik tl fm tz vl iw rm rr om, ia cy (mm 1) 169 S]) (rest := [.int 8, .int (breadth S i), .int (abv S P k i)]) hx hb hml hown hw hG hK hP4 hS4 hA hl5 kc_X7_push kw_4_182 [.int (nI i)] (c_X7_push l D cy G H4.size mm ik tl fm tz vl iw rm rr om S i (by first | omega | assumption) (by first | omega | assumption)) [0, 1] rfl 0 rfl rfl rfl rfl rfl (Nat.le_of_ble_eq_true rfl) ⟨Nat.le_of_ble_eq_true rfl, Nat.le_of_ble_eq_true rfl⟩ dX7_asked_72 ⟨Nat.le_of_ble_eq_true rfl, Nat.le_of_ble_eq_true rfl⟩ (fun r_72 H5 locs5 hr_72 hP5 hS5 => ?_)
          clear hP4 hS4 locs4 H4
          subst hr_72
          refine lv_imul hx hb dX7_asked_75 ?_
          refine lv_goto (tgt := 91) hx hb dX7_asked_76 (by decide) ?_
          refine lv_imul hx hb dX7_asked_91 ?_
          refine lv_iadd hx hb dX7_asked_92 ?_
          refine lv_istore_n (lv' := [(2, .int ((abv S P k i) + ((breadth S i) * (8 * (push S i))))), (5, .int (breadth S i)), (4, .int (nI i)), (3, .int (blw S k i)), (0, .ref (mm 0)), (1, .int (nI k))]) hx hb dX7_asked_93 rfl hl5 (by decide) rfl (fun ls6 hl6 => ?_)
          clear hl5 ls5
          refine lv_iload_n hx hb dX7_asked_94 rfl (lv_at hl6 3 rfl) ?_
          refine lv_iload hx hb dX7_asked_95 (lv_at hl6 1 rfl) ?_
          refine lv_iadd hx hb dX7_asked_97 ?_
          refine lv_istore_n (lv' := [(3, .int ((blw S k i) + (breadth S i))), (2, .int ((abv S P k i) + ((breadth S i) * (8 * (push S i))))), (5, .int (breadth S i)), (4, .int (nI i)), (0, .ref (mm 0)), (1, .int (nI k))]) hx hb dX7_asked_98 rfl hl6 (by decide) rfl (fun ls7 hl7 => ?_)
          clear hl6 ls6
          refine lv_goto (tgt := 136) hx hb dX7_asked_99 (by decide) ?_
          have hq9 : abv S P k (i + 1) = (abv S P k i) + ((breadth S i) * (8 * (push S i))) := by clear hx hb hml hown hr hlocks hw hsz hA hG hK hP5 hS5 hl7 ih_23; grind [abv]
          replace hl7 : lv_has ls7 6 [(3, .int ((blw S k i) + (breadth S i))), (2, .int (abv S P k (i + 1))), (5, .int (breadth S i)), (4, .int (nI i)), (0, .ref (mm 0)), (1, .int (nI k))] := (congrArg (fun z9 => lv_has ls7 6 [(3, .int ((blw S k i) + (breadth S i))), (2, .int z9), (5, .int (breadth S i)), (4, .int (nI i)), (0, .ref (mm 0)), (1, .int (nI k))]) hq9).mpr hl7
          clear hq9
          have hq9 : blw S k (i + 1) = (blw S k i) + (breadth S i) := by clear hx hb hml hown hr hlocks hw hsz hA hG hK hP5 hS5 hl7 ih_23; grind [blw]
          replace hl7 : lv_has ls7 6 [(3, .int (blw S k (i + 1))), (2, .int (abv S P k (i + 1))), (5, .int (breadth S i)), (4, .int (nI i)), (0, .ref (mm 0)), (1, .int (nI k))] := (congrArg (fun z9 => lv_has ls7 6 [(3, .int z9), (2, .int (abv S P k (i + 1))), (5, .int (breadth S i)), (4, .int (nI i)), (0, .ref (mm 0)), (1, .int (nI k))]) hq9).mpr hl7
          clear hq9
          refine lv_iinc (v := nI (i + 1)) (lv' := [(4, .int (nI (i + 1))), (3, .int (blw S k (i + 1))), (2, .int (abv S P k (i + 1))), (5, .int (breadth S i)), (0, .ref (mm 0)), (1, .int (nI k))]) hx hb dX7_asked_136 hl7 (k := 3) rfl (nI_inc _) (by decide) rfl (fun ls8 hl8 => ?_)
          clear hl7 ls7
          refine lv_goto (tgt := 23) hx hb dX7_asked_139 (by decide) ?_
          exact ih_23 (i + 1) (by first | omega | assumption | rfl | simp_all) (by (try dsimp only); omega) H5 locs5 ls8 hP5 hS5 (lv_sub hl8 [0, 1, 2, 4, 5] rfl)

theorem kc_X7_round : kV yX7_round cX7_round 3 (some .boolean) 0 := ⟨kw_5_63, kw_s_50, kw_1_8, kw_5_64, by decide, by decide, by decide +kernel⟩
set_option maxHeartbeats 4000000 in
set_option maxRecDepth 100000 in
theorem c_X7_round (l : Launch) (D : va_G) (cy : Nat → ClassId) (G : Nat → Nat) (sz : Nat) (mm : Nat → Nat) (ik : Int32) (tl : Int32) (fm : Int32) (tz : Int32) (vl : Int32) (iw : Int32) (rm : Int32) (rr : Int32) (om : Int32) (S : Nat → Int32) (P : Nat → Int32) (N : Nat → Int32) (wf : wf S) : Met l yX7_round (wm yX7_round cX7_round 3 (some .boolean)) { frames := 3, cells := 0, slots := 0, locals := 70 } (va_Pc [.ref (mm 0)] (pr D (TY cy) G ([mO cy mm ik tl fm tz vl iw rm rr om, ia cy (mm 1) 169 S, ia cy (mm 6) 6 P, ia cy (mm 7) 6 N]) sz)) (va_Qi (fun (r : Int32) (u : Unit) => r = b2i (chgG (asked S) (rcN S) P = true)) (fun (u : Unit) t => po D (va_A ([mO cy mm ik tl fm tz vl iw rm rr om, ia cy (mm 1) 169 S, ia cy (mm 6) 6 P, ia cy (mm 7) 6 N]) sz) ([mO cy mm ik tl fm tz vl iw rm rr om, ia cy (mm 1) 169 S, ia cy (mm 6) 6 (rndG (asked S) (rcN S) P), ia cy (mm 7) 6 (fil (asked S P) N (rcN S))]) t) (va_A ([mO cy mm ik tl fm tz vl iw rm rr om, ia cy (mm 1) 169 S, ia cy (mm 6) 6 P, ia cy (mm 7) 6 N]) sz)) 0 0 (va_A ([mO cy mm ik tl fm tz vl iw rm rr om, ia cy (mm 1) 169 S, ia cy (mm 6) 6 P, ia cy (mm 7) 6 N]) sz) := by
  refine mk_rw (by decide) RX7 rfl (Nat.le_of_ble_eq_true rfl) [(0, .ref (mm 0))] rfl ?_
  intro p e s m below meth c hx hb hml hown hr hlocks hin hw hsz hA hG hK H0 locs0 hP0 hD0 hS0 ls0 hl0
  clear hin
  have hr6 := wf_r6 wf
  refine lv_iconst (v := 0) hx hb dX7_round_0 (by decide) ?_
  refine lv_istore_n (lv' := [(1, .int 0), (0, .ref (mm 0))]) hx hb dX7_round_1 rfl hl0 (by decide) rfl (fun ls1 hl1 => ?_)
  clear hl0 ls0
  refine lv_iconst (v := 0) hx hb dX7_round_2 (by decide) ?_
  refine lv_istore_n (lv' := [(2, .int 0), (1, .int 0), (0, .ref (mm 0))]) hx hb dX7_round_3 rfl hl1 (by decide) rfl (fun ls2 hl2 => ?_)
  clear hl1 ls1
  have hq9 : ([mO cy mm ik tl fm tz vl iw rm rr om, ia cy (mm 1) 169 S, ia cy (mm 6) 6 P, ia cy (mm 7) 6 N]) = ([mO cy mm ik tl fm tz vl iw rm rr om, ia cy (mm 1) 169 S, ia cy (mm 6) 6 P, ia cy (mm 7) 6 (fil (asked S P) N 0)]) := congrArg (fun z9 => [mO cy mm ik tl fm tz vl iw rm rr om, ia cy (mm 1) 169 S, ia cy (mm 6) 6 P, ia cy (mm 7) 6 z9]) (show N = (fil (asked S P) N 0) from fil_0 _ N)
  replace hP0 := (congrArg (fun z9 => va_P D vwCl z9 _) hq9).mp hP0
  replace hD0 := (congrArg (fun z9 => va_D _ z9) hq9).mp hD0
  clear hq9
  refine wlp (ι := Nat) (nL := 3) (fun x9 => (x9 ≤ rcN S)) (fun x9 => [mO cy mm ik tl fm tz vl iw rm rr om, ia cy (mm 1) 169 S, ia cy (mm 6) 6 P, ia cy (mm 7) 6 (fil (asked S P) N x9)]) (fun x9 => [(2, .int (nI x9)), (1, .int (b2i (anyN (fun q => decide (asked S P q ≠ P q)) x9 = true))), (0, .ref (mm 0))]) (fun x9 => []) (fun x9 => rcN S - x9) 4 ?_ 0 (by first | omega | assumption | rfl | simp_all) rfl hP0 hD0 hS0 (lv_sub hl2 [0, 1, 2] rfl)
  clear hP0 hD0 hS0 locs0 H0 hl2 ls2
  intro x9 hI ih_4 H1 locs1 ls3 hP1 hD1 hS1 hl3
  obtain ⟨i, rfl⟩ : ∃ z9, z9 = x9 := ⟨_, rfl⟩
  have hi := hI
  replace hi : i ≤ rcN S := hi
  replace hP1 : va_P D vwCl ([mO cy mm ik tl fm tz vl iw rm rr om, ia cy (mm 1) 169 S, ia cy (mm 6) 6 P, ia cy (mm 7) 6 (fil (asked S P) N i)]) H1 := hP1
  replace hD1 : va_D (va_A _ sz) ([mO cy mm ik tl fm tz vl iw rm rr om, ia cy (mm 1) 169 S, ia cy (mm 6) 6 P, ia cy (mm 7) 6 (fil (asked S P) N i)]) := hD1
  replace hl3 : lv_has ls3 3 [(2, .int (nI i)), (1, .int (b2i (anyN (fun q => decide (asked S P q ≠ P q)) i = true))), (0, .ref (mm 0))] := hl3
  show W p l e _ s m _ below meth c _ _ _ _ _ (F0 m 4 ls3 [])
  refine lv_iload_n hx hb dX7_round_4 rfl (lv_at hl3 0 rfl) ?_
  refine lv_aload_n hx hb dX7_round_5 rfl (lv_at hl3 2 rfl) ?_
  refine va_get (D := D) (ci := 7) (v := .ref (mm 1)) (C := RX7) (T := TX7) (N := 23) hx hb hw iX7 hown hK hP1 0 rfl rfl 0 (by decide) (hw _ kw_4_64) (fun _ h9 => h9) rfl dX7_round_6 ?_
  refine lv_iconst (v := 0) hx hb dX7_round_9 (by decide) ?_
  refine ald_i (f := S) hx hb hK hP1 1 0 rfl rfl 0 rfl (by first | omega | assumption) (by decide) dX7_round_10 ?_
  refine tp (show (S 0) = nI (rcN S) from wf_r wf) ?_
  refine ln_ge (tgt := 56) i (rcN S) rfl rfl (by omega) (by omega) hx hb dX7_round_11 (by decide) (fun c_11 => ?_) (fun c_11 => ?_)
  · obtain rfl : i = rcN S := (by omega)
    refine lv_iconst (v := 0) hx hb dX7_round_56 (by decide) ?_
    refine lv_istore_n (lv' := [(2, .int 0), (1, .int (b2i (anyN (fun q => decide (asked S P q ≠ P q)) (rcN S) = true))), (0, .ref (mm 0))]) hx hb dX7_round_57 rfl hl3 (by decide) rfl (fun ls4 hl4 => ?_)
    clear hl3 ls3
    have hq9 : ([mO cy mm ik tl fm tz vl iw rm rr om, ia cy (mm 1) 169 S, ia cy (mm 6) 6 P, ia cy (mm 7) 6 (fil (asked S P) N (rcN S))]) = ([mO cy mm ik tl fm tz vl iw rm rr om, ia cy (mm 1) 169 S, ia cy (mm 6) 6 (fil (asked S P) P 0), ia cy (mm 7) 6 (fil (asked S P) N (rcN S))]) := congrArg (fun z9 => [mO cy mm ik tl fm tz vl iw rm rr om, ia cy (mm 1) 169 S, ia cy (mm 6) 6 z9, ia cy (mm 7) 6 (fil (asked S P) N (rcN S))]) (show P = (fil (asked S P) P 0) from fil_0 _ P)
    replace hP1 := (congrArg (fun z9 => va_P D vwCl z9 _) hq9).mp hP1
    replace hD1 := (congrArg (fun z9 => va_D _ z9) hq9).mp hD1
    clear hq9
    refine wlp (ι := Nat) (nL := 3) (fun x9 => (x9 ≤ rcN S)) (fun x9 => [mO cy mm ik tl fm tz vl iw rm rr om, ia cy (mm 1) 169 S, ia cy (mm 6) 6 (fil (asked S P) P x9), ia cy (mm 7) 6 (fil (asked S P) N (rcN S))]) (fun x9 => [(2, .int (nI x9)), (1, .int (b2i (anyN (fun q => decide (asked S P q ≠ P q)) (rcN S) = true))), (0, .ref (mm 0))]) (fun x9 => []) (fun x9 => rcN S - x9) 58 ?_ 0 (by first | omega | assumption | rfl | simp_all) rfl hP1 hD1 hS1 (lv_sub hl4 [0, 1, 2] rfl)
    clear hP1 hD1 hS1 locs1 H1 hl4 ls4
    intro x9 hI ih_58 H2 locs2 ls5 hP2 hD2 hS2 hl5
    obtain ⟨o, rfl⟩ : ∃ z9, z9 = x9 := ⟨_, rfl⟩
    have ho := hI
    replace ho : o ≤ rcN S := ho
    replace hP2 : va_P D vwCl ([mO cy mm ik tl fm tz vl iw rm rr om, ia cy (mm 1) 169 S, ia cy (mm 6) 6 (fil (asked S P) P o), ia cy (mm 7) 6 (fil (asked S P) N (rcN S))]) H2 := hP2
    replace hD2 : va_D (va_A _ sz) ([mO cy mm ik tl fm tz vl iw rm rr om, ia cy (mm 1) 169 S, ia cy (mm 6) 6 (fil (asked S P) P o), ia cy (mm 7) 6 (fil (asked S P) N (rcN S))]) := hD2
    replace hl5 : lv_has ls5 3 [(2, .int (nI o)), (1, .int (b2i (anyN (fun q => decide (asked S P q ≠ P q)) (rcN S) = true))), (0, .ref (mm 0))] := hl5
    show W p l e _ s m _ below meth c _ _ _ _ _ (F0 m 58 ls5 [])
    refine lv_iload_n hx hb dX7_round_58 rfl (lv_at hl5 0 rfl) ?_
    refine lv_aload_n hx hb dX7_round_59 rfl (lv_at hl5 2 rfl) ?_
    refine va_get (D := D) (ci := 7) (v := .ref (mm 1)) (C := RX7) (T := TX7) (N := 23) hx hb hw iX7 hown hK hP2 0 rfl rfl 0 (by decide) (hw _ kw_4_64) (fun _ h9 => h9) rfl dX7_round_60 ?_
    refine lv_iconst (v := 0) hx hb dX7_round_63 (by decide) ?_
    refine ald_i (f := S) hx hb hK hP2 1 0 rfl rfl 0 rfl (by first | omega | assumption) (by decide) dX7_round_64 ?_
    refine tp (show (S 0) = nI (rcN S) from wf_r wf) ?_
    refine ln_ge (tgt := 86) o (rcN S) rfl rfl (by omega) (by omega) hx hb dX7_round_65 (by decide) (fun c_65 => ?_) (fun c_65 => ?_)
    · obtain rfl : o = rcN S := (by omega)
      have hq9 : ([mO cy mm ik tl fm tz vl iw rm rr om, ia cy (mm 1) 169 S, ia cy (mm 6) 6 (fil (asked S P) P (rcN S)), ia cy (mm 7) 6 (fil (asked S P) N (rcN S))]) = ([mO cy mm ik tl fm tz vl iw rm rr om, ia cy (mm 1) 169 S, ia cy (mm 6) 6 (rndG (asked S) (rcN S) P), ia cy (mm 7) 6 (fil (asked S P) N (rcN S))]) := congrArg (fun z9 => [mO cy mm ik tl fm tz vl iw rm rr om, ia cy (mm 1) 169 S, ia cy (mm 6) 6 z9, ia cy (mm 7) 6 (fil (asked S P) N (rcN S))]) (show (fil (asked S P) P (rcN S)) = (rndG (asked S) (rcN S) P) from rfl)
      replace hP2 := (congrArg (fun z9 => va_P D vwCl z9 _) hq9).mp hP2
      replace hD2 := (congrArg (fun z9 => va_D _ z9) hq9).mp hD2
      clear hq9
      refine lv_iload_n hx hb dX7_round_86 rfl (lv_at hl5 1 rfl) ?_
      refine re_z () hx hb hr hlocks hP2 hD2 hS2 dX7_round_87 (b2i_z _) ?_
      exact (rfl)
    · refine lv_aload_n hx hb dX7_round_68 rfl (lv_at hl5 2 rfl) ?_
      refine va_get (D := D) (ci := 7) (v := .ref (mm 6)) (C := RX7) (T := TX7) (N := 23) hx hb hw iX7 hown hK hP2 0 rfl rfl 11 (by decide) (hw _ kw_4_75) (fun _ h9 => h9) rfl dX7_round_69 ?_
      refine lv_iload_n hx hb dX7_round_72 rfl (lv_at hl5 0 rfl) ?_
      refine lv_aload_n hx hb dX7_round_73 rfl (lv_at hl5 2 rfl) ?_
      refine va_get (D := D) (ci := 7) (v := .ref (mm 7)) (C := RX7) (T := TX7) (N := 23) hx hb hw iX7 hown hK hP2 0 rfl rfl 12 (by decide) (hw _ kw_4_76) (fun _ h9 => h9) rfl dX7_round_74 ?_
      refine lv_iload_n hx hb dX7_round_77 rfl (lv_at hl5 0 rfl) ?_
      refine ald_i (f := fil (asked S P) N (rcN S)) hx hb hK hP2 3 0 rfl rfl o rfl (by first | omega | assumption) (by decide) dX7_round_78 ?_
      refine tp (show ((fil (asked S P) N (rcN S)) o) = asked S P o from fil_in (by omega)) ?_
      refine ast_i (f := fil (asked S P) P o) (ws' := [mO cy mm ik tl fm tz vl iw rm rr om, ia cy (mm 1) 169 S, ia cy (mm 6) 6 (upd (fil (asked S P) P o) o (asked S P o)), ia cy (mm 7) 6 (fil (asked S P) N (rcN S))]) hx hb hK hP2 hD2 hS2 2 0 rfl rfl o rfl (by first | omega | assumption) (by decide) rfl dX7_round_79 (fun H3 locs3 hP3 hD3 hS3 => ?_)
      clear hP2 hD2 hS2 locs2 H2
      have hq9 : ([mO cy mm ik tl fm tz vl iw rm rr om, ia cy (mm 1) 169 S, ia cy (mm 6) 6 (upd (fil (asked S P) P o) o (asked S P o)), ia cy (mm 7) 6 (fil (asked S P) N (rcN S))]) = ([mO cy mm ik tl fm tz vl iw rm rr om, ia cy (mm 1) 169 S, ia cy (mm 6) 6 (fil (asked S P) P (o + 1)), ia cy (mm 7) 6 (fil (asked S P) N (rcN S))]) := congrArg (fun z9 => [mO cy mm ik tl fm tz vl iw rm rr om, ia cy (mm 1) 169 S, ia cy (mm 6) 6 z9, ia cy (mm 7) 6 (fil (asked S P) N (rcN S))]) (show (upd (fil (asked S P) P o) o (asked S P o)) = (fil (asked S P) P (o + 1)) from fil_s _ P o)
      replace hP3 := (congrArg (fun z9 => va_P D vwCl z9 _) hq9).mp hP3
      replace hD3 := (congrArg (fun z9 => va_D _ z9) hq9).mp hD3
      clear hq9
      refine lv_iinc (v := nI (o + 1)) (lv' := [(2, .int (nI (o + 1))), (1, .int (b2i (anyN (fun q => decide (asked S P q ≠ P q)) (rcN S) = true))), (0, .ref (mm 0))]) hx hb dX7_round_80 hl5 (k := 0) rfl (nI_inc _) (by decide) rfl (fun ls6 hl6 => ?_)
      clear hl5 ls5
      refine lv_goto (tgt := 58) hx hb dX7_round_83 (by decide) ?_
      exact ih_58 (o + 1) (by first | omega | assumption | rfl | simp_all) (by (try dsimp only); omega) H3 locs3 ls6 hP3 hD3 hS3 (lv_sub hl6 [0, 1, 2] rfl)
  · refine lv_aload_n hx hb dX7_round_14 rfl (lv_at hl3 2 rfl) ?_
    refine va_get (D := D) (ci := 7) (v := .ref (mm 7)) (C := RX7) (T := TX7) (N := 23) hx hb hw iX7 hown hK hP1 0 rfl rfl 12 (by decide) (hw _ kw_4_76) (fun _ h9 => h9) rfl dX7_round_15 ?_
    refine lv_iload_n hx hb dX7_round_18 rfl (lv_at hl3 0 rfl) ?_
    refine lv_aload_n hx hb dX7_round_19 rfl (lv_at hl3 2 rfl) ?_
    refine lv_iload_n hx hb dX7_round_20 rfl (lv_at hl3 0 rfl) ?_
    refine rV_i (wc := [mO cy mm ik tl fm tz vl iw rm rr om, ia cy (mm 1) 169 S, ia cy (mm 6) 6 P]) (rest := [.int (nI i), .ref (mm 7)]) hx hb hml hown hw hG hK hP1 hS1 hA hl3 kc_X7_asked kw_5_65 [.int (nI i)] (c_X7_asked l D cy G H1.size mm ik tl fm tz vl iw rm rr om S P i (by first | omega | assumption) (by first | omega | assumption)) [0, 1, 2] rfl 0 rfl rfl rfl rfl rfl (Nat.le_of_ble_eq_true rfl) ⟨Nat.le_of_ble_eq_true rfl, Nat.le_of_ble_eq_true rfl⟩ dX7_round_21 ⟨Nat.le_of_ble_eq_true rfl, Nat.le_of_ble_eq_true rfl⟩ (fun r_21 H2 locs2 hr_21 hP2 hS2 => ?_)
    have hD2 := hD1
    clear hP1 hD1 hS1 locs1 H1
    subst hr_21
    refine ast_i (f := fil (asked S P) N i) (ws' := [mO cy mm ik tl fm tz vl iw rm rr om, ia cy (mm 1) 169 S, ia cy (mm 6) 6 P, ia cy (mm 7) 6 (upd (fil (asked S P) N i) i (asked S P i))]) hx hb hK hP2 hD2 hS2 3 0 rfl rfl i rfl (by first | omega | assumption) (by decide) rfl dX7_round_24 (fun H3 locs3 hP3 hD3 hS3 => ?_)
    clear hP2 hD2 hS2 locs2 H2
    have hq9 : ([mO cy mm ik tl fm tz vl iw rm rr om, ia cy (mm 1) 169 S, ia cy (mm 6) 6 P, ia cy (mm 7) 6 (upd (fil (asked S P) N i) i (asked S P i))]) = ([mO cy mm ik tl fm tz vl iw rm rr om, ia cy (mm 1) 169 S, ia cy (mm 6) 6 P, ia cy (mm 7) 6 (fil (asked S P) N (i + 1))]) := congrArg (fun z9 => [mO cy mm ik tl fm tz vl iw rm rr om, ia cy (mm 1) 169 S, ia cy (mm 6) 6 P, ia cy (mm 7) 6 z9]) (show (upd (fil (asked S P) N i) i (asked S P i)) = (fil (asked S P) N (i + 1)) from fil_s _ N i)
    replace hP3 := (congrArg (fun z9 => va_P D vwCl z9 _) hq9).mp hP3
    replace hD3 := (congrArg (fun z9 => va_D _ z9) hq9).mp hD3
    clear hq9
    refine lv_iload_n hx hb dX7_round_25 rfl (lv_at hl3 1 rfl) ?_
    refine lb_ne (tgt := 44) hx hb dX7_round_26 (by decide) (fun c_26 => ?_) (fun c_26 => ?_)
    · refine lv_iconst (v := 1) hx hb dX7_round_44 (by decide) ?_
      refine lv_goto (tgt := 49) hx hb dX7_round_45 (by decide) ?_
      refine tp (show (1) = b2i (anyN (fun q => decide (asked S P q ≠ P q)) (i + 1) = true) from by simp [anyN, b2i, c_11, c_26] <;> simp_all [anyN, b2i]) ?_
      refine lv_istore_n (lv' := [(1, .int (b2i (anyN (fun q => decide (asked S P q ≠ P q)) (i + 1) = true))), (2, .int (nI i)), (0, .ref (mm 0))]) hx hb dX7_round_49 rfl hl3 (by decide) rfl (fun ls4 hl4 => ?_)
      clear hl3 ls3
      refine lv_iinc (v := nI (i + 1)) (lv' := [(2, .int (nI (i + 1))), (1, .int (b2i (anyN (fun q => decide (asked S P q ≠ P q)) (i + 1) = true))), (0, .ref (mm 0))]) hx hb dX7_round_50 hl4 (k := 1) rfl (nI_inc _) (by decide) rfl (fun ls5 hl5 => ?_)
      clear hl4 ls4
      refine lv_goto (tgt := 4) hx hb dX7_round_53 (by decide) ?_
      exact ih_4 (i + 1) (by first | omega | assumption | rfl | simp_all) (by (try dsimp only); omega) H3 locs3 ls5 hP3 hD3 hS3 (lv_sub hl5 [0, 1, 2] rfl)
    · refine lv_aload_n hx hb dX7_round_29 rfl (lv_at hl3 2 rfl) ?_
      refine va_get (D := D) (ci := 7) (v := .ref (mm 7)) (C := RX7) (T := TX7) (N := 23) hx hb hw iX7 hown hK hP3 0 rfl rfl 12 (by decide) (hw _ kw_4_76) (fun _ h9 => h9) rfl dX7_round_30 ?_
      refine lv_iload_n hx hb dX7_round_33 rfl (lv_at hl3 0 rfl) ?_
      refine ald_i (f := fil (asked S P) N (i + 1)) hx hb hK hP3 3 0 rfl rfl i rfl (by first | omega | assumption) (by decide) dX7_round_34 ?_
      refine tp (show ((fil (asked S P) N (i + 1)) i) = asked S P i from fil_in (by omega)) ?_
      refine lv_aload_n hx hb dX7_round_35 rfl (lv_at hl3 2 rfl) ?_
      refine va_get (D := D) (ci := 7) (v := .ref (mm 6)) (C := RX7) (T := TX7) (N := 23) hx hb hw iX7 hown hK hP3 0 rfl rfl 11 (by decide) (hw _ kw_4_75) (fun _ h9 => h9) rfl dX7_round_36 ?_
      refine lv_iload_n hx hb dX7_round_39 rfl (lv_at hl3 0 rfl) ?_
      refine ald_i (f := P) hx hb hK hP3 2 0 rfl rfl i rfl (by first | omega | assumption) (by decide) dX7_round_40 ?_
      refine lv_icmp_eq (tgt := 48) hx hb dX7_round_41 (by decide) (fun c_41 => ?_) (fun c_41 => ?_)
      · refine lv_iconst (v := 0) hx hb dX7_round_48 (by decide) ?_
        refine tp (show (0) = b2i (anyN (fun q => decide (asked S P q ≠ P q)) (i + 1) = true) from by simp [anyN, b2i, c_11, c_26, c_41] <;> simp_all [anyN, b2i]) ?_
        refine lv_istore_n (lv' := [(1, .int (b2i (anyN (fun q => decide (asked S P q ≠ P q)) (i + 1) = true))), (2, .int (nI i)), (0, .ref (mm 0))]) hx hb dX7_round_49 rfl hl3 (by decide) rfl (fun ls4 hl4 => ?_)
        clear hl3 ls3
        refine lv_iinc (v := nI (i + 1)) (lv' := [(2, .int (nI (i + 1))), (1, .int (b2i (anyN (fun q => decide (asked S P q ≠ P q)) (i + 1) = true))), (0, .ref (mm 0))]) hx hb dX7_round_50 hl4 (k := 1) rfl (nI_inc _) (by decide) rfl (fun ls5 hl5 => ?_)
        clear hl4 ls4
        refine lv_goto (tgt := 4) hx hb dX7_round_53 (by decide) ?_
        exact ih_4 (i + 1) (by first | omega | assumption | rfl | simp_all) (by (try dsimp only); omega) H3 locs3 ls5 hP3 hD3 hS3 (lv_sub hl5 [0, 1, 2] rfl)
      · refine lv_iconst (v := 1) hx hb dX7_round_44 (by decide) ?_
        refine lv_goto (tgt := 49) hx hb dX7_round_45 (by decide) ?_
        refine tp (show (1) = b2i (anyN (fun q => decide (asked S P q ≠ P q)) (i + 1) = true) from by simp [anyN, b2i, c_11, c_26, c_41] <;> simp_all [anyN, b2i]) ?_
        refine lv_istore_n (lv' := [(1, .int (b2i (anyN (fun q => decide (asked S P q ≠ P q)) (i + 1) = true))), (2, .int (nI i)), (0, .ref (mm 0))]) hx hb dX7_round_49 rfl hl3 (by decide) rfl (fun ls4 hl4 => ?_)
        clear hl3 ls3
        refine lv_iinc (v := nI (i + 1)) (lv' := [(2, .int (nI (i + 1))), (1, .int (b2i (anyN (fun q => decide (asked S P q ≠ P q)) (i + 1) = true))), (0, .ref (mm 0))]) hx hb dX7_round_50 hl4 (k := 1) rfl (nI_inc _) (by decide) rfl (fun ls5 hl5 => ?_)
        clear hl4 ls4
        refine lv_goto (tgt := 4) hx hb dX7_round_53 (by decide) ?_
        exact ih_4 (i + 1) (by first | omega | assumption | rfl | simp_all) (by (try dsimp only); omega) H3 locs3 ls5 hP3 hD3 hS3 (lv_sub hl5 [0, 1, 2] rfl)

theorem kc_X7_rests : kV yX7_rests cX7_rests 2 none 0 := ⟨kw_5_59, kw_s_49, kw_1_8, kw_5_60, by decide, by decide, by decide +kernel⟩
set_option maxHeartbeats 4000000 in
set_option maxRecDepth 100000 in
theorem c_X7_rests (l : Launch) (D : va_G) (cy : Nat → ClassId) (G : Nat → Nat) (sz : Nat) (mm : Nat → Nat) (ik : Int32) (tl : Int32) (fm : Int32) (tz : Int32) (vl : Int32) (iw : Int32) (rm : Int32) (rr : Int32) (om : Int32) (S : Nat → Int32) (P : Nat → Int32) (N : Nat → Int32) (wf : wf S) : Met l yX7_rests (wm yX7_rests cX7_rests 2 none) { frames := 4, cells := 0, slots := 0, locals := 92 } (va_Pc [.ref (mm 0)] (pr D (TY cy) G ([mO cy mm ik tl fm tz vl iw rm rr om, ia cy (mm 1) 169 S, ia cy (mm 6) 6 P, ia cy (mm 7) 6 N]) sz)) (va_Qv (fun (u : (Nat → Int32)) => True) (fun (u : (Nat → Int32)) t => po D (va_A ([mO cy mm ik tl fm tz vl iw rm rr om, ia cy (mm 1) 169 S, ia cy (mm 6) 6 P, ia cy (mm 7) 6 N]) sz) ([mO cy mm ik tl fm tz vl iw (nI (RC S)) (b2i (RC S = 60)) om, ia cy (mm 1) 169 S, ia cy (mm 6) 6 (PR S), ia cy (mm 7) 6 u]) t) (va_A ([mO cy mm ik tl fm tz vl iw rm rr om, ia cy (mm 1) 169 S, ia cy (mm 6) 6 P, ia cy (mm 7) 6 N]) sz)) 0 0 (va_A ([mO cy mm ik tl fm tz vl iw rm rr om, ia cy (mm 1) 169 S, ia cy (mm 6) 6 P, ia cy (mm 7) 6 N]) sz) := by
  refine mk_rw (by decide) RX7 rfl (Nat.le_of_ble_eq_true rfl) [(0, .ref (mm 0))] rfl ?_
  intro p e s m below meth c hx hb hml hown hr hlocks hin hw hsz hA hG hK H0 locs0 hP0 hD0 hS0 ls0 hl0
  clear hin
  refine lv_iconst (v := 0) hx hb dX7_rests_0 (by decide) ?_
  refine lv_istore_n (lv' := [(1, .int 0), (0, .ref (mm 0))]) hx hb dX7_rests_1 rfl hl0 (by decide) rfl (fun ls1 hl1 => ?_)
  clear hl0 ls0
  have hq9 : ([mO cy mm ik tl fm tz vl iw rm rr om, ia cy (mm 1) 169 S, ia cy (mm 6) 6 P, ia cy (mm 7) 6 N]) = ([mO cy mm ik tl fm tz vl iw rm rr om, ia cy (mm 1) 169 S, ia cy (mm 6) 6 (zI 0 P), ia cy (mm 7) 6 N]) := congrArg (fun z9 => [mO cy mm ik tl fm tz vl iw rm rr om, ia cy (mm 1) 169 S, ia cy (mm 6) 6 z9, ia cy (mm 7) 6 N]) (show P = (zI 0 P) from zI_0 P)
  replace hP0 := (congrArg (fun z9 => va_P D vwCl z9 _) hq9).mp hP0
  replace hD0 := (congrArg (fun z9 => va_D _ z9) hq9).mp hD0
  clear hq9
  refine wlp (ι := Nat) (nL := 2) (fun x9 => (x9 ≤ 6)) (fun x9 => [mO cy mm ik tl fm tz vl iw rm rr om, ia cy (mm 1) 169 S, ia cy (mm 6) 6 (zI x9 P), ia cy (mm 7) 6 N]) (fun x9 => [(1, .int (nI x9)), (0, .ref (mm 0))]) (fun x9 => []) (fun x9 => 6 - x9) 2 ?_ 0 (by first | omega | assumption | rfl | simp_all) rfl hP0 hD0 hS0 (lv_sub hl1 [0, 1] rfl)
  clear hP0 hD0 hS0 locs0 H0 hl1 ls1
  intro x9 hI ih_2 H1 locs1 ls2 hP1 hD1 hS1 hl2
  obtain ⟨i, rfl⟩ : ∃ z9, z9 = x9 := ⟨_, rfl⟩
  have hi := hI
  replace hi : i ≤ 6 := hi
  replace hP1 : va_P D vwCl ([mO cy mm ik tl fm tz vl iw rm rr om, ia cy (mm 1) 169 S, ia cy (mm 6) 6 (zI i P), ia cy (mm 7) 6 N]) H1 := hP1
  replace hD1 : va_D (va_A _ sz) ([mO cy mm ik tl fm tz vl iw rm rr om, ia cy (mm 1) 169 S, ia cy (mm 6) 6 (zI i P), ia cy (mm 7) 6 N]) := hD1
  replace hl2 : lv_has ls2 2 [(1, .int (nI i)), (0, .ref (mm 0))] := hl2
  show W p l e _ s m _ below meth c _ _ _ _ _ (F0 m 2 ls2 [])
  refine lv_iload_n hx hb dX7_rests_2 rfl (lv_at hl2 0 rfl) ?_
  refine lv_bipush (v := 6) hx hb dX7_rests_3 (by decide) ?_
  refine ln_ge (tgt := 21) i 6 rfl rfl (by omega) (by omega) hx hb dX7_rests_5 (by decide) (fun c_5 => ?_) (fun c_5 => ?_)
  · have hq9 := (fun j hj => if_pos (by omega) : ∀ j, j < 6 → zI i P j = (fun _ => (0 : Int32)) j)
    replace hD1 := cg_D (ws' := [mO cy mm ik tl fm tz vl iw rm rr om, ia cy (mm 1) 169 S, ia cy (mm 6) 6 (fun _ => 0), ia cy (mm 7) 6 N]) hD1 (k := 2) rfl rfl
    replace hP1 := cg_P (ws' := [mO cy mm ik tl fm tz vl iw rm rr om, ia cy (mm 1) 169 S, ia cy (mm 6) 6 (fun _ => 0), ia cy (mm 7) 6 N]) hP1 (k := 2) rfl hq9 rfl
    clear hq9
    refine lv_aload_n hx hb dX7_rests_21 rfl (lv_at hl2 1 rfl) ?_
    refine lv_iconst (v := 0) hx hb dX7_rests_22 (by decide) ?_
    refine pt (D := D) (ci := 7) (v := .int 0) (ty := .int) (C := RX7) (T := TX7) (N := 23) (ws' := [mO cy mm ik tl fm tz vl iw 0 rr om, ia cy (mm 1) 169 S, ia cy (mm 6) 6 (fun _ => 0), ia cy (mm 7) 6 N]) hx hb hw iX7 tyX7 tyX7_ok nmX7 hown hK hP1 hD1 hS1 0 rfl rfl 13 (by decide) kw_4_77 (fun _ h9 => h9) rfl (by decide +kernel) rfl rfl (Nat.le_of_ble_eq_true rfl) rfl dX7_rests_23 (fun H2 locs2 hP2 hD2 hS2 => ?_)
    clear hP1 hD1 hS1 locs1 H1
    have hq9 : ([mO cy mm ik tl fm tz vl iw 0 rr om, ia cy (mm 1) 169 S, ia cy (mm 6) 6 (fun _ => 0), ia cy (mm 7) 6 N]) = ([mO cy mm ik tl fm tz vl iw 0 rr om, ia cy (mm 1) 169 S, ia cy (mm 6) 6 (itG (asked S) (rcN S) (fun _ => 0) 0), ia cy (mm 7) 6 N]) := congrArg (fun z9 => [mO cy mm ik tl fm tz vl iw 0 rr om, ia cy (mm 1) 169 S, ia cy (mm 6) 6 z9, ia cy (mm 7) 6 N]) (show (fun _ => 0) = (itG (asked S) (rcN S) (fun _ => 0) 0) from rfl)
    replace hP2 := (congrArg (fun z9 => va_P D vwCl z9 _) hq9).mp hP2
    replace hD2 := (congrArg (fun z9 => va_D _ z9) hq9).mp hD2
    clear hq9
    refine wlp (ι := Nat × (Nat → Int32)) (nL := 2) (fun x9 => (x9.1 ≤ 60) ∧ (∀ j, j < x9.1 → chgG (asked S) (rcN S) (itG (asked S) (rcN S) (fun _ => 0) j) = true)) (fun x9 => [mO cy mm ik tl fm tz vl iw (nI x9.1) rr om, ia cy (mm 1) 169 S, ia cy (mm 6) 6 (itG (asked S) (rcN S) (fun _ => 0) x9.1), ia cy (mm 7) 6 x9.2]) (fun x9 => [(1, .int (nI i)), (0, .ref (mm 0))]) (fun x9 => []) (fun x9 => 60 - x9.1) 26 ?_ (0, N) (⟨by first | omega | assumption | rfl | simp_all, fun j hj => absurd hj (Nat.not_lt_zero j)⟩) rfl hP2 hD2 hS2 (lv_sub hl2 [0, 1] rfl)
    clear hP2 hD2 hS2 locs2 H2 hl2 ls2
    intro x9 hI ih_26 H3 locs3 ls3 hP3 hD3 hS3 hl3
    obtain ⟨k, N1⟩ := x9
    obtain ⟨hk, hc⟩ := hI
    replace hk : k ≤ 60 := hk
    replace hc : ∀ j, j < k → chgG (asked S) (rcN S) (itG (asked S) (rcN S) (fun _ => 0) j) = true := hc
    replace hP3 : va_P D vwCl ([mO cy mm ik tl fm tz vl iw (nI k) rr om, ia cy (mm 1) 169 S, ia cy (mm 6) 6 (itG (asked S) (rcN S) (fun _ => 0) k), ia cy (mm 7) 6 N1]) H3 := hP3
    replace hD3 : va_D (va_A _ sz) ([mO cy mm ik tl fm tz vl iw (nI k) rr om, ia cy (mm 1) 169 S, ia cy (mm 6) 6 (itG (asked S) (rcN S) (fun _ => 0) k), ia cy (mm 7) 6 N1]) := hD3
    replace hl3 : lv_has ls3 2 [(1, .int (nI i)), (0, .ref (mm 0))] := hl3
    show W p l e _ s m _ below meth c _ _ _ _ _ (F0 m 26 ls3 [])
    refine lv_aload_n hx hb dX7_rests_26 rfl (lv_at hl3 1 rfl) ?_
    refine va_get (D := D) (ci := 7) (v := .int (nI k)) (C := RX7) (T := TX7) (N := 23) hx hb hw iX7 hown hK hP3 0 rfl rfl 13 (by decide) (hw _ kw_4_77) (fun _ h9 => h9) rfl dX7_rests_27 ?_
    refine lv_bipush (v := 60) hx hb dX7_rests_30 (by decide) ?_
    refine ln_ge (tgt := 55) k 60 rfl rfl (by omega) (by omega) hx hb dX7_rests_32 (by decide) (fun c_32 => ?_) (fun c_32 => ?_)
    · have hk60 : k = 60 := by omega
      have hcn : RC S = k := cntG_eq hk hc (Or.inl hk60)
      refine lv_aload_n hx hb dX7_rests_55 rfl (lv_at hl3 1 rfl) ?_
      refine lv_aload_n hx hb dX7_rests_56 rfl (lv_at hl3 1 rfl) ?_
      refine va_get (D := D) (ci := 7) (v := .int (nI k)) (C := RX7) (T := TX7) (N := 23) hx hb hw iX7 hown hK hP3 0 rfl rfl 13 (by decide) (hw _ kw_4_77) (fun _ h9 => h9) rfl dX7_rests_57 ?_
      refine lv_bipush (v := 60) hx hb dX7_rests_60 (by decide) ?_
      refine ln_ne (tgt := 69) k 60 rfl rfl (by omega) (by omega) hx hb dX7_rests_62 (by decide) (fun c_62 => ?_) (fun c_62 => ?_)
      · refine lv_iconst (v := 0) hx hb dX7_rests_69 (by decide) ?_
        refine tp (show (0) = b2i (RC S = 60) from by rw [hcn]; simp [b2i, c_5, c_32, c_62]) ?_
        refine pt (D := D) (ci := 7) (v := .int (b2i (RC S = 60))) (ty := .boolean) (C := RX7) (T := TX7) (N := 23) (ws' := [mO cy mm ik tl fm tz vl iw (nI k) (b2i (RC S = 60)) om, ia cy (mm 1) 169 S, ia cy (mm 6) 6 (itG (asked S) (rcN S) (fun _ => 0) k), ia cy (mm 7) 6 N1]) hx hb hw iX7 tyX7 tyX7_ok nmX7 hown hK hP3 hD3 hS3 0 rfl rfl 14 (by decide) kw_4_78 (fun _ h9 => h9) rfl (by decide +kernel) (b2i_z _) (b2i_fits _) (Nat.le_of_ble_eq_true rfl) rfl dX7_rests_70 (fun H4 locs4 hP4 hD4 hS4 => ?_)
        clear hP3 hD3 hS3 locs3 H3
        have hq9 : ([mO cy mm ik tl fm tz vl iw (nI k) (b2i (RC S = 60)) om, ia cy (mm 1) 169 S, ia cy (mm 6) 6 (itG (asked S) (rcN S) (fun _ => 0) k), ia cy (mm 7) 6 N1]) = ([mO cy mm ik tl fm tz vl iw (nI k) (b2i (RC S = 60)) om, ia cy (mm 1) 169 S, ia cy (mm 6) 6 (PR S), ia cy (mm 7) 6 N1]) := congrArg (fun z9 => [mO cy mm ik tl fm tz vl iw (nI k) (b2i (RC S = 60)) om, ia cy (mm 1) 169 S, ia cy (mm 6) 6 z9, ia cy (mm 7) 6 N1]) (show (itG (asked S) (rcN S) (fun _ => 0) k) = (PR S) from by unfold PR; rw [hcn])
        replace hP4 := (congrArg (fun z9 => va_P D vwCl z9 _) hq9).mp hP4
        replace hD4 := (congrArg (fun z9 => va_D _ z9) hq9).mp hD4
        clear hq9
        have hq9 : ([mO cy mm ik tl fm tz vl iw (nI k) (b2i (RC S = 60)) om, ia cy (mm 1) 169 S, ia cy (mm 6) 6 (PR S), ia cy (mm 7) 6 N1]) = ([mO cy mm ik tl fm tz vl iw (nI (RC S)) (b2i (RC S = 60)) om, ia cy (mm 1) 169 S, ia cy (mm 6) 6 (PR S), ia cy (mm 7) 6 N1]) := congrArg (fun z9 => [mO cy mm ik tl fm tz vl iw z9 (b2i (RC S = 60)) om, ia cy (mm 1) 169 S, ia cy (mm 6) 6 (PR S), ia cy (mm 7) 6 N1]) (show (nI k) = (nI (RC S)) from by rw [hcn])
        replace hP4 := (congrArg (fun z9 => va_P D vwCl z9 _) hq9).mp hP4
        replace hD4 := (congrArg (fun z9 => va_D _ z9) hq9).mp hD4
        clear hq9
        refine re_v N1 hx hb hr hlocks hP4 hD4 hS4 dX7_rests_73 ?_
        exact (trivial)
      · refine lv_iconst (v := 1) hx hb dX7_rests_65 (by decide) ?_
        refine lv_goto (tgt := 70) hx hb dX7_rests_66 (by decide) ?_
        refine tp (show (1) = b2i (RC S = 60) from by rw [hcn]; simp [b2i, c_5, c_32, c_62]) ?_
        refine pt (D := D) (ci := 7) (v := .int (b2i (RC S = 60))) (ty := .boolean) (C := RX7) (T := TX7) (N := 23) (ws' := [mO cy mm ik tl fm tz vl iw (nI k) (b2i (RC S = 60)) om, ia cy (mm 1) 169 S, ia cy (mm 6) 6 (itG (asked S) (rcN S) (fun _ => 0) k), ia cy (mm 7) 6 N1]) hx hb hw iX7 tyX7 tyX7_ok nmX7 hown hK hP3 hD3 hS3 0 rfl rfl 14 (by decide) kw_4_78 (fun _ h9 => h9) rfl (by decide +kernel) (b2i_z _) (b2i_fits _) (Nat.le_of_ble_eq_true rfl) rfl dX7_rests_70 (fun H4 locs4 hP4 hD4 hS4 => ?_)
        clear hP3 hD3 hS3 locs3 H3
        have hq9 : ([mO cy mm ik tl fm tz vl iw (nI k) (b2i (RC S = 60)) om, ia cy (mm 1) 169 S, ia cy (mm 6) 6 (itG (asked S) (rcN S) (fun _ => 0) k), ia cy (mm 7) 6 N1]) = ([mO cy mm ik tl fm tz vl iw (nI k) (b2i (RC S = 60)) om, ia cy (mm 1) 169 S, ia cy (mm 6) 6 (PR S), ia cy (mm 7) 6 N1]) := congrArg (fun z9 => [mO cy mm ik tl fm tz vl iw (nI k) (b2i (RC S = 60)) om, ia cy (mm 1) 169 S, ia cy (mm 6) 6 z9, ia cy (mm 7) 6 N1]) (show (itG (asked S) (rcN S) (fun _ => 0) k) = (PR S) from by unfold PR; rw [hcn])
        replace hP4 := (congrArg (fun z9 => va_P D vwCl z9 _) hq9).mp hP4
        replace hD4 := (congrArg (fun z9 => va_D _ z9) hq9).mp hD4
        clear hq9
        have hq9 : ([mO cy mm ik tl fm tz vl iw (nI k) (b2i (RC S = 60)) om, ia cy (mm 1) 169 S, ia cy (mm 6) 6 (PR S), ia cy (mm 7) 6 N1]) = ([mO cy mm ik tl fm tz vl iw (nI (RC S)) (b2i (RC S = 60)) om, ia cy (mm 1) 169 S, ia cy (mm 6) 6 (PR S), ia cy (mm 7) 6 N1]) := congrArg (fun z9 => [mO cy mm ik tl fm tz vl iw z9 (b2i (RC S = 60)) om, ia cy (mm 1) 169 S, ia cy (mm 6) 6 (PR S), ia cy (mm 7) 6 N1]) (show (nI k) = (nI (RC S)) from by rw [hcn])
        replace hP4 := (congrArg (fun z9 => va_P D vwCl z9 _) hq9).mp hP4
        replace hD4 := (congrArg (fun z9 => va_D _ z9) hq9).mp hD4
        clear hq9
        refine re_v N1 hx hb hr hlocks hP4 hD4 hS4 dX7_rests_73 ?_
        exact (trivial)
    · refine lv_aload_n hx hb dX7_rests_35 rfl (lv_at hl3 1 rfl) ?_
      refine cV_i (wc := [mO cy mm ik tl fm tz vl iw (nI k) rr om, ia cy (mm 1) 169 S, ia cy (mm 6) 6 (itG (asked S) (rcN S) (fun _ => 0) k), ia cy (mm 7) 6 N1]) (wr := []) (rest := []) hx hb hml hown hw hG hK hP3 hD3 hS3 hA hl3 kc_X7_round kw_5_61 [] (c_X7_round l D cy G H3.size mm ik tl fm tz vl iw (nI k) rr om S (itG (asked S) (rcN S) (fun _ => 0) k) N1 (by first | omega | assumption)) [0, 1, 2, 3] [] rfl rfl rfl rfl rfl 0 rfl rfl rfl rfl rfl (Nat.le_of_ble_eq_true rfl) ⟨Nat.le_of_ble_eq_true rfl, Nat.le_of_ble_eq_true rfl⟩ dX7_rests_36 ⟨Nat.le_of_ble_eq_true rfl, Nat.le_of_ble_eq_true rfl⟩ (fun r_36 u9 H4 locs4 hu9 hP4 hD4 hS4 => ?_)
      clear hP3 hD3 hS3 locs3 H3
      have hr_36 := hu9
      replace hP4 : va_P D vwCl ([mO cy mm ik tl fm tz vl iw (nI k) rr om, ia cy (mm 1) 169 S, ia cy (mm 6) 6 (rndG (asked S) (rcN S) (itG (asked S) (rcN S) (fun _ => 0) k)), ia cy (mm 7) 6 (fil (asked S (itG (asked S) (rcN S) (fun _ => 0) k)) N1 (rcN S))]) H4 := hP4
      replace hD4 : va_D (va_A _ sz) ([mO cy mm ik tl fm tz vl iw (nI k) rr om, ia cy (mm 1) 169 S, ia cy (mm 6) 6 (rndG (asked S) (rcN S) (itG (asked S) (rcN S) (fun _ => 0) k)), ia cy (mm 7) 6 (fil (asked S (itG (asked S) (rcN S) (fun _ => 0) k)) N1 (rcN S))]) := hD4
      subst hr_36
      refine lb_eq (tgt := 55) hx hb dX7_rests_39 (by decide) (fun c_39 => ?_) (fun c_39 => ?_)
      · have hcf := Bool.eq_false_iff.mpr c_39
        have hcn : RC S = k := cntG_eq hk hc (Or.inr hcf)
        have hq9 : ([mO cy mm ik tl fm tz vl iw (nI k) rr om, ia cy (mm 1) 169 S, ia cy (mm 6) 6 (rndG (asked S) (rcN S) (itG (asked S) (rcN S) (fun _ => 0) k)), ia cy (mm 7) 6 (fil (asked S (itG (asked S) (rcN S) (fun _ => 0) k)) N1 (rcN S))]) = ([mO cy mm ik tl fm tz vl iw (nI k) rr om, ia cy (mm 1) 169 S, ia cy (mm 6) 6 (itG (asked S) (rcN S) (fun _ => 0) k), ia cy (mm 7) 6 (fil (asked S (itG (asked S) (rcN S) (fun _ => 0) k)) N1 (rcN S))]) := congrArg (fun z9 => [mO cy mm ik tl fm tz vl iw (nI k) rr om, ia cy (mm 1) 169 S, ia cy (mm 6) 6 z9, ia cy (mm 7) 6 (fil (asked S (itG (asked S) (rcN S) (fun _ => 0) k)) N1 (rcN S))]) (show (rndG (asked S) (rcN S) (itG (asked S) (rcN S) (fun _ => 0) k)) = (itG (asked S) (rcN S) (fun _ => 0) k) from rnd_same hcf)
        replace hP4 := (congrArg (fun z9 => va_P D vwCl z9 _) hq9).mp hP4
        replace hD4 := (congrArg (fun z9 => va_D _ z9) hq9).mp hD4
        clear hq9
        refine lv_aload_n hx hb dX7_rests_55 rfl (lv_at hl3 1 rfl) ?_
        refine lv_aload_n hx hb dX7_rests_56 rfl (lv_at hl3 1 rfl) ?_
        refine va_get (D := D) (ci := 7) (v := .int (nI k)) (C := RX7) (T := TX7) (N := 23) hx hb hw iX7 hown hK hP4 0 rfl rfl 13 (by decide) (hw _ kw_4_77) (fun _ h9 => h9) rfl dX7_rests_57 ?_
        refine lv_bipush (v := 60) hx hb dX7_rests_60 (by decide) ?_
        refine ln_ne (tgt := 69) k 60 rfl rfl (by omega) (by omega) hx hb dX7_rests_62 (by decide) (fun c_62 => ?_) (fun c_62 => ?_)
        · refine lv_iconst (v := 0) hx hb dX7_rests_69 (by decide) ?_
          refine tp (show (0) = b2i (RC S = 60) from by rw [hcn]; simp [b2i, c_5, c_32, c_39, c_62]) ?_
          refine pt (D := D) (ci := 7) (v := .int (b2i (RC S = 60))) (ty := .boolean) (C := RX7) (T := TX7) (N := 23) (ws' := [mO cy mm ik tl fm tz vl iw (nI k) (b2i (RC S = 60)) om, ia cy (mm 1) 169 S, ia cy (mm 6) 6 (itG (asked S) (rcN S) (fun _ => 0) k), ia cy (mm 7) 6 (fil (asked S (itG (asked S) (rcN S) (fun _ => 0) k)) N1 (rcN S))]) hx hb hw iX7 tyX7 tyX7_ok nmX7 hown hK hP4 hD4 hS4 0 rfl rfl 14 (by decide) kw_4_78 (fun _ h9 => h9) rfl (by decide +kernel) (b2i_z _) (b2i_fits _) (Nat.le_of_ble_eq_true rfl) rfl dX7_rests_70 (fun H5 locs5 hP5 hD5 hS5 => ?_)
          clear hP4 hD4 hS4 locs4 H4
          have hq9 : ([mO cy mm ik tl fm tz vl iw (nI k) (b2i (RC S = 60)) om, ia cy (mm 1) 169 S, ia cy (mm 6) 6 (itG (asked S) (rcN S) (fun _ => 0) k), ia cy (mm 7) 6 (fil (asked S (itG (asked S) (rcN S) (fun _ => 0) k)) N1 (rcN S))]) = ([mO cy mm ik tl fm tz vl iw (nI k) (b2i (RC S = 60)) om, ia cy (mm 1) 169 S, ia cy (mm 6) 6 (PR S), ia cy (mm 7) 6 (fil (asked S (itG (asked S) (rcN S) (fun _ => 0) k)) N1 (rcN S))]) := congrArg (fun z9 => [mO cy mm ik tl fm tz vl iw (nI k) (b2i (RC S = 60)) om, ia cy (mm 1) 169 S, ia cy (mm 6) 6 z9, ia cy (mm 7) 6 (fil (asked S (itG (asked S) (rcN S) (fun _ => 0) k)) N1 (rcN S))]) (show (itG (asked S) (rcN S) (fun _ => 0) k) = (PR S) from by unfold PR; rw [hcn])
          replace hP5 := (congrArg (fun z9 => va_P D vwCl z9 _) hq9).mp hP5
          replace hD5 := (congrArg (fun z9 => va_D _ z9) hq9).mp hD5
          clear hq9
          have hq9 : ([mO cy mm ik tl fm tz vl iw (nI k) (b2i (RC S = 60)) om, ia cy (mm 1) 169 S, ia cy (mm 6) 6 (PR S), ia cy (mm 7) 6 (fil (asked S (itG (asked S) (rcN S) (fun _ => 0) k)) N1 (rcN S))]) = ([mO cy mm ik tl fm tz vl iw (nI (RC S)) (b2i (RC S = 60)) om, ia cy (mm 1) 169 S, ia cy (mm 6) 6 (PR S), ia cy (mm 7) 6 (fil (asked S (itG (asked S) (rcN S) (fun _ => 0) k)) N1 (rcN S))]) := congrArg (fun z9 => [mO cy mm ik tl fm tz vl iw z9 (b2i (RC S = 60)) om, ia cy (mm 1) 169 S, ia cy (mm 6) 6 (PR S), ia cy (mm 7) 6 (fil (asked S (itG (asked S) (rcN S) (fun _ => 0) k)) N1 (rcN S))]) (show (nI k) = (nI (RC S)) from by rw [hcn])
          replace hP5 := (congrArg (fun z9 => va_P D vwCl z9 _) hq9).mp hP5
          replace hD5 := (congrArg (fun z9 => va_D _ z9) hq9).mp hD5
          clear hq9
          refine re_v (fil (asked S (itG (asked S) (rcN S) (fun _ => 0) k)) N1 (rcN S)) hx hb hr hlocks hP5 hD5 hS5 dX7_rests_73 ?_
          exact (trivial)
        · refine lv_iconst (v := 1) hx hb dX7_rests_65 (by decide) ?_
          refine lv_goto (tgt := 70) hx hb dX7_rests_66 (by decide) ?_
          refine tp (show (1) = b2i (RC S = 60) from by rw [hcn]; simp [b2i, c_5, c_32, c_39, c_62]) ?_
          refine pt (D := D) (ci := 7) (v := .int (b2i (RC S = 60))) (ty := .boolean) (C := RX7) (T := TX7) (N := 23) (ws' := [mO cy mm ik tl fm tz vl iw (nI k) (b2i (RC S = 60)) om, ia cy (mm 1) 169 S, ia cy (mm 6) 6 (itG (asked S) (rcN S) (fun _ => 0) k), ia cy (mm 7) 6 (fil (asked S (itG (asked S) (rcN S) (fun _ => 0) k)) N1 (rcN S))]) hx hb hw iX7 tyX7 tyX7_ok nmX7 hown hK hP4 hD4 hS4 0 rfl rfl 14 (by decide) kw_4_78 (fun _ h9 => h9) rfl (by decide +kernel) (b2i_z _) (b2i_fits _) (Nat.le_of_ble_eq_true rfl) rfl dX7_rests_70 (fun H5 locs5 hP5 hD5 hS5 => ?_)
          clear hP4 hD4 hS4 locs4 H4
          have hq9 : ([mO cy mm ik tl fm tz vl iw (nI k) (b2i (RC S = 60)) om, ia cy (mm 1) 169 S, ia cy (mm 6) 6 (itG (asked S) (rcN S) (fun _ => 0) k), ia cy (mm 7) 6 (fil (asked S (itG (asked S) (rcN S) (fun _ => 0) k)) N1 (rcN S))]) = ([mO cy mm ik tl fm tz vl iw (nI k) (b2i (RC S = 60)) om, ia cy (mm 1) 169 S, ia cy (mm 6) 6 (PR S), ia cy (mm 7) 6 (fil (asked S (itG (asked S) (rcN S) (fun _ => 0) k)) N1 (rcN S))]) := congrArg (fun z9 => [mO cy mm ik tl fm tz vl iw (nI k) (b2i (RC S = 60)) om, ia cy (mm 1) 169 S, ia cy (mm 6) 6 z9, ia cy (mm 7) 6 (fil (asked S (itG (asked S) (rcN S) (fun _ => 0) k)) N1 (rcN S))]) (show (itG (asked S) (rcN S) (fun _ => 0) k) = (PR S) from by unfold PR; rw [hcn])
          replace hP5 := (congrArg (fun z9 => va_P D vwCl z9 _) hq9).mp hP5
          replace hD5 := (congrArg (fun z9 => va_D _ z9) hq9).mp hD5
          clear hq9
          have hq9 : ([mO cy mm ik tl fm tz vl iw (nI k) (b2i (RC S = 60)) om, ia cy (mm 1) 169 S, ia cy (mm 6) 6 (PR S), ia cy (mm 7) 6 (fil (asked S (itG (asked S) (rcN S) (fun _ => 0) k)) N1 (rcN S))]) = ([mO cy mm ik tl fm tz vl iw (nI (RC S)) (b2i (RC S = 60)) om, ia cy (mm 1) 169 S, ia cy (mm 6) 6 (PR S), ia cy (mm 7) 6 (fil (asked S (itG (asked S) (rcN S) (fun _ => 0) k)) N1 (rcN S))]) := congrArg (fun z9 => [mO cy mm ik tl fm tz vl iw z9 (b2i (RC S = 60)) om, ia cy (mm 1) 169 S, ia cy (mm 6) 6 (PR S), ia cy (mm 7) 6 (fil (asked S (itG (asked S) (rcN S) (fun _ => 0) k)) N1 (rcN S))]) (show (nI k) = (nI (RC S)) from by rw [hcn])
          replace hP5 := (congrArg (fun z9 => va_P D vwCl z9 _) hq9).mp hP5
          replace hD5 := (congrArg (fun z9 => va_D _ z9) hq9).mp hD5
          clear hq9
          refine re_v (fil (asked S (itG (asked S) (rcN S) (fun _ => 0) k)) N1 (rcN S)) hx hb hr hlocks hP5 hD5 hS5 dX7_rests_73 ?_
          exact (trivial)
      · refine lv_aload_n hx hb dX7_rests_42 rfl (lv_at hl3 1 rfl) ?_
        refine lv_dup hx hb dX7_rests_43 rfl ?_
        refine va_get (D := D) (ci := 7) (v := .int (nI k)) (C := RX7) (T := TX7) (N := 23) hx hb hw iX7 hown hK hP4 0 rfl rfl 13 (by decide) (hw _ kw_4_77) (fun _ h9 => h9) rfl dX7_rests_44 ?_
        refine lv_iconst (v := 1) hx hb dX7_rests_47 (by decide) ?_
        refine lv_iadd hx hb dX7_rests_48 ?_
        refine tp (show ((nI k) + 1) = nI (k + 1) from nI_add _ _) ?_
        refine pt (D := D) (ci := 7) (v := .int (nI (k + 1))) (ty := .int) (C := RX7) (T := TX7) (N := 23) (ws' := [mO cy mm ik tl fm tz vl iw (nI (k + 1)) rr om, ia cy (mm 1) 169 S, ia cy (mm 6) 6 (rndG (asked S) (rcN S) (itG (asked S) (rcN S) (fun _ => 0) k)), ia cy (mm 7) 6 (fil (asked S (itG (asked S) (rcN S) (fun _ => 0) k)) N1 (rcN S))]) hx hb hw iX7 tyX7 tyX7_ok nmX7 hown hK hP4 hD4 hS4 0 rfl rfl 13 (by decide) kw_4_77 (fun _ h9 => h9) rfl (by decide +kernel) rfl rfl (Nat.le_of_ble_eq_true rfl) rfl dX7_rests_49 (fun H5 locs5 hP5 hD5 hS5 => ?_)
        clear hP4 hD4 hS4 locs4 H4
        refine lv_goto (tgt := 26) hx hb dX7_rests_52 (by decide) ?_
        have hq9 : ([mO cy mm ik tl fm tz vl iw (nI (k + 1)) rr om, ia cy (mm 1) 169 S, ia cy (mm 6) 6 (rndG (asked S) (rcN S) (itG (asked S) (rcN S) (fun _ => 0) k)), ia cy (mm 7) 6 (fil (asked S (itG (asked S) (rcN S) (fun _ => 0) k)) N1 (rcN S))]) = ([mO cy mm ik tl fm tz vl iw (nI (k + 1)) rr om, ia cy (mm 1) 169 S, ia cy (mm 6) 6 (itG (asked S) (rcN S) (fun _ => 0) (k + 1)), ia cy (mm 7) 6 (fil (asked S (itG (asked S) (rcN S) (fun _ => 0) k)) N1 (rcN S))]) := congrArg (fun z9 => [mO cy mm ik tl fm tz vl iw (nI (k + 1)) rr om, ia cy (mm 1) 169 S, ia cy (mm 6) 6 z9, ia cy (mm 7) 6 (fil (asked S (itG (asked S) (rcN S) (fun _ => 0) k)) N1 (rcN S))]) (show (rndG (asked S) (rcN S) (itG (asked S) (rcN S) (fun _ => 0) k)) = (itG (asked S) (rcN S) (fun _ => 0) (k + 1)) from rfl)
        replace hP5 := (congrArg (fun z9 => va_P D vwCl z9 _) hq9).mp hP5
        replace hD5 := (congrArg (fun z9 => va_D _ z9) hq9).mp hD5
        clear hq9
        exact ih_26 (k + 1, fil (asked S (itG (asked S) (rcN S) (fun _ => 0) k)) N1 (rcN S)) (⟨by first | omega | assumption | rfl | simp_all, fun j hj => by
            by_cases e9 : j = k
            · subst e9; exact c_39
            · exact hc j (by omega)⟩) (by (try dsimp only); omega) H5 locs5 ls3 hP5 hD5 hS5 (lv_sub hl3 [0, 1] rfl)
  · refine lv_aload_n hx hb dX7_rests_8 rfl (lv_at hl2 1 rfl) ?_
    refine va_get (D := D) (ci := 7) (v := .ref (mm 6)) (C := RX7) (T := TX7) (N := 23) hx hb hw iX7 hown hK hP1 0 rfl rfl 11 (by decide) (hw _ kw_4_75) (fun _ h9 => h9) rfl dX7_rests_9 ?_
    refine lv_iload_n hx hb dX7_rests_12 rfl (lv_at hl2 0 rfl) ?_
    refine lv_iconst (v := 0) hx hb dX7_rests_13 (by decide) ?_
    refine ast_i (f := zI i P) (ws' := [mO cy mm ik tl fm tz vl iw rm rr om, ia cy (mm 1) 169 S, ia cy (mm 6) 6 (upd (zI i P) i 0), ia cy (mm 7) 6 N]) hx hb hK hP1 hD1 hS1 2 0 rfl rfl i rfl (by first | omega | assumption) (by decide) rfl dX7_rests_14 (fun H2 locs2 hP2 hD2 hS2 => ?_)
    clear hP1 hD1 hS1 locs1 H1
    refine lv_iinc (v := nI (i + 1)) (lv' := [(1, .int (nI (i + 1))), (0, .ref (mm 0))]) hx hb dX7_rests_15 hl2 (k := 0) rfl (nI_inc _) (by decide) rfl (fun ls3 hl3 => ?_)
    clear hl2 ls2
    refine lv_goto (tgt := 2) hx hb dX7_rests_18 (by decide) ?_
    have hq9 : ([mO cy mm ik tl fm tz vl iw rm rr om, ia cy (mm 1) 169 S, ia cy (mm 6) 6 (upd (zI i P) i 0), ia cy (mm 7) 6 N]) = ([mO cy mm ik tl fm tz vl iw rm rr om, ia cy (mm 1) 169 S, ia cy (mm 6) 6 (zI (i + 1) P), ia cy (mm 7) 6 N]) := congrArg (fun z9 => [mO cy mm ik tl fm tz vl iw rm rr om, ia cy (mm 1) 169 S, ia cy (mm 6) 6 z9, ia cy (mm 7) 6 N]) (show (upd (zI i P) i 0) = (zI (i + 1) P) from zI_s P i)
    replace hP2 := (congrArg (fun z9 => va_P D vwCl z9 _) hq9).mp hP2
    replace hD2 := (congrArg (fun z9 => va_D _ z9) hq9).mp hD2
    clear hq9
    exact ih_2 (i + 1) (by first | omega | assumption | rfl | simp_all) (by (try dsimp only); omega) H2 locs2 ls3 hP2 hD2 hS2 (lv_sub hl3 [0, 1] rfl)

theorem kc_X7_fresh : kV yX7_fresh cX7_fresh 4 (some .int) 0 := ⟨kw_5_103, kw_s_54, kw_1_8, kw_5_104, by decide, by decide, by decide +kernel⟩
set_option maxHeartbeats 4000000 in
set_option maxRecDepth 100000 in
theorem c_X7_fresh (l : Launch) (D : va_G) (cy : Nat → ClassId) (G : Nat → Nat) (sz : Nat) (mm : Nat → Nat) (ik : Int32) (tl : Int32) (fm : Int32) (tz : Int32) (vl : Int32) (iw : Int32) (rm : Int32) (rr : Int32) (om : Int32) (S : Nat → Int32) (P : Nat → Int32) (wf : wf S) : Met l yX7_fresh (wm yX7_fresh cX7_fresh 4 (some .int)) { frames := 3, cells := 0, slots := 0, locals := 67 } (va_Pc [.ref (mm 0)] (pd D (TY cy) G ([mO cy mm ik tl fm tz vl iw rm rr om, ia cy (mm 1) 169 S, ia cy (mm 6) 6 P]) sz)) (va_Qi (fun r (_ : Unit) => r = frs S P (gcN S)) (fun _ _ => True) (va_A [] sz)) 0 0 (va_A [] sz) := by
  refine mk_rd (by decide) RX7 rfl (Nat.le_of_ble_eq_true rfl) [(0, .ref (mm 0))] rfl ?_
  intro p e s m below meth c hx hb hml hown hr hlocks hw hsz hA hG hK H0 locs0 hP0 hS0 ls0 hl0
  have hg20 := wf_g20 wf
  refine lv_iconst (v := 0) hx hb dX7_fresh_0 (by decide) ?_
  refine lv_istore_n (lv' := [(1, .int 0), (0, .ref (mm 0))]) hx hb dX7_fresh_1 rfl hl0 (by decide) rfl (fun ls1 hl1 => ?_)
  clear hl0 ls0
  refine lv_iconst (v := 0) hx hb dX7_fresh_2 (by decide) ?_
  refine lv_istore_n (lv' := [(2, .int 0), (1, .int 0), (0, .ref (mm 0))]) hx hb dX7_fresh_3 rfl hl1 (by decide) rfl (fun ls2 hl2 => ?_)
  clear hl1 ls1
  refine rlp (ι := Nat) (nL := 4) (ws := [mO cy mm ik tl fm tz vl iw rm rr om, ia cy (mm 1) 169 S, ia cy (mm 6) 6 P]) (fun x9 => (x9 ≤ gcN S)) (fun x9 => [(2, .int (nI x9)), (1, .int (frs S P x9)), (0, .ref (mm 0))]) (fun x9 => []) (fun x9 => gcN S - x9) 4 ?_ 0 (by first | omega | assumption | rfl | simp_all) rfl hP0 hS0 (lv_sub hl2 [0, 1, 2] rfl)
  clear hP0 hS0 locs0 H0 hl2 ls2
  intro x9 hI ih_4 H1 locs1 ls3 hP1 hS1 hl3
  obtain ⟨i, rfl⟩ : ∃ z9, z9 = x9 := ⟨_, rfl⟩
  have hi := hI
  replace hi : i ≤ gcN S := hi
  replace hP1 : va_P D vwCl ([mO cy mm ik tl fm tz vl iw rm rr om, ia cy (mm 1) 169 S, ia cy (mm 6) 6 P]) H1 := hP1
  replace hl3 : lv_has ls3 4 [(2, .int (nI i)), (1, .int (frs S P i)), (0, .ref (mm 0))] := hl3
  show W p l e _ s m _ below meth c _ _ _ _ _ (F0 m 4 ls3 [])
  refine lv_iload_n hx hb dX7_fresh_4 rfl (lv_at hl3 0 rfl) ?_
  refine lv_aload_n hx hb dX7_fresh_5 rfl (lv_at hl3 2 rfl) ?_
  refine va_get (D := D) (ci := 7) (v := .ref (mm 1)) (C := RX7) (T := TX7) (N := 23) hx hb hw iX7 hown hK hP1 0 rfl rfl 0 (by decide) (hw _ kw_4_64) (fun _ h9 => h9) rfl dX7_fresh_6 ?_
  refine lv_iconst (v := 1) hx hb dX7_fresh_9 (by decide) ?_
  refine ald_i (f := S) hx hb hK hP1 1 0 rfl rfl 1 rfl (by first | omega | assumption) (by decide) dX7_fresh_10 ?_
  refine tp (show (S 1) = nI (gcN S) from wf_g wf) ?_
  refine ln_ge (tgt := 52) i (gcN S) rfl rfl (by omega) (by omega) hx hb dX7_fresh_11 (by decide) (fun c_11 => ?_) (fun c_11 => ?_)
  · obtain rfl : i = gcN S := (by omega)
    refine lv_iload_n hx hb dX7_fresh_52 rfl (lv_at hl3 1 rfl) ?_
    exact rd_i hx hb hr hlocks hS1 dX7_fresh_53 (rfl)
  · refine lv_aload_n hx hb dX7_fresh_14 rfl (lv_at hl3 2 rfl) ?_
    refine lv_iload_n hx hb dX7_fresh_15 rfl (lv_at hl3 0 rfl) ?_
    refine lv_iconst (v := 2) hx hb dX7_fresh_16 (by decide) ?_
    refine rV_i (wc := [mO cy mm ik tl fm tz vl iw rm rr om, ia cy (mm 1) 169 S]) (rest := []) hx hb hml hown hw hG hK hP1 hS1 hA hl3 kc_X7_has kw_4_174 [.int (nI i), .int 2] (c_X7_has l D cy G H1.size mm ik tl fm tz vl iw rm rr om S i 2 (by first | omega | assumption) (by first | omega | assumption)) [0, 1] rfl 0 rfl rfl rfl rfl rfl (Nat.le_of_ble_eq_true rfl) ⟨Nat.le_of_ble_eq_true rfl, Nat.le_of_ble_eq_true rfl⟩ dX7_fresh_17 ⟨Nat.le_of_ble_eq_true rfl, Nat.le_of_ble_eq_true rfl⟩ (fun r_17 H2 locs2 hr_17 hP2 hS2 => ?_)
    clear hP1 hS1 locs1 H1
    subst hr_17
    refine tp (show (S (9 + 8 * i + 2)) = S (11 + 8 * i) from congrArg _ (by omega)) ?_
    refine lv_iconst (v := (-1)) hx hb dX7_fresh_20 (by decide) ?_
    refine lv_icmp_ne (tgt := 32) hx hb dX7_fresh_21 (by decide) (fun c_21 => ?_) (fun c_21 => ?_)
    · refine lv_iconst (v := 0) hx hb dX7_fresh_32 (by decide) ?_
      refine lv_istore_n (lv' := [(3, .int 0), (2, .int (nI i)), (1, .int (frs S P i)), (0, .ref (mm 0))]) hx hb dX7_fresh_33 rfl hl3 (by decide) rfl (fun ls4 hl4 => ?_)
      clear hl3 ls3
      refine lv_iload_n hx hb dX7_fresh_34 rfl (lv_at hl4 2 rfl) ?_
      refine lv_iload_n hx hb dX7_fresh_35 rfl (lv_at hl4 0 rfl) ?_
      refine lv_if_le (tgt := 43) hx hb dX7_fresh_36 (by decide) (fun _ => ?_) (fun c => absurd (by decide) c)
      refine lv_iconst (v := 0) hx hb dX7_fresh_43 (by decide) ?_
      refine lv_iadd hx hb dX7_fresh_44 ?_
      refine lv_istore_n (lv' := [(1, .int ((frs S P i) + 0)), (3, .int 0), (2, .int (nI i)), (0, .ref (mm 0))]) hx hb dX7_fresh_45 rfl hl4 (by decide) rfl (fun ls5 hl5 => ?_)
      clear hl4 ls4
      have hq9 : frs S P (i + 1) = (frs S P i) + 0 := by clear hx hb hml hown hr hlocks hw hsz hA hG hK hP2 hS2 hl5 ih_4; grind [frs]
      replace hl5 : lv_has ls5 4 [(1, .int (frs S P (i + 1))), (3, .int 0), (2, .int (nI i)), (0, .ref (mm 0))] := (congrArg (fun z9 => lv_has ls5 4 [(1, .int z9), (3, .int 0), (2, .int (nI i)), (0, .ref (mm 0))]) hq9).mpr hl5
      clear hq9
      refine lv_iinc (v := nI (i + 1)) (lv' := [(2, .int (nI (i + 1))), (1, .int (frs S P (i + 1))), (3, .int 0), (0, .ref (mm 0))]) hx hb dX7_fresh_46 hl5 (k := 2) rfl (nI_inc _) (by decide) rfl (fun ls6 hl6 => ?_)
      clear hl5 ls5
      refine lv_goto (tgt := 4) hx hb dX7_fresh_49 (by decide) ?_
      exact ih_4 (i + 1) (by first | omega | assumption | rfl | simp_all) (by (try dsimp only); omega) H2 locs2 ls6 hP2 hS2 (lv_sub hl6 [0, 1, 3] rfl)
    · refine lv_aload_n hx hb dX7_fresh_24 rfl (lv_at hl3 2 rfl) ?_
      refine lv_iload_n hx hb dX7_fresh_25 rfl (lv_at hl3 0 rfl) ?_
      refine rV_i (wc := [mO cy mm ik tl fm tz vl iw rm rr om, ia cy (mm 1) 169 S, ia cy (mm 6) 6 P]) (rest := []) hx hb hml hown hw hG hK hP2 hS2 hA hl3 kc_X7_flowOf kw_5_73 [.int (nI i)] (c_X7_flowOf l D cy G H2.size mm ik tl fm tz vl iw rm rr om S P i (by first | omega | assumption) (by first | omega | assumption)) [0, 1, 2] rfl 0 rfl rfl rfl rfl rfl (Nat.le_of_ble_eq_true rfl) ⟨Nat.le_of_ble_eq_true rfl, Nat.le_of_ble_eq_true rfl⟩ dX7_fresh_26 ⟨Nat.le_of_ble_eq_true rfl, Nat.le_of_ble_eq_true rfl⟩ (fun r_26 H3 locs3 hr_26 hP3 hS3 => ?_)
      clear hP2 hS2 locs2 H2
      subst hr_26
      refine lv_goto (tgt := 33) hx hb dX7_fresh_29 (by decide) ?_
      refine lv_istore_n (lv' := [(3, .int (flow S P i)), (2, .int (nI i)), (1, .int (frs S P i)), (0, .ref (mm 0))]) hx hb dX7_fresh_33 rfl hl3 (by decide) rfl (fun ls4 hl4 => ?_)
      clear hl3 ls3
      refine lv_iload_n hx hb dX7_fresh_34 rfl (lv_at hl4 2 rfl) ?_
      refine lv_iload_n hx hb dX7_fresh_35 rfl (lv_at hl4 0 rfl) ?_
      refine lv_if_le (tgt := 43) hx hb dX7_fresh_36 (by decide) (fun c_36 => ?_) (fun c_36 => ?_)
      · refine lv_iconst (v := 0) hx hb dX7_fresh_43 (by decide) ?_
        refine lv_iadd hx hb dX7_fresh_44 ?_
        refine lv_istore_n (lv' := [(1, .int ((frs S P i) + 0)), (3, .int (flow S P i)), (2, .int (nI i)), (0, .ref (mm 0))]) hx hb dX7_fresh_45 rfl hl4 (by decide) rfl (fun ls5 hl5 => ?_)
        clear hl4 ls4
        have hq9 : frs S P (i + 1) = (frs S P i) + 0 := by clear hx hb hml hown hr hlocks hw hsz hA hG hK hP3 hS3 hl5 ih_4; grind [frs]
        replace hl5 : lv_has ls5 4 [(1, .int (frs S P (i + 1))), (3, .int (flow S P i)), (2, .int (nI i)), (0, .ref (mm 0))] := (congrArg (fun z9 => lv_has ls5 4 [(1, .int z9), (3, .int (flow S P i)), (2, .int (nI i)), (0, .ref (mm 0))]) hq9).mpr hl5
        clear hq9
        refine lv_iinc (v := nI (i + 1)) (lv' := [(2, .int (nI (i + 1))), (1, .int (frs S P (i + 1))), (3, .int (flow S P i)), (0, .ref (mm 0))]) hx hb dX7_fresh_46 hl5 (k := 2) rfl (nI_inc _) (by decide) rfl (fun ls6 hl6 => ?_)
        clear hl5 ls5
        refine lv_goto (tgt := 4) hx hb dX7_fresh_49 (by decide) ?_
        exact ih_4 (i + 1) (by first | omega | assumption | rfl | simp_all) (by (try dsimp only); omega) H3 locs3 ls6 hP3 hS3 (lv_sub hl6 [0, 1, 3] rfl)
      · refine lv_iload_n hx hb dX7_fresh_39 rfl (lv_at hl4 0 rfl) ?_
        refine lv_goto (tgt := 44) hx hb dX7_fresh_40 (by decide) ?_
        refine lv_iadd hx hb dX7_fresh_44 ?_
        refine lv_istore_n (lv' := [(1, .int ((frs S P i) + (flow S P i))), (3, .int (flow S P i)), (2, .int (nI i)), (0, .ref (mm 0))]) hx hb dX7_fresh_45 rfl hl4 (by decide) rfl (fun ls5 hl5 => ?_)
        clear hl4 ls4
        have hq9 : frs S P (i + 1) = (frs S P i) + (flow S P i) := by clear hx hb hml hown hr hlocks hw hsz hA hG hK hP3 hS3 hl5 ih_4; grind [frs]
        replace hl5 : lv_has ls5 4 [(1, .int (frs S P (i + 1))), (3, .int (flow S P i)), (2, .int (nI i)), (0, .ref (mm 0))] := (congrArg (fun z9 => lv_has ls5 4 [(1, .int z9), (3, .int (flow S P i)), (2, .int (nI i)), (0, .ref (mm 0))]) hq9).mpr hl5
        clear hq9
        refine lv_iinc (v := nI (i + 1)) (lv' := [(2, .int (nI (i + 1))), (1, .int (frs S P (i + 1))), (3, .int (flow S P i)), (0, .ref (mm 0))]) hx hb dX7_fresh_46 hl5 (k := 2) rfl (nI_inc _) (by decide) rfl (fun ls6 hl6 => ?_)
        clear hl5 ls5
        refine lv_goto (tgt := 4) hx hb dX7_fresh_49 (by decide) ?_
        exact ih_4 (i + 1) (by first | omega | assumption | rfl | simp_all) (by (try dsimp only); omega) H3 locs3 ls6 hP3 hS3 (lv_sub hl6 [0, 1, 3] rfl)

theorem kc_X7_lost : kV yX7_lost cX7_lost 1 (some .int) 0 := ⟨kw_5_107, kw_s_55, kw_1_8, kw_5_108, by decide, by decide, by decide +kernel⟩
set_option maxHeartbeats 4000000 in
set_option maxRecDepth 100000 in
theorem c_X7_lost (l : Launch) (D : va_G) (cy : Nat → ClassId) (G : Nat → Nat) (sz : Nat) (mm : Nat → Nat) (ik : Int32) (tl : Int32) (fm : Int32) (tz : Int32) (vl : Int32) (iw : Int32) (rm : Int32) (rr : Int32) (om : Int32) (S : Nat → Int32) (P : Nat → Int32) (wf : wf S) : Met l yX7_lost (wm yX7_lost cX7_lost 1 (some .int)) { frames := 4, cells := 0, slots := 0, locals := 90 } (va_Pc [.ref (mm 0)] (pd D (TY cy) G ([mO cy mm ik tl fm tz vl iw rm rr om, ia cy (mm 1) 169 S, ia cy (mm 6) 6 P]) sz)) (va_Qi (fun r (_ : Unit) => r = frs S P (gcN S) * S 2) (fun _ _ => True) (va_A [] sz)) 0 0 (va_A [] sz) := by
  refine mk_rd (by decide) RX7 rfl (Nat.le_of_ble_eq_true rfl) [(0, .ref (mm 0))] rfl ?_
  intro p e s m below meth c hx hb hml hown hr hlocks hw hsz hA hG hK H0 locs0 hP0 hS0 ls0 hl0
  refine lv_aload_n hx hb dX7_lost_0 rfl (lv_at hl0 0 rfl) ?_
  refine rV_i (wc := [mO cy mm ik tl fm tz vl iw rm rr om, ia cy (mm 1) 169 S, ia cy (mm 6) 6 P]) (rest := []) hx hb hml hown hw hG hK hP0 hS0 hA hl0 kc_X7_fresh kw_5_101 [] (c_X7_fresh l D cy G H0.size mm ik tl fm tz vl iw rm rr om S P (by first | omega | assumption)) [0, 1, 2] rfl 0 rfl rfl rfl rfl rfl (Nat.le_of_ble_eq_true rfl) ⟨Nat.le_of_ble_eq_true rfl, Nat.le_of_ble_eq_true rfl⟩ dX7_lost_1 ⟨Nat.le_of_ble_eq_true rfl, Nat.le_of_ble_eq_true rfl⟩ (fun r_1 H1 locs1 hr_1 hP1 hS1 => ?_)
  clear hP0 hS0 locs0 H0
  subst hr_1
  refine lv_aload_n hx hb dX7_lost_4 rfl (lv_at hl0 0 rfl) ?_
  refine va_get (D := D) (ci := 7) (v := .ref (mm 1)) (C := RX7) (T := TX7) (N := 23) hx hb hw iX7 hown hK hP1 0 rfl rfl 0 (by decide) (hw _ kw_4_64) (fun _ h9 => h9) rfl dX7_lost_5 ?_
  refine lv_iconst (v := 2) hx hb dX7_lost_8 (by decide) ?_
  refine ald_i (f := S) hx hb hK hP1 1 0 rfl rfl 2 rfl (by first | omega | assumption) (by decide) dX7_lost_9 ?_
  refine lv_imul hx hb dX7_lost_10 ?_
  exact rd_i hx hb hr hlocks hS1 dX7_lost_11 (rfl)

theorem kc_X7_smokes : kV yX7_smokes cX7_smokes 3 (some .boolean) 0 := ⟨kw_5_111, kw_s_56, kw_1_8, kw_5_112, by decide, by decide, by decide +kernel⟩
set_option maxHeartbeats 4000000 in
set_option maxRecDepth 100000 in
theorem c_X7_smokes (l : Launch) (D : va_G) (cy : Nat → ClassId) (G : Nat → Nat) (sz : Nat) (mm : Nat → Nat) (ik : Int32) (tl : Int32) (fm : Int32) (tz : Int32) (vl : Int32) (iw : Int32) (rm : Int32) (rr : Int32) (om : Int32) (S : Nat → Int32) (P : Nat → Int32) (wf : wf S) : Met l yX7_smokes (wm yX7_smokes cX7_smokes 3 (some .boolean)) { frames := 3, cells := 0, slots := 0, locals := 67 } (va_Pc [.ref (mm 0)] (pd D (TY cy) G ([mO cy mm ik tl fm tz vl iw rm rr om, ia cy (mm 1) 169 S, ia cy (mm 6) 6 P]) sz)) (va_Qi (fun r (_ : Unit) => r = b2i (smk S P (gcN S) = true)) (fun _ _ => True) (va_A [] sz)) 0 0 (va_A [] sz) := by
  refine mk_rd (by decide) RX7 rfl (Nat.le_of_ble_eq_true rfl) [(0, .ref (mm 0))] rfl ?_
  intro p e s m below meth c hx hb hml hown hr hlocks hw hsz hA hG hK H0 locs0 hP0 hS0 ls0 hl0
  have hg20 := wf_g20 wf
  refine lv_iconst (v := 0) hx hb dX7_smokes_0 (by decide) ?_
  refine lv_istore_n (lv' := [(1, .int 0), (0, .ref (mm 0))]) hx hb dX7_smokes_1 rfl hl0 (by decide) rfl (fun ls1 hl1 => ?_)
  clear hl0 ls0
  refine lv_iconst (v := 0) hx hb dX7_smokes_2 (by decide) ?_
  refine lv_istore_n (lv' := [(2, .int 0), (1, .int 0), (0, .ref (mm 0))]) hx hb dX7_smokes_3 rfl hl1 (by decide) rfl (fun ls2 hl2 => ?_)
  clear hl1 ls1
  have hq9 : b2i (smk S P 0 = true) = 0 := b2i_f (by simp [smk])
  replace hl2 : lv_has ls2 3 [(2, .int 0), (1, .int (b2i (smk S P 0 = true))), (0, .ref (mm 0))] := (congrArg (fun z9 => lv_has ls2 3 [(2, .int 0), (1, .int z9), (0, .ref (mm 0))]) hq9).mpr hl2
  clear hq9
  refine rlp (ι := Nat) (nL := 3) (ws := [mO cy mm ik tl fm tz vl iw rm rr om, ia cy (mm 1) 169 S, ia cy (mm 6) 6 P]) (fun x9 => (x9 ≤ gcN S)) (fun x9 => [(2, .int (nI x9)), (1, .int (b2i (smk S P x9 = true))), (0, .ref (mm 0))]) (fun x9 => []) (fun x9 => gcN S - x9) 4 ?_ 0 (by first | omega | assumption | rfl | simp_all) rfl hP0 hS0 (lv_sub hl2 [0, 1, 2] rfl)
  clear hP0 hS0 locs0 H0 hl2 ls2
  intro x9 hI ih_4 H1 locs1 ls3 hP1 hS1 hl3
  obtain ⟨i, rfl⟩ : ∃ z9, z9 = x9 := ⟨_, rfl⟩
  have hi := hI
  replace hi : i ≤ gcN S := hi
  replace hP1 : va_P D vwCl ([mO cy mm ik tl fm tz vl iw rm rr om, ia cy (mm 1) 169 S, ia cy (mm 6) 6 P]) H1 := hP1
  replace hl3 : lv_has ls3 3 [(2, .int (nI i)), (1, .int (b2i (smk S P i = true))), (0, .ref (mm 0))] := hl3
  show W p l e _ s m _ below meth c _ _ _ _ _ (F0 m 4 ls3 [])
  refine lv_iload_n hx hb dX7_smokes_4 rfl (lv_at hl3 0 rfl) ?_
  refine lv_aload_n hx hb dX7_smokes_5 rfl (lv_at hl3 2 rfl) ?_
  refine va_get (D := D) (ci := 7) (v := .ref (mm 1)) (C := RX7) (T := TX7) (N := 23) hx hb hw iX7 hown hK hP1 0 rfl rfl 0 (by decide) (hw _ kw_4_64) (fun _ h9 => h9) rfl dX7_smokes_6 ?_
  refine lv_iconst (v := 1) hx hb dX7_smokes_9 (by decide) ?_
  refine ald_i (f := S) hx hb hK hP1 1 0 rfl rfl 1 rfl (by first | omega | assumption) (by decide) dX7_smokes_10 ?_
  refine tp (show (S 1) = nI (gcN S) from wf_g wf) ?_
  refine ln_ge (tgt := 66) i (gcN S) rfl rfl (by omega) (by omega) hx hb dX7_smokes_11 (by decide) (fun c_11 => ?_) (fun c_11 => ?_)
  · obtain rfl : i = gcN S := (by omega)
    refine lv_iload_n hx hb dX7_smokes_66 rfl (lv_at hl3 1 rfl) ?_
    exact rd_z hx hb hr hlocks hS1 dX7_smokes_67 (b2i_z _) (rfl)
  · refine lv_iload_n hx hb dX7_smokes_14 rfl (lv_at hl3 1 rfl) ?_
    refine lb_ne (tgt := 54) hx hb dX7_smokes_15 (by decide) (fun c_15 => ?_) (fun c_15 => ?_)
    · refine lv_iconst (v := 1) hx hb dX7_smokes_54 (by decide) ?_
      refine lv_goto (tgt := 59) hx hb dX7_smokes_55 (by decide) ?_
      refine lv_istore_n (lv' := [(1, .int 1), (2, .int (nI i)), (0, .ref (mm 0))]) hx hb dX7_smokes_59 rfl hl3 (by decide) rfl (fun ls4 hl4 => ?_)
      clear hl3 ls3
      have hq9 : b2i (smk S P (i + 1) = true) = 1 := by simp only [smk]; clear hx hb hml hown hr hlocks hw hsz hA hG hK hP1 hS1 hl4 ih_4; grind [b2i]
      replace hl4 : lv_has ls4 3 [(1, .int (b2i (smk S P (i + 1) = true))), (2, .int (nI i)), (0, .ref (mm 0))] := (congrArg (fun z9 => lv_has ls4 3 [(1, .int z9), (2, .int (nI i)), (0, .ref (mm 0))]) hq9).mpr hl4
      clear hq9
      refine lv_iinc (v := nI (i + 1)) (lv' := [(2, .int (nI (i + 1))), (1, .int (b2i (smk S P (i + 1) = true))), (0, .ref (mm 0))]) hx hb dX7_smokes_60 hl4 (k := 1) rfl (nI_inc _) (by decide) rfl (fun ls5 hl5 => ?_)
      clear hl4 ls4
      refine lv_goto (tgt := 4) hx hb dX7_smokes_63 (by decide) ?_
      exact ih_4 (i + 1) (by first | omega | assumption | rfl | simp_all) (by (try dsimp only); omega) H1 locs1 ls5 hP1 hS1 (lv_sub hl5 [0, 1, 2] rfl)
    · refine lv_aload_n hx hb dX7_smokes_18 rfl (lv_at hl3 2 rfl) ?_
      refine lv_iload_n hx hb dX7_smokes_19 rfl (lv_at hl3 0 rfl) ?_
      refine rV_i (wc := [mO cy mm ik tl fm tz vl iw rm rr om, ia cy (mm 1) 169 S]) (rest := []) hx hb hml hown hw hG hK hP1 hS1 hA hl3 kc_X7_isNeeded kw_4_199 [.int (nI i)] (c_X7_isNeeded l D cy G H1.size mm ik tl fm tz vl iw rm rr om S i (by first | omega | assumption)) [0, 1] rfl 0 rfl rfl rfl rfl rfl (Nat.le_of_ble_eq_true rfl) ⟨Nat.le_of_ble_eq_true rfl, Nat.le_of_ble_eq_true rfl⟩ dX7_smokes_20 ⟨Nat.le_of_ble_eq_true rfl, Nat.le_of_ble_eq_true rfl⟩ (fun r_20 H2 locs2 hr_20 hP2 hS2 => ?_)
      clear hP1 hS1 locs1 H1
      subst hr_20
      refine lb_eq (tgt := 58) hx hb dX7_smokes_23 (by decide) (fun c_23 => ?_) (fun c_23 => ?_)
      · refine lv_iconst (v := 0) hx hb dX7_smokes_58 (by decide) ?_
        refine lv_istore_n (lv' := [(1, .int 0), (2, .int (nI i)), (0, .ref (mm 0))]) hx hb dX7_smokes_59 rfl hl3 (by decide) rfl (fun ls4 hl4 => ?_)
        clear hl3 ls3
        have hq9 : b2i (smk S P (i + 1) = true) = 0 := by simp only [smk]; clear hx hb hml hown hr hlocks hw hsz hA hG hK hP2 hS2 hl4 ih_4; grind [b2i]
        replace hl4 : lv_has ls4 3 [(1, .int (b2i (smk S P (i + 1) = true))), (2, .int (nI i)), (0, .ref (mm 0))] := (congrArg (fun z9 => lv_has ls4 3 [(1, .int z9), (2, .int (nI i)), (0, .ref (mm 0))]) hq9).mpr hl4
        clear hq9
        refine lv_iinc (v := nI (i + 1)) (lv' := [(2, .int (nI (i + 1))), (1, .int (b2i (smk S P (i + 1) = true))), (0, .ref (mm 0))]) hx hb dX7_smokes_60 hl4 (k := 1) rfl (nI_inc _) (by decide) rfl (fun ls5 hl5 => ?_)
        clear hl4 ls4
        refine lv_goto (tgt := 4) hx hb dX7_smokes_63 (by decide) ?_
        exact ih_4 (i + 1) (by first | omega | assumption | rfl | simp_all) (by (try dsimp only); omega) H2 locs2 ls5 hP2 hS2 (lv_sub hl5 [0, 1, 2] rfl)
      · refine lv_aload_n hx hb dX7_smokes_26 rfl (lv_at hl3 2 rfl) ?_
        refine lv_iload_n hx hb dX7_smokes_27 rfl (lv_at hl3 0 rfl) ?_
        refine lv_iconst (v := 2) hx hb dX7_smokes_28 (by decide) ?_
        refine rV_i (wc := [mO cy mm ik tl fm tz vl iw rm rr om, ia cy (mm 1) 169 S]) (rest := []) hx hb hml hown hw hG hK hP2 hS2 hA hl3 kc_X7_has kw_4_174 [.int (nI i), .int 2] (c_X7_has l D cy G H2.size mm ik tl fm tz vl iw rm rr om S i 2 (by first | omega | assumption) (by first | omega | assumption)) [0, 1] rfl 0 rfl rfl rfl rfl rfl (Nat.le_of_ble_eq_true rfl) ⟨Nat.le_of_ble_eq_true rfl, Nat.le_of_ble_eq_true rfl⟩ dX7_smokes_29 ⟨Nat.le_of_ble_eq_true rfl, Nat.le_of_ble_eq_true rfl⟩ (fun r_29 H3 locs3 hr_29 hP3 hS3 => ?_)
        clear hP2 hS2 locs2 H2
        subst hr_29
        refine tp (show (S (9 + 8 * i + 2)) = S (11 + 8 * i) from congrArg _ (by omega)) ?_
        refine lv_iconst (v := (-1)) hx hb dX7_smokes_32 (by decide) ?_
        refine lv_icmp_ne (tgt := 58) hx hb dX7_smokes_33 (by decide) (fun c_33 => ?_) (fun c_33 => ?_)
        · refine lv_iconst (v := 0) hx hb dX7_smokes_58 (by decide) ?_
          refine lv_istore_n (lv' := [(1, .int 0), (2, .int (nI i)), (0, .ref (mm 0))]) hx hb dX7_smokes_59 rfl hl3 (by decide) rfl (fun ls4 hl4 => ?_)
          clear hl3 ls3
          have hq9 : b2i (smk S P (i + 1) = true) = 0 := by simp only [smk]; clear hx hb hml hown hr hlocks hw hsz hA hG hK hP3 hS3 hl4 ih_4; grind [b2i]
          replace hl4 : lv_has ls4 3 [(1, .int (b2i (smk S P (i + 1) = true))), (2, .int (nI i)), (0, .ref (mm 0))] := (congrArg (fun z9 => lv_has ls4 3 [(1, .int z9), (2, .int (nI i)), (0, .ref (mm 0))]) hq9).mpr hl4
          clear hq9
          refine lv_iinc (v := nI (i + 1)) (lv' := [(2, .int (nI (i + 1))), (1, .int (b2i (smk S P (i + 1) = true))), (0, .ref (mm 0))]) hx hb dX7_smokes_60 hl4 (k := 1) rfl (nI_inc _) (by decide) rfl (fun ls5 hl5 => ?_)
          clear hl4 ls4
          refine lv_goto (tgt := 4) hx hb dX7_smokes_63 (by decide) ?_
          exact ih_4 (i + 1) (by first | omega | assumption | rfl | simp_all) (by (try dsimp only); omega) H3 locs3 ls5 hP3 hS3 (lv_sub hl5 [0, 1, 2] rfl)
        · refine lv_aload_n hx hb dX7_smokes_36 rfl (lv_at hl3 2 rfl) ?_
          refine lv_iload_n hx hb dX7_smokes_37 rfl (lv_at hl3 0 rfl) ?_
          refine lv_bipush (v := 7) hx hb dX7_smokes_38 (by decide) ?_
          refine rV_i (wc := [mO cy mm ik tl fm tz vl iw rm rr om, ia cy (mm 1) 169 S]) (rest := []) hx hb hml hown hw hG hK hP3 hS3 hA hl3 kc_X7_has kw_4_174 [.int (nI i), .int 7] (c_X7_has l D cy G H3.size mm ik tl fm tz vl iw rm rr om S i 7 (by first | omega | assumption) (by first | omega | assumption)) [0, 1] rfl 0 rfl rfl rfl rfl rfl (Nat.le_of_ble_eq_true rfl) ⟨Nat.le_of_ble_eq_true rfl, Nat.le_of_ble_eq_true rfl⟩ dX7_smokes_40 ⟨Nat.le_of_ble_eq_true rfl, Nat.le_of_ble_eq_true rfl⟩ (fun r_40 H4 locs4 hr_40 hP4 hS4 => ?_)
          clear hP3 hS3 locs3 H3
          subst hr_40
          refine tp (show (S (9 + 8 * i + 7)) = S (16 + 8 * i) from congrArg _ (by omega)) ?_
          refine lv_if_ne (tgt := 58) hx hb dX7_smokes_43 (by decide) (fun c_43 => ?_) (fun c_43 => ?_)
          · refine lv_iconst (v := 0) hx hb dX7_smokes_58 (by decide) ?_
            refine lv_istore_n (lv' := [(1, .int 0), (2, .int (nI i)), (0, .ref (mm 0))]) hx hb dX7_smokes_59 rfl hl3 (by decide) rfl (fun ls4 hl4 => ?_)
            clear hl3 ls3
            have hq9 : b2i (smk S P (i + 1) = true) = 0 := by simp only [smk]; clear hx hb hml hown hr hlocks hw hsz hA hG hK hP4 hS4 hl4 ih_4; grind [b2i]
            replace hl4 : lv_has ls4 3 [(1, .int (b2i (smk S P (i + 1) = true))), (2, .int (nI i)), (0, .ref (mm 0))] := (congrArg (fun z9 => lv_has ls4 3 [(1, .int z9), (2, .int (nI i)), (0, .ref (mm 0))]) hq9).mpr hl4
            clear hq9
            refine lv_iinc (v := nI (i + 1)) (lv' := [(2, .int (nI (i + 1))), (1, .int (b2i (smk S P (i + 1) = true))), (0, .ref (mm 0))]) hx hb dX7_smokes_60 hl4 (k := 1) rfl (nI_inc _) (by decide) rfl (fun ls5 hl5 => ?_)
            clear hl4 ls4
            refine lv_goto (tgt := 4) hx hb dX7_smokes_63 (by decide) ?_
            exact ih_4 (i + 1) (by first | omega | assumption | rfl | simp_all) (by (try dsimp only); omega) H4 locs4 ls5 hP4 hS4 (lv_sub hl5 [0, 1, 2] rfl)
          · refine lv_aload_n hx hb dX7_smokes_46 rfl (lv_at hl3 2 rfl) ?_
            refine lv_iload_n hx hb dX7_smokes_47 rfl (lv_at hl3 0 rfl) ?_
            refine rV_i (wc := [mO cy mm ik tl fm tz vl iw rm rr om, ia cy (mm 1) 169 S, ia cy (mm 6) 6 P]) (rest := []) hx hb hml hown hw hG hK hP4 hS4 hA hl3 kc_X7_flowOf kw_5_73 [.int (nI i)] (c_X7_flowOf l D cy G H4.size mm ik tl fm tz vl iw rm rr om S P i (by first | omega | assumption) (by first | omega | assumption)) [0, 1, 2] rfl 0 rfl rfl rfl rfl rfl (Nat.le_of_ble_eq_true rfl) ⟨Nat.le_of_ble_eq_true rfl, Nat.le_of_ble_eq_true rfl⟩ dX7_smokes_48 ⟨Nat.le_of_ble_eq_true rfl, Nat.le_of_ble_eq_true rfl⟩ (fun r_48 H5 locs5 hr_48 hP5 hS5 => ?_)
            clear hP4 hS4 locs4 H4
            subst hr_48
            refine lv_if_lt (tgt := 58) hx hb dX7_smokes_51 (by decide) (fun c_51 => ?_) (fun c_51 => ?_)
            · refine lv_iconst (v := 0) hx hb dX7_smokes_58 (by decide) ?_
              refine lv_istore_n (lv' := [(1, .int 0), (2, .int (nI i)), (0, .ref (mm 0))]) hx hb dX7_smokes_59 rfl hl3 (by decide) rfl (fun ls4 hl4 => ?_)
              clear hl3 ls3
              have hq9 : b2i (smk S P (i + 1) = true) = 0 := by simp only [smk]; clear hx hb hml hown hr hlocks hw hsz hA hG hK hP5 hS5 hl4 ih_4; grind [b2i]
              replace hl4 : lv_has ls4 3 [(1, .int (b2i (smk S P (i + 1) = true))), (2, .int (nI i)), (0, .ref (mm 0))] := (congrArg (fun z9 => lv_has ls4 3 [(1, .int z9), (2, .int (nI i)), (0, .ref (mm 0))]) hq9).mpr hl4
              clear hq9
              refine lv_iinc (v := nI (i + 1)) (lv' := [(2, .int (nI (i + 1))), (1, .int (b2i (smk S P (i + 1) = true))), (0, .ref (mm 0))]) hx hb dX7_smokes_60 hl4 (k := 1) rfl (nI_inc _) (by decide) rfl (fun ls5 hl5 => ?_)
              clear hl4 ls4
              refine lv_goto (tgt := 4) hx hb dX7_smokes_63 (by decide) ?_
              exact ih_4 (i + 1) (by first | omega | assumption | rfl | simp_all) (by (try dsimp only); omega) H5 locs5 ls5 hP5 hS5 (lv_sub hl5 [0, 1, 2] rfl)
            · refine lv_iconst (v := 1) hx hb dX7_smokes_54 (by decide) ?_
              refine lv_goto (tgt := 59) hx hb dX7_smokes_55 (by decide) ?_
              refine lv_istore_n (lv' := [(1, .int 1), (2, .int (nI i)), (0, .ref (mm 0))]) hx hb dX7_smokes_59 rfl hl3 (by decide) rfl (fun ls4 hl4 => ?_)
              clear hl3 ls3
              have hq9 : b2i (smk S P (i + 1) = true) = 1 := by simp only [smk]; clear hx hb hml hown hr hlocks hw hsz hA hG hK hP5 hS5 hl4 ih_4; grind [b2i]
              replace hl4 : lv_has ls4 3 [(1, .int (b2i (smk S P (i + 1) = true))), (2, .int (nI i)), (0, .ref (mm 0))] := (congrArg (fun z9 => lv_has ls4 3 [(1, .int z9), (2, .int (nI i)), (0, .ref (mm 0))]) hq9).mpr hl4
              clear hq9
              refine lv_iinc (v := nI (i + 1)) (lv' := [(2, .int (nI (i + 1))), (1, .int (b2i (smk S P (i + 1) = true))), (0, .ref (mm 0))]) hx hb dX7_smokes_60 hl4 (k := 1) rfl (nI_inc _) (by decide) rfl (fun ls5 hl5 => ?_)
              clear hl4 ls4
              refine lv_goto (tgt := 4) hx hb dX7_smokes_63 (by decide) ?_
              exact ih_4 (i + 1) (by first | omega | assumption | rfl | simp_all) (by (try dsimp only); omega) H5 locs5 ls5 hP5 hS5 (lv_sub hl5 [0, 1, 2] rfl)
