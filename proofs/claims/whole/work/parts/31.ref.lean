theorem kc_X7_nextShut : kV yX7_nextShut cX7_nextShut 7 (some .int) 1 := ⟨kw_5_169, kw_s_62, kw_1_8, kw_5_170, by decide, by decide, by decide +kernel⟩
set_option maxHeartbeats 4000000 in
set_option maxRecDepth 100000 in
theorem c_X7_nextShut (l : Launch) (D : va_G) (cy : Nat → ClassId) (G : Nat → Nat) (sz : Nat) (mm : Nat → Nat) (ik : Int32) (tl : Int32) (fm : Int32) (tz : Int32) (vl : Int32) (iw : Int32) (rm : Int32) (rr : Int32) (S : Nat → Int32) (P : Nat → Int32) (N : Nat → Int32) (sv : Nat → Int32) (k : Nat) (had : Int32) (wf : wf S) (hk : k < 20) : Met l yX7_nextShut (wm yX7_nextShut cX7_nextShut 7 (some .int)) { frames := 5, cells := 0, slots := 0, locals := 113 } (va_Pc [.ref (mm 0), .int had] (pr D (TY cy) G ([mO cy mm ik tl fm tz vl iw rm rr (nI k), ia cy (mm 1) 169 S, ia cy (mm 6) 6 P, ia cy (mm 7) 6 N, ia cy (mm 9) 21 sv]) sz)) (va_Qi (fun (r : Int32) (u : (Nat → Int32) × (Nat → Int32) × Int32 × Int32) => r = nsB S had (gcN S)) (fun (u : (Nat → Int32) × (Nat → Int32) × Int32 × Int32) t => po D (va_A ([mO cy mm ik tl fm tz vl iw rm rr (nI k), ia cy (mm 1) 169 S, ia cy (mm 6) 6 P, ia cy (mm 7) 6 N, ia cy (mm 9) 21 sv]) sz) ([mO cy mm ik tl fm tz vl iw u.2.2.1 u.2.2.2 (nI k), ia cy (mm 1) 169 S, ia cy (mm 6) 6 u.1, ia cy (mm 7) 6 u.2.1, ia cy (mm 9) 21 (upd sv (k + 1) (nsL S had (gcN S)))]) t) (va_A ([mO cy mm ik tl fm tz vl iw rm rr (nI k), ia cy (mm 1) 169 S, ia cy (mm 6) 6 P, ia cy (mm 7) 6 N, ia cy (mm 9) 21 sv]) sz)) 0 0 (va_A ([mO cy mm ik tl fm tz vl iw rm rr (nI k), ia cy (mm 1) 169 S, ia cy (mm 6) 6 P, ia cy (mm 7) 6 N, ia cy (mm 9) 21 sv]) sz) := by
  refine mk_rw (by decide) RX7 rfl (Nat.le_of_ble_eq_true rfl) [(0, .ref (mm 0)), (1, .int had)] rfl ?_
  intro p e s m below meth c hx hb hml hown hr hlocks hin hw hsz hA hG hK H0 locs0 hP0 hD0 hS0 ls0 hl0
  clear hin
  have hg20 := wf_g20 wf
  refine lv_iconst (v := (-1)) hx hb dX7_nextShut_0 (by decide) ?_
  refine lv_istore_n (lv' := [(2, .int (-1)), (0, .ref (mm 0)), (1, .int had)]) hx hb dX7_nextShut_1 rfl hl0 (by decide) rfl (fun ls1 hl1 => ?_)
  clear hl0 ls0
  refine lv_iload_n hx hb dX7_nextShut_2 rfl (lv_at hl1 2 rfl) ?_
  refine lv_istore_n (lv' := [(3, .int had), (2, .int (-1)), (0, .ref (mm 0)), (1, .int had)]) hx hb dX7_nextShut_3 rfl hl1 (by decide) rfl (fun ls2 hl2 => ?_)
  clear hl1 ls1
  refine lv_iconst (v := 0) hx hb dX7_nextShut_4 (by decide) ?_
  refine lv_istore (lv' := [(4, .int 0), (3, .int had), (2, .int (-1)), (0, .ref (mm 0)), (1, .int had)]) hx hb dX7_nextShut_5 hl2 (by decide) rfl (fun ls3 hl3 => ?_)
  clear hl2 ls2
  refine wlp (ι := Nat × (Nat → Int32) × (Nat → Int32) × Int32 × Int32) (nL := 7) (fun x9 => (x9.1 ≤ gcN S)) (fun x9 => [mO cy mm ik tl fm tz vl iw x9.2.2.2.1 x9.2.2.2.2 (nI k), ia cy (mm 1) 169 S, ia cy (mm 6) 6 x9.2.1, ia cy (mm 7) 6 x9.2.2.1, ia cy (mm 9) 21 sv]) (fun x9 => [(4, .int (nI x9.1)), (3, .int (nsL S had x9.1)), (2, .int (nsB S had x9.1)), (0, .ref (mm 0)), (1, .int had)]) (fun x9 => []) (fun x9 => gcN S - x9.1) 7 ?_ (0, P, N, rm, rr) (by first | omega | assumption | rfl | simp_all) rfl hP0 hD0 hS0 (lv_sub hl3 [0, 1, 2, 3, 4] rfl)
  clear hP0 hD0 hS0 locs0 H0 hl3 ls3
  intro x9 hI ih_7 H1 locs1 ls4 hP1 hD1 hS1 hl4
  obtain ⟨i, P1, N1, rm1, rr1⟩ := x9
  have hi := hI
  replace hi : i ≤ gcN S := hi
  replace hP1 : va_P D vwCl ([mO cy mm ik tl fm tz vl iw rm1 rr1 (nI k), ia cy (mm 1) 169 S, ia cy (mm 6) 6 P1, ia cy (mm 7) 6 N1, ia cy (mm 9) 21 sv]) H1 := hP1
  replace hD1 : va_D (va_A _ sz) ([mO cy mm ik tl fm tz vl iw rm1 rr1 (nI k), ia cy (mm 1) 169 S, ia cy (mm 6) 6 P1, ia cy (mm 7) 6 N1, ia cy (mm 9) 21 sv]) := hD1
  replace hl4 : lv_has ls4 7 [(4, .int (nI i)), (3, .int (nsL S had i)), (2, .int (nsB S had i)), (0, .ref (mm 0)), (1, .int had)] := hl4
  show W p l e _ s m _ below meth c _ _ _ _ _ (F0 m 7 ls4 [])
  refine lv_iload hx hb dX7_nextShut_7 (lv_at hl4 0 rfl) ?_
  refine lv_aload_n hx hb dX7_nextShut_9 rfl (lv_at hl4 3 rfl) ?_
  refine va_get (D := D) (ci := 7) (v := .ref (mm 1)) (C := RX7) (T := TX7) (N := 23) hx hb hw iX7 hown hK hP1 0 rfl rfl 0 (by decide) (hw _ kw_4_64) (fun _ h9 => h9) rfl dX7_nextShut_10 ?_
  refine lv_iconst (v := 1) hx hb dX7_nextShut_13 (by decide) ?_
  refine ald_i (f := S) hx hb hK hP1 1 0 rfl rfl 1 rfl (by first | omega | assumption) (by decide) dX7_nextShut_14 ?_
  refine tp (show (S 1) = nI (gcN S) from wf_g wf) ?_
  refine ln_ge (tgt := 114) i (gcN S) rfl rfl (by omega) (by omega) hx hb dX7_nextShut_15 (by decide) (fun c_15 => ?_) (fun c_15 => ?_)
  · obtain rfl : i = gcN S := (by omega)
    refine lv_aload_n hx hb dX7_nextShut_114 rfl (lv_at hl4 3 rfl) ?_
    refine va_get (D := D) (ci := 7) (v := .ref (mm 9)) (C := RX7) (T := TX7) (N := 23) hx hb hw iX7 hown hK hP1 0 rfl rfl 16 (by decide) (hw _ kw_4_80) (fun _ h9 => h9) rfl dX7_nextShut_115 ?_
    refine lv_aload_n hx hb dX7_nextShut_118 rfl (lv_at hl4 3 rfl) ?_
    refine va_get (D := D) (ci := 7) (v := .int (nI k)) (C := RX7) (T := TX7) (N := 23) hx hb hw iX7 hown hK hP1 0 rfl rfl 17 (by decide) (hw _ kw_4_81) (fun _ h9 => h9) rfl dX7_nextShut_119 ?_
    refine lv_iconst (v := 1) hx hb dX7_nextShut_122 (by decide) ?_
    refine lv_iadd hx hb dX7_nextShut_123 ?_
    refine tp (show ((nI k) + 1) = nI (k + 1) from nI_add _ _) ?_
    refine lv_iload_n hx hb dX7_nextShut_124 rfl (lv_at hl4 1 rfl) ?_
    refine ast_i (f := sv) (ws' := [mO cy mm ik tl fm tz vl iw rm1 rr1 (nI k), ia cy (mm 1) 169 S, ia cy (mm 6) 6 P1, ia cy (mm 7) 6 N1, ia cy (mm 9) 21 (upd sv (k + 1) (nsL S had (gcN S)))]) hx hb hK hP1 hD1 hS1 4 0 rfl rfl (k + 1) rfl (by first | omega | assumption) (by decide) rfl dX7_nextShut_125 (fun H2 locs2 hP2 hD2 hS2 => ?_)
    clear hP1 hD1 hS1 locs1 H1
    refine lv_iload_n hx hb dX7_nextShut_126 rfl (lv_at hl4 2 rfl) ?_
    refine re_i (P1, N1, rm1, rr1) hx hb hr hlocks hP2 hD2 hS2 dX7_nextShut_127 ?_
    exact (rfl)
  · refine lv_aload_n hx hb dX7_nextShut_18 rfl (lv_at hl4 3 rfl) ?_
    refine lv_iload hx hb dX7_nextShut_19 (lv_at hl4 0 rfl) ?_
    refine lv_bipush (v := 7) hx hb dX7_nextShut_21 (by decide) ?_
    refine rV_i (wc := [mO cy mm ik tl fm tz vl iw rm1 rr1 (nI k), ia cy (mm 1) 169 S]) (rest := []) hx hb hml hown hw hG hK hP1 hS1 hA hl4 kc_X7_has kw_4_174 [.int (nI i), .int 7] (c_X7_has l D cy G H1.size mm ik tl fm tz vl iw rm1 rr1 (nI k) S i 7 (by first | omega | assumption) (by first | omega | assumption)) [0, 1] rfl 0 rfl rfl rfl rfl rfl (Nat.le_of_ble_eq_true rfl) ⟨Nat.le_of_ble_eq_true rfl, Nat.le_of_ble_eq_true rfl⟩ dX7_nextShut_23 ⟨Nat.le_of_ble_eq_true rfl, Nat.le_of_ble_eq_true rfl⟩ (fun r_23 H2 locs2 hr_23 hP2 hS2 => ?_)
    have hD2 := hD1
    clear hP1 hD1 hS1 locs1 H1
    subst hr_23
    refine tp (show (S (9 + 8 * i + 7)) = S (16 + 8 * i) from congrArg _ (by omega)) ?_
    refine lv_if_ne (tgt := 108) hx hb dX7_nextShut_26 (by decide) (fun c_26 => ?_) (fun c_26 => ?_)
    · have hq9 : nsB S had (i + 1) = nsB S had i := by clear hx hb hml hown hr hlocks hw hsz hA hG hK hP2 hD2 hS2 hl4 ih_7; grind [nsB]
      replace hl4 : lv_has ls4 7 [(4, .int (nI i)), (3, .int (nsL S had i)), (2, .int (nsB S had (i + 1))), (0, .ref (mm 0)), (1, .int had)] := (congrArg (fun z9 => lv_has ls4 7 [(4, .int (nI i)), (3, .int (nsL S had i)), (2, .int z9), (0, .ref (mm 0)), (1, .int had)]) hq9).mpr hl4
      clear hq9
      have hq9 : nsL S had (i + 1) = nsL S had i := by clear hx hb hml hown hr hlocks hw hsz hA hG hK hP2 hD2 hS2 hl4 ih_7; grind [nsL]
      replace hl4 : lv_has ls4 7 [(4, .int (nI i)), (3, .int (nsL S had (i + 1))), (2, .int (nsB S had (i + 1))), (0, .ref (mm 0)), (1, .int had)] := (congrArg (fun z9 => lv_has ls4 7 [(4, .int (nI i)), (3, .int z9), (2, .int (nsB S had (i + 1))), (0, .ref (mm 0)), (1, .int had)]) hq9).mpr hl4
      clear hq9
      refine lv_iinc (v := nI (i + 1)) (lv' := [(4, .int (nI (i + 1))), (3, .int (nsL S had (i + 1))), (2, .int (nsB S had (i + 1))), (0, .ref (mm 0)), (1, .int had)]) hx hb dX7_nextShut_108 hl4 (k := 0) rfl (nI_inc _) (by decide) rfl (fun ls5 hl5 => ?_)
      clear hl4 ls4
      refine lv_goto (tgt := 7) hx hb dX7_nextShut_111 (by decide) ?_
      exact ih_7 (i + 1, P1, N1, rm1, rr1) (by first | omega | assumption | rfl | simp_all) (by (try dsimp only); omega) H2 locs2 ls5 hP2 hD2 hS2 (lv_sub hl5 [0, 1, 2, 3, 4] rfl)
    · refine lv_aload_n hx hb dX7_nextShut_29 rfl (lv_at hl4 3 rfl) ?_
      refine lv_iload hx hb dX7_nextShut_30 (lv_at hl4 0 rfl) ?_
      refine lv_iconst (v := 2) hx hb dX7_nextShut_32 (by decide) ?_
      refine rV_i (wc := [mO cy mm ik tl fm tz vl iw rm1 rr1 (nI k), ia cy (mm 1) 169 S]) (rest := []) hx hb hml hown hw hG hK hP2 hS2 hA hl4 kc_X7_has kw_4_174 [.int (nI i), .int 2] (c_X7_has l D cy G H2.size mm ik tl fm tz vl iw rm1 rr1 (nI k) S i 2 (by first | omega | assumption) (by first | omega | assumption)) [0, 1] rfl 0 rfl rfl rfl rfl rfl (Nat.le_of_ble_eq_true rfl) ⟨Nat.le_of_ble_eq_true rfl, Nat.le_of_ble_eq_true rfl⟩ dX7_nextShut_33 ⟨Nat.le_of_ble_eq_true rfl, Nat.le_of_ble_eq_true rfl⟩ (fun r_33 H3 locs3 hr_33 hP3 hS3 => ?_)
      have hD3 := hD2
      clear hP2 hD2 hS2 locs2 H2
      subst hr_33
      refine tp (show (S (9 + 8 * i + 2)) = S (11 + 8 * i) from congrArg _ (by omega)) ?_
      refine lv_iconst (v := (-1)) hx hb dX7_nextShut_36 (by decide) ?_
      refine lv_icmp_ne (tgt := 108) hx hb dX7_nextShut_37 (by decide) (fun c_37 => ?_) (fun c_37 => ?_)
      · have hq9 : nsB S had (i + 1) = nsB S had i := by clear hx hb hml hown hr hlocks hw hsz hA hG hK hP3 hD3 hS3 hl4 ih_7; grind [nsB]
        replace hl4 : lv_has ls4 7 [(4, .int (nI i)), (3, .int (nsL S had i)), (2, .int (nsB S had (i + 1))), (0, .ref (mm 0)), (1, .int had)] := (congrArg (fun z9 => lv_has ls4 7 [(4, .int (nI i)), (3, .int (nsL S had i)), (2, .int z9), (0, .ref (mm 0)), (1, .int had)]) hq9).mpr hl4
        clear hq9
        have hq9 : nsL S had (i + 1) = nsL S had i := by clear hx hb hml hown hr hlocks hw hsz hA hG hK hP3 hD3 hS3 hl4 ih_7; grind [nsL]
        replace hl4 : lv_has ls4 7 [(4, .int (nI i)), (3, .int (nsL S had (i + 1))), (2, .int (nsB S had (i + 1))), (0, .ref (mm 0)), (1, .int had)] := (congrArg (fun z9 => lv_has ls4 7 [(4, .int (nI i)), (3, .int z9), (2, .int (nsB S had (i + 1))), (0, .ref (mm 0)), (1, .int had)]) hq9).mpr hl4
        clear hq9
        refine lv_iinc (v := nI (i + 1)) (lv' := [(4, .int (nI (i + 1))), (3, .int (nsL S had (i + 1))), (2, .int (nsB S had (i + 1))), (0, .ref (mm 0)), (1, .int had)]) hx hb dX7_nextShut_108 hl4 (k := 0) rfl (nI_inc _) (by decide) rfl (fun ls5 hl5 => ?_)
        clear hl4 ls4
        refine lv_goto (tgt := 7) hx hb dX7_nextShut_111 (by decide) ?_
        exact ih_7 (i + 1, P1, N1, rm1, rr1) (by first | omega | assumption | rfl | simp_all) (by (try dsimp only); omega) H3 locs3 ls5 hP3 hD3 hS3 (lv_sub hl5 [0, 1, 2, 3, 4] rfl)
      · refine lv_aload_n hx hb dX7_nextShut_40 rfl (lv_at hl4 3 rfl) ?_
        refine lv_iload hx hb dX7_nextShut_41 (lv_at hl4 0 rfl) ?_
        refine rV_i (wc := [mO cy mm ik tl fm tz vl iw rm1 rr1 (nI k), ia cy (mm 1) 169 S]) (rest := []) hx hb hml hown hw hG hK hP3 hS3 hA hl4 kc_X7_isNeeded kw_4_199 [.int (nI i)] (c_X7_isNeeded l D cy G H3.size mm ik tl fm tz vl iw rm1 rr1 (nI k) S i (by first | omega | assumption)) [0, 1] rfl 0 rfl rfl rfl rfl rfl (Nat.le_of_ble_eq_true rfl) ⟨Nat.le_of_ble_eq_true rfl, Nat.le_of_ble_eq_true rfl⟩ dX7_nextShut_43 ⟨Nat.le_of_ble_eq_true rfl, Nat.le_of_ble_eq_true rfl⟩ (fun r_43 H4 locs4 hr_43 hP4 hS4 => ?_)
        have hD4 := hD3
        clear hP3 hD3 hS3 locs3 H3
        subst hr_43
        refine lb_ne (tgt := 108) hx hb dX7_nextShut_46 (by decide) (fun c_46 => ?_) (fun c_46 => ?_)
        · have hq9 : nsB S had (i + 1) = nsB S had i := by clear hx hb hml hown hr hlocks hw hsz hA hG hK hP4 hD4 hS4 hl4 ih_7; grind [nsB]
          replace hl4 : lv_has ls4 7 [(4, .int (nI i)), (3, .int (nsL S had i)), (2, .int (nsB S had (i + 1))), (0, .ref (mm 0)), (1, .int had)] := (congrArg (fun z9 => lv_has ls4 7 [(4, .int (nI i)), (3, .int (nsL S had i)), (2, .int z9), (0, .ref (mm 0)), (1, .int had)]) hq9).mpr hl4
          clear hq9
          have hq9 : nsL S had (i + 1) = nsL S had i := by clear hx hb hml hown hr hlocks hw hsz hA hG hK hP4 hD4 hS4 hl4 ih_7; grind [nsL]
          replace hl4 : lv_has ls4 7 [(4, .int (nI i)), (3, .int (nsL S had (i + 1))), (2, .int (nsB S had (i + 1))), (0, .ref (mm 0)), (1, .int had)] := (congrArg (fun z9 => lv_has ls4 7 [(4, .int (nI i)), (3, .int z9), (2, .int (nsB S had (i + 1))), (0, .ref (mm 0)), (1, .int had)]) hq9).mpr hl4
          clear hq9
          refine lv_iinc (v := nI (i + 1)) (lv' := [(4, .int (nI (i + 1))), (3, .int (nsL S had (i + 1))), (2, .int (nsB S had (i + 1))), (0, .ref (mm 0)), (1, .int had)]) hx hb dX7_nextShut_108 hl4 (k := 0) rfl (nI_inc _) (by decide) rfl (fun ls5 hl5 => ?_)
          clear hl4 ls4
          refine lv_goto (tgt := 7) hx hb dX7_nextShut_111 (by decide) ?_
          exact ih_7 (i + 1, P1, N1, rm1, rr1) (by first | omega | assumption | rfl | simp_all) (by (try dsimp only); omega) H4 locs4 ls5 hP4 hD4 hS4 (lv_sub hl5 [0, 1, 2, 3, 4] rfl)
        · have hp2 : 2 ^ i ≤ 2 ^ 20 := Nat.pow_le_pow_right (by decide) (by omega)
          have hws := wf_sh wf (j := i) (x := 1) (by omega) (Or.inr rfl)
          refine lv_aload_n hx hb dX7_nextShut_49 rfl (lv_at hl4 3 rfl) ?_
          refine lv_iconst (v := 1) hx hb dX7_nextShut_50 (by decide) ?_
          refine lv_iload hx hb dX7_nextShut_51 (lv_at hl4 0 rfl) ?_
          refine lv_ishl hx hb dX7_nextShut_53 ?_
          refine tp (show (1 <<< ((nI i) &&& 31)) = nI (2 ^ i) from shl_1 (by omega)) ?_
          refine lv_iconst (v := 1) hx hb dX7_nextShut_54 (by decide) ?_
          refine cV_v (wc := [mO cy mm ik tl fm tz vl iw rm1 rr1 (nI k), ia cy (mm 1) 169 S]) (wr := [ia cy (mm 6) 6 P1, ia cy (mm 7) 6 N1, ia cy (mm 9) 21 sv]) (rest := []) hx hb hml hown hw hG hK hP4 hD4 hS4 hA hl4 kc_X7_shuts kw_5_154 [.int (nI (2 ^ i)), .int 1] (c_X7_shuts l D cy G H4.size mm ik tl fm tz vl iw rm1 rr1 (nI k) S (2 ^ i) 1 wf (by omega)) [0, 1] [2, 3, 4] rfl rfl rfl rfl rfl 0 rfl rfl rfl rfl rfl (Nat.le_of_ble_eq_true rfl) ⟨Nat.le_of_ble_eq_true rfl, Nat.le_of_ble_eq_true rfl⟩ dX7_nextShut_55 ⟨Nat.le_of_ble_eq_true rfl, Nat.le_of_ble_eq_true rfl⟩ (fun u9 H5 locs5 hu9 hP5 hD5 hS5 => ?_)
          clear hP4 hD4 hS4 locs4 H4
          replace hP5 : va_P D vwCl ([ia cy (mm 6) 6 P1, ia cy (mm 7) 6 N1, ia cy (mm 9) 21 sv, mO cy mm ik tl fm tz vl iw rm1 rr1 (nI k), ia cy (mm 1) 169 (shS S 1 (2 ^ i) (gcN S))]) H5 := hP5
          replace hD5 : va_D (va_A _ sz) ([ia cy (mm 6) 6 P1, ia cy (mm 7) 6 N1, ia cy (mm 9) 21 sv, mO cy mm ik tl fm tz vl iw rm1 rr1 (nI k), ia cy (mm 1) 169 (shS S 1 (2 ^ i) (gcN S))]) := hD5
          replace hP5 := hP5.sub (ws' := [mO cy mm ik tl fm tz vl iw rm1 rr1 (nI k), ia cy (mm 1) 169 (shS S 1 (2 ^ i) (gcN S)), ia cy (mm 6) 6 P1, ia cy (mm 7) 6 N1, ia cy (mm 9) 21 sv]) [3, 4, 0, 1, 2] rfl
          replace hD5 := hD5.sub (ws' := [mO cy mm ik tl fm tz vl iw rm1 rr1 (nI k), ia cy (mm 1) 169 (shS S 1 (2 ^ i) (gcN S)), ia cy (mm 6) 6 P1, ia cy (mm 7) 6 N1, ia cy (mm 9) 21 sv]) [3, 4, 0, 1, 2] (by decide) rfl
          have hq9 : ([mO cy mm ik tl fm tz vl iw rm1 rr1 (nI k), ia cy (mm 1) 169 (shS S 1 (2 ^ i) (gcN S)), ia cy (mm 6) 6 P1, ia cy (mm 7) 6 N1, ia cy (mm 9) 21 sv]) = ([mO cy mm ik tl fm tz vl iw rm1 rr1 (nI k), ia cy (mm 1) 169 (upd S (16 + 8 * i) 1), ia cy (mm 6) 6 P1, ia cy (mm 7) 6 N1, ia cy (mm 9) 21 sv]) := congrArg (fun z9 => [mO cy mm ik tl fm tz vl iw rm1 rr1 (nI k), ia cy (mm 1) 169 z9, ia cy (mm 6) 6 P1, ia cy (mm 7) 6 N1, ia cy (mm 9) 21 sv]) (show (shS S 1 (2 ^ i) (gcN S)) = (upd S (16 + 8 * i) 1) from shS_one c_15)
          replace hP5 := (congrArg (fun z9 => va_P D vwCl z9 _) hq9).mp hP5
          replace hD5 := (congrArg (fun z9 => va_D _ z9) hq9).mp hD5
          clear hq9
          refine lv_aload_n hx hb dX7_nextShut_58 rfl (lv_at hl4 3 rfl) ?_
          refine cV_v (wc := [mO cy mm ik tl fm tz vl iw rm1 rr1 (nI k), ia cy (mm 1) 169 (upd S (16 + 8 * i) 1), ia cy (mm 6) 6 P1, ia cy (mm 7) 6 N1]) (wr := [ia cy (mm 9) 21 sv]) (rest := []) hx hb hml hown hw hG hK hP5 hD5 hS5 hA hl4 kc_X7_rests kw_5_57 [] (c_X7_rests l D cy G H5.size mm ik tl fm tz vl iw rm1 rr1 (nI k) (upd S (16 + 8 * i) 1) P1 N1 hws.1) [0, 1, 2, 3] [4] rfl rfl rfl rfl rfl 0 rfl rfl rfl rfl rfl (Nat.le_of_ble_eq_true rfl) ⟨Nat.le_of_ble_eq_true rfl, Nat.le_of_ble_eq_true rfl⟩ dX7_nextShut_59 ⟨Nat.le_of_ble_eq_true rfl, Nat.le_of_ble_eq_true rfl⟩ (fun u9 H6 locs6 hu9 hP6 hD6 hS6 => ?_)
          clear hP5 hD5 hS5 locs5 H5
          obtain ⟨N1_59, rfl⟩ : ∃ z9, z9 = u9 := ⟨_, rfl⟩
          replace hP6 : va_P D vwCl ([ia cy (mm 9) 21 sv, mO cy mm ik tl fm tz vl iw (nI (RC (upd S (16 + 8 * i) 1))) (b2i (RC (upd S (16 + 8 * i) 1) = 60)) (nI k), ia cy (mm 1) 169 (upd S (16 + 8 * i) 1), ia cy (mm 6) 6 (PR (upd S (16 + 8 * i) 1)), ia cy (mm 7) 6 N1_59]) H6 := hP6
          replace hD6 : va_D (va_A _ sz) ([ia cy (mm 9) 21 sv, mO cy mm ik tl fm tz vl iw (nI (RC (upd S (16 + 8 * i) 1))) (b2i (RC (upd S (16 + 8 * i) 1) = 60)) (nI k), ia cy (mm 1) 169 (upd S (16 + 8 * i) 1), ia cy (mm 6) 6 (PR (upd S (16 + 8 * i) 1)), ia cy (mm 7) 6 N1_59]) := hD6
          replace hP6 := hP6.sub (ws' := [mO cy mm ik tl fm tz vl iw (nI (RC (upd S (16 + 8 * i) 1))) (b2i (RC (upd S (16 + 8 * i) 1) = 60)) (nI k), ia cy (mm 1) 169 (upd S (16 + 8 * i) 1), ia cy (mm 6) 6 (PR (upd S (16 + 8 * i) 1)), ia cy (mm 7) 6 N1_59, ia cy (mm 9) 21 sv]) [1, 2, 3, 4, 0] rfl
          replace hD6 := hD6.sub (ws' := [mO cy mm ik tl fm tz vl iw (nI (RC (upd S (16 + 8 * i) 1))) (b2i (RC (upd S (16 + 8 * i) 1) = 60)) (nI k), ia cy (mm 1) 169 (upd S (16 + 8 * i) 1), ia cy (mm 6) 6 (PR (upd S (16 + 8 * i) 1)), ia cy (mm 7) 6 N1_59, ia cy (mm 9) 21 sv]) [1, 2, 3, 4, 0] (by decide) rfl
          refine lv_aload_n hx hb dX7_nextShut_62 rfl (lv_at hl4 3 rfl) ?_
          refine rV_i (wc := [mO cy mm ik tl fm tz vl iw (nI (RC (upd S (16 + 8 * i) 1))) (b2i (RC (upd S (16 + 8 * i) 1) = 60)) (nI k), ia cy (mm 1) 169 (upd S (16 + 8 * i) 1), ia cy (mm 6) 6 (PR (upd S (16 + 8 * i) 1))]) (rest := []) hx hb hml hown hw hG hK hP6 hS6 hA hl4 kc_X7_lost kw_5_105 [] (c_X7_lost l D cy G H6.size mm ik tl fm tz vl iw (nI (RC (upd S (16 + 8 * i) 1))) (b2i (RC (upd S (16 + 8 * i) 1) = 60)) (nI k) (upd S (16 + 8 * i) 1) (PR (upd S (16 + 8 * i) 1)) hws.1) [0, 1, 2] rfl 0 rfl rfl rfl rfl rfl (Nat.le_of_ble_eq_true rfl) ⟨Nat.le_of_ble_eq_true rfl, Nat.le_of_ble_eq_true rfl⟩ dX7_nextShut_63 ⟨Nat.le_of_ble_eq_true rfl, Nat.le_of_ble_eq_true rfl⟩ (fun r_63 H7 locs7 hr_63 hP7 hS7 => ?_)
          have hD7 := hD6
          clear hP6 hD6 hS6 locs6 H6
          subst hr_63
          refine tp (show (frs (upd S (16 + 8 * i) 1) (PR (upd S (16 + 8 * i) 1)) (gcN (upd S (16 + 8 * i) 1)) * (upd S (16 + 8 * i) 1) 2) = lost (upd S (16 + 8 * i) 1) from rfl) ?_
          refine lv_istore (lv' := [(5, .int (lost (upd S (16 + 8 * i) 1))), (4, .int (nI i)), (3, .int (nsL S had i)), (2, .int (nsB S had i)), (0, .ref (mm 0)), (1, .int had)]) hx hb dX7_nextShut_66 hl4 (by decide) rfl (fun ls5 hl5 => ?_)
          clear hl4 ls4
          refine lv_iload hx hb dX7_nextShut_68 (lv_at hl5 0 rfl) ?_
          refine lv_iload_n hx hb dX7_nextShut_70 rfl (lv_at hl5 2 rfl) ?_
          refine lv_icmp_ge (tgt := 85) hx hb dX7_nextShut_71 (by decide) (fun c_71 => ?_) (fun c_71 => ?_)
          · refine lv_iconst (v := 0) hx hb dX7_nextShut_85 (by decide) ?_
            refine lv_istore (lv' := [(6, .int 0), (5, .int (lost (upd S (16 + 8 * i) 1))), (4, .int (nI i)), (3, .int (nsL S had i)), (2, .int (nsB S had i)), (0, .ref (mm 0)), (1, .int had)]) hx hb dX7_nextShut_86 hl5 (by decide) rfl (fun ls6 hl6 => ?_)
            clear hl5 ls5
            refine lv_aload_n hx hb dX7_nextShut_88 rfl (lv_at hl6 5 rfl) ?_
            refine lv_iconst (v := 1) hx hb dX7_nextShut_89 (by decide) ?_
            refine lv_iload hx hb dX7_nextShut_90 (lv_at hl6 2 rfl) ?_
            refine lv_ishl hx hb dX7_nextShut_92 ?_
            refine tp (show (1 <<< ((nI i) &&& 31)) = nI (2 ^ i) from shl_1 (by omega)) ?_
            refine lv_iconst (v := 0) hx hb dX7_nextShut_93 (by decide) ?_
            refine cV_v (wc := [mO cy mm ik tl fm tz vl iw (nI (RC (upd S (16 + 8 * i) 1))) (b2i (RC (upd S (16 + 8 * i) 1) = 60)) (nI k), ia cy (mm 1) 169 (upd S (16 + 8 * i) 1)]) (wr := [ia cy (mm 6) 6 (PR (upd S (16 + 8 * i) 1)), ia cy (mm 7) 6 N1_59, ia cy (mm 9) 21 sv]) (rest := []) hx hb hml hown hw hG hK hP7 hD7 hS7 hA hl6 kc_X7_shuts kw_5_154 [.int (nI (2 ^ i)), .int 0] (c_X7_shuts l D cy G H7.size mm ik tl fm tz vl iw (nI (RC (upd S (16 + 8 * i) 1))) (b2i (RC (upd S (16 + 8 * i) 1) = 60)) (nI k) (upd S (16 + 8 * i) 1) (2 ^ i) 0 hws.1 (by omega)) [0, 1] [2, 3, 4] rfl rfl rfl rfl rfl 0 rfl rfl rfl rfl rfl (Nat.le_of_ble_eq_true rfl) ⟨Nat.le_of_ble_eq_true rfl, Nat.le_of_ble_eq_true rfl⟩ dX7_nextShut_94 ⟨Nat.le_of_ble_eq_true rfl, Nat.le_of_ble_eq_true rfl⟩ (fun u9 H8 locs8 hu9 hP8 hD8 hS8 => ?_)
            clear hP7 hD7 hS7 locs7 H7
            replace hP8 : va_P D vwCl ([ia cy (mm 6) 6 (PR (upd S (16 + 8 * i) 1)), ia cy (mm 7) 6 N1_59, ia cy (mm 9) 21 sv, mO cy mm ik tl fm tz vl iw (nI (RC (upd S (16 + 8 * i) 1))) (b2i (RC (upd S (16 + 8 * i) 1) = 60)) (nI k), ia cy (mm 1) 169 (shS (upd S (16 + 8 * i) 1) 0 (2 ^ i) (gcN (upd S (16 + 8 * i) 1)))]) H8 := hP8
            replace hD8 : va_D (va_A _ sz) ([ia cy (mm 6) 6 (PR (upd S (16 + 8 * i) 1)), ia cy (mm 7) 6 N1_59, ia cy (mm 9) 21 sv, mO cy mm ik tl fm tz vl iw (nI (RC (upd S (16 + 8 * i) 1))) (b2i (RC (upd S (16 + 8 * i) 1) = 60)) (nI k), ia cy (mm 1) 169 (shS (upd S (16 + 8 * i) 1) 0 (2 ^ i) (gcN (upd S (16 + 8 * i) 1)))]) := hD8
            replace hP8 := hP8.sub (ws' := [mO cy mm ik tl fm tz vl iw (nI (RC (upd S (16 + 8 * i) 1))) (b2i (RC (upd S (16 + 8 * i) 1) = 60)) (nI k), ia cy (mm 1) 169 (shS (upd S (16 + 8 * i) 1) 0 (2 ^ i) (gcN (upd S (16 + 8 * i) 1))), ia cy (mm 6) 6 (PR (upd S (16 + 8 * i) 1)), ia cy (mm 7) 6 N1_59, ia cy (mm 9) 21 sv]) [3, 4, 0, 1, 2] rfl
            replace hD8 := hD8.sub (ws' := [mO cy mm ik tl fm tz vl iw (nI (RC (upd S (16 + 8 * i) 1))) (b2i (RC (upd S (16 + 8 * i) 1) = 60)) (nI k), ia cy (mm 1) 169 (shS (upd S (16 + 8 * i) 1) 0 (2 ^ i) (gcN (upd S (16 + 8 * i) 1))), ia cy (mm 6) 6 (PR (upd S (16 + 8 * i) 1)), ia cy (mm 7) 6 N1_59, ia cy (mm 9) 21 sv]) [3, 4, 0, 1, 2] (by decide) rfl
            have hq9 : ([mO cy mm ik tl fm tz vl iw (nI (RC (upd S (16 + 8 * i) 1))) (b2i (RC (upd S (16 + 8 * i) 1) = 60)) (nI k), ia cy (mm 1) 169 (shS (upd S (16 + 8 * i) 1) 0 (2 ^ i) (gcN (upd S (16 + 8 * i) 1))), ia cy (mm 6) 6 (PR (upd S (16 + 8 * i) 1)), ia cy (mm 7) 6 N1_59, ia cy (mm 9) 21 sv]) = ([mO cy mm ik tl fm tz vl iw (nI (RC (upd S (16 + 8 * i) 1))) (b2i (RC (upd S (16 + 8 * i) 1) = 60)) (nI k), ia cy (mm 1) 169 S, ia cy (mm 6) 6 (PR (upd S (16 + 8 * i) 1)), ia cy (mm 7) 6 N1_59, ia cy (mm 9) 21 sv]) := congrArg (fun z9 => [mO cy mm ik tl fm tz vl iw (nI (RC (upd S (16 + 8 * i) 1))) (b2i (RC (upd S (16 + 8 * i) 1) = 60)) (nI k), ia cy (mm 1) 169 z9, ia cy (mm 6) 6 (PR (upd S (16 + 8 * i) 1)), ia cy (mm 7) 6 N1_59, ia cy (mm 9) 21 sv]) (show (shS (upd S (16 + 8 * i) 1) 0 (2 ^ i) (gcN (upd S (16 + 8 * i) 1))) = S from (shS_one (by rw [hws.2.2.1]; exact c_15)).trans (sh_back c_26))
            replace hP8 := (congrArg (fun z9 => va_P D vwCl z9 _) hq9).mp hP8
            replace hD8 := (congrArg (fun z9 => va_D _ z9) hq9).mp hD8
            clear hq9
            refine lv_iload hx hb dX7_nextShut_97 (lv_at hl6 0 rfl) ?_
            refine lv_if_eq (tgt := 108) hx hb dX7_nextShut_99 (by decide) (fun _ => ?_) (fun c => absurd (by decide) c)
            have hq9 : nsB S had (i + 1) = nsB S had i := by clear hx hb hml hown hr hlocks hw hsz hA hG hK hP8 hD8 hS8 hl6 ih_7; grind [nsB]
            replace hl6 : lv_has ls6 7 [(6, .int 0), (5, .int (lost (upd S (16 + 8 * i) 1))), (4, .int (nI i)), (3, .int (nsL S had i)), (2, .int (nsB S had (i + 1))), (0, .ref (mm 0)), (1, .int had)] := (congrArg (fun z9 => lv_has ls6 7 [(6, .int 0), (5, .int (lost (upd S (16 + 8 * i) 1))), (4, .int (nI i)), (3, .int (nsL S had i)), (2, .int z9), (0, .ref (mm 0)), (1, .int had)]) hq9).mpr hl6
            clear hq9
            have hq9 : nsL S had (i + 1) = nsL S had i := by clear hx hb hml hown hr hlocks hw hsz hA hG hK hP8 hD8 hS8 hl6 ih_7; grind [nsL]
            replace hl6 : lv_has ls6 7 [(6, .int 0), (5, .int (lost (upd S (16 + 8 * i) 1))), (4, .int (nI i)), (3, .int (nsL S had (i + 1))), (2, .int (nsB S had (i + 1))), (0, .ref (mm 0)), (1, .int had)] := (congrArg (fun z9 => lv_has ls6 7 [(6, .int 0), (5, .int (lost (upd S (16 + 8 * i) 1))), (4, .int (nI i)), (3, .int z9), (2, .int (nsB S had (i + 1))), (0, .ref (mm 0)), (1, .int had)]) hq9).mpr hl6
            clear hq9
            refine lv_iinc (v := nI (i + 1)) (lv' := [(4, .int (nI (i + 1))), (6, .int 0), (5, .int (lost (upd S (16 + 8 * i) 1))), (3, .int (nsL S had (i + 1))), (2, .int (nsB S had (i + 1))), (0, .ref (mm 0)), (1, .int had)]) hx hb dX7_nextShut_108 hl6 (k := 2) rfl (nI_inc _) (by decide) rfl (fun ls7 hl7 => ?_)
            clear hl6 ls6
            refine lv_goto (tgt := 7) hx hb dX7_nextShut_111 (by decide) ?_
            exact ih_7 (i + 1, PR (upd S (16 + 8 * i) 1), N1_59, nI (RC (upd S (16 + 8 * i) 1)), b2i (RC (upd S (16 + 8 * i) 1) = 60)) (by first | omega | assumption | rfl | simp_all) (by (try dsimp only); omega) H8 locs8 ls7 hP8 hD8 hS8 (lv_sub hl7 [0, 3, 4, 5, 6] rfl)
          · refine lv_aload_n hx hb dX7_nextShut_74 rfl (lv_at hl5 4 rfl) ?_
            refine rV_i (wc := [mO cy mm ik tl fm tz vl iw (nI (RC (upd S (16 + 8 * i) 1))) (b2i (RC (upd S (16 + 8 * i) 1) = 60)) (nI k), ia cy (mm 1) 169 (upd S (16 + 8 * i) 1), ia cy (mm 6) 6 (PR (upd S (16 + 8 * i) 1))]) (rest := []) hx hb hml hown hw hG hK hP7 hS7 hA hl5 kc_X7_smokes kw_5_109 [] (c_X7_smokes l D cy G H7.size mm ik tl fm tz vl iw (nI (RC (upd S (16 + 8 * i) 1))) (b2i (RC (upd S (16 + 8 * i) 1) = 60)) (nI k) (upd S (16 + 8 * i) 1) (PR (upd S (16 + 8 * i) 1)) hws.1) [0, 1, 2] rfl 0 rfl rfl rfl rfl rfl (Nat.le_of_ble_eq_true rfl) ⟨Nat.le_of_ble_eq_true rfl, Nat.le_of_ble_eq_true rfl⟩ dX7_nextShut_75 ⟨Nat.le_of_ble_eq_true rfl, Nat.le_of_ble_eq_true rfl⟩ (fun r_75 H8 locs8 hr_75 hP8 hS8 => ?_)
            have hD8 := hD7
            clear hP7 hD7 hS7 locs7 H7
            subst hr_75
            refine tp (show (b2i (smk (upd S (16 + 8 * i) 1) (PR (upd S (16 + 8 * i) 1)) (gcN (upd S (16 + 8 * i) 1)) = true)) = b2i (smokes (upd S (16 + 8 * i) 1) = true) from rfl) ?_
            refine lb_ne (tgt := 85) hx hb dX7_nextShut_78 (by decide) (fun c_78 => ?_) (fun c_78 => ?_)
            · refine lv_iconst (v := 0) hx hb dX7_nextShut_85 (by decide) ?_
              refine lv_istore (lv' := [(6, .int 0), (5, .int (lost (upd S (16 + 8 * i) 1))), (4, .int (nI i)), (3, .int (nsL S had i)), (2, .int (nsB S had i)), (0, .ref (mm 0)), (1, .int had)]) hx hb dX7_nextShut_86 hl5 (by decide) rfl (fun ls6 hl6 => ?_)
              clear hl5 ls5
              refine lv_aload_n hx hb dX7_nextShut_88 rfl (lv_at hl6 5 rfl) ?_
              refine lv_iconst (v := 1) hx hb dX7_nextShut_89 (by decide) ?_
              refine lv_iload hx hb dX7_nextShut_90 (lv_at hl6 2 rfl) ?_
              refine lv_ishl hx hb dX7_nextShut_92 ?_
              refine tp (show (1 <<< ((nI i) &&& 31)) = nI (2 ^ i) from shl_1 (by omega)) ?_
              refine lv_iconst (v := 0) hx hb dX7_nextShut_93 (by decide) ?_
              refine cV_v (wc := [mO cy mm ik tl fm tz vl iw (nI (RC (upd S (16 + 8 * i) 1))) (b2i (RC (upd S (16 + 8 * i) 1) = 60)) (nI k), ia cy (mm 1) 169 (upd S (16 + 8 * i) 1)]) (wr := [ia cy (mm 6) 6 (PR (upd S (16 + 8 * i) 1)), ia cy (mm 7) 6 N1_59, ia cy (mm 9) 21 sv]) (rest := []) hx hb hml hown hw hG hK hP8 hD8 hS8 hA hl6 kc_X7_shuts kw_5_154 [.int (nI (2 ^ i)), .int 0] (c_X7_shuts l D cy G H8.size mm ik tl fm tz vl iw (nI (RC (upd S (16 + 8 * i) 1))) (b2i (RC (upd S (16 + 8 * i) 1) = 60)) (nI k) (upd S (16 + 8 * i) 1) (2 ^ i) 0 hws.1 (by omega)) [0, 1] [2, 3, 4] rfl rfl rfl rfl rfl 0 rfl rfl rfl rfl rfl (Nat.le_of_ble_eq_true rfl) ⟨Nat.le_of_ble_eq_true rfl, Nat.le_of_ble_eq_true rfl⟩ dX7_nextShut_94 ⟨Nat.le_of_ble_eq_true rfl, Nat.le_of_ble_eq_true rfl⟩ (fun u9 H9 locs9 hu9 hP9 hD9 hS9 => ?_)
              clear hP8 hD8 hS8 locs8 H8
              replace hP9 : va_P D vwCl ([ia cy (mm 6) 6 (PR (upd S (16 + 8 * i) 1)), ia cy (mm 7) 6 N1_59, ia cy (mm 9) 21 sv, mO cy mm ik tl fm tz vl iw (nI (RC (upd S (16 + 8 * i) 1))) (b2i (RC (upd S (16 + 8 * i) 1) = 60)) (nI k), ia cy (mm 1) 169 (shS (upd S (16 + 8 * i) 1) 0 (2 ^ i) (gcN (upd S (16 + 8 * i) 1)))]) H9 := hP9
              replace hD9 : va_D (va_A _ sz) ([ia cy (mm 6) 6 (PR (upd S (16 + 8 * i) 1)), ia cy (mm 7) 6 N1_59, ia cy (mm 9) 21 sv, mO cy mm ik tl fm tz vl iw (nI (RC (upd S (16 + 8 * i) 1))) (b2i (RC (upd S (16 + 8 * i) 1) = 60)) (nI k), ia cy (mm 1) 169 (shS (upd S (16 + 8 * i) 1) 0 (2 ^ i) (gcN (upd S (16 + 8 * i) 1)))]) := hD9
              replace hP9 := hP9.sub (ws' := [mO cy mm ik tl fm tz vl iw (nI (RC (upd S (16 + 8 * i) 1))) (b2i (RC (upd S (16 + 8 * i) 1) = 60)) (nI k), ia cy (mm 1) 169 (shS (upd S (16 + 8 * i) 1) 0 (2 ^ i) (gcN (upd S (16 + 8 * i) 1))), ia cy (mm 6) 6 (PR (upd S (16 + 8 * i) 1)), ia cy (mm 7) 6 N1_59, ia cy (mm 9) 21 sv]) [3, 4, 0, 1, 2] rfl
              replace hD9 := hD9.sub (ws' := [mO cy mm ik tl fm tz vl iw (nI (RC (upd S (16 + 8 * i) 1))) (b2i (RC (upd S (16 + 8 * i) 1) = 60)) (nI k), ia cy (mm 1) 169 (shS (upd S (16 + 8 * i) 1) 0 (2 ^ i) (gcN (upd S (16 + 8 * i) 1))), ia cy (mm 6) 6 (PR (upd S (16 + 8 * i) 1)), ia cy (mm 7) 6 N1_59, ia cy (mm 9) 21 sv]) [3, 4, 0, 1, 2] (by decide) rfl
              have hq9 : ([mO cy mm ik tl fm tz vl iw (nI (RC (upd S (16 + 8 * i) 1))) (b2i (RC (upd S (16 + 8 * i) 1) = 60)) (nI k), ia cy (mm 1) 169 (shS (upd S (16 + 8 * i) 1) 0 (2 ^ i) (gcN (upd S (16 + 8 * i) 1))), ia cy (mm 6) 6 (PR (upd S (16 + 8 * i) 1)), ia cy (mm 7) 6 N1_59, ia cy (mm 9) 21 sv]) = ([mO cy mm ik tl fm tz vl iw (nI (RC (upd S (16 + 8 * i) 1))) (b2i (RC (upd S (16 + 8 * i) 1) = 60)) (nI k), ia cy (mm 1) 169 S, ia cy (mm 6) 6 (PR (upd S (16 + 8 * i) 1)), ia cy (mm 7) 6 N1_59, ia cy (mm 9) 21 sv]) := congrArg (fun z9 => [mO cy mm ik tl fm tz vl iw (nI (RC (upd S (16 + 8 * i) 1))) (b2i (RC (upd S (16 + 8 * i) 1) = 60)) (nI k), ia cy (mm 1) 169 z9, ia cy (mm 6) 6 (PR (upd S (16 + 8 * i) 1)), ia cy (mm 7) 6 N1_59, ia cy (mm 9) 21 sv]) (show (shS (upd S (16 + 8 * i) 1) 0 (2 ^ i) (gcN (upd S (16 + 8 * i) 1))) = S from (shS_one (by rw [hws.2.2.1]; exact c_15)).trans (sh_back c_26))
              replace hP9 := (congrArg (fun z9 => va_P D vwCl z9 _) hq9).mp hP9
              replace hD9 := (congrArg (fun z9 => va_D _ z9) hq9).mp hD9
              clear hq9
              refine lv_iload hx hb dX7_nextShut_97 (lv_at hl6 0 rfl) ?_
              refine lv_if_eq (tgt := 108) hx hb dX7_nextShut_99 (by decide) (fun _ => ?_) (fun c => absurd (by decide) c)
              have hq9 : nsB S had (i + 1) = nsB S had i := by clear hx hb hml hown hr hlocks hw hsz hA hG hK hP9 hD9 hS9 hl6 ih_7; grind [nsB]
              replace hl6 : lv_has ls6 7 [(6, .int 0), (5, .int (lost (upd S (16 + 8 * i) 1))), (4, .int (nI i)), (3, .int (nsL S had i)), (2, .int (nsB S had (i + 1))), (0, .ref (mm 0)), (1, .int had)] := (congrArg (fun z9 => lv_has ls6 7 [(6, .int 0), (5, .int (lost (upd S (16 + 8 * i) 1))), (4, .int (nI i)), (3, .int (nsL S had i)), (2, .int z9), (0, .ref (mm 0)), (1, .int had)]) hq9).mpr hl6
              clear hq9
              have hq9 : nsL S had (i + 1) = nsL S had i := by clear hx hb hml hown hr hlocks hw hsz hA hG hK hP9 hD9 hS9 hl6 ih_7; grind [nsL]
              replace hl6 : lv_has ls6 7 [(6, .int 0), (5, .int (lost (upd S (16 + 8 * i) 1))), (4, .int (nI i)), (3, .int (nsL S had (i + 1))), (2, .int (nsB S had (i + 1))), (0, .ref (mm 0)), (1, .int had)] := (congrArg (fun z9 => lv_has ls6 7 [(6, .int 0), (5, .int (lost (upd S (16 + 8 * i) 1))), (4, .int (nI i)), (3, .int z9), (2, .int (nsB S had (i + 1))), (0, .ref (mm 0)), (1, .int had)]) hq9).mpr hl6
              clear hq9
              refine lv_iinc (v := nI (i + 1)) (lv' := [(4, .int (nI (i + 1))), (6, .int 0), (5, .int (lost (upd S (16 + 8 * i) 1))), (3, .int (nsL S had (i + 1))), (2, .int (nsB S had (i + 1))), (0, .ref (mm 0)), (1, .int had)]) hx hb dX7_nextShut_108 hl6 (k := 2) rfl (nI_inc _) (by decide) rfl (fun ls7 hl7 => ?_)
              clear hl6 ls6
              refine lv_goto (tgt := 7) hx hb dX7_nextShut_111 (by decide) ?_
              exact ih_7 (i + 1, PR (upd S (16 + 8 * i) 1), N1_59, nI (RC (upd S (16 + 8 * i) 1)), b2i (RC (upd S (16 + 8 * i) 1) = 60)) (by first | omega | assumption | rfl | simp_all) (by (try dsimp only); omega) H9 locs9 ls7 hP9 hD9 hS9 (lv_sub hl7 [0, 3, 4, 5, 6] rfl)
            · refine lv_iconst (v := 1) hx hb dX7_nextShut_81 (by decide) ?_
              refine lv_goto (tgt := 86) hx hb dX7_nextShut_82 (by decide) ?_
              refine lv_istore (lv' := [(6, .int 1), (5, .int (lost (upd S (16 + 8 * i) 1))), (4, .int (nI i)), (3, .int (nsL S had i)), (2, .int (nsB S had i)), (0, .ref (mm 0)), (1, .int had)]) hx hb dX7_nextShut_86 hl5 (by decide) rfl (fun ls6 hl6 => ?_)
              clear hl5 ls5
              refine lv_aload_n hx hb dX7_nextShut_88 rfl (lv_at hl6 5 rfl) ?_
              refine lv_iconst (v := 1) hx hb dX7_nextShut_89 (by decide) ?_
              refine lv_iload hx hb dX7_nextShut_90 (lv_at hl6 2 rfl) ?_
              refine lv_ishl hx hb dX7_nextShut_92 ?_
              refine tp (show (1 <<< ((nI i) &&& 31)) = nI (2 ^ i) from shl_1 (by omega)) ?_
              refine lv_iconst (v := 0) hx hb dX7_nextShut_93 (by decide) ?_
              refine cV_v (wc := [mO cy mm ik tl fm tz vl iw (nI (RC (upd S (16 + 8 * i) 1))) (b2i (RC (upd S (16 + 8 * i) 1) = 60)) (nI k), ia cy (mm 1) 169 (upd S (16 + 8 * i) 1)]) (wr := [ia cy (mm 6) 6 (PR (upd S (16 + 8 * i) 1)), ia cy (mm 7) 6 N1_59, ia cy (mm 9) 21 sv]) (rest := []) hx hb hml hown hw hG hK hP8 hD8 hS8 hA hl6 kc_X7_shuts kw_5_154 [.int (nI (2 ^ i)), .int 0] (c_X7_shuts l D cy G H8.size mm ik tl fm tz vl iw (nI (RC (upd S (16 + 8 * i) 1))) (b2i (RC (upd S (16 + 8 * i) 1) = 60)) (nI k) (upd S (16 + 8 * i) 1) (2 ^ i) 0 hws.1 (by omega)) [0, 1] [2, 3, 4] rfl rfl rfl rfl rfl 0 rfl rfl rfl rfl rfl (Nat.le_of_ble_eq_true rfl) ⟨Nat.le_of_ble_eq_true rfl, Nat.le_of_ble_eq_true rfl⟩ dX7_nextShut_94 ⟨Nat.le_of_ble_eq_true rfl, Nat.le_of_ble_eq_true rfl⟩ (fun u9 H9 locs9 hu9 hP9 hD9 hS9 => ?_)
              clear hP8 hD8 hS8 locs8 H8
              replace hP9 : va_P D vwCl ([ia cy (mm 6) 6 (PR (upd S (16 + 8 * i) 1)), ia cy (mm 7) 6 N1_59, ia cy (mm 9) 21 sv, mO cy mm ik tl fm tz vl iw (nI (RC (upd S (16 + 8 * i) 1))) (b2i (RC (upd S (16 + 8 * i) 1) = 60)) (nI k), ia cy (mm 1) 169 (shS (upd S (16 + 8 * i) 1) 0 (2 ^ i) (gcN (upd S (16 + 8 * i) 1)))]) H9 := hP9
              replace hD9 : va_D (va_A _ sz) ([ia cy (mm 6) 6 (PR (upd S (16 + 8 * i) 1)), ia cy (mm 7) 6 N1_59, ia cy (mm 9) 21 sv, mO cy mm ik tl fm tz vl iw (nI (RC (upd S (16 + 8 * i) 1))) (b2i (RC (upd S (16 + 8 * i) 1) = 60)) (nI k), ia cy (mm 1) 169 (shS (upd S (16 + 8 * i) 1) 0 (2 ^ i) (gcN (upd S (16 + 8 * i) 1)))]) := hD9
              replace hP9 := hP9.sub (ws' := [mO cy mm ik tl fm tz vl iw (nI (RC (upd S (16 + 8 * i) 1))) (b2i (RC (upd S (16 + 8 * i) 1) = 60)) (nI k), ia cy (mm 1) 169 (shS (upd S (16 + 8 * i) 1) 0 (2 ^ i) (gcN (upd S (16 + 8 * i) 1))), ia cy (mm 6) 6 (PR (upd S (16 + 8 * i) 1)), ia cy (mm 7) 6 N1_59, ia cy (mm 9) 21 sv]) [3, 4, 0, 1, 2] rfl
              replace hD9 := hD9.sub (ws' := [mO cy mm ik tl fm tz vl iw (nI (RC (upd S (16 + 8 * i) 1))) (b2i (RC (upd S (16 + 8 * i) 1) = 60)) (nI k), ia cy (mm 1) 169 (shS (upd S (16 + 8 * i) 1) 0 (2 ^ i) (gcN (upd S (16 + 8 * i) 1))), ia cy (mm 6) 6 (PR (upd S (16 + 8 * i) 1)), ia cy (mm 7) 6 N1_59, ia cy (mm 9) 21 sv]) [3, 4, 0, 1, 2] (by decide) rfl
              have hq9 : ([mO cy mm ik tl fm tz vl iw (nI (RC (upd S (16 + 8 * i) 1))) (b2i (RC (upd S (16 + 8 * i) 1) = 60)) (nI k), ia cy (mm 1) 169 (shS (upd S (16 + 8 * i) 1) 0 (2 ^ i) (gcN (upd S (16 + 8 * i) 1))), ia cy (mm 6) 6 (PR (upd S (16 + 8 * i) 1)), ia cy (mm 7) 6 N1_59, ia cy (mm 9) 21 sv]) = ([mO cy mm ik tl fm tz vl iw (nI (RC (upd S (16 + 8 * i) 1))) (b2i (RC (upd S (16 + 8 * i) 1) = 60)) (nI k), ia cy (mm 1) 169 S, ia cy (mm 6) 6 (PR (upd S (16 + 8 * i) 1)), ia cy (mm 7) 6 N1_59, ia cy (mm 9) 21 sv]) := congrArg (fun z9 => [mO cy mm ik tl fm tz vl iw (nI (RC (upd S (16 + 8 * i) 1))) (b2i (RC (upd S (16 + 8 * i) 1) = 60)) (nI k), ia cy (mm 1) 169 z9, ia cy (mm 6) 6 (PR (upd S (16 + 8 * i) 1)), ia cy (mm 7) 6 N1_59, ia cy (mm 9) 21 sv]) (show (shS (upd S (16 + 8 * i) 1) 0 (2 ^ i) (gcN (upd S (16 + 8 * i) 1))) = S from (shS_one (by rw [hws.2.2.1]; exact c_15)).trans (sh_back c_26))
              replace hP9 := (congrArg (fun z9 => va_P D vwCl z9 _) hq9).mp hP9
              replace hD9 := (congrArg (fun z9 => va_D _ z9) hq9).mp hD9
              clear hq9
              refine lv_iload hx hb dX7_nextShut_97 (lv_at hl6 0 rfl) ?_
              refine lv_if_eq (tgt := 108) hx hb dX7_nextShut_99 (by decide) (fun c => absurd c (by decide)) (fun _ => ?_)
              refine lv_iload hx hb dX7_nextShut_102 (lv_at hl6 2 rfl) ?_
              refine lv_istore_n (lv' := [(2, .int (nI i)), (6, .int 1), (5, .int (lost (upd S (16 + 8 * i) 1))), (4, .int (nI i)), (3, .int (nsL S had i)), (0, .ref (mm 0)), (1, .int had)]) hx hb dX7_nextShut_104 rfl hl6 (by decide) rfl (fun ls7 hl7 => ?_)
              clear hl6 ls6
              refine lv_iload hx hb dX7_nextShut_105 (lv_at hl7 2 rfl) ?_
              refine lv_istore_n (lv' := [(3, .int (lost (upd S (16 + 8 * i) 1))), (2, .int (nI i)), (6, .int 1), (5, .int (lost (upd S (16 + 8 * i) 1))), (4, .int (nI i)), (0, .ref (mm 0)), (1, .int had)]) hx hb dX7_nextShut_107 rfl hl7 (by decide) rfl (fun ls8 hl8 => ?_)
              clear hl7 ls7
              have hq9 : nsB S had (i + 1) = nI i := by clear hx hb hml hown hr hlocks hw hsz hA hG hK hP9 hD9 hS9 hl8 ih_7; grind [nsB]
              replace hl8 : lv_has ls8 7 [(3, .int (lost (upd S (16 + 8 * i) 1))), (2, .int (nsB S had (i + 1))), (6, .int 1), (5, .int (lost (upd S (16 + 8 * i) 1))), (4, .int (nI i)), (0, .ref (mm 0)), (1, .int had)] := (congrArg (fun z9 => lv_has ls8 7 [(3, .int (lost (upd S (16 + 8 * i) 1))), (2, .int z9), (6, .int 1), (5, .int (lost (upd S (16 + 8 * i) 1))), (4, .int (nI i)), (0, .ref (mm 0)), (1, .int had)]) hq9).mpr hl8
              clear hq9
              have hq9 : nsL S had (i + 1) = lost (upd S (16 + 8 * i) 1) := by clear hx hb hml hown hr hlocks hw hsz hA hG hK hP9 hD9 hS9 hl8 ih_7; grind [nsL]
              replace hl8 : lv_has ls8 7 [(3, .int (nsL S had (i + 1))), (2, .int (nsB S had (i + 1))), (6, .int 1), (5, .int (lost (upd S (16 + 8 * i) 1))), (4, .int (nI i)), (0, .ref (mm 0)), (1, .int had)] := (congrArg (fun z9 => lv_has ls8 7 [(3, .int z9), (2, .int (nsB S had (i + 1))), (6, .int 1), (5, .int (lost (upd S (16 + 8 * i) 1))), (4, .int (nI i)), (0, .ref (mm 0)), (1, .int had)]) hq9).mpr hl8
              clear hq9
              refine lv_iinc (v := nI (i + 1)) (lv' := [(4, .int (nI (i + 1))), (3, .int (nsL S had (i + 1))), (2, .int (nsB S had (i + 1))), (6, .int 1), (5, .int (lost (upd S (16 + 8 * i) 1))), (0, .ref (mm 0)), (1, .int had)]) hx hb dX7_nextShut_108 hl8 (k := 4) rfl (nI_inc _) (by decide) rfl (fun ls9 hl9 => ?_)
              clear hl8 ls8
              refine lv_goto (tgt := 7) hx hb dX7_nextShut_111 (by decide) ?_
              exact ih_7 (i + 1, PR (upd S (16 + 8 * i) 1), N1_59, nI (RC (upd S (16 + 8 * i) 1)), b2i (RC (upd S (16 + 8 * i) 1) = 60)) (by first | omega | assumption | rfl | simp_all) (by (try dsimp only); omega) H9 locs9 ls9 hP9 hD9 hS9 (lv_sub hl9 [0, 1, 2, 5, 6] rfl)

theorem kc_X7_findOrder : kV yX7_findOrder cX7_findOrder 2 none 0 := ⟨kw_5_165, kw_s_61, kw_1_8, kw_5_166, by decide, by decide, by decide +kernel⟩
set_option maxHeartbeats 4000000 in
set_option maxRecDepth 100000 in
theorem c_X7_findOrder (l : Launch) (D : va_G) (cy : Nat → ClassId) (G : Nat → Nat) (sz : Nat) (mm : Nat → Nat) (ik : Int32) (tl : Int32) (fm : Int32) (tz : Int32) (vl : Int32) (iw : Int32) (rm : Int32) (rr : Int32) (om : Int32) (S : Nat → Int32) (P : Nat → Int32) (N : Nat → Int32) (O : Nat → Int32) (od : Nat → Int32) (sv : Nat → Int32) (wf : wf S) : Met l yX7_findOrder (wm yX7_findOrder cX7_findOrder 2 none) { frames := 6, cells := 0, slots := 0, locals := 139 } (va_Pc [.ref (mm 0)] (pr D (TY cy) G ([mO cy mm ik tl fm tz vl iw rm rr om, ia cy (mm 1) 169 S, ia cy (mm 3) 169 O, ia cy (mm 6) 6 P, ia cy (mm 7) 6 N, ia cy (mm 8) 20 od, ia cy (mm 9) 21 sv]) sz)) (va_Qv (fun (u : (Nat → Int32) × (Nat → Int32) × Int32 × Int32 × (Nat → Int32) × (Nat → Int32)) => (∀ j, j < ordK S → u.2.2.2.2.1 j = stp S j) ∧ (∀ j, j ≤ ordK S → u.2.2.2.2.2 j = hadS S j)) (fun (u : (Nat → Int32) × (Nat → Int32) × Int32 × Int32 × (Nat → Int32) × (Nat → Int32)) t => po D (va_A ([mO cy mm ik tl fm tz vl iw rm rr om, ia cy (mm 1) 169 S, ia cy (mm 3) 169 O, ia cy (mm 6) 6 P, ia cy (mm 7) 6 N, ia cy (mm 8) 20 od, ia cy (mm 9) 21 sv]) sz) ([mO cy mm ik tl fm tz vl iw u.2.2.1 u.2.2.2.1 (nI (ordK S)), ia cy (mm 1) 169 S, ia cy (mm 3) 169 S, ia cy (mm 6) 6 u.1, ia cy (mm 7) 6 u.2.1, ia cy (mm 8) 20 u.2.2.2.2.1, ia cy (mm 9) 21 u.2.2.2.2.2]) t) (va_A ([mO cy mm ik tl fm tz vl iw rm rr om, ia cy (mm 1) 169 S, ia cy (mm 3) 169 O, ia cy (mm 6) 6 P, ia cy (mm 7) 6 N, ia cy (mm 8) 20 od, ia cy (mm 9) 21 sv]) sz)) 0 0 (va_A ([mO cy mm ik tl fm tz vl iw rm rr om, ia cy (mm 1) 169 S, ia cy (mm 3) 169 O, ia cy (mm 6) 6 P, ia cy (mm 7) 6 N, ia cy (mm 8) 20 od, ia cy (mm 9) 21 sv]) sz) := by
  refine mk_rw (by decide) RX7 rfl (Nat.le_of_ble_eq_true rfl) [(0, .ref (mm 0))] rfl ?_
  intro p e s m below meth c hx hb hml hown hr hlocks hin hw hsz hA hG hK H0 locs0 hP0 hD0 hS0 ls0 hl0
  clear hin
  have hg20 := wf_g20 wf
  refine lv_aload_n hx hb dX7_findOrder_0 rfl (lv_at hl0 0 rfl) ?_
  refine cV_v (wc := [mO cy mm ik tl fm tz vl iw rm rr om, ia cy (mm 1) 169 S, ia cy (mm 3) 169 O]) (wr := [ia cy (mm 6) 6 P, ia cy (mm 7) 6 N, ia cy (mm 8) 20 od, ia cy (mm 9) 21 sv]) (rest := []) hx hb hml hown hw hG hK hP0 hD0 hS0 hA hl0 kc_X7_puts kw_4_227 [] (c_X7_puts l D cy G H0.size mm ik tl fm tz vl iw rm rr om S O) [0, 1, 2] [3, 4, 5, 6] rfl rfl rfl rfl rfl 0 rfl rfl rfl rfl rfl (Nat.le_of_ble_eq_true rfl) ⟨Nat.le_of_ble_eq_true rfl, Nat.le_of_ble_eq_true rfl⟩ dX7_findOrder_1 ⟨Nat.le_of_ble_eq_true rfl, Nat.le_of_ble_eq_true rfl⟩ (fun u9 H1 locs1 hu9 hP1 hD1 hS1 => ?_)
  clear hP0 hD0 hS0 locs0 H0
  replace hP1 : va_P D vwCl ([ia cy (mm 6) 6 P, ia cy (mm 7) 6 N, ia cy (mm 8) 20 od, ia cy (mm 9) 21 sv, mO cy mm ik tl fm tz vl iw rm rr om, ia cy (mm 1) 169 S, ia cy (mm 3) 169 S]) H1 := hP1
  replace hD1 : va_D (va_A _ sz) ([ia cy (mm 6) 6 P, ia cy (mm 7) 6 N, ia cy (mm 8) 20 od, ia cy (mm 9) 21 sv, mO cy mm ik tl fm tz vl iw rm rr om, ia cy (mm 1) 169 S, ia cy (mm 3) 169 S]) := hD1
  replace hP1 := hP1.sub (ws' := [mO cy mm ik tl fm tz vl iw rm rr om, ia cy (mm 1) 169 S, ia cy (mm 3) 169 S, ia cy (mm 6) 6 P, ia cy (mm 7) 6 N, ia cy (mm 8) 20 od, ia cy (mm 9) 21 sv]) [4, 5, 6, 0, 1, 2, 3] rfl
  replace hD1 := hD1.sub (ws' := [mO cy mm ik tl fm tz vl iw rm rr om, ia cy (mm 1) 169 S, ia cy (mm 3) 169 S, ia cy (mm 6) 6 P, ia cy (mm 7) 6 N, ia cy (mm 8) 20 od, ia cy (mm 9) 21 sv]) [4, 5, 6, 0, 1, 2, 3] (by decide) rfl
  refine lv_aload_n hx hb dX7_findOrder_4 rfl (lv_at hl0 0 rfl) ?_
  refine lv_iconst (v := 0) hx hb dX7_findOrder_5 (by decide) ?_
  refine pt (D := D) (ci := 7) (v := .int 0) (ty := .int) (C := RX7) (T := TX7) (N := 23) (ws' := [mO cy mm ik tl fm tz vl iw rm rr 0, ia cy (mm 1) 169 S, ia cy (mm 3) 169 S, ia cy (mm 6) 6 P, ia cy (mm 7) 6 N, ia cy (mm 8) 20 od, ia cy (mm 9) 21 sv]) hx hb hw iX7 tyX7 tyX7_ok nmX7 hown hK hP1 hD1 hS1 0 rfl rfl 17 (by decide) kw_4_81 (fun _ h9 => h9) rfl (by decide +kernel) rfl rfl (Nat.le_of_ble_eq_true rfl) rfl dX7_findOrder_6 (fun H2 locs2 hP2 hD2 hS2 => ?_)
  clear hP1 hD1 hS1 locs1 H1
  refine lv_aload_n hx hb dX7_findOrder_9 rfl (lv_at hl0 0 rfl) ?_
  refine cV_v (wc := [mO cy mm ik tl fm tz vl iw rm rr 0, ia cy (mm 1) 169 S, ia cy (mm 6) 6 P, ia cy (mm 7) 6 N]) (wr := [ia cy (mm 3) 169 S, ia cy (mm 8) 20 od, ia cy (mm 9) 21 sv]) (rest := []) hx hb hml hown hw hG hK hP2 hD2 hS2 hA hl0 kc_X7_rests kw_5_57 [] (c_X7_rests l D cy G H2.size mm ik tl fm tz vl iw rm rr 0 S P N (by first | omega | assumption)) [0, 1, 3, 4] [2, 5, 6] rfl rfl rfl rfl rfl 0 rfl rfl rfl rfl rfl (Nat.le_of_ble_eq_true rfl) ⟨Nat.le_of_ble_eq_true rfl, Nat.le_of_ble_eq_true rfl⟩ dX7_findOrder_10 ⟨Nat.le_of_ble_eq_true rfl, Nat.le_of_ble_eq_true rfl⟩ (fun u9 H3 locs3 hu9 hP3 hD3 hS3 => ?_)
  clear hP2 hD2 hS2 locs2 H2
  obtain ⟨N1_10, rfl⟩ : ∃ z9, z9 = u9 := ⟨_, rfl⟩
  replace hP3 : va_P D vwCl ([ia cy (mm 3) 169 S, ia cy (mm 8) 20 od, ia cy (mm 9) 21 sv, mO cy mm ik tl fm tz vl iw (nI (RC S)) (b2i (RC S = 60)) 0, ia cy (mm 1) 169 S, ia cy (mm 6) 6 (PR S), ia cy (mm 7) 6 N1_10]) H3 := hP3
  replace hD3 : va_D (va_A _ sz) ([ia cy (mm 3) 169 S, ia cy (mm 8) 20 od, ia cy (mm 9) 21 sv, mO cy mm ik tl fm tz vl iw (nI (RC S)) (b2i (RC S = 60)) 0, ia cy (mm 1) 169 S, ia cy (mm 6) 6 (PR S), ia cy (mm 7) 6 N1_10]) := hD3
  replace hP3 := hP3.sub (ws' := [mO cy mm ik tl fm tz vl iw (nI (RC S)) (b2i (RC S = 60)) 0, ia cy (mm 1) 169 S, ia cy (mm 3) 169 S, ia cy (mm 6) 6 (PR S), ia cy (mm 7) 6 N1_10, ia cy (mm 8) 20 od, ia cy (mm 9) 21 sv]) [3, 4, 0, 5, 6, 1, 2] rfl
  replace hD3 := hD3.sub (ws' := [mO cy mm ik tl fm tz vl iw (nI (RC S)) (b2i (RC S = 60)) 0, ia cy (mm 1) 169 S, ia cy (mm 3) 169 S, ia cy (mm 6) 6 (PR S), ia cy (mm 7) 6 N1_10, ia cy (mm 8) 20 od, ia cy (mm 9) 21 sv]) [3, 4, 0, 5, 6, 1, 2] (by decide) rfl
  refine lv_aload_n hx hb dX7_findOrder_13 rfl (lv_at hl0 0 rfl) ?_
  refine va_get (D := D) (ci := 7) (v := .ref (mm 9)) (C := RX7) (T := TX7) (N := 23) hx hb hw iX7 hown hK hP3 0 rfl rfl 16 (by decide) (hw _ kw_4_80) (fun _ h9 => h9) rfl dX7_findOrder_14 ?_
  refine lv_iconst (v := 0) hx hb dX7_findOrder_17 (by decide) ?_
  refine lv_aload_n hx hb dX7_findOrder_18 rfl (lv_at hl0 0 rfl) ?_
  refine rV_i (wc := [mO cy mm ik tl fm tz vl iw (nI (RC S)) (b2i (RC S = 60)) 0, ia cy (mm 1) 169 S, ia cy (mm 6) 6 (PR S)]) (rest := [.int 0, .ref (mm 9)]) hx hb hml hown hw hG hK hP3 hS3 hA hl0 kc_X7_lost kw_5_105 [] (c_X7_lost l D cy G H3.size mm ik tl fm tz vl iw (nI (RC S)) (b2i (RC S = 60)) 0 S (PR S) (by first | omega | assumption)) [0, 1, 3] rfl 0 rfl rfl rfl rfl rfl (Nat.le_of_ble_eq_true rfl) ⟨Nat.le_of_ble_eq_true rfl, Nat.le_of_ble_eq_true rfl⟩ dX7_findOrder_19 ⟨Nat.le_of_ble_eq_true rfl, Nat.le_of_ble_eq_true rfl⟩ (fun r_19 H4 locs4 hr_19 hP4 hS4 => ?_)
  have hD4 := hD3
  clear hP3 hD3 hS3 locs3 H3
  subst hr_19
  refine tp (show (frs S (PR S) (gcN S) * S 2) = lost S from rfl) ?_
  refine ast_i (f := sv) (ws' := [mO cy mm ik tl fm tz vl iw (nI (RC S)) (b2i (RC S = 60)) 0, ia cy (mm 1) 169 S, ia cy (mm 3) 169 S, ia cy (mm 6) 6 (PR S), ia cy (mm 7) 6 N1_10, ia cy (mm 8) 20 od, ia cy (mm 9) 21 (upd sv 0 (lost S))]) hx hb hK hP4 hD4 hS4 6 0 rfl rfl 0 rfl (by first | omega | assumption) (by decide) rfl dX7_findOrder_22 (fun H5 locs5 hP5 hD5 hS5 => ?_)
  clear hP4 hD4 hS4 locs4 H4
  refine lv_aload_n hx hb dX7_findOrder_23 rfl (lv_at hl0 0 rfl) ?_
  refine lv_aload_n hx hb dX7_findOrder_24 rfl (lv_at hl0 0 rfl) ?_
  refine va_get (D := D) (ci := 7) (v := .ref (mm 9)) (C := RX7) (T := TX7) (N := 23) hx hb hw iX7 hown hK hP5 0 rfl rfl 16 (by decide) (hw _ kw_4_80) (fun _ h9 => h9) rfl dX7_findOrder_25 ?_
  refine lv_iconst (v := 0) hx hb dX7_findOrder_28 (by decide) ?_
  refine ald_i (f := upd sv 0 (lost S)) hx hb hK hP5 6 0 rfl rfl 0 rfl (by first | omega | assumption) (by decide) dX7_findOrder_29 ?_
  refine tp (show ((upd sv 0 (lost S)) 0) = lost S from upd_s _ _ _) ?_
  refine cV_i (wc := [mO cy mm ik tl fm tz vl iw (nI (RC S)) (b2i (RC S = 60)) 0, ia cy (mm 1) 169 S, ia cy (mm 6) 6 (PR S), ia cy (mm 7) 6 N1_10, ia cy (mm 9) 21 (upd sv 0 (lost S))]) (wr := [ia cy (mm 3) 169 S, ia cy (mm 8) 20 od]) (rest := []) hx hb hml hown hw hG hK hP5 hD5 hS5 hA hl0 kc_X7_nextShut kw_5_167 [.int (lost S)] (c_X7_nextShut l D cy G H5.size mm ik tl fm tz vl iw (nI (RC S)) (b2i (RC S = 60)) S (PR S) N1_10 (upd sv 0 (lost S)) 0 (lost S) (by first | omega | assumption) (by first | omega | assumption)) [0, 1, 3, 4, 6] [2, 5] rfl rfl rfl rfl rfl 0 rfl rfl rfl rfl rfl (Nat.le_of_ble_eq_true rfl) ⟨Nat.le_of_ble_eq_true rfl, Nat.le_of_ble_eq_true rfl⟩ dX7_findOrder_30 ⟨Nat.le_of_ble_eq_true rfl, Nat.le_of_ble_eq_true rfl⟩ (fun r_30 u9 H6 locs6 hu9 hP6 hD6 hS6 => ?_)
  clear hP5 hD5 hS5 locs5 H5
  obtain ⟨P1_30, N1_30, rm1_30, rr1_30⟩ := u9
  have hr_30 := hu9
  replace hP6 : va_P D vwCl ([ia cy (mm 3) 169 S, ia cy (mm 8) 20 od, mO cy mm ik tl fm tz vl iw rm1_30 rr1_30 (nI 0), ia cy (mm 1) 169 S, ia cy (mm 6) 6 P1_30, ia cy (mm 7) 6 N1_30, ia cy (mm 9) 21 (upd (upd sv 0 (lost S)) (0 + 1) (nsL S (lost S) (gcN S)))]) H6 := hP6
  replace hD6 : va_D (va_A _ sz) ([ia cy (mm 3) 169 S, ia cy (mm 8) 20 od, mO cy mm ik tl fm tz vl iw rm1_30 rr1_30 (nI 0), ia cy (mm 1) 169 S, ia cy (mm 6) 6 P1_30, ia cy (mm 7) 6 N1_30, ia cy (mm 9) 21 (upd (upd sv 0 (lost S)) (0 + 1) (nsL S (lost S) (gcN S)))]) := hD6
  replace hP6 := hP6.sub (ws' := [mO cy mm ik tl fm tz vl iw rm1_30 rr1_30 (nI 0), ia cy (mm 1) 169 S, ia cy (mm 3) 169 S, ia cy (mm 6) 6 P1_30, ia cy (mm 7) 6 N1_30, ia cy (mm 8) 20 od, ia cy (mm 9) 21 (upd (upd sv 0 (lost S)) (0 + 1) (nsL S (lost S) (gcN S)))]) [2, 3, 0, 4, 5, 1, 6] rfl
  replace hD6 := hD6.sub (ws' := [mO cy mm ik tl fm tz vl iw rm1_30 rr1_30 (nI 0), ia cy (mm 1) 169 S, ia cy (mm 3) 169 S, ia cy (mm 6) 6 P1_30, ia cy (mm 7) 6 N1_30, ia cy (mm 8) 20 od, ia cy (mm 9) 21 (upd (upd sv 0 (lost S)) (0 + 1) (nsL S (lost S) (gcN S)))]) [2, 3, 0, 4, 5, 1, 6] (by decide) rfl
  subst hr_30
  refine lv_istore_n (lv' := [(1, .int (nsB S (lost S) (gcN S))), (0, .ref (mm 0))]) hx hb dX7_findOrder_33 rfl hl0 (by decide) rfl (fun ls1 hl1 => ?_)
  clear hl0 ls0
  have hq9 : ([mO cy mm ik tl fm tz vl iw rm1_30 rr1_30 (nI 0), ia cy (mm 1) 169 S, ia cy (mm 3) 169 S, ia cy (mm 6) 6 P1_30, ia cy (mm 7) 6 N1_30, ia cy (mm 8) 20 od, ia cy (mm 9) 21 (upd (upd sv 0 (lost S)) (0 + 1) (nsL S (lost S) (gcN S)))]) = ([mO cy mm ik tl fm tz vl iw rm1_30 rr1_30 (nI 0), ia cy (mm 1) 169 (ordS S 0), ia cy (mm 3) 169 S, ia cy (mm 6) 6 P1_30, ia cy (mm 7) 6 N1_30, ia cy (mm 8) 20 od, ia cy (mm 9) 21 (upd (upd sv 0 (lost S)) (0 + 1) (nsL S (lost S) (gcN S)))]) := congrArg (fun z9 => [mO cy mm ik tl fm tz vl iw rm1_30 rr1_30 (nI 0), ia cy (mm 1) 169 z9, ia cy (mm 3) 169 S, ia cy (mm 6) 6 P1_30, ia cy (mm 7) 6 N1_30, ia cy (mm 8) 20 od, ia cy (mm 9) 21 (upd (upd sv 0 (lost S)) (0 + 1) (nsL S (lost S) (gcN S)))]) (show S = (ordS S 0) from rfl)
  replace hP6 := (congrArg (fun z9 => va_P D vwCl z9 _) hq9).mp hP6
  replace hD6 := (congrArg (fun z9 => va_D _ z9) hq9).mp hD6
  clear hq9
  have hl0 : ∀ j, j ≤ 0 → (upd (upd sv 0 (lost S)) (0 + 1) (nsL S (lost S) (gcN S))) j = hadS S j := fun j hj => by
    obtain rfl : j = 0 := by omega
    rw [upd_n (by omega), upd_s]; rfl
  have h20 : (0 : Nat) < 20 → (upd (upd sv 0 (lost S)) (0 + 1) (nsL S (lost S) (gcN S))) (0 + 1) = hadS S (0 + 1) := fun _ => (upd_s _ _ _ : _ = nsL S (lost S) (gcN S))
  refine wlp (ι := Nat × Int32 × (Nat → Int32) × (Nat → Int32) × Int32 × Int32 × (Nat → Int32) × (Nat → Int32)) (nL := 2) (fun x9 => (x9.1 ≤ 20) ∧ (x9.2.1 = if x9.1 < 20 then stp S x9.1 else -1) ∧ (∀ j, j < x9.1 → x9.2.2.2.2.2.2.1 j = stp S j) ∧ (∀ j, j ≤ x9.1 → x9.2.2.2.2.2.2.2 j = hadS S j) ∧ (x9.1 < 20 → x9.2.2.2.2.2.2.2 (x9.1 + 1) = hadS S (x9.1 + 1)) ∧ (∀ j, j < x9.1 → ¬ stp S j = -1)) (fun x9 => [mO cy mm ik tl fm tz vl iw x9.2.2.2.2.1 x9.2.2.2.2.2.1 (nI x9.1), ia cy (mm 1) 169 (ordS S x9.1), ia cy (mm 3) 169 S, ia cy (mm 6) 6 x9.2.2.1, ia cy (mm 7) 6 x9.2.2.2.1, ia cy (mm 8) 20 x9.2.2.2.2.2.2.1, ia cy (mm 9) 21 x9.2.2.2.2.2.2.2]) (fun x9 => [(1, .int x9.2.1), (0, .ref (mm 0))]) (fun x9 => []) (fun x9 => 20 - x9.1) 34 ?_ (0, nsB S (lost S) (gcN S), P1_30, N1_30, rm1_30, rr1_30, od, upd (upd sv 0 (lost S)) (0 + 1) (nsL S (lost S) (gcN S))) (⟨Nat.zero_le _, rfl, fun j hj => absurd hj (Nat.not_lt_zero j), hl0, h20, fun j hj => absurd hj (Nat.not_lt_zero j)⟩) rfl hP6 hD6 hS6 (lv_sub hl1 [0, 1] rfl)
  clear hP6 hD6 hS6 locs6 H6 hl1 ls1
  intro x9 hI ih_34 H7 locs7 ls2 hP7 hD7 hS7 hl2
  obtain ⟨k, g1, P1, N1, rm1, rr1, od1, sv1⟩ := x9
  obtain ⟨hk, hg, hsg, hlb, hlx, hne⟩ := hI
  replace hk : k ≤ 20 := hk
  replace hg : g1 = if k < 20 then stp S k else -1 := hg
  replace hsg : ∀ j, j < k → od1 j = stp S j := hsg
  replace hlb : ∀ j, j ≤ k → sv1 j = hadS S j := hlb
  replace hlx : k < 20 → sv1 (k + 1) = hadS S (k + 1) := hlx
  replace hne : ∀ j, j < k → ¬ stp S j = -1 := hne
  replace hP7 : va_P D vwCl ([mO cy mm ik tl fm tz vl iw rm1 rr1 (nI k), ia cy (mm 1) 169 (ordS S k), ia cy (mm 3) 169 S, ia cy (mm 6) 6 P1, ia cy (mm 7) 6 N1, ia cy (mm 8) 20 od1, ia cy (mm 9) 21 sv1]) H7 := hP7
  replace hD7 : va_D (va_A _ sz) ([mO cy mm ik tl fm tz vl iw rm1 rr1 (nI k), ia cy (mm 1) 169 (ordS S k), ia cy (mm 3) 169 S, ia cy (mm 6) 6 P1, ia cy (mm 7) 6 N1, ia cy (mm 8) 20 od1, ia cy (mm 9) 21 sv1]) := hD7
  replace hl2 : lv_has ls2 2 [(1, .int g1), (0, .ref (mm 0))] := hl2
  show W p l e _ s m _ below meth c _ _ _ _ _ (F0 m 34 ls2 [])
  refine lv_iload_n hx hb dX7_findOrder_34 rfl (lv_at hl2 0 rfl) ?_
  refine lv_if_lt (tgt := 96) hx hb dX7_findOrder_35 (by decide) (fun c_35 => ?_) (fun c_35 => ?_)
  · have hKo : ordK S = k := ordK_eq hk hne (by
      by_cases e9 : k < 20
      · exact Or.inr ((nsB_neg hg20).mp (by have z9 := c_35; rw [hg, if_pos e9] at z9; exact z9))
      · exact Or.inl (by omega))
    have hq9 : ([mO cy mm ik tl fm tz vl iw rm1 rr1 (nI k), ia cy (mm 1) 169 (ordS S k), ia cy (mm 3) 169 S, ia cy (mm 6) 6 P1, ia cy (mm 7) 6 N1, ia cy (mm 8) 20 od1, ia cy (mm 9) 21 sv1]) = ([mO cy mm ik tl fm tz vl iw rm1 rr1 (nI (ordK S)), ia cy (mm 1) 169 (ordS S k), ia cy (mm 3) 169 S, ia cy (mm 6) 6 P1, ia cy (mm 7) 6 N1, ia cy (mm 8) 20 od1, ia cy (mm 9) 21 sv1]) := congrArg (fun z9 => [mO cy mm ik tl fm tz vl iw rm1 rr1 z9, ia cy (mm 1) 169 (ordS S k), ia cy (mm 3) 169 S, ia cy (mm 6) 6 P1, ia cy (mm 7) 6 N1, ia cy (mm 8) 20 od1, ia cy (mm 9) 21 sv1]) (show (nI k) = (nI (ordK S)) from by rw [hKo])
    replace hP7 := (congrArg (fun z9 => va_P D vwCl z9 _) hq9).mp hP7
    replace hD7 := (congrArg (fun z9 => va_D _ z9) hq9).mp hD7
    clear hq9
    refine lv_aload_n hx hb dX7_findOrder_96 rfl (lv_at hl2 1 rfl) ?_
    refine cV_v (wc := [mO cy mm ik tl fm tz vl iw rm1 rr1 (nI (ordK S)), ia cy (mm 1) 169 (ordS S k), ia cy (mm 3) 169 S]) (wr := [ia cy (mm 6) 6 P1, ia cy (mm 7) 6 N1, ia cy (mm 8) 20 od1, ia cy (mm 9) 21 sv1]) (rest := []) hx hb hml hown hw hG hK hP7 hD7 hS7 hA hl2 kc_X7_putsBack kw_5_49 [] (c_X7_putsBack l D cy G H7.size mm ik tl fm tz vl iw rm1 rr1 (nI (ordK S)) (ordS S k) S) [0, 1, 2] [3, 4, 5, 6] rfl rfl rfl rfl rfl 0 rfl rfl rfl rfl rfl (Nat.le_of_ble_eq_true rfl) ⟨Nat.le_of_ble_eq_true rfl, Nat.le_of_ble_eq_true rfl⟩ dX7_findOrder_97 ⟨Nat.le_of_ble_eq_true rfl, Nat.le_of_ble_eq_true rfl⟩ (fun u9 H8 locs8 hu9 hP8 hD8 hS8 => ?_)
    clear hP7 hD7 hS7 locs7 H7
    replace hP8 : va_P D vwCl ([ia cy (mm 6) 6 P1, ia cy (mm 7) 6 N1, ia cy (mm 8) 20 od1, ia cy (mm 9) 21 sv1, mO cy mm ik tl fm tz vl iw rm1 rr1 (nI (ordK S)), ia cy (mm 1) 169 S, ia cy (mm 3) 169 S]) H8 := hP8
    replace hD8 : va_D (va_A _ sz) ([ia cy (mm 6) 6 P1, ia cy (mm 7) 6 N1, ia cy (mm 8) 20 od1, ia cy (mm 9) 21 sv1, mO cy mm ik tl fm tz vl iw rm1 rr1 (nI (ordK S)), ia cy (mm 1) 169 S, ia cy (mm 3) 169 S]) := hD8
    replace hP8 := hP8.sub (ws' := [mO cy mm ik tl fm tz vl iw rm1 rr1 (nI (ordK S)), ia cy (mm 1) 169 S, ia cy (mm 3) 169 S, ia cy (mm 6) 6 P1, ia cy (mm 7) 6 N1, ia cy (mm 8) 20 od1, ia cy (mm 9) 21 sv1]) [4, 5, 6, 0, 1, 2, 3] rfl
    replace hD8 := hD8.sub (ws' := [mO cy mm ik tl fm tz vl iw rm1 rr1 (nI (ordK S)), ia cy (mm 1) 169 S, ia cy (mm 3) 169 S, ia cy (mm 6) 6 P1, ia cy (mm 7) 6 N1, ia cy (mm 8) 20 od1, ia cy (mm 9) 21 sv1]) [4, 5, 6, 0, 1, 2, 3] (by decide) rfl
    refine re_v (P1, N1, rm1, rr1, od1, sv1) hx hb hr hlocks hP8 hD8 hS8 dX7_findOrder_100 ?_
    exact (⟨fun j hj => hsg j (by omega), fun j hj => hlb j (by omega)⟩)
  · have hk20 : k < 20 := Classical.byContradiction fun z9 => c_35 (by rw [hg, if_neg z9]; decide)
    have hst : g1 = stp S k := hg.trans (if_pos hk20)
    have hnb : ¬ stp S k = -1 := fun z9 => c_35 (by rw [hst, z9]; decide)
    have hwo := ordS_wf wf k hne
    have hnn := nsB_nat hg20 hnb
    have hb20 : bstN (stp S k) < gcN S := hnn.2.1
    have hp2 : 2 ^ bstN (stp S k) ≤ 2 ^ 20 := Nat.pow_le_pow_right (by decide) (by omega)
    have hn9 : ∀ j, j < k + 1 → ¬ stp S j = -1 := fun j hj => by
      by_cases e9 : j = k
      · subst e9; exact hnb
      · exact hne j (by omega)
    have hwn := ordS_wf wf (k + 1) hn9
    have hq9 : nI (bstN (stp S k)) = g1 := (hst.trans hnn.1).symm
    replace hl2 : lv_has ls2 2 [(1, .int (nI (bstN (stp S k)))), (0, .ref (mm 0))] := (congrArg (fun z9 => lv_has ls2 2 [(1, .int z9), (0, .ref (mm 0))]) hq9).mpr hl2
    clear hq9
    refine lv_aload_n hx hb dX7_findOrder_38 rfl (lv_at hl2 1 rfl) ?_
    refine va_get (D := D) (ci := 7) (v := .ref (mm 8)) (C := RX7) (T := TX7) (N := 23) hx hb hw iX7 hown hK hP7 0 rfl rfl 15 (by decide) (hw _ kw_4_79) (fun _ h9 => h9) rfl dX7_findOrder_39 ?_
    refine lv_aload_n hx hb dX7_findOrder_42 rfl (lv_at hl2 1 rfl) ?_
    refine va_get (D := D) (ci := 7) (v := .int (nI k)) (C := RX7) (T := TX7) (N := 23) hx hb hw iX7 hown hK hP7 0 rfl rfl 17 (by decide) (hw _ kw_4_81) (fun _ h9 => h9) rfl dX7_findOrder_43 ?_
    refine lv_iload_n hx hb dX7_findOrder_46 rfl (lv_at hl2 0 rfl) ?_
    refine ast_i (f := od1) (ws' := [mO cy mm ik tl fm tz vl iw rm1 rr1 (nI k), ia cy (mm 1) 169 (ordS S k), ia cy (mm 3) 169 S, ia cy (mm 6) 6 P1, ia cy (mm 7) 6 N1, ia cy (mm 8) 20 (upd od1 k (nI (bstN (stp S k)))), ia cy (mm 9) 21 sv1]) hx hb hK hP7 hD7 hS7 5 0 rfl rfl k rfl (by first | omega | assumption) (by decide) rfl dX7_findOrder_47 (fun H8 locs8 hP8 hD8 hS8 => ?_)
    clear hP7 hD7 hS7 locs7 H7
    refine lv_aload_n hx hb dX7_findOrder_48 rfl (lv_at hl2 1 rfl) ?_
    refine lv_dup hx hb dX7_findOrder_49 rfl ?_
    refine va_get (D := D) (ci := 7) (v := .int (nI k)) (C := RX7) (T := TX7) (N := 23) hx hb hw iX7 hown hK hP8 0 rfl rfl 17 (by decide) (hw _ kw_4_81) (fun _ h9 => h9) rfl dX7_findOrder_50 ?_
    refine lv_iconst (v := 1) hx hb dX7_findOrder_53 (by decide) ?_
    refine lv_iadd hx hb dX7_findOrder_54 ?_
    refine tp (show ((nI k) + 1) = nI (k + 1) from nI_add _ _) ?_
    refine pt (D := D) (ci := 7) (v := .int (nI (k + 1))) (ty := .int) (C := RX7) (T := TX7) (N := 23) (ws' := [mO cy mm ik tl fm tz vl iw rm1 rr1 (nI (k + 1)), ia cy (mm 1) 169 (ordS S k), ia cy (mm 3) 169 S, ia cy (mm 6) 6 P1, ia cy (mm 7) 6 N1, ia cy (mm 8) 20 (upd od1 k (nI (bstN (stp S k)))), ia cy (mm 9) 21 sv1]) hx hb hw iX7 tyX7 tyX7_ok nmX7 hown hK hP8 hD8 hS8 0 rfl rfl 17 (by decide) kw_4_81 (fun _ h9 => h9) rfl (by decide +kernel) rfl rfl (Nat.le_of_ble_eq_true rfl) rfl dX7_findOrder_55 (fun H9 locs9 hP9 hD9 hS9 => ?_)
    clear hP8 hD8 hS8 locs8 H8
    refine lv_aload_n hx hb dX7_findOrder_58 rfl (lv_at hl2 1 rfl) ?_
    refine lv_iconst (v := 1) hx hb dX7_findOrder_59 (by decide) ?_
    refine lv_iload_n hx hb dX7_findOrder_60 rfl (lv_at hl2 0 rfl) ?_
    refine lv_ishl hx hb dX7_findOrder_61 ?_
    refine tp (show (1 <<< ((nI (bstN (stp S k))) &&& 31)) = nI (2 ^ bstN (stp S k)) from shl_1 (by omega)) ?_
    refine lv_iconst (v := 1) hx hb dX7_findOrder_62 (by decide) ?_
    refine cV_v (wc := [mO cy mm ik tl fm tz vl iw rm1 rr1 (nI (k + 1)), ia cy (mm 1) 169 (ordS S k)]) (wr := [ia cy (mm 3) 169 S, ia cy (mm 6) 6 P1, ia cy (mm 7) 6 N1, ia cy (mm 8) 20 (upd od1 k (nI (bstN (stp S k)))), ia cy (mm 9) 21 sv1]) (rest := []) hx hb hml hown hw hG hK hP9 hD9 hS9 hA hl2 kc_X7_shuts kw_5_154 [.int (nI (2 ^ bstN (stp S k))), .int 1] (c_X7_shuts l D cy G H9.size mm ik tl fm tz vl iw rm1 rr1 (nI (k + 1)) (ordS S k) (2 ^ bstN (stp S k)) 1 hwo.1 (by omega)) [0, 1] [2, 3, 4, 5, 6] rfl rfl rfl rfl rfl 0 rfl rfl rfl rfl rfl (Nat.le_of_ble_eq_true rfl) ⟨Nat.le_of_ble_eq_true rfl, Nat.le_of_ble_eq_true rfl⟩ dX7_findOrder_63 ⟨Nat.le_of_ble_eq_true rfl, Nat.le_of_ble_eq_true rfl⟩ (fun u9 H10 locs10 hu9 hP10 hD10 hS10 => ?_)
    clear hP9 hD9 hS9 locs9 H9
    replace hP10 : va_P D vwCl ([ia cy (mm 3) 169 S, ia cy (mm 6) 6 P1, ia cy (mm 7) 6 N1, ia cy (mm 8) 20 (upd od1 k (nI (bstN (stp S k)))), ia cy (mm 9) 21 sv1, mO cy mm ik tl fm tz vl iw rm1 rr1 (nI (k + 1)), ia cy (mm 1) 169 (shS (ordS S k) 1 (2 ^ bstN (stp S k)) (gcN (ordS S k)))]) H10 := hP10
    replace hD10 : va_D (va_A _ sz) ([ia cy (mm 3) 169 S, ia cy (mm 6) 6 P1, ia cy (mm 7) 6 N1, ia cy (mm 8) 20 (upd od1 k (nI (bstN (stp S k)))), ia cy (mm 9) 21 sv1, mO cy mm ik tl fm tz vl iw rm1 rr1 (nI (k + 1)), ia cy (mm 1) 169 (shS (ordS S k) 1 (2 ^ bstN (stp S k)) (gcN (ordS S k)))]) := hD10
    replace hP10 := hP10.sub (ws' := [mO cy mm ik tl fm tz vl iw rm1 rr1 (nI (k + 1)), ia cy (mm 1) 169 (shS (ordS S k) 1 (2 ^ bstN (stp S k)) (gcN (ordS S k))), ia cy (mm 3) 169 S, ia cy (mm 6) 6 P1, ia cy (mm 7) 6 N1, ia cy (mm 8) 20 (upd od1 k (nI (bstN (stp S k)))), ia cy (mm 9) 21 sv1]) [5, 6, 0, 1, 2, 3, 4] rfl
    replace hD10 := hD10.sub (ws' := [mO cy mm ik tl fm tz vl iw rm1 rr1 (nI (k + 1)), ia cy (mm 1) 169 (shS (ordS S k) 1 (2 ^ bstN (stp S k)) (gcN (ordS S k))), ia cy (mm 3) 169 S, ia cy (mm 6) 6 P1, ia cy (mm 7) 6 N1, ia cy (mm 8) 20 (upd od1 k (nI (bstN (stp S k)))), ia cy (mm 9) 21 sv1]) [5, 6, 0, 1, 2, 3, 4] (by decide) rfl
    have hq9 : ([mO cy mm ik tl fm tz vl iw rm1 rr1 (nI (k + 1)), ia cy (mm 1) 169 (shS (ordS S k) 1 (2 ^ bstN (stp S k)) (gcN (ordS S k))), ia cy (mm 3) 169 S, ia cy (mm 6) 6 P1, ia cy (mm 7) 6 N1, ia cy (mm 8) 20 (upd od1 k (nI (bstN (stp S k)))), ia cy (mm 9) 21 sv1]) = ([mO cy mm ik tl fm tz vl iw rm1 rr1 (nI (k + 1)), ia cy (mm 1) 169 (ordS S (k + 1)), ia cy (mm 3) 169 S, ia cy (mm 6) 6 P1, ia cy (mm 7) 6 N1, ia cy (mm 8) 20 (upd od1 k (nI (bstN (stp S k)))), ia cy (mm 9) 21 sv1]) := congrArg (fun z9 => [mO cy mm ik tl fm tz vl iw rm1 rr1 (nI (k + 1)), ia cy (mm 1) 169 z9, ia cy (mm 3) 169 S, ia cy (mm 6) 6 P1, ia cy (mm 7) 6 N1, ia cy (mm 8) 20 (upd od1 k (nI (bstN (stp S k)))), ia cy (mm 9) 21 sv1]) (show (shS (ordS S k) 1 (2 ^ bstN (stp S k)) (gcN (ordS S k))) = (ordS S (k + 1)) from (shS_one (by rw [hwo.2]; exact hb20)).trans (ordS_s S k).symm)
    replace hP10 := (congrArg (fun z9 => va_P D vwCl z9 _) hq9).mp hP10
    replace hD10 := (congrArg (fun z9 => va_D _ z9) hq9).mp hD10
    clear hq9
    have hs9 : ∀ j, j < k + 1 → upd od1 k (nI (bstN (stp S k))) j = stp S j := fun j hj => by
      by_cases e9 : j = k
      · subst e9; rw [upd_s]; exact hnn.1.symm
      · rw [upd_n e9]; exact hsg j (by omega)
    refine lv_aload_n hx hb dX7_findOrder_66 rfl (lv_at hl2 1 rfl) ?_
    refine va_get (D := D) (ci := 7) (v := .int (nI (k + 1))) (C := RX7) (T := TX7) (N := 23) hx hb hw iX7 hown hK hP10 0 rfl rfl 17 (by decide) (hw _ kw_4_81) (fun _ h9 => h9) rfl dX7_findOrder_67 ?_
    refine lv_bipush (v := 20) hx hb dX7_findOrder_70 (by decide) ?_
    refine ln_ge (tgt := 91) (k + 1) 20 rfl rfl (by omega) (by omega) hx hb dX7_findOrder_72 (by decide) (fun c_72 => ?_) (fun c_72 => ?_)
    · have hg9 : (-1 : Int32) = if k + 1 < 20 then stp S (k + 1) else -1 := (if_neg (by omega)).symm
      have hl9 : ∀ j, j ≤ k + 1 → sv1 j = hadS S j := fun j hj => by
        by_cases e9 : j = k + 1
        · subst e9; exact hlx hk20
        · exact hlb j (by omega)
      have h29 : k + 1 < 20 → sv1 (k + 1 + 1) = hadS S (k + 1 + 1) := fun z9 => by omega
      refine lv_iconst (v := (-1)) hx hb dX7_findOrder_91 (by decide) ?_
      refine lv_istore_n (lv' := [(1, .int (-1)), (0, .ref (mm 0))]) hx hb dX7_findOrder_92 rfl hl2 (by decide) rfl (fun ls3 hl3 => ?_)
      clear hl2 ls2
      refine lv_goto (tgt := 34) hx hb dX7_findOrder_93 (by decide) ?_
      exact ih_34 (k + 1, -1, P1, N1, rm1, rr1, upd od1 k (nI (bstN (stp S k))), sv1) (⟨(by dsimp only; omega), hg9, hs9, hl9, h29, hn9⟩) (by (try dsimp only); omega) H10 locs10 ls3 hP10 hD10 hS10 (lv_sub hl3 [0, 1] rfl)
    · refine lv_aload_n hx hb dX7_findOrder_75 rfl (lv_at hl2 1 rfl) ?_
      refine lv_aload_n hx hb dX7_findOrder_76 rfl (lv_at hl2 1 rfl) ?_
      refine va_get (D := D) (ci := 7) (v := .ref (mm 9)) (C := RX7) (T := TX7) (N := 23) hx hb hw iX7 hown hK hP10 0 rfl rfl 16 (by decide) (hw _ kw_4_80) (fun _ h9 => h9) rfl dX7_findOrder_77 ?_
      refine lv_aload_n hx hb dX7_findOrder_80 rfl (lv_at hl2 1 rfl) ?_
      refine va_get (D := D) (ci := 7) (v := .int (nI (k + 1))) (C := RX7) (T := TX7) (N := 23) hx hb hw iX7 hown hK hP10 0 rfl rfl 17 (by decide) (hw _ kw_4_81) (fun _ h9 => h9) rfl dX7_findOrder_81 ?_
      refine ald_i (f := sv1) hx hb hK hP10 6 0 rfl rfl (k + 1) rfl (by first | omega | assumption) (by decide) dX7_findOrder_84 ?_
      refine tp (show (sv1 (k + 1)) = hadS S (k + 1) from hlx hk20) ?_
      refine cV_i (wc := [mO cy mm ik tl fm tz vl iw rm1 rr1 (nI (k + 1)), ia cy (mm 1) 169 (ordS S (k + 1)), ia cy (mm 6) 6 P1, ia cy (mm 7) 6 N1, ia cy (mm 9) 21 sv1]) (wr := [ia cy (mm 3) 169 S, ia cy (mm 8) 20 (upd od1 k (nI (bstN (stp S k))))]) (rest := []) hx hb hml hown hw hG hK hP10 hD10 hS10 hA hl2 kc_X7_nextShut kw_5_167 [.int (hadS S (k + 1))] (c_X7_nextShut l D cy G H10.size mm ik tl fm tz vl iw rm1 rr1 (ordS S (k + 1)) P1 N1 sv1 (k + 1) (hadS S (k + 1)) hwn.1 (by first | omega | assumption)) [0, 1, 3, 4, 6] [2, 5] rfl rfl rfl rfl rfl 0 rfl rfl rfl rfl rfl (Nat.le_of_ble_eq_true rfl) ⟨Nat.le_of_ble_eq_true rfl, Nat.le_of_ble_eq_true rfl⟩ dX7_findOrder_85 ⟨Nat.le_of_ble_eq_true rfl, Nat.le_of_ble_eq_true rfl⟩ (fun r_85 u9 H11 locs11 hu9 hP11 hD11 hS11 => ?_)
      clear hP10 hD10 hS10 locs10 H10
      obtain ⟨P1_85, N1_85, rm1_85, rr1_85⟩ := u9
      have hr_85 := hu9
      replace hP11 : va_P D vwCl ([ia cy (mm 3) 169 S, ia cy (mm 8) 20 (upd od1 k (nI (bstN (stp S k)))), mO cy mm ik tl fm tz vl iw rm1_85 rr1_85 (nI (k + 1)), ia cy (mm 1) 169 (ordS S (k + 1)), ia cy (mm 6) 6 P1_85, ia cy (mm 7) 6 N1_85, ia cy (mm 9) 21 (upd sv1 ((k + 1) + 1) (nsL (ordS S (k + 1)) (hadS S (k + 1)) (gcN (ordS S (k + 1)))))]) H11 := hP11
      replace hD11 : va_D (va_A _ sz) ([ia cy (mm 3) 169 S, ia cy (mm 8) 20 (upd od1 k (nI (bstN (stp S k)))), mO cy mm ik tl fm tz vl iw rm1_85 rr1_85 (nI (k + 1)), ia cy (mm 1) 169 (ordS S (k + 1)), ia cy (mm 6) 6 P1_85, ia cy (mm 7) 6 N1_85, ia cy (mm 9) 21 (upd sv1 ((k + 1) + 1) (nsL (ordS S (k + 1)) (hadS S (k + 1)) (gcN (ordS S (k + 1)))))]) := hD11
      replace hP11 := hP11.sub (ws' := [mO cy mm ik tl fm tz vl iw rm1_85 rr1_85 (nI (k + 1)), ia cy (mm 1) 169 (ordS S (k + 1)), ia cy (mm 3) 169 S, ia cy (mm 6) 6 P1_85, ia cy (mm 7) 6 N1_85, ia cy (mm 8) 20 (upd od1 k (nI (bstN (stp S k)))), ia cy (mm 9) 21 (upd sv1 ((k + 1) + 1) (nsL (ordS S (k + 1)) (hadS S (k + 1)) (gcN (ordS S (k + 1)))))]) [2, 3, 0, 4, 5, 1, 6] rfl
      replace hD11 := hD11.sub (ws' := [mO cy mm ik tl fm tz vl iw rm1_85 rr1_85 (nI (k + 1)), ia cy (mm 1) 169 (ordS S (k + 1)), ia cy (mm 3) 169 S, ia cy (mm 6) 6 P1_85, ia cy (mm 7) 6 N1_85, ia cy (mm 8) 20 (upd od1 k (nI (bstN (stp S k)))), ia cy (mm 9) 21 (upd sv1 ((k + 1) + 1) (nsL (ordS S (k + 1)) (hadS S (k + 1)) (gcN (ordS S (k + 1)))))]) [2, 3, 0, 4, 5, 1, 6] (by decide) rfl
      subst hr_85
      refine tp (show (nsB (ordS S (k + 1)) (hadS S (k + 1)) (gcN (ordS S (k + 1)))) = stp S (k + 1) from congrArg (nsB (ordS S (k + 1)) (hadS S (k + 1))) hwn.2) ?_
      have hg9 : stp S (k + 1) = if k + 1 < 20 then stp S (k + 1) else -1 := (if_pos c_72).symm
      have hl9 : ∀ j, j ≤ k + 1 → upd sv1 (k + 1 + 1) (nsL (ordS S (k + 1)) (hadS S (k + 1)) (gcN (ordS S (k + 1)))) j = hadS S j := fun j hj => by
        rw [upd_n (by omega)]
        by_cases e9 : j = k + 1
        · subst e9; exact hlx hk20
        · exact hlb j (by omega)
      have h29 : k + 1 < 20 → upd sv1 (k + 1 + 1) (nsL (ordS S (k + 1)) (hadS S (k + 1)) (gcN (ordS S (k + 1)))) (k + 1 + 1) = hadS S (k + 1 + 1) := fun _ => by
        rw [upd_s, hwn.2]; rfl
      refine lv_goto (tgt := 92) hx hb dX7_findOrder_88 (by decide) ?_
      refine lv_istore_n (lv' := [(1, .int (stp S (k + 1))), (0, .ref (mm 0))]) hx hb dX7_findOrder_92 rfl hl2 (by decide) rfl (fun ls3 hl3 => ?_)
      clear hl2 ls2
      refine lv_goto (tgt := 34) hx hb dX7_findOrder_93 (by decide) ?_
      exact ih_34 (k + 1, stp S (k + 1), P1_85, N1_85, rm1_85, rr1_85, upd od1 k (nI (bstN (stp S k))), upd sv1 ((k + 1) + 1) (nsL (ordS S (k + 1)) (hadS S (k + 1)) (gcN (ordS S (k + 1))))) (⟨(by dsimp only; omega), hg9, hs9, hl9, h29, hn9⟩) (by (try dsimp only); omega) H11 locs11 ls3 hP11 hD11 hS11 (lv_sub hl3 [0, 1] rfl)
