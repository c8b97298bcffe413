theorem kc_X6_isKind : kT yX6_isKind cX6_isKind 1 (some .boolean) 1 := ⟨kw_2_73, kw_1_1, kw_2_74, by decide, by decide, by decide +kernel⟩
set_option maxHeartbeats 4000000 in
set_option maxRecDepth 100000 in
theorem c_X6_isKind (l : Launch) (D : va_G) (cy : Nat → ClassId) (G : Nat → Nat) (sz : Nat) (k : Int32)  : Met l yX6_isKind (wm yX6_isKind cX6_isKind 1 (some .boolean)) { frames := 0, cells := 0, slots := 0, locals := 0 } (va_Pc [.int k] (pd D (TY cy) G ([]) sz)) (va_Qi (fun r (_ : Unit) => r = b2i (0 ≤ k ∧ k < 6)) (fun _ _ => True) (va_A [] sz)) 0 0 (va_A [] sz) := by
  refine mk_rd (by decide) RX6 rfl (Nat.le_of_ble_eq_true rfl) [(0, .int k)] rfl ?_
  intro p e s m below meth c hx hb hml hown hr hlocks hw hsz hA hG hK H0 locs0 hP0 hS0 ls0 hl0
  refine lv_iload_n hx hb dX6_isKind_0 rfl (lv_at hl0 0 rfl) ?_
  refine lv_if_lt (tgt := 14) hx hb dX6_isKind_1 (by decide) (fun c_1 => ?_) (fun c_1 => ?_)
  · refine lv_iconst (v := 0) hx hb dX6_isKind_14 (by decide) ?_
    exact rd_z hx hb hr hlocks hS0 dX6_isKind_15 rfl (by clear hx hb hml hown hr hlocks hw hsz hA hG hK hP0 hS0 hl0; grind [b2i])
  · refine lv_iload_n hx hb dX6_isKind_4 rfl (lv_at hl0 0 rfl) ?_
    refine lv_bipush (v := 6) hx hb dX6_isKind_5 (by decide) ?_
    refine lv_icmp_ge (tgt := 14) hx hb dX6_isKind_7 (by decide) (fun c_7 => ?_) (fun c_7 => ?_)
    · refine lv_iconst (v := 0) hx hb dX6_isKind_14 (by decide) ?_
      exact rd_z hx hb hr hlocks hS0 dX6_isKind_15 rfl (by clear hx hb hml hown hr hlocks hw hsz hA hG hK hP0 hS0 hl0; grind [b2i])
    · refine lv_iconst (v := 1) hx hb dX6_isKind_10 (by decide) ?_
      refine lv_goto (tgt := 15) hx hb dX6_isKind_11 (by decide) ?_
      exact rd_z hx hb hr hlocks hS0 dX6_isKind_15 rfl (by clear hx hb hml hown hr hlocks hw hsz hA hG hK hP0 hS0 hl0; grind [b2i])

theorem kc_X6_isUnder : kT yX6_isUnder cX6_isUnder 4 (some .boolean) 2 := ⟨kw_2_128, kw_1_1, kw_2_129, by decide, by decide, by decide +kernel⟩
set_option maxHeartbeats 4000000 in
set_option maxRecDepth 100000 in
theorem c_X6_isUnder (l : Launch) (D : va_G) (cy : Nat → ClassId) (G : Nat → Nat) (sz : Nat) (k : Int32) (t : Int32)  : Met l yX6_isUnder (wm yX6_isUnder cX6_isUnder 4 (some .boolean)) { frames := 1, cells := 0, slots := 0, locals := 20 } (va_Pc [.int k, .int t] (pd D (TY cy) G ([]) sz)) (va_Qi (fun r (_ : Unit) => r = b2i (under k t)) (fun _ _ => True) (va_A [] sz)) 0 0 (va_A [] sz) := by
  refine mk_rd (by decide) RX6 rfl (Nat.le_of_ble_eq_true rfl) [(0, .int k), (1, .int t)] rfl ?_
  intro p e s m below meth c hx hb hml hown hr hlocks hw hsz hA hG hK H0 locs0 hP0 hS0 ls0 hl0
  rcases kind_cases k with rfl | rfl | rfl | rfl | rfl | rfl | hk
  · refine lv_iload_n hx hb dX6_isUnder_0 rfl (lv_at hl0 0 rfl) ?_
    refine lv_istore_n (lv' := [(2, .int 0), (0, .int 0), (1, .int t)]) hx hb dX6_isUnder_1 rfl hl0 (by decide) rfl (fun ls1 hl1 => ?_)
    clear hl0 ls0
    refine lv_iconst (v := 0) hx hb dX6_isUnder_2 (by decide) ?_
    refine lv_istore_n (lv' := [(3, .int 0), (2, .int 0), (0, .int 0), (1, .int t)]) hx hb dX6_isUnder_3 rfl hl1 (by decide) rfl (fun ls2 hl2 => ?_)
    clear hl1 ls1
    refine lv_iload_n hx hb dX6_isUnder_4 rfl (lv_at hl2 0 rfl) ?_
    refine lv_bipush (v := 6) hx hb dX6_isUnder_5 (by decide) ?_
    refine lv_icmp_ge (tgt := 36) hx hb dX6_isUnder_7 (by decide) (fun c => absurd c (by decide)) (fun _ => ?_)
    refine lv_iload_n hx hb dX6_isUnder_10 rfl (lv_at hl2 1 rfl) ?_
    refine rT_i (wc := []) (rest := []) hx hb hml hown hw hG hK hP0 hS0 hA hl2 kc_X6_isKind kw_2_72 [.int 0] (c_X6_isKind l D cy G H0.size 0) [] rfl rfl rfl (Nat.le_of_ble_eq_true rfl) ⟨Nat.le_of_ble_eq_true rfl, Nat.le_of_ble_eq_true rfl⟩ dX6_isUnder_11 ⟨Nat.le_of_ble_eq_true rfl, Nat.le_of_ble_eq_true rfl⟩ (fun r_11 H1 locs1 hr_11 hP1 hS1 => ?_)
    clear hP0 hS0 locs0 H0
    subst hr_11
    refine lb_eq (tgt := 36) hx hb dX6_isUnder_14 (by decide) (fun c => absurd c (by decide)) (fun _ => ?_)
    refine lv_iload_n hx hb dX6_isUnder_17 rfl (lv_at hl2 1 rfl) ?_
    refine lv_iload_n hx hb dX6_isUnder_18 rfl (lv_at hl2 3 rfl) ?_
    refine lv_icmp_ne (tgt := 24) hx hb dX6_isUnder_19 (by decide) (fun c_19 => ?_) (fun c_19 => ?_)
    · refine va_gets hx hb hG.2.1.1 hS1 hown (hw _ kw_2_130) (fun _ h9 => h9) dX6_isUnder_24 ?_
      refine lv_iload_n hx hb dX6_isUnder_27 rfl (lv_at hl2 1 rfl) ?_
      refine tld_i (f := tbU) hx hb hG.2.1.2.1 hS1 0 rfl (by first | omega | assumption) (by decide) dX6_isUnder_28 ?_
      refine tp (show (tbU 0) = -1 from rfl) ?_
      refine lv_istore_n (lv' := [(2, .int (-1)), (3, .int 0), (0, .int 0), (1, .int t)]) hx hb dX6_isUnder_29 rfl hl2 (by decide) rfl (fun ls3 hl3 => ?_)
      clear hl2 ls2
      refine lv_iinc (v := 1) (lv' := [(3, .int 1), (2, .int (-1)), (0, .int 0), (1, .int t)]) hx hb dX6_isUnder_30 hl3 (k := 1) rfl (by decide) (by decide) rfl (fun ls4 hl4 => ?_)
      clear hl3 ls3
      refine lv_goto (tgt := 4) hx hb dX6_isUnder_33 (by decide) ?_
      refine lv_iload_n hx hb dX6_isUnder_4 rfl (lv_at hl4 0 rfl) ?_
      refine lv_bipush (v := 6) hx hb dX6_isUnder_5 (by decide) ?_
      refine lv_icmp_ge (tgt := 36) hx hb dX6_isUnder_7 (by decide) (fun c => absurd c (by decide)) (fun _ => ?_)
      refine lv_iload_n hx hb dX6_isUnder_10 rfl (lv_at hl4 1 rfl) ?_
      refine rT_i (wc := []) (rest := []) hx hb hml hown hw hG hK hP1 hS1 hA hl4 kc_X6_isKind kw_2_72 [.int (-1)] (c_X6_isKind l D cy G H1.size (-1)) [] rfl rfl rfl (Nat.le_of_ble_eq_true rfl) ⟨Nat.le_of_ble_eq_true rfl, Nat.le_of_ble_eq_true rfl⟩ dX6_isUnder_11 ⟨Nat.le_of_ble_eq_true rfl, Nat.le_of_ble_eq_true rfl⟩ (fun r_11 H2 locs2 hr_11 hP2 hS2 => ?_)
      clear hP1 hS1 locs1 H1
      subst hr_11
      refine lb_eq (tgt := 36) hx hb dX6_isUnder_14 (by decide) (fun _ => ?_) (fun c => absurd c (by decide))
      refine lv_iconst (v := 0) hx hb dX6_isUnder_36 (by decide) ?_
      exact rd_z hx hb hr hlocks hS2 dX6_isUnder_37 rfl (by clear hx hb hml hown hr hlocks hw hsz hA hG hK hP2 hS2 hl4; grind [b2i])
    · refine lv_iconst (v := 1) hx hb dX6_isUnder_22 (by decide) ?_
      exact rd_z hx hb hr hlocks hS1 dX6_isUnder_23 rfl (by clear hx hb hml hown hr hlocks hw hsz hA hG hK hP1 hS1 hl2; grind [b2i])
  · refine lv_iload_n hx hb dX6_isUnder_0 rfl (lv_at hl0 0 rfl) ?_
    refine lv_istore_n (lv' := [(2, .int 1), (0, .int 1), (1, .int t)]) hx hb dX6_isUnder_1 rfl hl0 (by decide) rfl (fun ls1 hl1 => ?_)
    clear hl0 ls0
    refine lv_iconst (v := 0) hx hb dX6_isUnder_2 (by decide) ?_
    refine lv_istore_n (lv' := [(3, .int 0), (2, .int 1), (0, .int 1), (1, .int t)]) hx hb dX6_isUnder_3 rfl hl1 (by decide) rfl (fun ls2 hl2 => ?_)
    clear hl1 ls1
    refine lv_iload_n hx hb dX6_isUnder_4 rfl (lv_at hl2 0 rfl) ?_
    refine lv_bipush (v := 6) hx hb dX6_isUnder_5 (by decide) ?_
    refine lv_icmp_ge (tgt := 36) hx hb dX6_isUnder_7 (by decide) (fun c => absurd c (by decide)) (fun _ => ?_)
    refine lv_iload_n hx hb dX6_isUnder_10 rfl (lv_at hl2 1 rfl) ?_
    refine rT_i (wc := []) (rest := []) hx hb hml hown hw hG hK hP0 hS0 hA hl2 kc_X6_isKind kw_2_72 [.int 1] (c_X6_isKind l D cy G H0.size 1) [] rfl rfl rfl (Nat.le_of_ble_eq_true rfl) ⟨Nat.le_of_ble_eq_true rfl, Nat.le_of_ble_eq_true rfl⟩ dX6_isUnder_11 ⟨Nat.le_of_ble_eq_true rfl, Nat.le_of_ble_eq_true rfl⟩ (fun r_11 H1 locs1 hr_11 hP1 hS1 => ?_)
    clear hP0 hS0 locs0 H0
    subst hr_11
    refine lb_eq (tgt := 36) hx hb dX6_isUnder_14 (by decide) (fun c => absurd c (by decide)) (fun _ => ?_)
    refine lv_iload_n hx hb dX6_isUnder_17 rfl (lv_at hl2 1 rfl) ?_
    refine lv_iload_n hx hb dX6_isUnder_18 rfl (lv_at hl2 3 rfl) ?_
    refine lv_icmp_ne (tgt := 24) hx hb dX6_isUnder_19 (by decide) (fun c_19 => ?_) (fun c_19 => ?_)
    · refine va_gets hx hb hG.2.1.1 hS1 hown (hw _ kw_2_130) (fun _ h9 => h9) dX6_isUnder_24 ?_
      refine lv_iload_n hx hb dX6_isUnder_27 rfl (lv_at hl2 1 rfl) ?_
      refine tld_i (f := tbU) hx hb hG.2.1.2.1 hS1 1 rfl (by first | omega | assumption) (by decide) dX6_isUnder_28 ?_
      refine tp (show (tbU 1) = 0 from rfl) ?_
      refine lv_istore_n (lv' := [(2, .int 0), (3, .int 0), (0, .int 1), (1, .int t)]) hx hb dX6_isUnder_29 rfl hl2 (by decide) rfl (fun ls3 hl3 => ?_)
      clear hl2 ls2
      refine lv_iinc (v := 1) (lv' := [(3, .int 1), (2, .int 0), (0, .int 1), (1, .int t)]) hx hb dX6_isUnder_30 hl3 (k := 1) rfl (by decide) (by decide) rfl (fun ls4 hl4 => ?_)
      clear hl3 ls3
      refine lv_goto (tgt := 4) hx hb dX6_isUnder_33 (by decide) ?_
      refine lv_iload_n hx hb dX6_isUnder_4 rfl (lv_at hl4 0 rfl) ?_
      refine lv_bipush (v := 6) hx hb dX6_isUnder_5 (by decide) ?_
      refine lv_icmp_ge (tgt := 36) hx hb dX6_isUnder_7 (by decide) (fun c => absurd c (by decide)) (fun _ => ?_)
      refine lv_iload_n hx hb dX6_isUnder_10 rfl (lv_at hl4 1 rfl) ?_
      refine rT_i (wc := []) (rest := []) hx hb hml hown hw hG hK hP1 hS1 hA hl4 kc_X6_isKind kw_2_72 [.int 0] (c_X6_isKind l D cy G H1.size 0) [] rfl rfl rfl (Nat.le_of_ble_eq_true rfl) ⟨Nat.le_of_ble_eq_true rfl, Nat.le_of_ble_eq_true rfl⟩ dX6_isUnder_11 ⟨Nat.le_of_ble_eq_true rfl, Nat.le_of_ble_eq_true rfl⟩ (fun r_11 H2 locs2 hr_11 hP2 hS2 => ?_)
      clear hP1 hS1 locs1 H1
      subst hr_11
      refine lb_eq (tgt := 36) hx hb dX6_isUnder_14 (by decide) (fun c => absurd c (by decide)) (fun _ => ?_)
      refine lv_iload_n hx hb dX6_isUnder_17 rfl (lv_at hl4 1 rfl) ?_
      refine lv_iload_n hx hb dX6_isUnder_18 rfl (lv_at hl4 3 rfl) ?_
      refine lv_icmp_ne (tgt := 24) hx hb dX6_isUnder_19 (by decide) (fun c_19_1 => ?_) (fun c_19_1 => ?_)
      · refine va_gets hx hb hG.2.1.1 hS2 hown (hw _ kw_2_130) (fun _ h9 => h9) dX6_isUnder_24 ?_
        refine lv_iload_n hx hb dX6_isUnder_27 rfl (lv_at hl4 1 rfl) ?_
        refine tld_i (f := tbU) hx hb hG.2.1.2.1 hS2 0 rfl (by first | omega | assumption) (by decide) dX6_isUnder_28 ?_
        refine tp (show (tbU 0) = -1 from rfl) ?_
        refine lv_istore_n (lv' := [(2, .int (-1)), (3, .int 1), (0, .int 1), (1, .int t)]) hx hb dX6_isUnder_29 rfl hl4 (by decide) rfl (fun ls5 hl5 => ?_)
        clear hl4 ls4
        refine lv_iinc (v := 2) (lv' := [(3, .int 2), (2, .int (-1)), (0, .int 1), (1, .int t)]) hx hb dX6_isUnder_30 hl5 (k := 1) rfl (by decide) (by decide) rfl (fun ls6 hl6 => ?_)
        clear hl5 ls5
        refine lv_goto (tgt := 4) hx hb dX6_isUnder_33 (by decide) ?_
        refine lv_iload_n hx hb dX6_isUnder_4 rfl (lv_at hl6 0 rfl) ?_
        refine lv_bipush (v := 6) hx hb dX6_isUnder_5 (by decide) ?_
        refine lv_icmp_ge (tgt := 36) hx hb dX6_isUnder_7 (by decide) (fun c => absurd c (by decide)) (fun _ => ?_)
        refine lv_iload_n hx hb dX6_isUnder_10 rfl (lv_at hl6 1 rfl) ?_
        refine rT_i (wc := []) (rest := []) hx hb hml hown hw hG hK hP2 hS2 hA hl6 kc_X6_isKind kw_2_72 [.int (-1)] (c_X6_isKind l D cy G H2.size (-1)) [] rfl rfl rfl (Nat.le_of_ble_eq_true rfl) ⟨Nat.le_of_ble_eq_true rfl, Nat.le_of_ble_eq_true rfl⟩ dX6_isUnder_11 ⟨Nat.le_of_ble_eq_true rfl, Nat.le_of_ble_eq_true rfl⟩ (fun r_11 H3 locs3 hr_11 hP3 hS3 => ?_)
        clear hP2 hS2 locs2 H2
        subst hr_11
        refine lb_eq (tgt := 36) hx hb dX6_isUnder_14 (by decide) (fun _ => ?_) (fun c => absurd c (by decide))
        refine lv_iconst (v := 0) hx hb dX6_isUnder_36 (by decide) ?_
        exact rd_z hx hb hr hlocks hS3 dX6_isUnder_37 rfl (by clear hx hb hml hown hr hlocks hw hsz hA hG hK hP3 hS3 hl6; grind [b2i])
      · refine lv_iconst (v := 1) hx hb dX6_isUnder_22 (by decide) ?_
        exact rd_z hx hb hr hlocks hS2 dX6_isUnder_23 rfl (by clear hx hb hml hown hr hlocks hw hsz hA hG hK hP2 hS2 hl4; grind [b2i])
    · refine lv_iconst (v := 1) hx hb dX6_isUnder_22 (by decide) ?_
      exact rd_z hx hb hr hlocks hS1 dX6_isUnder_23 rfl (by clear hx hb hml hown hr hlocks hw hsz hA hG hK hP1 hS1 hl2; grind [b2i])
  · refine lv_iload_n hx hb dX6_isUnder_0 rfl (lv_at hl0 0 rfl) ?_
    refine lv_istore_n (lv' := [(2, .int 2), (0, .int 2), (1, .int t)]) hx hb dX6_isUnder_1 rfl hl0 (by decide) rfl (fun ls1 hl1 => ?_)
    clear hl0 ls0
    refine lv_iconst (v := 0) hx hb dX6_isUnder_2 (by decide) ?_
    refine lv_istore_n (lv' := [(3, .int 0), (2, .int 2), (0, .int 2), (1, .int t)]) hx hb dX6_isUnder_3 rfl hl1 (by decide) rfl (fun ls2 hl2 => ?_)
    clear hl1 ls1
    refine lv_iload_n hx hb dX6_isUnder_4 rfl (lv_at hl2 0 rfl) ?_
    refine lv_bipush (v := 6) hx hb dX6_isUnder_5 (by decide) ?_
    refine lv_icmp_ge (tgt := 36) hx hb dX6_isUnder_7 (by decide) (fun c => absurd c (by decide)) (fun _ => ?_)
    refine lv_iload_n hx hb dX6_isUnder_10 rfl (lv_at hl2 1 rfl) ?_
    refine rT_i (wc := []) (rest := []) hx hb hml hown hw hG hK hP0 hS0 hA hl2 kc_X6_isKind kw_2_72 [.int 2] (c_X6_isKind l D cy G H0.size 2) [] rfl rfl rfl (Nat.le_of_ble_eq_true rfl) ⟨Nat.le_of_ble_eq_true rfl, Nat.le_of_ble_eq_true rfl⟩ dX6_isUnder_11 ⟨Nat.le_of_ble_eq_true rfl, Nat.le_of_ble_eq_true rfl⟩ (fun r_11 H1 locs1 hr_11 hP1 hS1 => ?_)
    clear hP0 hS0 locs0 H0
    subst hr_11
    refine lb_eq (tgt := 36) hx hb dX6_isUnder_14 (by decide) (fun c => absurd c (by decide)) (fun _ => ?_)
    refine lv_iload_n hx hb dX6_isUnder_17 rfl (lv_at hl2 1 rfl) ?_
    refine lv_iload_n hx hb dX6_isUnder_18 rfl (lv_at hl2 3 rfl) ?_
    refine lv_icmp_ne (tgt := 24) hx hb dX6_isUnder_19 (by decide) (fun c_19 => ?_) (fun c_19 => ?_)
    · refine va_gets hx hb hG.2.1.1 hS1 hown (hw _ kw_2_130) (fun _ h9 => h9) dX6_isUnder_24 ?_
      refine lv_iload_n hx hb dX6_isUnder_27 rfl (lv_at hl2 1 rfl) ?_
      refine tld_i (f := tbU) hx hb hG.2.1.2.1 hS1 2 rfl (by first | omega | assumption) (by decide) dX6_isUnder_28 ?_
      refine tp (show (tbU 2) = 0 from rfl) ?_
      refine lv_istore_n (lv' := [(2, .int 0), (3, .int 0), (0, .int 2), (1, .int t)]) hx hb dX6_isUnder_29 rfl hl2 (by decide) rfl (fun ls3 hl3 => ?_)
      clear hl2 ls2
      refine lv_iinc (v := 1) (lv' := [(3, .int 1), (2, .int 0), (0, .int 2), (1, .int t)]) hx hb dX6_isUnder_30 hl3 (k := 1) rfl (by decide) (by decide) rfl (fun ls4 hl4 => ?_)
      clear hl3 ls3
      refine lv_goto (tgt := 4) hx hb dX6_isUnder_33 (by decide) ?_
      refine lv_iload_n hx hb dX6_isUnder_4 rfl (lv_at hl4 0 rfl) ?_
      refine lv_bipush (v := 6) hx hb dX6_isUnder_5 (by decide) ?_
      refine lv_icmp_ge (tgt := 36) hx hb dX6_isUnder_7 (by decide) (fun c => absurd c (by decide)) (fun _ => ?_)
      refine lv_iload_n hx hb dX6_isUnder_10 rfl (lv_at hl4 1 rfl) ?_
      refine rT_i (wc := []) (rest := []) hx hb hml hown hw hG hK hP1 hS1 hA hl4 kc_X6_isKind kw_2_72 [.int 0] (c_X6_isKind l D cy G H1.size 0) [] rfl rfl rfl (Nat.le_of_ble_eq_true rfl) ⟨Nat.le_of_ble_eq_true rfl, Nat.le_of_ble_eq_true rfl⟩ dX6_isUnder_11 ⟨Nat.le_of_ble_eq_true rfl, Nat.le_of_ble_eq_true rfl⟩ (fun r_11 H2 locs2 hr_11 hP2 hS2 => ?_)
      clear hP1 hS1 locs1 H1
      subst hr_11
      refine lb_eq (tgt := 36) hx hb dX6_isUnder_14 (by decide) (fun c => absurd c (by decide)) (fun _ => ?_)
      refine lv_iload_n hx hb dX6_isUnder_17 rfl (lv_at hl4 1 rfl) ?_
      refine lv_iload_n hx hb dX6_isUnder_18 rfl (lv_at hl4 3 rfl) ?_
      refine lv_icmp_ne (tgt := 24) hx hb dX6_isUnder_19 (by decide) (fun c_19_1 => ?_) (fun c_19_1 => ?_)
      · refine va_gets hx hb hG.2.1.1 hS2 hown (hw _ kw_2_130) (fun _ h9 => h9) dX6_isUnder_24 ?_
        refine lv_iload_n hx hb dX6_isUnder_27 rfl (lv_at hl4 1 rfl) ?_
        refine tld_i (f := tbU) hx hb hG.2.1.2.1 hS2 0 rfl (by first | omega | assumption) (by decide) dX6_isUnder_28 ?_
        refine tp (show (tbU 0) = -1 from rfl) ?_
        refine lv_istore_n (lv' := [(2, .int (-1)), (3, .int 1), (0, .int 2), (1, .int t)]) hx hb dX6_isUnder_29 rfl hl4 (by decide) rfl (fun ls5 hl5 => ?_)
        clear hl4 ls4
        refine lv_iinc (v := 2) (lv' := [(3, .int 2), (2, .int (-1)), (0, .int 2), (1, .int t)]) hx hb dX6_isUnder_30 hl5 (k := 1) rfl (by decide) (by decide) rfl (fun ls6 hl6 => ?_)
        clear hl5 ls5
        refine lv_goto (tgt := 4) hx hb dX6_isUnder_33 (by decide) ?_
        refine lv_iload_n hx hb dX6_isUnder_4 rfl (lv_at hl6 0 rfl) ?_
        refine lv_bipush (v := 6) hx hb dX6_isUnder_5 (by decide) ?_
        refine lv_icmp_ge (tgt := 36) hx hb dX6_isUnder_7 (by decide) (fun c => absurd c (by decide)) (fun _ => ?_)
        refine lv_iload_n hx hb dX6_isUnder_10 rfl (lv_at hl6 1 rfl) ?_
        refine rT_i (wc := []) (rest := []) hx hb hml hown hw hG hK hP2 hS2 hA hl6 kc_X6_isKind kw_2_72 [.int (-1)] (c_X6_isKind l D cy G H2.size (-1)) [] rfl rfl rfl (Nat.le_of_ble_eq_true rfl) ⟨Nat.le_of_ble_eq_true rfl, Nat.le_of_ble_eq_true rfl⟩ dX6_isUnder_11 ⟨Nat.le_of_ble_eq_true rfl, Nat.le_of_ble_eq_true rfl⟩ (fun r_11 H3 locs3 hr_11 hP3 hS3 => ?_)
        clear hP2 hS2 locs2 H2
        subst hr_11
        refine lb_eq (tgt := 36) hx hb dX6_isUnder_14 (by decide) (fun _ => ?_) (fun c => absurd c (by decide))
        refine lv_iconst (v := 0) hx hb dX6_isUnder_36 (by decide) ?_
        exact rd_z hx hb hr hlocks hS3 dX6_isUnder_37 rfl (by clear hx hb hml hown hr hlocks hw hsz hA hG hK hP3 hS3 hl6; grind [b2i])
      · refine lv_iconst (v := 1) hx hb dX6_isUnder_22 (by decide) ?_
        exact rd_z hx hb hr hlocks hS2 dX6_isUnder_23 rfl (by clear hx hb hml hown hr hlocks hw hsz hA hG hK hP2 hS2 hl4; grind [b2i])
    · refine lv_iconst (v := 1) hx hb dX6_isUnder_22 (by decide) ?_
      exact rd_z hx hb hr hlocks hS1 dX6_isUnder_23 rfl (by clear hx hb hml hown hr hlocks hw hsz hA hG hK hP1 hS1 hl2; grind [b2i])
  · refine lv_iload_n hx hb dX6_isUnder_0 rfl (lv_at hl0 0 rfl) ?_
    refine lv_istore_n (lv' := [(2, .int 3), (0, .int 3), (1, .int t)]) hx hb dX6_isUnder_1 rfl hl0 (by decide) rfl (fun ls1 hl1 => ?_)
    clear hl0 ls0
    refine lv_iconst (v := 0) hx hb dX6_isUnder_2 (by decide) ?_
    refine lv_istore_n (lv' := [(3, .int 0), (2, .int 3), (0, .int 3), (1, .int t)]) hx hb dX6_isUnder_3 rfl hl1 (by decide) rfl (fun ls2 hl2 => ?_)
    clear hl1 ls1
    refine lv_iload_n hx hb dX6_isUnder_4 rfl (lv_at hl2 0 rfl) ?_
    refine lv_bipush (v := 6) hx hb dX6_isUnder_5 (by decide) ?_
    refine lv_icmp_ge (tgt := 36) hx hb dX6_isUnder_7 (by decide) (fun c => absurd c (by decide)) (fun _ => ?_)
    refine lv_iload_n hx hb dX6_isUnder_10 rfl (lv_at hl2 1 rfl) ?_
    refine rT_i (wc := []) (rest := []) hx hb hml hown hw hG hK hP0 hS0 hA hl2 kc_X6_isKind kw_2_72 [.int 3] (c_X6_isKind l D cy G H0.size 3) [] rfl rfl rfl (Nat.le_of_ble_eq_true rfl) ⟨Nat.le_of_ble_eq_true rfl, Nat.le_of_ble_eq_true rfl⟩ dX6_isUnder_11 ⟨Nat.le_of_ble_eq_true rfl, Nat.le_of_ble_eq_true rfl⟩ (fun r_11 H1 locs1 hr_11 hP1 hS1 => ?_)
    clear hP0 hS0 locs0 H0
    subst hr_11
    refine lb_eq (tgt := 36) hx hb dX6_isUnder_14 (by decide) (fun c => absurd c (by decide)) (fun _ => ?_)
    refine lv_iload_n hx hb dX6_isUnder_17 rfl (lv_at hl2 1 rfl) ?_
    refine lv_iload_n hx hb dX6_isUnder_18 rfl (lv_at hl2 3 rfl) ?_
    refine lv_icmp_ne (tgt := 24) hx hb dX6_isUnder_19 (by decide) (fun c_19 => ?_) (fun c_19 => ?_)
    · refine va_gets hx hb hG.2.1.1 hS1 hown (hw _ kw_2_130) (fun _ h9 => h9) dX6_isUnder_24 ?_
      refine lv_iload_n hx hb dX6_isUnder_27 rfl (lv_at hl2 1 rfl) ?_
      refine tld_i (f := tbU) hx hb hG.2.1.2.1 hS1 3 rfl (by first | omega | assumption) (by decide) dX6_isUnder_28 ?_
      refine tp (show (tbU 3) = 0 from rfl) ?_
      refine lv_istore_n (lv' := [(2, .int 0), (3, .int 0), (0, .int 3), (1, .int t)]) hx hb dX6_isUnder_29 rfl hl2 (by decide) rfl (fun ls3 hl3 => ?_)
      clear hl2 ls2
      refine lv_iinc (v := 1) (lv' := [(3, .int 1), (2, .int 0), (0, .int 3), (1, .int t)]) hx hb dX6_isUnder_30 hl3 (k := 1) rfl (by decide) (by decide) rfl (fun ls4 hl4 => ?_)
      clear hl3 ls3
      refine lv_goto (tgt := 4) hx hb dX6_isUnder_33 (by decide) ?_
      refine lv_iload_n hx hb dX6_isUnder_4 rfl (lv_at hl4 0 rfl) ?_
      refine lv_bipush (v := 6) hx hb dX6_isUnder_5 (by decide) ?_
      refine lv_icmp_ge (tgt := 36) hx hb dX6_isUnder_7 (by decide) (fun c => absurd c (by decide)) (fun _ => ?_)
      refine lv_iload_n hx hb dX6_isUnder_10 rfl (lv_at hl4 1 rfl) ?_
      refine rT_i (wc := []) (rest := []) hx hb hml hown hw hG hK hP1 hS1 hA hl4 kc_X6_isKind kw_2_72 [.int 0] (c_X6_isKind l D cy G H1.size 0) [] rfl rfl rfl (Nat.le_of_ble_eq_true rfl) ⟨Nat.le_of_ble_eq_true rfl, Nat.le_of_ble_eq_true rfl⟩ dX6_isUnder_11 ⟨Nat.le_of_ble_eq_true rfl, Nat.le_of_ble_eq_true rfl⟩ (fun r_11 H2 locs2 hr_11 hP2 hS2 => ?_)
      clear hP1 hS1 locs1 H1
      subst hr_11
      refine lb_eq (tgt := 36) hx hb dX6_isUnder_14 (by decide) (fun c => absurd c (by decide)) (fun _ => ?_)
      refine lv_iload_n hx hb dX6_isUnder_17 rfl (lv_at hl4 1 rfl) ?_
      refine lv_iload_n hx hb dX6_isUnder_18 rfl (lv_at hl4 3 rfl) ?_
      refine lv_icmp_ne (tgt := 24) hx hb dX6_isUnder_19 (by decide) (fun c_19_1 => ?_) (fun c_19_1 => ?_)
      · refine va_gets hx hb hG.2.1.1 hS2 hown (hw _ kw_2_130) (fun _ h9 => h9) dX6_isUnder_24 ?_
        refine lv_iload_n hx hb dX6_isUnder_27 rfl (lv_at hl4 1 rfl) ?_
        refine tld_i (f := tbU) hx hb hG.2.1.2.1 hS2 0 rfl (by first | omega | assumption) (by decide) dX6_isUnder_28 ?_
        refine tp (show (tbU 0) = -1 from rfl) ?_
        refine lv_istore_n (lv' := [(2, .int (-1)), (3, .int 1), (0, .int 3), (1, .int t)]) hx hb dX6_isUnder_29 rfl hl4 (by decide) rfl (fun ls5 hl5 => ?_)
        clear hl4 ls4
        refine lv_iinc (v := 2) (lv' := [(3, .int 2), (2, .int (-1)), (0, .int 3), (1, .int t)]) hx hb dX6_isUnder_30 hl5 (k := 1) rfl (by decide) (by decide) rfl (fun ls6 hl6 => ?_)
        clear hl5 ls5
        refine lv_goto (tgt := 4) hx hb dX6_isUnder_33 (by decide) ?_
        refine lv_iload_n hx hb dX6_isUnder_4 rfl (lv_at hl6 0 rfl) ?_
        refine lv_bipush (v := 6) hx hb dX6_isUnder_5 (by decide) ?_
        refine lv_icmp_ge (tgt := 36) hx hb dX6_isUnder_7 (by decide) (fun c => absurd c (by decide)) (fun _ => ?_)
        refine lv_iload_n hx hb dX6_isUnder_10 rfl (lv_at hl6 1 rfl) ?_
        refine rT_i (wc := []) (rest := []) hx hb hml hown hw hG hK hP2 hS2 hA hl6 kc_X6_isKind kw_2_72 [.int (-1)] (c_X6_isKind l D cy G H2.size (-1)) [] rfl rfl rfl (Nat.le_of_ble_eq_true rfl) ⟨Nat.le_of_ble_eq_true rfl, Nat.le_of_ble_eq_true rfl⟩ dX6_isUnder_11 ⟨Nat.le_of_ble_eq_true rfl, Nat.le_of_ble_eq_true rfl⟩ (fun r_11 H3 locs3 hr_11 hP3 hS3 => ?_)
        clear hP2 hS2 locs2 H2
        subst hr_11
        refine lb_eq (tgt := 36) hx hb dX6_isUnder_14 (by decide) (fun _ => ?_) (fun c => absurd c (by decide))
        refine lv_iconst (v := 0) hx hb dX6_isUnder_36 (by decide) ?_
        exact rd_z hx hb hr hlocks hS3 dX6_isUnder_37 rfl (by clear hx hb hml hown hr hlocks hw hsz hA hG hK hP3 hS3 hl6; grind [b2i])
      · refine lv_iconst (v := 1) hx hb dX6_isUnder_22 (by decide) ?_
        exact rd_z hx hb hr hlocks hS2 dX6_isUnder_23 rfl (by clear hx hb hml hown hr hlocks hw hsz hA hG hK hP2 hS2 hl4; grind [b2i])
    · refine lv_iconst (v := 1) hx hb dX6_isUnder_22 (by decide) ?_
      exact rd_z hx hb hr hlocks hS1 dX6_isUnder_23 rfl (by clear hx hb hml hown hr hlocks hw hsz hA hG hK hP1 hS1 hl2; grind [b2i])
  · refine lv_iload_n hx hb dX6_isUnder_0 rfl (lv_at hl0 0 rfl) ?_
    refine lv_istore_n (lv' := [(2, .int 4), (0, .int 4), (1, .int t)]) hx hb dX6_isUnder_1 rfl hl0 (by decide) rfl (fun ls1 hl1 => ?_)
    clear hl0 ls0
    refine lv_iconst (v := 0) hx hb dX6_isUnder_2 (by decide) ?_
    refine lv_istore_n (lv' := [(3, .int 0), (2, .int 4), (0, .int 4), (1, .int t)]) hx hb dX6_isUnder_3 rfl hl1 (by decide) rfl (fun ls2 hl2 => ?_)
    clear hl1 ls1
    refine lv_iload_n hx hb dX6_isUnder_4 rfl (lv_at hl2 0 rfl) ?_
    refine lv_bipush (v := 6) hx hb dX6_isUnder_5 (by decide) ?_
    refine lv_icmp_ge (tgt := 36) hx hb dX6_isUnder_7 (by decide) (fun c => absurd c (by decide)) (fun _ => ?_)
    refine lv_iload_n hx hb dX6_isUnder_10 rfl (lv_at hl2 1 rfl) ?_
    refine rT_i (wc := []) (rest := []) hx hb hml hown hw hG hK hP0 hS0 hA hl2 kc_X6_isKind kw_2_72 [.int 4] (c_X6_isKind l D cy G H0.size 4) [] rfl rfl rfl (Nat.le_of_ble_eq_true rfl) ⟨Nat.le_of_ble_eq_true rfl, Nat.le_of_ble_eq_true rfl⟩ dX6_isUnder_11 ⟨Nat.le_of_ble_eq_true rfl, Nat.le_of_ble_eq_true rfl⟩ (fun r_11 H1 locs1 hr_11 hP1 hS1 => ?_)
    clear hP0 hS0 locs0 H0
    subst hr_11
    refine lb_eq (tgt := 36) hx hb dX6_isUnder_14 (by decide) (fun c => absurd c (by decide)) (fun _ => ?_)
    refine lv_iload_n hx hb dX6_isUnder_17 rfl (lv_at hl2 1 rfl) ?_
    refine lv_iload_n hx hb dX6_isUnder_18 rfl (lv_at hl2 3 rfl) ?_
    refine lv_icmp_ne (tgt := 24) hx hb dX6_isUnder_19 (by decide) (fun c_19 => ?_) (fun c_19 => ?_)
    · refine va_gets hx hb hG.2.1.1 hS1 hown (hw _ kw_2_130) (fun _ h9 => h9) dX6_isUnder_24 ?_
      refine lv_iload_n hx hb dX6_isUnder_27 rfl (lv_at hl2 1 rfl) ?_
      refine tld_i (f := tbU) hx hb hG.2.1.2.1 hS1 4 rfl (by first | omega | assumption) (by decide) dX6_isUnder_28 ?_
      refine tp (show (tbU 4) = 0 from rfl) ?_
      refine lv_istore_n (lv' := [(2, .int 0), (3, .int 0), (0, .int 4), (1, .int t)]) hx hb dX6_isUnder_29 rfl hl2 (by decide) rfl (fun ls3 hl3 => ?_)
      clear hl2 ls2
      refine lv_iinc (v := 1) (lv' := [(3, .int 1), (2, .int 0), (0, .int 4), (1, .int t)]) hx hb dX6_isUnder_30 hl3 (k := 1) rfl (by decide) (by decide) rfl (fun ls4 hl4 => ?_)
      clear hl3 ls3
      refine lv_goto (tgt := 4) hx hb dX6_isUnder_33 (by decide) ?_
      refine lv_iload_n hx hb dX6_isUnder_4 rfl (lv_at hl4 0 rfl) ?_
      refine lv_bipush (v := 6) hx hb dX6_isUnder_5 (by decide) ?_
      refine lv_icmp_ge (tgt := 36) hx hb dX6_isUnder_7 (by decide) (fun c => absurd c (by decide)) (fun _ => ?_)
      refine lv_iload_n hx hb dX6_isUnder_10 rfl (lv_at hl4 1 rfl) ?_
      refine rT_i (wc := []) (rest := []) hx hb hml hown hw hG hK hP1 hS1 hA hl4 kc_X6_isKind kw_2_72 [.int 0] (c_X6_isKind l D cy G H1.size 0) [] rfl rfl rfl (Nat.le_of_ble_eq_true rfl) ⟨Nat.le_of_ble_eq_true rfl, Nat.le_of_ble_eq_true rfl⟩ dX6_isUnder_11 ⟨Nat.le_of_ble_eq_true rfl, Nat.le_of_ble_eq_true rfl⟩ (fun r_11 H2 locs2 hr_11 hP2 hS2 => ?_)
      clear hP1 hS1 locs1 H1
      subst hr_11
      refine lb_eq (tgt := 36) hx hb dX6_isUnder_14 (by decide) (fun c => absurd c (by decide)) (fun _ => ?_)
      refine lv_iload_n hx hb dX6_isUnder_17 rfl (lv_at hl4 1 rfl) ?_
      refine lv_iload_n hx hb dX6_isUnder_18 rfl (lv_at hl4 3 rfl) ?_
      refine lv_icmp_ne (tgt := 24) hx hb dX6_isUnder_19 (by decide) (fun c_19_1 => ?_) (fun c_19_1 => ?_)
      · refine va_gets hx hb hG.2.1.1 hS2 hown (hw _ kw_2_130) (fun _ h9 => h9) dX6_isUnder_24 ?_
        refine lv_iload_n hx hb dX6_isUnder_27 rfl (lv_at hl4 1 rfl) ?_
        refine tld_i (f := tbU) hx hb hG.2.1.2.1 hS2 0 rfl (by first | omega | assumption) (by decide) dX6_isUnder_28 ?_
        refine tp (show (tbU 0) = -1 from rfl) ?_
        refine lv_istore_n (lv' := [(2, .int (-1)), (3, .int 1), (0, .int 4), (1, .int t)]) hx hb dX6_isUnder_29 rfl hl4 (by decide) rfl (fun ls5 hl5 => ?_)
        clear hl4 ls4
        refine lv_iinc (v := 2) (lv' := [(3, .int 2), (2, .int (-1)), (0, .int 4), (1, .int t)]) hx hb dX6_isUnder_30 hl5 (k := 1) rfl (by decide) (by decide) rfl (fun ls6 hl6 => ?_)
        clear hl5 ls5
        refine lv_goto (tgt := 4) hx hb dX6_isUnder_33 (by decide) ?_
        refine lv_iload_n hx hb dX6_isUnder_4 rfl (lv_at hl6 0 rfl) ?_
        refine lv_bipush (v := 6) hx hb dX6_isUnder_5 (by decide) ?_
        refine lv_icmp_ge (tgt := 36) hx hb dX6_isUnder_7 (by decide) (fun c => absurd c (by decide)) (fun _ => ?_)
        refine lv_iload_n hx hb dX6_isUnder_10 rfl (lv_at hl6 1 rfl) ?_
        refine rT_i (wc := []) (rest := []) hx hb hml hown hw hG hK hP2 hS2 hA hl6 kc_X6_isKind kw_2_72 [.int (-1)] (c_X6_isKind l D cy G H2.size (-1)) [] rfl rfl rfl (Nat.le_of_ble_eq_true rfl) ⟨Nat.le_of_ble_eq_true rfl, Nat.le_of_ble_eq_true rfl⟩ dX6_isUnder_11 ⟨Nat.le_of_ble_eq_true rfl, Nat.le_of_ble_eq_true rfl⟩ (fun r_11 H3 locs3 hr_11 hP3 hS3 => ?_)
        clear hP2 hS2 locs2 H2
        subst hr_11
        refine lb_eq (tgt := 36) hx hb dX6_isUnder_14 (by decide) (fun _ => ?_) (fun c => absurd c (by decide))
        refine lv_iconst (v := 0) hx hb dX6_isUnder_36 (by decide) ?_
        exact rd_z hx hb hr hlocks hS3 dX6_isUnder_37 rfl (by clear hx hb hml hown hr hlocks hw hsz hA hG hK hP3 hS3 hl6; grind [b2i])
      · refine lv_iconst (v := 1) hx hb dX6_isUnder_22 (by decide) ?_
        exact rd_z hx hb hr hlocks hS2 dX6_isUnder_23 rfl (by clear hx hb hml hown hr hlocks hw hsz hA hG hK hP2 hS2 hl4; grind [b2i])
    · refine lv_iconst (v := 1) hx hb dX6_isUnder_22 (by decide) ?_
      exact rd_z hx hb hr hlocks hS1 dX6_isUnder_23 rfl (by clear hx hb hml hown hr hlocks hw hsz hA hG hK hP1 hS1 hl2; grind [b2i])
  · refine lv_iload_n hx hb dX6_isUnder_0 rfl (lv_at hl0 0 rfl) ?_
    refine lv_istore_n (lv' := [(2, .int 5), (0, .int 5), (1, .int t)]) hx hb dX6_isUnder_1 rfl hl0 (by decide) rfl (fun ls1 hl1 => ?_)
    clear hl0 ls0
    refine lv_iconst (v := 0) hx hb dX6_isUnder_2 (by decide) ?_
    refine lv_istore_n (lv' := [(3, .int 0), (2, .int 5), (0, .int 5), (1, .int t)]) hx hb dX6_isUnder_3 rfl hl1 (by decide) rfl (fun ls2 hl2 => ?_)
    clear hl1 ls1
    refine lv_iload_n hx hb dX6_isUnder_4 rfl (lv_at hl2 0 rfl) ?_
    refine lv_bipush (v := 6) hx hb dX6_isUnder_5 (by decide) ?_
    refine lv_icmp_ge (tgt := 36) hx hb dX6_isUnder_7 (by decide) (fun c => absurd c (by decide)) (fun _ => ?_)
    refine lv_iload_n hx hb dX6_isUnder_10 rfl (lv_at hl2 1 rfl) ?_
    refine rT_i (wc := []) (rest := []) hx hb hml hown hw hG hK hP0 hS0 hA hl2 kc_X6_isKind kw_2_72 [.int 5] (c_X6_isKind l D cy G H0.size 5) [] rfl rfl rfl (Nat.le_of_ble_eq_true rfl) ⟨Nat.le_of_ble_eq_true rfl, Nat.le_of_ble_eq_true rfl⟩ dX6_isUnder_11 ⟨Nat.le_of_ble_eq_true rfl, Nat.le_of_ble_eq_true rfl⟩ (fun r_11 H1 locs1 hr_11 hP1 hS1 => ?_)
    clear hP0 hS0 locs0 H0
    subst hr_11
    refine lb_eq (tgt := 36) hx hb dX6_isUnder_14 (by decide) (fun c => absurd c (by decide)) (fun _ => ?_)
    refine lv_iload_n hx hb dX6_isUnder_17 rfl (lv_at hl2 1 rfl) ?_
    refine lv_iload_n hx hb dX6_isUnder_18 rfl (lv_at hl2 3 rfl) ?_
    refine lv_icmp_ne (tgt := 24) hx hb dX6_isUnder_19 (by decide) (fun c_19 => ?_) (fun c_19 => ?_)
    · refine va_gets hx hb hG.2.1.1 hS1 hown (hw _ kw_2_130) (fun _ h9 => h9) dX6_isUnder_24 ?_
      refine lv_iload_n hx hb dX6_isUnder_27 rfl (lv_at hl2 1 rfl) ?_
      refine tld_i (f := tbU) hx hb hG.2.1.2.1 hS1 5 rfl (by first | omega | assumption) (by decide) dX6_isUnder_28 ?_
      refine tp (show (tbU 5) = 2 from rfl) ?_
      refine lv_istore_n (lv' := [(2, .int 2), (3, .int 0), (0, .int 5), (1, .int t)]) hx hb dX6_isUnder_29 rfl hl2 (by decide) rfl (fun ls3 hl3 => ?_)
      clear hl2 ls2
      refine lv_iinc (v := 1) (lv' := [(3, .int 1), (2, .int 2), (0, .int 5), (1, .int t)]) hx hb dX6_isUnder_30 hl3 (k := 1) rfl (by decide) (by decide) rfl (fun ls4 hl4 => ?_)
      clear hl3 ls3
      refine lv_goto (tgt := 4) hx hb dX6_isUnder_33 (by decide) ?_
      refine lv_iload_n hx hb dX6_isUnder_4 rfl (lv_at hl4 0 rfl) ?_
      refine lv_bipush (v := 6) hx hb dX6_isUnder_5 (by decide) ?_
      refine lv_icmp_ge (tgt := 36) hx hb dX6_isUnder_7 (by decide) (fun c => absurd c (by decide)) (fun _ => ?_)
      refine lv_iload_n hx hb dX6_isUnder_10 rfl (lv_at hl4 1 rfl) ?_
      refine rT_i (wc := []) (rest := []) hx hb hml hown hw hG hK hP1 hS1 hA hl4 kc_X6_isKind kw_2_72 [.int 2] (c_X6_isKind l D cy G H1.size 2) [] rfl rfl rfl (Nat.le_of_ble_eq_true rfl) ⟨Nat.le_of_ble_eq_true rfl, Nat.le_of_ble_eq_true rfl⟩ dX6_isUnder_11 ⟨Nat.le_of_ble_eq_true rfl, Nat.le_of_ble_eq_true rfl⟩ (fun r_11 H2 locs2 hr_11 hP2 hS2 => ?_)
      clear hP1 hS1 locs1 H1
      subst hr_11
      refine lb_eq (tgt := 36) hx hb dX6_isUnder_14 (by decide) (fun c => absurd c (by decide)) (fun _ => ?_)
      refine lv_iload_n hx hb dX6_isUnder_17 rfl (lv_at hl4 1 rfl) ?_
      refine lv_iload_n hx hb dX6_isUnder_18 rfl (lv_at hl4 3 rfl) ?_
      refine lv_icmp_ne (tgt := 24) hx hb dX6_isUnder_19 (by decide) (fun c_19_1 => ?_) (fun c_19_1 => ?_)
      · refine va_gets hx hb hG.2.1.1 hS2 hown (hw _ kw_2_130) (fun _ h9 => h9) dX6_isUnder_24 ?_
        refine lv_iload_n hx hb dX6_isUnder_27 rfl (lv_at hl4 1 rfl) ?_
        refine tld_i (f := tbU) hx hb hG.2.1.2.1 hS2 2 rfl (by first | omega | assumption) (by decide) dX6_isUnder_28 ?_
        refine tp (show (tbU 2) = 0 from rfl) ?_
        refine lv_istore_n (lv' := [(2, .int 0), (3, .int 1), (0, .int 5), (1, .int t)]) hx hb dX6_isUnder_29 rfl hl4 (by decide) rfl (fun ls5 hl5 => ?_)
        clear hl4 ls4
        refine lv_iinc (v := 2) (lv' := [(3, .int 2), (2, .int 0), (0, .int 5), (1, .int t)]) hx hb dX6_isUnder_30 hl5 (k := 1) rfl (by decide) (by decide) rfl (fun ls6 hl6 => ?_)
        clear hl5 ls5
        refine lv_goto (tgt := 4) hx hb dX6_isUnder_33 (by decide) ?_
        refine lv_iload_n hx hb dX6_isUnder_4 rfl (lv_at hl6 0 rfl) ?_
        refine lv_bipush (v := 6) hx hb dX6_isUnder_5 (by decide) ?_
        refine lv_icmp_ge (tgt := 36) hx hb dX6_isUnder_7 (by decide) (fun c => absurd c (by decide)) (fun _ => ?_)
        refine lv_iload_n hx hb dX6_isUnder_10 rfl (lv_at hl6 1 rfl) ?_
        refine rT_i (wc := []) (rest := []) hx hb hml hown hw hG hK hP2 hS2 hA hl6 kc_X6_isKind kw_2_72 [.int 0] (c_X6_isKind l D cy G H2.size 0) [] rfl rfl rfl (Nat.le_of_ble_eq_true rfl) ⟨Nat.le_of_ble_eq_true rfl, Nat.le_of_ble_eq_true rfl⟩ dX6_isUnder_11 ⟨Nat.le_of_ble_eq_true rfl, Nat.le_of_ble_eq_true rfl⟩ (fun r_11 H3 locs3 hr_11 hP3 hS3 => ?_)
        clear hP2 hS2 locs2 H2
        subst hr_11
        refine lb_eq (tgt := 36) hx hb dX6_isUnder_14 (by decide) (fun c => absurd c (by decide)) (fun _ => ?_)
        refine lv_iload_n hx hb dX6_isUnder_17 rfl (lv_at hl6 1 rfl) ?_
        refine lv_iload_n hx hb dX6_isUnder_18 rfl (lv_at hl6 3 rfl) ?_
        refine lv_icmp_ne (tgt := 24) hx hb dX6_isUnder_19 (by decide) (fun c_19_2 => ?_) (fun c_19_2 => ?_)
        · refine va_gets hx hb hG.2.1.1 hS3 hown (hw _ kw_2_130) (fun _ h9 => h9) dX6_isUnder_24 ?_
          refine lv_iload_n hx hb dX6_isUnder_27 rfl (lv_at hl6 1 rfl) ?_
          refine tld_i (f := tbU) hx hb hG.2.1.2.1 hS3 0 rfl (by first | omega | assumption) (by decide) dX6_isUnder_28 ?_
          refine tp (show (tbU 0) = -1 from rfl) ?_
          refine lv_istore_n (lv' := [(2, .int (-1)), (3, .int 2), (0, .int 5), (1, .int t)]) hx hb dX6_isUnder_29 rfl hl6 (by decide) rfl (fun ls7 hl7 => ?_)
          clear hl6 ls6
          refine lv_iinc (v := 3) (lv' := [(3, .int 3), (2, .int (-1)), (0, .int 5), (1, .int t)]) hx hb dX6_isUnder_30 hl7 (k := 1) rfl (by decide) (by decide) rfl (fun ls8 hl8 => ?_)
          clear hl7 ls7
          refine lv_goto (tgt := 4) hx hb dX6_isUnder_33 (by decide) ?_
          refine lv_iload_n hx hb dX6_isUnder_4 rfl (lv_at hl8 0 rfl) ?_
          refine lv_bipush (v := 6) hx hb dX6_isUnder_5 (by decide) ?_
          refine lv_icmp_ge (tgt := 36) hx hb dX6_isUnder_7 (by decide) (fun c => absurd c (by decide)) (fun _ => ?_)
          refine lv_iload_n hx hb dX6_isUnder_10 rfl (lv_at hl8 1 rfl) ?_
          refine rT_i (wc := []) (rest := []) hx hb hml hown hw hG hK hP3 hS3 hA hl8 kc_X6_isKind kw_2_72 [.int (-1)] (c_X6_isKind l D cy G H3.size (-1)) [] rfl rfl rfl (Nat.le_of_ble_eq_true rfl) ⟨Nat.le_of_ble_eq_true rfl, Nat.le_of_ble_eq_true rfl⟩ dX6_isUnder_11 ⟨Nat.le_of_ble_eq_true rfl, Nat.le_of_ble_eq_true rfl⟩ (fun r_11 H4 locs4 hr_11 hP4 hS4 => ?_)
          clear hP3 hS3 locs3 H3
          subst hr_11
          refine lb_eq (tgt := 36) hx hb dX6_isUnder_14 (by decide) (fun _ => ?_) (fun c => absurd c (by decide))
          refine lv_iconst (v := 0) hx hb dX6_isUnder_36 (by decide) ?_
          exact rd_z hx hb hr hlocks hS4 dX6_isUnder_37 rfl (by clear hx hb hml hown hr hlocks hw hsz hA hG hK hP4 hS4 hl8; grind [b2i])
        · refine lv_iconst (v := 1) hx hb dX6_isUnder_22 (by decide) ?_
          exact rd_z hx hb hr hlocks hS3 dX6_isUnder_23 rfl (by clear hx hb hml hown hr hlocks hw hsz hA hG hK hP3 hS3 hl6; grind [b2i])
      · refine lv_iconst (v := 1) hx hb dX6_isUnder_22 (by decide) ?_
        exact rd_z hx hb hr hlocks hS2 dX6_isUnder_23 rfl (by clear hx hb hml hown hr hlocks hw hsz hA hG hK hP2 hS2 hl4; grind [b2i])
    · refine lv_iconst (v := 1) hx hb dX6_isUnder_22 (by decide) ?_
      exact rd_z hx hb hr hlocks hS1 dX6_isUnder_23 rfl (by clear hx hb hml hown hr hlocks hw hsz hA hG hK hP1 hS1 hl2; grind [b2i])
  · refine lv_iload_n hx hb dX6_isUnder_0 rfl (lv_at hl0 0 rfl) ?_
    refine lv_istore_n (lv' := [(2, .int k), (0, .int k), (1, .int t)]) hx hb dX6_isUnder_1 rfl hl0 (by decide) rfl (fun ls1 hl1 => ?_)
    clear hl0 ls0
    refine lv_iconst (v := 0) hx hb dX6_isUnder_2 (by decide) ?_
    refine lv_istore_n (lv' := [(3, .int 0), (2, .int k), (0, .int k), (1, .int t)]) hx hb dX6_isUnder_3 rfl hl1 (by decide) rfl (fun ls2 hl2 => ?_)
    clear hl1 ls1
    refine lv_iload_n hx hb dX6_isUnder_4 rfl (lv_at hl2 0 rfl) ?_
    refine lv_bipush (v := 6) hx hb dX6_isUnder_5 (by decide) ?_
    refine lv_icmp_ge (tgt := 36) hx hb dX6_isUnder_7 (by decide) (fun c => absurd c (by decide)) (fun _ => ?_)
    refine lv_iload_n hx hb dX6_isUnder_10 rfl (lv_at hl2 1 rfl) ?_
    refine rT_i (wc := []) (rest := []) hx hb hml hown hw hG hK hP0 hS0 hA hl2 kc_X6_isKind kw_2_72 [.int k] (c_X6_isKind l D cy G H0.size k) [] rfl rfl rfl (Nat.le_of_ble_eq_true rfl) ⟨Nat.le_of_ble_eq_true rfl, Nat.le_of_ble_eq_true rfl⟩ dX6_isUnder_11 ⟨Nat.le_of_ble_eq_true rfl, Nat.le_of_ble_eq_true rfl⟩ (fun r_11 H1 locs1 hr_11 hP1 hS1 => ?_)
    clear hP0 hS0 locs0 H0
    subst hr_11
    refine lb_eq (tgt := 36) hx hb dX6_isUnder_14 (by decide) (fun c_14 => ?_) (fun c_14 => absurd c_14 hk)
    refine lv_iconst (v := 0) hx hb dX6_isUnder_36 (by decide) ?_
    exact rd_z hx hb hr hlocks hS1 dX6_isUnder_37 rfl (by clear hx hb hml hown hr hlocks hw hsz hA hG hK hP1 hS1 hl2; grind [b2i])

theorem kc_X1_hasRoom : kV yX1_hasRoom cX1_hasRoom 2 (some .boolean) 1 := ⟨kw_2_76, kw_2_77, kw_1_2, kw_2_78, by decide, by decide, by decide +kernel⟩
set_option maxHeartbeats 4000000 in
set_option maxRecDepth 100000 in
theorem c_X1_hasRoom (l : Launch) (D : va_G) (cy : Nat → ClassId) (G : Nat → Nat) (sz : Nat) (a : Nat → Nat) (S : Nat → Int32) (x : Int32)  : Met l yX1_hasRoom (wm yX1_hasRoom cX1_hasRoom 2 (some .boolean)) { frames := 0, cells := 0, slots := 0, locals := 0 } (va_Pc [.ref (a 0), .int x] (pd D (TY cy) G (pS cy a S) sz)) (va_Qi (fun r (_ : Unit) => r = b2i (0 ≤ x ∧ x < S 0)) (fun _ _ => True) (va_A [] sz)) 0 0 (va_A [] sz) := by
  refine mk_rd (by decide) RX1 rfl (Nat.le_of_ble_eq_true rfl) [(0, .ref (a 0)), (1, .int x)] rfl ?_
  intro p e s m below meth c hx hb hml hown hr hlocks hw hsz hA hG hK H0 locs0 hP0 hS0 ls0 hl0
  refine lv_iload_n hx hb dX1_hasRoom_0 rfl (lv_at hl0 1 rfl) ?_
  refine lv_if_lt (tgt := 16) hx hb dX1_hasRoom_1 (by decide) (fun c_1 => ?_) (fun c_1 => ?_)
  · refine lv_iconst (v := 0) hx hb dX1_hasRoom_16 (by decide) ?_
    exact rd_z hx hb hr hlocks hS0 dX1_hasRoom_17 rfl (by clear hx hb hml hown hr hlocks hw hsz hA hG hK hP0 hS0 hl0; grind [b2i])
  · refine lv_iload_n hx hb dX1_hasRoom_4 rfl (lv_at hl0 1 rfl) ?_
    refine lv_aload_n hx hb dX1_hasRoom_5 rfl (lv_at hl0 0 rfl) ?_
    refine va_get (D := D) (ci := 1) (v := .int (S 0)) (C := RX1) (T := TX1) (N := 12) hx hb hw iX1 hown hK hP0 0 rfl rfl 0 (by decide) (hw _ kw_1_30) (fun _ h9 => h9) rfl dX1_hasRoom_6 ?_
    refine lv_icmp_ge (tgt := 16) hx hb dX1_hasRoom_9 (by decide) (fun c_9 => ?_) (fun c_9 => ?_)
    · refine lv_iconst (v := 0) hx hb dX1_hasRoom_16 (by decide) ?_
      exact rd_z hx hb hr hlocks hS0 dX1_hasRoom_17 rfl (by clear hx hb hml hown hr hlocks hw hsz hA hG hK hP0 hS0 hl0; grind [b2i])
    · refine lv_iconst (v := 1) hx hb dX1_hasRoom_12 (by decide) ?_
      refine lv_goto (tgt := 17) hx hb dX1_hasRoom_13 (by decide) ?_
      exact rd_z hx hb hr hlocks hS0 dX1_hasRoom_17 rfl (by clear hx hb hml hown hr hlocks hw hsz hA hG hK hP0 hS0 hl0; grind [b2i])

theorem kc_X1_hasGap : kV yX1_hasGap cX1_hasGap 2 (some .boolean) 1 := ⟨kw_2_91, kw_2_92, kw_1_2, kw_2_93, by decide, by decide, by decide +kernel⟩
set_option maxHeartbeats 4000000 in
set_option maxRecDepth 100000 in
theorem c_X1_hasGap (l : Launch) (D : va_G) (cy : Nat → ClassId) (G : Nat → Nat) (sz : Nat) (a : Nat → Nat) (S : Nat → Int32) (g : Int32)  : Met l yX1_hasGap (wm yX1_hasGap cX1_hasGap 2 (some .boolean)) { frames := 0, cells := 0, slots := 0, locals := 0 } (va_Pc [.ref (a 0), .int g] (pd D (TY cy) G (pS cy a S) sz)) (va_Qi (fun r (_ : Unit) => r = b2i (0 ≤ g ∧ g < S 1)) (fun _ _ => True) (va_A [] sz)) 0 0 (va_A [] sz) := by
  refine mk_rd (by decide) RX1 rfl (Nat.le_of_ble_eq_true rfl) [(0, .ref (a 0)), (1, .int g)] rfl ?_
  intro p e s m below meth c hx hb hml hown hr hlocks hw hsz hA hG hK H0 locs0 hP0 hS0 ls0 hl0
  refine lv_iload_n hx hb dX1_hasGap_0 rfl (lv_at hl0 1 rfl) ?_
  refine lv_if_lt (tgt := 16) hx hb dX1_hasGap_1 (by decide) (fun c_1 => ?_) (fun c_1 => ?_)
  · refine lv_iconst (v := 0) hx hb dX1_hasGap_16 (by decide) ?_
    exact rd_z hx hb hr hlocks hS0 dX1_hasGap_17 rfl (by clear hx hb hml hown hr hlocks hw hsz hA hG hK hP0 hS0 hl0; grind [b2i])
  · refine lv_iload_n hx hb dX1_hasGap_4 rfl (lv_at hl0 1 rfl) ?_
    refine lv_aload_n hx hb dX1_hasGap_5 rfl (lv_at hl0 0 rfl) ?_
    refine va_get (D := D) (ci := 1) (v := .int (S 1)) (C := RX1) (T := TX1) (N := 12) hx hb hw iX1 hown hK hP0 0 rfl rfl 1 (by decide) (hw _ kw_1_34) (fun _ h9 => h9) rfl dX1_hasGap_6 ?_
    refine lv_icmp_ge (tgt := 16) hx hb dX1_hasGap_9 (by decide) (fun c_9 => ?_) (fun c_9 => ?_)
    · refine lv_iconst (v := 0) hx hb dX1_hasGap_16 (by decide) ?_
      exact rd_z hx hb hr hlocks hS0 dX1_hasGap_17 rfl (by clear hx hb hml hown hr hlocks hw hsz hA hG hK hP0 hS0 hl0; grind [b2i])
    · refine lv_iconst (v := 1) hx hb dX1_hasGap_12 (by decide) ?_
      refine lv_goto (tgt := 17) hx hb dX1_hasGap_13 (by decide) ?_
      exact rd_z hx hb hr hlocks hS0 dX1_hasGap_17 rfl (by clear hx hb hml hown hr hlocks hw hsz hA hG hK hP0 hS0 hl0; grind [b2i])

theorem kc_X1_isTurned : kV yX1_isTurned cX1_isTurned 2 (some .boolean) 1 := ⟨kw_2_105, kw_s_1, kw_1_2, kw_2_106, by decide, by decide, by decide +kernel⟩
set_option maxHeartbeats 4000000 in
set_option maxRecDepth 100000 in
theorem c_X1_isTurned (l : Launch) (D : va_G) (cy : Nat → ClassId) (G : Nat → Nat) (sz : Nat) (a : Nat → Nat) (S : Nat → Int32) (j : Nat) (hj : j < 20) : Met l yX1_isTurned (wm yX1_isTurned cX1_isTurned 2 (some .boolean)) { frames := 0, cells := 0, slots := 0, locals := 0 } (va_Pc [.ref (a 0), .int (nI j)] (pd D (TY cy) G (pS cy a S) sz)) (va_Qi (fun r (_ : Unit) => r = b2i (S (11 + 8 * j) = -1 ∧ 0 < S 3 ∧ S 4 = S (14 + 8 * j))) (fun _ _ => True) (va_A [] sz)) 0 0 (va_A [] sz) := by
  refine mk_rd (by decide) RX1 rfl (Nat.le_of_ble_eq_true rfl) [(0, .ref (a 0)), (1, .int (nI j))] rfl ?_
  intro p e s m below meth c hx hb hml hown hr hlocks hw hsz hA hG hK H0 locs0 hP0 hS0 ls0 hl0
  refine lv_aload_n hx hb dX1_isTurned_0 rfl (lv_at hl0 0 rfl) ?_
  refine va_get (D := D) (ci := 1) (v := .ref (a 3)) (C := RX1) (T := TX1) (N := 12) hx hb hw iX1 hown hK hP0 0 rfl rfl 4 (by decide) (hw _ kw_1_44) (fun _ h9 => h9) rfl dX1_isTurned_1 ?_
  refine lv_iload_n hx hb dX1_isTurned_4 rfl (lv_at hl0 1 rfl) ?_
  refine ald_i (f := fun g => S (11 + 8 * g)) hx hb hK hP0 3 0 rfl rfl j rfl (by first | omega | assumption) (by decide) dX1_isTurned_5 ?_
  refine lv_iconst (v := (-1)) hx hb dX1_isTurned_6 (by decide) ?_
  refine lv_icmp_ne (tgt := 38) hx hb dX1_isTurned_7 (by decide) (fun c_7 => ?_) (fun c_7 => ?_)
  · refine lv_iconst (v := 0) hx hb dX1_isTurned_38 (by decide) ?_
    exact rd_z hx hb hr hlocks hS0 dX1_isTurned_39 rfl (by clear hx hb hml hown hr hlocks hw hsz hA hG hK hP0 hS0 hl0; grind [b2i])
  · refine lv_aload_n hx hb dX1_isTurned_10 rfl (lv_at hl0 0 rfl) ?_
    refine va_get (D := D) (ci := 1) (v := .ref (a 9)) (C := RX1) (T := TX1) (N := 12) hx hb hw iX1 hown hK hP0 0 rfl rfl 10 (by decide) (hw _ kw_1_60) (fun _ h9 => h9) rfl dX1_isTurned_11 ?_
    refine lv_iconst (v := 1) hx hb dX1_isTurned_14 (by decide) ?_
    refine ald_i (f := fun k => if k < 6 then S (2 + k) else 0) hx hb hK hP0 9 0 rfl rfl 1 rfl (by first | omega | assumption) (by decide) dX1_isTurned_15 ?_
    refine tp (show (if 1 < 6 then S (2 + 1) else 0) = S 3 from rfl) ?_
    refine lv_if_le (tgt := 38) hx hb dX1_isTurned_16 (by decide) (fun c_16 => ?_) (fun c_16 => ?_)
    · refine lv_iconst (v := 0) hx hb dX1_isTurned_38 (by decide) ?_
      exact rd_z hx hb hr hlocks hS0 dX1_isTurned_39 rfl (by clear hx hb hml hown hr hlocks hw hsz hA hG hK hP0 hS0 hl0; grind [b2i])
    · refine lv_aload_n hx hb dX1_isTurned_19 rfl (lv_at hl0 0 rfl) ?_
      refine va_get (D := D) (ci := 1) (v := .ref (a 9)) (C := RX1) (T := TX1) (N := 12) hx hb hw iX1 hown hK hP0 0 rfl rfl 10 (by decide) (hw _ kw_1_60) (fun _ h9 => h9) rfl dX1_isTurned_20 ?_
      refine lv_iconst (v := 2) hx hb dX1_isTurned_23 (by decide) ?_
      refine ald_i (f := fun k => if k < 6 then S (2 + k) else 0) hx hb hK hP0 9 0 rfl rfl 2 rfl (by first | omega | assumption) (by decide) dX1_isTurned_24 ?_
      refine tp (show (if 2 < 6 then S (2 + 2) else 0) = S 4 from rfl) ?_
      refine lv_aload_n hx hb dX1_isTurned_25 rfl (lv_at hl0 0 rfl) ?_
      refine va_get (D := D) (ci := 1) (v := .ref (a 6)) (C := RX1) (T := TX1) (N := 12) hx hb hw iX1 hown hK hP0 0 rfl rfl 7 (by decide) (hw _ kw_1_52) (fun _ h9 => h9) rfl dX1_isTurned_26 ?_
      refine lv_iload_n hx hb dX1_isTurned_29 rfl (lv_at hl0 1 rfl) ?_
      refine ald_i (f := fun g => S (14 + 8 * g)) hx hb hK hP0 6 0 rfl rfl j rfl (by first | omega | assumption) (by decide) dX1_isTurned_30 ?_
      refine lv_icmp_ne (tgt := 38) hx hb dX1_isTurned_31 (by decide) (fun c_31 => ?_) (fun c_31 => ?_)
      · refine lv_iconst (v := 0) hx hb dX1_isTurned_38 (by decide) ?_
        exact rd_z hx hb hr hlocks hS0 dX1_isTurned_39 rfl (by clear hx hb hml hown hr hlocks hw hsz hA hG hK hP0 hS0 hl0; grind [b2i])
      · refine lv_iconst (v := 1) hx hb dX1_isTurned_34 (by decide) ?_
        refine lv_goto (tgt := 39) hx hb dX1_isTurned_35 (by decide) ?_
        exact rd_z hx hb hr hlocks hS0 dX1_isTurned_39 rfl (by clear hx hb hml hown hr hlocks hw hsz hA hG hK hP0 hS0 hl0; grind [b2i])

theorem kc_X1_windOn : kV yX1_windOn cX1_windOn 3 (some .int) 1 := ⟨kw_2_113, kw_s_2, kw_1_2, kw_2_114, by decide, by decide, by decide +kernel⟩
set_option maxHeartbeats 4000000 in
set_option maxRecDepth 100000 in
theorem c_X1_windOn (l : Launch) (D : va_G) (cy : Nat → ClassId) (G : Nat → Nat) (sz : Nat) (a : Nat → Nat) (S : Nat → Int32) (d : Int32)  : Met l yX1_windOn (wm yX1_windOn cX1_windOn 3 (some .int)) { frames := 0, cells := 0, slots := 0, locals := 0 } (va_Pc [.ref (a 0), .int d] (pd D (TY cy) G (pS cy a S) sz)) (va_Qi (fun r (_ : Unit) => r = windOn S d) (fun _ _ => True) (va_A [] sz)) 0 0 (va_A [] sz) := by
  refine mk_rd (by decide) RX1 rfl (Nat.le_of_ble_eq_true rfl) [(0, .ref (a 0)), (1, .int d)] rfl ?_
  intro p e s m below meth c hx hb hml hown hr hlocks hw hsz hA hG hK H0 locs0 hP0 hS0 ls0 hl0
  refine lv_aload_n hx hb dX1_windOn_0 rfl (lv_at hl0 0 rfl) ?_
  refine va_get (D := D) (ci := 1) (v := .ref (a 9)) (C := RX1) (T := TX1) (N := 12) hx hb hw iX1 hown hK hP0 0 rfl rfl 10 (by decide) (hw _ kw_1_60) (fun _ h9 => h9) rfl dX1_windOn_1 ?_
  refine lv_iconst (v := 1) hx hb dX1_windOn_4 (by decide) ?_
  refine ald_i (f := fun k => if k < 6 then S (2 + k) else 0) hx hb hK hP0 9 0 rfl rfl 1 rfl (by first | omega | assumption) (by decide) dX1_windOn_5 ?_
  refine tp (show (if 1 < 6 then S (2 + 1) else 0) = S 3 from rfl) ?_
  refine lv_istore_n (lv' := [(2, .int (S 3)), (0, .ref (a 0)), (1, .int d)]) hx hb dX1_windOn_6 rfl hl0 (by decide) rfl (fun ls1 hl1 => ?_)
  clear hl0 ls0
  refine lv_aload_n hx hb dX1_windOn_7 rfl (lv_at hl1 1 rfl) ?_
  refine va_get (D := D) (ci := 1) (v := .ref (a 9)) (C := RX1) (T := TX1) (N := 12) hx hb hw iX1 hown hK hP0 0 rfl rfl 10 (by decide) (hw _ kw_1_60) (fun _ h9 => h9) rfl dX1_windOn_8 ?_
  refine lv_iconst (v := 2) hx hb dX1_windOn_11 (by decide) ?_
  refine ald_i (f := fun k => if k < 6 then S (2 + k) else 0) hx hb hK hP0 9 0 rfl rfl 2 rfl (by first | omega | assumption) (by decide) dX1_windOn_12 ?_
  refine tp (show (if 2 < 6 then S (2 + 2) else 0) = S 4 from rfl) ?_
  refine lv_iload_n hx hb dX1_windOn_13 rfl (lv_at hl1 2 rfl) ?_
  refine lv_icmp_ne (tgt := 19) hx hb dX1_windOn_14 (by decide) (fun c_14 => ?_) (fun c_14 => ?_)
  · refine lv_aload_n hx hb dX1_windOn_19 rfl (lv_at hl1 1 rfl) ?_
    refine va_get (D := D) (ci := 1) (v := .ref (a 9)) (C := RX1) (T := TX1) (N := 12) hx hb hw iX1 hown hK hP0 0 rfl rfl 10 (by decide) (hw _ kw_1_60) (fun _ h9 => h9) rfl dX1_windOn_20 ?_
    refine lv_iconst (v := 2) hx hb dX1_windOn_23 (by decide) ?_
    refine ald_i (f := fun k => if k < 6 then S (2 + k) else 0) hx hb hK hP0 9 0 rfl rfl 2 rfl (by first | omega | assumption) (by decide) dX1_windOn_24 ?_
    refine tp (show (if 2 < 6 then S (2 + 2) else 0) = S 4 from rfl) ?_
    refine lv_iload_n hx hb dX1_windOn_25 rfl (lv_at hl1 2 rfl) ?_
    refine lv_iconst (v := 2) hx hb dX1_windOn_26 (by decide) ?_
    refine lv_iadd hx hb dX1_windOn_27 ?_
    refine lv_iconst (v := 4) hx hb dX1_windOn_28 (by decide) ?_
    refine lv_irem hx hb dX1_windOn_29 (by decide) ?_
    refine lv_icmp_ne (tgt := 40) hx hb dX1_windOn_30 (by decide) (fun c_30 => ?_) (fun c_30 => ?_)
    · refine lv_iload_n hx hb dX1_windOn_40 rfl (lv_at hl1 0 rfl) ?_
      refine lv_iconst (v := 4) hx hb dX1_windOn_41 (by decide) ?_
      refine lv_idiv hx hb dX1_windOn_42 (by decide) ?_
      refine lv_ineg hx hb dX1_windOn_43 ?_
      exact rd_i hx hb hr hlocks hS0 dX1_windOn_44 (by clear hx hb hml hown hr hlocks hw hsz hA hG hK hP0 hS0 hl1; grind [windOn])
    · refine lv_iload_n hx hb dX1_windOn_33 rfl (lv_at hl1 0 rfl) ?_
      refine lv_iconst (v := 2) hx hb dX1_windOn_34 (by decide) ?_
      refine lv_idiv hx hb dX1_windOn_35 (by decide) ?_
      refine lv_ineg hx hb dX1_windOn_36 ?_
      refine lv_goto (tgt := 44) hx hb dX1_windOn_37 (by decide) ?_
      exact rd_i hx hb hr hlocks hS0 dX1_windOn_44 (by clear hx hb hml hown hr hlocks hw hsz hA hG hK hP0 hS0 hl1; grind [windOn])
  · refine lv_iload_n hx hb dX1_windOn_17 rfl (lv_at hl1 0 rfl) ?_
    exact rd_i hx hb hr hlocks hS0 dX1_windOn_18 (by clear hx hb hml hown hr hlocks hw hsz hA hG hK hP0 hS0 hl1; grind [windOn])

theorem kc_X1_breadthOf : kV yX1_breadthOf cX1_breadthOf 2 (some .int) 1 := ⟨kw_2_100, kw_2_101, kw_1_2, kw_2_102, by decide, by decide, by decide +kernel⟩
set_option maxHeartbeats 4000000 in
set_option maxRecDepth 100000 in
theorem c_X1_breadthOf (l : Launch) (D : va_G) (cy : Nat → ClassId) (G : Nat → Nat) (sz : Nat) (a : Nat → Nat) (S : Nat → Int32) (j : Nat) (hj : j < 20) : Met l yX1_breadthOf (wm yX1_breadthOf cX1_breadthOf 2 (some .int)) { frames := 1, cells := 0, slots := 0, locals := 21 } (va_Pc [.ref (a 0), .int (nI j)] (pd D (TY cy) G (pS cy a S) sz)) (va_Qi (fun r (_ : Unit) => r = breadth S j) (fun _ _ => True) (va_A [] sz)) 0 0 (va_A [] sz) := by
  refine mk_rd (by decide) RX1 rfl (Nat.le_of_ble_eq_true rfl) [(0, .ref (a 0)), (1, .int (nI j))] rfl ?_
  intro p e s m below meth c hx hb hml hown hr hlocks hw hsz hA hG hK H0 locs0 hP0 hS0 ls0 hl0
  refine lv_aload_n hx hb dX1_breadthOf_0 rfl (lv_at hl0 0 rfl) ?_
  refine va_get (D := D) (ci := 1) (v := .ref (a 8)) (C := RX1) (T := TX1) (N := 12) hx hb hw iX1 hown hK hP0 0 rfl rfl 9 (by decide) (hw _ kw_1_57) (fun _ h9 => h9) rfl dX1_breadthOf_1 ?_
  refine lv_iload_n hx hb dX1_breadthOf_4 rfl (lv_at hl0 1 rfl) ?_
  refine ald_z (f := fun g => S (16 + 8 * g)) hx hb hK hP0 8 2 rfl rfl j rfl (by first | omega | assumption) (by decide) dX1_breadthOf_5 ?_
  refine lv_if_eq (tgt := 11) hx hb dX1_breadthOf_6 (by decide) (fun c_6 => ?_) (fun c_6 => ?_)
  · refine lv_aload_n hx hb dX1_breadthOf_11 rfl (lv_at hl0 0 rfl) ?_
    refine va_get (D := D) (ci := 1) (v := .ref (a 1)) (C := RX1) (T := TX1) (N := 12) hx hb hw iX1 hown hK hP0 0 rfl rfl 2 (by decide) (hw _ kw_1_39) (fun _ h9 => h9) rfl dX1_breadthOf_12 ?_
    refine lv_iload_n hx hb dX1_breadthOf_15 rfl (lv_at hl0 1 rfl) ?_
    refine ald_i (f := fun g => S (9 + 8 * g)) hx hb hK hP0 1 0 rfl rfl j rfl (by first | omega | assumption) (by decide) dX1_breadthOf_16 ?_
    by_cases c_17_1 : S (9 + 8 * j) = 1
    · refine tp c_17_1 ?_
      refine lv_tableIn (off := 31) (tgt := 48) hx hb dX1_breadthOf_17 (by decide) (by decide) (by decide) (by decide) ?_
      refine lv_aload_n hx hb dX1_breadthOf_48 rfl (lv_at hl0 0 rfl) ?_
      refine va_get (D := D) (ci := 1) (v := .ref (a 4)) (C := RX1) (T := TX1) (N := 12) hx hb hw iX1 hown hK hP0 0 rfl rfl 5 (by decide) (hw _ kw_1_47) (fun _ h9 => h9) rfl dX1_breadthOf_49 ?_
      refine lv_iload_n hx hb dX1_breadthOf_52 rfl (lv_at hl0 1 rfl) ?_
      refine ald_i (f := fun g => S (12 + 8 * g)) hx hb hK hP0 4 0 rfl rfl j rfl (by first | omega | assumption) (by decide) dX1_breadthOf_53 ?_
      refine lv_iconst (v := 2) hx hb dX1_breadthOf_54 (by decide) ?_
      refine lv_idiv hx hb dX1_breadthOf_55 (by decide) ?_
      exact rd_i hx hb hr hlocks hS0 dX1_breadthOf_56 (by clear hx hb hml hown hr hlocks hw hsz hA hG hK hP0 hS0 hl0; grind [breadth, b2i])
    by_cases c_17_2 : S (9 + 8 * j) = 2
    · refine tp c_17_2 ?_
      refine lv_tableIn (off := 73) (tgt := 90) hx hb dX1_breadthOf_17 (by decide) (by decide) (by decide) (by decide) ?_
      refine lv_aload_n hx hb dX1_breadthOf_90 rfl (lv_at hl0 0 rfl) ?_
      refine va_get (D := D) (ci := 1) (v := .ref (a 4)) (C := RX1) (T := TX1) (N := 12) hx hb hw iX1 hown hK hP0 0 rfl rfl 5 (by decide) (hw _ kw_1_47) (fun _ h9 => h9) rfl dX1_breadthOf_91 ?_
      refine lv_iload_n hx hb dX1_breadthOf_94 rfl (lv_at hl0 1 rfl) ?_
      refine ald_i (f := fun g => S (12 + 8 * g)) hx hb hK hP0 4 0 rfl rfl j rfl (by first | omega | assumption) (by decide) dX1_breadthOf_95 ?_
      exact rd_i hx hb hr hlocks hS0 dX1_breadthOf_96 (by clear hx hb hml hown hr hlocks hw hsz hA hG hK hP0 hS0 hl0; grind [breadth, b2i])
    by_cases c_17_3 : S (9 + 8 * j) = 3
    · refine tp c_17_3 ?_
      refine lv_tableIn (off := 40) (tgt := 57) hx hb dX1_breadthOf_17 (by decide) (by decide) (by decide) (by decide) ?_
      refine lv_aload_n hx hb dX1_breadthOf_57 rfl (lv_at hl0 0 rfl) ?_
      refine va_get (D := D) (ci := 1) (v := .ref (a 9)) (C := RX1) (T := TX1) (N := 12) hx hb hw iX1 hown hK hP0 0 rfl rfl 10 (by decide) (hw _ kw_1_60) (fun _ h9 => h9) rfl dX1_breadthOf_58 ?_
      refine lv_iconst (v := 4) hx hb dX1_breadthOf_61 (by decide) ?_
      refine ald_i (f := fun k => if k < 6 then S (2 + k) else 0) hx hb hK hP0 9 0 rfl rfl 4 rfl (by first | omega | assumption) (by decide) dX1_breadthOf_62 ?_
      refine tp (show (if 4 < 6 then S (2 + 4) else 0) = S 6 from rfl) ?_
      exact rd_i hx hb hr hlocks hS0 dX1_breadthOf_63 (by clear hx hb hml hown hr hlocks hw hsz hA hG hK hP0 hS0 hl0; grind [breadth, b2i])
    by_cases c_17_4 : S (9 + 8 * j) = 4
    · refine tp c_17_4 ?_
      refine lv_tableIn (off := 47) (tgt := 64) hx hb dX1_breadthOf_17 (by decide) (by decide) (by decide) (by decide) ?_
      refine lv_aload_n hx hb dX1_breadthOf_64 rfl (lv_at hl0 0 rfl) ?_
      refine lv_iload_n hx hb dX1_breadthOf_65 rfl (lv_at hl0 1 rfl) ?_
      refine rV_i (wc := pS cy a S) (rest := []) hx hb hml hown hw hG hK hP0 hS0 hA hl0 kc_X1_isTurned kw_2_103 [.int (nI j)] (c_X1_isTurned l D cy G H0.size a S j (by first | omega | assumption)) [0, 1, 2, 3, 4, 5, 6, 7, 8, 9] rfl 0 rfl rfl rfl rfl rfl (Nat.le_of_ble_eq_true rfl) ⟨Nat.le_of_ble_eq_true rfl, Nat.le_of_ble_eq_true rfl⟩ dX1_breadthOf_66 ⟨Nat.le_of_ble_eq_true rfl, Nat.le_of_ble_eq_true rfl⟩ (fun r_66 H1 locs1 hr_66 hP1 hS1 => ?_)
      clear hP0 hS0 locs0 H0
      subst hr_66
      refine lb_eq (tgt := 83) hx hb dX1_breadthOf_69 (by decide) (fun c_69 => ?_) (fun c_69 => ?_)
      · refine lv_aload_n hx hb dX1_breadthOf_83 rfl (lv_at hl0 0 rfl) ?_
        refine va_get (D := D) (ci := 1) (v := .ref (a 4)) (C := RX1) (T := TX1) (N := 12) hx hb hw iX1 hown hK hP1 0 rfl rfl 5 (by decide) (hw _ kw_1_47) (fun _ h9 => h9) rfl dX1_breadthOf_84 ?_
        refine lv_iload_n hx hb dX1_breadthOf_87 rfl (lv_at hl0 1 rfl) ?_
        refine ald_i (f := fun g => S (12 + 8 * g)) hx hb hK hP1 4 0 rfl rfl j rfl (by first | omega | assumption) (by decide) dX1_breadthOf_88 ?_
        exact rd_i hx hb hr hlocks hS1 dX1_breadthOf_89 (by clear hx hb hml hown hr hlocks hw hsz hA hG hK hP1 hS1 hl0; grind [breadth, b2i])
      · refine lv_iconst (v := 2) hx hb dX1_breadthOf_72 (by decide) ?_
        refine lv_aload_n hx hb dX1_breadthOf_73 rfl (lv_at hl0 0 rfl) ?_
        refine va_get (D := D) (ci := 1) (v := .ref (a 4)) (C := RX1) (T := TX1) (N := 12) hx hb hw iX1 hown hK hP1 0 rfl rfl 5 (by decide) (hw _ kw_1_47) (fun _ h9 => h9) rfl dX1_breadthOf_74 ?_
        refine lv_iload_n hx hb dX1_breadthOf_77 rfl (lv_at hl0 1 rfl) ?_
        refine ald_i (f := fun g => S (12 + 8 * g)) hx hb hK hP1 4 0 rfl rfl j rfl (by first | omega | assumption) (by decide) dX1_breadthOf_78 ?_
        refine lv_imul hx hb dX1_breadthOf_79 ?_
        refine lv_goto (tgt := 89) hx hb dX1_breadthOf_80 (by decide) ?_
        exact rd_i hx hb hr hlocks hS1 dX1_breadthOf_89 (by clear hx hb hml hown hr hlocks hw hsz hA hG hK hP1 hS1 hl0; grind [breadth, b2i])
    refine lv_tableOut (tgt := 90) hx hb dX1_breadthOf_17 (sw_out 1 4 (fun v h1 h2 e => ?_)) (by decide) ?_
    · have e := Int32.toInt_inj.mp (e.trans (show v = ((Int32.ofInt v).toInt) from by rcases (show v = 1 ∨ v = 2 ∨ v = 3 ∨ v = 4 by omega) with rfl | rfl | rfl | rfl <;> rfl))
      rcases (show v = 1 ∨ v = 2 ∨ v = 3 ∨ v = 4 by omega) with rfl | rfl | rfl | rfl
      · exact c_17_1 e
      · exact c_17_2 e
      · exact c_17_3 e
      · exact c_17_4 e
    · refine lv_aload_n hx hb dX1_breadthOf_90 rfl (lv_at hl0 0 rfl) ?_
      refine va_get (D := D) (ci := 1) (v := .ref (a 4)) (C := RX1) (T := TX1) (N := 12) hx hb hw iX1 hown hK hP0 0 rfl rfl 5 (by decide) (hw _ kw_1_47) (fun _ h9 => h9) rfl dX1_breadthOf_91 ?_
      refine lv_iload_n hx hb dX1_breadthOf_94 rfl (lv_at hl0 1 rfl) ?_
      refine ald_i (f := fun g => S (12 + 8 * g)) hx hb hK hP0 4 0 rfl rfl j rfl (by first | omega | assumption) (by decide) dX1_breadthOf_95 ?_
      exact rd_i hx hb hr hlocks hS0 dX1_breadthOf_96 (by clear hx hb hml hown hr hlocks hw hsz hA hG hK hP0 hS0 hl0; grind [breadth, b2i])
  · refine lv_iconst (v := 0) hx hb dX1_breadthOf_9 (by decide) ?_
    exact rd_i hx hb hr hlocks hS0 dX1_breadthOf_10 (by clear hx hb hml hown hr hlocks hw hsz hA hG hK hP0 hS0 hl0; grind [breadth, b2i])

theorem kc_X1_pushOf : kV yX1_pushOf cX1_pushOf 3 (some .int) 1 := ⟨kw_2_108, kw_2_109, kw_1_2, kw_2_110, by decide, by decide, by decide +kernel⟩
set_option maxHeartbeats 4000000 in
set_option maxRecDepth 100000 in
theorem c_X1_pushOf (l : Launch) (D : va_G) (cy : Nat → ClassId) (G : Nat → Nat) (sz : Nat) (a : Nat → Nat) (S : Nat → Int32) (j : Nat) (hj : j < 20) : Met l yX1_pushOf (wm yX1_pushOf cX1_pushOf 3 (some .int)) { frames := 1, cells := 0, slots := 0, locals := 22 } (va_Pc [.ref (a 0), .int (nI j)] (pd D (TY cy) G (pS cy a S) sz)) (va_Qi (fun r (_ : Unit) => r = push S j) (fun _ _ => True) (va_A [] sz)) 0 0 (va_A [] sz) := by
  refine mk_rd (by decide) RX1 rfl (Nat.le_of_ble_eq_true rfl) [(0, .ref (a 0)), (1, .int (nI j))] rfl ?_
  intro p e s m below meth c hx hb hml hown hr hlocks hw hsz hA hG hK H0 locs0 hP0 hS0 ls0 hl0
  refine lv_aload_n hx hb dX1_pushOf_0 rfl (lv_at hl0 0 rfl) ?_
  refine va_get (D := D) (ci := 1) (v := .ref (a 3)) (C := RX1) (T := TX1) (N := 12) hx hb hw iX1 hown hK hP0 0 rfl rfl 4 (by decide) (hw _ kw_1_44) (fun _ h9 => h9) rfl dX1_pushOf_1 ?_
  refine lv_iload_n hx hb dX1_pushOf_4 rfl (lv_at hl0 1 rfl) ?_
  refine ald_i (f := fun g => S (11 + 8 * g)) hx hb hK hP0 3 0 rfl rfl j rfl (by first | omega | assumption) (by decide) dX1_pushOf_5 ?_
  refine lv_iconst (v := (-1)) hx hb dX1_pushOf_6 (by decide) ?_
  refine lv_icmp_eq (tgt := 12) hx hb dX1_pushOf_7 (by decide) (fun c_7 => ?_) (fun c_7 => ?_)
  · refine lv_aload_n hx hb dX1_pushOf_12 rfl (lv_at hl0 0 rfl) ?_
    refine va_get (D := D) (ci := 1) (v := .ref (a 9)) (C := RX1) (T := TX1) (N := 12) hx hb hw iX1 hown hK hP0 0 rfl rfl 10 (by decide) (hw _ kw_1_60) (fun _ h9 => h9) rfl dX1_pushOf_13 ?_
    refine lv_iconst (v := 0) hx hb dX1_pushOf_16 (by decide) ?_
    refine ald_i (f := fun k => if k < 6 then S (2 + k) else 0) hx hb hK hP0 9 0 rfl rfl 0 rfl (by first | omega | assumption) (by decide) dX1_pushOf_17 ?_
    refine tp (show (if 0 < 6 then S (2 + 0) else 0) = S 2 from rfl) ?_
    refine lv_iconst (v := 5) hx hb dX1_pushOf_18 (by decide) ?_
    refine lv_aload_n hx hb dX1_pushOf_19 rfl (lv_at hl0 0 rfl) ?_
    refine va_get (D := D) (ci := 1) (v := .ref (a 5)) (C := RX1) (T := TX1) (N := 12) hx hb hw iX1 hown hK hP0 0 rfl rfl 6 (by decide) (hw _ kw_1_50) (fun _ h9 => h9) rfl dX1_pushOf_20 ?_
    refine lv_iload_n hx hb dX1_pushOf_23 rfl (lv_at hl0 1 rfl) ?_
    refine ald_i (f := fun g => S (13 + 8 * g)) hx hb hK hP0 5 0 rfl rfl j rfl (by first | omega | assumption) (by decide) dX1_pushOf_24 ?_
    refine lv_isub hx hb dX1_pushOf_25 ?_
    refine lv_imul hx hb dX1_pushOf_26 ?_
    refine lv_aload_n hx hb dX1_pushOf_27 rfl (lv_at hl0 0 rfl) ?_
    refine lv_aload_n hx hb dX1_pushOf_28 rfl (lv_at hl0 0 rfl) ?_
    refine va_get (D := D) (ci := 1) (v := .ref (a 6)) (C := RX1) (T := TX1) (N := 12) hx hb hw iX1 hown hK hP0 0 rfl rfl 7 (by decide) (hw _ kw_1_52) (fun _ h9 => h9) rfl dX1_pushOf_29 ?_
    refine lv_iload_n hx hb dX1_pushOf_32 rfl (lv_at hl0 1 rfl) ?_
    refine ald_i (f := fun g => S (14 + 8 * g)) hx hb hK hP0 6 0 rfl rfl j rfl (by first | omega | assumption) (by decide) dX1_pushOf_33 ?_
    refine rV_i (wc := pS cy a S) (rest := [.int ((S 2) * (5 - (S (13 + 8 * j))))]) hx hb hml hown hw hG hK hP0 hS0 hA hl0 kc_X1_windOn kw_2_111 [.int (S (14 + 8 * j))] (c_X1_windOn l D cy G H0.size a S (S (14 + 8 * j))) [0, 1, 2, 3, 4, 5, 6, 7, 8, 9] rfl 0 rfl rfl rfl rfl rfl (Nat.le_of_ble_eq_true rfl) ⟨Nat.le_of_ble_eq_true rfl, Nat.le_of_ble_eq_true rfl⟩ dX1_pushOf_34 ⟨Nat.le_of_ble_eq_true rfl, Nat.le_of_ble_eq_true rfl⟩ (fun r_34 H1 locs1 hr_34 hP1 hS1 => ?_)
    clear hP0 hS0 locs0 H0
    subst hr_34
    refine lv_iadd hx hb dX1_pushOf_37 ?_
    refine lv_istore_n (lv' := [(2, .int (((S 2) * (5 - (S (13 + 8 * j)))) + (windOn S (S (14 + 8 * j))))), (0, .ref (a 0)), (1, .int (nI j))]) hx hb dX1_pushOf_38 rfl hl0 (by decide) rfl (fun ls1 hl1 => ?_)
    clear hl0 ls0
    refine lv_aload_n hx hb dX1_pushOf_39 rfl (lv_at hl1 1 rfl) ?_
    refine va_get (D := D) (ci := 1) (v := .ref (a 1)) (C := RX1) (T := TX1) (N := 12) hx hb hw iX1 hown hK hP1 0 rfl rfl 2 (by decide) (hw _ kw_1_39) (fun _ h9 => h9) rfl dX1_pushOf_40 ?_
    refine lv_iload_n hx hb dX1_pushOf_43 rfl (lv_at hl1 2 rfl) ?_
    refine ald_i (f := fun g => S (9 + 8 * g)) hx hb hK hP1 1 0 rfl rfl j rfl (by first | omega | assumption) (by decide) dX1_pushOf_44 ?_
    refine lv_iconst (v := 5) hx hb dX1_pushOf_45 (by decide) ?_
    refine lv_icmp_ne (tgt := 62) hx hb dX1_pushOf_46 (by decide) (fun c_46 => ?_) (fun c_46 => ?_)
    · refine lv_iload_n hx hb dX1_pushOf_62 rfl (lv_at hl1 0 rfl) ?_
      exact rd_i hx hb hr hlocks hS1 dX1_pushOf_63 (by clear hx hb hml hown hr hlocks hw hsz hA hG hK hP1 hS1 hl1; grind [push])
    · refine lv_iload_n hx hb dX1_pushOf_49 rfl (lv_at hl1 0 rfl) ?_
      refine lv_iconst (v := 3) hx hb dX1_pushOf_50 (by decide) ?_
      refine lv_aload_n hx hb dX1_pushOf_51 rfl (lv_at hl1 1 rfl) ?_
      refine va_get (D := D) (ci := 1) (v := .ref (a 9)) (C := RX1) (T := TX1) (N := 12) hx hb hw iX1 hown hK hP1 0 rfl rfl 10 (by decide) (hw _ kw_1_60) (fun _ h9 => h9) rfl dX1_pushOf_52 ?_
      refine lv_iconst (v := 0) hx hb dX1_pushOf_55 (by decide) ?_
      refine ald_i (f := fun k => if k < 6 then S (2 + k) else 0) hx hb hK hP1 9 0 rfl rfl 0 rfl (by first | omega | assumption) (by decide) dX1_pushOf_56 ?_
      refine tp (show (if 0 < 6 then S (2 + 0) else 0) = S 2 from rfl) ?_
      refine lv_imul hx hb dX1_pushOf_57 ?_
      refine lv_isub hx hb dX1_pushOf_58 ?_
      refine lv_goto (tgt := 63) hx hb dX1_pushOf_59 (by decide) ?_
      exact rd_i hx hb hr hlocks hS1 dX1_pushOf_63 (by clear hx hb hml hown hr hlocks hw hsz hA hG hK hP1 hS1 hl1; grind [push])
  · refine lv_iconst (v := 0) hx hb dX1_pushOf_10 (by decide) ?_
    exact rd_i hx hb hr hlocks hS0 dX1_pushOf_11 (by clear hx hb hml hown hr hlocks hw hsz hA hG hK hP0 hS0 hl0; grind [push])

theorem kc_X1_isOpenFire : kV yX1_isOpenFire cX1_isOpenFire 2 (some .boolean) 1 := ⟨kw_3_80, kw_3_81, kw_1_2, kw_3_82, by decide, by decide, by decide +kernel⟩
set_option maxHeartbeats 4000000 in
set_option maxRecDepth 100000 in
theorem c_X1_isOpenFire (l : Launch) (D : va_G) (cy : Nat → ClassId) (G : Nat → Nat) (sz : Nat) (a : Nat → Nat) (S : Nat → Int32) (j : Nat) (hj : j < 20) : Met l yX1_isOpenFire (wm yX1_isOpenFire cX1_isOpenFire 2 (some .boolean)) { frames := 2, cells := 0, slots := 0, locals := 43 } (va_Pc [.ref (a 0), .int (nI j)] (pd D (TY cy) G (pS cy a S) sz)) (va_Qi (fun r (_ : Unit) => r = b2i (S (11 + 8 * j) = -1 ∧ S (16 + 8 * j) = 0 ∧ needed (S (9 + 8 * j)))) (fun _ _ => True) (va_A [] sz)) 0 0 (va_A [] sz) := by
  refine mk_rd (by decide) RX1 rfl (Nat.le_of_ble_eq_true rfl) [(0, .ref (a 0)), (1, .int (nI j))] rfl ?_
  intro p e s m below meth c hx hb hml hown hr hlocks hw hsz hA hG hK H0 locs0 hP0 hS0 ls0 hl0
  refine lv_aload_n hx hb dX1_isOpenFire_0 rfl (lv_at hl0 0 rfl) ?_
  refine va_get (D := D) (ci := 1) (v := .ref (a 3)) (C := RX1) (T := TX1) (N := 12) hx hb hw iX1 hown hK hP0 0 rfl rfl 4 (by decide) (hw _ kw_1_44) (fun _ h9 => h9) rfl dX1_isOpenFire_1 ?_
  refine lv_iload_n hx hb dX1_isOpenFire_4 rfl (lv_at hl0 1 rfl) ?_
  refine ald_i (f := fun g => S (11 + 8 * g)) hx hb hK hP0 3 0 rfl rfl j rfl (by first | omega | assumption) (by decide) dX1_isOpenFire_5 ?_
  refine lv_iconst (v := (-1)) hx hb dX1_isOpenFire_6 (by decide) ?_
  refine lv_icmp_ne (tgt := 36) hx hb dX1_isOpenFire_7 (by decide) (fun c_7 => ?_) (fun c_7 => ?_)
  · refine lv_iconst (v := 0) hx hb dX1_isOpenFire_36 (by decide) ?_
    exact rd_z hx hb hr hlocks hS0 dX1_isOpenFire_37 rfl (by clear hx hb hml hown hr hlocks hw hsz hA hG hK hP0 hS0 hl0; grind [b2i, under2])
  · refine lv_aload_n hx hb dX1_isOpenFire_10 rfl (lv_at hl0 0 rfl) ?_
    refine va_get (D := D) (ci := 1) (v := .ref (a 8)) (C := RX1) (T := TX1) (N := 12) hx hb hw iX1 hown hK hP0 0 rfl rfl 9 (by decide) (hw _ kw_1_57) (fun _ h9 => h9) rfl dX1_isOpenFire_11 ?_
    refine lv_iload_n hx hb dX1_isOpenFire_14 rfl (lv_at hl0 1 rfl) ?_
    refine ald_z (f := fun g => S (16 + 8 * g)) hx hb hK hP0 8 2 rfl rfl j rfl (by first | omega | assumption) (by decide) dX1_isOpenFire_15 ?_
    refine lv_if_ne (tgt := 36) hx hb dX1_isOpenFire_16 (by decide) (fun c_16 => ?_) (fun c_16 => ?_)
    · refine lv_iconst (v := 0) hx hb dX1_isOpenFire_36 (by decide) ?_
      exact rd_z hx hb hr hlocks hS0 dX1_isOpenFire_37 rfl (by clear hx hb hml hown hr hlocks hw hsz hA hG hK hP0 hS0 hl0; grind [b2i, under2])
    · refine lv_aload_n hx hb dX1_isOpenFire_19 rfl (lv_at hl0 0 rfl) ?_
      refine va_get (D := D) (ci := 1) (v := .ref (a 1)) (C := RX1) (T := TX1) (N := 12) hx hb hw iX1 hown hK hP0 0 rfl rfl 2 (by decide) (hw _ kw_1_39) (fun _ h9 => h9) rfl dX1_isOpenFire_20 ?_
      refine lv_iload_n hx hb dX1_isOpenFire_23 rfl (lv_at hl0 1 rfl) ?_
      refine ald_i (f := fun g => S (9 + 8 * g)) hx hb hK hP0 1 0 rfl rfl j rfl (by first | omega | assumption) (by decide) dX1_isOpenFire_24 ?_
      refine lv_iconst (v := 2) hx hb dX1_isOpenFire_25 (by decide) ?_
      refine rN_i (wc := []) (rest := []) hx hb hml hown hw hG hK hP0 hS0 hA hl0 kc_X6_isUnder hG.1.2.2.2.2.2.2.2.2.1 [.int (S (9 + 8 * j)), .int 2] (c_X6_isUnder l D cy G H0.size (S (9 + 8 * j)) 2) [] rfl rfl rfl (Nat.le_of_ble_eq_true rfl) ⟨Nat.le_of_ble_eq_true rfl, Nat.le_of_ble_eq_true rfl⟩ dX1_isOpenFire_26 ⟨Nat.le_of_ble_eq_true rfl, Nat.le_of_ble_eq_true rfl⟩ (fun r_26 H1 locs1 hr_26 hP1 hS1 => ?_)
      clear hP0 hS0 locs0 H0
      subst hr_26
      refine lb_eq (tgt := 36) hx hb dX1_isOpenFire_29 (by decide) (fun c_29 => ?_) (fun c_29 => ?_)
      · refine lv_iconst (v := 0) hx hb dX1_isOpenFire_36 (by decide) ?_
        exact rd_z hx hb hr hlocks hS1 dX1_isOpenFire_37 rfl (by clear hx hb hml hown hr hlocks hw hsz hA hG hK hP1 hS1 hl0; grind [b2i, under2])
      · refine lv_iconst (v := 1) hx hb dX1_isOpenFire_32 (by decide) ?_
        refine lv_goto (tgt := 37) hx hb dX1_isOpenFire_33 (by decide) ?_
        exact rd_z hx hb hr hlocks hS1 dX1_isOpenFire_37 rfl (by clear hx hb hml hown hr hlocks hw hsz hA hG hK hP1 hS1 hl0; grind [b2i, under2])

theorem kc_X1_isOpenLeak : kV yX1_isOpenLeak cX1_isOpenLeak 2 (some .boolean) 1 := ⟨kw_3_200, kw_3_201, kw_1_2, kw_3_202, by decide, by decide, by decide +kernel⟩
set_option maxHeartbeats 4000000 in
set_option maxRecDepth 100000 in
theorem c_X1_isOpenLeak (l : Launch) (D : va_G) (cy : Nat → ClassId) (G : Nat → Nat) (sz : Nat) (a : Nat → Nat) (S : Nat → Int32) (j : Nat) (hj : j < 20) : Met l yX1_isOpenLeak (wm yX1_isOpenLeak cX1_isOpenLeak 2 (some .boolean)) { frames := 2, cells := 0, slots := 0, locals := 43 } (va_Pc [.ref (a 0), .int (nI j)] (pd D (TY cy) G (pS cy a S) sz)) (va_Qi (fun r (_ : Unit) => r = b2i (S (11 + 8 * j) = -1 ∧ S (16 + 8 * j) = 0 ∧ ¬ needed (S (9 + 8 * j)))) (fun _ _ => True) (va_A [] sz)) 0 0 (va_A [] sz) := by
  refine mk_rd (by decide) RX1 rfl (Nat.le_of_ble_eq_true rfl) [(0, .ref (a 0)), (1, .int (nI j))] rfl ?_
  intro p e s m below meth c hx hb hml hown hr hlocks hw hsz hA hG hK H0 locs0 hP0 hS0 ls0 hl0
  refine lv_aload_n hx hb dX1_isOpenLeak_0 rfl (lv_at hl0 0 rfl) ?_
  refine va_get (D := D) (ci := 1) (v := .ref (a 3)) (C := RX1) (T := TX1) (N := 12) hx hb hw iX1 hown hK hP0 0 rfl rfl 4 (by decide) (hw _ kw_1_44) (fun _ h9 => h9) rfl dX1_isOpenLeak_1 ?_
  refine lv_iload_n hx hb dX1_isOpenLeak_4 rfl (lv_at hl0 1 rfl) ?_
  refine ald_i (f := fun g => S (11 + 8 * g)) hx hb hK hP0 3 0 rfl rfl j rfl (by first | omega | assumption) (by decide) dX1_isOpenLeak_5 ?_
  refine lv_iconst (v := (-1)) hx hb dX1_isOpenLeak_6 (by decide) ?_
  refine lv_icmp_ne (tgt := 36) hx hb dX1_isOpenLeak_7 (by decide) (fun c_7 => ?_) (fun c_7 => ?_)
  · refine lv_iconst (v := 0) hx hb dX1_isOpenLeak_36 (by decide) ?_
    exact rd_z hx hb hr hlocks hS0 dX1_isOpenLeak_37 rfl (by clear hx hb hml hown hr hlocks hw hsz hA hG hK hP0 hS0 hl0; grind [b2i, under2])
  · refine lv_aload_n hx hb dX1_isOpenLeak_10 rfl (lv_at hl0 0 rfl) ?_
    refine va_get (D := D) (ci := 1) (v := .ref (a 8)) (C := RX1) (T := TX1) (N := 12) hx hb hw iX1 hown hK hP0 0 rfl rfl 9 (by decide) (hw _ kw_1_57) (fun _ h9 => h9) rfl dX1_isOpenLeak_11 ?_
    refine lv_iload_n hx hb dX1_isOpenLeak_14 rfl (lv_at hl0 1 rfl) ?_
    refine ald_z (f := fun g => S (16 + 8 * g)) hx hb hK hP0 8 2 rfl rfl j rfl (by first | omega | assumption) (by decide) dX1_isOpenLeak_15 ?_
    refine lv_if_ne (tgt := 36) hx hb dX1_isOpenLeak_16 (by decide) (fun c_16 => ?_) (fun c_16 => ?_)
    · refine lv_iconst (v := 0) hx hb dX1_isOpenLeak_36 (by decide) ?_
      exact rd_z hx hb hr hlocks hS0 dX1_isOpenLeak_37 rfl (by clear hx hb hml hown hr hlocks hw hsz hA hG hK hP0 hS0 hl0; grind [b2i, under2])
    · refine lv_aload_n hx hb dX1_isOpenLeak_19 rfl (lv_at hl0 0 rfl) ?_
      refine va_get (D := D) (ci := 1) (v := .ref (a 1)) (C := RX1) (T := TX1) (N := 12) hx hb hw iX1 hown hK hP0 0 rfl rfl 2 (by decide) (hw _ kw_1_39) (fun _ h9 => h9) rfl dX1_isOpenLeak_20 ?_
      refine lv_iload_n hx hb dX1_isOpenLeak_23 rfl (lv_at hl0 1 rfl) ?_
      refine ald_i (f := fun g => S (9 + 8 * g)) hx hb hK hP0 1 0 rfl rfl j rfl (by first | omega | assumption) (by decide) dX1_isOpenLeak_24 ?_
      refine lv_iconst (v := 2) hx hb dX1_isOpenLeak_25 (by decide) ?_
      refine rN_i (wc := []) (rest := []) hx hb hml hown hw hG hK hP0 hS0 hA hl0 kc_X6_isUnder hG.1.2.2.2.2.2.2.2.2.1 [.int (S (9 + 8 * j)), .int 2] (c_X6_isUnder l D cy G H0.size (S (9 + 8 * j)) 2) [] rfl rfl rfl (Nat.le_of_ble_eq_true rfl) ⟨Nat.le_of_ble_eq_true rfl, Nat.le_of_ble_eq_true rfl⟩ dX1_isOpenLeak_26 ⟨Nat.le_of_ble_eq_true rfl, Nat.le_of_ble_eq_true rfl⟩ (fun r_26 H1 locs1 hr_26 hP1 hS1 => ?_)
      clear hP0 hS0 locs0 H0
      subst hr_26
      refine lb_ne (tgt := 36) hx hb dX1_isOpenLeak_29 (by decide) (fun c_29 => ?_) (fun c_29 => ?_)
      · refine lv_iconst (v := 0) hx hb dX1_isOpenLeak_36 (by decide) ?_
        exact rd_z hx hb hr hlocks hS1 dX1_isOpenLeak_37 rfl (by clear hx hb hml hown hr hlocks hw hsz hA hG hK hP1 hS1 hl0; grind [b2i, under2])
      · refine lv_iconst (v := 1) hx hb dX1_isOpenLeak_32 (by decide) ?_
        refine lv_goto (tgt := 37) hx hb dX1_isOpenLeak_33 (by decide) ?_
        exact rd_z hx hb hr hlocks hS1 dX1_isOpenLeak_37 rfl (by clear hx hb hml hown hr hlocks hw hsz hA hG hK hP1 hS1 hl0; grind [b2i, under2])

theorem kc_X1_addRoom : kV yX1_addRoom cX1_addRoom 1 none 0 := ⟨kw_2_65, kw_2_66, kw_1_2, kw_2_67, by decide, by decide, by decide +kernel⟩
set_option maxHeartbeats 4000000 in
set_option maxRecDepth 100000 in
theorem c_X1_addRoom (l : Launch) (D : va_G) (cy : Nat → ClassId) (G : Nat → Nat) (sz : Nat) (a : Nat → Nat) (S : Nat → Int32) (n : Nat) (e0 : S 0 = nI n) (hn : n < 6) : Met l yX1_addRoom (wm yX1_addRoom cX1_addRoom 1 none) { frames := 0, cells := 0, slots := 0, locals := 0 } (va_Pc [.ref (a 0)] (pr D (TY cy) G (pS cy a S) sz)) (va_Qv (fun (u : Unit) => True) (fun (u : Unit) t => po D (va_A (pS cy a S) sz) (pS cy a (upd S 0 (nI (n + 1)))) t) (va_A (pS cy a S) sz)) 0 0 (va_A (pS cy a S) sz) := by
  refine mk_rw (by decide) RX1 rfl (Nat.le_of_ble_eq_true rfl) [(0, .ref (a 0))] rfl ?_
  intro p e s m below meth c hx hb hml hown hr hlocks hin hw hsz hA hG hK H0 locs0 hP0 hD0 hS0 ls0 hl0
  clear hin
  refine lv_aload_n hx hb dX1_addRoom_0 rfl (lv_at hl0 0 rfl) ?_
  refine va_get (D := D) (ci := 1) (v := .int (S 0)) (C := RX1) (T := TX1) (N := 12) hx hb hw iX1 hown hK hP0 0 rfl rfl 0 (by decide) (hw _ kw_1_30) (fun _ h9 => h9) rfl dX1_addRoom_1 ?_
  refine tp (show (S 0) = nI n from e0) ?_
  refine lv_bipush (v := 6) hx hb dX1_addRoom_4 (by decide) ?_
  refine ln_ge (tgt := 19) n 6 rfl rfl (by omega) (by omega) hx hb dX1_addRoom_6 (by decide) (fun c_6 => absurd c_6 (by omega)) (fun c_6 => ?_)
  refine lv_aload_n hx hb dX1_addRoom_9 rfl (lv_at hl0 0 rfl) ?_
  refine lv_dup hx hb dX1_addRoom_10 rfl ?_
  refine va_get (D := D) (ci := 1) (v := .int (S 0)) (C := RX1) (T := TX1) (N := 12) hx hb hw iX1 hown hK hP0 0 rfl rfl 0 (by decide) (hw _ kw_1_30) (fun _ h9 => h9) rfl dX1_addRoom_11 ?_
  refine tp (show (S 0) = nI n from e0) ?_
  refine lv_iconst (v := 1) hx hb dX1_addRoom_14 (by decide) ?_
  refine lv_iadd hx hb dX1_addRoom_15 ?_
  refine tp (show ((nI n) + 1) = nI (n + 1) from nI_add _ _) ?_
  refine pt (D := D) (ci := 1) (v := .int (nI (n + 1))) (ty := .int) (C := RX1) (T := TX1) (N := 12) (ws' := pS cy a (upd S 0 (nI (n + 1)))) hx hb hw iX1 tyX1 tyX1_ok nmX1 hown hK hP0 hD0 hS0 0 rfl rfl 0 (by decide) kw_1_30 (fun _ h9 => h9) rfl (by decide +kernel) rfl rfl (Nat.le_of_ble_eq_true rfl) (pS_f0 cy a S (nI (n + 1))) dX1_addRoom_16 (fun H1 locs1 hP1 hD1 hS1 => ?_)
  clear hP0 hD0 hS0 locs0 H0
  refine re_v () hx hb hr hlocks hP1 hD1 hS1 dX1_addRoom_19 ?_
  exact (trivial)

theorem kc_X1_addGap : kV yX1_addGap cX1_addGap 5 (some .int) 3 := ⟨kw_2_83, kw_2_84, kw_1_2, kw_2_85, by decide, by decide, by decide +kernel⟩
set_option maxHeartbeats 4000000 in
set_option maxRecDepth 100000 in
theorem c_X1_addGap (l : Launch) (D : va_G) (cy : Nat → ClassId) (G : Nat → Nat) (sz : Nat) (a : Nat → Nat) (S : Nat → Int32) (n : Nat) (k : Int32) (x : Int32) (y : Int32) (e1 : S 1 = nI n) (hn : n < 20) : Met l yX1_addGap (wm yX1_addGap cX1_addGap 5 (some .int)) { frames := 0, cells := 0, slots := 0, locals := 0 } (va_Pc [.ref (a 0), .int k, .int x, .int y] (pr D (TY cy) G (pS cy a S) sz)) (va_Qi (fun (r : Int32) (u : Unit) => r = nI n) (fun (u : Unit) t => po D (va_A (pS cy a S) sz) (pS cy a (addG S n k x y)) t) (va_A (pS cy a S) sz)) 0 0 (va_A (pS cy a S) sz) := by
  refine mk_rw (by decide) RX1 rfl (Nat.le_of_ble_eq_true rfl) [(0, .ref (a 0)), (1, .int k), (2, .int x), (3, .int y)] rfl ?_
  intro p e s m below meth c hx hb hml hown hr hlocks hin hw hsz hA hG hK H0 locs0 hP0 hD0 hS0 ls0 hl0
  clear hin
  refine lv_aload_n hx hb dX1_addGap_0 rfl (lv_at hl0 0 rfl) ?_
  refine va_get (D := D) (ci := 1) (v := .int (S 1)) (C := RX1) (T := TX1) (N := 12) hx hb hw iX1 hown hK hP0 0 rfl rfl 1 (by decide) (hw _ kw_1_34) (fun _ h9 => h9) rfl dX1_addGap_1 ?_
  refine tp (show (S 1) = nI n from e1) ?_
  refine lv_istore (lv' := [(4, .int (nI n)), (0, .ref (a 0)), (1, .int k), (2, .int x), (3, .int y)]) hx hb dX1_addGap_4 hl0 (by decide) rfl (fun ls1 hl1 => ?_)
  clear hl0 ls0
  refine lv_iload hx hb dX1_addGap_6 (lv_at hl1 0 rfl) ?_
  refine lv_bipush (v := 20) hx hb dX1_addGap_8 (by decide) ?_
  refine ln_lt (tgt := 15) n 20 rfl rfl (by omega) (by omega) hx hb dX1_addGap_10 (by decide) (fun c_10 => ?_) (fun c_10 => absurd c_10 (by omega))
  refine lv_aload_n hx hb dX1_addGap_15 rfl (lv_at hl1 1 rfl) ?_
  refine lv_dup hx hb dX1_addGap_16 rfl ?_
  refine va_get (D := D) (ci := 1) (v := .int (S 1)) (C := RX1) (T := TX1) (N := 12) hx hb hw iX1 hown hK hP0 0 rfl rfl 1 (by decide) (hw _ kw_1_34) (fun _ h9 => h9) rfl dX1_addGap_17 ?_
  refine tp (show (S 1) = nI n from e1) ?_
  refine lv_iconst (v := 1) hx hb dX1_addGap_20 (by decide) ?_
  refine lv_iadd hx hb dX1_addGap_21 ?_
  refine tp (show ((nI n) + 1) = nI (n + 1) from nI_add _ _) ?_
  refine pt (D := D) (ci := 1) (v := .int (nI (n + 1))) (ty := .int) (C := RX1) (T := TX1) (N := 12) (ws' := pS cy a (upd S 1 (nI (n + 1)))) hx hb hw iX1 tyX1 tyX1_ok nmX1 hown hK hP0 hD0 hS0 0 rfl rfl 1 (by decide) kw_1_34 (fun _ h9 => h9) rfl (by decide +kernel) rfl rfl (Nat.le_of_ble_eq_true rfl) (pS_f1 cy a S (nI (n + 1))) dX1_addGap_22 (fun H1 locs1 hP1 hD1 hS1 => ?_)
  clear hP0 hD0 hS0 locs0 H0
  refine lv_aload_n hx hb dX1_addGap_25 rfl (lv_at hl1 1 rfl) ?_
  refine va_get (D := D) (ci := 1) (v := .ref (a 1)) (C := RX1) (T := TX1) (N := 12) hx hb hw iX1 hown hK hP1 0 rfl rfl 2 (by decide) (hw _ kw_1_39) (fun _ h9 => h9) rfl dX1_addGap_26 ?_
  refine lv_iload hx hb dX1_addGap_29 (lv_at hl1 0 rfl) ?_
  refine lv_iload_n hx hb dX1_addGap_31 rfl (lv_at hl1 2 rfl) ?_
  refine ast_i (f := fun g => (upd S 1 (nI (n + 1))) (9 + 8 * g)) (ws' := pS cy a (upd (upd S 1 (nI (n + 1))) (9 + 8 * n) k)) hx hb hK hP1 hD1 hS1 1 0 rfl rfl n rfl (by first | omega | assumption) (by decide) (pS_a0 cy a (upd S 1 (nI (n + 1))) n k) dX1_addGap_32 (fun H2 locs2 hP2 hD2 hS2 => ?_)
  clear hP1 hD1 hS1 locs1 H1
  refine lv_aload_n hx hb dX1_addGap_33 rfl (lv_at hl1 1 rfl) ?_
  refine va_get (D := D) (ci := 1) (v := .ref (a 2)) (C := RX1) (T := TX1) (N := 12) hx hb hw iX1 hown hK hP2 0 rfl rfl 3 (by decide) (hw _ kw_1_41) (fun _ h9 => h9) rfl dX1_addGap_34 ?_
  refine lv_iload hx hb dX1_addGap_37 (lv_at hl1 0 rfl) ?_
  refine lv_iload_n hx hb dX1_addGap_39 rfl (lv_at hl1 3 rfl) ?_
  refine ast_i (f := fun g => (upd (upd S 1 (nI (n + 1))) (9 + 8 * n) k) (10 + 8 * g)) (ws' := pS cy a (upd (upd (upd S 1 (nI (n + 1))) (9 + 8 * n) k) (10 + 8 * n) x)) hx hb hK hP2 hD2 hS2 2 0 rfl rfl n rfl (by first | omega | assumption) (by decide) (pS_a1 cy a (upd (upd S 1 (nI (n + 1))) (9 + 8 * n) k) n x) dX1_addGap_40 (fun H3 locs3 hP3 hD3 hS3 => ?_)
  clear hP2 hD2 hS2 locs2 H2
  refine lv_aload_n hx hb dX1_addGap_41 rfl (lv_at hl1 1 rfl) ?_
  refine va_get (D := D) (ci := 1) (v := .ref (a 3)) (C := RX1) (T := TX1) (N := 12) hx hb hw iX1 hown hK hP3 0 rfl rfl 4 (by decide) (hw _ kw_1_44) (fun _ h9 => h9) rfl dX1_addGap_42 ?_
  refine lv_iload hx hb dX1_addGap_45 (lv_at hl1 0 rfl) ?_
  refine lv_iload_n hx hb dX1_addGap_47 rfl (lv_at hl1 4 rfl) ?_
  refine ast_i (f := fun g => (upd (upd (upd S 1 (nI (n + 1))) (9 + 8 * n) k) (10 + 8 * n) x) (11 + 8 * g)) (ws' := pS cy a (upd (upd (upd (upd S 1 (nI (n + 1))) (9 + 8 * n) k) (10 + 8 * n) x) (11 + 8 * n) y)) hx hb hK hP3 hD3 hS3 3 0 rfl rfl n rfl (by first | omega | assumption) (by decide) (pS_a2 cy a (upd (upd (upd S 1 (nI (n + 1))) (9 + 8 * n) k) (10 + 8 * n) x) n y) dX1_addGap_48 (fun H4 locs4 hP4 hD4 hS4 => ?_)
  clear hP3 hD3 hS3 locs3 H3
  refine lv_aload_n hx hb dX1_addGap_49 rfl (lv_at hl1 1 rfl) ?_
  refine va_get (D := D) (ci := 1) (v := .ref (a 8)) (C := RX1) (T := TX1) (N := 12) hx hb hw iX1 hown hK hP4 0 rfl rfl 9 (by decide) (hw _ kw_1_57) (fun _ h9 => h9) rfl dX1_addGap_50 ?_
  refine lv_iload hx hb dX1_addGap_53 (lv_at hl1 0 rfl) ?_
  refine lv_iconst (v := 0) hx hb dX1_addGap_55 (by decide) ?_
  refine ast_z (f := fun g => (upd (upd (upd (upd S 1 (nI (n + 1))) (9 + 8 * n) k) (10 + 8 * n) x) (11 + 8 * n) y) (16 + 8 * g)) (ws' := pS cy a (upd (upd (upd (upd (upd S 1 (nI (n + 1))) (9 + 8 * n) k) (10 + 8 * n) x) (11 + 8 * n) y) (16 + 8 * n) 0)) hx hb hK hP4 hD4 hS4 8 2 rfl rfl n rfl (by first | omega | assumption) (by decide) (Or.inl rfl) (pS_a7 cy a (upd (upd (upd (upd S 1 (nI (n + 1))) (9 + 8 * n) k) (10 + 8 * n) x) (11 + 8 * n) y) n 0) dX1_addGap_56 (fun H5 locs5 hP5 hD5 hS5 => ?_)
  clear hP4 hD4 hS4 locs4 H4
  refine lv_iload hx hb dX1_addGap_57 (lv_at hl1 0 rfl) ?_
  have hq9 : (pS cy a (upd (upd (upd (upd (upd S 1 (nI (n + 1))) (9 + 8 * n) k) (10 + 8 * n) x) (11 + 8 * n) y) (16 + 8 * n) 0)) = pS cy a (addG S n k x y) := by rfl
  replace hP5 := (congrArg (fun z9 => va_P D vwCl z9 _) hq9).mp hP5
  replace hD5 := (congrArg (fun z9 => va_D _ z9) hq9).mp hD5
  refine re_i () hx hb hr hlocks hP5 hD5 hS5 dX1_addGap_59 ?_
  exact (rfl)

theorem kc_X1_measure : kV yX1_measure cX1_measure 6 none 5 := ⟨kw_2_87, kw_2_88, kw_1_2, kw_2_89, by decide, by decide, by decide +kernel⟩
set_option maxHeartbeats 4000000 in
set_option maxRecDepth 100000 in
theorem c_X1_measure (l : Launch) (D : va_G) (cy : Nat → ClassId) (G : Nat → Nat) (sz : Nat) (a : Nat → Nat) (S : Nat → Int32) (n : Nat) (v : Int32) (x : Int32) (y : Int32) (z : Int32) (h0 : 0 ≤ nI n ∧ nI n < S 1) (hn : n < 20) : Met l yX1_measure (wm yX1_measure cX1_measure 6 none) { frames := 1, cells := 0, slots := 0, locals := 21 } (va_Pc [.ref (a 0), .int (nI n), .int v, .int x, .int y, .int z] (pr D (TY cy) G (pS cy a S) sz)) (va_Qv (fun (u : Unit) => True) (fun (u : Unit) t => po D (va_A (pS cy a S) sz) (pS cy a (measG S n v x y z)) t) (va_A (pS cy a S) sz)) 0 0 (va_A (pS cy a S) sz) := by
  refine mk_rw (by decide) RX1 rfl (Nat.le_of_ble_eq_true rfl) [(0, .ref (a 0)), (1, .int (nI n)), (2, .int v), (3, .int x), (4, .int y), (5, .int z)] rfl ?_
  intro p e s m below meth c hx hb hml hown hr hlocks hin hw hsz hA hG hK H0 locs0 hP0 hD0 hS0 ls0 hl0
  clear hin
  refine lv_aload_n hx hb dX1_measure_0 rfl (lv_at hl0 0 rfl) ?_
  refine lv_iload_n hx hb dX1_measure_1 rfl (lv_at hl0 1 rfl) ?_
  refine rV_i (wc := pS cy a S) (rest := []) hx hb hml hown hw hG hK hP0 hS0 hA hl0 kc_X1_hasGap kw_2_90 [.int (nI n)] (c_X1_hasGap l D cy G H0.size a S (nI n)) [0, 1, 2, 3, 4, 5, 6, 7, 8, 9] rfl 0 rfl rfl rfl rfl rfl (Nat.le_of_ble_eq_true rfl) ⟨Nat.le_of_ble_eq_true rfl, Nat.le_of_ble_eq_true rfl⟩ dX1_measure_2 ⟨Nat.le_of_ble_eq_true rfl, Nat.le_of_ble_eq_true rfl⟩ (fun r_2 H1 locs1 hr_2 hP1 hS1 => ?_)
  have hD1 := hD0
  clear hP0 hD0 hS0 locs0 H0
  subst hr_2
  refine lb_ne (tgt := 9) hx hb dX1_measure_5 (by decide) (fun c_5 => ?_) (fun c_5 => absurd h0 c_5)
  refine lv_aload_n hx hb dX1_measure_9 rfl (lv_at hl0 0 rfl) ?_
  refine va_get (D := D) (ci := 1) (v := .ref (a 4)) (C := RX1) (T := TX1) (N := 12) hx hb hw iX1 hown hK hP1 0 rfl rfl 5 (by decide) (hw _ kw_1_47) (fun _ h9 => h9) rfl dX1_measure_10 ?_
  refine lv_iload_n hx hb dX1_measure_13 rfl (lv_at hl0 1 rfl) ?_
  refine lv_iload_n hx hb dX1_measure_14 rfl (lv_at hl0 2 rfl) ?_
  refine ast_i (f := fun g => S (12 + 8 * g)) (ws' := pS cy a (upd S (12 + 8 * n) v)) hx hb hK hP1 hD1 hS1 4 0 rfl rfl n rfl (by first | omega | assumption) (by decide) (pS_a3 cy a S n v) dX1_measure_15 (fun H2 locs2 hP2 hD2 hS2 => ?_)
  clear hP1 hD1 hS1 locs1 H1
  refine lv_aload_n hx hb dX1_measure_16 rfl (lv_at hl0 0 rfl) ?_
  refine va_get (D := D) (ci := 1) (v := .ref (a 5)) (C := RX1) (T := TX1) (N := 12) hx hb hw iX1 hown hK hP2 0 rfl rfl 6 (by decide) (hw _ kw_1_50) (fun _ h9 => h9) rfl dX1_measure_17 ?_
  refine lv_iload_n hx hb dX1_measure_20 rfl (lv_at hl0 1 rfl) ?_
  refine lv_iload_n hx hb dX1_measure_21 rfl (lv_at hl0 3 rfl) ?_
  refine ast_i (f := fun g => (upd S (12 + 8 * n) v) (13 + 8 * g)) (ws' := pS cy a (upd (upd S (12 + 8 * n) v) (13 + 8 * n) x)) hx hb hK hP2 hD2 hS2 5 0 rfl rfl n rfl (by first | omega | assumption) (by decide) (pS_a4 cy a (upd S (12 + 8 * n) v) n x) dX1_measure_22 (fun H3 locs3 hP3 hD3 hS3 => ?_)
  clear hP2 hD2 hS2 locs2 H2
  refine lv_aload_n hx hb dX1_measure_23 rfl (lv_at hl0 0 rfl) ?_
  refine va_get (D := D) (ci := 1) (v := .ref (a 6)) (C := RX1) (T := TX1) (N := 12) hx hb hw iX1 hown hK hP3 0 rfl rfl 7 (by decide) (hw _ kw_1_52) (fun _ h9 => h9) rfl dX1_measure_24 ?_
  refine lv_iload_n hx hb dX1_measure_27 rfl (lv_at hl0 1 rfl) ?_
  refine lv_iload hx hb dX1_measure_28 (lv_at hl0 4 rfl) ?_
  refine ast_i (f := fun g => (upd (upd S (12 + 8 * n) v) (13 + 8 * n) x) (14 + 8 * g)) (ws' := pS cy a (upd (upd (upd S (12 + 8 * n) v) (13 + 8 * n) x) (14 + 8 * n) y)) hx hb hK hP3 hD3 hS3 6 0 rfl rfl n rfl (by first | omega | assumption) (by decide) (pS_a5 cy a (upd (upd S (12 + 8 * n) v) (13 + 8 * n) x) n y) dX1_measure_30 (fun H4 locs4 hP4 hD4 hS4 => ?_)
  clear hP3 hD3 hS3 locs3 H3
  refine lv_aload_n hx hb dX1_measure_31 rfl (lv_at hl0 0 rfl) ?_
  refine va_get (D := D) (ci := 1) (v := .ref (a 7)) (C := RX1) (T := TX1) (N := 12) hx hb hw iX1 hown hK hP4 0 rfl rfl 8 (by decide) (hw _ kw_1_54) (fun _ h9 => h9) rfl dX1_measure_32 ?_
  refine lv_iload_n hx hb dX1_measure_35 rfl (lv_at hl0 1 rfl) ?_
  refine lv_iload hx hb dX1_measure_36 (lv_at hl0 5 rfl) ?_
  refine ast_i (f := fun g => (upd (upd (upd S (12 + 8 * n) v) (13 + 8 * n) x) (14 + 8 * n) y) (15 + 8 * g)) (ws' := pS cy a (upd (upd (upd (upd S (12 + 8 * n) v) (13 + 8 * n) x) (14 + 8 * n) y) (15 + 8 * n) z)) hx hb hK hP4 hD4 hS4 7 0 rfl rfl n rfl (by first | omega | assumption) (by decide) (pS_a6 cy a (upd (upd (upd S (12 + 8 * n) v) (13 + 8 * n) x) (14 + 8 * n) y) n z) dX1_measure_38 (fun H5 locs5 hP5 hD5 hS5 => ?_)
  clear hP4 hD4 hS4 locs4 H4
  have hq9 : (pS cy a (upd (upd (upd (upd S (12 + 8 * n) v) (13 + 8 * n) x) (14 + 8 * n) y) (15 + 8 * n) z)) = pS cy a (measG S n v x y z) := by rfl
  replace hP5 := (congrArg (fun z9 => va_P D vwCl z9 _) hq9).mp hP5
  replace hD5 := (congrArg (fun z9 => va_D _ z9) hq9).mp hD5
  refine re_v () hx hb hr hlocks hP5 hD5 hS5 dX1_measure_39 ?_
  exact (trivial)

theorem kc_X1_takeFrom : kV yX1_takeFrom cX1_takeFrom 3 none 1 := ⟨kw_2_157, kw_2_158, kw_1_2, kw_2_159, by decide, by decide, by decide +kernel⟩
set_option maxHeartbeats 4000000 in
set_option maxRecDepth 100000 in
theorem c_X1_takeFrom (l : Launch) (D : va_G) (cy : Nat → ClassId) (G : Nat → Nat) (sz : Nat) (a : Nat → Nat) (S : Nat → Int32) (b : Nat → Nat) (T : Nat → Int32) (hC : can S) (hT : can T) : Met l yX1_takeFrom (wm yX1_takeFrom cX1_takeFrom 3 none) { frames := 1, cells := 0, slots := 0, locals := 26 } (va_Pc [.ref (a 0), .ref (b 0)] (pr D (TY cy) G (pS cy a S ++ (pS cy b T)) sz)) (va_Qv (fun (u : Unit) => True) (fun (u : Unit) t => po D (va_A (pS cy a S ++ (pS cy b T)) sz) (pS cy a T ++ (pS cy b T)) t) (va_A (pS cy a S ++ (pS cy b T)) sz)) 0 0 (va_A (pS cy a S ++ (pS cy b T)) sz) := by
  refine mk_rw (by decide) RX1 rfl (Nat.le_of_ble_eq_true rfl) [(0, .ref (a 0)), (1, .ref (b 0))] rfl ?_
  intro p e s m below meth c hx hb hml hown hr hlocks hin hw hsz hA hG hK H0 locs0 hP0 hD0 hS0 ls0 hl0
  clear hin
  replace hP0 : va_P D vwCl (pD cy a (S 0) (S 1) (fun g => S (9 + 8 * g)) (fun g => S (10 + 8 * g)) (fun g => S (11 + 8 * g)) (fun g => S (12 + 8 * g)) (fun g => S (13 + 8 * g)) (fun g => S (14 + 8 * g)) (fun g => S (15 + 8 * g)) (fun g => S (16 + 8 * g)) (fun k => if k < 6 then S (2 + k) else 0) (S 8) ++ (pS cy b T)) H0 := hP0
  replace hD0 : va_D (va_A _ sz) (pD cy a (S 0) (S 1) (fun g => S (9 + 8 * g)) (fun g => S (10 + 8 * g)) (fun g => S (11 + 8 * g)) (fun g => S (12 + 8 * g)) (fun g => S (13 + 8 * g)) (fun g => S (14 + 8 * g)) (fun g => S (15 + 8 * g)) (fun g => S (16 + 8 * g)) (fun k => if k < 6 then S (2 + k) else 0) (S 8) ++ (pS cy b T)) := hD0
  refine lv_aload_n hx hb dX1_takeFrom_0 rfl (lv_at hl0 0 rfl) ?_
  refine lv_aload_n hx hb dX1_takeFrom_1 rfl (lv_at hl0 1 rfl) ?_
  refine va_get (D := D) (ci := 1) (v := .int (T 0)) (C := RX1) (T := TX1) (N := 12) hx hb hw iX1 hown hK hP0 10 rfl rfl 0 (by decide) (hw _ kw_1_30) (fun _ h9 => h9) rfl dX1_takeFrom_2 ?_
  refine pt (D := D) (ci := 1) (v := .int (T 0)) (ty := .int) (C := RX1) (T := TX1) (N := 12) (ws' := pD cy a (T 0) (S 1) (fun g => S (9 + 8 * g)) (fun g => S (10 + 8 * g)) (fun g => S (11 + 8 * g)) (fun g => S (12 + 8 * g)) (fun g => S (13 + 8 * g)) (fun g => S (14 + 8 * g)) (fun g => S (15 + 8 * g)) (fun g => S (16 + 8 * g)) (fun k => if k < 6 then S (2 + k) else 0) (S 8) ++ (pS cy b T)) hx hb hw iX1 tyX1 tyX1_ok nmX1 hown hK hP0 hD0 hS0 0 rfl rfl 0 (by decide) kw_1_30 (fun _ h9 => h9) rfl (by decide +kernel) rfl rfl (Nat.le_of_ble_eq_true rfl) rfl dX1_takeFrom_5 (fun H1 locs1 hP1 hD1 hS1 => ?_)
  clear hP0 hD0 hS0 locs0 H0
  refine lv_aload_n hx hb dX1_takeFrom_8 rfl (lv_at hl0 0 rfl) ?_
  refine lv_aload_n hx hb dX1_takeFrom_9 rfl (lv_at hl0 1 rfl) ?_
  refine va_get (D := D) (ci := 1) (v := .int (T 1)) (C := RX1) (T := TX1) (N := 12) hx hb hw iX1 hown hK hP1 10 rfl rfl 1 (by decide) (hw _ kw_1_34) (fun _ h9 => h9) rfl dX1_takeFrom_10 ?_
  refine pt (D := D) (ci := 1) (v := .int (T 1)) (ty := .int) (C := RX1) (T := TX1) (N := 12) (ws' := pD cy a (T 0) (T 1) (fun g => S (9 + 8 * g)) (fun g => S (10 + 8 * g)) (fun g => S (11 + 8 * g)) (fun g => S (12 + 8 * g)) (fun g => S (13 + 8 * g)) (fun g => S (14 + 8 * g)) (fun g => S (15 + 8 * g)) (fun g => S (16 + 8 * g)) (fun k => if k < 6 then S (2 + k) else 0) (S 8) ++ (pS cy b T)) hx hb hw iX1 tyX1 tyX1_ok nmX1 hown hK hP1 hD1 hS1 0 rfl rfl 1 (by decide) kw_1_34 (fun _ h9 => h9) rfl (by decide +kernel) rfl rfl (Nat.le_of_ble_eq_true rfl) rfl dX1_takeFrom_13 (fun H2 locs2 hP2 hD2 hS2 => ?_)
  clear hP1 hD1 hS1 locs1 H1
  refine lv_aload_n hx hb dX1_takeFrom_16 rfl (lv_at hl0 0 rfl) ?_
  refine lv_aload_n hx hb dX1_takeFrom_17 rfl (lv_at hl0 1 rfl) ?_
  refine va_get (D := D) (ci := 1) (v := .int (T 8)) (C := RX1) (T := TX1) (N := 12) hx hb hw iX1 hown hK hP2 10 rfl rfl 11 (by decide) (hw _ kw_1_65) (fun _ h9 => h9) rfl dX1_takeFrom_18 ?_
  refine pt (D := D) (ci := 1) (v := .int (T 8)) (ty := .int) (C := RX1) (T := TX1) (N := 12) (ws' := pD cy a (T 0) (T 1) (fun g => S (9 + 8 * g)) (fun g => S (10 + 8 * g)) (fun g => S (11 + 8 * g)) (fun g => S (12 + 8 * g)) (fun g => S (13 + 8 * g)) (fun g => S (14 + 8 * g)) (fun g => S (15 + 8 * g)) (fun g => S (16 + 8 * g)) (fun k => if k < 6 then S (2 + k) else 0) (T 8) ++ (pS cy b T)) hx hb hw iX1 tyX1 tyX1_ok nmX1 hown hK hP2 hD2 hS2 0 rfl rfl 11 (by decide) kw_1_65 (fun _ h9 => h9) rfl (by decide +kernel) rfl rfl (Nat.le_of_ble_eq_true rfl) rfl dX1_takeFrom_21 (fun H3 locs3 hP3 hD3 hS3 => ?_)
  clear hP2 hD2 hS2 locs2 H2
  refine lv_aload_n hx hb dX1_takeFrom_24 rfl (lv_at hl0 1 rfl) ?_
  refine va_get (D := D) (ci := 1) (v := .ref (b 9)) (C := RX1) (T := TX1) (N := 12) hx hb hw iX1 hown hK hP3 10 rfl rfl 10 (by decide) (hw _ kw_1_60) (fun _ h9 => h9) rfl dX1_takeFrom_25 ?_
  refine lv_iconst (v := 0) hx hb dX1_takeFrom_28 (by decide) ?_
  refine lv_aload_n hx hb dX1_takeFrom_29 rfl (lv_at hl0 0 rfl) ?_
  refine va_get (D := D) (ci := 1) (v := .ref (a 9)) (C := RX1) (T := TX1) (N := 12) hx hb hw iX1 hown hK hP3 0 rfl rfl 10 (by decide) (hw _ kw_1_60) (fun _ h9 => h9) rfl dX1_takeFrom_30 ?_
  refine lv_iconst (v := 0) hx hb dX1_takeFrom_33 (by decide) ?_
  refine lv_bipush (v := 6) hx hb dX1_takeFrom_34 (by decide) ?_
  refine acp (f := fun k => if k < 6 then T (2 + k) else 0) (g := fun k => if k < 6 then S (2 + k) else 0) (ty := .int) (ws' := pD cy a (T 0) (T 1) (fun g => S (9 + 8 * g)) (fun g => S (10 + 8 * g)) (fun g => S (11 + 8 * g)) (fun g => S (12 + 8 * g)) (fun g => S (13 + 8 * g)) (fun g => S (14 + 8 * g)) (fun g => S (15 + 8 * g)) (fun g => S (16 + 8 * g)) (va_cpy (fun k => if k < 6 then T (2 + k) else 0) (fun k => if k < 6 then S (2 + k) else 0) 0 0 6) (T 8) ++ (pS cy b T)) hx hb hml hl0 hw hown kw_2_160 kw_2_162 kw_2_161 kw_1_9 hK hP3 hD3 hS3 19 9 0 rfl rfl rfl rfl 0 0 6 rfl rfl rfl (by omega) (by omega) (by omega) (by first | decide | omega) (by first | decide | omega) (fun _ _ => rfl) rfl (Nat.le_of_ble_eq_true rfl) (Nat.le_of_ble_eq_true rfl) dX1_takeFrom_36 (fun H4 locs4 hP4 hD4 hS4 => ?_)
  clear hP3 hD3 hS3 locs3 H3
  refine lv_aload_n hx hb dX1_takeFrom_39 rfl (lv_at hl0 1 rfl) ?_
  refine va_get (D := D) (ci := 1) (v := .ref (b 1)) (C := RX1) (T := TX1) (N := 12) hx hb hw iX1 hown hK hP4 10 rfl rfl 2 (by decide) (hw _ kw_1_39) (fun _ h9 => h9) rfl dX1_takeFrom_40 ?_
  refine lv_iconst (v := 0) hx hb dX1_takeFrom_43 (by decide) ?_
  refine lv_aload_n hx hb dX1_takeFrom_44 rfl (lv_at hl0 0 rfl) ?_
  refine va_get (D := D) (ci := 1) (v := .ref (a 1)) (C := RX1) (T := TX1) (N := 12) hx hb hw iX1 hown hK hP4 0 rfl rfl 2 (by decide) (hw _ kw_1_39) (fun _ h9 => h9) rfl dX1_takeFrom_45 ?_
  refine lv_iconst (v := 0) hx hb dX1_takeFrom_48 (by decide) ?_
  refine lv_bipush (v := 20) hx hb dX1_takeFrom_49 (by decide) ?_
  refine acp (f := fun g => T (9 + 8 * g)) (g := fun g => S (9 + 8 * g)) (ty := .int) (ws' := pD cy a (T 0) (T 1) (va_cpy (fun g => T (9 + 8 * g)) (fun g => S (9 + 8 * g)) 0 0 20) (fun g => S (10 + 8 * g)) (fun g => S (11 + 8 * g)) (fun g => S (12 + 8 * g)) (fun g => S (13 + 8 * g)) (fun g => S (14 + 8 * g)) (fun g => S (15 + 8 * g)) (fun g => S (16 + 8 * g)) (va_cpy (fun k => if k < 6 then T (2 + k) else 0) (fun k => if k < 6 then S (2 + k) else 0) 0 0 6) (T 8) ++ (pS cy b T)) hx hb hml hl0 hw hown kw_2_160 kw_2_162 kw_2_161 kw_1_9 hK hP4 hD4 hS4 11 1 0 rfl rfl rfl rfl 0 0 20 rfl rfl rfl (by omega) (by omega) (by omega) (by first | decide | omega) (by first | decide | omega) (fun _ _ => rfl) rfl (Nat.le_of_ble_eq_true rfl) (Nat.le_of_ble_eq_true rfl) dX1_takeFrom_51 (fun H5 locs5 hP5 hD5 hS5 => ?_)
  clear hP4 hD4 hS4 locs4 H4
  refine lv_aload_n hx hb dX1_takeFrom_54 rfl (lv_at hl0 1 rfl) ?_
  refine va_get (D := D) (ci := 1) (v := .ref (b 2)) (C := RX1) (T := TX1) (N := 12) hx hb hw iX1 hown hK hP5 10 rfl rfl 3 (by decide) (hw _ kw_1_41) (fun _ h9 => h9) rfl dX1_takeFrom_55 ?_
  refine lv_iconst (v := 0) hx hb dX1_takeFrom_58 (by decide) ?_
  refine lv_aload_n hx hb dX1_takeFrom_59 rfl (lv_at hl0 0 rfl) ?_
  refine va_get (D := D) (ci := 1) (v := .ref (a 2)) (C := RX1) (T := TX1) (N := 12) hx hb hw iX1 hown hK hP5 0 rfl rfl 3 (by decide) (hw _ kw_1_41) (fun _ h9 => h9) rfl dX1_takeFrom_60 ?_
  refine lv_iconst (v := 0) hx hb dX1_takeFrom_63 (by decide) ?_
  refine lv_bipush (v := 20) hx hb dX1_takeFrom_64 (by decide) ?_
  refine acp (f := fun g => T (10 + 8 * g)) (g := fun g => S (10 + 8 * g)) (ty := .int) (ws' := pD cy a (T 0) (T 1) (va_cpy (fun g => T (9 + 8 * g)) (fun g => S (9 + 8 * g)) 0 0 20) (va_cpy (fun g => T (10 + 8 * g)) (fun g => S (10 + 8 * g)) 0 0 20) (fun g => S (11 + 8 * g)) (fun g => S (12 + 8 * g)) (fun g => S (13 + 8 * g)) (fun g => S (14 + 8 * g)) (fun g => S (15 + 8 * g)) (fun g => S (16 + 8 * g)) (va_cpy (fun k => if k < 6 then T (2 + k) else 0) (fun k => if k < 6 then S (2 + k) else 0) 0 0 6) (T 8) ++ (pS cy b T)) hx hb hml hl0 hw hown kw_2_160 kw_2_162 kw_2_161 kw_1_9 hK hP5 hD5 hS5 12 2 0 rfl rfl rfl rfl 0 0 20 rfl rfl rfl (by omega) (by omega) (by omega) (by first | decide | omega) (by first | decide | omega) (fun _ _ => rfl) rfl (Nat.le_of_ble_eq_true rfl) (Nat.le_of_ble_eq_true rfl) dX1_takeFrom_66 (fun H6 locs6 hP6 hD6 hS6 => ?_)
  clear hP5 hD5 hS5 locs5 H5
  refine lv_aload_n hx hb dX1_takeFrom_69 rfl (lv_at hl0 1 rfl) ?_
  refine va_get (D := D) (ci := 1) (v := .ref (b 3)) (C := RX1) (T := TX1) (N := 12) hx hb hw iX1 hown hK hP6 10 rfl rfl 4 (by decide) (hw _ kw_1_44) (fun _ h9 => h9) rfl dX1_takeFrom_70 ?_
  refine lv_iconst (v := 0) hx hb dX1_takeFrom_73 (by decide) ?_
  refine lv_aload_n hx hb dX1_takeFrom_74 rfl (lv_at hl0 0 rfl) ?_
  refine va_get (D := D) (ci := 1) (v := .ref (a 3)) (C := RX1) (T := TX1) (N := 12) hx hb hw iX1 hown hK hP6 0 rfl rfl 4 (by decide) (hw _ kw_1_44) (fun _ h9 => h9) rfl dX1_takeFrom_75 ?_
  refine lv_iconst (v := 0) hx hb dX1_takeFrom_78 (by decide) ?_
  refine lv_bipush (v := 20) hx hb dX1_takeFrom_79 (by decide) ?_
  refine acp (f := fun g => T (11 + 8 * g)) (g := fun g => S (11 + 8 * g)) (ty := .int) (ws' := pD cy a (T 0) (T 1) (va_cpy (fun g => T (9 + 8 * g)) (fun g => S (9 + 8 * g)) 0 0 20) (va_cpy (fun g => T (10 + 8 * g)) (fun g => S (10 + 8 * g)) 0 0 20) (va_cpy (fun g => T (11 + 8 * g)) (fun g => S (11 + 8 * g)) 0 0 20) (fun g => S (12 + 8 * g)) (fun g => S (13 + 8 * g)) (fun g => S (14 + 8 * g)) (fun g => S (15 + 8 * g)) (fun g => S (16 + 8 * g)) (va_cpy (fun k => if k < 6 then T (2 + k) else 0) (fun k => if k < 6 then S (2 + k) else 0) 0 0 6) (T 8) ++ (pS cy b T)) hx hb hml hl0 hw hown kw_2_160 kw_2_162 kw_2_161 kw_1_9 hK hP6 hD6 hS6 13 3 0 rfl rfl rfl rfl 0 0 20 rfl rfl rfl (by omega) (by omega) (by omega) (by first | decide | omega) (by first | decide | omega) (fun _ _ => rfl) rfl (Nat.le_of_ble_eq_true rfl) (Nat.le_of_ble_eq_true rfl) dX1_takeFrom_81 (fun H7 locs7 hP7 hD7 hS7 => ?_)
  clear hP6 hD6 hS6 locs6 H6
  refine lv_aload_n hx hb dX1_takeFrom_84 rfl (lv_at hl0 1 rfl) ?_
  refine va_get (D := D) (ci := 1) (v := .ref (b 4)) (C := RX1) (T := TX1) (N := 12) hx hb hw iX1 hown hK hP7 10 rfl rfl 5 (by decide) (hw _ kw_1_47) (fun _ h9 => h9) rfl dX1_takeFrom_85 ?_
  refine lv_iconst (v := 0) hx hb dX1_takeFrom_88 (by decide) ?_
  refine lv_aload_n hx hb dX1_takeFrom_89 rfl (lv_at hl0 0 rfl) ?_
  refine va_get (D := D) (ci := 1) (v := .ref (a 4)) (C := RX1) (T := TX1) (N := 12) hx hb hw iX1 hown hK hP7 0 rfl rfl 5 (by decide) (hw _ kw_1_47) (fun _ h9 => h9) rfl dX1_takeFrom_90 ?_
  refine lv_iconst (v := 0) hx hb dX1_takeFrom_93 (by decide) ?_
  refine lv_bipush (v := 20) hx hb dX1_takeFrom_94 (by decide) ?_
  refine acp (f := fun g => T (12 + 8 * g)) (g := fun g => S (12 + 8 * g)) (ty := .int) (ws' := pD cy a (T 0) (T 1) (va_cpy (fun g => T (9 + 8 * g)) (fun g => S (9 + 8 * g)) 0 0 20) (va_cpy (fun g => T (10 + 8 * g)) (fun g => S (10 + 8 * g)) 0 0 20) (va_cpy (fun g => T (11 + 8 * g)) (fun g => S (11 + 8 * g)) 0 0 20) (va_cpy (fun g => T (12 + 8 * g)) (fun g => S (12 + 8 * g)) 0 0 20) (fun g => S (13 + 8 * g)) (fun g => S (14 + 8 * g)) (fun g => S (15 + 8 * g)) (fun g => S (16 + 8 * g)) (va_cpy (fun k => if k < 6 then T (2 + k) else 0) (fun k => if k < 6 then S (2 + k) else 0) 0 0 6) (T 8) ++ (pS cy b T)) hx hb hml hl0 hw hown kw_2_160 kw_2_162 kw_2_161 kw_1_9 hK hP7 hD7 hS7 14 4 0 rfl rfl rfl rfl 0 0 20 rfl rfl rfl (by omega) (by omega) (by omega) (by first | decide | omega) (by first | decide | omega) (fun _ _ => rfl) rfl (Nat.le_of_ble_eq_true rfl) (Nat.le_of_ble_eq_true rfl) dX1_takeFrom_96 (fun H8 locs8 hP8 hD8 hS8 => ?_)
  clear hP7 hD7 hS7 locs7 H7
  refine lv_aload_n hx hb dX1_takeFrom_99 rfl (lv_at hl0 1 rfl) ?_
  refine va_get (D := D) (ci := 1) (v := .ref (b 5)) (C := RX1) (T := TX1) (N := 12) hx hb hw iX1 hown hK hP8 10 rfl rfl 6 (by decide) (hw _ kw_1_50) (fun _ h9 => h9) rfl dX1_takeFrom_100 ?_
  refine lv_iconst (v := 0) hx hb dX1_takeFrom_103 (by decide) ?_
  refine lv_aload_n hx hb dX1_takeFrom_104 rfl (lv_at hl0 0 rfl) ?_
  refine va_get (D := D) (ci := 1) (v := .ref (a 5)) (C := RX1) (T := TX1) (N := 12) hx hb hw iX1 hown hK hP8 0 rfl rfl 6 (by decide) (hw _ kw_1_50) (fun _ h9 => h9) rfl dX1_takeFrom_105 ?_
  refine lv_iconst (v := 0) hx hb dX1_takeFrom_108 (by decide) ?_
  refine lv_bipush (v := 20) hx hb dX1_takeFrom_109 (by decide) ?_
  refine acp (f := fun g => T (13 + 8 * g)) (g := fun g => S (13 + 8 * g)) (ty := .int) (ws' := pD cy a (T 0) (T 1) (va_cpy (fun g => T (9 + 8 * g)) (fun g => S (9 + 8 * g)) 0 0 20) (va_cpy (fun g => T (10 + 8 * g)) (fun g => S (10 + 8 * g)) 0 0 20) (va_cpy (fun g => T (11 + 8 * g)) (fun g => S (11 + 8 * g)) 0 0 20) (va_cpy (fun g => T (12 + 8 * g)) (fun g => S (12 + 8 * g)) 0 0 20) (va_cpy (fun g => T (13 + 8 * g)) (fun g => S (13 + 8 * g)) 0 0 20) (fun g => S (14 + 8 * g)) (fun g => S (15 + 8 * g)) (fun g => S (16 + 8 * g)) (va_cpy (fun k => if k < 6 then T (2 + k) else 0) (fun k => if k < 6 then S (2 + k) else 0) 0 0 6) (T 8) ++ (pS cy b T)) hx hb hml hl0 hw hown kw_2_160 kw_2_162 kw_2_161 kw_1_9 hK hP8 hD8 hS8 15 5 0 rfl rfl rfl rfl 0 0 20 rfl rfl rfl (by omega) (by omega) (by omega) (by first | decide | omega) (by first | decide | omega) (fun _ _ => rfl) rfl (Nat.le_of_ble_eq_true rfl) (Nat.le_of_ble_eq_true rfl) dX1_takeFrom_111 (fun H9 locs9 hP9 hD9 hS9 => ?_)
  clear hP8 hD8 hS8 locs8 H8
  refine lv_aload_n hx hb dX1_takeFrom_114 rfl (lv_at hl0 1 rfl) ?_
  refine va_get (D := D) (ci := 1) (v := .ref (b 6)) (C := RX1) (T := TX1) (N := 12) hx hb hw iX1 hown hK hP9 10 rfl rfl 7 (by decide) (hw _ kw_1_52) (fun _ h9 => h9) rfl dX1_takeFrom_115 ?_
  refine lv_iconst (v := 0) hx hb dX1_takeFrom_118 (by decide) ?_
  refine lv_aload_n hx hb dX1_takeFrom_119 rfl (lv_at hl0 0 rfl) ?_
  refine va_get (D := D) (ci := 1) (v := .ref (a 6)) (C := RX1) (T := TX1) (N := 12) hx hb hw iX1 hown hK hP9 0 rfl rfl 7 (by decide) (hw _ kw_1_52) (fun _ h9 => h9) rfl dX1_takeFrom_120 ?_
  refine lv_iconst (v := 0) hx hb dX1_takeFrom_123 (by decide) ?_
  refine lv_bipush (v := 20) hx hb dX1_takeFrom_124 (by decide) ?_
  refine acp (f := fun g => T (14 + 8 * g)) (g := fun g => S (14 + 8 * g)) (ty := .int) (ws' := pD cy a (T 0) (T 1) (va_cpy (fun g => T (9 + 8 * g)) (fun g => S (9 + 8 * g)) 0 0 20) (va_cpy (fun g => T (10 + 8 * g)) (fun g => S (10 + 8 * g)) 0 0 20) (va_cpy (fun g => T (11 + 8 * g)) (fun g => S (11 + 8 * g)) 0 0 20) (va_cpy (fun g => T (12 + 8 * g)) (fun g => S (12 + 8 * g)) 0 0 20) (va_cpy (fun g => T (13 + 8 * g)) (fun g => S (13 + 8 * g)) 0 0 20) (va_cpy (fun g => T (14 + 8 * g)) (fun g => S (14 + 8 * g)) 0 0 20) (fun g => S (15 + 8 * g)) (fun g => S (16 + 8 * g)) (va_cpy (fun k => if k < 6 then T (2 + k) else 0) (fun k => if k < 6 then S (2 + k) else 0) 0 0 6) (T 8) ++ (pS cy b T)) hx hb hml hl0 hw hown kw_2_160 kw_2_162 kw_2_161 kw_1_9 hK hP9 hD9 hS9 16 6 0 rfl rfl rfl rfl 0 0 20 rfl rfl rfl (by omega) (by omega) (by omega) (by first | decide | omega) (by first | decide | omega) (fun _ _ => rfl) rfl (Nat.le_of_ble_eq_true rfl) (Nat.le_of_ble_eq_true rfl) dX1_takeFrom_126 (fun H10 locs10 hP10 hD10 hS10 => ?_)
  clear hP9 hD9 hS9 locs9 H9
  refine lv_aload_n hx hb dX1_takeFrom_129 rfl (lv_at hl0 1 rfl) ?_
  refine va_get (D := D) (ci := 1) (v := .ref (b 7)) (C := RX1) (T := TX1) (N := 12) hx hb hw iX1 hown hK hP10 10 rfl rfl 8 (by decide) (hw _ kw_1_54) (fun _ h9 => h9) rfl dX1_takeFrom_130 ?_
  refine lv_iconst (v := 0) hx hb dX1_takeFrom_133 (by decide) ?_
  refine lv_aload_n hx hb dX1_takeFrom_134 rfl (lv_at hl0 0 rfl) ?_
  refine va_get (D := D) (ci := 1) (v := .ref (a 7)) (C := RX1) (T := TX1) (N := 12) hx hb hw iX1 hown hK hP10 0 rfl rfl 8 (by decide) (hw _ kw_1_54) (fun _ h9 => h9) rfl dX1_takeFrom_135 ?_
  refine lv_iconst (v := 0) hx hb dX1_takeFrom_138 (by decide) ?_
  refine lv_bipush (v := 20) hx hb dX1_takeFrom_139 (by decide) ?_
  refine acp (f := fun g => T (15 + 8 * g)) (g := fun g => S (15 + 8 * g)) (ty := .int) (ws' := pD cy a (T 0) (T 1) (va_cpy (fun g => T (9 + 8 * g)) (fun g => S (9 + 8 * g)) 0 0 20) (va_cpy (fun g => T (10 + 8 * g)) (fun g => S (10 + 8 * g)) 0 0 20) (va_cpy (fun g => T (11 + 8 * g)) (fun g => S (11 + 8 * g)) 0 0 20) (va_cpy (fun g => T (12 + 8 * g)) (fun g => S (12 + 8 * g)) 0 0 20) (va_cpy (fun g => T (13 + 8 * g)) (fun g => S (13 + 8 * g)) 0 0 20) (va_cpy (fun g => T (14 + 8 * g)) (fun g => S (14 + 8 * g)) 0 0 20) (va_cpy (fun g => T (15 + 8 * g)) (fun g => S (15 + 8 * g)) 0 0 20) (fun g => S (16 + 8 * g)) (va_cpy (fun k => if k < 6 then T (2 + k) else 0) (fun k => if k < 6 then S (2 + k) else 0) 0 0 6) (T 8) ++ (pS cy b T)) hx hb hml hl0 hw hown kw_2_160 kw_2_162 kw_2_161 kw_1_9 hK hP10 hD10 hS10 17 7 0 rfl rfl rfl rfl 0 0 20 rfl rfl rfl (by omega) (by omega) (by omega) (by first | decide | omega) (by first | decide | omega) (fun _ _ => rfl) rfl (Nat.le_of_ble_eq_true rfl) (Nat.le_of_ble_eq_true rfl) dX1_takeFrom_141 (fun H11 locs11 hP11 hD11 hS11 => ?_)
  clear hP10 hD10 hS10 locs10 H10
  refine lv_iconst (v := 0) hx hb dX1_takeFrom_144 (by decide) ?_
  refine lv_istore_n (lv' := [(2, .int 0), (0, .ref (a 0)), (1, .ref (b 0))]) hx hb dX1_takeFrom_145 rfl hl0 (by decide) rfl (fun ls1 hl1 => ?_)
  clear hl0 ls0
  have hq9 : (pD cy a (T 0) (T 1) (va_cpy (fun g => T (9 + 8 * g)) (fun g => S (9 + 8 * g)) 0 0 20) (va_cpy (fun g => T (10 + 8 * g)) (fun g => S (10 + 8 * g)) 0 0 20) (va_cpy (fun g => T (11 + 8 * g)) (fun g => S (11 + 8 * g)) 0 0 20) (va_cpy (fun g => T (12 + 8 * g)) (fun g => S (12 + 8 * g)) 0 0 20) (va_cpy (fun g => T (13 + 8 * g)) (fun g => S (13 + 8 * g)) 0 0 20) (va_cpy (fun g => T (14 + 8 * g)) (fun g => S (14 + 8 * g)) 0 0 20) (va_cpy (fun g => T (15 + 8 * g)) (fun g => S (15 + 8 * g)) 0 0 20) (fun g => S (16 + 8 * g)) (va_cpy (fun k => if k < 6 then T (2 + k) else 0) (fun k => if k < 6 then S (2 + k) else 0) 0 0 6) (T 8) ++ (pS cy b T)) = (pD cy a (T 0) (T 1) (va_cpy (fun g => T (9 + 8 * g)) (fun g => S (9 + 8 * g)) 0 0 20) (va_cpy (fun g => T (10 + 8 * g)) (fun g => S (10 + 8 * g)) 0 0 20) (va_cpy (fun g => T (11 + 8 * g)) (fun g => S (11 + 8 * g)) 0 0 20) (va_cpy (fun g => T (12 + 8 * g)) (fun g => S (12 + 8 * g)) 0 0 20) (va_cpy (fun g => T (13 + 8 * g)) (fun g => S (13 + 8 * g)) 0 0 20) (va_cpy (fun g => T (14 + 8 * g)) (fun g => S (14 + 8 * g)) 0 0 20) (va_cpy (fun g => T (15 + 8 * g)) (fun g => S (15 + 8 * g)) 0 0 20) (fil (fun g => T (16 + 8 * g)) (fun g => S (16 + 8 * g)) 0) (va_cpy (fun k => if k < 6 then T (2 + k) else 0) (fun k => if k < 6 then S (2 + k) else 0) 0 0 6) (T 8) ++ (pS cy b T)) := congrArg (fun z9 => pD cy a (T 0) (T 1) (va_cpy (fun g => T (9 + 8 * g)) (fun g => S (9 + 8 * g)) 0 0 20) (va_cpy (fun g => T (10 + 8 * g)) (fun g => S (10 + 8 * g)) 0 0 20) (va_cpy (fun g => T (11 + 8 * g)) (fun g => S (11 + 8 * g)) 0 0 20) (va_cpy (fun g => T (12 + 8 * g)) (fun g => S (12 + 8 * g)) 0 0 20) (va_cpy (fun g => T (13 + 8 * g)) (fun g => S (13 + 8 * g)) 0 0 20) (va_cpy (fun g => T (14 + 8 * g)) (fun g => S (14 + 8 * g)) 0 0 20) (va_cpy (fun g => T (15 + 8 * g)) (fun g => S (15 + 8 * g)) 0 0 20) z9 (va_cpy (fun k => if k < 6 then T (2 + k) else 0) (fun k => if k < 6 then S (2 + k) else 0) 0 0 6) (T 8) ++ (pS cy b T)) (show (fun g => S (16 + 8 * g)) = (fil (fun g => T (16 + 8 * g)) (fun g => S (16 + 8 * g)) 0) from fil_0 _ _)
  replace hP11 := (congrArg (fun z9 => va_P D vwCl z9 _) hq9).mp hP11
  replace hD11 := (congrArg (fun z9 => va_D _ z9) hq9).mp hD11
  clear hq9
  refine wlp (ι := Nat) (nL := 3) (fun x9 => (x9 ≤ 20)) (fun x9 => pD cy a (T 0) (T 1) (va_cpy (fun g => T (9 + 8 * g)) (fun g => S (9 + 8 * g)) 0 0 20) (va_cpy (fun g => T (10 + 8 * g)) (fun g => S (10 + 8 * g)) 0 0 20) (va_cpy (fun g => T (11 + 8 * g)) (fun g => S (11 + 8 * g)) 0 0 20) (va_cpy (fun g => T (12 + 8 * g)) (fun g => S (12 + 8 * g)) 0 0 20) (va_cpy (fun g => T (13 + 8 * g)) (fun g => S (13 + 8 * g)) 0 0 20) (va_cpy (fun g => T (14 + 8 * g)) (fun g => S (14 + 8 * g)) 0 0 20) (va_cpy (fun g => T (15 + 8 * g)) (fun g => S (15 + 8 * g)) 0 0 20) (fil (fun g => T (16 + 8 * g)) (fun g => S (16 + 8 * g)) x9) (va_cpy (fun k => if k < 6 then T (2 + k) else 0) (fun k => if k < 6 then S (2 + k) else 0) 0 0 6) (T 8) ++ (pS cy b T)) (fun x9 => [(2, .int (nI x9)), (0, .ref (a 0)), (1, .ref (b 0))]) (fun x9 => []) (fun x9 => 20 - x9) 146 ?_ 0 (by first | omega | assumption | rfl | simp_all) rfl hP11 hD11 hS11 (lv_sub hl1 [0, 1, 2] rfl)
  clear hP11 hD11 hS11 locs11 H11 hl1 ls1
  intro x9 hI ih_146 H12 locs12 ls2 hP12 hD12 hS12 hl2
  obtain ⟨i, rfl⟩ : ∃ z9, z9 = x9 := ⟨_, rfl⟩
  have hi := hI
  replace hi : i ≤ 20 := hi
  replace hP12 : va_P D vwCl (pD cy a (T 0) (T 1) (va_cpy (fun g => T (9 + 8 * g)) (fun g => S (9 + 8 * g)) 0 0 20) (va_cpy (fun g => T (10 + 8 * g)) (fun g => S (10 + 8 * g)) 0 0 20) (va_cpy (fun g => T (11 + 8 * g)) (fun g => S (11 + 8 * g)) 0 0 20) (va_cpy (fun g => T (12 + 8 * g)) (fun g => S (12 + 8 * g)) 0 0 20) (va_cpy (fun g => T (13 + 8 * g)) (fun g => S (13 + 8 * g)) 0 0 20) (va_cpy (fun g => T (14 + 8 * g)) (fun g => S (14 + 8 * g)) 0 0 20) (va_cpy (fun g => T (15 + 8 * g)) (fun g => S (15 + 8 * g)) 0 0 20) (fil (fun g => T (16 + 8 * g)) (fun g => S (16 + 8 * g)) i) (va_cpy (fun k => if k < 6 then T (2 + k) else 0) (fun k => if k < 6 then S (2 + k) else 0) 0 0 6) (T 8) ++ (pS cy b T)) H12 := hP12
  replace hD12 : va_D (va_A _ sz) (pD cy a (T 0) (T 1) (va_cpy (fun g => T (9 + 8 * g)) (fun g => S (9 + 8 * g)) 0 0 20) (va_cpy (fun g => T (10 + 8 * g)) (fun g => S (10 + 8 * g)) 0 0 20) (va_cpy (fun g => T (11 + 8 * g)) (fun g => S (11 + 8 * g)) 0 0 20) (va_cpy (fun g => T (12 + 8 * g)) (fun g => S (12 + 8 * g)) 0 0 20) (va_cpy (fun g => T (13 + 8 * g)) (fun g => S (13 + 8 * g)) 0 0 20) (va_cpy (fun g => T (14 + 8 * g)) (fun g => S (14 + 8 * g)) 0 0 20) (va_cpy (fun g => T (15 + 8 * g)) (fun g => S (15 + 8 * g)) 0 0 20) (fil (fun g => T (16 + 8 * g)) (fun g => S (16 + 8 * g)) i) (va_cpy (fun k => if k < 6 then T (2 + k) else 0) (fun k => if k < 6 then S (2 + k) else 0) 0 0 6) (T 8) ++ (pS cy b T)) := hD12
  replace hl2 : lv_has ls2 3 [(2, .int (nI i)), (0, .ref (a 0)), (1, .ref (b 0))] := hl2
  show W p l e _ s m _ below meth c _ _ _ _ _ (F0 m 146 ls2 [])
  refine lv_iload_n hx hb dX1_takeFrom_146 rfl (lv_at hl2 0 rfl) ?_
  refine lv_bipush (v := 20) hx hb dX1_takeFrom_147 (by decide) ?_
  refine ln_ge (tgt := 170) i 20 rfl rfl (by omega) (by omega) hx hb dX1_takeFrom_149 (by decide) (fun c_149 => ?_) (fun c_149 => ?_)
  · obtain rfl : i = 20 := (by omega)
    have hq9 : (pD cy a (T 0) (T 1) (va_cpy (fun g => T (9 + 8 * g)) (fun g => S (9 + 8 * g)) 0 0 20) (va_cpy (fun g => T (10 + 8 * g)) (fun g => S (10 + 8 * g)) 0 0 20) (va_cpy (fun g => T (11 + 8 * g)) (fun g => S (11 + 8 * g)) 0 0 20) (va_cpy (fun g => T (12 + 8 * g)) (fun g => S (12 + 8 * g)) 0 0 20) (va_cpy (fun g => T (13 + 8 * g)) (fun g => S (13 + 8 * g)) 0 0 20) (va_cpy (fun g => T (14 + 8 * g)) (fun g => S (14 + 8 * g)) 0 0 20) (va_cpy (fun g => T (15 + 8 * g)) (fun g => S (15 + 8 * g)) 0 0 20) (fil (fun g => T (16 + 8 * g)) (fun g => S (16 + 8 * g)) 20) (va_cpy (fun k => if k < 6 then T (2 + k) else 0) (fun k => if k < 6 then S (2 + k) else 0) 0 0 6) (T 8) ++ (pS cy b T)) = (pD cy a (T 0) (T 1) (va_cpy (fun g => T (9 + 8 * g)) (fun g => S (9 + 8 * g)) 0 0 20) (va_cpy (fun g => T (10 + 8 * g)) (fun g => S (10 + 8 * g)) 0 0 20) (va_cpy (fun g => T (11 + 8 * g)) (fun g => S (11 + 8 * g)) 0 0 20) (va_cpy (fun g => T (12 + 8 * g)) (fun g => S (12 + 8 * g)) 0 0 20) (va_cpy (fun g => T (13 + 8 * g)) (fun g => S (13 + 8 * g)) 0 0 20) (va_cpy (fun g => T (14 + 8 * g)) (fun g => S (14 + 8 * g)) 0 0 20) (va_cpy (fun g => T (15 + 8 * g)) (fun g => S (15 + 8 * g)) 0 0 20) (fun g => T (16 + 8 * g)) (va_cpy (fun k => if k < 6 then T (2 + k) else 0) (fun k => if k < 6 then S (2 + k) else 0) 0 0 6) (T 8) ++ (pS cy b T)) := congrArg (fun z9 => pD cy a (T 0) (T 1) (va_cpy (fun g => T (9 + 8 * g)) (fun g => S (9 + 8 * g)) 0 0 20) (va_cpy (fun g => T (10 + 8 * g)) (fun g => S (10 + 8 * g)) 0 0 20) (va_cpy (fun g => T (11 + 8 * g)) (fun g => S (11 + 8 * g)) 0 0 20) (va_cpy (fun g => T (12 + 8 * g)) (fun g => S (12 + 8 * g)) 0 0 20) (va_cpy (fun g => T (13 + 8 * g)) (fun g => S (13 + 8 * g)) 0 0 20) (va_cpy (fun g => T (14 + 8 * g)) (fun g => S (14 + 8 * g)) 0 0 20) (va_cpy (fun g => T (15 + 8 * g)) (fun g => S (15 + 8 * g)) 0 0 20) z9 (va_cpy (fun k => if k < 6 then T (2 + k) else 0) (fun k => if k < 6 then S (2 + k) else 0) 0 0 6) (T 8) ++ (pS cy b T)) (show (fil (fun g => T (16 + 8 * g)) (fun g => S (16 + 8 * g)) 20) = (fun g => T (16 + 8 * g)) from fil_can hC hT)
    replace hP12 := (congrArg (fun z9 => va_P D vwCl z9 _) hq9).mp hP12
    replace hD12 := (congrArg (fun z9 => va_D _ z9) hq9).mp hD12
    clear hq9
    have hq9 : (pD cy a (T 0) (T 1) (va_cpy (fun g => T (9 + 8 * g)) (fun g => S (9 + 8 * g)) 0 0 20) (va_cpy (fun g => T (10 + 8 * g)) (fun g => S (10 + 8 * g)) 0 0 20) (va_cpy (fun g => T (11 + 8 * g)) (fun g => S (11 + 8 * g)) 0 0 20) (va_cpy (fun g => T (12 + 8 * g)) (fun g => S (12 + 8 * g)) 0 0 20) (va_cpy (fun g => T (13 + 8 * g)) (fun g => S (13 + 8 * g)) 0 0 20) (va_cpy (fun g => T (14 + 8 * g)) (fun g => S (14 + 8 * g)) 0 0 20) (va_cpy (fun g => T (15 + 8 * g)) (fun g => S (15 + 8 * g)) 0 0 20) (fun g => T (16 + 8 * g)) (va_cpy (fun k => if k < 6 then T (2 + k) else 0) (fun k => if k < 6 then S (2 + k) else 0) 0 0 6) (T 8) ++ (pS cy b T)) = pS cy a T ++ (pS cy b T) := by rw [can_row hC hT 9 (by decide), can_row hC hT 10 (by decide), can_row hC hT 11 (by decide), can_row hC hT 12 (by decide), can_row hC hT 13 (by decide), can_row hC hT 14 (by decide), can_row hC hT 15 (by decide), can_nt]
    replace hP12 := (congrArg (fun z9 => va_P D vwCl z9 _) hq9).mp hP12
    replace hD12 := (congrArg (fun z9 => va_D _ z9) hq9).mp hD12
    refine re_v () hx hb hr hlocks hP12 hD12 hS12 dX1_takeFrom_170 ?_
    exact (trivial)
  · refine lv_aload_n hx hb dX1_takeFrom_152 rfl (lv_at hl2 1 rfl) ?_
    refine va_get (D := D) (ci := 1) (v := .ref (a 8)) (C := RX1) (T := TX1) (N := 12) hx hb hw iX1 hown hK hP12 0 rfl rfl 9 (by decide) (hw _ kw_1_57) (fun _ h9 => h9) rfl dX1_takeFrom_153 ?_
    refine lv_iload_n hx hb dX1_takeFrom_156 rfl (lv_at hl2 0 rfl) ?_
    refine lv_aload_n hx hb dX1_takeFrom_157 rfl (lv_at hl2 2 rfl) ?_
    refine va_get (D := D) (ci := 1) (v := .ref (b 8)) (C := RX1) (T := TX1) (N := 12) hx hb hw iX1 hown hK hP12 10 rfl rfl 9 (by decide) (hw _ kw_1_57) (fun _ h9 => h9) rfl dX1_takeFrom_158 ?_
    refine lv_iload_n hx hb dX1_takeFrom_161 rfl (lv_at hl2 0 rfl) ?_
    refine ald_z (f := fun g => T (16 + 8 * g)) hx hb hK hP12 18 2 rfl rfl i rfl (by first | omega | assumption) (by decide) dX1_takeFrom_162 ?_
    refine ast_z (f := fil (fun g => T (16 + 8 * g)) (fun g => S (16 + 8 * g)) i) (ws' := pD cy a (T 0) (T 1) (va_cpy (fun g => T (9 + 8 * g)) (fun g => S (9 + 8 * g)) 0 0 20) (va_cpy (fun g => T (10 + 8 * g)) (fun g => S (10 + 8 * g)) 0 0 20) (va_cpy (fun g => T (11 + 8 * g)) (fun g => S (11 + 8 * g)) 0 0 20) (va_cpy (fun g => T (12 + 8 * g)) (fun g => S (12 + 8 * g)) 0 0 20) (va_cpy (fun g => T (13 + 8 * g)) (fun g => S (13 + 8 * g)) 0 0 20) (va_cpy (fun g => T (14 + 8 * g)) (fun g => S (14 + 8 * g)) 0 0 20) (va_cpy (fun g => T (15 + 8 * g)) (fun g => S (15 + 8 * g)) 0 0 20) (upd (fil (fun g => T (16 + 8 * g)) (fun g => S (16 + 8 * g)) i) i (T (16 + 8 * i))) (va_cpy (fun k => if k < 6 then T (2 + k) else 0) (fun k => if k < 6 then S (2 + k) else 0) 0 0 6) (T 8) ++ (pS cy b T)) hx hb hK hP12 hD12 hS12 8 2 rfl rfl i rfl (by first | omega | assumption) (by decide) (hT.2 i) rfl dX1_takeFrom_163 (fun H13 locs13 hP13 hD13 hS13 => ?_)
    clear hP12 hD12 hS12 locs12 H12
    have hq9 : (pD cy a (T 0) (T 1) (va_cpy (fun g => T (9 + 8 * g)) (fun g => S (9 + 8 * g)) 0 0 20) (va_cpy (fun g => T (10 + 8 * g)) (fun g => S (10 + 8 * g)) 0 0 20) (va_cpy (fun g => T (11 + 8 * g)) (fun g => S (11 + 8 * g)) 0 0 20) (va_cpy (fun g => T (12 + 8 * g)) (fun g => S (12 + 8 * g)) 0 0 20) (va_cpy (fun g => T (13 + 8 * g)) (fun g => S (13 + 8 * g)) 0 0 20) (va_cpy (fun g => T (14 + 8 * g)) (fun g => S (14 + 8 * g)) 0 0 20) (va_cpy (fun g => T (15 + 8 * g)) (fun g => S (15 + 8 * g)) 0 0 20) (upd (fil (fun g => T (16 + 8 * g)) (fun g => S (16 + 8 * g)) i) i (T (16 + 8 * i))) (va_cpy (fun k => if k < 6 then T (2 + k) else 0) (fun k => if k < 6 then S (2 + k) else 0) 0 0 6) (T 8) ++ (pS cy b T)) = (pD cy a (T 0) (T 1) (va_cpy (fun g => T (9 + 8 * g)) (fun g => S (9 + 8 * g)) 0 0 20) (va_cpy (fun g => T (10 + 8 * g)) (fun g => S (10 + 8 * g)) 0 0 20) (va_cpy (fun g => T (11 + 8 * g)) (fun g => S (11 + 8 * g)) 0 0 20) (va_cpy (fun g => T (12 + 8 * g)) (fun g => S (12 + 8 * g)) 0 0 20) (va_cpy (fun g => T (13 + 8 * g)) (fun g => S (13 + 8 * g)) 0 0 20) (va_cpy (fun g => T (14 + 8 * g)) (fun g => S (14 + 8 * g)) 0 0 20) (va_cpy (fun g => T (15 + 8 * g)) (fun g => S (15 + 8 * g)) 0 0 20) (fil (fun g => T (16 + 8 * g)) (fun g => S (16 + 8 * g)) (i + 1)) (va_cpy (fun k => if k < 6 then T (2 + k) else 0) (fun k => if k < 6 then S (2 + k) else 0) 0 0 6) (T 8) ++ (pS cy b T)) := congrArg (fun z9 => pD cy a (T 0) (T 1) (va_cpy (fun g => T (9 + 8 * g)) (fun g => S (9 + 8 * g)) 0 0 20) (va_cpy (fun g => T (10 + 8 * g)) (fun g => S (10 + 8 * g)) 0 0 20) (va_cpy (fun g => T (11 + 8 * g)) (fun g => S (11 + 8 * g)) 0 0 20) (va_cpy (fun g => T (12 + 8 * g)) (fun g => S (12 + 8 * g)) 0 0 20) (va_cpy (fun g => T (13 + 8 * g)) (fun g => S (13 + 8 * g)) 0 0 20) (va_cpy (fun g => T (14 + 8 * g)) (fun g => S (14 + 8 * g)) 0 0 20) (va_cpy (fun g => T (15 + 8 * g)) (fun g => S (15 + 8 * g)) 0 0 20) z9 (va_cpy (fun k => if k < 6 then T (2 + k) else 0) (fun k => if k < 6 then S (2 + k) else 0) 0 0 6) (T 8) ++ (pS cy b T)) (show (upd (fil (fun g => T (16 + 8 * g)) (fun g => S (16 + 8 * g)) i) i (T (16 + 8 * i))) = (fil (fun g => T (16 + 8 * g)) (fun g => S (16 + 8 * g)) (i + 1)) from fil_s (fun g => T (16 + 8 * g)) (fun g => S (16 + 8 * g)) i)
    replace hP13 := (congrArg (fun z9 => va_P D vwCl z9 _) hq9).mp hP13
    replace hD13 := (congrArg (fun z9 => va_D _ z9) hq9).mp hD13
    clear hq9
    refine lv_iinc (v := nI (i + 1)) (lv' := [(2, .int (nI (i + 1))), (0, .ref (a 0)), (1, .ref (b 0))]) hx hb dX1_takeFrom_164 hl2 (k := 0) rfl (nI_inc _) (by decide) rfl (fun ls3 hl3 => ?_)
    clear hl2 ls2
    refine lv_goto (tgt := 146) hx hb dX1_takeFrom_167 (by decide) ?_
    exact ih_146 (i + 1) (by first | omega | assumption | rfl | simp_all) (by (try dsimp only); omega) H13 locs13 ls3 hP13 hD13 hS13 (lv_sub hl3 [0, 1, 2] rfl)

theorem kc_X1_openCount : kV yX1_openCount cX1_openCount 3 (some .int) 0 := ⟨kw_4_43, kw_4_44, kw_1_2, kw_4_45, by decide, by decide, by decide +kernel⟩
set_option maxHeartbeats 4000000 in
set_option maxRecDepth 100000 in
theorem c_X1_openCount (l : Launch) (D : va_G) (cy : Nat → ClassId) (G : Nat → Nat) (sz : Nat) (a : Nat → Nat) (S : Nat → Int32) (n : Nat) (e1 : S 1 = nI n) (hn : n ≤ 20) : Met l yX1_openCount (wm yX1_openCount cX1_openCount 3 (some .int)) { frames := 0, cells := 0, slots := 0, locals := 0 } (va_Pc [.ref (a 0)] (pd D (TY cy) G (pS cy a S) sz)) (va_Qi (fun r (_ : Unit) => r = sm (fun g => if S (16 + 8 * g) = 0 then 1 else 0) n) (fun _ _ => True) (va_A [] sz)) 0 0 (va_A [] sz) := by
  refine mk_rd (by decide) RX1 rfl (Nat.le_of_ble_eq_true rfl) [(0, .ref (a 0))] rfl ?_
  intro p e s m below meth c hx hb hml hown hr hlocks hw hsz hA hG hK H0 locs0 hP0 hS0 ls0 hl0
  refine lv_iconst (v := 0) hx hb dX1_openCount_0 (by decide) ?_
  refine lv_istore_n (lv' := [(1, .int 0), (0, .ref (a 0))]) hx hb dX1_openCount_1 rfl hl0 (by decide) rfl (fun ls1 hl1 => ?_)
  clear hl0 ls0
  refine lv_iconst (v := 0) hx hb dX1_openCount_2 (by decide) ?_
  refine lv_istore_n (lv' := [(2, .int 0), (1, .int 0), (0, .ref (a 0))]) hx hb dX1_openCount_3 rfl hl1 (by decide) rfl (fun ls2 hl2 => ?_)
  clear hl1 ls1
  refine rlp (ι := Nat) (nL := 3) (ws := pS cy a S) (fun x9 => (x9 ≤ n)) (fun x9 => [(2, .int (nI x9)), (1, .int (sm (fun g => if S (16 + 8 * g) = 0 then 1 else 0) x9)), (0, .ref (a 0))]) (fun x9 => []) (fun x9 => n - x9) 4 ?_ 0 (by first | omega | assumption | rfl | simp_all) rfl hP0 hS0 (lv_sub hl2 [0, 1, 2] rfl)
  clear hP0 hS0 locs0 H0 hl2 ls2
  intro x9 hI ih_4 H1 locs1 ls3 hP1 hS1 hl3
  obtain ⟨i, rfl⟩ : ∃ z9, z9 = x9 := ⟨_, rfl⟩
  have hi := hI
  replace hi : i ≤ n := hi
  replace hP1 : va_P D vwCl (pS cy a S) H1 := hP1
  replace hl3 : lv_has ls3 3 [(2, .int (nI i)), (1, .int (sm (fun g => if S (16 + 8 * g) = 0 then 1 else 0) i)), (0, .ref (a 0))] := hl3
  show W p l e _ s m _ below meth c _ _ _ _ _ (F0 m 4 ls3 [])
  refine lv_iload_n hx hb dX1_openCount_4 rfl (lv_at hl3 0 rfl) ?_
  refine lv_aload_n hx hb dX1_openCount_5 rfl (lv_at hl3 2 rfl) ?_
  refine va_get (D := D) (ci := 1) (v := .int (S 1)) (C := RX1) (T := TX1) (N := 12) hx hb hw iX1 hown hK hP1 0 rfl rfl 1 (by decide) (hw _ kw_1_34) (fun _ h9 => h9) rfl dX1_openCount_6 ?_
  refine tp (show (S 1) = nI n from e1) ?_
  refine ln_ge (tgt := 35) i n rfl rfl (by omega) (by omega) hx hb dX1_openCount_9 (by decide) (fun c_9 => ?_) (fun c_9 => ?_)
  · refine lv_iload_n hx hb dX1_openCount_35 rfl (lv_at hl3 1 rfl) ?_
    exact rd_i hx hb hr hlocks hS1 dX1_openCount_36 (by obtain rfl : i = n := (by omega); rfl)
  · refine lv_iload_n hx hb dX1_openCount_12 rfl (lv_at hl3 1 rfl) ?_
    refine lv_aload_n hx hb dX1_openCount_13 rfl (lv_at hl3 2 rfl) ?_
    refine va_get (D := D) (ci := 1) (v := .ref (a 8)) (C := RX1) (T := TX1) (N := 12) hx hb hw iX1 hown hK hP1 0 rfl rfl 9 (by decide) (hw _ kw_1_57) (fun _ h9 => h9) rfl dX1_openCount_14 ?_
    refine lv_iload_n hx hb dX1_openCount_17 rfl (lv_at hl3 0 rfl) ?_
    refine ald_z (f := fun g => S (16 + 8 * g)) hx hb hK hP1 8 2 rfl rfl i rfl (by first | omega | assumption) (by decide) dX1_openCount_18 ?_
    refine lv_if_eq (tgt := 26) hx hb dX1_openCount_19 (by decide) (fun c_19 => ?_) (fun c_19 => ?_)
    · refine lv_iconst (v := 1) hx hb dX1_openCount_26 (by decide) ?_
      refine lv_iadd hx hb dX1_openCount_27 ?_
      refine tp (show ((sm (fun g => if S (16 + 8 * g) = 0 then 1 else 0) i) + 1) = sm (fun g => if S (16 + 8 * g) = 0 then 1 else 0) (i + 1) from by simp [sm, c_9, c_19]) ?_
      refine lv_istore_n (lv' := [(1, .int (sm (fun g => if S (16 + 8 * g) = 0 then 1 else 0) (i + 1))), (2, .int (nI i)), (0, .ref (a 0))]) hx hb dX1_openCount_28 rfl hl3 (by decide) rfl (fun ls4 hl4 => ?_)
      clear hl3 ls3
      refine lv_iinc (v := nI (i + 1)) (lv' := [(2, .int (nI (i + 1))), (1, .int (sm (fun g => if S (16 + 8 * g) = 0 then 1 else 0) (i + 1))), (0, .ref (a 0))]) hx hb dX1_openCount_29 hl4 (k := 1) rfl (nI_inc _) (by decide) rfl (fun ls5 hl5 => ?_)
      clear hl4 ls4
      refine lv_goto (tgt := 4) hx hb dX1_openCount_32 (by decide) ?_
      exact ih_4 (i + 1) (by first | omega | assumption | rfl | simp_all) (by (try dsimp only); omega) H1 locs1 ls5 hP1 hS1 (lv_sub hl5 [0, 1, 2] rfl)
    · refine lv_iconst (v := 0) hx hb dX1_openCount_22 (by decide) ?_
      refine lv_goto (tgt := 27) hx hb dX1_openCount_23 (by decide) ?_
      refine lv_iadd hx hb dX1_openCount_27 ?_
      refine tp (show ((sm (fun g => if S (16 + 8 * g) = 0 then 1 else 0) i) + 0) = sm (fun g => if S (16 + 8 * g) = 0 then 1 else 0) (i + 1) from by simp [sm, c_9, c_19]) ?_
      refine lv_istore_n (lv' := [(1, .int (sm (fun g => if S (16 + 8 * g) = 0 then 1 else 0) (i + 1))), (2, .int (nI i)), (0, .ref (a 0))]) hx hb dX1_openCount_28 rfl hl3 (by decide) rfl (fun ls4 hl4 => ?_)
      clear hl3 ls3
      refine lv_iinc (v := nI (i + 1)) (lv' := [(2, .int (nI (i + 1))), (1, .int (sm (fun g => if S (16 + 8 * g) = 0 then 1 else 0) (i + 1))), (0, .ref (a 0))]) hx hb dX1_openCount_29 hl4 (k := 1) rfl (nI_inc _) (by decide) rfl (fun ls5 hl5 => ?_)
      clear hl4 ls4
      refine lv_goto (tgt := 4) hx hb dX1_openCount_32 (by decide) ?_
      exact ih_4 (i + 1) (by first | omega | assumption | rfl | simp_all) (by (try dsimp only); omega) H1 locs1 ls5 hP1 hS1 (lv_sub hl5 [0, 1, 2] rfl)

theorem kc_X1_openCosts : kV yX1_openCosts cX1_openCosts 3 (some .int) 0 := ⟨kw_4_51, kw_4_52, kw_1_2, kw_4_53, by decide, by decide, by decide +kernel⟩
set_option maxHeartbeats 4000000 in
set_option maxRecDepth 100000 in
theorem c_X1_openCosts (l : Launch) (D : va_G) (cy : Nat → ClassId) (G : Nat → Nat) (sz : Nat) (a : Nat → Nat) (S : Nat → Int32) (n : Nat) (e1 : S 1 = nI n) (hn : n ≤ 20) : Met l yX1_openCosts (wm yX1_openCosts cX1_openCosts 3 (some .int)) { frames := 0, cells := 0, slots := 0, locals := 0 } (va_Pc [.ref (a 0)] (pd D (TY cy) G (pS cy a S) sz)) (va_Qi (fun r (_ : Unit) => r = sm (fun g => if S (16 + 8 * g) = 0 then S (15 + 8 * g) else 0) n) (fun _ _ => True) (va_A [] sz)) 0 0 (va_A [] sz) := by
  refine mk_rd (by decide) RX1 rfl (Nat.le_of_ble_eq_true rfl) [(0, .ref (a 0))] rfl ?_
  intro p e s m below meth c hx hb hml hown hr hlocks hw hsz hA hG hK H0 locs0 hP0 hS0 ls0 hl0
  refine lv_iconst (v := 0) hx hb dX1_openCosts_0 (by decide) ?_
  refine lv_istore_n (lv' := [(1, .int 0), (0, .ref (a 0))]) hx hb dX1_openCosts_1 rfl hl0 (by decide) rfl (fun ls1 hl1 => ?_)
  clear hl0 ls0
  refine lv_iconst (v := 0) hx hb dX1_openCosts_2 (by decide) ?_
  refine lv_istore_n (lv' := [(2, .int 0), (1, .int 0), (0, .ref (a 0))]) hx hb dX1_openCosts_3 rfl hl1 (by decide) rfl (fun ls2 hl2 => ?_)
  clear hl1 ls1
  refine rlp (ι := Nat) (nL := 3) (ws := pS cy a S) (fun x9 => (x9 ≤ n)) (fun x9 => [(2, .int (nI x9)), (1, .int (sm (fun g => if S (16 + 8 * g) = 0 then S (15 + 8 * g) else 0) x9)), (0, .ref (a 0))]) (fun x9 => []) (fun x9 => n - x9) 4 ?_ 0 (by first | omega | assumption | rfl | simp_all) rfl hP0 hS0 (lv_sub hl2 [0, 1, 2] rfl)
  clear hP0 hS0 locs0 H0 hl2 ls2
  intro x9 hI ih_4 H1 locs1 ls3 hP1 hS1 hl3
  obtain ⟨i, rfl⟩ : ∃ z9, z9 = x9 := ⟨_, rfl⟩
  have hi := hI
  replace hi : i ≤ n := hi
  replace hP1 : va_P D vwCl (pS cy a S) H1 := hP1
  replace hl3 : lv_has ls3 3 [(2, .int (nI i)), (1, .int (sm (fun g => if S (16 + 8 * g) = 0 then S (15 + 8 * g) else 0) i)), (0, .ref (a 0))] := hl3
  show W p l e _ s m _ below meth c _ _ _ _ _ (F0 m 4 ls3 [])
  refine lv_iload_n hx hb dX1_openCosts_4 rfl (lv_at hl3 0 rfl) ?_
  refine lv_aload_n hx hb dX1_openCosts_5 rfl (lv_at hl3 2 rfl) ?_
  refine va_get (D := D) (ci := 1) (v := .int (S 1)) (C := RX1) (T := TX1) (N := 12) hx hb hw iX1 hown hK hP1 0 rfl rfl 1 (by decide) (hw _ kw_1_34) (fun _ h9 => h9) rfl dX1_openCosts_6 ?_
  refine tp (show (S 1) = nI n from e1) ?_
  refine ln_ge (tgt := 40) i n rfl rfl (by omega) (by omega) hx hb dX1_openCosts_9 (by decide) (fun c_9 => ?_) (fun c_9 => ?_)
  · refine lv_iload_n hx hb dX1_openCosts_40 rfl (lv_at hl3 1 rfl) ?_
    exact rd_i hx hb hr hlocks hS1 dX1_openCosts_41 (by obtain rfl : i = n := (by omega); rfl)
  · refine lv_iload_n hx hb dX1_openCosts_12 rfl (lv_at hl3 1 rfl) ?_
    refine lv_aload_n hx hb dX1_openCosts_13 rfl (lv_at hl3 2 rfl) ?_
    refine va_get (D := D) (ci := 1) (v := .ref (a 8)) (C := RX1) (T := TX1) (N := 12) hx hb hw iX1 hown hK hP1 0 rfl rfl 9 (by decide) (hw _ kw_1_57) (fun _ h9 => h9) rfl dX1_openCosts_14 ?_
    refine lv_iload_n hx hb dX1_openCosts_17 rfl (lv_at hl3 0 rfl) ?_
    refine ald_z (f := fun g => S (16 + 8 * g)) hx hb hK hP1 8 2 rfl rfl i rfl (by first | omega | assumption) (by decide) dX1_openCosts_18 ?_
    refine lv_if_eq (tgt := 26) hx hb dX1_openCosts_19 (by decide) (fun c_19 => ?_) (fun c_19 => ?_)
    · refine lv_aload_n hx hb dX1_openCosts_26 rfl (lv_at hl3 2 rfl) ?_
      refine va_get (D := D) (ci := 1) (v := .ref (a 7)) (C := RX1) (T := TX1) (N := 12) hx hb hw iX1 hown hK hP1 0 rfl rfl 8 (by decide) (hw _ kw_1_54) (fun _ h9 => h9) rfl dX1_openCosts_27 ?_
      refine lv_iload_n hx hb dX1_openCosts_30 rfl (lv_at hl3 0 rfl) ?_
      refine ald_i (f := fun g => S (15 + 8 * g)) hx hb hK hP1 7 0 rfl rfl i rfl (by first | omega | assumption) (by decide) dX1_openCosts_31 ?_
      refine lv_iadd hx hb dX1_openCosts_32 ?_
      refine tp (show ((sm (fun g => if S (16 + 8 * g) = 0 then S (15 + 8 * g) else 0) i) + (S (15 + 8 * i))) = sm (fun g => if S (16 + 8 * g) = 0 then S (15 + 8 * g) else 0) (i + 1) from by simp [sm, c_9, c_19]) ?_
      refine lv_istore_n (lv' := [(1, .int (sm (fun g => if S (16 + 8 * g) = 0 then S (15 + 8 * g) else 0) (i + 1))), (2, .int (nI i)), (0, .ref (a 0))]) hx hb dX1_openCosts_33 rfl hl3 (by decide) rfl (fun ls4 hl4 => ?_)
      clear hl3 ls3
      refine lv_iinc (v := nI (i + 1)) (lv' := [(2, .int (nI (i + 1))), (1, .int (sm (fun g => if S (16 + 8 * g) = 0 then S (15 + 8 * g) else 0) (i + 1))), (0, .ref (a 0))]) hx hb dX1_openCosts_34 hl4 (k := 1) rfl (nI_inc _) (by decide) rfl (fun ls5 hl5 => ?_)
      clear hl4 ls4
      refine lv_goto (tgt := 4) hx hb dX1_openCosts_37 (by decide) ?_
      exact ih_4 (i + 1) (by first | omega | assumption | rfl | simp_all) (by (try dsimp only); omega) H1 locs1 ls5 hP1 hS1 (lv_sub hl5 [0, 1, 2] rfl)
    · refine lv_iconst (v := 0) hx hb dX1_openCosts_22 (by decide) ?_
      refine lv_goto (tgt := 32) hx hb dX1_openCosts_23 (by decide) ?_
      refine lv_iadd hx hb dX1_openCosts_32 ?_
      refine tp (show ((sm (fun g => if S (16 + 8 * g) = 0 then S (15 + 8 * g) else 0) i) + 0) = sm (fun g => if S (16 + 8 * g) = 0 then S (15 + 8 * g) else 0) (i + 1) from by simp [sm, c_9, c_19]) ?_
      refine lv_istore_n (lv' := [(1, .int (sm (fun g => if S (16 + 8 * g) = 0 then S (15 + 8 * g) else 0) (i + 1))), (2, .int (nI i)), (0, .ref (a 0))]) hx hb dX1_openCosts_33 rfl hl3 (by decide) rfl (fun ls4 hl4 => ?_)
      clear hl3 ls3
      refine lv_iinc (v := nI (i + 1)) (lv' := [(2, .int (nI (i + 1))), (1, .int (sm (fun g => if S (16 + 8 * g) = 0 then S (15 + 8 * g) else 0) (i + 1))), (0, .ref (a 0))]) hx hb dX1_openCosts_34 hl4 (k := 1) rfl (nI_inc _) (by decide) rfl (fun ls5 hl5 => ?_)
      clear hl4 ls4
      refine lv_goto (tgt := 4) hx hb dX1_openCosts_37 (by decide) ?_
      exact ih_4 (i + 1) (by first | omega | assumption | rfl | simp_all) (by (try dsimp only); omega) H1 locs1 ls5 hP1 hS1 (lv_sub hl5 [0, 1, 2] rfl)

theorem kc_X1_allWidths : kV yX1_allWidths cX1_allWidths 3 (some .int) 0 := ⟨kw_4_47, kw_4_48, kw_1_2, kw_4_49, by decide, by decide, by decide +kernel⟩
set_option maxHeartbeats 4000000 in
set_option maxRecDepth 100000 in
theorem c_X1_allWidths (l : Launch) (D : va_G) (cy : Nat → ClassId) (G : Nat → Nat) (sz : Nat) (a : Nat → Nat) (S : Nat → Int32) (n : Nat) (e1 : S 1 = nI n) (hn : n ≤ 20) : Met l yX1_allWidths (wm yX1_allWidths cX1_allWidths 3 (some .int)) { frames := 0, cells := 0, slots := 0, locals := 0 } (va_Pc [.ref (a 0)] (pd D (TY cy) G (pS cy a S) sz)) (va_Qi (fun r (_ : Unit) => r = sm (fun g => S (12 + 8 * g)) n) (fun _ _ => True) (va_A [] sz)) 0 0 (va_A [] sz) := by
  refine mk_rd (by decide) RX1 rfl (Nat.le_of_ble_eq_true rfl) [(0, .ref (a 0))] rfl ?_
  intro p e s m below meth c hx hb hml hown hr hlocks hw hsz hA hG hK H0 locs0 hP0 hS0 ls0 hl0
  refine lv_iconst (v := 0) hx hb dX1_allWidths_0 (by decide) ?_
  refine lv_istore_n (lv' := [(1, .int 0), (0, .ref (a 0))]) hx hb dX1_allWidths_1 rfl hl0 (by decide) rfl (fun ls1 hl1 => ?_)
  clear hl0 ls0
  refine lv_iconst (v := 0) hx hb dX1_allWidths_2 (by decide) ?_
  refine lv_istore_n (lv' := [(2, .int 0), (1, .int 0), (0, .ref (a 0))]) hx hb dX1_allWidths_3 rfl hl1 (by decide) rfl (fun ls2 hl2 => ?_)
  clear hl1 ls1
  refine rlp (ι := Nat) (nL := 3) (ws := pS cy a S) (fun x9 => (x9 ≤ n)) (fun x9 => [(2, .int (nI x9)), (1, .int (sm (fun g => S (12 + 8 * g)) x9)), (0, .ref (a 0))]) (fun x9 => []) (fun x9 => n - x9) 4 ?_ 0 (by first | omega | assumption | rfl | simp_all) rfl hP0 hS0 (lv_sub hl2 [0, 1, 2] rfl)
  clear hP0 hS0 locs0 H0 hl2 ls2
  intro x9 hI ih_4 H1 locs1 ls3 hP1 hS1 hl3
  obtain ⟨i, rfl⟩ : ∃ z9, z9 = x9 := ⟨_, rfl⟩
  have hi := hI
  replace hi : i ≤ n := hi
  replace hP1 : va_P D vwCl (pS cy a S) H1 := hP1
  replace hl3 : lv_has ls3 3 [(2, .int (nI i)), (1, .int (sm (fun g => S (12 + 8 * g)) i)), (0, .ref (a 0))] := hl3
  show W p l e _ s m _ below meth c _ _ _ _ _ (F0 m 4 ls3 [])
  refine lv_iload_n hx hb dX1_allWidths_4 rfl (lv_at hl3 0 rfl) ?_
  refine lv_aload_n hx hb dX1_allWidths_5 rfl (lv_at hl3 2 rfl) ?_
  refine va_get (D := D) (ci := 1) (v := .int (S 1)) (C := RX1) (T := TX1) (N := 12) hx hb hw iX1 hown hK hP1 0 rfl rfl 1 (by decide) (hw _ kw_1_34) (fun _ h9 => h9) rfl dX1_allWidths_6 ?_
  refine tp (show (S 1) = nI n from e1) ?_
  refine ln_ge (tgt := 27) i n rfl rfl (by omega) (by omega) hx hb dX1_allWidths_9 (by decide) (fun c_9 => ?_) (fun c_9 => ?_)
  · refine lv_iload_n hx hb dX1_allWidths_27 rfl (lv_at hl3 1 rfl) ?_
    exact rd_i hx hb hr hlocks hS1 dX1_allWidths_28 (by obtain rfl : i = n := (by omega); rfl)
  · refine lv_iload_n hx hb dX1_allWidths_12 rfl (lv_at hl3 1 rfl) ?_
    refine lv_aload_n hx hb dX1_allWidths_13 rfl (lv_at hl3 2 rfl) ?_
    refine va_get (D := D) (ci := 1) (v := .ref (a 4)) (C := RX1) (T := TX1) (N := 12) hx hb hw iX1 hown hK hP1 0 rfl rfl 5 (by decide) (hw _ kw_1_47) (fun _ h9 => h9) rfl dX1_allWidths_14 ?_
    refine lv_iload_n hx hb dX1_allWidths_17 rfl (lv_at hl3 0 rfl) ?_
    refine ald_i (f := fun g => S (12 + 8 * g)) hx hb hK hP1 4 0 rfl rfl i rfl (by first | omega | assumption) (by decide) dX1_allWidths_18 ?_
    refine lv_iadd hx hb dX1_allWidths_19 ?_
    refine tp (show ((sm (fun g => S (12 + 8 * g)) i) + (S (12 + 8 * i))) = sm (fun g => S (12 + 8 * g)) (i + 1) from by simp [sm, c_9]) ?_
    refine lv_istore_n (lv' := [(1, .int (sm (fun g => S (12 + 8 * g)) (i + 1))), (2, .int (nI i)), (0, .ref (a 0))]) hx hb dX1_allWidths_20 rfl hl3 (by decide) rfl (fun ls4 hl4 => ?_)
    clear hl3 ls3
    refine lv_iinc (v := nI (i + 1)) (lv' := [(2, .int (nI (i + 1))), (1, .int (sm (fun g => S (12 + 8 * g)) (i + 1))), (0, .ref (a 0))]) hx hb dX1_allWidths_21 hl4 (k := 1) rfl (nI_inc _) (by decide) rfl (fun ls5 hl5 => ?_)
    clear hl4 ls4
    refine lv_goto (tgt := 4) hx hb dX1_allWidths_24 (by decide) ?_
    exact ih_4 (i + 1) (by first | omega | assumption | rfl | simp_all) (by (try dsimp only); omega) H1 locs1 ls5 hP1 hS1 (lv_sub hl5 [0, 1, 2] rfl)

theorem kc_X1_init : kI yX1_init cX1_init 1 0 := ⟨kw_1_27, kw_1_2, kw_1_28, rfl, by decide, by decide, by decide +kernel⟩
set_option maxHeartbeats 4000000 in
set_option maxRecDepth 100000 in
theorem c_X1_init (l : Launch) (D : va_G) (cy : Nat → ClassId) (G : Nat → Nat) (sz : Nat) (h : Nat)  : Met l yX1_init (wm yX1_init cX1_init 1 none) { frames := 1, cells := 9, slots := 166, locals := 20 } (va_Pc [.ref h] (pr D (TY cy) G ([(h, .inr (1, [.int 0, .int 0, .null, .null, .null, .null, .null, .null, .null, .null, .null, .int 0]))]) sz)) (va_Qv (fun (u : (Nat → Nat)) => u 0 = h) (fun (u : (Nat → Nat)) t => po D (va_A ([(h, .inr (1, [.int 0, .int 0, .null, .null, .null, .null, .null, .null, .null, .null, .null, .int 0]))]) sz) (pS cy u S0) t) (va_A ([(h, .inr (1, [.int 0, .int 0, .null, .null, .null, .null, .null, .null, .null, .null, .null, .int 0]))]) sz)) 9 166 (va_A ([(h, .inr (1, [.int 0, .int 0, .null, .null, .null, .null, .null, .null, .null, .null, .null, .int 0]))]) sz) := by
  refine mk_rw (by decide) RX1 rfl (Nat.le_of_ble_eq_true rfl) [(0, .ref h)] rfl ?_
  intro p e s m below meth c hx hb hml hown hr hlocks hin hw hsz hA hG hK H0 locs0 hP0 hD0 hS0 ls0 hl0
  have hin : meth.name = "<init>" := hin
  refine lv_aload_n hx hb dX1_init_0 rfl (lv_at hl0 0 rfl) ?_
  refine W.objInit hx hb hown (hw _ kw_1_29) (hw _ kw_1_22) (hw _ kw_1_23) rfl (by rw [hml]; exact hl0.1) rfl dX1_init_1 (Nat.le_of_ble_eq_true rfl) (Nat.le_of_ble_eq_true rfl) ?_
  refine W.eq (g2 := F0 m 4 ls0 []) rfl ?_
  refine lv_aload_n hx hb dX1_init_4 rfl (lv_at hl0 0 rfl) ?_
  refine lv_iconst (v := 0) hx hb dX1_init_5 (by decide) ?_
  refine pt (D := D) (ci := 1) (v := .int 0) (ty := .int) (C := RX1) (T := TX1) (N := 12) (ws' := [(h, .inr (1, [.int 0, .int 0, .null, .null, .null, .null, .null, .null, .null, .null, .null, .int 0]))]) hx hb hw iX1 tyX1 tyX1_ok nmX1 hown hK hP0 hD0 hS0 0 rfl rfl 0 (by decide) kw_1_30 (fun _ h9 => h9) rfl (by decide +kernel) rfl rfl (Nat.le_of_ble_eq_true rfl) rfl dX1_init_6 (fun H1 locs1 hP1 hD1 hS1 => ?_)
  clear hP0 hD0 hS0 locs0 H0
  refine lv_aload_n hx hb dX1_init_9 rfl (lv_at hl0 0 rfl) ?_
  refine lv_iconst (v := 0) hx hb dX1_init_10 (by decide) ?_
  refine pt (D := D) (ci := 1) (v := .int 0) (ty := .int) (C := RX1) (T := TX1) (N := 12) (ws' := [(h, .inr (1, [.int 0, .int 0, .null, .null, .null, .null, .null, .null, .null, .null, .null, .int 0]))]) hx hb hw iX1 tyX1 tyX1_ok nmX1 hown hK hP1 hD1 hS1 0 rfl rfl 1 (by decide) kw_1_34 (fun _ h9 => h9) rfl (by decide +kernel) rfl rfl (Nat.le_of_ble_eq_true rfl) rfl dX1_init_11 (fun H2 locs2 hP2 hD2 hS2 => ?_)
  clear hP1 hD1 hS1 locs1 H1
  refine lv_aload_n hx hb dX1_init_14 rfl (lv_at hl0 0 rfl) ?_
  refine lv_bipush (v := 20) hx hb dX1_init_15 (by decide) ?_
  refine nwa (atype := .int) (N' := 20) (a0 := (20, .inl (fun _ => 0))) hx hb kw_1_92 hw rfl hK hP2 hD2 hS2 hA 0 rfl (fun c9 => nwa_int c9 20) (by decide) (by decide) (by decide) (Nat.le_of_ble_eq_true rfl) (Nat.le_of_ble_eq_true rfl) dX1_init_17 (fun q17 H3 locs3 hP3 hD3 hS3 => ?_)
  clear hP2 hD2 hS2 locs2 H2
  replace hP3 : va_P D vwCl ([(h, .inr (1, [.int 0, .int 0, .null, .null, .null, .null, .null, .null, .null, .null, .null, .int 0])), ia cy q17 20 (fun _ => 0)]) H3 := hP3
  replace hD3 : va_D (va_A _ sz) ([(h, .inr (1, [.int 0, .int 0, .null, .null, .null, .null, .null, .null, .null, .null, .null, .int 0])), ia cy q17 20 (fun _ => 0)]) := hD3
  refine ptF (D := D) (ci := 1) (v := .ref q17) (ty := tyX1 2) (C := RX1) (T := TX1) (N := 12) (ws' := [(h, .inr (1, [.int 0, .int 0, .ref q17, .null, .null, .null, .null, .null, .null, .null, .null, .int 0])), ia cy q17 20 (fun _ => 0)]) hx hb hw iX1 tyX1 tyX1_ok nmX1 hown hK hP3 hD3 hS3 0 rfl rfl 2 (by decide) kw_1_39 (fun _ h9 => h9) rfl hin rfl (by decide +kernel) rfl rfl (Nat.le_of_ble_eq_true rfl) rfl dX1_init_19 (fun H4 locs4 hP4 hD4 hS4 => ?_)
  clear hP3 hD3 hS3 locs3 H3
  refine lv_aload_n hx hb dX1_init_22 rfl (lv_at hl0 0 rfl) ?_
  refine lv_bipush (v := 20) hx hb dX1_init_23 (by decide) ?_
  refine nwa (atype := .int) (N' := 20) (a0 := (20, .inl (fun _ => 0))) hx hb kw_1_92 hw rfl hK hP4 hD4 hS4 hA 0 rfl (fun c9 => nwa_int c9 20) (by decide) (by decide) (by decide) (Nat.le_of_ble_eq_true rfl) (Nat.le_of_ble_eq_true rfl) dX1_init_25 (fun q25 H5 locs5 hP5 hD5 hS5 => ?_)
  clear hP4 hD4 hS4 locs4 H4
  replace hP5 : va_P D vwCl ([(h, .inr (1, [.int 0, .int 0, .ref q17, .null, .null, .null, .null, .null, .null, .null, .null, .int 0])), ia cy q17 20 (fun _ => 0), ia cy q25 20 (fun _ => 0)]) H5 := hP5
  replace hD5 : va_D (va_A _ sz) ([(h, .inr (1, [.int 0, .int 0, .ref q17, .null, .null, .null, .null, .null, .null, .null, .null, .int 0])), ia cy q17 20 (fun _ => 0), ia cy q25 20 (fun _ => 0)]) := hD5
  refine ptF (D := D) (ci := 1) (v := .ref q25) (ty := tyX1 3) (C := RX1) (T := TX1) (N := 12) (ws' := [(h, .inr (1, [.int 0, .int 0, .ref q17, .ref q25, .null, .null, .null, .null, .null, .null, .null, .int 0])), ia cy q17 20 (fun _ => 0), ia cy q25 20 (fun _ => 0)]) hx hb hw iX1 tyX1 tyX1_ok nmX1 hown hK hP5 hD5 hS5 0 rfl rfl 3 (by decide) kw_1_41 (fun _ h9 => h9) rfl hin rfl (by decide +kernel) rfl rfl (Nat.le_of_ble_eq_true rfl) rfl dX1_init_27 (fun H6 locs6 hP6 hD6 hS6 => ?_)
  clear hP5 hD5 hS5 locs5 H5
  refine lv_aload_n hx hb dX1_init_30 rfl (lv_at hl0 0 rfl) ?_
  refine lv_bipush (v := 20) hx hb dX1_init_31 (by decide) ?_
  refine nwa (atype := .int) (N' := 20) (a0 := (20, .inl (fun _ => 0))) hx hb kw_1_92 hw rfl hK hP6 hD6 hS6 hA 0 rfl (fun c9 => nwa_int c9 20) (by decide) (by decide) (by decide) (Nat.le_of_ble_eq_true rfl) (Nat.le_of_ble_eq_true rfl) dX1_init_33 (fun q33 H7 locs7 hP7 hD7 hS7 => ?_)
  clear hP6 hD6 hS6 locs6 H6
  replace hP7 : va_P D vwCl ([(h, .inr (1, [.int 0, .int 0, .ref q17, .ref q25, .null, .null, .null, .null, .null, .null, .null, .int 0])), ia cy q17 20 (fun _ => 0), ia cy q25 20 (fun _ => 0), ia cy q33 20 (fun _ => 0)]) H7 := hP7
  replace hD7 : va_D (va_A _ sz) ([(h, .inr (1, [.int 0, .int 0, .ref q17, .ref q25, .null, .null, .null, .null, .null, .null, .null, .int 0])), ia cy q17 20 (fun _ => 0), ia cy q25 20 (fun _ => 0), ia cy q33 20 (fun _ => 0)]) := hD7
  refine ptF (D := D) (ci := 1) (v := .ref q33) (ty := tyX1 4) (C := RX1) (T := TX1) (N := 12) (ws' := [(h, .inr (1, [.int 0, .int 0, .ref q17, .ref q25, .ref q33, .null, .null, .null, .null, .null, .null, .int 0])), ia cy q17 20 (fun _ => 0), ia cy q25 20 (fun _ => 0), ia cy q33 20 (fun _ => 0)]) hx hb hw iX1 tyX1 tyX1_ok nmX1 hown hK hP7 hD7 hS7 0 rfl rfl 4 (by decide) kw_1_44 (fun _ h9 => h9) rfl hin rfl (by decide +kernel) rfl rfl (Nat.le_of_ble_eq_true rfl) rfl dX1_init_35 (fun H8 locs8 hP8 hD8 hS8 => ?_)
  clear hP7 hD7 hS7 locs7 H7
  refine lv_aload_n hx hb dX1_init_38 rfl (lv_at hl0 0 rfl) ?_
  refine lv_bipush (v := 20) hx hb dX1_init_39 (by decide) ?_
  refine nwa (atype := .int) (N' := 20) (a0 := (20, .inl (fun _ => 0))) hx hb kw_1_92 hw rfl hK hP8 hD8 hS8 hA 0 rfl (fun c9 => nwa_int c9 20) (by decide) (by decide) (by decide) (Nat.le_of_ble_eq_true rfl) (Nat.le_of_ble_eq_true rfl) dX1_init_41 (fun q41 H9 locs9 hP9 hD9 hS9 => ?_)
  clear hP8 hD8 hS8 locs8 H8
  replace hP9 : va_P D vwCl ([(h, .inr (1, [.int 0, .int 0, .ref q17, .ref q25, .ref q33, .null, .null, .null, .null, .null, .null, .int 0])), ia cy q17 20 (fun _ => 0), ia cy q25 20 (fun _ => 0), ia cy q33 20 (fun _ => 0), ia cy q41 20 (fun _ => 0)]) H9 := hP9
  replace hD9 : va_D (va_A _ sz) ([(h, .inr (1, [.int 0, .int 0, .ref q17, .ref q25, .ref q33, .null, .null, .null, .null, .null, .null, .int 0])), ia cy q17 20 (fun _ => 0), ia cy q25 20 (fun _ => 0), ia cy q33 20 (fun _ => 0), ia cy q41 20 (fun _ => 0)]) := hD9
  refine ptF (D := D) (ci := 1) (v := .ref q41) (ty := tyX1 5) (C := RX1) (T := TX1) (N := 12) (ws' := [(h, .inr (1, [.int 0, .int 0, .ref q17, .ref q25, .ref q33, .ref q41, .null, .null, .null, .null, .null, .int 0])), ia cy q17 20 (fun _ => 0), ia cy q25 20 (fun _ => 0), ia cy q33 20 (fun _ => 0), ia cy q41 20 (fun _ => 0)]) hx hb hw iX1 tyX1 tyX1_ok nmX1 hown hK hP9 hD9 hS9 0 rfl rfl 5 (by decide) kw_1_47 (fun _ h9 => h9) rfl hin rfl (by decide +kernel) rfl rfl (Nat.le_of_ble_eq_true rfl) rfl dX1_init_43 (fun H10 locs10 hP10 hD10 hS10 => ?_)
  clear hP9 hD9 hS9 locs9 H9
  refine lv_aload_n hx hb dX1_init_46 rfl (lv_at hl0 0 rfl) ?_
  refine lv_bipush (v := 20) hx hb dX1_init_47 (by decide) ?_
  refine nwa (atype := .int) (N' := 20) (a0 := (20, .inl (fun _ => 0))) hx hb kw_1_92 hw rfl hK hP10 hD10 hS10 hA 0 rfl (fun c9 => nwa_int c9 20) (by decide) (by decide) (by decide) (Nat.le_of_ble_eq_true rfl) (Nat.le_of_ble_eq_true rfl) dX1_init_49 (fun q49 H11 locs11 hP11 hD11 hS11 => ?_)
  clear hP10 hD10 hS10 locs10 H10
  replace hP11 : va_P D vwCl ([(h, .inr (1, [.int 0, .int 0, .ref q17, .ref q25, .ref q33, .ref q41, .null, .null, .null, .null, .null, .int 0])), ia cy q17 20 (fun _ => 0), ia cy q25 20 (fun _ => 0), ia cy q33 20 (fun _ => 0), ia cy q41 20 (fun _ => 0), ia cy q49 20 (fun _ => 0)]) H11 := hP11
  replace hD11 : va_D (va_A _ sz) ([(h, .inr (1, [.int 0, .int 0, .ref q17, .ref q25, .ref q33, .ref q41, .null, .null, .null, .null, .null, .int 0])), ia cy q17 20 (fun _ => 0), ia cy q25 20 (fun _ => 0), ia cy q33 20 (fun _ => 0), ia cy q41 20 (fun _ => 0), ia cy q49 20 (fun _ => 0)]) := hD11
  refine ptF (D := D) (ci := 1) (v := .ref q49) (ty := tyX1 6) (C := RX1) (T := TX1) (N := 12) (ws' := [(h, .inr (1, [.int 0, .int 0, .ref q17, .ref q25, .ref q33, .ref q41, .ref q49, .null, .null, .null, .null, .int 0])), ia cy q17 20 (fun _ => 0), ia cy q25 20 (fun _ => 0), ia cy q33 20 (fun _ => 0), ia cy q41 20 (fun _ => 0), ia cy q49 20 (fun _ => 0)]) hx hb hw iX1 tyX1 tyX1_ok nmX1 hown hK hP11 hD11 hS11 0 rfl rfl 6 (by decide) kw_1_50 (fun _ h9 => h9) rfl hin rfl (by decide +kernel) rfl rfl (Nat.le_of_ble_eq_true rfl) rfl dX1_init_51 (fun H12 locs12 hP12 hD12 hS12 => ?_)
  clear hP11 hD11 hS11 locs11 H11
  refine lv_aload_n hx hb dX1_init_54 rfl (lv_at hl0 0 rfl) ?_
  refine lv_bipush (v := 20) hx hb dX1_init_55 (by decide) ?_
  refine nwa (atype := .int) (N' := 20) (a0 := (20, .inl (fun _ => 0))) hx hb kw_1_92 hw rfl hK hP12 hD12 hS12 hA 0 rfl (fun c9 => nwa_int c9 20) (by decide) (by decide) (by decide) (Nat.le_of_ble_eq_true rfl) (Nat.le_of_ble_eq_true rfl) dX1_init_57 (fun q57 H13 locs13 hP13 hD13 hS13 => ?_)
  clear hP12 hD12 hS12 locs12 H12
  replace hP13 : va_P D vwCl ([(h, .inr (1, [.int 0, .int 0, .ref q17, .ref q25, .ref q33, .ref q41, .ref q49, .null, .null, .null, .null, .int 0])), ia cy q17 20 (fun _ => 0), ia cy q25 20 (fun _ => 0), ia cy q33 20 (fun _ => 0), ia cy q41 20 (fun _ => 0), ia cy q49 20 (fun _ => 0), ia cy q57 20 (fun _ => 0)]) H13 := hP13
  replace hD13 : va_D (va_A _ sz) ([(h, .inr (1, [.int 0, .int 0, .ref q17, .ref q25, .ref q33, .ref q41, .ref q49, .null, .null, .null, .null, .int 0])), ia cy q17 20 (fun _ => 0), ia cy q25 20 (fun _ => 0), ia cy q33 20 (fun _ => 0), ia cy q41 20 (fun _ => 0), ia cy q49 20 (fun _ => 0), ia cy q57 20 (fun _ => 0)]) := hD13
  refine ptF (D := D) (ci := 1) (v := .ref q57) (ty := tyX1 7) (C := RX1) (T := TX1) (N := 12) (ws' := [(h, .inr (1, [.int 0, .int 0, .ref q17, .ref q25, .ref q33, .ref q41, .ref q49, .ref q57, .null, .null, .null, .int 0])), ia cy q17 20 (fun _ => 0), ia cy q25 20 (fun _ => 0), ia cy q33 20 (fun _ => 0), ia cy q41 20 (fun _ => 0), ia cy q49 20 (fun _ => 0), ia cy q57 20 (fun _ => 0)]) hx hb hw iX1 tyX1 tyX1_ok nmX1 hown hK hP13 hD13 hS13 0 rfl rfl 7 (by decide) kw_1_52 (fun _ h9 => h9) rfl hin rfl (by decide +kernel) rfl rfl (Nat.le_of_ble_eq_true rfl) rfl dX1_init_59 (fun H14 locs14 hP14 hD14 hS14 => ?_)
  clear hP13 hD13 hS13 locs13 H13
  refine lv_aload_n hx hb dX1_init_62 rfl (lv_at hl0 0 rfl) ?_
  refine lv_bipush (v := 20) hx hb dX1_init_63 (by decide) ?_
  refine nwa (atype := .int) (N' := 20) (a0 := (20, .inl (fun _ => 0))) hx hb kw_1_92 hw rfl hK hP14 hD14 hS14 hA 0 rfl (fun c9 => nwa_int c9 20) (by decide) (by decide) (by decide) (Nat.le_of_ble_eq_true rfl) (Nat.le_of_ble_eq_true rfl) dX1_init_65 (fun q65 H15 locs15 hP15 hD15 hS15 => ?_)
  clear hP14 hD14 hS14 locs14 H14
  replace hP15 : va_P D vwCl ([(h, .inr (1, [.int 0, .int 0, .ref q17, .ref q25, .ref q33, .ref q41, .ref q49, .ref q57, .null, .null, .null, .int 0])), ia cy q17 20 (fun _ => 0), ia cy q25 20 (fun _ => 0), ia cy q33 20 (fun _ => 0), ia cy q41 20 (fun _ => 0), ia cy q49 20 (fun _ => 0), ia cy q57 20 (fun _ => 0), ia cy q65 20 (fun _ => 0)]) H15 := hP15
  replace hD15 : va_D (va_A _ sz) ([(h, .inr (1, [.int 0, .int 0, .ref q17, .ref q25, .ref q33, .ref q41, .ref q49, .ref q57, .null, .null, .null, .int 0])), ia cy q17 20 (fun _ => 0), ia cy q25 20 (fun _ => 0), ia cy q33 20 (fun _ => 0), ia cy q41 20 (fun _ => 0), ia cy q49 20 (fun _ => 0), ia cy q57 20 (fun _ => 0), ia cy q65 20 (fun _ => 0)]) := hD15
  refine ptF (D := D) (ci := 1) (v := .ref q65) (ty := tyX1 8) (C := RX1) (T := TX1) (N := 12) (ws' := [(h, .inr (1, [.int 0, .int 0, .ref q17, .ref q25, .ref q33, .ref q41, .ref q49, .ref q57, .ref q65, .null, .null, .int 0])), ia cy q17 20 (fun _ => 0), ia cy q25 20 (fun _ => 0), ia cy q33 20 (fun _ => 0), ia cy q41 20 (fun _ => 0), ia cy q49 20 (fun _ => 0), ia cy q57 20 (fun _ => 0), ia cy q65 20 (fun _ => 0)]) hx hb hw iX1 tyX1 tyX1_ok nmX1 hown hK hP15 hD15 hS15 0 rfl rfl 8 (by decide) kw_1_54 (fun _ h9 => h9) rfl hin rfl (by decide +kernel) rfl rfl (Nat.le_of_ble_eq_true rfl) rfl dX1_init_67 (fun H16 locs16 hP16 hD16 hS16 => ?_)
  clear hP15 hD15 hS15 locs15 H15
  refine lv_aload_n hx hb dX1_init_70 rfl (lv_at hl0 0 rfl) ?_
  refine lv_bipush (v := 20) hx hb dX1_init_71 (by decide) ?_
  refine nwa (atype := .boolean) (N' := 20) (a0 := (20, .inl (fun _ => 0))) hx hb kw_1_93 hw rfl hK hP16 hD16 hS16 hA 2 rfl (fun c9 => nwa_bool c9 20) (by decide) (by decide) (by decide) (Nat.le_of_ble_eq_true rfl) (Nat.le_of_ble_eq_true rfl) dX1_init_73 (fun q73 H17 locs17 hP17 hD17 hS17 => ?_)
  clear hP16 hD16 hS16 locs16 H16
  replace hP17 : va_P D vwCl ([(h, .inr (1, [.int 0, .int 0, .ref q17, .ref q25, .ref q33, .ref q41, .ref q49, .ref q57, .ref q65, .null, .null, .int 0])), ia cy q17 20 (fun _ => 0), ia cy q25 20 (fun _ => 0), ia cy q33 20 (fun _ => 0), ia cy q41 20 (fun _ => 0), ia cy q49 20 (fun _ => 0), ia cy q57 20 (fun _ => 0), ia cy q65 20 (fun _ => 0), za cy q73 20 (fun _ => 0)]) H17 := hP17
  replace hD17 : va_D (va_A _ sz) ([(h, .inr (1, [.int 0, .int 0, .ref q17, .ref q25, .ref q33, .ref q41, .ref q49, .ref q57, .ref q65, .null, .null, .int 0])), ia cy q17 20 (fun _ => 0), ia cy q25 20 (fun _ => 0), ia cy q33 20 (fun _ => 0), ia cy q41 20 (fun _ => 0), ia cy q49 20 (fun _ => 0), ia cy q57 20 (fun _ => 0), ia cy q65 20 (fun _ => 0), za cy q73 20 (fun _ => 0)]) := hD17
  refine ptF (D := D) (ci := 1) (v := .ref q73) (ty := tyX1 9) (C := RX1) (T := TX1) (N := 12) (ws' := [(h, .inr (1, [.int 0, .int 0, .ref q17, .ref q25, .ref q33, .ref q41, .ref q49, .ref q57, .ref q65, .ref q73, .null, .int 0])), ia cy q17 20 (fun _ => 0), ia cy q25 20 (fun _ => 0), ia cy q33 20 (fun _ => 0), ia cy q41 20 (fun _ => 0), ia cy q49 20 (fun _ => 0), ia cy q57 20 (fun _ => 0), ia cy q65 20 (fun _ => 0), za cy q73 20 (fun _ => 0)]) hx hb hw iX1 tyX1 tyX1_ok nmX1 hown hK hP17 hD17 hS17 0 rfl rfl 9 (by decide) kw_1_57 (fun _ h9 => h9) rfl hin rfl (by decide +kernel) rfl rfl (Nat.le_of_ble_eq_true rfl) rfl dX1_init_75 (fun H18 locs18 hP18 hD18 hS18 => ?_)
  clear hP17 hD17 hS17 locs17 H17
  refine lv_aload_n hx hb dX1_init_78 rfl (lv_at hl0 0 rfl) ?_
  refine lv_bipush (v := 6) hx hb dX1_init_79 (by decide) ?_
  refine nwa (atype := .int) (N' := 6) (a0 := (6, .inl (fun _ => 0))) hx hb kw_1_92 hw rfl hK hP18 hD18 hS18 hA 0 rfl (fun c9 => nwa_int c9 6) (by decide) (by decide) (by decide) (Nat.le_of_ble_eq_true rfl) (Nat.le_of_ble_eq_true rfl) dX1_init_81 (fun q81 H19 locs19 hP19 hD19 hS19 => ?_)
  clear hP18 hD18 hS18 locs18 H18
  replace hP19 : va_P D vwCl ([(h, .inr (1, [.int 0, .int 0, .ref q17, .ref q25, .ref q33, .ref q41, .ref q49, .ref q57, .ref q65, .ref q73, .null, .int 0])), ia cy q17 20 (fun _ => 0), ia cy q25 20 (fun _ => 0), ia cy q33 20 (fun _ => 0), ia cy q41 20 (fun _ => 0), ia cy q49 20 (fun _ => 0), ia cy q57 20 (fun _ => 0), ia cy q65 20 (fun _ => 0), za cy q73 20 (fun _ => 0), ia cy q81 6 (fun _ => 0)]) H19 := hP19
  replace hD19 : va_D (va_A _ sz) ([(h, .inr (1, [.int 0, .int 0, .ref q17, .ref q25, .ref q33, .ref q41, .ref q49, .ref q57, .ref q65, .ref q73, .null, .int 0])), ia cy q17 20 (fun _ => 0), ia cy q25 20 (fun _ => 0), ia cy q33 20 (fun _ => 0), ia cy q41 20 (fun _ => 0), ia cy q49 20 (fun _ => 0), ia cy q57 20 (fun _ => 0), ia cy q65 20 (fun _ => 0), za cy q73 20 (fun _ => 0), ia cy q81 6 (fun _ => 0)]) := hD19
  refine lv_dup hx hb dX1_init_83 rfl ?_
  refine lv_iconst (v := 0) hx hb dX1_init_84 (by decide) ?_
  refine lv_bipush (v := 10) hx hb dX1_init_85 (by decide) ?_
  refine ast_i (f := fun _ => 0) (ws' := [(h, .inr (1, [.int 0, .int 0, .ref q17, .ref q25, .ref q33, .ref q41, .ref q49, .ref q57, .ref q65, .ref q73, .null, .int 0])), ia cy q17 20 (fun _ => 0), ia cy q25 20 (fun _ => 0), ia cy q33 20 (fun _ => 0), ia cy q41 20 (fun _ => 0), ia cy q49 20 (fun _ => 0), ia cy q57 20 (fun _ => 0), ia cy q65 20 (fun _ => 0), za cy q73 20 (fun _ => 0), ia cy q81 6 (upd (fun _ => 0) 0 10)]) hx hb hK hP19 hD19 hS19 9 0 rfl rfl 0 rfl (by first | omega | assumption) (by decide) rfl dX1_init_87 (fun H20 locs20 hP20 hD20 hS20 => ?_)
  clear hP19 hD19 hS19 locs19 H19
  refine lv_dup hx hb dX1_init_88 rfl ?_
  refine lv_iconst (v := 1) hx hb dX1_init_89 (by decide) ?_
  refine lv_iconst (v := 0) hx hb dX1_init_90 (by decide) ?_
  refine ast_i (f := upd (fun _ => 0) 0 10) (ws' := [(h, .inr (1, [.int 0, .int 0, .ref q17, .ref q25, .ref q33, .ref q41, .ref q49, .ref q57, .ref q65, .ref q73, .null, .int 0])), ia cy q17 20 (fun _ => 0), ia cy q25 20 (fun _ => 0), ia cy q33 20 (fun _ => 0), ia cy q41 20 (fun _ => 0), ia cy q49 20 (fun _ => 0), ia cy q57 20 (fun _ => 0), ia cy q65 20 (fun _ => 0), za cy q73 20 (fun _ => 0), ia cy q81 6 (upd (upd (fun _ => 0) 0 10) 1 0)]) hx hb hK hP20 hD20 hS20 9 0 rfl rfl 1 rfl (by first | omega | assumption) (by decide) rfl dX1_init_91 (fun H21 locs21 hP21 hD21 hS21 => ?_)
  clear hP20 hD20 hS20 locs20 H20
  refine lv_dup hx hb dX1_init_92 rfl ?_
  refine lv_iconst (v := 2) hx hb dX1_init_93 (by decide) ?_
  refine lv_iconst (v := 0) hx hb dX1_init_94 (by decide) ?_
  refine ast_i (f := upd (upd (fun _ => 0) 0 10) 1 0) (ws' := [(h, .inr (1, [.int 0, .int 0, .ref q17, .ref q25, .ref q33, .ref q41, .ref q49, .ref q57, .ref q65, .ref q73, .null, .int 0])), ia cy q17 20 (fun _ => 0), ia cy q25 20 (fun _ => 0), ia cy q33 20 (fun _ => 0), ia cy q41 20 (fun _ => 0), ia cy q49 20 (fun _ => 0), ia cy q57 20 (fun _ => 0), ia cy q65 20 (fun _ => 0), za cy q73 20 (fun _ => 0), ia cy q81 6 (upd (upd (upd (fun _ => 0) 0 10) 1 0) 2 0)]) hx hb hK hP21 hD21 hS21 9 0 rfl rfl 2 rfl (by first | omega | assumption) (by decide) rfl dX1_init_95 (fun H22 locs22 hP22 hD22 hS22 => ?_)
  clear hP21 hD21 hS21 locs21 H21
  refine lv_dup hx hb dX1_init_96 rfl ?_
  refine lv_iconst (v := 3) hx hb dX1_init_97 (by decide) ?_
  refine lv_iconst (v := 0) hx hb dX1_init_98 (by decide) ?_
  refine ast_i (f := upd (upd (upd (fun _ => 0) 0 10) 1 0) 2 0) (ws' := [(h, .inr (1, [.int 0, .int 0, .ref q17, .ref q25, .ref q33, .ref q41, .ref q49, .ref q57, .ref q65, .ref q73, .null, .int 0])), ia cy q17 20 (fun _ => 0), ia cy q25 20 (fun _ => 0), ia cy q33 20 (fun _ => 0), ia cy q41 20 (fun _ => 0), ia cy q49 20 (fun _ => 0), ia cy q57 20 (fun _ => 0), ia cy q65 20 (fun _ => 0), za cy q73 20 (fun _ => 0), ia cy q81 6 (upd (upd (upd (upd (fun _ => 0) 0 10) 1 0) 2 0) 3 0)]) hx hb hK hP22 hD22 hS22 9 0 rfl rfl 3 rfl (by first | omega | assumption) (by decide) rfl dX1_init_99 (fun H23 locs23 hP23 hD23 hS23 => ?_)
  clear hP22 hD22 hS22 locs22 H22
  refine lv_dup hx hb dX1_init_100 rfl ?_
  refine lv_iconst (v := 4) hx hb dX1_init_101 (by decide) ?_
  refine lv_iconst (v := 5) hx hb dX1_init_102 (by decide) ?_
  refine ast_i (f := upd (upd (upd (upd (fun _ => 0) 0 10) 1 0) 2 0) 3 0) (ws' := [(h, .inr (1, [.int 0, .int 0, .ref q17, .ref q25, .ref q33, .ref q41, .ref q49, .ref q57, .ref q65, .ref q73, .null, .int 0])), ia cy q17 20 (fun _ => 0), ia cy q25 20 (fun _ => 0), ia cy q33 20 (fun _ => 0), ia cy q41 20 (fun _ => 0), ia cy q49 20 (fun _ => 0), ia cy q57 20 (fun _ => 0), ia cy q65 20 (fun _ => 0), za cy q73 20 (fun _ => 0), ia cy q81 6 (upd (upd (upd (upd (upd (fun _ => 0) 0 10) 1 0) 2 0) 3 0) 4 5)]) hx hb hK hP23 hD23 hS23 9 0 rfl rfl 4 rfl (by first | omega | assumption) (by decide) rfl dX1_init_103 (fun H24 locs24 hP24 hD24 hS24 => ?_)
  clear hP23 hD23 hS23 locs23 H23
  refine lv_dup hx hb dX1_init_104 rfl ?_
  refine lv_iconst (v := 5) hx hb dX1_init_105 (by decide) ?_
  refine lv_iconst (v := 0) hx hb dX1_init_106 (by decide) ?_
  refine ast_i (f := upd (upd (upd (upd (upd (fun _ => 0) 0 10) 1 0) 2 0) 3 0) 4 5) (ws' := [(h, .inr (1, [.int 0, .int 0, .ref q17, .ref q25, .ref q33, .ref q41, .ref q49, .ref q57, .ref q65, .ref q73, .null, .int 0])), ia cy q17 20 (fun _ => 0), ia cy q25 20 (fun _ => 0), ia cy q33 20 (fun _ => 0), ia cy q41 20 (fun _ => 0), ia cy q49 20 (fun _ => 0), ia cy q57 20 (fun _ => 0), ia cy q65 20 (fun _ => 0), za cy q73 20 (fun _ => 0), ia cy q81 6 (upd (upd (upd (upd (upd (upd (fun _ => 0) 0 10) 1 0) 2 0) 3 0) 4 5) 5 0)]) hx hb hK hP24 hD24 hS24 9 0 rfl rfl 5 rfl (by first | omega | assumption) (by decide) rfl dX1_init_107 (fun H25 locs25 hP25 hD25 hS25 => ?_)
  clear hP24 hD24 hS24 locs24 H24
  refine ptF (D := D) (ci := 1) (v := .ref q81) (ty := tyX1 10) (C := RX1) (T := TX1) (N := 12) (ws' := [(h, .inr (1, [.int 0, .int 0, .ref q17, .ref q25, .ref q33, .ref q41, .ref q49, .ref q57, .ref q65, .ref q73, .ref q81, .int 0])), ia cy q17 20 (fun _ => 0), ia cy q25 20 (fun _ => 0), ia cy q33 20 (fun _ => 0), ia cy q41 20 (fun _ => 0), ia cy q49 20 (fun _ => 0), ia cy q57 20 (fun _ => 0), ia cy q65 20 (fun _ => 0), za cy q73 20 (fun _ => 0), ia cy q81 6 (upd (upd (upd (upd (upd (upd (fun _ => 0) 0 10) 1 0) 2 0) 3 0) 4 5) 5 0)]) hx hb hw iX1 tyX1 tyX1_ok nmX1 hown hK hP25 hD25 hS25 0 rfl rfl 10 (by decide) kw_1_60 (fun _ h9 => h9) rfl hin rfl (by decide +kernel) rfl rfl (Nat.le_of_ble_eq_true rfl) rfl dX1_init_108 (fun H26 locs26 hP26 hD26 hS26 => ?_)
  clear hP25 hD25 hS25 locs25 H25
  refine lv_aload_n hx hb dX1_init_111 rfl (lv_at hl0 0 rfl) ?_
  refine lv_iconst (v := 1) hx hb dX1_init_112 (by decide) ?_
  refine pt (D := D) (ci := 1) (v := .int 1) (ty := .int) (C := RX1) (T := TX1) (N := 12) (ws' := [(h, .inr (1, [.int 0, .int 0, .ref q17, .ref q25, .ref q33, .ref q41, .ref q49, .ref q57, .ref q65, .ref q73, .ref q81, .int 1])), ia cy q17 20 (fun _ => 0), ia cy q25 20 (fun _ => 0), ia cy q33 20 (fun _ => 0), ia cy q41 20 (fun _ => 0), ia cy q49 20 (fun _ => 0), ia cy q57 20 (fun _ => 0), ia cy q65 20 (fun _ => 0), za cy q73 20 (fun _ => 0), ia cy q81 6 (upd (upd (upd (upd (upd (upd (fun _ => 0) 0 10) 1 0) 2 0) 3 0) 4 5) 5 0)]) hx hb hw iX1 tyX1 tyX1_ok nmX1 hown hK hP26 hD26 hS26 0 rfl rfl 11 (by decide) kw_1_65 (fun _ h9 => h9) rfl (by decide +kernel) rfl rfl (Nat.le_of_ble_eq_true rfl) rfl dX1_init_113 (fun H27 locs27 hP27 hD27 hS27 => ?_)
  clear hP26 hD26 hS26 locs26 H26
  have hq9 : ([(h, .inr (1, [.int 0, .int 0, .ref q17, .ref q25, .ref q33, .ref q41, .ref q49, .ref q57, .ref q65, .ref q73, .ref q81, .int 1])), ia cy q17 20 (fun _ => 0), ia cy q25 20 (fun _ => 0), ia cy q33 20 (fun _ => 0), ia cy q41 20 (fun _ => 0), ia cy q49 20 (fun _ => 0), ia cy q57 20 (fun _ => 0), ia cy q65 20 (fun _ => 0), za cy q73 20 (fun _ => 0), ia cy q81 6 (upd (upd (upd (upd (upd (upd (fun _ => 0) 0 10) 1 0) 2 0) 3 0) 4 5) 5 0)]) = pS cy (fun k => ([h, q17, q25, q33, q41, q49, q57, q65, q73, q81] : List Nat).getD k 0) S0 := by
      show _ = [_, _, _, _, _, _, _, _, _, _]
      rw [S0_nt, S0_row 9 (by decide), S0_row 10 (by decide), S0_row 11 (by decide), S0_row 12 (by decide), S0_row 13 (by decide), S0_row 14 (by decide), S0_row 15 (by decide), S0_row 16 (by decide)]
      rfl
  replace hP27 := (congrArg (fun z9 => va_P D vwCl z9 _) hq9).mp hP27
  replace hD27 := (congrArg (fun z9 => va_D _ z9) hq9).mp hD27
  refine re_v (fun k => ([h, q17, q25, q33, q41, q49, q57, q65, q73, q81] : List Nat).getD k 0) hx hb hr hlocks hP27 hD27 hS27 dX1_init_116 ?_
  exact (rfl)
