theorem kc_X6_isKind : kT yX6_isKind cX6_isKind 1 (some .boolean) 1 := ⟨kw_2_73, kw_1_1, kw_2_74, by decide, by decide, by decide +kernel⟩
set_option maxHeartbeats 4000000 in
set_option maxRecDepth 100000 in
theorem c_X6_isKind (l : Launch) (D : va_G) (cy : Nat → ClassId) (G : Nat → Nat) (sz : Nat) (k : Int32)  : Met l yX6_isKind (wm yX6_isKind cX6_isKind 1 (some .boolean)) { frames := 0, cells := 0, slots := 0, locals := 0 } (va_Pc [.int k] (pd D (TY cy) G ([]) sz)) (va_Qi (fun r (_ : Unit) => r = b2i (0 ≤ k ∧ k < 6)) (fun _ _ => True) (va_A [] sz)) 0 0 (va_A [] sz) := by
  refine mk_rd (by decide) RX6 rfl (Nat.le_of_ble_eq_true rfl) [(0, .int k)] rfl ?_
  intro p e s m below meth c hx hb hml hown hr hlocks hw hsz hA hG hK H0 locs0 hP0 hS0 ls0 hl0
  refine lv_iload_n hx hb dX6_isKind_0 rfl (lv_at hl0 0 rfl) ?_
  refine lv_if_lt (tgt := 14) hx hb dX6_isKind_1 (by decide) (fun c_1 => ?_) (fun c_1 => ?_)
  · refine lv_iconst (v := 0) hx hb dX6_isKind_14 (by decide) ?_
    exact rd_z hx hb hr hlocks hS0 dX6_isKind_15 rfl (by clear hx hb hml hown hr hlocks hw hsz hA hG hK hP0 hS0 hl0; grind [b2i])
  · refine lv_iload_n hx hb dX6_isKind_4 rfl (lv_at hl0 0 rfl) ?_
    refine lv_bipush (v := 6) hx hb dX6_isKind_5 (by decide) ?_
    refine lv_icmp_ge (tgt := 14) hx hb dX6_isKind_7 (by decide) (fun c_7 => ?_) (fun c_7 => ?_)
    · refine lv_iconst (v := 0) hx hb dX6_isKind_14 (by decide) ?_
      exact rd_z hx hb hr hlocks hS0 dX6_isKind_15 rfl (by clear hx hb hml hown hr hlocks hw hsz hA hG hK hP0 hS0 hl0; grind [b2i])
    · refine lv_iconst (v := 1) hx hb dX6_isKind_10 (by decide) ?_
      refine lv_goto (tgt := 15) hx hb dX6_isKind_11 (by decide) ?_
      exact rd_z hx hb hr hlocks hS0 dX6_isKind_15 rfl (by clear hx hb hml hown hr hlocks hw hsz hA hG hK hP0 hS0 hl0; grind [b2i])

theorem kc_X6_isUnder : kT yX6_isUnder cX6_isUnder 4 (some .boolean) 2 := ⟨kw_2_128, kw_1_1, kw_2_129, by decide, by decide, by decide +kernel⟩
set_option maxHeartbeats 4000000 in
set_option maxRecDepth 100000 in
theorem c_X6_isUnder (l : Launch) (D : va_G) (cy : Nat → ClassId) (G : Nat → Nat) (sz : Nat) (k : Int32) (t : Int32)  : Met l yX6_isUnder (wm yX6_isUnder cX6_isUnder 4 (some .boolean)) { frames := 1, cells := 0, slots := 0, locals := 20 } (va_Pc [.int k, .int t] (pd D (TY cy) G ([]) sz)) (va_Qi (fun r (_ : Unit) => r = b2i (under k t)) (fun _ _ => True) (va_A [] sz)) 0 0 (va_A [] sz) := by
  refine mk_rd (by decide) RX6 rfl (Nat.le_of_ble_eq_true rfl) [(0, .int k), (1, .int t)] rfl ?_
  intro p e s m below meth c hx hb hml hown hr hlocks hw hsz hA hG hK H0 locs0 hP0 hS0 ls0 hl0
  rcases kind_cases k with rfl | rfl | rfl | rfl | rfl | rfl | hk
  · refine lv_iload_n hx hb dX6_isUnder_0 rfl (lv_at hl0 0 rfl) ?_
    refine lv_istore_n (lv' := [(2, .int 0), (0, .int 0), (1, .int t)]) hx hb dX6_isUnder_1 rfl hl0 (by decide) rfl (fun ls1 hl1 => ?_)
    clear hl0 ls0
    refine lv_iconst (v := 0) hx hb dX6_isUnder_2 (by decide) ?_
    refine lv_istore_n (lv' := [(3, .int 0), (2, .int 0), (0, .int 0), (1, .int t)]) hx hb dX6_isUnder_3 rfl hl1 (by decide) rfl (fun ls2 hl2 => ?_)
    clear hl1 ls1
    refine lv_iload_n hx hb dX6_isUnder_4 rfl (lv_at hl2 0 rfl) ?_
    refine lv_bipush (v := 6) hx hb dX6_isUnder_5 (by decide) ?_
    refine lv_icmp_ge (tgt := 36) hx hb dX6_isUnder_7 (by decide) (fun c => absurd c (by decide)) (fun _ => ?_)
    refine lv_iload_n hx hb dX6_isUnder_10 rfl (lv_at hl2 1 rfl) ?_
    refine rT_i (wc := []) (rest := []) hx hb hml hown hw hG hK hP0 hS0 hA hl2 kc_X6_isKind kw_2_72 [.int 0] (c_X6_isKind l D cy G H0.size 0) [] rfl rfl rfl (Nat.le_of_ble_eq_true rfl) ⟨Nat.le_of_ble_eq_true rfl, Nat.le_of_ble_eq_true rfl⟩ dX6_isUnder_11 ⟨Nat.le_of_ble_eq_true rfl, Nat.le_of_ble_eq_true rfl⟩ (fun r_11 H1 locs1 hr_11 hP1 hS1 => ?_)
    clear hP0 hS0 locs0 H0
    subst hr_11
    refine lb_eq (tgt := 36) hx hb dX6_isUnder_14 (by decide) (fun c => absurd c (by decide)) (fun _ => ?_)
    refine lv_iload_n hx hb dX6_isUnder_17 rfl (lv_at hl2 1 rfl) ?_
    refine lv_iload_n hx hb dX6_isUnder_18 rfl (lv_at hl2 3 rfl) ?_
    refine lv_icmp_ne (tgt := 24) hx hb dX6_isUnder_19 (by decide) (fun c_19 => ?_) (fun c_19 => ?_)
    · refine va_gets hx hb hG.2.1.1 hS1 hown (hw _ kw_2_130) (fun _ h9 => h9) dX6_isUnder_24 ?_
      refine lv_iload_n hx hb dX6_isUnder_27 rfl (lv_at hl2 1 rfl) ?_
      refine tld_i (f := tbU) hx hb hG.2.1.2.1 hS1 0 rfl (by first | assumption | omega) (by decide) dX6_isUnder_28 ?_
      refine tp (show (tbU 0) = -1 from rfl) ?_
      refine lv_istore_n (lv' := [(2, .int (-1)), (3, .int 0), (0, .int 0), (1, .int t)]) hx hb dX6_isUnder_29 rfl hl2 (by decide) rfl (fun ls3 hl3 => ?_)
      clear hl2 ls2
      refine lv_iinc (v := 1) (lv' := [(3, .int 1), (2, .int (-1)), (0, .int 0), (1, .int t)]) hx hb dX6_isUnder_30 hl3 (k := 1) rfl (by decide) (by decide) rfl (fun ls4 hl4 => ?_)
      clear hl3 ls3
      refine lv_goto (tgt := 4) hx hb dX6_isUnder_33 (by decide) ?_
      refine lv_iload_n hx hb dX6_isUnder_4 rfl (lv_at hl4 0 rfl) ?_
      refine lv_bipush (v := 6) hx hb dX6_isUnder_5 (by decide) ?_
      refine lv_icmp_ge (tgt := 36) hx hb dX6_isUnder_7 (by decide) (fun c => absurd c (by decide)) (fun _ => ?_)
      refine lv_iload_n hx hb dX6_isUnder_10 rfl (lv_at hl4 1 rfl) ?_
      refine rT_i (wc := []) (rest := []) hx hb hml hown hw hG hK hP1 hS1 hA hl4 kc_X6_isKind kw_2_72 [.int (-1)] (c_X6_isKind l D cy G H1.size (-1)) [] rfl rfl rfl (Nat.le_of_ble_eq_true rfl) ⟨Nat.le_of_ble_eq_true rfl, Nat.le_of_ble_eq_true rfl⟩ dX6_isUnder_11 ⟨Nat.le_of_ble_eq_true rfl, Nat.le_of_ble_eq_true rfl⟩ (fun r_11 H2 locs2 hr_11 hP2 hS2 => ?_)
      clear hP1 hS1 locs1 H1
      subst hr_11
      refine lb_eq (tgt := 36) hx hb dX6_isUnder_14 (by decide) (fun _ => ?_) (fun c => absurd c (by decide))
      refine lv_iconst (v := 0) hx hb dX6_isUnder_36 (by decide) ?_
      exact rd_z hx hb hr hlocks hS2 dX6_isUnder_37 rfl (by clear hx hb hml hown hr hlocks hw hsz hA hG hK hP2 hS2 hl4; grind [b2i])
    · refine lv_iconst (v := 1) hx hb dX6_isUnder_22 (by decide) ?_
      exact rd_z hx hb hr hlocks hS1 dX6_isUnder_23 rfl (by clear hx hb hml hown hr hlocks hw hsz hA hG hK hP1 hS1 hl2; grind [b2i])
  · refine lv_iload_n hx hb dX6_isUnder_0 rfl (lv_at hl0 0 rfl) ?_
    refine lv_istore_n (lv' := [(2, .int 1), (0, .int 1), (1, .int t)]) hx hb dX6_isUnder_1 rfl hl0 (by decide) rfl (fun ls1 hl1 => ?_)
    clear hl0 ls0
    refine lv_iconst (v := 0) hx hb dX6_isUnder_2 (by decide) ?_
    refine lv_istore_n (lv' := [(3, .int 0), (2, .int 1), (0, .int 1), (1, .int t)]) hx hb dX6_isUnder_3 rfl hl1 (by decide) rfl (fun ls2 hl2 => ?_)
    clear hl1 ls1
    refine lv_iload_n hx hb dX6_isUnder_4 rfl (lv_at hl2 0 rfl) ?_
    refine lv_bipush (v := 6) hx hb dX6_isUnder_5 (by decide) ?_
    refine lv_icmp_ge (tgt := 36) hx hb dX6_isUnder_7 (by decide) (fun c => absurd c (by decide)) (fun _ => ?_)
    refine lv_iload_n hx hb dX6_isUnder_10 rfl (lv_at hl2 1 rfl) ?_
    refine rT_i (wc := []) (rest := []) hx hb hml hown hw hG hK hP0 hS0 hA hl2 kc_X6_isKind kw_2_72 [.int 1] (c_X6_isKind l D cy G H0.size 1) [] rfl rfl rfl (Nat.le_of_ble_eq_true rfl) ⟨Nat.le_of_ble_eq_true rfl, Nat.le_of_ble_eq_true rfl⟩ dX6_isUnder_11 ⟨Nat.le_of_ble_eq_true rfl, Nat.le_of_ble_eq_true rfl⟩ (fun r_11 H1 locs1 hr_11 hP1 hS1 => ?_)
    clear hP0 hS0 locs0 H0
    subst hr_11
    refine lb_eq (tgt := 36) hx hb dX6_isUnder_14 (by decide) (fun c => absurd c (by decide)) (fun _ => ?_)
    refine lv_iload_n hx hb dX6_isUnder_17 rfl (lv_at hl2 1 rfl) ?_
    refine lv_iload_n hx hb dX6_isUnder_18 rfl (lv_at hl2 3 rfl) ?_
    refine lv_icmp_ne (tgt := 24) hx hb dX6_isUnder_19 (by decide) (fun c_19 => ?_) (fun c_19 => ?_)
    · refine va_gets hx hb hG.2.1.1 hS1 hown (hw _ kw_2_130) (fun _ h9 => h9) dX6_isUnder_24 ?_
      refine lv_iload_n hx hb dX6_isUnder_27 rfl (lv_at hl2 1 rfl) ?_
      refine tld_i (f := tbU) hx hb hG.2.1.2.1 hS1 1 rfl (by first | assumption | omega) (by decide) dX6_isUnder_28 ?_
      refine tp (show (tbU 1) = 0 from rfl) ?_
      refine lv_istore_n (lv' := [(2, .int 0), (3, .int 0), (0, .int 1), (1, .int t)]) hx hb dX6_isUnder_29 rfl hl2 (by decide) rfl (fun ls3 hl3 => ?_)
      clear hl2 ls2
      refine lv_iinc (v := 1) (lv' := [(3, .int 1), (2, .int 0), (0, .int 1), (1, .int t)]) hx hb dX6_isUnder_30 hl3 (k := 1) rfl (by decide) (by decide) rfl (fun ls4 hl4 => ?_)
      clear hl3 ls3
      refine lv_goto (tgt := 4) hx hb dX6_isUnder_33 (by decide) ?_
      refine lv_iload_n hx hb dX6_isUnder_4 rfl (lv_at hl4 0 rfl) ?_
      refine lv_bipush (v := 6) hx hb dX6_isUnder_5 (by decide) ?_
      refine lv_icmp_ge (tgt := 36) hx hb dX6_isUnder_7 (by decide) (fun c => absurd c (by decide)) (fun _ => ?_)
      refine lv_iload_n hx hb dX6_isUnder_10 rfl (lv_at hl4 1 rfl) ?_
      refine rT_i (wc := []) (rest := []) hx hb hml hown hw hG hK hP1 hS1 hA hl4 kc_X6_isKind kw_2_72 [.int 0] (c_X6_isKind l D cy G H1.size 0) [] rfl rfl rfl (Nat.le_of_ble_eq_true rfl) ⟨Nat.le_of_ble_eq_true rfl, Nat.le_of_ble_eq_true rfl⟩ dX6_isUnder_11 ⟨Nat.le_of_ble_eq_true rfl, Nat.le_of_ble_eq_true rfl⟩ (fun r_11 H2 locs2 hr_11 hP2 hS2 => ?_)
      clear hP1 hS1 locs1 H1
      subst hr_11
      refine lb_eq (tgt := 36) hx hb dX6_isUnder_14 (by decide) (fun c => absurd c (by decide)) (fun _ => ?_)
      refine lv_iload_n hx hb dX6_isUnder_17 rfl (lv_at hl4 1 rfl) ?_
      refine lv_iload_n hx hb dX6_isUnder_18 rfl (lv_at hl4 3 rfl) ?_
      refine lv_icmp_ne (tgt := 24) hx hb dX6_isUnder_19 (by decide) (fun c_19_1 => ?_) (fun c_19_1 => ?_)
      · refine va_gets hx hb hG.2.1.1 hS2 hown (hw _ kw_2_130) (fun _ h9 => h9) dX6_isUnder_24 ?_
        refine lv_iload_n hx hb dX6_isUnder_27 rfl (lv_at hl4 1 rfl) ?_
        refine tld_i (f := tbU) hx hb hG.2.1.2.1 hS2 0 rfl (by first | assumption | omega) (by decide) dX6_isUnder_28 ?_
        refine tp (show (tbU 0) = -1 from rfl) ?_
        refine lv_istore_n (lv' := [(2, .int (-1)), (3, .int 1), (0, .int 1), (1, .int t)]) hx hb dX6_isUnder_29 rfl hl4 (by decide) rfl (fun ls5 hl5 => ?_)
        clear hl4 ls4
        refine lv_iinc (v := 2) (lv' := [(3, .int 2), (2, .int (-1)), (0, .int 1), (1, .int t)]) hx hb dX6_isUnder_30 hl5 (k := 1) rfl (by decide) (by decide) rfl (fun ls6 hl6 => ?_)
        clear hl5 ls5
        refine lv_goto (tgt := 4) hx hb dX6_isUnder_33 (by decide) ?_
        refine lv_iload_n hx hb dX6_isUnder_4 rfl (lv_at hl6 0 rfl) ?_
        refine lv_bipush (v := 6) hx hb dX6_isUnder_5 (by decide) ?_
        refine lv_icmp_ge (tgt := 36) hx hb dX6_isUnder_7 (by decide) (fun c => absurd c (by decide)) (fun _ => ?_)
        refine lv_iload_n hx hb dX6_isUnder_10 rfl (lv_at hl6 1 rfl) ?_
        refine rT_i (wc := []) (rest := []) hx hb hml hown hw hG hK hP2 hS2 hA hl6 kc_X6_isKind kw_2_72 [.int (-1)] (c_X6_isKind l D cy G H2.size (-1)) [] rfl rfl rfl (Nat.le_of_ble_eq_true rfl) ⟨Nat.le_of_ble_eq_true rfl, Nat.le_of_ble_eq_true rfl⟩ dX6_isUnder_11 ⟨Nat.le_of_ble_eq_true rfl, Nat.le_of_ble_eq_true rfl⟩ (fun r_11 H3 locs3 hr_11 hP3 hS3 => ?_)
        clear hP2 hS2 locs2 H2
        subst hr_11
        refine lb_eq (tgt := 36) hx hb dX6_isUnder_14 (by decide) (fun _ => ?_) (fun c => absurd c (by decide))
        refine lv_iconst (v := 0) hx hb dX6_isUnder_36 (by decide) ?_
        exact rd_z hx hb hr hlocks hS3 dX6_isUnder_37 rfl (by clear hx hb hml hown hr hlocks hw hsz hA hG hK hP3 hS3 hl6; grind [b2i])
      · refine lv_iconst (v := 1) hx hb dX6_isUnder_22 (by decide) ?_
        exact rd_z hx hb hr hlocks hS2 dX6_isUnder_23 rfl (by clear hx hb hml hown hr hlocks hw hsz hA hG hK hP2 hS2 hl4; grind [b2i])
    · refine lv_iconst (v := 1) hx hb dX6_isUnder_22 (by decide) ?_
      exact rd_z hx hb hr hlocks hS1 dX6_isUnder_23 rfl (by clear hx hb hml hown hr hlocks hw hsz hA hG hK hP1 hS1 hl2; grind [b2i])
  · refine lv_iload_n hx hb dX6_isUnder_0 rfl (lv_at hl0 0 rfl) ?_
    refine lv_istore_n (lv' := [(2, .int 2), (0, .int 2), (1, .int t)]) hx hb dX6_isUnder_1 rfl hl0 (by decide) rfl (fun ls1 hl1 => ?_)
    clear hl0 ls0
    refine lv_iconst (v := 0) hx hb dX6_isUnder_2 (by decide) ?_
    refine lv_istore_n (lv' := [(3, .int 0), (2, .int 2), (0, .int 2), (1, .int t)]) hx hb dX6_isUnder_3 rfl hl1 (by decide) rfl (fun ls2 hl2 => ?_)
    clear hl1 ls1
    refine lv_iload_n hx hb dX6_isUnder_4 rfl (lv_at hl2 0 rfl) ?_
    refine lv_bipush (v := 6) hx hb dX6_isUnder_5 (by decide) ?_
    refine lv_icmp_ge (tgt := 36) hx hb dX6_isUnder_7 (by decide) (fun c => absurd c (by decide)) (fun _ => ?_)
    refine lv_iload_n hx hb dX6_isUnder_10 rfl (lv_at hl2 1 rfl) ?_
    refine rT_i (wc := []) (rest := []) hx hb hml hown hw hG hK hP0 hS0 hA hl2 kc_X6_isKind kw_2_72 [.int 2] (c_X6_isKind l D cy G H0.size 2) [] rfl rfl rfl (Nat.le_of_ble_eq_true rfl) ⟨Nat.le_of_ble_eq_true rfl, Nat.le_of_ble_eq_true rfl⟩ dX6_isUnder_11 ⟨Nat.le_of_ble_eq_true rfl, Nat.le_of_ble_eq_true rfl⟩ (fun r_11 H1 locs1 hr_11 hP1 hS1 => ?_)
    clear hP0 hS0 locs0 H0
    subst hr_11
    refine lb_eq (tgt := 36) hx hb dX6_isUnder_14 (by decide) (fun c => absurd c (by decide)) (fun _ => ?_)
    refine lv_iload_n hx hb dX6_isUnder_17 rfl (lv_at hl2 1 rfl) ?_
    refine lv_iload_n hx hb dX6_isUnder_18 rfl (lv_at hl2 3 rfl) ?_
    refine lv_icmp_ne (tgt := 24) hx hb dX6_isUnder_19 (by decide) (fun c_19 => ?_) (fun c_19 => ?_)
    · refine va_gets hx hb hG.2.1.1 hS1 hown (hw _ kw_2_130) (fun _ h9 => h9) dX6_isUnder_24 ?_
      refine lv_iload_n hx hb dX6_isUnder_27 rfl (lv_at hl2 1 rfl) ?_
      refine tld_i (f := tbU) hx hb hG.2.1.2.1 hS1 2 rfl (by first | assumption | omega) (by decide) dX6_isUnder_28 ?_
      refine tp (show (tbU 2) = 0 from rfl) ?_
      refine lv_istore_n (lv' := [(2, .int 0), (3, .int 0), (0, .int 2), (1, .int t)]) hx hb dX6_isUnder_29 rfl hl2 (by decide) rfl (fun ls3 hl3 => ?_)
      clear hl2 ls2
      refine lv_iinc (v := 1) (lv' := [(3, .int 1), (2, .int 0), (0, .int 2), (1, .int t)]) hx hb dX6_isUnder_30 hl3 (k := 1) rfl (by decide) (by decide) rfl (fun ls4 hl4 => ?_)
      clear hl3 ls3
      refine lv_goto (tgt := 4) hx hb dX6_isUnder_33 (by decide) ?_
      refine lv_iload_n hx hb dX6_isUnder_4 rfl (lv_at hl4 0 rfl) ?_
      refine lv_bipush (v := 6) hx hb dX6_isUnder_5 (by decide) ?_
      refine lv_icmp_ge (tgt := 36) hx hb dX6_isUnder_7 (by decide) (fun c => absurd c (by decide)) (fun _ => ?_)
      refine lv_iload_n hx hb dX6_isUnder_10 rfl (lv_at hl4 1 rfl) ?_
      refine rT_i (wc := []) (rest := []) hx hb hml hown hw hG hK hP1 hS1 hA hl4 kc_X6_isKind kw_2_72 [.int 0] (c_X6_isKind l D cy G H1.size 0) [] rfl rfl rfl (Nat.le_of_ble_eq_true rfl) ⟨Nat.le_of_ble_eq_true rfl, Nat.le_of_ble_eq_true rfl⟩ dX6_isUnder_11 ⟨Nat.le_of_ble_eq_true rfl, Nat.le_of_ble_eq_true rfl⟩ (fun r_11 H2 locs2 hr_11 hP2 hS2 => ?_)
      clear hP1 hS1 locs1 H1
      subst hr_11
      refine lb_eq (tgt := 36) hx hb dX6_isUnder_14 (by decide) (fun c => absurd c (by decide)) (fun _ => ?_)
      refine lv_iload_n hx hb dX6_isUnder_17 rfl (lv_at hl4 1 rfl) ?_
      refine lv_iload_n hx hb dX6_isUnder_18 rfl (lv_at hl4 3 rfl) ?_
      refine lv_icmp_ne (tgt := 24) hx hb dX6_isUnder_19 (by decide) (fun c_19_1 => ?_) (fun c_19_1 => ?_)
      · refine va_gets hx hb hG.2.1.1 hS2 hown (hw _ kw_2_130) (fun _ h9 => h9) dX6_isUnder_24 ?_
        refine lv_iload_n hx hb dX6_isUnder_27 rfl (lv_at hl4 1 rfl) ?_
        refine tld_i (f := tbU) hx hb hG.2.1.2.1 hS2 0 rfl (by first | assumption | omega) (by decide) dX6_isUnder_28 ?_
        refine tp (show (tbU 0) = -1 from rfl) ?_
        refine lv_istore_n (lv' := [(2, .int (-1)), (3, .int 1), (0, .int 2), (1, .int t)]) hx hb dX6_isUnder_29 rfl hl4 (by decide) rfl (fun ls5 hl5 => ?_)
        clear hl4 ls4
        refine lv_iinc (v := 2) (lv' := [(3, .int 2), (2, .int (-1)), (0, .int 2), (1, .int t)]) hx hb dX6_isUnder_30 hl5 (k := 1) rfl (by decide) (by decide) rfl (fun ls6 hl6 => ?_)
        clear hl5 ls5
        refine lv_goto (tgt := 4) hx hb dX6_isUnder_33 (by decide) ?_
        refine lv_iload_n hx hb dX6_isUnder_4 rfl (lv_at hl6 0 rfl) ?_
        refine lv_bipush (v := 6) hx hb dX6_isUnder_5 (by decide) ?_
        refine lv_icmp_ge (tgt := 36) hx hb dX6_isUnder_7 (by decide) (fun c => absurd c (by decide)) (fun _ => ?_)
        refine lv_iload_n hx hb dX6_isUnder_10 rfl (lv_at hl6 1 rfl) ?_
        refine rT_i (wc := []) (rest := []) hx hb hml hown hw hG hK hP2 hS2 hA hl6 kc_X6_isKind kw_2_72 [.int (-1)] (c_X6_isKind l D cy G H2.size (-1)) [] rfl rfl rfl (Nat.le_of_ble_eq_true rfl) ⟨Nat.le_of_ble_eq_true rfl, Nat.le_of_ble_eq_true rfl⟩ dX6_isUnder_11 ⟨Nat.le_of_ble_eq_true rfl, Nat.le_of_ble_eq_true rfl⟩ (fun r_11 H3 locs3 hr_11 hP3 hS3 => ?_)
        clear hP2 hS2 locs2 H2
        subst hr_11
        refine lb_eq (tgt := 36) hx hb dX6_isUnder_14 (by decide) (fun _ => ?_) (fun c => absurd c (by decide))
        refine lv_iconst (v := 0) hx hb dX6_isUnder_36 (by decide) ?_
        exact rd_z hx hb hr hlocks hS3 dX6_isUnder_37 rfl (by clear hx hb hml hown hr hlocks hw hsz hA hG hK hP3 hS3 hl6; grind [b2i])
      · refine lv_iconst (v := 1) hx hb dX6_isUnder_22 (by decide) ?_
        exact rd_z hx hb hr hlocks hS2 dX6_isUnder_23 rfl (by clear hx hb hml hown hr hlocks hw hsz hA hG hK hP2 hS2 hl4; grind [b2i])
    · refine lv_iconst (v := 1) hx hb dX6_isUnder_22 (by decide) ?_
      exact rd_z hx hb hr hlocks hS1 dX6_isUnder_23 rfl (by clear hx hb hml hown hr hlocks hw hsz hA hG hK hP1 hS1 hl2; grind [b2i])
  · refine lv_iload_n hx hb dX6_isUnder_0 rfl (lv_at hl0 0 rfl) ?_
    refine lv_istore_n (lv' := [(2, .int 3), (0, .int 3), (1, .int t)]) hx hb dX6_isUnder_1 rfl hl0 (by decide) rfl (fun ls1 hl1 => ?_)
    clear hl0 ls0
    refine lv_iconst (v := 0) hx hb dX6_isUnder_2 (by decide) ?_
    refine lv_istore_n (lv' := [(3, .int 0), (2, .int 3), (0, .int 3), (1, .int t)]) hx hb dX6_isUnder_3 rfl hl1 (by decide) rfl (fun ls2 hl2 => ?_)
    clear hl1 ls1
    refine lv_iload_n hx hb dX6_isUnder_4 rfl (lv_at hl2 0 rfl) ?_
    refine lv_bipush (v := 6) hx hb dX6_isUnder_5 (by decide) ?_
    refine lv_icmp_ge (tgt := 36) hx hb dX6_isUnder_7 (by decide) (fun c => absurd c (by decide)) (fun _ => ?_)
    refine lv_iload_n hx hb dX6_isUnder_10 rfl (lv_at hl2 1 rfl) ?_
    refine rT_i (wc := []) (rest := []) hx hb hml hown hw hG hK hP0 hS0 hA hl2 kc_X6_isKind kw_2_72 [.int 3] (c_X6_isKind l D cy G H0.size 3) [] rfl rfl rfl (Nat.le_of_ble_eq_true rfl) ⟨Nat.le_of_ble_eq_true rfl, Nat.le_of_ble_eq_true rfl⟩ dX6_isUnder_11 ⟨Nat.le_of_ble_eq_true rfl, Nat.le_of_ble_eq_true rfl⟩ (fun r_11 H1 locs1 hr_11 hP1 hS1 => ?_)
    clear hP0 hS0 locs0 H0
    subst hr_11
    refine lb_eq (tgt := 36) hx hb dX6_isUnder_14 (by decide) (fun c => absurd c (by decide)) (fun _ => ?_)
    refine lv_iload_n hx hb dX6_isUnder_17 rfl (lv_at hl2 1 rfl) ?_
    refine lv_iload_n hx hb dX6_isUnder_18 rfl (lv_at hl2 3 rfl) ?_
    refine lv_icmp_ne (tgt := 24) hx hb dX6_isUnder_19 (by decide) (fun c_19 => ?_) (fun c_19 => ?_)
    · refine va_gets hx hb hG.2.1.1 hS1 hown (hw _ kw_2_130) (fun _ h9 => h9) dX6_isUnder_24 ?_
      refine lv_iload_n hx hb dX6_isUnder_27 rfl (lv_at hl2 1 rfl) ?_
      refine tld_i (f := tbU) hx hb hG.2.1.2.1 hS1 3 rfl (by first | assumption | omega) (by decide) dX6_isUnder_28 ?_
      refine tp (show (tbU 3) = 0 from rfl) ?_
      refine lv_istore_n (lv' := [(2, .int 0), (3, .int 0), (0, .int 3), (1, .int t)]) hx hb dX6_isUnder_29 rfl hl2 (by decide) rfl (fun ls3 hl3 => ?_)
      clear hl2 ls2
      refine lv_iinc (v := 1) (lv' := [(3, .int 1), (2, .int 0), (0, .int 3), (1, .int t)]) hx hb dX6_isUnder_30 hl3 (k := 1) rfl (by decide) (by decide) rfl (fun ls4 hl4 => ?_)
      clear hl3 ls3
      refine lv_goto (tgt := 4) hx hb dX6_isUnder_33 (by decide) ?_
      refine lv_iload_n hx hb dX6_isUnder_4 rfl (lv_at hl4 0 rfl) ?_
      refine lv_bipush (v := 6) hx hb dX6_isUnder_5 (by decide) ?_
      refine lv_icmp_ge (tgt := 36) hx hb dX6_isUnder_7 (by decide) (fun c => absurd c (by decide)) (fun _ => ?_)
      refine lv_iload_n hx hb dX6_isUnder_10 rfl (lv_at hl4 1 rfl) ?_
      refine rT_i (wc := []) (rest := []) hx hb hml hown hw hG hK hP1 hS1 hA hl4 kc_X6_isKind kw_2_72 [.int 0] (c_X6_isKind l D cy G H1.size 0) [] rfl rfl rfl (Nat.le_of_ble_eq_true rfl) ⟨Nat.le_of_ble_eq_true rfl, Nat.le_of_ble_eq_true rfl⟩ dX6_isUnder_11 ⟨Nat.le_of_ble_eq_true rfl, Nat.le_of_ble_eq_true rfl⟩ (fun r_11 H2 locs2 hr_11 hP2 hS2 => ?_)
      clear hP1 hS1 locs1 H1
      subst hr_11
      refine lb_eq (tgt := 36) hx hb dX6_isUnder_14 (by decide) (fun c => absurd c (by decide)) (fun _ => ?_)
      refine lv_iload_n hx hb dX6_isUnder_17 rfl (lv_at hl4 1 rfl) ?_
      refine lv_iload_n hx hb dX6_isUnder_18 rfl (lv_at hl4 3 rfl) ?_
      refine lv_icmp_ne (tgt := 24) hx hb dX6_isUnder_19 (by decide) (fun c_19_1 => ?_) (fun c_19_1 => ?_)
      · refine va_gets hx hb hG.2.1.1 hS2 hown (hw _ kw_2_130) (fun _ h9 => h9) dX6_isUnder_24 ?_
        refine lv_iload_n hx hb dX6_isUnder_27 rfl (lv_at hl4 1 rfl) ?_
        refine tld_i (f := tbU) hx hb hG.2.1.2.1 hS2 0 rfl (by first | assumption | omega) (by decide) dX6_isUnder_28 ?_
        refine tp (show (tbU 0) = -1 from rfl) ?_
        refine lv_istore_n (lv' := [(2, .int (-1)), (3, .int 1), (0, .int 3), (1, .int t)]) hx hb dX6_isUnder_29 rfl hl4 (by decide) rfl (fun ls5 hl5 => ?_)
        clear hl4 ls4
        refine lv_iinc (v := 2) (lv' := [(3, .int 2), (2, .int (-1)), (0, .int 3), (1, .int t)]) hx hb dX6_isUnder_30 hl5 (k := 1) rfl (by decide) (by decide) rfl (fun ls6 hl6 => ?_)
        clear hl5 ls5
        refine lv_goto (tgt := 4) hx hb dX6_isUnder_33 (by decide) ?_
        refine lv_iload_n hx hb dX6_isUnder_4 rfl (lv_at hl6 0 rfl) ?_
        refine lv_bipush (v := 6) hx hb dX6_isUnder_5 (by decide) ?_
        refine lv_icmp_ge (tgt := 36) hx hb dX6_isUnder_7 (by decide) (fun c => absurd c (by decide)) (fun _ => ?_)
        refine lv_iload_n hx hb dX6_isUnder_10 rfl (lv_at hl6 1 rfl) ?_
        refine rT_i (wc := []) (rest := []) hx hb hml hown hw hG hK hP2 hS2 hA hl6 kc_X6_isKind kw_2_72 [.int (-1)] (c_X6_isKind l D cy G H2.size (-1)) [] rfl rfl rfl (Nat.le_of_ble_eq_true rfl) ⟨Nat.le_of_ble_eq_true rfl, Nat.le_of_ble_eq_true rfl⟩ dX6_isUnder_11 ⟨Nat.le_of_ble_eq_true rfl, Nat.le_of_ble_eq_true rfl⟩ (fun r_11 H3 locs3 hr_11 hP3 hS3 => ?_)
        clear hP2 hS2 locs2 H2
        subst hr_11
        refine lb_eq (tgt := 36) hx hb dX6_isUnder_14 (by decide) (fun _ => ?_) (fun c => absurd c (by decide))
        refine lv_iconst (v := 0) hx hb dX6_isUnder_36 (by decide) ?_
        exact rd_z hx hb hr hlocks hS3 dX6_isUnder_37 rfl (by clear hx hb hml hown hr hlocks hw hsz hA hG hK hP3 hS3 hl6; grind [b2i])
      · refine lv_iconst (v := 1) hx hb dX6_isUnder_22 (by decide) ?_
        exact rd_z hx hb hr hlocks hS2 dX6_isUnder_23 rfl (by clear hx hb hml hown hr hlocks hw hsz hA hG hK hP2 hS2 hl4; grind [b2i])
    · refine lv_iconst (v := 1) hx hb dX6_isUnder_22 (by decide) ?_
      exact rd_z hx hb hr hlocks hS1 dX6_isUnder_23 rfl (by clear hx hb hml hown hr hlocks hw hsz hA hG hK hP1 hS1 hl2; grind [b2i])
  · refine lv_iload_n hx hb dX6_isUnder_0 rfl (lv_at hl0 0 rfl) ?_
    refine lv_istore_n (lv' := [(2, .int 4), (0, .int 4), (1, .int t)]) hx hb dX6_isUnder_1 rfl hl0 (by decide) rfl (fun ls1 hl1 => ?_)
    clear hl0 ls0
    refine lv_iconst (v := 0) hx hb dX6_isUnder_2 (by decide) ?_
    refine lv_istore_n (lv' := [(3, .int 0), (2, .int 4), (0, .int 4), (1, .int t)]) hx hb dX6_isUnder_3 rfl hl1 (by decide) rfl (fun ls2 hl2 => ?_)
    clear hl1 ls1
    refine lv_iload_n hx hb dX6_isUnder_4 rfl (lv_at hl2 0 rfl) ?_
    refine lv_bipush (v := 6) hx hb dX6_isUnder_5 (by decide) ?_
    refine lv_icmp_ge (tgt := 36) hx hb dX6_isUnder_7 (by decide) (fun c => absurd c (by decide)) (fun _ => ?_)
    refine lv_iload_n hx hb dX6_isUnder_10 rfl (lv_at hl2 1 rfl) ?_
    refine rT_i (wc := []) (rest := []) hx hb hml hown hw hG hK hP0 hS0 hA hl2 kc_X6_isKind kw_2_72 [.int 4] (c_X6_isKind l D cy G H0.size 4) [] rfl rfl rfl (Nat.le_of_ble_eq_true rfl) ⟨Nat.le_of_ble_eq_true rfl, Nat.le_of_ble_eq_true rfl⟩ dX6_isUnder_11 ⟨Nat.le_of_ble_eq_true rfl, Nat.le_of_ble_eq_true rfl⟩ (fun r_11 H1 locs1 hr_11 hP1 hS1 => ?_)
    clear hP0 hS0 locs0 H0
    subst hr_11
    refine lb_eq (tgt := 36) hx hb dX6_isUnder_14 (by decide) (fun c => absurd c (by decide)) (fun _ => ?_)
    refine lv_iload_n hx hb dX6_isUnder_17 rfl (lv_at hl2 1 rfl) ?_
    refine lv_iload_n hx hb dX6_isUnder_18 rfl (lv_at hl2 3 rfl) ?_
    refine lv_icmp_ne (tgt := 24) hx hb dX6_isUnder_19 (by decide) (fun c_19 => ?_) (fun c_19 => ?_)
    · refine va_gets hx hb hG.2.1.1 hS1 hown (hw _ kw_2_130) (fun _ h9 => h9) dX6_isUnder_24 ?_
      refine lv_iload_n hx hb dX6_isUnder_27 rfl (lv_at hl2 1 rfl) ?_
      refine tld_i (f := tbU) hx hb hG.2.1.2.1 hS1 4 rfl (by first | assumption | omega) (by decide) dX6_isUnder_28 ?_
      refine tp (show (tbU 4) = 0 from rfl) ?_
      refine lv_istore_n (lv' := [(2, .int 0), (3, .int 0), (0, .int 4), (1, .int t)]) hx hb dX6_isUnder_29 rfl hl2 (by decide) rfl (fun ls3 hl3 => ?_)
      clear hl2 ls2
      refine lv_iinc (v := 1) (lv' := [(3, .int 1), (2, .int 0), (0, .int 4), (1, .int t)]) hx hb dX6_isUnder_30 hl3 (k := 1) rfl (by decide) (by decide) rfl (fun ls4 hl4 => ?_)
      clear hl3 ls3
      refine lv_goto (tgt := 4) hx hb dX6_isUnder_33 (by decide) ?_
      refine lv_iload_n hx hb dX6_isUnder_4 rfl (lv_at hl4 0 rfl) ?_
      refine lv_bipush (v := 6) hx hb dX6_isUnder_5 (by decide) ?_
      refine lv_icmp_ge (tgt := 36) hx hb dX6_isUnder_7 (by decide) (fun c => absurd c (by decide)) (fun _ => ?_)
      refine lv_iload_n hx hb dX6_isUnder_10 rfl (lv_at hl4 1 rfl) ?_
      refine rT_i (wc := []) (rest := []) hx hb hml hown hw hG hK hP1 hS1 hA hl4 kc_X6_isKind kw_2_72 [.int 0] (c_X6_isKind l D cy G H1.size 0) [] rfl rfl rfl (Nat.le_of_ble_eq_true rfl) ⟨Nat.le_of_ble_eq_true rfl, Nat.le_of_ble_eq_true rfl⟩ dX6_isUnder_11 ⟨Nat.le_of_ble_eq_true rfl, Nat.le_of_ble_eq_true rfl⟩ (fun r_11 H2 locs2 hr_11 hP2 hS2 => ?_)
      clear hP1 hS1 locs1 H1
      subst hr_11
      refine lb_eq (tgt := 36) hx hb dX6_isUnder_14 (by decide) (fun c => absurd c (by decide)) (fun _ => ?_)
      refine lv_iload_n hx hb dX6_isUnder_17 rfl (lv_at hl4 1 rfl) ?_
      refine lv_iload_n hx hb dX6_isUnder_18 rfl (lv_at hl4 3 rfl) ?_
      refine lv_icmp_ne (tgt := 24) hx hb dX6_isUnder_19 (by decide) (fun c_19_1 => ?_) (fun c_19_1 => ?_)
      · refine va_gets hx hb hG.2.1.1 hS2 hown (hw _ kw_2_130) (fun _ h9 => h9) dX6_isUnder_24 ?_
        refine lv_iload_n hx hb dX6_isUnder_27 rfl (lv_at hl4 1 rfl) ?_
        refine tld_i (f := tbU) hx hb hG.2.1.2.1 hS2 0 rfl (by first | assumption | omega) (by decide) dX6_isUnder_28 ?_
        refine tp (show (tbU 0) = -1 from rfl) ?_
        refine lv_istore_n (lv' := [(2, .int (-1)), (3, .int 1), (0, .int 4), (1, .int t)]) hx hb dX6_isUnder_29 rfl hl4 (by decide) rfl (fun ls5 hl5 => ?_)
        clear hl4 ls4
        refine lv_iinc (v := 2) (lv' := [(3, .int 2), (2, .int (-1)), (0, .int 4), (1, .int t)]) hx hb dX6_isUnder_30 hl5 (k := 1) rfl (by decide) (by decide) rfl (fun ls6 hl6 => ?_)
        clear hl5 ls5
        refine lv_goto (tgt := 4) hx hb dX6_isUnder_33 (by decide) ?_
        refine lv_iload_n hx hb dX6_isUnder_4 rfl (lv_at hl6 0 rfl) ?_
        refine lv_bipush (v := 6) hx hb dX6_isUnder_5 (by decide) ?_
        refine lv_icmp_ge (tgt := 36) hx hb dX6_isUnder_7 (by decide) (fun c => absurd c (by decide)) (fun _ => ?_)
        refine lv_iload_n hx hb dX6_isUnder_10 rfl (lv_at hl6 1 rfl) ?_
        refine rT_i (wc := []) (rest := []) hx hb hml hown hw hG hK hP2 hS2 hA hl6 kc_X6_isKind kw_2_72 [.int (-1)] (c_X6_isKind l D cy G H2.size (-1)) [] rfl rfl rfl (Nat.le_of_ble_eq_true rfl) ⟨Nat.le_of_ble_eq_true rfl, Nat.le_of_ble_eq_true rfl⟩ dX6_isUnder_11 ⟨Nat.le_of_ble_eq_true rfl, Nat.le_of_ble_eq_true rfl⟩ (fun r_11 H3 locs3 hr_11 hP3 hS3 => ?_)
        clear hP2 hS2 locs2 H2
        subst hr_11
        refine lb_eq (tgt := 36) hx hb dX6_isUnder_14 (by decide) (fun _ => ?_) (fun c => absurd c (by decide))
        refine lv_iconst (v := 0) hx hb dX6_isUnder_36 (by decide) ?_
        exact rd_z hx hb hr hlocks hS3 dX6_isUnder_37 rfl (by clear hx hb hml hown hr hlocks hw hsz hA hG hK hP3 hS3 hl6; grind [b2i])
      · refine lv_iconst (v := 1) hx hb dX6_isUnder_22 (by decide) ?_
        exact rd_z hx hb hr hlocks hS2 dX6_isUnder_23 rfl (by clear hx hb hml hown hr hlocks hw hsz hA hG hK hP2 hS2 hl4; grind [b2i])
    · refine lv_iconst (v := 1) hx hb dX6_isUnder_22 (by decide) ?_
      exact rd_z hx hb hr hlocks hS1 dX6_isUnder_23 rfl (by clear hx hb hml hown hr hlocks hw hsz hA hG hK hP1 hS1 hl2; grind [b2i])
  · refine lv_iload_n hx hb dX6_isUnder_0 rfl (lv_at hl0 0 rfl) ?_
    refine lv_istore_n (lv' := [(2, .int 5), (0, .int 5), (1, .int t)]) hx hb dX6_isUnder_1 rfl hl0 (by decide) rfl (fun ls1 hl1 => ?_)
    clear hl0 ls0
    refine lv_iconst (v := 0) hx hb dX6_isUnder_2 (by decide) ?_
    refine lv_istore_n (lv' := [(3, .int 0), (2, .int 5), (0, .int 5), (1, .int t)]) hx hb dX6_isUnder_3 rfl hl1 (by decide) rfl (fun ls2 hl2 => ?_)
    clear hl1 ls1
    refine lv_iload_n hx hb dX6_isUnder_4 rfl (lv_at hl2 0 rfl) ?_
    refine lv_bipush (v := 6) hx hb dX6_isUnder_5 (by decide) ?_
    refine lv_icmp_ge (tgt := 36) hx hb dX6_isUnder_7 (by decide) (fun c => absurd c (by decide)) (fun _ => ?_)
    refine lv_iload_n hx hb dX6_isUnder_10 rfl (lv_at hl2 1 rfl) ?_
    refine rT_i (wc := []) (rest := []) hx hb hml hown hw hG hK hP0 hS0 hA hl2 kc_X6_isKind kw_2_72 [.int 5] (c_X6_isKind l D cy G H0.size 5) [] rfl rfl rfl (Nat.le_of_ble_eq_true rfl) ⟨Nat.le_of_ble_eq_true rfl, Nat.le_of_ble_eq_true rfl⟩ dX6_isUnder_11 ⟨Nat.le_of_ble_eq_true rfl, Nat.le_of_ble_eq_true rfl⟩ (fun r_11 H1 locs1 hr_11 hP1 hS1 => ?_)
    clear hP0 hS0 locs0 H0
    subst hr_11
    refine lb_eq (tgt := 36) hx hb dX6_isUnder_14 (by decide) (fun c => absurd c (by decide)) (fun _ => ?_)
    refine lv_iload_n hx hb dX6_isUnder_17 rfl (lv_at hl2 1 rfl) ?_
    refine lv_iload_n hx hb dX6_isUnder_18 rfl (lv_at hl2 3 rfl) ?_
    refine lv_icmp_ne (tgt := 24) hx hb dX6_isUnder_19 (by decide) (fun c_19 => ?_) (fun c_19 => ?_)
    · refine va_gets hx hb hG.2.1.1 hS1 hown (hw _ kw_2_130) (fun _ h9 => h9) dX6_isUnder_24 ?_
      refine lv_iload_n hx hb dX6_isUnder_27 rfl (lv_at hl2 1 rfl) ?_
      refine tld_i (f := tbU) hx hb hG.2.1.2.1 hS1 5 rfl (by first | assumption | omega) (by decide) dX6_isUnder_28 ?_
      refine tp (show (tbU 5) = 2 from rfl) ?_
      refine lv_istore_n (lv' := [(2, .int 2), (3, .int 0), (0, .int 5), (1, .int t)]) hx hb dX6_isUnder_29 rfl hl2 (by decide) rfl (fun ls3 hl3 => ?_)
      clear hl2 ls2
      refine lv_iinc (v := 1) (lv' := [(3, .int 1), (2, .int 2), (0, .int 5), (1, .int t)]) hx hb dX6_isUnder_30 hl3 (k := 1) rfl (by decide) (by decide) rfl (fun ls4 hl4 => ?_)
      clear hl3 ls3
      refine lv_goto (tgt := 4) hx hb dX6_isUnder_33 (by decide) ?_
      refine lv_iload_n hx hb dX6_isUnder_4 rfl (lv_at hl4 0 rfl) ?_
      refine lv_bipush (v := 6) hx hb dX6_isUnder_5 (by decide) ?_
      refine lv_icmp_ge (tgt := 36) hx hb dX6_isUnder_7 (by decide) (fun c => absurd c (by decide)) (fun _ => ?_)
      refine lv_iload_n hx hb dX6_isUnder_10 rfl (lv_at hl4 1 rfl) ?_
      refine rT_i (wc := []) (rest := []) hx hb hml hown hw hG hK hP1 hS1 hA hl4 kc_X6_isKind kw_2_72 [.int 2] (c_X6_isKind l D cy G H1.size 2) [] rfl rfl rfl (Nat.le_of_ble_eq_true rfl) ⟨Nat.le_of_ble_eq_true rfl, Nat.le_of_ble_eq_true rfl⟩ dX6_isUnder_11 ⟨Nat.le_of_ble_eq_true rfl, Nat.le_of_ble_eq_true rfl⟩ (fun r_11 H2 locs2 hr_11 hP2 hS2 => ?_)
      clear hP1 hS1 locs1 H1
      subst hr_11
      refine lb_eq (tgt := 36) hx hb dX6_isUnder_14 (by decide) (fun c => absurd c (by decide)) (fun _ => ?_)
      refine lv_iload_n hx hb dX6_isUnder_17 rfl (lv_at hl4 1 rfl) ?_
      refine lv_iload_n hx hb dX6_isUnder_18 rfl (lv_at hl4 3 rfl) ?_
      refine lv_icmp_ne (tgt := 24) hx hb dX6_isUnder_19 (by decide) (fun c_19_1 => ?_) (fun c_19_1 => ?_)
      · refine va_gets hx hb hG.2.1.1 hS2 hown (hw _ kw_2_130) (fun _ h9 => h9) dX6_isUnder_24 ?_
        refine lv_iload_n hx hb dX6_isUnder_27 rfl (lv_at hl4 1 rfl) ?_
        refine tld_i (f := tbU) hx hb hG.2.1.2.1 hS2 2 rfl (by first | assumption | omega) (by decide) dX6_isUnder_28 ?_
        refine tp (show (tbU 2) = 0 from rfl) ?_
        refine lv_istore_n (lv' := [(2, .int 0), (3, .int 1), (0, .int 5), (1, .int t)]) hx hb dX6_isUnder_29 rfl hl4 (by decide) rfl (fun ls5 hl5 => ?_)
        clear hl4 ls4
        refine lv_iinc (v := 2) (lv' := [(3, .int 2), (2, .int 0), (0, .int 5), (1, .int t)]) hx hb dX6_isUnder_30 hl5 (k := 1) rfl (by decide) (by decide) rfl (fun ls6 hl6 => ?_)
        clear hl5 ls5
        refine lv_goto (tgt := 4) hx hb dX6_isUnder_33 (by decide) ?_
        refine lv_iload_n hx hb dX6_isUnder_4 rfl (lv_at hl6 0 rfl) ?_
        refine lv_bipush (v := 6) hx hb dX6_isUnder_5 (by decide) ?_
        refine lv_icmp_ge (tgt := 36) hx hb dX6_isUnder_7 (by decide) (fun c => absurd c (by decide)) (fun _ => ?_)
        refine lv_iload_n hx hb dX6_isUnder_10 rfl (lv_at hl6 1 rfl) ?_
        refine rT_i (wc := []) (rest := []) hx hb hml hown hw hG hK hP2 hS2 hA hl6 kc_X6_isKind kw_2_72 [.int 0] (c_X6_isKind l D cy G H2.size 0) [] rfl rfl rfl (Nat.le_of_ble_eq_true rfl) ⟨Nat.le_of_ble_eq_true rfl, Nat.le_of_ble_eq_true rfl⟩ dX6_isUnder_11 ⟨Nat.le_of_ble_eq_true rfl, Nat.le_of_ble_eq_true rfl⟩ (fun r_11 H3 locs3 hr_11 hP3 hS3 => ?_)
        clear hP2 hS2 locs2 H2
        subst hr_11
        refine lb_eq (tgt := 36) hx hb dX6_isUnder_14 (by decide) (fun c => absurd c (by decide)) (fun _ => ?_)
        refine lv_iload_n hx hb dX6_isUnder_17 rfl (lv_at hl6 1 rfl) ?_
        refine lv_iload_n hx hb dX6_isUnder_18 rfl (lv_at hl6 3 rfl) ?_
        refine lv_icmp_ne (tgt := 24) hx hb dX6_isUnder_19 (by decide) (fun c_19_2 => ?_) (fun c_19_2 => ?_)
        · refine va_gets hx hb hG.2.1.1 hS3 hown (hw _ kw_2_130) (fun _ h9 => h9) dX6_isUnder_24 ?_
          refine lv_iload_n hx hb dX6_isUnder_27 rfl (lv_at hl6 1 rfl) ?_
          refine tld_i (f := tbU) hx hb hG.2.1.2.1 hS3 0 rfl (by first | assumption | omega) (by decide) dX6_isUnder_28 ?_
          refine tp (show (tbU 0) = -1 from rfl) ?_
          refine lv_istore_n (lv' := [(2, .int (-1)), (3, .int 2), (0, .int 5), (1, .int t)]) hx hb dX6_isUnder_29 rfl hl6 (by decide) rfl (fun ls7 hl7 => ?_)
          clear hl6 ls6
          refine lv_iinc (v := 3) (lv' := [(3, .int 3), (2, .int (-1)), (0, .int 5), (1, .int t)]) hx hb dX6_isUnder_30 hl7 (k := 1) rfl (by decide) (by decide) rfl (fun ls8 hl8 => ?_)
          clear hl7 ls7
          refine lv_goto (tgt := 4) hx hb dX6_isUnder_33 (by decide) ?_
          refine lv_iload_n hx hb dX6_isUnder_4 rfl (lv_at hl8 0 rfl) ?_
          refine lv_bipush (v := 6) hx hb dX6_isUnder_5 (by decide) ?_
          refine lv_icmp_ge (tgt := 36) hx hb dX6_isUnder_7 (by decide) (fun c => absurd c (by decide)) (fun _ => ?_)
          refine lv_iload_n hx hb dX6_isUnder_10 rfl (lv_at hl8 1 rfl) ?_
          refine rT_i (wc := []) (rest := []) hx hb hml hown hw hG hK hP3 hS3 hA hl8 kc_X6_isKind kw_2_72 [.int (-1)] (c_X6_isKind l D cy G H3.size (-1)) [] rfl rfl rfl (Nat.le_of_ble_eq_true rfl) ⟨Nat.le_of_ble_eq_true rfl, Nat.le_of_ble_eq_true rfl⟩ dX6_isUnder_11 ⟨Nat.le_of_ble_eq_true rfl, Nat.le_of_ble_eq_true rfl⟩ (fun r_11 H4 locs4 hr_11 hP4 hS4 => ?_)
          clear hP3 hS3 locs3 H3
          subst hr_11
          refine lb_eq (tgt := 36) hx hb dX6_isUnder_14 (by decide) (fun _ => ?_) (fun c => absurd c (by decide))
          refine lv_iconst (v := 0) hx hb dX6_isUnder_36 (by decide) ?_
          exact rd_z hx hb hr hlocks hS4 dX6_isUnder_37 rfl (by clear hx hb hml hown hr hlocks hw hsz hA hG hK hP4 hS4 hl8; grind [b2i])
        · refine lv_iconst (v := 1) hx hb dX6_isUnder_22 (by decide) ?_
          exact rd_z hx hb hr hlocks hS3 dX6_isUnder_23 rfl (by clear hx hb hml hown hr hlocks hw hsz hA hG hK hP3 hS3 hl6; grind [b2i])
      · refine lv_iconst (v := 1) hx hb dX6_isUnder_22 (by decide) ?_
        exact rd_z hx hb hr hlocks hS2 dX6_isUnder_23 rfl (by clear hx hb hml hown hr hlocks hw hsz hA hG hK hP2 hS2 hl4; grind [b2i])
    · refine lv_iconst (v := 1) hx hb dX6_isUnder_22 (by decide) ?_
      exact rd_z hx hb hr hlocks hS1 dX6_isUnder_23 rfl (by clear hx hb hml hown hr hlocks hw hsz hA hG hK hP1 hS1 hl2; grind [b2i])
  · refine lv_iload_n hx hb dX6_isUnder_0 rfl (lv_at hl0 0 rfl) ?_
    refine lv_istore_n (lv' := [(2, .int k), (0, .int k), (1, .int t)]) hx hb dX6_isUnder_1 rfl hl0 (by decide) rfl (fun ls1 hl1 => ?_)
    clear hl0 ls0
    refine lv_iconst (v := 0) hx hb dX6_isUnder_2 (by decide) ?_
    refine lv_istore_n (lv' := [(3, .int 0), (2, .int k), (0, .int k), (1, .int t)]) hx hb dX6_isUnder_3 rfl hl1 (by decide) rfl (fun ls2 hl2 => ?_)
    clear hl1 ls1
    refine lv_iload_n hx hb dX6_isUnder_4 rfl (lv_at hl2 0 rfl) ?_
    refine lv_bipush (v := 6) hx hb dX6_isUnder_5 (by decide) ?_
    refine lv_icmp_ge (tgt := 36) hx hb dX6_isUnder_7 (by decide) (fun c => absurd c (by decide)) (fun _ => ?_)
    refine lv_iload_n hx hb dX6_isUnder_10 rfl (lv_at hl2 1 rfl) ?_
    refine rT_i (wc := []) (rest := []) hx hb hml hown hw hG hK hP0 hS0 hA hl2 kc_X6_isKind kw_2_72 [.int k] (c_X6_isKind l D cy G H0.size k) [] rfl rfl rfl (Nat.le_of_ble_eq_true rfl) ⟨Nat.le_of_ble_eq_true rfl, Nat.le_of_ble_eq_true rfl⟩ dX6_isUnder_11 ⟨Nat.le_of_ble_eq_true rfl, Nat.le_of_ble_eq_true rfl⟩ (fun r_11 H1 locs1 hr_11 hP1 hS1 => ?_)
    clear hP0 hS0 locs0 H0
    subst hr_11
    refine lb_eq (tgt := 36) hx hb dX6_isUnder_14 (by decide) (fun c_14 => ?_) (fun c_14 => absurd c_14 hk)
    refine lv_iconst (v := 0) hx hb dX6_isUnder_36 (by decide) ?_
    exact rd_z hx hb hr hlocks hS1 dX6_isUnder_37 rfl (by clear hx hb hml hown hr hlocks hw hsz hA hG hK hP1 hS1 hl2; grind [b2i])

theorem kc_X1_hasRoom : kV yX1_hasRoom cX1_hasRoom 2 (some .boolean) 1 := ⟨kw_2_76, kw_2_77, kw_1_2, kw_2_78, by decide, by decide, by decide +kernel⟩
set_option maxHeartbeats 4000000 in
set_option maxRecDepth 100000 in
theorem c_X1_hasRoom (l : Launch) (D : va_G) (cy : Nat → ClassId) (G : Nat → Nat) (sz : Nat) (a : Nat → Nat) (S : Nat → Int32) (r : Int32)  : Met l yX1_hasRoom (wm yX1_hasRoom cX1_hasRoom 2 (some .boolean)) { frames := 0, cells := 0, slots := 0, locals := 0 } (va_Pc [.ref (a 0), .int r] (pd D (TY cy) G (pS cy a S) sz)) (va_Qi (fun r (_ : Unit) => r = b2i (0 ≤ r ∧ r < S 0)) (fun _ _ => True) (va_A [] sz)) 0 0 (va_A [] sz) := by
  refine mk_rd (by decide) RX1 rfl (Nat.le_of_ble_eq_true rfl) [(0, .ref (a 0)), (1, .int r)] rfl ?_
  intro p e s m below meth c hx hb hml hown hr hlocks hw hsz hA hG hK H0 locs0 hP0 hS0 ls0 hl0
  refine lv_iload_n hx hb dX1_hasRoom_0 rfl (lv_at hl0 1 rfl) ?_
  refine lv_if_lt (tgt := 16) hx hb dX1_hasRoom_1 (by decide) (fun c_1 => ?_) (fun c_1 => ?_)
  · refine lv_iconst (v := 0) hx hb dX1_hasRoom_16 (by decide) ?_
    exact rd_z hx hb hr hlocks hS0 dX1_hasRoom_17 rfl (by clear hx hb hml hown hr hlocks hw hsz hA hG hK hP0 hS0 hl0; grind [b2i])
  · refine lv_iload_n hx hb dX1_hasRoom_4 rfl (lv_at hl0 1 rfl) ?_
    refine lv_aload_n hx hb dX1_hasRoom_5 rfl (lv_at hl0 0 rfl) ?_
    refine va_get (D := D) (ci := 1) (v := .int (S 0)) (C := RX1) (T := TX1) (N := 12) hx hb hw iX1 hown hK hP0 0 rfl rfl 0 (by decide) (hw _ kw_1_30) (fun _ h9 => h9) rfl dX1_hasRoom_6 ?_
    refine lv_icmp_ge (tgt := 16) hx hb dX1_hasRoom_9 (by decide) (fun c_9 => ?_) (fun c_9 => ?_)
    · refine lv_iconst (v := 0) hx hb dX1_hasRoom_16 (by decide) ?_
      exact rd_z hx hb hr hlocks hS0 dX1_hasRoom_17 rfl (by clear hx hb hml hown hr hlocks hw hsz hA hG hK hP0 hS0 hl0; grind [b2i])
    · refine lv_iconst (v := 1) hx hb dX1_hasRoom_12 (by decide) ?_
      refine lv_goto (tgt := 17) hx hb dX1_hasRoom_13 (by decide) ?_
      exact rd_z hx hb hr hlocks hS0 dX1_hasRoom_17 rfl (by clear hx hb hml hown hr hlocks hw hsz hA hG hK hP0 hS0 hl0; grind [b2i])

theorem kc_X1_hasGap : kV yX1_hasGap cX1_hasGap 2 (some .boolean) 1 := ⟨kw_2_91, kw_2_92, kw_1_2, kw_2_93, by decide, by decide, by decide +kernel⟩
set_option maxHeartbeats 4000000 in
set_option maxRecDepth 100000 in
theorem c_X1_hasGap (l : Launch) (D : va_G) (cy : Nat → ClassId) (G : Nat → Nat) (sz : Nat) (a : Nat → Nat) (S : Nat → Int32) (g : Int32)  : Met l yX1_hasGap (wm yX1_hasGap cX1_hasGap 2 (some .boolean)) { frames := 0, cells := 0, slots := 0, locals := 0 } (va_Pc [.ref (a 0), .int g] (pd D (TY cy) G (pS cy a S) sz)) (va_Qi (fun r (_ : Unit) => r = b2i (0 ≤ g ∧ g < S 1)) (fun _ _ => True) (va_A [] sz)) 0 0 (va_A [] sz) := by
  refine mk_rd (by decide) RX1 rfl (Nat.le_of_ble_eq_true rfl) [(0, .ref (a 0)), (1, .int g)] rfl ?_
  intro p e s m below meth c hx hb hml hown hr hlocks hw hsz hA hG hK H0 locs0 hP0 hS0 ls0 hl0
  refine lv_iload_n hx hb dX1_hasGap_0 rfl (lv_at hl0 1 rfl) ?_
  refine lv_if_lt (tgt := 16) hx hb dX1_hasGap_1 (by decide) (fun c_1 => ?_) (fun c_1 => ?_)
  · refine lv_iconst (v := 0) hx hb dX1_hasGap_16 (by decide) ?_
    exact rd_z hx hb hr hlocks hS0 dX1_hasGap_17 rfl (by clear hx hb hml hown hr hlocks hw hsz hA hG hK hP0 hS0 hl0; grind [b2i])
  · refine lv_iload_n hx hb dX1_hasGap_4 rfl (lv_at hl0 1 rfl) ?_
    refine lv_aload_n hx hb dX1_hasGap_5 rfl (lv_at hl0 0 rfl) ?_
    refine va_get (D := D) (ci := 1) (v := .int (S 1)) (C := RX1) (T := TX1) (N := 12) hx hb hw iX1 hown hK hP0 0 rfl rfl 1 (by decide) (hw _ kw_1_34) (fun _ h9 => h9) rfl dX1_hasGap_6 ?_
    refine lv_icmp_ge (tgt := 16) hx hb dX1_hasGap_9 (by decide) (fun c_9 => ?_) (fun c_9 => ?_)
    · refine lv_iconst (v := 0) hx hb dX1_hasGap_16 (by decide) ?_
      exact rd_z hx hb hr hlocks hS0 dX1_hasGap_17 rfl (by clear hx hb hml hown hr hlocks hw hsz hA hG hK hP0 hS0 hl0; grind [b2i])
    · refine lv_iconst (v := 1) hx hb dX1_hasGap_12 (by decide) ?_
      refine lv_goto (tgt := 17) hx hb dX1_hasGap_13 (by decide) ?_
      exact rd_z hx hb hr hlocks hS0 dX1_hasGap_17 rfl (by clear hx hb hml hown hr hlocks hw hsz hA hG hK hP0 hS0 hl0; grind [b2i])

theorem kc_X1_isTurned : kV yX1_isTurned cX1_isTurned 2 (some .boolean) 1 := ⟨kw_2_105, kw_s_1, kw_1_2, kw_2_106, by decide, by decide, by decide +kernel⟩
set_option maxHeartbeats 4000000 in
set_option maxRecDepth 100000 in
theorem c_X1_isTurned (l : Launch) (D : va_G) (cy : Nat → ClassId) (G : Nat → Nat) (sz : Nat) (a : Nat → Nat) (S : Nat → Int32) (j : Nat) (hj : j < 20) : Met l yX1_isTurned (wm yX1_isTurned cX1_isTurned 2 (some .boolean)) { frames := 0, cells := 0, slots := 0, locals := 0 } (va_Pc [.ref (a 0), .int (nI j)] (pd D (TY cy) G (pS cy a S) sz)) (va_Qi (fun r (_ : Unit) => r = b2i (S (11 + 8 * j) = -1 ∧ 0 < S 3 ∧ S 4 = S (14 + 8 * j))) (fun _ _ => True) (va_A [] sz)) 0 0 (va_A [] sz) := by
  refine mk_rd (by decide) RX1 rfl (Nat.le_of_ble_eq_true rfl) [(0, .ref (a 0)), (1, .int (nI j))] rfl ?_
  intro p e s m below meth c hx hb hml hown hr hlocks hw hsz hA hG hK H0 locs0 hP0 hS0 ls0 hl0
  refine lv_aload_n hx hb dX1_isTurned_0 rfl (lv_at hl0 0 rfl) ?_
  refine va_get (D := D) (ci := 1) (v := .ref (a 3)) (C := RX1) (T := TX1) (N := 12) hx hb hw iX1 hown hK hP0 0 rfl rfl 4 (by decide) (hw _ kw_1_44) (fun _ h9 => h9) rfl dX1_isTurned_1 ?_
  refine lv_iload_n hx hb dX1_isTurned_4 rfl (lv_at hl0 1 rfl) ?_
  refine ald_i (f := fun g => S (11 + 8 * g)) hx hb hK hP0 3 0 rfl rfl j rfl (by first | assumption | omega) (by decide) dX1_isTurned_5 ?_
  refine lv_iconst (v := (-1)) hx hb dX1_isTurned_6 (by decide) ?_
  refine lv_icmp_ne (tgt := 38) hx hb dX1_isTurned_7 (by decide) (fun c_7 => ?_) (fun c_7 => ?_)
  · refine lv_iconst (v := 0) hx hb dX1_isTurned_38 (by decide) ?_
    exact rd_z hx hb hr hlocks hS0 dX1_isTurned_39 rfl (by clear hx hb hml hown hr hlocks hw hsz hA hG hK hP0 hS0 hl0; grind [b2i])
  · refine lv_aload_n hx hb dX1_isTurned_10 rfl (lv_at hl0 0 rfl) ?_
    refine va_get (D := D) (ci := 1) (v := .ref (a 9)) (C := RX1) (T := TX1) (N := 12) hx hb hw iX1 hown hK hP0 0 rfl rfl 10 (by decide) (hw _ kw_1_60) (fun _ h9 => h9) rfl dX1_isTurned_11 ?_
    refine lv_iconst (v := 1) hx hb dX1_isTurned_14 (by decide) ?_
    refine ald_i (f := fun k => if k < 6 then S (2 + k) else 0) hx hb hK hP0 9 0 rfl rfl 1 rfl (by first | assumption | omega) (by decide) dX1_isTurned_15 ?_
    refine tp (show (if 1 < 6 then S (2 + 1) else 0) = S 3 from rfl) ?_
    refine lv_if_le (tgt := 38) hx hb dX1_isTurned_16 (by decide) (fun c_16 => ?_) (fun c_16 => ?_)
    · refine lv_iconst (v := 0) hx hb dX1_isTurned_38 (by decide) ?_
      exact rd_z hx hb hr hlocks hS0 dX1_isTurned_39 rfl (by clear hx hb hml hown hr hlocks hw hsz hA hG hK hP0 hS0 hl0; grind [b2i])
    · refine lv_aload_n hx hb dX1_isTurned_19 rfl (lv_at hl0 0 rfl) ?_
      refine va_get (D := D) (ci := 1) (v := .ref (a 9)) (C := RX1) (T := TX1) (N := 12) hx hb hw iX1 hown hK hP0 0 rfl rfl 10 (by decide) (hw _ kw_1_60) (fun _ h9 => h9) rfl dX1_isTurned_20 ?_
      refine lv_iconst (v := 2) hx hb dX1_isTurned_23 (by decide) ?_
      refine ald_i (f := fun k => if k < 6 then S (2 + k) else 0) hx hb hK hP0 9 0 rfl rfl 2 rfl (by first | assumption | omega) (by decide) dX1_isTurned_24 ?_
      refine tp (show (if 2 < 6 then S (2 + 2) else 0) = S 4 from rfl) ?_
      refine lv_aload_n hx hb dX1_isTurned_25 rfl (lv_at hl0 0 rfl) ?_
      refine va_get (D := D) (ci := 1) (v := .ref (a 6)) (C := RX1) (T := TX1) (N := 12) hx hb hw iX1 hown hK hP0 0 rfl rfl 7 (by decide) (hw _ kw_1_52) (fun _ h9 => h9) rfl dX1_isTurned_26 ?_
      refine lv_iload_n hx hb dX1_isTurned_29 rfl (lv_at hl0 1 rfl) ?_
      refine ald_i (f := fun g => S (14 + 8 * g)) hx hb hK hP0 6 0 rfl rfl j rfl (by first | assumption | omega) (by decide) dX1_isTurned_30 ?_
      refine lv_icmp_ne (tgt := 38) hx hb dX1_isTurned_31 (by decide) (fun c_31 => ?_) (fun c_31 => ?_)
      · refine lv_iconst (v := 0) hx hb dX1_isTurned_38 (by decide) ?_
        exact rd_z hx hb hr hlocks hS0 dX1_isTurned_39 rfl (by clear hx hb hml hown hr hlocks hw hsz hA hG hK hP0 hS0 hl0; grind [b2i])
      · refine lv_iconst (v := 1) hx hb dX1_isTurned_34 (by decide) ?_
        refine lv_goto (tgt := 39) hx hb dX1_isTurned_35 (by decide) ?_
        exact rd_z hx hb hr hlocks hS0 dX1_isTurned_39 rfl (by clear hx hb hml hown hr hlocks hw hsz hA hG hK hP0 hS0 hl0; grind [b2i])

theorem kc_X1_windOn : kV yX1_windOn cX1_windOn 3 (some .int) 1 := ⟨kw_2_113, kw_s_2, kw_1_2, kw_2_114, by decide, by decide, by decide +kernel⟩
set_option maxHeartbeats 4000000 in
set_option maxRecDepth 100000 in
theorem c_X1_windOn (l : Launch) (D : va_G) (cy : Nat → ClassId) (G : Nat → Nat) (sz : Nat) (a : Nat → Nat) (S : Nat → Int32) (d : Int32)  : Met l yX1_windOn (wm yX1_windOn cX1_windOn 3 (some .int)) { frames := 0, cells := 0, slots := 0, locals := 0 } (va_Pc [.ref (a 0), .int d] (pd D (TY cy) G (pS cy a S) sz)) (va_Qi (fun r (_ : Unit) => r = windOn S d) (fun _ _ => True) (va_A [] sz)) 0 0 (va_A [] sz) := by
  refine mk_rd (by decide) RX1 rfl (Nat.le_of_ble_eq_true rfl) [(0, .ref (a 0)), (1, .int d)] rfl ?_
  intro p e s m below meth c hx hb hml hown hr hlocks hw hsz hA hG hK H0 locs0 hP0 hS0 ls0 hl0
  refine lv_aload_n hx hb dX1_windOn_0 rfl (lv_at hl0 0 rfl) ?_
  refine va_get (D := D) (ci := 1) (v := .ref (a 9)) (C := RX1) (T := TX1) (N := 12) hx hb hw iX1 hown hK hP0 0 rfl rfl 10 (by decide) (hw _ kw_1_60) (fun _ h9 => h9) rfl dX1_windOn_1 ?_
  refine lv_iconst (v := 1) hx hb dX1_windOn_4 (by decide) ?_
  refine ald_i (f := fun k => if k < 6 then S (2 + k) else 0) hx hb hK hP0 9 0 rfl rfl 1 rfl (by first | assumption | omega) (by decide) dX1_windOn_5 ?_
  refine tp (show (if 1 < 6 then S (2 + 1) else 0) = S 3 from rfl) ?_
  refine lv_istore_n (lv' := [(2, .int (S 3)), (0, .ref (a 0)), (1, .int d)]) hx hb dX1_windOn_6 rfl hl0 (by decide) rfl (fun ls1 hl1 => ?_)
  clear hl0 ls0
  refine lv_aload_n hx hb dX1_windOn_7 rfl (lv_at hl1 1 rfl) ?_
  refine va_get (D := D) (ci := 1) (v := .ref (a 9)) (C := RX1) (T := TX1) (N := 12) hx hb hw iX1 hown hK hP0 0 rfl rfl 10 (by decide) (hw _ kw_1_60) (fun _ h9 => h9) rfl dX1_windOn_8 ?_
  refine lv_iconst (v := 2) hx hb dX1_windOn_11 (by decide) ?_
  refine ald_i (f := fun k => if k < 6 then S (2 + k) else 0) hx hb hK hP0 9 0 rfl rfl 2 rfl (by first | assumption | omega) (by decide) dX1_windOn_12 ?_
  refine tp (show (if 2 < 6 then S (2 + 2) else 0) = S 4 from rfl) ?_
  refine lv_iload_n hx hb dX1_windOn_13 rfl (lv_at hl1 2 rfl) ?_
  refine lv_icmp_ne (tgt := 19) hx hb dX1_windOn_14 (by decide) (fun c_14 => ?_) (fun c_14 => ?_)
  · refine lv_aload_n hx hb dX1_windOn_19 rfl (lv_at hl1 1 rfl) ?_
    refine va_get (D := D) (ci := 1) (v := .ref (a 9)) (C := RX1) (T := TX1) (N := 12) hx hb hw iX1 hown hK hP0 0 rfl rfl 10 (by decide) (hw _ kw_1_60) (fun _ h9 => h9) rfl dX1_windOn_20 ?_
    refine lv_iconst (v := 2) hx hb dX1_windOn_23 (by decide) ?_
    refine ald_i (f := fun k => if k < 6 then S (2 + k) else 0) hx hb hK hP0 9 0 rfl rfl 2 rfl (by first | assumption | omega) (by decide) dX1_windOn_24 ?_
    refine tp (show (if 2 < 6 then S (2 + 2) else 0) = S 4 from rfl) ?_
    refine lv_iload_n hx hb dX1_windOn_25 rfl (lv_at hl1 2 rfl) ?_
    refine lv_iconst (v := 2) hx hb dX1_windOn_26 (by decide) ?_
    refine lv_iadd hx hb dX1_windOn_27 ?_
    refine lv_iconst (v := 4) hx hb dX1_windOn_28 (by decide) ?_
    refine lv_irem hx hb dX1_windOn_29 (by decide) ?_
    refine lv_icmp_ne (tgt := 40) hx hb dX1_windOn_30 (by decide) (fun c_30 => ?_) (fun c_30 => ?_)
    · refine lv_iload_n hx hb dX1_windOn_40 rfl (lv_at hl1 0 rfl) ?_
      refine lv_iconst (v := 4) hx hb dX1_windOn_41 (by decide) ?_
      refine lv_idiv hx hb dX1_windOn_42 (by decide) ?_
      refine lv_ineg hx hb dX1_windOn_43 ?_
      exact rd_i hx hb hr hlocks hS0 dX1_windOn_44 (by clear hx hb hml hown hr hlocks hw hsz hA hG hK hP0 hS0 hl1; grind [windOn])
    · refine lv_iload_n hx hb dX1_windOn_33 rfl (lv_at hl1 0 rfl) ?_
      refine lv_iconst (v := 2) hx hb dX1_windOn_34 (by decide) ?_
      refine lv_idiv hx hb dX1_windOn_35 (by decide) ?_
      refine lv_ineg hx hb dX1_windOn_36 ?_
      refine lv_goto (tgt := 44) hx hb dX1_windOn_37 (by decide) ?_
      exact rd_i hx hb hr hlocks hS0 dX1_windOn_44 (by clear hx hb hml hown hr hlocks hw hsz hA hG hK hP0 hS0 hl1; grind [windOn])
  · refine lv_iload_n hx hb dX1_windOn_17 rfl (lv_at hl1 0 rfl) ?_
    exact rd_i hx hb hr hlocks hS0 dX1_windOn_18 (by clear hx hb hml hown hr hlocks hw hsz hA hG hK hP0 hS0 hl1; grind [windOn])

theorem kc_X1_breadthOf : kV yX1_breadthOf cX1_breadthOf 2 (some .int) 1 := ⟨kw_2_100, kw_2_101, kw_1_2, kw_2_102, by decide, by decide, by decide +kernel⟩
set_option maxHeartbeats 4000000 in
set_option maxRecDepth 100000 in
theorem c_X1_breadthOf (l : Launch) (D : va_G) (cy : Nat → ClassId) (G : Nat → Nat) (sz : Nat) (a : Nat → Nat) (S : Nat → Int32) (j : Nat) (hj : j < 20) : Met l yX1_breadthOf (wm yX1_breadthOf cX1_breadthOf 2 (some .int)) { frames := 1, cells := 0, slots := 0, locals := 21 } (va_Pc [.ref (a 0), .int (nI j)] (pd D (TY cy) G (pS cy a S) sz)) (va_Qi (fun r (_ : Unit) => r = breadth S j) (fun _ _ => True) (va_A [] sz)) 0 0 (va_A [] sz) := by
  refine mk_rd (by decide) RX1 rfl (Nat.le_of_ble_eq_true rfl) [(0, .ref (a 0)), (1, .int (nI j))] rfl ?_
  intro p e s m below meth c hx hb hml hown hr hlocks hw hsz hA hG hK H0 locs0 hP0 hS0 ls0 hl0
  refine lv_aload_n hx hb dX1_breadthOf_0 rfl (lv_at hl0 0 rfl) ?_
  refine va_get (D := D) (ci := 1) (v := .ref (a 8)) (C := RX1) (T := TX1) (N := 12) hx hb hw iX1 hown hK hP0 0 rfl rfl 9 (by decide) (hw _ kw_1_57) (fun _ h9 => h9) rfl dX1_breadthOf_1 ?_
  refine lv_iload_n hx hb dX1_breadthOf_4 rfl (lv_at hl0 1 rfl) ?_
  refine ald_z (f := fun g => S (16 + 8 * g)) hx hb hK hP0 8 2 rfl rfl j rfl (by first | assumption | omega) (by decide) dX1_breadthOf_5 ?_
  refine lv_if_eq (tgt := 11) hx hb dX1_breadthOf_6 (by decide) (fun c_6 => ?_) (fun c_6 => ?_)
  · refine lv_aload_n hx hb dX1_breadthOf_11 rfl (lv_at hl0 0 rfl) ?_
    refine va_get (D := D) (ci := 1) (v := .ref (a 1)) (C := RX1) (T := TX1) (N := 12) hx hb hw iX1 hown hK hP0 0 rfl rfl 2 (by decide) (hw _ kw_1_39) (fun _ h9 => h9) rfl dX1_breadthOf_12 ?_
    refine lv_iload_n hx hb dX1_breadthOf_15 rfl (lv_at hl0 1 rfl) ?_
    refine ald_i (f := fun g => S (9 + 8 * g)) hx hb hK hP0 1 0 rfl rfl j rfl (by first | assumption | omega) (by decide) dX1_breadthOf_16 ?_
    by_cases c_17_1 : S (9 + 8 * j) = 1
    · refine tp c_17_1 ?_
      refine lv_tableIn (off := 31) (tgt := 48) hx hb dX1_breadthOf_17 (by decide) (by decide) (by decide) (by decide) ?_
      refine lv_aload_n hx hb dX1_breadthOf_48 rfl (lv_at hl0 0 rfl) ?_
      refine va_get (D := D) (ci := 1) (v := .ref (a 4)) (C := RX1) (T := TX1) (N := 12) hx hb hw iX1 hown hK hP0 0 rfl rfl 5 (by decide) (hw _ kw_1_47) (fun _ h9 => h9) rfl dX1_breadthOf_49 ?_
      refine lv_iload_n hx hb dX1_breadthOf_52 rfl (lv_at hl0 1 rfl) ?_
      refine ald_i (f := fun g => S (12 + 8 * g)) hx hb hK hP0 4 0 rfl rfl j rfl (by first | assumption | omega) (by decide) dX1_breadthOf_53 ?_
      refine lv_iconst (v := 2) hx hb dX1_breadthOf_54 (by decide) ?_
      refine lv_idiv hx hb dX1_breadthOf_55 (by decide) ?_
      exact rd_i hx hb hr hlocks hS0 dX1_breadthOf_56 (by clear hx hb hml hown hr hlocks hw hsz hA hG hK hP0 hS0 hl0; grind [breadth, b2i])
    by_cases c_17_2 : S (9 + 8 * j) = 2
    · refine tp c_17_2 ?_
      refine lv_tableIn (off := 73) (tgt := 90) hx hb dX1_breadthOf_17 (by decide) (by decide) (by decide) (by decide) ?_
      refine lv_aload_n hx hb dX1_breadthOf_90 rfl (lv_at hl0 0 rfl) ?_
      refine va_get (D := D) (ci := 1) (v := .ref (a 4)) (C := RX1) (T := TX1) (N := 12) hx hb hw iX1 hown hK hP0 0 rfl rfl 5 (by decide) (hw _ kw_1_47) (fun _ h9 => h9) rfl dX1_breadthOf_91 ?_
      refine lv_iload_n hx hb dX1_breadthOf_94 rfl (lv_at hl0 1 rfl) ?_
      refine ald_i (f := fun g => S (12 + 8 * g)) hx hb hK hP0 4 0 rfl rfl j rfl (by first | assumption | omega) (by decide) dX1_breadthOf_95 ?_
      exact rd_i hx hb hr hlocks hS0 dX1_breadthOf_96 (by clear hx hb hml hown hr hlocks hw hsz hA hG hK hP0 hS0 hl0; grind [breadth, b2i])
    by_cases c_17_3 : S (9 + 8 * j) = 3
    · refine tp c_17_3 ?_
      refine lv_tableIn (off := 40) (tgt := 57) hx hb dX1_breadthOf_17 (by decide) (by decide) (by decide) (by decide) ?_
      refine lv_aload_n hx hb dX1_breadthOf_57 rfl (lv_at hl0 0 rfl) ?_
      refine va_get (D := D) (ci := 1) (v := .ref (a 9)) (C := RX1) (T := TX1) (N := 12) hx hb hw iX1 hown hK hP0 0 rfl rfl 10 (by decide) (hw _ kw_1_60) (fun _ h9 => h9) rfl dX1_breadthOf_58 ?_
      refine lv_iconst (v := 4) hx hb dX1_breadthOf_61 (by decide) ?_
      refine ald_i (f := fun k => if k < 6 then S (2 + k) else 0) hx hb hK hP0 9 0 rfl rfl 4 rfl (by first | assumption | omega) (by decide) dX1_breadthOf_62 ?_
      refine tp (show (if 4 < 6 then S (2 + 4) else 0) = S 6 from rfl) ?_
      exact rd_i hx hb hr hlocks hS0 dX1_breadthOf_63 (by clear hx hb hml hown hr hlocks hw hsz hA hG hK hP0 hS0 hl0; grind [breadth, b2i])
    by_cases c_17_4 : S (9 + 8 * j) = 4
    · refine tp c_17_4 ?_
      refine lv_tableIn (off := 47) (tgt := 64) hx hb dX1_breadthOf_17 (by decide) (by decide) (by decide) (by decide) ?_
      refine lv_aload_n hx hb dX1_breadthOf_64 rfl (lv_at hl0 0 rfl) ?_
      refine lv_iload_n hx hb dX1_breadthOf_65 rfl (lv_at hl0 1 rfl) ?_
      refine rV_i (wc := pS cy a S) (rest := []) hx hb hml hown hw hG hK hP0 hS0 hA hl0 kc_X1_isTurned kw_2_103 [.int (nI j)] (c_X1_isTurned l D cy G H0.size a S j (by first | assumption | omega)) [0, 1, 2, 3, 4, 5, 6, 7, 8, 9] rfl 0 rfl rfl rfl rfl rfl (Nat.le_of_ble_eq_true rfl) ⟨Nat.le_of_ble_eq_true rfl, Nat.le_of_ble_eq_true rfl⟩ dX1_breadthOf_66 ⟨Nat.le_of_ble_eq_true rfl, Nat.le_of_ble_eq_true rfl⟩ (fun r_66 H1 locs1 hr_66 hP1 hS1 => ?_)
      clear hP0 hS0 locs0 H0
      subst hr_66
      refine lb_eq (tgt := 83) hx hb dX1_breadthOf_69 (by decide) (fun c_69 => ?_) (fun c_69 => ?_)
      · refine lv_aload_n hx hb dX1_breadthOf_83 rfl (lv_at hl0 0 rfl) ?_
        refine va_get (D := D) (ci := 1) (v := .ref (a 4)) (C := RX1) (T := TX1) (N := 12) hx hb hw iX1 hown hK hP1 0 rfl rfl 5 (by decide) (hw _ kw_1_47) (fun _ h9 => h9) rfl dX1_breadthOf_84 ?_
        refine lv_iload_n hx hb dX1_breadthOf_87 rfl (lv_at hl0 1 rfl) ?_
        refine ald_i (f := fun g => S (12 + 8 * g)) hx hb hK hP1 4 0 rfl rfl j rfl (by first | assumption | omega) (by decide) dX1_breadthOf_88 ?_
        exact rd_i hx hb hr hlocks hS1 dX1_breadthOf_89 (by clear hx hb hml hown hr hlocks hw hsz hA hG hK hP1 hS1 hl0; grind [breadth, b2i])
      · refine lv_iconst (v := 2) hx hb dX1_breadthOf_72 (by decide) ?_
        refine lv_aload_n hx hb dX1_breadthOf_73 rfl (lv_at hl0 0 rfl) ?_
        refine va_get (D := D) (ci := 1) (v := .ref (a 4)) (C := RX1) (T := TX1) (N := 12) hx hb hw iX1 hown hK hP1 0 rfl rfl 5 (by decide) (hw _ kw_1_47) (fun _ h9 => h9) rfl dX1_breadthOf_74 ?_
        refine lv_iload_n hx hb dX1_breadthOf_77 rfl (lv_at hl0 1 rfl) ?_
        refine ald_i (f := fun g => S (12 + 8 * g)) hx hb hK hP1 4 0 rfl rfl j rfl (by first | assumption | omega) (by decide) dX1_breadthOf_78 ?_
        refine lv_imul hx hb dX1_breadthOf_79 ?_
        refine lv_goto (tgt := 89) hx hb dX1_breadthOf_80 (by decide) ?_
        exact rd_i hx hb hr hlocks hS1 dX1_breadthOf_89 (by clear hx hb hml hown hr hlocks hw hsz hA hG hK hP1 hS1 hl0; grind [breadth, b2i])
    refine lv_tableOut (tgt := 90) hx hb dX1_breadthOf_17 (sw_out 1 4 (fun v h1 h2 e => ?_)) (by decide) ?_
    · have e := Int32.toInt_inj.mp (e.trans (show v = ((Int32.ofInt v).toInt) from by rcases (show v = 1 ∨ v = 2 ∨ v = 3 ∨ v = 4 by omega) with rfl | rfl | rfl | rfl <;> rfl))
      rcases (show v = 1 ∨ v = 2 ∨ v = 3 ∨ v = 4 by omega) with rfl | rfl | rfl | rfl
      · exact c_17_1 e
      · exact c_17_2 e
      · exact c_17_3 e
      · exact c_17_4 e
    · refine lv_aload_n hx hb dX1_breadthOf_90 rfl (lv_at hl0 0 rfl) ?_
      refine va_get (D := D) (ci := 1) (v := .ref (a 4)) (C := RX1) (T := TX1) (N := 12) hx hb hw iX1 hown hK hP0 0 rfl rfl 5 (by decide) (hw _ kw_1_47) (fun _ h9 => h9) rfl dX1_breadthOf_91 ?_
      refine lv_iload_n hx hb dX1_breadthOf_94 rfl (lv_at hl0 1 rfl) ?_
      refine ald_i (f := fun g => S (12 + 8 * g)) hx hb hK hP0 4 0 rfl rfl j rfl (by first | assumption | omega) (by decide) dX1_breadthOf_95 ?_
      exact rd_i hx hb hr hlocks hS0 dX1_breadthOf_96 (by clear hx hb hml hown hr hlocks hw hsz hA hG hK hP0 hS0 hl0; grind [breadth, b2i])
  · refine lv_iconst (v := 0) hx hb dX1_breadthOf_9 (by decide) ?_
    exact rd_i hx hb hr hlocks hS0 dX1_breadthOf_10 (by clear hx hb hml hown hr hlocks hw hsz hA hG hK hP0 hS0 hl0; grind [breadth, b2i])

theorem kc_X1_pushOf : kV yX1_pushOf cX1_pushOf 3 (some .int) 1 := ⟨kw_2_108, kw_2_109, kw_1_2, kw_2_110, by decide, by decide, by decide +kernel⟩
set_option maxHeartbeats 4000000 in
set_option maxRecDepth 100000 in
theorem c_X1_pushOf (l : Launch) (D : va_G) (cy : Nat → ClassId) (G : Nat → Nat) (sz : Nat) (a : Nat → Nat) (S : Nat → Int32) (j : Nat) (hj : j < 20) : Met l yX1_pushOf (wm yX1_pushOf cX1_pushOf 3 (some .int)) { frames := 1, cells := 0, slots := 0, locals := 22 } (va_Pc [.ref (a 0), .int (nI j)] (pd D (TY cy) G (pS cy a S) sz)) (va_Qi (fun r (_ : Unit) => r = push S j) (fun _ _ => True) (va_A [] sz)) 0 0 (va_A [] sz) := by
  refine mk_rd (by decide) RX1 rfl (Nat.le_of_ble_eq_true rfl) [(0, .ref (a 0)), (1, .int (nI j))] rfl ?_
  intro p e s m below meth c hx hb hml hown hr hlocks hw hsz hA hG hK H0 locs0 hP0 hS0 ls0 hl0
  refine lv_aload_n hx hb dX1_pushOf_0 rfl (lv_at hl0 0 rfl) ?_
  refine va_get (D := D) (ci := 1) (v := .ref (a 3)) (C := RX1) (T := TX1) (N := 12) hx hb hw iX1 hown hK hP0 0 rfl rfl 4 (by decide) (hw _ kw_1_44) (fun _ h9 => h9) rfl dX1_pushOf_1 ?_
  refine lv_iload_n hx hb dX1_pushOf_4 rfl (lv_at hl0 1 rfl) ?_
  refine ald_i (f := fun g => S (11 + 8 * g)) hx hb hK hP0 3 0 rfl rfl j rfl (by first | assumption | omega) (by decide) dX1_pushOf_5 ?_
  refine lv_iconst (v := (-1)) hx hb dX1_pushOf_6 (by decide) ?_
  refine lv_icmp_eq (tgt := 12) hx hb dX1_pushOf_7 (by decide) (fun c_7 => ?_) (fun c_7 => ?_)
  · refine lv_aload_n hx hb dX1_pushOf_12 rfl (lv_at hl0 0 rfl) ?_
    refine va_get (D := D) (ci := 1) (v := .ref (a 9)) (C := RX1) (T := TX1) (N := 12) hx hb hw iX1 hown hK hP0 0 rfl rfl 10 (by decide) (hw _ kw_1_60) (fun _ h9 => h9) rfl dX1_pushOf_13 ?_
    refine lv_iconst (v := 0) hx hb dX1_pushOf_16 (by decide) ?_
    refine ald_i (f := fun k => if k < 6 then S (2 + k) else 0) hx hb hK hP0 9 0 rfl rfl 0 rfl (by first | assumption | omega) (by decide) dX1_pushOf_17 ?_
    refine tp (show (if 0 < 6 then S (2 + 0) else 0) = S 2 from rfl) ?_
    refine lv_iconst (v := 5) hx hb dX1_pushOf_18 (by decide) ?_
    refine lv_aload_n hx hb dX1_pushOf_19 rfl (lv_at hl0 0 rfl) ?_
    refine va_get (D := D) (ci := 1) (v := .ref (a 5)) (C := RX1) (T := TX1) (N := 12) hx hb hw iX1 hown hK hP0 0 rfl rfl 6 (by decide) (hw _ kw_1_50) (fun _ h9 => h9) rfl dX1_pushOf_20 ?_
    refine lv_iload_n hx hb dX1_pushOf_23 rfl (lv_at hl0 1 rfl) ?_
    refine ald_i (f := fun g => S (13 + 8 * g)) hx hb hK hP0 5 0 rfl rfl j rfl (by first | assumption | omega) (by decide) dX1_pushOf_24 ?_
    refine lv_isub hx hb dX1_pushOf_25 ?_
    refine lv_imul hx hb dX1_pushOf_26 ?_
    refine lv_aload_n hx hb dX1_pushOf_27 rfl (lv_at hl0 0 rfl) ?_
    refine lv_aload_n hx hb dX1_pushOf_28 rfl (lv_at hl0 0 rfl) ?_
    refine va_get (D := D) (ci := 1) (v := .ref (a 6)) (C := RX1) (T := TX1) (N := 12) hx hb hw iX1 hown hK hP0 0 rfl rfl 7 (by decide) (hw _ kw_1_52) (fun _ h9 => h9) rfl dX1_pushOf_29 ?_
    refine lv_iload_n hx hb dX1_pushOf_32 rfl (lv_at hl0 1 rfl) ?_
    refine ald_i (f := fun g => S (14 + 8 * g)) hx hb hK hP0 6 0 rfl rfl j rfl (by first | assumption | omega) (by decide) dX1_pushOf_33 ?_
    refine rV_i (wc := pS cy a S) (rest := [.int ((S 2) * (5 - (S (13 + 8 * j))))]) hx hb hml hown hw hG hK hP0 hS0 hA hl0 kc_X1_windOn kw_2_111 [.int (S (14 + 8 * j))] (c_X1_windOn l D cy G H0.size a S (S (14 + 8 * j))) [0, 1, 2, 3, 4, 5, 6, 7, 8, 9] rfl 0 rfl rfl rfl rfl rfl (Nat.le_of_ble_eq_true rfl) ⟨Nat.le_of_ble_eq_true rfl, Nat.le_of_ble_eq_true rfl⟩ dX1_pushOf_34 ⟨Nat.le_of_ble_eq_true rfl, Nat.le_of_ble_eq_true rfl⟩ (fun r_34 H1 locs1 hr_34 hP1 hS1 => ?_)
    clear hP0 hS0 locs0 H0
    subst hr_34
    refine lv_iadd hx hb dX1_pushOf_37 ?_
    refine lv_istore_n (lv' := [(2, .int (((S 2) * (5 - (S (13 + 8 * j)))) + (windOn S (S (14 + 8 * j))))), (0, .ref (a 0)), (1, .int (nI j))]) hx hb dX1_pushOf_38 rfl hl0 (by decide) rfl (fun ls1 hl1 => ?_)
    clear hl0 ls0
    refine lv_aload_n hx hb dX1_pushOf_39 rfl (lv_at hl1 1 rfl) ?_
    refine va_get (D := D) (ci := 1) (v := .ref (a 1)) (C := RX1) (T := TX1) (N := 12) hx hb hw iX1 hown hK hP1 0 rfl rfl 2 (by decide) (hw _ kw_1_39) (fun _ h9 => h9) rfl dX1_pushOf_40 ?_
    refine lv_iload_n hx hb dX1_pushOf_43 rfl (lv_at hl1 2 rfl) ?_
    refine ald_i (f := fun g => S (9 + 8 * g)) hx hb hK hP1 1 0 rfl rfl j rfl (by first | assumption | omega) (by decide) dX1_pushOf_44 ?_
    refine lv_iconst (v := 5) hx hb dX1_pushOf_45 (by decide) ?_
    refine lv_icmp_ne (tgt := 62) hx hb dX1_pushOf_46 (by decide) (fun c_46 => ?_) (fun c_46 => ?_)
    · refine lv_iload_n hx hb dX1_pushOf_62 rfl (lv_at hl1 0 rfl) ?_
      exact rd_i hx hb hr hlocks hS1 dX1_pushOf_63 (by clear hx hb hml hown hr hlocks hw hsz hA hG hK hP1 hS1 hl1; grind [push])
    · refine lv_iload_n hx hb dX1_pushOf_49 rfl (lv_at hl1 0 rfl) ?_
      refine lv_iconst (v := 3) hx hb dX1_pushOf_50 (by decide) ?_
      refine lv_aload_n hx hb dX1_pushOf_51 rfl (lv_at hl1 1 rfl) ?_
      refine va_get (D := D) (ci := 1) (v := .ref (a 9)) (C := RX1) (T := TX1) (N := 12) hx hb hw iX1 hown hK hP1 0 rfl rfl 10 (by decide) (hw _ kw_1_60) (fun _ h9 => h9) rfl dX1_pushOf_52 ?_
      refine lv_iconst (v := 0) hx hb dX1_pushOf_55 (by decide) ?_
      refine ald_i (f := fun k => if k < 6 then S (2 + k) else 0) hx hb hK hP1 9 0 rfl rfl 0 rfl (by first | assumption | omega) (by decide) dX1_pushOf_56 ?_
      refine tp (show (if 0 < 6 then S (2 + 0) else 0) = S 2 from rfl) ?_
      refine lv_imul hx hb dX1_pushOf_57 ?_
      refine lv_isub hx hb dX1_pushOf_58 ?_
      refine lv_goto (tgt := 63) hx hb dX1_pushOf_59 (by decide) ?_
      exact rd_i hx hb hr hlocks hS1 dX1_pushOf_63 (by clear hx hb hml hown hr hlocks hw hsz hA hG hK hP1 hS1 hl1; grind [push])
  · refine lv_iconst (v := 0) hx hb dX1_pushOf_10 (by decide) ?_
    exact rd_i hx hb hr hlocks hS0 dX1_pushOf_11 (by clear hx hb hml hown hr hlocks hw hsz hA hG hK hP0 hS0 hl0; grind [push])

theorem kc_X1_isOpenFire : kV yX1_isOpenFire cX1_isOpenFire 2 (some .boolean) 1 := ⟨kw_3_95, kw_3_96, kw_1_2, kw_3_97, by decide, by decide, by decide +kernel⟩
set_option maxHeartbeats 4000000 in
set_option maxRecDepth 100000 in
theorem c_X1_isOpenFire (l : Launch) (D : va_G) (cy : Nat → ClassId) (G : Nat → Nat) (sz : Nat) (a : Nat → Nat) (S : Nat → Int32) (j : Nat) (hj : j < 20) : Met l yX1_isOpenFire (wm yX1_isOpenFire cX1_isOpenFire 2 (some .boolean)) { frames := 2, cells := 0, slots := 0, locals := 43 } (va_Pc [.ref (a 0), .int (nI j)] (pd D (TY cy) G (pS cy a S) sz)) (va_Qi (fun r (_ : Unit) => r = b2i (S (11 + 8 * j) = -1 ∧ S (16 + 8 * j) = 0 ∧ needed (S (9 + 8 * j)))) (fun _ _ => True) (va_A [] sz)) 0 0 (va_A [] sz) := by
  refine mk_rd (by decide) RX1 rfl (Nat.le_of_ble_eq_true rfl) [(0, .ref (a 0)), (1, .int (nI j))] rfl ?_
  intro p e s m below meth c hx hb hml hown hr hlocks hw hsz hA hG hK H0 locs0 hP0 hS0 ls0 hl0
  refine lv_aload_n hx hb dX1_isOpenFire_0 rfl (lv_at hl0 0 rfl) ?_
  refine va_get (D := D) (ci := 1) (v := .ref (a 3)) (C := RX1) (T := TX1) (N := 12) hx hb hw iX1 hown hK hP0 0 rfl rfl 4 (by decide) (hw _ kw_1_44) (fun _ h9 => h9) rfl dX1_isOpenFire_1 ?_
  refine lv_iload_n hx hb dX1_isOpenFire_4 rfl (lv_at hl0 1 rfl) ?_
  refine ald_i (f := fun g => S (11 + 8 * g)) hx hb hK hP0 3 0 rfl rfl j rfl (by first | assumption | omega) (by decide) dX1_isOpenFire_5 ?_
  refine lv_iconst (v := (-1)) hx hb dX1_isOpenFire_6 (by decide) ?_
  refine lv_icmp_ne (tgt := 36) hx hb dX1_isOpenFire_7 (by decide) (fun c_7 => ?_) (fun c_7 => ?_)
  · refine lv_iconst (v := 0) hx hb dX1_isOpenFire_36 (by decide) ?_
    exact rd_z hx hb hr hlocks hS0 dX1_isOpenFire_37 rfl (by clear hx hb hml hown hr hlocks hw hsz hA hG hK hP0 hS0 hl0; grind [b2i, under2])
  · refine lv_aload_n hx hb dX1_isOpenFire_10 rfl (lv_at hl0 0 rfl) ?_
    refine va_get (D := D) (ci := 1) (v := .ref (a 8)) (C := RX1) (T := TX1) (N := 12) hx hb hw iX1 hown hK hP0 0 rfl rfl 9 (by decide) (hw _ kw_1_57) (fun _ h9 => h9) rfl dX1_isOpenFire_11 ?_
    refine lv_iload_n hx hb dX1_isOpenFire_14 rfl (lv_at hl0 1 rfl) ?_
    refine ald_z (f := fun g => S (16 + 8 * g)) hx hb hK hP0 8 2 rfl rfl j rfl (by first | assumption | omega) (by decide) dX1_isOpenFire_15 ?_
    refine lv_if_ne (tgt := 36) hx hb dX1_isOpenFire_16 (by decide) (fun c_16 => ?_) (fun c_16 => ?_)
    · refine lv_iconst (v := 0) hx hb dX1_isOpenFire_36 (by decide) ?_
      exact rd_z hx hb hr hlocks hS0 dX1_isOpenFire_37 rfl (by clear hx hb hml hown hr hlocks hw hsz hA hG hK hP0 hS0 hl0; grind [b2i, under2])
    · refine lv_aload_n hx hb dX1_isOpenFire_19 rfl (lv_at hl0 0 rfl) ?_
      refine va_get (D := D) (ci := 1) (v := .ref (a 1)) (C := RX1) (T := TX1) (N := 12) hx hb hw iX1 hown hK hP0 0 rfl rfl 2 (by decide) (hw _ kw_1_39) (fun _ h9 => h9) rfl dX1_isOpenFire_20 ?_
      refine lv_iload_n hx hb dX1_isOpenFire_23 rfl (lv_at hl0 1 rfl) ?_
      refine ald_i (f := fun g => S (9 + 8 * g)) hx hb hK hP0 1 0 rfl rfl j rfl (by first | assumption | omega) (by decide) dX1_isOpenFire_24 ?_
      refine lv_iconst (v := 2) hx hb dX1_isOpenFire_25 (by decide) ?_
      refine rN_i (wc := []) (rest := []) hx hb hml hown hw hG hK hP0 hS0 hA hl0 kc_X6_isUnder hG.1.2.2.2.2.2.2.2.2.1 [.int (S (9 + 8 * j)), .int 2] (c_X6_isUnder l D cy G H0.size (S (9 + 8 * j)) 2) [] rfl rfl rfl (Nat.le_of_ble_eq_true rfl) ⟨Nat.le_of_ble_eq_true rfl, Nat.le_of_ble_eq_true rfl⟩ dX1_isOpenFire_26 ⟨Nat.le_of_ble_eq_true rfl, Nat.le_of_ble_eq_true rfl⟩ (fun r_26 H1 locs1 hr_26 hP1 hS1 => ?_)
      clear hP0 hS0 locs0 H0
      subst hr_26
      refine lb_eq (tgt := 36) hx hb dX1_isOpenFire_29 (by decide) (fun c_29 => ?_) (fun c_29 => ?_)
      · refine lv_iconst (v := 0) hx hb dX1_isOpenFire_36 (by decide) ?_
        exact rd_z hx hb hr hlocks hS1 dX1_isOpenFire_37 rfl (by clear hx hb hml hown hr hlocks hw hsz hA hG hK hP1 hS1 hl0; grind [b2i, under2])
      · refine lv_iconst (v := 1) hx hb dX1_isOpenFire_32 (by decide) ?_
        refine lv_goto (tgt := 37) hx hb dX1_isOpenFire_33 (by decide) ?_
        exact rd_z hx hb hr hlocks hS1 dX1_isOpenFire_37 rfl (by clear hx hb hml hown hr hlocks hw hsz hA hG hK hP1 hS1 hl0; grind [b2i, under2])

theorem kc_X1_isOpenLeak : kV yX1_isOpenLeak cX1_isOpenLeak 2 (some .boolean) 1 := ⟨kw_3_215, kw_3_216, kw_1_2, kw_3_217, by decide, by decide, by decide +kernel⟩
set_option maxHeartbeats 4000000 in
set_option maxRecDepth 100000 in
theorem c_X1_isOpenLeak (l : Launch) (D : va_G) (cy : Nat → ClassId) (G : Nat → Nat) (sz : Nat) (a : Nat → Nat) (S : Nat → Int32) (j : Nat) (hj : j < 20) : Met l yX1_isOpenLeak (wm yX1_isOpenLeak cX1_isOpenLeak 2 (some .boolean)) { frames := 2, cells := 0, slots := 0, locals := 43 } (va_Pc [.ref (a 0), .int (nI j)] (pd D (TY cy) G (pS cy a S) sz)) (va_Qi (fun r (_ : Unit) => r = b2i (S (11 + 8 * j) = -1 ∧ S (16 + 8 * j) = 0 ∧ ¬ needed (S (9 + 8 * j)))) (fun _ _ => True) (va_A [] sz)) 0 0 (va_A [] sz) := by
  refine mk_rd (by decide) RX1 rfl (Nat.le_of_ble_eq_true rfl) [(0, .ref (a 0)), (1, .int (nI j))] rfl ?_
  intro p e s m below meth c hx hb hml hown hr hlocks hw hsz hA hG hK H0 locs0 hP0 hS0 ls0 hl0
  refine lv_aload_n hx hb dX1_isOpenLeak_0 rfl (lv_at hl0 0 rfl) ?_
  refine va_get (D := D) (ci := 1) (v := .ref (a 3)) (C := RX1) (T := TX1) (N := 12) hx hb hw iX1 hown hK hP0 0 rfl rfl 4 (by decide) (hw _ kw_1_44) (fun _ h9 => h9) rfl dX1_isOpenLeak_1 ?_
  refine lv_iload_n hx hb dX1_isOpenLeak_4 rfl (lv_at hl0 1 rfl) ?_
  refine ald_i (f := fun g => S (11 + 8 * g)) hx hb hK hP0 3 0 rfl rfl j rfl (by first | assumption | omega) (by decide) dX1_isOpenLeak_5 ?_
  refine lv_iconst (v := (-1)) hx hb dX1_isOpenLeak_6 (by decide) ?_
  refine lv_icmp_ne (tgt := 36) hx hb dX1_isOpenLeak_7 (by decide) (fun c_7 => ?_) (fun c_7 => ?_)
  · refine lv_iconst (v := 0) hx hb dX1_isOpenLeak_36 (by decide) ?_
    exact rd_z hx hb hr hlocks hS0 dX1_isOpenLeak_37 rfl (by clear hx hb hml hown hr hlocks hw hsz hA hG hK hP0 hS0 hl0; grind [b2i, under2])
  · refine lv_aload_n hx hb dX1_isOpenLeak_10 rfl (lv_at hl0 0 rfl) ?_
    refine va_get (D := D) (ci := 1) (v := .ref (a 8)) (C := RX1) (T := TX1) (N := 12) hx hb hw iX1 hown hK hP0 0 rfl rfl 9 (by decide) (hw _ kw_1_57) (fun _ h9 => h9) rfl dX1_isOpenLeak_11 ?_
    refine lv_iload_n hx hb dX1_isOpenLeak_14 rfl (lv_at hl0 1 rfl) ?_
    refine ald_z (f := fun g => S (16 + 8 * g)) hx hb hK hP0 8 2 rfl rfl j rfl (by first | assumption | omega) (by decide) dX1_isOpenLeak_15 ?_
    refine lv_if_ne (tgt := 36) hx hb dX1_isOpenLeak_16 (by decide) (fun c_16 => ?_) (fun c_16 => ?_)
    · refine lv_iconst (v := 0) hx hb dX1_isOpenLeak_36 (by decide) ?_
      exact rd_z hx hb hr hlocks hS0 dX1_isOpenLeak_37 rfl (by clear hx hb hml hown hr hlocks hw hsz hA hG hK hP0 hS0 hl0; grind [b2i, under2])
    · refine lv_aload_n hx hb dX1_isOpenLeak_19 rfl (lv_at hl0 0 rfl) ?_
      refine va_get (D := D) (ci := 1) (v := .ref (a 1)) (C := RX1) (T := TX1) (N := 12) hx hb hw iX1 hown hK hP0 0 rfl rfl 2 (by decide) (hw _ kw_1_39) (fun _ h9 => h9) rfl dX1_isOpenLeak_20 ?_
      refine lv_iload_n hx hb dX1_isOpenLeak_23 rfl (lv_at hl0 1 rfl) ?_
      refine ald_i (f := fun g => S (9 + 8 * g)) hx hb hK hP0 1 0 rfl rfl j rfl (by first | assumption | omega) (by decide) dX1_isOpenLeak_24 ?_
      refine lv_iconst (v := 2) hx hb dX1_isOpenLeak_25 (by decide) ?_
      refine rN_i (wc := []) (rest := []) hx hb hml hown hw hG hK hP0 hS0 hA hl0 kc_X6_isUnder hG.1.2.2.2.2.2.2.2.2.1 [.int (S (9 + 8 * j)), .int 2] (c_X6_isUnder l D cy G H0.size (S (9 + 8 * j)) 2) [] rfl rfl rfl (Nat.le_of_ble_eq_true rfl) ⟨Nat.le_of_ble_eq_true rfl, Nat.le_of_ble_eq_true rfl⟩ dX1_isOpenLeak_26 ⟨Nat.le_of_ble_eq_true rfl, Nat.le_of_ble_eq_true rfl⟩ (fun r_26 H1 locs1 hr_26 hP1 hS1 => ?_)
      clear hP0 hS0 locs0 H0
      subst hr_26
      refine lb_ne (tgt := 36) hx hb dX1_isOpenLeak_29 (by decide) (fun c_29 => ?_) (fun c_29 => ?_)
      · refine lv_iconst (v := 0) hx hb dX1_isOpenLeak_36 (by decide) ?_
        exact rd_z hx hb hr hlocks hS1 dX1_isOpenLeak_37 rfl (by clear hx hb hml hown hr hlocks hw hsz hA hG hK hP1 hS1 hl0; grind [b2i, under2])
      · refine lv_iconst (v := 1) hx hb dX1_isOpenLeak_32 (by decide) ?_
        refine lv_goto (tgt := 37) hx hb dX1_isOpenLeak_33 (by decide) ?_
        exact rd_z hx hb hr hlocks hS1 dX1_isOpenLeak_37 rfl (by clear hx hb hml hown hr hlocks hw hsz hA hG hK hP1 hS1 hl0; grind [b2i, under2])
