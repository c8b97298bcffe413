theorem kc_X6_isSheet : kV yX6_isSheet cX6_isSheet 2 (some .boolean) 1 := ⟨kw_3_130, kw_s_20, kw_1_1, kw_3_131, by decide, by decide, by decide +kernel⟩
set_option maxHeartbeats 4000000 in
set_option maxRecDepth 100000 in
theorem c_X6_isSheet (l : Launch) (D : va_G) (cy : Nat → ClassId) (G : Nat → Nat) (sz : Nat) (hh : Nat → Nat) (a : Nat → Nat) (kk : Nat → Nat) (dd : Nat → Nat) (b : Nat → Nat) (w : Nat → Nat) (ee : Nat → Nat) (qq : Nat → Nat) (ik : Int32) (x1 : Int32)  : Met l yX6_isSheet (wm yX6_isSheet cX6_isSheet 2 (some .boolean)) { frames := 0, cells := 0, slots := 0, locals := 0 } (va_Pc [.ref (hh 0), .int x1] (pd D (TY cy) G ([sO cy hh a kk dd b w ee qq ik]) sz)) (va_Qi (fun r (_ : Unit) => r = b2i (0 ≤ x1 ∧ x1 ≤ 3)) (fun _ _ => True) (va_A [] sz)) 0 0 (va_A [] sz) := by
  refine mk_rd (by decide) RX6 rfl (Nat.le_of_ble_eq_true rfl) [(0, .ref (hh 0)), (1, .int x1)] rfl ?_
  intro p e s m below meth c hx hb hml hown hr hlocks hw hsz hA hG hK H0 locs0 hP0 hS0 ls0 hl0
  refine lv_iload_n hx hb dX6_isSheet_0 rfl (lv_at hl0 1 rfl) ?_
  refine lv_if_lt (tgt := 13) hx hb dX6_isSheet_1 (by decide) (fun c_1 => ?_) (fun c_1 => ?_)
  · refine lv_iconst (v := 0) hx hb dX6_isSheet_13 (by decide) ?_
    exact rd_z hx hb hr hlocks hS0 dX6_isSheet_14 rfl (by clear hx hb hml hown hr hlocks hw hsz hA hG hK hP0 hS0 hl0; grind [b2i])
  · refine lv_iload_n hx hb dX6_isSheet_4 rfl (lv_at hl0 1 rfl) ?_
    refine lv_iconst (v := 4) hx hb dX6_isSheet_5 (by decide) ?_
    refine lv_icmp_ge (tgt := 13) hx hb dX6_isSheet_6 (by decide) (fun c_6 => ?_) (fun c_6 => ?_)
    · refine lv_iconst (v := 0) hx hb dX6_isSheet_13 (by decide) ?_
      exact rd_z hx hb hr hlocks hS0 dX6_isSheet_14 rfl (by clear hx hb hml hown hr hlocks hw hsz hA hG hK hP0 hS0 hl0; grind [b2i])
    · refine lv_iconst (v := 1) hx hb dX6_isSheet_9 (by decide) ?_
      refine lv_goto (tgt := 14) hx hb dX6_isSheet_10 (by decide) ?_
      exact rd_z hx hb hr hlocks hS0 dX6_isSheet_14 rfl (by clear hx hb hml hown hr hlocks hw hsz hA hG hK hP0 hS0 hl0; grind [b2i])

theorem kc_X6_isStopSet : kV yX6_isStopSet cX6_isStopSet 3 (some .boolean) 1 := ⟨kw_3_157, kw_s_21, kw_1_1, kw_3_158, by decide, by decide, by decide +kernel⟩
set_option maxHeartbeats 4000000 in
set_option maxRecDepth 100000 in
theorem c_X6_isStopSet (l : Launch) (D : va_G) (cy : Nat → ClassId) (G : Nat → Nat) (sz : Nat) (hh : Nat → Nat) (a : Nat → Nat) (kk : Nat → Nat) (dd : Nat → Nat) (b : Nat → Nat) (w : Nat → Nat) (ee : Nat → Nat) (qq : Nat → Nat) (ik : Int32) (S : Nat → Int32) (sn : Nat) (wf : wf S) (hm : sn < 2 ^ 32) : Met l yX6_isStopSet (wm yX6_isStopSet cX6_isStopSet 3 (some .boolean)) { frames := 1, cells := 0, slots := 0, locals := 21 } (va_Pc [.ref (hh 0), .int (nI sn)] (pd D (TY cy) G ([sO cy hh a kk dd b w ee qq ik] ++ (pS cy a S)) sz)) (va_Qi (fun r (_ : Unit) => r = b2i (stOk S sn)) (fun _ _ => True) (va_A [] sz)) 0 0 (va_A [] sz) := by
  refine mk_rd (by decide) RX6 rfl (Nat.le_of_ble_eq_true rfl) [(0, .ref (hh 0)), (1, .int (nI sn))] rfl ?_
  intro p e s m below meth c hx hb hml hown hr hlocks hw hsz hA hG hK H0 locs0 hP0 hS0 ls0 hl0
  have hg20 := wf_g20 wf
  have hpl : pop sn ≤ 32 := pop_le 32 sn
  have hpw : 2 ^ gcN S ≤ 2 ^ 20 := Nat.pow_le_pow_right (by decide) hg20
  refine lv_iload_n hx hb dX6_isStopSet_0 rfl (lv_at hl0 1 rfl) ?_
  refine lv_if_lt (tgt := 25) hx hb dX6_isStopSet_1 (by decide) (fun c_1 => ?_) (fun c_1 => ?_)
  · refine lv_iconst (v := 0) hx hb dX6_isStopSet_25 (by decide) ?_
    exact rd_z hx hb hr hlocks hS0 dX6_isStopSet_26 rfl ((b2i_f (fun z9 => absurd c_1 (nI_pos (by have := z9.1; omega)))).symm)
  · refine lv_iload_n hx hb dX6_isStopSet_4 rfl (lv_at hl0 1 rfl) ?_
    refine rT_i (wc := []) (rest := []) hx hb hml hown hw hG hK hP0 hS0 hA hl0 kc_J6_bitCount_0f7a4 kw_3_159 [.int (nI sn)] (c_J6_bitCount_0f7a4 l D cy G H0.size (nI sn)) [] rfl rfl rfl (Nat.le_of_ble_eq_true rfl) ⟨Nat.le_of_ble_eq_true rfl, Nat.le_of_ble_eq_true rfl⟩ dX6_isStopSet_5 ⟨Nat.le_of_ble_eq_true rfl, Nat.le_of_ble_eq_true rfl⟩ (fun r_5 H1 locs1 hr_5 hP1 hS1 => ?_)
    clear hP0 hS0 locs0 H0
    subst hr_5
    refine tp (show (nI (popI (nI sn))) = nI (pop sn) from congrArg nI (popI_n (by omega))) ?_
    refine lv_bipush (v := 10) hx hb dX6_isStopSet_8 (by decide) ?_
    refine ln_gt (tgt := 25) (pop sn) 10 rfl rfl (by omega) (by omega) hx hb dX6_isStopSet_10 (by decide) (fun c_10 => ?_) (fun c_10 => ?_)
    · refine lv_iconst (v := 0) hx hb dX6_isStopSet_25 (by decide) ?_
      exact rd_z hx hb hr hlocks hS1 dX6_isStopSet_26 rfl ((b2i_f (fun z9 => by have := z9.2.1; omega)).symm)
    · refine lv_iload_n hx hb dX6_isStopSet_13 rfl (lv_at hl0 1 rfl) ?_
      refine lv_aload_n hx hb dX6_isStopSet_14 rfl (lv_at hl0 0 rfl) ?_
      refine va_get (D := D) (ci := 6) (v := .ref (a 0)) (C := RX6) (T := TX6) (N := 9) hx hb hw iX6 hown hK hP1 0 rfl rfl 0 (by decide) (hw _ kw_2_27) (fun _ h9 => h9) rfl dX6_isStopSet_15 ?_
      refine va_get (D := D) (ci := 1) (v := .int (S 1)) (C := RX1) (T := TX1) (N := 12) hx hb hw iX1 hown hK hP1 1 rfl rfl 1 (by decide) (hw _ kw_1_35) (fun _ h9 => h9) rfl dX6_isStopSet_18 ?_
      refine tp (show (S 1) = nI (gcN S) from wf_g wf) ?_
      refine lv_iushr hx hb dX6_isStopSet_21 rfl ?_
      refine tp (show (((nI sn).toUInt32 >>> ((nI (gcN S)).toUInt32 &&& Int32.toUInt32 31)).toInt32) = nI (sn / 2 ^ gcN S) from ush_n hm (by omega)) ?_
      refine lv_if_eq (tgt := 27) hx hb dX6_isStopSet_22 (by decide) (fun c_22 => ?_) (fun c_22 => ?_)
      · refine lv_iconst (v := 0) hx hb dX6_isStopSet_27 (by decide) ?_
        refine lv_istore_n (lv' := [(2, .int 0), (0, .ref (hh 0)), (1, .int (nI sn))]) hx hb dX6_isStopSet_28 rfl hl0 (by decide) rfl (fun ls1 hl1 => ?_)
        clear hl0 ls0
        refine rlp (ι := Nat) (nL := 3) (ws := [sO cy hh a kk dd b w ee qq ik] ++ (pS cy a S)) (fun x9 => (x9 ≤ gcN S) ∧ (opB S sn x9 = true)) (fun x9 => [(2, .int (nI x9)), (0, .ref (hh 0)), (1, .int (nI sn))]) (fun x9 => []) (fun x9 => gcN S - x9) 29 ?_ 0 (⟨by first | omega | assumption | rfl | simp_all, rfl⟩) rfl hP1 hS1 (lv_sub hl1 [0, 1, 2] rfl)
        clear hP1 hS1 locs1 H1 hl1 ls1
        intro x9 hI ih_29 H2 locs2 ls2 hP2 hS2 hl2
        obtain ⟨i, rfl⟩ : ∃ z9, z9 = x9 := ⟨_, rfl⟩
        obtain ⟨hi, ho⟩ := hI
        replace hi : i ≤ gcN S := hi
        replace ho : opB S sn i = true := ho
        replace hP2 : va_P D vwCl ([sO cy hh a kk dd b w ee qq ik] ++ (pS cy a S)) H2 := hP2
        replace hl2 : lv_has ls2 3 [(2, .int (nI i)), (0, .ref (hh 0)), (1, .int (nI sn))] := hl2
        show W p l e _ s m _ below meth c _ _ _ _ _ (F0 m 29 ls2 [])
        refine lv_iload_n hx hb dX6_isStopSet_29 rfl (lv_at hl2 0 rfl) ?_
        refine lv_aload_n hx hb dX6_isStopSet_30 rfl (lv_at hl2 1 rfl) ?_
        refine va_get (D := D) (ci := 6) (v := .ref (a 0)) (C := RX6) (T := TX6) (N := 9) hx hb hw iX6 hown hK hP2 0 rfl rfl 0 (by decide) (hw _ kw_2_27) (fun _ h9 => h9) rfl dX6_isStopSet_31 ?_
        refine va_get (D := D) (ci := 1) (v := .int (S 1)) (C := RX1) (T := TX1) (N := 12) hx hb hw iX1 hown hK hP2 1 rfl rfl 1 (by decide) (hw _ kw_1_35) (fun _ h9 => h9) rfl dX6_isStopSet_34 ?_
        refine tp (show (S 1) = nI (gcN S) from wf_g wf) ?_
        refine ln_ge (tgt := 68) i (gcN S) rfl rfl (by omega) (by omega) hx hb dX6_isStopSet_37 (by decide) (fun c_37 => ?_) (fun c_37 => ?_)
        · refine lv_iconst (v := 1) hx hb dX6_isStopSet_68 (by decide) ?_
          exact rd_z hx hb hr hlocks hS2 dX6_isStopSet_69 rfl ((b2i_t ⟨div_0 ((set_pos hm).mp c_1) c_22, c_10, by obtain rfl : i = gcN S := (by omega); exact ho⟩).symm)
        · refine lv_iload_n hx hb dX6_isStopSet_40 rfl (lv_at hl2 2 rfl) ?_
          refine lv_iload_n hx hb dX6_isStopSet_41 rfl (lv_at hl2 0 rfl) ?_
          refine rT_i (wc := []) (rest := []) hx hb hml hown hw hG hK hP2 hS2 hA hl2 kc_X6_isIn kw_3_165 [.int (nI sn), .int (nI i)] (c_X6_isIn l D cy G H2.size sn i (by first | omega | assumption) (by first | omega | assumption)) [] rfl rfl rfl (Nat.le_of_ble_eq_true rfl) ⟨Nat.le_of_ble_eq_true rfl, Nat.le_of_ble_eq_true rfl⟩ dX6_isStopSet_42 ⟨Nat.le_of_ble_eq_true rfl, Nat.le_of_ble_eq_true rfl⟩ (fun r_42 H3 locs3 hr_42 hP3 hS3 => ?_)
          clear hP2 hS2 locs2 H2
          subst hr_42
          refine lb_eq (tgt := 62) hx hb dX6_isStopSet_45 (by decide) (fun c_45 => ?_) (fun c_45 => ?_)
          · refine lv_iinc (v := nI (i + 1)) (lv' := [(2, .int (nI (i + 1))), (0, .ref (hh 0)), (1, .int (nI sn))]) hx hb dX6_isStopSet_62 hl2 (k := 0) rfl (nI_inc _) (by decide) rfl (fun ls3 hl3 => ?_)
            clear hl2 ls2
            refine lv_goto (tgt := 29) hx hb dX6_isStopSet_65 (by decide) ?_
            exact ih_29 (i + 1) (⟨by first | omega | assumption | rfl | simp_all, by clear hx hb hml hown hr hlocks hw hsz hA hG hK hP3 hS3 hl3 ih_29; simp [opB, ho]; grind⟩) (by (try dsimp only); omega) H3 locs3 ls3 hP3 hS3 (lv_sub hl3 [0, 1, 2] rfl)
          · refine lv_aload_n hx hb dX6_isStopSet_48 rfl (lv_at hl2 1 rfl) ?_
            refine va_get (D := D) (ci := 6) (v := .ref (a 0)) (C := RX6) (T := TX6) (N := 9) hx hb hw iX6 hown hK hP3 0 rfl rfl 0 (by decide) (hw _ kw_2_27) (fun _ h9 => h9) rfl dX6_isStopSet_49 ?_
            refine va_get (D := D) (ci := 1) (v := .ref (a 8)) (C := RX1) (T := TX1) (N := 12) hx hb hw iX1 hown hK hP3 1 rfl rfl 9 (by decide) (hw _ kw_1_59) (fun _ h9 => h9) rfl dX6_isStopSet_52 ?_
            refine lv_iload_n hx hb dX6_isStopSet_55 rfl (lv_at hl2 0 rfl) ?_
            refine ald_z (f := fun g => S (16 + 8 * g)) hx hb hK hP3 9 2 rfl rfl i rfl (by first | omega | assumption) (by decide) dX6_isStopSet_56 ?_
            refine lv_if_eq (tgt := 62) hx hb dX6_isStopSet_57 (by decide) (fun c_57 => ?_) (fun c_57 => ?_)
            · refine lv_iinc (v := nI (i + 1)) (lv' := [(2, .int (nI (i + 1))), (0, .ref (hh 0)), (1, .int (nI sn))]) hx hb dX6_isStopSet_62 hl2 (k := 0) rfl (nI_inc _) (by decide) rfl (fun ls3 hl3 => ?_)
              clear hl2 ls2
              refine lv_goto (tgt := 29) hx hb dX6_isStopSet_65 (by decide) ?_
              exact ih_29 (i + 1) (⟨by first | omega | assumption | rfl | simp_all, by clear hx hb hml hown hr hlocks hw hsz hA hG hK hP3 hS3 hl3 ih_29; simp [opB, ho]; grind⟩) (by (try dsimp only); omega) H3 locs3 ls3 hP3 hS3 (lv_sub hl3 [0, 1, 2] rfl)
            · refine lv_iconst (v := 0) hx hb dX6_isStopSet_60 (by decide) ?_
              exact rd_z hx hb hr hlocks hS3 dX6_isStopSet_61 rfl ((b2i_f (fun z9 => by have h9 := opB_le (i := i + 1) (by omega) z9.2.2; simp [opB, c_45, c_57] at h9)).symm)
      · refine lv_iconst (v := 0) hx hb dX6_isStopSet_25 (by decide) ?_
        exact rd_z hx hb hr hlocks hS1 dX6_isStopSet_26 rfl ((b2i_f (fun z9 => c_22 (by rw [Nat.div_eq_of_lt z9.1]; rfl))).symm)

theorem kc_X6_stop : kV yX6_stop cX6_stop 5 (some .int) 4 := ⟨kw_3_152, kw_3_153, kw_1_1, kw_3_154, by decide, by decide, by decide +kernel⟩
set_option maxHeartbeats 4000000 in
set_option maxRecDepth 100000 in
theorem c_X6_stop (l : Launch) (D : va_G) (cy : Nat → ClassId) (G : Nat → Nat) (sz : Nat) (hh : Nat → Nat) (a : Nat → Nat) (kk : Nat → Nat) (dd : Nat → Nat) (b : Nat → Nat) (w : Nat → Nat) (ee : Nat → Nat) (qq : Nat → Nat) (ik : Int32) (S : Nat → Int32) (C : Nat → Int32) (x : Nat → Nat) (wc : Int32) (lw : Int32) (gw : Int32) (ss : Int32) (sl : Int32) (sc : Int32) (sp : Int32) (b2 : Nat → Nat) (P2 : Nat → Int32) (F2 : Nat → Int32) (N2 : Nat → Int32) (B2 : Nat → Int32) (O2 : Nat → Int32) (Sd2 : Nat → Int32) (Dv2 : Nat → Int32) (L2 : Nat → Nat → Int32) (rc2 : Int32) (re2 : Int32) (fr2 : Int32) (lo2 : Int32) (sm2 : Int32) (X : Nat → Int32) (x1 : Int32) (x2 : Int32) (x3 : Int32) (x4 : Int32) (hX : can X) (wf : wf S) : Met l yX6_stop (wm yX6_stop cX6_stop 5 (some .int)) { frames := 7, cells := 0, slots := 0, locals := 160 } (va_Pc [.ref (hh 0), .int x1, .int x2, .int x3, .int x4] (pr D (TY cy) G ([sO cy hh a kk dd b w ee qq ik] ++ (pS cy a S ++ ([ia cy (hh 1) 7 C, tO cy w b2 x wc lw gw ss sl sc sp] ++ (aS cy b2 P2 F2 N2 B2 O2 Sd2 Dv2 L2 rc2 re2 fr2 lo2 sm2 ++ (pS cy x X))))) sz)) (va_Qi (fun (r : Int32) (u : (Nat → Int32) × (Nat → Int32) × (Nat → Int32) × (Nat → Int32) × (Nat → Int32) × (Nat → Int32) × (Nat → Int32) × (Nat → Nat → Int32) × Int32 × Int32 × Int32 × Int32 × Int32 × (Nat → Int32) × Int32 × Int32 × Int32) => (r = ans (cStop S x1 x2 x3 x4) (vStop S (ux x1) x2 x3 x4)) ∧ (can u.2.2.2.2.2.2.2.2.2.2.2.2.2.1)) (fun (u : (Nat → Int32) × (Nat → Int32) × (Nat → Int32) × (Nat → Int32) × (Nat → Int32) × (Nat → Int32) × (Nat → Int32) × (Nat → Nat → Int32) × Int32 × Int32 × Int32 × Int32 × Int32 × (Nat → Int32) × Int32 × Int32 × Int32) t => po D (va_A ([sO cy hh a kk dd b w ee qq ik] ++ (pS cy a S ++ ([ia cy (hh 1) 7 C, tO cy w b2 x wc lw gw ss sl sc sp] ++ (aS cy b2 P2 F2 N2 B2 O2 Sd2 Dv2 L2 rc2 re2 fr2 lo2 sm2 ++ (pS cy x X))))) sz) ([sO cy hh a kk dd b w ee qq ik] ++ (pS cy a S ++ ([ia cy (hh 1) 7 (fnd C (cStop S x1 x2 x3 x4)), tO cy w b2 x wc lw gw u.2.2.2.2.2.2.2.2.2.2.2.2.2.2.1 u.2.2.2.2.2.2.2.2.2.2.2.2.2.2.2.1 u.2.2.2.2.2.2.2.2.2.2.2.2.2.2.2.2 sp] ++ (aS cy b2 u.1 u.2.1 u.2.2.1 u.2.2.2.1 u.2.2.2.2.1 u.2.2.2.2.2.1 u.2.2.2.2.2.2.1 u.2.2.2.2.2.2.2.1 u.2.2.2.2.2.2.2.2.1 u.2.2.2.2.2.2.2.2.2.1 u.2.2.2.2.2.2.2.2.2.2.1 u.2.2.2.2.2.2.2.2.2.2.2.1 u.2.2.2.2.2.2.2.2.2.2.2.2.1 ++ (pS cy x u.2.2.2.2.2.2.2.2.2.2.2.2.2.1))))) t) (va_A ([sO cy hh a kk dd b w ee qq ik] ++ (pS cy a S ++ ([ia cy (hh 1) 7 C, tO cy w b2 x wc lw gw ss sl sc sp] ++ (aS cy b2 P2 F2 N2 B2 O2 Sd2 Dv2 L2 rc2 re2 fr2 lo2 sm2 ++ (pS cy x X))))) sz)) 0 0 (va_A ([sO cy hh a kk dd b w ee qq ik] ++ (pS cy a S ++ ([ia cy (hh 1) 7 C, tO cy w b2 x wc lw gw ss sl sc sp] ++ (aS cy b2 P2 F2 N2 B2 O2 Sd2 Dv2 L2 rc2 re2 fr2 lo2 sm2 ++ (pS cy x X))))) sz) := by
  refine mk_rw (by decide) RX6 rfl (Nat.le_of_ble_eq_true rfl) [(0, .ref (hh 0)), (1, .int x1), (2, .int x2), (3, .int x3), (4, .int x4)] rfl ?_
  intro p e s m below meth c hx hb hml hown hr hlocks hin hw hsz hA hG hK H0 locs0 hP0 hD0 hS0 ls0 hl0
  clear hin
  have hg20 := wf_g20 wf
  have hr6 := wf_r6 wf
  obtain ⟨sn, hm, rfl⟩ : ∃ sn, sn < 2 ^ 32 ∧ x1 = nI sn := ⟨_, (nI_all x1).2, (nI_all x1).1⟩
  have hux : ux (nI sn) = sn := nI_u hm
  refine lv_aload_n hx hb dX6_stop_0 rfl (lv_at hl0 0 rfl) ?_
  refine lv_iload_n hx hb dX6_stop_1 rfl (lv_at hl0 1 rfl) ?_
  refine rV_i (wc := [sO cy hh a kk dd b w ee qq ik] ++ (pS cy a S)) (rest := []) hx hb hml hown hw hG hK hP0 hS0 hA hl0 kc_X6_isStopSet kw_3_155 [.int (nI sn)] (c_X6_isStopSet l D cy G H0.size hh a kk dd b w ee qq ik S sn (by first | omega | assumption) (by first | omega | assumption)) [0, 1, 2, 3, 4, 5, 6, 7, 8, 9, 10] rfl 0 rfl rfl rfl rfl rfl (Nat.le_of_ble_eq_true rfl) ⟨Nat.le_of_ble_eq_true rfl, Nat.le_of_ble_eq_true rfl⟩ dX6_stop_2 ⟨Nat.le_of_ble_eq_true rfl, Nat.le_of_ble_eq_true rfl⟩ (fun r_2 H1 locs1 hr_2 hP1 hS1 => ?_)
  have hD1 := hD0
  clear hP0 hD0 hS0 locs0 H0
  subst hr_2
  refine lb_eq (tgt := 40) hx hb dX6_stop_5 (by decide) (fun c_5 => ?_) (fun c_5 => ?_)
  · refine lv_aload_n hx hb dX6_stop_40 rfl (lv_at hl0 0 rfl) ?_
    refine lv_iconst (v := 0) hx hb dX6_stop_41 (by decide) ?_
    refine cV_i (wc := [sO cy hh a kk dd b w ee qq ik, ia cy (hh 1) 7 C]) (wr := pS cy a S ++ ([tO cy w b2 x wc lw gw ss sl sc sp] ++ (aS cy b2 P2 F2 N2 B2 O2 Sd2 Dv2 L2 rc2 re2 fr2 lo2 sm2 ++ (pS cy x X)))) (rest := []) hx hb hml hown hw hG hK hP1 hD1 hS1 hA hl0 kc_X6_find kw_2_59 [.int 0] (c_X6_find l D cy G H1.size hh a kk dd b w ee qq ik C 0 (by first | omega | assumption)) [0, 11] [1, 2, 3, 4, 5, 6, 7, 8, 9, 10, 12, 13, 14, 15, 16, 17, 18, 19, 20, 21, 22, 23, 24, 25, 26, 27, 28, 29, 30, 31, 32, 33, 34, 35, 36, 37] rfl rfl rfl rfl rfl 0 rfl rfl rfl rfl rfl (Nat.le_of_ble_eq_true rfl) ⟨Nat.le_of_ble_eq_true rfl, Nat.le_of_ble_eq_true rfl⟩ dX6_stop_42 ⟨Nat.le_of_ble_eq_true rfl, Nat.le_of_ble_eq_true rfl⟩ (fun r_42 u9 H2 locs2 hu9 hP2 hD2 hS2 => ?_)
    clear hP1 hD1 hS1 locs1 H1
    have hr_42 := hu9
    replace hP2 : va_P D vwCl (pS cy a S ++ ([tO cy w b2 x wc lw gw ss sl sc sp] ++ (aS cy b2 P2 F2 N2 B2 O2 Sd2 Dv2 L2 rc2 re2 fr2 lo2 sm2 ++ (pS cy x X ++ ([sO cy hh a kk dd b w ee qq ik, ia cy (hh 1) 7 (upd C 0 (C 0 + 1))]))))) H2 := hP2
    replace hD2 : va_D (va_A _ sz) (pS cy a S ++ ([tO cy w b2 x wc lw gw ss sl sc sp] ++ (aS cy b2 P2 F2 N2 B2 O2 Sd2 Dv2 L2 rc2 re2 fr2 lo2 sm2 ++ (pS cy x X ++ ([sO cy hh a kk dd b w ee qq ik, ia cy (hh 1) 7 (upd C 0 (C 0 + 1))]))))) := hD2
    replace hP2 := hP2.sub (ws' := [sO cy hh a kk dd b w ee qq ik] ++ (pS cy a S ++ ([ia cy (hh 1) 7 (upd C 0 (C 0 + 1)), tO cy w b2 x wc lw gw ss sl sc sp] ++ (aS cy b2 P2 F2 N2 B2 O2 Sd2 Dv2 L2 rc2 re2 fr2 lo2 sm2 ++ (pS cy x X))))) [36, 0, 1, 2, 3, 4, 5, 6, 7, 8, 9, 37, 10, 11, 12, 13, 14, 15, 16, 17, 18, 19, 20, 21, 22, 23, 24, 25, 26, 27, 28, 29, 30, 31, 32, 33, 34, 35] rfl
    replace hD2 := hD2.sub (ws' := [sO cy hh a kk dd b w ee qq ik] ++ (pS cy a S ++ ([ia cy (hh 1) 7 (upd C 0 (C 0 + 1)), tO cy w b2 x wc lw gw ss sl sc sp] ++ (aS cy b2 P2 F2 N2 B2 O2 Sd2 Dv2 L2 rc2 re2 fr2 lo2 sm2 ++ (pS cy x X))))) [36, 0, 1, 2, 3, 4, 5, 6, 7, 8, 9, 37, 10, 11, 12, 13, 14, 15, 16, 17, 18, 19, 20, 21, 22, 23, 24, 25, 26, 27, 28, 29, 30, 31, 32, 33, 34, 35] (by decide) rfl
    subst hr_42
    have hcd : cStop S (nI sn) x2 x3 x4 = 0 := by unfold cStop; rw [hux]; clear hx hb hml hown hr hlocks hw hsz hA hG hK hP2 hD2 hS2 hl0; grind
    have hq9 : ([sO cy hh a kk dd b w ee qq ik] ++ (pS cy a S ++ ([ia cy (hh 1) 7 (upd C 0 (C 0 + 1)), tO cy w b2 x wc lw gw ss sl sc sp] ++ (aS cy b2 P2 F2 N2 B2 O2 Sd2 Dv2 L2 rc2 re2 fr2 lo2 sm2 ++ (pS cy x X))))) = ([sO cy hh a kk dd b w ee qq ik] ++ (pS cy a S ++ ([ia cy (hh 1) 7 (fnd C (cStop S (nI sn) x2 x3 x4)), tO cy w b2 x wc lw gw ss sl sc sp] ++ (aS cy b2 P2 F2 N2 B2 O2 Sd2 Dv2 L2 rc2 re2 fr2 lo2 sm2 ++ (pS cy x X))))) := congrArg (fun z9 => [sO cy hh a kk dd b w ee qq ik] ++ (pS cy a S ++ ([ia cy (hh 1) 7 z9, tO cy w b2 x wc lw gw ss sl sc sp] ++ (aS cy b2 P2 F2 N2 B2 O2 Sd2 Dv2 L2 rc2 re2 fr2 lo2 sm2 ++ (pS cy x X))))) (show (upd C 0 (C 0 + 1)) = (fnd C (cStop S (nI sn) x2 x3 x4)) from fnd_f hcd (by decide))
    replace hP2 := (congrArg (fun z9 => va_P D vwCl z9 _) hq9).mp hP2
    replace hD2 := (congrArg (fun z9 => va_D _ z9) hq9).mp hD2
    clear hq9
    refine re_i (P2, F2, N2, B2, O2, Sd2, Dv2, L2, rc2, re2, fr2, lo2, sm2, X, ss, sl, sc) hx hb hr hlocks hP2 hD2 hS2 dX6_stop_45 ?_
    exact (⟨ans_f hcd (by decide) rfl, hX⟩)
  · refine lv_iload_n hx hb dX6_stop_8 rfl (lv_at hl0 2 rfl) ?_
    refine lv_if_lt (tgt := 40) hx hb dX6_stop_9 (by decide) (fun c_9 => ?_) (fun c_9 => ?_)
    · refine lv_aload_n hx hb dX6_stop_40 rfl (lv_at hl0 0 rfl) ?_
      refine lv_iconst (v := 0) hx hb dX6_stop_41 (by decide) ?_
      refine cV_i (wc := [sO cy hh a kk dd b w ee qq ik, ia cy (hh 1) 7 C]) (wr := pS cy a S ++ ([tO cy w b2 x wc lw gw ss sl sc sp] ++ (aS cy b2 P2 F2 N2 B2 O2 Sd2 Dv2 L2 rc2 re2 fr2 lo2 sm2 ++ (pS cy x X)))) (rest := []) hx hb hml hown hw hG hK hP1 hD1 hS1 hA hl0 kc_X6_find kw_2_59 [.int 0] (c_X6_find l D cy G H1.size hh a kk dd b w ee qq ik C 0 (by first | omega | assumption)) [0, 11] [1, 2, 3, 4, 5, 6, 7, 8, 9, 10, 12, 13, 14, 15, 16, 17, 18, 19, 20, 21, 22, 23, 24, 25, 26, 27, 28, 29, 30, 31, 32, 33, 34, 35, 36, 37] rfl rfl rfl rfl rfl 0 rfl rfl rfl rfl rfl (Nat.le_of_ble_eq_true rfl) ⟨Nat.le_of_ble_eq_true rfl, Nat.le_of_ble_eq_true rfl⟩ dX6_stop_42 ⟨Nat.le_of_ble_eq_true rfl, Nat.le_of_ble_eq_true rfl⟩ (fun r_42 u9 H2 locs2 hu9 hP2 hD2 hS2 => ?_)
      clear hP1 hD1 hS1 locs1 H1
      have hr_42 := hu9
      replace hP2 : va_P D vwCl (pS cy a S ++ ([tO cy w b2 x wc lw gw ss sl sc sp] ++ (aS cy b2 P2 F2 N2 B2 O2 Sd2 Dv2 L2 rc2 re2 fr2 lo2 sm2 ++ (pS cy x X ++ ([sO cy hh a kk dd b w ee qq ik, ia cy (hh 1) 7 (upd C 0 (C 0 + 1))]))))) H2 := hP2
      replace hD2 : va_D (va_A _ sz) (pS cy a S ++ ([tO cy w b2 x wc lw gw ss sl sc sp] ++ (aS cy b2 P2 F2 N2 B2 O2 Sd2 Dv2 L2 rc2 re2 fr2 lo2 sm2 ++ (pS cy x X ++ ([sO cy hh a kk dd b w ee qq ik, ia cy (hh 1) 7 (upd C 0 (C 0 + 1))]))))) := hD2
      replace hP2 := hP2.sub (ws' := [sO cy hh a kk dd b w ee qq ik] ++ (pS cy a S ++ ([ia cy (hh 1) 7 (upd C 0 (C 0 + 1)), tO cy w b2 x wc lw gw ss sl sc sp] ++ (aS cy b2 P2 F2 N2 B2 O2 Sd2 Dv2 L2 rc2 re2 fr2 lo2 sm2 ++ (pS cy x X))))) [36, 0, 1, 2, 3, 4, 5, 6, 7, 8, 9, 37, 10, 11, 12, 13, 14, 15, 16, 17, 18, 19, 20, 21, 22, 23, 24, 25, 26, 27, 28, 29, 30, 31, 32, 33, 34, 35] rfl
      replace hD2 := hD2.sub (ws' := [sO cy hh a kk dd b w ee qq ik] ++ (pS cy a S ++ ([ia cy (hh 1) 7 (upd C 0 (C 0 + 1)), tO cy w b2 x wc lw gw ss sl sc sp] ++ (aS cy b2 P2 F2 N2 B2 O2 Sd2 Dv2 L2 rc2 re2 fr2 lo2 sm2 ++ (pS cy x X))))) [36, 0, 1, 2, 3, 4, 5, 6, 7, 8, 9, 37, 10, 11, 12, 13, 14, 15, 16, 17, 18, 19, 20, 21, 22, 23, 24, 25, 26, 27, 28, 29, 30, 31, 32, 33, 34, 35] (by decide) rfl
      subst hr_42
      have hcd : cStop S (nI sn) x2 x3 x4 = 0 := by unfold cStop; rw [hux]; clear hx hb hml hown hr hlocks hw hsz hA hG hK hP2 hD2 hS2 hl0; grind
      have hq9 : ([sO cy hh a kk dd b w ee qq ik] ++ (pS cy a S ++ ([ia cy (hh 1) 7 (upd C 0 (C 0 + 1)), tO cy w b2 x wc lw gw ss sl sc sp] ++ (aS cy b2 P2 F2 N2 B2 O2 Sd2 Dv2 L2 rc2 re2 fr2 lo2 sm2 ++ (pS cy x X))))) = ([sO cy hh a kk dd b w ee qq ik] ++ (pS cy a S ++ ([ia cy (hh 1) 7 (fnd C (cStop S (nI sn) x2 x3 x4)), tO cy w b2 x wc lw gw ss sl sc sp] ++ (aS cy b2 P2 F2 N2 B2 O2 Sd2 Dv2 L2 rc2 re2 fr2 lo2 sm2 ++ (pS cy x X))))) := congrArg (fun z9 => [sO cy hh a kk dd b w ee qq ik] ++ (pS cy a S ++ ([ia cy (hh 1) 7 z9, tO cy w b2 x wc lw gw ss sl sc sp] ++ (aS cy b2 P2 F2 N2 B2 O2 Sd2 Dv2 L2 rc2 re2 fr2 lo2 sm2 ++ (pS cy x X))))) (show (upd C 0 (C 0 + 1)) = (fnd C (cStop S (nI sn) x2 x3 x4)) from fnd_f hcd (by decide))
      replace hP2 := (congrArg (fun z9 => va_P D vwCl z9 _) hq9).mp hP2
      replace hD2 := (congrArg (fun z9 => va_D _ z9) hq9).mp hD2
      clear hq9
      refine re_i (P2, F2, N2, B2, O2, Sd2, Dv2, L2, rc2, re2, fr2, lo2, sm2, X, ss, sl, sc) hx hb hr hlocks hP2 hD2 hS2 dX6_stop_45 ?_
      exact (⟨ans_f hcd (by decide) rfl, hX⟩)
    · refine lv_iload_n hx hb dX6_stop_12 rfl (lv_at hl0 2 rfl) ?_
      refine lv_sipush (v := 999) hx hb dX6_stop_13 (by decide) ?_
      refine lv_icmp_gt (tgt := 40) hx hb dX6_stop_16 (by decide) (fun c_16 => ?_) (fun c_16 => ?_)
      · refine lv_aload_n hx hb dX6_stop_40 rfl (lv_at hl0 0 rfl) ?_
        refine lv_iconst (v := 0) hx hb dX6_stop_41 (by decide) ?_
        refine cV_i (wc := [sO cy hh a kk dd b w ee qq ik, ia cy (hh 1) 7 C]) (wr := pS cy a S ++ ([tO cy w b2 x wc lw gw ss sl sc sp] ++ (aS cy b2 P2 F2 N2 B2 O2 Sd2 Dv2 L2 rc2 re2 fr2 lo2 sm2 ++ (pS cy x X)))) (rest := []) hx hb hml hown hw hG hK hP1 hD1 hS1 hA hl0 kc_X6_find kw_2_59 [.int 0] (c_X6_find l D cy G H1.size hh a kk dd b w ee qq ik C 0 (by first | omega | assumption)) [0, 11] [1, 2, 3, 4, 5, 6, 7, 8, 9, 10, 12, 13, 14, 15, 16, 17, 18, 19, 20, 21, 22, 23, 24, 25, 26, 27, 28, 29, 30, 31, 32, 33, 34, 35, 36, 37] rfl rfl rfl rfl rfl 0 rfl rfl rfl rfl rfl (Nat.le_of_ble_eq_true rfl) ⟨Nat.le_of_ble_eq_true rfl, Nat.le_of_ble_eq_true rfl⟩ dX6_stop_42 ⟨Nat.le_of_ble_eq_true rfl, Nat.le_of_ble_eq_true rfl⟩ (fun r_42 u9 H2 locs2 hu9 hP2 hD2 hS2 => ?_)
        clear hP1 hD1 hS1 locs1 H1
        have hr_42 := hu9
        replace hP2 : va_P D vwCl (pS cy a S ++ ([tO cy w b2 x wc lw gw ss sl sc sp] ++ (aS cy b2 P2 F2 N2 B2 O2 Sd2 Dv2 L2 rc2 re2 fr2 lo2 sm2 ++ (pS cy x X ++ ([sO cy hh a kk dd b w ee qq ik, ia cy (hh 1) 7 (upd C 0 (C 0 + 1))]))))) H2 := hP2
        replace hD2 : va_D (va_A _ sz) (pS cy a S ++ ([tO cy w b2 x wc lw gw ss sl sc sp] ++ (aS cy b2 P2 F2 N2 B2 O2 Sd2 Dv2 L2 rc2 re2 fr2 lo2 sm2 ++ (pS cy x X ++ ([sO cy hh a kk dd b w ee qq ik, ia cy (hh 1) 7 (upd C 0 (C 0 + 1))]))))) := hD2
        replace hP2 := hP2.sub (ws' := [sO cy hh a kk dd b w ee qq ik] ++ (pS cy a S ++ ([ia cy (hh 1) 7 (upd C 0 (C 0 + 1)), tO cy w b2 x wc lw gw ss sl sc sp] ++ (aS cy b2 P2 F2 N2 B2 O2 Sd2 Dv2 L2 rc2 re2 fr2 lo2 sm2 ++ (pS cy x X))))) [36, 0, 1, 2, 3, 4, 5, 6, 7, 8, 9, 37, 10, 11, 12, 13, 14, 15, 16, 17, 18, 19, 20, 21, 22, 23, 24, 25, 26, 27, 28, 29, 30, 31, 32, 33, 34, 35] rfl
        replace hD2 := hD2.sub (ws' := [sO cy hh a kk dd b w ee qq ik] ++ (pS cy a S ++ ([ia cy (hh 1) 7 (upd C 0 (C 0 + 1)), tO cy w b2 x wc lw gw ss sl sc sp] ++ (aS cy b2 P2 F2 N2 B2 O2 Sd2 Dv2 L2 rc2 re2 fr2 lo2 sm2 ++ (pS cy x X))))) [36, 0, 1, 2, 3, 4, 5, 6, 7, 8, 9, 37, 10, 11, 12, 13, 14, 15, 16, 17, 18, 19, 20, 21, 22, 23, 24, 25, 26, 27, 28, 29, 30, 31, 32, 33, 34, 35] (by decide) rfl
        subst hr_42
        have hcd : cStop S (nI sn) x2 x3 x4 = 0 := by unfold cStop; rw [hux]; clear hx hb hml hown hr hlocks hw hsz hA hG hK hP2 hD2 hS2 hl0; grind
        have hq9 : ([sO cy hh a kk dd b w ee qq ik] ++ (pS cy a S ++ ([ia cy (hh 1) 7 (upd C 0 (C 0 + 1)), tO cy w b2 x wc lw gw ss sl sc sp] ++ (aS cy b2 P2 F2 N2 B2 O2 Sd2 Dv2 L2 rc2 re2 fr2 lo2 sm2 ++ (pS cy x X))))) = ([sO cy hh a kk dd b w ee qq ik] ++ (pS cy a S ++ ([ia cy (hh 1) 7 (fnd C (cStop S (nI sn) x2 x3 x4)), tO cy w b2 x wc lw gw ss sl sc sp] ++ (aS cy b2 P2 F2 N2 B2 O2 Sd2 Dv2 L2 rc2 re2 fr2 lo2 sm2 ++ (pS cy x X))))) := congrArg (fun z9 => [sO cy hh a kk dd b w ee qq ik] ++ (pS cy a S ++ ([ia cy (hh 1) 7 z9, tO cy w b2 x wc lw gw ss sl sc sp] ++ (aS cy b2 P2 F2 N2 B2 O2 Sd2 Dv2 L2 rc2 re2 fr2 lo2 sm2 ++ (pS cy x X))))) (show (upd C 0 (C 0 + 1)) = (fnd C (cStop S (nI sn) x2 x3 x4)) from fnd_f hcd (by decide))
        replace hP2 := (congrArg (fun z9 => va_P D vwCl z9 _) hq9).mp hP2
        replace hD2 := (congrArg (fun z9 => va_D _ z9) hq9).mp hD2
        clear hq9
        refine re_i (P2, F2, N2, B2, O2, Sd2, Dv2, L2, rc2, re2, fr2, lo2, sm2, X, ss, sl, sc) hx hb hr hlocks hP2 hD2 hS2 dX6_stop_45 ?_
        exact (⟨ans_f hcd (by decide) rfl, hX⟩)
      · refine lv_iload_n hx hb dX6_stop_19 rfl (lv_at hl0 3 rfl) ?_
        refine lv_if_lt (tgt := 40) hx hb dX6_stop_20 (by decide) (fun c_20 => ?_) (fun c_20 => ?_)
        · refine lv_aload_n hx hb dX6_stop_40 rfl (lv_at hl0 0 rfl) ?_
          refine lv_iconst (v := 0) hx hb dX6_stop_41 (by decide) ?_
          refine cV_i (wc := [sO cy hh a kk dd b w ee qq ik, ia cy (hh 1) 7 C]) (wr := pS cy a S ++ ([tO cy w b2 x wc lw gw ss sl sc sp] ++ (aS cy b2 P2 F2 N2 B2 O2 Sd2 Dv2 L2 rc2 re2 fr2 lo2 sm2 ++ (pS cy x X)))) (rest := []) hx hb hml hown hw hG hK hP1 hD1 hS1 hA hl0 kc_X6_find kw_2_59 [.int 0] (c_X6_find l D cy G H1.size hh a kk dd b w ee qq ik C 0 (by first | omega | assumption)) [0, 11] [1, 2, 3, 4, 5, 6, 7, 8, 9, 10, 12, 13, 14, 15, 16, 17, 18, 19, 20, 21, 22, 23, 24, 25, 26, 27, 28, 29, 30, 31, 32, 33, 34, 35, 36, 37] rfl rfl rfl rfl rfl 0 rfl rfl rfl rfl rfl (Nat.le_of_ble_eq_true rfl) ⟨Nat.le_of_ble_eq_true rfl, Nat.le_of_ble_eq_true rfl⟩ dX6_stop_42 ⟨Nat.le_of_ble_eq_true rfl, Nat.le_of_ble_eq_true rfl⟩ (fun r_42 u9 H2 locs2 hu9 hP2 hD2 hS2 => ?_)
          clear hP1 hD1 hS1 locs1 H1
          have hr_42 := hu9
          replace hP2 : va_P D vwCl (pS cy a S ++ ([tO cy w b2 x wc lw gw ss sl sc sp] ++ (aS cy b2 P2 F2 N2 B2 O2 Sd2 Dv2 L2 rc2 re2 fr2 lo2 sm2 ++ (pS cy x X ++ ([sO cy hh a kk dd b w ee qq ik, ia cy (hh 1) 7 (upd C 0 (C 0 + 1))]))))) H2 := hP2
          replace hD2 : va_D (va_A _ sz) (pS cy a S ++ ([tO cy w b2 x wc lw gw ss sl sc sp] ++ (aS cy b2 P2 F2 N2 B2 O2 Sd2 Dv2 L2 rc2 re2 fr2 lo2 sm2 ++ (pS cy x X ++ ([sO cy hh a kk dd b w ee qq ik, ia cy (hh 1) 7 (upd C 0 (C 0 + 1))]))))) := hD2
          replace hP2 := hP2.sub (ws' := [sO cy hh a kk dd b w ee qq ik] ++ (pS cy a S ++ ([ia cy (hh 1) 7 (upd C 0 (C 0 + 1)), tO cy w b2 x wc lw gw ss sl sc sp] ++ (aS cy b2 P2 F2 N2 B2 O2 Sd2 Dv2 L2 rc2 re2 fr2 lo2 sm2 ++ (pS cy x X))))) [36, 0, 1, 2, 3, 4, 5, 6, 7, 8, 9, 37, 10, 11, 12, 13, 14, 15, 16, 17, 18, 19, 20, 21, 22, 23, 24, 25, 26, 27, 28, 29, 30, 31, 32, 33, 34, 35] rfl
          replace hD2 := hD2.sub (ws' := [sO cy hh a kk dd b w ee qq ik] ++ (pS cy a S ++ ([ia cy (hh 1) 7 (upd C 0 (C 0 + 1)), tO cy w b2 x wc lw gw ss sl sc sp] ++ (aS cy b2 P2 F2 N2 B2 O2 Sd2 Dv2 L2 rc2 re2 fr2 lo2 sm2 ++ (pS cy x X))))) [36, 0, 1, 2, 3, 4, 5, 6, 7, 8, 9, 37, 10, 11, 12, 13, 14, 15, 16, 17, 18, 19, 20, 21, 22, 23, 24, 25, 26, 27, 28, 29, 30, 31, 32, 33, 34, 35] (by decide) rfl
          subst hr_42
          have hcd : cStop S (nI sn) x2 x3 x4 = 0 := by unfold cStop; rw [hux]; clear hx hb hml hown hr hlocks hw hsz hA hG hK hP2 hD2 hS2 hl0; grind
          have hq9 : ([sO cy hh a kk dd b w ee qq ik] ++ (pS cy a S ++ ([ia cy (hh 1) 7 (upd C 0 (C 0 + 1)), tO cy w b2 x wc lw gw ss sl sc sp] ++ (aS cy b2 P2 F2 N2 B2 O2 Sd2 Dv2 L2 rc2 re2 fr2 lo2 sm2 ++ (pS cy x X))))) = ([sO cy hh a kk dd b w ee qq ik] ++ (pS cy a S ++ ([ia cy (hh 1) 7 (fnd C (cStop S (nI sn) x2 x3 x4)), tO cy w b2 x wc lw gw ss sl sc sp] ++ (aS cy b2 P2 F2 N2 B2 O2 Sd2 Dv2 L2 rc2 re2 fr2 lo2 sm2 ++ (pS cy x X))))) := congrArg (fun z9 => [sO cy hh a kk dd b w ee qq ik] ++ (pS cy a S ++ ([ia cy (hh 1) 7 z9, tO cy w b2 x wc lw gw ss sl sc sp] ++ (aS cy b2 P2 F2 N2 B2 O2 Sd2 Dv2 L2 rc2 re2 fr2 lo2 sm2 ++ (pS cy x X))))) (show (upd C 0 (C 0 + 1)) = (fnd C (cStop S (nI sn) x2 x3 x4)) from fnd_f hcd (by decide))
          replace hP2 := (congrArg (fun z9 => va_P D vwCl z9 _) hq9).mp hP2
          replace hD2 := (congrArg (fun z9 => va_D _ z9) hq9).mp hD2
          clear hq9
          refine re_i (P2, F2, N2, B2, O2, Sd2, Dv2, L2, rc2, re2, fr2, lo2, sm2, X, ss, sl, sc) hx hb hr hlocks hP2 hD2 hS2 dX6_stop_45 ?_
          exact (⟨ans_f hcd (by decide) rfl, hX⟩)
        · refine lv_iload_n hx hb dX6_stop_23 rfl (lv_at hl0 3 rfl) ?_
          refine lv_ldc (v := 99999) hx hb hown (hw _ kw_3_168) dX6_stop_24 ?_
          refine lv_icmp_gt (tgt := 40) hx hb dX6_stop_26 (by decide) (fun c_26 => ?_) (fun c_26 => ?_)
          · refine lv_aload_n hx hb dX6_stop_40 rfl (lv_at hl0 0 rfl) ?_
            refine lv_iconst (v := 0) hx hb dX6_stop_41 (by decide) ?_
            refine cV_i (wc := [sO cy hh a kk dd b w ee qq ik, ia cy (hh 1) 7 C]) (wr := pS cy a S ++ ([tO cy w b2 x wc lw gw ss sl sc sp] ++ (aS cy b2 P2 F2 N2 B2 O2 Sd2 Dv2 L2 rc2 re2 fr2 lo2 sm2 ++ (pS cy x X)))) (rest := []) hx hb hml hown hw hG hK hP1 hD1 hS1 hA hl0 kc_X6_find kw_2_59 [.int 0] (c_X6_find l D cy G H1.size hh a kk dd b w ee qq ik C 0 (by first | omega | assumption)) [0, 11] [1, 2, 3, 4, 5, 6, 7, 8, 9, 10, 12, 13, 14, 15, 16, 17, 18, 19, 20, 21, 22, 23, 24, 25, 26, 27, 28, 29, 30, 31, 32, 33, 34, 35, 36, 37] rfl rfl rfl rfl rfl 0 rfl rfl rfl rfl rfl (Nat.le_of_ble_eq_true rfl) ⟨Nat.le_of_ble_eq_true rfl, Nat.le_of_ble_eq_true rfl⟩ dX6_stop_42 ⟨Nat.le_of_ble_eq_true rfl, Nat.le_of_ble_eq_true rfl⟩ (fun r_42 u9 H2 locs2 hu9 hP2 hD2 hS2 => ?_)
            clear hP1 hD1 hS1 locs1 H1
            have hr_42 := hu9
            replace hP2 : va_P D vwCl (pS cy a S ++ ([tO cy w b2 x wc lw gw ss sl sc sp] ++ (aS cy b2 P2 F2 N2 B2 O2 Sd2 Dv2 L2 rc2 re2 fr2 lo2 sm2 ++ (pS cy x X ++ ([sO cy hh a kk dd b w ee qq ik, ia cy (hh 1) 7 (upd C 0 (C 0 + 1))]))))) H2 := hP2
            replace hD2 : va_D (va_A _ sz) (pS cy a S ++ ([tO cy w b2 x wc lw gw ss sl sc sp] ++ (aS cy b2 P2 F2 N2 B2 O2 Sd2 Dv2 L2 rc2 re2 fr2 lo2 sm2 ++ (pS cy x X ++ ([sO cy hh a kk dd b w ee qq ik, ia cy (hh 1) 7 (upd C 0 (C 0 + 1))]))))) := hD2
            replace hP2 := hP2.sub (ws' := [sO cy hh a kk dd b w ee qq ik] ++ (pS cy a S ++ ([ia cy (hh 1) 7 (upd C 0 (C 0 + 1)), tO cy w b2 x wc lw gw ss sl sc sp] ++ (aS cy b2 P2 F2 N2 B2 O2 Sd2 Dv2 L2 rc2 re2 fr2 lo2 sm2 ++ (pS cy x X))))) [36, 0, 1, 2, 3, 4, 5, 6, 7, 8, 9, 37, 10, 11, 12, 13, 14, 15, 16, 17, 18, 19, 20, 21, 22, 23, 24, 25, 26, 27, 28, 29, 30, 31, 32, 33, 34, 35] rfl
            replace hD2 := hD2.sub (ws' := [sO cy hh a kk dd b w ee qq ik] ++ (pS cy a S ++ ([ia cy (hh 1) 7 (upd C 0 (C 0 + 1)), tO cy w b2 x wc lw gw ss sl sc sp] ++ (aS cy b2 P2 F2 N2 B2 O2 Sd2 Dv2 L2 rc2 re2 fr2 lo2 sm2 ++ (pS cy x X))))) [36, 0, 1, 2, 3, 4, 5, 6, 7, 8, 9, 37, 10, 11, 12, 13, 14, 15, 16, 17, 18, 19, 20, 21, 22, 23, 24, 25, 26, 27, 28, 29, 30, 31, 32, 33, 34, 35] (by decide) rfl
            subst hr_42
            have hcd : cStop S (nI sn) x2 x3 x4 = 0 := by unfold cStop; rw [hux]; clear hx hb hml hown hr hlocks hw hsz hA hG hK hP2 hD2 hS2 hl0; grind
            have hq9 : ([sO cy hh a kk dd b w ee qq ik] ++ (pS cy a S ++ ([ia cy (hh 1) 7 (upd C 0 (C 0 + 1)), tO cy w b2 x wc lw gw ss sl sc sp] ++ (aS cy b2 P2 F2 N2 B2 O2 Sd2 Dv2 L2 rc2 re2 fr2 lo2 sm2 ++ (pS cy x X))))) = ([sO cy hh a kk dd b w ee qq ik] ++ (pS cy a S ++ ([ia cy (hh 1) 7 (fnd C (cStop S (nI sn) x2 x3 x4)), tO cy w b2 x wc lw gw ss sl sc sp] ++ (aS cy b2 P2 F2 N2 B2 O2 Sd2 Dv2 L2 rc2 re2 fr2 lo2 sm2 ++ (pS cy x X))))) := congrArg (fun z9 => [sO cy hh a kk dd b w ee qq ik] ++ (pS cy a S ++ ([ia cy (hh 1) 7 z9, tO cy w b2 x wc lw gw ss sl sc sp] ++ (aS cy b2 P2 F2 N2 B2 O2 Sd2 Dv2 L2 rc2 re2 fr2 lo2 sm2 ++ (pS cy x X))))) (show (upd C 0 (C 0 + 1)) = (fnd C (cStop S (nI sn) x2 x3 x4)) from fnd_f hcd (by decide))
            replace hP2 := (congrArg (fun z9 => va_P D vwCl z9 _) hq9).mp hP2
            replace hD2 := (congrArg (fun z9 => va_D _ z9) hq9).mp hD2
            clear hq9
            refine re_i (P2, F2, N2, B2, O2, Sd2, Dv2, L2, rc2, re2, fr2, lo2, sm2, X, ss, sl, sc) hx hb hr hlocks hP2 hD2 hS2 dX6_stop_45 ?_
            exact (⟨ans_f hcd (by decide) rfl, hX⟩)
          · refine lv_iload hx hb dX6_stop_29 (lv_at hl0 4 rfl) ?_
            refine lv_if_lt (tgt := 40) hx hb dX6_stop_31 (by decide) (fun c_31 => ?_) (fun c_31 => ?_)
            · refine lv_aload_n hx hb dX6_stop_40 rfl (lv_at hl0 0 rfl) ?_
              refine lv_iconst (v := 0) hx hb dX6_stop_41 (by decide) ?_
              refine cV_i (wc := [sO cy hh a kk dd b w ee qq ik, ia cy (hh 1) 7 C]) (wr := pS cy a S ++ ([tO cy w b2 x wc lw gw ss sl sc sp] ++ (aS cy b2 P2 F2 N2 B2 O2 Sd2 Dv2 L2 rc2 re2 fr2 lo2 sm2 ++ (pS cy x X)))) (rest := []) hx hb hml hown hw hG hK hP1 hD1 hS1 hA hl0 kc_X6_find kw_2_59 [.int 0] (c_X6_find l D cy G H1.size hh a kk dd b w ee qq ik C 0 (by first | omega | assumption)) [0, 11] [1, 2, 3, 4, 5, 6, 7, 8, 9, 10, 12, 13, 14, 15, 16, 17, 18, 19, 20, 21, 22, 23, 24, 25, 26, 27, 28, 29, 30, 31, 32, 33, 34, 35, 36, 37] rfl rfl rfl rfl rfl 0 rfl rfl rfl rfl rfl (Nat.le_of_ble_eq_true rfl) ⟨Nat.le_of_ble_eq_true rfl, Nat.le_of_ble_eq_true rfl⟩ dX6_stop_42 ⟨Nat.le_of_ble_eq_true rfl, Nat.le_of_ble_eq_true rfl⟩ (fun r_42 u9 H2 locs2 hu9 hP2 hD2 hS2 => ?_)
              clear hP1 hD1 hS1 locs1 H1
              have hr_42 := hu9
              replace hP2 : va_P D vwCl (pS cy a S ++ ([tO cy w b2 x wc lw gw ss sl sc sp] ++ (aS cy b2 P2 F2 N2 B2 O2 Sd2 Dv2 L2 rc2 re2 fr2 lo2 sm2 ++ (pS cy x X ++ ([sO cy hh a kk dd b w ee qq ik, ia cy (hh 1) 7 (upd C 0 (C 0 + 1))]))))) H2 := hP2
              replace hD2 : va_D (va_A _ sz) (pS cy a S ++ ([tO cy w b2 x wc lw gw ss sl sc sp] ++ (aS cy b2 P2 F2 N2 B2 O2 Sd2 Dv2 L2 rc2 re2 fr2 lo2 sm2 ++ (pS cy x X ++ ([sO cy hh a kk dd b w ee qq ik, ia cy (hh 1) 7 (upd C 0 (C 0 + 1))]))))) := hD2
              replace hP2 := hP2.sub (ws' := [sO cy hh a kk dd b w ee qq ik] ++ (pS cy a S ++ ([ia cy (hh 1) 7 (upd C 0 (C 0 + 1)), tO cy w b2 x wc lw gw ss sl sc sp] ++ (aS cy b2 P2 F2 N2 B2 O2 Sd2 Dv2 L2 rc2 re2 fr2 lo2 sm2 ++ (pS cy x X))))) [36, 0, 1, 2, 3, 4, 5, 6, 7, 8, 9, 37, 10, 11, 12, 13, 14, 15, 16, 17, 18, 19, 20, 21, 22, 23, 24, 25, 26, 27, 28, 29, 30, 31, 32, 33, 34, 35] rfl
              replace hD2 := hD2.sub (ws' := [sO cy hh a kk dd b w ee qq ik] ++ (pS cy a S ++ ([ia cy (hh 1) 7 (upd C 0 (C 0 + 1)), tO cy w b2 x wc lw gw ss sl sc sp] ++ (aS cy b2 P2 F2 N2 B2 O2 Sd2 Dv2 L2 rc2 re2 fr2 lo2 sm2 ++ (pS cy x X))))) [36, 0, 1, 2, 3, 4, 5, 6, 7, 8, 9, 37, 10, 11, 12, 13, 14, 15, 16, 17, 18, 19, 20, 21, 22, 23, 24, 25, 26, 27, 28, 29, 30, 31, 32, 33, 34, 35] (by decide) rfl
              subst hr_42
              have hcd : cStop S (nI sn) x2 x3 x4 = 0 := by unfold cStop; rw [hux]; clear hx hb hml hown hr hlocks hw hsz hA hG hK hP2 hD2 hS2 hl0; grind
              have hq9 : ([sO cy hh a kk dd b w ee qq ik] ++ (pS cy a S ++ ([ia cy (hh 1) 7 (upd C 0 (C 0 + 1)), tO cy w b2 x wc lw gw ss sl sc sp] ++ (aS cy b2 P2 F2 N2 B2 O2 Sd2 Dv2 L2 rc2 re2 fr2 lo2 sm2 ++ (pS cy x X))))) = ([sO cy hh a kk dd b w ee qq ik] ++ (pS cy a S ++ ([ia cy (hh 1) 7 (fnd C (cStop S (nI sn) x2 x3 x4)), tO cy w b2 x wc lw gw ss sl sc sp] ++ (aS cy b2 P2 F2 N2 B2 O2 Sd2 Dv2 L2 rc2 re2 fr2 lo2 sm2 ++ (pS cy x X))))) := congrArg (fun z9 => [sO cy hh a kk dd b w ee qq ik] ++ (pS cy a S ++ ([ia cy (hh 1) 7 z9, tO cy w b2 x wc lw gw ss sl sc sp] ++ (aS cy b2 P2 F2 N2 B2 O2 Sd2 Dv2 L2 rc2 re2 fr2 lo2 sm2 ++ (pS cy x X))))) (show (upd C 0 (C 0 + 1)) = (fnd C (cStop S (nI sn) x2 x3 x4)) from fnd_f hcd (by decide))
              replace hP2 := (congrArg (fun z9 => va_P D vwCl z9 _) hq9).mp hP2
              replace hD2 := (congrArg (fun z9 => va_D _ z9) hq9).mp hD2
              clear hq9
              refine re_i (P2, F2, N2, B2, O2, Sd2, Dv2, L2, rc2, re2, fr2, lo2, sm2, X, ss, sl, sc) hx hb hr hlocks hP2 hD2 hS2 dX6_stop_45 ?_
              exact (⟨ans_f hcd (by decide) rfl, hX⟩)
            · refine lv_iload hx hb dX6_stop_34 (lv_at hl0 4 rfl) ?_
              refine lv_iconst (v := 2) hx hb dX6_stop_36 (by decide) ?_
              refine lv_icmp_le (tgt := 46) hx hb dX6_stop_37 (by decide) (fun c_37 => ?_) (fun c_37 => ?_)
              · have hok := st_ok wf c_5
                obtain ⟨np, hnp⟩ : ∃ np, np = 2 ^ pop sn := ⟨_, rfl⟩
                refine lv_aload_n hx hb dX6_stop_46 rfl (lv_at hl0 0 rfl) ?_
                refine va_get (D := D) (ci := 6) (v := .ref (w 0)) (C := RX6) (T := TX6) (N := 9) hx hb hw iX6 hown hK hP1 0 rfl rfl 5 (by decide) (hw _ kw_2_32) (fun _ h9 => h9) rfl dX6_stop_47 ?_
                refine lv_aload_n hx hb dX6_stop_50 rfl (lv_at hl0 0 rfl) ?_
                refine va_get (D := D) (ci := 6) (v := .ref (a 0)) (C := RX6) (T := TX6) (N := 9) hx hb hw iX6 hown hK hP1 0 rfl rfl 0 (by decide) (hw _ kw_2_27) (fun _ h9 => h9) rfl dX6_stop_51 ?_
                refine lv_iload_n hx hb dX6_stop_54 rfl (lv_at hl0 1 rfl) ?_
                refine lv_iload_n hx hb dX6_stop_55 rfl (lv_at hl0 2 rfl) ?_
                refine lv_iload_n hx hb dX6_stop_56 rfl (lv_at hl0 3 rfl) ?_
                refine cV_i (wc := [tO cy w b2 x wc lw gw ss sl sc sp] ++ (aS cy b2 P2 F2 N2 B2 O2 Sd2 Dv2 L2 rc2 re2 fr2 lo2 sm2 ++ (pS cy x X ++ (pS cy a S)))) (wr := [sO cy hh a kk dd b w ee qq ik, ia cy (hh 1) 7 C]) (rest := []) hx hb hml hown hw hG hK hP1 hD1 hS1 hA hl0 kc_X5_findStop kw_3_169 [.ref (a 0), .int (nI sn), .int x2, .int x3] (c_X5_findStop l D cy G H1.size w b2 x wc lw gw ss sl sc sp P2 F2 N2 B2 O2 Sd2 Dv2 L2 rc2 re2 fr2 lo2 sm2 X a S sn np x2 x3 hX wf hok.1 c_5.2.1 hnp (by rw [hnp]; exact hok.2.1) hok.2.2) [12, 13, 14, 15, 16, 17, 18, 19, 20, 21, 22, 23, 24, 25, 26, 27, 28, 29, 30, 31, 32, 33, 34, 35, 36, 37, 1, 2, 3, 4, 5, 6, 7, 8, 9, 10] [0, 11] rfl rfl rfl rfl rfl 0 rfl rfl rfl rfl rfl (Nat.le_of_ble_eq_true rfl) ⟨Nat.le_of_ble_eq_true rfl, Nat.le_of_ble_eq_true rfl⟩ dX6_stop_57 ⟨Nat.le_of_ble_eq_true rfl, Nat.le_of_ble_eq_true rfl⟩ (fun r_57 u9 H2 locs2 hu9 hP2 hD2 hS2 => ?_)
                clear hP1 hD1 hS1 locs1 H1
                obtain ⟨P1_57, F1_57, N1_57, B1_57, O1_57, Sd1_57, Dv1_57, L1_57, rc1_57, re1_57, fr1_57, lo1_57, sm1_57, X1_57, sl1_57, sc1_57⟩ := u9
                obtain ⟨hr_57, hX1_57, hsl_57⟩ := hu9
                replace hX1_57 : can X1_57 := hX1_57
                replace hsl_57 : ¬ spB S sn x2 x3 (np) < 0 → sl1_57 = spL S sn x2 x3 (np) ∧ sc1_57 = cst S (bstN (spB S sn x2 x3 (np))) (gcN S) := hsl_57
                replace hP2 : va_P D vwCl ([sO cy hh a kk dd b w ee qq ik, ia cy (hh 1) 7 C, tO cy w b2 x wc lw gw (spB S sn x2 x3 (np)) sl1_57 sc1_57 sp] ++ (aS cy b2 P1_57 F1_57 N1_57 B1_57 O1_57 Sd1_57 Dv1_57 L1_57 rc1_57 re1_57 fr1_57 lo1_57 sm1_57 ++ (pS cy x X1_57 ++ (pS cy a S)))) H2 := hP2
                replace hD2 : va_D (va_A _ sz) ([sO cy hh a kk dd b w ee qq ik, ia cy (hh 1) 7 C, tO cy w b2 x wc lw gw (spB S sn x2 x3 (np)) sl1_57 sc1_57 sp] ++ (aS cy b2 P1_57 F1_57 N1_57 B1_57 O1_57 Sd1_57 Dv1_57 L1_57 rc1_57 re1_57 fr1_57 lo1_57 sm1_57 ++ (pS cy x X1_57 ++ (pS cy a S)))) := hD2
                replace hP2 := hP2.sub (ws' := [sO cy hh a kk dd b w ee qq ik] ++ (pS cy a S ++ ([ia cy (hh 1) 7 C, tO cy w b2 x wc lw gw (spB S sn x2 x3 (np)) sl1_57 sc1_57 sp] ++ (aS cy b2 P1_57 F1_57 N1_57 B1_57 O1_57 Sd1_57 Dv1_57 L1_57 rc1_57 re1_57 fr1_57 lo1_57 sm1_57 ++ (pS cy x X1_57))))) [0, 28, 29, 30, 31, 32, 33, 34, 35, 36, 37, 1, 2, 3, 4, 5, 6, 7, 8, 9, 10, 11, 12, 13, 14, 15, 16, 17, 18, 19, 20, 21, 22, 23, 24, 25, 26, 27] rfl
                replace hD2 := hD2.sub (ws' := [sO cy hh a kk dd b w ee qq ik] ++ (pS cy a S ++ ([ia cy (hh 1) 7 C, tO cy w b2 x wc lw gw (spB S sn x2 x3 (np)) sl1_57 sc1_57 sp] ++ (aS cy b2 P1_57 F1_57 N1_57 B1_57 O1_57 Sd1_57 Dv1_57 L1_57 rc1_57 re1_57 fr1_57 lo1_57 sm1_57 ++ (pS cy x X1_57))))) [0, 28, 29, 30, 31, 32, 33, 34, 35, 36, 37, 1, 2, 3, 4, 5, 6, 7, 8, 9, 10, 11, 12, 13, 14, 15, 16, 17, 18, 19, 20, 21, 22, 23, 24, 25, 26, 27] (by decide) rfl
                subst hr_57
                refine lb_ne (tgt := 69) hx hb dX6_stop_60 (by decide) (fun c_60 => ?_) (fun c_60 => ?_)
                · refine lv_iload hx hb dX6_stop_69 (lv_at hl0 4 rfl) ?_
                  by_cases c_71_0 : x4 = 0
                  · refine tp c_71_0 ?_
                    refine lv_lookup (off := 25) (tgt := 96) hx hb dX6_stop_71 (by decide) (by decide) (by decide) ?_
                    refine lv_aload_n hx hb dX6_stop_96 rfl (lv_at hl0 0 rfl) ?_
                    refine va_get (D := D) (ci := 6) (v := .ref (w 0)) (C := RX6) (T := TX6) (N := 9) hx hb hw iX6 hown hK hP2 0 rfl rfl 5 (by decide) (hw _ kw_2_32) (fun _ h9 => h9) rfl dX6_stop_97 ?_
                    refine va_get (D := D) (ci := 5) (v := .int (spB S sn x2 x3 (np))) (C := RX5) (T := TX5) (N := 11) hx hb hw iX5 hown hK hP2 12 rfl rfl 4 (by decide) (hw _ kw_1_172) (fun _ h9 => h9) rfl dX6_stop_100 ?_
                    have hcd : cStop S (nI sn) x2 x3 x4 = 7 := by unfold cStop; rw [hux, ← hnp]; clear hx hb hml hown hr hlocks hw hsz hA hG hK hP2 hD2 hS2 hl0; grind
                    have hq9 : ([sO cy hh a kk dd b w ee qq ik] ++ (pS cy a S ++ ([ia cy (hh 1) 7 C, tO cy w b2 x wc lw gw (spB S sn x2 x3 (np)) sl1_57 sc1_57 sp] ++ (aS cy b2 P1_57 F1_57 N1_57 B1_57 O1_57 Sd1_57 Dv1_57 L1_57 rc1_57 re1_57 fr1_57 lo1_57 sm1_57 ++ (pS cy x X1_57))))) = ([sO cy hh a kk dd b w ee qq ik] ++ (pS cy a S ++ ([ia cy (hh 1) 7 (fnd C (cStop S (nI sn) x2 x3 x4)), tO cy w b2 x wc lw gw (spB S sn x2 x3 (np)) sl1_57 sc1_57 sp] ++ (aS cy b2 P1_57 F1_57 N1_57 B1_57 O1_57 Sd1_57 Dv1_57 L1_57 rc1_57 re1_57 fr1_57 lo1_57 sm1_57 ++ (pS cy x X1_57))))) := congrArg (fun z9 => [sO cy hh a kk dd b w ee qq ik] ++ (pS cy a S ++ ([ia cy (hh 1) 7 z9, tO cy w b2 x wc lw gw (spB S sn x2 x3 (np)) sl1_57 sc1_57 sp] ++ (aS cy b2 P1_57 F1_57 N1_57 B1_57 O1_57 Sd1_57 Dv1_57 L1_57 rc1_57 re1_57 fr1_57 lo1_57 sm1_57 ++ (pS cy x X1_57))))) (show C = (fnd C (cStop S (nI sn) x2 x3 x4)) from fnd_o hcd)
                    replace hP2 := (congrArg (fun z9 => va_P D vwCl z9 _) hq9).mp hP2
                    replace hD2 := (congrArg (fun z9 => va_D _ z9) hq9).mp hD2
                    clear hq9
                    refine re_i (P1_57, F1_57, N1_57, B1_57, O1_57, Sd1_57, Dv1_57, L1_57, rc1_57, re1_57, fr1_57, lo1_57, sm1_57, X1_57, spB S sn x2 x3 (np), sl1_57, sc1_57) hx hb hr hlocks hP2 hD2 hS2 dX6_stop_103 ?_
                    exact (⟨ans_o hcd (by rw [hux]; unfold vStop; rw [← hnp]; clear hx hb hml hown hr hlocks hw hsz hA hG hK hP2 hD2 hS2 hl0; grind), hX1_57⟩)
                  by_cases c_71_1 : x4 = 1
                  · refine tp c_71_1 ?_
                    refine lv_lookup (off := 33) (tgt := 104) hx hb dX6_stop_71 (by decide) (by decide) (by decide) ?_
                    refine lv_aload_n hx hb dX6_stop_104 rfl (lv_at hl0 0 rfl) ?_
                    refine va_get (D := D) (ci := 6) (v := .ref (w 0)) (C := RX6) (T := TX6) (N := 9) hx hb hw iX6 hown hK hP2 0 rfl rfl 5 (by decide) (hw _ kw_2_32) (fun _ h9 => h9) rfl dX6_stop_105 ?_
                    refine va_get (D := D) (ci := 5) (v := .int sl1_57) (C := RX5) (T := TX5) (N := 11) hx hb hw iX5 hown hK hP2 12 rfl rfl 5 (by decide) (hw _ kw_1_174) (fun _ h9 => h9) rfl dX6_stop_108 ?_
                    have hcd : cStop S (nI sn) x2 x3 x4 = 7 := by unfold cStop; rw [hux, ← hnp]; clear hx hb hml hown hr hlocks hw hsz hA hG hK hP2 hD2 hS2 hl0; grind
                    have hq9 : ([sO cy hh a kk dd b w ee qq ik] ++ (pS cy a S ++ ([ia cy (hh 1) 7 C, tO cy w b2 x wc lw gw (spB S sn x2 x3 (np)) sl1_57 sc1_57 sp] ++ (aS cy b2 P1_57 F1_57 N1_57 B1_57 O1_57 Sd1_57 Dv1_57 L1_57 rc1_57 re1_57 fr1_57 lo1_57 sm1_57 ++ (pS cy x X1_57))))) = ([sO cy hh a kk dd b w ee qq ik] ++ (pS cy a S ++ ([ia cy (hh 1) 7 (fnd C (cStop S (nI sn) x2 x3 x4)), tO cy w b2 x wc lw gw (spB S sn x2 x3 (np)) sl1_57 sc1_57 sp] ++ (aS cy b2 P1_57 F1_57 N1_57 B1_57 O1_57 Sd1_57 Dv1_57 L1_57 rc1_57 re1_57 fr1_57 lo1_57 sm1_57 ++ (pS cy x X1_57))))) := congrArg (fun z9 => [sO cy hh a kk dd b w ee qq ik] ++ (pS cy a S ++ ([ia cy (hh 1) 7 z9, tO cy w b2 x wc lw gw (spB S sn x2 x3 (np)) sl1_57 sc1_57 sp] ++ (aS cy b2 P1_57 F1_57 N1_57 B1_57 O1_57 Sd1_57 Dv1_57 L1_57 rc1_57 re1_57 fr1_57 lo1_57 sm1_57 ++ (pS cy x X1_57))))) (show C = (fnd C (cStop S (nI sn) x2 x3 x4)) from fnd_o hcd)
                    replace hP2 := (congrArg (fun z9 => va_P D vwCl z9 _) hq9).mp hP2
                    replace hD2 := (congrArg (fun z9 => va_D _ z9) hq9).mp hD2
                    clear hq9
                    refine re_i (P1_57, F1_57, N1_57, B1_57, O1_57, Sd1_57, Dv1_57, L1_57, rc1_57, re1_57, fr1_57, lo1_57, sm1_57, X1_57, spB S sn x2 x3 (np), sl1_57, sc1_57) hx hb hr hlocks hP2 hD2 hS2 dX6_stop_111 ?_
                    exact (⟨ans_o hcd (by rw [hux]; unfold vStop; rw [← hnp]; clear hx hb hml hown hr hlocks hw hsz hA hG hK hP2 hD2 hS2 hl0; grind), hX1_57⟩)
                  refine lv_lookup (off := 41) (tgt := 112) hx hb dX6_stop_71 (by decide) (by simp only [Array.toList]; rw [lv_osw c_71_0 (by decide), lv_osw c_71_1 (by decide)]; rfl) (by decide) ?_
                  refine lv_aload_n hx hb dX6_stop_112 rfl (lv_at hl0 0 rfl) ?_
                  refine va_get (D := D) (ci := 6) (v := .ref (w 0)) (C := RX6) (T := TX6) (N := 9) hx hb hw iX6 hown hK hP2 0 rfl rfl 5 (by decide) (hw _ kw_2_32) (fun _ h9 => h9) rfl dX6_stop_113 ?_
                  refine va_get (D := D) (ci := 5) (v := .int sc1_57) (C := RX5) (T := TX5) (N := 11) hx hb hw iX5 hown hK hP2 12 rfl rfl 6 (by decide) (hw _ kw_1_176) (fun _ h9 => h9) rfl dX6_stop_116 ?_
                  have hcd : cStop S (nI sn) x2 x3 x4 = 7 := by unfold cStop; rw [hux, ← hnp]; clear hx hb hml hown hr hlocks hw hsz hA hG hK hP2 hD2 hS2 hl0; grind
                  have hq9 : ([sO cy hh a kk dd b w ee qq ik] ++ (pS cy a S ++ ([ia cy (hh 1) 7 C, tO cy w b2 x wc lw gw (spB S sn x2 x3 (np)) sl1_57 sc1_57 sp] ++ (aS cy b2 P1_57 F1_57 N1_57 B1_57 O1_57 Sd1_57 Dv1_57 L1_57 rc1_57 re1_57 fr1_57 lo1_57 sm1_57 ++ (pS cy x X1_57))))) = ([sO cy hh a kk dd b w ee qq ik] ++ (pS cy a S ++ ([ia cy (hh 1) 7 (fnd C (cStop S (nI sn) x2 x3 x4)), tO cy w b2 x wc lw gw (spB S sn x2 x3 (np)) sl1_57 sc1_57 sp] ++ (aS cy b2 P1_57 F1_57 N1_57 B1_57 O1_57 Sd1_57 Dv1_57 L1_57 rc1_57 re1_57 fr1_57 lo1_57 sm1_57 ++ (pS cy x X1_57))))) := congrArg (fun z9 => [sO cy hh a kk dd b w ee qq ik] ++ (pS cy a S ++ ([ia cy (hh 1) 7 z9, tO cy w b2 x wc lw gw (spB S sn x2 x3 (np)) sl1_57 sc1_57 sp] ++ (aS cy b2 P1_57 F1_57 N1_57 B1_57 O1_57 Sd1_57 Dv1_57 L1_57 rc1_57 re1_57 fr1_57 lo1_57 sm1_57 ++ (pS cy x X1_57))))) (show C = (fnd C (cStop S (nI sn) x2 x3 x4)) from fnd_o hcd)
                  replace hP2 := (congrArg (fun z9 => va_P D vwCl z9 _) hq9).mp hP2
                  replace hD2 := (congrArg (fun z9 => va_D _ z9) hq9).mp hD2
                  clear hq9
                  refine re_i (P1_57, F1_57, N1_57, B1_57, O1_57, Sd1_57, Dv1_57, L1_57, rc1_57, re1_57, fr1_57, lo1_57, sm1_57, X1_57, spB S sn x2 x3 (np), sl1_57, sc1_57) hx hb hr hlocks hP2 hD2 hS2 dX6_stop_119 ?_
                  exact (⟨ans_o hcd (by rw [hux]; unfold vStop; rw [← hnp]; clear hx hb hml hown hr hlocks hw hsz hA hG hK hP2 hD2 hS2 hl0; grind), hX1_57⟩)
                · refine lv_aload_n hx hb dX6_stop_63 rfl (lv_at hl0 0 rfl) ?_
                  refine lv_iconst (v := 3) hx hb dX6_stop_64 (by decide) ?_
                  refine cV_i (wc := [sO cy hh a kk dd b w ee qq ik, ia cy (hh 1) 7 C]) (wr := pS cy a S ++ ([tO cy w b2 x wc lw gw (spB S sn x2 x3 (np)) sl1_57 sc1_57 sp] ++ (aS cy b2 P1_57 F1_57 N1_57 B1_57 O1_57 Sd1_57 Dv1_57 L1_57 rc1_57 re1_57 fr1_57 lo1_57 sm1_57 ++ (pS cy x X1_57)))) (rest := []) hx hb hml hown hw hG hK hP2 hD2 hS2 hA hl0 kc_X6_find kw_2_59 [.int 3] (c_X6_find l D cy G H2.size hh a kk dd b w ee qq ik C 3 (by first | omega | assumption)) [0, 11] [1, 2, 3, 4, 5, 6, 7, 8, 9, 10, 12, 13, 14, 15, 16, 17, 18, 19, 20, 21, 22, 23, 24, 25, 26, 27, 28, 29, 30, 31, 32, 33, 34, 35, 36, 37] rfl rfl rfl rfl rfl 0 rfl rfl rfl rfl rfl (Nat.le_of_ble_eq_true rfl) ⟨Nat.le_of_ble_eq_true rfl, Nat.le_of_ble_eq_true rfl⟩ dX6_stop_65 ⟨Nat.le_of_ble_eq_true rfl, Nat.le_of_ble_eq_true rfl⟩ (fun r_65 u9 H3 locs3 hu9 hP3 hD3 hS3 => ?_)
                  clear hP2 hD2 hS2 locs2 H2
                  have hr_65 := hu9
                  replace hP3 : va_P D vwCl (pS cy a S ++ ([tO cy w b2 x wc lw gw (spB S sn x2 x3 (np)) sl1_57 sc1_57 sp] ++ (aS cy b2 P1_57 F1_57 N1_57 B1_57 O1_57 Sd1_57 Dv1_57 L1_57 rc1_57 re1_57 fr1_57 lo1_57 sm1_57 ++ (pS cy x X1_57 ++ ([sO cy hh a kk dd b w ee qq ik, ia cy (hh 1) 7 (upd C 3 (C 3 + 1))]))))) H3 := hP3
                  replace hD3 : va_D (va_A _ sz) (pS cy a S ++ ([tO cy w b2 x wc lw gw (spB S sn x2 x3 (np)) sl1_57 sc1_57 sp] ++ (aS cy b2 P1_57 F1_57 N1_57 B1_57 O1_57 Sd1_57 Dv1_57 L1_57 rc1_57 re1_57 fr1_57 lo1_57 sm1_57 ++ (pS cy x X1_57 ++ ([sO cy hh a kk dd b w ee qq ik, ia cy (hh 1) 7 (upd C 3 (C 3 + 1))]))))) := hD3
                  replace hP3 := hP3.sub (ws' := [sO cy hh a kk dd b w ee qq ik] ++ (pS cy a S ++ ([ia cy (hh 1) 7 (upd C 3 (C 3 + 1)), tO cy w b2 x wc lw gw (spB S sn x2 x3 (np)) sl1_57 sc1_57 sp] ++ (aS cy b2 P1_57 F1_57 N1_57 B1_57 O1_57 Sd1_57 Dv1_57 L1_57 rc1_57 re1_57 fr1_57 lo1_57 sm1_57 ++ (pS cy x X1_57))))) [36, 0, 1, 2, 3, 4, 5, 6, 7, 8, 9, 37, 10, 11, 12, 13, 14, 15, 16, 17, 18, 19, 20, 21, 22, 23, 24, 25, 26, 27, 28, 29, 30, 31, 32, 33, 34, 35] rfl
                  replace hD3 := hD3.sub (ws' := [sO cy hh a kk dd b w ee qq ik] ++ (pS cy a S ++ ([ia cy (hh 1) 7 (upd C 3 (C 3 + 1)), tO cy w b2 x wc lw gw (spB S sn x2 x3 (np)) sl1_57 sc1_57 sp] ++ (aS cy b2 P1_57 F1_57 N1_57 B1_57 O1_57 Sd1_57 Dv1_57 L1_57 rc1_57 re1_57 fr1_57 lo1_57 sm1_57 ++ (pS cy x X1_57))))) [36, 0, 1, 2, 3, 4, 5, 6, 7, 8, 9, 37, 10, 11, 12, 13, 14, 15, 16, 17, 18, 19, 20, 21, 22, 23, 24, 25, 26, 27, 28, 29, 30, 31, 32, 33, 34, 35] (by decide) rfl
                  subst hr_65
                  have hcd : cStop S (nI sn) x2 x3 x4 = 3 := by unfold cStop; rw [hux, ← hnp]; clear hx hb hml hown hr hlocks hw hsz hA hG hK hP3 hD3 hS3 hl0; grind
                  have hq9 : ([sO cy hh a kk dd b w ee qq ik] ++ (pS cy a S ++ ([ia cy (hh 1) 7 (upd C 3 (C 3 + 1)), tO cy w b2 x wc lw gw (spB S sn x2 x3 (np)) sl1_57 sc1_57 sp] ++ (aS cy b2 P1_57 F1_57 N1_57 B1_57 O1_57 Sd1_57 Dv1_57 L1_57 rc1_57 re1_57 fr1_57 lo1_57 sm1_57 ++ (pS cy x X1_57))))) = ([sO cy hh a kk dd b w ee qq ik] ++ (pS cy a S ++ ([ia cy (hh 1) 7 (fnd C (cStop S (nI sn) x2 x3 x4)), tO cy w b2 x wc lw gw (spB S sn x2 x3 (np)) sl1_57 sc1_57 sp] ++ (aS cy b2 P1_57 F1_57 N1_57 B1_57 O1_57 Sd1_57 Dv1_57 L1_57 rc1_57 re1_57 fr1_57 lo1_57 sm1_57 ++ (pS cy x X1_57))))) := congrArg (fun z9 => [sO cy hh a kk dd b w ee qq ik] ++ (pS cy a S ++ ([ia cy (hh 1) 7 z9, tO cy w b2 x wc lw gw (spB S sn x2 x3 (np)) sl1_57 sc1_57 sp] ++ (aS cy b2 P1_57 F1_57 N1_57 B1_57 O1_57 Sd1_57 Dv1_57 L1_57 rc1_57 re1_57 fr1_57 lo1_57 sm1_57 ++ (pS cy x X1_57))))) (show (upd C 3 (C 3 + 1)) = (fnd C (cStop S (nI sn) x2 x3 x4)) from fnd_f hcd (by decide))
                  replace hP3 := (congrArg (fun z9 => va_P D vwCl z9 _) hq9).mp hP3
                  replace hD3 := (congrArg (fun z9 => va_D _ z9) hq9).mp hD3
                  clear hq9
                  refine re_i (P1_57, F1_57, N1_57, B1_57, O1_57, Sd1_57, Dv1_57, L1_57, rc1_57, re1_57, fr1_57, lo1_57, sm1_57, X1_57, spB S sn x2 x3 (np), sl1_57, sc1_57) hx hb hr hlocks hP3 hD3 hS3 dX6_stop_68 ?_
                  exact (⟨ans_f hcd (by decide) rfl, hX1_57⟩)
              · refine lv_aload_n hx hb dX6_stop_40 rfl (lv_at hl0 0 rfl) ?_
                refine lv_iconst (v := 0) hx hb dX6_stop_41 (by decide) ?_
                refine cV_i (wc := [sO cy hh a kk dd b w ee qq ik, ia cy (hh 1) 7 C]) (wr := pS cy a S ++ ([tO cy w b2 x wc lw gw ss sl sc sp] ++ (aS cy b2 P2 F2 N2 B2 O2 Sd2 Dv2 L2 rc2 re2 fr2 lo2 sm2 ++ (pS cy x X)))) (rest := []) hx hb hml hown hw hG hK hP1 hD1 hS1 hA hl0 kc_X6_find kw_2_59 [.int 0] (c_X6_find l D cy G H1.size hh a kk dd b w ee qq ik C 0 (by first | omega | assumption)) [0, 11] [1, 2, 3, 4, 5, 6, 7, 8, 9, 10, 12, 13, 14, 15, 16, 17, 18, 19, 20, 21, 22, 23, 24, 25, 26, 27, 28, 29, 30, 31, 32, 33, 34, 35, 36, 37] rfl rfl rfl rfl rfl 0 rfl rfl rfl rfl rfl (Nat.le_of_ble_eq_true rfl) ⟨Nat.le_of_ble_eq_true rfl, Nat.le_of_ble_eq_true rfl⟩ dX6_stop_42 ⟨Nat.le_of_ble_eq_true rfl, Nat.le_of_ble_eq_true rfl⟩ (fun r_42 u9 H2 locs2 hu9 hP2 hD2 hS2 => ?_)
                clear hP1 hD1 hS1 locs1 H1
                have hr_42 := hu9
                replace hP2 : va_P D vwCl (pS cy a S ++ ([tO cy w b2 x wc lw gw ss sl sc sp] ++ (aS cy b2 P2 F2 N2 B2 O2 Sd2 Dv2 L2 rc2 re2 fr2 lo2 sm2 ++ (pS cy x X ++ ([sO cy hh a kk dd b w ee qq ik, ia cy (hh 1) 7 (upd C 0 (C 0 + 1))]))))) H2 := hP2
                replace hD2 : va_D (va_A _ sz) (pS cy a S ++ ([tO cy w b2 x wc lw gw ss sl sc sp] ++ (aS cy b2 P2 F2 N2 B2 O2 Sd2 Dv2 L2 rc2 re2 fr2 lo2 sm2 ++ (pS cy x X ++ ([sO cy hh a kk dd b w ee qq ik, ia cy (hh 1) 7 (upd C 0 (C 0 + 1))]))))) := hD2
                replace hP2 := hP2.sub (ws' := [sO cy hh a kk dd b w ee qq ik] ++ (pS cy a S ++ ([ia cy (hh 1) 7 (upd C 0 (C 0 + 1)), tO cy w b2 x wc lw gw ss sl sc sp] ++ (aS cy b2 P2 F2 N2 B2 O2 Sd2 Dv2 L2 rc2 re2 fr2 lo2 sm2 ++ (pS cy x X))))) [36, 0, 1, 2, 3, 4, 5, 6, 7, 8, 9, 37, 10, 11, 12, 13, 14, 15, 16, 17, 18, 19, 20, 21, 22, 23, 24, 25, 26, 27, 28, 29, 30, 31, 32, 33, 34, 35] rfl
                replace hD2 := hD2.sub (ws' := [sO cy hh a kk dd b w ee qq ik] ++ (pS cy a S ++ ([ia cy (hh 1) 7 (upd C 0 (C 0 + 1)), tO cy w b2 x wc lw gw ss sl sc sp] ++ (aS cy b2 P2 F2 N2 B2 O2 Sd2 Dv2 L2 rc2 re2 fr2 lo2 sm2 ++ (pS cy x X))))) [36, 0, 1, 2, 3, 4, 5, 6, 7, 8, 9, 37, 10, 11, 12, 13, 14, 15, 16, 17, 18, 19, 20, 21, 22, 23, 24, 25, 26, 27, 28, 29, 30, 31, 32, 33, 34, 35] (by decide) rfl
                subst hr_42
                have hcd : cStop S (nI sn) x2 x3 x4 = 0 := by unfold cStop; rw [hux]; clear hx hb hml hown hr hlocks hw hsz hA hG hK hP2 hD2 hS2 hl0; grind
                have hq9 : ([sO cy hh a kk dd b w ee qq ik] ++ (pS cy a S ++ ([ia cy (hh 1) 7 (upd C 0 (C 0 + 1)), tO cy w b2 x wc lw gw ss sl sc sp] ++ (aS cy b2 P2 F2 N2 B2 O2 Sd2 Dv2 L2 rc2 re2 fr2 lo2 sm2 ++ (pS cy x X))))) = ([sO cy hh a kk dd b w ee qq ik] ++ (pS cy a S ++ ([ia cy (hh 1) 7 (fnd C (cStop S (nI sn) x2 x3 x4)), tO cy w b2 x wc lw gw ss sl sc sp] ++ (aS cy b2 P2 F2 N2 B2 O2 Sd2 Dv2 L2 rc2 re2 fr2 lo2 sm2 ++ (pS cy x X))))) := congrArg (fun z9 => [sO cy hh a kk dd b w ee qq ik] ++ (pS cy a S ++ ([ia cy (hh 1) 7 z9, tO cy w b2 x wc lw gw ss sl sc sp] ++ (aS cy b2 P2 F2 N2 B2 O2 Sd2 Dv2 L2 rc2 re2 fr2 lo2 sm2 ++ (pS cy x X))))) (show (upd C 0 (C 0 + 1)) = (fnd C (cStop S (nI sn) x2 x3 x4)) from fnd_f hcd (by decide))
                replace hP2 := (congrArg (fun z9 => va_P D vwCl z9 _) hq9).mp hP2
                replace hD2 := (congrArg (fun z9 => va_D _ z9) hq9).mp hD2
                clear hq9
                refine re_i (P2, F2, N2, B2, O2, Sd2, Dv2, L2, rc2, re2, fr2, lo2, sm2, X, ss, sl, sc) hx hb hr hlocks hP2 hD2 hS2 dX6_stop_45 ?_
                exact (⟨ans_f hcd (by decide) rfl, hX⟩)

theorem kc_X6_order : kV yX6_order cX6_order 2 (some .int) 1 := ⟨kw_3_188, kw_3_189, kw_1_1, kw_3_190, by decide, by decide, by decide +kernel⟩
set_option maxHeartbeats 4000000 in
set_option maxRecDepth 100000 in
theorem c_X6_order (l : Launch) (D : va_G) (cy : Nat → ClassId) (G : Nat → Nat) (sz : Nat) (hh : Nat → Nat) (a : Nat → Nat) (kk : Nat → Nat) (dd : Nat → Nat) (b : Nat → Nat) (w : Nat → Nat) (ee : Nat → Nat) (qq : Nat → Nat) (ik : Int32) (S : Nat → Int32) (C : Nat → Int32) (x : Nat → Nat) (wc : Int32) (lw : Int32) (gw : Int32) (ss : Int32) (sl : Int32) (sc : Int32) (sp : Int32) (b2 : Nat → Nat) (P2 : Nat → Int32) (F2 : Nat → Int32) (N2 : Nat → Int32) (B2 : Nat → Int32) (O2 : Nat → Int32) (Sd2 : Nat → Int32) (Dv2 : Nat → Int32) (L2 : Nat → Nat → Int32) (rc2 : Int32) (re2 : Int32) (fr2 : Int32) (lo2 : Int32) (sm2 : Int32) (X : Nat → Int32) (sg : Nat → Int32) (lb : Nat → Int32) (x1 : Int32) (hX : can X) (wf : wf S) : Met l yX6_order (wm yX6_order cX6_order 2 (some .int)) { frames := 7, cells := 0, slots := 0, locals := 155 } (va_Pc [.ref (hh 0), .int x1] (pr D (TY cy) G ([sO cy hh a kk dd b w ee qq ik] ++ (pS cy a S ++ ([ia cy (hh 1) 7 C, tO cy w b2 x wc lw gw ss sl sc sp, ia cy (w 1) 20 sg, ia cy (w 2) 21 lb] ++ (aS cy b2 P2 F2 N2 B2 O2 Sd2 Dv2 L2 rc2 re2 fr2 lo2 sm2 ++ (pS cy x X))))) sz)) (va_Qi (fun (r : Int32) (u : (Nat → Int32) × (Nat → Int32) × (Nat → Int32) × (Nat → Int32) × (Nat → Int32) × (Nat → Int32) × (Nat → Int32) × (Nat → Nat → Int32) × Int32 × Int32 × Int32 × Int32 × Int32 × (Nat → Int32) × Int32 × (Nat → Int32) × (Nat → Int32)) => (r = ans (cOrder S x1) (stp S (bstN x1))) ∧ (can u.2.2.2.2.2.2.2.2.2.2.2.2.2.1)) (fun (u : (Nat → Int32) × (Nat → Int32) × (Nat → Int32) × (Nat → Int32) × (Nat → Int32) × (Nat → Int32) × (Nat → Int32) × (Nat → Nat → Int32) × Int32 × Int32 × Int32 × Int32 × Int32 × (Nat → Int32) × Int32 × (Nat → Int32) × (Nat → Int32)) t => po D (va_A ([sO cy hh a kk dd b w ee qq ik] ++ (pS cy a S ++ ([ia cy (hh 1) 7 C, tO cy w b2 x wc lw gw ss sl sc sp, ia cy (w 1) 20 sg, ia cy (w 2) 21 lb] ++ (aS cy b2 P2 F2 N2 B2 O2 Sd2 Dv2 L2 rc2 re2 fr2 lo2 sm2 ++ (pS cy x X))))) sz) ([sO cy hh a kk dd b w ee qq ik] ++ (pS cy a S ++ ([ia cy (hh 1) 7 (fnd C (cOrder S x1)), tO cy w b2 x wc lw gw ss sl sc u.2.2.2.2.2.2.2.2.2.2.2.2.2.2.1, ia cy (w 1) 20 u.2.2.2.2.2.2.2.2.2.2.2.2.2.2.2.1, ia cy (w 2) 21 u.2.2.2.2.2.2.2.2.2.2.2.2.2.2.2.2] ++ (aS cy b2 u.1 u.2.1 u.2.2.1 u.2.2.2.1 u.2.2.2.2.1 u.2.2.2.2.2.1 u.2.2.2.2.2.2.1 u.2.2.2.2.2.2.2.1 u.2.2.2.2.2.2.2.2.1 u.2.2.2.2.2.2.2.2.2.1 u.2.2.2.2.2.2.2.2.2.2.1 u.2.2.2.2.2.2.2.2.2.2.2.1 u.2.2.2.2.2.2.2.2.2.2.2.2.1 ++ (pS cy x u.2.2.2.2.2.2.2.2.2.2.2.2.2.1))))) t) (va_A ([sO cy hh a kk dd b w ee qq ik] ++ (pS cy a S ++ ([ia cy (hh 1) 7 C, tO cy w b2 x wc lw gw ss sl sc sp, ia cy (w 1) 20 sg, ia cy (w 2) 21 lb] ++ (aS cy b2 P2 F2 N2 B2 O2 Sd2 Dv2 L2 rc2 re2 fr2 lo2 sm2 ++ (pS cy x X))))) sz)) 0 0 (va_A ([sO cy hh a kk dd b w ee qq ik] ++ (pS cy a S ++ ([ia cy (hh 1) 7 C, tO cy w b2 x wc lw gw ss sl sc sp, ia cy (w 1) 20 sg, ia cy (w 2) 21 lb] ++ (aS cy b2 P2 F2 N2 B2 O2 Sd2 Dv2 L2 rc2 re2 fr2 lo2 sm2 ++ (pS cy x X))))) sz) := by
  refine mk_rw (by decide) RX6 rfl (Nat.le_of_ble_eq_true rfl) [(0, .ref (hh 0)), (1, .int x1)] rfl ?_
  intro p e s m below meth c hx hb hml hown hr hlocks hin hw hsz hA hG hK H0 locs0 hP0 hD0 hS0 ls0 hl0
  clear hin
  have hg20 := wf_g20 wf
  have hr6 := wf_r6 wf
  refine lv_iload_n hx hb dX6_order_0 rfl (lv_at hl0 1 rfl) ?_
  refine lv_if_lt (tgt := 10) hx hb dX6_order_1 (by decide) (fun c_1 => ?_) (fun c_1 => ?_)
  · refine lv_aload_n hx hb dX6_order_10 rfl (lv_at hl0 0 rfl) ?_
    refine lv_iconst (v := 0) hx hb dX6_order_11 (by decide) ?_
    refine cV_i (wc := [sO cy hh a kk dd b w ee qq ik, ia cy (hh 1) 7 C]) (wr := pS cy a S ++ ([tO cy w b2 x wc lw gw ss sl sc sp, ia cy (w 1) 20 sg, ia cy (w 2) 21 lb] ++ (aS cy b2 P2 F2 N2 B2 O2 Sd2 Dv2 L2 rc2 re2 fr2 lo2 sm2 ++ (pS cy x X)))) (rest := []) hx hb hml hown hw hG hK hP0 hD0 hS0 hA hl0 kc_X6_find kw_2_59 [.int 0] (c_X6_find l D cy G H0.size hh a kk dd b w ee qq ik C 0 (by first | omega | assumption)) [0, 11] [1, 2, 3, 4, 5, 6, 7, 8, 9, 10, 12, 13, 14, 15, 16, 17, 18, 19, 20, 21, 22, 23, 24, 25, 26, 27, 28, 29, 30, 31, 32, 33, 34, 35, 36, 37, 38, 39] rfl rfl rfl rfl rfl 0 rfl rfl rfl rfl rfl (Nat.le_of_ble_eq_true rfl) ⟨Nat.le_of_ble_eq_true rfl, Nat.le_of_ble_eq_true rfl⟩ dX6_order_12 ⟨Nat.le_of_ble_eq_true rfl, Nat.le_of_ble_eq_true rfl⟩ (fun r_12 u9 H1 locs1 hu9 hP1 hD1 hS1 => ?_)
    clear hP0 hD0 hS0 locs0 H0
    have hr_12 := hu9
    replace hP1 : va_P D vwCl (pS cy a S ++ ([tO cy w b2 x wc lw gw ss sl sc sp, ia cy (w 1) 20 sg, ia cy (w 2) 21 lb] ++ (aS cy b2 P2 F2 N2 B2 O2 Sd2 Dv2 L2 rc2 re2 fr2 lo2 sm2 ++ (pS cy x X ++ ([sO cy hh a kk dd b w ee qq ik, ia cy (hh 1) 7 (upd C 0 (C 0 + 1))]))))) H1 := hP1
    replace hD1 : va_D (va_A _ sz) (pS cy a S ++ ([tO cy w b2 x wc lw gw ss sl sc sp, ia cy (w 1) 20 sg, ia cy (w 2) 21 lb] ++ (aS cy b2 P2 F2 N2 B2 O2 Sd2 Dv2 L2 rc2 re2 fr2 lo2 sm2 ++ (pS cy x X ++ ([sO cy hh a kk dd b w ee qq ik, ia cy (hh 1) 7 (upd C 0 (C 0 + 1))]))))) := hD1
    replace hP1 := hP1.sub (ws' := [sO cy hh a kk dd b w ee qq ik] ++ (pS cy a S ++ ([ia cy (hh 1) 7 (upd C 0 (C 0 + 1)), tO cy w b2 x wc lw gw ss sl sc sp, ia cy (w 1) 20 sg, ia cy (w 2) 21 lb] ++ (aS cy b2 P2 F2 N2 B2 O2 Sd2 Dv2 L2 rc2 re2 fr2 lo2 sm2 ++ (pS cy x X))))) [38, 0, 1, 2, 3, 4, 5, 6, 7, 8, 9, 39, 10, 11, 12, 13, 14, 15, 16, 17, 18, 19, 20, 21, 22, 23, 24, 25, 26, 27, 28, 29, 30, 31, 32, 33, 34, 35, 36, 37] rfl
    replace hD1 := hD1.sub (ws' := [sO cy hh a kk dd b w ee qq ik] ++ (pS cy a S ++ ([ia cy (hh 1) 7 (upd C 0 (C 0 + 1)), tO cy w b2 x wc lw gw ss sl sc sp, ia cy (w 1) 20 sg, ia cy (w 2) 21 lb] ++ (aS cy b2 P2 F2 N2 B2 O2 Sd2 Dv2 L2 rc2 re2 fr2 lo2 sm2 ++ (pS cy x X))))) [38, 0, 1, 2, 3, 4, 5, 6, 7, 8, 9, 39, 10, 11, 12, 13, 14, 15, 16, 17, 18, 19, 20, 21, 22, 23, 24, 25, 26, 27, 28, 29, 30, 31, 32, 33, 34, 35, 36, 37] (by decide) rfl
    subst hr_12
    have hcd : cOrder S x1 = 0 := by unfold cOrder; clear hx hb hml hown hr hlocks hw hsz hA hG hK hP1 hD1 hS1 hl0; grind
    have hq9 : ([sO cy hh a kk dd b w ee qq ik] ++ (pS cy a S ++ ([ia cy (hh 1) 7 (upd C 0 (C 0 + 1)), tO cy w b2 x wc lw gw ss sl sc sp, ia cy (w 1) 20 sg, ia cy (w 2) 21 lb] ++ (aS cy b2 P2 F2 N2 B2 O2 Sd2 Dv2 L2 rc2 re2 fr2 lo2 sm2 ++ (pS cy x X))))) = ([sO cy hh a kk dd b w ee qq ik] ++ (pS cy a S ++ ([ia cy (hh 1) 7 (fnd C (cOrder S x1)), tO cy w b2 x wc lw gw ss sl sc sp, ia cy (w 1) 20 sg, ia cy (w 2) 21 lb] ++ (aS cy b2 P2 F2 N2 B2 O2 Sd2 Dv2 L2 rc2 re2 fr2 lo2 sm2 ++ (pS cy x X))))) := congrArg (fun z9 => [sO cy hh a kk dd b w ee qq ik] ++ (pS cy a S ++ ([ia cy (hh 1) 7 z9, tO cy w b2 x wc lw gw ss sl sc sp, ia cy (w 1) 20 sg, ia cy (w 2) 21 lb] ++ (aS cy b2 P2 F2 N2 B2 O2 Sd2 Dv2 L2 rc2 re2 fr2 lo2 sm2 ++ (pS cy x X))))) (show (upd C 0 (C 0 + 1)) = (fnd C (cOrder S x1)) from fnd_f hcd (by decide))
    replace hP1 := (congrArg (fun z9 => va_P D vwCl z9 _) hq9).mp hP1
    replace hD1 := (congrArg (fun z9 => va_D _ z9) hq9).mp hD1
    clear hq9
    refine re_i (P2, F2, N2, B2, O2, Sd2, Dv2, L2, rc2, re2, fr2, lo2, sm2, X, sp, sg, lb) hx hb hr hlocks hP1 hD1 hS1 dX6_order_15 ?_
    exact (⟨ans_f hcd (by decide) rfl, hX⟩)
  · refine lv_iload_n hx hb dX6_order_4 rfl (lv_at hl0 1 rfl) ?_
    refine lv_bipush (v := 20) hx hb dX6_order_5 (by decide) ?_
    refine lv_icmp_lt (tgt := 16) hx hb dX6_order_7 (by decide) (fun c_7 => ?_) (fun c_7 => ?_)
    · obtain ⟨k, hk, rfl⟩ := nI_rn (n := 20) (by decide) (x := x1) ⟨Int32.not_lt.mp c_1, c_7⟩
      have hbk : bstN (nI k) = k := bst_n (by omega)
      have hok := ordK_le S
      refine lv_aload_n hx hb dX6_order_16 rfl (lv_at hl0 0 rfl) ?_
      refine va_get (D := D) (ci := 6) (v := .ref (w 0)) (C := RX6) (T := TX6) (N := 9) hx hb hw iX6 hown hK hP0 0 rfl rfl 5 (by decide) (hw _ kw_2_32) (fun _ h9 => h9) rfl dX6_order_17 ?_
      refine lv_aload_n hx hb dX6_order_20 rfl (lv_at hl0 0 rfl) ?_
      refine va_get (D := D) (ci := 6) (v := .ref (a 0)) (C := RX6) (T := TX6) (N := 9) hx hb hw iX6 hown hK hP0 0 rfl rfl 0 (by decide) (hw _ kw_2_27) (fun _ h9 => h9) rfl dX6_order_21 ?_
      refine cV_v (wc := [tO cy w b2 x wc lw gw ss sl sc sp, ia cy (w 1) 20 sg, ia cy (w 2) 21 lb] ++ (aS cy b2 P2 F2 N2 B2 O2 Sd2 Dv2 L2 rc2 re2 fr2 lo2 sm2 ++ (pS cy x X ++ (pS cy a S)))) (wr := [sO cy hh a kk dd b w ee qq ik, ia cy (hh 1) 7 C]) (rest := []) hx hb hml hown hw hG hK hP0 hD0 hS0 hA hl0 kc_X5_findOrder kw_3_191 [.ref (a 0)] (c_X5_findOrder l D cy G H0.size w b2 x wc lw gw ss sl sc sp sg lb P2 F2 N2 B2 O2 Sd2 Dv2 L2 rc2 re2 fr2 lo2 sm2 X a S (by first | omega | assumption) (by first | omega | assumption)) [12, 13, 14, 15, 16, 17, 18, 19, 20, 21, 22, 23, 24, 25, 26, 27, 28, 29, 30, 31, 32, 33, 34, 35, 36, 37, 38, 39, 1, 2, 3, 4, 5, 6, 7, 8, 9, 10] [0, 11] rfl rfl rfl rfl rfl 0 rfl rfl rfl rfl rfl (Nat.le_of_ble_eq_true rfl) ⟨Nat.le_of_ble_eq_true rfl, Nat.le_of_ble_eq_true rfl⟩ dX6_order_24 ⟨Nat.le_of_ble_eq_true rfl, Nat.le_of_ble_eq_true rfl⟩ (fun u9 H1 locs1 hu9 hP1 hD1 hS1 => ?_)
      clear hP0 hD0 hS0 locs0 H0
      obtain ⟨P1_24, F1_24, N1_24, B1_24, O1_24, Sd1_24, Dv1_24, L1_24, rc1_24, re1_24, fr1_24, lo1_24, sm1_24, X1_24, sg1_24, lb1_24⟩ := u9
      obtain ⟨hX1_24, hsg_24, hlb_24⟩ := hu9
      replace hX1_24 : can X1_24 := hX1_24
      replace hsg_24 : ∀ j, j < ordK S → sg1_24 j = stp S j := hsg_24
      replace hlb_24 : ∀ j, j ≤ ordK S → lb1_24 j = hadS S j := hlb_24
      replace hP1 : va_P D vwCl ([sO cy hh a kk dd b w ee qq ik, ia cy (hh 1) 7 C, tO cy w b2 x wc lw gw ss sl sc (nI (ordK S)), ia cy (w 1) 20 sg1_24, ia cy (w 2) 21 lb1_24] ++ (aS cy b2 P1_24 F1_24 N1_24 B1_24 O1_24 Sd1_24 Dv1_24 L1_24 rc1_24 re1_24 fr1_24 lo1_24 sm1_24 ++ (pS cy x X1_24 ++ (pS cy a S)))) H1 := hP1
      replace hD1 : va_D (va_A _ sz) ([sO cy hh a kk dd b w ee qq ik, ia cy (hh 1) 7 C, tO cy w b2 x wc lw gw ss sl sc (nI (ordK S)), ia cy (w 1) 20 sg1_24, ia cy (w 2) 21 lb1_24] ++ (aS cy b2 P1_24 F1_24 N1_24 B1_24 O1_24 Sd1_24 Dv1_24 L1_24 rc1_24 re1_24 fr1_24 lo1_24 sm1_24 ++ (pS cy x X1_24 ++ (pS cy a S)))) := hD1
      replace hP1 := hP1.sub (ws' := [sO cy hh a kk dd b w ee qq ik] ++ (pS cy a S ++ ([ia cy (hh 1) 7 C, tO cy w b2 x wc lw gw ss sl sc (nI (ordK S)), ia cy (w 1) 20 sg1_24, ia cy (w 2) 21 lb1_24] ++ (aS cy b2 P1_24 F1_24 N1_24 B1_24 O1_24 Sd1_24 Dv1_24 L1_24 rc1_24 re1_24 fr1_24 lo1_24 sm1_24 ++ (pS cy x X1_24))))) [0, 30, 31, 32, 33, 34, 35, 36, 37, 38, 39, 1, 2, 3, 4, 5, 6, 7, 8, 9, 10, 11, 12, 13, 14, 15, 16, 17, 18, 19, 20, 21, 22, 23, 24, 25, 26, 27, 28, 29] rfl
      replace hD1 := hD1.sub (ws' := [sO cy hh a kk dd b w ee qq ik] ++ (pS cy a S ++ ([ia cy (hh 1) 7 C, tO cy w b2 x wc lw gw ss sl sc (nI (ordK S)), ia cy (w 1) 20 sg1_24, ia cy (w 2) 21 lb1_24] ++ (aS cy b2 P1_24 F1_24 N1_24 B1_24 O1_24 Sd1_24 Dv1_24 L1_24 rc1_24 re1_24 fr1_24 lo1_24 sm1_24 ++ (pS cy x X1_24))))) [0, 30, 31, 32, 33, 34, 35, 36, 37, 38, 39, 1, 2, 3, 4, 5, 6, 7, 8, 9, 10, 11, 12, 13, 14, 15, 16, 17, 18, 19, 20, 21, 22, 23, 24, 25, 26, 27, 28, 29] (by decide) rfl
      refine lv_iload_n hx hb dX6_order_27 rfl (lv_at hl0 1 rfl) ?_
      refine lv_aload_n hx hb dX6_order_28 rfl (lv_at hl0 0 rfl) ?_
      refine va_get (D := D) (ci := 6) (v := .ref (w 0)) (C := RX6) (T := TX6) (N := 9) hx hb hw iX6 hown hK hP1 0 rfl rfl 5 (by decide) (hw _ kw_2_32) (fun _ h9 => h9) rfl dX6_order_29 ?_
      refine va_get (D := D) (ci := 5) (v := .int (nI (ordK S))) (C := RX5) (T := TX5) (N := 11) hx hb hw iX5 hown hK hP1 12 rfl rfl 7 (by decide) (hw _ kw_1_178) (fun _ h9 => h9) rfl dX6_order_32 ?_
      refine ln_ge (tgt := 50) k (ordK S) rfl rfl (by omega) (by omega) hx hb dX6_order_35 (by decide) (fun c_35 => ?_) (fun c_35 => ?_)
      · refine lv_aload_n hx hb dX6_order_50 rfl (lv_at hl0 0 rfl) ?_
        refine lv_iconst (v := 3) hx hb dX6_order_51 (by decide) ?_
        refine cV_i (wc := [sO cy hh a kk dd b w ee qq ik, ia cy (hh 1) 7 C]) (wr := pS cy a S ++ ([tO cy w b2 x wc lw gw ss sl sc (nI (ordK S)), ia cy (w 1) 20 sg1_24, ia cy (w 2) 21 lb1_24] ++ (aS cy b2 P1_24 F1_24 N1_24 B1_24 O1_24 Sd1_24 Dv1_24 L1_24 rc1_24 re1_24 fr1_24 lo1_24 sm1_24 ++ (pS cy x X1_24)))) (rest := []) hx hb hml hown hw hG hK hP1 hD1 hS1 hA hl0 kc_X6_find kw_2_59 [.int 3] (c_X6_find l D cy G H1.size hh a kk dd b w ee qq ik C 3 (by first | omega | assumption)) [0, 11] [1, 2, 3, 4, 5, 6, 7, 8, 9, 10, 12, 13, 14, 15, 16, 17, 18, 19, 20, 21, 22, 23, 24, 25, 26, 27, 28, 29, 30, 31, 32, 33, 34, 35, 36, 37, 38, 39] rfl rfl rfl rfl rfl 0 rfl rfl rfl rfl rfl (Nat.le_of_ble_eq_true rfl) ⟨Nat.le_of_ble_eq_true rfl, Nat.le_of_ble_eq_true rfl⟩ dX6_order_52 ⟨Nat.le_of_ble_eq_true rfl, Nat.le_of_ble_eq_true rfl⟩ (fun r_52 u9 H2 locs2 hu9 hP2 hD2 hS2 => ?_)
        clear hP1 hD1 hS1 locs1 H1
        have hr_52 := hu9
        replace hP2 : va_P D vwCl (pS cy a S ++ ([tO cy w b2 x wc lw gw ss sl sc (nI (ordK S)), ia cy (w 1) 20 sg1_24, ia cy (w 2) 21 lb1_24] ++ (aS cy b2 P1_24 F1_24 N1_24 B1_24 O1_24 Sd1_24 Dv1_24 L1_24 rc1_24 re1_24 fr1_24 lo1_24 sm1_24 ++ (pS cy x X1_24 ++ ([sO cy hh a kk dd b w ee qq ik, ia cy (hh 1) 7 (upd C 3 (C 3 + 1))]))))) H2 := hP2
        replace hD2 : va_D (va_A _ sz) (pS cy a S ++ ([tO cy w b2 x wc lw gw ss sl sc (nI (ordK S)), ia cy (w 1) 20 sg1_24, ia cy (w 2) 21 lb1_24] ++ (aS cy b2 P1_24 F1_24 N1_24 B1_24 O1_24 Sd1_24 Dv1_24 L1_24 rc1_24 re1_24 fr1_24 lo1_24 sm1_24 ++ (pS cy x X1_24 ++ ([sO cy hh a kk dd b w ee qq ik, ia cy (hh 1) 7 (upd C 3 (C 3 + 1))]))))) := hD2
        replace hP2 := hP2.sub (ws' := [sO cy hh a kk dd b w ee qq ik] ++ (pS cy a S ++ ([ia cy (hh 1) 7 (upd C 3 (C 3 + 1)), tO cy w b2 x wc lw gw ss sl sc (nI (ordK S)), ia cy (w 1) 20 sg1_24, ia cy (w 2) 21 lb1_24] ++ (aS cy b2 P1_24 F1_24 N1_24 B1_24 O1_24 Sd1_24 Dv1_24 L1_24 rc1_24 re1_24 fr1_24 lo1_24 sm1_24 ++ (pS cy x X1_24))))) [38, 0, 1, 2, 3, 4, 5, 6, 7, 8, 9, 39, 10, 11, 12, 13, 14, 15, 16, 17, 18, 19, 20, 21, 22, 23, 24, 25, 26, 27, 28, 29, 30, 31, 32, 33, 34, 35, 36, 37] rfl
        replace hD2 := hD2.sub (ws' := [sO cy hh a kk dd b w ee qq ik] ++ (pS cy a S ++ ([ia cy (hh 1) 7 (upd C 3 (C 3 + 1)), tO cy w b2 x wc lw gw ss sl sc (nI (ordK S)), ia cy (w 1) 20 sg1_24, ia cy (w 2) 21 lb1_24] ++ (aS cy b2 P1_24 F1_24 N1_24 B1_24 O1_24 Sd1_24 Dv1_24 L1_24 rc1_24 re1_24 fr1_24 lo1_24 sm1_24 ++ (pS cy x X1_24))))) [38, 0, 1, 2, 3, 4, 5, 6, 7, 8, 9, 39, 10, 11, 12, 13, 14, 15, 16, 17, 18, 19, 20, 21, 22, 23, 24, 25, 26, 27, 28, 29, 30, 31, 32, 33, 34, 35, 36, 37] (by decide) rfl
        subst hr_52
        have hcd : cOrder S (nI k) = 3 := by unfold cOrder; rw [hbk]; clear hx hb hml hown hr hlocks hw hsz hA hG hK hP2 hD2 hS2 hl0; grind
        have hq9 : ([sO cy hh a kk dd b w ee qq ik] ++ (pS cy a S ++ ([ia cy (hh 1) 7 (upd C 3 (C 3 + 1)), tO cy w b2 x wc lw gw ss sl sc (nI (ordK S)), ia cy (w 1) 20 sg1_24, ia cy (w 2) 21 lb1_24] ++ (aS cy b2 P1_24 F1_24 N1_24 B1_24 O1_24 Sd1_24 Dv1_24 L1_24 rc1_24 re1_24 fr1_24 lo1_24 sm1_24 ++ (pS cy x X1_24))))) = ([sO cy hh a kk dd b w ee qq ik] ++ (pS cy a S ++ ([ia cy (hh 1) 7 (fnd C (cOrder S (nI k))), tO cy w b2 x wc lw gw ss sl sc (nI (ordK S)), ia cy (w 1) 20 sg1_24, ia cy (w 2) 21 lb1_24] ++ (aS cy b2 P1_24 F1_24 N1_24 B1_24 O1_24 Sd1_24 Dv1_24 L1_24 rc1_24 re1_24 fr1_24 lo1_24 sm1_24 ++ (pS cy x X1_24))))) := congrArg (fun z9 => [sO cy hh a kk dd b w ee qq ik] ++ (pS cy a S ++ ([ia cy (hh 1) 7 z9, tO cy w b2 x wc lw gw ss sl sc (nI (ordK S)), ia cy (w 1) 20 sg1_24, ia cy (w 2) 21 lb1_24] ++ (aS cy b2 P1_24 F1_24 N1_24 B1_24 O1_24 Sd1_24 Dv1_24 L1_24 rc1_24 re1_24 fr1_24 lo1_24 sm1_24 ++ (pS cy x X1_24))))) (show (upd C 3 (C 3 + 1)) = (fnd C (cOrder S (nI k))) from fnd_f hcd (by decide))
        replace hP2 := (congrArg (fun z9 => va_P D vwCl z9 _) hq9).mp hP2
        replace hD2 := (congrArg (fun z9 => va_D _ z9) hq9).mp hD2
        clear hq9
        refine re_i (P1_24, F1_24, N1_24, B1_24, O1_24, Sd1_24, Dv1_24, L1_24, rc1_24, re1_24, fr1_24, lo1_24, sm1_24, X1_24, nI (ordK S), sg1_24, lb1_24) hx hb hr hlocks hP2 hD2 hS2 dX6_order_55 ?_
        exact (⟨ans_f hcd (by decide) rfl, hX1_24⟩)
      · refine lv_aload_n hx hb dX6_order_38 rfl (lv_at hl0 0 rfl) ?_
        refine va_get (D := D) (ci := 6) (v := .ref (w 0)) (C := RX6) (T := TX6) (N := 9) hx hb hw iX6 hown hK hP1 0 rfl rfl 5 (by decide) (hw _ kw_2_32) (fun _ h9 => h9) rfl dX6_order_39 ?_
        refine va_get (D := D) (ci := 5) (v := .ref (w 1)) (C := RX5) (T := TX5) (N := 11) hx hb hw iX5 hown hK hP1 12 rfl rfl 8 (by decide) (hw _ kw_1_180) (fun _ h9 => h9) rfl dX6_order_42 ?_
        refine lv_iload_n hx hb dX6_order_45 rfl (lv_at hl0 1 rfl) ?_
        refine ald_i (f := sg1_24) hx hb hK hP1 13 0 rfl rfl k rfl (by first | omega | assumption) (by decide) dX6_order_46 ?_
        refine tp (show (sg1_24 k) = stp S k from hsg_24 k (by omega)) ?_
        refine lv_goto (tgt := 55) hx hb dX6_order_47 (by decide) ?_
        have hcd : cOrder S (nI k) = 7 := by unfold cOrder; rw [hbk]; clear hx hb hml hown hr hlocks hw hsz hA hG hK hP1 hD1 hS1 hl0; grind
        have hq9 : ([sO cy hh a kk dd b w ee qq ik] ++ (pS cy a S ++ ([ia cy (hh 1) 7 C, tO cy w b2 x wc lw gw ss sl sc (nI (ordK S)), ia cy (w 1) 20 sg1_24, ia cy (w 2) 21 lb1_24] ++ (aS cy b2 P1_24 F1_24 N1_24 B1_24 O1_24 Sd1_24 Dv1_24 L1_24 rc1_24 re1_24 fr1_24 lo1_24 sm1_24 ++ (pS cy x X1_24))))) = ([sO cy hh a kk dd b w ee qq ik] ++ (pS cy a S ++ ([ia cy (hh 1) 7 (fnd C (cOrder S (nI k))), tO cy w b2 x wc lw gw ss sl sc (nI (ordK S)), ia cy (w 1) 20 sg1_24, ia cy (w 2) 21 lb1_24] ++ (aS cy b2 P1_24 F1_24 N1_24 B1_24 O1_24 Sd1_24 Dv1_24 L1_24 rc1_24 re1_24 fr1_24 lo1_24 sm1_24 ++ (pS cy x X1_24))))) := congrArg (fun z9 => [sO cy hh a kk dd b w ee qq ik] ++ (pS cy a S ++ ([ia cy (hh 1) 7 z9, tO cy w b2 x wc lw gw ss sl sc (nI (ordK S)), ia cy (w 1) 20 sg1_24, ia cy (w 2) 21 lb1_24] ++ (aS cy b2 P1_24 F1_24 N1_24 B1_24 O1_24 Sd1_24 Dv1_24 L1_24 rc1_24 re1_24 fr1_24 lo1_24 sm1_24 ++ (pS cy x X1_24))))) (show C = (fnd C (cOrder S (nI k))) from fnd_o hcd)
        replace hP1 := (congrArg (fun z9 => va_P D vwCl z9 _) hq9).mp hP1
        replace hD1 := (congrArg (fun z9 => va_D _ z9) hq9).mp hD1
        clear hq9
        refine re_i (P1_24, F1_24, N1_24, B1_24, O1_24, Sd1_24, Dv1_24, L1_24, rc1_24, re1_24, fr1_24, lo1_24, sm1_24, X1_24, nI (ordK S), sg1_24, lb1_24) hx hb hr hlocks hP1 hD1 hS1 dX6_order_55 ?_
        exact (⟨ans_o hcd (by rw [hbk]), hX1_24⟩)
    · refine lv_aload_n hx hb dX6_order_10 rfl (lv_at hl0 0 rfl) ?_
      refine lv_iconst (v := 0) hx hb dX6_order_11 (by decide) ?_
      refine cV_i (wc := [sO cy hh a kk dd b w ee qq ik, ia cy (hh 1) 7 C]) (wr := pS cy a S ++ ([tO cy w b2 x wc lw gw ss sl sc sp, ia cy (w 1) 20 sg, ia cy (w 2) 21 lb] ++ (aS cy b2 P2 F2 N2 B2 O2 Sd2 Dv2 L2 rc2 re2 fr2 lo2 sm2 ++ (pS cy x X)))) (rest := []) hx hb hml hown hw hG hK hP0 hD0 hS0 hA hl0 kc_X6_find kw_2_59 [.int 0] (c_X6_find l D cy G H0.size hh a kk dd b w ee qq ik C 0 (by first | omega | assumption)) [0, 11] [1, 2, 3, 4, 5, 6, 7, 8, 9, 10, 12, 13, 14, 15, 16, 17, 18, 19, 20, 21, 22, 23, 24, 25, 26, 27, 28, 29, 30, 31, 32, 33, 34, 35, 36, 37, 38, 39] rfl rfl rfl rfl rfl 0 rfl rfl rfl rfl rfl (Nat.le_of_ble_eq_true rfl) ⟨Nat.le_of_ble_eq_true rfl, Nat.le_of_ble_eq_true rfl⟩ dX6_order_12 ⟨Nat.le_of_ble_eq_true rfl, Nat.le_of_ble_eq_true rfl⟩ (fun r_12 u9 H1 locs1 hu9 hP1 hD1 hS1 => ?_)
      clear hP0 hD0 hS0 locs0 H0
      have hr_12 := hu9
      replace hP1 : va_P D vwCl (pS cy a S ++ ([tO cy w b2 x wc lw gw ss sl sc sp, ia cy (w 1) 20 sg, ia cy (w 2) 21 lb] ++ (aS cy b2 P2 F2 N2 B2 O2 Sd2 Dv2 L2 rc2 re2 fr2 lo2 sm2 ++ (pS cy x X ++ ([sO cy hh a kk dd b w ee qq ik, ia cy (hh 1) 7 (upd C 0 (C 0 + 1))]))))) H1 := hP1
      replace hD1 : va_D (va_A _ sz) (pS cy a S ++ ([tO cy w b2 x wc lw gw ss sl sc sp, ia cy (w 1) 20 sg, ia cy (w 2) 21 lb] ++ (aS cy b2 P2 F2 N2 B2 O2 Sd2 Dv2 L2 rc2 re2 fr2 lo2 sm2 ++ (pS cy x X ++ ([sO cy hh a kk dd b w ee qq ik, ia cy (hh 1) 7 (upd C 0 (C 0 + 1))]))))) := hD1
      replace hP1 := hP1.sub (ws' := [sO cy hh a kk dd b w ee qq ik] ++ (pS cy a S ++ ([ia cy (hh 1) 7 (upd C 0 (C 0 + 1)), tO cy w b2 x wc lw gw ss sl sc sp, ia cy (w 1) 20 sg, ia cy (w 2) 21 lb] ++ (aS cy b2 P2 F2 N2 B2 O2 Sd2 Dv2 L2 rc2 re2 fr2 lo2 sm2 ++ (pS cy x X))))) [38, 0, 1, 2, 3, 4, 5, 6, 7, 8, 9, 39, 10, 11, 12, 13, 14, 15, 16, 17, 18, 19, 20, 21, 22, 23, 24, 25, 26, 27, 28, 29, 30, 31, 32, 33, 34, 35, 36, 37] rfl
      replace hD1 := hD1.sub (ws' := [sO cy hh a kk dd b w ee qq ik] ++ (pS cy a S ++ ([ia cy (hh 1) 7 (upd C 0 (C 0 + 1)), tO cy w b2 x wc lw gw ss sl sc sp, ia cy (w 1) 20 sg, ia cy (w 2) 21 lb] ++ (aS cy b2 P2 F2 N2 B2 O2 Sd2 Dv2 L2 rc2 re2 fr2 lo2 sm2 ++ (pS cy x X))))) [38, 0, 1, 2, 3, 4, 5, 6, 7, 8, 9, 39, 10, 11, 12, 13, 14, 15, 16, 17, 18, 19, 20, 21, 22, 23, 24, 25, 26, 27, 28, 29, 30, 31, 32, 33, 34, 35, 36, 37] (by decide) rfl
      subst hr_12
      have hcd : cOrder S x1 = 0 := by unfold cOrder; clear hx hb hml hown hr hlocks hw hsz hA hG hK hP1 hD1 hS1 hl0; grind
      have hq9 : ([sO cy hh a kk dd b w ee qq ik] ++ (pS cy a S ++ ([ia cy (hh 1) 7 (upd C 0 (C 0 + 1)), tO cy w b2 x wc lw gw ss sl sc sp, ia cy (w 1) 20 sg, ia cy (w 2) 21 lb] ++ (aS cy b2 P2 F2 N2 B2 O2 Sd2 Dv2 L2 rc2 re2 fr2 lo2 sm2 ++ (pS cy x X))))) = ([sO cy hh a kk dd b w ee qq ik] ++ (pS cy a S ++ ([ia cy (hh 1) 7 (fnd C (cOrder S x1)), tO cy w b2 x wc lw gw ss sl sc sp, ia cy (w 1) 20 sg, ia cy (w 2) 21 lb] ++ (aS cy b2 P2 F2 N2 B2 O2 Sd2 Dv2 L2 rc2 re2 fr2 lo2 sm2 ++ (pS cy x X))))) := congrArg (fun z9 => [sO cy hh a kk dd b w ee qq ik] ++ (pS cy a S ++ ([ia cy (hh 1) 7 z9, tO cy w b2 x wc lw gw ss sl sc sp, ia cy (w 1) 20 sg, ia cy (w 2) 21 lb] ++ (aS cy b2 P2 F2 N2 B2 O2 Sd2 Dv2 L2 rc2 re2 fr2 lo2 sm2 ++ (pS cy x X))))) (show (upd C 0 (C 0 + 1)) = (fnd C (cOrder S x1)) from fnd_f hcd (by decide))
      replace hP1 := (congrArg (fun z9 => va_P D vwCl z9 _) hq9).mp hP1
      replace hD1 := (congrArg (fun z9 => va_D _ z9) hq9).mp hD1
      clear hq9
      refine re_i (P2, F2, N2, B2, O2, Sd2, Dv2, L2, rc2, re2, fr2, lo2, sm2, X, sp, sg, lb) hx hb hr hlocks hP1 hD1 hS1 dX6_order_15 ?_
      exact (⟨ans_f hcd (by decide) rfl, hX⟩)

theorem kc_X6_saved : kV yX6_saved cX6_saved 2 (some .int) 1 := ⟨kw_3_204, kw_3_205, kw_1_1, kw_3_206, by decide, by decide, by decide +kernel⟩
set_option maxHeartbeats 4000000 in
set_option maxRecDepth 100000 in
theorem c_X6_saved (l : Launch) (D : va_G) (cy : Nat → ClassId) (G : Nat → Nat) (sz : Nat) (hh : Nat → Nat) (a : Nat → Nat) (kk : Nat → Nat) (dd : Nat → Nat) (b : Nat → Nat) (w : Nat → Nat) (ee : Nat → Nat) (qq : Nat → Nat) (ik : Int32) (S : Nat → Int32) (C : Nat → Int32) (x : Nat → Nat) (wc : Int32) (lw : Int32) (gw : Int32) (ss : Int32) (sl : Int32) (sc : Int32) (sp : Int32) (b2 : Nat → Nat) (P2 : Nat → Int32) (F2 : Nat → Int32) (N2 : Nat → Int32) (B2 : Nat → Int32) (O2 : Nat → Int32) (Sd2 : Nat → Int32) (Dv2 : Nat → Int32) (L2 : Nat → Nat → Int32) (rc2 : Int32) (re2 : Int32) (fr2 : Int32) (lo2 : Int32) (sm2 : Int32) (X : Nat → Int32) (sg : Nat → Int32) (lb : Nat → Int32) (x1 : Int32) (hX : can X) (wf : wf S) : Met l yX6_saved (wm yX6_saved cX6_saved 2 (some .int)) { frames := 7, cells := 0, slots := 0, locals := 155 } (va_Pc [.ref (hh 0), .int x1] (pr D (TY cy) G ([sO cy hh a kk dd b w ee qq ik] ++ (pS cy a S ++ ([ia cy (hh 1) 7 C, tO cy w b2 x wc lw gw ss sl sc sp, ia cy (w 1) 20 sg, ia cy (w 2) 21 lb] ++ (aS cy b2 P2 F2 N2 B2 O2 Sd2 Dv2 L2 rc2 re2 fr2 lo2 sm2 ++ (pS cy x X))))) sz)) (va_Qi (fun (r : Int32) (u : (Nat → Int32) × (Nat → Int32) × (Nat → Int32) × (Nat → Int32) × (Nat → Int32) × (Nat → Int32) × (Nat → Int32) × (Nat → Nat → Int32) × Int32 × Int32 × Int32 × Int32 × Int32 × (Nat → Int32) × Int32 × (Nat → Int32) × (Nat → Int32)) => (r = ans (cSaved x1) (vSaved S (bstN x1))) ∧ (can u.2.2.2.2.2.2.2.2.2.2.2.2.2.1)) (fun (u : (Nat → Int32) × (Nat → Int32) × (Nat → Int32) × (Nat → Int32) × (Nat → Int32) × (Nat → Int32) × (Nat → Int32) × (Nat → Nat → Int32) × Int32 × Int32 × Int32 × Int32 × Int32 × (Nat → Int32) × Int32 × (Nat → Int32) × (Nat → Int32)) t => po D (va_A ([sO cy hh a kk dd b w ee qq ik] ++ (pS cy a S ++ ([ia cy (hh 1) 7 C, tO cy w b2 x wc lw gw ss sl sc sp, ia cy (w 1) 20 sg, ia cy (w 2) 21 lb] ++ (aS cy b2 P2 F2 N2 B2 O2 Sd2 Dv2 L2 rc2 re2 fr2 lo2 sm2 ++ (pS cy x X))))) sz) ([sO cy hh a kk dd b w ee qq ik] ++ (pS cy a S ++ ([ia cy (hh 1) 7 (fnd C (cSaved x1)), tO cy w b2 x wc lw gw ss sl sc u.2.2.2.2.2.2.2.2.2.2.2.2.2.2.1, ia cy (w 1) 20 u.2.2.2.2.2.2.2.2.2.2.2.2.2.2.2.1, ia cy (w 2) 21 u.2.2.2.2.2.2.2.2.2.2.2.2.2.2.2.2] ++ (aS cy b2 u.1 u.2.1 u.2.2.1 u.2.2.2.1 u.2.2.2.2.1 u.2.2.2.2.2.1 u.2.2.2.2.2.2.1 u.2.2.2.2.2.2.2.1 u.2.2.2.2.2.2.2.2.1 u.2.2.2.2.2.2.2.2.2.1 u.2.2.2.2.2.2.2.2.2.2.1 u.2.2.2.2.2.2.2.2.2.2.2.1 u.2.2.2.2.2.2.2.2.2.2.2.2.1 ++ (pS cy x u.2.2.2.2.2.2.2.2.2.2.2.2.2.1))))) t) (va_A ([sO cy hh a kk dd b w ee qq ik] ++ (pS cy a S ++ ([ia cy (hh 1) 7 C, tO cy w b2 x wc lw gw ss sl sc sp, ia cy (w 1) 20 sg, ia cy (w 2) 21 lb] ++ (aS cy b2 P2 F2 N2 B2 O2 Sd2 Dv2 L2 rc2 re2 fr2 lo2 sm2 ++ (pS cy x X))))) sz)) 0 0 (va_A ([sO cy hh a kk dd b w ee qq ik] ++ (pS cy a S ++ ([ia cy (hh 1) 7 C, tO cy w b2 x wc lw gw ss sl sc sp, ia cy (w 1) 20 sg, ia cy (w 2) 21 lb] ++ (aS cy b2 P2 F2 N2 B2 O2 Sd2 Dv2 L2 rc2 re2 fr2 lo2 sm2 ++ (pS cy x X))))) sz) := by
  refine mk_rw (by decide) RX6 rfl (Nat.le_of_ble_eq_true rfl) [(0, .ref (hh 0)), (1, .int x1)] rfl ?_
  intro p e s m below meth c hx hb hml hown hr hlocks hin hw hsz hA hG hK H0 locs0 hP0 hD0 hS0 ls0 hl0
  clear hin
  have hg20 := wf_g20 wf
  have hr6 := wf_r6 wf
  refine lv_iload_n hx hb dX6_saved_0 rfl (lv_at hl0 1 rfl) ?_
  refine lv_if_lt (tgt := 10) hx hb dX6_saved_1 (by decide) (fun c_1 => ?_) (fun c_1 => ?_)
  · refine lv_aload_n hx hb dX6_saved_10 rfl (lv_at hl0 0 rfl) ?_
    refine lv_iconst (v := 0) hx hb dX6_saved_11 (by decide) ?_
    refine cV_i (wc := [sO cy hh a kk dd b w ee qq ik, ia cy (hh 1) 7 C]) (wr := pS cy a S ++ ([tO cy w b2 x wc lw gw ss sl sc sp, ia cy (w 1) 20 sg, ia cy (w 2) 21 lb] ++ (aS cy b2 P2 F2 N2 B2 O2 Sd2 Dv2 L2 rc2 re2 fr2 lo2 sm2 ++ (pS cy x X)))) (rest := []) hx hb hml hown hw hG hK hP0 hD0 hS0 hA hl0 kc_X6_find kw_2_59 [.int 0] (c_X6_find l D cy G H0.size hh a kk dd b w ee qq ik C 0 (by first | omega | assumption)) [0, 11] [1, 2, 3, 4, 5, 6, 7, 8, 9, 10, 12, 13, 14, 15, 16, 17, 18, 19, 20, 21, 22, 23, 24, 25, 26, 27, 28, 29, 30, 31, 32, 33, 34, 35, 36, 37, 38, 39] rfl rfl rfl rfl rfl 0 rfl rfl rfl rfl rfl (Nat.le_of_ble_eq_true rfl) ⟨Nat.le_of_ble_eq_true rfl, Nat.le_of_ble_eq_true rfl⟩ dX6_saved_12 ⟨Nat.le_of_ble_eq_true rfl, Nat.le_of_ble_eq_true rfl⟩ (fun r_12 u9 H1 locs1 hu9 hP1 hD1 hS1 => ?_)
    clear hP0 hD0 hS0 locs0 H0
    have hr_12 := hu9
    replace hP1 : va_P D vwCl (pS cy a S ++ ([tO cy w b2 x wc lw gw ss sl sc sp, ia cy (w 1) 20 sg, ia cy (w 2) 21 lb] ++ (aS cy b2 P2 F2 N2 B2 O2 Sd2 Dv2 L2 rc2 re2 fr2 lo2 sm2 ++ (pS cy x X ++ ([sO cy hh a kk dd b w ee qq ik, ia cy (hh 1) 7 (upd C 0 (C 0 + 1))]))))) H1 := hP1
    replace hD1 : va_D (va_A _ sz) (pS cy a S ++ ([tO cy w b2 x wc lw gw ss sl sc sp, ia cy (w 1) 20 sg, ia cy (w 2) 21 lb] ++ (aS cy b2 P2 F2 N2 B2 O2 Sd2 Dv2 L2 rc2 re2 fr2 lo2 sm2 ++ (pS cy x X ++ ([sO cy hh a kk dd b w ee qq ik, ia cy (hh 1) 7 (upd C 0 (C 0 + 1))]))))) := hD1
    replace hP1 := hP1.sub (ws' := [sO cy hh a kk dd b w ee qq ik] ++ (pS cy a S ++ ([ia cy (hh 1) 7 (upd C 0 (C 0 + 1)), tO cy w b2 x wc lw gw ss sl sc sp, ia cy (w 1) 20 sg, ia cy (w 2) 21 lb] ++ (aS cy b2 P2 F2 N2 B2 O2 Sd2 Dv2 L2 rc2 re2 fr2 lo2 sm2 ++ (pS cy x X))))) [38, 0, 1, 2, 3, 4, 5, 6, 7, 8, 9, 39, 10, 11, 12, 13, 14, 15, 16, 17, 18, 19, 20, 21, 22, 23, 24, 25, 26, 27, 28, 29, 30, 31, 32, 33, 34, 35, 36, 37] rfl
    replace hD1 := hD1.sub (ws' := [sO cy hh a kk dd b w ee qq ik] ++ (pS cy a S ++ ([ia cy (hh 1) 7 (upd C 0 (C 0 + 1)), tO cy w b2 x wc lw gw ss sl sc sp, ia cy (w 1) 20 sg, ia cy (w 2) 21 lb] ++ (aS cy b2 P2 F2 N2 B2 O2 Sd2 Dv2 L2 rc2 re2 fr2 lo2 sm2 ++ (pS cy x X))))) [38, 0, 1, 2, 3, 4, 5, 6, 7, 8, 9, 39, 10, 11, 12, 13, 14, 15, 16, 17, 18, 19, 20, 21, 22, 23, 24, 25, 26, 27, 28, 29, 30, 31, 32, 33, 34, 35, 36, 37] (by decide) rfl
    subst hr_12
    have hcd : cSaved x1 = 0 := by unfold cSaved; clear hx hb hml hown hr hlocks hw hsz hA hG hK hP1 hD1 hS1 hl0; grind
    have hq9 : ([sO cy hh a kk dd b w ee qq ik] ++ (pS cy a S ++ ([ia cy (hh 1) 7 (upd C 0 (C 0 + 1)), tO cy w b2 x wc lw gw ss sl sc sp, ia cy (w 1) 20 sg, ia cy (w 2) 21 lb] ++ (aS cy b2 P2 F2 N2 B2 O2 Sd2 Dv2 L2 rc2 re2 fr2 lo2 sm2 ++ (pS cy x X))))) = ([sO cy hh a kk dd b w ee qq ik] ++ (pS cy a S ++ ([ia cy (hh 1) 7 (fnd C (cSaved x1)), tO cy w b2 x wc lw gw ss sl sc sp, ia cy (w 1) 20 sg, ia cy (w 2) 21 lb] ++ (aS cy b2 P2 F2 N2 B2 O2 Sd2 Dv2 L2 rc2 re2 fr2 lo2 sm2 ++ (pS cy x X))))) := congrArg (fun z9 => [sO cy hh a kk dd b w ee qq ik] ++ (pS cy a S ++ ([ia cy (hh 1) 7 z9, tO cy w b2 x wc lw gw ss sl sc sp, ia cy (w 1) 20 sg, ia cy (w 2) 21 lb] ++ (aS cy b2 P2 F2 N2 B2 O2 Sd2 Dv2 L2 rc2 re2 fr2 lo2 sm2 ++ (pS cy x X))))) (show (upd C 0 (C 0 + 1)) = (fnd C (cSaved x1)) from fnd_f hcd (by decide))
    replace hP1 := (congrArg (fun z9 => va_P D vwCl z9 _) hq9).mp hP1
    replace hD1 := (congrArg (fun z9 => va_D _ z9) hq9).mp hD1
    clear hq9
    refine re_i (P2, F2, N2, B2, O2, Sd2, Dv2, L2, rc2, re2, fr2, lo2, sm2, X, sp, sg, lb) hx hb hr hlocks hP1 hD1 hS1 dX6_saved_15 ?_
    exact (⟨ans_f hcd (by decide) rfl, hX⟩)
  · refine lv_iload_n hx hb dX6_saved_4 rfl (lv_at hl0 1 rfl) ?_
    refine lv_bipush (v := 20) hx hb dX6_saved_5 (by decide) ?_
    refine lv_icmp_le (tgt := 16) hx hb dX6_saved_7 (by decide) (fun c_7 => ?_) (fun c_7 => ?_)
    · obtain ⟨k, hk, rfl⟩ := nI_rn (n := 21) (by decide) (x := x1) ⟨Int32.not_lt.mp c_1, Int32.lt_of_le_of_lt c_7 (by decide)⟩
      have hbk : bstN (nI k) = k := bst_n (by omega)
      have hok := ordK_le S
      have hmn := minN_l (ordK S) k
      refine lv_aload_n hx hb dX6_saved_16 rfl (lv_at hl0 0 rfl) ?_
      refine va_get (D := D) (ci := 6) (v := .ref (w 0)) (C := RX6) (T := TX6) (N := 9) hx hb hw iX6 hown hK hP0 0 rfl rfl 5 (by decide) (hw _ kw_2_32) (fun _ h9 => h9) rfl dX6_saved_17 ?_
      refine lv_aload_n hx hb dX6_saved_20 rfl (lv_at hl0 0 rfl) ?_
      refine va_get (D := D) (ci := 6) (v := .ref (a 0)) (C := RX6) (T := TX6) (N := 9) hx hb hw iX6 hown hK hP0 0 rfl rfl 0 (by decide) (hw _ kw_2_27) (fun _ h9 => h9) rfl dX6_saved_21 ?_
      refine cV_v (wc := [tO cy w b2 x wc lw gw ss sl sc sp, ia cy (w 1) 20 sg, ia cy (w 2) 21 lb] ++ (aS cy b2 P2 F2 N2 B2 O2 Sd2 Dv2 L2 rc2 re2 fr2 lo2 sm2 ++ (pS cy x X ++ (pS cy a S)))) (wr := [sO cy hh a kk dd b w ee qq ik, ia cy (hh 1) 7 C]) (rest := []) hx hb hml hown hw hG hK hP0 hD0 hS0 hA hl0 kc_X5_findOrder kw_3_191 [.ref (a 0)] (c_X5_findOrder l D cy G H0.size w b2 x wc lw gw ss sl sc sp sg lb P2 F2 N2 B2 O2 Sd2 Dv2 L2 rc2 re2 fr2 lo2 sm2 X a S (by first | omega | assumption) (by first | omega | assumption)) [12, 13, 14, 15, 16, 17, 18, 19, 20, 21, 22, 23, 24, 25, 26, 27, 28, 29, 30, 31, 32, 33, 34, 35, 36, 37, 38, 39, 1, 2, 3, 4, 5, 6, 7, 8, 9, 10] [0, 11] rfl rfl rfl rfl rfl 0 rfl rfl rfl rfl rfl (Nat.le_of_ble_eq_true rfl) ⟨Nat.le_of_ble_eq_true rfl, Nat.le_of_ble_eq_true rfl⟩ dX6_saved_24 ⟨Nat.le_of_ble_eq_true rfl, Nat.le_of_ble_eq_true rfl⟩ (fun u9 H1 locs1 hu9 hP1 hD1 hS1 => ?_)
      clear hP0 hD0 hS0 locs0 H0
      obtain ⟨P1_24, F1_24, N1_24, B1_24, O1_24, Sd1_24, Dv1_24, L1_24, rc1_24, re1_24, fr1_24, lo1_24, sm1_24, X1_24, sg1_24, lb1_24⟩ := u9
      obtain ⟨hX1_24, hsg_24, hlb_24⟩ := hu9
      replace hX1_24 : can X1_24 := hX1_24
      replace hsg_24 : ∀ j, j < ordK S → sg1_24 j = stp S j := hsg_24
      replace hlb_24 : ∀ j, j ≤ ordK S → lb1_24 j = hadS S j := hlb_24
      replace hP1 : va_P D vwCl ([sO cy hh a kk dd b w ee qq ik, ia cy (hh 1) 7 C, tO cy w b2 x wc lw gw ss sl sc (nI (ordK S)), ia cy (w 1) 20 sg1_24, ia cy (w 2) 21 lb1_24] ++ (aS cy b2 P1_24 F1_24 N1_24 B1_24 O1_24 Sd1_24 Dv1_24 L1_24 rc1_24 re1_24 fr1_24 lo1_24 sm1_24 ++ (pS cy x X1_24 ++ (pS cy a S)))) H1 := hP1
      replace hD1 : va_D (va_A _ sz) ([sO cy hh a kk dd b w ee qq ik, ia cy (hh 1) 7 C, tO cy w b2 x wc lw gw ss sl sc (nI (ordK S)), ia cy (w 1) 20 sg1_24, ia cy (w 2) 21 lb1_24] ++ (aS cy b2 P1_24 F1_24 N1_24 B1_24 O1_24 Sd1_24 Dv1_24 L1_24 rc1_24 re1_24 fr1_24 lo1_24 sm1_24 ++ (pS cy x X1_24 ++ (pS cy a S)))) := hD1
      replace hP1 := hP1.sub (ws' := [sO cy hh a kk dd b w ee qq ik] ++ (pS cy a S ++ ([ia cy (hh 1) 7 C, tO cy w b2 x wc lw gw ss sl sc (nI (ordK S)), ia cy (w 1) 20 sg1_24, ia cy (w 2) 21 lb1_24] ++ (aS cy b2 P1_24 F1_24 N1_24 B1_24 O1_24 Sd1_24 Dv1_24 L1_24 rc1_24 re1_24 fr1_24 lo1_24 sm1_24 ++ (pS cy x X1_24))))) [0, 30, 31, 32, 33, 34, 35, 36, 37, 38, 39, 1, 2, 3, 4, 5, 6, 7, 8, 9, 10, 11, 12, 13, 14, 15, 16, 17, 18, 19, 20, 21, 22, 23, 24, 25, 26, 27, 28, 29] rfl
      replace hD1 := hD1.sub (ws' := [sO cy hh a kk dd b w ee qq ik] ++ (pS cy a S ++ ([ia cy (hh 1) 7 C, tO cy w b2 x wc lw gw ss sl sc (nI (ordK S)), ia cy (w 1) 20 sg1_24, ia cy (w 2) 21 lb1_24] ++ (aS cy b2 P1_24 F1_24 N1_24 B1_24 O1_24 Sd1_24 Dv1_24 L1_24 rc1_24 re1_24 fr1_24 lo1_24 sm1_24 ++ (pS cy x X1_24))))) [0, 30, 31, 32, 33, 34, 35, 36, 37, 38, 39, 1, 2, 3, 4, 5, 6, 7, 8, 9, 10, 11, 12, 13, 14, 15, 16, 17, 18, 19, 20, 21, 22, 23, 24, 25, 26, 27, 28, 29] (by decide) rfl
      refine lv_aload_n hx hb dX6_saved_27 rfl (lv_at hl0 0 rfl) ?_
      refine va_get (D := D) (ci := 6) (v := .ref (w 0)) (C := RX6) (T := TX6) (N := 9) hx hb hw iX6 hown hK hP1 0 rfl rfl 5 (by decide) (hw _ kw_2_32) (fun _ h9 => h9) rfl dX6_saved_28 ?_
      refine va_get (D := D) (ci := 5) (v := .ref (w 2)) (C := RX5) (T := TX5) (N := 11) hx hb hw iX5 hown hK hP1 12 rfl rfl 9 (by decide) (hw _ kw_1_182) (fun _ h9 => h9) rfl dX6_saved_31 ?_
      refine lv_iload_n hx hb dX6_saved_34 rfl (lv_at hl0 1 rfl) ?_
      refine lv_aload_n hx hb dX6_saved_35 rfl (lv_at hl0 0 rfl) ?_
      refine va_get (D := D) (ci := 6) (v := .ref (w 0)) (C := RX6) (T := TX6) (N := 9) hx hb hw iX6 hown hK hP1 0 rfl rfl 5 (by decide) (hw _ kw_2_32) (fun _ h9 => h9) rfl dX6_saved_36 ?_
      refine va_get (D := D) (ci := 5) (v := .int (nI (ordK S))) (C := RX5) (T := TX5) (N := 11) hx hb hw iX5 hown hK hP1 12 rfl rfl 7 (by decide) (hw _ kw_1_178) (fun _ h9 => h9) rfl dX6_saved_39 ?_
      refine va_mmin hx hb (by rw [hml]; exact hl0.1.symm) hown (hw _ kw_3_98) (hw _ kw_2_179) (hw _ kw_1_10) (hw _ kwm_min) (Nat.le_of_ble_eq_true rfl) (Nat.le_of_ble_eq_true rfl) (Nat.le_of_ble_eq_true rfl) (Nat.le_of_ble_eq_true rfl) dX6_saved_42 ?_
      refine tp (show (if (nI (ordK S)) < (nI k) then (nI (ordK S)) else (nI k)) = nI (minN (ordK S) k) from min_nI (by omega) (by omega)) ?_
      refine ald_i (f := lb1_24) hx hb hK hP1 14 0 rfl rfl (minN (ordK S) k) rfl (by first | omega | assumption) (by decide) dX6_saved_45 ?_
      refine tp (show (lb1_24 (minN (ordK S) k)) = hadS S (minN (ordK S) k) from hlb_24 _ hmn.1) ?_
      have hcd : cSaved (nI k) = 7 := by unfold cSaved; clear hx hb hml hown hr hlocks hw hsz hA hG hK hP1 hD1 hS1 hl0; grind
      have hq9 : ([sO cy hh a kk dd b w ee qq ik] ++ (pS cy a S ++ ([ia cy (hh 1) 7 C, tO cy w b2 x wc lw gw ss sl sc (nI (ordK S)), ia cy (w 1) 20 sg1_24, ia cy (w 2) 21 lb1_24] ++ (aS cy b2 P1_24 F1_24 N1_24 B1_24 O1_24 Sd1_24 Dv1_24 L1_24 rc1_24 re1_24 fr1_24 lo1_24 sm1_24 ++ (pS cy x X1_24))))) = ([sO cy hh a kk dd b w ee qq ik] ++ (pS cy a S ++ ([ia cy (hh 1) 7 (fnd C (cSaved (nI k))), tO cy w b2 x wc lw gw ss sl sc (nI (ordK S)), ia cy (w 1) 20 sg1_24, ia cy (w 2) 21 lb1_24] ++ (aS cy b2 P1_24 F1_24 N1_24 B1_24 O1_24 Sd1_24 Dv1_24 L1_24 rc1_24 re1_24 fr1_24 lo1_24 sm1_24 ++ (pS cy x X1_24))))) := congrArg (fun z9 => [sO cy hh a kk dd b w ee qq ik] ++ (pS cy a S ++ ([ia cy (hh 1) 7 z9, tO cy w b2 x wc lw gw ss sl sc (nI (ordK S)), ia cy (w 1) 20 sg1_24, ia cy (w 2) 21 lb1_24] ++ (aS cy b2 P1_24 F1_24 N1_24 B1_24 O1_24 Sd1_24 Dv1_24 L1_24 rc1_24 re1_24 fr1_24 lo1_24 sm1_24 ++ (pS cy x X1_24))))) (show C = (fnd C (cSaved (nI k))) from fnd_o hcd)
      replace hP1 := (congrArg (fun z9 => va_P D vwCl z9 _) hq9).mp hP1
      replace hD1 := (congrArg (fun z9 => va_D _ z9) hq9).mp hD1
      clear hq9
      refine re_i (P1_24, F1_24, N1_24, B1_24, O1_24, Sd1_24, Dv1_24, L1_24, rc1_24, re1_24, fr1_24, lo1_24, sm1_24, X1_24, nI (ordK S), sg1_24, lb1_24) hx hb hr hlocks hP1 hD1 hS1 dX6_saved_46 ?_
      exact (⟨ans_o hcd (by rw [hbk]; rfl), hX1_24⟩)
    · refine lv_aload_n hx hb dX6_saved_10 rfl (lv_at hl0 0 rfl) ?_
      refine lv_iconst (v := 0) hx hb dX6_saved_11 (by decide) ?_
      refine cV_i (wc := [sO cy hh a kk dd b w ee qq ik, ia cy (hh 1) 7 C]) (wr := pS cy a S ++ ([tO cy w b2 x wc lw gw ss sl sc sp, ia cy (w 1) 20 sg, ia cy (w 2) 21 lb] ++ (aS cy b2 P2 F2 N2 B2 O2 Sd2 Dv2 L2 rc2 re2 fr2 lo2 sm2 ++ (pS cy x X)))) (rest := []) hx hb hml hown hw hG hK hP0 hD0 hS0 hA hl0 kc_X6_find kw_2_59 [.int 0] (c_X6_find l D cy G H0.size hh a kk dd b w ee qq ik C 0 (by first | omega | assumption)) [0, 11] [1, 2, 3, 4, 5, 6, 7, 8, 9, 10, 12, 13, 14, 15, 16, 17, 18, 19, 20, 21, 22, 23, 24, 25, 26, 27, 28, 29, 30, 31, 32, 33, 34, 35, 36, 37, 38, 39] rfl rfl rfl rfl rfl 0 rfl rfl rfl rfl rfl (Nat.le_of_ble_eq_true rfl) ⟨Nat.le_of_ble_eq_true rfl, Nat.le_of_ble_eq_true rfl⟩ dX6_saved_12 ⟨Nat.le_of_ble_eq_true rfl, Nat.le_of_ble_eq_true rfl⟩ (fun r_12 u9 H1 locs1 hu9 hP1 hD1 hS1 => ?_)
      clear hP0 hD0 hS0 locs0 H0
      have hr_12 := hu9
      replace hP1 : va_P D vwCl (pS cy a S ++ ([tO cy w b2 x wc lw gw ss sl sc sp, ia cy (w 1) 20 sg, ia cy (w 2) 21 lb] ++ (aS cy b2 P2 F2 N2 B2 O2 Sd2 Dv2 L2 rc2 re2 fr2 lo2 sm2 ++ (pS cy x X ++ ([sO cy hh a kk dd b w ee qq ik, ia cy (hh 1) 7 (upd C 0 (C 0 + 1))]))))) H1 := hP1
      replace hD1 : va_D (va_A _ sz) (pS cy a S ++ ([tO cy w b2 x wc lw gw ss sl sc sp, ia cy (w 1) 20 sg, ia cy (w 2) 21 lb] ++ (aS cy b2 P2 F2 N2 B2 O2 Sd2 Dv2 L2 rc2 re2 fr2 lo2 sm2 ++ (pS cy x X ++ ([sO cy hh a kk dd b w ee qq ik, ia cy (hh 1) 7 (upd C 0 (C 0 + 1))]))))) := hD1
      replace hP1 := hP1.sub (ws' := [sO cy hh a kk dd b w ee qq ik] ++ (pS cy a S ++ ([ia cy (hh 1) 7 (upd C 0 (C 0 + 1)), tO cy w b2 x wc lw gw ss sl sc sp, ia cy (w 1) 20 sg, ia cy (w 2) 21 lb] ++ (aS cy b2 P2 F2 N2 B2 O2 Sd2 Dv2 L2 rc2 re2 fr2 lo2 sm2 ++ (pS cy x X))))) [38, 0, 1, 2, 3, 4, 5, 6, 7, 8, 9, 39, 10, 11, 12, 13, 14, 15, 16, 17, 18, 19, 20, 21, 22, 23, 24, 25, 26, 27, 28, 29, 30, 31, 32, 33, 34, 35, 36, 37] rfl
      replace hD1 := hD1.sub (ws' := [sO cy hh a kk dd b w ee qq ik] ++ (pS cy a S ++ ([ia cy (hh 1) 7 (upd C 0 (C 0 + 1)), tO cy w b2 x wc lw gw ss sl sc sp, ia cy (w 1) 20 sg, ia cy (w 2) 21 lb] ++ (aS cy b2 P2 F2 N2 B2 O2 Sd2 Dv2 L2 rc2 re2 fr2 lo2 sm2 ++ (pS cy x X))))) [38, 0, 1, 2, 3, 4, 5, 6, 7, 8, 9, 39, 10, 11, 12, 13, 14, 15, 16, 17, 18, 19, 20, 21, 22, 23, 24, 25, 26, 27, 28, 29, 30, 31, 32, 33, 34, 35, 36, 37] (by decide) rfl
      subst hr_12
      have hcd : cSaved x1 = 0 := by unfold cSaved; clear hx hb hml hown hr hlocks hw hsz hA hG hK hP1 hD1 hS1 hl0; grind
      have hq9 : ([sO cy hh a kk dd b w ee qq ik] ++ (pS cy a S ++ ([ia cy (hh 1) 7 (upd C 0 (C 0 + 1)), tO cy w b2 x wc lw gw ss sl sc sp, ia cy (w 1) 20 sg, ia cy (w 2) 21 lb] ++ (aS cy b2 P2 F2 N2 B2 O2 Sd2 Dv2 L2 rc2 re2 fr2 lo2 sm2 ++ (pS cy x X))))) = ([sO cy hh a kk dd b w ee qq ik] ++ (pS cy a S ++ ([ia cy (hh 1) 7 (fnd C (cSaved x1)), tO cy w b2 x wc lw gw ss sl sc sp, ia cy (w 1) 20 sg, ia cy (w 2) 21 lb] ++ (aS cy b2 P2 F2 N2 B2 O2 Sd2 Dv2 L2 rc2 re2 fr2 lo2 sm2 ++ (pS cy x X))))) := congrArg (fun z9 => [sO cy hh a kk dd b w ee qq ik] ++ (pS cy a S ++ ([ia cy (hh 1) 7 z9, tO cy w b2 x wc lw gw ss sl sc sp, ia cy (w 1) 20 sg, ia cy (w 2) 21 lb] ++ (aS cy b2 P2 F2 N2 B2 O2 Sd2 Dv2 L2 rc2 re2 fr2 lo2 sm2 ++ (pS cy x X))))) (show (upd C 0 (C 0 + 1)) = (fnd C (cSaved x1)) from fnd_f hcd (by decide))
      replace hP1 := (congrArg (fun z9 => va_P D vwCl z9 _) hq9).mp hP1
      replace hD1 := (congrArg (fun z9 => va_D _ z9) hq9).mp hD1
      clear hq9
      refine re_i (P2, F2, N2, B2, O2, Sd2, Dv2, L2, rc2, re2, fr2, lo2, sm2, X, sp, sg, lb) hx hb hr hlocks hP1 hD1 hS1 dX6_saved_15 ?_
      exact (⟨ans_f hcd (by decide) rfl, hX⟩)

theorem kc_X6_line : kV yX6_line cX6_line 2 (some .int) 0 := ⟨kw_3_208, kw_3_209, kw_1_1, kw_3_210, by decide, by decide, by decide +kernel⟩
set_option maxHeartbeats 4000000 in
set_option maxRecDepth 100000 in
theorem c_X6_line (l : Launch) (D : va_G) (cy : Nat → ClassId) (G : Nat → Nat) (sz : Nat) (hh : Nat → Nat) (a : Nat → Nat) (kk : Nat → Nat) (dd : Nat → Nat) (b : Nat → Nat) (w : Nat → Nat) (ee : Nat → Nat) (qq : Nat → Nat) (ik : Int32) (S : Nat → Int32) (C : Nat → Int32) (x : Nat → Nat) (wc : Int32) (lw : Int32) (gw : Int32) (ss : Int32) (sl : Int32) (sc : Int32) (sp : Int32) (b2 : Nat → Nat) (P2 : Nat → Int32) (F2 : Nat → Int32) (N2 : Nat → Int32) (B2 : Nat → Int32) (O2 : Nat → Int32) (Sd2 : Nat → Int32) (Dv2 : Nat → Int32) (L2 : Nat → Nat → Int32) (rc2 : Int32) (re2 : Int32) (fr2 : Int32) (lo2 : Int32) (sm2 : Int32) (X : Nat → Int32) (hX : can X) (wf : wf S) : Met l yX6_line (wm yX6_line cX6_line 2 (some .int)) { frames := 6, cells := 0, slots := 0, locals := 131 } (va_Pc [.ref (hh 0)] (pr D (TY cy) G ([sO cy hh a kk dd b w ee qq ik] ++ (pS cy a S ++ ([ia cy (hh 1) 7 C, tO cy w b2 x wc lw gw ss sl sc sp] ++ (aS cy b2 P2 F2 N2 B2 O2 Sd2 Dv2 L2 rc2 re2 fr2 lo2 sm2 ++ (pS cy x X))))) sz)) (va_Qi (fun (r : Int32) (u : (Nat → Int32) × (Nat → Int32) × (Nat → Int32) × (Nat → Int32) × (Nat → Int32) × (Nat → Int32) × (Nat → Int32) × (Nat → Nat → Int32) × Int32 × Int32 × Int32 × Int32 × Int32 × (Nat → Int32)) => (r = ans (cLine S) (lineR S)) ∧ (can u.2.2.2.2.2.2.2.2.2.2.2.2.2)) (fun (u : (Nat → Int32) × (Nat → Int32) × (Nat → Int32) × (Nat → Int32) × (Nat → Int32) × (Nat → Int32) × (Nat → Int32) × (Nat → Nat → Int32) × Int32 × Int32 × Int32 × Int32 × Int32 × (Nat → Int32)) t => po D (va_A ([sO cy hh a kk dd b w ee qq ik] ++ (pS cy a S ++ ([ia cy (hh 1) 7 C, tO cy w b2 x wc lw gw ss sl sc sp] ++ (aS cy b2 P2 F2 N2 B2 O2 Sd2 Dv2 L2 rc2 re2 fr2 lo2 sm2 ++ (pS cy x X))))) sz) ([sO cy hh a kk dd b w ee qq ik] ++ (pS cy a S ++ ([ia cy (hh 1) 7 (fnd C (cLine S)), tO cy w b2 x wc lw gw ss sl sc sp] ++ (aS cy b2 u.1 u.2.1 u.2.2.1 u.2.2.2.1 u.2.2.2.2.1 u.2.2.2.2.2.1 u.2.2.2.2.2.2.1 u.2.2.2.2.2.2.2.1 u.2.2.2.2.2.2.2.2.1 u.2.2.2.2.2.2.2.2.2.1 u.2.2.2.2.2.2.2.2.2.2.1 u.2.2.2.2.2.2.2.2.2.2.2.1 u.2.2.2.2.2.2.2.2.2.2.2.2.1 ++ (pS cy x u.2.2.2.2.2.2.2.2.2.2.2.2.2))))) t) (va_A ([sO cy hh a kk dd b w ee qq ik] ++ (pS cy a S ++ ([ia cy (hh 1) 7 C, tO cy w b2 x wc lw gw ss sl sc sp] ++ (aS cy b2 P2 F2 N2 B2 O2 Sd2 Dv2 L2 rc2 re2 fr2 lo2 sm2 ++ (pS cy x X))))) sz)) 0 0 (va_A ([sO cy hh a kk dd b w ee qq ik] ++ (pS cy a S ++ ([ia cy (hh 1) 7 C, tO cy w b2 x wc lw gw ss sl sc sp] ++ (aS cy b2 P2 F2 N2 B2 O2 Sd2 Dv2 L2 rc2 re2 fr2 lo2 sm2 ++ (pS cy x X))))) sz) := by
  refine mk_rw (by decide) RX6 rfl (Nat.le_of_ble_eq_true rfl) [(0, .ref (hh 0))] rfl ?_
  intro p e s m below meth c hx hb hml hown hr hlocks hin hw hsz hA hG hK H0 locs0 hP0 hD0 hS0 ls0 hl0
  clear hin
  have hg20 := wf_g20 wf
  have hr6 := wf_r6 wf
  have hln := lineR_neg S
  refine lv_aload_n hx hb dX6_line_0 rfl (lv_at hl0 0 rfl) ?_
  refine va_get (D := D) (ci := 6) (v := .ref (w 0)) (C := RX6) (T := TX6) (N := 9) hx hb hw iX6 hown hK hP0 0 rfl rfl 5 (by decide) (hw _ kw_2_32) (fun _ h9 => h9) rfl dX6_line_1 ?_
  refine lv_aload_n hx hb dX6_line_4 rfl (lv_at hl0 0 rfl) ?_
  refine va_get (D := D) (ci := 6) (v := .ref (a 0)) (C := RX6) (T := TX6) (N := 9) hx hb hw iX6 hown hK hP0 0 rfl rfl 0 (by decide) (hw _ kw_2_27) (fun _ h9 => h9) rfl dX6_line_5 ?_
  refine cV_i (wc := [tO cy w b2 x wc lw gw ss sl sc sp] ++ (aS cy b2 P2 F2 N2 B2 O2 Sd2 Dv2 L2 rc2 re2 fr2 lo2 sm2 ++ (pS cy x X ++ (pS cy a S)))) (wr := [sO cy hh a kk dd b w ee qq ik, ia cy (hh 1) 7 C]) (rest := []) hx hb hml hown hw hG hK hP0 hD0 hS0 hA hl0 kc_X5_findLine kw_3_211 [.ref (a 0)] (c_X5_findLine l D cy G H0.size w b2 x wc lw gw ss sl sc sp P2 F2 N2 B2 O2 Sd2 Dv2 L2 rc2 re2 fr2 lo2 sm2 X a S (by first | omega | assumption) (by first | omega | assumption)) [12, 13, 14, 15, 16, 17, 18, 19, 20, 21, 22, 23, 24, 25, 26, 27, 28, 29, 30, 31, 32, 33, 34, 35, 36, 37, 1, 2, 3, 4, 5, 6, 7, 8, 9, 10] [0, 11] rfl rfl rfl rfl rfl 0 rfl rfl rfl rfl rfl (Nat.le_of_ble_eq_true rfl) ⟨Nat.le_of_ble_eq_true rfl, Nat.le_of_ble_eq_true rfl⟩ dX6_line_8 ⟨Nat.le_of_ble_eq_true rfl, Nat.le_of_ble_eq_true rfl⟩ (fun r_8 u9 H1 locs1 hu9 hP1 hD1 hS1 => ?_)
  clear hP0 hD0 hS0 locs0 H0
  obtain ⟨P1_8, F1_8, N1_8, B1_8, O1_8, Sd1_8, Dv1_8, L1_8, rc1_8, re1_8, fr1_8, lo1_8, sm1_8, X1_8⟩ := u9
  obtain ⟨hr_8, hX1_8⟩ := hu9
  replace hX1_8 : can X1_8 := hX1_8
  replace hP1 : va_P D vwCl ([sO cy hh a kk dd b w ee qq ik, ia cy (hh 1) 7 C, tO cy w b2 x wc lw gw ss sl sc sp] ++ (aS cy b2 P1_8 F1_8 N1_8 B1_8 O1_8 Sd1_8 Dv1_8 L1_8 rc1_8 re1_8 fr1_8 lo1_8 sm1_8 ++ (pS cy x X1_8 ++ (pS cy a S)))) H1 := hP1
  replace hD1 : va_D (va_A _ sz) ([sO cy hh a kk dd b w ee qq ik, ia cy (hh 1) 7 C, tO cy w b2 x wc lw gw ss sl sc sp] ++ (aS cy b2 P1_8 F1_8 N1_8 B1_8 O1_8 Sd1_8 Dv1_8 L1_8 rc1_8 re1_8 fr1_8 lo1_8 sm1_8 ++ (pS cy x X1_8 ++ (pS cy a S)))) := hD1
  replace hP1 := hP1.sub (ws' := [sO cy hh a kk dd b w ee qq ik] ++ (pS cy a S ++ ([ia cy (hh 1) 7 C, tO cy w b2 x wc lw gw ss sl sc sp] ++ (aS cy b2 P1_8 F1_8 N1_8 B1_8 O1_8 Sd1_8 Dv1_8 L1_8 rc1_8 re1_8 fr1_8 lo1_8 sm1_8 ++ (pS cy x X1_8))))) [0, 28, 29, 30, 31, 32, 33, 34, 35, 36, 37, 1, 2, 3, 4, 5, 6, 7, 8, 9, 10, 11, 12, 13, 14, 15, 16, 17, 18, 19, 20, 21, 22, 23, 24, 25, 26, 27] rfl
  replace hD1 := hD1.sub (ws' := [sO cy hh a kk dd b w ee qq ik] ++ (pS cy a S ++ ([ia cy (hh 1) 7 C, tO cy w b2 x wc lw gw ss sl sc sp] ++ (aS cy b2 P1_8 F1_8 N1_8 B1_8 O1_8 Sd1_8 Dv1_8 L1_8 rc1_8 re1_8 fr1_8 lo1_8 sm1_8 ++ (pS cy x X1_8))))) [0, 28, 29, 30, 31, 32, 33, 34, 35, 36, 37, 1, 2, 3, 4, 5, 6, 7, 8, 9, 10, 11, 12, 13, 14, 15, 16, 17, 18, 19, 20, 21, 22, 23, 24, 25, 26, 27] (by decide) rfl
  subst hr_8
  refine lv_istore_n (lv' := [(1, .int (lineR S)), (0, .ref (hh 0))]) hx hb dX6_line_11 rfl hl0 (by decide) rfl (fun ls1 hl1 => ?_)
  clear hl0 ls0
  refine lv_iload_n hx hb dX6_line_12 rfl (lv_at hl1 0 rfl) ?_
  refine lv_if_ge (tgt := 24) hx hb dX6_line_13 (by decide) (fun c_13 => ?_) (fun c_13 => ?_)
  · refine lv_iload_n hx hb dX6_line_24 rfl (lv_at hl1 0 rfl) ?_
    have hcd : cLine S = 7 := by unfold cLine; clear hx hb hml hown hr hlocks hw hsz hA hG hK hP1 hD1 hS1 hl1; grind
    have hq9 : ([sO cy hh a kk dd b w ee qq ik] ++ (pS cy a S ++ ([ia cy (hh 1) 7 C, tO cy w b2 x wc lw gw ss sl sc sp] ++ (aS cy b2 P1_8 F1_8 N1_8 B1_8 O1_8 Sd1_8 Dv1_8 L1_8 rc1_8 re1_8 fr1_8 lo1_8 sm1_8 ++ (pS cy x X1_8))))) = ([sO cy hh a kk dd b w ee qq ik] ++ (pS cy a S ++ ([ia cy (hh 1) 7 (fnd C (cLine S)), tO cy w b2 x wc lw gw ss sl sc sp] ++ (aS cy b2 P1_8 F1_8 N1_8 B1_8 O1_8 Sd1_8 Dv1_8 L1_8 rc1_8 re1_8 fr1_8 lo1_8 sm1_8 ++ (pS cy x X1_8))))) := congrArg (fun z9 => [sO cy hh a kk dd b w ee qq ik] ++ (pS cy a S ++ ([ia cy (hh 1) 7 z9, tO cy w b2 x wc lw gw ss sl sc sp] ++ (aS cy b2 P1_8 F1_8 N1_8 B1_8 O1_8 Sd1_8 Dv1_8 L1_8 rc1_8 re1_8 fr1_8 lo1_8 sm1_8 ++ (pS cy x X1_8))))) (show C = (fnd C (cLine S)) from fnd_o hcd)
    replace hP1 := (congrArg (fun z9 => va_P D vwCl z9 _) hq9).mp hP1
    replace hD1 := (congrArg (fun z9 => va_D _ z9) hq9).mp hD1
    clear hq9
    refine re_i (P1_8, F1_8, N1_8, B1_8, O1_8, Sd1_8, Dv1_8, L1_8, rc1_8, re1_8, fr1_8, lo1_8, sm1_8, X1_8) hx hb hr hlocks hP1 hD1 hS1 dX6_line_25 ?_
    exact (⟨ans_o hcd (rfl), hX1_8⟩)
  · refine lv_aload_n hx hb dX6_line_16 rfl (lv_at hl1 1 rfl) ?_
    refine lv_iconst (v := 3) hx hb dX6_line_17 (by decide) ?_
    refine cV_i (wc := [sO cy hh a kk dd b w ee qq ik, ia cy (hh 1) 7 C]) (wr := pS cy a S ++ ([tO cy w b2 x wc lw gw ss sl sc sp] ++ (aS cy b2 P1_8 F1_8 N1_8 B1_8 O1_8 Sd1_8 Dv1_8 L1_8 rc1_8 re1_8 fr1_8 lo1_8 sm1_8 ++ (pS cy x X1_8)))) (rest := []) hx hb hml hown hw hG hK hP1 hD1 hS1 hA hl1 kc_X6_find kw_2_59 [.int 3] (c_X6_find l D cy G H1.size hh a kk dd b w ee qq ik C 3 (by first | omega | assumption)) [0, 11] [1, 2, 3, 4, 5, 6, 7, 8, 9, 10, 12, 13, 14, 15, 16, 17, 18, 19, 20, 21, 22, 23, 24, 25, 26, 27, 28, 29, 30, 31, 32, 33, 34, 35, 36, 37] rfl rfl rfl rfl rfl 0 rfl rfl rfl rfl rfl (Nat.le_of_ble_eq_true rfl) ⟨Nat.le_of_ble_eq_true rfl, Nat.le_of_ble_eq_true rfl⟩ dX6_line_18 ⟨Nat.le_of_ble_eq_true rfl, Nat.le_of_ble_eq_true rfl⟩ (fun r_18 u9 H2 locs2 hu9 hP2 hD2 hS2 => ?_)
    clear hP1 hD1 hS1 locs1 H1
    have hr_18 := hu9
    replace hP2 : va_P D vwCl (pS cy a S ++ ([tO cy w b2 x wc lw gw ss sl sc sp] ++ (aS cy b2 P1_8 F1_8 N1_8 B1_8 O1_8 Sd1_8 Dv1_8 L1_8 rc1_8 re1_8 fr1_8 lo1_8 sm1_8 ++ (pS cy x X1_8 ++ ([sO cy hh a kk dd b w ee qq ik, ia cy (hh 1) 7 (upd C 3 (C 3 + 1))]))))) H2 := hP2
    replace hD2 : va_D (va_A _ sz) (pS cy a S ++ ([tO cy w b2 x wc lw gw ss sl sc sp] ++ (aS cy b2 P1_8 F1_8 N1_8 B1_8 O1_8 Sd1_8 Dv1_8 L1_8 rc1_8 re1_8 fr1_8 lo1_8 sm1_8 ++ (pS cy x X1_8 ++ ([sO cy hh a kk dd b w ee qq ik, ia cy (hh 1) 7 (upd C 3 (C 3 + 1))]))))) := hD2
    replace hP2 := hP2.sub (ws' := [sO cy hh a kk dd b w ee qq ik] ++ (pS cy a S ++ ([ia cy (hh 1) 7 (upd C 3 (C 3 + 1)), tO cy w b2 x wc lw gw ss sl sc sp] ++ (aS cy b2 P1_8 F1_8 N1_8 B1_8 O1_8 Sd1_8 Dv1_8 L1_8 rc1_8 re1_8 fr1_8 lo1_8 sm1_8 ++ (pS cy x X1_8))))) [36, 0, 1, 2, 3, 4, 5, 6, 7, 8, 9, 37, 10, 11, 12, 13, 14, 15, 16, 17, 18, 19, 20, 21, 22, 23, 24, 25, 26, 27, 28, 29, 30, 31, 32, 33, 34, 35] rfl
    replace hD2 := hD2.sub (ws' := [sO cy hh a kk dd b w ee qq ik] ++ (pS cy a S ++ ([ia cy (hh 1) 7 (upd C 3 (C 3 + 1)), tO cy w b2 x wc lw gw ss sl sc sp] ++ (aS cy b2 P1_8 F1_8 N1_8 B1_8 O1_8 Sd1_8 Dv1_8 L1_8 rc1_8 re1_8 fr1_8 lo1_8 sm1_8 ++ (pS cy x X1_8))))) [36, 0, 1, 2, 3, 4, 5, 6, 7, 8, 9, 37, 10, 11, 12, 13, 14, 15, 16, 17, 18, 19, 20, 21, 22, 23, 24, 25, 26, 27, 28, 29, 30, 31, 32, 33, 34, 35] (by decide) rfl
    subst hr_18
    refine lv_goto (tgt := 25) hx hb dX6_line_21 (by decide) ?_
    have hcd : cLine S = 3 := by unfold cLine; clear hx hb hml hown hr hlocks hw hsz hA hG hK hP2 hD2 hS2 hl1; grind
    have hq9 : ([sO cy hh a kk dd b w ee qq ik] ++ (pS cy a S ++ ([ia cy (hh 1) 7 (upd C 3 (C 3 + 1)), tO cy w b2 x wc lw gw ss sl sc sp] ++ (aS cy b2 P1_8 F1_8 N1_8 B1_8 O1_8 Sd1_8 Dv1_8 L1_8 rc1_8 re1_8 fr1_8 lo1_8 sm1_8 ++ (pS cy x X1_8))))) = ([sO cy hh a kk dd b w ee qq ik] ++ (pS cy a S ++ ([ia cy (hh 1) 7 (fnd C (cLine S)), tO cy w b2 x wc lw gw ss sl sc sp] ++ (aS cy b2 P1_8 F1_8 N1_8 B1_8 O1_8 Sd1_8 Dv1_8 L1_8 rc1_8 re1_8 fr1_8 lo1_8 sm1_8 ++ (pS cy x X1_8))))) := congrArg (fun z9 => [sO cy hh a kk dd b w ee qq ik] ++ (pS cy a S ++ ([ia cy (hh 1) 7 z9, tO cy w b2 x wc lw gw ss sl sc sp] ++ (aS cy b2 P1_8 F1_8 N1_8 B1_8 O1_8 Sd1_8 Dv1_8 L1_8 rc1_8 re1_8 fr1_8 lo1_8 sm1_8 ++ (pS cy x X1_8))))) (show (upd C 3 (C 3 + 1)) = (fnd C (cLine S)) from fnd_f hcd (by decide))
    replace hP2 := (congrArg (fun z9 => va_P D vwCl z9 _) hq9).mp hP2
    replace hD2 := (congrArg (fun z9 => va_D _ z9) hq9).mp hD2
    clear hq9
    refine re_i (P1_8, F1_8, N1_8, B1_8, O1_8, Sd1_8, Dv1_8, L1_8, rc1_8, re1_8, fr1_8, lo1_8, sm1_8, X1_8) hx hb hr hlocks hP2 hD2 hS2 dX6_line_25 ?_
    exact (⟨ans_f hcd (by decide) rfl, hX1_8⟩)

theorem kc_X6_alone : kV yX6_alone cX6_alone 3 (some .int) 2 := ⟨kw_3_217, kw_3_218, kw_1_1, kw_3_219, by decide, by decide, by decide +kernel⟩
set_option maxHeartbeats 4000000 in
set_option maxRecDepth 100000 in
theorem c_X6_alone (l : Launch) (D : va_G) (cy : Nat → ClassId) (G : Nat → Nat) (sz : Nat) (hh : Nat → Nat) (a : Nat → Nat) (kk : Nat → Nat) (dd : Nat → Nat) (b : Nat → Nat) (w : Nat → Nat) (ee : Nat → Nat) (qq : Nat → Nat) (ik : Int32) (S : Nat → Int32) (C : Nat → Int32) (x : Nat → Nat) (wc : Int32) (lw : Int32) (gw : Int32) (ss : Int32) (sl : Int32) (sc : Int32) (sp : Int32) (b2 : Nat → Nat) (P2 : Nat → Int32) (F2 : Nat → Int32) (N2 : Nat → Int32) (B2 : Nat → Int32) (O2 : Nat → Int32) (Sd2 : Nat → Int32) (Dv2 : Nat → Int32) (L2 : Nat → Nat → Int32) (rc2 : Int32) (re2 : Int32) (fr2 : Int32) (lo2 : Int32) (sm2 : Int32) (X : Nat → Int32) (P : Nat → Int32) (F : Nat → Int32) (N : Nat → Int32) (B : Nat → Int32) (O : Nat → Int32) (Sd : Nat → Int32) (Dv : Nat → Int32) (L : Nat → Nat → Int32) (rc : Int32) (re : Int32) (fr : Int32) (lo : Int32) (sm : Int32) (x1 : Int32) (x2 : Int32) (hX : can X) (wf : wf S) : Met l yX6_alone (wm yX6_alone cX6_alone 3 (some .int)) { frames := 6, cells := 0, slots := 0, locals := 131 } (va_Pc [.ref (hh 0), .int x1, .int x2] (pr D (TY cy) G ([sO cy hh a kk dd b w ee qq ik] ++ (pS cy a S ++ ([ia cy (hh 1) 7 C] ++ (aS cy b P F N B O Sd Dv L rc re fr lo sm ++ ([tO cy w b2 x wc lw gw ss sl sc sp] ++ (aS cy b2 P2 F2 N2 B2 O2 Sd2 Dv2 L2 rc2 re2 fr2 lo2 sm2 ++ (pS cy x X))))))) sz)) (va_Qi (fun (r : Int32) (u : (Nat → Int32) × (Nat → Int32) × (Nat → Int32) × (Nat → Int32) × (Nat → Int32) × (Nat → Int32) × (Nat → Int32) × (Nat → Nat → Int32) × Int32 × Int32 × Int32 × Int32 × Int32 × (Nat → Int32) × (Nat → Int32) × (Nat → Int32) × (Nat → Int32) × (Nat → Int32) × (Nat → Int32) × (Nat → Int32) × (Nat → Nat → Int32) × Int32 × Int32 × Int32 × Int32 × Int32 × (Nat → Int32)) => (r = ans (cAlone S x1 x2) (vAlone S (bstN x1) (bstN x2))) ∧ (can u.2.2.2.2.2.2.2.2.2.2.2.2.2.2.2.2.2.2.2.2.2.2.2.2.2.2)) (fun (u : (Nat → Int32) × (Nat → Int32) × (Nat → Int32) × (Nat → Int32) × (Nat → Int32) × (Nat → Int32) × (Nat → Int32) × (Nat → Nat → Int32) × Int32 × Int32 × Int32 × Int32 × Int32 × (Nat → Int32) × (Nat → Int32) × (Nat → Int32) × (Nat → Int32) × (Nat → Int32) × (Nat → Int32) × (Nat → Int32) × (Nat → Nat → Int32) × Int32 × Int32 × Int32 × Int32 × Int32 × (Nat → Int32)) t => po D (va_A ([sO cy hh a kk dd b w ee qq ik] ++ (pS cy a S ++ ([ia cy (hh 1) 7 C] ++ (aS cy b P F N B O Sd Dv L rc re fr lo sm ++ ([tO cy w b2 x wc lw gw ss sl sc sp] ++ (aS cy b2 P2 F2 N2 B2 O2 Sd2 Dv2 L2 rc2 re2 fr2 lo2 sm2 ++ (pS cy x X))))))) sz) ([sO cy hh a kk dd b w ee qq ik] ++ (pS cy a S ++ ([ia cy (hh 1) 7 (fnd C (cAlone S x1 x2))] ++ (aS cy b u.1 u.2.1 u.2.2.1 u.2.2.2.1 u.2.2.2.2.1 u.2.2.2.2.2.1 u.2.2.2.2.2.2.1 u.2.2.2.2.2.2.2.1 u.2.2.2.2.2.2.2.2.1 u.2.2.2.2.2.2.2.2.2.1 u.2.2.2.2.2.2.2.2.2.2.1 u.2.2.2.2.2.2.2.2.2.2.2.1 u.2.2.2.2.2.2.2.2.2.2.2.2.1 ++ ([tO cy w b2 x wc lw gw ss sl sc sp] ++ (aS cy b2 u.2.2.2.2.2.2.2.2.2.2.2.2.2.1 u.2.2.2.2.2.2.2.2.2.2.2.2.2.2.1 u.2.2.2.2.2.2.2.2.2.2.2.2.2.2.2.1 u.2.2.2.2.2.2.2.2.2.2.2.2.2.2.2.2.1 u.2.2.2.2.2.2.2.2.2.2.2.2.2.2.2.2.2.1 u.2.2.2.2.2.2.2.2.2.2.2.2.2.2.2.2.2.2.1 u.2.2.2.2.2.2.2.2.2.2.2.2.2.2.2.2.2.2.2.1 u.2.2.2.2.2.2.2.2.2.2.2.2.2.2.2.2.2.2.2.2.1 u.2.2.2.2.2.2.2.2.2.2.2.2.2.2.2.2.2.2.2.2.2.1 u.2.2.2.2.2.2.2.2.2.2.2.2.2.2.2.2.2.2.2.2.2.2.1 u.2.2.2.2.2.2.2.2.2.2.2.2.2.2.2.2.2.2.2.2.2.2.2.1 u.2.2.2.2.2.2.2.2.2.2.2.2.2.2.2.2.2.2.2.2.2.2.2.2.1 u.2.2.2.2.2.2.2.2.2.2.2.2.2.2.2.2.2.2.2.2.2.2.2.2.2.1 ++ (pS cy x u.2.2.2.2.2.2.2.2.2.2.2.2.2.2.2.2.2.2.2.2.2.2.2.2.2.2))))))) t) (va_A ([sO cy hh a kk dd b w ee qq ik] ++ (pS cy a S ++ ([ia cy (hh 1) 7 C] ++ (aS cy b P F N B O Sd Dv L rc re fr lo sm ++ ([tO cy w b2 x wc lw gw ss sl sc sp] ++ (aS cy b2 P2 F2 N2 B2 O2 Sd2 Dv2 L2 rc2 re2 fr2 lo2 sm2 ++ (pS cy x X))))))) sz)) 0 0 (va_A ([sO cy hh a kk dd b w ee qq ik] ++ (pS cy a S ++ ([ia cy (hh 1) 7 C] ++ (aS cy b P F N B O Sd Dv L rc re fr lo sm ++ ([tO cy w b2 x wc lw gw ss sl sc sp] ++ (aS cy b2 P2 F2 N2 B2 O2 Sd2 Dv2 L2 rc2 re2 fr2 lo2 sm2 ++ (pS cy x X))))))) sz) := by
  refine mk_rw (by decide) RX6 rfl (Nat.le_of_ble_eq_true rfl) [(0, .ref (hh 0)), (1, .int x1), (2, .int x2)] rfl ?_
  intro p e s m below meth c hx hb hml hown hr hlocks hin hw hsz hA hG hK H0 locs0 hP0 hD0 hS0 ls0 hl0
  clear hin
  have hg20 := wf_g20 wf
  have hr6 := wf_r6 wf
  refine lv_aload_n hx hb dX6_alone_0 rfl (lv_at hl0 0 rfl) ?_
  refine va_get (D := D) (ci := 6) (v := .ref (a 0)) (C := RX6) (T := TX6) (N := 9) hx hb hw iX6 hown hK hP0 0 rfl rfl 0 (by decide) (hw _ kw_2_27) (fun _ h9 => h9) rfl dX6_alone_1 ?_
  refine lv_iload_n hx hb dX6_alone_4 rfl (lv_at hl0 1 rfl) ?_
  refine rV_i (wc := pS cy a S) (rest := []) hx hb hml hown hw hG hK hP0 hS0 hA hl0 kc_X1_hasGap kw_2_98 [.int x1] (c_X1_hasGap l D cy G H0.size a S x1) [1, 2, 3, 4, 5, 6, 7, 8, 9, 10] rfl 0 rfl rfl rfl rfl rfl (Nat.le_of_ble_eq_true rfl) ⟨Nat.le_of_ble_eq_true rfl, Nat.le_of_ble_eq_true rfl⟩ dX6_alone_5 ⟨Nat.le_of_ble_eq_true rfl, Nat.le_of_ble_eq_true rfl⟩ (fun r_5 H1 locs1 hr_5 hP1 hS1 => ?_)
  have hD1 := hD0
  clear hP0 hD0 hS0 locs0 H0
  subst hr_5
  refine lb_eq (tgt := 27) hx hb dX6_alone_8 (by decide) (fun c_8 => ?_) (fun c_8 => ?_)
  · refine lv_aload_n hx hb dX6_alone_27 rfl (lv_at hl0 0 rfl) ?_
    refine lv_iconst (v := 0) hx hb dX6_alone_28 (by decide) ?_
    refine cV_i (wc := [sO cy hh a kk dd b w ee qq ik, ia cy (hh 1) 7 C]) (wr := pS cy a S ++ (aS cy b P F N B O Sd Dv L rc re fr lo sm ++ ([tO cy w b2 x wc lw gw ss sl sc sp] ++ (aS cy b2 P2 F2 N2 B2 O2 Sd2 Dv2 L2 rc2 re2 fr2 lo2 sm2 ++ (pS cy x X))))) (rest := []) hx hb hml hown hw hG hK hP1 hD1 hS1 hA hl0 kc_X6_find kw_2_59 [.int 0] (c_X6_find l D cy G H1.size hh a kk dd b w ee qq ik C 0 (by first | omega | assumption)) [0, 11] [1, 2, 3, 4, 5, 6, 7, 8, 9, 10, 12, 13, 14, 15, 16, 17, 18, 19, 20, 21, 22, 23, 24, 25, 26, 27, 28, 29, 30, 31, 32, 33, 34, 35, 36, 37, 38, 39, 40, 41, 42, 43, 44, 45, 46, 47, 48, 49, 50, 51, 52] rfl rfl rfl rfl rfl 0 rfl rfl rfl rfl rfl (Nat.le_of_ble_eq_true rfl) ⟨Nat.le_of_ble_eq_true rfl, Nat.le_of_ble_eq_true rfl⟩ dX6_alone_29 ⟨Nat.le_of_ble_eq_true rfl, Nat.le_of_ble_eq_true rfl⟩ (fun r_29 u9 H2 locs2 hu9 hP2 hD2 hS2 => ?_)
    clear hP1 hD1 hS1 locs1 H1
    have hr_29 := hu9
    replace hP2 : va_P D vwCl (pS cy a S ++ (aS cy b P F N B O Sd Dv L rc re fr lo sm ++ ([tO cy w b2 x wc lw gw ss sl sc sp] ++ (aS cy b2 P2 F2 N2 B2 O2 Sd2 Dv2 L2 rc2 re2 fr2 lo2 sm2 ++ (pS cy x X ++ ([sO cy hh a kk dd b w ee qq ik, ia cy (hh 1) 7 (upd C 0 (C 0 + 1))])))))) H2 := hP2
    replace hD2 : va_D (va_A _ sz) (pS cy a S ++ (aS cy b P F N B O Sd Dv L rc re fr lo sm ++ ([tO cy w b2 x wc lw gw ss sl sc sp] ++ (aS cy b2 P2 F2 N2 B2 O2 Sd2 Dv2 L2 rc2 re2 fr2 lo2 sm2 ++ (pS cy x X ++ ([sO cy hh a kk dd b w ee qq ik, ia cy (hh 1) 7 (upd C 0 (C 0 + 1))])))))) := hD2
    replace hP2 := hP2.sub (ws' := [sO cy hh a kk dd b w ee qq ik] ++ (pS cy a S ++ ([ia cy (hh 1) 7 (upd C 0 (C 0 + 1))] ++ (aS cy b P F N B O Sd Dv L rc re fr lo sm ++ ([tO cy w b2 x wc lw gw ss sl sc sp] ++ (aS cy b2 P2 F2 N2 B2 O2 Sd2 Dv2 L2 rc2 re2 fr2 lo2 sm2 ++ (pS cy x X))))))) [51, 0, 1, 2, 3, 4, 5, 6, 7, 8, 9, 52, 10, 11, 12, 13, 14, 15, 16, 17, 18, 19, 20, 21, 22, 23, 24, 25, 26, 27, 28, 29, 30, 31, 32, 33, 34, 35, 36, 37, 38, 39, 40, 41, 42, 43, 44, 45, 46, 47, 48, 49, 50] rfl
    replace hD2 := hD2.sub (ws' := [sO cy hh a kk dd b w ee qq ik] ++ (pS cy a S ++ ([ia cy (hh 1) 7 (upd C 0 (C 0 + 1))] ++ (aS cy b P F N B O Sd Dv L rc re fr lo sm ++ ([tO cy w b2 x wc lw gw ss sl sc sp] ++ (aS cy b2 P2 F2 N2 B2 O2 Sd2 Dv2 L2 rc2 re2 fr2 lo2 sm2 ++ (pS cy x X))))))) [51, 0, 1, 2, 3, 4, 5, 6, 7, 8, 9, 52, 10, 11, 12, 13, 14, 15, 16, 17, 18, 19, 20, 21, 22, 23, 24, 25, 26, 27, 28, 29, 30, 31, 32, 33, 34, 35, 36, 37, 38, 39, 40, 41, 42, 43, 44, 45, 46, 47, 48, 49, 50] (by decide) rfl
    subst hr_29
    have hcd : cAlone S x1 x2 = 0 := by unfold cAlone; clear hx hb hml hown hr hlocks hw hsz hA hG hK hP2 hD2 hS2 hl0; grind
    have hq9 : ([sO cy hh a kk dd b w ee qq ik] ++ (pS cy a S ++ ([ia cy (hh 1) 7 (upd C 0 (C 0 + 1))] ++ (aS cy b P F N B O Sd Dv L rc re fr lo sm ++ ([tO cy w b2 x wc lw gw ss sl sc sp] ++ (aS cy b2 P2 F2 N2 B2 O2 Sd2 Dv2 L2 rc2 re2 fr2 lo2 sm2 ++ (pS cy x X))))))) = ([sO cy hh a kk dd b w ee qq ik] ++ (pS cy a S ++ ([ia cy (hh 1) 7 (fnd C (cAlone S x1 x2))] ++ (aS cy b P F N B O Sd Dv L rc re fr lo sm ++ ([tO cy w b2 x wc lw gw ss sl sc sp] ++ (aS cy b2 P2 F2 N2 B2 O2 Sd2 Dv2 L2 rc2 re2 fr2 lo2 sm2 ++ (pS cy x X))))))) := congrArg (fun z9 => [sO cy hh a kk dd b w ee qq ik] ++ (pS cy a S ++ ([ia cy (hh 1) 7 z9] ++ (aS cy b P F N B O Sd Dv L rc re fr lo sm ++ ([tO cy w b2 x wc lw gw ss sl sc sp] ++ (aS cy b2 P2 F2 N2 B2 O2 Sd2 Dv2 L2 rc2 re2 fr2 lo2 sm2 ++ (pS cy x X))))))) (show (upd C 0 (C 0 + 1)) = (fnd C (cAlone S x1 x2)) from fnd_f hcd (by decide))
    replace hP2 := (congrArg (fun z9 => va_P D vwCl z9 _) hq9).mp hP2
    replace hD2 := (congrArg (fun z9 => va_D _ z9) hq9).mp hD2
    clear hq9
    refine re_i (P, F, N, B, O, Sd, Dv, L, rc, re, fr, lo, sm, P2, F2, N2, B2, O2, Sd2, Dv2, L2, rc2, re2, fr2, lo2, sm2, X) hx hb hr hlocks hP2 hD2 hS2 dX6_alone_32 ?_
    exact (⟨ans_f hcd (by decide) rfl, hX⟩)
  · refine lv_aload_n hx hb dX6_alone_11 rfl (lv_at hl0 0 rfl) ?_
    refine va_get (D := D) (ci := 6) (v := .ref (a 0)) (C := RX6) (T := TX6) (N := 9) hx hb hw iX6 hown hK hP1 0 rfl rfl 0 (by decide) (hw _ kw_2_27) (fun _ h9 => h9) rfl dX6_alone_12 ?_
    refine lv_iload_n hx hb dX6_alone_15 rfl (lv_at hl0 2 rfl) ?_
    refine rV_i (wc := pS cy a S) (rest := []) hx hb hml hown hw hG hK hP1 hS1 hA hl0 kc_X1_hasGap kw_2_98 [.int x2] (c_X1_hasGap l D cy G H1.size a S x2) [1, 2, 3, 4, 5, 6, 7, 8, 9, 10] rfl 0 rfl rfl rfl rfl rfl (Nat.le_of_ble_eq_true rfl) ⟨Nat.le_of_ble_eq_true rfl, Nat.le_of_ble_eq_true rfl⟩ dX6_alone_16 ⟨Nat.le_of_ble_eq_true rfl, Nat.le_of_ble_eq_true rfl⟩ (fun r_16 H2 locs2 hr_16 hP2 hS2 => ?_)
    have hD2 := hD1
    clear hP1 hD1 hS1 locs1 H1
    subst hr_16
    refine lb_eq (tgt := 27) hx hb dX6_alone_19 (by decide) (fun c_19 => ?_) (fun c_19 => ?_)
    · refine lv_aload_n hx hb dX6_alone_27 rfl (lv_at hl0 0 rfl) ?_
      refine lv_iconst (v := 0) hx hb dX6_alone_28 (by decide) ?_
      refine cV_i (wc := [sO cy hh a kk dd b w ee qq ik, ia cy (hh 1) 7 C]) (wr := pS cy a S ++ (aS cy b P F N B O Sd Dv L rc re fr lo sm ++ ([tO cy w b2 x wc lw gw ss sl sc sp] ++ (aS cy b2 P2 F2 N2 B2 O2 Sd2 Dv2 L2 rc2 re2 fr2 lo2 sm2 ++ (pS cy x X))))) (rest := []) hx hb hml hown hw hG hK hP2 hD2 hS2 hA hl0 kc_X6_find kw_2_59 [.int 0] (c_X6_find l D cy G H2.size hh a kk dd b w ee qq ik C 0 (by first | omega | assumption)) [0, 11] [1, 2, 3, 4, 5, 6, 7, 8, 9, 10, 12, 13, 14, 15, 16, 17, 18, 19, 20, 21, 22, 23, 24, 25, 26, 27, 28, 29, 30, 31, 32, 33, 34, 35, 36, 37, 38, 39, 40, 41, 42, 43, 44, 45, 46, 47, 48, 49, 50, 51, 52] rfl rfl rfl rfl rfl 0 rfl rfl rfl rfl rfl (Nat.le_of_ble_eq_true rfl) ⟨Nat.le_of_ble_eq_true rfl, Nat.le_of_ble_eq_true rfl⟩ dX6_alone_29 ⟨Nat.le_of_ble_eq_true rfl, Nat.le_of_ble_eq_true rfl⟩ (fun r_29 u9 H3 locs3 hu9 hP3 hD3 hS3 => ?_)
      clear hP2 hD2 hS2 locs2 H2
      have hr_29 := hu9
      replace hP3 : va_P D vwCl (pS cy a S ++ (aS cy b P F N B O Sd Dv L rc re fr lo sm ++ ([tO cy w b2 x wc lw gw ss sl sc sp] ++ (aS cy b2 P2 F2 N2 B2 O2 Sd2 Dv2 L2 rc2 re2 fr2 lo2 sm2 ++ (pS cy x X ++ ([sO cy hh a kk dd b w ee qq ik, ia cy (hh 1) 7 (upd C 0 (C 0 + 1))])))))) H3 := hP3
      replace hD3 : va_D (va_A _ sz) (pS cy a S ++ (aS cy b P F N B O Sd Dv L rc re fr lo sm ++ ([tO cy w b2 x wc lw gw ss sl sc sp] ++ (aS cy b2 P2 F2 N2 B2 O2 Sd2 Dv2 L2 rc2 re2 fr2 lo2 sm2 ++ (pS cy x X ++ ([sO cy hh a kk dd b w ee qq ik, ia cy (hh 1) 7 (upd C 0 (C 0 + 1))])))))) := hD3
      replace hP3 := hP3.sub (ws' := [sO cy hh a kk dd b w ee qq ik] ++ (pS cy a S ++ ([ia cy (hh 1) 7 (upd C 0 (C 0 + 1))] ++ (aS cy b P F N B O Sd Dv L rc re fr lo sm ++ ([tO cy w b2 x wc lw gw ss sl sc sp] ++ (aS cy b2 P2 F2 N2 B2 O2 Sd2 Dv2 L2 rc2 re2 fr2 lo2 sm2 ++ (pS cy x X))))))) [51, 0, 1, 2, 3, 4, 5, 6, 7, 8, 9, 52, 10, 11, 12, 13, 14, 15, 16, 17, 18, 19, 20, 21, 22, 23, 24, 25, 26, 27, 28, 29, 30, 31, 32, 33, 34, 35, 36, 37, 38, 39, 40, 41, 42, 43, 44, 45, 46, 47, 48, 49, 50] rfl
      replace hD3 := hD3.sub (ws' := [sO cy hh a kk dd b w ee qq ik] ++ (pS cy a S ++ ([ia cy (hh 1) 7 (upd C 0 (C 0 + 1))] ++ (aS cy b P F N B O Sd Dv L rc re fr lo sm ++ ([tO cy w b2 x wc lw gw ss sl sc sp] ++ (aS cy b2 P2 F2 N2 B2 O2 Sd2 Dv2 L2 rc2 re2 fr2 lo2 sm2 ++ (pS cy x X))))))) [51, 0, 1, 2, 3, 4, 5, 6, 7, 8, 9, 52, 10, 11, 12, 13, 14, 15, 16, 17, 18, 19, 20, 21, 22, 23, 24, 25, 26, 27, 28, 29, 30, 31, 32, 33, 34, 35, 36, 37, 38, 39, 40, 41, 42, 43, 44, 45, 46, 47, 48, 49, 50] (by decide) rfl
      subst hr_29
      have hcd : cAlone S x1 x2 = 0 := by unfold cAlone; clear hx hb hml hown hr hlocks hw hsz hA hG hK hP3 hD3 hS3 hl0; grind
      have hq9 : ([sO cy hh a kk dd b w ee qq ik] ++ (pS cy a S ++ ([ia cy (hh 1) 7 (upd C 0 (C 0 + 1))] ++ (aS cy b P F N B O Sd Dv L rc re fr lo sm ++ ([tO cy w b2 x wc lw gw ss sl sc sp] ++ (aS cy b2 P2 F2 N2 B2 O2 Sd2 Dv2 L2 rc2 re2 fr2 lo2 sm2 ++ (pS cy x X))))))) = ([sO cy hh a kk dd b w ee qq ik] ++ (pS cy a S ++ ([ia cy (hh 1) 7 (fnd C (cAlone S x1 x2))] ++ (aS cy b P F N B O Sd Dv L rc re fr lo sm ++ ([tO cy w b2 x wc lw gw ss sl sc sp] ++ (aS cy b2 P2 F2 N2 B2 O2 Sd2 Dv2 L2 rc2 re2 fr2 lo2 sm2 ++ (pS cy x X))))))) := congrArg (fun z9 => [sO cy hh a kk dd b w ee qq ik] ++ (pS cy a S ++ ([ia cy (hh 1) 7 z9] ++ (aS cy b P F N B O Sd Dv L rc re fr lo sm ++ ([tO cy w b2 x wc lw gw ss sl sc sp] ++ (aS cy b2 P2 F2 N2 B2 O2 Sd2 Dv2 L2 rc2 re2 fr2 lo2 sm2 ++ (pS cy x X))))))) (show (upd C 0 (C 0 + 1)) = (fnd C (cAlone S x1 x2)) from fnd_f hcd (by decide))
      replace hP3 := (congrArg (fun z9 => va_P D vwCl z9 _) hq9).mp hP3
      replace hD3 := (congrArg (fun z9 => va_D _ z9) hq9).mp hD3
      clear hq9
      refine re_i (P, F, N, B, O, Sd, Dv, L, rc, re, fr, lo, sm, P2, F2, N2, B2, O2, Sd2, Dv2, L2, rc2, re2, fr2, lo2, sm2, X) hx hb hr hlocks hP3 hD3 hS3 dX6_alone_32 ?_
      exact (⟨ans_f hcd (by decide) rfl, hX⟩)
    · refine lv_iload_n hx hb dX6_alone_22 rfl (lv_at hl0 1 rfl) ?_
      refine lv_iload_n hx hb dX6_alone_23 rfl (lv_at hl0 2 rfl) ?_
      refine lv_icmp_ne (tgt := 33) hx hb dX6_alone_24 (by decide) (fun c_24 => ?_) (fun c_24 => ?_)
      · obtain ⟨j, hj, rfl⟩ := wf_gap wf c_8
        have hbj : bstN (nI j) = j := bst_n (by omega)
        obtain ⟨k, hk, rfl⟩ := wf_gap wf c_19
        have hbk : bstN (nI k) = k := bst_n (by omega)
        refine lv_aload_n hx hb dX6_alone_33 rfl (lv_at hl0 0 rfl) ?_
        refine va_get (D := D) (ci := 6) (v := .ref (b 0)) (C := RX6) (T := TX6) (N := 9) hx hb hw iX6 hown hK hP2 0 rfl rfl 4 (by decide) (hw _ kw_2_31) (fun _ h9 => h9) rfl dX6_alone_34 ?_
        refine lv_aload_n hx hb dX6_alone_37 rfl (lv_at hl0 0 rfl) ?_
        refine va_get (D := D) (ci := 6) (v := .ref (a 0)) (C := RX6) (T := TX6) (N := 9) hx hb hw iX6 hown hK hP2 0 rfl rfl 0 (by decide) (hw _ kw_2_27) (fun _ h9 => h9) rfl dX6_alone_38 ?_
        refine cV_v (wc := aS cy b P F N B O Sd Dv L rc re fr lo sm ++ (pS cy a S)) (wr := [sO cy hh a kk dd b w ee qq ik, ia cy (hh 1) 7 C, tO cy w b2 x wc lw gw ss sl sc sp] ++ (aS cy b2 P2 F2 N2 B2 O2 Sd2 Dv2 L2 rc2 re2 fr2 lo2 sm2 ++ (pS cy x X))) (rest := []) hx hb hml hown hw hG hK hP2 hD2 hS2 hA hl0 kc_X0_settle kw_3_52 [.ref (a 0)] (c_X0_settle l D cy G H2.size b P F N B O Sd Dv L rc re fr lo sm a S (by first | omega | assumption)) [12, 13, 14, 15, 16, 17, 18, 19, 20, 21, 22, 23, 24, 25, 26, 1, 2, 3, 4, 5, 6, 7, 8, 9, 10] [0, 11, 27, 28, 29, 30, 31, 32, 33, 34, 35, 36, 37, 38, 39, 40, 41, 42, 43, 44, 45, 46, 47, 48, 49, 50, 51, 52] rfl rfl rfl rfl rfl 0 rfl rfl rfl rfl rfl (Nat.le_of_ble_eq_true rfl) ⟨Nat.le_of_ble_eq_true rfl, Nat.le_of_ble_eq_true rfl⟩ dX6_alone_41 ⟨Nat.le_of_ble_eq_true rfl, Nat.le_of_ble_eq_true rfl⟩ (fun u9 H3 locs3 hu9 hP3 hD3 hS3 => ?_)
        clear hP2 hD2 hS2 locs2 H2
        obtain ⟨F1_41, N1_41, B1_41, O1_41, Sd1_41, Dv1_41, L1_41⟩ := u9
        have hF_41 := hu9
        replace hF_41 : ∀ g, g < gcN S → F1_41 g = flow S (PR S) g := hF_41
        replace hP3 : va_P D vwCl ([sO cy hh a kk dd b w ee qq ik, ia cy (hh 1) 7 C, tO cy w b2 x wc lw gw ss sl sc sp] ++ (aS cy b2 P2 F2 N2 B2 O2 Sd2 Dv2 L2 rc2 re2 fr2 lo2 sm2 ++ (pS cy x X ++ (aS cy b (PR S) F1_41 N1_41 B1_41 O1_41 Sd1_41 Dv1_41 L1_41 (nI (RC S)) (b2i (RC S = 60)) (fresh S) (lost S) (b2i (smokes S = true)) ++ (pS cy a S))))) H3 := hP3
        replace hD3 : va_D (va_A _ sz) ([sO cy hh a kk dd b w ee qq ik, ia cy (hh 1) 7 C, tO cy w b2 x wc lw gw ss sl sc sp] ++ (aS cy b2 P2 F2 N2 B2 O2 Sd2 Dv2 L2 rc2 re2 fr2 lo2 sm2 ++ (pS cy x X ++ (aS cy b (PR S) F1_41 N1_41 B1_41 O1_41 Sd1_41 Dv1_41 L1_41 (nI (RC S)) (b2i (RC S = 60)) (fresh S) (lost S) (b2i (smokes S = true)) ++ (pS cy a S))))) := hD3
        replace hP3 := hP3.sub (ws' := [sO cy hh a kk dd b w ee qq ik] ++ (pS cy a S ++ ([ia cy (hh 1) 7 C] ++ (aS cy b (PR S) F1_41 N1_41 B1_41 O1_41 Sd1_41 Dv1_41 L1_41 (nI (RC S)) (b2i (RC S = 60)) (fresh S) (lost S) (b2i (smokes S = true)) ++ ([tO cy w b2 x wc lw gw ss sl sc sp] ++ (aS cy b2 P2 F2 N2 B2 O2 Sd2 Dv2 L2 rc2 re2 fr2 lo2 sm2 ++ (pS cy x X))))))) [0, 43, 44, 45, 46, 47, 48, 49, 50, 51, 52, 1, 28, 29, 30, 31, 32, 33, 34, 35, 36, 37, 38, 39, 40, 41, 42, 2, 3, 4, 5, 6, 7, 8, 9, 10, 11, 12, 13, 14, 15, 16, 17, 18, 19, 20, 21, 22, 23, 24, 25, 26, 27] rfl
        replace hD3 := hD3.sub (ws' := [sO cy hh a kk dd b w ee qq ik] ++ (pS cy a S ++ ([ia cy (hh 1) 7 C] ++ (aS cy b (PR S) F1_41 N1_41 B1_41 O1_41 Sd1_41 Dv1_41 L1_41 (nI (RC S)) (b2i (RC S = 60)) (fresh S) (lost S) (b2i (smokes S = true)) ++ ([tO cy w b2 x wc lw gw ss sl sc sp] ++ (aS cy b2 P2 F2 N2 B2 O2 Sd2 Dv2 L2 rc2 re2 fr2 lo2 sm2 ++ (pS cy x X))))))) [0, 43, 44, 45, 46, 47, 48, 49, 50, 51, 52, 1, 28, 29, 30, 31, 32, 33, 34, 35, 36, 37, 38, 39, 40, 41, 42, 2, 3, 4, 5, 6, 7, 8, 9, 10, 11, 12, 13, 14, 15, 16, 17, 18, 19, 20, 21, 22, 23, 24, 25, 26, 27] (by decide) rfl
        refine lv_aload_n hx hb dX6_alone_44 rfl (lv_at hl0 0 rfl) ?_
        refine va_get (D := D) (ci := 6) (v := .ref (w 0)) (C := RX6) (T := TX6) (N := 9) hx hb hw iX6 hown hK hP3 0 rfl rfl 5 (by decide) (hw _ kw_2_32) (fun _ h9 => h9) rfl dX6_alone_45 ?_
        refine lv_aload_n hx hb dX6_alone_48 rfl (lv_at hl0 0 rfl) ?_
        refine va_get (D := D) (ci := 6) (v := .ref (a 0)) (C := RX6) (T := TX6) (N := 9) hx hb hw iX6 hown hK hP3 0 rfl rfl 0 (by decide) (hw _ kw_2_27) (fun _ h9 => h9) rfl dX6_alone_49 ?_
        refine lv_iload_n hx hb dX6_alone_52 rfl (lv_at hl0 2 rfl) ?_
        refine cV_v (wc := [tO cy w b2 x wc lw gw ss sl sc sp] ++ (aS cy b2 P2 F2 N2 B2 O2 Sd2 Dv2 L2 rc2 re2 fr2 lo2 sm2 ++ (pS cy x X ++ (pS cy a S)))) (wr := [sO cy hh a kk dd b w ee qq ik, ia cy (hh 1) 7 C] ++ (aS cy b (PR S) F1_41 N1_41 B1_41 O1_41 Sd1_41 Dv1_41 L1_41 (nI (RC S)) (b2i (RC S = 60)) (fresh S) (lost S) (b2i (smokes S = true)))) (rest := []) hx hb hml hown hw hG hK hP3 hD3 hS3 hA hl0 kc_X5_settleWithout kw_3_220 [.ref (a 0), .int (nI k)] (c_X5_settleWithout l D cy G H3.size w b2 x wc lw gw ss sl sc sp P2 F2 N2 B2 O2 Sd2 Dv2 L2 rc2 re2 fr2 lo2 sm2 X a S k (by first | omega | assumption) (by first | omega | assumption) (by first | omega | assumption)) [27, 28, 29, 30, 31, 32, 33, 34, 35, 36, 37, 38, 39, 40, 41, 42, 43, 44, 45, 46, 47, 48, 49, 50, 51, 52, 1, 2, 3, 4, 5, 6, 7, 8, 9, 10] [0, 11, 12, 13, 14, 15, 16, 17, 18, 19, 20, 21, 22, 23, 24, 25, 26] rfl rfl rfl rfl rfl 0 rfl rfl rfl rfl rfl (Nat.le_of_ble_eq_true rfl) ⟨Nat.le_of_ble_eq_true rfl, Nat.le_of_ble_eq_true rfl⟩ dX6_alone_53 ⟨Nat.le_of_ble_eq_true rfl, Nat.le_of_ble_eq_true rfl⟩ (fun u9 H4 locs4 hu9 hP4 hD4 hS4 => ?_)
        clear hP3 hD3 hS3 locs3 H3
        obtain ⟨F1_53, N1_53, B1_53, O1_53, Sd1_53, Dv1_53, L1_53⟩ := u9
        have hF_53 := hu9
        replace hF_53 : ∀ g, g < gcN S → F1_53 g = flow (upd S (16 + 8 * k) 1) (PR (upd S (16 + 8 * k) 1)) g := hF_53
        replace hP4 : va_P D vwCl ([sO cy hh a kk dd b w ee qq ik, ia cy (hh 1) 7 C] ++ (aS cy b (PR S) F1_41 N1_41 B1_41 O1_41 Sd1_41 Dv1_41 L1_41 (nI (RC S)) (b2i (RC S = 60)) (fresh S) (lost S) (b2i (smokes S = true)) ++ ([tO cy w b2 x wc lw gw ss sl sc sp] ++ (aS cy b2 (PR (upd S (16 + 8 * k) 1)) F1_53 N1_53 B1_53 O1_53 Sd1_53 Dv1_53 L1_53 (nI (RC (upd S (16 + 8 * k) 1))) (b2i (RC (upd S (16 + 8 * k) 1) = 60)) (fresh (upd S (16 + 8 * k) 1)) (lost (upd S (16 + 8 * k) 1)) (b2i (smokes (upd S (16 + 8 * k) 1) = true)) ++ (pS cy x (upd S (16 + 8 * k) 1) ++ (pS cy a S)))))) H4 := hP4
        replace hD4 : va_D (va_A _ sz) ([sO cy hh a kk dd b w ee qq ik, ia cy (hh 1) 7 C] ++ (aS cy b (PR S) F1_41 N1_41 B1_41 O1_41 Sd1_41 Dv1_41 L1_41 (nI (RC S)) (b2i (RC S = 60)) (fresh S) (lost S) (b2i (smokes S = true)) ++ ([tO cy w b2 x wc lw gw ss sl sc sp] ++ (aS cy b2 (PR (upd S (16 + 8 * k) 1)) F1_53 N1_53 B1_53 O1_53 Sd1_53 Dv1_53 L1_53 (nI (RC (upd S (16 + 8 * k) 1))) (b2i (RC (upd S (16 + 8 * k) 1) = 60)) (fresh (upd S (16 + 8 * k) 1)) (lost (upd S (16 + 8 * k) 1)) (b2i (smokes (upd S (16 + 8 * k) 1) = true)) ++ (pS cy x (upd S (16 + 8 * k) 1) ++ (pS cy a S)))))) := hD4
        replace hP4 := hP4.sub (ws' := [sO cy hh a kk dd b w ee qq ik] ++ (pS cy a S ++ ([ia cy (hh 1) 7 C] ++ (aS cy b (PR S) F1_41 N1_41 B1_41 O1_41 Sd1_41 Dv1_41 L1_41 (nI (RC S)) (b2i (RC S = 60)) (fresh S) (lost S) (b2i (smokes S = true)) ++ ([tO cy w b2 x wc lw gw ss sl sc sp] ++ (aS cy b2 (PR (upd S (16 + 8 * k) 1)) F1_53 N1_53 B1_53 O1_53 Sd1_53 Dv1_53 L1_53 (nI (RC (upd S (16 + 8 * k) 1))) (b2i (RC (upd S (16 + 8 * k) 1) = 60)) (fresh (upd S (16 + 8 * k) 1)) (lost (upd S (16 + 8 * k) 1)) (b2i (smokes (upd S (16 + 8 * k) 1) = true)) ++ (pS cy x (upd S (16 + 8 * k) 1)))))))) [0, 43, 44, 45, 46, 47, 48, 49, 50, 51, 52, 1, 2, 3, 4, 5, 6, 7, 8, 9, 10, 11, 12, 13, 14, 15, 16, 17, 18, 19, 20, 21, 22, 23, 24, 25, 26, 27, 28, 29, 30, 31, 32, 33, 34, 35, 36, 37, 38, 39, 40, 41, 42] rfl
        replace hD4 := hD4.sub (ws' := [sO cy hh a kk dd b w ee qq ik] ++ (pS cy a S ++ ([ia cy (hh 1) 7 C] ++ (aS cy b (PR S) F1_41 N1_41 B1_41 O1_41 Sd1_41 Dv1_41 L1_41 (nI (RC S)) (b2i (RC S = 60)) (fresh S) (lost S) (b2i (smokes S = true)) ++ ([tO cy w b2 x wc lw gw ss sl sc sp] ++ (aS cy b2 (PR (upd S (16 + 8 * k) 1)) F1_53 N1_53 B1_53 O1_53 Sd1_53 Dv1_53 L1_53 (nI (RC (upd S (16 + 8 * k) 1))) (b2i (RC (upd S (16 + 8 * k) 1) = 60)) (fresh (upd S (16 + 8 * k) 1)) (lost (upd S (16 + 8 * k) 1)) (b2i (smokes (upd S (16 + 8 * k) 1) = true)) ++ (pS cy x (upd S (16 + 8 * k) 1)))))))) [0, 43, 44, 45, 46, 47, 48, 49, 50, 51, 52, 1, 2, 3, 4, 5, 6, 7, 8, 9, 10, 11, 12, 13, 14, 15, 16, 17, 18, 19, 20, 21, 22, 23, 24, 25, 26, 27, 28, 29, 30, 31, 32, 33, 34, 35, 36, 37, 38, 39, 40, 41, 42] (by decide) rfl
        refine lv_aload_n hx hb dX6_alone_56 rfl (lv_at hl0 0 rfl) ?_
        refine va_get (D := D) (ci := 6) (v := .ref (w 0)) (C := RX6) (T := TX6) (N := 9) hx hb hw iX6 hown hK hP4 0 rfl rfl 5 (by decide) (hw _ kw_2_32) (fun _ h9 => h9) rfl dX6_alone_57 ?_
        refine va_get (D := D) (ci := 5) (v := .ref (b2 0)) (C := RX5) (T := TX5) (N := 11) hx hb hw iX5 hown hK hP4 27 rfl rfl 0 (by decide) (hw _ kw_1_164) (fun _ h9 => h9) rfl dX6_alone_60 ?_
        refine va_get (D := D) (ci := 0) (v := .ref (b2 2)) (C := RX0) (T := TX0) (N := 13) hx hb hw iX0 hown hK hP4 28 rfl rfl 1 (by decide) (hw _ kw_1_106) (fun _ h9 => h9) rfl dX6_alone_63 ?_
        refine lv_iload_n hx hb dX6_alone_66 rfl (lv_at hl0 1 rfl) ?_
        refine ald_i (f := F1_53) hx hb hK hP4 30 0 rfl rfl j rfl (by first | omega | assumption) (by decide) dX6_alone_67 ?_
        refine tp (show (F1_53 j) = flow (upd S (16 + 8 * k) 1) (PR (upd S (16 + 8 * k) 1)) j from hF_53 j hj) ?_
        refine lv_aload_n hx hb dX6_alone_68 rfl (lv_at hl0 0 rfl) ?_
        refine va_get (D := D) (ci := 6) (v := .ref (b 0)) (C := RX6) (T := TX6) (N := 9) hx hb hw iX6 hown hK hP4 0 rfl rfl 4 (by decide) (hw _ kw_2_31) (fun _ h9 => h9) rfl dX6_alone_69 ?_
        refine va_get (D := D) (ci := 0) (v := .ref (b 2)) (C := RX0) (T := TX0) (N := 13) hx hb hw iX0 hown hK hP4 12 rfl rfl 1 (by decide) (hw _ kw_1_106) (fun _ h9 => h9) rfl dX6_alone_72 ?_
        refine lv_iload_n hx hb dX6_alone_75 rfl (lv_at hl0 1 rfl) ?_
        refine ald_i (f := F1_41) hx hb hK hP4 14 0 rfl rfl j rfl (by first | omega | assumption) (by decide) dX6_alone_76 ?_
        refine tp (show (F1_41 j) = flow S (PR S) j from hF_41 j hj) ?_
        refine lv_isub hx hb dX6_alone_77 ?_
        have hcd : cAlone S (nI j) (nI k) = 7 := by unfold cAlone; clear hx hb hml hown hr hlocks hw hsz hA hG hK hP4 hD4 hS4 hl0; grind
        have hq9 : ([sO cy hh a kk dd b w ee qq ik] ++ (pS cy a S ++ ([ia cy (hh 1) 7 C] ++ (aS cy b (PR S) F1_41 N1_41 B1_41 O1_41 Sd1_41 Dv1_41 L1_41 (nI (RC S)) (b2i (RC S = 60)) (fresh S) (lost S) (b2i (smokes S = true)) ++ ([tO cy w b2 x wc lw gw ss sl sc sp] ++ (aS cy b2 (PR (upd S (16 + 8 * k) 1)) F1_53 N1_53 B1_53 O1_53 Sd1_53 Dv1_53 L1_53 (nI (RC (upd S (16 + 8 * k) 1))) (b2i (RC (upd S (16 + 8 * k) 1) = 60)) (fresh (upd S (16 + 8 * k) 1)) (lost (upd S (16 + 8 * k) 1)) (b2i (smokes (upd S (16 + 8 * k) 1) = true)) ++ (pS cy x (upd S (16 + 8 * k) 1)))))))) = ([sO cy hh a kk dd b w ee qq ik] ++ (pS cy a S ++ ([ia cy (hh 1) 7 (fnd C (cAlone S (nI j) (nI k)))] ++ (aS cy b (PR S) F1_41 N1_41 B1_41 O1_41 Sd1_41 Dv1_41 L1_41 (nI (RC S)) (b2i (RC S = 60)) (fresh S) (lost S) (b2i (smokes S = true)) ++ ([tO cy w b2 x wc lw gw ss sl sc sp] ++ (aS cy b2 (PR (upd S (16 + 8 * k) 1)) F1_53 N1_53 B1_53 O1_53 Sd1_53 Dv1_53 L1_53 (nI (RC (upd S (16 + 8 * k) 1))) (b2i (RC (upd S (16 + 8 * k) 1) = 60)) (fresh (upd S (16 + 8 * k) 1)) (lost (upd S (16 + 8 * k) 1)) (b2i (smokes (upd S (16 + 8 * k) 1) = true)) ++ (pS cy x (upd S (16 + 8 * k) 1)))))))) := congrArg (fun z9 => [sO cy hh a kk dd b w ee qq ik] ++ (pS cy a S ++ ([ia cy (hh 1) 7 z9] ++ (aS cy b (PR S) F1_41 N1_41 B1_41 O1_41 Sd1_41 Dv1_41 L1_41 (nI (RC S)) (b2i (RC S = 60)) (fresh S) (lost S) (b2i (smokes S = true)) ++ ([tO cy w b2 x wc lw gw ss sl sc sp] ++ (aS cy b2 (PR (upd S (16 + 8 * k) 1)) F1_53 N1_53 B1_53 O1_53 Sd1_53 Dv1_53 L1_53 (nI (RC (upd S (16 + 8 * k) 1))) (b2i (RC (upd S (16 + 8 * k) 1) = 60)) (fresh (upd S (16 + 8 * k) 1)) (lost (upd S (16 + 8 * k) 1)) (b2i (smokes (upd S (16 + 8 * k) 1) = true)) ++ (pS cy x (upd S (16 + 8 * k) 1)))))))) (show C = (fnd C (cAlone S (nI j) (nI k))) from fnd_o hcd)
        replace hP4 := (congrArg (fun z9 => va_P D vwCl z9 _) hq9).mp hP4
        replace hD4 := (congrArg (fun z9 => va_D _ z9) hq9).mp hD4
        clear hq9
        refine re_i (PR S, F1_41, N1_41, B1_41, O1_41, Sd1_41, Dv1_41, L1_41, nI (RC S), b2i (RC S = 60), fresh S, lost S, b2i (smokes S = true), PR (upd S (16 + 8 * k) 1), F1_53, N1_53, B1_53, O1_53, Sd1_53, Dv1_53, L1_53, nI (RC (upd S (16 + 8 * k) 1)), b2i (RC (upd S (16 + 8 * k) 1) = 60), fresh (upd S (16 + 8 * k) 1), lost (upd S (16 + 8 * k) 1), b2i (smokes (upd S (16 + 8 * k) 1) = true), upd S (16 + 8 * k) 1) hx hb hr hlocks hP4 hD4 hS4 dX6_alone_78 ?_
        exact (⟨ans_o hcd (by rw [hbj, hbk]; rfl), (wf_can (wf_sh wf (j := k) (x := 1) (by omega) (Or.inr rfl)).1)⟩)
      · refine lv_aload_n hx hb dX6_alone_27 rfl (lv_at hl0 0 rfl) ?_
        refine lv_iconst (v := 0) hx hb dX6_alone_28 (by decide) ?_
        refine cV_i (wc := [sO cy hh a kk dd b w ee qq ik, ia cy (hh 1) 7 C]) (wr := pS cy a S ++ (aS cy b P F N B O Sd Dv L rc re fr lo sm ++ ([tO cy w b2 x wc lw gw ss sl sc sp] ++ (aS cy b2 P2 F2 N2 B2 O2 Sd2 Dv2 L2 rc2 re2 fr2 lo2 sm2 ++ (pS cy x X))))) (rest := []) hx hb hml hown hw hG hK hP2 hD2 hS2 hA hl0 kc_X6_find kw_2_59 [.int 0] (c_X6_find l D cy G H2.size hh a kk dd b w ee qq ik C 0 (by first | omega | assumption)) [0, 11] [1, 2, 3, 4, 5, 6, 7, 8, 9, 10, 12, 13, 14, 15, 16, 17, 18, 19, 20, 21, 22, 23, 24, 25, 26, 27, 28, 29, 30, 31, 32, 33, 34, 35, 36, 37, 38, 39, 40, 41, 42, 43, 44, 45, 46, 47, 48, 49, 50, 51, 52] rfl rfl rfl rfl rfl 0 rfl rfl rfl rfl rfl (Nat.le_of_ble_eq_true rfl) ⟨Nat.le_of_ble_eq_true rfl, Nat.le_of_ble_eq_true rfl⟩ dX6_alone_29 ⟨Nat.le_of_ble_eq_true rfl, Nat.le_of_ble_eq_true rfl⟩ (fun r_29 u9 H3 locs3 hu9 hP3 hD3 hS3 => ?_)
        clear hP2 hD2 hS2 locs2 H2
        have hr_29 := hu9
        replace hP3 : va_P D vwCl (pS cy a S ++ (aS cy b P F N B O Sd Dv L rc re fr lo sm ++ ([tO cy w b2 x wc lw gw ss sl sc sp] ++ (aS cy b2 P2 F2 N2 B2 O2 Sd2 Dv2 L2 rc2 re2 fr2 lo2 sm2 ++ (pS cy x X ++ ([sO cy hh a kk dd b w ee qq ik, ia cy (hh 1) 7 (upd C 0 (C 0 + 1))])))))) H3 := hP3
        replace hD3 : va_D (va_A _ sz) (pS cy a S ++ (aS cy b P F N B O Sd Dv L rc re fr lo sm ++ ([tO cy w b2 x wc lw gw ss sl sc sp] ++ (aS cy b2 P2 F2 N2 B2 O2 Sd2 Dv2 L2 rc2 re2 fr2 lo2 sm2 ++ (pS cy x X ++ ([sO cy hh a kk dd b w ee qq ik, ia cy (hh 1) 7 (upd C 0 (C 0 + 1))])))))) := hD3
        replace hP3 := hP3.sub (ws' := [sO cy hh a kk dd b w ee qq ik] ++ (pS cy a S ++ ([ia cy (hh 1) 7 (upd C 0 (C 0 + 1))] ++ (aS cy b P F N B O Sd Dv L rc re fr lo sm ++ ([tO cy w b2 x wc lw gw ss sl sc sp] ++ (aS cy b2 P2 F2 N2 B2 O2 Sd2 Dv2 L2 rc2 re2 fr2 lo2 sm2 ++ (pS cy x X))))))) [51, 0, 1, 2, 3, 4, 5, 6, 7, 8, 9, 52, 10, 11, 12, 13, 14, 15, 16, 17, 18, 19, 20, 21, 22, 23, 24, 25, 26, 27, 28, 29, 30, 31, 32, 33, 34, 35, 36, 37, 38, 39, 40, 41, 42, 43, 44, 45, 46, 47, 48, 49, 50] rfl
        replace hD3 := hD3.sub (ws' := [sO cy hh a kk dd b w ee qq ik] ++ (pS cy a S ++ ([ia cy (hh 1) 7 (upd C 0 (C 0 + 1))] ++ (aS cy b P F N B O Sd Dv L rc re fr lo sm ++ ([tO cy w b2 x wc lw gw ss sl sc sp] ++ (aS cy b2 P2 F2 N2 B2 O2 Sd2 Dv2 L2 rc2 re2 fr2 lo2 sm2 ++ (pS cy x X))))))) [51, 0, 1, 2, 3, 4, 5, 6, 7, 8, 9, 52, 10, 11, 12, 13, 14, 15, 16, 17, 18, 19, 20, 21, 22, 23, 24, 25, 26, 27, 28, 29, 30, 31, 32, 33, 34, 35, 36, 37, 38, 39, 40, 41, 42, 43, 44, 45, 46, 47, 48, 49, 50] (by decide) rfl
        subst hr_29
        have hcd : cAlone S x1 x2 = 0 := by unfold cAlone; clear hx hb hml hown hr hlocks hw hsz hA hG hK hP3 hD3 hS3 hl0; grind
        have hq9 : ([sO cy hh a kk dd b w ee qq ik] ++ (pS cy a S ++ ([ia cy (hh 1) 7 (upd C 0 (C 0 + 1))] ++ (aS cy b P F N B O Sd Dv L rc re fr lo sm ++ ([tO cy w b2 x wc lw gw ss sl sc sp] ++ (aS cy b2 P2 F2 N2 B2 O2 Sd2 Dv2 L2 rc2 re2 fr2 lo2 sm2 ++ (pS cy x X))))))) = ([sO cy hh a kk dd b w ee qq ik] ++ (pS cy a S ++ ([ia cy (hh 1) 7 (fnd C (cAlone S x1 x2))] ++ (aS cy b P F N B O Sd Dv L rc re fr lo sm ++ ([tO cy w b2 x wc lw gw ss sl sc sp] ++ (aS cy b2 P2 F2 N2 B2 O2 Sd2 Dv2 L2 rc2 re2 fr2 lo2 sm2 ++ (pS cy x X))))))) := congrArg (fun z9 => [sO cy hh a kk dd b w ee qq ik] ++ (pS cy a S ++ ([ia cy (hh 1) 7 z9] ++ (aS cy b P F N B O Sd Dv L rc re fr lo sm ++ ([tO cy w b2 x wc lw gw ss sl sc sp] ++ (aS cy b2 P2 F2 N2 B2 O2 Sd2 Dv2 L2 rc2 re2 fr2 lo2 sm2 ++ (pS cy x X))))))) (show (upd C 0 (C 0 + 1)) = (fnd C (cAlone S x1 x2)) from fnd_f hcd (by decide))
        replace hP3 := (congrArg (fun z9 => va_P D vwCl z9 _) hq9).mp hP3
        replace hD3 := (congrArg (fun z9 => va_D _ z9) hq9).mp hD3
        clear hq9
        refine re_i (P, F, N, B, O, Sd, Dv, L, rc, re, fr, lo, sm, P2, F2, N2, B2, O2, Sd2, Dv2, L2, rc2, re2, fr2, lo2, sm2, X) hx hb hr hlocks hP3 hD3 hS3 dX6_alone_32 ?_
        exact (⟨ans_f hcd (by decide) rfl, hX⟩)

theorem kc_X6_turns : kV yX6_turns cX6_turns 4 (some .int) 1 := ⟨kw_3_225, kw_3_226, kw_1_1, kw_3_227, by decide, by decide, by decide +kernel⟩
set_option maxHeartbeats 4000000 in
set_option maxRecDepth 100000 in
theorem c_X6_turns (l : Launch) (D : va_G) (cy : Nat → ClassId) (G : Nat → Nat) (sz : Nat) (hh : Nat → Nat) (a : Nat → Nat) (kk : Nat → Nat) (dd : Nat → Nat) (b : Nat → Nat) (w : Nat → Nat) (ee : Nat → Nat) (qq : Nat → Nat) (ik : Int32) (S : Nat → Int32) (C : Nat → Int32) (x : Nat → Nat) (wc : Int32) (lw : Int32) (gw : Int32) (ss : Int32) (sl : Int32) (sc : Int32) (sp : Int32) (b2 : Nat → Nat) (P2 : Nat → Int32) (F2 : Nat → Int32) (N2 : Nat → Int32) (B2 : Nat → Int32) (O2 : Nat → Int32) (Sd2 : Nat → Int32) (Dv2 : Nat → Int32) (L2 : Nat → Nat → Int32) (rc2 : Int32) (re2 : Int32) (fr2 : Int32) (lo2 : Int32) (sm2 : Int32) (X : Nat → Int32) (P : Nat → Int32) (F : Nat → Int32) (N : Nat → Int32) (B : Nat → Int32) (O : Nat → Int32) (Sd : Nat → Int32) (Dv : Nat → Int32) (L : Nat → Nat → Int32) (rc : Int32) (re : Int32) (fr : Int32) (lo : Int32) (sm : Int32) (x1 : Int32) (hX : can X) (wf : wf S) : Met l yX6_turns (wm yX6_turns cX6_turns 4 (some .int)) { frames := 6, cells := 0, slots := 0, locals := 131 } (va_Pc [.ref (hh 0), .int x1] (pr D (TY cy) G ([sO cy hh a kk dd b w ee qq ik] ++ (pS cy a S ++ ([ia cy (hh 1) 7 C] ++ (aS cy b P F N B O Sd Dv L rc re fr lo sm ++ ([tO cy w b2 x wc lw gw ss sl sc sp] ++ (aS cy b2 P2 F2 N2 B2 O2 Sd2 Dv2 L2 rc2 re2 fr2 lo2 sm2 ++ (pS cy x X))))))) sz)) (va_Qi (fun (r : Int32) (u : (Nat → Int32) × (Nat → Int32) × (Nat → Int32) × (Nat → Int32) × (Nat → Int32) × (Nat → Int32) × (Nat → Int32) × (Nat → Nat → Int32) × Int32 × Int32 × Int32 × Int32 × Int32 × (Nat → Int32) × (Nat → Int32) × (Nat → Int32) × (Nat → Int32) × (Nat → Int32) × (Nat → Int32) × (Nat → Int32) × (Nat → Nat → Int32) × Int32 × Int32 × Int32 × Int32 × Int32 × (Nat → Int32)) => (r = ans (cG S x1) (vTurns S (bstN x1))) ∧ (can u.2.2.2.2.2.2.2.2.2.2.2.2.2.2.2.2.2.2.2.2.2.2.2.2.2.2)) (fun (u : (Nat → Int32) × (Nat → Int32) × (Nat → Int32) × (Nat → Int32) × (Nat → Int32) × (Nat → Int32) × (Nat → Int32) × (Nat → Nat → Int32) × Int32 × Int32 × Int32 × Int32 × Int32 × (Nat → Int32) × (Nat → Int32) × (Nat → Int32) × (Nat → Int32) × (Nat → Int32) × (Nat → Int32) × (Nat → Int32) × (Nat → Nat → Int32) × Int32 × Int32 × Int32 × Int32 × Int32 × (Nat → Int32)) t => po D (va_A ([sO cy hh a kk dd b w ee qq ik] ++ (pS cy a S ++ ([ia cy (hh 1) 7 C] ++ (aS cy b P F N B O Sd Dv L rc re fr lo sm ++ ([tO cy w b2 x wc lw gw ss sl sc sp] ++ (aS cy b2 P2 F2 N2 B2 O2 Sd2 Dv2 L2 rc2 re2 fr2 lo2 sm2 ++ (pS cy x X))))))) sz) ([sO cy hh a kk dd b w ee qq ik] ++ (pS cy a S ++ ([ia cy (hh 1) 7 (fnd C (cG S x1))] ++ (aS cy b u.1 u.2.1 u.2.2.1 u.2.2.2.1 u.2.2.2.2.1 u.2.2.2.2.2.1 u.2.2.2.2.2.2.1 u.2.2.2.2.2.2.2.1 u.2.2.2.2.2.2.2.2.1 u.2.2.2.2.2.2.2.2.2.1 u.2.2.2.2.2.2.2.2.2.2.1 u.2.2.2.2.2.2.2.2.2.2.2.1 u.2.2.2.2.2.2.2.2.2.2.2.2.1 ++ ([tO cy w b2 x wc lw gw ss sl sc sp] ++ (aS cy b2 u.2.2.2.2.2.2.2.2.2.2.2.2.2.1 u.2.2.2.2.2.2.2.2.2.2.2.2.2.2.1 u.2.2.2.2.2.2.2.2.2.2.2.2.2.2.2.1 u.2.2.2.2.2.2.2.2.2.2.2.2.2.2.2.2.1 u.2.2.2.2.2.2.2.2.2.2.2.2.2.2.2.2.2.1 u.2.2.2.2.2.2.2.2.2.2.2.2.2.2.2.2.2.2.1 u.2.2.2.2.2.2.2.2.2.2.2.2.2.2.2.2.2.2.2.1 u.2.2.2.2.2.2.2.2.2.2.2.2.2.2.2.2.2.2.2.2.1 u.2.2.2.2.2.2.2.2.2.2.2.2.2.2.2.2.2.2.2.2.2.1 u.2.2.2.2.2.2.2.2.2.2.2.2.2.2.2.2.2.2.2.2.2.2.1 u.2.2.2.2.2.2.2.2.2.2.2.2.2.2.2.2.2.2.2.2.2.2.2.1 u.2.2.2.2.2.2.2.2.2.2.2.2.2.2.2.2.2.2.2.2.2.2.2.2.1 u.2.2.2.2.2.2.2.2.2.2.2.2.2.2.2.2.2.2.2.2.2.2.2.2.2.1 ++ (pS cy x u.2.2.2.2.2.2.2.2.2.2.2.2.2.2.2.2.2.2.2.2.2.2.2.2.2.2))))))) t) (va_A ([sO cy hh a kk dd b w ee qq ik] ++ (pS cy a S ++ ([ia cy (hh 1) 7 C] ++ (aS cy b P F N B O Sd Dv L rc re fr lo sm ++ ([tO cy w b2 x wc lw gw ss sl sc sp] ++ (aS cy b2 P2 F2 N2 B2 O2 Sd2 Dv2 L2 rc2 re2 fr2 lo2 sm2 ++ (pS cy x X))))))) sz)) 0 0 (va_A ([sO cy hh a kk dd b w ee qq ik] ++ (pS cy a S ++ ([ia cy (hh 1) 7 C] ++ (aS cy b P F N B O Sd Dv L rc re fr lo sm ++ ([tO cy w b2 x wc lw gw ss sl sc sp] ++ (aS cy b2 P2 F2 N2 B2 O2 Sd2 Dv2 L2 rc2 re2 fr2 lo2 sm2 ++ (pS cy x X))))))) sz) := by
  refine mk_rw (by decide) RX6 rfl (Nat.le_of_ble_eq_true rfl) [(0, .ref (hh 0)), (1, .int x1)] rfl ?_
  intro p e s m below meth c hx hb hml hown hr hlocks hin hw hsz hA hG hK H0 locs0 hP0 hD0 hS0 ls0 hl0
  clear hin
  have hg20 := wf_g20 wf
  have hr6 := wf_r6 wf
  refine lv_aload_n hx hb dX6_turns_0 rfl (lv_at hl0 0 rfl) ?_
  refine va_get (D := D) (ci := 6) (v := .ref (a 0)) (C := RX6) (T := TX6) (N := 9) hx hb hw iX6 hown hK hP0 0 rfl rfl 0 (by decide) (hw _ kw_2_27) (fun _ h9 => h9) rfl dX6_turns_1 ?_
  refine lv_iload_n hx hb dX6_turns_4 rfl (lv_at hl0 1 rfl) ?_
  refine rV_i (wc := pS cy a S) (rest := []) hx hb hml hown hw hG hK hP0 hS0 hA hl0 kc_X1_hasGap kw_2_98 [.int x1] (c_X1_hasGap l D cy G H0.size a S x1) [1, 2, 3, 4, 5, 6, 7, 8, 9, 10] rfl 0 rfl rfl rfl rfl rfl (Nat.le_of_ble_eq_true rfl) ⟨Nat.le_of_ble_eq_true rfl, Nat.le_of_ble_eq_true rfl⟩ dX6_turns_5 ⟨Nat.le_of_ble_eq_true rfl, Nat.le_of_ble_eq_true rfl⟩ (fun r_5 H1 locs1 hr_5 hP1 hS1 => ?_)
  have hD1 := hD0
  clear hP0 hD0 hS0 locs0 H0
  subst hr_5
  refine lb_ne (tgt := 17) hx hb dX6_turns_8 (by decide) (fun c_8 => ?_) (fun c_8 => ?_)
  · obtain ⟨j, hj, rfl⟩ := wf_gap wf c_8
    have hbj : bstN (nI j) = j := bst_n (by omega)
    refine lv_aload_n hx hb dX6_turns_17 rfl (lv_at hl0 0 rfl) ?_
    refine va_get (D := D) (ci := 6) (v := .ref (b 0)) (C := RX6) (T := TX6) (N := 9) hx hb hw iX6 hown hK hP1 0 rfl rfl 4 (by decide) (hw _ kw_2_31) (fun _ h9 => h9) rfl dX6_turns_18 ?_
    refine lv_aload_n hx hb dX6_turns_21 rfl (lv_at hl0 0 rfl) ?_
    refine va_get (D := D) (ci := 6) (v := .ref (a 0)) (C := RX6) (T := TX6) (N := 9) hx hb hw iX6 hown hK hP1 0 rfl rfl 0 (by decide) (hw _ kw_2_27) (fun _ h9 => h9) rfl dX6_turns_22 ?_
    refine cV_v (wc := aS cy b P F N B O Sd Dv L rc re fr lo sm ++ (pS cy a S)) (wr := [sO cy hh a kk dd b w ee qq ik, ia cy (hh 1) 7 C, tO cy w b2 x wc lw gw ss sl sc sp] ++ (aS cy b2 P2 F2 N2 B2 O2 Sd2 Dv2 L2 rc2 re2 fr2 lo2 sm2 ++ (pS cy x X))) (rest := []) hx hb hml hown hw hG hK hP1 hD1 hS1 hA hl0 kc_X0_settle kw_3_52 [.ref (a 0)] (c_X0_settle l D cy G H1.size b P F N B O Sd Dv L rc re fr lo sm a S (by first | omega | assumption)) [12, 13, 14, 15, 16, 17, 18, 19, 20, 21, 22, 23, 24, 25, 26, 1, 2, 3, 4, 5, 6, 7, 8, 9, 10] [0, 11, 27, 28, 29, 30, 31, 32, 33, 34, 35, 36, 37, 38, 39, 40, 41, 42, 43, 44, 45, 46, 47, 48, 49, 50, 51, 52] rfl rfl rfl rfl rfl 0 rfl rfl rfl rfl rfl (Nat.le_of_ble_eq_true rfl) ⟨Nat.le_of_ble_eq_true rfl, Nat.le_of_ble_eq_true rfl⟩ dX6_turns_25 ⟨Nat.le_of_ble_eq_true rfl, Nat.le_of_ble_eq_true rfl⟩ (fun u9 H2 locs2 hu9 hP2 hD2 hS2 => ?_)
    clear hP1 hD1 hS1 locs1 H1
    obtain ⟨F1_25, N1_25, B1_25, O1_25, Sd1_25, Dv1_25, L1_25⟩ := u9
    have hF_25 := hu9
    replace hF_25 : ∀ g, g < gcN S → F1_25 g = flow S (PR S) g := hF_25
    replace hP2 : va_P D vwCl ([sO cy hh a kk dd b w ee qq ik, ia cy (hh 1) 7 C, tO cy w b2 x wc lw gw ss sl sc sp] ++ (aS cy b2 P2 F2 N2 B2 O2 Sd2 Dv2 L2 rc2 re2 fr2 lo2 sm2 ++ (pS cy x X ++ (aS cy b (PR S) F1_25 N1_25 B1_25 O1_25 Sd1_25 Dv1_25 L1_25 (nI (RC S)) (b2i (RC S = 60)) (fresh S) (lost S) (b2i (smokes S = true)) ++ (pS cy a S))))) H2 := hP2
    replace hD2 : va_D (va_A _ sz) ([sO cy hh a kk dd b w ee qq ik, ia cy (hh 1) 7 C, tO cy w b2 x wc lw gw ss sl sc sp] ++ (aS cy b2 P2 F2 N2 B2 O2 Sd2 Dv2 L2 rc2 re2 fr2 lo2 sm2 ++ (pS cy x X ++ (aS cy b (PR S) F1_25 N1_25 B1_25 O1_25 Sd1_25 Dv1_25 L1_25 (nI (RC S)) (b2i (RC S = 60)) (fresh S) (lost S) (b2i (smokes S = true)) ++ (pS cy a S))))) := hD2
    replace hP2 := hP2.sub (ws' := [sO cy hh a kk dd b w ee qq ik] ++ (pS cy a S ++ ([ia cy (hh 1) 7 C] ++ (aS cy b (PR S) F1_25 N1_25 B1_25 O1_25 Sd1_25 Dv1_25 L1_25 (nI (RC S)) (b2i (RC S = 60)) (fresh S) (lost S) (b2i (smokes S = true)) ++ ([tO cy w b2 x wc lw gw ss sl sc sp] ++ (aS cy b2 P2 F2 N2 B2 O2 Sd2 Dv2 L2 rc2 re2 fr2 lo2 sm2 ++ (pS cy x X))))))) [0, 43, 44, 45, 46, 47, 48, 49, 50, 51, 52, 1, 28, 29, 30, 31, 32, 33, 34, 35, 36, 37, 38, 39, 40, 41, 42, 2, 3, 4, 5, 6, 7, 8, 9, 10, 11, 12, 13, 14, 15, 16, 17, 18, 19, 20, 21, 22, 23, 24, 25, 26, 27] rfl
    replace hD2 := hD2.sub (ws' := [sO cy hh a kk dd b w ee qq ik] ++ (pS cy a S ++ ([ia cy (hh 1) 7 C] ++ (aS cy b (PR S) F1_25 N1_25 B1_25 O1_25 Sd1_25 Dv1_25 L1_25 (nI (RC S)) (b2i (RC S = 60)) (fresh S) (lost S) (b2i (smokes S = true)) ++ ([tO cy w b2 x wc lw gw ss sl sc sp] ++ (aS cy b2 P2 F2 N2 B2 O2 Sd2 Dv2 L2 rc2 re2 fr2 lo2 sm2 ++ (pS cy x X))))))) [0, 43, 44, 45, 46, 47, 48, 49, 50, 51, 52, 1, 28, 29, 30, 31, 32, 33, 34, 35, 36, 37, 38, 39, 40, 41, 42, 2, 3, 4, 5, 6, 7, 8, 9, 10, 11, 12, 13, 14, 15, 16, 17, 18, 19, 20, 21, 22, 23, 24, 25, 26, 27] (by decide) rfl
    refine lv_aload_n hx hb dX6_turns_28 rfl (lv_at hl0 0 rfl) ?_
    refine va_get (D := D) (ci := 6) (v := .ref (w 0)) (C := RX6) (T := TX6) (N := 9) hx hb hw iX6 hown hK hP2 0 rfl rfl 5 (by decide) (hw _ kw_2_32) (fun _ h9 => h9) rfl dX6_turns_29 ?_
    refine lv_aload_n hx hb dX6_turns_32 rfl (lv_at hl0 0 rfl) ?_
    refine va_get (D := D) (ci := 6) (v := .ref (a 0)) (C := RX6) (T := TX6) (N := 9) hx hb hw iX6 hown hK hP2 0 rfl rfl 0 (by decide) (hw _ kw_2_27) (fun _ h9 => h9) rfl dX6_turns_33 ?_
    refine lv_iload_n hx hb dX6_turns_36 rfl (lv_at hl0 1 rfl) ?_
    refine cV_v (wc := [tO cy w b2 x wc lw gw ss sl sc sp] ++ (aS cy b2 P2 F2 N2 B2 O2 Sd2 Dv2 L2 rc2 re2 fr2 lo2 sm2 ++ (pS cy x X ++ (pS cy a S)))) (wr := [sO cy hh a kk dd b w ee qq ik, ia cy (hh 1) 7 C] ++ (aS cy b (PR S) F1_25 N1_25 B1_25 O1_25 Sd1_25 Dv1_25 L1_25 (nI (RC S)) (b2i (RC S = 60)) (fresh S) (lost S) (b2i (smokes S = true)))) (rest := []) hx hb hml hown hw hG hK hP2 hD2 hS2 hA hl0 kc_X5_settleWithout kw_3_220 [.ref (a 0), .int (nI j)] (c_X5_settleWithout l D cy G H2.size w b2 x wc lw gw ss sl sc sp P2 F2 N2 B2 O2 Sd2 Dv2 L2 rc2 re2 fr2 lo2 sm2 X a S j (by first | omega | assumption) (by first | omega | assumption) (by first | omega | assumption)) [27, 28, 29, 30, 31, 32, 33, 34, 35, 36, 37, 38, 39, 40, 41, 42, 43, 44, 45, 46, 47, 48, 49, 50, 51, 52, 1, 2, 3, 4, 5, 6, 7, 8, 9, 10] [0, 11, 12, 13, 14, 15, 16, 17, 18, 19, 20, 21, 22, 23, 24, 25, 26] rfl rfl rfl rfl rfl 0 rfl rfl rfl rfl rfl (Nat.le_of_ble_eq_true rfl) ⟨Nat.le_of_ble_eq_true rfl, Nat.le_of_ble_eq_true rfl⟩ dX6_turns_37 ⟨Nat.le_of_ble_eq_true rfl, Nat.le_of_ble_eq_true rfl⟩ (fun u9 H3 locs3 hu9 hP3 hD3 hS3 => ?_)
    clear hP2 hD2 hS2 locs2 H2
    obtain ⟨F1_37, N1_37, B1_37, O1_37, Sd1_37, Dv1_37, L1_37⟩ := u9
    have hF_37 := hu9
    replace hF_37 : ∀ g, g < gcN S → F1_37 g = flow (upd S (16 + 8 * j) 1) (PR (upd S (16 + 8 * j) 1)) g := hF_37
    replace hP3 : va_P D vwCl ([sO cy hh a kk dd b w ee qq ik, ia cy (hh 1) 7 C] ++ (aS cy b (PR S) F1_25 N1_25 B1_25 O1_25 Sd1_25 Dv1_25 L1_25 (nI (RC S)) (b2i (RC S = 60)) (fresh S) (lost S) (b2i (smokes S = true)) ++ ([tO cy w b2 x wc lw gw ss sl sc sp] ++ (aS cy b2 (PR (upd S (16 + 8 * j) 1)) F1_37 N1_37 B1_37 O1_37 Sd1_37 Dv1_37 L1_37 (nI (RC (upd S (16 + 8 * j) 1))) (b2i (RC (upd S (16 + 8 * j) 1) = 60)) (fresh (upd S (16 + 8 * j) 1)) (lost (upd S (16 + 8 * j) 1)) (b2i (smokes (upd S (16 + 8 * j) 1) = true)) ++ (pS cy x (upd S (16 + 8 * j) 1) ++ (pS cy a S)))))) H3 := hP3
    replace hD3 : va_D (va_A _ sz) ([sO cy hh a kk dd b w ee qq ik, ia cy (hh 1) 7 C] ++ (aS cy b (PR S) F1_25 N1_25 B1_25 O1_25 Sd1_25 Dv1_25 L1_25 (nI (RC S)) (b2i (RC S = 60)) (fresh S) (lost S) (b2i (smokes S = true)) ++ ([tO cy w b2 x wc lw gw ss sl sc sp] ++ (aS cy b2 (PR (upd S (16 + 8 * j) 1)) F1_37 N1_37 B1_37 O1_37 Sd1_37 Dv1_37 L1_37 (nI (RC (upd S (16 + 8 * j) 1))) (b2i (RC (upd S (16 + 8 * j) 1) = 60)) (fresh (upd S (16 + 8 * j) 1)) (lost (upd S (16 + 8 * j) 1)) (b2i (smokes (upd S (16 + 8 * j) 1) = true)) ++ (pS cy x (upd S (16 + 8 * j) 1) ++ (pS cy a S)))))) := hD3
    replace hP3 := hP3.sub (ws' := [sO cy hh a kk dd b w ee qq ik] ++ (pS cy a S ++ ([ia cy (hh 1) 7 C] ++ (aS cy b (PR S) F1_25 N1_25 B1_25 O1_25 Sd1_25 Dv1_25 L1_25 (nI (RC S)) (b2i (RC S = 60)) (fresh S) (lost S) (b2i (smokes S = true)) ++ ([tO cy w b2 x wc lw gw ss sl sc sp] ++ (aS cy b2 (PR (upd S (16 + 8 * j) 1)) F1_37 N1_37 B1_37 O1_37 Sd1_37 Dv1_37 L1_37 (nI (RC (upd S (16 + 8 * j) 1))) (b2i (RC (upd S (16 + 8 * j) 1) = 60)) (fresh (upd S (16 + 8 * j) 1)) (lost (upd S (16 + 8 * j) 1)) (b2i (smokes (upd S (16 + 8 * j) 1) = true)) ++ (pS cy x (upd S (16 + 8 * j) 1)))))))) [0, 43, 44, 45, 46, 47, 48, 49, 50, 51, 52, 1, 2, 3, 4, 5, 6, 7, 8, 9, 10, 11, 12, 13, 14, 15, 16, 17, 18, 19, 20, 21, 22, 23, 24, 25, 26, 27, 28, 29, 30, 31, 32, 33, 34, 35, 36, 37, 38, 39, 40, 41, 42] rfl
    replace hD3 := hD3.sub (ws' := [sO cy hh a kk dd b w ee qq ik] ++ (pS cy a S ++ ([ia cy (hh 1) 7 C] ++ (aS cy b (PR S) F1_25 N1_25 B1_25 O1_25 Sd1_25 Dv1_25 L1_25 (nI (RC S)) (b2i (RC S = 60)) (fresh S) (lost S) (b2i (smokes S = true)) ++ ([tO cy w b2 x wc lw gw ss sl sc sp] ++ (aS cy b2 (PR (upd S (16 + 8 * j) 1)) F1_37 N1_37 B1_37 O1_37 Sd1_37 Dv1_37 L1_37 (nI (RC (upd S (16 + 8 * j) 1))) (b2i (RC (upd S (16 + 8 * j) 1) = 60)) (fresh (upd S (16 + 8 * j) 1)) (lost (upd S (16 + 8 * j) 1)) (b2i (smokes (upd S (16 + 8 * j) 1) = true)) ++ (pS cy x (upd S (16 + 8 * j) 1)))))))) [0, 43, 44, 45, 46, 47, 48, 49, 50, 51, 52, 1, 2, 3, 4, 5, 6, 7, 8, 9, 10, 11, 12, 13, 14, 15, 16, 17, 18, 19, 20, 21, 22, 23, 24, 25, 26, 27, 28, 29, 30, 31, 32, 33, 34, 35, 36, 37, 38, 39, 40, 41, 42] (by decide) rfl
    refine lv_iconst (v := 0) hx hb dX6_turns_40 (by decide) ?_
    refine lv_istore_n (lv' := [(2, .int 0), (0, .ref (hh 0)), (1, .int (nI j))]) hx hb dX6_turns_41 rfl hl0 (by decide) rfl (fun ls1 hl1 => ?_)
    clear hl0 ls0
    refine lv_iconst (v := 0) hx hb dX6_turns_42 (by decide) ?_
    refine lv_istore_n (lv' := [(3, .int 0), (2, .int 0), (0, .ref (hh 0)), (1, .int (nI j))]) hx hb dX6_turns_43 rfl hl1 (by decide) rfl (fun ls2 hl2 => ?_)
    clear hl1 ls1
    refine wlp (ι := Nat) (nL := 4) (fun x9 => (x9 ≤ gcN S)) (fun x9 => [sO cy hh a kk dd b w ee qq ik] ++ (pS cy a S ++ ([ia cy (hh 1) 7 C] ++ (aS cy b (PR S) F1_25 N1_25 B1_25 O1_25 Sd1_25 Dv1_25 L1_25 (nI (RC S)) (b2i (RC S = 60)) (fresh S) (lost S) (b2i (smokes S = true)) ++ ([tO cy w b2 x wc lw gw ss sl sc sp] ++ (aS cy b2 (PR (upd S (16 + 8 * j) 1)) F1_37 N1_37 B1_37 O1_37 Sd1_37 Dv1_37 L1_37 (nI (RC (upd S (16 + 8 * j) 1))) (b2i (RC (upd S (16 + 8 * j) 1) = 60)) (fresh (upd S (16 + 8 * j) 1)) (lost (upd S (16 + 8 * j) 1)) (b2i (smokes (upd S (16 + 8 * j) 1) = true)) ++ (pS cy x (upd S (16 + 8 * j) 1)))))))) (fun x9 => [(3, .int (nI x9)), (2, .int (trn F1_25 F1_37 x9)), (0, .ref (hh 0)), (1, .int (nI j))]) (fun x9 => []) (fun x9 => gcN S - x9) 44 ?_ 0 (by first | omega | assumption | rfl | simp_all) rfl hP3 hD3 hS3 (lv_sub hl2 [0, 1, 2, 3] rfl)
    clear hP3 hD3 hS3 locs3 H3 hl2 ls2
    intro x9 hI ih_44 H4 locs4 ls3 hP4 hD4 hS4 hl3
    obtain ⟨i, rfl⟩ : ∃ z9, z9 = x9 := ⟨_, rfl⟩
    have hi := hI
    replace hi : i ≤ gcN S := hi
    replace hP4 : va_P D vwCl ([sO cy hh a kk dd b w ee qq ik] ++ (pS cy a S ++ ([ia cy (hh 1) 7 C] ++ (aS cy b (PR S) F1_25 N1_25 B1_25 O1_25 Sd1_25 Dv1_25 L1_25 (nI (RC S)) (b2i (RC S = 60)) (fresh S) (lost S) (b2i (smokes S = true)) ++ ([tO cy w b2 x wc lw gw ss sl sc sp] ++ (aS cy b2 (PR (upd S (16 + 8 * j) 1)) F1_37 N1_37 B1_37 O1_37 Sd1_37 Dv1_37 L1_37 (nI (RC (upd S (16 + 8 * j) 1))) (b2i (RC (upd S (16 + 8 * j) 1) = 60)) (fresh (upd S (16 + 8 * j) 1)) (lost (upd S (16 + 8 * j) 1)) (b2i (smokes (upd S (16 + 8 * j) 1) = true)) ++ (pS cy x (upd S (16 + 8 * j) 1)))))))) H4 := hP4
    replace hD4 : va_D (va_A _ sz) ([sO cy hh a kk dd b w ee qq ik] ++ (pS cy a S ++ ([ia cy (hh 1) 7 C] ++ (aS cy b (PR S) F1_25 N1_25 B1_25 O1_25 Sd1_25 Dv1_25 L1_25 (nI (RC S)) (b2i (RC S = 60)) (fresh S) (lost S) (b2i (smokes S = true)) ++ ([tO cy w b2 x wc lw gw ss sl sc sp] ++ (aS cy b2 (PR (upd S (16 + 8 * j) 1)) F1_37 N1_37 B1_37 O1_37 Sd1_37 Dv1_37 L1_37 (nI (RC (upd S (16 + 8 * j) 1))) (b2i (RC (upd S (16 + 8 * j) 1) = 60)) (fresh (upd S (16 + 8 * j) 1)) (lost (upd S (16 + 8 * j) 1)) (b2i (smokes (upd S (16 + 8 * j) 1) = true)) ++ (pS cy x (upd S (16 + 8 * j) 1)))))))) := hD4
    replace hl3 : lv_has ls3 4 [(3, .int (nI i)), (2, .int (trn F1_25 F1_37 i)), (0, .ref (hh 0)), (1, .int (nI j))] := hl3
    show W p l e _ s m _ below meth c _ _ _ _ _ (F0 m 44 ls3 [])
    refine lv_iload_n hx hb dX6_turns_44 rfl (lv_at hl3 0 rfl) ?_
    refine lv_aload_n hx hb dX6_turns_45 rfl (lv_at hl3 2 rfl) ?_
    refine va_get (D := D) (ci := 6) (v := .ref (a 0)) (C := RX6) (T := TX6) (N := 9) hx hb hw iX6 hown hK hP4 0 rfl rfl 0 (by decide) (hw _ kw_2_27) (fun _ h9 => h9) rfl dX6_turns_46 ?_
    refine va_get (D := D) (ci := 1) (v := .int (S 1)) (C := RX1) (T := TX1) (N := 12) hx hb hw iX1 hown hK hP4 1 rfl rfl 1 (by decide) (hw _ kw_1_35) (fun _ h9 => h9) rfl dX6_turns_49 ?_
    refine tp (show (S 1) = nI (gcN S) from wf_g wf) ?_
    refine ln_ge (tgt := 98) i (gcN S) rfl rfl (by omega) (by omega) hx hb dX6_turns_52 (by decide) (fun c_52 => ?_) (fun c_52 => ?_)
    · obtain rfl : i = gcN S := (by omega)
      refine lv_iload_n hx hb dX6_turns_98 rfl (lv_at hl3 1 rfl) ?_
      have hcd : cG S (nI j) = 7 := by unfold cG; clear hx hb hml hown hr hlocks hw hsz hA hG hK hP4 hD4 hS4 hl3 ih_44; grind
      have hq9 : ([sO cy hh a kk dd b w ee qq ik] ++ (pS cy a S ++ ([ia cy (hh 1) 7 C] ++ (aS cy b (PR S) F1_25 N1_25 B1_25 O1_25 Sd1_25 Dv1_25 L1_25 (nI (RC S)) (b2i (RC S = 60)) (fresh S) (lost S) (b2i (smokes S = true)) ++ ([tO cy w b2 x wc lw gw ss sl sc sp] ++ (aS cy b2 (PR (upd S (16 + 8 * j) 1)) F1_37 N1_37 B1_37 O1_37 Sd1_37 Dv1_37 L1_37 (nI (RC (upd S (16 + 8 * j) 1))) (b2i (RC (upd S (16 + 8 * j) 1) = 60)) (fresh (upd S (16 + 8 * j) 1)) (lost (upd S (16 + 8 * j) 1)) (b2i (smokes (upd S (16 + 8 * j) 1) = true)) ++ (pS cy x (upd S (16 + 8 * j) 1)))))))) = ([sO cy hh a kk dd b w ee qq ik] ++ (pS cy a S ++ ([ia cy (hh 1) 7 (fnd C (cG S (nI j)))] ++ (aS cy b (PR S) F1_25 N1_25 B1_25 O1_25 Sd1_25 Dv1_25 L1_25 (nI (RC S)) (b2i (RC S = 60)) (fresh S) (lost S) (b2i (smokes S = true)) ++ ([tO cy w b2 x wc lw gw ss sl sc sp] ++ (aS cy b2 (PR (upd S (16 + 8 * j) 1)) F1_37 N1_37 B1_37 O1_37 Sd1_37 Dv1_37 L1_37 (nI (RC (upd S (16 + 8 * j) 1))) (b2i (RC (upd S (16 + 8 * j) 1) = 60)) (fresh (upd S (16 + 8 * j) 1)) (lost (upd S (16 + 8 * j) 1)) (b2i (smokes (upd S (16 + 8 * j) 1) = true)) ++ (pS cy x (upd S (16 + 8 * j) 1)))))))) := congrArg (fun z9 => [sO cy hh a kk dd b w ee qq ik] ++ (pS cy a S ++ ([ia cy (hh 1) 7 z9] ++ (aS cy b (PR S) F1_25 N1_25 B1_25 O1_25 Sd1_25 Dv1_25 L1_25 (nI (RC S)) (b2i (RC S = 60)) (fresh S) (lost S) (b2i (smokes S = true)) ++ ([tO cy w b2 x wc lw gw ss sl sc sp] ++ (aS cy b2 (PR (upd S (16 + 8 * j) 1)) F1_37 N1_37 B1_37 O1_37 Sd1_37 Dv1_37 L1_37 (nI (RC (upd S (16 + 8 * j) 1))) (b2i (RC (upd S (16 + 8 * j) 1) = 60)) (fresh (upd S (16 + 8 * j) 1)) (lost (upd S (16 + 8 * j) 1)) (b2i (smokes (upd S (16 + 8 * j) 1) = true)) ++ (pS cy x (upd S (16 + 8 * j) 1)))))))) (show C = (fnd C (cG S (nI j))) from fnd_o hcd)
      replace hP4 := (congrArg (fun z9 => va_P D vwCl z9 _) hq9).mp hP4
      replace hD4 := (congrArg (fun z9 => va_D _ z9) hq9).mp hD4
      clear hq9
      refine re_i (PR S, F1_25, N1_25, B1_25, O1_25, Sd1_25, Dv1_25, L1_25, nI (RC S), b2i (RC S = 60), fresh S, lost S, b2i (smokes S = true), PR (upd S (16 + 8 * j) 1), F1_37, N1_37, B1_37, O1_37, Sd1_37, Dv1_37, L1_37, nI (RC (upd S (16 + 8 * j) 1)), b2i (RC (upd S (16 + 8 * j) 1) = 60), fresh (upd S (16 + 8 * j) 1), lost (upd S (16 + 8 * j) 1), b2i (smokes (upd S (16 + 8 * j) 1) = true), upd S (16 + 8 * j) 1) hx hb hr hlocks hP4 hD4 hS4 dX6_turns_99 ?_
      exact (⟨ans_o hcd (by rw [hbj]; exact trn_c _ (fun g hg => ⟨hF_25 g hg, hF_37 g hg⟩)), (wf_can (wf_sh wf (j := j) (x := 1) (by omega) (Or.inr rfl)).1)⟩)
    · refine lv_aload_n hx hb dX6_turns_55 rfl (lv_at hl3 2 rfl) ?_
      refine va_get (D := D) (ci := 6) (v := .ref (b 0)) (C := RX6) (T := TX6) (N := 9) hx hb hw iX6 hown hK hP4 0 rfl rfl 4 (by decide) (hw _ kw_2_31) (fun _ h9 => h9) rfl dX6_turns_56 ?_
      refine va_get (D := D) (ci := 0) (v := .ref (b 2)) (C := RX0) (T := TX0) (N := 13) hx hb hw iX0 hown hK hP4 12 rfl rfl 1 (by decide) (hw _ kw_1_106) (fun _ h9 => h9) rfl dX6_turns_59 ?_
      refine lv_iload_n hx hb dX6_turns_62 rfl (lv_at hl3 0 rfl) ?_
      refine ald_i (f := F1_25) hx hb hK hP4 14 0 rfl rfl i rfl (by first | omega | assumption) (by decide) dX6_turns_63 ?_
      refine rT_i (wc := []) (rest := []) hx hb hml hown hw hG hK hP4 hS4 hA hl3 kc_X6_leanOf kw_3_92 [.int (F1_25 i)] (c_X6_leanOf l D cy G H4.size (F1_25 i)) [] rfl rfl rfl (Nat.le_of_ble_eq_true rfl) ⟨Nat.le_of_ble_eq_true rfl, Nat.le_of_ble_eq_true rfl⟩ dX6_turns_64 ⟨Nat.le_of_ble_eq_true rfl, Nat.le_of_ble_eq_true rfl⟩ (fun r_64 H5 locs5 hr_64 hP5 hS5 => ?_)
      have hD5 := hD4
      clear hP4 hD4 hS4 locs4 H4
      subst hr_64
      refine lv_aload_n hx hb dX6_turns_67 rfl (lv_at hl3 2 rfl) ?_
      refine va_get (D := D) (ci := 6) (v := .ref (w 0)) (C := RX6) (T := TX6) (N := 9) hx hb hw iX6 hown hK hP5 0 rfl rfl 5 (by decide) (hw _ kw_2_32) (fun _ h9 => h9) rfl dX6_turns_68 ?_
      refine va_get (D := D) (ci := 5) (v := .ref (b2 0)) (C := RX5) (T := TX5) (N := 11) hx hb hw iX5 hown hK hP5 27 rfl rfl 0 (by decide) (hw _ kw_1_164) (fun _ h9 => h9) rfl dX6_turns_71 ?_
      refine va_get (D := D) (ci := 0) (v := .ref (b2 2)) (C := RX0) (T := TX0) (N := 13) hx hb hw iX0 hown hK hP5 28 rfl rfl 1 (by decide) (hw _ kw_1_106) (fun _ h9 => h9) rfl dX6_turns_74 ?_
      refine lv_iload_n hx hb dX6_turns_77 rfl (lv_at hl3 0 rfl) ?_
      refine ald_i (f := F1_37) hx hb hK hP5 30 0 rfl rfl i rfl (by first | omega | assumption) (by decide) dX6_turns_78 ?_
      refine rT_i (wc := []) (rest := [.int (lean (F1_25 i))]) hx hb hml hown hw hG hK hP5 hS5 hA hl3 kc_X6_leanOf kw_3_92 [.int (F1_37 i)] (c_X6_leanOf l D cy G H5.size (F1_37 i)) [] rfl rfl rfl (Nat.le_of_ble_eq_true rfl) ⟨Nat.le_of_ble_eq_true rfl, Nat.le_of_ble_eq_true rfl⟩ dX6_turns_79 ⟨Nat.le_of_ble_eq_true rfl, Nat.le_of_ble_eq_true rfl⟩ (fun r_79 H6 locs6 hr_79 hP6 hS6 => ?_)
      have hD6 := hD5
      clear hP5 hD5 hS5 locs5 H5
      subst hr_79
      refine lv_imul hx hb dX6_turns_82 ?_
      refine lv_if_ge (tgt := 92) hx hb dX6_turns_83 (by decide) (fun c_83 => ?_) (fun c_83 => ?_)
      · have hq9 : trn F1_25 F1_37 (i + 1) = trn F1_25 F1_37 i := by clear hx hb hml hown hr hlocks hw hsz hA hG hK hP6 hD6 hS6 hl3 ih_44; grind [trn]
        replace hl3 : lv_has ls3 4 [(3, .int (nI i)), (2, .int (trn F1_25 F1_37 (i + 1))), (0, .ref (hh 0)), (1, .int (nI j))] := (congrArg (fun z9 => lv_has ls3 4 [(3, .int (nI i)), (2, .int z9), (0, .ref (hh 0)), (1, .int (nI j))]) hq9).mpr hl3
        clear hq9
        refine lv_iinc (v := nI (i + 1)) (lv' := [(3, .int (nI (i + 1))), (2, .int (trn F1_25 F1_37 (i + 1))), (0, .ref (hh 0)), (1, .int (nI j))]) hx hb dX6_turns_92 hl3 (k := 0) rfl (nI_inc _) (by decide) rfl (fun ls4 hl4 => ?_)
        clear hl3 ls3
        refine lv_goto (tgt := 44) hx hb dX6_turns_95 (by decide) ?_
        exact ih_44 (i + 1) (by first | omega | assumption | rfl | simp_all) (by (try dsimp only); omega) H6 locs6 ls4 hP6 hD6 hS6 (lv_sub hl4 [0, 1, 2, 3] rfl)
      · refine lv_iload_n hx hb dX6_turns_86 rfl (lv_at hl3 1 rfl) ?_
        refine lv_iconst (v := 1) hx hb dX6_turns_87 (by decide) ?_
        refine lv_iload_n hx hb dX6_turns_88 rfl (lv_at hl3 0 rfl) ?_
        refine lv_ishl hx hb dX6_turns_89 ?_
        refine lv_ior hx hb dX6_turns_90 ?_
        refine lv_istore_n (lv' := [(2, .int ((trn F1_25 F1_37 i) ||| (1 <<< ((nI i) &&& 31)))), (3, .int (nI i)), (0, .ref (hh 0)), (1, .int (nI j))]) hx hb dX6_turns_91 rfl hl3 (by decide) rfl (fun ls4 hl4 => ?_)
        clear hl3 ls3
        have hq9 : trn F1_25 F1_37 (i + 1) = (trn F1_25 F1_37 i) ||| (1 <<< ((nI i) &&& 31)) := by clear hx hb hml hown hr hlocks hw hsz hA hG hK hP6 hD6 hS6 hl4 ih_44; grind [trn]
        replace hl4 : lv_has ls4 4 [(2, .int (trn F1_25 F1_37 (i + 1))), (3, .int (nI i)), (0, .ref (hh 0)), (1, .int (nI j))] := (congrArg (fun z9 => lv_has ls4 4 [(2, .int z9), (3, .int (nI i)), (0, .ref (hh 0)), (1, .int (nI j))]) hq9).mpr hl4
        clear hq9
        refine lv_iinc (v := nI (i + 1)) (lv' := [(3, .int (nI (i + 1))), (2, .int (trn F1_25 F1_37 (i + 1))), (0, .ref (hh 0)), (1, .int (nI j))]) hx hb dX6_turns_92 hl4 (k := 1) rfl (nI_inc _) (by decide) rfl (fun ls5 hl5 => ?_)
        clear hl4 ls4
        refine lv_goto (tgt := 44) hx hb dX6_turns_95 (by decide) ?_
        exact ih_44 (i + 1) (by first | omega | assumption | rfl | simp_all) (by (try dsimp only); omega) H6 locs6 ls5 hP6 hD6 hS6 (lv_sub hl5 [0, 1, 2, 3] rfl)
  · refine lv_aload_n hx hb dX6_turns_11 rfl (lv_at hl0 0 rfl) ?_
    refine lv_iconst (v := 0) hx hb dX6_turns_12 (by decide) ?_
    refine cV_i (wc := [sO cy hh a kk dd b w ee qq ik, ia cy (hh 1) 7 C]) (wr := pS cy a S ++ (aS cy b P F N B O Sd Dv L rc re fr lo sm ++ ([tO cy w b2 x wc lw gw ss sl sc sp] ++ (aS cy b2 P2 F2 N2 B2 O2 Sd2 Dv2 L2 rc2 re2 fr2 lo2 sm2 ++ (pS cy x X))))) (rest := []) hx hb hml hown hw hG hK hP1 hD1 hS1 hA hl0 kc_X6_find kw_2_59 [.int 0] (c_X6_find l D cy G H1.size hh a kk dd b w ee qq ik C 0 (by first | omega | assumption)) [0, 11] [1, 2, 3, 4, 5, 6, 7, 8, 9, 10, 12, 13, 14, 15, 16, 17, 18, 19, 20, 21, 22, 23, 24, 25, 26, 27, 28, 29, 30, 31, 32, 33, 34, 35, 36, 37, 38, 39, 40, 41, 42, 43, 44, 45, 46, 47, 48, 49, 50, 51, 52] rfl rfl rfl rfl rfl 0 rfl rfl rfl rfl rfl (Nat.le_of_ble_eq_true rfl) ⟨Nat.le_of_ble_eq_true rfl, Nat.le_of_ble_eq_true rfl⟩ dX6_turns_13 ⟨Nat.le_of_ble_eq_true rfl, Nat.le_of_ble_eq_true rfl⟩ (fun r_13 u9 H2 locs2 hu9 hP2 hD2 hS2 => ?_)
    clear hP1 hD1 hS1 locs1 H1
    have hr_13 := hu9
    replace hP2 : va_P D vwCl (pS cy a S ++ (aS cy b P F N B O Sd Dv L rc re fr lo sm ++ ([tO cy w b2 x wc lw gw ss sl sc sp] ++ (aS cy b2 P2 F2 N2 B2 O2 Sd2 Dv2 L2 rc2 re2 fr2 lo2 sm2 ++ (pS cy x X ++ ([sO cy hh a kk dd b w ee qq ik, ia cy (hh 1) 7 (upd C 0 (C 0 + 1))])))))) H2 := hP2
    replace hD2 : va_D (va_A _ sz) (pS cy a S ++ (aS cy b P F N B O Sd Dv L rc re fr lo sm ++ ([tO cy w b2 x wc lw gw ss sl sc sp] ++ (aS cy b2 P2 F2 N2 B2 O2 Sd2 Dv2 L2 rc2 re2 fr2 lo2 sm2 ++ (pS cy x X ++ ([sO cy hh a kk dd b w ee qq ik, ia cy (hh 1) 7 (upd C 0 (C 0 + 1))])))))) := hD2
    replace hP2 := hP2.sub (ws' := [sO cy hh a kk dd b w ee qq ik] ++ (pS cy a S ++ ([ia cy (hh 1) 7 (upd C 0 (C 0 + 1))] ++ (aS cy b P F N B O Sd Dv L rc re fr lo sm ++ ([tO cy w b2 x wc lw gw ss sl sc sp] ++ (aS cy b2 P2 F2 N2 B2 O2 Sd2 Dv2 L2 rc2 re2 fr2 lo2 sm2 ++ (pS cy x X))))))) [51, 0, 1, 2, 3, 4, 5, 6, 7, 8, 9, 52, 10, 11, 12, 13, 14, 15, 16, 17, 18, 19, 20, 21, 22, 23, 24, 25, 26, 27, 28, 29, 30, 31, 32, 33, 34, 35, 36, 37, 38, 39, 40, 41, 42, 43, 44, 45, 46, 47, 48, 49, 50] rfl
    replace hD2 := hD2.sub (ws' := [sO cy hh a kk dd b w ee qq ik] ++ (pS cy a S ++ ([ia cy (hh 1) 7 (upd C 0 (C 0 + 1))] ++ (aS cy b P F N B O Sd Dv L rc re fr lo sm ++ ([tO cy w b2 x wc lw gw ss sl sc sp] ++ (aS cy b2 P2 F2 N2 B2 O2 Sd2 Dv2 L2 rc2 re2 fr2 lo2 sm2 ++ (pS cy x X))))))) [51, 0, 1, 2, 3, 4, 5, 6, 7, 8, 9, 52, 10, 11, 12, 13, 14, 15, 16, 17, 18, 19, 20, 21, 22, 23, 24, 25, 26, 27, 28, 29, 30, 31, 32, 33, 34, 35, 36, 37, 38, 39, 40, 41, 42, 43, 44, 45, 46, 47, 48, 49, 50] (by decide) rfl
    subst hr_13
    have hcd : cG S x1 = 0 := by unfold cG; clear hx hb hml hown hr hlocks hw hsz hA hG hK hP2 hD2 hS2 hl0; grind
    have hq9 : ([sO cy hh a kk dd b w ee qq ik] ++ (pS cy a S ++ ([ia cy (hh 1) 7 (upd C 0 (C 0 + 1))] ++ (aS cy b P F N B O Sd Dv L rc re fr lo sm ++ ([tO cy w b2 x wc lw gw ss sl sc sp] ++ (aS cy b2 P2 F2 N2 B2 O2 Sd2 Dv2 L2 rc2 re2 fr2 lo2 sm2 ++ (pS cy x X))))))) = ([sO cy hh a kk dd b w ee qq ik] ++ (pS cy a S ++ ([ia cy (hh 1) 7 (fnd C (cG S x1))] ++ (aS cy b P F N B O Sd Dv L rc re fr lo sm ++ ([tO cy w b2 x wc lw gw ss sl sc sp] ++ (aS cy b2 P2 F2 N2 B2 O2 Sd2 Dv2 L2 rc2 re2 fr2 lo2 sm2 ++ (pS cy x X))))))) := congrArg (fun z9 => [sO cy hh a kk dd b w ee qq ik] ++ (pS cy a S ++ ([ia cy (hh 1) 7 z9] ++ (aS cy b P F N B O Sd Dv L rc re fr lo sm ++ ([tO cy w b2 x wc lw gw ss sl sc sp] ++ (aS cy b2 P2 F2 N2 B2 O2 Sd2 Dv2 L2 rc2 re2 fr2 lo2 sm2 ++ (pS cy x X))))))) (show (upd C 0 (C 0 + 1)) = (fnd C (cG S x1)) from fnd_f hcd (by decide))
    replace hP2 := (congrArg (fun z9 => va_P D vwCl z9 _) hq9).mp hP2
    replace hD2 := (congrArg (fun z9 => va_D _ z9) hq9).mp hD2
    clear hq9
    refine re_i (P, F, N, B, O, Sd, Dv, L, rc, re, fr, lo, sm, P2, F2, N2, B2, O2, Sd2, Dv2, L2, rc2, re2, fr2, lo2, sm2, X) hx hb hr hlocks hP2 hD2 hS2 dX6_turns_16 ?_
    exact (⟨ans_f hcd (by decide) rfl, hX⟩)

theorem kc_X6_worst : kV yX6_worst cX6_worst 1 (some .int) 0 := ⟨kw_3_229, kw_3_230, kw_1_1, kw_3_231, by decide, by decide, by decide +kernel⟩
set_option maxHeartbeats 4000000 in
set_option maxRecDepth 100000 in
theorem c_X6_worst (l : Launch) (D : va_G) (cy : Nat → ClassId) (G : Nat → Nat) (sz : Nat) (hh : Nat → Nat) (a : Nat → Nat) (kk : Nat → Nat) (dd : Nat → Nat) (b : Nat → Nat) (w : Nat → Nat) (ee : Nat → Nat) (qq : Nat → Nat) (ik : Int32) (S : Nat → Int32) (x : Nat → Nat) (wc : Int32) (lw : Int32) (gw : Int32) (ss : Int32) (sl : Int32) (sc : Int32) (sp : Int32) (b2 : Nat → Nat) (P2 : Nat → Int32) (F2 : Nat → Int32) (N2 : Nat → Int32) (B2 : Nat → Int32) (O2 : Nat → Int32) (Sd2 : Nat → Int32) (Dv2 : Nat → Int32) (L2 : Nat → Nat → Int32) (rc2 : Int32) (re2 : Int32) (fr2 : Int32) (lo2 : Int32) (sm2 : Int32) (X : Nat → Int32) (hX : can X) (wf : wf S) : Met l yX6_worst (wm yX6_worst cX6_worst 1 (some .int)) { frames := 6, cells := 0, slots := 0, locals := 133 } (va_Pc [.ref (hh 0)] (pr D (TY cy) G ([sO cy hh a kk dd b w ee qq ik] ++ (pS cy a S ++ ([tO cy w b2 x wc lw gw ss sl sc sp] ++ (aS cy b2 P2 F2 N2 B2 O2 Sd2 Dv2 L2 rc2 re2 fr2 lo2 sm2 ++ (pS cy x X))))) sz)) (va_Qi (fun (r : Int32) (u : (Nat → Int32) × (Nat → Int32) × (Nat → Int32) × (Nat → Int32) × (Nat → Int32) × (Nat → Int32) × (Nat → Int32) × (Nat → Nat → Int32) × Int32 × Int32 × Int32 × Int32 × Int32 × (Nat → Int32)) => (r = wrB S 4) ∧ (can u.2.2.2.2.2.2.2.2.2.2.2.2.2)) (fun (u : (Nat → Int32) × (Nat → Int32) × (Nat → Int32) × (Nat → Int32) × (Nat → Int32) × (Nat → Int32) × (Nat → Int32) × (Nat → Nat → Int32) × Int32 × Int32 × Int32 × Int32 × Int32 × (Nat → Int32)) t => po D (va_A ([sO cy hh a kk dd b w ee qq ik] ++ (pS cy a S ++ ([tO cy w b2 x wc lw gw ss sl sc sp] ++ (aS cy b2 P2 F2 N2 B2 O2 Sd2 Dv2 L2 rc2 re2 fr2 lo2 sm2 ++ (pS cy x X))))) sz) ([sO cy hh a kk dd b w ee qq ik] ++ (pS cy a S ++ ([tO cy w b2 x wc lw gw ss sl sc sp] ++ (aS cy b2 u.1 u.2.1 u.2.2.1 u.2.2.2.1 u.2.2.2.2.1 u.2.2.2.2.2.1 u.2.2.2.2.2.2.1 u.2.2.2.2.2.2.2.1 u.2.2.2.2.2.2.2.2.1 u.2.2.2.2.2.2.2.2.2.1 u.2.2.2.2.2.2.2.2.2.2.1 u.2.2.2.2.2.2.2.2.2.2.2.1 u.2.2.2.2.2.2.2.2.2.2.2.2.1 ++ (pS cy x u.2.2.2.2.2.2.2.2.2.2.2.2.2))))) t) (va_A ([sO cy hh a kk dd b w ee qq ik] ++ (pS cy a S ++ ([tO cy w b2 x wc lw gw ss sl sc sp] ++ (aS cy b2 P2 F2 N2 B2 O2 Sd2 Dv2 L2 rc2 re2 fr2 lo2 sm2 ++ (pS cy x X))))) sz)) 0 0 (va_A ([sO cy hh a kk dd b w ee qq ik] ++ (pS cy a S ++ ([tO cy w b2 x wc lw gw ss sl sc sp] ++ (aS cy b2 P2 F2 N2 B2 O2 Sd2 Dv2 L2 rc2 re2 fr2 lo2 sm2 ++ (pS cy x X))))) sz) := by
  refine mk_rw (by decide) RX6 rfl (Nat.le_of_ble_eq_true rfl) [(0, .ref (hh 0))] rfl ?_
  intro p e s m below meth c hx hb hml hown hr hlocks hin hw hsz hA hG hK H0 locs0 hP0 hD0 hS0 ls0 hl0
  clear hin
  refine lv_aload_n hx hb dX6_worst_0 rfl (lv_at hl0 0 rfl) ?_
  refine va_get (D := D) (ci := 6) (v := .ref (w 0)) (C := RX6) (T := TX6) (N := 9) hx hb hw iX6 hown hK hP0 0 rfl rfl 5 (by decide) (hw _ kw_2_32) (fun _ h9 => h9) rfl dX6_worst_1 ?_
  refine lv_aload_n hx hb dX6_worst_4 rfl (lv_at hl0 0 rfl) ?_
  refine va_get (D := D) (ci := 6) (v := .ref (a 0)) (C := RX6) (T := TX6) (N := 9) hx hb hw iX6 hown hK hP0 0 rfl rfl 0 (by decide) (hw _ kw_2_27) (fun _ h9 => h9) rfl dX6_worst_5 ?_
  refine cV_i (wc := [tO cy w b2 x wc lw gw ss sl sc sp] ++ (aS cy b2 P2 F2 N2 B2 O2 Sd2 Dv2 L2 rc2 re2 fr2 lo2 sm2 ++ (pS cy x X ++ (pS cy a S)))) (wr := [sO cy hh a kk dd b w ee qq ik]) (rest := []) hx hb hml hown hw hG hK hP0 hD0 hS0 hA hl0 kc_X5_findWorst kw_3_232 [.ref (a 0)] (c_X5_findWorst l D cy G H0.size w b2 x wc lw gw ss sl sc sp P2 F2 N2 B2 O2 Sd2 Dv2 L2 rc2 re2 fr2 lo2 sm2 X a S (by first | omega | assumption) (by first | omega | assumption)) [11, 12, 13, 14, 15, 16, 17, 18, 19, 20, 21, 22, 23, 24, 25, 26, 27, 28, 29, 30, 31, 32, 33, 34, 35, 36, 1, 2, 3, 4, 5, 6, 7, 8, 9, 10] [0] rfl rfl rfl rfl rfl 0 rfl rfl rfl rfl rfl (Nat.le_of_ble_eq_true rfl) ⟨Nat.le_of_ble_eq_true rfl, Nat.le_of_ble_eq_true rfl⟩ dX6_worst_8 ⟨Nat.le_of_ble_eq_true rfl, Nat.le_of_ble_eq_true rfl⟩ (fun r_8 u9 H1 locs1 hu9 hP1 hD1 hS1 => ?_)
  clear hP0 hD0 hS0 locs0 H0
  obtain ⟨P1_8, F1_8, N1_8, B1_8, O1_8, Sd1_8, Dv1_8, L1_8, rc1_8, re1_8, fr1_8, lo1_8, sm1_8, X1_8⟩ := u9
  obtain ⟨hr_8, hX1_8⟩ := hu9
  replace hX1_8 : can X1_8 := hX1_8
  replace hP1 : va_P D vwCl ([sO cy hh a kk dd b w ee qq ik, tO cy w b2 x wc lw gw ss sl sc sp] ++ (aS cy b2 P1_8 F1_8 N1_8 B1_8 O1_8 Sd1_8 Dv1_8 L1_8 rc1_8 re1_8 fr1_8 lo1_8 sm1_8 ++ (pS cy x X1_8 ++ (pS cy a S)))) H1 := hP1
  replace hD1 : va_D (va_A _ sz) ([sO cy hh a kk dd b w ee qq ik, tO cy w b2 x wc lw gw ss sl sc sp] ++ (aS cy b2 P1_8 F1_8 N1_8 B1_8 O1_8 Sd1_8 Dv1_8 L1_8 rc1_8 re1_8 fr1_8 lo1_8 sm1_8 ++ (pS cy x X1_8 ++ (pS cy a S)))) := hD1
  replace hP1 := hP1.sub (ws' := [sO cy hh a kk dd b w ee qq ik] ++ (pS cy a S ++ ([tO cy w b2 x wc lw gw ss sl sc sp] ++ (aS cy b2 P1_8 F1_8 N1_8 B1_8 O1_8 Sd1_8 Dv1_8 L1_8 rc1_8 re1_8 fr1_8 lo1_8 sm1_8 ++ (pS cy x X1_8))))) [0, 27, 28, 29, 30, 31, 32, 33, 34, 35, 36, 1, 2, 3, 4, 5, 6, 7, 8, 9, 10, 11, 12, 13, 14, 15, 16, 17, 18, 19, 20, 21, 22, 23, 24, 25, 26] rfl
  replace hD1 := hD1.sub (ws' := [sO cy hh a kk dd b w ee qq ik] ++ (pS cy a S ++ ([tO cy w b2 x wc lw gw ss sl sc sp] ++ (aS cy b2 P1_8 F1_8 N1_8 B1_8 O1_8 Sd1_8 Dv1_8 L1_8 rc1_8 re1_8 fr1_8 lo1_8 sm1_8 ++ (pS cy x X1_8))))) [0, 27, 28, 29, 30, 31, 32, 33, 34, 35, 36, 1, 2, 3, 4, 5, 6, 7, 8, 9, 10, 11, 12, 13, 14, 15, 16, 17, 18, 19, 20, 21, 22, 23, 24, 25, 26] (by decide) rfl
  subst hr_8
  refine re_i (P1_8, F1_8, N1_8, B1_8, O1_8, Sd1_8, Dv1_8, L1_8, rc1_8, re1_8, fr1_8, lo1_8, sm1_8, X1_8) hx hb hr hlocks hP1 hD1 hS1 dX6_worst_11 ?_
  exact (⟨rfl, hX1_8⟩)

theorem kc_X6_count : kV yX6_count cX6_count 2 (some .int) 1 := ⟨kw_4_39, kw_4_40, kw_1_1, kw_4_41, by decide, by decide, by decide +kernel⟩
set_option maxHeartbeats 4000000 in
set_option maxRecDepth 100000 in
theorem c_X6_count (l : Launch) (D : va_G) (cy : Nat → ClassId) (G : Nat → Nat) (sz : Nat) (hh : Nat → Nat) (a : Nat → Nat) (kk : Nat → Nat) (dd : Nat → Nat) (b : Nat → Nat) (w : Nat → Nat) (ee : Nat → Nat) (qq : Nat → Nat) (ik : Int32) (S : Nat → Int32) (C : Nat → Int32) (sa : Int32) (en : Int32) (tk : Int32) (va : Int32) (n : Nat) (x1 : Int32) (wf : wf S) : Met l yX6_count (wm yX6_count cX6_count 2 (some .int)) { frames := 1, cells := 0, slots := 0, locals := 22 } (va_Pc [.ref (hh 0), .int x1] (pr D (TY cy) G ([sO cy hh a kk dd b w ee qq ik] ++ (pS cy a S ++ ([ia cy (hh 1) 7 C, eO cy ee sa en tk va, pO cy ee (nI n)]))) sz)) (va_Qi (fun (r : Int32) (u : Unit) => r = ans (cCount x1) (vCount S n x1)) (fun (u : Unit) t => po D (va_A ([sO cy hh a kk dd b w ee qq ik] ++ (pS cy a S ++ ([ia cy (hh 1) 7 C, eO cy ee sa en tk va, pO cy ee (nI n)]))) sz) ([sO cy hh a kk dd b w ee qq ik] ++ (pS cy a S ++ ([ia cy (hh 1) 7 (fnd C (cCount x1)), eO cy ee sa en tk va, pO cy ee (nI n)]))) t) (va_A ([sO cy hh a kk dd b w ee qq ik] ++ (pS cy a S ++ ([ia cy (hh 1) 7 C, eO cy ee sa en tk va, pO cy ee (nI n)]))) sz)) 0 0 (va_A ([sO cy hh a kk dd b w ee qq ik] ++ (pS cy a S ++ ([ia cy (hh 1) 7 C, eO cy ee sa en tk va, pO cy ee (nI n)]))) sz) := by
  refine mk_rw (by decide) RX6 rfl (Nat.le_of_ble_eq_true rfl) [(0, .ref (hh 0)), (1, .int x1)] rfl ?_
  intro p e s m below meth c hx hb hml hown hr hlocks hin hw hsz hA hG hK H0 locs0 hP0 hD0 hS0 ls0 hl0
  clear hin
  have hg20 := wf_g20 wf
  refine lv_iload_n hx hb dX6_count_0 rfl (lv_at hl0 1 rfl) ?_
  by_cases c_1_0 : x1 = 0
  · refine tp c_1_0 ?_
    refine lv_tableIn (off := 43) (tgt := 44) hx hb dX6_count_1 (by decide) (by decide) (by decide) (by decide) ?_
    refine lv_aload_n hx hb dX6_count_44 rfl (lv_at hl0 0 rfl) ?_
    refine va_get (D := D) (ci := 6) (v := .ref (a 0)) (C := RX6) (T := TX6) (N := 9) hx hb hw iX6 hown hK hP0 0 rfl rfl 0 (by decide) (hw _ kw_2_27) (fun _ h9 => h9) rfl dX6_count_45 ?_
    refine va_get (D := D) (ci := 1) (v := .int (S 0)) (C := RX1) (T := TX1) (N := 12) hx hb hw iX1 hown hK hP0 1 rfl rfl 0 (by decide) (hw _ kw_1_31) (fun _ h9 => h9) rfl dX6_count_48 ?_
    have hcd : cCount x1 = 7 := by rw [c_1_0]; rfl
    have hq9 : ([sO cy hh a kk dd b w ee qq ik] ++ (pS cy a S ++ ([ia cy (hh 1) 7 C, eO cy ee sa en tk va, pO cy ee (nI n)]))) = ([sO cy hh a kk dd b w ee qq ik] ++ (pS cy a S ++ ([ia cy (hh 1) 7 (fnd C (cCount x1)), eO cy ee sa en tk va, pO cy ee (nI n)]))) := congrArg (fun z9 => [sO cy hh a kk dd b w ee qq ik] ++ (pS cy a S ++ ([ia cy (hh 1) 7 z9, eO cy ee sa en tk va, pO cy ee (nI n)]))) (show C = (fnd C (cCount x1)) from fnd_o hcd)
    replace hP0 := (congrArg (fun z9 => va_P D vwCl z9 _) hq9).mp hP0
    replace hD0 := (congrArg (fun z9 => va_D _ z9) hq9).mp hD0
    clear hq9
    refine re_i () hx hb hr hlocks hP0 hD0 hS0 dX6_count_51 ?_
    exact (ans_o hcd (by rw [c_1_0]; rfl))
  by_cases c_1_1 : x1 = 1
  · refine tp c_1_1 ?_
    refine lv_tableIn (off := 51) (tgt := 52) hx hb dX6_count_1 (by decide) (by decide) (by decide) (by decide) ?_
    refine lv_aload_n hx hb dX6_count_52 rfl (lv_at hl0 0 rfl) ?_
    refine va_get (D := D) (ci := 6) (v := .ref (a 0)) (C := RX6) (T := TX6) (N := 9) hx hb hw iX6 hown hK hP0 0 rfl rfl 0 (by decide) (hw _ kw_2_27) (fun _ h9 => h9) rfl dX6_count_53 ?_
    refine va_get (D := D) (ci := 1) (v := .int (S 1)) (C := RX1) (T := TX1) (N := 12) hx hb hw iX1 hown hK hP0 1 rfl rfl 1 (by decide) (hw _ kw_1_35) (fun _ h9 => h9) rfl dX6_count_56 ?_
    have hcd : cCount x1 = 7 := by rw [c_1_1]; rfl
    have hq9 : ([sO cy hh a kk dd b w ee qq ik] ++ (pS cy a S ++ ([ia cy (hh 1) 7 C, eO cy ee sa en tk va, pO cy ee (nI n)]))) = ([sO cy hh a kk dd b w ee qq ik] ++ (pS cy a S ++ ([ia cy (hh 1) 7 (fnd C (cCount x1)), eO cy ee sa en tk va, pO cy ee (nI n)]))) := congrArg (fun z9 => [sO cy hh a kk dd b w ee qq ik] ++ (pS cy a S ++ ([ia cy (hh 1) 7 z9, eO cy ee sa en tk va, pO cy ee (nI n)]))) (show C = (fnd C (cCount x1)) from fnd_o hcd)
    replace hP0 := (congrArg (fun z9 => va_P D vwCl z9 _) hq9).mp hP0
    replace hD0 := (congrArg (fun z9 => va_D _ z9) hq9).mp hD0
    clear hq9
    refine re_i () hx hb hr hlocks hP0 hD0 hS0 dX6_count_59 ?_
    exact (ans_o hcd (by rw [c_1_1]; rfl))
  by_cases c_1_2 : x1 = 2
  · refine tp c_1_2 ?_
    refine lv_tableIn (off := 59) (tgt := 60) hx hb dX6_count_1 (by decide) (by decide) (by decide) (by decide) ?_
    refine lv_aload_n hx hb dX6_count_60 rfl (lv_at hl0 0 rfl) ?_
    refine va_get (D := D) (ci := 6) (v := .ref (a 0)) (C := RX6) (T := TX6) (N := 9) hx hb hw iX6 hown hK hP0 0 rfl rfl 0 (by decide) (hw _ kw_2_27) (fun _ h9 => h9) rfl dX6_count_61 ?_
    refine rV_i (wc := pS cy a S) (rest := []) hx hb hml hown hw hG hK hP0 hS0 hA hl0 kc_X1_openCount kw_4_42 [] (c_X1_openCount l D cy G H0.size a S (gcN S) (wf_g wf) hg20) [1, 2, 3, 4, 5, 6, 7, 8, 9, 10] rfl 0 rfl rfl rfl rfl rfl (Nat.le_of_ble_eq_true rfl) ⟨Nat.le_of_ble_eq_true rfl, Nat.le_of_ble_eq_true rfl⟩ dX6_count_64 ⟨Nat.le_of_ble_eq_true rfl, Nat.le_of_ble_eq_true rfl⟩ (fun r_64 H1 locs1 hr_64 hP1 hS1 => ?_)
    have hD1 := hD0
    clear hP0 hD0 hS0 locs0 H0
    subst hr_64
    have hcd : cCount x1 = 7 := by rw [c_1_2]; rfl
    have hq9 : ([sO cy hh a kk dd b w ee qq ik] ++ (pS cy a S ++ ([ia cy (hh 1) 7 C, eO cy ee sa en tk va, pO cy ee (nI n)]))) = ([sO cy hh a kk dd b w ee qq ik] ++ (pS cy a S ++ ([ia cy (hh 1) 7 (fnd C (cCount x1)), eO cy ee sa en tk va, pO cy ee (nI n)]))) := congrArg (fun z9 => [sO cy hh a kk dd b w ee qq ik] ++ (pS cy a S ++ ([ia cy (hh 1) 7 z9, eO cy ee sa en tk va, pO cy ee (nI n)]))) (show C = (fnd C (cCount x1)) from fnd_o hcd)
    replace hP1 := (congrArg (fun z9 => va_P D vwCl z9 _) hq9).mp hP1
    replace hD1 := (congrArg (fun z9 => va_D _ z9) hq9).mp hD1
    clear hq9
    refine re_i () hx hb hr hlocks hP1 hD1 hS1 dX6_count_67 ?_
    exact (ans_o hcd (by rw [c_1_2]; rfl))
  by_cases c_1_3 : x1 = 3
  · refine tp c_1_3 ?_
    refine lv_tableIn (off := 67) (tgt := 68) hx hb dX6_count_1 (by decide) (by decide) (by decide) (by decide) ?_
    refine lv_aload_n hx hb dX6_count_68 rfl (lv_at hl0 0 rfl) ?_
    refine va_get (D := D) (ci := 6) (v := .ref (ee 0)) (C := RX6) (T := TX6) (N := 9) hx hb hw iX6 hown hK hP0 0 rfl rfl 6 (by decide) (hw _ kw_2_33) (fun _ h9 => h9) rfl dX6_count_69 ?_
    refine va_get (D := D) (ci := 4) (v := .ref (ee 1)) (C := RX4) (T := TX4) (N := 5) hx hb hw iX4 hown hK hP0 12 rfl rfl 0 (by decide) (hw _ kw_1_229) (fun _ h9 => h9) rfl dX6_count_72 ?_
    refine va_get (D := D) (ci := 3) (v := .int (nI n)) (C := RX3) (T := TX3) (N := 2) hx hb hw iX3 hown hK hP0 13 rfl rfl 1 (by decide) (hw _ kw_1_221) (fun _ h9 => h9) rfl dX6_count_75 ?_
    have hcd : cCount x1 = 7 := by rw [c_1_3]; rfl
    have hq9 : ([sO cy hh a kk dd b w ee qq ik] ++ (pS cy a S ++ ([ia cy (hh 1) 7 C, eO cy ee sa en tk va, pO cy ee (nI n)]))) = ([sO cy hh a kk dd b w ee qq ik] ++ (pS cy a S ++ ([ia cy (hh 1) 7 (fnd C (cCount x1)), eO cy ee sa en tk va, pO cy ee (nI n)]))) := congrArg (fun z9 => [sO cy hh a kk dd b w ee qq ik] ++ (pS cy a S ++ ([ia cy (hh 1) 7 z9, eO cy ee sa en tk va, pO cy ee (nI n)]))) (show C = (fnd C (cCount x1)) from fnd_o hcd)
    replace hP0 := (congrArg (fun z9 => va_P D vwCl z9 _) hq9).mp hP0
    replace hD0 := (congrArg (fun z9 => va_D _ z9) hq9).mp hD0
    clear hq9
    refine re_i () hx hb hr hlocks hP0 hD0 hS0 dX6_count_78 ?_
    exact (ans_o hcd (by rw [c_1_3]; rfl))
  by_cases c_1_4 : x1 = 4
  · refine tp c_1_4 ?_
    refine lv_tableIn (off := 78) (tgt := 79) hx hb dX6_count_1 (by decide) (by decide) (by decide) (by decide) ?_
    refine lv_aload_n hx hb dX6_count_79 rfl (lv_at hl0 0 rfl) ?_
    refine va_get (D := D) (ci := 6) (v := .ref (a 0)) (C := RX6) (T := TX6) (N := 9) hx hb hw iX6 hown hK hP0 0 rfl rfl 0 (by decide) (hw _ kw_2_27) (fun _ h9 => h9) rfl dX6_count_80 ?_
    refine va_get (D := D) (ci := 1) (v := .int (S 8)) (C := RX1) (T := TX1) (N := 12) hx hb hw iX1 hown hK hP0 1 rfl rfl 11 (by decide) (hw _ kw_1_66) (fun _ h9 => h9) rfl dX6_count_83 ?_
    have hcd : cCount x1 = 7 := by rw [c_1_4]; rfl
    have hq9 : ([sO cy hh a kk dd b w ee qq ik] ++ (pS cy a S ++ ([ia cy (hh 1) 7 C, eO cy ee sa en tk va, pO cy ee (nI n)]))) = ([sO cy hh a kk dd b w ee qq ik] ++ (pS cy a S ++ ([ia cy (hh 1) 7 (fnd C (cCount x1)), eO cy ee sa en tk va, pO cy ee (nI n)]))) := congrArg (fun z9 => [sO cy hh a kk dd b w ee qq ik] ++ (pS cy a S ++ ([ia cy (hh 1) 7 z9, eO cy ee sa en tk va, pO cy ee (nI n)]))) (show C = (fnd C (cCount x1)) from fnd_o hcd)
    replace hP0 := (congrArg (fun z9 => va_P D vwCl z9 _) hq9).mp hP0
    replace hD0 := (congrArg (fun z9 => va_D _ z9) hq9).mp hD0
    clear hq9
    refine re_i () hx hb hr hlocks hP0 hD0 hS0 dX6_count_86 ?_
    exact (ans_o hcd (by rw [c_1_4]; rfl))
  by_cases c_1_5 : x1 = 5
  · refine tp c_1_5 ?_
    refine lv_tableIn (off := 86) (tgt := 87) hx hb dX6_count_1 (by decide) (by decide) (by decide) (by decide) ?_
    refine lv_aload_n hx hb dX6_count_87 rfl (lv_at hl0 0 rfl) ?_
    refine va_get (D := D) (ci := 6) (v := .ref (a 0)) (C := RX6) (T := TX6) (N := 9) hx hb hw iX6 hown hK hP0 0 rfl rfl 0 (by decide) (hw _ kw_2_27) (fun _ h9 => h9) rfl dX6_count_88 ?_
    refine rV_i (wc := pS cy a S) (rest := []) hx hb hml hown hw hG hK hP0 hS0 hA hl0 kc_X1_allWidths kw_4_46 [] (c_X1_allWidths l D cy G H0.size a S (gcN S) (wf_g wf) hg20) [1, 2, 3, 4, 5, 6, 7, 8, 9, 10] rfl 0 rfl rfl rfl rfl rfl (Nat.le_of_ble_eq_true rfl) ⟨Nat.le_of_ble_eq_true rfl, Nat.le_of_ble_eq_true rfl⟩ dX6_count_91 ⟨Nat.le_of_ble_eq_true rfl, Nat.le_of_ble_eq_true rfl⟩ (fun r_91 H1 locs1 hr_91 hP1 hS1 => ?_)
    have hD1 := hD0
    clear hP0 hD0 hS0 locs0 H0
    subst hr_91
    have hcd : cCount x1 = 7 := by rw [c_1_5]; rfl
    have hq9 : ([sO cy hh a kk dd b w ee qq ik] ++ (pS cy a S ++ ([ia cy (hh 1) 7 C, eO cy ee sa en tk va, pO cy ee (nI n)]))) = ([sO cy hh a kk dd b w ee qq ik] ++ (pS cy a S ++ ([ia cy (hh 1) 7 (fnd C (cCount x1)), eO cy ee sa en tk va, pO cy ee (nI n)]))) := congrArg (fun z9 => [sO cy hh a kk dd b w ee qq ik] ++ (pS cy a S ++ ([ia cy (hh 1) 7 z9, eO cy ee sa en tk va, pO cy ee (nI n)]))) (show C = (fnd C (cCount x1)) from fnd_o hcd)
    replace hP1 := (congrArg (fun z9 => va_P D vwCl z9 _) hq9).mp hP1
    replace hD1 := (congrArg (fun z9 => va_D _ z9) hq9).mp hD1
    clear hq9
    refine re_i () hx hb hr hlocks hP1 hD1 hS1 dX6_count_94 ?_
    exact (ans_o hcd (by rw [c_1_5]; rfl))
  by_cases c_1_6 : x1 = 6
  · refine tp c_1_6 ?_
    refine lv_tableIn (off := 94) (tgt := 95) hx hb dX6_count_1 (by decide) (by decide) (by decide) (by decide) ?_
    refine lv_aload_n hx hb dX6_count_95 rfl (lv_at hl0 0 rfl) ?_
    refine va_get (D := D) (ci := 6) (v := .ref (a 0)) (C := RX6) (T := TX6) (N := 9) hx hb hw iX6 hown hK hP0 0 rfl rfl 0 (by decide) (hw _ kw_2_27) (fun _ h9 => h9) rfl dX6_count_96 ?_
    refine rV_i (wc := pS cy a S) (rest := []) hx hb hml hown hw hG hK hP0 hS0 hA hl0 kc_X1_openCosts kw_4_50 [] (c_X1_openCosts l D cy G H0.size a S (gcN S) (wf_g wf) hg20) [1, 2, 3, 4, 5, 6, 7, 8, 9, 10] rfl 0 rfl rfl rfl rfl rfl (Nat.le_of_ble_eq_true rfl) ⟨Nat.le_of_ble_eq_true rfl, Nat.le_of_ble_eq_true rfl⟩ dX6_count_99 ⟨Nat.le_of_ble_eq_true rfl, Nat.le_of_ble_eq_true rfl⟩ (fun r_99 H1 locs1 hr_99 hP1 hS1 => ?_)
    have hD1 := hD0
    clear hP0 hD0 hS0 locs0 H0
    subst hr_99
    have hcd : cCount x1 = 7 := by rw [c_1_6]; rfl
    have hq9 : ([sO cy hh a kk dd b w ee qq ik] ++ (pS cy a S ++ ([ia cy (hh 1) 7 C, eO cy ee sa en tk va, pO cy ee (nI n)]))) = ([sO cy hh a kk dd b w ee qq ik] ++ (pS cy a S ++ ([ia cy (hh 1) 7 (fnd C (cCount x1)), eO cy ee sa en tk va, pO cy ee (nI n)]))) := congrArg (fun z9 => [sO cy hh a kk dd b w ee qq ik] ++ (pS cy a S ++ ([ia cy (hh 1) 7 z9, eO cy ee sa en tk va, pO cy ee (nI n)]))) (show C = (fnd C (cCount x1)) from fnd_o hcd)
    replace hP1 := (congrArg (fun z9 => va_P D vwCl z9 _) hq9).mp hP1
    replace hD1 := (congrArg (fun z9 => va_D _ z9) hq9).mp hD1
    clear hq9
    refine re_i () hx hb hr hlocks hP1 hD1 hS1 dX6_count_102 ?_
    exact (ans_o hcd (by rw [c_1_6]; rfl))
  refine lv_tableOut (tgt := 103) hx hb dX6_count_1 (sw_out 0 6 (fun v h1 h2 e => ?_)) (by decide) ?_
  · have e := Int32.toInt_inj.mp (e.trans (show v = ((Int32.ofInt v).toInt) from by rcases (show v = 0 ∨ v = 1 ∨ v = 2 ∨ v = 3 ∨ v = 4 ∨ v = 5 ∨ v = 6 by omega) with rfl | rfl | rfl | rfl | rfl | rfl | rfl <;> rfl))
    rcases (show v = 0 ∨ v = 1 ∨ v = 2 ∨ v = 3 ∨ v = 4 ∨ v = 5 ∨ v = 6 by omega) with rfl | rfl | rfl | rfl | rfl | rfl | rfl
    · exact c_1_0 e
    · exact c_1_1 e
    · exact c_1_2 e
    · exact c_1_3 e
    · exact c_1_4 e
    · exact c_1_5 e
    · exact c_1_6 e
  · refine lv_aload_n hx hb dX6_count_103 rfl (lv_at hl0 0 rfl) ?_
    refine lv_iconst (v := 0) hx hb dX6_count_104 (by decide) ?_
    refine cV_i (wc := [sO cy hh a kk dd b w ee qq ik, ia cy (hh 1) 7 C]) (wr := pS cy a S ++ ([eO cy ee sa en tk va, pO cy ee (nI n)])) (rest := []) hx hb hml hown hw hG hK hP0 hD0 hS0 hA hl0 kc_X6_find kw_2_59 [.int 0] (c_X6_find l D cy G H0.size hh a kk dd b w ee qq ik C 0 (by first | omega | assumption)) [0, 11] [1, 2, 3, 4, 5, 6, 7, 8, 9, 10, 12, 13] rfl rfl rfl rfl rfl 0 rfl rfl rfl rfl rfl (Nat.le_of_ble_eq_true rfl) ⟨Nat.le_of_ble_eq_true rfl, Nat.le_of_ble_eq_true rfl⟩ dX6_count_105 ⟨Nat.le_of_ble_eq_true rfl, Nat.le_of_ble_eq_true rfl⟩ (fun r_105 u9 H1 locs1 hu9 hP1 hD1 hS1 => ?_)
    clear hP0 hD0 hS0 locs0 H0
    have hr_105 := hu9
    replace hP1 : va_P D vwCl (pS cy a S ++ ([eO cy ee sa en tk va, pO cy ee (nI n), sO cy hh a kk dd b w ee qq ik, ia cy (hh 1) 7 (upd C 0 (C 0 + 1))])) H1 := hP1
    replace hD1 : va_D (va_A _ sz) (pS cy a S ++ ([eO cy ee sa en tk va, pO cy ee (nI n), sO cy hh a kk dd b w ee qq ik, ia cy (hh 1) 7 (upd C 0 (C 0 + 1))])) := hD1
    replace hP1 := hP1.sub (ws' := [sO cy hh a kk dd b w ee qq ik] ++ (pS cy a S ++ ([ia cy (hh 1) 7 (upd C 0 (C 0 + 1)), eO cy ee sa en tk va, pO cy ee (nI n)]))) [12, 0, 1, 2, 3, 4, 5, 6, 7, 8, 9, 13, 10, 11] rfl
    replace hD1 := hD1.sub (ws' := [sO cy hh a kk dd b w ee qq ik] ++ (pS cy a S ++ ([ia cy (hh 1) 7 (upd C 0 (C 0 + 1)), eO cy ee sa en tk va, pO cy ee (nI n)]))) [12, 0, 1, 2, 3, 4, 5, 6, 7, 8, 9, 13, 10, 11] (by decide) rfl
    subst hr_105
    have hcd : cCount x1 = 0 := cCount_0 c_1_0 c_1_1 c_1_2 c_1_3 c_1_4 c_1_5 c_1_6
    have hq9 : ([sO cy hh a kk dd b w ee qq ik] ++ (pS cy a S ++ ([ia cy (hh 1) 7 (upd C 0 (C 0 + 1)), eO cy ee sa en tk va, pO cy ee (nI n)]))) = ([sO cy hh a kk dd b w ee qq ik] ++ (pS cy a S ++ ([ia cy (hh 1) 7 (fnd C (cCount x1)), eO cy ee sa en tk va, pO cy ee (nI n)]))) := congrArg (fun z9 => [sO cy hh a kk dd b w ee qq ik] ++ (pS cy a S ++ ([ia cy (hh 1) 7 z9, eO cy ee sa en tk va, pO cy ee (nI n)]))) (show (upd C 0 (C 0 + 1)) = (fnd C (cCount x1)) from fnd_f hcd (by decide))
    replace hP1 := (congrArg (fun z9 => va_P D vwCl z9 _) hq9).mp hP1
    replace hD1 := (congrArg (fun z9 => va_D _ z9) hq9).mp hD1
    clear hq9
    refine re_i () hx hb hr hlocks hP1 hD1 hS1 dX6_count_108 ?_
    exact (ans_f hcd (by decide) rfl)

theorem kc_X6_status : kV yX6_status cX6_status 4 (some .int) 1 := ⟨kw_4_55, kw_4_56, kw_1_1, kw_4_57, by decide, by decide, by decide +kernel⟩
set_option maxHeartbeats 4000000 in
set_option maxRecDepth 100000 in
theorem c_X6_status (l : Launch) (D : va_G) (cy : Nat → ClassId) (G : Nat → Nat) (sz : Nat) (hh : Nat → Nat) (a : Nat → Nat) (kk : Nat → Nat) (dd : Nat → Nat) (b : Nat → Nat) (w : Nat → Nat) (ee : Nat → Nat) (qq : Nat → Nat) (ik : Int32) (C : Nat → Int32) (x1 : Int32)  : Met l yX6_status (wm yX6_status cX6_status 4 (some .int)) { frames := 1, cells := 0, slots := 0, locals := 21 } (va_Pc [.ref (hh 0), .int x1] (pr D (TY cy) G ([sO cy hh a kk dd b w ee qq ik, ia cy (hh 1) 7 C]) sz)) (va_Qi (fun (r : Int32) (u : Unit) => r = ans (cStatus x1) (vStatus C x1)) (fun (u : Unit) t => po D (va_A ([sO cy hh a kk dd b w ee qq ik, ia cy (hh 1) 7 C]) sz) ([sO cy hh a kk dd b w ee qq ik, ia cy (hh 1) 7 (fnd C (cStatus x1))]) t) (va_A ([sO cy hh a kk dd b w ee qq ik, ia cy (hh 1) 7 C]) sz)) 0 0 (va_A ([sO cy hh a kk dd b w ee qq ik, ia cy (hh 1) 7 C]) sz) := by
  refine mk_rw (by decide) RX6 rfl (Nat.le_of_ble_eq_true rfl) [(0, .ref (hh 0)), (1, .int x1)] rfl ?_
  intro p e s m below meth c hx hb hml hown hr hlocks hin hw hsz hA hG hK H0 locs0 hP0 hD0 hS0 ls0 hl0
  clear hin
  refine lv_iload_n hx hb dX6_status_0 rfl (lv_at hl0 1 rfl) ?_
  refine lv_iconst (v := (-1)) hx hb dX6_status_1 (by decide) ?_
  refine lv_icmp_lt (tgt := 11) hx hb dX6_status_2 (by decide) (fun c_2 => ?_) (fun c_2 => ?_)
  · refine lv_aload_n hx hb dX6_status_11 rfl (lv_at hl0 0 rfl) ?_
    refine lv_iconst (v := 0) hx hb dX6_status_12 (by decide) ?_
    refine cV_i (wc := [sO cy hh a kk dd b w ee qq ik, ia cy (hh 1) 7 C]) (wr := []) (rest := []) hx hb hml hown hw hG hK hP0 hD0 hS0 hA hl0 kc_X6_find kw_2_59 [.int 0] (c_X6_find l D cy G H0.size hh a kk dd b w ee qq ik C 0 (by first | omega | assumption)) [0, 1] [] rfl rfl rfl rfl rfl 0 rfl rfl rfl rfl rfl (Nat.le_of_ble_eq_true rfl) ⟨Nat.le_of_ble_eq_true rfl, Nat.le_of_ble_eq_true rfl⟩ dX6_status_13 ⟨Nat.le_of_ble_eq_true rfl, Nat.le_of_ble_eq_true rfl⟩ (fun r_13 u9 H1 locs1 hu9 hP1 hD1 hS1 => ?_)
    clear hP0 hD0 hS0 locs0 H0
    have hr_13 := hu9
    replace hP1 : va_P D vwCl ([sO cy hh a kk dd b w ee qq ik, ia cy (hh 1) 7 (upd C 0 (C 0 + 1))]) H1 := hP1
    replace hD1 : va_D (va_A _ sz) ([sO cy hh a kk dd b w ee qq ik, ia cy (hh 1) 7 (upd C 0 (C 0 + 1))]) := hD1
    subst hr_13
    have hcd : cStatus x1 = 0 := by unfold cStatus; clear hx hb hml hown hr hlocks hw hsz hA hG hK hP1 hD1 hS1 hl0; grind
    have hq9 : ([sO cy hh a kk dd b w ee qq ik, ia cy (hh 1) 7 (upd C 0 (C 0 + 1))]) = ([sO cy hh a kk dd b w ee qq ik, ia cy (hh 1) 7 (fnd C (cStatus x1))]) := congrArg (fun z9 => [sO cy hh a kk dd b w ee qq ik, ia cy (hh 1) 7 z9]) (show (upd C 0 (C 0 + 1)) = (fnd C (cStatus x1)) from fnd_f hcd (by decide))
    replace hP1 := (congrArg (fun z9 => va_P D vwCl z9 _) hq9).mp hP1
    replace hD1 := (congrArg (fun z9 => va_D _ z9) hq9).mp hD1
    clear hq9
    refine re_i () hx hb hr hlocks hP1 hD1 hS1 dX6_status_16 ?_
    exact (ans_f hcd (by decide) rfl)
  · refine lv_iload_n hx hb dX6_status_5 rfl (lv_at hl0 1 rfl) ?_
    refine lv_bipush (v := 7) hx hb dX6_status_6 (by decide) ?_
    refine lv_icmp_lt (tgt := 17) hx hb dX6_status_8 (by decide) (fun c_8 => ?_) (fun c_8 => ?_)
    · refine lv_iload_n hx hb dX6_status_17 rfl (lv_at hl0 1 rfl) ?_
      refine lv_if_lt (tgt := 28) hx hb dX6_status_18 (by decide) (fun c_18 => ?_) (fun c_18 => ?_)
      · refine lv_iconst (v := 0) hx hb dX6_status_28 (by decide) ?_
        refine lv_istore_n (lv' := [(2, .int 0), (0, .ref (hh 0)), (1, .int x1)]) hx hb dX6_status_29 rfl hl0 (by decide) rfl (fun ls1 hl1 => ?_)
        clear hl0 ls0
        refine lv_iconst (v := 0) hx hb dX6_status_30 (by decide) ?_
        refine lv_istore_n (lv' := [(3, .int 0), (2, .int 0), (0, .ref (hh 0)), (1, .int x1)]) hx hb dX6_status_31 rfl hl1 (by decide) rfl (fun ls2 hl2 => ?_)
        clear hl1 ls1
        refine wlp (ι := Nat) (nL := 4) (fun x9 => (x9 ≤ 7)) (fun x9 => [sO cy hh a kk dd b w ee qq ik, ia cy (hh 1) 7 C]) (fun x9 => [(3, .int (nI x9)), (2, .int (sm C x9)), (0, .ref (hh 0)), (1, .int x1)]) (fun x9 => []) (fun x9 => 7 - x9) 32 ?_ 0 (by first | omega | assumption | rfl | simp_all) rfl hP0 hD0 hS0 (lv_sub hl2 [0, 1, 2, 3] rfl)
        clear hP0 hD0 hS0 locs0 H0 hl2 ls2
        intro x9 hI ih_32 H1 locs1 ls3 hP1 hD1 hS1 hl3
        obtain ⟨i, rfl⟩ : ∃ z9, z9 = x9 := ⟨_, rfl⟩
        have hi := hI
        replace hi : i ≤ 7 := hi
        replace hP1 : va_P D vwCl ([sO cy hh a kk dd b w ee qq ik, ia cy (hh 1) 7 C]) H1 := hP1
        replace hD1 : va_D (va_A _ sz) ([sO cy hh a kk dd b w ee qq ik, ia cy (hh 1) 7 C]) := hD1
        replace hl3 : lv_has ls3 4 [(3, .int (nI i)), (2, .int (sm C i)), (0, .ref (hh 0)), (1, .int x1)] := hl3
        show W p l e _ s m _ below meth c _ _ _ _ _ (F0 m 32 ls3 [])
        refine lv_iload_n hx hb dX6_status_32 rfl (lv_at hl3 0 rfl) ?_
        refine lv_bipush (v := 7) hx hb dX6_status_33 (by decide) ?_
        refine ln_ge (tgt := 53) i 7 rfl rfl (by omega) (by omega) hx hb dX6_status_35 (by decide) (fun c_35 => ?_) (fun c_35 => ?_)
        · obtain rfl : i = 7 := (by omega)
          refine lv_iload_n hx hb dX6_status_53 rfl (lv_at hl3 1 rfl) ?_
          have hcd : cStatus x1 = 7 := by unfold cStatus; clear hx hb hml hown hr hlocks hw hsz hA hG hK hP1 hD1 hS1 hl3 ih_32; grind
          have hq9 : ([sO cy hh a kk dd b w ee qq ik, ia cy (hh 1) 7 C]) = ([sO cy hh a kk dd b w ee qq ik, ia cy (hh 1) 7 (fnd C (cStatus x1))]) := congrArg (fun z9 => [sO cy hh a kk dd b w ee qq ik, ia cy (hh 1) 7 z9]) (show C = (fnd C (cStatus x1)) from fnd_o hcd)
          replace hP1 := (congrArg (fun z9 => va_P D vwCl z9 _) hq9).mp hP1
          replace hD1 := (congrArg (fun z9 => va_D _ z9) hq9).mp hD1
          clear hq9
          refine re_i () hx hb hr hlocks hP1 hD1 hS1 dX6_status_54 ?_
          exact (ans_o hcd (by unfold vStatus; rw [if_pos c_18]))
        · refine lv_iload_n hx hb dX6_status_38 rfl (lv_at hl3 1 rfl) ?_
          refine lv_aload_n hx hb dX6_status_39 rfl (lv_at hl3 2 rfl) ?_
          refine va_get (D := D) (ci := 6) (v := .ref (hh 1)) (C := RX6) (T := TX6) (N := 9) hx hb hw iX6 hown hK hP1 0 rfl rfl 8 (by decide) (hw _ kw_2_35) (fun _ h9 => h9) rfl dX6_status_40 ?_
          refine lv_iload_n hx hb dX6_status_43 rfl (lv_at hl3 0 rfl) ?_
          refine ald_i (f := C) hx hb hK hP1 1 0 rfl rfl i rfl (by first | omega | assumption) (by decide) dX6_status_44 ?_
          refine lv_iadd hx hb dX6_status_45 ?_
          refine lv_istore_n (lv' := [(2, .int ((sm C i) + (C i))), (3, .int (nI i)), (0, .ref (hh 0)), (1, .int x1)]) hx hb dX6_status_46 rfl hl3 (by decide) rfl (fun ls4 hl4 => ?_)
          clear hl3 ls3
          have hq9 : sm C (i + 1) = (sm C i) + (C i) := rfl
          replace hl4 : lv_has ls4 4 [(2, .int (sm C (i + 1))), (3, .int (nI i)), (0, .ref (hh 0)), (1, .int x1)] := (congrArg (fun z9 => lv_has ls4 4 [(2, .int z9), (3, .int (nI i)), (0, .ref (hh 0)), (1, .int x1)]) hq9).mpr hl4
          clear hq9
          refine lv_iinc (v := nI (i + 1)) (lv' := [(3, .int (nI (i + 1))), (2, .int (sm C (i + 1))), (0, .ref (hh 0)), (1, .int x1)]) hx hb dX6_status_47 hl4 (k := 1) rfl (nI_inc _) (by decide) rfl (fun ls5 hl5 => ?_)
          clear hl4 ls4
          refine lv_goto (tgt := 32) hx hb dX6_status_50 (by decide) ?_
          exact ih_32 (i + 1) (by first | omega | assumption | rfl | simp_all) (by (try dsimp only); omega) H1 locs1 ls5 hP1 hD1 hS1 (lv_sub hl5 [0, 1, 2, 3] rfl)
      · obtain ⟨k, hk, rfl⟩ := nI_rn (n := 7) (by decide) (x := x1) ⟨Int32.not_lt.mp c_18, c_8⟩
        have hbk : bstN (nI k) = k := bst_n (by omega)
        have hk0 : ¬ nI k < 0 := nI_pos (by omega)
        refine lv_aload_n hx hb dX6_status_21 rfl (lv_at hl0 0 rfl) ?_
        refine va_get (D := D) (ci := 6) (v := .ref (hh 1)) (C := RX6) (T := TX6) (N := 9) hx hb hw iX6 hown hK hP0 0 rfl rfl 8 (by decide) (hw _ kw_2_35) (fun _ h9 => h9) rfl dX6_status_22 ?_
        refine lv_iload_n hx hb dX6_status_25 rfl (lv_at hl0 1 rfl) ?_
        refine ald_i (f := C) hx hb hK hP0 1 0 rfl rfl k rfl (by first | omega | assumption) (by decide) dX6_status_26 ?_
        have hcd : cStatus (nI k) = 7 := by unfold cStatus; clear hx hb hml hown hr hlocks hw hsz hA hG hK hP0 hD0 hS0 hl0; grind
        have hq9 : ([sO cy hh a kk dd b w ee qq ik, ia cy (hh 1) 7 C]) = ([sO cy hh a kk dd b w ee qq ik, ia cy (hh 1) 7 (fnd C (cStatus (nI k)))]) := congrArg (fun z9 => [sO cy hh a kk dd b w ee qq ik, ia cy (hh 1) 7 z9]) (show C = (fnd C (cStatus (nI k))) from fnd_o hcd)
        replace hP0 := (congrArg (fun z9 => va_P D vwCl z9 _) hq9).mp hP0
        replace hD0 := (congrArg (fun z9 => va_D _ z9) hq9).mp hD0
        clear hq9
        refine re_i () hx hb hr hlocks hP0 hD0 hS0 dX6_status_27 ?_
        exact (ans_o hcd (by unfold vStatus; rw [hbk, if_neg hk0]))
    · refine lv_aload_n hx hb dX6_status_11 rfl (lv_at hl0 0 rfl) ?_
      refine lv_iconst (v := 0) hx hb dX6_status_12 (by decide) ?_
      refine cV_i (wc := [sO cy hh a kk dd b w ee qq ik, ia cy (hh 1) 7 C]) (wr := []) (rest := []) hx hb hml hown hw hG hK hP0 hD0 hS0 hA hl0 kc_X6_find kw_2_59 [.int 0] (c_X6_find l D cy G H0.size hh a kk dd b w ee qq ik C 0 (by first | omega | assumption)) [0, 1] [] rfl rfl rfl rfl rfl 0 rfl rfl rfl rfl rfl (Nat.le_of_ble_eq_true rfl) ⟨Nat.le_of_ble_eq_true rfl, Nat.le_of_ble_eq_true rfl⟩ dX6_status_13 ⟨Nat.le_of_ble_eq_true rfl, Nat.le_of_ble_eq_true rfl⟩ (fun r_13 u9 H1 locs1 hu9 hP1 hD1 hS1 => ?_)
      clear hP0 hD0 hS0 locs0 H0
      have hr_13 := hu9
      replace hP1 : va_P D vwCl ([sO cy hh a kk dd b w ee qq ik, ia cy (hh 1) 7 (upd C 0 (C 0 + 1))]) H1 := hP1
      replace hD1 : va_D (va_A _ sz) ([sO cy hh a kk dd b w ee qq ik, ia cy (hh 1) 7 (upd C 0 (C 0 + 1))]) := hD1
      subst hr_13
      have hcd : cStatus x1 = 0 := by unfold cStatus; clear hx hb hml hown hr hlocks hw hsz hA hG hK hP1 hD1 hS1 hl0; grind
      have hq9 : ([sO cy hh a kk dd b w ee qq ik, ia cy (hh 1) 7 (upd C 0 (C 0 + 1))]) = ([sO cy hh a kk dd b w ee qq ik, ia cy (hh 1) 7 (fnd C (cStatus x1))]) := congrArg (fun z9 => [sO cy hh a kk dd b w ee qq ik, ia cy (hh 1) 7 z9]) (show (upd C 0 (C 0 + 1)) = (fnd C (cStatus x1)) from fnd_f hcd (by decide))
      replace hP1 := (congrArg (fun z9 => va_P D vwCl z9 _) hq9).mp hP1
      replace hD1 := (congrArg (fun z9 => va_D _ z9) hq9).mp hD1
      clear hq9
      refine re_i () hx hb hr hlocks hP1 hD1 hS1 dX6_status_16 ?_
      exact (ans_f hcd (by decide) rfl)
