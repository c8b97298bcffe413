theorem kc_X7_item : kV yX7_item cX7_item 2 none 0 := ⟨kw_5_11, kw_s_38, kw_1_8, kw_5_12, by decide, by decide, by decide +kernel⟩
set_option maxHeartbeats 4000000 in
set_option maxRecDepth 100000 in
theorem c_X7_item (l : Launch) (D : va_G) (cy : Nat → ClassId) (G : Nat → Nat) (sz : Nat) (mm : Nat → Nat) (ik : Int32) (vl : Int32) (rm : Int32) (rr : Int32) (om : Int32) (n : Nat) (T : Nat → Int32) (S : Nat → Int32) (rq : Bool × Nat) (wf : wf S) (hn : n ≤ 120) (hs : rq.2 ≤ n) : Met l yX7_item (wm yX7_item cX7_item 2 none) { frames := 7, cells := 0, slots := 0, locals := 162 } (va_Pc [.ref (mm 0)] (pr D (TY cy) G ([mO cy mm ik (nI n) (nI (rq.2)) (nI (te T n (rq.2))) vl (b2i (rq.1 = true)) rm rr om, ia cy (mm 1) 169 S, ia cy (mm 5) 120 T]) sz)) (va_Qv (fun (u : Int32) => True) (fun (u : Int32) t => po D (va_A ([mO cy mm ik (nI n) (nI (rq.2)) (nI (te T n (rq.2))) vl (b2i (rq.1 = true)) rm rr om, ia cy (mm 1) 169 S, ia cy (mm 5) 120 T]) sz) ([mO cy mm ik (nI n) (nI ((imR T n S rq).2)) (nI (te T n ((imR T n S rq).2))) u (b2i ((imR T n S rq).1 = true)) rm rr om, ia cy (mm 1) 169 (imS T n S rq), ia cy (mm 5) 120 T]) t) (va_A ([mO cy mm ik (nI n) (nI (rq.2)) (nI (te T n (rq.2))) vl (b2i (rq.1 = true)) rm rr om, ia cy (mm 1) 169 S, ia cy (mm 5) 120 T]) sz)) 0 0 (va_A ([mO cy mm ik (nI n) (nI (rq.2)) (nI (te T n (rq.2))) vl (b2i (rq.1 = true)) rm rr om, ia cy (mm 1) 169 S, ia cy (mm 5) 120 T]) sz) := by
  refine mk_rw (by decide) RX7 rfl (Nat.le_of_ble_eq_true rfl) [(0, .ref (mm 0))] rfl ?_
  intro p e s m below meth c hx hb hml hown hr hlocks hin hw hsz hA hG hK H0 locs0 hP0 hD0 hS0 ls0 hl0
  clear hin
  have hr6 := wf_r6 wf
  refine lv_aload_n hx hb dX7_item_0 rfl (lv_at hl0 0 rfl) ?_
  refine rV_i (wc := [mO cy mm ik (nI n) (nI (rq.2)) (nI (te T n (rq.2))) vl (b2i (rq.1 = true)) rm rr om, ia cy (mm 5) 120 T]) (rest := []) hx hb hml hown hw hG hK hP0 hS0 hA hl0 kc_X7_kindHere kw_5_13 [] (c_X7_kindHere l D cy G H0.size mm ik vl rm rr om n T rq (by first | omega | assumption) (by first | omega | assumption)) [0, 2] rfl 0 rfl rfl rfl rfl rfl (Nat.le_of_ble_eq_true rfl) ⟨Nat.le_of_ble_eq_true rfl, Nat.le_of_ble_eq_true rfl⟩ dX7_item_1 ⟨Nat.le_of_ble_eq_true rfl, Nat.le_of_ble_eq_true rfl⟩ (fun r_1 H1 locs1 hr_1 hP1 hS1 => ?_)
  have hD1 := hD0
  clear hP0 hD0 hS0 locs0 H0
  subst hr_1
  refine lv_istore_n (lv' := [(1, .int (kndR T n rq)), (0, .ref (mm 0))]) hx hb dX7_item_4 rfl hl0 (by decide) rfl (fun ls1 hl1 => ?_)
  clear hl0 ls0
  refine lv_iload_n hx hb dX7_item_5 rfl (lv_at hl1 0 rfl) ?_
  refine lv_if_lt (tgt := 17) hx hb dX7_item_6 (by decide) (fun c_6 => ?_) (fun c_6 => ?_)
  · refine lv_aload_n hx hb dX7_item_17 rfl (lv_at hl1 1 rfl) ?_
    refine lv_bipush (v := 114) hx hb dX7_item_18 (by decide) ?_
    refine lv_bipush (v := 111) hx hb dX7_item_20 (by decide) ?_
    refine lv_bipush (v := 111) hx hb dX7_item_22 (by decide) ?_
    refine lv_bipush (v := 109) hx hb dX7_item_24 (by decide) ?_
    refine lv_iconst (v := 0) hx hb dX7_item_26 (by decide) ?_
    refine lv_iconst (v := 0) hx hb dX7_item_27 (by decide) ?_
    refine lv_iconst (v := 0) hx hb dX7_item_28 (by decide) ?_
    refine rV_i (wc := [mO cy mm ik (nI n) (nI (rq.2)) (nI (te T n (rq.2))) vl (b2i (rq.1 = true)) rm rr om, ia cy (mm 5) 120 T]) (rest := []) hx hb hml hown hw hG hK hP1 hS1 hA hl1 kc_X7_isWord kw_5_17 [.int 114, .int 111, .int 111, .int 109, .int 0, .int 0, .int 0] (c_X7_isWord l D cy G H1.size mm ik vl rm rr om n T rq 0 114 111 111 109 0 0 0 (by first | omega | assumption) (by first | omega | assumption) (by decide) (by decide) (by decide) (by decide) (by decide) (by decide) (by decide) (by decide)) [0, 2] rfl 0 rfl rfl rfl rfl rfl (Nat.le_of_ble_eq_true rfl) ⟨Nat.le_of_ble_eq_true rfl, Nat.le_of_ble_eq_true rfl⟩ dX7_item_29 ⟨Nat.le_of_ble_eq_true rfl, Nat.le_of_ble_eq_true rfl⟩ (fun r_29 H2 locs2 hr_29 hP2 hS2 => ?_)
    have hD2 := hD1
    clear hP1 hD1 hS1 locs1 H1
    subst hr_29
    refine lb_eq (tgt := 79) hx hb dX7_item_32 (by decide) (fun c_32 => ?_) (fun c_32 => ?_)
    · refine lv_aload_n hx hb dX7_item_79 rfl (lv_at hl1 1 rfl) ?_
      refine cV_v (wc := [mO cy mm ik (nI n) (nI (rq.2)) (nI (te T n (rq.2))) vl (b2i (rq.1 = true)) rm rr om, ia cy (mm 1) 169 S, ia cy (mm 5) 120 T]) (wr := []) (rest := []) hx hb hml hown hw hG hK hP2 hD2 hS2 hA hl1 kc_X7_nightItem kw_5_45 [] (c_X7_nightItem l D cy G H2.size mm ik vl rm rr om n T S rq (by first | omega | assumption) (by first | omega | assumption) hs) [0, 1, 2] [] rfl rfl rfl rfl rfl 0 rfl rfl rfl rfl rfl (Nat.le_of_ble_eq_true rfl) ⟨Nat.le_of_ble_eq_true rfl, Nat.le_of_ble_eq_true rfl⟩ dX7_item_80 ⟨Nat.le_of_ble_eq_true rfl, Nat.le_of_ble_eq_true rfl⟩ (fun u9 H3 locs3 hu9 hP3 hD3 hS3 => ?_)
      clear hP2 hD2 hS2 locs2 H2
      obtain ⟨vl1_80, rfl⟩ : ∃ z9, z9 = u9 := ⟨_, rfl⟩
      replace hP3 : va_P D vwCl ([mO cy mm ik (nI n) (nI ((ntR T n rq).2)) (nI (te T n ((ntR T n rq).2))) vl1_80 (b2i ((ntR T n rq).1 = true)) rm rr om, ia cy (mm 1) 169 (if (ntR T n rq).1 = true then S else upd S (2 + bstN (prt T n (rq.2))) (nI (numV T n (nxt T n (rq.2))))), ia cy (mm 5) 120 T]) H3 := hP3
      replace hD3 : va_D (va_A _ sz) ([mO cy mm ik (nI n) (nI ((ntR T n rq).2)) (nI (te T n ((ntR T n rq).2))) vl1_80 (b2i ((ntR T n rq).1 = true)) rm rr om, ia cy (mm 1) 169 (if (ntR T n rq).1 = true then S else upd S (2 + bstN (prt T n (rq.2))) (nI (numV T n (nxt T n (rq.2))))), ia cy (mm 5) 120 T]) := hD3
      have hp9 : ntR T n rq = (imR T n S rq) := (im_night c_6 c_32).1
      have hq9 : ([mO cy mm ik (nI n) (nI ((ntR T n rq).2)) (nI (te T n ((ntR T n rq).2))) vl1_80 (b2i ((ntR T n rq).1 = true)) rm rr om, ia cy (mm 1) 169 (if (ntR T n rq).1 = true then S else upd S (2 + bstN (prt T n (rq.2))) (nI (numV T n (nxt T n (rq.2))))), ia cy (mm 5) 120 T]) = ([mO cy mm ik (nI n) (nI ((imR T n S rq).2)) (nI (te T n ((ntR T n rq).2))) vl1_80 (b2i ((ntR T n rq).1 = true)) rm rr om, ia cy (mm 1) 169 (if (ntR T n rq).1 = true then S else upd S (2 + bstN (prt T n (rq.2))) (nI (numV T n (nxt T n (rq.2))))), ia cy (mm 5) 120 T]) := congrArg (fun z9 => [mO cy mm ik (nI n) z9 (nI (te T n ((ntR T n rq).2))) vl1_80 (b2i ((ntR T n rq).1 = true)) rm rr om, ia cy (mm 1) 169 (if (ntR T n rq).1 = true then S else upd S (2 + bstN (prt T n (rq.2))) (nI (numV T n (nxt T n (rq.2))))), ia cy (mm 5) 120 T]) (show (nI ((ntR T n rq).2)) = (nI ((imR T n S rq).2)) from congrArg (fun z9 : Bool × Nat => nI (z9.2)) hp9)
      replace hP3 := (congrArg (fun z9 => va_P D vwCl z9 _) hq9).mp hP3
      replace hD3 := (congrArg (fun z9 => va_D _ z9) hq9).mp hD3
      clear hq9
      have hq9 : ([mO cy mm ik (nI n) (nI ((imR T n S rq).2)) (nI (te T n ((ntR T n rq).2))) vl1_80 (b2i ((ntR T n rq).1 = true)) rm rr om, ia cy (mm 1) 169 (if (ntR T n rq).1 = true then S else upd S (2 + bstN (prt T n (rq.2))) (nI (numV T n (nxt T n (rq.2))))), ia cy (mm 5) 120 T]) = ([mO cy mm ik (nI n) (nI ((imR T n S rq).2)) (nI (te T n ((imR T n S rq).2))) vl1_80 (b2i ((ntR T n rq).1 = true)) rm rr om, ia cy (mm 1) 169 (if (ntR T n rq).1 = true then S else upd S (2 + bstN (prt T n (rq.2))) (nI (numV T n (nxt T n (rq.2))))), ia cy (mm 5) 120 T]) := congrArg (fun z9 => [mO cy mm ik (nI n) (nI ((imR T n S rq).2)) z9 vl1_80 (b2i ((ntR T n rq).1 = true)) rm rr om, ia cy (mm 1) 169 (if (ntR T n rq).1 = true then S else upd S (2 + bstN (prt T n (rq.2))) (nI (numV T n (nxt T n (rq.2))))), ia cy (mm 5) 120 T]) (show (nI (te T n ((ntR T n rq).2))) = (nI (te T n ((imR T n S rq).2))) from congrArg (fun z9 : Bool × Nat => nI (te T n (z9.2))) hp9)
      replace hP3 := (congrArg (fun z9 => va_P D vwCl z9 _) hq9).mp hP3
      replace hD3 := (congrArg (fun z9 => va_D _ z9) hq9).mp hD3
      clear hq9
      have hq9 : ([mO cy mm ik (nI n) (nI ((imR T n S rq).2)) (nI (te T n ((imR T n S rq).2))) vl1_80 (b2i ((ntR T n rq).1 = true)) rm rr om, ia cy (mm 1) 169 (if (ntR T n rq).1 = true then S else upd S (2 + bstN (prt T n (rq.2))) (nI (numV T n (nxt T n (rq.2))))), ia cy (mm 5) 120 T]) = ([mO cy mm ik (nI n) (nI ((imR T n S rq).2)) (nI (te T n ((imR T n S rq).2))) vl1_80 (b2i ((imR T n S rq).1 = true)) rm rr om, ia cy (mm 1) 169 (if (ntR T n rq).1 = true then S else upd S (2 + bstN (prt T n (rq.2))) (nI (numV T n (nxt T n (rq.2))))), ia cy (mm 5) 120 T]) := congrArg (fun z9 => [mO cy mm ik (nI n) (nI ((imR T n S rq).2)) (nI (te T n ((imR T n S rq).2))) vl1_80 z9 rm rr om, ia cy (mm 1) 169 (if (ntR T n rq).1 = true then S else upd S (2 + bstN (prt T n (rq.2))) (nI (numV T n (nxt T n (rq.2))))), ia cy (mm 5) 120 T]) (show (b2i ((ntR T n rq).1 = true)) = (b2i ((imR T n S rq).1 = true)) from congrArg (fun z9 : Bool × Nat => b2i (z9.1 = true)) hp9)
      replace hP3 := (congrArg (fun z9 => va_P D vwCl z9 _) hq9).mp hP3
      replace hD3 := (congrArg (fun z9 => va_D _ z9) hq9).mp hD3
      clear hq9
      clear hp9
      have hq9 : ([mO cy mm ik (nI n) (nI ((imR T n S rq).2)) (nI (te T n ((imR T n S rq).2))) vl1_80 (b2i ((imR T n S rq).1 = true)) rm rr om, ia cy (mm 1) 169 (if (ntR T n rq).1 = true then S else upd S (2 + bstN (prt T n (rq.2))) (nI (numV T n (nxt T n (rq.2))))), ia cy (mm 5) 120 T]) = ([mO cy mm ik (nI n) (nI ((imR T n S rq).2)) (nI (te T n ((imR T n S rq).2))) vl1_80 (b2i ((imR T n S rq).1 = true)) rm rr om, ia cy (mm 1) 169 (imS T n S rq), ia cy (mm 5) 120 T]) := congrArg (fun z9 => [mO cy mm ik (nI n) (nI ((imR T n S rq).2)) (nI (te T n ((imR T n S rq).2))) vl1_80 (b2i ((imR T n S rq).1 = true)) rm rr om, ia cy (mm 1) 169 z9, ia cy (mm 5) 120 T]) (show (if (ntR T n rq).1 = true then S else upd S (2 + bstN (prt T n (rq.2))) (nI (numV T n (nxt T n (rq.2))))) = (imS T n S rq) from (im_night c_6 c_32).2)
      replace hP3 := (congrArg (fun z9 => va_P D vwCl z9 _) hq9).mp hP3
      replace hD3 := (congrArg (fun z9 => va_D _ z9) hq9).mp hD3
      clear hq9
      refine re_v vl1_80 hx hb hr hlocks hP3 hD3 hS3 dX7_item_83 ?_
      exact (trivial)
    · refine lv_aload_n hx hb dX7_item_35 rfl (lv_at hl1 1 rfl) ?_
      refine lv_aload_n hx hb dX7_item_36 rfl (lv_at hl1 1 rfl) ?_
      refine va_get (D := D) (ci := 7) (v := .ref (mm 1)) (C := RX7) (T := TX7) (N := 23) hx hb hw iX7 hown hK hP2 0 rfl rfl 0 (by decide) (hw _ kw_4_64) (fun _ h9 => h9) rfl dX7_item_37 ?_
      refine lv_iconst (v := 0) hx hb dX7_item_40 (by decide) ?_
      refine ald_i (f := S) hx hb hK hP2 1 0 rfl rfl 0 rfl (by first | omega | assumption) (by decide) dX7_item_41 ?_
      refine tp (show (S 0) = nI (rcN S) from wf_r wf) ?_
      refine lv_bipush (v := 6) hx hb dX7_item_42 (by decide) ?_
      refine ln_ge (tgt := 51) (rcN S) 6 rfl rfl (by omega) (by omega) hx hb dX7_item_44 (by decide) (fun c_44 => ?_) (fun c_44 => ?_)
      · refine lv_iconst (v := 0) hx hb dX7_item_51 (by decide) ?_
        refine tp (show (0) = b2i (decide (rcN S < 6) = true) from (b2i_f (fun z9 => absurd (of_decide_eq_true z9) (by omega))).symm) ?_
        refine cV_v (wc := [mO cy mm ik (nI n) (nI (rq.2)) (nI (te T n (rq.2))) vl (b2i (rq.1 = true)) rm rr om, ia cy (mm 5) 120 T]) (wr := [ia cy (mm 1) 169 S]) (rest := []) hx hb hml hown hw hG hK hP2 hD2 hS2 hA hl1 kc_X7_needs kw_5_29 [.int (b2i (decide (rcN S < 6) = true))] (c_X7_needs l D cy G H2.size mm ik vl rm rr om n T rq (decide (rcN S < 6)) (by first | omega | assumption) hs) [0, 2] [1] rfl rfl rfl rfl rfl 0 rfl rfl rfl rfl rfl (Nat.le_of_ble_eq_true rfl) ⟨Nat.le_of_ble_eq_true rfl, Nat.le_of_ble_eq_true rfl⟩ dX7_item_52 ⟨Nat.le_of_ble_eq_true rfl, Nat.le_of_ble_eq_true rfl⟩ (fun u9 H3 locs3 hu9 hP3 hD3 hS3 => ?_)
        clear hP2 hD2 hS2 locs2 H2
        replace hP3 : va_P D vwCl ([ia cy (mm 1) 169 S, mO cy mm ik (nI n) (nI ((ndR T n (decide (rcN S < 6)) rq).2)) (nI (te T n ((ndR T n (decide (rcN S < 6)) rq).2))) vl (b2i ((ndR T n (decide (rcN S < 6)) rq).1 = true)) rm rr om, ia cy (mm 5) 120 T]) H3 := hP3
        replace hD3 : va_D (va_A _ sz) ([ia cy (mm 1) 169 S, mO cy mm ik (nI n) (nI ((ndR T n (decide (rcN S < 6)) rq).2)) (nI (te T n ((ndR T n (decide (rcN S < 6)) rq).2))) vl (b2i ((ndR T n (decide (rcN S < 6)) rq).1 = true)) rm rr om, ia cy (mm 5) 120 T]) := hD3
        replace hP3 := hP3.sub (ws' := [mO cy mm ik (nI n) (nI ((ndR T n (decide (rcN S < 6)) rq).2)) (nI (te T n ((ndR T n (decide (rcN S < 6)) rq).2))) vl (b2i ((ndR T n (decide (rcN S < 6)) rq).1 = true)) rm rr om, ia cy (mm 1) 169 S, ia cy (mm 5) 120 T]) [1, 0, 2] rfl
        replace hD3 := hD3.sub (ws' := [mO cy mm ik (nI n) (nI ((ndR T n (decide (rcN S < 6)) rq).2)) (nI (te T n ((ndR T n (decide (rcN S < 6)) rq).2))) vl (b2i ((ndR T n (decide (rcN S < 6)) rq).1 = true)) rm rr om, ia cy (mm 1) 169 S, ia cy (mm 5) 120 T]) [1, 0, 2] (by decide) rfl
        refine lv_aload_n hx hb dX7_item_55 rfl (lv_at hl1 1 rfl) ?_
        refine va_get (D := D) (ci := 7) (v := .ref (mm 1)) (C := RX7) (T := TX7) (N := 23) hx hb hw iX7 hown hK hP3 0 rfl rfl 0 (by decide) (hw _ kw_4_64) (fun _ h9 => h9) rfl dX7_item_56 ?_
        refine lv_iconst (v := 0) hx hb dX7_item_59 (by decide) ?_
        refine lv_dup2_11 hx hb dX7_item_60 rfl rfl ?_
        refine ald_i (f := S) hx hb hK hP3 1 0 rfl rfl 0 rfl (by first | omega | assumption) (by decide) dX7_item_61 ?_
        refine tp (show (S 0) = nI (rcN S) from wf_r wf) ?_
        refine lv_aload_n hx hb dX7_item_62 rfl (lv_at hl1 1 rfl) ?_
        refine va_get (D := D) (ci := 7) (v := .int (b2i ((ndR T n (decide (rcN S < 6)) rq).1 = true))) (C := RX7) (T := TX7) (N := 23) hx hb hw iX7 hown hK hP3 0 rfl rfl 10 (by decide) (hw _ kw_4_74) (fun _ h9 => h9) rfl dX7_item_63 ?_
        refine lb_eq (tgt := 73) hx hb dX7_item_66 (by decide) (fun c_66 => ?_) (fun c_66 => ?_)
        · refine lv_iconst (v := 1) hx hb dX7_item_73 (by decide) ?_
          refine lv_iadd hx hb dX7_item_74 ?_
          refine tp (show ((nI (rcN S)) + 1) = nI (rcN S + 1) from nI_add _ _) ?_
          refine ast_i (f := S) (ws' := [mO cy mm ik (nI n) (nI ((ndR T n (decide (rcN S < 6)) rq).2)) (nI (te T n ((ndR T n (decide (rcN S < 6)) rq).2))) vl (b2i ((ndR T n (decide (rcN S < 6)) rq).1 = true)) rm rr om, ia cy (mm 1) 169 (upd S 0 (nI (rcN S + 1))), ia cy (mm 5) 120 T]) hx hb hK hP3 hD3 hS3 1 0 rfl rfl 0 rfl (by first | omega | assumption) (by decide) rfl dX7_item_75 (fun H4 locs4 hP4 hD4 hS4 => ?_)
          clear hP3 hD3 hS3 locs3 H3
          have hq9 : ([mO cy mm ik (nI n) (nI ((ndR T n (decide (rcN S < 6)) rq).2)) (nI (te T n ((ndR T n (decide (rcN S < 6)) rq).2))) vl (b2i ((ndR T n (decide (rcN S < 6)) rq).1 = true)) rm rr om, ia cy (mm 1) 169 (upd S 0 (nI (rcN S + 1))), ia cy (mm 5) 120 T]) = ([mO cy mm ik (nI n) (nI ((ndR T n (decide (rcN S < 6)) rq).2)) (nI (te T n ((ndR T n (decide (rcN S < 6)) rq).2))) vl (b2i ((ndR T n (decide (rcN S < 6)) rq).1 = true)) rm rr om, ia cy (mm 1) 169 (if (ndR T n (decide (rcN S < 6)) rq).1 = true then S else upd S 0 (nI (rcN S + 1))), ia cy (mm 5) 120 T]) := congrArg (fun z9 => [mO cy mm ik (nI n) (nI ((ndR T n (decide (rcN S < 6)) rq).2)) (nI (te T n ((ndR T n (decide (rcN S < 6)) rq).2))) vl (b2i ((ndR T n (decide (rcN S < 6)) rq).1 = true)) rm rr om, ia cy (mm 1) 169 z9, ia cy (mm 5) 120 T]) (show (upd S 0 (nI (rcN S + 1))) = (if (ndR T n (decide (rcN S < 6)) rq).1 = true then S else upd S 0 (nI (rcN S + 1))) from (if_neg c_66).symm)
          replace hP4 := (congrArg (fun z9 => va_P D vwCl z9 _) hq9).mp hP4
          replace hD4 := (congrArg (fun z9 => va_D _ z9) hq9).mp hD4
          clear hq9
          have hp9 : ndR T n (decide (rcN S < 6)) rq = (imR T n S rq) := (im_room c_32).1
          have hq9 : ([mO cy mm ik (nI n) (nI ((ndR T n (decide (rcN S < 6)) rq).2)) (nI (te T n ((ndR T n (decide (rcN S < 6)) rq).2))) vl (b2i ((ndR T n (decide (rcN S < 6)) rq).1 = true)) rm rr om, ia cy (mm 1) 169 (if (ndR T n (decide (rcN S < 6)) rq).1 = true then S else upd S 0 (nI (rcN S + 1))), ia cy (mm 5) 120 T]) = ([mO cy mm ik (nI n) (nI ((imR T n S rq).2)) (nI (te T n ((ndR T n (decide (rcN S < 6)) rq).2))) vl (b2i ((ndR T n (decide (rcN S < 6)) rq).1 = true)) rm rr om, ia cy (mm 1) 169 (if (ndR T n (decide (rcN S < 6)) rq).1 = true then S else upd S 0 (nI (rcN S + 1))), ia cy (mm 5) 120 T]) := congrArg (fun z9 => [mO cy mm ik (nI n) z9 (nI (te T n ((ndR T n (decide (rcN S < 6)) rq).2))) vl (b2i ((ndR T n (decide (rcN S < 6)) rq).1 = true)) rm rr om, ia cy (mm 1) 169 (if (ndR T n (decide (rcN S < 6)) rq).1 = true then S else upd S 0 (nI (rcN S + 1))), ia cy (mm 5) 120 T]) (show (nI ((ndR T n (decide (rcN S < 6)) rq).2)) = (nI ((imR T n S rq).2)) from congrArg (fun z9 : Bool × Nat => nI (z9.2)) hp9)
          replace hP4 := (congrArg (fun z9 => va_P D vwCl z9 _) hq9).mp hP4
          replace hD4 := (congrArg (fun z9 => va_D _ z9) hq9).mp hD4
          clear hq9
          have hq9 : ([mO cy mm ik (nI n) (nI ((imR T n S rq).2)) (nI (te T n ((ndR T n (decide (rcN S < 6)) rq).2))) vl (b2i ((ndR T n (decide (rcN S < 6)) rq).1 = true)) rm rr om, ia cy (mm 1) 169 (if (ndR T n (decide (rcN S < 6)) rq).1 = true then S else upd S 0 (nI (rcN S + 1))), ia cy (mm 5) 120 T]) = ([mO cy mm ik (nI n) (nI ((imR T n S rq).2)) (nI (te T n ((imR T n S rq).2))) vl (b2i ((ndR T n (decide (rcN S < 6)) rq).1 = true)) rm rr om, ia cy (mm 1) 169 (if (ndR T n (decide (rcN S < 6)) rq).1 = true then S else upd S 0 (nI (rcN S + 1))), ia cy (mm 5) 120 T]) := congrArg (fun z9 => [mO cy mm ik (nI n) (nI ((imR T n S rq).2)) z9 vl (b2i ((ndR T n (decide (rcN S < 6)) rq).1 = true)) rm rr om, ia cy (mm 1) 169 (if (ndR T n (decide (rcN S < 6)) rq).1 = true then S else upd S 0 (nI (rcN S + 1))), ia cy (mm 5) 120 T]) (show (nI (te T n ((ndR T n (decide (rcN S < 6)) rq).2))) = (nI (te T n ((imR T n S rq).2))) from congrArg (fun z9 : Bool × Nat => nI (te T n (z9.2))) hp9)
          replace hP4 := (congrArg (fun z9 => va_P D vwCl z9 _) hq9).mp hP4
          replace hD4 := (congrArg (fun z9 => va_D _ z9) hq9).mp hD4
          clear hq9
          have hq9 : ([mO cy mm ik (nI n) (nI ((imR T n S rq).2)) (nI (te T n ((imR T n S rq).2))) vl (b2i ((ndR T n (decide (rcN S < 6)) rq).1 = true)) rm rr om, ia cy (mm 1) 169 (if (ndR T n (decide (rcN S < 6)) rq).1 = true then S else upd S 0 (nI (rcN S + 1))), ia cy (mm 5) 120 T]) = ([mO cy mm ik (nI n) (nI ((imR T n S rq).2)) (nI (te T n ((imR T n S rq).2))) vl (b2i ((imR T n S rq).1 = true)) rm rr om, ia cy (mm 1) 169 (if (ndR T n (decide (rcN S < 6)) rq).1 = true then S else upd S 0 (nI (rcN S + 1))), ia cy (mm 5) 120 T]) := congrArg (fun z9 => [mO cy mm ik (nI n) (nI ((imR T n S rq).2)) (nI (te T n ((imR T n S rq).2))) vl z9 rm rr om, ia cy (mm 1) 169 (if (ndR T n (decide (rcN S < 6)) rq).1 = true then S else upd S 0 (nI (rcN S + 1))), ia cy (mm 5) 120 T]) (show (b2i ((ndR T n (decide (rcN S < 6)) rq).1 = true)) = (b2i ((imR T n S rq).1 = true)) from congrArg (fun z9 : Bool × Nat => b2i (z9.1 = true)) hp9)
          replace hP4 := (congrArg (fun z9 => va_P D vwCl z9 _) hq9).mp hP4
          replace hD4 := (congrArg (fun z9 => va_D _ z9) hq9).mp hD4
          clear hq9
          clear hp9
          have hq9 : ([mO cy mm ik (nI n) (nI ((imR T n S rq).2)) (nI (te T n ((imR T n S rq).2))) vl (b2i ((imR T n S rq).1 = true)) rm rr om, ia cy (mm 1) 169 (if (ndR T n (decide (rcN S < 6)) rq).1 = true then S else upd S 0 (nI (rcN S + 1))), ia cy (mm 5) 120 T]) = ([mO cy mm ik (nI n) (nI ((imR T n S rq).2)) (nI (te T n ((imR T n S rq).2))) vl (b2i ((imR T n S rq).1 = true)) rm rr om, ia cy (mm 1) 169 (imS T n S rq), ia cy (mm 5) 120 T]) := congrArg (fun z9 => [mO cy mm ik (nI n) (nI ((imR T n S rq).2)) (nI (te T n ((imR T n S rq).2))) vl (b2i ((imR T n S rq).1 = true)) rm rr om, ia cy (mm 1) 169 z9, ia cy (mm 5) 120 T]) (show (if (ndR T n (decide (rcN S < 6)) rq).1 = true then S else upd S 0 (nI (rcN S + 1))) = (imS T n S rq) from (im_room c_32).2)
          replace hP4 := (congrArg (fun z9 => va_P D vwCl z9 _) hq9).mp hP4
          replace hD4 := (congrArg (fun z9 => va_D _ z9) hq9).mp hD4
          clear hq9
          refine lv_goto (tgt := 83) hx hb dX7_item_76 (by decide) ?_
          refine re_v vl hx hb hr hlocks hP4 hD4 hS4 dX7_item_83 ?_
          exact (trivial)
        · refine lv_iconst (v := 0) hx hb dX7_item_69 (by decide) ?_
          refine lv_goto (tgt := 74) hx hb dX7_item_70 (by decide) ?_
          refine lv_iadd hx hb dX7_item_74 ?_
          refine tp (show ((nI (rcN S)) + 0) = nI (rcN S + 0) from nI_add _ _) ?_
          refine ast_i (f := S) (ws' := [mO cy mm ik (nI n) (nI ((ndR T n (decide (rcN S < 6)) rq).2)) (nI (te T n ((ndR T n (decide (rcN S < 6)) rq).2))) vl (b2i ((ndR T n (decide (rcN S < 6)) rq).1 = true)) rm rr om, ia cy (mm 1) 169 (upd S 0 (nI (rcN S + 0))), ia cy (mm 5) 120 T]) hx hb hK hP3 hD3 hS3 1 0 rfl rfl 0 rfl (by first | omega | assumption) (by decide) rfl dX7_item_75 (fun H4 locs4 hP4 hD4 hS4 => ?_)
          clear hP3 hD3 hS3 locs3 H3
          have hq9 : ([mO cy mm ik (nI n) (nI ((ndR T n (decide (rcN S < 6)) rq).2)) (nI (te T n ((ndR T n (decide (rcN S < 6)) rq).2))) vl (b2i ((ndR T n (decide (rcN S < 6)) rq).1 = true)) rm rr om, ia cy (mm 1) 169 (upd S 0 (nI (rcN S + 0))), ia cy (mm 5) 120 T]) = ([mO cy mm ik (nI n) (nI ((ndR T n (decide (rcN S < 6)) rq).2)) (nI (te T n ((ndR T n (decide (rcN S < 6)) rq).2))) vl (b2i ((ndR T n (decide (rcN S < 6)) rq).1 = true)) rm rr om, ia cy (mm 1) 169 (if (ndR T n (decide (rcN S < 6)) rq).1 = true then S else upd S 0 (nI (rcN S + 1))), ia cy (mm 5) 120 T]) := congrArg (fun z9 => [mO cy mm ik (nI n) (nI ((ndR T n (decide (rcN S < 6)) rq).2)) (nI (te T n ((ndR T n (decide (rcN S < 6)) rq).2))) vl (b2i ((ndR T n (decide (rcN S < 6)) rq).1 = true)) rm rr om, ia cy (mm 1) 169 z9, ia cy (mm 5) 120 T]) (show (upd S 0 (nI (rcN S + 0))) = (if (ndR T n (decide (rcN S < 6)) rq).1 = true then S else upd S 0 (nI (rcN S + 1))) from (upd_r0 wf).trans (if_pos c_66).symm)
          replace hP4 := (congrArg (fun z9 => va_P D vwCl z9 _) hq9).mp hP4
          replace hD4 := (congrArg (fun z9 => va_D _ z9) hq9).mp hD4
          clear hq9
          have hp9 : ndR T n (decide (rcN S < 6)) rq = (imR T n S rq) := (im_room c_32).1
          have hq9 : ([mO cy mm ik (nI n) (nI ((ndR T n (decide (rcN S < 6)) rq).2)) (nI (te T n ((ndR T n (decide (rcN S < 6)) rq).2))) vl (b2i ((ndR T n (decide (rcN S < 6)) rq).1 = true)) rm rr om, ia cy (mm 1) 169 (if (ndR T n (decide (rcN S < 6)) rq).1 = true then S else upd S 0 (nI (rcN S + 1))), ia cy (mm 5) 120 T]) = ([mO cy mm ik (nI n) (nI ((imR T n S rq).2)) (nI (te T n ((ndR T n (decide (rcN S < 6)) rq).2))) vl (b2i ((ndR T n (decide (rcN S < 6)) rq).1 = true)) rm rr om, ia cy (mm 1) 169 (if (ndR T n (decide (rcN S < 6)) rq).1 = true then S else upd S 0 (nI (rcN S + 1))), ia cy (mm 5) 120 T]) := congrArg (fun z9 => [mO cy mm ik (nI n) z9 (nI (te T n ((ndR T n (decide (rcN S < 6)) rq).2))) vl (b2i ((ndR T n (decide (rcN S < 6)) rq).1 = true)) rm rr om, ia cy (mm 1) 169 (if (ndR T n (decide (rcN S < 6)) rq).1 = true then S else upd S 0 (nI (rcN S + 1))), ia cy (mm 5) 120 T]) (show (nI ((ndR T n (decide (rcN S < 6)) rq).2)) = (nI ((imR T n S rq).2)) from congrArg (fun z9 : Bool × Nat => nI (z9.2)) hp9)
          replace hP4 := (congrArg (fun z9 => va_P D vwCl z9 _) hq9).mp hP4
          replace hD4 := (congrArg (fun z9 => va_D _ z9) hq9).mp hD4
          clear hq9
          have hq9 : ([mO cy mm ik (nI n) (nI ((imR T n S rq).2)) (nI (te T n ((ndR T n (decide (rcN S < 6)) rq).2))) vl (b2i ((ndR T n (decide (rcN S < 6)) rq).1 = true)) rm rr om, ia cy (mm 1) 169 (if (ndR T n (decide (rcN S < 6)) rq).1 = true then S else upd S 0 (nI (rcN S + 1))), ia cy (mm 5) 120 T]) = ([mO cy mm ik (nI n) (nI ((imR T n S rq).2)) (nI (te T n ((imR T n S rq).2))) vl (b2i ((ndR T n (decide (rcN S < 6)) rq).1 = true)) rm rr om, ia cy (mm 1) 169 (if (ndR T n (decide (rcN S < 6)) rq).1 = true then S else upd S 0 (nI (rcN S + 1))), ia cy (mm 5) 120 T]) := congrArg (fun z9 => [mO cy mm ik (nI n) (nI ((imR T n S rq).2)) z9 vl (b2i ((ndR T n (decide (rcN S < 6)) rq).1 = true)) rm rr om, ia cy (mm 1) 169 (if (ndR T n (decide (rcN S < 6)) rq).1 = true then S else upd S 0 (nI (rcN S + 1))), ia cy (mm 5) 120 T]) (show (nI (te T n ((ndR T n (decide (rcN S < 6)) rq).2))) = (nI (te T n ((imR T n S rq).2))) from congrArg (fun z9 : Bool × Nat => nI (te T n (z9.2))) hp9)
          replace hP4 := (congrArg (fun z9 => va_P D vwCl z9 _) hq9).mp hP4
          replace hD4 := (congrArg (fun z9 => va_D _ z9) hq9).mp hD4
          clear hq9
          have hq9 : ([mO cy mm ik (nI n) (nI ((imR T n S rq).2)) (nI (te T n ((imR T n S rq).2))) vl (b2i ((ndR T n (decide (rcN S < 6)) rq).1 = true)) rm rr om, ia cy (mm 1) 169 (if (ndR T n (decide (rcN S < 6)) rq).1 = true then S else upd S 0 (nI (rcN S + 1))), ia cy (mm 5) 120 T]) = ([mO cy mm ik (nI n) (nI ((imR T n S rq).2)) (nI (te T n ((imR T n S rq).2))) vl (b2i ((imR T n S rq).1 = true)) rm rr om, ia cy (mm 1) 169 (if (ndR T n (decide (rcN S < 6)) rq).1 = true then S else upd S 0 (nI (rcN S + 1))), ia cy (mm 5) 120 T]) := congrArg (fun z9 => [mO cy mm ik (nI n) (nI ((imR T n S rq).2)) (nI (te T n ((imR T n S rq).2))) vl z9 rm rr om, ia cy (mm 1) 169 (if (ndR T n (decide (rcN S < 6)) rq).1 = true then S else upd S 0 (nI (rcN S + 1))), ia cy (mm 5) 120 T]) (show (b2i ((ndR T n (decide (rcN S < 6)) rq).1 = true)) = (b2i ((imR T n S rq).1 = true)) from congrArg (fun z9 : Bool × Nat => b2i (z9.1 = true)) hp9)
          replace hP4 := (congrArg (fun z9 => va_P D vwCl z9 _) hq9).mp hP4
          replace hD4 := (congrArg (fun z9 => va_D _ z9) hq9).mp hD4
          clear hq9
          clear hp9
          have hq9 : ([mO cy mm ik (nI n) (nI ((imR T n S rq).2)) (nI (te T n ((imR T n S rq).2))) vl (b2i ((imR T n S rq).1 = true)) rm rr om, ia cy (mm 1) 169 (if (ndR T n (decide (rcN S < 6)) rq).1 = true then S else upd S 0 (nI (rcN S + 1))), ia cy (mm 5) 120 T]) = ([mO cy mm ik (nI n) (nI ((imR T n S rq).2)) (nI (te T n ((imR T n S rq).2))) vl (b2i ((imR T n S rq).1 = true)) rm rr om, ia cy (mm 1) 169 (imS T n S rq), ia cy (mm 5) 120 T]) := congrArg (fun z9 => [mO cy mm ik (nI n) (nI ((imR T n S rq).2)) (nI (te T n ((imR T n S rq).2))) vl (b2i ((imR T n S rq).1 = true)) rm rr om, ia cy (mm 1) 169 z9, ia cy (mm 5) 120 T]) (show (if (ndR T n (decide (rcN S < 6)) rq).1 = true then S else upd S 0 (nI (rcN S + 1))) = (imS T n S rq) from (im_room c_32).2)
          replace hP4 := (congrArg (fun z9 => va_P D vwCl z9 _) hq9).mp hP4
          replace hD4 := (congrArg (fun z9 => va_D _ z9) hq9).mp hD4
          clear hq9
          refine lv_goto (tgt := 83) hx hb dX7_item_76 (by decide) ?_
          refine re_v vl hx hb hr hlocks hP4 hD4 hS4 dX7_item_83 ?_
          exact (trivial)
      · refine lv_iconst (v := 1) hx hb dX7_item_47 (by decide) ?_
        refine lv_goto (tgt := 52) hx hb dX7_item_48 (by decide) ?_
        refine tp (show (1) = b2i (decide (rcN S < 6) = true) from (b2i_t (decide_eq_true (by omega))).symm) ?_
        refine cV_v (wc := [mO cy mm ik (nI n) (nI (rq.2)) (nI (te T n (rq.2))) vl (b2i (rq.1 = true)) rm rr om, ia cy (mm 5) 120 T]) (wr := [ia cy (mm 1) 169 S]) (rest := []) hx hb hml hown hw hG hK hP2 hD2 hS2 hA hl1 kc_X7_needs kw_5_29 [.int (b2i (decide (rcN S < 6) = true))] (c_X7_needs l D cy G H2.size mm ik vl rm rr om n T rq (decide (rcN S < 6)) (by first | omega | assumption) hs) [0, 2] [1] rfl rfl rfl rfl rfl 0 rfl rfl rfl rfl rfl (Nat.le_of_ble_eq_true rfl) ⟨Nat.le_of_ble_eq_true rfl, Nat.le_of_ble_eq_true rfl⟩ dX7_item_52 ⟨Nat.le_of_ble_eq_true rfl, Nat.le_of_ble_eq_true rfl⟩ (fun u9 H3 locs3 hu9 hP3 hD3 hS3 => ?_)
        clear hP2 hD2 hS2 locs2 H2
        replace hP3 : va_P D vwCl ([ia cy (mm 1) 169 S, mO cy mm ik (nI n) (nI ((ndR T n (decide (rcN S < 6)) rq).2)) (nI (te T n ((ndR T n (decide (rcN S < 6)) rq).2))) vl (b2i ((ndR T n (decide (rcN S < 6)) rq).1 = true)) rm rr om, ia cy (mm 5) 120 T]) H3 := hP3
        replace hD3 : va_D (va_A _ sz) ([ia cy (mm 1) 169 S, mO cy mm ik (nI n) (nI ((ndR T n (decide (rcN S < 6)) rq).2)) (nI (te T n ((ndR T n (decide (rcN S < 6)) rq).2))) vl (b2i ((ndR T n (decide (rcN S < 6)) rq).1 = true)) rm rr om, ia cy (mm 5) 120 T]) := hD3
        replace hP3 := hP3.sub (ws' := [mO cy mm ik (nI n) (nI ((ndR T n (decide (rcN S < 6)) rq).2)) (nI (te T n ((ndR T n (decide (rcN S < 6)) rq).2))) vl (b2i ((ndR T n (decide (rcN S < 6)) rq).1 = true)) rm rr om, ia cy (mm 1) 169 S, ia cy (mm 5) 120 T]) [1, 0, 2] rfl
        replace hD3 := hD3.sub (ws' := [mO cy mm ik (nI n) (nI ((ndR T n (decide (rcN S < 6)) rq).2)) (nI (te T n ((ndR T n (decide (rcN S < 6)) rq).2))) vl (b2i ((ndR T n (decide (rcN S < 6)) rq).1 = true)) rm rr om, ia cy (mm 1) 169 S, ia cy (mm 5) 120 T]) [1, 0, 2] (by decide) rfl
        refine lv_aload_n hx hb dX7_item_55 rfl (lv_at hl1 1 rfl) ?_
        refine va_get (D := D) (ci := 7) (v := .ref (mm 1)) (C := RX7) (T := TX7) (N := 23) hx hb hw iX7 hown hK hP3 0 rfl rfl 0 (by decide) (hw _ kw_4_64) (fun _ h9 => h9) rfl dX7_item_56 ?_
        refine lv_iconst (v := 0) hx hb dX7_item_59 (by decide) ?_
        refine lv_dup2_11 hx hb dX7_item_60 rfl rfl ?_
        refine ald_i (f := S) hx hb hK hP3 1 0 rfl rfl 0 rfl (by first | omega | assumption) (by decide) dX7_item_61 ?_
        refine tp (show (S 0) = nI (rcN S) from wf_r wf) ?_
        refine lv_aload_n hx hb dX7_item_62 rfl (lv_at hl1 1 rfl) ?_
        refine va_get (D := D) (ci := 7) (v := .int (b2i ((ndR T n (decide (rcN S < 6)) rq).1 = true))) (C := RX7) (T := TX7) (N := 23) hx hb hw iX7 hown hK hP3 0 rfl rfl 10 (by decide) (hw _ kw_4_74) (fun _ h9 => h9) rfl dX7_item_63 ?_
        refine lb_eq (tgt := 73) hx hb dX7_item_66 (by decide) (fun c_66 => ?_) (fun c_66 => ?_)
        · refine lv_iconst (v := 1) hx hb dX7_item_73 (by decide) ?_
          refine lv_iadd hx hb dX7_item_74 ?_
          refine tp (show ((nI (rcN S)) + 1) = nI (rcN S + 1) from nI_add _ _) ?_
          refine ast_i (f := S) (ws' := [mO cy mm ik (nI n) (nI ((ndR T n (decide (rcN S < 6)) rq).2)) (nI (te T n ((ndR T n (decide (rcN S < 6)) rq).2))) vl (b2i ((ndR T n (decide (rcN S < 6)) rq).1 = true)) rm rr om, ia cy (mm 1) 169 (upd S 0 (nI (rcN S + 1))), ia cy (mm 5) 120 T]) hx hb hK hP3 hD3 hS3 1 0 rfl rfl 0 rfl (by first | omega | assumption) (by decide) rfl dX7_item_75 (fun H4 locs4 hP4 hD4 hS4 => ?_)
          clear hP3 hD3 hS3 locs3 H3
          have hq9 : ([mO cy mm ik (nI n) (nI ((ndR T n (decide (rcN S < 6)) rq).2)) (nI (te T n ((ndR T n (decide (rcN S < 6)) rq).2))) vl (b2i ((ndR T n (decide (rcN S < 6)) rq).1 = true)) rm rr om, ia cy (mm 1) 169 (upd S 0 (nI (rcN S + 1))), ia cy (mm 5) 120 T]) = ([mO cy mm ik (nI n) (nI ((ndR T n (decide (rcN S < 6)) rq).2)) (nI (te T n ((ndR T n (decide (rcN S < 6)) rq).2))) vl (b2i ((ndR T n (decide (rcN S < 6)) rq).1 = true)) rm rr om, ia cy (mm 1) 169 (if (ndR T n (decide (rcN S < 6)) rq).1 = true then S else upd S 0 (nI (rcN S + 1))), ia cy (mm 5) 120 T]) := congrArg (fun z9 => [mO cy mm ik (nI n) (nI ((ndR T n (decide (rcN S < 6)) rq).2)) (nI (te T n ((ndR T n (decide (rcN S < 6)) rq).2))) vl (b2i ((ndR T n (decide (rcN S < 6)) rq).1 = true)) rm rr om, ia cy (mm 1) 169 z9, ia cy (mm 5) 120 T]) (show (upd S 0 (nI (rcN S + 1))) = (if (ndR T n (decide (rcN S < 6)) rq).1 = true then S else upd S 0 (nI (rcN S + 1))) from (if_neg c_66).symm)
          replace hP4 := (congrArg (fun z9 => va_P D vwCl z9 _) hq9).mp hP4
          replace hD4 := (congrArg (fun z9 => va_D _ z9) hq9).mp hD4
          clear hq9
          have hp9 : ndR T n (decide (rcN S < 6)) rq = (imR T n S rq) := (im_room c_32).1
          have hq9 : ([mO cy mm ik (nI n) (nI ((ndR T n (decide (rcN S < 6)) rq).2)) (nI (te T n ((ndR T n (decide (rcN S < 6)) rq).2))) vl (b2i ((ndR T n (decide (rcN S < 6)) rq).1 = true)) rm rr om, ia cy (mm 1) 169 (if (ndR T n (decide (rcN S < 6)) rq).1 = true then S else upd S 0 (nI (rcN S + 1))), ia cy (mm 5) 120 T]) = ([mO cy mm ik (nI n) (nI ((imR T n S rq).2)) (nI (te T n ((ndR T n (decide (rcN S < 6)) rq).2))) vl (b2i ((ndR T n (decide (rcN S < 6)) rq).1 = true)) rm rr om, ia cy (mm 1) 169 (if (ndR T n (decide (rcN S < 6)) rq).1 = true then S else upd S 0 (nI (rcN S + 1))), ia cy (mm 5) 120 T]) := congrArg (fun z9 => [mO cy mm ik (nI n) z9 (nI (te T n ((ndR T n (decide (rcN S < 6)) rq).2))) vl (b2i ((ndR T n (decide (rcN S < 6)) rq).1 = true)) rm rr om, ia cy (mm 1) 169 (if (ndR T n (decide (rcN S < 6)) rq).1 = true then S else upd S 0 (nI (rcN S + 1))), ia cy (mm 5) 120 T]) (show (nI ((ndR T n (decide (rcN S < 6)) rq).2)) = (nI ((imR T n S rq).2)) from congrArg (fun z9 : Bool × Nat => nI (z9.2)) hp9)
          replace hP4 := (congrArg (fun z9 => va_P D vwCl z9 _) hq9).mp hP4
          replace hD4 := (congrArg (fun z9 => va_D _ z9) hq9).mp hD4
          clear hq9
          have hq9 : ([mO cy mm ik (nI n) (nI ((imR T n S rq).2)) (nI (te T n ((ndR T n (decide (rcN S < 6)) rq).2))) vl (b2i ((ndR T n (decide (rcN S < 6)) rq).1 = true)) rm rr om, ia cy (mm 1) 169 (if (ndR T n (decide (rcN S < 6)) rq).1 = true then S else upd S 0 (nI (rcN S + 1))), ia cy (mm 5) 120 T]) = ([mO cy mm ik (nI n) (nI ((imR T n S rq).2)) (nI (te T n ((imR T n S rq).2))) vl (b2i ((ndR T n (decide (rcN S < 6)) rq).1 = true)) rm rr om, ia cy (mm 1) 169 (if (ndR T n (decide (rcN S < 6)) rq).1 = true then S else upd S 0 (nI (rcN S + 1))), ia cy (mm 5) 120 T]) := congrArg (fun z9 => [mO cy mm ik (nI n) (nI ((imR T n S rq).2)) z9 vl (b2i ((ndR T n (decide (rcN S < 6)) rq).1 = true)) rm rr om, ia cy (mm 1) 169 (if (ndR T n (decide (rcN S < 6)) rq).1 = true then S else upd S 0 (nI (rcN S + 1))), ia cy (mm 5) 120 T]) (show (nI (te T n ((ndR T n (decide (rcN S < 6)) rq).2))) = (nI (te T n ((imR T n S rq).2))) from congrArg (fun z9 : Bool × Nat => nI (te T n (z9.2))) hp9)
          replace hP4 := (congrArg (fun z9 => va_P D vwCl z9 _) hq9).mp hP4
          replace hD4 := (congrArg (fun z9 => va_D _ z9) hq9).mp hD4
          clear hq9
          have hq9 : ([mO cy mm ik (nI n) (nI ((imR T n S rq).2)) (nI (te T n ((imR T n S rq).2))) vl (b2i ((ndR T n (decide (rcN S < 6)) rq).1 = true)) rm rr om, ia cy (mm 1) 169 (if (ndR T n (decide (rcN S < 6)) rq).1 = true then S else upd S 0 (nI (rcN S + 1))), ia cy (mm 5) 120 T]) = ([mO cy mm ik (nI n) (nI ((imR T n S rq).2)) (nI (te T n ((imR T n S rq).2))) vl (b2i ((imR T n S rq).1 = true)) rm rr om, ia cy (mm 1) 169 (if (ndR T n (decide (rcN S < 6)) rq).1 = true then S else upd S 0 (nI (rcN S + 1))), ia cy (mm 5) 120 T]) := congrArg (fun z9 => [mO cy mm ik (nI n) (nI ((imR T n S rq).2)) (nI (te T n ((imR T n S rq).2))) vl z9 rm rr om, ia cy (mm 1) 169 (if (ndR T n (decide (rcN S < 6)) rq).1 = true then S else upd S 0 (nI (rcN S + 1))), ia cy (mm 5) 120 T]) (show (b2i ((ndR T n (decide (rcN S < 6)) rq).1 = true)) = (b2i ((imR T n S rq).1 = true)) from congrArg (fun z9 : Bool × Nat => b2i (z9.1 = true)) hp9)
          replace hP4 := (congrArg (fun z9 => va_P D vwCl z9 _) hq9).mp hP4
          replace hD4 := (congrArg (fun z9 => va_D _ z9) hq9).mp hD4
          clear hq9
          clear hp9
          have hq9 : ([mO cy mm ik (nI n) (nI ((imR T n S rq).2)) (nI (te T n ((imR T n S rq).2))) vl (b2i ((imR T n S rq).1 = true)) rm rr om, ia cy (mm 1) 169 (if (ndR T n (decide (rcN S < 6)) rq).1 = true then S else upd S 0 (nI (rcN S + 1))), ia cy (mm 5) 120 T]) = ([mO cy mm ik (nI n) (nI ((imR T n S rq).2)) (nI (te T n ((imR T n S rq).2))) vl (b2i ((imR T n S rq).1 = true)) rm rr om, ia cy (mm 1) 169 (imS T n S rq), ia cy (mm 5) 120 T]) := congrArg (fun z9 => [mO cy mm ik (nI n) (nI ((imR T n S rq).2)) (nI (te T n ((imR T n S rq).2))) vl (b2i ((imR T n S rq).1 = true)) rm rr om, ia cy (mm 1) 169 z9, ia cy (mm 5) 120 T]) (show (if (ndR T n (decide (rcN S < 6)) rq).1 = true then S else upd S 0 (nI (rcN S + 1))) = (imS T n S rq) from (im_room c_32).2)
          replace hP4 := (congrArg (fun z9 => va_P D vwCl z9 _) hq9).mp hP4
          replace hD4 := (congrArg (fun z9 => va_D _ z9) hq9).mp hD4
          clear hq9
          refine lv_goto (tgt := 83) hx hb dX7_item_76 (by decide) ?_
          refine re_v vl hx hb hr hlocks hP4 hD4 hS4 dX7_item_83 ?_
          exact (trivial)
        · refine lv_iconst (v := 0) hx hb dX7_item_69 (by decide) ?_
          refine lv_goto (tgt := 74) hx hb dX7_item_70 (by decide) ?_
          refine lv_iadd hx hb dX7_item_74 ?_
          refine tp (show ((nI (rcN S)) + 0) = nI (rcN S + 0) from nI_add _ _) ?_
          refine ast_i (f := S) (ws' := [mO cy mm ik (nI n) (nI ((ndR T n (decide (rcN S < 6)) rq).2)) (nI (te T n ((ndR T n (decide (rcN S < 6)) rq).2))) vl (b2i ((ndR T n (decide (rcN S < 6)) rq).1 = true)) rm rr om, ia cy (mm 1) 169 (upd S 0 (nI (rcN S + 0))), ia cy (mm 5) 120 T]) hx hb hK hP3 hD3 hS3 1 0 rfl rfl 0 rfl (by first | omega | assumption) (by decide) rfl dX7_item_75 (fun H4 locs4 hP4 hD4 hS4 => ?_)
          clear hP3 hD3 hS3 locs3 H3
          have hq9 : ([mO cy mm ik (nI n) (nI ((ndR T n (decide (rcN S < 6)) rq).2)) (nI (te T n ((ndR T n (decide (rcN S < 6)) rq).2))) vl (b2i ((ndR T n (decide (rcN S < 6)) rq).1 = true)) rm rr om, ia cy (mm 1) 169 (upd S 0 (nI (rcN S + 0))), ia cy (mm 5) 120 T]) = ([mO cy mm ik (nI n) (nI ((ndR T n (decide (rcN S < 6)) rq).2)) (nI (te T n ((ndR T n (decide (rcN S < 6)) rq).2))) vl (b2i ((ndR T n (decide (rcN S < 6)) rq).1 = true)) rm rr om, ia cy (mm 1) 169 (if (ndR T n (decide (rcN S < 6)) rq).1 = true then S else upd S 0 (nI (rcN S + 1))), ia cy (mm 5) 120 T]) := congrArg (fun z9 => [mO cy mm ik (nI n) (nI ((ndR T n (decide (rcN S < 6)) rq).2)) (nI (te T n ((ndR T n (decide (rcN S < 6)) rq).2))) vl (b2i ((ndR T n (decide (rcN S < 6)) rq).1 = true)) rm rr om, ia cy (mm 1) 169 z9, ia cy (mm 5) 120 T]) (show (upd S 0 (nI (rcN S + 0))) = (if (ndR T n (decide (rcN S < 6)) rq).1 = true then S else upd S 0 (nI (rcN S + 1))) from (upd_r0 wf).trans (if_pos c_66).symm)
          replace hP4 := (congrArg (fun z9 => va_P D vwCl z9 _) hq9).mp hP4
          replace hD4 := (congrArg (fun z9 => va_D _ z9) hq9).mp hD4
          clear hq9
          have hp9 : ndR T n (decide (rcN S < 6)) rq = (imR T n S rq) := (im_room c_32).1
          have hq9 : ([mO cy mm ik (nI n) (nI ((ndR T n (decide (rcN S < 6)) rq).2)) (nI (te T n ((ndR T n (decide (rcN S < 6)) rq).2))) vl (b2i ((ndR T n (decide (rcN S < 6)) rq).1 = true)) rm rr om, ia cy (mm 1) 169 (if (ndR T n (decide (rcN S < 6)) rq).1 = true then S else upd S 0 (nI (rcN S + 1))), ia cy (mm 5) 120 T]) = ([mO cy mm ik (nI n) (nI ((imR T n S rq).2)) (nI (te T n ((ndR T n (decide (rcN S < 6)) rq).2))) vl (b2i ((ndR T n (decide (rcN S < 6)) rq).1 = true)) rm rr om, ia cy (mm 1) 169 (if (ndR T n (decide (rcN S < 6)) rq).1 = true then S else upd S 0 (nI (rcN S + 1))), ia cy (mm 5) 120 T]) := congrArg (fun z9 => [mO cy mm ik (nI n) z9 (nI (te T n ((ndR T n (decide (rcN S < 6)) rq).2))) vl (b2i ((ndR T n (decide (rcN S < 6)) rq).1 = true)) rm rr om, ia cy (mm 1) 169 (if (ndR T n (decide (rcN S < 6)) rq).1 = true then S else upd S 0 (nI (rcN S + 1))), ia cy (mm 5) 120 T]) (show (nI ((ndR T n (decide (rcN S < 6)) rq).2)) = (nI ((imR T n S rq).2)) from congrArg (fun z9 : Bool × Nat => nI (z9.2)) hp9)
          replace hP4 := (congrArg (fun z9 => va_P D vwCl z9 _) hq9).mp hP4
          replace hD4 := (congrArg (fun z9 => va_D _ z9) hq9).mp hD4
          clear hq9
          have hq9 : ([mO cy mm ik (nI n) (nI ((imR T n S rq).2)) (nI (te T n ((ndR T n (decide (rcN S < 6)) rq).2))) vl (b2i ((ndR T n (decide (rcN S < 6)) rq).1 = true)) rm rr om, ia cy (mm 1) 169 (if (ndR T n (decide (rcN S < 6)) rq).1 = true then S else upd S 0 (nI (rcN S + 1))), ia cy (mm 5) 120 T]) = ([mO cy mm ik (nI n) (nI ((imR T n S rq).2)) (nI (te T n ((imR T n S rq).2))) vl (b2i ((ndR T n (decide (rcN S < 6)) rq).1 = true)) rm rr om, ia cy (mm 1) 169 (if (ndR T n (decide (rcN S < 6)) rq).1 = true then S else upd S 0 (nI (rcN S + 1))), ia cy (mm 5) 120 T]) := congrArg (fun z9 => [mO cy mm ik (nI n) (nI ((imR T n S rq).2)) z9 vl (b2i ((ndR T n (decide (rcN S < 6)) rq).1 = true)) rm rr om, ia cy (mm 1) 169 (if (ndR T n (decide (rcN S < 6)) rq).1 = true then S else upd S 0 (nI (rcN S + 1))), ia cy (mm 5) 120 T]) (show (nI (te T n ((ndR T n (decide (rcN S < 6)) rq).2))) = (nI (te T n ((imR T n S rq).2))) from congrArg (fun z9 : Bool × Nat => nI (te T n (z9.2))) hp9)
          replace hP4 := (congrArg (fun z9 => va_P D vwCl z9 _) hq9).mp hP4
          replace hD4 := (congrArg (fun z9 => va_D _ z9) hq9).mp hD4
          clear hq9
          have hq9 : ([mO cy mm ik (nI n) (nI ((imR T n S rq).2)) (nI (te T n ((imR T n S rq).2))) vl (b2i ((ndR T n (decide (rcN S < 6)) rq).1 = true)) rm rr om, ia cy (mm 1) 169 (if (ndR T n (decide (rcN S < 6)) rq).1 = true then S else upd S 0 (nI (rcN S + 1))), ia cy (mm 5) 120 T]) = ([mO cy mm ik (nI n) (nI ((imR T n S rq).2)) (nI (te T n ((imR T n S rq).2))) vl (b2i ((imR T n S rq).1 = true)) rm rr om, ia cy (mm 1) 169 (if (ndR T n (decide (rcN S < 6)) rq).1 = true then S else upd S 0 (nI (rcN S + 1))), ia cy (mm 5) 120 T]) := congrArg (fun z9 => [mO cy mm ik (nI n) (nI ((imR T n S rq).2)) (nI (te T n ((imR T n S rq).2))) vl z9 rm rr om, ia cy (mm 1) 169 (if (ndR T n (decide (rcN S < 6)) rq).1 = true then S else upd S 0 (nI (rcN S + 1))), ia cy (mm 5) 120 T]) (show (b2i ((ndR T n (decide (rcN S < 6)) rq).1 = true)) = (b2i ((imR T n S rq).1 = true)) from congrArg (fun z9 : Bool × Nat => b2i (z9.1 = true)) hp9)
          replace hP4 := (congrArg (fun z9 => va_P D vwCl z9 _) hq9).mp hP4
          replace hD4 := (congrArg (fun z9 => va_D _ z9) hq9).mp hD4
          clear hq9
          clear hp9
          have hq9 : ([mO cy mm ik (nI n) (nI ((imR T n S rq).2)) (nI (te T n ((imR T n S rq).2))) vl (b2i ((imR T n S rq).1 = true)) rm rr om, ia cy (mm 1) 169 (if (ndR T n (decide (rcN S < 6)) rq).1 = true then S else upd S 0 (nI (rcN S + 1))), ia cy (mm 5) 120 T]) = ([mO cy mm ik (nI n) (nI ((imR T n S rq).2)) (nI (te T n ((imR T n S rq).2))) vl (b2i ((imR T n S rq).1 = true)) rm rr om, ia cy (mm 1) 169 (imS T n S rq), ia cy (mm 5) 120 T]) := congrArg (fun z9 => [mO cy mm ik (nI n) (nI ((imR T n S rq).2)) (nI (te T n ((imR T n S rq).2))) vl (b2i ((imR T n S rq).1 = true)) rm rr om, ia cy (mm 1) 169 z9, ia cy (mm 5) 120 T]) (show (if (ndR T n (decide (rcN S < 6)) rq).1 = true then S else upd S 0 (nI (rcN S + 1))) = (imS T n S rq) from (im_room c_32).2)
          replace hP4 := (congrArg (fun z9 => va_P D vwCl z9 _) hq9).mp hP4
          replace hD4 := (congrArg (fun z9 => va_D _ z9) hq9).mp hD4
          clear hq9
          refine lv_goto (tgt := 83) hx hb dX7_item_76 (by decide) ?_
          refine re_v vl hx hb hr hlocks hP4 hD4 hS4 dX7_item_83 ?_
          exact (trivial)
  · have hp9 : rq = (false, rq.2) := pr_f (kndR_0 c_6).1
    have hq9 : ([mO cy mm ik (nI n) (nI (rq.2)) (nI (te T n (rq.2))) vl (b2i (rq.1 = true)) rm rr om, ia cy (mm 1) 169 S, ia cy (mm 5) 120 T]) = ([mO cy mm ik (nI n) (nI ((false, rq.2).2)) (nI (te T n (rq.2))) vl (b2i (rq.1 = true)) rm rr om, ia cy (mm 1) 169 S, ia cy (mm 5) 120 T]) := congrArg (fun z9 => [mO cy mm ik (nI n) z9 (nI (te T n (rq.2))) vl (b2i (rq.1 = true)) rm rr om, ia cy (mm 1) 169 S, ia cy (mm 5) 120 T]) (show (nI (rq.2)) = (nI ((false, rq.2).2)) from congrArg (fun z9 : Bool × Nat => nI (z9.2)) hp9)
    replace hP1 := (congrArg (fun z9 => va_P D vwCl z9 _) hq9).mp hP1
    replace hD1 := (congrArg (fun z9 => va_D _ z9) hq9).mp hD1
    clear hq9
    have hq9 : ([mO cy mm ik (nI n) (nI ((false, rq.2).2)) (nI (te T n (rq.2))) vl (b2i (rq.1 = true)) rm rr om, ia cy (mm 1) 169 S, ia cy (mm 5) 120 T]) = ([mO cy mm ik (nI n) (nI ((false, rq.2).2)) (nI (te T n ((false, rq.2).2))) vl (b2i (rq.1 = true)) rm rr om, ia cy (mm 1) 169 S, ia cy (mm 5) 120 T]) := congrArg (fun z9 => [mO cy mm ik (nI n) (nI ((false, rq.2).2)) z9 vl (b2i (rq.1 = true)) rm rr om, ia cy (mm 1) 169 S, ia cy (mm 5) 120 T]) (show (nI (te T n (rq.2))) = (nI (te T n ((false, rq.2).2))) from congrArg (fun z9 : Bool × Nat => nI (te T n (z9.2))) hp9)
    replace hP1 := (congrArg (fun z9 => va_P D vwCl z9 _) hq9).mp hP1
    replace hD1 := (congrArg (fun z9 => va_D _ z9) hq9).mp hD1
    clear hq9
    have hq9 : ([mO cy mm ik (nI n) (nI ((false, rq.2).2)) (nI (te T n ((false, rq.2).2))) vl (b2i (rq.1 = true)) rm rr om, ia cy (mm 1) 169 S, ia cy (mm 5) 120 T]) = ([mO cy mm ik (nI n) (nI ((false, rq.2).2)) (nI (te T n ((false, rq.2).2))) vl (b2i ((false, rq.2).1 = true)) rm rr om, ia cy (mm 1) 169 S, ia cy (mm 5) 120 T]) := congrArg (fun z9 => [mO cy mm ik (nI n) (nI ((false, rq.2).2)) (nI (te T n ((false, rq.2).2))) vl z9 rm rr om, ia cy (mm 1) 169 S, ia cy (mm 5) 120 T]) (show (b2i (rq.1 = true)) = (b2i ((false, rq.2).1 = true)) from congrArg (fun z9 : Bool × Nat => b2i (z9.1 = true)) hp9)
    replace hP1 := (congrArg (fun z9 => va_P D vwCl z9 _) hq9).mp hP1
    replace hD1 := (congrArg (fun z9 => va_D _ z9) hq9).mp hD1
    clear hq9
    clear hp9
    refine lv_aload_n hx hb dX7_item_9 rfl (lv_at hl1 1 rfl) ?_
    refine lv_iload_n hx hb dX7_item_10 rfl (lv_at hl1 0 rfl) ?_
    refine cV_v (wc := [mO cy mm ik (nI n) (nI ((false, rq.2).2)) (nI (te T n ((false, rq.2).2))) vl (b2i ((false, rq.2).1 = true)) rm rr om, ia cy (mm 1) 169 S, ia cy (mm 5) 120 T]) (wr := []) (rest := []) hx hb hml hown hw hG hK hP1 hD1 hS1 hA hl1 kc_X7_gapItem kw_5_25 [.int (kndR T n rq)] (c_X7_gapItem l D cy G H1.size mm ik vl rm rr om n T S rq.2 (kndR T n rq) (by first | omega | assumption) (by first | omega | assumption) hs) [0, 1, 2] [] rfl rfl rfl rfl rfl 0 rfl rfl rfl rfl rfl (Nat.le_of_ble_eq_true rfl) ⟨Nat.le_of_ble_eq_true rfl, Nat.le_of_ble_eq_true rfl⟩ dX7_item_11 ⟨Nat.le_of_ble_eq_true rfl, Nat.le_of_ble_eq_true rfl⟩ (fun u9 H2 locs2 hu9 hP2 hD2 hS2 => ?_)
    clear hP1 hD1 hS1 locs1 H1
    obtain ⟨vl1_11, rfl⟩ : ∃ z9, z9 = u9 := ⟨_, rfl⟩
    replace hP2 : va_P D vwCl ([mO cy mm ik (nI n) (nI ((g7 T n S rq.2).2)) (nI (te T n ((g7 T n S rq.2).2))) vl1_11 (b2i ((g7 T n S rq.2).1 = true)) rm rr om, ia cy (mm 1) 169 (if (g7 T n S rq.2).1 = true then S else gpS T n S (kndR T n rq) rq.2), ia cy (mm 5) 120 T]) H2 := hP2
    replace hD2 : va_D (va_A _ sz) ([mO cy mm ik (nI n) (nI ((g7 T n S rq.2).2)) (nI (te T n ((g7 T n S rq.2).2))) vl1_11 (b2i ((g7 T n S rq.2).1 = true)) rm rr om, ia cy (mm 1) 169 (if (g7 T n S rq.2).1 = true then S else gpS T n S (kndR T n rq) rq.2), ia cy (mm 5) 120 T]) := hD2
    have hp9 : g7 T n S rq.2 = (imR T n S rq) := (im_gap c_6).1
    have hq9 : ([mO cy mm ik (nI n) (nI ((g7 T n S rq.2).2)) (nI (te T n ((g7 T n S rq.2).2))) vl1_11 (b2i ((g7 T n S rq.2).1 = true)) rm rr om, ia cy (mm 1) 169 (if (g7 T n S rq.2).1 = true then S else gpS T n S (kndR T n rq) rq.2), ia cy (mm 5) 120 T]) = ([mO cy mm ik (nI n) (nI ((imR T n S rq).2)) (nI (te T n ((g7 T n S rq.2).2))) vl1_11 (b2i ((g7 T n S rq.2).1 = true)) rm rr om, ia cy (mm 1) 169 (if (g7 T n S rq.2).1 = true then S else gpS T n S (kndR T n rq) rq.2), ia cy (mm 5) 120 T]) := congrArg (fun z9 => [mO cy mm ik (nI n) z9 (nI (te T n ((g7 T n S rq.2).2))) vl1_11 (b2i ((g7 T n S rq.2).1 = true)) rm rr om, ia cy (mm 1) 169 (if (g7 T n S rq.2).1 = true then S else gpS T n S (kndR T n rq) rq.2), ia cy (mm 5) 120 T]) (show (nI ((g7 T n S rq.2).2)) = (nI ((imR T n S rq).2)) from congrArg (fun z9 : Bool × Nat => nI (z9.2)) hp9)
    replace hP2 := (congrArg (fun z9 => va_P D vwCl z9 _) hq9).mp hP2
    replace hD2 := (congrArg (fun z9 => va_D _ z9) hq9).mp hD2
    clear hq9
    have hq9 : ([mO cy mm ik (nI n) (nI ((imR T n S rq).2)) (nI (te T n ((g7 T n S rq.2).2))) vl1_11 (b2i ((g7 T n S rq.2).1 = true)) rm rr om, ia cy (mm 1) 169 (if (g7 T n S rq.2).1 = true then S else gpS T n S (kndR T n rq) rq.2), ia cy (mm 5) 120 T]) = ([mO cy mm ik (nI n) (nI ((imR T n S rq).2)) (nI (te T n ((imR T n S rq).2))) vl1_11 (b2i ((g7 T n S rq.2).1 = true)) rm rr om, ia cy (mm 1) 169 (if (g7 T n S rq.2).1 = true then S else gpS T n S (kndR T n rq) rq.2), ia cy (mm 5) 120 T]) := congrArg (fun z9 => [mO cy mm ik (nI n) (nI ((imR T n S rq).2)) z9 vl1_11 (b2i ((g7 T n S rq.2).1 = true)) rm rr om, ia cy (mm 1) 169 (if (g7 T n S rq.2).1 = true then S else gpS T n S (kndR T n rq) rq.2), ia cy (mm 5) 120 T]) (show (nI (te T n ((g7 T n S rq.2).2))) = (nI (te T n ((imR T n S rq).2))) from congrArg (fun z9 : Bool × Nat => nI (te T n (z9.2))) hp9)
    replace hP2 := (congrArg (fun z9 => va_P D vwCl z9 _) hq9).mp hP2
    replace hD2 := (congrArg (fun z9 => va_D _ z9) hq9).mp hD2
    clear hq9
    have hq9 : ([mO cy mm ik (nI n) (nI ((imR T n S rq).2)) (nI (te T n ((imR T n S rq).2))) vl1_11 (b2i ((g7 T n S rq.2).1 = true)) rm rr om, ia cy (mm 1) 169 (if (g7 T n S rq.2).1 = true then S else gpS T n S (kndR T n rq) rq.2), ia cy (mm 5) 120 T]) = ([mO cy mm ik (nI n) (nI ((imR T n S rq).2)) (nI (te T n ((imR T n S rq).2))) vl1_11 (b2i ((imR T n S rq).1 = true)) rm rr om, ia cy (mm 1) 169 (if (g7 T n S rq.2).1 = true then S else gpS T n S (kndR T n rq) rq.2), ia cy (mm 5) 120 T]) := congrArg (fun z9 => [mO cy mm ik (nI n) (nI ((imR T n S rq).2)) (nI (te T n ((imR T n S rq).2))) vl1_11 z9 rm rr om, ia cy (mm 1) 169 (if (g7 T n S rq.2).1 = true then S else gpS T n S (kndR T n rq) rq.2), ia cy (mm 5) 120 T]) (show (b2i ((g7 T n S rq.2).1 = true)) = (b2i ((imR T n S rq).1 = true)) from congrArg (fun z9 : Bool × Nat => b2i (z9.1 = true)) hp9)
    replace hP2 := (congrArg (fun z9 => va_P D vwCl z9 _) hq9).mp hP2
    replace hD2 := (congrArg (fun z9 => va_D _ z9) hq9).mp hD2
    clear hq9
    clear hp9
    have hq9 : ([mO cy mm ik (nI n) (nI ((imR T n S rq).2)) (nI (te T n ((imR T n S rq).2))) vl1_11 (b2i ((imR T n S rq).1 = true)) rm rr om, ia cy (mm 1) 169 (if (g7 T n S rq.2).1 = true then S else gpS T n S (kndR T n rq) rq.2), ia cy (mm 5) 120 T]) = ([mO cy mm ik (nI n) (nI ((imR T n S rq).2)) (nI (te T n ((imR T n S rq).2))) vl1_11 (b2i ((imR T n S rq).1 = true)) rm rr om, ia cy (mm 1) 169 (imS T n S rq), ia cy (mm 5) 120 T]) := congrArg (fun z9 => [mO cy mm ik (nI n) (nI ((imR T n S rq).2)) (nI (te T n ((imR T n S rq).2))) vl1_11 (b2i ((imR T n S rq).1 = true)) rm rr om, ia cy (mm 1) 169 z9, ia cy (mm 5) 120 T]) (show (if (g7 T n S rq.2).1 = true then S else gpS T n S (kndR T n rq) rq.2) = (imS T n S rq) from (im_gap c_6).2)
    replace hP2 := (congrArg (fun z9 => va_P D vwCl z9 _) hq9).mp hP2
    replace hD2 := (congrArg (fun z9 => va_D _ z9) hq9).mp hD2
    clear hq9
    refine lv_goto (tgt := 83) hx hb dX7_item_14 (by decide) ?_
    refine re_v vl1_11 hx hb hr hlocks hP2 hD2 hS2 dX7_item_83 ?_
    exact (trivial)

theorem kc_X7_house : kV yX7_house cX7_house 2 (some .int) 0 := ⟨kw_4_224, kw_4_225, kw_1_8, kw_4_226, by decide, by decide, by decide +kernel⟩
set_option maxHeartbeats 4000000 in
set_option maxRecDepth 100000 in
theorem c_X7_house (l : Launch) (D : va_G) (cy : Nat → ClassId) (G : Nat → Nat) (sz : Nat) (mm : Nat → Nat) (ik : Int32) (fm : Int32) (tz : Int32) (vl : Int32) (iw : Int32) (rm : Int32) (rr : Int32) (om : Int32) (n : Nat) (T : Nat → Int32) (S : Nat → Int32) (O : Nat → Int32) (wS : wf S) (hn : n ≤ 120) : Met l yX7_house (wm yX7_house cX7_house 2 (some .int)) { frames := 8, cells := 0, slots := 0, locals := 183 } (va_Pc [.ref (mm 0)] (pr D (TY cy) G ([mO cy mm ik (nI n) fm tz vl iw rm rr om, ia cy (mm 1) 169 S, ia cy (mm 3) 169 O, ia cy (mm 5) 120 T]) sz)) (va_Qi (fun (r : Int32) (u : Int32 × Int32 × Int32 × Int32) => r = hsV T n S) (fun (u : Int32 × Int32 × Int32 × Int32) t => po D (va_A ([mO cy mm ik (nI n) fm tz vl iw rm rr om, ia cy (mm 1) 169 S, ia cy (mm 3) 169 O, ia cy (mm 5) 120 T]) sz) ([mO cy mm ik (nI 0) u.1 u.2.1 u.2.2.1 u.2.2.2 rm rr om, ia cy (mm 1) 169 (hsS T n S), ia cy (mm 3) 169 S, ia cy (mm 5) 120 T]) t) (va_A ([mO cy mm ik (nI n) fm tz vl iw rm rr om, ia cy (mm 1) 169 S, ia cy (mm 3) 169 O, ia cy (mm 5) 120 T]) sz)) 0 0 (va_A ([mO cy mm ik (nI n) fm tz vl iw rm rr om, ia cy (mm 1) 169 S, ia cy (mm 3) 169 O, ia cy (mm 5) 120 T]) sz) := by
  refine mk_rw (by decide) RX7 rfl (Nat.le_of_ble_eq_true rfl) [(0, .ref (mm 0))] rfl ?_
  intro p e s m below meth c hx hb hml hown hr hlocks hin hw hsz hA hG hK H0 locs0 hP0 hD0 hS0 ls0 hl0
  clear hin
  have hk0 := skp_b (T := T) (n := n) (k := 0) (Nat.zero_le n)
  refine lv_aload_n hx hb dX7_house_0 rfl (lv_at hl0 0 rfl) ?_
  refine cV_v (wc := [mO cy mm ik (nI n) fm tz vl iw rm rr om, ia cy (mm 1) 169 S, ia cy (mm 3) 169 O]) (wr := [ia cy (mm 5) 120 T]) (rest := []) hx hb hml hown hw hG hK hP0 hD0 hS0 hA hl0 kc_X7_puts kw_4_227 [] (c_X7_puts l D cy G H0.size mm ik (nI n) fm tz vl iw rm rr om S O) [0, 1, 2] [3] rfl rfl rfl rfl rfl 0 rfl rfl rfl rfl rfl (Nat.le_of_ble_eq_true rfl) ⟨Nat.le_of_ble_eq_true rfl, Nat.le_of_ble_eq_true rfl⟩ dX7_house_1 ⟨Nat.le_of_ble_eq_true rfl, Nat.le_of_ble_eq_true rfl⟩ (fun u9 H1 locs1 hu9 hP1 hD1 hS1 => ?_)
  clear hP0 hD0 hS0 locs0 H0
  replace hP1 : va_P D vwCl ([ia cy (mm 5) 120 T, mO cy mm ik (nI n) fm tz vl iw rm rr om, ia cy (mm 1) 169 S, ia cy (mm 3) 169 S]) H1 := hP1
  replace hD1 : va_D (va_A _ sz) ([ia cy (mm 5) 120 T, mO cy mm ik (nI n) fm tz vl iw rm rr om, ia cy (mm 1) 169 S, ia cy (mm 3) 169 S]) := hD1
  replace hP1 := hP1.sub (ws' := [mO cy mm ik (nI n) fm tz vl iw rm rr om, ia cy (mm 1) 169 S, ia cy (mm 3) 169 S, ia cy (mm 5) 120 T]) [1, 2, 3, 0] rfl
  replace hD1 := hD1.sub (ws' := [mO cy mm ik (nI n) fm tz vl iw rm rr om, ia cy (mm 1) 169 S, ia cy (mm 3) 169 S, ia cy (mm 5) 120 T]) [1, 2, 3, 0] (by decide) rfl
  refine lv_aload_n hx hb dX7_house_4 rfl (lv_at hl0 0 rfl) ?_
  refine lv_iconst (v := 0) hx hb dX7_house_5 (by decide) ?_
  refine pt (D := D) (ci := 7) (v := .int 0) (ty := .int) (C := RX7) (T := TX7) (N := 23) (ws' := [mO cy mm ik (nI n) fm 0 vl iw rm rr om, ia cy (mm 1) 169 S, ia cy (mm 3) 169 S, ia cy (mm 5) 120 T]) hx hb hw iX7 tyX7 tyX7_ok nmX7 hown hK hP1 hD1 hS1 0 rfl rfl 8 (by decide) kw_4_72 (fun _ h9 => h9) rfl (by decide +kernel) rfl rfl (Nat.le_of_ble_eq_true rfl) rfl dX7_house_6 (fun H2 locs2 hP2 hD2 hS2 => ?_)
  clear hP1 hD1 hS1 locs1 H1
  refine lv_aload_n hx hb dX7_house_9 rfl (lv_at hl0 0 rfl) ?_
  refine lv_iconst (v := 0) hx hb dX7_house_10 (by decide) ?_
  refine pt (D := D) (ci := 7) (v := .int 0) (ty := .boolean) (C := RX7) (T := TX7) (N := 23) (ws' := [mO cy mm ik (nI n) fm 0 vl 0 rm rr om, ia cy (mm 1) 169 S, ia cy (mm 3) 169 S, ia cy (mm 5) 120 T]) hx hb hw iX7 tyX7 tyX7_ok nmX7 hown hK hP2 hD2 hS2 0 rfl rfl 10 (by decide) kw_4_74 (fun _ h9 => h9) rfl (by decide +kernel) rfl rfl (Nat.le_of_ble_eq_true rfl) rfl dX7_house_11 (fun H3 locs3 hP3 hD3 hS3 => ?_)
  clear hP2 hD2 hS2 locs2 H2
  refine lv_aload_n hx hb dX7_house_14 rfl (lv_at hl0 0 rfl) ?_
  refine cV_v (wc := [mO cy mm ik (nI n) fm 0 vl 0 rm rr om, ia cy (mm 5) 120 T]) (wr := [ia cy (mm 1) 169 S, ia cy (mm 3) 169 S]) (rest := []) hx hb hml hown hw hG hK hP3 hD3 hS3 hA hl0 kc_X7_next kw_4_231 [] (c_X7_next l D cy G H3.size mm ik fm vl 0 rm rr om n T 0 (by first | omega | assumption) (Nat.zero_le n)) [0, 3] [1, 2] rfl rfl rfl rfl rfl 0 rfl rfl rfl rfl rfl (Nat.le_of_ble_eq_true rfl) ⟨Nat.le_of_ble_eq_true rfl, Nat.le_of_ble_eq_true rfl⟩ dX7_house_15 ⟨Nat.le_of_ble_eq_true rfl, Nat.le_of_ble_eq_true rfl⟩ (fun u9 H4 locs4 hu9 hP4 hD4 hS4 => ?_)
  clear hP3 hD3 hS3 locs3 H3
  replace hP4 : va_P D vwCl ([ia cy (mm 1) 169 S, ia cy (mm 3) 169 S, mO cy mm ik (nI n) (nI (skp T n 0)) (nI (te T n (skp T n 0))) vl 0 rm rr om, ia cy (mm 5) 120 T]) H4 := hP4
  replace hD4 : va_D (va_A _ sz) ([ia cy (mm 1) 169 S, ia cy (mm 3) 169 S, mO cy mm ik (nI n) (nI (skp T n 0)) (nI (te T n (skp T n 0))) vl 0 rm rr om, ia cy (mm 5) 120 T]) := hD4
  replace hP4 := hP4.sub (ws' := [mO cy mm ik (nI n) (nI (skp T n 0)) (nI (te T n (skp T n 0))) vl 0 rm rr om, ia cy (mm 1) 169 S, ia cy (mm 3) 169 S, ia cy (mm 5) 120 T]) [2, 0, 1, 3] rfl
  replace hD4 := hD4.sub (ws' := [mO cy mm ik (nI n) (nI (skp T n 0)) (nI (te T n (skp T n 0))) vl 0 rm rr om, ia cy (mm 1) 169 S, ia cy (mm 3) 169 S, ia cy (mm 5) 120 T]) [2, 0, 1, 3] (by decide) rfl
  have hq9 : ([mO cy mm ik (nI n) (nI (skp T n 0)) (nI (te T n (skp T n 0))) vl 0 rm rr om, ia cy (mm 1) 169 S, ia cy (mm 3) 169 S, ia cy (mm 5) 120 T]) = ([mO cy mm ik (nI n) (nI ((false, skp T n 0).2)) (nI (te T n (skp T n 0))) vl 0 rm rr om, ia cy (mm 1) 169 S, ia cy (mm 3) 169 S, ia cy (mm 5) 120 T]) := congrArg (fun z9 => [mO cy mm ik (nI n) z9 (nI (te T n (skp T n 0))) vl 0 rm rr om, ia cy (mm 1) 169 S, ia cy (mm 3) 169 S, ia cy (mm 5) 120 T]) (show (nI (skp T n 0)) = (nI ((false, skp T n 0).2)) from rfl)
  replace hP4 := (congrArg (fun z9 => va_P D vwCl z9 _) hq9).mp hP4
  replace hD4 := (congrArg (fun z9 => va_D _ z9) hq9).mp hD4
  clear hq9
  have hq9 : ([mO cy mm ik (nI n) (nI ((false, skp T n 0).2)) (nI (te T n (skp T n 0))) vl 0 rm rr om, ia cy (mm 1) 169 S, ia cy (mm 3) 169 S, ia cy (mm 5) 120 T]) = ([mO cy mm ik (nI n) (nI ((false, skp T n 0).2)) (nI (te T n ((false, skp T n 0).2))) vl 0 rm rr om, ia cy (mm 1) 169 S, ia cy (mm 3) 169 S, ia cy (mm 5) 120 T]) := congrArg (fun z9 => [mO cy mm ik (nI n) (nI ((false, skp T n 0).2)) z9 vl 0 rm rr om, ia cy (mm 1) 169 S, ia cy (mm 3) 169 S, ia cy (mm 5) 120 T]) (show (nI (te T n (skp T n 0))) = (nI (te T n ((false, skp T n 0).2))) from rfl)
  replace hP4 := (congrArg (fun z9 => va_P D vwCl z9 _) hq9).mp hP4
  replace hD4 := (congrArg (fun z9 => va_D _ z9) hq9).mp hD4
  clear hq9
  have hq9 : ([mO cy mm ik (nI n) (nI ((false, skp T n 0).2)) (nI (te T n ((false, skp T n 0).2))) vl 0 rm rr om, ia cy (mm 1) 169 S, ia cy (mm 3) 169 S, ia cy (mm 5) 120 T]) = ([mO cy mm ik (nI n) (nI ((false, skp T n 0).2)) (nI (te T n ((false, skp T n 0).2))) vl (b2i ((false, skp T n 0).1 = true)) rm rr om, ia cy (mm 1) 169 S, ia cy (mm 3) 169 S, ia cy (mm 5) 120 T]) := congrArg (fun z9 => [mO cy mm ik (nI n) (nI ((false, skp T n 0).2)) (nI (te T n ((false, skp T n 0).2))) vl z9 rm rr om, ia cy (mm 1) 169 S, ia cy (mm 3) 169 S, ia cy (mm 5) 120 T]) (show 0 = (b2i ((false, skp T n 0).1 = true)) from (b2i_f Bool.false_ne_true).symm)
  replace hP4 := (congrArg (fun z9 => va_P D vwCl z9 _) hq9).mp hP4
  replace hD4 := (congrArg (fun z9 => va_D _ z9) hq9).mp hD4
  clear hq9
  have hwi0 := imS_wf (T := T) (n := n) (r := (false, skp T n 0)) wS
  have him0 : (imR T n S (false, skp T n 0)).2 ≤ n := (imR_b (r := (false, skp T n 0)) hk0.2).2
  refine lv_iconst (v := 1) hx hb dX7_house_18 (by decide) ?_
  refine lv_istore_n (lv' := [(1, .int 1), (0, .ref (mm 0))]) hx hb dX7_house_19 rfl hl0 (by decide) rfl (fun ls1 hl1 => ?_)
  clear hl0 ls0
  refine lv_aload_n hx hb dX7_house_20 rfl (lv_at hl1 1 rfl) ?_
  refine cV_v (wc := [mO cy mm ik (nI n) (nI ((false, skp T n 0).2)) (nI (te T n ((false, skp T n 0).2))) vl (b2i ((false, skp T n 0).1 = true)) rm rr om, ia cy (mm 1) 169 S, ia cy (mm 5) 120 T]) (wr := [ia cy (mm 3) 169 S]) (rest := []) hx hb hml hown hw hG hK hP4 hD4 hS4 hA hl1 kc_X7_item kw_5_9 [] (c_X7_item l D cy G H4.size mm ik vl rm rr om n T S (false, skp T n 0) wS (by first | omega | assumption) hk0.2) [0, 1, 3] [2] rfl rfl rfl rfl rfl 0 rfl rfl rfl rfl rfl (Nat.le_of_ble_eq_true rfl) ⟨Nat.le_of_ble_eq_true rfl, Nat.le_of_ble_eq_true rfl⟩ dX7_house_21 ⟨Nat.le_of_ble_eq_true rfl, Nat.le_of_ble_eq_true rfl⟩ (fun u9 H5 locs5 hu9 hP5 hD5 hS5 => ?_)
  clear hP4 hD4 hS4 locs4 H4
  obtain ⟨vl1_21, rfl⟩ : ∃ z9, z9 = u9 := ⟨_, rfl⟩
  replace hP5 : va_P D vwCl ([ia cy (mm 3) 169 S, mO cy mm ik (nI n) (nI ((imR T n S (false, skp T n 0)).2)) (nI (te T n ((imR T n S (false, skp T n 0)).2))) vl1_21 (b2i ((imR T n S (false, skp T n 0)).1 = true)) rm rr om, ia cy (mm 1) 169 (imS T n S (false, skp T n 0)), ia cy (mm 5) 120 T]) H5 := hP5
  replace hD5 : va_D (va_A _ sz) ([ia cy (mm 3) 169 S, mO cy mm ik (nI n) (nI ((imR T n S (false, skp T n 0)).2)) (nI (te T n ((imR T n S (false, skp T n 0)).2))) vl1_21 (b2i ((imR T n S (false, skp T n 0)).1 = true)) rm rr om, ia cy (mm 1) 169 (imS T n S (false, skp T n 0)), ia cy (mm 5) 120 T]) := hD5
  replace hP5 := hP5.sub (ws' := [mO cy mm ik (nI n) (nI ((imR T n S (false, skp T n 0)).2)) (nI (te T n ((imR T n S (false, skp T n 0)).2))) vl1_21 (b2i ((imR T n S (false, skp T n 0)).1 = true)) rm rr om, ia cy (mm 1) 169 (imS T n S (false, skp T n 0)), ia cy (mm 3) 169 S, ia cy (mm 5) 120 T]) [1, 2, 0, 3] rfl
  replace hD5 := hD5.sub (ws' := [mO cy mm ik (nI n) (nI ((imR T n S (false, skp T n 0)).2)) (nI (te T n ((imR T n S (false, skp T n 0)).2))) vl1_21 (b2i ((imR T n S (false, skp T n 0)).1 = true)) rm rr om, ia cy (mm 1) 169 (imS T n S (false, skp T n 0)), ia cy (mm 3) 169 S, ia cy (mm 5) 120 T]) [1, 2, 0, 3] (by decide) rfl
  refine wlp (ι := Nat × (Bool × Nat) × (Nat → Int32) × Int32 × Nat) (nL := 2) (fun x9 => (x9.2.1.2 ≤ n) ∧ (wf x9.2.2.1) ∧ ((200 ≤ x9.2.2.2.2 + x9.2.1.2 ∨ x9.2.1.1 = true) ∧ 1 ≤ x9.2.2.2.2) ∧ (tlA T n S = tlF T n x9.2.2.2.2 x9.1 x9.2.1.1 x9.2.1.2 x9.2.2.1)) (fun x9 => [mO cy mm ik (nI n) (nI (x9.2.1.2)) (nI (te T n (x9.2.1.2))) x9.2.2.2.1 (b2i (x9.2.1.1 = true)) rm rr om, ia cy (mm 1) 169 x9.2.2.1, ia cy (mm 3) 169 S, ia cy (mm 5) 120 T]) (fun x9 => [(1, .int (nI x9.1)), (0, .ref (mm 0))]) (fun x9 => []) (fun x9 => if x9.2.1.1 = true then 0 else n + 1 - x9.2.1.2) 24 ?_ (1, imR T n S (false, skp T n 0), imS T n S (false, skp T n 0), vl1_21, 200) (⟨him0, hwi0, ⟨Or.inl (Nat.le_add_right _ _), (show 1 ≤ 200 by decide)⟩, (by rw [im_0.1, im_0.2]; rfl)⟩) rfl hP5 hD5 hS5 (lv_sub hl1 [0, 1] rfl)
  clear hP5 hD5 hS5 locs5 H5 hl1 ls1
  intro x9 hI ih_24 H6 locs6 ls2 hP6 hD6 hS6 hl2
  obtain ⟨i, rq, X9, vl9, fu⟩ := x9
  obtain ⟨hsr, hwX, hfu, hT⟩ := hI
  replace hsr : rq.2 ≤ n := hsr
  replace hwX : wf X9 := hwX
  replace hfu : (200 ≤ fu + rq.2 ∨ rq.1 = true) ∧ 1 ≤ fu := hfu
  replace hT : tlA T n S = tlF T n fu i rq.1 rq.2 X9 := hT
  replace hP6 : va_P D vwCl ([mO cy mm ik (nI n) (nI (rq.2)) (nI (te T n (rq.2))) vl9 (b2i (rq.1 = true)) rm rr om, ia cy (mm 1) 169 X9, ia cy (mm 3) 169 S, ia cy (mm 5) 120 T]) H6 := hP6
  replace hD6 : va_D (va_A _ sz) ([mO cy mm ik (nI n) (nI (rq.2)) (nI (te T n (rq.2))) vl9 (b2i (rq.1 = true)) rm rr om, ia cy (mm 1) 169 X9, ia cy (mm 3) 169 S, ia cy (mm 5) 120 T]) := hD6
  replace hl2 : lv_has ls2 2 [(1, .int (nI i)), (0, .ref (mm 0))] := hl2
  show W p l e _ s m _ below meth c _ _ _ _ _ (F0 m 24 ls2 [])
  refine lv_aload_n hx hb dX7_house_24 rfl (lv_at hl2 1 rfl) ?_
  refine va_get (D := D) (ci := 7) (v := .int (b2i (rq.1 = true))) (C := RX7) (T := TX7) (N := 23) hx hb hw iX7 hown hK hP6 0 rfl rfl 10 (by decide) (hw _ kw_4_74) (fun _ h9 => h9) rfl dX7_house_25 ?_
  refine lb_ne (tgt := 74) hx hb dX7_house_28 (by decide) (fun c_28 => ?_) (fun c_28 => ?_)
  · obtain ⟨f9, rfl⟩ : ∃ f9, fu = f9 + 1 := ⟨fu - 1, by omega⟩
    have hr9 : rq.1 = true := c_28
    rw [hr9, tlF_q] at hT
    have hw9 : (tlA T n S).1 = true := by rw [hT]
    refine lv_aload_n hx hb dX7_house_74 rfl (lv_at hl2 1 rfl) ?_
    refine lv_iconst (v := 0) hx hb dX7_house_75 (by decide) ?_
    refine pt (D := D) (ci := 7) (v := .int 0) (ty := .int) (C := RX7) (T := TX7) (N := 23) (ws' := [mO cy mm ik 0 (nI (rq.2)) (nI (te T n (rq.2))) vl9 (b2i (rq.1 = true)) rm rr om, ia cy (mm 1) 169 X9, ia cy (mm 3) 169 S, ia cy (mm 5) 120 T]) hx hb hw iX7 tyX7 tyX7_ok nmX7 hown hK hP6 hD6 hS6 0 rfl rfl 6 (by decide) kw_4_70 (fun _ h9 => h9) rfl (by decide +kernel) rfl rfl (Nat.le_of_ble_eq_true rfl) rfl dX7_house_76 (fun H7 locs7 hP7 hD7 hS7 => ?_)
    clear hP6 hD6 hS6 locs6 H6
    refine lv_aload_n hx hb dX7_house_79 rfl (lv_at hl2 1 rfl) ?_
    refine va_get (D := D) (ci := 7) (v := .int (b2i (rq.1 = true))) (C := RX7) (T := TX7) (N := 23) hx hb hw iX7 hown hK hP7 0 rfl rfl 10 (by decide) (hw _ kw_4_74) (fun _ h9 => h9) rfl dX7_house_80 ?_
    refine lb_eq (tgt := 97) hx hb dX7_house_83 (by decide) (fun c_83 => absurd c_28 c_83) (fun c_83 => ?_)
    refine lv_aload_n hx hb dX7_house_86 rfl (lv_at hl2 1 rfl) ?_
    refine cV_v (wc := [mO cy mm ik 0 (nI (rq.2)) (nI (te T n (rq.2))) vl9 (b2i (rq.1 = true)) rm rr om, ia cy (mm 1) 169 X9, ia cy (mm 3) 169 S]) (wr := [ia cy (mm 5) 120 T]) (rest := []) hx hb hml hown hw hG hK hP7 hD7 hS7 hA hl2 kc_X7_putsBack kw_5_49 [] (c_X7_putsBack l D cy G H7.size mm ik 0 (nI (rq.2)) (nI (te T n (rq.2))) vl9 (b2i (rq.1 = true)) rm rr om X9 S) [0, 1, 2] [3] rfl rfl rfl rfl rfl 0 rfl rfl rfl rfl rfl (Nat.le_of_ble_eq_true rfl) ⟨Nat.le_of_ble_eq_true rfl, Nat.le_of_ble_eq_true rfl⟩ dX7_house_87 ⟨Nat.le_of_ble_eq_true rfl, Nat.le_of_ble_eq_true rfl⟩ (fun u9 H8 locs8 hu9 hP8 hD8 hS8 => ?_)
    clear hP7 hD7 hS7 locs7 H7
    replace hP8 : va_P D vwCl ([ia cy (mm 5) 120 T, mO cy mm ik 0 (nI (rq.2)) (nI (te T n (rq.2))) vl9 (b2i (rq.1 = true)) rm rr om, ia cy (mm 1) 169 S, ia cy (mm 3) 169 S]) H8 := hP8
    replace hD8 : va_D (va_A _ sz) ([ia cy (mm 5) 120 T, mO cy mm ik 0 (nI (rq.2)) (nI (te T n (rq.2))) vl9 (b2i (rq.1 = true)) rm rr om, ia cy (mm 1) 169 S, ia cy (mm 3) 169 S]) := hD8
    replace hP8 := hP8.sub (ws' := [mO cy mm ik 0 (nI (rq.2)) (nI (te T n (rq.2))) vl9 (b2i (rq.1 = true)) rm rr om, ia cy (mm 1) 169 S, ia cy (mm 3) 169 S, ia cy (mm 5) 120 T]) [1, 2, 3, 0] rfl
    replace hD8 := hD8.sub (ws' := [mO cy mm ik 0 (nI (rq.2)) (nI (te T n (rq.2))) vl9 (b2i (rq.1 = true)) rm rr om, ia cy (mm 1) 169 S, ia cy (mm 3) 169 S, ia cy (mm 5) 120 T]) [1, 2, 3, 0] (by decide) rfl
    refine lv_iconst (v := (-1)) hx hb dX7_house_90 (by decide) ?_
    refine lv_aload_n hx hb dX7_house_91 rfl (lv_at hl2 1 rfl) ?_
    refine va_get (D := D) (ci := 7) (v := .int (nI (rq.2))) (C := RX7) (T := TX7) (N := 23) hx hb hw iX7 hown hK hP8 0 rfl rfl 7 (by decide) (hw _ kw_4_71) (fun _ h9 => h9) rfl dX7_house_92 ?_
    refine lv_isub hx hb dX7_house_95 ?_
    have hq9 : ([mO cy mm ik 0 (nI (rq.2)) (nI (te T n (rq.2))) vl9 (b2i (rq.1 = true)) rm rr om, ia cy (mm 1) 169 S, ia cy (mm 3) 169 S, ia cy (mm 5) 120 T]) = ([mO cy mm ik 0 (nI (rq.2)) (nI (te T n (rq.2))) vl9 (b2i (rq.1 = true)) rm rr om, ia cy (mm 1) 169 (hsS T n S), ia cy (mm 3) 169 S, ia cy (mm 5) 120 T]) := congrArg (fun z9 => [mO cy mm ik 0 (nI (rq.2)) (nI (te T n (rq.2))) vl9 (b2i (rq.1 = true)) rm rr om, ia cy (mm 1) 169 z9, ia cy (mm 3) 169 S, ia cy (mm 5) 120 T]) (show S = (hsS T n S) from (if_pos hw9).symm)
    replace hP8 := (congrArg (fun z9 => va_P D vwCl z9 _) hq9).mp hP8
    replace hD8 := (congrArg (fun z9 => va_D _ z9) hq9).mp hD8
    clear hq9
    have hq9 : ([mO cy mm ik 0 (nI (rq.2)) (nI (te T n (rq.2))) vl9 (b2i (rq.1 = true)) rm rr om, ia cy (mm 1) 169 (hsS T n S), ia cy (mm 3) 169 S, ia cy (mm 5) 120 T]) = [mO cy mm ik (nI 0) (nI (rq.2)) (nI (te T n (rq.2))) vl9 (b2i (rq.1 = true)) rm rr om, ia cy (mm 1) 169 (hsS T n S), ia cy (mm 3) 169 S, ia cy (mm 5) 120 T] := rfl
    replace hP8 := (congrArg (fun z9 => va_P D vwCl z9 _) hq9).mp hP8
    replace hD8 := (congrArg (fun z9 => va_D _ z9) hq9).mp hD8
    refine re_i (nI (rq.2), nI (te T n (rq.2)), vl9, b2i (rq.1 = true)) hx hb hr hlocks hP8 hD8 hS8 dX7_house_96 ?_
    exact (by unfold hsV; rw [hT]; rfl)
  · refine lv_aload_n hx hb dX7_house_31 rfl (lv_at hl2 1 rfl) ?_
    refine va_get (D := D) (ci := 7) (v := .int (nI (rq.2))) (C := RX7) (T := TX7) (N := 23) hx hb hw iX7 hown hK hP6 0 rfl rfl 7 (by decide) (hw _ kw_4_71) (fun _ h9 => h9) rfl dX7_house_32 ?_
    refine lv_aload_n hx hb dX7_house_35 rfl (lv_at hl2 1 rfl) ?_
    refine va_get (D := D) (ci := 7) (v := .int (nI n)) (C := RX7) (T := TX7) (N := 23) hx hb hw iX7 hown hK hP6 0 rfl rfl 6 (by decide) (hw _ kw_4_70) (fun _ h9 => h9) rfl dX7_house_36 ?_
    refine ln_ge (tgt := 74) rq.2 n rfl rfl (by omega) (by omega) hx hb dX7_house_39 (by decide) (fun c_39 => ?_) (fun c_39 => ?_)
    · obtain ⟨f9, rfl⟩ : ∃ f9, fu = f9 + 1 := ⟨fu - 1, by omega⟩
      have hr9 : rq.1 = false := by have h9 := c_28; simpa using h9
      rw [hr9, tlF_e c_39] at hT
      refine lv_aload_n hx hb dX7_house_74 rfl (lv_at hl2 1 rfl) ?_
      refine lv_iconst (v := 0) hx hb dX7_house_75 (by decide) ?_
      refine pt (D := D) (ci := 7) (v := .int 0) (ty := .int) (C := RX7) (T := TX7) (N := 23) (ws' := [mO cy mm ik 0 (nI (rq.2)) (nI (te T n (rq.2))) vl9 (b2i (rq.1 = true)) rm rr om, ia cy (mm 1) 169 X9, ia cy (mm 3) 169 S, ia cy (mm 5) 120 T]) hx hb hw iX7 tyX7 tyX7_ok nmX7 hown hK hP6 hD6 hS6 0 rfl rfl 6 (by decide) kw_4_70 (fun _ h9 => h9) rfl (by decide +kernel) rfl rfl (Nat.le_of_ble_eq_true rfl) rfl dX7_house_76 (fun H7 locs7 hP7 hD7 hS7 => ?_)
      clear hP6 hD6 hS6 locs6 H6
      refine lv_aload_n hx hb dX7_house_79 rfl (lv_at hl2 1 rfl) ?_
      refine va_get (D := D) (ci := 7) (v := .int (b2i (rq.1 = true))) (C := RX7) (T := TX7) (N := 23) hx hb hw iX7 hown hK hP7 0 rfl rfl 10 (by decide) (hw _ kw_4_74) (fun _ h9 => h9) rfl dX7_house_80 ?_
      refine lb_eq (tgt := 97) hx hb dX7_house_83 (by decide) (fun c_83 => ?_) (fun c_83 => absurd c_83 c_28)
      refine lv_iload_n hx hb dX7_house_97 rfl (lv_at hl2 0 rfl) ?_
      have hq9 : ([mO cy mm ik 0 (nI (rq.2)) (nI (te T n (rq.2))) vl9 (b2i (rq.1 = true)) rm rr om, ia cy (mm 1) 169 X9, ia cy (mm 3) 169 S, ia cy (mm 5) 120 T]) = ([mO cy mm ik 0 (nI (rq.2)) (nI (te T n (rq.2))) vl9 (b2i (rq.1 = true)) rm rr om, ia cy (mm 1) 169 (hsS T n S), ia cy (mm 3) 169 S, ia cy (mm 5) 120 T]) := congrArg (fun z9 => [mO cy mm ik 0 (nI (rq.2)) (nI (te T n (rq.2))) vl9 (b2i (rq.1 = true)) rm rr om, ia cy (mm 1) 169 z9, ia cy (mm 3) 169 S, ia cy (mm 5) 120 T]) (show X9 = (hsS T n S) from by unfold hsS; rw [hT]; rfl)
      replace hP7 := (congrArg (fun z9 => va_P D vwCl z9 _) hq9).mp hP7
      replace hD7 := (congrArg (fun z9 => va_D _ z9) hq9).mp hD7
      clear hq9
      have hq9 : ([mO cy mm ik 0 (nI (rq.2)) (nI (te T n (rq.2))) vl9 (b2i (rq.1 = true)) rm rr om, ia cy (mm 1) 169 (hsS T n S), ia cy (mm 3) 169 S, ia cy (mm 5) 120 T]) = [mO cy mm ik (nI 0) (nI (rq.2)) (nI (te T n (rq.2))) vl9 (b2i (rq.1 = true)) rm rr om, ia cy (mm 1) 169 (hsS T n S), ia cy (mm 3) 169 S, ia cy (mm 5) 120 T] := rfl
      replace hP7 := (congrArg (fun z9 => va_P D vwCl z9 _) hq9).mp hP7
      replace hD7 := (congrArg (fun z9 => va_D _ z9) hq9).mp hD7
      refine re_i (nI (rq.2), nI (te T n (rq.2)), vl9, b2i (rq.1 = true)) hx hb hr hlocks hP7 hD7 hS7 dX7_house_98 ?_
      exact (by unfold hsV; rw [hT]; rfl)
    · obtain ⟨f9, rfl⟩ : ∃ f9, fu = f9 + 1 := ⟨fu - 1, by omega⟩
      have hwi9 := imS_wf (T := T) (n := n) (r := ndR T n (decide (bt T n (rq.2) = 44)) rq) hwX
      have hnd9 := ndR_b (T := T) (p := decide (bt T n (rq.2) = 44)) hsr
      have him9 : (imR T n X9 (ndR T n (decide (bt T n (rq.2) = 44)) rq)).2 ≤ n := (imR_b hnd9.2).2
      have hf1 : 200 ≤ f9 + 1 + rq.2 := hfu.1.resolve_right c_28
      have hT9 := hT.trans (tl_go c_28 (by omega) (by omega))
      have hps9 := tl_pos (T := T) (X := X9) c_28 c_39
      have hfu9 : (200 ≤ f9 + (imR T n X9 (ndR T n (decide (bt T n (rq.2) = 44)) rq)).2 ∨ (imR T n X9 (ndR T n (decide (bt T n (rq.2) = 44)) rq)).1 = true) ∧ 1 ≤ f9 := ⟨hps9.elim Or.inr (fun z9 => Or.inl (by omega)), by omega⟩
      have hmu9 : (if (imR T n X9 (ndR T n (decide (bt T n (rq.2) = 44)) rq)).1 = true then 0 else n + 1 - (imR T n X9 (ndR T n (decide (bt T n (rq.2) = 44)) rq)).2) < (if rq.1 = true then 0 else n + 1 - rq.2) := by
        rw [if_neg c_28]
        by_cases q9 : (imR T n X9 (ndR T n (decide (bt T n (rq.2) = 44)) rq)).1 = true
        · rw [if_pos q9]; omega
        · rw [if_neg q9]; have := hps9.resolve_left q9; omega
      refine lv_aload_n hx hb dX7_house_42 rfl (lv_at hl2 1 rfl) ?_
      refine lv_aload_n hx hb dX7_house_43 rfl (lv_at hl2 1 rfl) ?_
      refine lv_aload_n hx hb dX7_house_44 rfl (lv_at hl2 1 rfl) ?_
      refine va_get (D := D) (ci := 7) (v := .int (nI (rq.2))) (C := RX7) (T := TX7) (N := 23) hx hb hw iX7 hown hK hP6 0 rfl rfl 7 (by decide) (hw _ kw_4_71) (fun _ h9 => h9) rfl dX7_house_45 ?_
      refine rV_i (wc := [mO cy mm ik (nI n) (nI (rq.2)) (nI (te T n (rq.2))) vl9 (b2i (rq.1 = true)) rm rr om, ia cy (mm 5) 120 T]) (rest := [.ref (mm 0)]) hx hb hml hown hw hG hK hP6 hS6 hA hl2 kc_X7_byteAt kw_4_235 [.int (nI (rq.2))] (c_X7_byteAt l D cy G H6.size mm ik (nI (rq.2)) (nI (te T n (rq.2))) vl9 (b2i (rq.1 = true)) rm rr om n T rq.2 (by first | omega | assumption) (by omega)) [0, 3] rfl 0 rfl rfl rfl rfl rfl (Nat.le_of_ble_eq_true rfl) ⟨Nat.le_of_ble_eq_true rfl, Nat.le_of_ble_eq_true rfl⟩ dX7_house_48 ⟨Nat.le_of_ble_eq_true rfl, Nat.le_of_ble_eq_true rfl⟩ (fun r_48 H7 locs7 hr_48 hP7 hS7 => ?_)
      have hD7 := hD6
      clear hP6 hD6 hS6 locs6 H6
      subst hr_48
      refine lv_bipush (v := 44) hx hb dX7_house_51 (by decide) ?_
      refine lv_icmp_ne (tgt := 60) hx hb dX7_house_53 (by decide) (fun c_53 => ?_) (fun c_53 => ?_)
      · refine lv_iconst (v := 0) hx hb dX7_house_60 (by decide) ?_
        refine tp (show (0) = b2i (decide (bt T n (rq.2) = 44) = true) from (b2i_f (fun z9 => c_53 (of_decide_eq_true z9))).symm) ?_
        refine cV_v (wc := [mO cy mm ik (nI n) (nI (rq.2)) (nI (te T n (rq.2))) vl9 (b2i (rq.1 = true)) rm rr om, ia cy (mm 5) 120 T]) (wr := [ia cy (mm 1) 169 X9, ia cy (mm 3) 169 S]) (rest := []) hx hb hml hown hw hG hK hP7 hD7 hS7 hA hl2 kc_X7_needs kw_5_29 [.int (b2i (decide (bt T n (rq.2) = 44) = true))] (c_X7_needs l D cy G H7.size mm ik vl9 rm rr om n T rq (decide (bt T n (rq.2) = 44)) (by first | omega | assumption) hsr) [0, 3] [1, 2] rfl rfl rfl rfl rfl 0 rfl rfl rfl rfl rfl (Nat.le_of_ble_eq_true rfl) ⟨Nat.le_of_ble_eq_true rfl, Nat.le_of_ble_eq_true rfl⟩ dX7_house_61 ⟨Nat.le_of_ble_eq_true rfl, Nat.le_of_ble_eq_true rfl⟩ (fun u9 H8 locs8 hu9 hP8 hD8 hS8 => ?_)
        clear hP7 hD7 hS7 locs7 H7
        replace hP8 : va_P D vwCl ([ia cy (mm 1) 169 X9, ia cy (mm 3) 169 S, mO cy mm ik (nI n) (nI ((ndR T n (decide (bt T n (rq.2) = 44)) rq).2)) (nI (te T n ((ndR T n (decide (bt T n (rq.2) = 44)) rq).2))) vl9 (b2i ((ndR T n (decide (bt T n (rq.2) = 44)) rq).1 = true)) rm rr om, ia cy (mm 5) 120 T]) H8 := hP8
        replace hD8 : va_D (va_A _ sz) ([ia cy (mm 1) 169 X9, ia cy (mm 3) 169 S, mO cy mm ik (nI n) (nI ((ndR T n (decide (bt T n (rq.2) = 44)) rq).2)) (nI (te T n ((ndR T n (decide (bt T n (rq.2) = 44)) rq).2))) vl9 (b2i ((ndR T n (decide (bt T n (rq.2) = 44)) rq).1 = true)) rm rr om, ia cy (mm 5) 120 T]) := hD8
        replace hP8 := hP8.sub (ws' := [mO cy mm ik (nI n) (nI ((ndR T n (decide (bt T n (rq.2) = 44)) rq).2)) (nI (te T n ((ndR T n (decide (bt T n (rq.2) = 44)) rq).2))) vl9 (b2i ((ndR T n (decide (bt T n (rq.2) = 44)) rq).1 = true)) rm rr om, ia cy (mm 1) 169 X9, ia cy (mm 3) 169 S, ia cy (mm 5) 120 T]) [2, 0, 1, 3] rfl
        replace hD8 := hD8.sub (ws' := [mO cy mm ik (nI n) (nI ((ndR T n (decide (bt T n (rq.2) = 44)) rq).2)) (nI (te T n ((ndR T n (decide (bt T n (rq.2) = 44)) rq).2))) vl9 (b2i ((ndR T n (decide (bt T n (rq.2) = 44)) rq).1 = true)) rm rr om, ia cy (mm 1) 169 X9, ia cy (mm 3) 169 S, ia cy (mm 5) 120 T]) [2, 0, 1, 3] (by decide) rfl
        refine lv_aload_n hx hb dX7_house_64 rfl (lv_at hl2 1 rfl) ?_
        refine cV_v (wc := [mO cy mm ik (nI n) (nI ((ndR T n (decide (bt T n (rq.2) = 44)) rq).2)) (nI (te T n ((ndR T n (decide (bt T n (rq.2) = 44)) rq).2))) vl9 (b2i ((ndR T n (decide (bt T n (rq.2) = 44)) rq).1 = true)) rm rr om, ia cy (mm 1) 169 X9, ia cy (mm 5) 120 T]) (wr := [ia cy (mm 3) 169 S]) (rest := []) hx hb hml hown hw hG hK hP8 hD8 hS8 hA hl2 kc_X7_item kw_5_9 [] (c_X7_item l D cy G H8.size mm ik vl9 rm rr om n T X9 (ndR T n (decide (bt T n (rq.2) = 44)) rq) hwX (by first | omega | assumption) hnd9.2) [0, 1, 3] [2] rfl rfl rfl rfl rfl 0 rfl rfl rfl rfl rfl (Nat.le_of_ble_eq_true rfl) ⟨Nat.le_of_ble_eq_true rfl, Nat.le_of_ble_eq_true rfl⟩ dX7_house_65 ⟨Nat.le_of_ble_eq_true rfl, Nat.le_of_ble_eq_true rfl⟩ (fun u9 H9 locs9 hu9 hP9 hD9 hS9 => ?_)
        clear hP8 hD8 hS8 locs8 H8
        obtain ⟨vl1_65, rfl⟩ : ∃ z9, z9 = u9 := ⟨_, rfl⟩
        replace hP9 : va_P D vwCl ([ia cy (mm 3) 169 S, mO cy mm ik (nI n) (nI ((imR T n X9 (ndR T n (decide (bt T n (rq.2) = 44)) rq)).2)) (nI (te T n ((imR T n X9 (ndR T n (decide (bt T n (rq.2) = 44)) rq)).2))) vl1_65 (b2i ((imR T n X9 (ndR T n (decide (bt T n (rq.2) = 44)) rq)).1 = true)) rm rr om, ia cy (mm 1) 169 (imS T n X9 (ndR T n (decide (bt T n (rq.2) = 44)) rq)), ia cy (mm 5) 120 T]) H9 := hP9
        replace hD9 : va_D (va_A _ sz) ([ia cy (mm 3) 169 S, mO cy mm ik (nI n) (nI ((imR T n X9 (ndR T n (decide (bt T n (rq.2) = 44)) rq)).2)) (nI (te T n ((imR T n X9 (ndR T n (decide (bt T n (rq.2) = 44)) rq)).2))) vl1_65 (b2i ((imR T n X9 (ndR T n (decide (bt T n (rq.2) = 44)) rq)).1 = true)) rm rr om, ia cy (mm 1) 169 (imS T n X9 (ndR T n (decide (bt T n (rq.2) = 44)) rq)), ia cy (mm 5) 120 T]) := hD9
        replace hP9 := hP9.sub (ws' := [mO cy mm ik (nI n) (nI ((imR T n X9 (ndR T n (decide (bt T n (rq.2) = 44)) rq)).2)) (nI (te T n ((imR T n X9 (ndR T n (decide (bt T n (rq.2) = 44)) rq)).2))) vl1_65 (b2i ((imR T n X9 (ndR T n (decide (bt T n (rq.2) = 44)) rq)).1 = true)) rm rr om, ia cy (mm 1) 169 (imS T n X9 (ndR T n (decide (bt T n (rq.2) = 44)) rq)), ia cy (mm 3) 169 S, ia cy (mm 5) 120 T]) [1, 2, 0, 3] rfl
        replace hD9 := hD9.sub (ws' := [mO cy mm ik (nI n) (nI ((imR T n X9 (ndR T n (decide (bt T n (rq.2) = 44)) rq)).2)) (nI (te T n ((imR T n X9 (ndR T n (decide (bt T n (rq.2) = 44)) rq)).2))) vl1_65 (b2i ((imR T n X9 (ndR T n (decide (bt T n (rq.2) = 44)) rq)).1 = true)) rm rr om, ia cy (mm 1) 169 (imS T n X9 (ndR T n (decide (bt T n (rq.2) = 44)) rq)), ia cy (mm 3) 169 S, ia cy (mm 5) 120 T]) [1, 2, 0, 3] (by decide) rfl
        refine lv_iinc (v := nI (i + 1)) (lv' := [(1, .int (nI (i + 1))), (0, .ref (mm 0))]) hx hb dX7_house_68 hl2 (k := 0) rfl (nI_inc _) (by decide) rfl (fun ls3 hl3 => ?_)
        clear hl2 ls2
        refine lv_goto (tgt := 24) hx hb dX7_house_71 (by decide) ?_
        exact ih_24 (i + 1, imR T n X9 (ndR T n (decide (bt T n (rq.2) = 44)) rq), imS T n X9 (ndR T n (decide (bt T n (rq.2) = 44)) rq), vl1_65, f9) (⟨him9, hwi9, hfu9, hT9⟩) (by (try dsimp only); exact hmu9) H9 locs9 ls3 hP9 hD9 hS9 (lv_sub hl3 [0, 1] rfl)
      · refine lv_iconst (v := 1) hx hb dX7_house_56 (by decide) ?_
        refine lv_goto (tgt := 61) hx hb dX7_house_57 (by decide) ?_
        refine tp (show (1) = b2i (decide (bt T n (rq.2) = 44) = true) from (b2i_t (decide_eq_true c_53)).symm) ?_
        refine cV_v (wc := [mO cy mm ik (nI n) (nI (rq.2)) (nI (te T n (rq.2))) vl9 (b2i (rq.1 = true)) rm rr om, ia cy (mm 5) 120 T]) (wr := [ia cy (mm 1) 169 X9, ia cy (mm 3) 169 S]) (rest := []) hx hb hml hown hw hG hK hP7 hD7 hS7 hA hl2 kc_X7_needs kw_5_29 [.int (b2i (decide (bt T n (rq.2) = 44) = true))] (c_X7_needs l D cy G H7.size mm ik vl9 rm rr om n T rq (decide (bt T n (rq.2) = 44)) (by first | omega | assumption) hsr) [0, 3] [1, 2] rfl rfl rfl rfl rfl 0 rfl rfl rfl rfl rfl (Nat.le_of_ble_eq_true rfl) ⟨Nat.le_of_ble_eq_true rfl, Nat.le_of_ble_eq_true rfl⟩ dX7_house_61 ⟨Nat.le_of_ble_eq_true rfl, Nat.le_of_ble_eq_true rfl⟩ (fun u9 H8 locs8 hu9 hP8 hD8 hS8 => ?_)
        clear hP7 hD7 hS7 locs7 H7
        replace hP8 : va_P D vwCl ([ia cy (mm 1) 169 X9, ia cy (mm 3) 169 S, mO cy mm ik (nI n) (nI ((ndR T n (decide (bt T n (rq.2) = 44)) rq).2)) (nI (te T n ((ndR T n (decide (bt T n (rq.2) = 44)) rq).2))) vl9 (b2i ((ndR T n (decide (bt T n (rq.2) = 44)) rq).1 = true)) rm rr om, ia cy (mm 5) 120 T]) H8 := hP8
        replace hD8 : va_D (va_A _ sz) ([ia cy (mm 1) 169 X9, ia cy (mm 3) 169 S, mO cy mm ik (nI n) (nI ((ndR T n (decide (bt T n (rq.2) = 44)) rq).2)) (nI (te T n ((ndR T n (decide (bt T n (rq.2) = 44)) rq).2))) vl9 (b2i ((ndR T n (decide (bt T n (rq.2) = 44)) rq).1 = true)) rm rr om, ia cy (mm 5) 120 T]) := hD8
        replace hP8 := hP8.sub (ws' := [mO cy mm ik (nI n) (nI ((ndR T n (decide (bt T n (rq.2) = 44)) rq).2)) (nI (te T n ((ndR T n (decide (bt T n (rq.2) = 44)) rq).2))) vl9 (b2i ((ndR T n (decide (bt T n (rq.2) = 44)) rq).1 = true)) rm rr om, ia cy (mm 1) 169 X9, ia cy (mm 3) 169 S, ia cy (mm 5) 120 T]) [2, 0, 1, 3] rfl
        replace hD8 := hD8.sub (ws' := [mO cy mm ik (nI n) (nI ((ndR T n (decide (bt T n (rq.2) = 44)) rq).2)) (nI (te T n ((ndR T n (decide (bt T n (rq.2) = 44)) rq).2))) vl9 (b2i ((ndR T n (decide (bt T n (rq.2) = 44)) rq).1 = true)) rm rr om, ia cy (mm 1) 169 X9, ia cy (mm 3) 169 S, ia cy (mm 5) 120 T]) [2, 0, 1, 3] (by decide) rfl
        refine lv_aload_n hx hb dX7_house_64 rfl (lv_at hl2 1 rfl) ?_
        refine cV_v (wc := [mO cy mm ik (nI n) (nI ((ndR T n (decide (bt T n (rq.2) = 44)) rq).2)) (nI (te T n ((ndR T n (decide (bt T n (rq.2) = 44)) rq).2))) vl9 (b2i ((ndR T n (decide (bt T n (rq.2) = 44)) rq).1 = true)) rm rr om, ia cy (mm 1) 169 X9, ia cy (mm 5) 120 T]) (wr := [ia cy (mm 3) 169 S]) (rest := []) hx hb hml hown hw hG hK hP8 hD8 hS8 hA hl2 kc_X7_item kw_5_9 [] (c_X7_item l D cy G H8.size mm ik vl9 rm rr om n T X9 (ndR T n (decide (bt T n (rq.2) = 44)) rq) hwX (by first | omega | assumption) hnd9.2) [0, 1, 3] [2] rfl rfl rfl rfl rfl 0 rfl rfl rfl rfl rfl (Nat.le_of_ble_eq_true rfl) ⟨Nat.le_of_ble_eq_true rfl, Nat.le_of_ble_eq_true rfl⟩ dX7_house_65 ⟨Nat.le_of_ble_eq_true rfl, Nat.le_of_ble_eq_true rfl⟩ (fun u9 H9 locs9 hu9 hP9 hD9 hS9 => ?_)
        clear hP8 hD8 hS8 locs8 H8
        obtain ⟨vl1_65, rfl⟩ : ∃ z9, z9 = u9 := ⟨_, rfl⟩
        replace hP9 : va_P D vwCl ([ia cy (mm 3) 169 S, mO cy mm ik (nI n) (nI ((imR T n X9 (ndR T n (decide (bt T n (rq.2) = 44)) rq)).2)) (nI (te T n ((imR T n X9 (ndR T n (decide (bt T n (rq.2) = 44)) rq)).2))) vl1_65 (b2i ((imR T n X9 (ndR T n (decide (bt T n (rq.2) = 44)) rq)).1 = true)) rm rr om, ia cy (mm 1) 169 (imS T n X9 (ndR T n (decide (bt T n (rq.2) = 44)) rq)), ia cy (mm 5) 120 T]) H9 := hP9
        replace hD9 : va_D (va_A _ sz) ([ia cy (mm 3) 169 S, mO cy mm ik (nI n) (nI ((imR T n X9 (ndR T n (decide (bt T n (rq.2) = 44)) rq)).2)) (nI (te T n ((imR T n X9 (ndR T n (decide (bt T n (rq.2) = 44)) rq)).2))) vl1_65 (b2i ((imR T n X9 (ndR T n (decide (bt T n (rq.2) = 44)) rq)).1 = true)) rm rr om, ia cy (mm 1) 169 (imS T n X9 (ndR T n (decide (bt T n (rq.2) = 44)) rq)), ia cy (mm 5) 120 T]) := hD9
        replace hP9 := hP9.sub (ws' := [mO cy mm ik (nI n) (nI ((imR T n X9 (ndR T n (decide (bt T n (rq.2) = 44)) rq)).2)) (nI (te T n ((imR T n X9 (ndR T n (decide (bt T n (rq.2) = 44)) rq)).2))) vl1_65 (b2i ((imR T n X9 (ndR T n (decide (bt T n (rq.2) = 44)) rq)).1 = true)) rm rr om, ia cy (mm 1) 169 (imS T n X9 (ndR T n (decide (bt T n (rq.2) = 44)) rq)), ia cy (mm 3) 169 S, ia cy (mm 5) 120 T]) [1, 2, 0, 3] rfl
        replace hD9 := hD9.sub (ws' := [mO cy mm ik (nI n) (nI ((imR T n X9 (ndR T n (decide (bt T n (rq.2) = 44)) rq)).2)) (nI (te T n ((imR T n X9 (ndR T n (decide (bt T n (rq.2) = 44)) rq)).2))) vl1_65 (b2i ((imR T n X9 (ndR T n (decide (bt T n (rq.2) = 44)) rq)).1 = true)) rm rr om, ia cy (mm 1) 169 (imS T n X9 (ndR T n (decide (bt T n (rq.2) = 44)) rq)), ia cy (mm 3) 169 S, ia cy (mm 5) 120 T]) [1, 2, 0, 3] (by decide) rfl
        refine lv_iinc (v := nI (i + 1)) (lv' := [(1, .int (nI (i + 1))), (0, .ref (mm 0))]) hx hb dX7_house_68 hl2 (k := 0) rfl (nI_inc _) (by decide) rfl (fun ls3 hl3 => ?_)
        clear hl2 ls2
        refine lv_goto (tgt := 24) hx hb dX7_house_71 (by decide) ?_
        exact ih_24 (i + 1, imR T n X9 (ndR T n (decide (bt T n (rq.2) = 44)) rq), imS T n X9 (ndR T n (decide (bt T n (rq.2) = 44)) rq), vl1_65, f9) (⟨him9, hwi9, hfu9, hT9⟩) (by (try dsimp only); exact hmu9) H9 locs9 ls3 hP9 hD9 hS9 (lv_sub hl3 [0, 1] rfl)
