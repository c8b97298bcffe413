theorem kc_J0_coder_7d493 : kV yJ0_coder_7d493 cJ0_coder_7d493 1 (some .byte) 0 := ⟨kw_2_195, kw_2_196, kw_1_11, kw_2_197, by decide, by decide, by decide +kernel⟩
set_option maxHeartbeats 4000000 in
set_option maxRecDepth 100000 in
theorem c_J0_coder_7d493 (l : Launch) (D : va_G) (cy : Nat → ClassId) (G : Nat → Nat) (sz : Nat) (i : Nat) (hi : i < 14) : Met l yJ0_coder_7d493 (wm yJ0_coder_7d493 cJ0_coder_7d493 1 (some .byte)) { frames := 0, cells := 0, slots := 0, locals := 0 } (va_Pc [.ref (G (10 + i))] (pd D (TY cy) G ([]) sz)) (va_Qi (fun r (_ : Unit) => r = 0) (fun _ _ => True) (va_A [] sz)) 0 0 (va_A [] sz) := by
  refine mk_rd (by decide) RJ0 rfl (Nat.le_of_ble_eq_true rfl) [(0, .ref (G (10 + i)))] rfl ?_
  intro p e s m below meth c hx hb hml hown hr hlocks hw hsz hA hG hK H0 locs0 hP0 hS0 ls0 hl0
  refine va_gets (v := .int 1) hx hb hG.2.2.2.2.1 hS0 hown (hw _ kw_2_198) (fun _ h9 => h9) dJ0_coder_7d493_0 ?_
  refine lv_if_eq (tgt := 13) hx hb dJ0_coder_7d493_3 (by decide) (fun c => absurd c (by decide)) (fun _ => ?_)
  refine lv_aload_n hx hb dJ0_coder_7d493_6 rfl (lv_at hl0 0 rfl) ?_
  refine vk_getf (v := .int 0) (q := G (10 + i)) hx hb (hG.2.2.1.1 i hi).2.1 hS0 hown (hw _ kw_6_12) (fun _ h9 => h9) dJ0_coder_7d493_7 ?_
  refine lv_goto (tgt := 14) hx hb dJ0_coder_7d493_10 (by decide) ?_
  exact rd_z hx hb hr hlocks hS0 dJ0_coder_7d493_14 rfl (rfl)

theorem kc_J0_isLatin1_aae02 : kV yJ0_isLatin1_aae02 cJ0_isLatin1_aae02 1 (some .boolean) 0 := ⟨kw_2_205, kw_2_206, kw_1_11, kw_2_207, by decide, by decide, by decide +kernel⟩
set_option maxHeartbeats 4000000 in
set_option maxRecDepth 100000 in
theorem c_J0_isLatin1_aae02 (l : Launch) (D : va_G) (cy : Nat → ClassId) (G : Nat → Nat) (sz : Nat) (i : Nat) (hi : i < 14) : Met l yJ0_isLatin1_aae02 (wm yJ0_isLatin1_aae02 cJ0_isLatin1_aae02 1 (some .boolean)) { frames := 0, cells := 0, slots := 0, locals := 0 } (va_Pc [.ref (G (10 + i))] (pd D (TY cy) G ([]) sz)) (va_Qi (fun r (_ : Unit) => r = 1) (fun _ _ => True) (va_A [] sz)) 0 0 (va_A [] sz) := by
  refine mk_rd (by decide) RJ0 rfl (Nat.le_of_ble_eq_true rfl) [(0, .ref (G (10 + i)))] rfl ?_
  intro p e s m below meth c hx hb hml hown hr hlocks hw hsz hA hG hK H0 locs0 hP0 hS0 ls0 hl0
  refine va_gets (v := .int 1) hx hb hG.2.2.2.2.1 hS0 hown (hw _ kw_2_198) (fun _ h9 => h9) dJ0_isLatin1_aae02_0 ?_
  refine lv_if_eq (tgt := 17) hx hb dJ0_isLatin1_aae02_3 (by decide) (fun c => absurd c (by decide)) (fun _ => ?_)
  refine lv_aload_n hx hb dJ0_isLatin1_aae02_6 rfl (lv_at hl0 0 rfl) ?_
  refine vk_getf (v := .int 0) (q := G (10 + i)) hx hb (hG.2.2.1.1 i hi).2.1 hS0 hown (hw _ kw_6_12) (fun _ h9 => h9) dJ0_isLatin1_aae02_7 ?_
  refine lv_if_ne (tgt := 17) hx hb dJ0_isLatin1_aae02_10 (by decide) (fun c => absurd (by decide) c) (fun _ => ?_)
  refine lv_iconst (v := 1) hx hb dJ0_isLatin1_aae02_13 (by decide) ?_
  refine lv_goto (tgt := 18) hx hb dJ0_isLatin1_aae02_14 (by decide) ?_
  exact rd_z hx hb hr hlocks hS0 dJ0_isLatin1_aae02_18 rfl (rfl)

theorem kc_J0_length_8abf5 : kV yJ0_length_8abf5 cJ0_length_8abf5 1 (some .int) 0 := ⟨kw_2_191, kw_2_192, kw_1_11, kw_2_193, by decide, by decide, by decide +kernel⟩
set_option maxHeartbeats 4000000 in
set_option maxRecDepth 100000 in
theorem c_J0_length_8abf5 (l : Launch) (D : va_G) (cy : Nat → ClassId) (G : Nat → Nat) (sz : Nat) (i : Nat) (hi : i < 14) : Met l yJ0_length_8abf5 (wm yJ0_length_8abf5 cJ0_length_8abf5 1 (some .int)) { frames := 1, cells := 0, slots := 0, locals := 20 } (va_Pc [.ref (G (10 + i))] (pd D (TY cy) G ([]) sz)) (va_Qi (fun r (_ : Unit) => r = nI (wn i)) (fun _ _ => True) (va_A [] sz)) 0 0 (va_A [] sz) := by
  refine mk_rd (by decide) RJ0 rfl (Nat.le_of_ble_eq_true rfl) [(0, .ref (G (10 + i)))] rfl ?_
  intro p e s m below meth c hx hb hml hown hr hlocks hw hsz hA hG hK H0 locs0 hP0 hS0 ls0 hl0
  refine lv_aload_n hx hb dJ0_length_8abf5_0 rfl (lv_at hl0 0 rfl) ?_
  refine vk_getf (v := .ref (G (40 + i))) (q := G (10 + i)) hx hb (hG.2.2.1.1 i hi).2.2.1 hS0 hown (hw _ kw_6_11) (fun _ h9 => h9) dJ0_length_8abf5_1 ?_
  refine va_tlen (v := nI (wn i)) hx hb (hG.2.2.1.1 i hi).2.2.2 hS0 rfl dJ0_length_8abf5_4 ?_
  refine lv_aload_n hx hb dJ0_length_8abf5_5 rfl (lv_at hl0 0 rfl) ?_
  refine rS_i (rest := [.int (nI (wn i))]) hx hb hml hown hw hG hK hP0 hS0 hA hl0 kc_J0_coder_7d493 kw_2_194 [] (i := i) hi rfl (c_J0_coder_7d493 l D cy G H0.size i (by first | omega | assumption)) rfl rfl (Nat.le_of_ble_eq_true rfl) ⟨Nat.le_of_ble_eq_true rfl, Nat.le_of_ble_eq_true rfl⟩ dJ0_length_8abf5_6 ⟨Nat.le_of_ble_eq_true rfl, Nat.le_of_ble_eq_true rfl⟩ (fun r_6 H1 locs1 hr_6 hP1 hS1 => ?_)
  clear hP0 hS0 locs0 H0
  subst hr_6
  refine lv_ishr hx hb dJ0_length_8abf5_9 ?_
  refine tp (show ((nI (wn i)) >>> (0 &&& 31)) = nI (wn i) from len_sh _) ?_
  exact rd_i hx hb hr hlocks hS1 dJ0_length_8abf5_10 (rfl)

theorem kc_J3_checkIndex_8e157 : kT yJ3_checkIndex_8e157 cJ3_checkIndex_8e157 3 (some .int) 3 := ⟨kw_2_217, kw_1_13, kw_2_218, by decide, by decide, by decide +kernel⟩
set_option maxHeartbeats 4000000 in
set_option maxRecDepth 100000 in
theorem c_J3_checkIndex_8e157 (l : Launch) (D : va_G) (cy : Nat → ClassId) (G : Nat → Nat) (sz : Nat) (k : Nat) (n : Nat) (t : Nat) (hk : k < n) (hn : n < 2 ^ 31) : Met l yJ3_checkIndex_8e157 (wm yJ3_checkIndex_8e157 cJ3_checkIndex_8e157 3 (some .int)) { frames := 0, cells := 0, slots := 0, locals := 0 } (va_Pc [.int (nI k), .int (nI n), .ref t] (pd D (TY cy) G ([]) sz)) (va_Qi (fun r (_ : Unit) => r = nI k) (fun _ _ => True) (va_A [] sz)) 0 0 (va_A [] sz) := by
  refine mk_rd (by decide) RJ3 rfl (Nat.le_of_ble_eq_true rfl) [(0, .int (nI k)), (1, .int (nI n)), (2, .ref t)] rfl ?_
  intro p e s m below meth c hx hb hml hown hr hlocks hw hsz hA hG hK H0 locs0 hP0 hS0 ls0 hl0
  refine lv_iload_n hx hb dJ3_checkIndex_8e157_0 rfl (lv_at hl0 0 rfl) ?_
  refine lv_if_lt (tgt := 9) hx hb dJ3_checkIndex_8e157_1 (by decide) (fun c => absurd c (nI_pos (by omega))) (fun _ => ?_)
  refine lv_iload_n hx hb dJ3_checkIndex_8e157_4 rfl (lv_at hl0 0 rfl) ?_
  refine lv_iload_n hx hb dJ3_checkIndex_8e157_5 rfl (lv_at hl0 1 rfl) ?_
  refine ln_lt (tgt := 16) k n rfl rfl (by omega) (by omega) hx hb dJ3_checkIndex_8e157_6 (by decide) (fun c_6 => ?_) (fun c_6 => absurd hk (by omega))
  refine lv_iload_n hx hb dJ3_checkIndex_8e157_16 rfl (lv_at hl0 0 rfl) ?_
  exact rd_i hx hb hr hlocks hS0 dJ3_checkIndex_8e157_17 (rfl)

set_option maxHeartbeats 4000000 in
set_option maxRecDepth 100000 in
theorem c_J3_checkIndex_8e157_n (l : Launch) (D : va_G) (cy : Nat → ClassId) (G : Nat → Nat) (sz : Nat) (k : Nat) (n : Nat) (hk : k < n) (hn : n < 2 ^ 31) : Met l yJ3_checkIndex_8e157 (wm yJ3_checkIndex_8e157 cJ3_checkIndex_8e157 3 (some .int)) { frames := 0, cells := 0, slots := 0, locals := 0 } (va_Pc [.int (nI k), .int (nI n), .null] (pd D (TY cy) G ([]) sz)) (va_Qi (fun r (_ : Unit) => r = nI k) (fun _ _ => True) (va_A [] sz)) 0 0 (va_A [] sz) := by
  refine mk_rd (by decide) RJ3 rfl (Nat.le_of_ble_eq_true rfl) [(0, .int (nI k)), (1, .int (nI n)), (2, .null)] rfl ?_
  intro p e s m below meth c hx hb hml hown hr hlocks hw hsz hA hG hK H0 locs0 hP0 hS0 ls0 hl0
  refine lv_iload_n hx hb dJ3_checkIndex_8e157_0 rfl (lv_at hl0 0 rfl) ?_
  refine lv_if_lt (tgt := 9) hx hb dJ3_checkIndex_8e157_1 (by decide) (fun c => absurd c (nI_pos (by omega))) (fun _ => ?_)
  refine lv_iload_n hx hb dJ3_checkIndex_8e157_4 rfl (lv_at hl0 0 rfl) ?_
  refine lv_iload_n hx hb dJ3_checkIndex_8e157_5 rfl (lv_at hl0 1 rfl) ?_
  refine ln_lt (tgt := 16) k n rfl rfl (by omega) (by omega) hx hb dJ3_checkIndex_8e157_6 (by decide) (fun c_6 => ?_) (fun c_6 => absurd hk (by omega))
  refine lv_iload_n hx hb dJ3_checkIndex_8e157_16 rfl (lv_at hl0 0 rfl) ?_
  exact rd_i hx hb hr hlocks hS0 dJ3_checkIndex_8e157_17 (rfl)

theorem kc_J0_checkIndex_df160 : kT yJ0_checkIndex_df160 cJ0_checkIndex_df160 2 none 2 := ⟨kw_2_212, kw_1_11, kw_2_213, by decide, by decide, by decide +kernel⟩
set_option maxHeartbeats 4000000 in
set_option maxRecDepth 100000 in
theorem c_J0_checkIndex_df160 (l : Launch) (D : va_G) (cy : Nat → ClassId) (G : Nat → Nat) (sz : Nat) (k : Nat) (n : Nat) (hk : k < n) (hn : n < 2 ^ 31) : Met l yJ0_checkIndex_df160 (wm yJ0_checkIndex_df160 cJ0_checkIndex_df160 2 none) { frames := 1, cells := 0, slots := 0, locals := 22 } (va_Pc [.int (nI k), .int (nI n)] (pd D (TY cy) G ([]) sz)) (va_Qv (fun (_ : Unit) => True) (fun _ _ => True) (va_A [] sz)) 0 0 (va_A [] sz) := by
  refine mk_rd (by decide) RJ0 rfl (Nat.le_of_ble_eq_true rfl) [(0, .int (nI k)), (1, .int (nI n))] rfl ?_
  intro p e s m below meth c hx hb hml hown hr hlocks hw hsz hA hG hK H0 locs0 hP0 hS0 ls0 hl0
  refine lv_iload_n hx hb dJ0_checkIndex_df160_0 rfl (lv_at hl0 0 rfl) ?_
  refine lv_iload_n hx hb dJ0_checkIndex_df160_1 rfl (lv_at hl0 1 rfl) ?_
  rcases hG.2.2.2.2.2 with hz9 | ⟨t9, hz9⟩
  · refine va_gets (v := .null) hx hb hz9 hS0 hown (hw _ kw_2_214) (fun _ h9 => h9) dJ0_checkIndex_df160_2 ?_
    refine rT_i (wc := []) (rest := []) hx hb hml hown hw hG hK hP0 hS0 hA hl0 kc_J3_checkIndex_8e157 kw_2_216 [.int (nI k), .int (nI n), .null] (c_J3_checkIndex_8e157_n l D cy G H0.size k n (by first | omega | assumption) (by first | omega | assumption)) [] rfl rfl rfl (Nat.le_of_ble_eq_true rfl) ⟨Nat.le_of_ble_eq_true rfl, Nat.le_of_ble_eq_true rfl⟩ dJ0_checkIndex_df160_5 ⟨Nat.le_of_ble_eq_true rfl, Nat.le_of_ble_eq_true rfl⟩ (fun r_5 H1 locs1 hr_5 hP1 hS1 => ?_)
    clear hP0 hS0 locs0 H0
    subst hr_5
    refine lv_pop hx hb dJ0_checkIndex_df160_8 rfl ?_
    exact rd_v hx hb hr hlocks hS1 dJ0_checkIndex_df160_9
  · refine va_gets (v := .ref t9) hx hb hz9 hS0 hown (hw _ kw_2_214) (fun _ h9 => h9) dJ0_checkIndex_df160_2 ?_
    refine rT_i (wc := []) (rest := []) hx hb hml hown hw hG hK hP0 hS0 hA hl0 kc_J3_checkIndex_8e157 kw_2_216 [.int (nI k), .int (nI n), .ref t9] (c_J3_checkIndex_8e157 l D cy G H0.size k n t9 (by first | omega | assumption) (by first | omega | assumption)) [] rfl rfl rfl (Nat.le_of_ble_eq_true rfl) ⟨Nat.le_of_ble_eq_true rfl, Nat.le_of_ble_eq_true rfl⟩ dJ0_checkIndex_df160_5 ⟨Nat.le_of_ble_eq_true rfl, Nat.le_of_ble_eq_true rfl⟩ (fun r_5 H1 locs1 hr_5 hP1 hS1 => ?_)
    clear hP0 hS0 locs0 H0
    subst hr_5
    refine lv_pop hx hb dJ0_checkIndex_df160_8 rfl ?_
    exact rd_v hx hb hr hlocks hS1 dJ0_checkIndex_df160_9

theorem kc_J1_charAt_3b067 : kT yJ1_charAt_3b067 cJ1_charAt_3b067 2 (some .char) 2 := ⟨kw_2_209, kw_1_12, kw_2_210, by decide, by decide, by decide +kernel⟩
set_option maxHeartbeats 4000000 in
set_option maxRecDepth 100000 in
theorem c_J1_charAt_3b067 (l : Launch) (D : va_G) (cy : Nat → ClassId) (G : Nat → Nat) (sz : Nat) (i : Nat) (k : Nat) (hi : i < 14) (hk : k < wn i) : Met l yJ1_charAt_3b067 (wm yJ1_charAt_3b067 cJ1_charAt_3b067 2 (some .char)) { frames := 2, cells := 0, slots := 0, locals := 43 } (va_Pc [.ref (G (40 + i)), .int (nI k)] (pd D (TY cy) G ([]) sz)) (va_Qi (fun r (_ : Unit) => r = wl i k) (fun _ _ => True) (va_A [] sz)) 0 0 (va_A [] sz) := by
  refine mk_rd (by decide) RJ1 rfl (Nat.le_of_ble_eq_true rfl) [(0, .ref (G (40 + i))), (1, .int (nI k))] rfl ?_
  intro p e s m below meth c hx hb hml hown hr hlocks hw hsz hA hG hK H0 locs0 hP0 hS0 ls0 hl0
  have hw7 := wn_37 i hi
  refine lv_iload_n hx hb dJ1_charAt_3b067_0 rfl (lv_at hl0 1 rfl) ?_
  refine lv_aload_n hx hb dJ1_charAt_3b067_1 rfl (lv_at hl0 0 rfl) ?_
  refine va_tlen (v := nI (wn i)) hx hb (hG.2.2.1.1 i hi).2.2.2 hS0 rfl dJ1_charAt_3b067_2 ?_
  refine rT_v (wc := []) (rest := []) hx hb hml hown hw hG hK hP0 hS0 hA hl0 kc_J0_checkIndex_df160 kw_2_211 [.int (nI k), .int (nI (wn i))] (c_J0_checkIndex_df160 l D cy G H0.size k (wn i) (by first | omega | assumption) (by first | omega | assumption)) [] rfl rfl rfl (Nat.le_of_ble_eq_true rfl) ⟨Nat.le_of_ble_eq_true rfl, Nat.le_of_ble_eq_true rfl⟩ dJ1_charAt_3b067_3 ⟨Nat.le_of_ble_eq_true rfl, Nat.le_of_ble_eq_true rfl⟩ (fun H1 locs1 hP1 hS1 => ?_)
  clear hP0 hS0 locs0 H0
  refine lv_aload_n hx hb dJ1_charAt_3b067_6 rfl (lv_at hl0 0 rfl) ?_
  refine lv_iload_n hx hb dJ1_charAt_3b067_7 rfl (lv_at hl0 1 rfl) ?_
  refine tld_b (f := wl i) (N := wn i) hx hb (hG.2.2.1.1 i hi).2.2.2 hS1 k rfl (by first | omega | assumption) (by have h9 := wn_37 i hi; omega) dJ1_charAt_3b067_8 ?_
  refine lv_sipush (v := 255) hx hb dJ1_charAt_3b067_9 (by decide) ?_
  refine lv_iand hx hb dJ1_charAt_3b067_12 ?_
  refine lv_i2c hx hb dJ1_charAt_3b067_13 rfl ?_
  refine tp (show ((((wl i k) &&& 255).toUInt32 % 65536).toInt32) = wl i k from wl_c i hi k hk) ?_
  exact rd_z hx hb hr hlocks hS1 dJ1_charAt_3b067_14 (wl_nar i hi k hk) (rfl)

theorem kc_J0_charAt_5068e : kV yJ0_charAt_5068e cJ0_charAt_5068e 2 (some .char) 1 := ⟨kw_2_201, kw_2_202, kw_1_11, kw_2_203, by decide, by decide, by decide +kernel⟩
set_option maxHeartbeats 4000000 in
set_option maxRecDepth 100000 in
theorem c_J0_charAt_5068e (l : Launch) (D : va_G) (cy : Nat → ClassId) (G : Nat → Nat) (sz : Nat) (i : Nat) (k : Nat) (hi : i < 14) (hk : k < wn i) : Met l yJ0_charAt_5068e (wm yJ0_charAt_5068e cJ0_charAt_5068e 2 (some .char)) { frames := 4, cells := 0, slots := 0, locals := 85 } (va_Pc [.ref (G (10 + i)), .int (nI k)] (pd D (TY cy) G ([]) sz)) (va_Qi (fun r (_ : Unit) => r = wl i k) (fun _ _ => True) (va_A [] sz)) 0 0 (va_A [] sz) := by
  refine mk_rd (by decide) RJ0 rfl (Nat.le_of_ble_eq_true rfl) [(0, .ref (G (10 + i))), (1, .int (nI k))] rfl ?_
  intro p e s m below meth c hx hb hml hown hr hlocks hw hsz hA hG hK H0 locs0 hP0 hS0 ls0 hl0
  have hw7 := wn_37 i hi
  refine lv_aload_n hx hb dJ0_charAt_5068e_0 rfl (lv_at hl0 0 rfl) ?_
  refine rS_i (rest := []) hx hb hml hown hw hG hK hP0 hS0 hA hl0 kc_J0_isLatin1_aae02 kw_2_204 [] (i := i) hi rfl (c_J0_isLatin1_aae02 l D cy G H0.size i (by first | omega | assumption)) rfl rfl (Nat.le_of_ble_eq_true rfl) ⟨Nat.le_of_ble_eq_true rfl, Nat.le_of_ble_eq_true rfl⟩ dJ0_charAt_5068e_1 ⟨Nat.le_of_ble_eq_true rfl, Nat.le_of_ble_eq_true rfl⟩ (fun r_1 H1 locs1 hr_1 hP1 hS1 => ?_)
  clear hP0 hS0 locs0 H0
  subst hr_1
  refine lv_if_eq (tgt := 16) hx hb dJ0_charAt_5068e_4 (by decide) (fun c => absurd c (by decide)) (fun _ => ?_)
  refine lv_aload_n hx hb dJ0_charAt_5068e_7 rfl (lv_at hl0 0 rfl) ?_
  refine vk_getf (v := .ref (G (40 + i))) (q := G (10 + i)) hx hb (hG.2.2.1.1 i hi).2.2.1 hS1 hown (hw _ kw_6_11) (fun _ h9 => h9) dJ0_charAt_5068e_8 ?_
  refine lv_iload_n hx hb dJ0_charAt_5068e_11 rfl (lv_at hl0 1 rfl) ?_
  refine rT_i (wc := []) (rest := []) hx hb hml hown hw hG hK hP1 hS1 hA hl0 kc_J1_charAt_3b067 kw_2_208 [.ref (G (40 + i)), .int (nI k)] (c_J1_charAt_3b067 l D cy G H1.size i k (by first | omega | assumption) (by first | omega | assumption)) [] rfl rfl rfl (Nat.le_of_ble_eq_true rfl) ⟨Nat.le_of_ble_eq_true rfl, Nat.le_of_ble_eq_true rfl⟩ dJ0_charAt_5068e_12 ⟨Nat.le_of_ble_eq_true rfl, Nat.le_of_ble_eq_true rfl⟩ (fun r_12 H2 locs2 hr_12 hP2 hS2 => ?_)
  clear hP1 hS1 locs1 H1
  subst hr_12
  exact rd_z hx hb hr hlocks hS2 dJ0_charAt_5068e_15 (wl_nar i hi k hk) (rfl)
