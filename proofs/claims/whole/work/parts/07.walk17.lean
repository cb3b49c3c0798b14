-- WallHandsModel.keep(III)V
abbrev W_m_keep (g : gG) (h0 h1 h2 h3 h4 h5 h6 h7 h8 h9 h10 h11 h12 h13 h14 h15 h16 h17 h18 h19 h20 h21 h22 h23 h24 h25 h26 h27 h28 h29 h30 : Nat) (v_courses : Int32) (v_wide : Int32) (v_hands : Int32) (v_jumpTold : Int32) (v_frosts : Int32) (v_gaps : Int32) (v_frostsNow : Int32) (v_notFrosts : Int32) (v_gapsNow : Int32) (v_fell : Int32) (v_fellAll : Int32) (v_sheepFirst : Int32) (v_sheepMany : Int32) (v_seens : Int32) (v_finding : Int32) (v_forms : Nat → Int32) (v_items : Nat → Int32) : va_W := [(h0, .inr (9, [.ref h3, .ref h4, .int v_courses, .int v_wide, .ref h5, .int v_hands, .ref h6, .ref h7, .int v_jumpTold, .int v_frosts, .ref h8, .ref h9, .int v_gaps, .ref h10, .ref h11, .ref h12, .ref h13, .int v_frostsNow, .ref h14, .ref h15, .int v_notFrosts, .int v_gapsNow, .ref h16, .int v_fell, .int v_fellAll, .ref h17, .ref h18, .ref h19, .ref h20, .ref h21, .ref h22, .ref h23, .int v_sheepFirst, .int v_sheepMany, .int v_seens, .ref h24, .ref h25, .ref h26, .ref h27, .ref h28, .ref h1, .ref h29, .ref h2, .ref h30, .int v_finding])), (h1, .inl (gI g, 4, .inl v_forms)), (h2, .inl (gI g, 240, .inl v_items))]

abbrev rm_m_keep : Room := { frames := 0, cells := 0, slots := 0, locals := 0 }

set_option maxHeartbeats 1000000 in
set_option maxRecDepth 100000 in
theorem c_m_keep (l : Launch) (g : gG) (sz : Nat) (h0 h1 h2 h3 h4 h5 h6 h7 h8 h9 h10 h11 h12 h13 h14 h15 h16 h17 h18 h19 h20 h21 h22 h23 h24 h25 h26 h27 h28 h29 h30 : Nat) (v_courses : Int32) (v_wide : Int32) (v_hands : Int32) (v_jumpTold : Int32) (v_frosts : Int32) (v_gaps : Int32) (v_frostsNow : Int32) (v_notFrosts : Int32) (v_gapsNow : Int32) (v_fell : Int32) (v_fellAll : Int32) (v_sheepFirst : Int32) (v_sheepMany : Int32) (v_seens : Int32) (v_finding : Int32) (v_forms : Nat → Int32) (v_items : Nat → Int32) (a0 : Int32) (a1 : Int32) (a2 : Int32) (r : (Nat → Int32)) (hm : f_m_keep v_forms v_items a0 a1 a2 = some r) : gMv l yX9_keep cX9_keep 4 none rm_m_keep g sz [.ref h0, .int a0, .int a1, .int a2] (W_m_keep g h0 h1 h2 h3 h4 h5 h6 h7 h8 h9 h10 h11 h12 h13 h14 h15 h16 h17 h18 h19 h20 h21 h22 h23 h24 h25 h26 h27 h28 h29 h30 v_courses v_wide v_hands v_jumpTold v_frosts v_gaps v_frostsNow v_notFrosts v_gapsNow v_fell v_fellAll v_sheepFirst v_sheepMany v_seens v_finding v_forms v_items) (W_m_keep g h0 h1 h2 h3 h4 h5 h6 h7 h8 h9 h10 h11 h12 h13 h14 h15 h16 h17 h18 h19 h20 h21 h22 h23 h24 h25 h26 h27 h28 h29 h30 v_courses v_wide v_hands v_jumpTold v_frosts v_gaps v_frostsNow v_notFrosts v_gapsNow v_fell v_fellAll v_sheepFirst v_sheepMany v_seens v_finding v_forms r) := by
  unfold f_m_keep at hm
  refine gEnterV (by decide) (Nat.le_of_ble_eq_true rfl) (fun p e s m below meth c A C0 H locs hw ls hl => ?_)
  obtain ⟨hx, hb, hr, hml, hown, hts, hlocks, hK, hA⟩ := id C0
  have C0 : gX p s m [.ref h0, .int a0, .int a1, .int a2].toArray meth c cX9_keep 4 none RX9 g A := C0
  have hl : lv_has ls 4 [(0, .ref h0), (1, .int a0), (2, .int a1), (3, .int a2)] := hl
  refine lv_aload_n hx hb dX9_keep_0 rfl (lv_at hl 0 rfl) ?_
  refine gGet C0 hw flX9_95 0 rfl rfl dX9_keep_1 ?_
  refine lv_bipush (v := 60) hx hb dX9_keep_4 (by decide) ?_
  refine lv_iload_n hx hb dX9_keep_6 rfl (lv_at hl 1 rfl) ?_
  refine lv_imul hx hb dX9_keep_7 ?_
  refine lv_iload_n hx hb dX9_keep_8 rfl (lv_at hl 2 rfl) ?_
  refine lv_iadd hx hb dX9_keep_9 ?_
  refine lv_aload_n hx hb dX9_keep_10 rfl (lv_at hl 0 rfl) ?_
  refine gGet C0 hw flX9_89 0 rfl rfl dX9_keep_11 ?_
  refine lv_iload_n hx hb dX9_keep_14 rfl (lv_at hl 1 rfl) ?_
  obtain ⟨hin, hm⟩ := gdE hm
  have hin := inbE hin
  refine gAldI C0 hw 1 rfl hin dX9_keep_15 ?_
  refine lv_if_ne (tgt := 24) hx hb dX9_keep_16 (by decide) (fun hc => ?_) (fun hc => ?_)
  · have hm := ineg hc hm
    refine lv_aload_n hx hb dX9_keep_24 rfl (lv_at hl 0 rfl) ?_
    refine gGet C0 hw flX9_89 0 rfl rfl dX9_keep_25 ?_
    refine lv_iload_n hx hb dX9_keep_28 rfl (lv_at hl 1 rfl) ?_
    obtain ⟨hin, hm⟩ := gdE hm
    have hin := inbE hin
    refine gAldI C0 hw 1 rfl hin dX9_keep_29 ?_
    refine lv_iconst (v := 1) hx hb dX9_keep_30 (by decide) ?_
    refine lv_icmp_ne (tgt := 39) hx hb dX9_keep_31 (by decide) (fun hc => ?_) (fun hc => ?_)
    · have hm := ineg hc hm
      refine lv_iload_n hx hb dX9_keep_39 rfl (lv_at hl 3 rfl) ?_
      obtain ⟨hin, hm⟩ := gdE hm
      have hin := inbE hin
      refine gAstI (ws' := (W_m_keep g h0 h1 h2 h3 h4 h5 h6 h7 h8 h9 h10 h11 h12 h13 h14 h15 h16 h17 h18 h19 h20 h21 h22 h23 h24 h25 h26 h27 h28 h29 h30 v_courses v_wide v_hands v_jumpTold v_frosts v_gaps v_frostsNow v_notFrosts v_gapsNow v_fell v_fellAll v_sheepFirst v_sheepMany v_seens v_finding v_forms (upd v_items (((60 : Int32) * a0) + a1).toNatClampNeg a2))) C0 hw 2 rfl hin rfl dX9_keep_40 (fun H locs hw => ?_)
      have hm := Option.some.inj hm
      subst hm
      exact gRetV C0 hw dX9_keep_41
    · have hm := ipos hc hm
      refine lv_iload_n hx hb dX9_keep_34 rfl (lv_at hl 3 rfl) ?_
      refine lv_i2s (v := a2.toInt16.toInt32) hx hb dX9_keep_35 rfl ?_
      refine lv_goto (tgt := 40) hx hb dX9_keep_36 (by decide) ?_
      obtain ⟨hin, hm⟩ := gdE hm
      have hin := inbE hin
      refine gAstI (ws' := (W_m_keep g h0 h1 h2 h3 h4 h5 h6 h7 h8 h9 h10 h11 h12 h13 h14 h15 h16 h17 h18 h19 h20 h21 h22 h23 h24 h25 h26 h27 h28 h29 h30 v_courses v_wide v_hands v_jumpTold v_frosts v_gaps v_frostsNow v_notFrosts v_gapsNow v_fell v_fellAll v_sheepFirst v_sheepMany v_seens v_finding v_forms (upd v_items (((60 : Int32) * a0) + a1).toNatClampNeg a2.toInt16.toInt32))) C0 hw 2 rfl hin rfl dX9_keep_40 (fun H locs hw => ?_)
      have hm := Option.some.inj hm
      subst hm
      exact gRetV C0 hw dX9_keep_41
  · have hm := ipos hc hm
    refine lv_iload_n hx hb dX9_keep_19 rfl (lv_at hl 3 rfl) ?_
    refine lv_i2b (v := a2.toInt8.toInt32) hx hb dX9_keep_20 rfl ?_
    refine lv_goto (tgt := 40) hx hb dX9_keep_21 (by decide) ?_
    obtain ⟨hin, hm⟩ := gdE hm
    have hin := inbE hin
    refine gAstI (ws' := (W_m_keep g h0 h1 h2 h3 h4 h5 h6 h7 h8 h9 h10 h11 h12 h13 h14 h15 h16 h17 h18 h19 h20 h21 h22 h23 h24 h25 h26 h27 h28 h29 h30 v_courses v_wide v_hands v_jumpTold v_frosts v_gaps v_frostsNow v_notFrosts v_gapsNow v_fell v_fellAll v_sheepFirst v_sheepMany v_seens v_finding v_forms (upd v_items (((60 : Int32) * a0) + a1).toNatClampNeg a2.toInt8.toInt32))) C0 hw 2 rfl hin rfl dX9_keep_40 (fun H locs hw => ?_)
    have hm := Option.some.inj hm
    subst hm
    exact gRetV C0 hw dX9_keep_41

-- WallHandsModel.put(IIII)I
abbrev W_m_put (g : gG) (h0 h1 h2 h3 h4 h5 h6 h7 h8 h9 h10 h11 h12 h13 h14 h15 h16 h17 h18 h19 h20 h21 h22 h23 h24 h25 h26 h27 h28 h29 h30 : Nat) (v_courses : Int32) (v_wide : Int32) (v_hands : Int32) (v_jumpTold : Int32) (v_frosts : Int32) (v_gaps : Int32) (v_frostsNow : Int32) (v_notFrosts : Int32) (v_gapsNow : Int32) (v_fell : Int32) (v_fellAll : Int32) (v_sheepFirst : Int32) (v_sheepMany : Int32) (v_seens : Int32) (v_finding : Int32) (v_isThere : Nat → Int32) (v_forms : Nat → Int32) (v_sizes : Nat → Int32) (v_items : Nat → Int32) : va_W := [(h0, .inr (9, [.ref h5, .ref h6, .int v_courses, .int v_wide, .ref h7, .int v_hands, .ref h8, .ref h9, .int v_jumpTold, .int v_frosts, .ref h10, .ref h11, .int v_gaps, .ref h12, .ref h13, .ref h14, .ref h15, .int v_frostsNow, .ref h16, .ref h17, .int v_notFrosts, .int v_gapsNow, .ref h18, .int v_fell, .int v_fellAll, .ref h19, .ref h20, .ref h21, .ref h22, .ref h23, .ref h24, .ref h25, .int v_sheepFirst, .int v_sheepMany, .int v_seens, .ref h26, .ref h27, .ref h28, .ref h29, .ref h1, .ref h2, .ref h3, .ref h4, .ref h30, .int v_finding])), (h1, .inl (gZ g, 4, .inl v_isThere)), (h2, .inl (gI g, 4, .inl v_forms)), (h3, .inl (gI g, 4, .inl v_sizes)), (h4, .inl (gI g, 240, .inl v_items))]

abbrev rm_m_put : Room := { frames := 2, cells := 0, slots := 0, locals := 45 }

set_option maxHeartbeats 1000000 in
set_option maxRecDepth 100000 in
theorem c_m_put (l : Launch) (g : gG) (sz : Nat) (h0 h1 h2 h3 h4 h5 h6 h7 h8 h9 h10 h11 h12 h13 h14 h15 h16 h17 h18 h19 h20 h21 h22 h23 h24 h25 h26 h27 h28 h29 h30 : Nat) (v_courses : Int32) (v_wide : Int32) (v_hands : Int32) (v_jumpTold : Int32) (v_frosts : Int32) (v_gaps : Int32) (v_frostsNow : Int32) (v_notFrosts : Int32) (v_gapsNow : Int32) (v_fell : Int32) (v_fellAll : Int32) (v_sheepFirst : Int32) (v_sheepMany : Int32) (v_seens : Int32) (v_finding : Int32) (v_isThere : Nat → Int32) (v_forms : Nat → Int32) (v_sizes : Nat → Int32) (v_items : Nat → Int32) (a0 : Int32) (a1 : Int32) (a2 : Int32) (a3 : Int32) (r : (Int32 × Int32 × (Nat → Int32))) (hm : f_m_put v_finding v_isThere v_forms v_sizes v_items a0 a1 a2 a3 = some r) : gMi l yX9_put cX9_put 6 (some .int) rm_m_put g sz [.ref h0, .int a0, .int a1, .int a2, .int a3] (W_m_put g h0 h1 h2 h3 h4 h5 h6 h7 h8 h9 h10 h11 h12 h13 h14 h15 h16 h17 h18 h19 h20 h21 h22 h23 h24 h25 h26 h27 h28 h29 h30 v_courses v_wide v_hands v_jumpTold v_frosts v_gaps v_frostsNow v_notFrosts v_gapsNow v_fell v_fellAll v_sheepFirst v_sheepMany v_seens v_finding v_isThere v_forms v_sizes v_items) r.1 (W_m_put g h0 h1 h2 h3 h4 h5 h6 h7 h8 h9 h10 h11 h12 h13 h14 h15 h16 h17 h18 h19 h20 h21 h22 h23 h24 h25 h26 h27 h28 h29 h30 v_courses v_wide v_hands v_jumpTold v_frosts v_gaps v_frostsNow v_notFrosts v_gapsNow v_fell v_fellAll v_sheepFirst v_sheepMany v_seens r.2.1 v_isThere v_forms v_sizes r.2.2) := by
  unfold f_m_put at hm
  refine gEnterI (by decide) (Nat.le_of_ble_eq_true rfl) (fun p e s m below meth c A C0 H locs hw ls hl => ?_)
  obtain ⟨hx, hb, hr, hml, hown, hts, hlocks, hK, hA⟩ := id C0
  have C0 : gX p s m [.ref h0, .int a0, .int a1, .int a2, .int a3].toArray meth c cX9_put 6 (some .int) RX9 g A := C0
  have hl : lv_has ls 6 [(0, .ref h0), (1, .int a0), (2, .int a1), (3, .int a2), (4, .int a3)] := hl
  refine lv_iload_n hx hb dX9_put_0 rfl (lv_at hl 1 rfl) ?_
  obtain ⟨o1, ho1, hm⟩ := bindE hm
  refine gCalli (ws' := (W_m_put g h0 h1 h2 h3 h4 h5 h6 h7 h8 h9 h10 h11 h12 h13 h14 h15 h16 h17 h18 h19 h20 h21 h22 h23 h24 h25 h26 h27 h28 h29 h30 v_courses v_wide v_hands v_jumpTold v_frosts v_gaps v_frostsNow v_notFrosts v_gapsNow v_fell v_fellAll v_sheepFirst v_sheepMany v_seens v_finding v_isThere v_forms v_sizes v_items)) C0 hw (gRunS (As := [.int a0]) (rest := []) C0 hw lkX9_176 (c_m_isSheet l g H.size  a0 o1 ho1) ⟨rfl, rfl⟩ ⟨Nat.le_of_ble_eq_true rfl, Nat.le_of_ble_eq_true rfl⟩ [] (by decide) rfl rfl hl.1 rfl (Nat.le_of_ble_eq_true rfl) dX9_put_1) [] [0, 1, 2, 3, 4] rfl rfl ⟨rfl, rfl, rfl, rfl, rfl, trivial⟩ [h0, h1, h2, h3, h4] rfl rfl 5 rfl (by decide +kernel) (fun H locs hw => ?_)
  refine lv_if_eq (tgt := 16) hx hb dX9_put_4 (by decide) (fun hc => ?_) (fun hc => ?_)
  · have hm := ipos hc hm
    refine lv_bipush (v := -2) hx hb dX9_put_16 (by decide) ?_
    have hm := Option.some.inj hm
    subst hm
    exact gRetI C0 hw dX9_put_18
  · have hm := ineg hc hm
    refine lv_iload_n hx hb dX9_put_7 rfl (lv_at hl 2 rfl) ?_
    refine lv_iconst (v := 0) hx hb dX9_put_8 (by decide) ?_
    refine lv_iconst (v := 2) hx hb dX9_put_9 (by decide) ?_
    obtain ⟨o10, ho10, hm⟩ := bindE hm
    refine gCalli (ws' := (W_m_put g h0 h1 h2 h3 h4 h5 h6 h7 h8 h9 h10 h11 h12 h13 h14 h15 h16 h17 h18 h19 h20 h21 h22 h23 h24 h25 h26 h27 h28 h29 h30 v_courses v_wide v_hands v_jumpTold v_frosts v_gaps v_frostsNow v_notFrosts v_gapsNow v_fell v_fellAll v_sheepFirst v_sheepMany v_seens v_finding v_isThere v_forms v_sizes v_items)) C0 hw (gRunS (As := [.int a1, .int (0 : Int32), .int (2 : Int32)]) (rest := []) C0 hw lkX9_107 (c_m_in l g H.size  a1 (0 : Int32) (2 : Int32) o10 ho10) ⟨rfl, rfl⟩ ⟨Nat.le_of_ble_eq_true rfl, Nat.le_of_ble_eq_true rfl⟩ [] (by decide) rfl rfl hl.1 rfl (Nat.le_of_ble_eq_true rfl) dX9_put_10) [] [0, 1, 2, 3, 4] rfl rfl ⟨rfl, rfl, rfl, rfl, rfl, trivial⟩ [h0, h1, h2, h3, h4] rfl rfl 5 rfl (by decide +kernel) (fun H locs hw => ?_)
    refine lv_if_ne (tgt := 19) hx hb dX9_put_13 (by decide) (fun hc => ?_) (fun hc => ?_)
    · have hm := ineg hc hm
      refine lv_aload_n hx hb dX9_put_19 rfl (lv_at hl 0 rfl) ?_
      refine lv_iload_n hx hb dX9_put_20 rfl (lv_at hl 1 rfl) ?_
      refine lv_iload_n hx hb dX9_put_21 rfl (lv_at hl 2 rfl) ?_
      refine lv_iload_n hx hb dX9_put_22 rfl (lv_at hl 3 rfl) ?_
      obtain ⟨o23, ho23, hm⟩ := bindE hm
      refine gCalli (ws' := (W_m_put g h0 h1 h2 h3 h4 h5 h6 h7 h8 h9 h10 h11 h12 h13 h14 h15 h16 h17 h18 h19 h20 h21 h22 h23 h24 h25 h26 h27 h28 h29 h30 v_courses v_wide v_hands v_jumpTold v_frosts v_gaps v_frostsNow v_notFrosts v_gapsNow v_fell v_fellAll v_sheepFirst v_sheepMany v_seens v_finding v_isThere v_forms v_sizes v_items)) C0 hw (gRunV (As := [.int a0, .int a1, .int a2]) (rest := []) C0 hw lkX9_343 (c_m_lacks l g H.size h0 h1 h2 h3 h5 h6 h7 h8 h9 h10 h11 h12 h13 h14 h15 h16 h17 h18 h19 h20 h21 h22 h23 h24 h25 h26 h27 h28 h29 h4 h30 v_courses v_wide v_hands v_jumpTold v_frosts v_gaps v_frostsNow v_notFrosts v_gapsNow v_fell v_fellAll v_sheepFirst v_sheepMany v_seens v_finding v_isThere v_forms v_sizes a0 a1 a2 o23 ho23) ⟨rfl, rfl⟩ ⟨Nat.le_of_ble_eq_true rfl, Nat.le_of_ble_eq_true rfl⟩ [0, 1, 2, 3] (by decide) rfl 0 rfl rfl rfl hl.1 rfl (Nat.le_of_ble_eq_true rfl) dX9_put_23) [0, 1, 2, 3] [4] rfl rfl ⟨rfl, trivial⟩ [h0, h1, h2, h3, h4] rfl rfl 5 rfl (by decide +kernel) (fun H locs hw => ?_)
      refine lv_istore (lv' := [(5, .int o23), (0, .ref h0), (1, .int a0), (2, .int a1), (3, .int a2), (4, .int a3)]) hx hb dX9_put_26 hl (by decide) rfl (fun ls hl => ?_)
      refine lv_iload hx hb dX9_put_28 (lv_at hl 0 rfl) ?_
      refine lv_if_le (tgt := 40) hx hb dX9_put_30 (by decide) (fun hc => ?_) (fun hc => ?_)
      · have hm := ipos hc hm
        refine lv_aload_n hx hb dX9_put_40 rfl (lv_at hl 1 rfl) ?_
        refine lv_iload_n hx hb dX9_put_41 rfl (lv_at hl 2 rfl) ?_
        refine lv_iload_n hx hb dX9_put_42 rfl (lv_at hl 4 rfl) ?_
        refine lv_iload hx hb dX9_put_43 (lv_at hl 5 rfl) ?_
        obtain ⟨o45, ho45, hm⟩ := bindE hm
        refine gCallv (ws' := (W_m_put g h0 h1 h2 h3 h4 h5 h6 h7 h8 h9 h10 h11 h12 h13 h14 h15 h16 h17 h18 h19 h20 h21 h22 h23 h24 h25 h26 h27 h28 h29 h30 v_courses v_wide v_hands v_jumpTold v_frosts v_gaps v_frostsNow v_notFrosts v_gapsNow v_fell v_fellAll v_sheepFirst v_sheepMany v_seens v_finding v_isThere v_forms v_sizes o45)) C0 hw (gRunV (As := [.int a0, .int a2, .int a3]) (rest := []) C0 hw lkX9_346 (c_m_keep l g H.size h0 h2 h4 h5 h6 h7 h8 h9 h10 h11 h12 h13 h14 h15 h16 h17 h18 h19 h20 h21 h22 h23 h24 h25 h26 h27 h28 h29 h1 h3 h30 v_courses v_wide v_hands v_jumpTold v_frosts v_gaps v_frostsNow v_notFrosts v_gapsNow v_fell v_fellAll v_sheepFirst v_sheepMany v_seens v_finding v_forms v_items a0 a2 a3 o45 ho45) ⟨rfl, rfl⟩ ⟨Nat.le_of_ble_eq_true rfl, Nat.le_of_ble_eq_true rfl⟩ [0, 2, 4] (by decide) rfl 0 rfl rfl rfl hl.1 rfl (Nat.le_of_ble_eq_true rfl) dX9_put_45) [0, 2, 4] [1, 3] rfl rfl ⟨rfl, rfl, trivial⟩ [h0, h1, h2, h3, h4] rfl rfl 5 rfl (by decide +kernel) (fun H locs hw => ?_)
        refine lv_iconst (v := 1) hx hb dX9_put_48 (by decide) ?_
        have hm := Option.some.inj hm
        subst hm
        exact gRetI C0 hw dX9_put_49
      · have hm := ineg hc hm
        refine lv_aload_n hx hb dX9_put_33 rfl (lv_at hl 1 rfl) ?_
        refine lv_iload hx hb dX9_put_34 (lv_at hl 0 rfl) ?_
        obtain ⟨o36, ho36, hm⟩ := bindE hm
        refine gCalli (ws' := (W_m_put g h0 h1 h2 h3 h4 h5 h6 h7 h8 h9 h10 h11 h12 h13 h14 h15 h16 h17 h18 h19 h20 h21 h22 h23 h24 h25 h26 h27 h28 h29 h30 v_courses v_wide v_hands v_jumpTold v_frosts v_gaps v_frostsNow v_notFrosts v_gapsNow v_fell v_fellAll v_sheepFirst v_sheepMany v_seens o36.2 v_isThere v_forms v_sizes v_items)) C0 hw (gRunV (As := [.int o23]) (rest := []) C0 hw lkX9_179 (c_m_meets l g H.size h0 h5 h6 h7 h8 h9 h10 h11 h12 h13 h14 h15 h16 h17 h18 h19 h20 h21 h22 h23 h24 h25 h26 h27 h28 h29 h1 h2 h3 h4 h30 v_courses v_wide v_hands v_jumpTold v_frosts v_gaps v_frostsNow v_notFrosts v_gapsNow v_fell v_fellAll v_sheepFirst v_sheepMany v_seens v_finding o23 o36 ho36) ⟨rfl, rfl⟩ ⟨Nat.le_of_ble_eq_true rfl, Nat.le_of_ble_eq_true rfl⟩ [0] (by decide) rfl 0 rfl rfl rfl hl.1 rfl (Nat.le_of_ble_eq_true rfl) dX9_put_36) [0] [1, 2, 3, 4] rfl rfl ⟨rfl, rfl, rfl, rfl, trivial⟩ [h0, h1, h2, h3, h4] rfl rfl 5 rfl (by decide +kernel) (fun H locs hw => ?_)
        have hm := Option.some.inj hm
        subst hm
        exact gRetI C0 hw dX9_put_39
    · have hm := ipos hc hm
      refine lv_bipush (v := -2) hx hb dX9_put_16 (by decide) ?_
      have hm := Option.some.inj hm
      subst hm
      exact gRetI C0 hw dX9_put_18

-- WallHandsModel.get(III)I
abbrev W_m_get (g : gG) (h0 h1 h2 h3 h4 h5 h6 h7 h8 h9 h10 h11 h12 h13 h14 h15 h16 h17 h18 h19 h20 h21 h22 h23 h24 h25 h26 h27 h28 h29 h30 : Nat) (v_courses : Int32) (v_wide : Int32) (v_hands : Int32) (v_jumpTold : Int32) (v_frosts : Int32) (v_gaps : Int32) (v_frostsNow : Int32) (v_notFrosts : Int32) (v_gapsNow : Int32) (v_fell : Int32) (v_fellAll : Int32) (v_sheepFirst : Int32) (v_sheepMany : Int32) (v_seens : Int32) (v_finding : Int32) (v_isThere : Nat → Int32) (v_forms : Nat → Int32) (v_sizes : Nat → Int32) (v_items : Nat → Int32) : va_W := [(h0, .inr (9, [.ref h5, .ref h6, .int v_courses, .int v_wide, .ref h7, .int v_hands, .ref h8, .ref h9, .int v_jumpTold, .int v_frosts, .ref h10, .ref h11, .int v_gaps, .ref h12, .ref h13, .ref h14, .ref h15, .int v_frostsNow, .ref h16, .ref h17, .int v_notFrosts, .int v_gapsNow, .ref h18, .int v_fell, .int v_fellAll, .ref h19, .ref h20, .ref h21, .ref h22, .ref h23, .ref h24, .ref h25, .int v_sheepFirst, .int v_sheepMany, .int v_seens, .ref h26, .ref h27, .ref h28, .ref h29, .ref h1, .ref h2, .ref h3, .ref h4, .ref h30, .int v_finding])), (h1, .inl (gZ g, 4, .inl v_isThere)), (h2, .inl (gI g, 4, .inl v_forms)), (h3, .inl (gI g, 4, .inl v_sizes)), (h4, .inl (gI g, 240, .inl v_items))]

abbrev rm_m_get : Room := { frames := 2, cells := 0, slots := 0, locals := 45 }

set_option maxHeartbeats 1000000 in
set_option maxRecDepth 100000 in
theorem c_m_get (l : Launch) (g : gG) (sz : Nat) (h0 h1 h2 h3 h4 h5 h6 h7 h8 h9 h10 h11 h12 h13 h14 h15 h16 h17 h18 h19 h20 h21 h22 h23 h24 h25 h26 h27 h28 h29 h30 : Nat) (v_courses : Int32) (v_wide : Int32) (v_hands : Int32) (v_jumpTold : Int32) (v_frosts : Int32) (v_gaps : Int32) (v_frostsNow : Int32) (v_notFrosts : Int32) (v_gapsNow : Int32) (v_fell : Int32) (v_fellAll : Int32) (v_sheepFirst : Int32) (v_sheepMany : Int32) (v_seens : Int32) (v_finding : Int32) (v_isThere : Nat → Int32) (v_forms : Nat → Int32) (v_sizes : Nat → Int32) (v_items : Nat → Int32) (a0 : Int32) (a1 : Int32) (a2 : Int32) (r : (Int32 × Int32)) (hm : f_m_get v_finding v_isThere v_forms v_sizes v_items a0 a1 a2 = some r) : gMi l yX9_get cX9_get 5 (some .int) rm_m_get g sz [.ref h0, .int a0, .int a1, .int a2] (W_m_get g h0 h1 h2 h3 h4 h5 h6 h7 h8 h9 h10 h11 h12 h13 h14 h15 h16 h17 h18 h19 h20 h21 h22 h23 h24 h25 h26 h27 h28 h29 h30 v_courses v_wide v_hands v_jumpTold v_frosts v_gaps v_frostsNow v_notFrosts v_gapsNow v_fell v_fellAll v_sheepFirst v_sheepMany v_seens v_finding v_isThere v_forms v_sizes v_items) r.1 (W_m_get g h0 h1 h2 h3 h4 h5 h6 h7 h8 h9 h10 h11 h12 h13 h14 h15 h16 h17 h18 h19 h20 h21 h22 h23 h24 h25 h26 h27 h28 h29 h30 v_courses v_wide v_hands v_jumpTold v_frosts v_gaps v_frostsNow v_notFrosts v_gapsNow v_fell v_fellAll v_sheepFirst v_sheepMany v_seens r.2 v_isThere v_forms v_sizes v_items) := by
  unfold f_m_get at hm
  refine gEnterI (by decide) (Nat.le_of_ble_eq_true rfl) (fun p e s m below meth c A C0 H locs hw ls hl => ?_)
  obtain ⟨hx, hb, hr, hml, hown, hts, hlocks, hK, hA⟩ := id C0
  have C0 : gX p s m [.ref h0, .int a0, .int a1, .int a2].toArray meth c cX9_get 5 (some .int) RX9 g A := C0
  have hl : lv_has ls 5 [(0, .ref h0), (1, .int a0), (2, .int a1), (3, .int a2)] := hl
  refine lv_iload_n hx hb dX9_get_0 rfl (lv_at hl 1 rfl) ?_
  obtain ⟨o1, ho1, hm⟩ := bindE hm
  refine gCalli (ws' := (W_m_get g h0 h1 h2 h3 h4 h5 h6 h7 h8 h9 h10 h11 h12 h13 h14 h15 h16 h17 h18 h19 h20 h21 h22 h23 h24 h25 h26 h27 h28 h29 h30 v_courses v_wide v_hands v_jumpTold v_frosts v_gaps v_frostsNow v_notFrosts v_gapsNow v_fell v_fellAll v_sheepFirst v_sheepMany v_seens v_finding v_isThere v_forms v_sizes v_items)) C0 hw (gRunS (As := [.int a0]) (rest := []) C0 hw lkX9_176 (c_m_isSheet l g H.size  a0 o1 ho1) ⟨rfl, rfl⟩ ⟨Nat.le_of_ble_eq_true rfl, Nat.le_of_ble_eq_true rfl⟩ [] (by decide) rfl rfl hl.1 rfl (Nat.le_of_ble_eq_true rfl) dX9_get_1) [] [0, 1, 2, 3, 4] rfl rfl ⟨rfl, rfl, rfl, rfl, rfl, trivial⟩ [h0, h1, h2, h3, h4] rfl rfl 5 rfl (by decide +kernel) (fun H locs hw => ?_)
  refine lv_if_eq (tgt := 16) hx hb dX9_get_4 (by decide) (fun hc => ?_) (fun hc => ?_)
  · have hm := ipos hc hm
    refine lv_ldcw (v := -2147483648) hx hb hown (hts _ kX9_350) dX9_get_16 ?_
    have hm := Option.some.inj hm
    subst hm
    exact gRetI C0 hw dX9_get_19
  · have hm := ineg hc hm
    refine lv_iload_n hx hb dX9_get_7 rfl (lv_at hl 2 rfl) ?_
    refine lv_iconst (v := 0) hx hb dX9_get_8 (by decide) ?_
    refine lv_iconst (v := 2) hx hb dX9_get_9 (by decide) ?_
    obtain ⟨o10, ho10, hm⟩ := bindE hm
    refine gCalli (ws' := (W_m_get g h0 h1 h2 h3 h4 h5 h6 h7 h8 h9 h10 h11 h12 h13 h14 h15 h16 h17 h18 h19 h20 h21 h22 h23 h24 h25 h26 h27 h28 h29 h30 v_courses v_wide v_hands v_jumpTold v_frosts v_gaps v_frostsNow v_notFrosts v_gapsNow v_fell v_fellAll v_sheepFirst v_sheepMany v_seens v_finding v_isThere v_forms v_sizes v_items)) C0 hw (gRunS (As := [.int a1, .int (0 : Int32), .int (2 : Int32)]) (rest := []) C0 hw lkX9_107 (c_m_in l g H.size  a1 (0 : Int32) (2 : Int32) o10 ho10) ⟨rfl, rfl⟩ ⟨Nat.le_of_ble_eq_true rfl, Nat.le_of_ble_eq_true rfl⟩ [] (by decide) rfl rfl hl.1 rfl (Nat.le_of_ble_eq_true rfl) dX9_get_10) [] [0, 1, 2, 3, 4] rfl rfl ⟨rfl, rfl, rfl, rfl, rfl, trivial⟩ [h0, h1, h2, h3, h4] rfl rfl 5 rfl (by decide +kernel) (fun H locs hw => ?_)
    refine lv_if_ne (tgt := 20) hx hb dX9_get_13 (by decide) (fun hc => ?_) (fun hc => ?_)
    · have hm := ineg hc hm
      refine lv_aload_n hx hb dX9_get_20 rfl (lv_at hl 0 rfl) ?_
      refine lv_iload_n hx hb dX9_get_21 rfl (lv_at hl 1 rfl) ?_
      refine lv_iload_n hx hb dX9_get_22 rfl (lv_at hl 2 rfl) ?_
      refine lv_iload_n hx hb dX9_get_23 rfl (lv_at hl 3 rfl) ?_
      obtain ⟨o24, ho24, hm⟩ := bindE hm
      refine gCalli (ws' := (W_m_get g h0 h1 h2 h3 h4 h5 h6 h7 h8 h9 h10 h11 h12 h13 h14 h15 h16 h17 h18 h19 h20 h21 h22 h23 h24 h25 h26 h27 h28 h29 h30 v_courses v_wide v_hands v_jumpTold v_frosts v_gaps v_frostsNow v_notFrosts v_gapsNow v_fell v_fellAll v_sheepFirst v_sheepMany v_seens v_finding v_isThere v_forms v_sizes v_items)) C0 hw (gRunV (As := [.int a0, .int a1, .int a2]) (rest := []) C0 hw lkX9_343 (c_m_lacks l g H.size h0 h1 h2 h3 h5 h6 h7 h8 h9 h10 h11 h12 h13 h14 h15 h16 h17 h18 h19 h20 h21 h22 h23 h24 h25 h26 h27 h28 h29 h4 h30 v_courses v_wide v_hands v_jumpTold v_frosts v_gaps v_frostsNow v_notFrosts v_gapsNow v_fell v_fellAll v_sheepFirst v_sheepMany v_seens v_finding v_isThere v_forms v_sizes a0 a1 a2 o24 ho24) ⟨rfl, rfl⟩ ⟨Nat.le_of_ble_eq_true rfl, Nat.le_of_ble_eq_true rfl⟩ [0, 1, 2, 3] (by decide) rfl 0 rfl rfl rfl hl.1 rfl (Nat.le_of_ble_eq_true rfl) dX9_get_24) [0, 1, 2, 3] [4] rfl rfl ⟨rfl, trivial⟩ [h0, h1, h2, h3, h4] rfl rfl 5 rfl (by decide +kernel) (fun H locs hw => ?_)
      refine lv_istore (lv' := [(4, .int o24), (0, .ref h0), (1, .int a0), (2, .int a1), (3, .int a2)]) hx hb dX9_get_27 hl (by decide) rfl (fun ls hl => ?_)
      refine lv_iload hx hb dX9_get_29 (lv_at hl 0 rfl) ?_
      refine lv_if_le (tgt := 44) hx hb dX9_get_31 (by decide) (fun hc => ?_) (fun hc => ?_)
      · have hm := ipos hc hm
        refine lv_aload_n hx hb dX9_get_44 rfl (lv_at hl 1 rfl) ?_
        refine gGet C0 hw flX9_95 0 rfl rfl dX9_get_45 ?_
        refine lv_bipush (v := 60) hx hb dX9_get_48 (by decide) ?_
        refine lv_iload_n hx hb dX9_get_50 rfl (lv_at hl 2 rfl) ?_
        refine lv_imul hx hb dX9_get_51 ?_
        refine lv_iload_n hx hb dX9_get_52 rfl (lv_at hl 4 rfl) ?_
        refine lv_iadd hx hb dX9_get_53 ?_
        obtain ⟨hin, hm⟩ := gdE hm
        have hin := inbE hin
        refine gAldI C0 hw 4 rfl hin dX9_get_54 ?_
        have hm := Option.some.inj hm
        subst hm
        exact gRetI C0 hw dX9_get_55
      · have hm := ineg hc hm
        refine lv_aload_n hx hb dX9_get_34 rfl (lv_at hl 1 rfl) ?_
        refine lv_iload hx hb dX9_get_35 (lv_at hl 0 rfl) ?_
        refine gPut (ws' := (W_m_get g h0 h1 h2 h3 h4 h5 h6 h7 h8 h9 h10 h11 h12 h13 h14 h15 h16 h17 h18 h19 h20 h21 h22 h23 h24 h25 h26 h27 h28 h29 h30 v_courses v_wide v_hands v_jumpTold v_frosts v_gaps v_frostsNow v_notFrosts v_gapsNow v_fell v_fellAll v_sheepFirst v_sheepMany v_seens o24 v_isThere v_forms v_sizes v_items)) C0 hw fpX9_340 0 rfl rfl rfl (Nat.le_of_ble_eq_true rfl) rfl dX9_get_37 (fun H locs hw => ?_)
        refine lv_ldcw (v := -2147483648) hx hb hown (hts _ kX9_350) dX9_get_40 ?_
        have hm := Option.some.inj hm
        subst hm
        exact gRetI C0 hw dX9_get_43
    · have hm := ipos hc hm
      refine lv_ldcw (v := -2147483648) hx hb hown (hts _ kX9_350) dX9_get_16 ?_
      have hm := Option.some.inj hm
      subst hm
      exact gRetI C0 hw dX9_get_19

-- WallHandsModel.copy(IIIII)I
abbrev W_m_copy (g : gG) (h0 h1 h2 h3 h4 h5 h6 h7 h8 h9 h10 h11 h12 h13 h14 h15 h16 h17 h18 h19 h20 h21 h22 h23 h24 h25 h26 h27 h28 h29 h30 : Nat) (v_courses : Int32) (v_wide : Int32) (v_hands : Int32) (v_jumpTold : Int32) (v_frosts : Int32) (v_gaps : Int32) (v_frostsNow : Int32) (v_notFrosts : Int32) (v_gapsNow : Int32) (v_fell : Int32) (v_fellAll : Int32) (v_sheepFirst : Int32) (v_sheepMany : Int32) (v_seens : Int32) (v_finding : Int32) (v_isThere : Nat → Int32) (v_forms : Nat → Int32) (v_sizes : Nat → Int32) (v_items : Nat → Int32) (v_moved : Nat → Int32) : va_W := [(h0, .inr (9, [.ref h6, .ref h7, .int v_courses, .int v_wide, .ref h8, .int v_hands, .ref h9, .ref h10, .int v_jumpTold, .int v_frosts, .ref h11, .ref h12, .int v_gaps, .ref h13, .ref h14, .ref h15, .ref h16, .int v_frostsNow, .ref h17, .ref h18, .int v_notFrosts, .int v_gapsNow, .ref h19, .int v_fell, .int v_fellAll, .ref h20, .ref h21, .ref h22, .ref h23, .ref h24, .ref h25, .ref h26, .int v_sheepFirst, .int v_sheepMany, .int v_seens, .ref h27, .ref h28, .ref h29, .ref h30, .ref h1, .ref h2, .ref h3, .ref h4, .ref h5, .int v_finding])), (h1, .inl (gZ g, 4, .inl v_isThere)), (h2, .inl (gI g, 4, .inl v_forms)), (h3, .inl (gI g, 4, .inl v_sizes)), (h4, .inl (gI g, 240, .inl v_items)), (h5, .inl (gI g, 60, .inl v_moved))]

abbrev rm_m_copy : Room := { frames := 2, cells := 0, slots := 0, locals := 42 }

set_option maxHeartbeats 1000000 in
set_option maxRecDepth 100000 in
theorem n_m_copy_N35 {p : Program} {l : Launch} {e : Env} {s : State} {m : MethodId} {args : Array Value} {below : List Frame} {meth : Method} {c : Code} {A : Nat → Prop} {g : gG} {h0 h1 h2 h3 h4 h5 h6 h7 h8 h9 h10 h11 h12 h13 h14 h15 h16 h17 h18 h19 h20 h21 h22 h23 h24 h25 h26 h27 h28 h29 h30 : Nat} {v_courses : Int32} {v_wide : Int32} {v_hands : Int32} {v_jumpTold : Int32} {v_frosts : Int32} {v_gaps : Int32} {v_frostsNow : Int32} {v_notFrosts : Int32} {v_gapsNow : Int32} {v_fell : Int32} {v_fellAll : Int32} {v_sheepFirst : Int32} {v_sheepMany : Int32} {v_seens : Int32} {v_isThere : Nat → Int32} {v_forms : Nat → Int32} {v_sizes : Nat → Int32} {r : (Int32 × Int32 × (Nat → Int32) × (Nat → Int32))} (C0 : gX p s m args meth c cX9_copy 7 (some .int) RX9 g A) : ∀ (v_finding : Int32) (v_items : Nat → Int32) (v_moved : Nat → Int32), f_m_copy_N35 v_isThere v_forms v_sizes v_finding v_items v_moved = some r → ∀ (H : Heap) (locs : List Loc) (ls : Array Slot), gW g A s (W_m_copy g h0 h1 h2 h3 h4 h5 h6 h7 h8 h9 h10 h11 h12 h13 h14 h15 h16 h17 h18 h19 h20 h21 h22 h23 h24 h25 h26 h27 h28 h29 h30 v_courses v_wide v_hands v_jumpTold v_frosts v_gaps v_frostsNow v_notFrosts v_gapsNow v_fell v_fellAll v_sheepFirst v_sheepMany v_seens v_finding v_isThere v_forms v_sizes v_items v_moved) H locs → lv_has ls 7 [(0, .ref h0)] → W p l e rm_m_copy s m args below meth c H locs 0 0 (gQi below args s A g r.1 (W_m_copy g h0 h1 h2 h3 h4 h5 h6 h7 h8 h9 h10 h11 h12 h13 h14 h15 h16 h17 h18 h19 h20 h21 h22 h23 h24 h25 h26 h27 h28 h29 h30 v_courses v_wide v_hands v_jumpTold v_frosts v_gaps v_frostsNow v_notFrosts v_gapsNow v_fell v_fellAll v_sheepFirst v_sheepMany v_seens r.2.1 v_isThere v_forms v_sizes r.2.2.1 r.2.2.2)) (F0 m 35 ls []) := by
  intro v_finding v_items v_moved hm H locs ls hw hl
  unfold f_m_copy_N35 at hm
  obtain ⟨hx, hb, hr, hml, hown, hts, hlocks, hK, hA⟩ := id C0
  refine lv_aload_n hx hb dX9_copy_35 rfl (lv_at hl 0 rfl) ?_
  refine lv_iconst (v := 1) hx hb dX9_copy_36 (by decide) ?_
  obtain ⟨o37, ho37, hm⟩ := bindE hm
  refine gCalli (ws' := (W_m_copy g h0 h1 h2 h3 h4 h5 h6 h7 h8 h9 h10 h11 h12 h13 h14 h15 h16 h17 h18 h19 h20 h21 h22 h23 h24 h25 h26 h27 h28 h29 h30 v_courses v_wide v_hands v_jumpTold v_frosts v_gaps v_frostsNow v_notFrosts v_gapsNow v_fell v_fellAll v_sheepFirst v_sheepMany v_seens o37.2 v_isThere v_forms v_sizes v_items v_moved)) C0 hw (gRunV (As := [.int (1 : Int32)]) (rest := []) C0 hw lkX9_179 (c_m_meets l g H.size h0 h6 h7 h8 h9 h10 h11 h12 h13 h14 h15 h16 h17 h18 h19 h20 h21 h22 h23 h24 h25 h26 h27 h28 h29 h30 h1 h2 h3 h4 h5 v_courses v_wide v_hands v_jumpTold v_frosts v_gaps v_frostsNow v_notFrosts v_gapsNow v_fell v_fellAll v_sheepFirst v_sheepMany v_seens v_finding (1 : Int32) o37 ho37) ⟨rfl, rfl⟩ ⟨Nat.le_of_ble_eq_true rfl, Nat.le_of_ble_eq_true rfl⟩ [0] (by decide) rfl 0 rfl rfl rfl hl.1 rfl (Nat.le_of_ble_eq_true rfl) dX9_copy_37) [0] [1, 2, 3, 4, 5] rfl rfl ⟨rfl, rfl, rfl, rfl, rfl, trivial⟩ [h0, h1, h2, h3, h4, h5] rfl rfl 6 rfl (by decide +kernel) (fun H locs hw => ?_)
  have hm := Option.some.inj hm
  subst hm
  exact gRetI C0 hw dX9_copy_40
set_option maxHeartbeats 1000000 in
set_option maxRecDepth 100000 in
theorem n_m_copy_N111 {p : Program} {l : Launch} {e : Env} {s : State} {m : MethodId} {args : Array Value} {below : List Frame} {meth : Method} {c : Code} {A : Nat → Prop} {g : gG} {h0 h1 h2 h3 h4 h5 h6 h7 h8 h9 h10 h11 h12 h13 h14 h15 h16 h17 h18 h19 h20 h21 h22 h23 h24 h25 h26 h27 h28 h29 h30 : Nat} {v_courses : Int32} {v_wide : Int32} {v_hands : Int32} {v_jumpTold : Int32} {v_frosts : Int32} {v_gaps : Int32} {v_frostsNow : Int32} {v_notFrosts : Int32} {v_gapsNow : Int32} {v_fell : Int32} {v_fellAll : Int32} {v_sheepFirst : Int32} {v_sheepMany : Int32} {v_seens : Int32} {v_isThere : Nat → Int32} {v_forms : Nat → Int32} {v_sizes : Nat → Int32} {r : (Int32 × Int32 × (Nat → Int32) × (Nat → Int32))} (C0 : gX p s m args meth c cX9_copy 7 (some .int) RX9 g A) : ∀ (v_finding : Int32) (v_items : Nat → Int32) (v_moved : Nat → Int32), f_m_copy_N111 v_isThere v_forms v_sizes v_finding v_items v_moved = some r → ∀ (H : Heap) (locs : List Loc) (ls : Array Slot), gW g A s (W_m_copy g h0 h1 h2 h3 h4 h5 h6 h7 h8 h9 h10 h11 h12 h13 h14 h15 h16 h17 h18 h19 h20 h21 h22 h23 h24 h25 h26 h27 h28 h29 h30 v_courses v_wide v_hands v_jumpTold v_frosts v_gaps v_frostsNow v_notFrosts v_gapsNow v_fell v_fellAll v_sheepFirst v_sheepMany v_seens v_finding v_isThere v_forms v_sizes v_items v_moved) H locs → lv_has ls 7 [(0, .ref h0)] → W p l e rm_m_copy s m args below meth c H locs 0 0 (gQi below args s A g r.1 (W_m_copy g h0 h1 h2 h3 h4 h5 h6 h7 h8 h9 h10 h11 h12 h13 h14 h15 h16 h17 h18 h19 h20 h21 h22 h23 h24 h25 h26 h27 h28 h29 h30 v_courses v_wide v_hands v_jumpTold v_frosts v_gaps v_frostsNow v_notFrosts v_gapsNow v_fell v_fellAll v_sheepFirst v_sheepMany v_seens r.2.1 v_isThere v_forms v_sizes r.2.2.1 r.2.2.2)) (F0 m 111 ls []) := by
  intro v_finding v_items v_moved hm H locs ls hw hl
  unfold f_m_copy_N111 at hm
  obtain ⟨hx, hb, hr, hml, hown, hts, hlocks, hK, hA⟩ := id C0
  refine lv_aload_n hx hb dX9_copy_111 rfl (lv_at hl 0 rfl) ?_
  refine lv_iconst (v := 2) hx hb dX9_copy_112 (by decide) ?_
  obtain ⟨o113, ho113, hm⟩ := bindE hm
  refine gCalli (ws' := (W_m_copy g h0 h1 h2 h3 h4 h5 h6 h7 h8 h9 h10 h11 h12 h13 h14 h15 h16 h17 h18 h19 h20 h21 h22 h23 h24 h25 h26 h27 h28 h29 h30 v_courses v_wide v_hands v_jumpTold v_frosts v_gaps v_frostsNow v_notFrosts v_gapsNow v_fell v_fellAll v_sheepFirst v_sheepMany v_seens o113.2 v_isThere v_forms v_sizes v_items v_moved)) C0 hw (gRunV (As := [.int (2 : Int32)]) (rest := []) C0 hw lkX9_179 (c_m_meets l g H.size h0 h6 h7 h8 h9 h10 h11 h12 h13 h14 h15 h16 h17 h18 h19 h20 h21 h22 h23 h24 h25 h26 h27 h28 h29 h30 h1 h2 h3 h4 h5 v_courses v_wide v_hands v_jumpTold v_frosts v_gaps v_frostsNow v_notFrosts v_gapsNow v_fell v_fellAll v_sheepFirst v_sheepMany v_seens v_finding (2 : Int32) o113 ho113) ⟨rfl, rfl⟩ ⟨Nat.le_of_ble_eq_true rfl, Nat.le_of_ble_eq_true rfl⟩ [0] (by decide) rfl 0 rfl rfl rfl hl.1 rfl (Nat.le_of_ble_eq_true rfl) dX9_copy_113) [0] [1, 2, 3, 4, 5] rfl rfl ⟨rfl, rfl, rfl, rfl, rfl, trivial⟩ [h0, h1, h2, h3, h4, h5] rfl rfl 6 rfl (by decide +kernel) (fun H locs hw => ?_)
  have hm := Option.some.inj hm
  subst hm
  exact gRetI C0 hw dX9_copy_116
set_option maxHeartbeats 1000000 in
set_option maxRecDepth 100000 in
theorem n_m_copy_N157 {p : Program} {l : Launch} {e : Env} {s : State} {m : MethodId} {args : Array Value} {below : List Frame} {meth : Method} {c : Code} {A : Nat → Prop} {g : gG} {h0 h1 h2 h3 h4 h5 h6 h7 h8 h9 h10 h11 h12 h13 h14 h15 h16 h17 h18 h19 h20 h21 h22 h23 h24 h25 h26 h27 h28 h29 h30 : Nat} {v_courses : Int32} {v_wide : Int32} {v_hands : Int32} {v_jumpTold : Int32} {v_frosts : Int32} {v_gaps : Int32} {v_frostsNow : Int32} {v_notFrosts : Int32} {v_gapsNow : Int32} {v_fell : Int32} {v_fellAll : Int32} {v_sheepFirst : Int32} {v_sheepMany : Int32} {v_seens : Int32} {v_isThere : Nat → Int32} {v_forms : Nat → Int32} {v_sizes : Nat → Int32} {k157 : Int32 → (Nat → Int32) → (Nat → Int32) → Int32 → Int32 → Int32 → Int32 → Option (Int32 × Int32 × (Nat → Int32) × (Nat → Int32))} {r : (Int32 × Int32 × (Nat → Int32) × (Nat → Int32))} (C0 : gX p s m args meth c cX9_copy 7 (some .int) RX9 g A) (hk157 : ∀ (v_finding : Int32) (v_items : Nat → Int32) (v_moved : Nat → Int32) (x3 : Int32) (x4 : Int32) (x5 : Int32) (x6 : Int32), k157 v_finding v_items v_moved x3 x4 x5 x6 = some r → ∀ (H : Heap) (locs : List Loc) (ls : Array Slot), gW g A s (W_m_copy g h0 h1 h2 h3 h4 h5 h6 h7 h8 h9 h10 h11 h12 h13 h14 h15 h16 h17 h18 h19 h20 h21 h22 h23 h24 h25 h26 h27 h28 h29 h30 v_courses v_wide v_hands v_jumpTold v_frosts v_gaps v_frostsNow v_notFrosts v_gapsNow v_fell v_fellAll v_sheepFirst v_sheepMany v_seens v_finding v_isThere v_forms v_sizes v_items v_moved) H locs → lv_has ls 7 [(0, .ref h0), (3, .int x3), (4, .int x4), (5, .int x5), (6, .int x6)] → W p l e rm_m_copy s m args below meth c H locs 0 0 (gQi below args s A g r.1 (W_m_copy g h0 h1 h2 h3 h4 h5 h6 h7 h8 h9 h10 h11 h12 h13 h14 h15 h16 h17 h18 h19 h20 h21 h22 h23 h24 h25 h26 h27 h28 h29 h30 v_courses v_wide v_hands v_jumpTold v_frosts v_gaps v_frostsNow v_notFrosts v_gapsNow v_fell v_fellAll v_sheepFirst v_sheepMany v_seens r.2.1 v_isThere v_forms v_sizes r.2.2.1 r.2.2.2)) (F0 m 157 ls [])) : ∀ (v_finding : Int32) (v_items : Nat → Int32) (v_moved : Nat → Int32) (x3 : Int32) (x4 : Int32) (x5 : Int32) (x6 : Int32), f_m_copy_N157 v_isThere v_forms v_sizes k157 v_finding v_items v_moved x3 x4 x5 x6 = some r → ∀ (H : Heap) (locs : List Loc) (ls : Array Slot), gW g A s (W_m_copy g h0 h1 h2 h3 h4 h5 h6 h7 h8 h9 h10 h11 h12 h13 h14 h15 h16 h17 h18 h19 h20 h21 h22 h23 h24 h25 h26 h27 h28 h29 h30 v_courses v_wide v_hands v_jumpTold v_frosts v_gaps v_frostsNow v_notFrosts v_gapsNow v_fell v_fellAll v_sheepFirst v_sheepMany v_seens v_finding v_isThere v_forms v_sizes v_items v_moved) H locs → lv_has ls 7 [(0, .ref h0), (3, .int x3), (4, .int x4), (5, .int x5), (6, .int x6)] → W p l e rm_m_copy s m args below meth c H locs 0 0 (gQi below args s A g r.1 (W_m_copy g h0 h1 h2 h3 h4 h5 h6 h7 h8 h9 h10 h11 h12 h13 h14 h15 h16 h17 h18 h19 h20 h21 h22 h23 h24 h25 h26 h27 h28 h29 h30 v_courses v_wide v_hands v_jumpTold v_frosts v_gaps v_frostsNow v_notFrosts v_gapsNow v_fell v_fellAll v_sheepFirst v_sheepMany v_seens r.2.1 v_isThere v_forms v_sizes r.2.2.1 r.2.2.2)) (F0 m 157 ls []) := by
  intro v_finding v_items v_moved x3 x4 x5 x6 hm H locs ls hw hl
  unfold f_m_copy_N157 at hm
  obtain ⟨hx, hb, hr, hml, hown, hts, hlocks, hK, hA⟩ := id C0
  refine lv_iload hx hb dX9_copy_157 (lv_at hl 4 rfl) ?_
  refine lv_iload hx hb dX9_copy_159 (lv_at hl 3 rfl) ?_
  refine lv_icmp_ge (tgt := 192) hx hb dX9_copy_161 (by decide) (fun hc => ?_) (fun hc => ?_)
  · have hm := ipos hc hm
    refine lv_iconst (v := 1) hx hb dX9_copy_192 (by decide) ?_
    have hm := Option.some.inj hm
    subst hm
    exact gRetI C0 hw dX9_copy_193
  · have hm := ineg hc hm
    refine lv_aload_n hx hb dX9_copy_164 rfl (lv_at hl 0 rfl) ?_
    refine gGet C0 hw flX9_95 0 rfl rfl dX9_copy_165 ?_
    refine lv_bipush (v := 60) hx hb dX9_copy_168 (by decide) ?_
    refine lv_iload_n hx hb dX9_copy_170 rfl (lv_at hl 1 rfl) ?_
    refine lv_imul hx hb dX9_copy_171 ?_
    refine lv_iload hx hb dX9_copy_172 (lv_at hl 2 rfl) ?_
    refine lv_iadd hx hb dX9_copy_174 ?_
    refine lv_iload hx hb dX9_copy_175 (lv_at hl 4 rfl) ?_
    refine lv_iadd hx hb dX9_copy_177 ?_
    refine lv_aload_n hx hb dX9_copy_178 rfl (lv_at hl 0 rfl) ?_
    refine gGet C0 hw flX9_98 0 rfl rfl dX9_copy_179 ?_
    refine lv_iload hx hb dX9_copy_182 (lv_at hl 4 rfl) ?_
    obtain ⟨hin, hm⟩ := gdE hm
    have hin := inbE hin
    refine gAldI C0 hw 5 rfl hin dX9_copy_184 ?_
    obtain ⟨hin, hm⟩ := gdE hm
    have hin := inbE hin
    refine gAstI (ws' := (W_m_copy g h0 h1 h2 h3 h4 h5 h6 h7 h8 h9 h10 h11 h12 h13 h14 h15 h16 h17 h18 h19 h20 h21 h22 h23 h24 h25 h26 h27 h28 h29 h30 v_courses v_wide v_hands v_jumpTold v_frosts v_gaps v_frostsNow v_notFrosts v_gapsNow v_fell v_fellAll v_sheepFirst v_sheepMany v_seens v_finding v_isThere v_forms v_sizes (upd v_items ((((60 : Int32) * x3) + x4) + x6).toNatClampNeg (v_moved x6.toNatClampNeg)) v_moved)) C0 hw 4 rfl hin rfl dX9_copy_185 (fun H locs hw => ?_)
    refine lv_iinc (v := x6 + (1 : Int32)) (lv' := [(6, .int (x6 + (1 : Int32))), (0, .ref h0), (3, .int x3), (4, .int x4), (5, .int x5)]) hx hb dX9_copy_186 hl (k := 4) rfl rfl (by decide) rfl (fun ls hl => ?_)
    refine lv_goto (tgt := 157) hx hb dX9_copy_189 (by decide) ?_
    exact hk157 _ _ _ _ _ _ _ hm _ _ _ hw (lv_sub hl [1, 2, 3, 4, 0] rfl)
set_option maxHeartbeats 1000000 in
set_option maxRecDepth 100000 in
theorem l_m_copy_N157 {p : Program} {l : Launch} {e : Env} {s : State} {m : MethodId} {args : Array Value} {below : List Frame} {meth : Method} {c : Code} {A : Nat → Prop} {g : gG} {h0 h1 h2 h3 h4 h5 h6 h7 h8 h9 h10 h11 h12 h13 h14 h15 h16 h17 h18 h19 h20 h21 h22 h23 h24 h25 h26 h27 h28 h29 h30 : Nat} {v_courses : Int32} {v_wide : Int32} {v_hands : Int32} {v_jumpTold : Int32} {v_frosts : Int32} {v_gaps : Int32} {v_frostsNow : Int32} {v_notFrosts : Int32} {v_gapsNow : Int32} {v_fell : Int32} {v_fellAll : Int32} {v_sheepFirst : Int32} {v_sheepMany : Int32} {v_seens : Int32} {v_isThere : Nat → Int32} {v_forms : Nat → Int32} {v_sizes : Nat → Int32} {r : (Int32 × Int32 × (Nat → Int32) × (Nat → Int32))} (C0 : gX p s m args meth c cX9_copy 7 (some .int) RX9 g A) : ∀ n : Nat, ∀ (v_finding : Int32) (v_items : Nat → Int32) (v_moved : Nat → Int32) (x3 : Int32) (x4 : Int32) (x5 : Int32) (x6 : Int32), iter (fun _ _ _ _ _ _ _ => none) (f_m_copy_N157 v_isThere v_forms v_sizes) n v_finding v_items v_moved x3 x4 x5 x6 = some r → ∀ (H : Heap) (locs : List Loc) (ls : Array Slot), gW g A s (W_m_copy g h0 h1 h2 h3 h4 h5 h6 h7 h8 h9 h10 h11 h12 h13 h14 h15 h16 h17 h18 h19 h20 h21 h22 h23 h24 h25 h26 h27 h28 h29 h30 v_courses v_wide v_hands v_jumpTold v_frosts v_gaps v_frostsNow v_notFrosts v_gapsNow v_fell v_fellAll v_sheepFirst v_sheepMany v_seens v_finding v_isThere v_forms v_sizes v_items v_moved) H locs → lv_has ls 7 [(0, .ref h0), (3, .int x3), (4, .int x4), (5, .int x5), (6, .int x6)] → W p l e rm_m_copy s m args below meth c H locs 0 0 (gQi below args s A g r.1 (W_m_copy g h0 h1 h2 h3 h4 h5 h6 h7 h8 h9 h10 h11 h12 h13 h14 h15 h16 h17 h18 h19 h20 h21 h22 h23 h24 h25 h26 h27 h28 h29 h30 v_courses v_wide v_hands v_jumpTold v_frosts v_gaps v_frostsNow v_notFrosts v_gapsNow v_fell v_fellAll v_sheepFirst v_sheepMany v_seens r.2.1 v_isThere v_forms v_sizes r.2.2.1 r.2.2.2)) (F0 m 157 ls []) := by
  intro n
  induction n with
  | zero =>
    intro v_finding v_items v_moved x3 x4 x5 x6 hm
    cases hm
  | succ n ih =>
    exact n_m_copy_N157 C0  ih
set_option maxHeartbeats 1000000 in
set_option maxRecDepth 100000 in
theorem n_m_copy_N120 {p : Program} {l : Launch} {e : Env} {s : State} {m : MethodId} {args : Array Value} {below : List Frame} {meth : Method} {c : Code} {A : Nat → Prop} {g : gG} {h0 h1 h2 h3 h4 h5 h6 h7 h8 h9 h10 h11 h12 h13 h14 h15 h16 h17 h18 h19 h20 h21 h22 h23 h24 h25 h26 h27 h28 h29 h30 : Nat} {v_courses : Int32} {v_wide : Int32} {v_hands : Int32} {v_jumpTold : Int32} {v_frosts : Int32} {v_gaps : Int32} {v_frostsNow : Int32} {v_notFrosts : Int32} {v_gapsNow : Int32} {v_fell : Int32} {v_fellAll : Int32} {v_sheepFirst : Int32} {v_sheepMany : Int32} {v_seens : Int32} {v_isThere : Nat → Int32} {v_forms : Nat → Int32} {v_sizes : Nat → Int32} {k120 : Int32 → (Nat → Int32) → (Nat → Int32) → Int32 → Int32 → Int32 → Int32 → Int32 → Int32 → Option (Int32 × Int32 × (Nat → Int32) × (Nat → Int32))} {r : (Int32 × Int32 × (Nat → Int32) × (Nat → Int32))} (C0 : gX p s m args meth c cX9_copy 7 (some .int) RX9 g A) (hk120 : ∀ (v_finding : Int32) (v_items : Nat → Int32) (v_moved : Nat → Int32) (x1 : Int32) (x2 : Int32) (x3 : Int32) (x4 : Int32) (x5 : Int32) (x6 : Int32), k120 v_finding v_items v_moved x1 x2 x3 x4 x5 x6 = some r → ∀ (H : Heap) (locs : List Loc) (ls : Array Slot), gW g A s (W_m_copy g h0 h1 h2 h3 h4 h5 h6 h7 h8 h9 h10 h11 h12 h13 h14 h15 h16 h17 h18 h19 h20 h21 h22 h23 h24 h25 h26 h27 h28 h29 h30 v_courses v_wide v_hands v_jumpTold v_frosts v_gaps v_frostsNow v_notFrosts v_gapsNow v_fell v_fellAll v_sheepFirst v_sheepMany v_seens v_finding v_isThere v_forms v_sizes v_items v_moved) H locs → lv_has ls 7 [(0, .ref h0), (1, .int x1), (2, .int x2), (3, .int x3), (4, .int x4), (5, .int x5), (6, .int x6)] → W p l e rm_m_copy s m args below meth c H locs 0 0 (gQi below args s A g r.1 (W_m_copy g h0 h1 h2 h3 h4 h5 h6 h7 h8 h9 h10 h11 h12 h13 h14 h15 h16 h17 h18 h19 h20 h21 h22 h23 h24 h25 h26 h27 h28 h29 h30 v_courses v_wide v_hands v_jumpTold v_frosts v_gaps v_frostsNow v_notFrosts v_gapsNow v_fell v_fellAll v_sheepFirst v_sheepMany v_seens r.2.1 v_isThere v_forms v_sizes r.2.2.1 r.2.2.2)) (F0 m 120 ls [])) : ∀ (v_finding : Int32) (v_items : Nat → Int32) (v_moved : Nat → Int32) (x1 : Int32) (x2 : Int32) (x3 : Int32) (x4 : Int32) (x5 : Int32) (x6 : Int32), f_m_copy_N120 v_isThere v_forms v_sizes k120 v_finding v_items v_moved x1 x2 x3 x4 x5 x6 = some r → ∀ (H : Heap) (locs : List Loc) (ls : Array Slot), gW g A s (W_m_copy g h0 h1 h2 h3 h4 h5 h6 h7 h8 h9 h10 h11 h12 h13 h14 h15 h16 h17 h18 h19 h20 h21 h22 h23 h24 h25 h26 h27 h28 h29 h30 v_courses v_wide v_hands v_jumpTold v_frosts v_gaps v_frostsNow v_notFrosts v_gapsNow v_fell v_fellAll v_sheepFirst v_sheepMany v_seens v_finding v_isThere v_forms v_sizes v_items v_moved) H locs → lv_has ls 7 [(0, .ref h0), (1, .int x1), (2, .int x2), (3, .int x3), (4, .int x4), (5, .int x5), (6, .int x6)] → W p l e rm_m_copy s m args below meth c H locs 0 0 (gQi below args s A g r.1 (W_m_copy g h0 h1 h2 h3 h4 h5 h6 h7 h8 h9 h10 h11 h12 h13 h14 h15 h16 h17 h18 h19 h20 h21 h22 h23 h24 h25 h26 h27 h28 h29 h30 v_courses v_wide v_hands v_jumpTold v_frosts v_gaps v_frostsNow v_notFrosts v_gapsNow v_fell v_fellAll v_sheepFirst v_sheepMany v_seens r.2.1 v_isThere v_forms v_sizes r.2.2.1 r.2.2.2)) (F0 m 120 ls []) := by
  intro v_finding v_items v_moved x1 x2 x3 x4 x5 x6 hm H locs ls hw hl
  unfold f_m_copy_N120 at hm
  obtain ⟨hx, hb, hr, hml, hown, hts, hlocks, hK, hA⟩ := id C0
  refine lv_iload hx hb dX9_copy_120 (lv_at hl 6 rfl) ?_
  refine lv_iload hx hb dX9_copy_122 (lv_at hl 5 rfl) ?_
  refine lv_icmp_ge (tgt := 154) hx hb dX9_copy_124 (by decide) (fun hc => ?_) (fun hc => ?_)
  · have hm := ipos hc hm
    refine lv_iconst (v := 0) hx hb dX9_copy_154 (by decide) ?_
    refine lv_istore (lv' := [(6, .int (0 : Int32)), (0, .ref h0), (1, .int x1), (2, .int x2), (3, .int x3), (4, .int x4), (5, .int x5)]) hx hb dX9_copy_155 hl (by decide) rfl (fun ls hl => ?_)
    exact l_m_copy_N157 C0  1000 _ _ _ _ _ _ _ hm _ _ _ hw (lv_sub hl [1, 4, 5, 6, 0] rfl)
  · have hm := ineg hc hm
    refine lv_aload_n hx hb dX9_copy_127 rfl (lv_at hl 0 rfl) ?_
    refine gGet C0 hw flX9_98 0 rfl rfl dX9_copy_128 ?_
    refine lv_iload hx hb dX9_copy_131 (lv_at hl 6 rfl) ?_
    refine lv_aload_n hx hb dX9_copy_133 rfl (lv_at hl 0 rfl) ?_
    refine gGet C0 hw flX9_95 0 rfl rfl dX9_copy_134 ?_
    refine lv_bipush (v := 60) hx hb dX9_copy_137 (by decide) ?_
    refine lv_iload_n hx hb dX9_copy_139 rfl (lv_at hl 1 rfl) ?_
    refine lv_imul hx hb dX9_copy_140 ?_
    refine lv_iload_n hx hb dX9_copy_141 rfl (lv_at hl 2 rfl) ?_
    refine lv_iadd hx hb dX9_copy_142 ?_
    refine lv_iload hx hb dX9_copy_143 (lv_at hl 6 rfl) ?_
    refine lv_iadd hx hb dX9_copy_145 ?_
    obtain ⟨hin, hm⟩ := gdE hm
    have hin := inbE hin
    refine gAldI C0 hw 4 rfl hin dX9_copy_146 ?_
    obtain ⟨hin, hm⟩ := gdE hm
    have hin := inbE hin
    refine gAstI (ws' := (W_m_copy g h0 h1 h2 h3 h4 h5 h6 h7 h8 h9 h10 h11 h12 h13 h14 h15 h16 h17 h18 h19 h20 h21 h22 h23 h24 h25 h26 h27 h28 h29 h30 v_courses v_wide v_hands v_jumpTold v_frosts v_gaps v_frostsNow v_notFrosts v_gapsNow v_fell v_fellAll v_sheepFirst v_sheepMany v_seens v_finding v_isThere v_forms v_sizes v_items (upd v_moved x6.toNatClampNeg (v_items ((((60 : Int32) * x1) + x2) + x6).toNatClampNeg)))) C0 hw 5 rfl hin rfl dX9_copy_147 (fun H locs hw => ?_)
    refine lv_iinc (v := x6 + (1 : Int32)) (lv' := [(6, .int (x6 + (1 : Int32))), (0, .ref h0), (1, .int x1), (2, .int x2), (3, .int x3), (4, .int x4), (5, .int x5)]) hx hb dX9_copy_148 hl (k := 6) rfl rfl (by decide) rfl (fun ls hl => ?_)
    refine lv_goto (tgt := 120) hx hb dX9_copy_151 (by decide) ?_
    exact hk120 _ _ _ _ _ _ _ _ _ hm _ _ _ hw (lv_sub hl [1, 2, 3, 4, 5, 6, 0] rfl)
set_option maxHeartbeats 1000000 in
set_option maxRecDepth 100000 in
theorem l_m_copy_N120 {p : Program} {l : Launch} {e : Env} {s : State} {m : MethodId} {args : Array Value} {below : List Frame} {meth : Method} {c : Code} {A : Nat → Prop} {g : gG} {h0 h1 h2 h3 h4 h5 h6 h7 h8 h9 h10 h11 h12 h13 h14 h15 h16 h17 h18 h19 h20 h21 h22 h23 h24 h25 h26 h27 h28 h29 h30 : Nat} {v_courses : Int32} {v_wide : Int32} {v_hands : Int32} {v_jumpTold : Int32} {v_frosts : Int32} {v_gaps : Int32} {v_frostsNow : Int32} {v_notFrosts : Int32} {v_gapsNow : Int32} {v_fell : Int32} {v_fellAll : Int32} {v_sheepFirst : Int32} {v_sheepMany : Int32} {v_seens : Int32} {v_isThere : Nat → Int32} {v_forms : Nat → Int32} {v_sizes : Nat → Int32} {r : (Int32 × Int32 × (Nat → Int32) × (Nat → Int32))} (C0 : gX p s m args meth c cX9_copy 7 (some .int) RX9 g A) : ∀ n : Nat, ∀ (v_finding : Int32) (v_items : Nat → Int32) (v_moved : Nat → Int32) (x1 : Int32) (x2 : Int32) (x3 : Int32) (x4 : Int32) (x5 : Int32) (x6 : Int32), iter (fun _ _ _ _ _ _ _ _ _ => none) (f_m_copy_N120 v_isThere v_forms v_sizes) n v_finding v_items v_moved x1 x2 x3 x4 x5 x6 = some r → ∀ (H : Heap) (locs : List Loc) (ls : Array Slot), gW g A s (W_m_copy g h0 h1 h2 h3 h4 h5 h6 h7 h8 h9 h10 h11 h12 h13 h14 h15 h16 h17 h18 h19 h20 h21 h22 h23 h24 h25 h26 h27 h28 h29 h30 v_courses v_wide v_hands v_jumpTold v_frosts v_gaps v_frostsNow v_notFrosts v_gapsNow v_fell v_fellAll v_sheepFirst v_sheepMany v_seens v_finding v_isThere v_forms v_sizes v_items v_moved) H locs → lv_has ls 7 [(0, .ref h0), (1, .int x1), (2, .int x2), (3, .int x3), (4, .int x4), (5, .int x5), (6, .int x6)] → W p l e rm_m_copy s m args below meth c H locs 0 0 (gQi below args s A g r.1 (W_m_copy g h0 h1 h2 h3 h4 h5 h6 h7 h8 h9 h10 h11 h12 h13 h14 h15 h16 h17 h18 h19 h20 h21 h22 h23 h24 h25 h26 h27 h28 h29 h30 v_courses v_wide v_hands v_jumpTold v_frosts v_gaps v_frostsNow v_notFrosts v_gapsNow v_fell v_fellAll v_sheepFirst v_sheepMany v_seens r.2.1 v_isThere v_forms v_sizes r.2.2.1 r.2.2.2)) (F0 m 120 ls []) := by
  intro n
  induction n with
  | zero =>
    intro v_finding v_items v_moved x1 x2 x3 x4 x5 x6 hm
    cases hm
  | succ n ih =>
    exact n_m_copy_N120 C0  ih
set_option maxHeartbeats 1000000 in
set_option maxRecDepth 100000 in
theorem c_m_copy (l : Launch) (g : gG) (sz : Nat) (h0 h1 h2 h3 h4 h5 h6 h7 h8 h9 h10 h11 h12 h13 h14 h15 h16 h17 h18 h19 h20 h21 h22 h23 h24 h25 h26 h27 h28 h29 h30 : Nat) (v_courses : Int32) (v_wide : Int32) (v_hands : Int32) (v_jumpTold : Int32) (v_frosts : Int32) (v_gaps : Int32) (v_frostsNow : Int32) (v_notFrosts : Int32) (v_gapsNow : Int32) (v_fell : Int32) (v_fellAll : Int32) (v_sheepFirst : Int32) (v_sheepMany : Int32) (v_seens : Int32) (v_finding : Int32) (v_isThere : Nat → Int32) (v_forms : Nat → Int32) (v_sizes : Nat → Int32) (v_items : Nat → Int32) (v_moved : Nat → Int32) (a0 : Int32) (a1 : Int32) (a2 : Int32) (a3 : Int32) (a4 : Int32) (r : (Int32 × Int32 × (Nat → Int32) × (Nat → Int32))) (hm : f_m_copy v_finding v_isThere v_forms v_sizes v_items v_moved a0 a1 a2 a3 a4 = some r) : gMi l yX9_copy cX9_copy 7 (some .int) rm_m_copy g sz [.ref h0, .int a0, .int a1, .int a2, .int a3, .int a4] (W_m_copy g h0 h1 h2 h3 h4 h5 h6 h7 h8 h9 h10 h11 h12 h13 h14 h15 h16 h17 h18 h19 h20 h21 h22 h23 h24 h25 h26 h27 h28 h29 h30 v_courses v_wide v_hands v_jumpTold v_frosts v_gaps v_frostsNow v_notFrosts v_gapsNow v_fell v_fellAll v_sheepFirst v_sheepMany v_seens v_finding v_isThere v_forms v_sizes v_items v_moved) r.1 (W_m_copy g h0 h1 h2 h3 h4 h5 h6 h7 h8 h9 h10 h11 h12 h13 h14 h15 h16 h17 h18 h19 h20 h21 h22 h23 h24 h25 h26 h27 h28 h29 h30 v_courses v_wide v_hands v_jumpTold v_frosts v_gaps v_frostsNow v_notFrosts v_gapsNow v_fell v_fellAll v_sheepFirst v_sheepMany v_seens r.2.1 v_isThere v_forms v_sizes r.2.2.1 r.2.2.2) := by
  unfold f_m_copy at hm
  refine gEnterI (by decide) (Nat.le_of_ble_eq_true rfl) (fun p e s m below meth c A C0 H locs hw ls hl => ?_)
  obtain ⟨hx, hb, hr, hml, hown, hts, hlocks, hK, hA⟩ := id C0
  have C0 : gX p s m [.ref h0, .int a0, .int a1, .int a2, .int a3, .int a4].toArray meth c cX9_copy 7 (some .int) RX9 g A := C0
  have hl : lv_has ls 7 [(0, .ref h0), (1, .int a0), (2, .int a1), (3, .int a2), (4, .int a3), (5, .int a4)] := hl
  refine lv_iload_n hx hb dX9_copy_0 rfl (lv_at hl 1 rfl) ?_
  obtain ⟨o1, ho1, hm⟩ := bindE hm
  refine gCalli (ws' := (W_m_copy g h0 h1 h2 h3 h4 h5 h6 h7 h8 h9 h10 h11 h12 h13 h14 h15 h16 h17 h18 h19 h20 h21 h22 h23 h24 h25 h26 h27 h28 h29 h30 v_courses v_wide v_hands v_jumpTold v_frosts v_gaps v_frostsNow v_notFrosts v_gapsNow v_fell v_fellAll v_sheepFirst v_sheepMany v_seens v_finding v_isThere v_forms v_sizes v_items v_moved)) C0 hw (gRunS (As := [.int a0]) (rest := []) C0 hw lkX9_176 (c_m_isSheet l g H.size  a0 o1 ho1) ⟨rfl, rfl⟩ ⟨Nat.le_of_ble_eq_true rfl, Nat.le_of_ble_eq_true rfl⟩ [] (by decide) rfl rfl hl.1 rfl (Nat.le_of_ble_eq_true rfl) dX9_copy_1) [] [0, 1, 2, 3, 4, 5] rfl rfl ⟨rfl, rfl, rfl, rfl, rfl, rfl, trivial⟩ [h0, h1, h2, h3, h4, h5] rfl rfl 6 rfl (by decide +kernel) (fun H locs hw => ?_)
  refine lv_if_eq (tgt := 14) hx hb dX9_copy_4 (by decide) (fun hc => ?_) (fun hc => ?_)
  · have hm := ipos hc hm
    refine lv_bipush (v := -2) hx hb dX9_copy_14 (by decide) ?_
    have hm := Option.some.inj hm
    subst hm
    exact gRetI C0 hw dX9_copy_16
  · have hm := ineg hc hm
    refine lv_iload_n hx hb dX9_copy_7 rfl (lv_at hl 3 rfl) ?_
    obtain ⟨o8, ho8, hm⟩ := bindE hm
    refine gCalli (ws' := (W_m_copy g h0 h1 h2 h3 h4 h5 h6 h7 h8 h9 h10 h11 h12 h13 h14 h15 h16 h17 h18 h19 h20 h21 h22 h23 h24 h25 h26 h27 h28 h29 h30 v_courses v_wide v_hands v_jumpTold v_frosts v_gaps v_frostsNow v_notFrosts v_gapsNow v_fell v_fellAll v_sheepFirst v_sheepMany v_seens v_finding v_isThere v_forms v_sizes v_items v_moved)) C0 hw (gRunS (As := [.int a2]) (rest := []) C0 hw lkX9_176 (c_m_isSheet l g H.size  a2 o8 ho8) ⟨rfl, rfl⟩ ⟨Nat.le_of_ble_eq_true rfl, Nat.le_of_ble_eq_true rfl⟩ [] (by decide) rfl rfl hl.1 rfl (Nat.le_of_ble_eq_true rfl) dX9_copy_8) [] [0, 1, 2, 3, 4, 5] rfl rfl ⟨rfl, rfl, rfl, rfl, rfl, rfl, trivial⟩ [h0, h1, h2, h3, h4, h5] rfl rfl 6 rfl (by decide +kernel) (fun H locs hw => ?_)
    refine lv_if_ne (tgt := 17) hx hb dX9_copy_11 (by decide) (fun hc => ?_) (fun hc => ?_)
    · have hm := ineg hc hm
      refine lv_aload_n hx hb dX9_copy_17 rfl (lv_at hl 0 rfl) ?_
      refine gGet C0 hw flX9_86 0 rfl rfl dX9_copy_18 ?_
      refine lv_iload_n hx hb dX9_copy_21 rfl (lv_at hl 1 rfl) ?_
      obtain ⟨hin, hm⟩ := gdE hm
      have hin := inbE hin
      refine gAldZ C0 hw 1 rfl hin dX9_copy_22 ?_
      refine lv_if_eq (tgt := 35) hx hb dX9_copy_23 (by decide) (fun hc => ?_) (fun hc => ?_)
      · have hm := ipos hc hm
        exact n_m_copy_N35 C0  _ _ _ hm _ _ _ hw (lv_sub hl [0] rfl)
      · have hm := ineg hc hm
        refine lv_aload_n hx hb dX9_copy_26 rfl (lv_at hl 0 rfl) ?_
        refine gGet C0 hw flX9_86 0 rfl rfl dX9_copy_27 ?_
        refine lv_iload_n hx hb dX9_copy_30 rfl (lv_at hl 3 rfl) ?_
        obtain ⟨hin, hm⟩ := gdE hm
        have hin := inbE hin
        refine gAldZ C0 hw 1 rfl hin dX9_copy_31 ?_
        refine lv_if_ne (tgt := 41) hx hb dX9_copy_32 (by decide) (fun hc => ?_) (fun hc => ?_)
        · have hm := ineg hc hm
          refine lv_aload_n hx hb dX9_copy_41 rfl (lv_at hl 0 rfl) ?_
          refine gGet C0 hw flX9_89 0 rfl rfl dX9_copy_42 ?_
          refine lv_iload_n hx hb dX9_copy_45 rfl (lv_at hl 1 rfl) ?_
          obtain ⟨hin, hm⟩ := gdE hm
          have hin := inbE hin
          refine gAldI C0 hw 2 rfl hin dX9_copy_46 ?_
          refine lv_aload_n hx hb dX9_copy_47 rfl (lv_at hl 0 rfl) ?_
          refine gGet C0 hw flX9_89 0 rfl rfl dX9_copy_48 ?_
          refine lv_iload_n hx hb dX9_copy_51 rfl (lv_at hl 3 rfl) ?_
          obtain ⟨hin, hm⟩ := gdE hm
          have hin := inbE hin
          refine gAldI C0 hw 2 rfl hin dX9_copy_52 ?_
          refine lv_icmp_eq (tgt := 62) hx hb dX9_copy_53 (by decide) (fun hc => ?_) (fun hc => ?_)
          · have hm := ipos hc hm
            refine lv_iload_n hx hb dX9_copy_62 rfl (lv_at hl 2 rfl) ?_
            refine lv_if_lt (tgt := 111) hx hb dX9_copy_63 (by decide) (fun hc => ?_) (fun hc => ?_)
            · have hm := ipos hc hm
              exact n_m_copy_N111 C0  _ _ _ hm _ _ _ hw (lv_sub hl [0] rfl)
            · have hm := ineg hc hm
              refine lv_iload hx hb dX9_copy_66 (lv_at hl 4 rfl) ?_
              refine lv_if_lt (tgt := 111) hx hb dX9_copy_68 (by decide) (fun hc => ?_) (fun hc => ?_)
              · have hm := ipos hc hm
                exact n_m_copy_N111 C0  _ _ _ hm _ _ _ hw (lv_sub hl [0] rfl)
              · have hm := ineg hc hm
                refine lv_iload hx hb dX9_copy_71 (lv_at hl 5 rfl) ?_
                refine lv_if_lt (tgt := 111) hx hb dX9_copy_73 (by decide) (fun hc => ?_) (fun hc => ?_)
                · have hm := ipos hc hm
                  exact n_m_copy_N111 C0  _ _ _ hm _ _ _ hw (lv_sub hl [0] rfl)
                · have hm := ineg hc hm
                  refine lv_iload_n hx hb dX9_copy_76 rfl (lv_at hl 2 rfl) ?_
                  refine lv_i2l (v := a1.toInt64) hx hb dX9_copy_77 rfl ?_
                  refine lv_iload hx hb dX9_copy_78 (lv_at hl 5 rfl) ?_
                  refine lv_i2l (v := a4.toInt64) hx hb dX9_copy_80 rfl ?_
                  refine lv_ladd hx hb dX9_copy_81 ?_
                  refine lv_aload_n hx hb dX9_copy_82 rfl (lv_at hl 0 rfl) ?_
                  refine gGet C0 hw flX9_92 0 rfl rfl dX9_copy_83 ?_
                  refine lv_iload_n hx hb dX9_copy_86 rfl (lv_at hl 1 rfl) ?_
                  obtain ⟨hin, hm⟩ := gdE hm
                  have hin := inbE hin
                  refine gAldI C0 hw 3 rfl hin dX9_copy_87 ?_
                  refine lv_i2l (v := (v_sizes a0.toNatClampNeg).toInt64) hx hb dX9_copy_88 rfl ?_
                  refine W.lcmp hx hb dX9_copy_89 ?_
                  refine lv_if_gt (tgt := 111) hx hb dX9_copy_90 (by decide) (fun hc => ?_) (fun hc => ?_)
                  · have hm := ipos hc hm
                    exact n_m_copy_N111 C0  _ _ _ hm _ _ _ hw (lv_sub hl [0] rfl)
                  · have hm := ineg hc hm
                    refine lv_iload hx hb dX9_copy_93 (lv_at hl 4 rfl) ?_
                    refine lv_i2l (v := a3.toInt64) hx hb dX9_copy_95 rfl ?_
                    refine lv_iload hx hb dX9_copy_96 (lv_at hl 5 rfl) ?_
                    refine lv_i2l (v := a4.toInt64) hx hb dX9_copy_98 rfl ?_
                    refine lv_ladd hx hb dX9_copy_99 ?_
                    refine lv_aload_n hx hb dX9_copy_100 rfl (lv_at hl 0 rfl) ?_
                    refine gGet C0 hw flX9_92 0 rfl rfl dX9_copy_101 ?_
                    refine lv_iload_n hx hb dX9_copy_104 rfl (lv_at hl 3 rfl) ?_
                    obtain ⟨hin, hm⟩ := gdE hm
                    have hin := inbE hin
                    refine gAldI C0 hw 3 rfl hin dX9_copy_105 ?_
                    refine lv_i2l (v := (v_sizes a2.toNatClampNeg).toInt64) hx hb dX9_copy_106 rfl ?_
                    refine W.lcmp hx hb dX9_copy_107 ?_
                    refine lv_if_le (tgt := 117) hx hb dX9_copy_108 (by decide) (fun hc => ?_) (fun hc => ?_)
                    · have hm := ipos hc hm
                      refine lv_iconst (v := 0) hx hb dX9_copy_117 (by decide) ?_
                      refine lv_istore (lv' := [(6, .int (0 : Int32)), (0, .ref h0), (1, .int a0), (2, .int a1), (3, .int a2), (4, .int a3), (5, .int a4)]) hx hb dX9_copy_118 hl (by decide) rfl (fun ls hl => ?_)
                      exact l_m_copy_N120 C0  1000 _ _ _ _ _ _ _ _ _ hm _ _ _ hw (lv_sub hl [1, 2, 3, 4, 5, 6, 0] rfl)
                    · have hm := ineg hc hm
                      exact n_m_copy_N111 C0  _ _ _ hm _ _ _ hw (lv_sub hl [0] rfl)
          · have hm := ineg hc hm
            refine lv_aload_n hx hb dX9_copy_56 rfl (lv_at hl 0 rfl) ?_
            refine lv_iconst (v := 4) hx hb dX9_copy_57 (by decide) ?_
            obtain ⟨o58, ho58, hm⟩ := bindE hm
            refine gCalli (ws' := (W_m_copy g h0 h1 h2 h3 h4 h5 h6 h7 h8 h9 h10 h11 h12 h13 h14 h15 h16 h17 h18 h19 h20 h21 h22 h23 h24 h25 h26 h27 h28 h29 h30 v_courses v_wide v_hands v_jumpTold v_frosts v_gaps v_frostsNow v_notFrosts v_gapsNow v_fell v_fellAll v_sheepFirst v_sheepMany v_seens o58.2 v_isThere v_forms v_sizes v_items v_moved)) C0 hw (gRunV (As := [.int (4 : Int32)]) (rest := []) C0 hw lkX9_179 (c_m_meets l g H.size h0 h6 h7 h8 h9 h10 h11 h12 h13 h14 h15 h16 h17 h18 h19 h20 h21 h22 h23 h24 h25 h26 h27 h28 h29 h30 h1 h2 h3 h4 h5 v_courses v_wide v_hands v_jumpTold v_frosts v_gaps v_frostsNow v_notFrosts v_gapsNow v_fell v_fellAll v_sheepFirst v_sheepMany v_seens v_finding (4 : Int32) o58 ho58) ⟨rfl, rfl⟩ ⟨Nat.le_of_ble_eq_true rfl, Nat.le_of_ble_eq_true rfl⟩ [0] (by decide) rfl 0 rfl rfl rfl hl.1 rfl (Nat.le_of_ble_eq_true rfl) dX9_copy_58) [0] [1, 2, 3, 4, 5] rfl rfl ⟨rfl, rfl, rfl, rfl, rfl, trivial⟩ [h0, h1, h2, h3, h4, h5] rfl rfl 6 rfl (by decide +kernel) (fun H locs hw => ?_)
            have hm := Option.some.inj hm
            subst hm
            exact gRetI C0 hw dX9_copy_61
        · have hm := ipos hc hm
          exact n_m_copy_N35 C0  _ _ _ hm _ _ _ hw (lv_sub hl [0] rfl)
    · have hm := ipos hc hm
      refine lv_bipush (v := -2) hx hb dX9_copy_14 (by decide) ?_
      have hm := Option.some.inj hm
      subst hm
      exact gRetI C0 hw dX9_copy_16

-- WallHandsModel.write(II)I
abbrev W_m_write (g : gG) (h0 h1 h2 h3 h4 h5 h6 h7 h8 h9 h10 h11 h12 h13 h14 h15 h16 h17 h18 h19 h20 h21 h22 h23 h24 h25 h26 h27 h28 h29 h30 : Nat) (v_courses : Int32) (v_wide : Int32) (v_hands : Int32) (v_jumpTold : Int32) (v_frosts : Int32) (v_gaps : Int32) (v_frostsNow : Int32) (v_notFrosts : Int32) (v_gapsNow : Int32) (v_fell : Int32) (v_fellAll : Int32) (v_sheepFirst : Int32) (v_sheepMany : Int32) (v_seens : Int32) (v_finding : Int32) (v_typed : Nat → Int32) (v_texts : Nat → Int32) (v_told : Nat → Int32) (v_moods : Nat → Int32) (v_strongs : Nat → Int32) (v_frostYear : Nat → Int32) (v_frostForce : Nat → Int32) (v_gapYear : Nat → Int32) (v_gapColumn : Nat → Int32) (v_gapHand : Nat → Int32) (v_wall : Nat → Int32) (v_yearNow : Nat → Int32) (v_forceNow : Nat → Int32) (v_holdNow : Nat → Int32) (v_fellOf : Nat → Int32) (v_handAt : Nat → Int32) (v_holdAt : Nat → Int32) (v_fallsAt : Nat → Int32) (v_standAt : Nat → Int32) (v_highAt : Nat → Int32) (v_throughAt : Nat → Int32) (v_isThere : Nat → Int32) (v_forms : Nat → Int32) (v_sizes : Nat → Int32) (v_items : Nat → Int32) : va_W := [(h0, .inr (9, [.ref h1, .ref h2, .int v_courses, .int v_wide, .ref h3, .int v_hands, .ref h4, .ref h5, .int v_jumpTold, .int v_frosts, .ref h6, .ref h7, .int v_gaps, .ref h8, .ref h9, .ref h10, .ref h11, .int v_frostsNow, .ref h12, .ref h13, .int v_notFrosts, .int v_gapsNow, .ref h14, .int v_fell, .int v_fellAll, .ref h15, .ref h16, .ref h17, .ref h18, .ref h19, .ref h20, .ref h21, .int v_sheepFirst, .int v_sheepMany, .int v_seens, .ref h26, .ref h27, .ref h28, .ref h29, .ref h22, .ref h23, .ref h24, .ref h25, .ref h30, .int v_finding])), (h1, .inl (gI g, 2, .inl v_typed)), (h2, .inl (gI g, 88, .inl v_texts)), (h3, .inl (gI g, 48, .inl v_told)), (h4, .inl (gI g, 9, .inl v_moods)), (h5, .inl (gI g, 9, .inl v_strongs)), (h6, .inl (gI g, 6, .inl v_frostYear)), (h7, .inl (gI g, 6, .inl v_frostForce)), (h8, .inl (gI g, 7, .inl v_gapYear)), (h9, .inl (gI g, 7, .inl v_gapColumn)), (h10, .inl (gI g, 7, .inl v_gapHand)), (h11, .inl (gI g, 40, .inl v_wall)), (h12, .inl (gI g, 6, .inl v_yearNow)), (h13, .inl (gI g, 6, .inl v_forceNow)), (h14, .inl (gI g, 40, .inl v_holdNow)), (h15, .inl (gI g, 8, .inl v_fellOf)), (h16, .inl (gI g, 800, .inl v_handAt)), (h17, .inl (gI g, 800, .inl v_holdAt)), (h18, .inl (gI g, 20, .inl v_fallsAt)), (h19, .inl (gI g, 20, .inl v_standAt)), (h20, .inl (gI g, 160, .inl v_highAt)), (h21, .inl (gZ g, 160, .inl v_throughAt)), (h22, .inl (gZ g, 4, .inl v_isThere)), (h23, .inl (gI g, 4, .inl v_forms)), (h24, .inl (gI g, 4, .inl v_sizes)), (h25, .inl (gI g, 240, .inl v_items))]

abbrev rm_m_write : Room := { frames := 8, cells := 0, slots := 0, locals := 182 }

set_option maxHeartbeats 1000000 in
set_option maxRecDepth 100000 in
theorem n_m_write_N38 {p : Program} {l : Launch} {e : Env} {s : State} {m : MethodId} {args : Array Value} {below : List Frame} {meth : Method} {c : Code} {A : Nat → Prop} {g : gG} {h0 h1 h2 h3 h4 h5 h6 h7 h8 h9 h10 h11 h12 h13 h14 h15 h16 h17 h18 h19 h20 h21 h22 h23 h24 h25 h26 h27 h28 h29 h30 : Nat} {v_jumpTold : Int32} {v_frosts : Int32} {v_gaps : Int32} {v_seens : Int32} {v_typed : Nat → Int32} {v_texts : Nat → Int32} {v_frostYear : Nat → Int32} {v_frostForce : Nat → Int32} {v_gapYear : Nat → Int32} {v_gapColumn : Nat → Int32} {v_gapHand : Nat → Int32} {v_isThere : Nat → Int32} {v_forms : Nat → Int32} {v_sizes : Nat → Int32} {k38 : Int32 → Int32 → Int32 → Int32 → Int32 → Int32 → Int32 → Int32 → Int32 → Int32 → Int32 → (Nat → Int32) → (Nat → Int32) → (Nat → Int32) → (Nat → Int32) → (Nat → Int32) → (Nat → Int32) → (Nat → Int32) → (Nat → Int32) → (Nat → Int32) → (Nat → Int32) → (Nat → Int32) → (Nat → Int32) → (Nat → Int32) → (Nat → Int32) → (Nat → Int32) → Int32 → Int32 → Int32 → Option (Int32 × Int32 × Int32 × Int32 × Int32 × Int32 × Int32 × Int32 × Int32 × Int32 × Int32 × Int32 × (Nat → Int32) × (Nat → Int32) × (Nat → Int32) × (Nat → Int32) × (Nat → Int32) × (Nat → Int32) × (Nat → Int32) × (Nat → Int32) × (Nat → Int32) × (Nat → Int32) × (Nat → Int32) × (Nat → Int32) × (Nat → Int32) × (Nat → Int32) × (Nat → Int32))} {r : (Int32 × Int32 × Int32 × Int32 × Int32 × Int32 × Int32 × Int32 × Int32 × Int32 × Int32 × Int32 × (Nat → Int32) × (Nat → Int32) × (Nat → Int32) × (Nat → Int32) × (Nat → Int32) × (Nat → Int32) × (Nat → Int32) × (Nat → Int32) × (Nat → Int32) × (Nat → Int32) × (Nat → Int32) × (Nat → Int32) × (Nat → Int32) × (Nat → Int32) × (Nat → Int32))} (C0 : gX p s m args meth c cX9_write 4 (some .int) RX9 g A) (hk38 : ∀ (v_courses : Int32) (v_wide : Int32) (v_hands : Int32) (v_frostsNow : Int32) (v_notFrosts : Int32) (v_gapsNow : Int32) (v_fell : Int32) (v_fellAll : Int32) (v_sheepFirst : Int32) (v_sheepMany : Int32) (v_finding : Int32) (v_told : Nat → Int32) (v_moods : Nat → Int32) (v_strongs : Nat → Int32) (v_wall : Nat → Int32) (v_yearNow : Nat → Int32) (v_forceNow : Nat → Int32) (v_holdNow : Nat → Int32) (v_fellOf : Nat → Int32) (v_handAt : Nat → Int32) (v_holdAt : Nat → Int32) (v_fallsAt : Nat → Int32) (v_standAt : Nat → Int32) (v_highAt : Nat → Int32) (v_throughAt : Nat → Int32) (v_items : Nat → Int32) (x1 : Int32) (x2 : Int32) (x3 : Int32), k38 v_courses v_wide v_hands v_frostsNow v_notFrosts v_gapsNow v_fell v_fellAll v_sheepFirst v_sheepMany v_finding v_told v_moods v_strongs v_wall v_yearNow v_forceNow v_holdNow v_fellOf v_handAt v_holdAt v_fallsAt v_standAt v_highAt v_throughAt v_items x1 x2 x3 = some r → ∀ (H : Heap) (locs : List Loc) (ls : Array Slot), gW g A s (W_m_write g h0 h1 h2 h3 h4 h5 h6 h7 h8 h9 h10 h11 h12 h13 h14 h15 h16 h17 h18 h19 h20 h21 h22 h23 h24 h25 h26 h27 h28 h29 h30 v_courses v_wide v_hands v_jumpTold v_frosts v_gaps v_frostsNow v_notFrosts v_gapsNow v_fell v_fellAll v_sheepFirst v_sheepMany v_seens v_finding v_typed v_texts v_told v_moods v_strongs v_frostYear v_frostForce v_gapYear v_gapColumn v_gapHand v_wall v_yearNow v_forceNow v_holdNow v_fellOf v_handAt v_holdAt v_fallsAt v_standAt v_highAt v_throughAt v_isThere v_forms v_sizes v_items) H locs → lv_has ls 4 [(0, .ref h0), (1, .int x1), (2, .int x2), (3, .int x3)] → W p l e rm_m_write s m args below meth c H locs 0 0 (gQi below args s A g r.1 (W_m_write g h0 h1 h2 h3 h4 h5 h6 h7 h8 h9 h10 h11 h12 h13 h14 h15 h16 h17 h18 h19 h20 h21 h22 h23 h24 h25 h26 h27 h28 h29 h30 r.2.1 r.2.2.1 r.2.2.2.1 v_jumpTold v_frosts v_gaps r.2.2.2.2.1 r.2.2.2.2.2.1 r.2.2.2.2.2.2.1 r.2.2.2.2.2.2.2.1 r.2.2.2.2.2.2.2.2.1 r.2.2.2.2.2.2.2.2.2.1 r.2.2.2.2.2.2.2.2.2.2.1 v_seens r.2.2.2.2.2.2.2.2.2.2.2.1 v_typed v_texts r.2.2.2.2.2.2.2.2.2.2.2.2.1 r.2.2.2.2.2.2.2.2.2.2.2.2.2.1 r.2.2.2.2.2.2.2.2.2.2.2.2.2.2.1 v_frostYear v_frostForce v_gapYear v_gapColumn v_gapHand r.2.2.2.2.2.2.2.2.2.2.2.2.2.2.2.1 r.2.2.2.2.2.2.2.2.2.2.2.2.2.2.2.2.1 r.2.2.2.2.2.2.2.2.2.2.2.2.2.2.2.2.2.1 r.2.2.2.2.2.2.2.2.2.2.2.2.2.2.2.2.2.2.1 r.2.2.2.2.2.2.2.2.2.2.2.2.2.2.2.2.2.2.2.1 r.2.2.2.2.2.2.2.2.2.2.2.2.2.2.2.2.2.2.2.2.1 r.2.2.2.2.2.2.2.2.2.2.2.2.2.2.2.2.2.2.2.2.2.1 r.2.2.2.2.2.2.2.2.2.2.2.2.2.2.2.2.2.2.2.2.2.2.1 r.2.2.2.2.2.2.2.2.2.2.2.2.2.2.2.2.2.2.2.2.2.2.2.1 r.2.2.2.2.2.2.2.2.2.2.2.2.2.2.2.2.2.2.2.2.2.2.2.2.1 r.2.2.2.2.2.2.2.2.2.2.2.2.2.2.2.2.2.2.2.2.2.2.2.2.2.1 v_isThere v_forms v_sizes r.2.2.2.2.2.2.2.2.2.2.2.2.2.2.2.2.2.2.2.2.2.2.2.2.2.2)) (F0 m 38 ls [])) : ∀ (v_courses : Int32) (v_wide : Int32) (v_hands : Int32) (v_frostsNow : Int32) (v_notFrosts : Int32) (v_gapsNow : Int32) (v_fell : Int32) (v_fellAll : Int32) (v_sheepFirst : Int32) (v_sheepMany : Int32) (v_finding : Int32) (v_told : Nat → Int32) (v_moods : Nat → Int32) (v_strongs : Nat → Int32) (v_wall : Nat → Int32) (v_yearNow : Nat → Int32) (v_forceNow : Nat → Int32) (v_holdNow : Nat → Int32) (v_fellOf : Nat → Int32) (v_handAt : Nat → Int32) (v_holdAt : Nat → Int32) (v_fallsAt : Nat → Int32) (v_standAt : Nat → Int32) (v_highAt : Nat → Int32) (v_throughAt : Nat → Int32) (v_items : Nat → Int32) (x1 : Int32) (x2 : Int32) (x3 : Int32), f_m_write_N38 v_jumpTold v_frosts v_gaps v_typed v_texts v_frostYear v_frostForce v_gapYear v_gapColumn v_gapHand v_isThere v_forms v_sizes k38 v_courses v_wide v_hands v_frostsNow v_notFrosts v_gapsNow v_fell v_fellAll v_sheepFirst v_sheepMany v_finding v_told v_moods v_strongs v_wall v_yearNow v_forceNow v_holdNow v_fellOf v_handAt v_holdAt v_fallsAt v_standAt v_highAt v_throughAt v_items x1 x2 x3 = some r → ∀ (H : Heap) (locs : List Loc) (ls : Array Slot), gW g A s (W_m_write g h0 h1 h2 h3 h4 h5 h6 h7 h8 h9 h10 h11 h12 h13 h14 h15 h16 h17 h18 h19 h20 h21 h22 h23 h24 h25 h26 h27 h28 h29 h30 v_courses v_wide v_hands v_jumpTold v_frosts v_gaps v_frostsNow v_notFrosts v_gapsNow v_fell v_fellAll v_sheepFirst v_sheepMany v_seens v_finding v_typed v_texts v_told v_moods v_strongs v_frostYear v_frostForce v_gapYear v_gapColumn v_gapHand v_wall v_yearNow v_forceNow v_holdNow v_fellOf v_handAt v_holdAt v_fallsAt v_standAt v_highAt v_throughAt v_isThere v_forms v_sizes v_items) H locs → lv_has ls 4 [(0, .ref h0), (1, .int x1), (2, .int x2), (3, .int x3)] → W p l e rm_m_write s m args below meth c H locs 0 0 (gQi below args s A g r.1 (W_m_write g h0 h1 h2 h3 h4 h5 h6 h7 h8 h9 h10 h11 h12 h13 h14 h15 h16 h17 h18 h19 h20 h21 h22 h23 h24 h25 h26 h27 h28 h29 h30 r.2.1 r.2.2.1 r.2.2.2.1 v_jumpTold v_frosts v_gaps r.2.2.2.2.1 r.2.2.2.2.2.1 r.2.2.2.2.2.2.1 r.2.2.2.2.2.2.2.1 r.2.2.2.2.2.2.2.2.1 r.2.2.2.2.2.2.2.2.2.1 r.2.2.2.2.2.2.2.2.2.2.1 v_seens r.2.2.2.2.2.2.2.2.2.2.2.1 v_typed v_texts r.2.2.2.2.2.2.2.2.2.2.2.2.1 r.2.2.2.2.2.2.2.2.2.2.2.2.2.1 r.2.2.2.2.2.2.2.2.2.2.2.2.2.2.1 v_frostYear v_frostForce v_gapYear v_gapColumn v_gapHand r.2.2.2.2.2.2.2.2.2.2.2.2.2.2.2.1 r.2.2.2.2.2.2.2.2.2.2.2.2.2.2.2.2.1 r.2.2.2.2.2.2.2.2.2.2.2.2.2.2.2.2.2.1 r.2.2.2.2.2.2.2.2.2.2.2.2.2.2.2.2.2.2.1 r.2.2.2.2.2.2.2.2.2.2.2.2.2.2.2.2.2.2.2.1 r.2.2.2.2.2.2.2.2.2.2.2.2.2.2.2.2.2.2.2.2.1 r.2.2.2.2.2.2.2.2.2.2.2.2.2.2.2.2.2.2.2.2.2.1 r.2.2.2.2.2.2.2.2.2.2.2.2.2.2.2.2.2.2.2.2.2.2.1 r.2.2.2.2.2.2.2.2.2.2.2.2.2.2.2.2.2.2.2.2.2.2.2.1 r.2.2.2.2.2.2.2.2.2.2.2.2.2.2.2.2.2.2.2.2.2.2.2.2.1 r.2.2.2.2.2.2.2.2.2.2.2.2.2.2.2.2.2.2.2.2.2.2.2.2.2.1 v_isThere v_forms v_sizes r.2.2.2.2.2.2.2.2.2.2.2.2.2.2.2.2.2.2.2.2.2.2.2.2.2.2)) (F0 m 38 ls []) := by
  intro v_courses v_wide v_hands v_frostsNow v_notFrosts v_gapsNow v_fell v_fellAll v_sheepFirst v_sheepMany v_finding v_told v_moods v_strongs v_wall v_yearNow v_forceNow v_holdNow v_fellOf v_handAt v_holdAt v_fallsAt v_standAt v_highAt v_throughAt v_items x1 x2 x3 hm H locs ls hw hl
  unfold f_m_write_N38 at hm
  obtain ⟨hx, hb, hr, hml, hown, hts, hlocks, hK, hA⟩ := id C0
  refine lv_iload_n hx hb dX9_write_38 rfl (lv_at hl 3 rfl) ?_
  refine lv_aload_n hx hb dX9_write_39 rfl (lv_at hl 0 rfl) ?_
  refine gGet C0 hw flX9_92 0 rfl rfl dX9_write_40 ?_
  refine lv_iload_n hx hb dX9_write_43 rfl (lv_at hl 2 rfl) ?_
  obtain ⟨hin, hm⟩ := gdE hm
  have hin := inbE hin
  refine gAldI C0 hw 24 rfl hin dX9_write_44 ?_
  refine lv_icmp_ge (tgt := 79) hx hb dX9_write_45 (by decide) (fun hc => ?_) (fun hc => ?_)
  · have hm := ipos hc hm
    refine lv_iload_n hx hb dX9_write_79 rfl (lv_at hl 3 rfl) ?_
    have hm := Option.some.inj hm
    subst hm
    exact gRetI C0 hw dX9_write_80
  · have hm := ineg hc hm
    refine lv_iload_n hx hb dX9_write_48 rfl (lv_at hl 3 rfl) ?_
    refine lv_aload_n hx hb dX9_write_49 rfl (lv_at hl 0 rfl) ?_
    refine gGet C0 hw flX9_121 0 rfl rfl dX9_write_50 ?_
    refine lv_icmp_ge (tgt := 79) hx hb dX9_write_53 (by decide) (fun hc => ?_) (fun hc => ?_)
    · have hm := ipos hc hm
      refine lv_iload_n hx hb dX9_write_79 rfl (lv_at hl 3 rfl) ?_
      have hm := Option.some.inj hm
      subst hm
      exact gRetI C0 hw dX9_write_80
    · have hm := ineg hc hm
      refine lv_aload_n hx hb dX9_write_56 rfl (lv_at hl 0 rfl) ?_
      refine lv_iload_n hx hb dX9_write_57 rfl (lv_at hl 2 rfl) ?_
      refine lv_iload_n hx hb dX9_write_58 rfl (lv_at hl 3 rfl) ?_
      refine lv_aload_n hx hb dX9_write_59 rfl (lv_at hl 0 rfl) ?_
      refine gGet C0 hw flX9_67 0 rfl rfl dX9_write_60 ?_
      refine lv_bipush (v := 8) hx hb dX9_write_63 (by decide) ?_
      refine lv_iload_n hx hb dX9_write_65 rfl (lv_at hl 1 rfl) ?_
      refine lv_imul hx hb dX9_write_66 ?_
      refine lv_iload_n hx hb dX9_write_67 rfl (lv_at hl 3 rfl) ?_
      refine lv_iadd hx hb dX9_write_68 ?_
      obtain ⟨hin, hm⟩ := gdE hm
      have hin := inbE hin
      refine gAldI C0 hw 20 rfl hin dX9_write_69 ?_
      obtain ⟨o70, ho70, hm⟩ := bindE hm
      refine gCallv (ws' := (W_m_write g h0 h1 h2 h3 h4 h5 h6 h7 h8 h9 h10 h11 h12 h13 h14 h15 h16 h17 h18 h19 h20 h21 h22 h23 h24 h25 h26 h27 h28 h29 h30 v_courses v_wide v_hands v_jumpTold v_frosts v_gaps v_frostsNow v_notFrosts v_gapsNow v_fell v_fellAll v_sheepFirst v_sheepMany v_seens v_finding v_typed v_texts v_told v_moods v_strongs v_frostYear v_frostForce v_gapYear v_gapColumn v_gapHand v_wall v_yearNow v_forceNow v_holdNow v_fellOf v_handAt v_holdAt v_fallsAt v_standAt v_highAt v_throughAt v_isThere v_forms v_sizes o70)) C0 hw (gRunV (As := [.int x2, .int x3, .int (v_highAt (((8 : Int32) * x1) + x3).toNatClampNeg)]) (rest := []) C0 hw lkX9_346 (c_m_keep l g H.size h0 h23 h25 h1 h2 h3 h4 h5 h6 h7 h8 h9 h10 h11 h12 h13 h14 h15 h16 h17 h18 h19 h20 h21 h26 h27 h28 h29 h22 h24 h30 v_courses v_wide v_hands v_jumpTold v_frosts v_gaps v_frostsNow v_notFrosts v_gapsNow v_fell v_fellAll v_sheepFirst v_sheepMany v_seens v_finding v_forms v_items x2 x3 (v_highAt (((8 : Int32) * x1) + x3).toNatClampNeg) o70 ho70) ⟨rfl, rfl⟩ ⟨Nat.le_of_ble_eq_true rfl, Nat.le_of_ble_eq_true rfl⟩ [0, 23, 25] (by decide) rfl 0 rfl rfl rfl hl.1 rfl (Nat.le_of_ble_eq_true rfl) dX9_write_70) [0, 23, 25] [1, 2, 3, 4, 5, 6, 7, 8, 9, 10, 11, 12, 13, 14, 15, 16, 17, 18, 19, 20, 21, 22, 24] rfl rfl ⟨rfl, rfl, rfl, rfl, rfl, rfl, rfl, rfl, rfl, rfl, rfl, rfl, rfl, rfl, rfl, rfl, rfl, rfl, rfl, rfl, rfl, rfl, rfl, trivial⟩ [h0, h1, h2, h3, h4, h5, h6, h7, h8, h9, h10, h11, h12, h13, h14, h15, h16, h17, h18, h19, h20, h21, h22, h23, h24, h25] rfl rfl 26 rfl (by decide +kernel) (fun H locs hw => ?_)
      refine lv_iinc (v := x3 + (1 : Int32)) (lv' := [(3, .int (x3 + (1 : Int32))), (0, .ref h0), (1, .int x1), (2, .int x2)]) hx hb dX9_write_73 hl (k := 3) rfl rfl (by decide) rfl (fun ls hl => ?_)
      refine lv_goto (tgt := 38) hx hb dX9_write_76 (by decide) ?_
      exact hk38 _ _ _ _ _ _ _ _ _ _ _ _ _ _ _ _ _ _ _ _ _ _ _ _ _ _ _ _ _ hm _ _ _ hw (lv_sub hl [1, 2, 3, 0] rfl)
set_option maxHeartbeats 1000000 in
set_option maxRecDepth 100000 in
theorem l_m_write_N38 {p : Program} {l : Launch} {e : Env} {s : State} {m : MethodId} {args : Array Value} {below : List Frame} {meth : Method} {c : Code} {A : Nat → Prop} {g : gG} {h0 h1 h2 h3 h4 h5 h6 h7 h8 h9 h10 h11 h12 h13 h14 h15 h16 h17 h18 h19 h20 h21 h22 h23 h24 h25 h26 h27 h28 h29 h30 : Nat} {v_jumpTold : Int32} {v_frosts : Int32} {v_gaps : Int32} {v_seens : Int32} {v_typed : Nat → Int32} {v_texts : Nat → Int32} {v_frostYear : Nat → Int32} {v_frostForce : Nat → Int32} {v_gapYear : Nat → Int32} {v_gapColumn : Nat → Int32} {v_gapHand : Nat → Int32} {v_isThere : Nat → Int32} {v_forms : Nat → Int32} {v_sizes : Nat → Int32} {r : (Int32 × Int32 × Int32 × Int32 × Int32 × Int32 × Int32 × Int32 × Int32 × Int32 × Int32 × Int32 × (Nat → Int32) × (Nat → Int32) × (Nat → Int32) × (Nat → Int32) × (Nat → Int32) × (Nat → Int32) × (Nat → Int32) × (Nat → Int32) × (Nat → Int32) × (Nat → Int32) × (Nat → Int32) × (Nat → Int32) × (Nat → Int32) × (Nat → Int32) × (Nat → Int32))} (C0 : gX p s m args meth c cX9_write 4 (some .int) RX9 g A) : ∀ n : Nat, ∀ (v_courses : Int32) (v_wide : Int32) (v_hands : Int32) (v_frostsNow : Int32) (v_notFrosts : Int32) (v_gapsNow : Int32) (v_fell : Int32) (v_fellAll : Int32) (v_sheepFirst : Int32) (v_sheepMany : Int32) (v_finding : Int32) (v_told : Nat → Int32) (v_moods : Nat → Int32) (v_strongs : Nat → Int32) (v_wall : Nat → Int32) (v_yearNow : Nat → Int32) (v_forceNow : Nat → Int32) (v_holdNow : Nat → Int32) (v_fellOf : Nat → Int32) (v_handAt : Nat → Int32) (v_holdAt : Nat → Int32) (v_fallsAt : Nat → Int32) (v_standAt : Nat → Int32) (v_highAt : Nat → Int32) (v_throughAt : Nat → Int32) (v_items : Nat → Int32) (x1 : Int32) (x2 : Int32) (x3 : Int32), iter (fun _ _ _ _ _ _ _ _ _ _ _ _ _ _ _ _ _ _ _ _ _ _ _ _ _ _ _ _ _ => none) (f_m_write_N38 v_jumpTold v_frosts v_gaps v_typed v_texts v_frostYear v_frostForce v_gapYear v_gapColumn v_gapHand v_isThere v_forms v_sizes) n v_courses v_wide v_hands v_frostsNow v_notFrosts v_gapsNow v_fell v_fellAll v_sheepFirst v_sheepMany v_finding v_told v_moods v_strongs v_wall v_yearNow v_forceNow v_holdNow v_fellOf v_handAt v_holdAt v_fallsAt v_standAt v_highAt v_throughAt v_items x1 x2 x3 = some r → ∀ (H : Heap) (locs : List Loc) (ls : Array Slot), gW g A s (W_m_write g h0 h1 h2 h3 h4 h5 h6 h7 h8 h9 h10 h11 h12 h13 h14 h15 h16 h17 h18 h19 h20 h21 h22 h23 h24 h25 h26 h27 h28 h29 h30 v_courses v_wide v_hands v_jumpTold v_frosts v_gaps v_frostsNow v_notFrosts v_gapsNow v_fell v_fellAll v_sheepFirst v_sheepMany v_seens v_finding v_typed v_texts v_told v_moods v_strongs v_frostYear v_frostForce v_gapYear v_gapColumn v_gapHand v_wall v_yearNow v_forceNow v_holdNow v_fellOf v_handAt v_holdAt v_fallsAt v_standAt v_highAt v_throughAt v_isThere v_forms v_sizes v_items) H locs → lv_has ls 4 [(0, .ref h0), (1, .int x1), (2, .int x2), (3, .int x3)] → W p l e rm_m_write s m args below meth c H locs 0 0 (gQi below args s A g r.1 (W_m_write g h0 h1 h2 h3 h4 h5 h6 h7 h8 h9 h10 h11 h12 h13 h14 h15 h16 h17 h18 h19 h20 h21 h22 h23 h24 h25 h26 h27 h28 h29 h30 r.2.1 r.2.2.1 r.2.2.2.1 v_jumpTold v_frosts v_gaps r.2.2.2.2.1 r.2.2.2.2.2.1 r.2.2.2.2.2.2.1 r.2.2.2.2.2.2.2.1 r.2.2.2.2.2.2.2.2.1 r.2.2.2.2.2.2.2.2.2.1 r.2.2.2.2.2.2.2.2.2.2.1 v_seens r.2.2.2.2.2.2.2.2.2.2.2.1 v_typed v_texts r.2.2.2.2.2.2.2.2.2.2.2.2.1 r.2.2.2.2.2.2.2.2.2.2.2.2.2.1 r.2.2.2.2.2.2.2.2.2.2.2.2.2.2.1 v_frostYear v_frostForce v_gapYear v_gapColumn v_gapHand r.2.2.2.2.2.2.2.2.2.2.2.2.2.2.2.1 r.2.2.2.2.2.2.2.2.2.2.2.2.2.2.2.2.1 r.2.2.2.2.2.2.2.2.2.2.2.2.2.2.2.2.2.1 r.2.2.2.2.2.2.2.2.2.2.2.2.2.2.2.2.2.2.1 r.2.2.2.2.2.2.2.2.2.2.2.2.2.2.2.2.2.2.2.1 r.2.2.2.2.2.2.2.2.2.2.2.2.2.2.2.2.2.2.2.2.1 r.2.2.2.2.2.2.2.2.2.2.2.2.2.2.2.2.2.2.2.2.2.1 r.2.2.2.2.2.2.2.2.2.2.2.2.2.2.2.2.2.2.2.2.2.2.1 r.2.2.2.2.2.2.2.2.2.2.2.2.2.2.2.2.2.2.2.2.2.2.2.1 r.2.2.2.2.2.2.2.2.2.2.2.2.2.2.2.2.2.2.2.2.2.2.2.2.1 r.2.2.2.2.2.2.2.2.2.2.2.2.2.2.2.2.2.2.2.2.2.2.2.2.2.1 v_isThere v_forms v_sizes r.2.2.2.2.2.2.2.2.2.2.2.2.2.2.2.2.2.2.2.2.2.2.2.2.2.2)) (F0 m 38 ls []) := by
  intro n
  induction n with
  | zero =>
    intro v_courses v_wide v_hands v_frostsNow v_notFrosts v_gapsNow v_fell v_fellAll v_sheepFirst v_sheepMany v_finding v_told v_moods v_strongs v_wall v_yearNow v_forceNow v_holdNow v_fellOf v_handAt v_holdAt v_fallsAt v_standAt v_highAt v_throughAt v_items x1 x2 x3 hm
    cases hm
  | succ n ih =>
    exact n_m_write_N38 C0  ih
set_option maxHeartbeats 1000000 in
set_option maxRecDepth 100000 in
theorem c_m_write (l : Launch) (g : gG) (sz : Nat) (h0 h1 h2 h3 h4 h5 h6 h7 h8 h9 h10 h11 h12 h13 h14 h15 h16 h17 h18 h19 h20 h21 h22 h23 h24 h25 h26 h27 h28 h29 h30 : Nat) (v_courses : Int32) (v_wide : Int32) (v_hands : Int32) (v_jumpTold : Int32) (v_frosts : Int32) (v_gaps : Int32) (v_frostsNow : Int32) (v_notFrosts : Int32) (v_gapsNow : Int32) (v_fell : Int32) (v_fellAll : Int32) (v_sheepFirst : Int32) (v_sheepMany : Int32) (v_seens : Int32) (v_finding : Int32) (v_typed : Nat → Int32) (v_texts : Nat → Int32) (v_told : Nat → Int32) (v_moods : Nat → Int32) (v_strongs : Nat → Int32) (v_frostYear : Nat → Int32) (v_frostForce : Nat → Int32) (v_gapYear : Nat → Int32) (v_gapColumn : Nat → Int32) (v_gapHand : Nat → Int32) (v_wall : Nat → Int32) (v_yearNow : Nat → Int32) (v_forceNow : Nat → Int32) (v_holdNow : Nat → Int32) (v_fellOf : Nat → Int32) (v_handAt : Nat → Int32) (v_holdAt : Nat → Int32) (v_fallsAt : Nat → Int32) (v_standAt : Nat → Int32) (v_highAt : Nat → Int32) (v_throughAt : Nat → Int32) (v_isThere : Nat → Int32) (v_forms : Nat → Int32) (v_sizes : Nat → Int32) (v_items : Nat → Int32) (a0 : Int32) (a1 : Int32) (r : (Int32 × Int32 × Int32 × Int32 × Int32 × Int32 × Int32 × Int32 × Int32 × Int32 × Int32 × Int32 × (Nat → Int32) × (Nat → Int32) × (Nat → Int32) × (Nat → Int32) × (Nat → Int32) × (Nat → Int32) × (Nat → Int32) × (Nat → Int32) × (Nat → Int32) × (Nat → Int32) × (Nat → Int32) × (Nat → Int32) × (Nat → Int32) × (Nat → Int32) × (Nat → Int32))) (hm : f_m_write v_courses v_wide v_hands v_jumpTold v_frosts v_gaps v_frostsNow v_notFrosts v_gapsNow v_fell v_fellAll v_sheepFirst v_sheepMany v_finding v_typed v_texts v_told v_moods v_strongs v_frostYear v_frostForce v_gapYear v_gapColumn v_gapHand v_wall v_yearNow v_forceNow v_holdNow v_fellOf v_handAt v_holdAt v_fallsAt v_standAt v_highAt v_throughAt v_isThere v_forms v_sizes v_items a0 a1 = some r) : gMi l yX9_write cX9_write 4 (some .int) rm_m_write g sz [.ref h0, .int a0, .int a1] (W_m_write g h0 h1 h2 h3 h4 h5 h6 h7 h8 h9 h10 h11 h12 h13 h14 h15 h16 h17 h18 h19 h20 h21 h22 h23 h24 h25 h26 h27 h28 h29 h30 v_courses v_wide v_hands v_jumpTold v_frosts v_gaps v_frostsNow v_notFrosts v_gapsNow v_fell v_fellAll v_sheepFirst v_sheepMany v_seens v_finding v_typed v_texts v_told v_moods v_strongs v_frostYear v_frostForce v_gapYear v_gapColumn v_gapHand v_wall v_yearNow v_forceNow v_holdNow v_fellOf v_handAt v_holdAt v_fallsAt v_standAt v_highAt v_throughAt v_isThere v_forms v_sizes v_items) r.1 (W_m_write g h0 h1 h2 h3 h4 h5 h6 h7 h8 h9 h10 h11 h12 h13 h14 h15 h16 h17 h18 h19 h20 h21 h22 h23 h24 h25 h26 h27 h28 h29 h30 r.2.1 r.2.2.1 r.2.2.2.1 v_jumpTold v_frosts v_gaps r.2.2.2.2.1 r.2.2.2.2.2.1 r.2.2.2.2.2.2.1 r.2.2.2.2.2.2.2.1 r.2.2.2.2.2.2.2.2.1 r.2.2.2.2.2.2.2.2.2.1 r.2.2.2.2.2.2.2.2.2.2.1 v_seens r.2.2.2.2.2.2.2.2.2.2.2.1 v_typed v_texts r.2.2.2.2.2.2.2.2.2.2.2.2.1 r.2.2.2.2.2.2.2.2.2.2.2.2.2.1 r.2.2.2.2.2.2.2.2.2.2.2.2.2.2.1 v_frostYear v_frostForce v_gapYear v_gapColumn v_gapHand r.2.2.2.2.2.2.2.2.2.2.2.2.2.2.2.1 r.2.2.2.2.2.2.2.2.2.2.2.2.2.2.2.2.1 r.2.2.2.2.2.2.2.2.2.2.2.2.2.2.2.2.2.1 r.2.2.2.2.2.2.2.2.2.2.2.2.2.2.2.2.2.2.1 r.2.2.2.2.2.2.2.2.2.2.2.2.2.2.2.2.2.2.2.1 r.2.2.2.2.2.2.2.2.2.2.2.2.2.2.2.2.2.2.2.2.1 r.2.2.2.2.2.2.2.2.2.2.2.2.2.2.2.2.2.2.2.2.2.1 r.2.2.2.2.2.2.2.2.2.2.2.2.2.2.2.2.2.2.2.2.2.2.1 r.2.2.2.2.2.2.2.2.2.2.2.2.2.2.2.2.2.2.2.2.2.2.2.1 r.2.2.2.2.2.2.2.2.2.2.2.2.2.2.2.2.2.2.2.2.2.2.2.2.1 r.2.2.2.2.2.2.2.2.2.2.2.2.2.2.2.2.2.2.2.2.2.2.2.2.2.1 v_isThere v_forms v_sizes r.2.2.2.2.2.2.2.2.2.2.2.2.2.2.2.2.2.2.2.2.2.2.2.2.2.2) := by
  unfold f_m_write at hm
  refine gEnterI (by decide) (Nat.le_of_ble_eq_true rfl) (fun p e s m below meth c A C0 H locs hw ls hl => ?_)
  obtain ⟨hx, hb, hr, hml, hown, hts, hlocks, hK, hA⟩ := id C0
  have C0 : gX p s m [.ref h0, .int a0, .int a1].toArray meth c cX9_write 4 (some .int) RX9 g A := C0
  have hl : lv_has ls 4 [(0, .ref h0), (1, .int a0), (2, .int a1)] := hl
  refine lv_iload_n hx hb dX9_write_0 rfl (lv_at hl 1 rfl) ?_
  obtain ⟨o1, ho1, hm⟩ := bindE hm
  refine gCalli (ws' := (W_m_write g h0 h1 h2 h3 h4 h5 h6 h7 h8 h9 h10 h11 h12 h13 h14 h15 h16 h17 h18 h19 h20 h21 h22 h23 h24 h25 h26 h27 h28 h29 h30 v_courses v_wide v_hands v_jumpTold v_frosts v_gaps v_frostsNow v_notFrosts v_gapsNow v_fell v_fellAll v_sheepFirst v_sheepMany v_seens v_finding v_typed v_texts v_told v_moods v_strongs v_frostYear v_frostForce v_gapYear v_gapColumn v_gapHand v_wall v_yearNow v_forceNow v_holdNow v_fellOf v_handAt v_holdAt v_fallsAt v_standAt v_highAt v_throughAt v_isThere v_forms v_sizes v_items)) C0 hw (gRunS (As := [.int a0]) (rest := []) C0 hw lkX9_167 (c_m_isYear l g H.size  a0 o1 ho1) ⟨rfl, rfl⟩ ⟨Nat.le_of_ble_eq_true rfl, Nat.le_of_ble_eq_true rfl⟩ [] (by decide) rfl rfl hl.1 rfl (Nat.le_of_ble_eq_true rfl) dX9_write_1) [] [0, 1, 2, 3, 4, 5, 6, 7, 8, 9, 10, 11, 12, 13, 14, 15, 16, 17, 18, 19, 20, 21, 22, 23, 24, 25] rfl rfl ⟨rfl, rfl, rfl, rfl, rfl, rfl, rfl, rfl, rfl, rfl, rfl, rfl, rfl, rfl, rfl, rfl, rfl, rfl, rfl, rfl, rfl, rfl, rfl, rfl, rfl, rfl, trivial⟩ [h0, h1, h2, h3, h4, h5, h6, h7, h8, h9, h10, h11, h12, h13, h14, h15, h16, h17, h18, h19, h20, h21, h22, h23, h24, h25] rfl rfl 26 rfl (by decide +kernel) (fun H locs hw => ?_)
  refine lv_if_eq (tgt := 14) hx hb dX9_write_4 (by decide) (fun hc => ?_) (fun hc => ?_)
  · have hm := ipos hc hm
    refine lv_bipush (v := -2) hx hb dX9_write_14 (by decide) ?_
    have hm := Option.some.inj hm
    subst hm
    exact gRetI C0 hw dX9_write_16
  · have hm := ineg hc hm
    refine lv_iload_n hx hb dX9_write_7 rfl (lv_at hl 2 rfl) ?_
    obtain ⟨o8, ho8, hm⟩ := bindE hm
    refine gCalli (ws' := (W_m_write g h0 h1 h2 h3 h4 h5 h6 h7 h8 h9 h10 h11 h12 h13 h14 h15 h16 h17 h18 h19 h20 h21 h22 h23 h24 h25 h26 h27 h28 h29 h30 v_courses v_wide v_hands v_jumpTold v_frosts v_gaps v_frostsNow v_notFrosts v_gapsNow v_fell v_fellAll v_sheepFirst v_sheepMany v_seens v_finding v_typed v_texts v_told v_moods v_strongs v_frostYear v_frostForce v_gapYear v_gapColumn v_gapHand v_wall v_yearNow v_forceNow v_holdNow v_fellOf v_handAt v_holdAt v_fallsAt v_standAt v_highAt v_throughAt v_isThere v_forms v_sizes v_items)) C0 hw (gRunS (As := [.int a1]) (rest := []) C0 hw lkX9_176 (c_m_isSheet l g H.size  a1 o8 ho8) ⟨rfl, rfl⟩ ⟨Nat.le_of_ble_eq_true rfl, Nat.le_of_ble_eq_true rfl⟩ [] (by decide) rfl rfl hl.1 rfl (Nat.le_of_ble_eq_true rfl) dX9_write_8) [] [0, 1, 2, 3, 4, 5, 6, 7, 8, 9, 10, 11, 12, 13, 14, 15, 16, 17, 18, 19, 20, 21, 22, 23, 24, 25] rfl rfl ⟨rfl, rfl, rfl, rfl, rfl, rfl, rfl, rfl, rfl, rfl, rfl, rfl, rfl, rfl, rfl, rfl, rfl, rfl, rfl, rfl, rfl, rfl, rfl, rfl, rfl, rfl, trivial⟩ [h0, h1, h2, h3, h4, h5, h6, h7, h8, h9, h10, h11, h12, h13, h14, h15, h16, h17, h18, h19, h20, h21, h22, h23, h24, h25] rfl rfl 26 rfl (by decide +kernel) (fun H locs hw => ?_)
    refine lv_if_ne (tgt := 17) hx hb dX9_write_11 (by decide) (fun hc => ?_) (fun hc => ?_)
    · have hm := ineg hc hm
      refine lv_aload_n hx hb dX9_write_17 rfl (lv_at hl 0 rfl) ?_
      refine gGet C0 hw flX9_86 0 rfl rfl dX9_write_18 ?_
      refine lv_iload_n hx hb dX9_write_21 rfl (lv_at hl 2 rfl) ?_
      obtain ⟨hin, hm⟩ := gdE hm
      have hin := inbE hin
      refine gAldZ C0 hw 22 rfl hin dX9_write_22 ?_
      refine lv_if_ne (tgt := 32) hx hb dX9_write_23 (by decide) (fun hc => ?_) (fun hc => ?_)
      · have hm := ineg hc hm
        refine lv_aload_n hx hb dX9_write_32 rfl (lv_at hl 0 rfl) ?_
        obtain ⟨o33, ho33, hm⟩ := bindE hm
        refine gCallv (ws' := (W_m_write g h0 h1 h2 h3 h4 h5 h6 h7 h8 h9 h10 h11 h12 h13 h14 h15 h16 h17 h18 h19 h20 h21 h22 h23 h24 h25 h26 h27 h28 h29 h30 o33.1 o33.2.1 o33.2.2.1 v_jumpTold v_frosts v_gaps o33.2.2.2.1 o33.2.2.2.2.1 o33.2.2.2.2.2.1 o33.2.2.2.2.2.2.1 o33.2.2.2.2.2.2.2.1 o33.2.2.2.2.2.2.2.2.1 o33.2.2.2.2.2.2.2.2.2.1 v_seens v_finding v_typed v_texts o33.2.2.2.2.2.2.2.2.2.2.1 o33.2.2.2.2.2.2.2.2.2.2.2.1 o33.2.2.2.2.2.2.2.2.2.2.2.2.1 v_frostYear v_frostForce v_gapYear v_gapColumn v_gapHand o33.2.2.2.2.2.2.2.2.2.2.2.2.2.1 o33.2.2.2.2.2.2.2.2.2.2.2.2.2.2.1 o33.2.2.2.2.2.2.2.2.2.2.2.2.2.2.2.1 o33.2.2.2.2.2.2.2.2.2.2.2.2.2.2.2.2.1 o33.2.2.2.2.2.2.2.2.2.2.2.2.2.2.2.2.2.1 o33.2.2.2.2.2.2.2.2.2.2.2.2.2.2.2.2.2.2.1 o33.2.2.2.2.2.2.2.2.2.2.2.2.2.2.2.2.2.2.2.1 o33.2.2.2.2.2.2.2.2.2.2.2.2.2.2.2.2.2.2.2.2.1 o33.2.2.2.2.2.2.2.2.2.2.2.2.2.2.2.2.2.2.2.2.2.1 o33.2.2.2.2.2.2.2.2.2.2.2.2.2.2.2.2.2.2.2.2.2.2.1 o33.2.2.2.2.2.2.2.2.2.2.2.2.2.2.2.2.2.2.2.2.2.2.2 v_isThere v_forms v_sizes v_items)) C0 hw (gRunV (As := []) (rest := []) C0 hw lkX9_262 (c_m_runsTold l g H.size h0 h1 h2 h3 h4 h5 h6 h7 h8 h9 h10 h11 h12 h13 h14 h15 h16 h17 h18 h19 h20 h21 h26 h27 h28 h29 h22 h23 h24 h25 h30 v_courses v_wide v_hands v_jumpTold v_frosts v_gaps v_frostsNow v_notFrosts v_gapsNow v_fell v_fellAll v_sheepFirst v_sheepMany v_seens v_finding v_typed v_texts v_told v_moods v_strongs v_frostYear v_frostForce v_gapYear v_gapColumn v_gapHand v_wall v_yearNow v_forceNow v_holdNow v_fellOf v_handAt v_holdAt v_fallsAt v_standAt v_highAt v_throughAt o33 ho33) ⟨rfl, rfl⟩ ⟨Nat.le_of_ble_eq_true rfl, Nat.le_of_ble_eq_true rfl⟩ [0, 1, 2, 3, 4, 5, 6, 7, 8, 9, 10, 11, 12, 13, 14, 15, 16, 17, 18, 19, 20, 21] (by decide) rfl 0 rfl rfl rfl hl.1 rfl (Nat.le_of_ble_eq_true rfl) dX9_write_33) [0, 1, 2, 3, 4, 5, 6, 7, 8, 9, 10, 11, 12, 13, 14, 15, 16, 17, 18, 19, 20, 21] [22, 23, 24, 25] rfl rfl ⟨rfl, rfl, rfl, rfl, trivial⟩ [h0, h1, h2, h3, h4, h5, h6, h7, h8, h9, h10, h11, h12, h13, h14, h15, h16, h17, h18, h19, h20, h21, h22, h23, h24, h25] rfl rfl 26 rfl (by decide +kernel) (fun H locs hw => ?_)
        refine lv_iconst (v := 0) hx hb dX9_write_36 (by decide) ?_
        refine lv_istore_n (lv' := [(3, .int (0 : Int32)), (0, .ref h0), (1, .int a0), (2, .int a1)]) hx hb dX9_write_37 rfl hl (by decide) rfl (fun ls hl => ?_)
        exact l_m_write_N38 C0  1000 _ _ _ _ _ _ _ _ _ _ _ _ _ _ _ _ _ _ _ _ _ _ _ _ _ _ _ _ _ hm _ _ _ hw (lv_sub hl [1, 2, 3, 0] rfl)
      · have hm := ipos hc hm
        refine lv_aload_n hx hb dX9_write_26 rfl (lv_at hl 0 rfl) ?_
        refine lv_iconst (v := 1) hx hb dX9_write_27 (by decide) ?_
        obtain ⟨o28, ho28, hm⟩ := bindE hm
        refine gCalli (ws' := (W_m_write g h0 h1 h2 h3 h4 h5 h6 h7 h8 h9 h10 h11 h12 h13 h14 h15 h16 h17 h18 h19 h20 h21 h22 h23 h24 h25 h26 h27 h28 h29 h30 v_courses v_wide v_hands v_jumpTold v_frosts v_gaps v_frostsNow v_notFrosts v_gapsNow v_fell v_fellAll v_sheepFirst v_sheepMany v_seens o28.2 v_typed v_texts v_told v_moods v_strongs v_frostYear v_frostForce v_gapYear v_gapColumn v_gapHand v_wall v_yearNow v_forceNow v_holdNow v_fellOf v_handAt v_holdAt v_fallsAt v_standAt v_highAt v_throughAt v_isThere v_forms v_sizes v_items)) C0 hw (gRunV (As := [.int (1 : Int32)]) (rest := []) C0 hw lkX9_179 (c_m_meets l g H.size h0 h1 h2 h3 h4 h5 h6 h7 h8 h9 h10 h11 h12 h13 h14 h15 h16 h17 h18 h19 h20 h21 h26 h27 h28 h29 h22 h23 h24 h25 h30 v_courses v_wide v_hands v_jumpTold v_frosts v_gaps v_frostsNow v_notFrosts v_gapsNow v_fell v_fellAll v_sheepFirst v_sheepMany v_seens v_finding (1 : Int32) o28 ho28) ⟨rfl, rfl⟩ ⟨Nat.le_of_ble_eq_true rfl, Nat.le_of_ble_eq_true rfl⟩ [0] (by decide) rfl 0 rfl rfl rfl hl.1 rfl (Nat.le_of_ble_eq_true rfl) dX9_write_28) [0] [1, 2, 3, 4, 5, 6, 7, 8, 9, 10, 11, 12, 13, 14, 15, 16, 17, 18, 19, 20, 21, 22, 23, 24, 25] rfl rfl ⟨rfl, rfl, rfl, rfl, rfl, rfl, rfl, rfl, rfl, rfl, rfl, rfl, rfl, rfl, rfl, rfl, rfl, rfl, rfl, rfl, rfl, rfl, rfl, rfl, rfl, trivial⟩ [h0, h1, h2, h3, h4, h5, h6, h7, h8, h9, h10, h11, h12, h13, h14, h15, h16, h17, h18, h19, h20, h21, h22, h23, h24, h25] rfl rfl 26 rfl (by decide +kernel) (fun H locs hw => ?_)
        have hm := Option.some.inj hm
        subst hm
        exact gRetI C0 hw dX9_write_31
    · have hm := ipos hc hm
      refine lv_bipush (v := -2) hx hb dX9_write_14 (by decide) ?_
      have hm := Option.some.inj hm
      subst hm
      exact gRetI C0 hw dX9_write_16

-- WallHandsModel.sumOf(I)I
abbrev W_m_sumOf (g : gG) (h0 h1 h2 h3 h4 h5 h6 h7 h8 h9 h10 h11 h12 h13 h14 h15 h16 h17 h18 h19 h20 h21 h22 h23 h24 h25 h26 h27 h28 h29 h30 : Nat) (v_courses : Int32) (v_wide : Int32) (v_hands : Int32) (v_jumpTold : Int32) (v_frosts : Int32) (v_gaps : Int32) (v_frostsNow : Int32) (v_notFrosts : Int32) (v_gapsNow : Int32) (v_fell : Int32) (v_fellAll : Int32) (v_sheepFirst : Int32) (v_sheepMany : Int32) (v_seens : Int32) (v_finding : Int32) (v_typed : Nat → Int32) (v_texts : Nat → Int32) (v_told : Nat → Int32) (v_moods : Nat → Int32) (v_strongs : Nat → Int32) (v_frostYear : Nat → Int32) (v_frostForce : Nat → Int32) (v_gapYear : Nat → Int32) (v_gapColumn : Nat → Int32) (v_gapHand : Nat → Int32) (v_wall : Nat → Int32) (v_yearNow : Nat → Int32) (v_forceNow : Nat → Int32) (v_holdNow : Nat → Int32) (v_fellOf : Nat → Int32) (v_handAt : Nat → Int32) (v_holdAt : Nat → Int32) (v_fallsAt : Nat → Int32) (v_standAt : Nat → Int32) (v_highAt : Nat → Int32) (v_throughAt : Nat → Int32) : va_W := [(h0, .inr (9, [.ref h1, .ref h2, .int v_courses, .int v_wide, .ref h3, .int v_hands, .ref h4, .ref h5, .int v_jumpTold, .int v_frosts, .ref h6, .ref h7, .int v_gaps, .ref h8, .ref h9, .ref h10, .ref h11, .int v_frostsNow, .ref h12, .ref h13, .int v_notFrosts, .int v_gapsNow, .ref h14, .int v_fell, .int v_fellAll, .ref h15, .ref h16, .ref h17, .ref h18, .ref h19, .ref h20, .ref h21, .int v_sheepFirst, .int v_sheepMany, .int v_seens, .ref h22, .ref h23, .ref h24, .ref h25, .ref h26, .ref h27, .ref h28, .ref h29, .ref h30, .int v_finding])), (h1, .inl (gI g, 2, .inl v_typed)), (h2, .inl (gI g, 88, .inl v_texts)), (h3, .inl (gI g, 48, .inl v_told)), (h4, .inl (gI g, 9, .inl v_moods)), (h5, .inl (gI g, 9, .inl v_strongs)), (h6, .inl (gI g, 6, .inl v_frostYear)), (h7, .inl (gI g, 6, .inl v_frostForce)), (h8, .inl (gI g, 7, .inl v_gapYear)), (h9, .inl (gI g, 7, .inl v_gapColumn)), (h10, .inl (gI g, 7, .inl v_gapHand)), (h11, .inl (gI g, 40, .inl v_wall)), (h12, .inl (gI g, 6, .inl v_yearNow)), (h13, .inl (gI g, 6, .inl v_forceNow)), (h14, .inl (gI g, 40, .inl v_holdNow)), (h15, .inl (gI g, 8, .inl v_fellOf)), (h16, .inl (gI g, 800, .inl v_handAt)), (h17, .inl (gI g, 800, .inl v_holdAt)), (h18, .inl (gI g, 20, .inl v_fallsAt)), (h19, .inl (gI g, 20, .inl v_standAt)), (h20, .inl (gI g, 160, .inl v_highAt)), (h21, .inl (gZ g, 160, .inl v_throughAt))]

abbrev rm_m_sumOf : Room := { frames := 8, cells := 0, slots := 0, locals := 182 }

set_option maxHeartbeats 1000000 in
set_option maxRecDepth 100000 in
theorem n_m_sumOf_N30 {p : Program} {l : Launch} {e : Env} {s : State} {m : MethodId} {args : Array Value} {below : List Frame} {meth : Method} {c : Code} {A : Nat → Prop} {g : gG} {h0 h1 h2 h3 h4 h5 h6 h7 h8 h9 h10 h11 h12 h13 h14 h15 h16 h17 h18 h19 h20 h21 h22 h23 h24 h25 h26 h27 h28 h29 h30 : Nat} {v_jumpTold : Int32} {v_frosts : Int32} {v_gaps : Int32} {v_seens : Int32} {v_finding : Int32} {v_typed : Nat → Int32} {v_texts : Nat → Int32} {v_frostYear : Nat → Int32} {v_frostForce : Nat → Int32} {v_gapYear : Nat → Int32} {v_gapColumn : Nat → Int32} {v_gapHand : Nat → Int32} {k8 : Int32 → Int32 → Int32 → Int32 → Int32 → Int32 → Int32 → Int32 → Int32 → Int32 → (Nat → Int32) → (Nat → Int32) → (Nat → Int32) → (Nat → Int32) → (Nat → Int32) → (Nat → Int32) → (Nat → Int32) → (Nat → Int32) → (Nat → Int32) → (Nat → Int32) → (Nat → Int32) → (Nat → Int32) → (Nat → Int32) → (Nat → Int32) → Int32 → Int32 → Int32 → Option (Int32 × Int32 × Int32 × Int32 × Int32 × Int32 × Int32 × Int32 × Int32 × Int32 × Int32 × (Nat → Int32) × (Nat → Int32) × (Nat → Int32) × (Nat → Int32) × (Nat → Int32) × (Nat → Int32) × (Nat → Int32) × (Nat → Int32) × (Nat → Int32) × (Nat → Int32) × (Nat → Int32) × (Nat → Int32) × (Nat → Int32) × (Nat → Int32))} {r : (Int32 × Int32 × Int32 × Int32 × Int32 × Int32 × Int32 × Int32 × Int32 × Int32 × Int32 × (Nat → Int32) × (Nat → Int32) × (Nat → Int32) × (Nat → Int32) × (Nat → Int32) × (Nat → Int32) × (Nat → Int32) × (Nat → Int32) × (Nat → Int32) × (Nat → Int32) × (Nat → Int32) × (Nat → Int32) × (Nat → Int32) × (Nat → Int32))} (C0 : gX p s m args meth c cX9_sumOf 4 (some .int) RX9 g A) (hk8 : ∀ (v_courses : Int32) (v_wide : Int32) (v_hands : Int32) (v_frostsNow : Int32) (v_notFrosts : Int32) (v_gapsNow : Int32) (v_fell : Int32) (v_fellAll : Int32) (v_sheepFirst : Int32) (v_sheepMany : Int32) (v_told : Nat → Int32) (v_moods : Nat → Int32) (v_strongs : Nat → Int32) (v_wall : Nat → Int32) (v_yearNow : Nat → Int32) (v_forceNow : Nat → Int32) (v_holdNow : Nat → Int32) (v_fellOf : Nat → Int32) (v_handAt : Nat → Int32) (v_holdAt : Nat → Int32) (v_fallsAt : Nat → Int32) (v_standAt : Nat → Int32) (v_highAt : Nat → Int32) (v_throughAt : Nat → Int32) (x1 : Int32) (x2 : Int32) (x3 : Int32), k8 v_courses v_wide v_hands v_frostsNow v_notFrosts v_gapsNow v_fell v_fellAll v_sheepFirst v_sheepMany v_told v_moods v_strongs v_wall v_yearNow v_forceNow v_holdNow v_fellOf v_handAt v_holdAt v_fallsAt v_standAt v_highAt v_throughAt x1 x2 x3 = some r → ∀ (H : Heap) (locs : List Loc) (ls : Array Slot), gW g A s (W_m_sumOf g h0 h1 h2 h3 h4 h5 h6 h7 h8 h9 h10 h11 h12 h13 h14 h15 h16 h17 h18 h19 h20 h21 h22 h23 h24 h25 h26 h27 h28 h29 h30 v_courses v_wide v_hands v_jumpTold v_frosts v_gaps v_frostsNow v_notFrosts v_gapsNow v_fell v_fellAll v_sheepFirst v_sheepMany v_seens v_finding v_typed v_texts v_told v_moods v_strongs v_frostYear v_frostForce v_gapYear v_gapColumn v_gapHand v_wall v_yearNow v_forceNow v_holdNow v_fellOf v_handAt v_holdAt v_fallsAt v_standAt v_highAt v_throughAt) H locs → lv_has ls 4 [(0, .ref h0), (1, .int x1), (2, .int x2), (3, .int x3)] → W p l e rm_m_sumOf s m args below meth c H locs 0 0 (gQi below args s A g r.1 (W_m_sumOf g h0 h1 h2 h3 h4 h5 h6 h7 h8 h9 h10 h11 h12 h13 h14 h15 h16 h17 h18 h19 h20 h21 h22 h23 h24 h25 h26 h27 h28 h29 h30 r.2.1 r.2.2.1 r.2.2.2.1 v_jumpTold v_frosts v_gaps r.2.2.2.2.1 r.2.2.2.2.2.1 r.2.2.2.2.2.2.1 r.2.2.2.2.2.2.2.1 r.2.2.2.2.2.2.2.2.1 r.2.2.2.2.2.2.2.2.2.1 r.2.2.2.2.2.2.2.2.2.2.1 v_seens v_finding v_typed v_texts r.2.2.2.2.2.2.2.2.2.2.2.1 r.2.2.2.2.2.2.2.2.2.2.2.2.1 r.2.2.2.2.2.2.2.2.2.2.2.2.2.1 v_frostYear v_frostForce v_gapYear v_gapColumn v_gapHand r.2.2.2.2.2.2.2.2.2.2.2.2.2.2.1 r.2.2.2.2.2.2.2.2.2.2.2.2.2.2.2.1 r.2.2.2.2.2.2.2.2.2.2.2.2.2.2.2.2.1 r.2.2.2.2.2.2.2.2.2.2.2.2.2.2.2.2.2.1 r.2.2.2.2.2.2.2.2.2.2.2.2.2.2.2.2.2.2.1 r.2.2.2.2.2.2.2.2.2.2.2.2.2.2.2.2.2.2.2.1 r.2.2.2.2.2.2.2.2.2.2.2.2.2.2.2.2.2.2.2.2.1 r.2.2.2.2.2.2.2.2.2.2.2.2.2.2.2.2.2.2.2.2.2.1 r.2.2.2.2.2.2.2.2.2.2.2.2.2.2.2.2.2.2.2.2.2.2.1 r.2.2.2.2.2.2.2.2.2.2.2.2.2.2.2.2.2.2.2.2.2.2.2.1 r.2.2.2.2.2.2.2.2.2.2.2.2.2.2.2.2.2.2.2.2.2.2.2.2)) (F0 m 8 ls [])) : ∀ (v_courses : Int32) (v_wide : Int32) (v_hands : Int32) (v_frostsNow : Int32) (v_notFrosts : Int32) (v_gapsNow : Int32) (v_fell : Int32) (v_fellAll : Int32) (v_sheepFirst : Int32) (v_sheepMany : Int32) (v_told : Nat → Int32) (v_moods : Nat → Int32) (v_strongs : Nat → Int32) (v_wall : Nat → Int32) (v_yearNow : Nat → Int32) (v_forceNow : Nat → Int32) (v_holdNow : Nat → Int32) (v_fellOf : Nat → Int32) (v_handAt : Nat → Int32) (v_holdAt : Nat → Int32) (v_fallsAt : Nat → Int32) (v_standAt : Nat → Int32) (v_highAt : Nat → Int32) (v_throughAt : Nat → Int32) (x1 : Int32) (x3 : Int32) (y0 : Int32) (y1 : Int32), f_m_sumOf_N30 v_jumpTold v_frosts v_gaps v_typed v_texts v_frostYear v_frostForce v_gapYear v_gapColumn v_gapHand k8 v_courses v_wide v_hands v_frostsNow v_notFrosts v_gapsNow v_fell v_fellAll v_sheepFirst v_sheepMany v_told v_moods v_strongs v_wall v_yearNow v_forceNow v_holdNow v_fellOf v_handAt v_holdAt v_fallsAt v_standAt v_highAt v_throughAt x1 x3 y0 y1 = some r → ∀ (H : Heap) (locs : List Loc) (ls : Array Slot), gW g A s (W_m_sumOf g h0 h1 h2 h3 h4 h5 h6 h7 h8 h9 h10 h11 h12 h13 h14 h15 h16 h17 h18 h19 h20 h21 h22 h23 h24 h25 h26 h27 h28 h29 h30 v_courses v_wide v_hands v_jumpTold v_frosts v_gaps v_frostsNow v_notFrosts v_gapsNow v_fell v_fellAll v_sheepFirst v_sheepMany v_seens v_finding v_typed v_texts v_told v_moods v_strongs v_frostYear v_frostForce v_gapYear v_gapColumn v_gapHand v_wall v_yearNow v_forceNow v_holdNow v_fellOf v_handAt v_holdAt v_fallsAt v_standAt v_highAt v_throughAt) H locs → lv_has ls 4 [(0, .ref h0), (1, .int x1), (3, .int x3)] → W p l e rm_m_sumOf s m args below meth c H locs 0 0 (gQi below args s A g r.1 (W_m_sumOf g h0 h1 h2 h3 h4 h5 h6 h7 h8 h9 h10 h11 h12 h13 h14 h15 h16 h17 h18 h19 h20 h21 h22 h23 h24 h25 h26 h27 h28 h29 h30 r.2.1 r.2.2.1 r.2.2.2.1 v_jumpTold v_frosts v_gaps r.2.2.2.2.1 r.2.2.2.2.2.1 r.2.2.2.2.2.2.1 r.2.2.2.2.2.2.2.1 r.2.2.2.2.2.2.2.2.1 r.2.2.2.2.2.2.2.2.2.1 r.2.2.2.2.2.2.2.2.2.2.1 v_seens v_finding v_typed v_texts r.2.2.2.2.2.2.2.2.2.2.2.1 r.2.2.2.2.2.2.2.2.2.2.2.2.1 r.2.2.2.2.2.2.2.2.2.2.2.2.2.1 v_frostYear v_frostForce v_gapYear v_gapColumn v_gapHand r.2.2.2.2.2.2.2.2.2.2.2.2.2.2.1 r.2.2.2.2.2.2.2.2.2.2.2.2.2.2.2.1 r.2.2.2.2.2.2.2.2.2.2.2.2.2.2.2.2.1 r.2.2.2.2.2.2.2.2.2.2.2.2.2.2.2.2.2.1 r.2.2.2.2.2.2.2.2.2.2.2.2.2.2.2.2.2.2.1 r.2.2.2.2.2.2.2.2.2.2.2.2.2.2.2.2.2.2.2.1 r.2.2.2.2.2.2.2.2.2.2.2.2.2.2.2.2.2.2.2.2.1 r.2.2.2.2.2.2.2.2.2.2.2.2.2.2.2.2.2.2.2.2.2.1 r.2.2.2.2.2.2.2.2.2.2.2.2.2.2.2.2.2.2.2.2.2.2.1 r.2.2.2.2.2.2.2.2.2.2.2.2.2.2.2.2.2.2.2.2.2.2.2.1 r.2.2.2.2.2.2.2.2.2.2.2.2.2.2.2.2.2.2.2.2.2.2.2.2)) (F0 m 30 ls [.int y1, .int y0]) := by
  intro v_courses v_wide v_hands v_frostsNow v_notFrosts v_gapsNow v_fell v_fellAll v_sheepFirst v_sheepMany v_told v_moods v_strongs v_wall v_yearNow v_forceNow v_holdNow v_fellOf v_handAt v_holdAt v_fallsAt v_standAt v_highAt v_throughAt x1 x3 y0 y1 hm H locs ls hw hl
  unfold f_m_sumOf_N30 at hm
  obtain ⟨hx, hb, hr, hml, hown, hts, hlocks, hK, hA⟩ := id C0
  refine lv_iadd hx hb dX9_sumOf_30 ?_
  refine lv_istore_n (lv' := [(2, .int (y0 + y1)), (0, .ref h0), (1, .int x1), (3, .int x3)]) hx hb dX9_sumOf_31 rfl hl (by decide) rfl (fun ls hl => ?_)
  refine lv_iinc (v := x3 + (1 : Int32)) (lv' := [(3, .int (x3 + (1 : Int32))), (2, .int (y0 + y1)), (0, .ref h0), (1, .int x1)]) hx hb dX9_sumOf_32 hl (k := 3) rfl rfl (by decide) rfl (fun ls hl => ?_)
  refine lv_goto (tgt := 8) hx hb dX9_sumOf_35 (by decide) ?_
  exact hk8 _ _ _ _ _ _ _ _ _ _ _ _ _ _ _ _ _ _ _ _ _ _ _ _ _ _ _ hm _ _ _ hw (lv_sub hl [2, 3, 1, 0] rfl)
set_option maxHeartbeats 1000000 in
set_option maxRecDepth 100000 in
theorem n_m_sumOf_N8 {p : Program} {l : Launch} {e : Env} {s : State} {m : MethodId} {args : Array Value} {below : List Frame} {meth : Method} {c : Code} {A : Nat → Prop} {g : gG} {h0 h1 h2 h3 h4 h5 h6 h7 h8 h9 h10 h11 h12 h13 h14 h15 h16 h17 h18 h19 h20 h21 h22 h23 h24 h25 h26 h27 h28 h29 h30 : Nat} {v_jumpTold : Int32} {v_frosts : Int32} {v_gaps : Int32} {v_seens : Int32} {v_finding : Int32} {v_typed : Nat → Int32} {v_texts : Nat → Int32} {v_frostYear : Nat → Int32} {v_frostForce : Nat → Int32} {v_gapYear : Nat → Int32} {v_gapColumn : Nat → Int32} {v_gapHand : Nat → Int32} {k8 : Int32 → Int32 → Int32 → Int32 → Int32 → Int32 → Int32 → Int32 → Int32 → Int32 → (Nat → Int32) → (Nat → Int32) → (Nat → Int32) → (Nat → Int32) → (Nat → Int32) → (Nat → Int32) → (Nat → Int32) → (Nat → Int32) → (Nat → Int32) → (Nat → Int32) → (Nat → Int32) → (Nat → Int32) → (Nat → Int32) → (Nat → Int32) → Int32 → Int32 → Int32 → Option (Int32 × Int32 × Int32 × Int32 × Int32 × Int32 × Int32 × Int32 × Int32 × Int32 × Int32 × (Nat → Int32) × (Nat → Int32) × (Nat → Int32) × (Nat → Int32) × (Nat → Int32) × (Nat → Int32) × (Nat → Int32) × (Nat → Int32) × (Nat → Int32) × (Nat → Int32) × (Nat → Int32) × (Nat → Int32) × (Nat → Int32) × (Nat → Int32))} {r : (Int32 × Int32 × Int32 × Int32 × Int32 × Int32 × Int32 × Int32 × Int32 × Int32 × Int32 × (Nat → Int32) × (Nat → Int32) × (Nat → Int32) × (Nat → Int32) × (Nat → Int32) × (Nat → Int32) × (Nat → Int32) × (Nat → Int32) × (Nat → Int32) × (Nat → Int32) × (Nat → Int32) × (Nat → Int32) × (Nat → Int32) × (Nat → Int32))} (C0 : gX p s m args meth c cX9_sumOf 4 (some .int) RX9 g A) (hk8 : ∀ (v_courses : Int32) (v_wide : Int32) (v_hands : Int32) (v_frostsNow : Int32) (v_notFrosts : Int32) (v_gapsNow : Int32) (v_fell : Int32) (v_fellAll : Int32) (v_sheepFirst : Int32) (v_sheepMany : Int32) (v_told : Nat → Int32) (v_moods : Nat → Int32) (v_strongs : Nat → Int32) (v_wall : Nat → Int32) (v_yearNow : Nat → Int32) (v_forceNow : Nat → Int32) (v_holdNow : Nat → Int32) (v_fellOf : Nat → Int32) (v_handAt : Nat → Int32) (v_holdAt : Nat → Int32) (v_fallsAt : Nat → Int32) (v_standAt : Nat → Int32) (v_highAt : Nat → Int32) (v_throughAt : Nat → Int32) (x1 : Int32) (x2 : Int32) (x3 : Int32), k8 v_courses v_wide v_hands v_frostsNow v_notFrosts v_gapsNow v_fell v_fellAll v_sheepFirst v_sheepMany v_told v_moods v_strongs v_wall v_yearNow v_forceNow v_holdNow v_fellOf v_handAt v_holdAt v_fallsAt v_standAt v_highAt v_throughAt x1 x2 x3 = some r → ∀ (H : Heap) (locs : List Loc) (ls : Array Slot), gW g A s (W_m_sumOf g h0 h1 h2 h3 h4 h5 h6 h7 h8 h9 h10 h11 h12 h13 h14 h15 h16 h17 h18 h19 h20 h21 h22 h23 h24 h25 h26 h27 h28 h29 h30 v_courses v_wide v_hands v_jumpTold v_frosts v_gaps v_frostsNow v_notFrosts v_gapsNow v_fell v_fellAll v_sheepFirst v_sheepMany v_seens v_finding v_typed v_texts v_told v_moods v_strongs v_frostYear v_frostForce v_gapYear v_gapColumn v_gapHand v_wall v_yearNow v_forceNow v_holdNow v_fellOf v_handAt v_holdAt v_fallsAt v_standAt v_highAt v_throughAt) H locs → lv_has ls 4 [(0, .ref h0), (1, .int x1), (2, .int x2), (3, .int x3)] → W p l e rm_m_sumOf s m args below meth c H locs 0 0 (gQi below args s A g r.1 (W_m_sumOf g h0 h1 h2 h3 h4 h5 h6 h7 h8 h9 h10 h11 h12 h13 h14 h15 h16 h17 h18 h19 h20 h21 h22 h23 h24 h25 h26 h27 h28 h29 h30 r.2.1 r.2.2.1 r.2.2.2.1 v_jumpTold v_frosts v_gaps r.2.2.2.2.1 r.2.2.2.2.2.1 r.2.2.2.2.2.2.1 r.2.2.2.2.2.2.2.1 r.2.2.2.2.2.2.2.2.1 r.2.2.2.2.2.2.2.2.2.1 r.2.2.2.2.2.2.2.2.2.2.1 v_seens v_finding v_typed v_texts r.2.2.2.2.2.2.2.2.2.2.2.1 r.2.2.2.2.2.2.2.2.2.2.2.2.1 r.2.2.2.2.2.2.2.2.2.2.2.2.2.1 v_frostYear v_frostForce v_gapYear v_gapColumn v_gapHand r.2.2.2.2.2.2.2.2.2.2.2.2.2.2.1 r.2.2.2.2.2.2.2.2.2.2.2.2.2.2.2.1 r.2.2.2.2.2.2.2.2.2.2.2.2.2.2.2.2.1 r.2.2.2.2.2.2.2.2.2.2.2.2.2.2.2.2.2.1 r.2.2.2.2.2.2.2.2.2.2.2.2.2.2.2.2.2.2.1 r.2.2.2.2.2.2.2.2.2.2.2.2.2.2.2.2.2.2.2.1 r.2.2.2.2.2.2.2.2.2.2.2.2.2.2.2.2.2.2.2.2.1 r.2.2.2.2.2.2.2.2.2.2.2.2.2.2.2.2.2.2.2.2.2.1 r.2.2.2.2.2.2.2.2.2.2.2.2.2.2.2.2.2.2.2.2.2.2.1 r.2.2.2.2.2.2.2.2.2.2.2.2.2.2.2.2.2.2.2.2.2.2.2.1 r.2.2.2.2.2.2.2.2.2.2.2.2.2.2.2.2.2.2.2.2.2.2.2.2)) (F0 m 8 ls [])) : ∀ (v_courses : Int32) (v_wide : Int32) (v_hands : Int32) (v_frostsNow : Int32) (v_notFrosts : Int32) (v_gapsNow : Int32) (v_fell : Int32) (v_fellAll : Int32) (v_sheepFirst : Int32) (v_sheepMany : Int32) (v_told : Nat → Int32) (v_moods : Nat → Int32) (v_strongs : Nat → Int32) (v_wall : Nat → Int32) (v_yearNow : Nat → Int32) (v_forceNow : Nat → Int32) (v_holdNow : Nat → Int32) (v_fellOf : Nat → Int32) (v_handAt : Nat → Int32) (v_holdAt : Nat → Int32) (v_fallsAt : Nat → Int32) (v_standAt : Nat → Int32) (v_highAt : Nat → Int32) (v_throughAt : Nat → Int32) (x1 : Int32) (x2 : Int32) (x3 : Int32), f_m_sumOf_N8 v_jumpTold v_frosts v_gaps v_typed v_texts v_frostYear v_frostForce v_gapYear v_gapColumn v_gapHand k8 v_courses v_wide v_hands v_frostsNow v_notFrosts v_gapsNow v_fell v_fellAll v_sheepFirst v_sheepMany v_told v_moods v_strongs v_wall v_yearNow v_forceNow v_holdNow v_fellOf v_handAt v_holdAt v_fallsAt v_standAt v_highAt v_throughAt x1 x2 x3 = some r → ∀ (H : Heap) (locs : List Loc) (ls : Array Slot), gW g A s (W_m_sumOf g h0 h1 h2 h3 h4 h5 h6 h7 h8 h9 h10 h11 h12 h13 h14 h15 h16 h17 h18 h19 h20 h21 h22 h23 h24 h25 h26 h27 h28 h29 h30 v_courses v_wide v_hands v_jumpTold v_frosts v_gaps v_frostsNow v_notFrosts v_gapsNow v_fell v_fellAll v_sheepFirst v_sheepMany v_seens v_finding v_typed v_texts v_told v_moods v_strongs v_frostYear v_frostForce v_gapYear v_gapColumn v_gapHand v_wall v_yearNow v_forceNow v_holdNow v_fellOf v_handAt v_holdAt v_fallsAt v_standAt v_highAt v_throughAt) H locs → lv_has ls 4 [(0, .ref h0), (1, .int x1), (2, .int x2), (3, .int x3)] → W p l e rm_m_sumOf s m args below meth c H locs 0 0 (gQi below args s A g r.1 (W_m_sumOf g h0 h1 h2 h3 h4 h5 h6 h7 h8 h9 h10 h11 h12 h13 h14 h15 h16 h17 h18 h19 h20 h21 h22 h23 h24 h25 h26 h27 h28 h29 h30 r.2.1 r.2.2.1 r.2.2.2.1 v_jumpTold v_frosts v_gaps r.2.2.2.2.1 r.2.2.2.2.2.1 r.2.2.2.2.2.2.1 r.2.2.2.2.2.2.2.1 r.2.2.2.2.2.2.2.2.1 r.2.2.2.2.2.2.2.2.2.1 r.2.2.2.2.2.2.2.2.2.2.1 v_seens v_finding v_typed v_texts r.2.2.2.2.2.2.2.2.2.2.2.1 r.2.2.2.2.2.2.2.2.2.2.2.2.1 r.2.2.2.2.2.2.2.2.2.2.2.2.2.1 v_frostYear v_frostForce v_gapYear v_gapColumn v_gapHand r.2.2.2.2.2.2.2.2.2.2.2.2.2.2.1 r.2.2.2.2.2.2.2.2.2.2.2.2.2.2.2.1 r.2.2.2.2.2.2.2.2.2.2.2.2.2.2.2.2.1 r.2.2.2.2.2.2.2.2.2.2.2.2.2.2.2.2.2.1 r.2.2.2.2.2.2.2.2.2.2.2.2.2.2.2.2.2.2.1 r.2.2.2.2.2.2.2.2.2.2.2.2.2.2.2.2.2.2.2.1 r.2.2.2.2.2.2.2.2.2.2.2.2.2.2.2.2.2.2.2.2.1 r.2.2.2.2.2.2.2.2.2.2.2.2.2.2.2.2.2.2.2.2.2.1 r.2.2.2.2.2.2.2.2.2.2.2.2.2.2.2.2.2.2.2.2.2.2.1 r.2.2.2.2.2.2.2.2.2.2.2.2.2.2.2.2.2.2.2.2.2.2.2.1 r.2.2.2.2.2.2.2.2.2.2.2.2.2.2.2.2.2.2.2.2.2.2.2.2)) (F0 m 8 ls []) := by
  intro v_courses v_wide v_hands v_frostsNow v_notFrosts v_gapsNow v_fell v_fellAll v_sheepFirst v_sheepMany v_told v_moods v_strongs v_wall v_yearNow v_forceNow v_holdNow v_fellOf v_handAt v_holdAt v_fallsAt v_standAt v_highAt v_throughAt x1 x2 x3 hm H locs ls hw hl
  unfold f_m_sumOf_N8 at hm
  obtain ⟨hx, hb, hr, hml, hown, hts, hlocks, hK, hA⟩ := id C0
  refine lv_iload_n hx hb dX9_sumOf_8 rfl (lv_at hl 3 rfl) ?_
  refine lv_bipush (v := 40) hx hb dX9_sumOf_9 (by decide) ?_
  refine lv_icmp_ge (tgt := 38) hx hb dX9_sumOf_11 (by decide) (fun hc => ?_) (fun hc => ?_)
  · have hm := ipos hc hm
    refine lv_iload_n hx hb dX9_sumOf_38 rfl (lv_at hl 1 rfl) ?_
    refine lv_if_ne (tgt := 46) hx hb dX9_sumOf_39 (by decide) (fun hc => ?_) (fun hc => ?_)
    · have hm := ineg hc hm
      refine lv_iload_n hx hb dX9_sumOf_46 rfl (lv_at hl 1 rfl) ?_
      refine lv_iconst (v := 1) hx hb dX9_sumOf_47 (by decide) ?_
      refine lv_icmp_ne (tgt := 58) hx hb dX9_sumOf_48 (by decide) (fun hc => ?_) (fun hc => ?_)
      · have hm := ineg hc hm
        refine lv_aload_n hx hb dX9_sumOf_58 rfl (lv_at hl 0 rfl) ?_
        refine gGet C0 hw flX9_247 0 rfl rfl dX9_sumOf_59 ?_
        have hm := Option.some.inj hm
        subst hm
        exact gRetI C0 hw dX9_sumOf_62
      · have hm := ipos hc hm
        refine lv_aload_n hx hb dX9_sumOf_51 rfl (lv_at hl 0 rfl) ?_
        refine gGet C0 hw flX9_135 0 rfl rfl dX9_sumOf_52 ?_
        refine lv_goto (tgt := 62) hx hb dX9_sumOf_55 (by decide) ?_
        have hm := Option.some.inj hm
        subst hm
        exact gRetI C0 hw dX9_sumOf_62
    · have hm := ipos hc hm
      refine lv_iload_n hx hb dX9_sumOf_42 rfl (lv_at hl 2 rfl) ?_
      refine lv_goto (tgt := 62) hx hb dX9_sumOf_43 (by decide) ?_
      have hm := Option.some.inj hm
      subst hm
      exact gRetI C0 hw dX9_sumOf_62
  · have hm := ineg hc hm
    refine lv_iload_n hx hb dX9_sumOf_14 rfl (lv_at hl 2 rfl) ?_
    refine lv_aload_n hx hb dX9_sumOf_15 rfl (lv_at hl 0 rfl) ?_
    refine gGet C0 hw flX9_16 0 rfl rfl dX9_sumOf_16 ?_
    refine lv_iload_n hx hb dX9_sumOf_19 rfl (lv_at hl 3 rfl) ?_
    obtain ⟨hin, hm⟩ := gdE hm
    have hin := inbE hin
    refine gAldI C0 hw 3 rfl hin dX9_sumOf_20 ?_
    refine lv_iconst (v := -1) hx hb dX9_sumOf_21 (by decide) ?_
    refine lv_icmp_ne (tgt := 29) hx hb dX9_sumOf_22 (by decide) (fun hc => ?_) (fun hc => ?_)
    · have hm := ineg hc hm
      refine lv_iconst (v := 1) hx hb dX9_sumOf_29 (by decide) ?_
      exact n_m_sumOf_N30 C0 hk8 _ _ _ _ _ _ _ _ _ _ _ _ _ _ _ _ _ _ _ _ _ _ _ _ _ _ _ _ hm _ _ _ hw (lv_sub hl [0, 1, 3] rfl)
    · have hm := ipos hc hm
      refine lv_iconst (v := 0) hx hb dX9_sumOf_25 (by decide) ?_
      refine lv_goto (tgt := 30) hx hb dX9_sumOf_26 (by decide) ?_
      exact n_m_sumOf_N30 C0 hk8 _ _ _ _ _ _ _ _ _ _ _ _ _ _ _ _ _ _ _ _ _ _ _ _ _ _ _ _ hm _ _ _ hw (lv_sub hl [0, 1, 3] rfl)
set_option maxHeartbeats 1000000 in
set_option maxRecDepth 100000 in
theorem l_m_sumOf_N8 {p : Program} {l : Launch} {e : Env} {s : State} {m : MethodId} {args : Array Value} {below : List Frame} {meth : Method} {c : Code} {A : Nat → Prop} {g : gG} {h0 h1 h2 h3 h4 h5 h6 h7 h8 h9 h10 h11 h12 h13 h14 h15 h16 h17 h18 h19 h20 h21 h22 h23 h24 h25 h26 h27 h28 h29 h30 : Nat} {v_jumpTold : Int32} {v_frosts : Int32} {v_gaps : Int32} {v_seens : Int32} {v_finding : Int32} {v_typed : Nat → Int32} {v_texts : Nat → Int32} {v_frostYear : Nat → Int32} {v_frostForce : Nat → Int32} {v_gapYear : Nat → Int32} {v_gapColumn : Nat → Int32} {v_gapHand : Nat → Int32} {r : (Int32 × Int32 × Int32 × Int32 × Int32 × Int32 × Int32 × Int32 × Int32 × Int32 × Int32 × (Nat → Int32) × (Nat → Int32) × (Nat → Int32) × (Nat → Int32) × (Nat → Int32) × (Nat → Int32) × (Nat → Int32) × (Nat → Int32) × (Nat → Int32) × (Nat → Int32) × (Nat → Int32) × (Nat → Int32) × (Nat → Int32) × (Nat → Int32))} (C0 : gX p s m args meth c cX9_sumOf 4 (some .int) RX9 g A) : ∀ n : Nat, ∀ (v_courses : Int32) (v_wide : Int32) (v_hands : Int32) (v_frostsNow : Int32) (v_notFrosts : Int32) (v_gapsNow : Int32) (v_fell : Int32) (v_fellAll : Int32) (v_sheepFirst : Int32) (v_sheepMany : Int32) (v_told : Nat → Int32) (v_moods : Nat → Int32) (v_strongs : Nat → Int32) (v_wall : Nat → Int32) (v_yearNow : Nat → Int32) (v_forceNow : Nat → Int32) (v_holdNow : Nat → Int32) (v_fellOf : Nat → Int32) (v_handAt : Nat → Int32) (v_holdAt : Nat → Int32) (v_fallsAt : Nat → Int32) (v_standAt : Nat → Int32) (v_highAt : Nat → Int32) (v_throughAt : Nat → Int32) (x1 : Int32) (x2 : Int32) (x3 : Int32), iter (fun _ _ _ _ _ _ _ _ _ _ _ _ _ _ _ _ _ _ _ _ _ _ _ _ _ _ _ => none) (f_m_sumOf_N8 v_jumpTold v_frosts v_gaps v_typed v_texts v_frostYear v_frostForce v_gapYear v_gapColumn v_gapHand) n v_courses v_wide v_hands v_frostsNow v_notFrosts v_gapsNow v_fell v_fellAll v_sheepFirst v_sheepMany v_told v_moods v_strongs v_wall v_yearNow v_forceNow v_holdNow v_fellOf v_handAt v_holdAt v_fallsAt v_standAt v_highAt v_throughAt x1 x2 x3 = some r → ∀ (H : Heap) (locs : List Loc) (ls : Array Slot), gW g A s (W_m_sumOf g h0 h1 h2 h3 h4 h5 h6 h7 h8 h9 h10 h11 h12 h13 h14 h15 h16 h17 h18 h19 h20 h21 h22 h23 h24 h25 h26 h27 h28 h29 h30 v_courses v_wide v_hands v_jumpTold v_frosts v_gaps v_frostsNow v_notFrosts v_gapsNow v_fell v_fellAll v_sheepFirst v_sheepMany v_seens v_finding v_typed v_texts v_told v_moods v_strongs v_frostYear v_frostForce v_gapYear v_gapColumn v_gapHand v_wall v_yearNow v_forceNow v_holdNow v_fellOf v_handAt v_holdAt v_fallsAt v_standAt v_highAt v_throughAt) H locs → lv_has ls 4 [(0, .ref h0), (1, .int x1), (2, .int x2), (3, .int x3)] → W p l e rm_m_sumOf s m args below meth c H locs 0 0 (gQi below args s A g r.1 (W_m_sumOf g h0 h1 h2 h3 h4 h5 h6 h7 h8 h9 h10 h11 h12 h13 h14 h15 h16 h17 h18 h19 h20 h21 h22 h23 h24 h25 h26 h27 h28 h29 h30 r.2.1 r.2.2.1 r.2.2.2.1 v_jumpTold v_frosts v_gaps r.2.2.2.2.1 r.2.2.2.2.2.1 r.2.2.2.2.2.2.1 r.2.2.2.2.2.2.2.1 r.2.2.2.2.2.2.2.2.1 r.2.2.2.2.2.2.2.2.2.1 r.2.2.2.2.2.2.2.2.2.2.1 v_seens v_finding v_typed v_texts r.2.2.2.2.2.2.2.2.2.2.2.1 r.2.2.2.2.2.2.2.2.2.2.2.2.1 r.2.2.2.2.2.2.2.2.2.2.2.2.2.1 v_frostYear v_frostForce v_gapYear v_gapColumn v_gapHand r.2.2.2.2.2.2.2.2.2.2.2.2.2.2.1 r.2.2.2.2.2.2.2.2.2.2.2.2.2.2.2.1 r.2.2.2.2.2.2.2.2.2.2.2.2.2.2.2.2.1 r.2.2.2.2.2.2.2.2.2.2.2.2.2.2.2.2.2.1 r.2.2.2.2.2.2.2.2.2.2.2.2.2.2.2.2.2.2.1 r.2.2.2.2.2.2.2.2.2.2.2.2.2.2.2.2.2.2.2.1 r.2.2.2.2.2.2.2.2.2.2.2.2.2.2.2.2.2.2.2.2.1 r.2.2.2.2.2.2.2.2.2.2.2.2.2.2.2.2.2.2.2.2.2.1 r.2.2.2.2.2.2.2.2.2.2.2.2.2.2.2.2.2.2.2.2.2.2.1 r.2.2.2.2.2.2.2.2.2.2.2.2.2.2.2.2.2.2.2.2.2.2.2.1 r.2.2.2.2.2.2.2.2.2.2.2.2.2.2.2.2.2.2.2.2.2.2.2.2)) (F0 m 8 ls []) := by
  intro n
  induction n with
  | zero =>
    intro v_courses v_wide v_hands v_frostsNow v_notFrosts v_gapsNow v_fell v_fellAll v_sheepFirst v_sheepMany v_told v_moods v_strongs v_wall v_yearNow v_forceNow v_holdNow v_fellOf v_handAt v_holdAt v_fallsAt v_standAt v_highAt v_throughAt x1 x2 x3 hm
    cases hm
  | succ n ih =>
    exact n_m_sumOf_N8 C0  ih
set_option maxHeartbeats 1000000 in
set_option maxRecDepth 100000 in
theorem c_m_sumOf (l : Launch) (g : gG) (sz : Nat) (h0 h1 h2 h3 h4 h5 h6 h7 h8 h9 h10 h11 h12 h13 h14 h15 h16 h17 h18 h19 h20 h21 h22 h23 h24 h25 h26 h27 h28 h29 h30 : Nat) (v_courses : Int32) (v_wide : Int32) (v_hands : Int32) (v_jumpTold : Int32) (v_frosts : Int32) (v_gaps : Int32) (v_frostsNow : Int32) (v_notFrosts : Int32) (v_gapsNow : Int32) (v_fell : Int32) (v_fellAll : Int32) (v_sheepFirst : Int32) (v_sheepMany : Int32) (v_seens : Int32) (v_finding : Int32) (v_typed : Nat → Int32) (v_texts : Nat → Int32) (v_told : Nat → Int32) (v_moods : Nat → Int32) (v_strongs : Nat → Int32) (v_frostYear : Nat → Int32) (v_frostForce : Nat → Int32) (v_gapYear : Nat → Int32) (v_gapColumn : Nat → Int32) (v_gapHand : Nat → Int32) (v_wall : Nat → Int32) (v_yearNow : Nat → Int32) (v_forceNow : Nat → Int32) (v_holdNow : Nat → Int32) (v_fellOf : Nat → Int32) (v_handAt : Nat → Int32) (v_holdAt : Nat → Int32) (v_fallsAt : Nat → Int32) (v_standAt : Nat → Int32) (v_highAt : Nat → Int32) (v_throughAt : Nat → Int32) (a0 : Int32) (r : (Int32 × Int32 × Int32 × Int32 × Int32 × Int32 × Int32 × Int32 × Int32 × Int32 × Int32 × (Nat → Int32) × (Nat → Int32) × (Nat → Int32) × (Nat → Int32) × (Nat → Int32) × (Nat → Int32) × (Nat → Int32) × (Nat → Int32) × (Nat → Int32) × (Nat → Int32) × (Nat → Int32) × (Nat → Int32) × (Nat → Int32) × (Nat → Int32))) (hm : f_m_sumOf v_courses v_wide v_hands v_jumpTold v_frosts v_gaps v_frostsNow v_notFrosts v_gapsNow v_fell v_fellAll v_sheepFirst v_sheepMany v_typed v_texts v_told v_moods v_strongs v_frostYear v_frostForce v_gapYear v_gapColumn v_gapHand v_wall v_yearNow v_forceNow v_holdNow v_fellOf v_handAt v_holdAt v_fallsAt v_standAt v_highAt v_throughAt a0 = some r) : gMi l yX9_sumOf cX9_sumOf 4 (some .int) rm_m_sumOf g sz [.ref h0, .int a0] (W_m_sumOf g h0 h1 h2 h3 h4 h5 h6 h7 h8 h9 h10 h11 h12 h13 h14 h15 h16 h17 h18 h19 h20 h21 h22 h23 h24 h25 h26 h27 h28 h29 h30 v_courses v_wide v_hands v_jumpTold v_frosts v_gaps v_frostsNow v_notFrosts v_gapsNow v_fell v_fellAll v_sheepFirst v_sheepMany v_seens v_finding v_typed v_texts v_told v_moods v_strongs v_frostYear v_frostForce v_gapYear v_gapColumn v_gapHand v_wall v_yearNow v_forceNow v_holdNow v_fellOf v_handAt v_holdAt v_fallsAt v_standAt v_highAt v_throughAt) r.1 (W_m_sumOf g h0 h1 h2 h3 h4 h5 h6 h7 h8 h9 h10 h11 h12 h13 h14 h15 h16 h17 h18 h19 h20 h21 h22 h23 h24 h25 h26 h27 h28 h29 h30 r.2.1 r.2.2.1 r.2.2.2.1 v_jumpTold v_frosts v_gaps r.2.2.2.2.1 r.2.2.2.2.2.1 r.2.2.2.2.2.2.1 r.2.2.2.2.2.2.2.1 r.2.2.2.2.2.2.2.2.1 r.2.2.2.2.2.2.2.2.2.1 r.2.2.2.2.2.2.2.2.2.2.1 v_seens v_finding v_typed v_texts r.2.2.2.2.2.2.2.2.2.2.2.1 r.2.2.2.2.2.2.2.2.2.2.2.2.1 r.2.2.2.2.2.2.2.2.2.2.2.2.2.1 v_frostYear v_frostForce v_gapYear v_gapColumn v_gapHand r.2.2.2.2.2.2.2.2.2.2.2.2.2.2.1 r.2.2.2.2.2.2.2.2.2.2.2.2.2.2.2.1 r.2.2.2.2.2.2.2.2.2.2.2.2.2.2.2.2.1 r.2.2.2.2.2.2.2.2.2.2.2.2.2.2.2.2.2.1 r.2.2.2.2.2.2.2.2.2.2.2.2.2.2.2.2.2.2.1 r.2.2.2.2.2.2.2.2.2.2.2.2.2.2.2.2.2.2.2.1 r.2.2.2.2.2.2.2.2.2.2.2.2.2.2.2.2.2.2.2.2.1 r.2.2.2.2.2.2.2.2.2.2.2.2.2.2.2.2.2.2.2.2.2.1 r.2.2.2.2.2.2.2.2.2.2.2.2.2.2.2.2.2.2.2.2.2.2.1 r.2.2.2.2.2.2.2.2.2.2.2.2.2.2.2.2.2.2.2.2.2.2.2.1 r.2.2.2.2.2.2.2.2.2.2.2.2.2.2.2.2.2.2.2.2.2.2.2.2) := by
  unfold f_m_sumOf at hm
  refine gEnterI (by decide) (Nat.le_of_ble_eq_true rfl) (fun p e s m below meth c A C0 H locs hw ls hl => ?_)
  obtain ⟨hx, hb, hr, hml, hown, hts, hlocks, hK, hA⟩ := id C0
  have C0 : gX p s m [.ref h0, .int a0].toArray meth c cX9_sumOf 4 (some .int) RX9 g A := C0
  have hl : lv_has ls 4 [(0, .ref h0), (1, .int a0)] := hl
  refine lv_aload_n hx hb dX9_sumOf_0 rfl (lv_at hl 0 rfl) ?_
  obtain ⟨o1, ho1, hm⟩ := bindE hm
  refine gCallv (ws' := (W_m_sumOf g h0 h1 h2 h3 h4 h5 h6 h7 h8 h9 h10 h11 h12 h13 h14 h15 h16 h17 h18 h19 h20 h21 h22 h23 h24 h25 h26 h27 h28 h29 h30 o1.1 o1.2.1 o1.2.2.1 v_jumpTold v_frosts v_gaps o1.2.2.2.1 o1.2.2.2.2.1 o1.2.2.2.2.2.1 o1.2.2.2.2.2.2.1 o1.2.2.2.2.2.2.2.1 o1.2.2.2.2.2.2.2.2.1 o1.2.2.2.2.2.2.2.2.2.1 v_seens v_finding v_typed v_texts o1.2.2.2.2.2.2.2.2.2.2.1 o1.2.2.2.2.2.2.2.2.2.2.2.1 o1.2.2.2.2.2.2.2.2.2.2.2.2.1 v_frostYear v_frostForce v_gapYear v_gapColumn v_gapHand o1.2.2.2.2.2.2.2.2.2.2.2.2.2.1 o1.2.2.2.2.2.2.2.2.2.2.2.2.2.2.1 o1.2.2.2.2.2.2.2.2.2.2.2.2.2.2.2.1 o1.2.2.2.2.2.2.2.2.2.2.2.2.2.2.2.2.1 o1.2.2.2.2.2.2.2.2.2.2.2.2.2.2.2.2.2.1 o1.2.2.2.2.2.2.2.2.2.2.2.2.2.2.2.2.2.2.1 o1.2.2.2.2.2.2.2.2.2.2.2.2.2.2.2.2.2.2.2.1 o1.2.2.2.2.2.2.2.2.2.2.2.2.2.2.2.2.2.2.2.2.1 o1.2.2.2.2.2.2.2.2.2.2.2.2.2.2.2.2.2.2.2.2.2.1 o1.2.2.2.2.2.2.2.2.2.2.2.2.2.2.2.2.2.2.2.2.2.2.1 o1.2.2.2.2.2.2.2.2.2.2.2.2.2.2.2.2.2.2.2.2.2.2.2)) C0 hw (gRunV (As := []) (rest := []) C0 hw lkX9_262 (c_m_runsTold l g H.size h0 h1 h2 h3 h4 h5 h6 h7 h8 h9 h10 h11 h12 h13 h14 h15 h16 h17 h18 h19 h20 h21 h22 h23 h24 h25 h26 h27 h28 h29 h30 v_courses v_wide v_hands v_jumpTold v_frosts v_gaps v_frostsNow v_notFrosts v_gapsNow v_fell v_fellAll v_sheepFirst v_sheepMany v_seens v_finding v_typed v_texts v_told v_moods v_strongs v_frostYear v_frostForce v_gapYear v_gapColumn v_gapHand v_wall v_yearNow v_forceNow v_holdNow v_fellOf v_handAt v_holdAt v_fallsAt v_standAt v_highAt v_throughAt o1 ho1) ⟨rfl, rfl⟩ ⟨Nat.le_of_ble_eq_true rfl, Nat.le_of_ble_eq_true rfl⟩ [0, 1, 2, 3, 4, 5, 6, 7, 8, 9, 10, 11, 12, 13, 14, 15, 16, 17, 18, 19, 20, 21] (by decide) rfl 0 rfl rfl rfl hl.1 rfl (Nat.le_of_ble_eq_true rfl) dX9_sumOf_1) [0, 1, 2, 3, 4, 5, 6, 7, 8, 9, 10, 11, 12, 13, 14, 15, 16, 17, 18, 19, 20, 21] [] rfl rfl trivial [h0, h1, h2, h3, h4, h5, h6, h7, h8, h9, h10, h11, h12, h13, h14, h15, h16, h17, h18, h19, h20, h21] rfl rfl 22 rfl (by decide +kernel) (fun H locs hw => ?_)
  refine lv_iconst (v := 0) hx hb dX9_sumOf_4 (by decide) ?_
  refine lv_istore_n (lv' := [(2, .int (0 : Int32)), (0, .ref h0), (1, .int a0)]) hx hb dX9_sumOf_5 rfl hl (by decide) rfl (fun ls hl => ?_)
  refine lv_iconst (v := 0) hx hb dX9_sumOf_6 (by decide) ?_
  refine lv_istore_n (lv' := [(3, .int (0 : Int32)), (2, .int (0 : Int32)), (0, .ref h0), (1, .int a0)]) hx hb dX9_sumOf_7 rfl hl (by decide) rfl (fun ls hl => ?_)
  exact l_m_sumOf_N8 C0  1000 _ _ _ _ _ _ _ _ _ _ _ _ _ _ _ _ _ _ _ _ _ _ _ _ _ _ _ hm _ _ _ hw (lv_sub hl [2, 3, 1, 0] rfl)

-- WallHandsModel.count(I)I
abbrev W_m_count (g : gG) (h0 h1 h2 h3 h4 h5 h6 h7 h8 h9 h10 h11 h12 h13 h14 h15 h16 h17 h18 h19 h20 h21 h22 h23 h24 h25 h26 h27 h28 h29 h30 : Nat) (v_courses : Int32) (v_wide : Int32) (v_hands : Int32) (v_jumpTold : Int32) (v_frosts : Int32) (v_gaps : Int32) (v_frostsNow : Int32) (v_notFrosts : Int32) (v_gapsNow : Int32) (v_fell : Int32) (v_fellAll : Int32) (v_sheepFirst : Int32) (v_sheepMany : Int32) (v_seens : Int32) (v_finding : Int32) (v_typed : Nat → Int32) (v_texts : Nat → Int32) (v_told : Nat → Int32) (v_moods : Nat → Int32) (v_strongs : Nat → Int32) (v_frostYear : Nat → Int32) (v_frostForce : Nat → Int32) (v_gapYear : Nat → Int32) (v_gapColumn : Nat → Int32) (v_gapHand : Nat → Int32) (v_wall : Nat → Int32) (v_yearNow : Nat → Int32) (v_forceNow : Nat → Int32) (v_holdNow : Nat → Int32) (v_fellOf : Nat → Int32) (v_handAt : Nat → Int32) (v_holdAt : Nat → Int32) (v_fallsAt : Nat → Int32) (v_standAt : Nat → Int32) (v_highAt : Nat → Int32) (v_throughAt : Nat → Int32) : va_W := [(h0, .inr (9, [.ref h1, .ref h2, .int v_courses, .int v_wide, .ref h3, .int v_hands, .ref h4, .ref h5, .int v_jumpTold, .int v_frosts, .ref h6, .ref h7, .int v_gaps, .ref h8, .ref h9, .ref h10, .ref h11, .int v_frostsNow, .ref h12, .ref h13, .int v_notFrosts, .int v_gapsNow, .ref h14, .int v_fell, .int v_fellAll, .ref h15, .ref h16, .ref h17, .ref h18, .ref h19, .ref h20, .ref h21, .int v_sheepFirst, .int v_sheepMany, .int v_seens, .ref h22, .ref h23, .ref h24, .ref h25, .ref h26, .ref h27, .ref h28, .ref h29, .ref h30, .int v_finding])), (h1, .inl (gI g, 2, .inl v_typed)), (h2, .inl (gI g, 88, .inl v_texts)), (h3, .inl (gI g, 48, .inl v_told)), (h4, .inl (gI g, 9, .inl v_moods)), (h5, .inl (gI g, 9, .inl v_strongs)), (h6, .inl (gI g, 6, .inl v_frostYear)), (h7, .inl (gI g, 6, .inl v_frostForce)), (h8, .inl (gI g, 7, .inl v_gapYear)), (h9, .inl (gI g, 7, .inl v_gapColumn)), (h10, .inl (gI g, 7, .inl v_gapHand)), (h11, .inl (gI g, 40, .inl v_wall)), (h12, .inl (gI g, 6, .inl v_yearNow)), (h13, .inl (gI g, 6, .inl v_forceNow)), (h14, .inl (gI g, 40, .inl v_holdNow)), (h15, .inl (gI g, 8, .inl v_fellOf)), (h16, .inl (gI g, 800, .inl v_handAt)), (h17, .inl (gI g, 800, .inl v_holdAt)), (h18, .inl (gI g, 20, .inl v_fallsAt)), (h19, .inl (gI g, 20, .inl v_standAt)), (h20, .inl (gI g, 160, .inl v_highAt)), (h21, .inl (gZ g, 160, .inl v_throughAt))]

abbrev rm_m_count : Room := { frames := 9, cells := 0, slots := 0, locals := 205 }

set_option maxHeartbeats 1000000 in
set_option maxRecDepth 100000 in
theorem c_m_count (l : Launch) (g : gG) (sz : Nat) (h0 h1 h2 h3 h4 h5 h6 h7 h8 h9 h10 h11 h12 h13 h14 h15 h16 h17 h18 h19 h20 h21 h22 h23 h24 h25 h26 h27 h28 h29 h30 : Nat) (v_courses : Int32) (v_wide : Int32) (v_hands : Int32) (v_jumpTold : Int32) (v_frosts : Int32) (v_gaps : Int32) (v_frostsNow : Int32) (v_notFrosts : Int32) (v_gapsNow : Int32) (v_fell : Int32) (v_fellAll : Int32) (v_sheepFirst : Int32) (v_sheepMany : Int32) (v_seens : Int32) (v_finding : Int32) (v_typed : Nat → Int32) (v_texts : Nat → Int32) (v_told : Nat → Int32) (v_moods : Nat → Int32) (v_strongs : Nat → Int32) (v_frostYear : Nat → Int32) (v_frostForce : Nat → Int32) (v_gapYear : Nat → Int32) (v_gapColumn : Nat → Int32) (v_gapHand : Nat → Int32) (v_wall : Nat → Int32) (v_yearNow : Nat → Int32) (v_forceNow : Nat → Int32) (v_holdNow : Nat → Int32) (v_fellOf : Nat → Int32) (v_handAt : Nat → Int32) (v_holdAt : Nat → Int32) (v_fallsAt : Nat → Int32) (v_standAt : Nat → Int32) (v_highAt : Nat → Int32) (v_throughAt : Nat → Int32) (a0 : Int32) (r : (Int32 × Int32 × Int32 × Int32 × Int32 × Int32 × Int32 × Int32 × Int32 × Int32 × Int32 × (Nat → Int32) × (Nat → Int32) × (Nat → Int32) × (Nat → Int32) × (Nat → Int32) × (Nat → Int32) × (Nat → Int32) × (Nat → Int32) × (Nat → Int32) × (Nat → Int32) × (Nat → Int32) × (Nat → Int32) × (Nat → Int32) × (Nat → Int32))) (hm : f_m_count v_courses v_wide v_hands v_jumpTold v_frosts v_gaps v_frostsNow v_notFrosts v_gapsNow v_fell v_fellAll v_sheepFirst v_sheepMany v_seens v_finding v_typed v_texts v_told v_moods v_strongs v_frostYear v_frostForce v_gapYear v_gapColumn v_gapHand v_wall v_yearNow v_forceNow v_holdNow v_fellOf v_handAt v_holdAt v_fallsAt v_standAt v_highAt v_throughAt a0 = some r) : gMi l yX9_count cX9_count 2 (some .int) rm_m_count g sz [.ref h0, .int a0] (W_m_count g h0 h1 h2 h3 h4 h5 h6 h7 h8 h9 h10 h11 h12 h13 h14 h15 h16 h17 h18 h19 h20 h21 h22 h23 h24 h25 h26 h27 h28 h29 h30 v_courses v_wide v_hands v_jumpTold v_frosts v_gaps v_frostsNow v_notFrosts v_gapsNow v_fell v_fellAll v_sheepFirst v_sheepMany v_seens v_finding v_typed v_texts v_told v_moods v_strongs v_frostYear v_frostForce v_gapYear v_gapColumn v_gapHand v_wall v_yearNow v_forceNow v_holdNow v_fellOf v_handAt v_holdAt v_fallsAt v_standAt v_highAt v_throughAt) r.1 (W_m_count g h0 h1 h2 h3 h4 h5 h6 h7 h8 h9 h10 h11 h12 h13 h14 h15 h16 h17 h18 h19 h20 h21 h22 h23 h24 h25 h26 h27 h28 h29 h30 r.2.1 r.2.2.1 r.2.2.2.1 v_jumpTold v_frosts v_gaps r.2.2.2.2.1 r.2.2.2.2.2.1 r.2.2.2.2.2.2.1 r.2.2.2.2.2.2.2.1 r.2.2.2.2.2.2.2.2.1 r.2.2.2.2.2.2.2.2.2.1 r.2.2.2.2.2.2.2.2.2.2.1 v_seens v_finding v_typed v_texts r.2.2.2.2.2.2.2.2.2.2.2.1 r.2.2.2.2.2.2.2.2.2.2.2.2.1 r.2.2.2.2.2.2.2.2.2.2.2.2.2.1 v_frostYear v_frostForce v_gapYear v_gapColumn v_gapHand r.2.2.2.2.2.2.2.2.2.2.2.2.2.2.1 r.2.2.2.2.2.2.2.2.2.2.2.2.2.2.2.1 r.2.2.2.2.2.2.2.2.2.2.2.2.2.2.2.2.1 r.2.2.2.2.2.2.2.2.2.2.2.2.2.2.2.2.2.1 r.2.2.2.2.2.2.2.2.2.2.2.2.2.2.2.2.2.2.1 r.2.2.2.2.2.2.2.2.2.2.2.2.2.2.2.2.2.2.2.1 r.2.2.2.2.2.2.2.2.2.2.2.2.2.2.2.2.2.2.2.2.1 r.2.2.2.2.2.2.2.2.2.2.2.2.2.2.2.2.2.2.2.2.2.1 r.2.2.2.2.2.2.2.2.2.2.2.2.2.2.2.2.2.2.2.2.2.2.1 r.2.2.2.2.2.2.2.2.2.2.2.2.2.2.2.2.2.2.2.2.2.2.2.1 r.2.2.2.2.2.2.2.2.2.2.2.2.2.2.2.2.2.2.2.2.2.2.2.2) := by
  unfold f_m_count at hm
  refine gEnterI (by decide) (Nat.le_of_ble_eq_true rfl) (fun p e s m below meth c A C0 H locs hw ls hl => ?_)
  obtain ⟨hx, hb, hr, hml, hown, hts, hlocks, hK, hA⟩ := id C0
  have C0 : gX p s m [.ref h0, .int a0].toArray meth c cX9_count 2 (some .int) RX9 g A := C0
  have hl : lv_has ls 2 [(0, .ref h0), (1, .int a0)] := hl
  refine lv_iload_n hx hb dX9_count_0 rfl (lv_at hl 1 rfl) ?_
  by_cases hc0 : a0 = (0 : Int32)
  · have hm := ipos hc0 hm
    refine gSw (tgt := 52) (off := 51) C0 hc0 dX9_count_1 ⟨by decide, by decide, by decide⟩ ?_
    refine lv_aload_n hx hb dX9_count_52 rfl (lv_at hl 0 rfl) ?_
    refine lv_iload_n hx hb dX9_count_53 rfl (lv_at hl 1 rfl) ?_
    obtain ⟨o54, ho54, hm⟩ := bindE hm
    refine gCalli (ws' := (W_m_count g h0 h1 h2 h3 h4 h5 h6 h7 h8 h9 h10 h11 h12 h13 h14 h15 h16 h17 h18 h19 h20 h21 h22 h23 h24 h25 h26 h27 h28 h29 h30 o54.2.1 o54.2.2.1 o54.2.2.2.1 v_jumpTold v_frosts v_gaps o54.2.2.2.2.1 o54.2.2.2.2.2.1 o54.2.2.2.2.2.2.1 o54.2.2.2.2.2.2.2.1 o54.2.2.2.2.2.2.2.2.1 o54.2.2.2.2.2.2.2.2.2.1 o54.2.2.2.2.2.2.2.2.2.2.1 v_seens v_finding v_typed v_texts o54.2.2.2.2.2.2.2.2.2.2.2.1 o54.2.2.2.2.2.2.2.2.2.2.2.2.1 o54.2.2.2.2.2.2.2.2.2.2.2.2.2.1 v_frostYear v_frostForce v_gapYear v_gapColumn v_gapHand o54.2.2.2.2.2.2.2.2.2.2.2.2.2.2.1 o54.2.2.2.2.2.2.2.2.2.2.2.2.2.2.2.1 o54.2.2.2.2.2.2.2.2.2.2.2.2.2.2.2.2.1 o54.2.2.2.2.2.2.2.2.2.2.2.2.2.2.2.2.2.1 o54.2.2.2.2.2.2.2.2.2.2.2.2.2.2.2.2.2.2.1 o54.2.2.2.2.2.2.2.2.2.2.2.2.2.2.2.2.2.2.2.1 o54.2.2.2.2.2.2.2.2.2.2.2.2.2.2.2.2.2.2.2.2.1 o54.2.2.2.2.2.2.2.2.2.2.2.2.2.2.2.2.2.2.2.2.2.1 o54.2.2.2.2.2.2.2.2.2.2.2.2.2.2.2.2.2.2.2.2.2.2.1 o54.2.2.2.2.2.2.2.2.2.2.2.2.2.2.2.2.2.2.2.2.2.2.2.1 o54.2.2.2.2.2.2.2.2.2.2.2.2.2.2.2.2.2.2.2.2.2.2.2.2)) C0 hw (gRunV (As := [.int a0]) (rest := []) C0 hw lkX9_351 (c_m_sumOf l g H.size h0 h1 h2 h3 h4 h5 h6 h7 h8 h9 h10 h11 h12 h13 h14 h15 h16 h17 h18 h19 h20 h21 h22 h23 h24 h25 h26 h27 h28 h29 h30 v_courses v_wide v_hands v_jumpTold v_frosts v_gaps v_frostsNow v_notFrosts v_gapsNow v_fell v_fellAll v_sheepFirst v_sheepMany v_seens v_finding v_typed v_texts v_told v_moods v_strongs v_frostYear v_frostForce v_gapYear v_gapColumn v_gapHand v_wall v_yearNow v_forceNow v_holdNow v_fellOf v_handAt v_holdAt v_fallsAt v_standAt v_highAt v_throughAt a0 o54 ho54) ⟨rfl, rfl⟩ ⟨Nat.le_of_ble_eq_true rfl, Nat.le_of_ble_eq_true rfl⟩ [0, 1, 2, 3, 4, 5, 6, 7, 8, 9, 10, 11, 12, 13, 14, 15, 16, 17, 18, 19, 20, 21] (by decide) rfl 0 rfl rfl rfl hl.1 rfl (Nat.le_of_ble_eq_true rfl) dX9_count_54) [0, 1, 2, 3, 4, 5, 6, 7, 8, 9, 10, 11, 12, 13, 14, 15, 16, 17, 18, 19, 20, 21] [] rfl rfl trivial [h0, h1, h2, h3, h4, h5, h6, h7, h8, h9, h10, h11, h12, h13, h14, h15, h16, h17, h18, h19, h20, h21] rfl rfl 22 rfl (by decide +kernel) (fun H locs hw => ?_)
    have hm := Option.some.inj hm
    subst hm
    exact gRetI C0 hw dX9_count_57
  have hm := ineg hc0 hm
  by_cases hc1 : a0 = (1 : Int32)
  · have hm := ipos hc1 hm
    refine gSw (tgt := 52) (off := 51) C0 hc1 dX9_count_1 ⟨by decide, by decide, by decide⟩ ?_
    refine lv_aload_n hx hb dX9_count_52 rfl (lv_at hl 0 rfl) ?_
    refine lv_iload_n hx hb dX9_count_53 rfl (lv_at hl 1 rfl) ?_
    obtain ⟨o54, ho54, hm⟩ := bindE hm
    refine gCalli (ws' := (W_m_count g h0 h1 h2 h3 h4 h5 h6 h7 h8 h9 h10 h11 h12 h13 h14 h15 h16 h17 h18 h19 h20 h21 h22 h23 h24 h25 h26 h27 h28 h29 h30 o54.2.1 o54.2.2.1 o54.2.2.2.1 v_jumpTold v_frosts v_gaps o54.2.2.2.2.1 o54.2.2.2.2.2.1 o54.2.2.2.2.2.2.1 o54.2.2.2.2.2.2.2.1 o54.2.2.2.2.2.2.2.2.1 o54.2.2.2.2.2.2.2.2.2.1 o54.2.2.2.2.2.2.2.2.2.2.1 v_seens v_finding v_typed v_texts o54.2.2.2.2.2.2.2.2.2.2.2.1 o54.2.2.2.2.2.2.2.2.2.2.2.2.1 o54.2.2.2.2.2.2.2.2.2.2.2.2.2.1 v_frostYear v_frostForce v_gapYear v_gapColumn v_gapHand o54.2.2.2.2.2.2.2.2.2.2.2.2.2.2.1 o54.2.2.2.2.2.2.2.2.2.2.2.2.2.2.2.1 o54.2.2.2.2.2.2.2.2.2.2.2.2.2.2.2.2.1 o54.2.2.2.2.2.2.2.2.2.2.2.2.2.2.2.2.2.1 o54.2.2.2.2.2.2.2.2.2.2.2.2.2.2.2.2.2.2.1 o54.2.2.2.2.2.2.2.2.2.2.2.2.2.2.2.2.2.2.2.1 o54.2.2.2.2.2.2.2.2.2.2.2.2.2.2.2.2.2.2.2.2.1 o54.2.2.2.2.2.2.2.2.2.2.2.2.2.2.2.2.2.2.2.2.2.1 o54.2.2.2.2.2.2.2.2.2.2.2.2.2.2.2.2.2.2.2.2.2.2.1 o54.2.2.2.2.2.2.2.2.2.2.2.2.2.2.2.2.2.2.2.2.2.2.2.1 o54.2.2.2.2.2.2.2.2.2.2.2.2.2.2.2.2.2.2.2.2.2.2.2.2)) C0 hw (gRunV (As := [.int a0]) (rest := []) C0 hw lkX9_351 (c_m_sumOf l g H.size h0 h1 h2 h3 h4 h5 h6 h7 h8 h9 h10 h11 h12 h13 h14 h15 h16 h17 h18 h19 h20 h21 h22 h23 h24 h25 h26 h27 h28 h29 h30 v_courses v_wide v_hands v_jumpTold v_frosts v_gaps v_frostsNow v_notFrosts v_gapsNow v_fell v_fellAll v_sheepFirst v_sheepMany v_seens v_finding v_typed v_texts v_told v_moods v_strongs v_frostYear v_frostForce v_gapYear v_gapColumn v_gapHand v_wall v_yearNow v_forceNow v_holdNow v_fellOf v_handAt v_holdAt v_fallsAt v_standAt v_highAt v_throughAt a0 o54 ho54) ⟨rfl, rfl⟩ ⟨Nat.le_of_ble_eq_true rfl, Nat.le_of_ble_eq_true rfl⟩ [0, 1, 2, 3, 4, 5, 6, 7, 8, 9, 10, 11, 12, 13, 14, 15, 16, 17, 18, 19, 20, 21] (by decide) rfl 0 rfl rfl rfl hl.1 rfl (Nat.le_of_ble_eq_true rfl) dX9_count_54) [0, 1, 2, 3, 4, 5, 6, 7, 8, 9, 10, 11, 12, 13, 14, 15, 16, 17, 18, 19, 20, 21] [] rfl rfl trivial [h0, h1, h2, h3, h4, h5, h6, h7, h8, h9, h10, h11, h12, h13, h14, h15, h16, h17, h18, h19, h20, h21] rfl rfl 22 rfl (by decide +kernel) (fun H locs hw => ?_)
    have hm := Option.some.inj hm
    subst hm
    exact gRetI C0 hw dX9_count_57
  have hm := ineg hc1 hm
  by_cases hc2 : a0 = (2 : Int32)
  · have hm := ipos hc2 hm
    refine gSw (tgt := 58) (off := 57) C0 hc2 dX9_count_1 ⟨by decide, by decide, by decide⟩ ?_
    refine lv_aload_n hx hb dX9_count_58 rfl (lv_at hl 0 rfl) ?_
    refine gGet C0 hw flX9_7 0 rfl rfl dX9_count_59 ?_
    refine lv_iload_n hx hb dX9_count_62 rfl (lv_at hl 1 rfl) ?_
    refine lv_iconst (v := 2) hx hb dX9_count_63 (by decide) ?_
    refine lv_isub hx hb dX9_count_64 ?_
    obtain ⟨hin, hm⟩ := gdE hm
    have hin := inbE hin
    refine gAldI C0 hw 1 rfl hin dX9_count_65 ?_
    have hm := Option.some.inj hm
    subst hm
    exact gRetI C0 hw dX9_count_66
  have hm := ineg hc2 hm
  by_cases hc3 : a0 = (3 : Int32)
  · have hm := ipos hc3 hm
    refine gSw (tgt := 58) (off := 57) C0 hc3 dX9_count_1 ⟨by decide, by decide, by decide⟩ ?_
    refine lv_aload_n hx hb dX9_count_58 rfl (lv_at hl 0 rfl) ?_
    refine gGet C0 hw flX9_7 0 rfl rfl dX9_count_59 ?_
    refine lv_iload_n hx hb dX9_count_62 rfl (lv_at hl 1 rfl) ?_
    refine lv_iconst (v := 2) hx hb dX9_count_63 (by decide) ?_
    refine lv_isub hx hb dX9_count_64 ?_
    obtain ⟨hin, hm⟩ := gdE hm
    have hin := inbE hin
    refine gAldI C0 hw 1 rfl hin dX9_count_65 ?_
    have hm := Option.some.inj hm
    subst hm
    exact gRetI C0 hw dX9_count_66
  have hm := ineg hc3 hm
  by_cases hc4 : a0 = (4 : Int32)
  · have hm := ipos hc4 hm
    refine gSw (tgt := 67) (off := 66) C0 hc4 dX9_count_1 ⟨by decide, by decide, by decide⟩ ?_
    refine lv_aload_n hx hb dX9_count_67 rfl (lv_at hl 0 rfl) ?_
    refine gGet C0 hw flX9_170 0 rfl rfl dX9_count_68 ?_
    have hm := Option.some.inj hm
    subst hm
    exact gRetI C0 hw dX9_count_71
  have hm := ineg hc4 hm
  by_cases hc5 : a0 = (5 : Int32)
  · have hm := ipos hc5 hm
    refine gSw (tgt := 72) (off := 71) C0 hc5 dX9_count_1 ⟨by decide, by decide, by decide⟩ ?_
    refine lv_aload_n hx hb dX9_count_72 rfl (lv_at hl 0 rfl) ?_
    refine gGet C0 hw flX9_173 0 rfl rfl dX9_count_73 ?_
    have hm := Option.some.inj hm
    subst hm
    exact gRetI C0 hw dX9_count_76
  have hm := ineg hc5 hm
  by_cases hc6 : a0 = (6 : Int32)
  · have hm := ipos hc6 hm
    refine gSw (tgt := 52) (off := 51) C0 hc6 dX9_count_1 ⟨by decide, by decide, by decide⟩ ?_
    refine lv_aload_n hx hb dX9_count_52 rfl (lv_at hl 0 rfl) ?_
    refine lv_iload_n hx hb dX9_count_53 rfl (lv_at hl 1 rfl) ?_
    obtain ⟨o54, ho54, hm⟩ := bindE hm
    refine gCalli (ws' := (W_m_count g h0 h1 h2 h3 h4 h5 h6 h7 h8 h9 h10 h11 h12 h13 h14 h15 h16 h17 h18 h19 h20 h21 h22 h23 h24 h25 h26 h27 h28 h29 h30 o54.2.1 o54.2.2.1 o54.2.2.2.1 v_jumpTold v_frosts v_gaps o54.2.2.2.2.1 o54.2.2.2.2.2.1 o54.2.2.2.2.2.2.1 o54.2.2.2.2.2.2.2.1 o54.2.2.2.2.2.2.2.2.1 o54.2.2.2.2.2.2.2.2.2.1 o54.2.2.2.2.2.2.2.2.2.2.1 v_seens v_finding v_typed v_texts o54.2.2.2.2.2.2.2.2.2.2.2.1 o54.2.2.2.2.2.2.2.2.2.2.2.2.1 o54.2.2.2.2.2.2.2.2.2.2.2.2.2.1 v_frostYear v_frostForce v_gapYear v_gapColumn v_gapHand o54.2.2.2.2.2.2.2.2.2.2.2.2.2.2.1 o54.2.2.2.2.2.2.2.2.2.2.2.2.2.2.2.1 o54.2.2.2.2.2.2.2.2.2.2.2.2.2.2.2.2.1 o54.2.2.2.2.2.2.2.2.2.2.2.2.2.2.2.2.2.1 o54.2.2.2.2.2.2.2.2.2.2.2.2.2.2.2.2.2.2.1 o54.2.2.2.2.2.2.2.2.2.2.2.2.2.2.2.2.2.2.2.1 o54.2.2.2.2.2.2.2.2.2.2.2.2.2.2.2.2.2.2.2.2.1 o54.2.2.2.2.2.2.2.2.2.2.2.2.2.2.2.2.2.2.2.2.2.1 o54.2.2.2.2.2.2.2.2.2.2.2.2.2.2.2.2.2.2.2.2.2.2.1 o54.2.2.2.2.2.2.2.2.2.2.2.2.2.2.2.2.2.2.2.2.2.2.2.1 o54.2.2.2.2.2.2.2.2.2.2.2.2.2.2.2.2.2.2.2.2.2.2.2.2)) C0 hw (gRunV (As := [.int a0]) (rest := []) C0 hw lkX9_351 (c_m_sumOf l g H.size h0 h1 h2 h3 h4 h5 h6 h7 h8 h9 h10 h11 h12 h13 h14 h15 h16 h17 h18 h19 h20 h21 h22 h23 h24 h25 h26 h27 h28 h29 h30 v_courses v_wide v_hands v_jumpTold v_frosts v_gaps v_frostsNow v_notFrosts v_gapsNow v_fell v_fellAll v_sheepFirst v_sheepMany v_seens v_finding v_typed v_texts v_told v_moods v_strongs v_frostYear v_frostForce v_gapYear v_gapColumn v_gapHand v_wall v_yearNow v_forceNow v_holdNow v_fellOf v_handAt v_holdAt v_fallsAt v_standAt v_highAt v_throughAt a0 o54 ho54) ⟨rfl, rfl⟩ ⟨Nat.le_of_ble_eq_true rfl, Nat.le_of_ble_eq_true rfl⟩ [0, 1, 2, 3, 4, 5, 6, 7, 8, 9, 10, 11, 12, 13, 14, 15, 16, 17, 18, 19, 20, 21] (by decide) rfl 0 rfl rfl rfl hl.1 rfl (Nat.le_of_ble_eq_true rfl) dX9_count_54) [0, 1, 2, 3, 4, 5, 6, 7, 8, 9, 10, 11, 12, 13, 14, 15, 16, 17, 18, 19, 20, 21] [] rfl rfl trivial [h0, h1, h2, h3, h4, h5, h6, h7, h8, h9, h10, h11, h12, h13, h14, h15, h16, h17, h18, h19, h20, h21] rfl rfl 22 rfl (by decide +kernel) (fun H locs hw => ?_)
    have hm := Option.some.inj hm
    subst hm
    exact gRetI C0 hw dX9_count_57
  have hm := ineg hc6 hm
  by_cases hc7 : a0 = (7 : Int32)
  · have hm := ipos hc7 hm
    refine gSw (tgt := 77) (off := 76) C0 hc7 dX9_count_1 ⟨by decide, by decide, by decide⟩ ?_
    refine lv_aload_n hx hb dX9_count_77 rfl (lv_at hl 0 rfl) ?_
    refine gGet C0 hw flX9_305 0 rfl rfl dX9_count_78 ?_
    have hm := Option.some.inj hm
    subst hm
    exact gRetI C0 hw dX9_count_81
  have hm := ineg hc7 hm
  by_cases hc8 : a0 = (8 : Int32)
  · have hm := ipos hc8 hm
    refine gSw (tgt := 82) (off := 81) C0 hc8 dX9_count_1 ⟨by decide, by decide, by decide⟩ ?_
    refine lv_aload_n hx hb dX9_count_82 rfl (lv_at hl 0 rfl) ?_
    refine gGet C0 hw flX9_340 0 rfl rfl dX9_count_83 ?_
    have hm := Option.some.inj hm
    subst hm
    exact gRetI C0 hw dX9_count_86
  have hm := ineg hc8 hm
  refine gSwD (tgt := 87) C0 dX9_count_1 ?_ (by decide) ?_
  · intro k hk h
    have hk : k < 9 := hk
    rcases (show k = 0 ∨ k = 1 ∨ k = 2 ∨ k = 3 ∨ k = 4 ∨ k = 5 ∨ k = 6 ∨ k = 7 ∨ k = 8 by omega) with rfl | rfl | rfl | rfl | rfl | rfl | rfl | rfl | rfl
    · exact hc0 (Int32.toInt_inj.mp (h.trans (by decide)))
    · exact hc1 (Int32.toInt_inj.mp (h.trans (by decide)))
    · exact hc2 (Int32.toInt_inj.mp (h.trans (by decide)))
    · exact hc3 (Int32.toInt_inj.mp (h.trans (by decide)))
    · exact hc4 (Int32.toInt_inj.mp (h.trans (by decide)))
    · exact hc5 (Int32.toInt_inj.mp (h.trans (by decide)))
    · exact hc6 (Int32.toInt_inj.mp (h.trans (by decide)))
    · exact hc7 (Int32.toInt_inj.mp (h.trans (by decide)))
    · exact hc8 (Int32.toInt_inj.mp (h.trans (by decide)))
  refine lv_bipush (v := -2) hx hb dX9_count_87 (by decide) ?_
  have hm := Option.some.inj hm
  subst hm
  exact gRetI C0 hw dX9_count_89

-- WallHandsModel.placeDigest(JI)J
abbrev W_m_placeDigest (g : gG) (h0 h1 h2 h3 h4 h5 h6 h7 h8 h9 h10 h11 h12 h13 h14 h15 h16 h17 h18 h19 h20 h21 h22 h23 h24 h25 h26 h27 h28 h29 h30 : Nat) (v_courses : Int32) (v_wide : Int32) (v_hands : Int32) (v_jumpTold : Int32) (v_frosts : Int32) (v_gaps : Int32) (v_frostsNow : Int32) (v_notFrosts : Int32) (v_gapsNow : Int32) (v_fell : Int32) (v_fellAll : Int32) (v_sheepFirst : Int32) (v_sheepMany : Int32) (v_seens : Int32) (v_finding : Int32) (v_typed : Nat → Int32) (v_texts : Nat → Int32) (v_told : Nat → Int32) (v_moods : Nat → Int32) (v_strongs : Nat → Int32) (v_frostYear : Nat → Int32) (v_frostForce : Nat → Int32) (v_gapYear : Nat → Int32) (v_gapColumn : Nat → Int32) (v_gapHand : Nat → Int32) (v_wall : Nat → Int32) (v_yearNow : Nat → Int32) (v_forceNow : Nat → Int32) (v_holdNow : Nat → Int32) (v_fellOf : Nat → Int32) (v_handAt : Nat → Int32) (v_holdAt : Nat → Int32) (v_fallsAt : Nat → Int32) (v_standAt : Nat → Int32) (v_highAt : Nat → Int32) (v_throughAt : Nat → Int32) : va_W := [(h0, .inr (9, [.ref h1, .ref h2, .int v_courses, .int v_wide, .ref h3, .int v_hands, .ref h4, .ref h5, .int v_jumpTold, .int v_frosts, .ref h6, .ref h7, .int v_gaps, .ref h8, .ref h9, .ref h10, .ref h11, .int v_frostsNow, .ref h12, .ref h13, .int v_notFrosts, .int v_gapsNow, .ref h14, .int v_fell, .int v_fellAll, .ref h15, .ref h16, .ref h17, .ref h18, .ref h19, .ref h20, .ref h21, .int v_sheepFirst, .int v_sheepMany, .int v_seens, .ref h22, .ref h23, .ref h24, .ref h25, .ref h26, .ref h27, .ref h28, .ref h29, .ref h30, .int v_finding])), (h1, .inl (gI g, 2, .inl v_typed)), (h2, .inl (gI g, 88, .inl v_texts)), (h3, .inl (gI g, 48, .inl v_told)), (h4, .inl (gI g, 9, .inl v_moods)), (h5, .inl (gI g, 9, .inl v_strongs)), (h6, .inl (gI g, 6, .inl v_frostYear)), (h7, .inl (gI g, 6, .inl v_frostForce)), (h8, .inl (gI g, 7, .inl v_gapYear)), (h9, .inl (gI g, 7, .inl v_gapColumn)), (h10, .inl (gI g, 7, .inl v_gapHand)), (h11, .inl (gI g, 40, .inl v_wall)), (h12, .inl (gI g, 6, .inl v_yearNow)), (h13, .inl (gI g, 6, .inl v_forceNow)), (h14, .inl (gI g, 40, .inl v_holdNow)), (h15, .inl (gI g, 8, .inl v_fellOf)), (h16, .inl (gI g, 800, .inl v_handAt)), (h17, .inl (gI g, 800, .inl v_holdAt)), (h18, .inl (gI g, 20, .inl v_fallsAt)), (h19, .inl (gI g, 20, .inl v_standAt)), (h20, .inl (gI g, 160, .inl v_highAt)), (h21, .inl (gZ g, 160, .inl v_throughAt))]

abbrev rm_m_placeDigest : Room := { frames := 9, cells := 0, slots := 0, locals := 205 }

set_option maxHeartbeats 1000000 in
set_option maxRecDepth 100000 in
theorem c_m_placeDigest (l : Launch) (g : gG) (sz : Nat) (h0 h1 h2 h3 h4 h5 h6 h7 h8 h9 h10 h11 h12 h13 h14 h15 h16 h17 h18 h19 h20 h21 h22 h23 h24 h25 h26 h27 h28 h29 h30 : Nat) (v_courses : Int32) (v_wide : Int32) (v_hands : Int32) (v_jumpTold : Int32) (v_frosts : Int32) (v_gaps : Int32) (v_frostsNow : Int32) (v_notFrosts : Int32) (v_gapsNow : Int32) (v_fell : Int32) (v_fellAll : Int32) (v_sheepFirst : Int32) (v_sheepMany : Int32) (v_seens : Int32) (v_finding : Int32) (v_typed : Nat → Int32) (v_texts : Nat → Int32) (v_told : Nat → Int32) (v_moods : Nat → Int32) (v_strongs : Nat → Int32) (v_frostYear : Nat → Int32) (v_frostForce : Nat → Int32) (v_gapYear : Nat → Int32) (v_gapColumn : Nat → Int32) (v_gapHand : Nat → Int32) (v_wall : Nat → Int32) (v_yearNow : Nat → Int32) (v_forceNow : Nat → Int32) (v_holdNow : Nat → Int32) (v_fellOf : Nat → Int32) (v_handAt : Nat → Int32) (v_holdAt : Nat → Int32) (v_fallsAt : Nat → Int32) (v_standAt : Nat → Int32) (v_highAt : Nat → Int32) (v_throughAt : Nat → Int32) (a0 : Int64) (a1 : Int32) (r : (Int64 × Int32 × Int32 × Int32 × Int32 × Int32 × Int32 × Int32 × Int32 × Int32 × Int32 × (Nat → Int32) × (Nat → Int32) × (Nat → Int32) × (Nat → Int32) × (Nat → Int32) × (Nat → Int32) × (Nat → Int32) × (Nat → Int32) × (Nat → Int32) × (Nat → Int32) × (Nat → Int32) × (Nat → Int32) × (Nat → Int32) × (Nat → Int32))) (hm : f_m_placeDigest v_courses v_wide v_hands v_jumpTold v_frosts v_gaps v_frostsNow v_notFrosts v_gapsNow v_fell v_fellAll v_sheepFirst v_sheepMany v_typed v_texts v_told v_moods v_strongs v_frostYear v_frostForce v_gapYear v_gapColumn v_gapHand v_wall v_yearNow v_forceNow v_holdNow v_fellOf v_handAt v_holdAt v_fallsAt v_standAt v_highAt v_throughAt a0 a1 = some r) : gMl l yX9_placeDigest cX9_placeDigest 6 (some .long) rm_m_placeDigest g sz [.ref h0, .long a0, .int a1] (W_m_placeDigest g h0 h1 h2 h3 h4 h5 h6 h7 h8 h9 h10 h11 h12 h13 h14 h15 h16 h17 h18 h19 h20 h21 h22 h23 h24 h25 h26 h27 h28 h29 h30 v_courses v_wide v_hands v_jumpTold v_frosts v_gaps v_frostsNow v_notFrosts v_gapsNow v_fell v_fellAll v_sheepFirst v_sheepMany v_seens v_finding v_typed v_texts v_told v_moods v_strongs v_frostYear v_frostForce v_gapYear v_gapColumn v_gapHand v_wall v_yearNow v_forceNow v_holdNow v_fellOf v_handAt v_holdAt v_fallsAt v_standAt v_highAt v_throughAt) r.1 (W_m_placeDigest g h0 h1 h2 h3 h4 h5 h6 h7 h8 h9 h10 h11 h12 h13 h14 h15 h16 h17 h18 h19 h20 h21 h22 h23 h24 h25 h26 h27 h28 h29 h30 r.2.1 r.2.2.1 r.2.2.2.1 v_jumpTold v_frosts v_gaps r.2.2.2.2.1 r.2.2.2.2.2.1 r.2.2.2.2.2.2.1 r.2.2.2.2.2.2.2.1 r.2.2.2.2.2.2.2.2.1 r.2.2.2.2.2.2.2.2.2.1 r.2.2.2.2.2.2.2.2.2.2.1 v_seens v_finding v_typed v_texts r.2.2.2.2.2.2.2.2.2.2.2.1 r.2.2.2.2.2.2.2.2.2.2.2.2.1 r.2.2.2.2.2.2.2.2.2.2.2.2.2.1 v_frostYear v_frostForce v_gapYear v_gapColumn v_gapHand r.2.2.2.2.2.2.2.2.2.2.2.2.2.2.1 r.2.2.2.2.2.2.2.2.2.2.2.2.2.2.2.1 r.2.2.2.2.2.2.2.2.2.2.2.2.2.2.2.2.1 r.2.2.2.2.2.2.2.2.2.2.2.2.2.2.2.2.2.1 r.2.2.2.2.2.2.2.2.2.2.2.2.2.2.2.2.2.2.1 r.2.2.2.2.2.2.2.2.2.2.2.2.2.2.2.2.2.2.2.1 r.2.2.2.2.2.2.2.2.2.2.2.2.2.2.2.2.2.2.2.2.1 r.2.2.2.2.2.2.2.2.2.2.2.2.2.2.2.2.2.2.2.2.2.1 r.2.2.2.2.2.2.2.2.2.2.2.2.2.2.2.2.2.2.2.2.2.2.1 r.2.2.2.2.2.2.2.2.2.2.2.2.2.2.2.2.2.2.2.2.2.2.2.1 r.2.2.2.2.2.2.2.2.2.2.2.2.2.2.2.2.2.2.2.2.2.2.2.2) := by
  unfold f_m_placeDigest at hm
  refine gEnterL (by decide) (Nat.le_of_ble_eq_true rfl) (fun p e s m below meth c A C0 H locs hw ls hl => ?_)
  obtain ⟨hx, hb, hr, hml, hown, hts, hlocks, hK, hA⟩ := id C0
  have C0 : gX p s m [.ref h0, .long a0, .int a1].toArray meth c cX9_placeDigest 6 (some .long) RX9 g A := C0
  have hl : lv_has ls 6 [(0, .ref h0), (1, .long a0), (3, .int a1)] := hl
  refine lv_ldc2 (v := 31) hx hb hown (hts _ kX9_354) dX9_placeDigest_0 ?_
  refine lv_lload_n hx hb dX9_placeDigest_3 rfl (lv_at hl 1 rfl) ?_
  refine lv_lmul hx hb dX9_placeDigest_4 ?_
  refine lv_aload_n hx hb dX9_placeDigest_5 rfl (lv_at hl 0 rfl) ?_
  refine lv_iload_n hx hb dX9_placeDigest_6 rfl (lv_at hl 2 rfl) ?_
  obtain ⟨o7, ho7, hm⟩ := bindE hm
  refine gCalli (ws' := (W_m_placeDigest g h0 h1 h2 h3 h4 h5 h6 h7 h8 h9 h10 h11 h12 h13 h14 h15 h16 h17 h18 h19 h20 h21 h22 h23 h24 h25 h26 h27 h28 h29 h30 o7.2.1 o7.2.2.1 o7.2.2.2.1 v_jumpTold v_frosts v_gaps v_frostsNow v_notFrosts v_gapsNow v_fell v_fellAll v_sheepFirst v_sheepMany v_seens v_finding v_typed v_texts o7.2.2.2.2.1 o7.2.2.2.2.2.1 o7.2.2.2.2.2.2 v_frostYear v_frostForce v_gapYear v_gapColumn v_gapHand v_wall v_yearNow v_forceNow v_holdNow v_fellOf v_handAt v_holdAt v_fallsAt v_standAt v_highAt v_throughAt)) C0 hw (gRunV (As := [.int a1]) (rest := [.long ((31 : Int64) * a0)]) C0 hw lkX9_158 (c_m_stoneOf l g H.size h0 h1 h2 h3 h4 h5 h6 h7 h8 h9 h10 h11 h12 h13 h14 h15 h16 h17 h18 h19 h20 h21 h22 h23 h24 h25 h26 h27 h28 h29 h30 v_courses v_wide v_hands v_jumpTold v_frosts v_gaps v_frostsNow v_notFrosts v_gapsNow v_fell v_fellAll v_sheepFirst v_sheepMany v_seens v_finding v_typed v_texts v_told v_moods v_strongs a1 o7 ho7) ⟨rfl, rfl⟩ ⟨Nat.le_of_ble_eq_true rfl, Nat.le_of_ble_eq_true rfl⟩ [0, 1, 2, 3, 4, 5] (by decide) rfl 0 rfl rfl rfl hl.1 rfl (Nat.le_of_ble_eq_true rfl) dX9_placeDigest_7) [0, 1, 2, 3, 4, 5] [6, 7, 8, 9, 10, 11, 12, 13, 14, 15, 16, 17, 18, 19, 20, 21] rfl rfl ⟨rfl, rfl, rfl, rfl, rfl, rfl, rfl, rfl, rfl, rfl, rfl, rfl, rfl, rfl, rfl, rfl, trivial⟩ [h0, h1, h2, h3, h4, h5, h6, h7, h8, h9, h10, h11, h12, h13, h14, h15, h16, h17, h18, h19, h20, h21] rfl rfl 22 rfl (by decide +kernel) (fun H locs hw => ?_)
  refine lv_i2l (v := o7.1.toInt64) hx hb dX9_placeDigest_10 rfl ?_
  refine lv_ladd hx hb dX9_placeDigest_11 ?_
  refine lv_lstore (lv' := [(4, .long (((31 : Int64) * a0) + o7.1.toInt64)), (0, .ref h0), (1, .long a0), (3, .int a1)]) hx hb dX9_placeDigest_12 hl (by decide) rfl (fun ls hl => ?_)
  refine lv_ldc2 (v := 31) hx hb hown (hts _ kX9_354) dX9_placeDigest_14 ?_
  refine lv_lload hx hb dX9_placeDigest_17 (lv_at hl 0 rfl) ?_
  refine lv_lmul hx hb dX9_placeDigest_19 ?_
  refine lv_aload_n hx hb dX9_placeDigest_20 rfl (lv_at hl 1 rfl) ?_
  refine lv_iconst (v := 0) hx hb dX9_placeDigest_21 (by decide) ?_
  refine lv_iload_n hx hb dX9_placeDigest_22 rfl (lv_at hl 3 rfl) ?_
  refine lv_iconst (v := 0) hx hb dX9_placeDigest_23 (by decide) ?_
  obtain ⟨o24, ho24, hm⟩ := bindE hm
  refine gCalli (ws' := (W_m_placeDigest g h0 h1 h2 h3 h4 h5 h6 h7 h8 h9 h10 h11 h12 h13 h14 h15 h16 h17 h18 h19 h20 h21 h22 h23 h24 h25 h26 h27 h28 h29 h30 o24.2.1 o24.2.2.1 o24.2.2.2.1 v_jumpTold v_frosts v_gaps o24.2.2.2.2.1 o24.2.2.2.2.2.1 o24.2.2.2.2.2.2.1 o24.2.2.2.2.2.2.2.1 o24.2.2.2.2.2.2.2.2.1 o24.2.2.2.2.2.2.2.2.2.1 o24.2.2.2.2.2.2.2.2.2.2.1 v_seens v_finding v_typed v_texts o24.2.2.2.2.2.2.2.2.2.2.2.1 o24.2.2.2.2.2.2.2.2.2.2.2.2.1 o24.2.2.2.2.2.2.2.2.2.2.2.2.2.1 v_frostYear v_frostForce v_gapYear v_gapColumn v_gapHand o24.2.2.2.2.2.2.2.2.2.2.2.2.2.2.1 o24.2.2.2.2.2.2.2.2.2.2.2.2.2.2.2.1 o24.2.2.2.2.2.2.2.2.2.2.2.2.2.2.2.2.1 o24.2.2.2.2.2.2.2.2.2.2.2.2.2.2.2.2.2.1 o24.2.2.2.2.2.2.2.2.2.2.2.2.2.2.2.2.2.2.1 o24.2.2.2.2.2.2.2.2.2.2.2.2.2.2.2.2.2.2.2.1 o24.2.2.2.2.2.2.2.2.2.2.2.2.2.2.2.2.2.2.2.2.1 o24.2.2.2.2.2.2.2.2.2.2.2.2.2.2.2.2.2.2.2.2.2.1 o24.2.2.2.2.2.2.2.2.2.2.2.2.2.2.2.2.2.2.2.2.2.2.1 o24.2.2.2.2.2.2.2.2.2.2.2.2.2.2.2.2.2.2.2.2.2.2.2.1 o24.2.2.2.2.2.2.2.2.2.2.2.2.2.2.2.2.2.2.2.2.2.2.2.2)) C0 hw (gRunV (As := [.int (0 : Int32), .int a1, .int (0 : Int32)]) (rest := [.long ((31 : Int64) * (((31 : Int64) * a0) + o7.1.toInt64))]) C0 hw lkX9_265 (c_m_atOf l g H.size h0 h1 h2 h3 h4 h5 h6 h7 h8 h9 h10 h11 h12 h13 h14 h15 h16 h17 h18 h19 h20 h21 h22 h23 h24 h25 h26 h27 h28 h29 h30 o7.2.1 o7.2.2.1 o7.2.2.2.1 v_jumpTold v_frosts v_gaps v_frostsNow v_notFrosts v_gapsNow v_fell v_fellAll v_sheepFirst v_sheepMany v_seens v_finding v_typed v_texts o7.2.2.2.2.1 o7.2.2.2.2.2.1 o7.2.2.2.2.2.2 v_frostYear v_frostForce v_gapYear v_gapColumn v_gapHand v_wall v_yearNow v_forceNow v_holdNow v_fellOf v_handAt v_holdAt v_fallsAt v_standAt v_highAt v_throughAt (0 : Int32) a1 (0 : Int32) o24 ho24) ⟨rfl, rfl⟩ ⟨Nat.le_of_ble_eq_true rfl, Nat.le_of_ble_eq_true rfl⟩ [0, 1, 2, 3, 4, 5, 6, 7, 8, 9, 10, 11, 12, 13, 14, 15, 16, 17, 18, 19, 20, 21] (by decide) rfl 0 rfl rfl rfl hl.1 rfl (Nat.le_of_ble_eq_true rfl) dX9_placeDigest_24) [0, 1, 2, 3, 4, 5, 6, 7, 8, 9, 10, 11, 12, 13, 14, 15, 16, 17, 18, 19, 20, 21] [] rfl rfl trivial [h0, h1, h2, h3, h4, h5, h6, h7, h8, h9, h10, h11, h12, h13, h14, h15, h16, h17, h18, h19, h20, h21] rfl rfl 22 rfl (by decide +kernel) (fun H locs hw => ?_)
  refine lv_i2l (v := o24.1.toInt64) hx hb dX9_placeDigest_27 rfl ?_
  refine lv_ladd hx hb dX9_placeDigest_28 ?_
  refine lv_lstore (lv' := [(4, .long (((31 : Int64) * (((31 : Int64) * a0) + o7.1.toInt64)) + o24.1.toInt64)), (0, .ref h0), (1, .long a0), (3, .int a1)]) hx hb dX9_placeDigest_29 hl (by decide) rfl (fun ls hl => ?_)
  refine lv_ldc2 (v := 31) hx hb hown (hts _ kX9_354) dX9_placeDigest_31 ?_
  refine lv_lload hx hb dX9_placeDigest_34 (lv_at hl 0 rfl) ?_
  refine lv_lmul hx hb dX9_placeDigest_36 ?_
  refine lv_aload_n hx hb dX9_placeDigest_37 rfl (lv_at hl 1 rfl) ?_
  refine lv_iconst (v := 0) hx hb dX9_placeDigest_38 (by decide) ?_
  refine lv_iload_n hx hb dX9_placeDigest_39 rfl (lv_at hl 3 rfl) ?_
  refine lv_iconst (v := 1) hx hb dX9_placeDigest_40 (by decide) ?_
  obtain ⟨o41, ho41, hm⟩ := bindE hm
  refine gCalli (ws' := (W_m_placeDigest g h0 h1 h2 h3 h4 h5 h6 h7 h8 h9 h10 h11 h12 h13 h14 h15 h16 h17 h18 h19 h20 h21 h22 h23 h24 h25 h26 h27 h28 h29 h30 o41.2.1 o41.2.2.1 o41.2.2.2.1 v_jumpTold v_frosts v_gaps o41.2.2.2.2.1 o41.2.2.2.2.2.1 o41.2.2.2.2.2.2.1 o41.2.2.2.2.2.2.2.1 o41.2.2.2.2.2.2.2.2.1 o41.2.2.2.2.2.2.2.2.2.1 o41.2.2.2.2.2.2.2.2.2.2.1 v_seens v_finding v_typed v_texts o41.2.2.2.2.2.2.2.2.2.2.2.1 o41.2.2.2.2.2.2.2.2.2.2.2.2.1 o41.2.2.2.2.2.2.2.2.2.2.2.2.2.1 v_frostYear v_frostForce v_gapYear v_gapColumn v_gapHand o41.2.2.2.2.2.2.2.2.2.2.2.2.2.2.1 o41.2.2.2.2.2.2.2.2.2.2.2.2.2.2.2.1 o41.2.2.2.2.2.2.2.2.2.2.2.2.2.2.2.2.1 o41.2.2.2.2.2.2.2.2.2.2.2.2.2.2.2.2.2.1 o41.2.2.2.2.2.2.2.2.2.2.2.2.2.2.2.2.2.2.1 o41.2.2.2.2.2.2.2.2.2.2.2.2.2.2.2.2.2.2.2.1 o41.2.2.2.2.2.2.2.2.2.2.2.2.2.2.2.2.2.2.2.2.1 o41.2.2.2.2.2.2.2.2.2.2.2.2.2.2.2.2.2.2.2.2.2.1 o41.2.2.2.2.2.2.2.2.2.2.2.2.2.2.2.2.2.2.2.2.2.2.1 o41.2.2.2.2.2.2.2.2.2.2.2.2.2.2.2.2.2.2.2.2.2.2.2.1 o41.2.2.2.2.2.2.2.2.2.2.2.2.2.2.2.2.2.2.2.2.2.2.2.2)) C0 hw (gRunV (As := [.int (0 : Int32), .int a1, .int (1 : Int32)]) (rest := [.long ((31 : Int64) * (((31 : Int64) * (((31 : Int64) * a0) + o7.1.toInt64)) + o24.1.toInt64))]) C0 hw lkX9_265 (c_m_atOf l g H.size h0 h1 h2 h3 h4 h5 h6 h7 h8 h9 h10 h11 h12 h13 h14 h15 h16 h17 h18 h19 h20 h21 h22 h23 h24 h25 h26 h27 h28 h29 h30 o24.2.1 o24.2.2.1 o24.2.2.2.1 v_jumpTold v_frosts v_gaps o24.2.2.2.2.1 o24.2.2.2.2.2.1 o24.2.2.2.2.2.2.1 o24.2.2.2.2.2.2.2.1 o24.2.2.2.2.2.2.2.2.1 o24.2.2.2.2.2.2.2.2.2.1 o24.2.2.2.2.2.2.2.2.2.2.1 v_seens v_finding v_typed v_texts o24.2.2.2.2.2.2.2.2.2.2.2.1 o24.2.2.2.2.2.2.2.2.2.2.2.2.1 o24.2.2.2.2.2.2.2.2.2.2.2.2.2.1 v_frostYear v_frostForce v_gapYear v_gapColumn v_gapHand o24.2.2.2.2.2.2.2.2.2.2.2.2.2.2.1 o24.2.2.2.2.2.2.2.2.2.2.2.2.2.2.2.1 o24.2.2.2.2.2.2.2.2.2.2.2.2.2.2.2.2.1 o24.2.2.2.2.2.2.2.2.2.2.2.2.2.2.2.2.2.1 o24.2.2.2.2.2.2.2.2.2.2.2.2.2.2.2.2.2.2.1 o24.2.2.2.2.2.2.2.2.2.2.2.2.2.2.2.2.2.2.2.1 o24.2.2.2.2.2.2.2.2.2.2.2.2.2.2.2.2.2.2.2.2.1 o24.2.2.2.2.2.2.2.2.2.2.2.2.2.2.2.2.2.2.2.2.2.1 o24.2.2.2.2.2.2.2.2.2.2.2.2.2.2.2.2.2.2.2.2.2.2.1 o24.2.2.2.2.2.2.2.2.2.2.2.2.2.2.2.2.2.2.2.2.2.2.2.1 o24.2.2.2.2.2.2.2.2.2.2.2.2.2.2.2.2.2.2.2.2.2.2.2.2 (0 : Int32) a1 (1 : Int32) o41 ho41) ⟨rfl, rfl⟩ ⟨Nat.le_of_ble_eq_true rfl, Nat.le_of_ble_eq_true rfl⟩ [0, 1, 2, 3, 4, 5, 6, 7, 8, 9, 10, 11, 12, 13, 14, 15, 16, 17, 18, 19, 20, 21] (by decide) rfl 0 rfl rfl rfl hl.1 rfl (Nat.le_of_ble_eq_true rfl) dX9_placeDigest_41) [0, 1, 2, 3, 4, 5, 6, 7, 8, 9, 10, 11, 12, 13, 14, 15, 16, 17, 18, 19, 20, 21] [] rfl rfl trivial [h0, h1, h2, h3, h4, h5, h6, h7, h8, h9, h10, h11, h12, h13, h14, h15, h16, h17, h18, h19, h20, h21] rfl rfl 22 rfl (by decide +kernel) (fun H locs hw => ?_)
  refine lv_i2l (v := o41.1.toInt64) hx hb dX9_placeDigest_44 rfl ?_
  refine lv_ladd hx hb dX9_placeDigest_45 ?_
  refine lv_lstore (lv' := [(4, .long (((31 : Int64) * (((31 : Int64) * (((31 : Int64) * a0) + o7.1.toInt64)) + o24.1.toInt64)) + o41.1.toInt64)), (0, .ref h0), (1, .long a0), (3, .int a1)]) hx hb dX9_placeDigest_46 hl (by decide) rfl (fun ls hl => ?_)
  refine lv_ldc2 (v := 31) hx hb hown (hts _ kX9_354) dX9_placeDigest_48 ?_
  refine lv_lload hx hb dX9_placeDigest_51 (lv_at hl 0 rfl) ?_
  refine lv_lmul hx hb dX9_placeDigest_53 ?_
  refine lv_aload_n hx hb dX9_placeDigest_54 rfl (lv_at hl 1 rfl) ?_
  refine lv_bipush (v := 19) hx hb dX9_placeDigest_55 (by decide) ?_
  refine lv_iload_n hx hb dX9_placeDigest_57 rfl (lv_at hl 3 rfl) ?_
  refine lv_iconst (v := 0) hx hb dX9_placeDigest_58 (by decide) ?_
  obtain ⟨o59, ho59, hm⟩ := bindE hm
  refine gCalli (ws' := (W_m_placeDigest g h0 h1 h2 h3 h4 h5 h6 h7 h8 h9 h10 h11 h12 h13 h14 h15 h16 h17 h18 h19 h20 h21 h22 h23 h24 h25 h26 h27 h28 h29 h30 o59.2.1 o59.2.2.1 o59.2.2.2.1 v_jumpTold v_frosts v_gaps o59.2.2.2.2.1 o59.2.2.2.2.2.1 o59.2.2.2.2.2.2.1 o59.2.2.2.2.2.2.2.1 o59.2.2.2.2.2.2.2.2.1 o59.2.2.2.2.2.2.2.2.2.1 o59.2.2.2.2.2.2.2.2.2.2.1 v_seens v_finding v_typed v_texts o59.2.2.2.2.2.2.2.2.2.2.2.1 o59.2.2.2.2.2.2.2.2.2.2.2.2.1 o59.2.2.2.2.2.2.2.2.2.2.2.2.2.1 v_frostYear v_frostForce v_gapYear v_gapColumn v_gapHand o59.2.2.2.2.2.2.2.2.2.2.2.2.2.2.1 o59.2.2.2.2.2.2.2.2.2.2.2.2.2.2.2.1 o59.2.2.2.2.2.2.2.2.2.2.2.2.2.2.2.2.1 o59.2.2.2.2.2.2.2.2.2.2.2.2.2.2.2.2.2.1 o59.2.2.2.2.2.2.2.2.2.2.2.2.2.2.2.2.2.2.1 o59.2.2.2.2.2.2.2.2.2.2.2.2.2.2.2.2.2.2.2.1 o59.2.2.2.2.2.2.2.2.2.2.2.2.2.2.2.2.2.2.2.2.1 o59.2.2.2.2.2.2.2.2.2.2.2.2.2.2.2.2.2.2.2.2.2.1 o59.2.2.2.2.2.2.2.2.2.2.2.2.2.2.2.2.2.2.2.2.2.2.1 o59.2.2.2.2.2.2.2.2.2.2.2.2.2.2.2.2.2.2.2.2.2.2.2.1 o59.2.2.2.2.2.2.2.2.2.2.2.2.2.2.2.2.2.2.2.2.2.2.2.2)) C0 hw (gRunV (As := [.int (19 : Int32), .int a1, .int (0 : Int32)]) (rest := [.long ((31 : Int64) * (((31 : Int64) * (((31 : Int64) * (((31 : Int64) * a0) + o7.1.toInt64)) + o24.1.toInt64)) + o41.1.toInt64))]) C0 hw lkX9_265 (c_m_atOf l g H.size h0 h1 h2 h3 h4 h5 h6 h7 h8 h9 h10 h11 h12 h13 h14 h15 h16 h17 h18 h19 h20 h21 h22 h23 h24 h25 h26 h27 h28 h29 h30 o41.2.1 o41.2.2.1 o41.2.2.2.1 v_jumpTold v_frosts v_gaps o41.2.2.2.2.1 o41.2.2.2.2.2.1 o41.2.2.2.2.2.2.1 o41.2.2.2.2.2.2.2.1 o41.2.2.2.2.2.2.2.2.1 o41.2.2.2.2.2.2.2.2.2.1 o41.2.2.2.2.2.2.2.2.2.2.1 v_seens v_finding v_typed v_texts o41.2.2.2.2.2.2.2.2.2.2.2.1 o41.2.2.2.2.2.2.2.2.2.2.2.2.1 o41.2.2.2.2.2.2.2.2.2.2.2.2.2.1 v_frostYear v_frostForce v_gapYear v_gapColumn v_gapHand o41.2.2.2.2.2.2.2.2.2.2.2.2.2.2.1 o41.2.2.2.2.2.2.2.2.2.2.2.2.2.2.2.1 o41.2.2.2.2.2.2.2.2.2.2.2.2.2.2.2.2.1 o41.2.2.2.2.2.2.2.2.2.2.2.2.2.2.2.2.2.1 o41.2.2.2.2.2.2.2.2.2.2.2.2.2.2.2.2.2.2.1 o41.2.2.2.2.2.2.2.2.2.2.2.2.2.2.2.2.2.2.2.1 o41.2.2.2.2.2.2.2.2.2.2.2.2.2.2.2.2.2.2.2.2.1 o41.2.2.2.2.2.2.2.2.2.2.2.2.2.2.2.2.2.2.2.2.2.1 o41.2.2.2.2.2.2.2.2.2.2.2.2.2.2.2.2.2.2.2.2.2.2.1 o41.2.2.2.2.2.2.2.2.2.2.2.2.2.2.2.2.2.2.2.2.2.2.2.1 o41.2.2.2.2.2.2.2.2.2.2.2.2.2.2.2.2.2.2.2.2.2.2.2.2 (19 : Int32) a1 (0 : Int32) o59 ho59) ⟨rfl, rfl⟩ ⟨Nat.le_of_ble_eq_true rfl, Nat.le_of_ble_eq_true rfl⟩ [0, 1, 2, 3, 4, 5, 6, 7, 8, 9, 10, 11, 12, 13, 14, 15, 16, 17, 18, 19, 20, 21] (by decide) rfl 0 rfl rfl rfl hl.1 rfl (Nat.le_of_ble_eq_true rfl) dX9_placeDigest_59) [0, 1, 2, 3, 4, 5, 6, 7, 8, 9, 10, 11, 12, 13, 14, 15, 16, 17, 18, 19, 20, 21] [] rfl rfl trivial [h0, h1, h2, h3, h4, h5, h6, h7, h8, h9, h10, h11, h12, h13, h14, h15, h16, h17, h18, h19, h20, h21] rfl rfl 22 rfl (by decide +kernel) (fun H locs hw => ?_)
  refine lv_i2l (v := o59.1.toInt64) hx hb dX9_placeDigest_62 rfl ?_
  refine lv_ladd hx hb dX9_placeDigest_63 ?_
  refine lv_lstore (lv' := [(4, .long (((31 : Int64) * (((31 : Int64) * (((31 : Int64) * (((31 : Int64) * a0) + o7.1.toInt64)) + o24.1.toInt64)) + o41.1.toInt64)) + o59.1.toInt64)), (0, .ref h0), (1, .long a0), (3, .int a1)]) hx hb dX9_placeDigest_64 hl (by decide) rfl (fun ls hl => ?_)
  refine lv_ldc2 (v := 31) hx hb hown (hts _ kX9_354) dX9_placeDigest_66 ?_
  refine lv_lload hx hb dX9_placeDigest_69 (lv_at hl 0 rfl) ?_
  refine lv_lmul hx hb dX9_placeDigest_71 ?_
  refine lv_aload_n hx hb dX9_placeDigest_72 rfl (lv_at hl 1 rfl) ?_
  refine lv_bipush (v := 19) hx hb dX9_placeDigest_73 (by decide) ?_
  refine lv_iload_n hx hb dX9_placeDigest_75 rfl (lv_at hl 3 rfl) ?_
  refine lv_iconst (v := 1) hx hb dX9_placeDigest_76 (by decide) ?_
  obtain ⟨o77, ho77, hm⟩ := bindE hm
  refine gCalli (ws' := (W_m_placeDigest g h0 h1 h2 h3 h4 h5 h6 h7 h8 h9 h10 h11 h12 h13 h14 h15 h16 h17 h18 h19 h20 h21 h22 h23 h24 h25 h26 h27 h28 h29 h30 o77.2.1 o77.2.2.1 o77.2.2.2.1 v_jumpTold v_frosts v_gaps o77.2.2.2.2.1 o77.2.2.2.2.2.1 o77.2.2.2.2.2.2.1 o77.2.2.2.2.2.2.2.1 o77.2.2.2.2.2.2.2.2.1 o77.2.2.2.2.2.2.2.2.2.1 o77.2.2.2.2.2.2.2.2.2.2.1 v_seens v_finding v_typed v_texts o77.2.2.2.2.2.2.2.2.2.2.2.1 o77.2.2.2.2.2.2.2.2.2.2.2.2.1 o77.2.2.2.2.2.2.2.2.2.2.2.2.2.1 v_frostYear v_frostForce v_gapYear v_gapColumn v_gapHand o77.2.2.2.2.2.2.2.2.2.2.2.2.2.2.1 o77.2.2.2.2.2.2.2.2.2.2.2.2.2.2.2.1 o77.2.2.2.2.2.2.2.2.2.2.2.2.2.2.2.2.1 o77.2.2.2.2.2.2.2.2.2.2.2.2.2.2.2.2.2.1 o77.2.2.2.2.2.2.2.2.2.2.2.2.2.2.2.2.2.2.1 o77.2.2.2.2.2.2.2.2.2.2.2.2.2.2.2.2.2.2.2.1 o77.2.2.2.2.2.2.2.2.2.2.2.2.2.2.2.2.2.2.2.2.1 o77.2.2.2.2.2.2.2.2.2.2.2.2.2.2.2.2.2.2.2.2.2.1 o77.2.2.2.2.2.2.2.2.2.2.2.2.2.2.2.2.2.2.2.2.2.2.1 o77.2.2.2.2.2.2.2.2.2.2.2.2.2.2.2.2.2.2.2.2.2.2.2.1 o77.2.2.2.2.2.2.2.2.2.2.2.2.2.2.2.2.2.2.2.2.2.2.2.2)) C0 hw (gRunV (As := [.int (19 : Int32), .int a1, .int (1 : Int32)]) (rest := [.long ((31 : Int64) * (((31 : Int64) * (((31 : Int64) * (((31 : Int64) * (((31 : Int64) * a0) + o7.1.toInt64)) + o24.1.toInt64)) + o41.1.toInt64)) + o59.1.toInt64))]) C0 hw lkX9_265 (c_m_atOf l g H.size h0 h1 h2 h3 h4 h5 h6 h7 h8 h9 h10 h11 h12 h13 h14 h15 h16 h17 h18 h19 h20 h21 h22 h23 h24 h25 h26 h27 h28 h29 h30 o59.2.1 o59.2.2.1 o59.2.2.2.1 v_jumpTold v_frosts v_gaps o59.2.2.2.2.1 o59.2.2.2.2.2.1 o59.2.2.2.2.2.2.1 o59.2.2.2.2.2.2.2.1 o59.2.2.2.2.2.2.2.2.1 o59.2.2.2.2.2.2.2.2.2.1 o59.2.2.2.2.2.2.2.2.2.2.1 v_seens v_finding v_typed v_texts o59.2.2.2.2.2.2.2.2.2.2.2.1 o59.2.2.2.2.2.2.2.2.2.2.2.2.1 o59.2.2.2.2.2.2.2.2.2.2.2.2.2.1 v_frostYear v_frostForce v_gapYear v_gapColumn v_gapHand o59.2.2.2.2.2.2.2.2.2.2.2.2.2.2.1 o59.2.2.2.2.2.2.2.2.2.2.2.2.2.2.2.1 o59.2.2.2.2.2.2.2.2.2.2.2.2.2.2.2.2.1 o59.2.2.2.2.2.2.2.2.2.2.2.2.2.2.2.2.2.1 o59.2.2.2.2.2.2.2.2.2.2.2.2.2.2.2.2.2.2.1 o59.2.2.2.2.2.2.2.2.2.2.2.2.2.2.2.2.2.2.2.1 o59.2.2.2.2.2.2.2.2.2.2.2.2.2.2.2.2.2.2.2.2.1 o59.2.2.2.2.2.2.2.2.2.2.2.2.2.2.2.2.2.2.2.2.2.1 o59.2.2.2.2.2.2.2.2.2.2.2.2.2.2.2.2.2.2.2.2.2.2.1 o59.2.2.2.2.2.2.2.2.2.2.2.2.2.2.2.2.2.2.2.2.2.2.2.1 o59.2.2.2.2.2.2.2.2.2.2.2.2.2.2.2.2.2.2.2.2.2.2.2.2 (19 : Int32) a1 (1 : Int32) o77 ho77) ⟨rfl, rfl⟩ ⟨Nat.le_of_ble_eq_true rfl, Nat.le_of_ble_eq_true rfl⟩ [0, 1, 2, 3, 4, 5, 6, 7, 8, 9, 10, 11, 12, 13, 14, 15, 16, 17, 18, 19, 20, 21] (by decide) rfl 0 rfl rfl rfl hl.1 rfl (Nat.le_of_ble_eq_true rfl) dX9_placeDigest_77) [0, 1, 2, 3, 4, 5, 6, 7, 8, 9, 10, 11, 12, 13, 14, 15, 16, 17, 18, 19, 20, 21] [] rfl rfl trivial [h0, h1, h2, h3, h4, h5, h6, h7, h8, h9, h10, h11, h12, h13, h14, h15, h16, h17, h18, h19, h20, h21] rfl rfl 22 rfl (by decide +kernel) (fun H locs hw => ?_)
  refine lv_i2l (v := o77.1.toInt64) hx hb dX9_placeDigest_80 rfl ?_
  refine lv_ladd hx hb dX9_placeDigest_81 ?_
  refine lv_lstore (lv' := [(4, .long (((31 : Int64) * (((31 : Int64) * (((31 : Int64) * (((31 : Int64) * (((31 : Int64) * a0) + o7.1.toInt64)) + o24.1.toInt64)) + o41.1.toInt64)) + o59.1.toInt64)) + o77.1.toInt64)), (0, .ref h0), (1, .long a0), (3, .int a1)]) hx hb dX9_placeDigest_82 hl (by decide) rfl (fun ls hl => ?_)
  refine lv_ldc2 (v := 31) hx hb hown (hts _ kX9_354) dX9_placeDigest_84 ?_
  refine lv_lload hx hb dX9_placeDigest_87 (lv_at hl 0 rfl) ?_
  refine lv_lmul hx hb dX9_placeDigest_89 ?_
  refine lv_aload_n hx hb dX9_placeDigest_90 rfl (lv_at hl 1 rfl) ?_
  refine lv_iload_n hx hb dX9_placeDigest_91 rfl (lv_at hl 3 rfl) ?_
  obtain ⟨o92, ho92, hm⟩ := bindE hm
  refine gCalli (ws' := (W_m_placeDigest g h0 h1 h2 h3 h4 h5 h6 h7 h8 h9 h10 h11 h12 h13 h14 h15 h16 h17 h18 h19 h20 h21 h22 h23 h24 h25 h26 h27 h28 h29 h30 o92.2.1 o92.2.2.1 o92.2.2.2.1 v_jumpTold v_frosts v_gaps o77.2.2.2.2.1 o77.2.2.2.2.2.1 o77.2.2.2.2.2.2.1 o92.2.2.2.2.1 o77.2.2.2.2.2.2.2.2.1 o77.2.2.2.2.2.2.2.2.2.1 o77.2.2.2.2.2.2.2.2.2.2.1 v_seens v_finding v_typed v_texts o92.2.2.2.2.2.1 o92.2.2.2.2.2.2.1 o92.2.2.2.2.2.2.2.1 v_frostYear v_frostForce v_gapYear v_gapColumn v_gapHand o92.2.2.2.2.2.2.2.2.1 o77.2.2.2.2.2.2.2.2.2.2.2.2.2.2.2.1 o77.2.2.2.2.2.2.2.2.2.2.2.2.2.2.2.2.1 o77.2.2.2.2.2.2.2.2.2.2.2.2.2.2.2.2.2.1 o92.2.2.2.2.2.2.2.2.2 o77.2.2.2.2.2.2.2.2.2.2.2.2.2.2.2.2.2.2.2.1 o77.2.2.2.2.2.2.2.2.2.2.2.2.2.2.2.2.2.2.2.2.1 o77.2.2.2.2.2.2.2.2.2.2.2.2.2.2.2.2.2.2.2.2.2.1 o77.2.2.2.2.2.2.2.2.2.2.2.2.2.2.2.2.2.2.2.2.2.2.1 o77.2.2.2.2.2.2.2.2.2.2.2.2.2.2.2.2.2.2.2.2.2.2.2.1 o77.2.2.2.2.2.2.2.2.2.2.2.2.2.2.2.2.2.2.2.2.2.2.2.2)) C0 hw (gRunV (As := [.int a1]) (rest := [.long ((31 : Int64) * (((31 : Int64) * (((31 : Int64) * (((31 : Int64) * (((31 : Int64) * (((31 : Int64) * a0) + o7.1.toInt64)) + o24.1.toInt64)) + o41.1.toInt64)) + o59.1.toInt64)) + o77.1.toInt64))]) C0 hw lkX9_302 (c_m_liftOf l g H.size h0 h1 h2 h3 h4 h5 h11 h15 h6 h7 h8 h9 h10 h12 h13 h14 h16 h17 h18 h19 h20 h21 h22 h23 h24 h25 h26 h27 h28 h29 h30 o77.2.1 o77.2.2.1 o77.2.2.2.1 v_jumpTold v_frosts v_gaps o77.2.2.2.2.1 o77.2.2.2.2.2.1 o77.2.2.2.2.2.2.1 o77.2.2.2.2.2.2.2.1 o77.2.2.2.2.2.2.2.2.1 o77.2.2.2.2.2.2.2.2.2.1 o77.2.2.2.2.2.2.2.2.2.2.1 v_seens v_finding v_typed v_texts o77.2.2.2.2.2.2.2.2.2.2.2.1 o77.2.2.2.2.2.2.2.2.2.2.2.2.1 o77.2.2.2.2.2.2.2.2.2.2.2.2.2.1 o77.2.2.2.2.2.2.2.2.2.2.2.2.2.2.1 o77.2.2.2.2.2.2.2.2.2.2.2.2.2.2.2.2.2.2.1 a1 o92 ho92) ⟨rfl, rfl⟩ ⟨Nat.le_of_ble_eq_true rfl, Nat.le_of_ble_eq_true rfl⟩ [0, 1, 2, 3, 4, 5, 11, 15] (by decide) rfl 0 rfl rfl rfl hl.1 rfl (Nat.le_of_ble_eq_true rfl) dX9_placeDigest_92) [0, 1, 2, 3, 4, 5, 11, 15] [6, 7, 8, 9, 10, 12, 13, 14, 16, 17, 18, 19, 20, 21] rfl rfl ⟨rfl, rfl, rfl, rfl, rfl, rfl, rfl, rfl, rfl, rfl, rfl, rfl, rfl, rfl, trivial⟩ [h0, h1, h2, h3, h4, h5, h6, h7, h8, h9, h10, h11, h12, h13, h14, h15, h16, h17, h18, h19, h20, h21] rfl rfl 22 rfl (by decide +kernel) (fun H locs hw => ?_)
  refine lv_i2l (v := o92.1.toInt64) hx hb dX9_placeDigest_95 rfl ?_
  refine lv_ladd hx hb dX9_placeDigest_96 ?_
  have hm := Option.some.inj hm
  subst hm
  exact gRetL C0 hw dX9_placeDigest_97
