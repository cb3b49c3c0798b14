-- WallHandsModel.reads()V
abbrev W_m_reads (g : gG) (h0 h1 h2 h3 h4 h5 h6 h7 h8 h9 h10 h11 h12 h13 h14 h15 h16 h17 h18 h19 h20 h21 h22 h23 h24 h25 h26 h27 h28 h29 h30 : Nat) (v_courses : Int32) (v_wide : Int32) (v_hands : Int32) (v_jumpTold : Int32) (v_frosts : Int32) (v_gaps : Int32) (v_frostsNow : Int32) (v_notFrosts : Int32) (v_gapsNow : Int32) (v_fell : Int32) (v_fellAll : Int32) (v_sheepFirst : Int32) (v_sheepMany : Int32) (v_seens : Int32) (v_finding : Int32) (v_typed : Nat → Int32) (v_texts : Nat → Int32) (v_told : Nat → Int32) (v_moods : Nat → Int32) (v_strongs : Nat → Int32) : va_W := [(h0, .inr (9, [.ref h1, .ref h2, .int v_courses, .int v_wide, .ref h3, .int v_hands, .ref h4, .ref h5, .int v_jumpTold, .int v_frosts, .ref h6, .ref h7, .int v_gaps, .ref h8, .ref h9, .ref h10, .ref h11, .int v_frostsNow, .ref h12, .ref h13, .int v_notFrosts, .int v_gapsNow, .ref h14, .int v_fell, .int v_fellAll, .ref h15, .ref h16, .ref h17, .ref h18, .ref h19, .ref h20, .ref h21, .int v_sheepFirst, .int v_sheepMany, .int v_seens, .ref h22, .ref h23, .ref h24, .ref h25, .ref h26, .ref h27, .ref h28, .ref h29, .ref h30, .int v_finding])), (h1, .inl (gI g, 2, .inl v_typed)), (h2, .inl (gI g, 88, .inl v_texts)), (h3, .inl (gI g, 48, .inl v_told)), (h4, .inl (gI g, 9, .inl v_moods)), (h5, .inl (gI g, 9, .inl v_strongs))]

abbrev rm_m_reads : Room := { frames := 4, cells := 0, slots := 0, locals := 94 }

set_option maxHeartbeats 1000000 in
set_option maxRecDepth 100000 in
theorem c_m_reads (l : Launch) (g : gG) (sz : Nat) (h0 h1 h2 h3 h4 h5 h6 h7 h8 h9 h10 h11 h12 h13 h14 h15 h16 h17 h18 h19 h20 h21 h22 h23 h24 h25 h26 h27 h28 h29 h30 : Nat) (v_courses : Int32) (v_wide : Int32) (v_hands : Int32) (v_jumpTold : Int32) (v_frosts : Int32) (v_gaps : Int32) (v_frostsNow : Int32) (v_notFrosts : Int32) (v_gapsNow : Int32) (v_fell : Int32) (v_fellAll : Int32) (v_sheepFirst : Int32) (v_sheepMany : Int32) (v_seens : Int32) (v_finding : Int32) (v_typed : Nat → Int32) (v_texts : Nat → Int32) (v_told : Nat → Int32) (v_moods : Nat → Int32) (v_strongs : Nat → Int32) (r : (Int32 × Int32 × Int32 × (Nat → Int32) × (Nat → Int32) × (Nat → Int32))) (hm : f_m_reads v_courses v_wide v_hands v_typed v_texts v_told v_moods v_strongs = some r) : gMv l yX9_reads cX9_reads 2 none rm_m_reads g sz [.ref h0] (W_m_reads g h0 h1 h2 h3 h4 h5 h6 h7 h8 h9 h10 h11 h12 h13 h14 h15 h16 h17 h18 h19 h20 h21 h22 h23 h24 h25 h26 h27 h28 h29 h30 v_courses v_wide v_hands v_jumpTold v_frosts v_gaps v_frostsNow v_notFrosts v_gapsNow v_fell v_fellAll v_sheepFirst v_sheepMany v_seens v_finding v_typed v_texts v_told v_moods v_strongs) (W_m_reads g h0 h1 h2 h3 h4 h5 h6 h7 h8 h9 h10 h11 h12 h13 h14 h15 h16 h17 h18 h19 h20 h21 h22 h23 h24 h25 h26 h27 h28 h29 h30 r.1 r.2.1 r.2.2.1 v_jumpTold v_frosts v_gaps v_frostsNow v_notFrosts v_gapsNow v_fell v_fellAll v_sheepFirst v_sheepMany v_seens v_finding v_typed v_texts r.2.2.2.1 r.2.2.2.2.1 r.2.2.2.2.2) := by
  unfold f_m_reads at hm
  refine gEnterV (by decide) (Nat.le_of_ble_eq_true rfl) (fun p e s m below meth c A C0 H locs hw ls hl => ?_)
  obtain ⟨hx, hb, hr, hml, hown, hts, hlocks, hK, hA⟩ := id C0
  have C0 : gX p s m [.ref h0].toArray meth c cX9_reads 2 none RX9 g A := C0
  have hl : lv_has ls 2 [(0, .ref h0)] := hl
  refine lv_aload_n hx hb dX9_reads_0 rfl (lv_at hl 0 rfl) ?_
  refine lv_iconst (v := 0) hx hb dX9_reads_1 (by decide) ?_
  obtain ⟨o2, ho2, hm⟩ := bindE hm
  refine gCalli (ws' := (W_m_reads g h0 h1 h2 h3 h4 h5 h6 h7 h8 h9 h10 h11 h12 h13 h14 h15 h16 h17 h18 h19 h20 h21 h22 h23 h24 h25 h26 h27 h28 h29 h30 o2.2.1 o2.2.2.1 o2.2.2.2.1 v_jumpTold v_frosts v_gaps v_frostsNow v_notFrosts v_gapsNow v_fell v_fellAll v_sheepFirst v_sheepMany v_seens v_finding v_typed v_texts o2.2.2.2.2.1 o2.2.2.2.2.2.1 o2.2.2.2.2.2.2)) C0 hw (gRunV (As := [.int (0 : Int32)]) (rest := []) C0 hw lkX9_148 (c_m_faultOf l g H.size h0 h1 h2 h3 h4 h5 h6 h7 h8 h9 h10 h11 h12 h13 h14 h15 h16 h17 h18 h19 h20 h21 h22 h23 h24 h25 h26 h27 h28 h29 h30 v_courses v_wide v_hands v_jumpTold v_frosts v_gaps v_frostsNow v_notFrosts v_gapsNow v_fell v_fellAll v_sheepFirst v_sheepMany v_seens v_finding v_typed v_texts v_told v_moods v_strongs (0 : Int32) o2 ho2) ⟨rfl, rfl⟩ ⟨Nat.le_of_ble_eq_true rfl, Nat.le_of_ble_eq_true rfl⟩ [0, 1, 2, 3, 4, 5] (by decide) rfl 0 rfl rfl rfl hl.1 rfl (Nat.le_of_ble_eq_true rfl) dX9_reads_2) [0, 1, 2, 3, 4, 5] [] rfl rfl trivial [h0, h1, h2, h3, h4, h5] rfl rfl 6 rfl (by decide +kernel) (fun H locs hw => ?_)
  refine lv_istore_n (lv' := [(1, .int o2.1), (0, .ref h0)]) hx hb dX9_reads_5 rfl hl (by decide) rfl (fun ls hl => ?_)
  have hm := Option.some.inj hm
  subst hm
  exact gRetV C0 hw dX9_reads_6

-- WallHandsModel.fault(I)I
abbrev W_m_fault (g : gG) (h0 h1 h2 h3 h4 h5 h6 h7 h8 h9 h10 h11 h12 h13 h14 h15 h16 h17 h18 h19 h20 h21 h22 h23 h24 h25 h26 h27 h28 h29 h30 : Nat) (v_courses : Int32) (v_wide : Int32) (v_hands : Int32) (v_jumpTold : Int32) (v_frosts : Int32) (v_gaps : Int32) (v_frostsNow : Int32) (v_notFrosts : Int32) (v_gapsNow : Int32) (v_fell : Int32) (v_fellAll : Int32) (v_sheepFirst : Int32) (v_sheepMany : Int32) (v_seens : Int32) (v_finding : Int32) (v_typed : Nat → Int32) (v_texts : Nat → Int32) (v_told : Nat → Int32) (v_moods : Nat → Int32) (v_strongs : Nat → Int32) : va_W := [(h0, .inr (9, [.ref h1, .ref h2, .int v_courses, .int v_wide, .ref h3, .int v_hands, .ref h4, .ref h5, .int v_jumpTold, .int v_frosts, .ref h6, .ref h7, .int v_gaps, .ref h8, .ref h9, .ref h10, .ref h11, .int v_frostsNow, .ref h12, .ref h13, .int v_notFrosts, .int v_gapsNow, .ref h14, .int v_fell, .int v_fellAll, .ref h15, .ref h16, .ref h17, .ref h18, .ref h19, .ref h20, .ref h21, .int v_sheepFirst, .int v_sheepMany, .int v_seens, .ref h22, .ref h23, .ref h24, .ref h25, .ref h26, .ref h27, .ref h28, .ref h29, .ref h30, .int v_finding])), (h1, .inl (gI g, 2, .inl v_typed)), (h2, .inl (gI g, 88, .inl v_texts)), (h3, .inl (gI g, 48, .inl v_told)), (h4, .inl (gI g, 9, .inl v_moods)), (h5, .inl (gI g, 9, .inl v_strongs))]

abbrev rm_m_fault : Room := { frames := 4, cells := 0, slots := 0, locals := 94 }

set_option maxHeartbeats 1000000 in
set_option maxRecDepth 100000 in
theorem c_m_fault (l : Launch) (g : gG) (sz : Nat) (h0 h1 h2 h3 h4 h5 h6 h7 h8 h9 h10 h11 h12 h13 h14 h15 h16 h17 h18 h19 h20 h21 h22 h23 h24 h25 h26 h27 h28 h29 h30 : Nat) (v_courses : Int32) (v_wide : Int32) (v_hands : Int32) (v_jumpTold : Int32) (v_frosts : Int32) (v_gaps : Int32) (v_frostsNow : Int32) (v_notFrosts : Int32) (v_gapsNow : Int32) (v_fell : Int32) (v_fellAll : Int32) (v_sheepFirst : Int32) (v_sheepMany : Int32) (v_seens : Int32) (v_finding : Int32) (v_typed : Nat → Int32) (v_texts : Nat → Int32) (v_told : Nat → Int32) (v_moods : Nat → Int32) (v_strongs : Nat → Int32) (a0 : Int32) (r : (Int32 × Int32 × Int32 × Int32 × (Nat → Int32) × (Nat → Int32) × (Nat → Int32))) (hm : f_m_fault v_courses v_wide v_hands v_typed v_texts v_told v_moods v_strongs a0 = some r) : gMi l yX9_fault cX9_fault 2 (some .int) rm_m_fault g sz [.ref h0, .int a0] (W_m_fault g h0 h1 h2 h3 h4 h5 h6 h7 h8 h9 h10 h11 h12 h13 h14 h15 h16 h17 h18 h19 h20 h21 h22 h23 h24 h25 h26 h27 h28 h29 h30 v_courses v_wide v_hands v_jumpTold v_frosts v_gaps v_frostsNow v_notFrosts v_gapsNow v_fell v_fellAll v_sheepFirst v_sheepMany v_seens v_finding v_typed v_texts v_told v_moods v_strongs) r.1 (W_m_fault g h0 h1 h2 h3 h4 h5 h6 h7 h8 h9 h10 h11 h12 h13 h14 h15 h16 h17 h18 h19 h20 h21 h22 h23 h24 h25 h26 h27 h28 h29 h30 r.2.1 r.2.2.1 r.2.2.2.1 v_jumpTold v_frosts v_gaps v_frostsNow v_notFrosts v_gapsNow v_fell v_fellAll v_sheepFirst v_sheepMany v_seens v_finding v_typed v_texts r.2.2.2.2.1 r.2.2.2.2.2.1 r.2.2.2.2.2.2) := by
  unfold f_m_fault at hm
  refine gEnterI (by decide) (Nat.le_of_ble_eq_true rfl) (fun p e s m below meth c A C0 H locs hw ls hl => ?_)
  obtain ⟨hx, hb, hr, hml, hown, hts, hlocks, hK, hA⟩ := id C0
  have C0 : gX p s m [.ref h0, .int a0].toArray meth c cX9_fault 2 (some .int) RX9 g A := C0
  have hl : lv_has ls 2 [(0, .ref h0), (1, .int a0)] := hl
  refine lv_iload_n hx hb dX9_fault_0 rfl (lv_at hl 1 rfl) ?_
  obtain ⟨o1, ho1, hm⟩ := bindE hm
  refine gCalli (ws' := (W_m_fault g h0 h1 h2 h3 h4 h5 h6 h7 h8 h9 h10 h11 h12 h13 h14 h15 h16 h17 h18 h19 h20 h21 h22 h23 h24 h25 h26 h27 h28 h29 h30 v_courses v_wide v_hands v_jumpTold v_frosts v_gaps v_frostsNow v_notFrosts v_gapsNow v_fell v_fellAll v_sheepFirst v_sheepMany v_seens v_finding v_typed v_texts v_told v_moods v_strongs)) C0 hw (gRunS (As := [.int a0]) (rest := []) C0 hw lkX9_115 (c_m_isText l g H.size  a0 o1 ho1) ⟨rfl, rfl⟩ ⟨Nat.le_of_ble_eq_true rfl, Nat.le_of_ble_eq_true rfl⟩ [] (by decide) rfl rfl hl.1 rfl (Nat.le_of_ble_eq_true rfl) dX9_fault_1) [] [0, 1, 2, 3, 4, 5] rfl rfl ⟨rfl, rfl, rfl, rfl, rfl, rfl, trivial⟩ [h0, h1, h2, h3, h4, h5] rfl rfl 6 rfl (by decide +kernel) (fun H locs hw => ?_)
  refine lv_if_eq (tgt := 15) hx hb dX9_fault_4 (by decide) (fun hc => ?_) (fun hc => ?_)
  · have hm := ipos hc hm
    refine lv_bipush (v := -2) hx hb dX9_fault_15 (by decide) ?_
    have hm := Option.some.inj hm
    subst hm
    exact gRetI C0 hw dX9_fault_17
  · have hm := ineg hc hm
    refine lv_aload_n hx hb dX9_fault_7 rfl (lv_at hl 0 rfl) ?_
    refine lv_iload_n hx hb dX9_fault_8 rfl (lv_at hl 1 rfl) ?_
    obtain ⟨o9, ho9, hm⟩ := bindE hm
    refine gCalli (ws' := (W_m_fault g h0 h1 h2 h3 h4 h5 h6 h7 h8 h9 h10 h11 h12 h13 h14 h15 h16 h17 h18 h19 h20 h21 h22 h23 h24 h25 h26 h27 h28 h29 h30 o9.2.1 o9.2.2.1 o9.2.2.2.1 v_jumpTold v_frosts v_gaps v_frostsNow v_notFrosts v_gapsNow v_fell v_fellAll v_sheepFirst v_sheepMany v_seens v_finding v_typed v_texts o9.2.2.2.2.1 o9.2.2.2.2.2.1 o9.2.2.2.2.2.2)) C0 hw (gRunV (As := [.int a0]) (rest := []) C0 hw lkX9_148 (c_m_faultOf l g H.size h0 h1 h2 h3 h4 h5 h6 h7 h8 h9 h10 h11 h12 h13 h14 h15 h16 h17 h18 h19 h20 h21 h22 h23 h24 h25 h26 h27 h28 h29 h30 v_courses v_wide v_hands v_jumpTold v_frosts v_gaps v_frostsNow v_notFrosts v_gapsNow v_fell v_fellAll v_sheepFirst v_sheepMany v_seens v_finding v_typed v_texts v_told v_moods v_strongs a0 o9 ho9) ⟨rfl, rfl⟩ ⟨Nat.le_of_ble_eq_true rfl, Nat.le_of_ble_eq_true rfl⟩ [0, 1, 2, 3, 4, 5] (by decide) rfl 0 rfl rfl rfl hl.1 rfl (Nat.le_of_ble_eq_true rfl) dX9_fault_9) [0, 1, 2, 3, 4, 5] [] rfl rfl trivial [h0, h1, h2, h3, h4, h5] rfl rfl 6 rfl (by decide +kernel) (fun H locs hw => ?_)
    refine lv_goto (tgt := 17) hx hb dX9_fault_12 (by decide) ?_
    have hm := Option.some.inj hm
    subst hm
    exact gRetI C0 hw dX9_fault_17

-- WallHandsModel.isHand(I)Z
abbrev W_m_isHand (g : gG) (h0 h1 h2 h3 h4 h5 h6 h7 h8 h9 h10 h11 h12 h13 h14 h15 h16 h17 h18 h19 h20 h21 h22 h23 h24 h25 h26 h27 h28 h29 h30 : Nat) (v_courses : Int32) (v_wide : Int32) (v_hands : Int32) (v_jumpTold : Int32) (v_frosts : Int32) (v_gaps : Int32) (v_frostsNow : Int32) (v_notFrosts : Int32) (v_gapsNow : Int32) (v_fell : Int32) (v_fellAll : Int32) (v_sheepFirst : Int32) (v_sheepMany : Int32) (v_seens : Int32) (v_finding : Int32) (v_typed : Nat → Int32) (v_texts : Nat → Int32) (v_told : Nat → Int32) (v_moods : Nat → Int32) (v_strongs : Nat → Int32) : va_W := [(h0, .inr (9, [.ref h1, .ref h2, .int v_courses, .int v_wide, .ref h3, .int v_hands, .ref h4, .ref h5, .int v_jumpTold, .int v_frosts, .ref h6, .ref h7, .int v_gaps, .ref h8, .ref h9, .ref h10, .ref h11, .int v_frostsNow, .ref h12, .ref h13, .int v_notFrosts, .int v_gapsNow, .ref h14, .int v_fell, .int v_fellAll, .ref h15, .ref h16, .ref h17, .ref h18, .ref h19, .ref h20, .ref h21, .int v_sheepFirst, .int v_sheepMany, .int v_seens, .ref h22, .ref h23, .ref h24, .ref h25, .ref h26, .ref h27, .ref h28, .ref h29, .ref h30, .int v_finding])), (h1, .inl (gI g, 2, .inl v_typed)), (h2, .inl (gI g, 88, .inl v_texts)), (h3, .inl (gI g, 48, .inl v_told)), (h4, .inl (gI g, 9, .inl v_moods)), (h5, .inl (gI g, 9, .inl v_strongs))]

abbrev rm_m_isHand : Room := { frames := 5, cells := 0, slots := 0, locals := 115 }

set_option maxHeartbeats 1000000 in
set_option maxRecDepth 100000 in
theorem c_m_isHand (l : Launch) (g : gG) (sz : Nat) (h0 h1 h2 h3 h4 h5 h6 h7 h8 h9 h10 h11 h12 h13 h14 h15 h16 h17 h18 h19 h20 h21 h22 h23 h24 h25 h26 h27 h28 h29 h30 : Nat) (v_courses : Int32) (v_wide : Int32) (v_hands : Int32) (v_jumpTold : Int32) (v_frosts : Int32) (v_gaps : Int32) (v_frostsNow : Int32) (v_notFrosts : Int32) (v_gapsNow : Int32) (v_fell : Int32) (v_fellAll : Int32) (v_sheepFirst : Int32) (v_sheepMany : Int32) (v_seens : Int32) (v_finding : Int32) (v_typed : Nat → Int32) (v_texts : Nat → Int32) (v_told : Nat → Int32) (v_moods : Nat → Int32) (v_strongs : Nat → Int32) (a0 : Int32) (r : (Int32 × Int32 × Int32 × Int32 × (Nat → Int32) × (Nat → Int32) × (Nat → Int32))) (hm : f_m_isHand v_courses v_wide v_hands v_typed v_texts v_told v_moods v_strongs a0 = some r) : gMi l yX9_isHand cX9_isHand 2 (some .boolean) rm_m_isHand g sz [.ref h0, .int a0] (W_m_isHand g h0 h1 h2 h3 h4 h5 h6 h7 h8 h9 h10 h11 h12 h13 h14 h15 h16 h17 h18 h19 h20 h21 h22 h23 h24 h25 h26 h27 h28 h29 h30 v_courses v_wide v_hands v_jumpTold v_frosts v_gaps v_frostsNow v_notFrosts v_gapsNow v_fell v_fellAll v_sheepFirst v_sheepMany v_seens v_finding v_typed v_texts v_told v_moods v_strongs) r.1 (W_m_isHand g h0 h1 h2 h3 h4 h5 h6 h7 h8 h9 h10 h11 h12 h13 h14 h15 h16 h17 h18 h19 h20 h21 h22 h23 h24 h25 h26 h27 h28 h29 h30 r.2.1 r.2.2.1 r.2.2.2.1 v_jumpTold v_frosts v_gaps v_frostsNow v_notFrosts v_gapsNow v_fell v_fellAll v_sheepFirst v_sheepMany v_seens v_finding v_typed v_texts r.2.2.2.2.1 r.2.2.2.2.2.1 r.2.2.2.2.2.2) := by
  unfold f_m_isHand at hm
  refine gEnterI (by decide) (Nat.le_of_ble_eq_true rfl) (fun p e s m below meth c A C0 H locs hw ls hl => ?_)
  obtain ⟨hx, hb, hr, hml, hown, hts, hlocks, hK, hA⟩ := id C0
  have C0 : gX p s m [.ref h0, .int a0].toArray meth c cX9_isHand 2 (some .boolean) RX9 g A := C0
  have hl : lv_has ls 2 [(0, .ref h0), (1, .int a0)] := hl
  refine lv_aload_n hx hb dX9_isHand_0 rfl (lv_at hl 0 rfl) ?_
  obtain ⟨o1, ho1, hm⟩ := bindE hm
  refine gCallv (ws' := (W_m_isHand g h0 h1 h2 h3 h4 h5 h6 h7 h8 h9 h10 h11 h12 h13 h14 h15 h16 h17 h18 h19 h20 h21 h22 h23 h24 h25 h26 h27 h28 h29 h30 o1.1 o1.2.1 o1.2.2.1 v_jumpTold v_frosts v_gaps v_frostsNow v_notFrosts v_gapsNow v_fell v_fellAll v_sheepFirst v_sheepMany v_seens v_finding v_typed v_texts o1.2.2.2.1 o1.2.2.2.2.1 o1.2.2.2.2.2)) C0 hw (gRunV (As := []) (rest := []) C0 hw lkX9_151 (c_m_reads l g H.size h0 h1 h2 h3 h4 h5 h6 h7 h8 h9 h10 h11 h12 h13 h14 h15 h16 h17 h18 h19 h20 h21 h22 h23 h24 h25 h26 h27 h28 h29 h30 v_courses v_wide v_hands v_jumpTold v_frosts v_gaps v_frostsNow v_notFrosts v_gapsNow v_fell v_fellAll v_sheepFirst v_sheepMany v_seens v_finding v_typed v_texts v_told v_moods v_strongs o1 ho1) ⟨rfl, rfl⟩ ⟨Nat.le_of_ble_eq_true rfl, Nat.le_of_ble_eq_true rfl⟩ [0, 1, 2, 3, 4, 5] (by decide) rfl 0 rfl rfl rfl hl.1 rfl (Nat.le_of_ble_eq_true rfl) dX9_isHand_1) [0, 1, 2, 3, 4, 5] [] rfl rfl trivial [h0, h1, h2, h3, h4, h5] rfl rfl 6 rfl (by decide +kernel) (fun H locs hw => ?_)
  refine lv_iload_n hx hb dX9_isHand_4 rfl (lv_at hl 1 rfl) ?_
  refine lv_iconst (v := 0) hx hb dX9_isHand_5 (by decide) ?_
  refine lv_aload_n hx hb dX9_isHand_6 rfl (lv_at hl 0 rfl) ?_
  refine gGet C0 hw flX9_135 0 rfl rfl dX9_isHand_7 ?_
  refine lv_iconst (v := 1) hx hb dX9_isHand_10 (by decide) ?_
  refine lv_isub hx hb dX9_isHand_11 ?_
  obtain ⟨o12, ho12, hm⟩ := bindE hm
  refine gCalli (ws' := (W_m_isHand g h0 h1 h2 h3 h4 h5 h6 h7 h8 h9 h10 h11 h12 h13 h14 h15 h16 h17 h18 h19 h20 h21 h22 h23 h24 h25 h26 h27 h28 h29 h30 o1.1 o1.2.1 o1.2.2.1 v_jumpTold v_frosts v_gaps v_frostsNow v_notFrosts v_gapsNow v_fell v_fellAll v_sheepFirst v_sheepMany v_seens v_finding v_typed v_texts o1.2.2.2.1 o1.2.2.2.2.1 o1.2.2.2.2.2)) C0 hw (gRunS (As := [.int a0, .int (0 : Int32), .int (o1.2.2.1 - (1 : Int32))]) (rest := []) C0 hw lkX9_107 (c_m_in l g H.size  a0 (0 : Int32) (o1.2.2.1 - (1 : Int32)) o12 ho12) ⟨rfl, rfl⟩ ⟨Nat.le_of_ble_eq_true rfl, Nat.le_of_ble_eq_true rfl⟩ [] (by decide) rfl rfl hl.1 rfl (Nat.le_of_ble_eq_true rfl) dX9_isHand_12) [] [0, 1, 2, 3, 4, 5] rfl rfl ⟨rfl, rfl, rfl, rfl, rfl, rfl, trivial⟩ [h0, h1, h2, h3, h4, h5] rfl rfl 6 rfl (by decide +kernel) (fun H locs hw => ?_)
  obtain ⟨hB0, hm⟩ := gdE hm
  have hB := of_decide_eq_true hB0
  have hm := Option.some.inj hm
  subst hm
  exact gRetZ C0 hw hB dX9_isHand_15

-- WallHandsModel.stoneOf(I)I
abbrev W_m_stoneOf (g : gG) (h0 h1 h2 h3 h4 h5 h6 h7 h8 h9 h10 h11 h12 h13 h14 h15 h16 h17 h18 h19 h20 h21 h22 h23 h24 h25 h26 h27 h28 h29 h30 : Nat) (v_courses : Int32) (v_wide : Int32) (v_hands : Int32) (v_jumpTold : Int32) (v_frosts : Int32) (v_gaps : Int32) (v_frostsNow : Int32) (v_notFrosts : Int32) (v_gapsNow : Int32) (v_fell : Int32) (v_fellAll : Int32) (v_sheepFirst : Int32) (v_sheepMany : Int32) (v_seens : Int32) (v_finding : Int32) (v_typed : Nat → Int32) (v_texts : Nat → Int32) (v_told : Nat → Int32) (v_moods : Nat → Int32) (v_strongs : Nat → Int32) : va_W := [(h0, .inr (9, [.ref h1, .ref h2, .int v_courses, .int v_wide, .ref h3, .int v_hands, .ref h4, .ref h5, .int v_jumpTold, .int v_frosts, .ref h6, .ref h7, .int v_gaps, .ref h8, .ref h9, .ref h10, .ref h11, .int v_frostsNow, .ref h12, .ref h13, .int v_notFrosts, .int v_gapsNow, .ref h14, .int v_fell, .int v_fellAll, .ref h15, .ref h16, .ref h17, .ref h18, .ref h19, .ref h20, .ref h21, .int v_sheepFirst, .int v_sheepMany, .int v_seens, .ref h22, .ref h23, .ref h24, .ref h25, .ref h26, .ref h27, .ref h28, .ref h29, .ref h30, .int v_finding])), (h1, .inl (gI g, 2, .inl v_typed)), (h2, .inl (gI g, 88, .inl v_texts)), (h3, .inl (gI g, 48, .inl v_told)), (h4, .inl (gI g, 9, .inl v_moods)), (h5, .inl (gI g, 9, .inl v_strongs))]

abbrev rm_m_stoneOf : Room := { frames := 5, cells := 0, slots := 0, locals := 115 }

set_option maxHeartbeats 1000000 in
set_option maxRecDepth 100000 in
theorem c_m_stoneOf (l : Launch) (g : gG) (sz : Nat) (h0 h1 h2 h3 h4 h5 h6 h7 h8 h9 h10 h11 h12 h13 h14 h15 h16 h17 h18 h19 h20 h21 h22 h23 h24 h25 h26 h27 h28 h29 h30 : Nat) (v_courses : Int32) (v_wide : Int32) (v_hands : Int32) (v_jumpTold : Int32) (v_frosts : Int32) (v_gaps : Int32) (v_frostsNow : Int32) (v_notFrosts : Int32) (v_gapsNow : Int32) (v_fell : Int32) (v_fellAll : Int32) (v_sheepFirst : Int32) (v_sheepMany : Int32) (v_seens : Int32) (v_finding : Int32) (v_typed : Nat → Int32) (v_texts : Nat → Int32) (v_told : Nat → Int32) (v_moods : Nat → Int32) (v_strongs : Nat → Int32) (a0 : Int32) (r : (Int32 × Int32 × Int32 × Int32 × (Nat → Int32) × (Nat → Int32) × (Nat → Int32))) (hm : f_m_stoneOf v_courses v_wide v_hands v_typed v_texts v_told v_moods v_strongs a0 = some r) : gMi l yX9_stoneOf cX9_stoneOf 2 (some .int) rm_m_stoneOf g sz [.ref h0, .int a0] (W_m_stoneOf g h0 h1 h2 h3 h4 h5 h6 h7 h8 h9 h10 h11 h12 h13 h14 h15 h16 h17 h18 h19 h20 h21 h22 h23 h24 h25 h26 h27 h28 h29 h30 v_courses v_wide v_hands v_jumpTold v_frosts v_gaps v_frostsNow v_notFrosts v_gapsNow v_fell v_fellAll v_sheepFirst v_sheepMany v_seens v_finding v_typed v_texts v_told v_moods v_strongs) r.1 (W_m_stoneOf g h0 h1 h2 h3 h4 h5 h6 h7 h8 h9 h10 h11 h12 h13 h14 h15 h16 h17 h18 h19 h20 h21 h22 h23 h24 h25 h26 h27 h28 h29 h30 r.2.1 r.2.2.1 r.2.2.2.1 v_jumpTold v_frosts v_gaps v_frostsNow v_notFrosts v_gapsNow v_fell v_fellAll v_sheepFirst v_sheepMany v_seens v_finding v_typed v_texts r.2.2.2.2.1 r.2.2.2.2.2.1 r.2.2.2.2.2.2) := by
  unfold f_m_stoneOf at hm
  refine gEnterI (by decide) (Nat.le_of_ble_eq_true rfl) (fun p e s m below meth c A C0 H locs hw ls hl => ?_)
  obtain ⟨hx, hb, hr, hml, hown, hts, hlocks, hK, hA⟩ := id C0
  have C0 : gX p s m [.ref h0, .int a0].toArray meth c cX9_stoneOf 2 (some .int) RX9 g A := C0
  have hl : lv_has ls 2 [(0, .ref h0), (1, .int a0)] := hl
  refine lv_aload_n hx hb dX9_stoneOf_0 rfl (lv_at hl 0 rfl) ?_
  obtain ⟨o1, ho1, hm⟩ := bindE hm
  refine gCallv (ws' := (W_m_stoneOf g h0 h1 h2 h3 h4 h5 h6 h7 h8 h9 h10 h11 h12 h13 h14 h15 h16 h17 h18 h19 h20 h21 h22 h23 h24 h25 h26 h27 h28 h29 h30 o1.1 o1.2.1 o1.2.2.1 v_jumpTold v_frosts v_gaps v_frostsNow v_notFrosts v_gapsNow v_fell v_fellAll v_sheepFirst v_sheepMany v_seens v_finding v_typed v_texts o1.2.2.2.1 o1.2.2.2.2.1 o1.2.2.2.2.2)) C0 hw (gRunV (As := []) (rest := []) C0 hw lkX9_151 (c_m_reads l g H.size h0 h1 h2 h3 h4 h5 h6 h7 h8 h9 h10 h11 h12 h13 h14 h15 h16 h17 h18 h19 h20 h21 h22 h23 h24 h25 h26 h27 h28 h29 h30 v_courses v_wide v_hands v_jumpTold v_frosts v_gaps v_frostsNow v_notFrosts v_gapsNow v_fell v_fellAll v_sheepFirst v_sheepMany v_seens v_finding v_typed v_texts v_told v_moods v_strongs o1 ho1) ⟨rfl, rfl⟩ ⟨Nat.le_of_ble_eq_true rfl, Nat.le_of_ble_eq_true rfl⟩ [0, 1, 2, 3, 4, 5] (by decide) rfl 0 rfl rfl rfl hl.1 rfl (Nat.le_of_ble_eq_true rfl) dX9_stoneOf_1) [0, 1, 2, 3, 4, 5] [] rfl rfl trivial [h0, h1, h2, h3, h4, h5] rfl rfl 6 rfl (by decide +kernel) (fun H locs hw => ?_)
  refine lv_aload_n hx hb dX9_stoneOf_4 rfl (lv_at hl 0 rfl) ?_
  refine gGet C0 hw flX9_16 0 rfl rfl dX9_stoneOf_5 ?_
  refine lv_iload_n hx hb dX9_stoneOf_8 rfl (lv_at hl 1 rfl) ?_
  obtain ⟨hin, hm⟩ := gdE hm
  have hin := inbE hin
  refine gAldI C0 hw 3 rfl hin dX9_stoneOf_9 ?_
  have hm := Option.some.inj hm
  subst hm
  exact gRetI C0 hw dX9_stoneOf_10

-- WallHandsModel.stone(II)I
abbrev W_m_stone (g : gG) (h0 h1 h2 h3 h4 h5 h6 h7 h8 h9 h10 h11 h12 h13 h14 h15 h16 h17 h18 h19 h20 h21 h22 h23 h24 h25 h26 h27 h28 h29 h30 : Nat) (v_courses : Int32) (v_wide : Int32) (v_hands : Int32) (v_jumpTold : Int32) (v_frosts : Int32) (v_gaps : Int32) (v_frostsNow : Int32) (v_notFrosts : Int32) (v_gapsNow : Int32) (v_fell : Int32) (v_fellAll : Int32) (v_sheepFirst : Int32) (v_sheepMany : Int32) (v_seens : Int32) (v_finding : Int32) (v_typed : Nat → Int32) (v_texts : Nat → Int32) (v_told : Nat → Int32) (v_moods : Nat → Int32) (v_strongs : Nat → Int32) : va_W := [(h0, .inr (9, [.ref h1, .ref h2, .int v_courses, .int v_wide, .ref h3, .int v_hands, .ref h4, .ref h5, .int v_jumpTold, .int v_frosts, .ref h6, .ref h7, .int v_gaps, .ref h8, .ref h9, .ref h10, .ref h11, .int v_frostsNow, .ref h12, .ref h13, .int v_notFrosts, .int v_gapsNow, .ref h14, .int v_fell, .int v_fellAll, .ref h15, .ref h16, .ref h17, .ref h18, .ref h19, .ref h20, .ref h21, .int v_sheepFirst, .int v_sheepMany, .int v_seens, .ref h22, .ref h23, .ref h24, .ref h25, .ref h26, .ref h27, .ref h28, .ref h29, .ref h30, .int v_finding])), (h1, .inl (gI g, 2, .inl v_typed)), (h2, .inl (gI g, 88, .inl v_texts)), (h3, .inl (gI g, 48, .inl v_told)), (h4, .inl (gI g, 9, .inl v_moods)), (h5, .inl (gI g, 9, .inl v_strongs))]

abbrev rm_m_stone : Room := { frames := 6, cells := 0, slots := 0, locals := 136 }

set_option maxHeartbeats 1000000 in
set_option maxRecDepth 100000 in
theorem c_m_stone (l : Launch) (g : gG) (sz : Nat) (h0 h1 h2 h3 h4 h5 h6 h7 h8 h9 h10 h11 h12 h13 h14 h15 h16 h17 h18 h19 h20 h21 h22 h23 h24 h25 h26 h27 h28 h29 h30 : Nat) (v_courses : Int32) (v_wide : Int32) (v_hands : Int32) (v_jumpTold : Int32) (v_frosts : Int32) (v_gaps : Int32) (v_frostsNow : Int32) (v_notFrosts : Int32) (v_gapsNow : Int32) (v_fell : Int32) (v_fellAll : Int32) (v_sheepFirst : Int32) (v_sheepMany : Int32) (v_seens : Int32) (v_finding : Int32) (v_typed : Nat → Int32) (v_texts : Nat → Int32) (v_told : Nat → Int32) (v_moods : Nat → Int32) (v_strongs : Nat → Int32) (a0 : Int32) (a1 : Int32) (r : (Int32 × Int32 × Int32 × Int32 × (Nat → Int32) × (Nat → Int32) × (Nat → Int32))) (hm : f_m_stone v_courses v_wide v_hands v_typed v_texts v_told v_moods v_strongs a0 a1 = some r) : gMi l yX9_stone cX9_stone 3 (some .int) rm_m_stone g sz [.ref h0, .int a0, .int a1] (W_m_stone g h0 h1 h2 h3 h4 h5 h6 h7 h8 h9 h10 h11 h12 h13 h14 h15 h16 h17 h18 h19 h20 h21 h22 h23 h24 h25 h26 h27 h28 h29 h30 v_courses v_wide v_hands v_jumpTold v_frosts v_gaps v_frostsNow v_notFrosts v_gapsNow v_fell v_fellAll v_sheepFirst v_sheepMany v_seens v_finding v_typed v_texts v_told v_moods v_strongs) r.1 (W_m_stone g h0 h1 h2 h3 h4 h5 h6 h7 h8 h9 h10 h11 h12 h13 h14 h15 h16 h17 h18 h19 h20 h21 h22 h23 h24 h25 h26 h27 h28 h29 h30 r.2.1 r.2.2.1 r.2.2.2.1 v_jumpTold v_frosts v_gaps v_frostsNow v_notFrosts v_gapsNow v_fell v_fellAll v_sheepFirst v_sheepMany v_seens v_finding v_typed v_texts r.2.2.2.2.1 r.2.2.2.2.2.1 r.2.2.2.2.2.2) := by
  unfold f_m_stone at hm
  refine gEnterI (by decide) (Nat.le_of_ble_eq_true rfl) (fun p e s m below meth c A C0 H locs hw ls hl => ?_)
  obtain ⟨hx, hb, hr, hml, hown, hts, hlocks, hK, hA⟩ := id C0
  have C0 : gX p s m [.ref h0, .int a0, .int a1].toArray meth c cX9_stone 3 (some .int) RX9 g A := C0
  have hl : lv_has ls 3 [(0, .ref h0), (1, .int a0), (2, .int a1)] := hl
  refine lv_iload_n hx hb dX9_stone_0 rfl (lv_at hl 1 rfl) ?_
  refine lv_iload_n hx hb dX9_stone_1 rfl (lv_at hl 2 rfl) ?_
  obtain ⟨o2, ho2, hm⟩ := bindE hm
  refine gCalli (ws' := (W_m_stone g h0 h1 h2 h3 h4 h5 h6 h7 h8 h9 h10 h11 h12 h13 h14 h15 h16 h17 h18 h19 h20 h21 h22 h23 h24 h25 h26 h27 h28 h29 h30 v_courses v_wide v_hands v_jumpTold v_frosts v_gaps v_frostsNow v_notFrosts v_gapsNow v_fell v_fellAll v_sheepFirst v_sheepMany v_seens v_finding v_typed v_texts v_told v_moods v_strongs)) C0 hw (gRunS (As := [.int a0, .int a1]) (rest := []) C0 hw lkX9_154 (c_m_isPlace l g H.size  a0 a1 o2 ho2) ⟨rfl, rfl⟩ ⟨Nat.le_of_ble_eq_true rfl, Nat.le_of_ble_eq_true rfl⟩ [] (by decide) rfl rfl hl.1 rfl (Nat.le_of_ble_eq_true rfl) dX9_stone_2) [] [0, 1, 2, 3, 4, 5] rfl rfl ⟨rfl, rfl, rfl, rfl, rfl, rfl, trivial⟩ [h0, h1, h2, h3, h4, h5] rfl rfl 6 rfl (by decide +kernel) (fun H locs hw => ?_)
  refine lv_if_eq (tgt := 21) hx hb dX9_stone_5 (by decide) (fun hc => ?_) (fun hc => ?_)
  · have hm := ipos hc hm
    refine lv_bipush (v := -2) hx hb dX9_stone_21 (by decide) ?_
    have hm := Option.some.inj hm
    subst hm
    exact gRetI C0 hw dX9_stone_23
  · have hm := ineg hc hm
    refine lv_aload_n hx hb dX9_stone_8 rfl (lv_at hl 0 rfl) ?_
    refine lv_bipush (v := 8) hx hb dX9_stone_9 (by decide) ?_
    refine lv_iload_n hx hb dX9_stone_11 rfl (lv_at hl 1 rfl) ?_
    refine lv_imul hx hb dX9_stone_12 ?_
    refine lv_iload_n hx hb dX9_stone_13 rfl (lv_at hl 2 rfl) ?_
    refine lv_iadd hx hb dX9_stone_14 ?_
    obtain ⟨o15, ho15, hm⟩ := bindE hm
    refine gCalli (ws' := (W_m_stone g h0 h1 h2 h3 h4 h5 h6 h7 h8 h9 h10 h11 h12 h13 h14 h15 h16 h17 h18 h19 h20 h21 h22 h23 h24 h25 h26 h27 h28 h29 h30 o15.2.1 o15.2.2.1 o15.2.2.2.1 v_jumpTold v_frosts v_gaps v_frostsNow v_notFrosts v_gapsNow v_fell v_fellAll v_sheepFirst v_sheepMany v_seens v_finding v_typed v_texts o15.2.2.2.2.1 o15.2.2.2.2.2.1 o15.2.2.2.2.2.2)) C0 hw (gRunV (As := [.int (((8 : Int32) * a0) + a1)]) (rest := []) C0 hw lkX9_158 (c_m_stoneOf l g H.size h0 h1 h2 h3 h4 h5 h6 h7 h8 h9 h10 h11 h12 h13 h14 h15 h16 h17 h18 h19 h20 h21 h22 h23 h24 h25 h26 h27 h28 h29 h30 v_courses v_wide v_hands v_jumpTold v_frosts v_gaps v_frostsNow v_notFrosts v_gapsNow v_fell v_fellAll v_sheepFirst v_sheepMany v_seens v_finding v_typed v_texts v_told v_moods v_strongs (((8 : Int32) * a0) + a1) o15 ho15) ⟨rfl, rfl⟩ ⟨Nat.le_of_ble_eq_true rfl, Nat.le_of_ble_eq_true rfl⟩ [0, 1, 2, 3, 4, 5] (by decide) rfl 0 rfl rfl rfl hl.1 rfl (Nat.le_of_ble_eq_true rfl) dX9_stone_15) [0, 1, 2, 3, 4, 5] [] rfl rfl trivial [h0, h1, h2, h3, h4, h5] rfl rfl 6 rfl (by decide +kernel) (fun H locs hw => ?_)
    refine lv_goto (tgt := 23) hx hb dX9_stone_18 (by decide) ?_
    have hm := Option.some.inj hm
    subst hm
    exact gRetI C0 hw dX9_stone_23

-- WallHandsModel.handOf(II)I
abbrev W_m_handOf (g : gG) (h0 h1 h2 h3 h4 h5 h6 h7 h8 h9 h10 h11 h12 h13 h14 h15 h16 h17 h18 h19 h20 h21 h22 h23 h24 h25 h26 h27 h28 h29 h30 : Nat) (v_courses : Int32) (v_wide : Int32) (v_hands : Int32) (v_jumpTold : Int32) (v_frosts : Int32) (v_gaps : Int32) (v_frostsNow : Int32) (v_notFrosts : Int32) (v_gapsNow : Int32) (v_fell : Int32) (v_fellAll : Int32) (v_sheepFirst : Int32) (v_sheepMany : Int32) (v_seens : Int32) (v_finding : Int32) (v_moods : Nat → Int32) (v_strongs : Nat → Int32) : va_W := [(h0, .inr (9, [.ref h3, .ref h4, .int v_courses, .int v_wide, .ref h5, .int v_hands, .ref h1, .ref h2, .int v_jumpTold, .int v_frosts, .ref h6, .ref h7, .int v_gaps, .ref h8, .ref h9, .ref h10, .ref h11, .int v_frostsNow, .ref h12, .ref h13, .int v_notFrosts, .int v_gapsNow, .ref h14, .int v_fell, .int v_fellAll, .ref h15, .ref h16, .ref h17, .ref h18, .ref h19, .ref h20, .ref h21, .int v_sheepFirst, .int v_sheepMany, .int v_seens, .ref h22, .ref h23, .ref h24, .ref h25, .ref h26, .ref h27, .ref h28, .ref h29, .ref h30, .int v_finding])), (h1, .inl (gI g, 9, .inl v_moods)), (h2, .inl (gI g, 9, .inl v_strongs))]

abbrev rm_m_handOf : Room := { frames := 0, cells := 0, slots := 0, locals := 0 }

set_option maxHeartbeats 1000000 in
set_option maxRecDepth 100000 in
theorem c_m_handOf (l : Launch) (g : gG) (sz : Nat) (h0 h1 h2 h3 h4 h5 h6 h7 h8 h9 h10 h11 h12 h13 h14 h15 h16 h17 h18 h19 h20 h21 h22 h23 h24 h25 h26 h27 h28 h29 h30 : Nat) (v_courses : Int32) (v_wide : Int32) (v_hands : Int32) (v_jumpTold : Int32) (v_frosts : Int32) (v_gaps : Int32) (v_frostsNow : Int32) (v_notFrosts : Int32) (v_gapsNow : Int32) (v_fell : Int32) (v_fellAll : Int32) (v_sheepFirst : Int32) (v_sheepMany : Int32) (v_seens : Int32) (v_finding : Int32) (v_moods : Nat → Int32) (v_strongs : Nat → Int32) (a0 : Int32) (a1 : Int32) (r : Int32) (hm : f_m_handOf v_moods v_strongs a0 a1 = some r) : gMi l yX9_handOf cX9_handOf 3 (some .int) rm_m_handOf g sz [.ref h0, .int a0, .int a1] (W_m_handOf g h0 h1 h2 h3 h4 h5 h6 h7 h8 h9 h10 h11 h12 h13 h14 h15 h16 h17 h18 h19 h20 h21 h22 h23 h24 h25 h26 h27 h28 h29 h30 v_courses v_wide v_hands v_jumpTold v_frosts v_gaps v_frostsNow v_notFrosts v_gapsNow v_fell v_fellAll v_sheepFirst v_sheepMany v_seens v_finding v_moods v_strongs) r (W_m_handOf g h0 h1 h2 h3 h4 h5 h6 h7 h8 h9 h10 h11 h12 h13 h14 h15 h16 h17 h18 h19 h20 h21 h22 h23 h24 h25 h26 h27 h28 h29 h30 v_courses v_wide v_hands v_jumpTold v_frosts v_gaps v_frostsNow v_notFrosts v_gapsNow v_fell v_fellAll v_sheepFirst v_sheepMany v_seens v_finding v_moods v_strongs) := by
  unfold f_m_handOf at hm
  refine gEnterI (by decide) (Nat.le_of_ble_eq_true rfl) (fun p e s m below meth c A C0 H locs hw ls hl => ?_)
  obtain ⟨hx, hb, hr, hml, hown, hts, hlocks, hK, hA⟩ := id C0
  have C0 : gX p s m [.ref h0, .int a0, .int a1].toArray meth c cX9_handOf 3 (some .int) RX9 g A := C0
  have hl : lv_has ls 3 [(0, .ref h0), (1, .int a0), (2, .int a1)] := hl
  refine lv_iload_n hx hb dX9_handOf_0 rfl (lv_at hl 2 rfl) ?_
  refine lv_if_ne (tgt := 13) hx hb dX9_handOf_1 (by decide) (fun hc => ?_) (fun hc => ?_)
  · have hm := ineg hc hm
    refine lv_aload_n hx hb dX9_handOf_13 rfl (lv_at hl 0 rfl) ?_
    refine gGet C0 hw flX9_22 0 rfl rfl dX9_handOf_14 ?_
    refine lv_iload_n hx hb dX9_handOf_17 rfl (lv_at hl 1 rfl) ?_
    obtain ⟨hin, hm⟩ := gdE hm
    have hin := inbE hin
    refine gAldI C0 hw 2 rfl hin dX9_handOf_18 ?_
    have hm := Option.some.inj hm
    subst hm
    exact gRetI C0 hw dX9_handOf_19
  · have hm := ipos hc hm
    refine lv_aload_n hx hb dX9_handOf_4 rfl (lv_at hl 0 rfl) ?_
    refine gGet C0 hw flX9_19 0 rfl rfl dX9_handOf_5 ?_
    refine lv_iload_n hx hb dX9_handOf_8 rfl (lv_at hl 1 rfl) ?_
    obtain ⟨hin, hm⟩ := gdE hm
    have hin := inbE hin
    refine gAldI C0 hw 1 rfl hin dX9_handOf_9 ?_
    refine lv_goto (tgt := 19) hx hb dX9_handOf_10 (by decide) ?_
    have hm := Option.some.inj hm
    subst hm
    exact gRetI C0 hw dX9_handOf_19

-- WallHandsModel.hand(II)I
abbrev W_m_hand (g : gG) (h0 h1 h2 h3 h4 h5 h6 h7 h8 h9 h10 h11 h12 h13 h14 h15 h16 h17 h18 h19 h20 h21 h22 h23 h24 h25 h26 h27 h28 h29 h30 : Nat) (v_courses : Int32) (v_wide : Int32) (v_hands : Int32) (v_jumpTold : Int32) (v_frosts : Int32) (v_gaps : Int32) (v_frostsNow : Int32) (v_notFrosts : Int32) (v_gapsNow : Int32) (v_fell : Int32) (v_fellAll : Int32) (v_sheepFirst : Int32) (v_sheepMany : Int32) (v_seens : Int32) (v_finding : Int32) (v_typed : Nat → Int32) (v_texts : Nat → Int32) (v_told : Nat → Int32) (v_moods : Nat → Int32) (v_strongs : Nat → Int32) : va_W := [(h0, .inr (9, [.ref h1, .ref h2, .int v_courses, .int v_wide, .ref h3, .int v_hands, .ref h4, .ref h5, .int v_jumpTold, .int v_frosts, .ref h6, .ref h7, .int v_gaps, .ref h8, .ref h9, .ref h10, .ref h11, .int v_frostsNow, .ref h12, .ref h13, .int v_notFrosts, .int v_gapsNow, .ref h14, .int v_fell, .int v_fellAll, .ref h15, .ref h16, .ref h17, .ref h18, .ref h19, .ref h20, .ref h21, .int v_sheepFirst, .int v_sheepMany, .int v_seens, .ref h22, .ref h23, .ref h24, .ref h25, .ref h26, .ref h27, .ref h28, .ref h29, .ref h30, .int v_finding])), (h1, .inl (gI g, 2, .inl v_typed)), (h2, .inl (gI g, 88, .inl v_texts)), (h3, .inl (gI g, 48, .inl v_told)), (h4, .inl (gI g, 9, .inl v_moods)), (h5, .inl (gI g, 9, .inl v_strongs))]

abbrev rm_m_hand : Room := { frames := 6, cells := 0, slots := 0, locals := 136 }

set_option maxHeartbeats 1000000 in
set_option maxRecDepth 100000 in
theorem c_m_hand (l : Launch) (g : gG) (sz : Nat) (h0 h1 h2 h3 h4 h5 h6 h7 h8 h9 h10 h11 h12 h13 h14 h15 h16 h17 h18 h19 h20 h21 h22 h23 h24 h25 h26 h27 h28 h29 h30 : Nat) (v_courses : Int32) (v_wide : Int32) (v_hands : Int32) (v_jumpTold : Int32) (v_frosts : Int32) (v_gaps : Int32) (v_frostsNow : Int32) (v_notFrosts : Int32) (v_gapsNow : Int32) (v_fell : Int32) (v_fellAll : Int32) (v_sheepFirst : Int32) (v_sheepMany : Int32) (v_seens : Int32) (v_finding : Int32) (v_typed : Nat → Int32) (v_texts : Nat → Int32) (v_told : Nat → Int32) (v_moods : Nat → Int32) (v_strongs : Nat → Int32) (a0 : Int32) (a1 : Int32) (r : (Int32 × Int32 × Int32 × Int32 × (Nat → Int32) × (Nat → Int32) × (Nat → Int32))) (hm : f_m_hand v_courses v_wide v_hands v_typed v_texts v_told v_moods v_strongs a0 a1 = some r) : gMi l yX9_hand cX9_hand 3 (some .int) rm_m_hand g sz [.ref h0, .int a0, .int a1] (W_m_hand g h0 h1 h2 h3 h4 h5 h6 h7 h8 h9 h10 h11 h12 h13 h14 h15 h16 h17 h18 h19 h20 h21 h22 h23 h24 h25 h26 h27 h28 h29 h30 v_courses v_wide v_hands v_jumpTold v_frosts v_gaps v_frostsNow v_notFrosts v_gapsNow v_fell v_fellAll v_sheepFirst v_sheepMany v_seens v_finding v_typed v_texts v_told v_moods v_strongs) r.1 (W_m_hand g h0 h1 h2 h3 h4 h5 h6 h7 h8 h9 h10 h11 h12 h13 h14 h15 h16 h17 h18 h19 h20 h21 h22 h23 h24 h25 h26 h27 h28 h29 h30 r.2.1 r.2.2.1 r.2.2.2.1 v_jumpTold v_frosts v_gaps v_frostsNow v_notFrosts v_gapsNow v_fell v_fellAll v_sheepFirst v_sheepMany v_seens v_finding v_typed v_texts r.2.2.2.2.1 r.2.2.2.2.2.1 r.2.2.2.2.2.2) := by
  unfold f_m_hand at hm
  refine gEnterI (by decide) (Nat.le_of_ble_eq_true rfl) (fun p e s m below meth c A C0 H locs hw ls hl => ?_)
  obtain ⟨hx, hb, hr, hml, hown, hts, hlocks, hK, hA⟩ := id C0
  have C0 : gX p s m [.ref h0, .int a0, .int a1].toArray meth c cX9_hand 3 (some .int) RX9 g A := C0
  have hl : lv_has ls 3 [(0, .ref h0), (1, .int a0), (2, .int a1)] := hl
  refine lv_aload_n hx hb dX9_hand_0 rfl (lv_at hl 0 rfl) ?_
  refine lv_iload_n hx hb dX9_hand_1 rfl (lv_at hl 1 rfl) ?_
  obtain ⟨o2, ho2, hm⟩ := bindE hm
  refine gCalli (ws' := (W_m_hand g h0 h1 h2 h3 h4 h5 h6 h7 h8 h9 h10 h11 h12 h13 h14 h15 h16 h17 h18 h19 h20 h21 h22 h23 h24 h25 h26 h27 h28 h29 h30 o2.2.1 o2.2.2.1 o2.2.2.2.1 v_jumpTold v_frosts v_gaps v_frostsNow v_notFrosts v_gapsNow v_fell v_fellAll v_sheepFirst v_sheepMany v_seens v_finding v_typed v_texts o2.2.2.2.2.1 o2.2.2.2.2.2.1 o2.2.2.2.2.2.2)) C0 hw (gRunV (As := [.int a0]) (rest := []) C0 hw lkX9_161 (c_m_isHand l g H.size h0 h1 h2 h3 h4 h5 h6 h7 h8 h9 h10 h11 h12 h13 h14 h15 h16 h17 h18 h19 h20 h21 h22 h23 h24 h25 h26 h27 h28 h29 h30 v_courses v_wide v_hands v_jumpTold v_frosts v_gaps v_frostsNow v_notFrosts v_gapsNow v_fell v_fellAll v_sheepFirst v_sheepMany v_seens v_finding v_typed v_texts v_told v_moods v_strongs a0 o2 ho2) ⟨rfl, rfl⟩ ⟨Nat.le_of_ble_eq_true rfl, Nat.le_of_ble_eq_true rfl⟩ [0, 1, 2, 3, 4, 5] (by decide) rfl 0 rfl rfl rfl hl.1 rfl (Nat.le_of_ble_eq_true rfl) dX9_hand_2) [0, 1, 2, 3, 4, 5] [] rfl rfl trivial [h0, h1, h2, h3, h4, h5] rfl rfl 6 rfl (by decide +kernel) (fun H locs hw => ?_)
  refine lv_if_eq (tgt := 26) hx hb dX9_hand_5 (by decide) (fun hc => ?_) (fun hc => ?_)
  · have hm := ipos hc hm
    refine lv_bipush (v := -2) hx hb dX9_hand_26 (by decide) ?_
    have hm := Option.some.inj hm
    subst hm
    exact gRetI C0 hw dX9_hand_28
  · have hm := ineg hc hm
    refine lv_iload_n hx hb dX9_hand_8 rfl (lv_at hl 2 rfl) ?_
    refine lv_iconst (v := 0) hx hb dX9_hand_9 (by decide) ?_
    refine lv_iconst (v := 1) hx hb dX9_hand_10 (by decide) ?_
    obtain ⟨o11, ho11, hm⟩ := bindE hm
    refine gCalli (ws' := (W_m_hand g h0 h1 h2 h3 h4 h5 h6 h7 h8 h9 h10 h11 h12 h13 h14 h15 h16 h17 h18 h19 h20 h21 h22 h23 h24 h25 h26 h27 h28 h29 h30 o2.2.1 o2.2.2.1 o2.2.2.2.1 v_jumpTold v_frosts v_gaps v_frostsNow v_notFrosts v_gapsNow v_fell v_fellAll v_sheepFirst v_sheepMany v_seens v_finding v_typed v_texts o2.2.2.2.2.1 o2.2.2.2.2.2.1 o2.2.2.2.2.2.2)) C0 hw (gRunS (As := [.int a1, .int (0 : Int32), .int (1 : Int32)]) (rest := []) C0 hw lkX9_107 (c_m_in l g H.size  a1 (0 : Int32) (1 : Int32) o11 ho11) ⟨rfl, rfl⟩ ⟨Nat.le_of_ble_eq_true rfl, Nat.le_of_ble_eq_true rfl⟩ [] (by decide) rfl rfl hl.1 rfl (Nat.le_of_ble_eq_true rfl) dX9_hand_11) [] [0, 1, 2, 3, 4, 5] rfl rfl ⟨rfl, rfl, rfl, rfl, rfl, rfl, trivial⟩ [h0, h1, h2, h3, h4, h5] rfl rfl 6 rfl (by decide +kernel) (fun H locs hw => ?_)
    refine lv_if_eq (tgt := 26) hx hb dX9_hand_14 (by decide) (fun hc => ?_) (fun hc => ?_)
    · have hm := ipos hc hm
      refine lv_bipush (v := -2) hx hb dX9_hand_26 (by decide) ?_
      have hm := Option.some.inj hm
      subst hm
      exact gRetI C0 hw dX9_hand_28
    · have hm := ineg hc hm
      refine lv_aload_n hx hb dX9_hand_17 rfl (lv_at hl 0 rfl) ?_
      refine lv_iload_n hx hb dX9_hand_18 rfl (lv_at hl 1 rfl) ?_
      refine lv_iload_n hx hb dX9_hand_19 rfl (lv_at hl 2 rfl) ?_
      obtain ⟨o20, ho20, hm⟩ := bindE hm
      refine gCalli (ws' := (W_m_hand g h0 h1 h2 h3 h4 h5 h6 h7 h8 h9 h10 h11 h12 h13 h14 h15 h16 h17 h18 h19 h20 h21 h22 h23 h24 h25 h26 h27 h28 h29 h30 o2.2.1 o2.2.2.1 o2.2.2.2.1 v_jumpTold v_frosts v_gaps v_frostsNow v_notFrosts v_gapsNow v_fell v_fellAll v_sheepFirst v_sheepMany v_seens v_finding v_typed v_texts o2.2.2.2.2.1 o2.2.2.2.2.2.1 o2.2.2.2.2.2.2)) C0 hw (gRunV (As := [.int a0, .int a1]) (rest := []) C0 hw lkX9_164 (c_m_handOf l g H.size h0 h4 h5 h1 h2 h3 h6 h7 h8 h9 h10 h11 h12 h13 h14 h15 h16 h17 h18 h19 h20 h21 h22 h23 h24 h25 h26 h27 h28 h29 h30 o2.2.1 o2.2.2.1 o2.2.2.2.1 v_jumpTold v_frosts v_gaps v_frostsNow v_notFrosts v_gapsNow v_fell v_fellAll v_sheepFirst v_sheepMany v_seens v_finding o2.2.2.2.2.2.1 o2.2.2.2.2.2.2 a0 a1 o20 ho20) ⟨rfl, rfl⟩ ⟨Nat.le_of_ble_eq_true rfl, Nat.le_of_ble_eq_true rfl⟩ [0, 4, 5] (by decide) rfl 0 rfl rfl rfl hl.1 rfl (Nat.le_of_ble_eq_true rfl) dX9_hand_20) [0, 4, 5] [1, 2, 3] rfl rfl ⟨rfl, rfl, rfl, trivial⟩ [h0, h1, h2, h3, h4, h5] rfl rfl 6 rfl (by decide +kernel) (fun H locs hw => ?_)
      refine lv_goto (tgt := 28) hx hb dX9_hand_23 (by decide) ?_
      have hm := Option.some.inj hm
      subst hm
      exact gRetI C0 hw dX9_hand_28

-- WallHandsModel.jump(I)I
abbrev W_m_jump (g : gG) (h0 h1 h2 h3 h4 h5 h6 h7 h8 h9 h10 h11 h12 h13 h14 h15 h16 h17 h18 h19 h20 h21 h22 h23 h24 h25 h26 h27 h28 h29 h30 : Nat) (v_courses : Int32) (v_wide : Int32) (v_hands : Int32) (v_jumpTold : Int32) (v_frosts : Int32) (v_gaps : Int32) (v_frostsNow : Int32) (v_notFrosts : Int32) (v_gapsNow : Int32) (v_fell : Int32) (v_fellAll : Int32) (v_sheepFirst : Int32) (v_sheepMany : Int32) (v_seens : Int32) (v_finding : Int32) : va_W := [(h0, .inr (9, [.ref h1, .ref h2, .int v_courses, .int v_wide, .ref h3, .int v_hands, .ref h4, .ref h5, .int v_jumpTold, .int v_frosts, .ref h6, .ref h7, .int v_gaps, .ref h8, .ref h9, .ref h10, .ref h11, .int v_frostsNow, .ref h12, .ref h13, .int v_notFrosts, .int v_gapsNow, .ref h14, .int v_fell, .int v_fellAll, .ref h15, .ref h16, .ref h17, .ref h18, .ref h19, .ref h20, .ref h21, .int v_sheepFirst, .int v_sheepMany, .int v_seens, .ref h22, .ref h23, .ref h24, .ref h25, .ref h26, .ref h27, .ref h28, .ref h29, .ref h30, .int v_finding]))]

abbrev rm_m_jump : Room := { frames := 1, cells := 0, slots := 0, locals := 22 }

set_option maxHeartbeats 1000000 in
set_option maxRecDepth 100000 in
theorem c_m_jump (l : Launch) (g : gG) (sz : Nat) (h0 h1 h2 h3 h4 h5 h6 h7 h8 h9 h10 h11 h12 h13 h14 h15 h16 h17 h18 h19 h20 h21 h22 h23 h24 h25 h26 h27 h28 h29 h30 : Nat) (v_courses : Int32) (v_wide : Int32) (v_hands : Int32) (v_jumpTold : Int32) (v_frosts : Int32) (v_gaps : Int32) (v_frostsNow : Int32) (v_notFrosts : Int32) (v_gapsNow : Int32) (v_fell : Int32) (v_fellAll : Int32) (v_sheepFirst : Int32) (v_sheepMany : Int32) (v_seens : Int32) (v_finding : Int32) (a0 : Int32) (r : (Int32 × Int32)) (hm : f_m_jump v_jumpTold a0 = some r) : gMi l yX9_jump cX9_jump 3 (some .int) rm_m_jump g sz [.ref h0, .int a0] (W_m_jump g h0 h1 h2 h3 h4 h5 h6 h7 h8 h9 h10 h11 h12 h13 h14 h15 h16 h17 h18 h19 h20 h21 h22 h23 h24 h25 h26 h27 h28 h29 h30 v_courses v_wide v_hands v_jumpTold v_frosts v_gaps v_frostsNow v_notFrosts v_gapsNow v_fell v_fellAll v_sheepFirst v_sheepMany v_seens v_finding) r.1 (W_m_jump g h0 h1 h2 h3 h4 h5 h6 h7 h8 h9 h10 h11 h12 h13 h14 h15 h16 h17 h18 h19 h20 h21 h22 h23 h24 h25 h26 h27 h28 h29 h30 v_courses v_wide v_hands r.2 v_frosts v_gaps v_frostsNow v_notFrosts v_gapsNow v_fell v_fellAll v_sheepFirst v_sheepMany v_seens v_finding) := by
  unfold f_m_jump at hm
  refine gEnterI (by decide) (Nat.le_of_ble_eq_true rfl) (fun p e s m below meth c A C0 H locs hw ls hl => ?_)
  obtain ⟨hx, hb, hr, hml, hown, hts, hlocks, hK, hA⟩ := id C0
  have C0 : gX p s m [.ref h0, .int a0].toArray meth c cX9_jump 3 (some .int) RX9 g A := C0
  have hl : lv_has ls 3 [(0, .ref h0), (1, .int a0)] := hl
  refine lv_iload_n hx hb dX9_jump_0 rfl (lv_at hl 1 rfl) ?_
  refine lv_iconst (v := 1) hx hb dX9_jump_1 (by decide) ?_
  refine lv_iconst (v := 5) hx hb dX9_jump_2 (by decide) ?_
  obtain ⟨o3, ho3, hm⟩ := bindE hm
  refine gCalli (ws' := (W_m_jump g h0 h1 h2 h3 h4 h5 h6 h7 h8 h9 h10 h11 h12 h13 h14 h15 h16 h17 h18 h19 h20 h21 h22 h23 h24 h25 h26 h27 h28 h29 h30 v_courses v_wide v_hands v_jumpTold v_frosts v_gaps v_frostsNow v_notFrosts v_gapsNow v_fell v_fellAll v_sheepFirst v_sheepMany v_seens v_finding)) C0 hw (gRunS (As := [.int a0, .int (1 : Int32), .int (5 : Int32)]) (rest := []) C0 hw lkX9_107 (c_m_in l g H.size  a0 (1 : Int32) (5 : Int32) o3 ho3) ⟨rfl, rfl⟩ ⟨Nat.le_of_ble_eq_true rfl, Nat.le_of_ble_eq_true rfl⟩ [] (by decide) rfl rfl hl.1 rfl (Nat.le_of_ble_eq_true rfl) dX9_jump_3) [] [0] rfl rfl ⟨rfl, trivial⟩ [h0] rfl rfl 1 rfl (by decide +kernel) (fun H locs hw => ?_)
  refine lv_if_ne (tgt := 12) hx hb dX9_jump_6 (by decide) (fun hc => ?_) (fun hc => ?_)
  · have hm := ineg hc hm
    refine lv_aload_n hx hb dX9_jump_12 rfl (lv_at hl 0 rfl) ?_
    refine gGet C0 hw flX9_101 0 rfl rfl dX9_jump_13 ?_
    refine lv_istore_n (lv' := [(2, .int v_jumpTold), (0, .ref h0), (1, .int a0)]) hx hb dX9_jump_16 rfl hl (by decide) rfl (fun ls hl => ?_)
    refine lv_aload_n hx hb dX9_jump_17 rfl (lv_at hl 1 rfl) ?_
    refine lv_iload_n hx hb dX9_jump_18 rfl (lv_at hl 2 rfl) ?_
    refine gPut (ws' := (W_m_jump g h0 h1 h2 h3 h4 h5 h6 h7 h8 h9 h10 h11 h12 h13 h14 h15 h16 h17 h18 h19 h20 h21 h22 h23 h24 h25 h26 h27 h28 h29 h30 v_courses v_wide v_hands a0 v_frosts v_gaps v_frostsNow v_notFrosts v_gapsNow v_fell v_fellAll v_sheepFirst v_sheepMany v_seens v_finding)) C0 hw fpX9_101 0 rfl rfl rfl (Nat.le_of_ble_eq_true rfl) rfl dX9_jump_19 (fun H locs hw => ?_)
    refine lv_iload_n hx hb dX9_jump_22 rfl (lv_at hl 0 rfl) ?_
    have hm := Option.some.inj hm
    subst hm
    exact gRetI C0 hw dX9_jump_23
  · have hm := ipos hc hm
    refine lv_bipush (v := -2) hx hb dX9_jump_9 (by decide) ?_
    have hm := Option.some.inj hm
    subst hm
    exact gRetI C0 hw dX9_jump_11

-- WallHandsModel.frost(II)I
abbrev W_m_frost (g : gG) (h0 h1 h2 h3 h4 h5 h6 h7 h8 h9 h10 h11 h12 h13 h14 h15 h16 h17 h18 h19 h20 h21 h22 h23 h24 h25 h26 h27 h28 h29 h30 : Nat) (v_courses : Int32) (v_wide : Int32) (v_hands : Int32) (v_jumpTold : Int32) (v_frosts : Int32) (v_gaps : Int32) (v_frostsNow : Int32) (v_notFrosts : Int32) (v_gapsNow : Int32) (v_fell : Int32) (v_fellAll : Int32) (v_sheepFirst : Int32) (v_sheepMany : Int32) (v_seens : Int32) (v_finding : Int32) (v_frostYear : Nat → Int32) (v_frostForce : Nat → Int32) : va_W := [(h0, .inr (9, [.ref h3, .ref h4, .int v_courses, .int v_wide, .ref h5, .int v_hands, .ref h6, .ref h7, .int v_jumpTold, .int v_frosts, .ref h1, .ref h2, .int v_gaps, .ref h8, .ref h9, .ref h10, .ref h11, .int v_frostsNow, .ref h12, .ref h13, .int v_notFrosts, .int v_gapsNow, .ref h14, .int v_fell, .int v_fellAll, .ref h15, .ref h16, .ref h17, .ref h18, .ref h19, .ref h20, .ref h21, .int v_sheepFirst, .int v_sheepMany, .int v_seens, .ref h22, .ref h23, .ref h24, .ref h25, .ref h26, .ref h27, .ref h28, .ref h29, .ref h30, .int v_finding])), (h1, .inl (gI g, 6, .inl v_frostYear)), (h2, .inl (gI g, 6, .inl v_frostForce))]

abbrev rm_m_frost : Room := { frames := 2, cells := 0, slots := 0, locals := 42 }

set_option maxHeartbeats 1000000 in
set_option maxRecDepth 100000 in
theorem c_m_frost (l : Launch) (g : gG) (sz : Nat) (h0 h1 h2 h3 h4 h5 h6 h7 h8 h9 h10 h11 h12 h13 h14 h15 h16 h17 h18 h19 h20 h21 h22 h23 h24 h25 h26 h27 h28 h29 h30 : Nat) (v_courses : Int32) (v_wide : Int32) (v_hands : Int32) (v_jumpTold : Int32) (v_frosts : Int32) (v_gaps : Int32) (v_frostsNow : Int32) (v_notFrosts : Int32) (v_gapsNow : Int32) (v_fell : Int32) (v_fellAll : Int32) (v_sheepFirst : Int32) (v_sheepMany : Int32) (v_seens : Int32) (v_finding : Int32) (v_frostYear : Nat → Int32) (v_frostForce : Nat → Int32) (a0 : Int32) (a1 : Int32) (r : (Int32 × Int32 × (Nat → Int32) × (Nat → Int32))) (hm : f_m_frost v_frosts v_frostYear v_frostForce a0 a1 = some r) : gMi l yX9_frost cX9_frost 3 (some .int) rm_m_frost g sz [.ref h0, .int a0, .int a1] (W_m_frost g h0 h1 h2 h3 h4 h5 h6 h7 h8 h9 h10 h11 h12 h13 h14 h15 h16 h17 h18 h19 h20 h21 h22 h23 h24 h25 h26 h27 h28 h29 h30 v_courses v_wide v_hands v_jumpTold v_frosts v_gaps v_frostsNow v_notFrosts v_gapsNow v_fell v_fellAll v_sheepFirst v_sheepMany v_seens v_finding v_frostYear v_frostForce) r.1 (W_m_frost g h0 h1 h2 h3 h4 h5 h6 h7 h8 h9 h10 h11 h12 h13 h14 h15 h16 h17 h18 h19 h20 h21 h22 h23 h24 h25 h26 h27 h28 h29 h30 v_courses v_wide v_hands v_jumpTold r.2.1 v_gaps v_frostsNow v_notFrosts v_gapsNow v_fell v_fellAll v_sheepFirst v_sheepMany v_seens v_finding r.2.2.1 r.2.2.2) := by
  unfold f_m_frost at hm
  refine gEnterI (by decide) (Nat.le_of_ble_eq_true rfl) (fun p e s m below meth c A C0 H locs hw ls hl => ?_)
  obtain ⟨hx, hb, hr, hml, hown, hts, hlocks, hK, hA⟩ := id C0
  have C0 : gX p s m [.ref h0, .int a0, .int a1].toArray meth c cX9_frost 3 (some .int) RX9 g A := C0
  have hl : lv_has ls 3 [(0, .ref h0), (1, .int a0), (2, .int a1)] := hl
  refine lv_iload_n hx hb dX9_frost_0 rfl (lv_at hl 1 rfl) ?_
  obtain ⟨o1, ho1, hm⟩ := bindE hm
  refine gCalli (ws' := (W_m_frost g h0 h1 h2 h3 h4 h5 h6 h7 h8 h9 h10 h11 h12 h13 h14 h15 h16 h17 h18 h19 h20 h21 h22 h23 h24 h25 h26 h27 h28 h29 h30 v_courses v_wide v_hands v_jumpTold v_frosts v_gaps v_frostsNow v_notFrosts v_gapsNow v_fell v_fellAll v_sheepFirst v_sheepMany v_seens v_finding v_frostYear v_frostForce)) C0 hw (gRunS (As := [.int a0]) (rest := []) C0 hw lkX9_167 (c_m_isYear l g H.size  a0 o1 ho1) ⟨rfl, rfl⟩ ⟨Nat.le_of_ble_eq_true rfl, Nat.le_of_ble_eq_true rfl⟩ [] (by decide) rfl rfl hl.1 rfl (Nat.le_of_ble_eq_true rfl) dX9_frost_1) [] [0, 1, 2] rfl rfl ⟨rfl, rfl, rfl, trivial⟩ [h0, h1, h2] rfl rfl 3 rfl (by decide +kernel) (fun H locs hw => ?_)
  refine lv_if_eq (tgt := 17) hx hb dX9_frost_4 (by decide) (fun hc => ?_) (fun hc => ?_)
  · have hm := ipos hc hm
    refine lv_bipush (v := -2) hx hb dX9_frost_17 (by decide) ?_
    have hm := Option.some.inj hm
    subst hm
    exact gRetI C0 hw dX9_frost_19
  · have hm := ineg hc hm
    refine lv_iload_n hx hb dX9_frost_7 rfl (lv_at hl 2 rfl) ?_
    refine lv_iconst (v := 1) hx hb dX9_frost_8 (by decide) ?_
    refine lv_bipush (v := 15) hx hb dX9_frost_9 (by decide) ?_
    obtain ⟨o11, ho11, hm⟩ := bindE hm
    refine gCalli (ws' := (W_m_frost g h0 h1 h2 h3 h4 h5 h6 h7 h8 h9 h10 h11 h12 h13 h14 h15 h16 h17 h18 h19 h20 h21 h22 h23 h24 h25 h26 h27 h28 h29 h30 v_courses v_wide v_hands v_jumpTold v_frosts v_gaps v_frostsNow v_notFrosts v_gapsNow v_fell v_fellAll v_sheepFirst v_sheepMany v_seens v_finding v_frostYear v_frostForce)) C0 hw (gRunS (As := [.int a1, .int (1 : Int32), .int (15 : Int32)]) (rest := []) C0 hw lkX9_107 (c_m_in l g H.size  a1 (1 : Int32) (15 : Int32) o11 ho11) ⟨rfl, rfl⟩ ⟨Nat.le_of_ble_eq_true rfl, Nat.le_of_ble_eq_true rfl⟩ [] (by decide) rfl rfl hl.1 rfl (Nat.le_of_ble_eq_true rfl) dX9_frost_11) [] [0, 1, 2] rfl rfl ⟨rfl, rfl, rfl, trivial⟩ [h0, h1, h2] rfl rfl 3 rfl (by decide +kernel) (fun H locs hw => ?_)
    refine lv_if_ne (tgt := 20) hx hb dX9_frost_14 (by decide) (fun hc => ?_) (fun hc => ?_)
    · have hm := ineg hc hm
      refine lv_aload_n hx hb dX9_frost_20 rfl (lv_at hl 0 rfl) ?_
      refine gGet C0 hw flX9_170 0 rfl rfl dX9_frost_21 ?_
      refine lv_bipush (v := 6) hx hb dX9_frost_24 (by decide) ?_
      refine lv_icmp_ne (tgt := 32) hx hb dX9_frost_26 (by decide) (fun hc => ?_) (fun hc => ?_)
      · have hm := ineg hc hm
        refine lv_aload_n hx hb dX9_frost_32 rfl (lv_at hl 0 rfl) ?_
        refine gGet C0 hw flX9_25 0 rfl rfl dX9_frost_33 ?_
        refine lv_aload_n hx hb dX9_frost_36 rfl (lv_at hl 0 rfl) ?_
        refine gGet C0 hw flX9_170 0 rfl rfl dX9_frost_37 ?_
        refine lv_iload_n hx hb dX9_frost_40 rfl (lv_at hl 1 rfl) ?_
        obtain ⟨hin, hm⟩ := gdE hm
        have hin := inbE hin
        refine gAstI (ws' := (W_m_frost g h0 h1 h2 h3 h4 h5 h6 h7 h8 h9 h10 h11 h12 h13 h14 h15 h16 h17 h18 h19 h20 h21 h22 h23 h24 h25 h26 h27 h28 h29 h30 v_courses v_wide v_hands v_jumpTold v_frosts v_gaps v_frostsNow v_notFrosts v_gapsNow v_fell v_fellAll v_sheepFirst v_sheepMany v_seens v_finding (upd v_frostYear v_frosts.toNatClampNeg a0) v_frostForce)) C0 hw 1 rfl hin rfl dX9_frost_41 (fun H locs hw => ?_)
        refine lv_aload_n hx hb dX9_frost_42 rfl (lv_at hl 0 rfl) ?_
        refine gGet C0 hw flX9_28 0 rfl rfl dX9_frost_43 ?_
        refine lv_aload_n hx hb dX9_frost_46 rfl (lv_at hl 0 rfl) ?_
        refine gGet C0 hw flX9_170 0 rfl rfl dX9_frost_47 ?_
        refine lv_iload_n hx hb dX9_frost_50 rfl (lv_at hl 2 rfl) ?_
        obtain ⟨hin, hm⟩ := gdE hm
        have hin := inbE hin
        refine gAstI (ws' := (W_m_frost g h0 h1 h2 h3 h4 h5 h6 h7 h8 h9 h10 h11 h12 h13 h14 h15 h16 h17 h18 h19 h20 h21 h22 h23 h24 h25 h26 h27 h28 h29 h30 v_courses v_wide v_hands v_jumpTold v_frosts v_gaps v_frostsNow v_notFrosts v_gapsNow v_fell v_fellAll v_sheepFirst v_sheepMany v_seens v_finding (upd v_frostYear v_frosts.toNatClampNeg a0) (upd v_frostForce v_frosts.toNatClampNeg a1))) C0 hw 2 rfl hin rfl dX9_frost_51 (fun H locs hw => ?_)
        refine lv_aload_n hx hb dX9_frost_52 rfl (lv_at hl 0 rfl) ?_
        refine lv_dup hx hb dX9_frost_53 rfl ?_
        refine gGet C0 hw flX9_170 0 rfl rfl dX9_frost_54 ?_
        refine lv_iconst (v := 1) hx hb dX9_frost_57 (by decide) ?_
        refine lv_iadd hx hb dX9_frost_58 ?_
        refine gPut (ws' := (W_m_frost g h0 h1 h2 h3 h4 h5 h6 h7 h8 h9 h10 h11 h12 h13 h14 h15 h16 h17 h18 h19 h20 h21 h22 h23 h24 h25 h26 h27 h28 h29 h30 v_courses v_wide v_hands v_jumpTold (v_frosts + (1 : Int32)) v_gaps v_frostsNow v_notFrosts v_gapsNow v_fell v_fellAll v_sheepFirst v_sheepMany v_seens v_finding (upd v_frostYear v_frosts.toNatClampNeg a0) (upd v_frostForce v_frosts.toNatClampNeg a1))) C0 hw fpX9_170 0 rfl rfl rfl (Nat.le_of_ble_eq_true rfl) rfl dX9_frost_59 (fun H locs hw => ?_)
        refine lv_aload_n hx hb dX9_frost_62 rfl (lv_at hl 0 rfl) ?_
        refine gGet C0 hw flX9_170 0 rfl rfl dX9_frost_63 ?_
        have hm := Option.some.inj hm
        subst hm
        exact gRetI C0 hw dX9_frost_66
      · have hm := ipos hc hm
        refine lv_bipush (v := -4) hx hb dX9_frost_29 (by decide) ?_
        have hm := Option.some.inj hm
        subst hm
        exact gRetI C0 hw dX9_frost_31
    · have hm := ipos hc hm
      refine lv_bipush (v := -2) hx hb dX9_frost_17 (by decide) ?_
      have hm := Option.some.inj hm
      subst hm
      exact gRetI C0 hw dX9_frost_19

-- WallHandsModel.gapping(III)I
abbrev W_m_gapping (g : gG) (h0 h1 h2 h3 h4 h5 h6 h7 h8 h9 h10 h11 h12 h13 h14 h15 h16 h17 h18 h19 h20 h21 h22 h23 h24 h25 h26 h27 h28 h29 h30 : Nat) (v_courses : Int32) (v_wide : Int32) (v_hands : Int32) (v_jumpTold : Int32) (v_frosts : Int32) (v_gaps : Int32) (v_frostsNow : Int32) (v_notFrosts : Int32) (v_gapsNow : Int32) (v_fell : Int32) (v_fellAll : Int32) (v_sheepFirst : Int32) (v_sheepMany : Int32) (v_seens : Int32) (v_finding : Int32) (v_gapYear : Nat → Int32) (v_gapColumn : Nat → Int32) (v_gapHand : Nat → Int32) : va_W := [(h0, .inr (9, [.ref h4, .ref h5, .int v_courses, .int v_wide, .ref h6, .int v_hands, .ref h7, .ref h8, .int v_jumpTold, .int v_frosts, .ref h9, .ref h10, .int v_gaps, .ref h1, .ref h2, .ref h3, .ref h11, .int v_frostsNow, .ref h12, .ref h13, .int v_notFrosts, .int v_gapsNow, .ref h14, .int v_fell, .int v_fellAll, .ref h15, .ref h16, .ref h17, .ref h18, .ref h19, .ref h20, .ref h21, .int v_sheepFirst, .int v_sheepMany, .int v_seens, .ref h22, .ref h23, .ref h24, .ref h25, .ref h26, .ref h27, .ref h28, .ref h29, .ref h30, .int v_finding])), (h1, .inl (gI g, 7, .inl v_gapYear)), (h2, .inl (gI g, 7, .inl v_gapColumn)), (h3, .inl (gI g, 7, .inl v_gapHand))]

abbrev rm_m_gapping : Room := { frames := 2, cells := 0, slots := 0, locals := 42 }

set_option maxHeartbeats 1000000 in
set_option maxRecDepth 100000 in
theorem c_m_gapping (l : Launch) (g : gG) (sz : Nat) (h0 h1 h2 h3 h4 h5 h6 h7 h8 h9 h10 h11 h12 h13 h14 h15 h16 h17 h18 h19 h20 h21 h22 h23 h24 h25 h26 h27 h28 h29 h30 : Nat) (v_courses : Int32) (v_wide : Int32) (v_hands : Int32) (v_jumpTold : Int32) (v_frosts : Int32) (v_gaps : Int32) (v_frostsNow : Int32) (v_notFrosts : Int32) (v_gapsNow : Int32) (v_fell : Int32) (v_fellAll : Int32) (v_sheepFirst : Int32) (v_sheepMany : Int32) (v_seens : Int32) (v_finding : Int32) (v_gapYear : Nat → Int32) (v_gapColumn : Nat → Int32) (v_gapHand : Nat → Int32) (a0 : Int32) (a1 : Int32) (a2 : Int32) (r : (Int32 × Int32 × (Nat → Int32) × (Nat → Int32) × (Nat → Int32))) (hm : f_m_gapping v_gaps v_gapYear v_gapColumn v_gapHand a0 a1 a2 = some r) : gMi l yX9_gapping cX9_gapping 4 (some .int) rm_m_gapping g sz [.ref h0, .int a0, .int a1, .int a2] (W_m_gapping g h0 h1 h2 h3 h4 h5 h6 h7 h8 h9 h10 h11 h12 h13 h14 h15 h16 h17 h18 h19 h20 h21 h22 h23 h24 h25 h26 h27 h28 h29 h30 v_courses v_wide v_hands v_jumpTold v_frosts v_gaps v_frostsNow v_notFrosts v_gapsNow v_fell v_fellAll v_sheepFirst v_sheepMany v_seens v_finding v_gapYear v_gapColumn v_gapHand) r.1 (W_m_gapping g h0 h1 h2 h3 h4 h5 h6 h7 h8 h9 h10 h11 h12 h13 h14 h15 h16 h17 h18 h19 h20 h21 h22 h23 h24 h25 h26 h27 h28 h29 h30 v_courses v_wide v_hands v_jumpTold v_frosts r.2.1 v_frostsNow v_notFrosts v_gapsNow v_fell v_fellAll v_sheepFirst v_sheepMany v_seens v_finding r.2.2.1 r.2.2.2.1 r.2.2.2.2) := by
  unfold f_m_gapping at hm
  refine gEnterI (by decide) (Nat.le_of_ble_eq_true rfl) (fun p e s m below meth c A C0 H locs hw ls hl => ?_)
  obtain ⟨hx, hb, hr, hml, hown, hts, hlocks, hK, hA⟩ := id C0
  have C0 : gX p s m [.ref h0, .int a0, .int a1, .int a2].toArray meth c cX9_gapping 4 (some .int) RX9 g A := C0
  have hl : lv_has ls 4 [(0, .ref h0), (1, .int a0), (2, .int a1), (3, .int a2)] := hl
  refine lv_iload_n hx hb dX9_gapping_0 rfl (lv_at hl 1 rfl) ?_
  obtain ⟨o1, ho1, hm⟩ := bindE hm
  refine gCalli (ws' := (W_m_gapping g h0 h1 h2 h3 h4 h5 h6 h7 h8 h9 h10 h11 h12 h13 h14 h15 h16 h17 h18 h19 h20 h21 h22 h23 h24 h25 h26 h27 h28 h29 h30 v_courses v_wide v_hands v_jumpTold v_frosts v_gaps v_frostsNow v_notFrosts v_gapsNow v_fell v_fellAll v_sheepFirst v_sheepMany v_seens v_finding v_gapYear v_gapColumn v_gapHand)) C0 hw (gRunS (As := [.int a0]) (rest := []) C0 hw lkX9_167 (c_m_isYear l g H.size  a0 o1 ho1) ⟨rfl, rfl⟩ ⟨Nat.le_of_ble_eq_true rfl, Nat.le_of_ble_eq_true rfl⟩ [] (by decide) rfl rfl hl.1 rfl (Nat.le_of_ble_eq_true rfl) dX9_gapping_1) [] [0, 1, 2, 3] rfl rfl ⟨rfl, rfl, rfl, rfl, trivial⟩ [h0, h1, h2, h3] rfl rfl 4 rfl (by decide +kernel) (fun H locs hw => ?_)
  refine lv_if_eq (tgt := 21) hx hb dX9_gapping_4 (by decide) (fun hc => ?_) (fun hc => ?_)
  · have hm := ipos hc hm
    refine lv_bipush (v := -2) hx hb dX9_gapping_21 (by decide) ?_
    have hm := Option.some.inj hm
    subst hm
    exact gRetI C0 hw dX9_gapping_23
  · have hm := ineg hc hm
    refine lv_iload_n hx hb dX9_gapping_7 rfl (lv_at hl 2 rfl) ?_
    obtain ⟨o8, ho8, hm⟩ := bindE hm
    refine gCalli (ws' := (W_m_gapping g h0 h1 h2 h3 h4 h5 h6 h7 h8 h9 h10 h11 h12 h13 h14 h15 h16 h17 h18 h19 h20 h21 h22 h23 h24 h25 h26 h27 h28 h29 h30 v_courses v_wide v_hands v_jumpTold v_frosts v_gaps v_frostsNow v_notFrosts v_gapsNow v_fell v_fellAll v_sheepFirst v_sheepMany v_seens v_finding v_gapYear v_gapColumn v_gapHand)) C0 hw (gRunS (As := [.int a1]) (rest := []) C0 hw lkX9_111 (c_m_isEight l g H.size  a1 o8 ho8) ⟨rfl, rfl⟩ ⟨Nat.le_of_ble_eq_true rfl, Nat.le_of_ble_eq_true rfl⟩ [] (by decide) rfl rfl hl.1 rfl (Nat.le_of_ble_eq_true rfl) dX9_gapping_8) [] [0, 1, 2, 3] rfl rfl ⟨rfl, rfl, rfl, rfl, trivial⟩ [h0, h1, h2, h3] rfl rfl 4 rfl (by decide +kernel) (fun H locs hw => ?_)
    refine lv_if_eq (tgt := 21) hx hb dX9_gapping_11 (by decide) (fun hc => ?_) (fun hc => ?_)
    · have hm := ipos hc hm
      refine lv_bipush (v := -2) hx hb dX9_gapping_21 (by decide) ?_
      have hm := Option.some.inj hm
      subst hm
      exact gRetI C0 hw dX9_gapping_23
    · have hm := ineg hc hm
      refine lv_iload_n hx hb dX9_gapping_14 rfl (lv_at hl 3 rfl) ?_
      obtain ⟨o15, ho15, hm⟩ := bindE hm
      refine gCalli (ws' := (W_m_gapping g h0 h1 h2 h3 h4 h5 h6 h7 h8 h9 h10 h11 h12 h13 h14 h15 h16 h17 h18 h19 h20 h21 h22 h23 h24 h25 h26 h27 h28 h29 h30 v_courses v_wide v_hands v_jumpTold v_frosts v_gaps v_frostsNow v_notFrosts v_gapsNow v_fell v_fellAll v_sheepFirst v_sheepMany v_seens v_finding v_gapYear v_gapColumn v_gapHand)) C0 hw (gRunS (As := [.int a2]) (rest := []) C0 hw lkX9_111 (c_m_isEight l g H.size  a2 o15 ho15) ⟨rfl, rfl⟩ ⟨Nat.le_of_ble_eq_true rfl, Nat.le_of_ble_eq_true rfl⟩ [] (by decide) rfl rfl hl.1 rfl (Nat.le_of_ble_eq_true rfl) dX9_gapping_15) [] [0, 1, 2, 3] rfl rfl ⟨rfl, rfl, rfl, rfl, trivial⟩ [h0, h1, h2, h3] rfl rfl 4 rfl (by decide +kernel) (fun H locs hw => ?_)
      refine lv_if_ne (tgt := 24) hx hb dX9_gapping_18 (by decide) (fun hc => ?_) (fun hc => ?_)
      · have hm := ineg hc hm
        refine lv_aload_n hx hb dX9_gapping_24 rfl (lv_at hl 0 rfl) ?_
        refine gGet C0 hw flX9_173 0 rfl rfl dX9_gapping_25 ?_
        refine lv_bipush (v := 6) hx hb dX9_gapping_28 (by decide) ?_
        refine lv_icmp_ne (tgt := 36) hx hb dX9_gapping_30 (by decide) (fun hc => ?_) (fun hc => ?_)
        · have hm := ineg hc hm
          refine lv_aload_n hx hb dX9_gapping_36 rfl (lv_at hl 0 rfl) ?_
          refine gGet C0 hw flX9_31 0 rfl rfl dX9_gapping_37 ?_
          refine lv_aload_n hx hb dX9_gapping_40 rfl (lv_at hl 0 rfl) ?_
          refine gGet C0 hw flX9_173 0 rfl rfl dX9_gapping_41 ?_
          refine lv_iload_n hx hb dX9_gapping_44 rfl (lv_at hl 1 rfl) ?_
          obtain ⟨hin, hm⟩ := gdE hm
          have hin := inbE hin
          refine gAstI (ws' := (W_m_gapping g h0 h1 h2 h3 h4 h5 h6 h7 h8 h9 h10 h11 h12 h13 h14 h15 h16 h17 h18 h19 h20 h21 h22 h23 h24 h25 h26 h27 h28 h29 h30 v_courses v_wide v_hands v_jumpTold v_frosts v_gaps v_frostsNow v_notFrosts v_gapsNow v_fell v_fellAll v_sheepFirst v_sheepMany v_seens v_finding (upd v_gapYear v_gaps.toNatClampNeg a0) v_gapColumn v_gapHand)) C0 hw 1 rfl hin rfl dX9_gapping_45 (fun H locs hw => ?_)
          refine lv_aload_n hx hb dX9_gapping_46 rfl (lv_at hl 0 rfl) ?_
          refine gGet C0 hw flX9_34 0 rfl rfl dX9_gapping_47 ?_
          refine lv_aload_n hx hb dX9_gapping_50 rfl (lv_at hl 0 rfl) ?_
          refine gGet C0 hw flX9_173 0 rfl rfl dX9_gapping_51 ?_
          refine lv_iload_n hx hb dX9_gapping_54 rfl (lv_at hl 2 rfl) ?_
          obtain ⟨hin, hm⟩ := gdE hm
          have hin := inbE hin
          refine gAstI (ws' := (W_m_gapping g h0 h1 h2 h3 h4 h5 h6 h7 h8 h9 h10 h11 h12 h13 h14 h15 h16 h17 h18 h19 h20 h21 h22 h23 h24 h25 h26 h27 h28 h29 h30 v_courses v_wide v_hands v_jumpTold v_frosts v_gaps v_frostsNow v_notFrosts v_gapsNow v_fell v_fellAll v_sheepFirst v_sheepMany v_seens v_finding (upd v_gapYear v_gaps.toNatClampNeg a0) (upd v_gapColumn v_gaps.toNatClampNeg a1) v_gapHand)) C0 hw 2 rfl hin rfl dX9_gapping_55 (fun H locs hw => ?_)
          refine lv_aload_n hx hb dX9_gapping_56 rfl (lv_at hl 0 rfl) ?_
          refine gGet C0 hw flX9_37 0 rfl rfl dX9_gapping_57 ?_
          refine lv_aload_n hx hb dX9_gapping_60 rfl (lv_at hl 0 rfl) ?_
          refine gGet C0 hw flX9_173 0 rfl rfl dX9_gapping_61 ?_
          refine lv_iload_n hx hb dX9_gapping_64 rfl (lv_at hl 3 rfl) ?_
          obtain ⟨hin, hm⟩ := gdE hm
          have hin := inbE hin
          refine gAstI (ws' := (W_m_gapping g h0 h1 h2 h3 h4 h5 h6 h7 h8 h9 h10 h11 h12 h13 h14 h15 h16 h17 h18 h19 h20 h21 h22 h23 h24 h25 h26 h27 h28 h29 h30 v_courses v_wide v_hands v_jumpTold v_frosts v_gaps v_frostsNow v_notFrosts v_gapsNow v_fell v_fellAll v_sheepFirst v_sheepMany v_seens v_finding (upd v_gapYear v_gaps.toNatClampNeg a0) (upd v_gapColumn v_gaps.toNatClampNeg a1) (upd v_gapHand v_gaps.toNatClampNeg a2))) C0 hw 3 rfl hin rfl dX9_gapping_65 (fun H locs hw => ?_)
          refine lv_aload_n hx hb dX9_gapping_66 rfl (lv_at hl 0 rfl) ?_
          refine lv_dup hx hb dX9_gapping_67 rfl ?_
          refine gGet C0 hw flX9_173 0 rfl rfl dX9_gapping_68 ?_
          refine lv_iconst (v := 1) hx hb dX9_gapping_71 (by decide) ?_
          refine lv_iadd hx hb dX9_gapping_72 ?_
          refine gPut (ws' := (W_m_gapping g h0 h1 h2 h3 h4 h5 h6 h7 h8 h9 h10 h11 h12 h13 h14 h15 h16 h17 h18 h19 h20 h21 h22 h23 h24 h25 h26 h27 h28 h29 h30 v_courses v_wide v_hands v_jumpTold v_frosts (v_gaps + (1 : Int32)) v_frostsNow v_notFrosts v_gapsNow v_fell v_fellAll v_sheepFirst v_sheepMany v_seens v_finding (upd v_gapYear v_gaps.toNatClampNeg a0) (upd v_gapColumn v_gaps.toNatClampNeg a1) (upd v_gapHand v_gaps.toNatClampNeg a2))) C0 hw fpX9_173 0 rfl rfl rfl (Nat.le_of_ble_eq_true rfl) rfl dX9_gapping_73 (fun H locs hw => ?_)
          refine lv_aload_n hx hb dX9_gapping_76 rfl (lv_at hl 0 rfl) ?_
          refine gGet C0 hw flX9_173 0 rfl rfl dX9_gapping_77 ?_
          have hm := Option.some.inj hm
          subst hm
          exact gRetI C0 hw dX9_gapping_80
        · have hm := ipos hc hm
          refine lv_bipush (v := -4) hx hb dX9_gapping_33 (by decide) ?_
          have hm := Option.some.inj hm
          subst hm
          exact gRetI C0 hw dX9_gapping_35
      · have hm := ipos hc hm
        refine lv_bipush (v := -2) hx hb dX9_gapping_21 (by decide) ?_
        have hm := Option.some.inj hm
        subst hm
        exact gRetI C0 hw dX9_gapping_23

-- WallHandsModel.back(I)I
abbrev W_m_back (g : gG) (h0 h1 h2 h3 h4 h5 h6 h7 h8 h9 h10 h11 h12 h13 h14 h15 h16 h17 h18 h19 h20 h21 h22 h23 h24 h25 h26 h27 h28 h29 h30 : Nat) (v_courses : Int32) (v_wide : Int32) (v_hands : Int32) (v_jumpTold : Int32) (v_frosts : Int32) (v_gaps : Int32) (v_frostsNow : Int32) (v_notFrosts : Int32) (v_gapsNow : Int32) (v_fell : Int32) (v_fellAll : Int32) (v_sheepFirst : Int32) (v_sheepMany : Int32) (v_seens : Int32) (v_finding : Int32) : va_W := [(h0, .inr (9, [.ref h1, .ref h2, .int v_courses, .int v_wide, .ref h3, .int v_hands, .ref h4, .ref h5, .int v_jumpTold, .int v_frosts, .ref h6, .ref h7, .int v_gaps, .ref h8, .ref h9, .ref h10, .ref h11, .int v_frostsNow, .ref h12, .ref h13, .int v_notFrosts, .int v_gapsNow, .ref h14, .int v_fell, .int v_fellAll, .ref h15, .ref h16, .ref h17, .ref h18, .ref h19, .ref h20, .ref h21, .int v_sheepFirst, .int v_sheepMany, .int v_seens, .ref h22, .ref h23, .ref h24, .ref h25, .ref h26, .ref h27, .ref h28, .ref h29, .ref h30, .int v_finding]))]

abbrev rm_m_back : Room := { frames := 1, cells := 0, slots := 0, locals := 22 }

set_option maxHeartbeats 1000000 in
set_option maxRecDepth 100000 in
theorem n_m_back_N49 {p : Program} {l : Launch} {e : Env} {s : State} {m : MethodId} {args : Array Value} {below : List Frame} {meth : Method} {c : Code} {A : Nat → Prop} {g : gG} {h0 h1 h2 h3 h4 h5 h6 h7 h8 h9 h10 h11 h12 h13 h14 h15 h16 h17 h18 h19 h20 h21 h22 h23 h24 h25 h26 h27 h28 h29 h30 : Nat} {v_courses : Int32} {v_wide : Int32} {v_hands : Int32} {v_jumpTold : Int32} {v_frostsNow : Int32} {v_notFrosts : Int32} {v_gapsNow : Int32} {v_fell : Int32} {v_fellAll : Int32} {v_sheepFirst : Int32} {v_sheepMany : Int32} {v_seens : Int32} {v_finding : Int32} {r : (Int32 × Int32 × Int32)} (C0 : gX p s m args meth c cX9_back 3 (some .int) RX9 g A) : ∀ (v_frosts : Int32) (v_gaps : Int32) (x1 : Int32) (x2 : Int32) (y1 : Int32) (y2 : Int32), f_m_back_N49 v_frosts v_gaps x1 x2 y1 y2 = some r → ∀ (H : Heap) (locs : List Loc) (ls : Array Slot), gW g A s (W_m_back g h0 h1 h2 h3 h4 h5 h6 h7 h8 h9 h10 h11 h12 h13 h14 h15 h16 h17 h18 h19 h20 h21 h22 h23 h24 h25 h26 h27 h28 h29 h30 v_courses v_wide v_hands v_jumpTold v_frosts v_gaps v_frostsNow v_notFrosts v_gapsNow v_fell v_fellAll v_sheepFirst v_sheepMany v_seens v_finding) H locs → lv_has ls 3 [(0, .ref h0), (1, .int x1), (2, .int x2)] → W p l e rm_m_back s m args below meth c H locs 0 0 (gQi below args s A g r.1 (W_m_back g h0 h1 h2 h3 h4 h5 h6 h7 h8 h9 h10 h11 h12 h13 h14 h15 h16 h17 h18 h19 h20 h21 h22 h23 h24 h25 h26 h27 h28 h29 h30 v_courses v_wide v_hands v_jumpTold r.2.1 r.2.2 v_frostsNow v_notFrosts v_gapsNow v_fell v_fellAll v_sheepFirst v_sheepMany v_seens v_finding)) (F0 m 49 ls [.int y2, .int y1, .ref h0]) := by
  intro v_frosts v_gaps x1 x2 y1 y2 hm H locs ls hw hl
  unfold f_m_back_N49 at hm
  obtain ⟨hx, hb, hr, hml, hown, hts, hlocks, hK, hA⟩ := id C0
  refine lv_isub hx hb dX9_back_49 ?_
  refine gPut (ws' := (W_m_back g h0 h1 h2 h3 h4 h5 h6 h7 h8 h9 h10 h11 h12 h13 h14 h15 h16 h17 h18 h19 h20 h21 h22 h23 h24 h25 h26 h27 h28 h29 h30 v_courses v_wide v_hands v_jumpTold (y1 - y2) v_gaps v_frostsNow v_notFrosts v_gapsNow v_fell v_fellAll v_sheepFirst v_sheepMany v_seens v_finding)) C0 hw fpX9_170 0 rfl rfl rfl (Nat.le_of_ble_eq_true rfl) rfl dX9_back_50 (fun H locs hw => ?_)
  refine lv_aload_n hx hb dX9_back_53 rfl (lv_at hl 0 rfl) ?_
  refine lv_dup hx hb dX9_back_54 rfl ?_
  refine gGet C0 hw flX9_173 0 rfl rfl dX9_back_55 ?_
  refine lv_iload_n hx hb dX9_back_58 rfl (lv_at hl 1 rfl) ?_
  refine lv_iconst (v := 1) hx hb dX9_back_59 (by decide) ?_
  refine lv_icmp_ne (tgt := 67) hx hb dX9_back_60 (by decide) (fun hc => ?_) (fun hc => ?_)
  · have hm := ineg hc hm
    refine lv_iconst (v := 0) hx hb dX9_back_67 (by decide) ?_
    refine lv_isub hx hb dX9_back_68 ?_
    refine gPut (ws' := (W_m_back g h0 h1 h2 h3 h4 h5 h6 h7 h8 h9 h10 h11 h12 h13 h14 h15 h16 h17 h18 h19 h20 h21 h22 h23 h24 h25 h26 h27 h28 h29 h30 v_courses v_wide v_hands v_jumpTold (y1 - y2) (v_gaps - (0 : Int32)) v_frostsNow v_notFrosts v_gapsNow v_fell v_fellAll v_sheepFirst v_sheepMany v_seens v_finding)) C0 hw fpX9_173 0 rfl rfl rfl (Nat.le_of_ble_eq_true rfl) rfl dX9_back_69 (fun H locs hw => ?_)
    refine lv_iload_n hx hb dX9_back_72 rfl (lv_at hl 2 rfl) ?_
    refine lv_iconst (v := 1) hx hb dX9_back_73 (by decide) ?_
    refine lv_isub hx hb dX9_back_74 ?_
    have hm := Option.some.inj hm
    subst hm
    exact gRetI C0 hw dX9_back_75
  · have hm := ipos hc hm
    refine lv_iconst (v := 1) hx hb dX9_back_63 (by decide) ?_
    refine lv_goto (tgt := 68) hx hb dX9_back_64 (by decide) ?_
    refine lv_isub hx hb dX9_back_68 ?_
    refine gPut (ws' := (W_m_back g h0 h1 h2 h3 h4 h5 h6 h7 h8 h9 h10 h11 h12 h13 h14 h15 h16 h17 h18 h19 h20 h21 h22 h23 h24 h25 h26 h27 h28 h29 h30 v_courses v_wide v_hands v_jumpTold (y1 - y2) (v_gaps - (1 : Int32)) v_frostsNow v_notFrosts v_gapsNow v_fell v_fellAll v_sheepFirst v_sheepMany v_seens v_finding)) C0 hw fpX9_173 0 rfl rfl rfl (Nat.le_of_ble_eq_true rfl) rfl dX9_back_69 (fun H locs hw => ?_)
    refine lv_iload_n hx hb dX9_back_72 rfl (lv_at hl 2 rfl) ?_
    refine lv_iconst (v := 1) hx hb dX9_back_73 (by decide) ?_
    refine lv_isub hx hb dX9_back_74 ?_
    have hm := Option.some.inj hm
    subst hm
    exact gRetI C0 hw dX9_back_75
set_option maxHeartbeats 1000000 in
set_option maxRecDepth 100000 in
theorem n_m_back_N27 {p : Program} {l : Launch} {e : Env} {s : State} {m : MethodId} {args : Array Value} {below : List Frame} {meth : Method} {c : Code} {A : Nat → Prop} {g : gG} {h0 h1 h2 h3 h4 h5 h6 h7 h8 h9 h10 h11 h12 h13 h14 h15 h16 h17 h18 h19 h20 h21 h22 h23 h24 h25 h26 h27 h28 h29 h30 : Nat} {v_courses : Int32} {v_wide : Int32} {v_hands : Int32} {v_jumpTold : Int32} {v_frostsNow : Int32} {v_notFrosts : Int32} {v_gapsNow : Int32} {v_fell : Int32} {v_fellAll : Int32} {v_sheepFirst : Int32} {v_sheepMany : Int32} {v_seens : Int32} {v_finding : Int32} {r : (Int32 × Int32 × Int32)} (C0 : gX p s m args meth c cX9_back 3 (some .int) RX9 g A) : ∀ (v_frosts : Int32) (v_gaps : Int32) (x1 : Int32) (y0 : Int32), f_m_back_N27 v_frosts v_gaps x1 y0 = some r → ∀ (H : Heap) (locs : List Loc) (ls : Array Slot), gW g A s (W_m_back g h0 h1 h2 h3 h4 h5 h6 h7 h8 h9 h10 h11 h12 h13 h14 h15 h16 h17 h18 h19 h20 h21 h22 h23 h24 h25 h26 h27 h28 h29 h30 v_courses v_wide v_hands v_jumpTold v_frosts v_gaps v_frostsNow v_notFrosts v_gapsNow v_fell v_fellAll v_sheepFirst v_sheepMany v_seens v_finding) H locs → lv_has ls 3 [(0, .ref h0), (1, .int x1)] → W p l e rm_m_back s m args below meth c H locs 0 0 (gQi below args s A g r.1 (W_m_back g h0 h1 h2 h3 h4 h5 h6 h7 h8 h9 h10 h11 h12 h13 h14 h15 h16 h17 h18 h19 h20 h21 h22 h23 h24 h25 h26 h27 h28 h29 h30 v_courses v_wide v_hands v_jumpTold r.2.1 r.2.2 v_frostsNow v_notFrosts v_gapsNow v_fell v_fellAll v_sheepFirst v_sheepMany v_seens v_finding)) (F0 m 27 ls [.int y0]) := by
  intro v_frosts v_gaps x1 y0 hm H locs ls hw hl
  unfold f_m_back_N27 at hm
  obtain ⟨hx, hb, hr, hml, hown, hts, hlocks, hK, hA⟩ := id C0
  refine lv_istore_n (lv' := [(2, .int y0), (0, .ref h0), (1, .int x1)]) hx hb dX9_back_27 rfl hl (by decide) rfl (fun ls hl => ?_)
  refine lv_iload_n hx hb dX9_back_28 rfl (lv_at hl 0 rfl) ?_
  refine lv_if_ne (tgt := 35) hx hb dX9_back_29 (by decide) (fun hc => ?_) (fun hc => ?_)
  · have hm := ineg hc hm
    refine lv_aload_n hx hb dX9_back_35 rfl (lv_at hl 1 rfl) ?_
    refine lv_dup hx hb dX9_back_36 rfl ?_
    refine gGet C0 hw flX9_170 0 rfl rfl dX9_back_37 ?_
    refine lv_iload_n hx hb dX9_back_40 rfl (lv_at hl 2 rfl) ?_
    refine lv_if_ne (tgt := 48) hx hb dX9_back_41 (by decide) (fun hc => ?_) (fun hc => ?_)
    · have hm := ineg hc hm
      refine lv_iconst (v := 0) hx hb dX9_back_48 (by decide) ?_
      exact n_m_back_N49 C0  _ _ _ _ _ _ hm _ _ _ hw (lv_sub hl [1, 2, 0] rfl)
    · have hm := ipos hc hm
      refine lv_iconst (v := 1) hx hb dX9_back_44 (by decide) ?_
      refine lv_goto (tgt := 49) hx hb dX9_back_45 (by decide) ?_
      exact n_m_back_N49 C0  _ _ _ _ _ _ hm _ _ _ hw (lv_sub hl [1, 2, 0] rfl)
  · have hm := ipos hc hm
    refine lv_bipush (v := -3) hx hb dX9_back_32 (by decide) ?_
    have hm := Option.some.inj hm
    subst hm
    exact gRetI C0 hw dX9_back_34
set_option maxHeartbeats 1000000 in
set_option maxRecDepth 100000 in
theorem c_m_back (l : Launch) (g : gG) (sz : Nat) (h0 h1 h2 h3 h4 h5 h6 h7 h8 h9 h10 h11 h12 h13 h14 h15 h16 h17 h18 h19 h20 h21 h22 h23 h24 h25 h26 h27 h28 h29 h30 : Nat) (v_courses : Int32) (v_wide : Int32) (v_hands : Int32) (v_jumpTold : Int32) (v_frosts : Int32) (v_gaps : Int32) (v_frostsNow : Int32) (v_notFrosts : Int32) (v_gapsNow : Int32) (v_fell : Int32) (v_fellAll : Int32) (v_sheepFirst : Int32) (v_sheepMany : Int32) (v_seens : Int32) (v_finding : Int32) (a0 : Int32) (r : (Int32 × Int32 × Int32)) (hm : f_m_back v_frosts v_gaps a0 = some r) : gMi l yX9_back cX9_back 3 (some .int) rm_m_back g sz [.ref h0, .int a0] (W_m_back g h0 h1 h2 h3 h4 h5 h6 h7 h8 h9 h10 h11 h12 h13 h14 h15 h16 h17 h18 h19 h20 h21 h22 h23 h24 h25 h26 h27 h28 h29 h30 v_courses v_wide v_hands v_jumpTold v_frosts v_gaps v_frostsNow v_notFrosts v_gapsNow v_fell v_fellAll v_sheepFirst v_sheepMany v_seens v_finding) r.1 (W_m_back g h0 h1 h2 h3 h4 h5 h6 h7 h8 h9 h10 h11 h12 h13 h14 h15 h16 h17 h18 h19 h20 h21 h22 h23 h24 h25 h26 h27 h28 h29 h30 v_courses v_wide v_hands v_jumpTold r.2.1 r.2.2 v_frostsNow v_notFrosts v_gapsNow v_fell v_fellAll v_sheepFirst v_sheepMany v_seens v_finding) := by
  unfold f_m_back at hm
  refine gEnterI (by decide) (Nat.le_of_ble_eq_true rfl) (fun p e s m below meth c A C0 H locs hw ls hl => ?_)
  obtain ⟨hx, hb, hr, hml, hown, hts, hlocks, hK, hA⟩ := id C0
  have C0 : gX p s m [.ref h0, .int a0].toArray meth c cX9_back 3 (some .int) RX9 g A := C0
  have hl : lv_has ls 3 [(0, .ref h0), (1, .int a0)] := hl
  refine lv_iload_n hx hb dX9_back_0 rfl (lv_at hl 1 rfl) ?_
  refine lv_iconst (v := 0) hx hb dX9_back_1 (by decide) ?_
  refine lv_iconst (v := 1) hx hb dX9_back_2 (by decide) ?_
  obtain ⟨o3, ho3, hm⟩ := bindE hm
  refine gCalli (ws' := (W_m_back g h0 h1 h2 h3 h4 h5 h6 h7 h8 h9 h10 h11 h12 h13 h14 h15 h16 h17 h18 h19 h20 h21 h22 h23 h24 h25 h26 h27 h28 h29 h30 v_courses v_wide v_hands v_jumpTold v_frosts v_gaps v_frostsNow v_notFrosts v_gapsNow v_fell v_fellAll v_sheepFirst v_sheepMany v_seens v_finding)) C0 hw (gRunS (As := [.int a0, .int (0 : Int32), .int (1 : Int32)]) (rest := []) C0 hw lkX9_107 (c_m_in l g H.size  a0 (0 : Int32) (1 : Int32) o3 ho3) ⟨rfl, rfl⟩ ⟨Nat.le_of_ble_eq_true rfl, Nat.le_of_ble_eq_true rfl⟩ [] (by decide) rfl rfl hl.1 rfl (Nat.le_of_ble_eq_true rfl) dX9_back_3) [] [0] rfl rfl ⟨rfl, trivial⟩ [h0] rfl rfl 1 rfl (by decide +kernel) (fun H locs hw => ?_)
  refine lv_if_ne (tgt := 12) hx hb dX9_back_6 (by decide) (fun hc => ?_) (fun hc => ?_)
  · have hm := ineg hc hm
    refine lv_iload_n hx hb dX9_back_12 rfl (lv_at hl 1 rfl) ?_
    refine lv_if_ne (tgt := 23) hx hb dX9_back_13 (by decide) (fun hc => ?_) (fun hc => ?_)
    · have hm := ineg hc hm
      refine lv_aload_n hx hb dX9_back_23 rfl (lv_at hl 0 rfl) ?_
      refine gGet C0 hw flX9_173 0 rfl rfl dX9_back_24 ?_
      exact n_m_back_N27 C0  _ _ _ _ hm _ _ _ hw (lv_sub hl [0, 1] rfl)
    · have hm := ipos hc hm
      refine lv_aload_n hx hb dX9_back_16 rfl (lv_at hl 0 rfl) ?_
      refine gGet C0 hw flX9_170 0 rfl rfl dX9_back_17 ?_
      refine lv_goto (tgt := 27) hx hb dX9_back_20 (by decide) ?_
      exact n_m_back_N27 C0  _ _ _ _ hm _ _ _ hw (lv_sub hl [0, 1] rfl)
  · have hm := ipos hc hm
    refine lv_bipush (v := -2) hx hb dX9_back_9 (by decide) ?_
    have hm := Option.some.inj hm
    subst hm
    exact gRetI C0 hw dX9_back_11

-- WallHandsModel.isSheet(I)Z

abbrev rm_m_isSheet : Room := { frames := 1, cells := 0, slots := 0, locals := 22 }

set_option maxHeartbeats 1000000 in
set_option maxRecDepth 100000 in
theorem c_m_isSheet (l : Launch) (g : gG) (sz : Nat) (a0 : Int32) (r : Int32) (hm : f_m_isSheet a0 = some r) : gMi l yX9_isSheet cX9_isSheet 1 (some .boolean) rm_m_isSheet g sz [.int a0] [] r [] := by
  unfold f_m_isSheet at hm
  refine gEnterI (by decide) (Nat.le_of_ble_eq_true rfl) (fun p e s m below meth c A C0 H locs hw ls hl => ?_)
  obtain ⟨hx, hb, hr, hml, hown, hts, hlocks, hK, hA⟩ := id C0
  have C0 : gX p s m [.int a0].toArray meth c cX9_isSheet 1 (some .boolean) RX9 g A := C0
  have hl : lv_has ls 1 [(0, .int a0)] := hl
  refine lv_iload_n hx hb dX9_isSheet_0 rfl (lv_at hl 0 rfl) ?_
  refine lv_iconst (v := 0) hx hb dX9_isSheet_1 (by decide) ?_
  refine lv_iconst (v := 3) hx hb dX9_isSheet_2 (by decide) ?_
  obtain ⟨o3, ho3, hm⟩ := bindE hm
  refine gCalli (ws' := []) C0 hw (gRunS (As := [.int a0, .int (0 : Int32), .int (3 : Int32)]) (rest := []) C0 hw lkX9_107 (c_m_in l g H.size  a0 (0 : Int32) (3 : Int32) o3 ho3) ⟨rfl, rfl⟩ ⟨Nat.le_of_ble_eq_true rfl, Nat.le_of_ble_eq_true rfl⟩ [] (by decide) rfl rfl hl.1 rfl (Nat.le_of_ble_eq_true rfl) dX9_isSheet_3) [] [] rfl rfl trivial [] rfl rfl 0 rfl (by decide +kernel) (fun H locs hw => ?_)
  obtain ⟨hB0, hm⟩ := gdE hm
  have hB := of_decide_eq_true hB0
  have hm := Option.some.inj hm
  subst hm
  exact gRetZ C0 hw hB dX9_isSheet_6

-- WallHandsModel.meets(I)I
abbrev W_m_meets (g : gG) (h0 h1 h2 h3 h4 h5 h6 h7 h8 h9 h10 h11 h12 h13 h14 h15 h16 h17 h18 h19 h20 h21 h22 h23 h24 h25 h26 h27 h28 h29 h30 : Nat) (v_courses : Int32) (v_wide : Int32) (v_hands : Int32) (v_jumpTold : Int32) (v_frosts : Int32) (v_gaps : Int32) (v_frostsNow : Int32) (v_notFrosts : Int32) (v_gapsNow : Int32) (v_fell : Int32) (v_fellAll : Int32) (v_sheepFirst : Int32) (v_sheepMany : Int32) (v_seens : Int32) (v_finding : Int32) : va_W := [(h0, .inr (9, [.ref h1, .ref h2, .int v_courses, .int v_wide, .ref h3, .int v_hands, .ref h4, .ref h5, .int v_jumpTold, .int v_frosts, .ref h6, .ref h7, .int v_gaps, .ref h8, .ref h9, .ref h10, .ref h11, .int v_frostsNow, .ref h12, .ref h13, .int v_notFrosts, .int v_gapsNow, .ref h14, .int v_fell, .int v_fellAll, .ref h15, .ref h16, .ref h17, .ref h18, .ref h19, .ref h20, .ref h21, .int v_sheepFirst, .int v_sheepMany, .int v_seens, .ref h22, .ref h23, .ref h24, .ref h25, .ref h26, .ref h27, .ref h28, .ref h29, .ref h30, .int v_finding]))]

abbrev rm_m_meets : Room := { frames := 0, cells := 0, slots := 0, locals := 0 }

set_option maxHeartbeats 1000000 in
set_option maxRecDepth 100000 in
theorem c_m_meets (l : Launch) (g : gG) (sz : Nat) (h0 h1 h2 h3 h4 h5 h6 h7 h8 h9 h10 h11 h12 h13 h14 h15 h16 h17 h18 h19 h20 h21 h22 h23 h24 h25 h26 h27 h28 h29 h30 : Nat) (v_courses : Int32) (v_wide : Int32) (v_hands : Int32) (v_jumpTold : Int32) (v_frosts : Int32) (v_gaps : Int32) (v_frostsNow : Int32) (v_notFrosts : Int32) (v_gapsNow : Int32) (v_fell : Int32) (v_fellAll : Int32) (v_sheepFirst : Int32) (v_sheepMany : Int32) (v_seens : Int32) (v_finding : Int32) (a0 : Int32) (r : (Int32 × Int32)) (hm : f_m_meets v_finding a0 = some r) : gMi l yX9_meets cX9_meets 2 (some .int) rm_m_meets g sz [.ref h0, .int a0] (W_m_meets g h0 h1 h2 h3 h4 h5 h6 h7 h8 h9 h10 h11 h12 h13 h14 h15 h16 h17 h18 h19 h20 h21 h22 h23 h24 h25 h26 h27 h28 h29 h30 v_courses v_wide v_hands v_jumpTold v_frosts v_gaps v_frostsNow v_notFrosts v_gapsNow v_fell v_fellAll v_sheepFirst v_sheepMany v_seens v_finding) r.1 (W_m_meets g h0 h1 h2 h3 h4 h5 h6 h7 h8 h9 h10 h11 h12 h13 h14 h15 h16 h17 h18 h19 h20 h21 h22 h23 h24 h25 h26 h27 h28 h29 h30 v_courses v_wide v_hands v_jumpTold v_frosts v_gaps v_frostsNow v_notFrosts v_gapsNow v_fell v_fellAll v_sheepFirst v_sheepMany v_seens r.2) := by
  unfold f_m_meets at hm
  refine gEnterI (by decide) (Nat.le_of_ble_eq_true rfl) (fun p e s m below meth c A C0 H locs hw ls hl => ?_)
  obtain ⟨hx, hb, hr, hml, hown, hts, hlocks, hK, hA⟩ := id C0
  have C0 : gX p s m [.ref h0, .int a0].toArray meth c cX9_meets 2 (some .int) RX9 g A := C0
  have hl : lv_has ls 2 [(0, .ref h0), (1, .int a0)] := hl
  refine lv_aload_n hx hb dX9_meets_0 rfl (lv_at hl 0 rfl) ?_
  refine lv_iload_n hx hb dX9_meets_1 rfl (lv_at hl 1 rfl) ?_
  refine gPut (ws' := (W_m_meets g h0 h1 h2 h3 h4 h5 h6 h7 h8 h9 h10 h11 h12 h13 h14 h15 h16 h17 h18 h19 h20 h21 h22 h23 h24 h25 h26 h27 h28 h29 h30 v_courses v_wide v_hands v_jumpTold v_frosts v_gaps v_frostsNow v_notFrosts v_gapsNow v_fell v_fellAll v_sheepFirst v_sheepMany v_seens a0)) C0 hw fpX9_340 0 rfl rfl rfl (Nat.le_of_ble_eq_true rfl) rfl dX9_meets_2 (fun H locs hw => ?_)
  refine lv_bipush (v := -10) hx hb dX9_meets_5 (by decide) ?_
  refine lv_iload_n hx hb dX9_meets_7 rfl (lv_at hl 1 rfl) ?_
  refine lv_isub hx hb dX9_meets_8 ?_
  have hm := Option.some.inj hm
  subst hm
  exact gRetI C0 hw dX9_meets_9

-- WallHandsModel.read(I)I
abbrev W_m_read (g : gG) (h0 h1 h2 h3 h4 h5 h6 h7 h8 h9 h10 h11 h12 h13 h14 h15 h16 h17 h18 h19 h20 h21 h22 h23 h24 h25 h26 h27 h28 h29 h30 : Nat) (v_courses : Int32) (v_wide : Int32) (v_hands : Int32) (v_jumpTold : Int32) (v_frosts : Int32) (v_gaps : Int32) (v_frostsNow : Int32) (v_notFrosts : Int32) (v_gapsNow : Int32) (v_fell : Int32) (v_fellAll : Int32) (v_sheepFirst : Int32) (v_sheepMany : Int32) (v_seens : Int32) (v_finding : Int32) (v_frostYear : Nat → Int32) (v_frostForce : Nat → Int32) (v_isThere : Nat → Int32) (v_sizes : Nat → Int32) (v_items : Nat → Int32) : va_W := [(h0, .inr (9, [.ref h6, .ref h7, .int v_courses, .int v_wide, .ref h8, .int v_hands, .ref h9, .ref h10, .int v_jumpTold, .int v_frosts, .ref h1, .ref h2, .int v_gaps, .ref h11, .ref h12, .ref h13, .ref h14, .int v_frostsNow, .ref h15, .ref h16, .int v_notFrosts, .int v_gapsNow, .ref h17, .int v_fell, .int v_fellAll, .ref h18, .ref h19, .ref h20, .ref h21, .ref h22, .ref h23, .ref h24, .int v_sheepFirst, .int v_sheepMany, .int v_seens, .ref h25, .ref h26, .ref h27, .ref h28, .ref h3, .ref h29, .ref h4, .ref h5, .ref h30, .int v_finding])), (h1, .inl (gI g, 6, .inl v_frostYear)), (h2, .inl (gI g, 6, .inl v_frostForce)), (h3, .inl (gZ g, 4, .inl v_isThere)), (h4, .inl (gI g, 4, .inl v_sizes)), (h5, .inl (gI g, 240, .inl v_items))]

abbrev rm_m_read : Room := { frames := 3, cells := 0, slots := 0, locals := 64 }

set_option maxHeartbeats 1000000 in
set_option maxRecDepth 100000 in
theorem n_m_read_N27 {p : Program} {l : Launch} {e : Env} {s : State} {m : MethodId} {args : Array Value} {below : List Frame} {meth : Method} {c : Code} {A : Nat → Prop} {g : gG} {h0 h1 h2 h3 h4 h5 h6 h7 h8 h9 h10 h11 h12 h13 h14 h15 h16 h17 h18 h19 h20 h21 h22 h23 h24 h25 h26 h27 h28 h29 h30 : Nat} {v_courses : Int32} {v_wide : Int32} {v_hands : Int32} {v_jumpTold : Int32} {v_gaps : Int32} {v_frostsNow : Int32} {v_notFrosts : Int32} {v_gapsNow : Int32} {v_fell : Int32} {v_fellAll : Int32} {v_sheepFirst : Int32} {v_sheepMany : Int32} {v_seens : Int32} {v_isThere : Nat → Int32} {v_sizes : Nat → Int32} {v_items : Nat → Int32} {k27 : Int32 → Int32 → (Nat → Int32) → (Nat → Int32) → Int32 → Int32 → Option (Int32 × Int32 × Int32 × (Nat → Int32) × (Nat → Int32))} {r : (Int32 × Int32 × Int32 × (Nat → Int32) × (Nat → Int32))} (C0 : gX p s m args meth c cX9_read 3 (some .int) RX9 g A) (hk27 : ∀ (v_frosts : Int32) (v_finding : Int32) (v_frostYear : Nat → Int32) (v_frostForce : Nat → Int32) (x1 : Int32) (x2 : Int32), k27 v_frosts v_finding v_frostYear v_frostForce x1 x2 = some r → ∀ (H : Heap) (locs : List Loc) (ls : Array Slot), gW g A s (W_m_read g h0 h1 h2 h3 h4 h5 h6 h7 h8 h9 h10 h11 h12 h13 h14 h15 h16 h17 h18 h19 h20 h21 h22 h23 h24 h25 h26 h27 h28 h29 h30 v_courses v_wide v_hands v_jumpTold v_frosts v_gaps v_frostsNow v_notFrosts v_gapsNow v_fell v_fellAll v_sheepFirst v_sheepMany v_seens v_finding v_frostYear v_frostForce v_isThere v_sizes v_items) H locs → lv_has ls 3 [(0, .ref h0), (1, .int x1), (2, .int x2)] → W p l e rm_m_read s m args below meth c H locs 0 0 (gQi below args s A g r.1 (W_m_read g h0 h1 h2 h3 h4 h5 h6 h7 h8 h9 h10 h11 h12 h13 h14 h15 h16 h17 h18 h19 h20 h21 h22 h23 h24 h25 h26 h27 h28 h29 h30 v_courses v_wide v_hands v_jumpTold r.2.1 v_gaps v_frostsNow v_notFrosts v_gapsNow v_fell v_fellAll v_sheepFirst v_sheepMany v_seens r.2.2.1 r.2.2.2.1 r.2.2.2.2 v_isThere v_sizes v_items)) (F0 m 27 ls [])) : ∀ (v_frosts : Int32) (v_finding : Int32) (v_frostYear : Nat → Int32) (v_frostForce : Nat → Int32) (x1 : Int32) (x2 : Int32), f_m_read_N27 v_isThere v_sizes v_items k27 v_frosts v_finding v_frostYear v_frostForce x1 x2 = some r → ∀ (H : Heap) (locs : List Loc) (ls : Array Slot), gW g A s (W_m_read g h0 h1 h2 h3 h4 h5 h6 h7 h8 h9 h10 h11 h12 h13 h14 h15 h16 h17 h18 h19 h20 h21 h22 h23 h24 h25 h26 h27 h28 h29 h30 v_courses v_wide v_hands v_jumpTold v_frosts v_gaps v_frostsNow v_notFrosts v_gapsNow v_fell v_fellAll v_sheepFirst v_sheepMany v_seens v_finding v_frostYear v_frostForce v_isThere v_sizes v_items) H locs → lv_has ls 3 [(0, .ref h0), (1, .int x1), (2, .int x2)] → W p l e rm_m_read s m args below meth c H locs 0 0 (gQi below args s A g r.1 (W_m_read g h0 h1 h2 h3 h4 h5 h6 h7 h8 h9 h10 h11 h12 h13 h14 h15 h16 h17 h18 h19 h20 h21 h22 h23 h24 h25 h26 h27 h28 h29 h30 v_courses v_wide v_hands v_jumpTold r.2.1 v_gaps v_frostsNow v_notFrosts v_gapsNow v_fell v_fellAll v_sheepFirst v_sheepMany v_seens r.2.2.1 r.2.2.2.1 r.2.2.2.2 v_isThere v_sizes v_items)) (F0 m 27 ls []) := by
  intro v_frosts v_finding v_frostYear v_frostForce x1 x2 hm H locs ls hw hl
  unfold f_m_read_N27 at hm
  obtain ⟨hx, hb, hr, hml, hown, hts, hlocks, hK, hA⟩ := id C0
  refine lv_iconst (v := 2) hx hb dX9_read_27 (by decide) ?_
  refine lv_iload_n hx hb dX9_read_28 rfl (lv_at hl 2 rfl) ?_
  refine lv_imul hx hb dX9_read_29 ?_
  refine lv_iconst (v := 1) hx hb dX9_read_30 (by decide) ?_
  refine lv_iadd hx hb dX9_read_31 ?_
  refine lv_aload_n hx hb dX9_read_32 rfl (lv_at hl 0 rfl) ?_
  refine gGet C0 hw flX9_92 0 rfl rfl dX9_read_33 ?_
  refine lv_iload_n hx hb dX9_read_36 rfl (lv_at hl 1 rfl) ?_
  obtain ⟨hin, hm⟩ := gdE hm
  have hin := inbE hin
  refine gAldI C0 hw 4 rfl hin dX9_read_37 ?_
  refine lv_icmp_ge (tgt := 82) hx hb dX9_read_38 (by decide) (fun hc => ?_) (fun hc => ?_)
  · have hm := ipos hc hm
    refine lv_iload_n hx hb dX9_read_82 rfl (lv_at hl 2 rfl) ?_
    have hm := Option.some.inj hm
    subst hm
    exact gRetI C0 hw dX9_read_83
  · have hm := ineg hc hm
    refine lv_aload_n hx hb dX9_read_41 rfl (lv_at hl 0 rfl) ?_
    refine lv_aload_n hx hb dX9_read_42 rfl (lv_at hl 0 rfl) ?_
    refine gGet C0 hw flX9_95 0 rfl rfl dX9_read_43 ?_
    refine lv_bipush (v := 60) hx hb dX9_read_46 (by decide) ?_
    refine lv_iload_n hx hb dX9_read_48 rfl (lv_at hl 1 rfl) ?_
    refine lv_imul hx hb dX9_read_49 ?_
    refine lv_iconst (v := 2) hx hb dX9_read_50 (by decide) ?_
    refine lv_iload_n hx hb dX9_read_51 rfl (lv_at hl 2 rfl) ?_
    refine lv_imul hx hb dX9_read_52 ?_
    refine lv_iadd hx hb dX9_read_53 ?_
    obtain ⟨hin, hm⟩ := gdE hm
    have hin := inbE hin
    refine gAldI C0 hw 5 rfl hin dX9_read_54 ?_
    refine lv_aload_n hx hb dX9_read_55 rfl (lv_at hl 0 rfl) ?_
    refine gGet C0 hw flX9_95 0 rfl rfl dX9_read_56 ?_
    refine lv_bipush (v := 60) hx hb dX9_read_59 (by decide) ?_
    refine lv_iload_n hx hb dX9_read_61 rfl (lv_at hl 1 rfl) ?_
    refine lv_imul hx hb dX9_read_62 ?_
    refine lv_iconst (v := 2) hx hb dX9_read_63 (by decide) ?_
    refine lv_iload_n hx hb dX9_read_64 rfl (lv_at hl 2 rfl) ?_
    refine lv_imul hx hb dX9_read_65 ?_
    refine lv_iadd hx hb dX9_read_66 ?_
    refine lv_iconst (v := 1) hx hb dX9_read_67 (by decide) ?_
    refine lv_iadd hx hb dX9_read_68 ?_
    obtain ⟨hin, hm⟩ := gdE hm
    have hin := inbE hin
    refine gAldI C0 hw 5 rfl hin dX9_read_69 ?_
    obtain ⟨o70, ho70, hm⟩ := bindE hm
    refine gCalli (ws' := (W_m_read g h0 h1 h2 h3 h4 h5 h6 h7 h8 h9 h10 h11 h12 h13 h14 h15 h16 h17 h18 h19 h20 h21 h22 h23 h24 h25 h26 h27 h28 h29 h30 v_courses v_wide v_hands v_jumpTold o70.2.1 v_gaps v_frostsNow v_notFrosts v_gapsNow v_fell v_fellAll v_sheepFirst v_sheepMany v_seens v_finding o70.2.2.1 o70.2.2.2 v_isThere v_sizes v_items)) C0 hw (gRunV (As := [.int (v_items (((60 : Int32) * x1) + ((2 : Int32) * x2)).toNatClampNeg), .int (v_items ((((60 : Int32) * x1) + ((2 : Int32) * x2)) + (1 : Int32)).toNatClampNeg)]) (rest := []) C0 hw lkX9_182 (c_m_frost l g H.size h0 h1 h2 h6 h7 h8 h9 h10 h11 h12 h13 h14 h15 h16 h17 h18 h19 h20 h21 h22 h23 h24 h25 h26 h27 h28 h3 h29 h4 h5 h30 v_courses v_wide v_hands v_jumpTold v_frosts v_gaps v_frostsNow v_notFrosts v_gapsNow v_fell v_fellAll v_sheepFirst v_sheepMany v_seens v_finding v_frostYear v_frostForce (v_items (((60 : Int32) * x1) + ((2 : Int32) * x2)).toNatClampNeg) (v_items ((((60 : Int32) * x1) + ((2 : Int32) * x2)) + (1 : Int32)).toNatClampNeg) o70 ho70) ⟨rfl, rfl⟩ ⟨Nat.le_of_ble_eq_true rfl, Nat.le_of_ble_eq_true rfl⟩ [0, 1, 2] (by decide) rfl 0 rfl rfl rfl hl.1 rfl (Nat.le_of_ble_eq_true rfl) dX9_read_70) [0, 1, 2] [3, 4, 5] rfl rfl ⟨rfl, rfl, rfl, trivial⟩ [h0, h1, h2, h3, h4, h5] rfl rfl 6 rfl (by decide +kernel) (fun H locs hw => ?_)
    refine lv_if_le (tgt := 82) hx hb dX9_read_73 (by decide) (fun hc => ?_) (fun hc => ?_)
    · have hm := ipos hc hm
      refine lv_iload_n hx hb dX9_read_82 rfl (lv_at hl 2 rfl) ?_
      have hm := Option.some.inj hm
      subst hm
      exact gRetI C0 hw dX9_read_83
    · have hm := ineg hc hm
      refine lv_iinc (v := x2 + (1 : Int32)) (lv' := [(2, .int (x2 + (1 : Int32))), (0, .ref h0), (1, .int x1)]) hx hb dX9_read_76 hl (k := 2) rfl rfl (by decide) rfl (fun ls hl => ?_)
      refine lv_goto (tgt := 27) hx hb dX9_read_79 (by decide) ?_
      exact hk27 _ _ _ _ _ _ hm _ _ _ hw (lv_sub hl [1, 2, 0] rfl)
set_option maxHeartbeats 1000000 in
set_option maxRecDepth 100000 in
theorem l_m_read_N27 {p : Program} {l : Launch} {e : Env} {s : State} {m : MethodId} {args : Array Value} {below : List Frame} {meth : Method} {c : Code} {A : Nat → Prop} {g : gG} {h0 h1 h2 h3 h4 h5 h6 h7 h8 h9 h10 h11 h12 h13 h14 h15 h16 h17 h18 h19 h20 h21 h22 h23 h24 h25 h26 h27 h28 h29 h30 : Nat} {v_courses : Int32} {v_wide : Int32} {v_hands : Int32} {v_jumpTold : Int32} {v_gaps : Int32} {v_frostsNow : Int32} {v_notFrosts : Int32} {v_gapsNow : Int32} {v_fell : Int32} {v_fellAll : Int32} {v_sheepFirst : Int32} {v_sheepMany : Int32} {v_seens : Int32} {v_isThere : Nat → Int32} {v_sizes : Nat → Int32} {v_items : Nat → Int32} {r : (Int32 × Int32 × Int32 × (Nat → Int32) × (Nat → Int32))} (C0 : gX p s m args meth c cX9_read 3 (some .int) RX9 g A) : ∀ n : Nat, ∀ (v_frosts : Int32) (v_finding : Int32) (v_frostYear : Nat → Int32) (v_frostForce : Nat → Int32) (x1 : Int32) (x2 : Int32), iter (fun _ _ _ _ _ _ => none) (f_m_read_N27 v_isThere v_sizes v_items) n v_frosts v_finding v_frostYear v_frostForce x1 x2 = some r → ∀ (H : Heap) (locs : List Loc) (ls : Array Slot), gW g A s (W_m_read g h0 h1 h2 h3 h4 h5 h6 h7 h8 h9 h10 h11 h12 h13 h14 h15 h16 h17 h18 h19 h20 h21 h22 h23 h24 h25 h26 h27 h28 h29 h30 v_courses v_wide v_hands v_jumpTold v_frosts v_gaps v_frostsNow v_notFrosts v_gapsNow v_fell v_fellAll v_sheepFirst v_sheepMany v_seens v_finding v_frostYear v_frostForce v_isThere v_sizes v_items) H locs → lv_has ls 3 [(0, .ref h0), (1, .int x1), (2, .int x2)] → W p l e rm_m_read s m args below meth c H locs 0 0 (gQi below args s A g r.1 (W_m_read g h0 h1 h2 h3 h4 h5 h6 h7 h8 h9 h10 h11 h12 h13 h14 h15 h16 h17 h18 h19 h20 h21 h22 h23 h24 h25 h26 h27 h28 h29 h30 v_courses v_wide v_hands v_jumpTold r.2.1 v_gaps v_frostsNow v_notFrosts v_gapsNow v_fell v_fellAll v_sheepFirst v_sheepMany v_seens r.2.2.1 r.2.2.2.1 r.2.2.2.2 v_isThere v_sizes v_items)) (F0 m 27 ls []) := by
  intro n
  induction n with
  | zero =>
    intro v_frosts v_finding v_frostYear v_frostForce x1 x2 hm
    cases hm
  | succ n ih =>
    exact n_m_read_N27 C0  ih
set_option maxHeartbeats 1000000 in
set_option maxRecDepth 100000 in
theorem c_m_read (l : Launch) (g : gG) (sz : Nat) (h0 h1 h2 h3 h4 h5 h6 h7 h8 h9 h10 h11 h12 h13 h14 h15 h16 h17 h18 h19 h20 h21 h22 h23 h24 h25 h26 h27 h28 h29 h30 : Nat) (v_courses : Int32) (v_wide : Int32) (v_hands : Int32) (v_jumpTold : Int32) (v_frosts : Int32) (v_gaps : Int32) (v_frostsNow : Int32) (v_notFrosts : Int32) (v_gapsNow : Int32) (v_fell : Int32) (v_fellAll : Int32) (v_sheepFirst : Int32) (v_sheepMany : Int32) (v_seens : Int32) (v_finding : Int32) (v_frostYear : Nat → Int32) (v_frostForce : Nat → Int32) (v_isThere : Nat → Int32) (v_sizes : Nat → Int32) (v_items : Nat → Int32) (a0 : Int32) (r : (Int32 × Int32 × Int32 × (Nat → Int32) × (Nat → Int32))) (hm : f_m_read v_frosts v_finding v_frostYear v_frostForce v_isThere v_sizes v_items a0 = some r) : gMi l yX9_read cX9_read 3 (some .int) rm_m_read g sz [.ref h0, .int a0] (W_m_read g h0 h1 h2 h3 h4 h5 h6 h7 h8 h9 h10 h11 h12 h13 h14 h15 h16 h17 h18 h19 h20 h21 h22 h23 h24 h25 h26 h27 h28 h29 h30 v_courses v_wide v_hands v_jumpTold v_frosts v_gaps v_frostsNow v_notFrosts v_gapsNow v_fell v_fellAll v_sheepFirst v_sheepMany v_seens v_finding v_frostYear v_frostForce v_isThere v_sizes v_items) r.1 (W_m_read g h0 h1 h2 h3 h4 h5 h6 h7 h8 h9 h10 h11 h12 h13 h14 h15 h16 h17 h18 h19 h20 h21 h22 h23 h24 h25 h26 h27 h28 h29 h30 v_courses v_wide v_hands v_jumpTold r.2.1 v_gaps v_frostsNow v_notFrosts v_gapsNow v_fell v_fellAll v_sheepFirst v_sheepMany v_seens r.2.2.1 r.2.2.2.1 r.2.2.2.2 v_isThere v_sizes v_items) := by
  unfold f_m_read at hm
  refine gEnterI (by decide) (Nat.le_of_ble_eq_true rfl) (fun p e s m below meth c A C0 H locs hw ls hl => ?_)
  obtain ⟨hx, hb, hr, hml, hown, hts, hlocks, hK, hA⟩ := id C0
  have C0 : gX p s m [.ref h0, .int a0].toArray meth c cX9_read 3 (some .int) RX9 g A := C0
  have hl : lv_has ls 3 [(0, .ref h0), (1, .int a0)] := hl
  refine lv_iload_n hx hb dX9_read_0 rfl (lv_at hl 1 rfl) ?_
  obtain ⟨o1, ho1, hm⟩ := bindE hm
  refine gCalli (ws' := (W_m_read g h0 h1 h2 h3 h4 h5 h6 h7 h8 h9 h10 h11 h12 h13 h14 h15 h16 h17 h18 h19 h20 h21 h22 h23 h24 h25 h26 h27 h28 h29 h30 v_courses v_wide v_hands v_jumpTold v_frosts v_gaps v_frostsNow v_notFrosts v_gapsNow v_fell v_fellAll v_sheepFirst v_sheepMany v_seens v_finding v_frostYear v_frostForce v_isThere v_sizes v_items)) C0 hw (gRunS (As := [.int a0]) (rest := []) C0 hw lkX9_176 (c_m_isSheet l g H.size  a0 o1 ho1) ⟨rfl, rfl⟩ ⟨Nat.le_of_ble_eq_true rfl, Nat.le_of_ble_eq_true rfl⟩ [] (by decide) rfl rfl hl.1 rfl (Nat.le_of_ble_eq_true rfl) dX9_read_1) [] [0, 1, 2, 3, 4, 5] rfl rfl ⟨rfl, rfl, rfl, rfl, rfl, rfl, trivial⟩ [h0, h1, h2, h3, h4, h5] rfl rfl 6 rfl (by decide +kernel) (fun H locs hw => ?_)
  refine lv_if_ne (tgt := 10) hx hb dX9_read_4 (by decide) (fun hc => ?_) (fun hc => ?_)
  · have hm := ineg hc hm
    refine lv_aload_n hx hb dX9_read_10 rfl (lv_at hl 0 rfl) ?_
    refine gGet C0 hw flX9_86 0 rfl rfl dX9_read_11 ?_
    refine lv_iload_n hx hb dX9_read_14 rfl (lv_at hl 1 rfl) ?_
    obtain ⟨hin, hm⟩ := gdE hm
    have hin := inbE hin
    refine gAldZ C0 hw 3 rfl hin dX9_read_15 ?_
    refine lv_if_ne (tgt := 25) hx hb dX9_read_16 (by decide) (fun hc => ?_) (fun hc => ?_)
    · have hm := ineg hc hm
      refine lv_iconst (v := 0) hx hb dX9_read_25 (by decide) ?_
      refine lv_istore_n (lv' := [(2, .int (0 : Int32)), (0, .ref h0), (1, .int a0)]) hx hb dX9_read_26 rfl hl (by decide) rfl (fun ls hl => ?_)
      exact l_m_read_N27 C0  1000 _ _ _ _ _ _ hm _ _ _ hw (lv_sub hl [1, 2, 0] rfl)
    · have hm := ipos hc hm
      refine lv_aload_n hx hb dX9_read_19 rfl (lv_at hl 0 rfl) ?_
      refine lv_iconst (v := 1) hx hb dX9_read_20 (by decide) ?_
      obtain ⟨o21, ho21, hm⟩ := bindE hm
      refine gCalli (ws' := (W_m_read g h0 h1 h2 h3 h4 h5 h6 h7 h8 h9 h10 h11 h12 h13 h14 h15 h16 h17 h18 h19 h20 h21 h22 h23 h24 h25 h26 h27 h28 h29 h30 v_courses v_wide v_hands v_jumpTold v_frosts v_gaps v_frostsNow v_notFrosts v_gapsNow v_fell v_fellAll v_sheepFirst v_sheepMany v_seens o21.2 v_frostYear v_frostForce v_isThere v_sizes v_items)) C0 hw (gRunV (As := [.int (1 : Int32)]) (rest := []) C0 hw lkX9_179 (c_m_meets l g H.size h0 h6 h7 h8 h9 h10 h1 h2 h11 h12 h13 h14 h15 h16 h17 h18 h19 h20 h21 h22 h23 h24 h25 h26 h27 h28 h3 h29 h4 h5 h30 v_courses v_wide v_hands v_jumpTold v_frosts v_gaps v_frostsNow v_notFrosts v_gapsNow v_fell v_fellAll v_sheepFirst v_sheepMany v_seens v_finding (1 : Int32) o21 ho21) ⟨rfl, rfl⟩ ⟨Nat.le_of_ble_eq_true rfl, Nat.le_of_ble_eq_true rfl⟩ [0] (by decide) rfl 0 rfl rfl rfl hl.1 rfl (Nat.le_of_ble_eq_true rfl) dX9_read_21) [0] [1, 2, 3, 4, 5] rfl rfl ⟨rfl, rfl, rfl, rfl, rfl, trivial⟩ [h0, h1, h2, h3, h4, h5] rfl rfl 6 rfl (by decide +kernel) (fun H locs hw => ?_)
      have hm := Option.some.inj hm
      subst hm
      exact gRetI C0 hw dX9_read_24
  · have hm := ipos hc hm
    refine lv_bipush (v := -2) hx hb dX9_read_7 (by decide) ?_
    have hm := Option.some.inj hm
    subst hm
    exact gRetI C0 hw dX9_read_9

-- WallHandsModel.asTold()V
abbrev W_m_asTold (g : gG) (h0 h1 h2 h3 h4 h5 h6 h7 h8 h9 h10 h11 h12 h13 h14 h15 h16 h17 h18 h19 h20 h21 h22 h23 h24 h25 h26 h27 h28 h29 h30 : Nat) (v_courses : Int32) (v_wide : Int32) (v_hands : Int32) (v_jumpTold : Int32) (v_frosts : Int32) (v_gaps : Int32) (v_frostsNow : Int32) (v_notFrosts : Int32) (v_gapsNow : Int32) (v_fell : Int32) (v_fellAll : Int32) (v_sheepFirst : Int32) (v_sheepMany : Int32) (v_seens : Int32) (v_finding : Int32) (v_typed : Nat → Int32) (v_texts : Nat → Int32) (v_told : Nat → Int32) (v_moods : Nat → Int32) (v_strongs : Nat → Int32) (v_frostYear : Nat → Int32) (v_frostForce : Nat → Int32) (v_yearNow : Nat → Int32) (v_forceNow : Nat → Int32) : va_W := [(h0, .inr (9, [.ref h1, .ref h2, .int v_courses, .int v_wide, .ref h3, .int v_hands, .ref h4, .ref h5, .int v_jumpTold, .int v_frosts, .ref h6, .ref h7, .int v_gaps, .ref h10, .ref h11, .ref h12, .ref h13, .int v_frostsNow, .ref h8, .ref h9, .int v_notFrosts, .int v_gapsNow, .ref h14, .int v_fell, .int v_fellAll, .ref h15, .ref h16, .ref h17, .ref h18, .ref h19, .ref h20, .ref h21, .int v_sheepFirst, .int v_sheepMany, .int v_seens, .ref h22, .ref h23, .ref h24, .ref h25, .ref h26, .ref h27, .ref h28, .ref h29, .ref h30, .int v_finding])), (h1, .inl (gI g, 2, .inl v_typed)), (h2, .inl (gI g, 88, .inl v_texts)), (h3, .inl (gI g, 48, .inl v_told)), (h4, .inl (gI g, 9, .inl v_moods)), (h5, .inl (gI g, 9, .inl v_strongs)), (h6, .inl (gI g, 6, .inl v_frostYear)), (h7, .inl (gI g, 6, .inl v_frostForce)), (h8, .inl (gI g, 6, .inl v_yearNow)), (h9, .inl (gI g, 6, .inl v_forceNow))]

abbrev rm_m_asTold : Room := { frames := 5, cells := 0, slots := 0, locals := 115 }

set_option maxHeartbeats 1000000 in
set_option maxRecDepth 100000 in
theorem n_m_asTold_N14 {p : Program} {l : Launch} {e : Env} {s : State} {m : MethodId} {args : Array Value} {below : List Frame} {meth : Method} {c : Code} {A : Nat → Prop} {g : gG} {h0 h1 h2 h3 h4 h5 h6 h7 h8 h9 h10 h11 h12 h13 h14 h15 h16 h17 h18 h19 h20 h21 h22 h23 h24 h25 h26 h27 h28 h29 h30 : Nat} {v_jumpTold : Int32} {v_frosts : Int32} {v_gaps : Int32} {v_fell : Int32} {v_fellAll : Int32} {v_sheepFirst : Int32} {v_sheepMany : Int32} {v_seens : Int32} {v_finding : Int32} {v_typed : Nat → Int32} {v_texts : Nat → Int32} {v_frostYear : Nat → Int32} {v_frostForce : Nat → Int32} {k14 : Int32 → Int32 → Int32 → Int32 → Int32 → Int32 → (Nat → Int32) → (Nat → Int32) → (Nat → Int32) → (Nat → Int32) → (Nat → Int32) → Int32 → Option (Int32 × Int32 × Int32 × Int32 × Int32 × Int32 × (Nat → Int32) × (Nat → Int32) × (Nat → Int32) × (Nat → Int32) × (Nat → Int32))} {r : (Int32 × Int32 × Int32 × Int32 × Int32 × Int32 × (Nat → Int32) × (Nat → Int32) × (Nat → Int32) × (Nat → Int32) × (Nat → Int32))} (C0 : gX p s m args meth c cX9_asTold 2 none RX9 g A) (hk14 : ∀ (v_courses : Int32) (v_wide : Int32) (v_hands : Int32) (v_frostsNow : Int32) (v_notFrosts : Int32) (v_gapsNow : Int32) (v_told : Nat → Int32) (v_moods : Nat → Int32) (v_strongs : Nat → Int32) (v_yearNow : Nat → Int32) (v_forceNow : Nat → Int32) (x1 : Int32), k14 v_courses v_wide v_hands v_frostsNow v_notFrosts v_gapsNow v_told v_moods v_strongs v_yearNow v_forceNow x1 = some r → ∀ (H : Heap) (locs : List Loc) (ls : Array Slot), gW g A s (W_m_asTold g h0 h1 h2 h3 h4 h5 h6 h7 h8 h9 h10 h11 h12 h13 h14 h15 h16 h17 h18 h19 h20 h21 h22 h23 h24 h25 h26 h27 h28 h29 h30 v_courses v_wide v_hands v_jumpTold v_frosts v_gaps v_frostsNow v_notFrosts v_gapsNow v_fell v_fellAll v_sheepFirst v_sheepMany v_seens v_finding v_typed v_texts v_told v_moods v_strongs v_frostYear v_frostForce v_yearNow v_forceNow) H locs → lv_has ls 2 [(0, .ref h0), (1, .int x1)] → W p l e rm_m_asTold s m args below meth c H locs 0 0 (gQv below args s A g (W_m_asTold g h0 h1 h2 h3 h4 h5 h6 h7 h8 h9 h10 h11 h12 h13 h14 h15 h16 h17 h18 h19 h20 h21 h22 h23 h24 h25 h26 h27 h28 h29 h30 r.1 r.2.1 r.2.2.1 v_jumpTold v_frosts v_gaps r.2.2.2.1 r.2.2.2.2.1 r.2.2.2.2.2.1 v_fell v_fellAll v_sheepFirst v_sheepMany v_seens v_finding v_typed v_texts r.2.2.2.2.2.2.1 r.2.2.2.2.2.2.2.1 r.2.2.2.2.2.2.2.2.1 v_frostYear v_frostForce r.2.2.2.2.2.2.2.2.2.1 r.2.2.2.2.2.2.2.2.2.2)) (F0 m 14 ls [])) : ∀ (v_courses : Int32) (v_wide : Int32) (v_hands : Int32) (v_frostsNow : Int32) (v_notFrosts : Int32) (v_gapsNow : Int32) (v_told : Nat → Int32) (v_moods : Nat → Int32) (v_strongs : Nat → Int32) (v_yearNow : Nat → Int32) (v_forceNow : Nat → Int32) (x1 : Int32), f_m_asTold_N14 v_frosts v_gaps v_typed v_texts v_frostYear v_frostForce k14 v_courses v_wide v_hands v_frostsNow v_notFrosts v_gapsNow v_told v_moods v_strongs v_yearNow v_forceNow x1 = some r → ∀ (H : Heap) (locs : List Loc) (ls : Array Slot), gW g A s (W_m_asTold g h0 h1 h2 h3 h4 h5 h6 h7 h8 h9 h10 h11 h12 h13 h14 h15 h16 h17 h18 h19 h20 h21 h22 h23 h24 h25 h26 h27 h28 h29 h30 v_courses v_wide v_hands v_jumpTold v_frosts v_gaps v_frostsNow v_notFrosts v_gapsNow v_fell v_fellAll v_sheepFirst v_sheepMany v_seens v_finding v_typed v_texts v_told v_moods v_strongs v_frostYear v_frostForce v_yearNow v_forceNow) H locs → lv_has ls 2 [(0, .ref h0), (1, .int x1)] → W p l e rm_m_asTold s m args below meth c H locs 0 0 (gQv below args s A g (W_m_asTold g h0 h1 h2 h3 h4 h5 h6 h7 h8 h9 h10 h11 h12 h13 h14 h15 h16 h17 h18 h19 h20 h21 h22 h23 h24 h25 h26 h27 h28 h29 h30 r.1 r.2.1 r.2.2.1 v_jumpTold v_frosts v_gaps r.2.2.2.1 r.2.2.2.2.1 r.2.2.2.2.2.1 v_fell v_fellAll v_sheepFirst v_sheepMany v_seens v_finding v_typed v_texts r.2.2.2.2.2.2.1 r.2.2.2.2.2.2.2.1 r.2.2.2.2.2.2.2.2.1 v_frostYear v_frostForce r.2.2.2.2.2.2.2.2.2.1 r.2.2.2.2.2.2.2.2.2.2)) (F0 m 14 ls []) := by
  intro v_courses v_wide v_hands v_frostsNow v_notFrosts v_gapsNow v_told v_moods v_strongs v_yearNow v_forceNow x1 hm H locs ls hw hl
  unfold f_m_asTold_N14 at hm
  obtain ⟨hx, hb, hr, hml, hown, hts, hlocks, hK, hA⟩ := id C0
  refine lv_iload_n hx hb dX9_asTold_14 rfl (lv_at hl 1 rfl) ?_
  refine lv_aload_n hx hb dX9_asTold_15 rfl (lv_at hl 0 rfl) ?_
  refine gGet C0 hw flX9_170 0 rfl rfl dX9_asTold_16 ?_
  refine lv_icmp_ge (tgt := 52) hx hb dX9_asTold_19 (by decide) (fun hc => ?_) (fun hc => ?_)
  · have hm := ipos hc hm
    refine lv_aload_n hx hb dX9_asTold_52 rfl (lv_at hl 0 rfl) ?_
    refine lv_iconst (v := 0) hx hb dX9_asTold_53 (by decide) ?_
    refine gPut (ws' := (W_m_asTold g h0 h1 h2 h3 h4 h5 h6 h7 h8 h9 h10 h11 h12 h13 h14 h15 h16 h17 h18 h19 h20 h21 h22 h23 h24 h25 h26 h27 h28 h29 h30 v_courses v_wide v_hands v_jumpTold v_frosts v_gaps v_frostsNow (0 : Int32) v_gapsNow v_fell v_fellAll v_sheepFirst v_sheepMany v_seens v_finding v_typed v_texts v_told v_moods v_strongs v_frostYear v_frostForce v_yearNow v_forceNow)) C0 hw fpX9_188 0 rfl rfl rfl (Nat.le_of_ble_eq_true rfl) rfl dX9_asTold_54 (fun H locs hw => ?_)
    refine lv_aload_n hx hb dX9_asTold_57 rfl (lv_at hl 0 rfl) ?_
    refine lv_aload_n hx hb dX9_asTold_58 rfl (lv_at hl 0 rfl) ?_
    refine gGet C0 hw flX9_173 0 rfl rfl dX9_asTold_59 ?_
    refine gPut (ws' := (W_m_asTold g h0 h1 h2 h3 h4 h5 h6 h7 h8 h9 h10 h11 h12 h13 h14 h15 h16 h17 h18 h19 h20 h21 h22 h23 h24 h25 h26 h27 h28 h29 h30 v_courses v_wide v_hands v_jumpTold v_frosts v_gaps v_frostsNow (0 : Int32) v_gaps v_fell v_fellAll v_sheepFirst v_sheepMany v_seens v_finding v_typed v_texts v_told v_moods v_strongs v_frostYear v_frostForce v_yearNow v_forceNow)) C0 hw fpX9_191 0 rfl rfl rfl (Nat.le_of_ble_eq_true rfl) rfl dX9_asTold_62 (fun H locs hw => ?_)
    have hm := Option.some.inj hm
    subst hm
    exact gRetV C0 hw dX9_asTold_65
  · have hm := ineg hc hm
    refine lv_aload_n hx hb dX9_asTold_22 rfl (lv_at hl 0 rfl) ?_
    refine gGet C0 hw flX9_43 0 rfl rfl dX9_asTold_23 ?_
    refine lv_iload_n hx hb dX9_asTold_26 rfl (lv_at hl 1 rfl) ?_
    refine lv_aload_n hx hb dX9_asTold_27 rfl (lv_at hl 0 rfl) ?_
    refine gGet C0 hw flX9_25 0 rfl rfl dX9_asTold_28 ?_
    refine lv_iload_n hx hb dX9_asTold_31 rfl (lv_at hl 1 rfl) ?_
    obtain ⟨hin, hm⟩ := gdE hm
    have hin := inbE hin
    refine gAldI C0 hw 6 rfl hin dX9_asTold_32 ?_
    obtain ⟨hin, hm⟩ := gdE hm
    have hin := inbE hin
    refine gAstI (ws' := (W_m_asTold g h0 h1 h2 h3 h4 h5 h6 h7 h8 h9 h10 h11 h12 h13 h14 h15 h16 h17 h18 h19 h20 h21 h22 h23 h24 h25 h26 h27 h28 h29 h30 v_courses v_wide v_hands v_jumpTold v_frosts v_gaps v_frostsNow v_notFrosts v_gapsNow v_fell v_fellAll v_sheepFirst v_sheepMany v_seens v_finding v_typed v_texts v_told v_moods v_strongs v_frostYear v_frostForce (upd v_yearNow x1.toNatClampNeg (v_frostYear x1.toNatClampNeg)) v_forceNow)) C0 hw 8 rfl hin rfl dX9_asTold_33 (fun H locs hw => ?_)
    refine lv_aload_n hx hb dX9_asTold_34 rfl (lv_at hl 0 rfl) ?_
    refine gGet C0 hw flX9_46 0 rfl rfl dX9_asTold_35 ?_
    refine lv_iload_n hx hb dX9_asTold_38 rfl (lv_at hl 1 rfl) ?_
    refine lv_aload_n hx hb dX9_asTold_39 rfl (lv_at hl 0 rfl) ?_
    refine gGet C0 hw flX9_28 0 rfl rfl dX9_asTold_40 ?_
    refine lv_iload_n hx hb dX9_asTold_43 rfl (lv_at hl 1 rfl) ?_
    obtain ⟨hin, hm⟩ := gdE hm
    have hin := inbE hin
    refine gAldI C0 hw 7 rfl hin dX9_asTold_44 ?_
    obtain ⟨hin, hm⟩ := gdE hm
    have hin := inbE hin
    refine gAstI (ws' := (W_m_asTold g h0 h1 h2 h3 h4 h5 h6 h7 h8 h9 h10 h11 h12 h13 h14 h15 h16 h17 h18 h19 h20 h21 h22 h23 h24 h25 h26 h27 h28 h29 h30 v_courses v_wide v_hands v_jumpTold v_frosts v_gaps v_frostsNow v_notFrosts v_gapsNow v_fell v_fellAll v_sheepFirst v_sheepMany v_seens v_finding v_typed v_texts v_told v_moods v_strongs v_frostYear v_frostForce (upd v_yearNow x1.toNatClampNeg (v_frostYear x1.toNatClampNeg)) (upd v_forceNow x1.toNatClampNeg (v_frostForce x1.toNatClampNeg)))) C0 hw 9 rfl hin rfl dX9_asTold_45 (fun H locs hw => ?_)
    refine lv_iinc (v := x1 + (1 : Int32)) (lv' := [(1, .int (x1 + (1 : Int32))), (0, .ref h0)]) hx hb dX9_asTold_46 hl (k := 1) rfl rfl (by decide) rfl (fun ls hl => ?_)
    refine lv_goto (tgt := 14) hx hb dX9_asTold_49 (by decide) ?_
    exact hk14 _ _ _ _ _ _ _ _ _ _ _ _ hm _ _ _ hw (lv_sub hl [1, 0] rfl)
set_option maxHeartbeats 1000000 in
set_option maxRecDepth 100000 in
theorem l_m_asTold_N14 {p : Program} {l : Launch} {e : Env} {s : State} {m : MethodId} {args : Array Value} {below : List Frame} {meth : Method} {c : Code} {A : Nat → Prop} {g : gG} {h0 h1 h2 h3 h4 h5 h6 h7 h8 h9 h10 h11 h12 h13 h14 h15 h16 h17 h18 h19 h20 h21 h22 h23 h24 h25 h26 h27 h28 h29 h30 : Nat} {v_jumpTold : Int32} {v_frosts : Int32} {v_gaps : Int32} {v_fell : Int32} {v_fellAll : Int32} {v_sheepFirst : Int32} {v_sheepMany : Int32} {v_seens : Int32} {v_finding : Int32} {v_typed : Nat → Int32} {v_texts : Nat → Int32} {v_frostYear : Nat → Int32} {v_frostForce : Nat → Int32} {r : (Int32 × Int32 × Int32 × Int32 × Int32 × Int32 × (Nat → Int32) × (Nat → Int32) × (Nat → Int32) × (Nat → Int32) × (Nat → Int32))} (C0 : gX p s m args meth c cX9_asTold 2 none RX9 g A) : ∀ n : Nat, ∀ (v_courses : Int32) (v_wide : Int32) (v_hands : Int32) (v_frostsNow : Int32) (v_notFrosts : Int32) (v_gapsNow : Int32) (v_told : Nat → Int32) (v_moods : Nat → Int32) (v_strongs : Nat → Int32) (v_yearNow : Nat → Int32) (v_forceNow : Nat → Int32) (x1 : Int32), iter (fun _ _ _ _ _ _ _ _ _ _ _ _ => none) (f_m_asTold_N14 v_frosts v_gaps v_typed v_texts v_frostYear v_frostForce) n v_courses v_wide v_hands v_frostsNow v_notFrosts v_gapsNow v_told v_moods v_strongs v_yearNow v_forceNow x1 = some r → ∀ (H : Heap) (locs : List Loc) (ls : Array Slot), gW g A s (W_m_asTold g h0 h1 h2 h3 h4 h5 h6 h7 h8 h9 h10 h11 h12 h13 h14 h15 h16 h17 h18 h19 h20 h21 h22 h23 h24 h25 h26 h27 h28 h29 h30 v_courses v_wide v_hands v_jumpTold v_frosts v_gaps v_frostsNow v_notFrosts v_gapsNow v_fell v_fellAll v_sheepFirst v_sheepMany v_seens v_finding v_typed v_texts v_told v_moods v_strongs v_frostYear v_frostForce v_yearNow v_forceNow) H locs → lv_has ls 2 [(0, .ref h0), (1, .int x1)] → W p l e rm_m_asTold s m args below meth c H locs 0 0 (gQv below args s A g (W_m_asTold g h0 h1 h2 h3 h4 h5 h6 h7 h8 h9 h10 h11 h12 h13 h14 h15 h16 h17 h18 h19 h20 h21 h22 h23 h24 h25 h26 h27 h28 h29 h30 r.1 r.2.1 r.2.2.1 v_jumpTold v_frosts v_gaps r.2.2.2.1 r.2.2.2.2.1 r.2.2.2.2.2.1 v_fell v_fellAll v_sheepFirst v_sheepMany v_seens v_finding v_typed v_texts r.2.2.2.2.2.2.1 r.2.2.2.2.2.2.2.1 r.2.2.2.2.2.2.2.2.1 v_frostYear v_frostForce r.2.2.2.2.2.2.2.2.2.1 r.2.2.2.2.2.2.2.2.2.2)) (F0 m 14 ls []) := by
  intro n
  induction n with
  | zero =>
    intro v_courses v_wide v_hands v_frostsNow v_notFrosts v_gapsNow v_told v_moods v_strongs v_yearNow v_forceNow x1 hm
    cases hm
  | succ n ih =>
    exact n_m_asTold_N14 C0  ih
set_option maxHeartbeats 1000000 in
set_option maxRecDepth 100000 in
theorem c_m_asTold (l : Launch) (g : gG) (sz : Nat) (h0 h1 h2 h3 h4 h5 h6 h7 h8 h9 h10 h11 h12 h13 h14 h15 h16 h17 h18 h19 h20 h21 h22 h23 h24 h25 h26 h27 h28 h29 h30 : Nat) (v_courses : Int32) (v_wide : Int32) (v_hands : Int32) (v_jumpTold : Int32) (v_frosts : Int32) (v_gaps : Int32) (v_frostsNow : Int32) (v_notFrosts : Int32) (v_gapsNow : Int32) (v_fell : Int32) (v_fellAll : Int32) (v_sheepFirst : Int32) (v_sheepMany : Int32) (v_seens : Int32) (v_finding : Int32) (v_typed : Nat → Int32) (v_texts : Nat → Int32) (v_told : Nat → Int32) (v_moods : Nat → Int32) (v_strongs : Nat → Int32) (v_frostYear : Nat → Int32) (v_frostForce : Nat → Int32) (v_yearNow : Nat → Int32) (v_forceNow : Nat → Int32) (r : (Int32 × Int32 × Int32 × Int32 × Int32 × Int32 × (Nat → Int32) × (Nat → Int32) × (Nat → Int32) × (Nat → Int32) × (Nat → Int32))) (hm : f_m_asTold v_courses v_wide v_hands v_frosts v_gaps v_frostsNow v_notFrosts v_gapsNow v_typed v_texts v_told v_moods v_strongs v_frostYear v_frostForce v_yearNow v_forceNow = some r) : gMv l yX9_asTold cX9_asTold 2 none rm_m_asTold g sz [.ref h0] (W_m_asTold g h0 h1 h2 h3 h4 h5 h6 h7 h8 h9 h10 h11 h12 h13 h14 h15 h16 h17 h18 h19 h20 h21 h22 h23 h24 h25 h26 h27 h28 h29 h30 v_courses v_wide v_hands v_jumpTold v_frosts v_gaps v_frostsNow v_notFrosts v_gapsNow v_fell v_fellAll v_sheepFirst v_sheepMany v_seens v_finding v_typed v_texts v_told v_moods v_strongs v_frostYear v_frostForce v_yearNow v_forceNow) (W_m_asTold g h0 h1 h2 h3 h4 h5 h6 h7 h8 h9 h10 h11 h12 h13 h14 h15 h16 h17 h18 h19 h20 h21 h22 h23 h24 h25 h26 h27 h28 h29 h30 r.1 r.2.1 r.2.2.1 v_jumpTold v_frosts v_gaps r.2.2.2.1 r.2.2.2.2.1 r.2.2.2.2.2.1 v_fell v_fellAll v_sheepFirst v_sheepMany v_seens v_finding v_typed v_texts r.2.2.2.2.2.2.1 r.2.2.2.2.2.2.2.1 r.2.2.2.2.2.2.2.2.1 v_frostYear v_frostForce r.2.2.2.2.2.2.2.2.2.1 r.2.2.2.2.2.2.2.2.2.2) := by
  unfold f_m_asTold at hm
  refine gEnterV (by decide) (Nat.le_of_ble_eq_true rfl) (fun p e s m below meth c A C0 H locs hw ls hl => ?_)
  obtain ⟨hx, hb, hr, hml, hown, hts, hlocks, hK, hA⟩ := id C0
  have C0 : gX p s m [.ref h0].toArray meth c cX9_asTold 2 none RX9 g A := C0
  have hl : lv_has ls 2 [(0, .ref h0)] := hl
  refine lv_aload_n hx hb dX9_asTold_0 rfl (lv_at hl 0 rfl) ?_
  obtain ⟨o1, ho1, hm⟩ := bindE hm
  refine gCallv (ws' := (W_m_asTold g h0 h1 h2 h3 h4 h5 h6 h7 h8 h9 h10 h11 h12 h13 h14 h15 h16 h17 h18 h19 h20 h21 h22 h23 h24 h25 h26 h27 h28 h29 h30 o1.1 o1.2.1 o1.2.2.1 v_jumpTold v_frosts v_gaps v_frostsNow v_notFrosts v_gapsNow v_fell v_fellAll v_sheepFirst v_sheepMany v_seens v_finding v_typed v_texts o1.2.2.2.1 o1.2.2.2.2.1 o1.2.2.2.2.2 v_frostYear v_frostForce v_yearNow v_forceNow)) C0 hw (gRunV (As := []) (rest := []) C0 hw lkX9_151 (c_m_reads l g H.size h0 h1 h2 h3 h4 h5 h6 h7 h10 h11 h12 h13 h8 h9 h14 h15 h16 h17 h18 h19 h20 h21 h22 h23 h24 h25 h26 h27 h28 h29 h30 v_courses v_wide v_hands v_jumpTold v_frosts v_gaps v_frostsNow v_notFrosts v_gapsNow v_fell v_fellAll v_sheepFirst v_sheepMany v_seens v_finding v_typed v_texts v_told v_moods v_strongs o1 ho1) ⟨rfl, rfl⟩ ⟨Nat.le_of_ble_eq_true rfl, Nat.le_of_ble_eq_true rfl⟩ [0, 1, 2, 3, 4, 5] (by decide) rfl 0 rfl rfl rfl hl.1 rfl (Nat.le_of_ble_eq_true rfl) dX9_asTold_1) [0, 1, 2, 3, 4, 5] [6, 7, 8, 9] rfl rfl ⟨rfl, rfl, rfl, rfl, trivial⟩ [h0, h1, h2, h3, h4, h5, h6, h7, h8, h9] rfl rfl 10 rfl (by decide +kernel) (fun H locs hw => ?_)
  refine lv_aload_n hx hb dX9_asTold_4 rfl (lv_at hl 0 rfl) ?_
  refine lv_aload_n hx hb dX9_asTold_5 rfl (lv_at hl 0 rfl) ?_
  refine gGet C0 hw flX9_170 0 rfl rfl dX9_asTold_6 ?_
  refine gPut (ws' := (W_m_asTold g h0 h1 h2 h3 h4 h5 h6 h7 h8 h9 h10 h11 h12 h13 h14 h15 h16 h17 h18 h19 h20 h21 h22 h23 h24 h25 h26 h27 h28 h29 h30 o1.1 o1.2.1 o1.2.2.1 v_jumpTold v_frosts v_gaps v_frosts v_notFrosts v_gapsNow v_fell v_fellAll v_sheepFirst v_sheepMany v_seens v_finding v_typed v_texts o1.2.2.2.1 o1.2.2.2.2.1 o1.2.2.2.2.2 v_frostYear v_frostForce v_yearNow v_forceNow)) C0 hw fpX9_185 0 rfl rfl rfl (Nat.le_of_ble_eq_true rfl) rfl dX9_asTold_9 (fun H locs hw => ?_)
  refine lv_iconst (v := 0) hx hb dX9_asTold_12 (by decide) ?_
  refine lv_istore_n (lv' := [(1, .int (0 : Int32)), (0, .ref h0)]) hx hb dX9_asTold_13 rfl hl (by decide) rfl (fun ls hl => ?_)
  exact l_m_asTold_N14 C0  1000 _ _ _ _ _ _ _ _ _ _ _ _ hm _ _ _ hw (lv_sub hl [1, 0] rfl)

-- WallHandsModel.handNow(II)I
abbrev W_m_handNow (g : gG) (h0 h1 h2 h3 h4 h5 h6 h7 h8 h9 h10 h11 h12 h13 h14 h15 h16 h17 h18 h19 h20 h21 h22 h23 h24 h25 h26 h27 h28 h29 h30 : Nat) (v_courses : Int32) (v_wide : Int32) (v_hands : Int32) (v_jumpTold : Int32) (v_frosts : Int32) (v_gaps : Int32) (v_frostsNow : Int32) (v_notFrosts : Int32) (v_gapsNow : Int32) (v_fell : Int32) (v_fellAll : Int32) (v_sheepFirst : Int32) (v_sheepMany : Int32) (v_seens : Int32) (v_finding : Int32) (v_wall : Nat → Int32) : va_W := [(h0, .inr (9, [.ref h2, .ref h3, .int v_courses, .int v_wide, .ref h4, .int v_hands, .ref h5, .ref h6, .int v_jumpTold, .int v_frosts, .ref h7, .ref h8, .int v_gaps, .ref h9, .ref h10, .ref h11, .ref h1, .int v_frostsNow, .ref h12, .ref h13, .int v_notFrosts, .int v_gapsNow, .ref h14, .int v_fell, .int v_fellAll, .ref h15, .ref h16, .ref h17, .ref h18, .ref h19, .ref h20, .ref h21, .int v_sheepFirst, .int v_sheepMany, .int v_seens, .ref h22, .ref h23, .ref h24, .ref h25, .ref h26, .ref h27, .ref h28, .ref h29, .ref h30, .int v_finding])), (h1, .inl (gI g, 40, .inl v_wall))]

abbrev rm_m_handNow : Room := { frames := 1, cells := 0, slots := 0, locals := 22 }

set_option maxHeartbeats 1000000 in
set_option maxRecDepth 100000 in
theorem c_m_handNow (l : Launch) (g : gG) (sz : Nat) (h0 h1 h2 h3 h4 h5 h6 h7 h8 h9 h10 h11 h12 h13 h14 h15 h16 h17 h18 h19 h20 h21 h22 h23 h24 h25 h26 h27 h28 h29 h30 : Nat) (v_courses : Int32) (v_wide : Int32) (v_hands : Int32) (v_jumpTold : Int32) (v_frosts : Int32) (v_gaps : Int32) (v_frostsNow : Int32) (v_notFrosts : Int32) (v_gapsNow : Int32) (v_fell : Int32) (v_fellAll : Int32) (v_sheepFirst : Int32) (v_sheepMany : Int32) (v_seens : Int32) (v_finding : Int32) (v_wall : Nat → Int32) (a0 : Int32) (a1 : Int32) (r : Int32) (hm : f_m_handNow v_courses v_wide v_wall a0 a1 = some r) : gMi l yX9_handNow cX9_handNow 3 (some .int) rm_m_handNow g sz [.ref h0, .int a0, .int a1] (W_m_handNow g h0 h1 h2 h3 h4 h5 h6 h7 h8 h9 h10 h11 h12 h13 h14 h15 h16 h17 h18 h19 h20 h21 h22 h23 h24 h25 h26 h27 h28 h29 h30 v_courses v_wide v_hands v_jumpTold v_frosts v_gaps v_frostsNow v_notFrosts v_gapsNow v_fell v_fellAll v_sheepFirst v_sheepMany v_seens v_finding v_wall) r (W_m_handNow g h0 h1 h2 h3 h4 h5 h6 h7 h8 h9 h10 h11 h12 h13 h14 h15 h16 h17 h18 h19 h20 h21 h22 h23 h24 h25 h26 h27 h28 h29 h30 v_courses v_wide v_hands v_jumpTold v_frosts v_gaps v_frostsNow v_notFrosts v_gapsNow v_fell v_fellAll v_sheepFirst v_sheepMany v_seens v_finding v_wall) := by
  unfold f_m_handNow at hm
  refine gEnterI (by decide) (Nat.le_of_ble_eq_true rfl) (fun p e s m below meth c A C0 H locs hw ls hl => ?_)
  obtain ⟨hx, hb, hr, hml, hown, hts, hlocks, hK, hA⟩ := id C0
  have C0 : gX p s m [.ref h0, .int a0, .int a1].toArray meth c cX9_handNow 3 (some .int) RX9 g A := C0
  have hl : lv_has ls 3 [(0, .ref h0), (1, .int a0), (2, .int a1)] := hl
  refine lv_iload_n hx hb dX9_handNow_0 rfl (lv_at hl 1 rfl) ?_
  refine lv_iconst (v := 0) hx hb dX9_handNow_1 (by decide) ?_
  refine lv_aload_n hx hb dX9_handNow_2 rfl (lv_at hl 0 rfl) ?_
  refine gGet C0 hw flX9_118 0 rfl rfl dX9_handNow_3 ?_
  refine lv_iconst (v := 1) hx hb dX9_handNow_6 (by decide) ?_
  refine lv_isub hx hb dX9_handNow_7 ?_
  obtain ⟨o8, ho8, hm⟩ := bindE hm
  refine gCalli (ws' := (W_m_handNow g h0 h1 h2 h3 h4 h5 h6 h7 h8 h9 h10 h11 h12 h13 h14 h15 h16 h17 h18 h19 h20 h21 h22 h23 h24 h25 h26 h27 h28 h29 h30 v_courses v_wide v_hands v_jumpTold v_frosts v_gaps v_frostsNow v_notFrosts v_gapsNow v_fell v_fellAll v_sheepFirst v_sheepMany v_seens v_finding v_wall)) C0 hw (gRunS (As := [.int a0, .int (0 : Int32), .int (v_courses - (1 : Int32))]) (rest := []) C0 hw lkX9_107 (c_m_in l g H.size  a0 (0 : Int32) (v_courses - (1 : Int32)) o8 ho8) ⟨rfl, rfl⟩ ⟨Nat.le_of_ble_eq_true rfl, Nat.le_of_ble_eq_true rfl⟩ [] (by decide) rfl rfl hl.1 rfl (Nat.le_of_ble_eq_true rfl) dX9_handNow_8) [] [0, 1] rfl rfl ⟨rfl, rfl, trivial⟩ [h0, h1] rfl rfl 2 rfl (by decide +kernel) (fun H locs hw => ?_)
  refine lv_if_eq (tgt := 42) hx hb dX9_handNow_11 (by decide) (fun hc => ?_) (fun hc => ?_)
  · have hm := ipos hc hm
    refine lv_iconst (v := -1) hx hb dX9_handNow_42 (by decide) ?_
    have hm := Option.some.inj hm
    subst hm
    exact gRetI C0 hw dX9_handNow_43
  · have hm := ineg hc hm
    refine lv_iload_n hx hb dX9_handNow_14 rfl (lv_at hl 2 rfl) ?_
    refine lv_iconst (v := 0) hx hb dX9_handNow_15 (by decide) ?_
    refine lv_aload_n hx hb dX9_handNow_16 rfl (lv_at hl 0 rfl) ?_
    refine gGet C0 hw flX9_121 0 rfl rfl dX9_handNow_17 ?_
    refine lv_iconst (v := 1) hx hb dX9_handNow_20 (by decide) ?_
    refine lv_isub hx hb dX9_handNow_21 ?_
    obtain ⟨o22, ho22, hm⟩ := bindE hm
    refine gCalli (ws' := (W_m_handNow g h0 h1 h2 h3 h4 h5 h6 h7 h8 h9 h10 h11 h12 h13 h14 h15 h16 h17 h18 h19 h20 h21 h22 h23 h24 h25 h26 h27 h28 h29 h30 v_courses v_wide v_hands v_jumpTold v_frosts v_gaps v_frostsNow v_notFrosts v_gapsNow v_fell v_fellAll v_sheepFirst v_sheepMany v_seens v_finding v_wall)) C0 hw (gRunS (As := [.int a1, .int (0 : Int32), .int (v_wide - (1 : Int32))]) (rest := []) C0 hw lkX9_107 (c_m_in l g H.size  a1 (0 : Int32) (v_wide - (1 : Int32)) o22 ho22) ⟨rfl, rfl⟩ ⟨Nat.le_of_ble_eq_true rfl, Nat.le_of_ble_eq_true rfl⟩ [] (by decide) rfl rfl hl.1 rfl (Nat.le_of_ble_eq_true rfl) dX9_handNow_22) [] [0, 1] rfl rfl ⟨rfl, rfl, trivial⟩ [h0, h1] rfl rfl 2 rfl (by decide +kernel) (fun H locs hw => ?_)
    refine lv_if_eq (tgt := 42) hx hb dX9_handNow_25 (by decide) (fun hc => ?_) (fun hc => ?_)
    · have hm := ipos hc hm
      refine lv_iconst (v := -1) hx hb dX9_handNow_42 (by decide) ?_
      have hm := Option.some.inj hm
      subst hm
      exact gRetI C0 hw dX9_handNow_43
    · have hm := ineg hc hm
      refine lv_aload_n hx hb dX9_handNow_28 rfl (lv_at hl 0 rfl) ?_
      refine gGet C0 hw flX9_40 0 rfl rfl dX9_handNow_29 ?_
      refine lv_bipush (v := 8) hx hb dX9_handNow_32 (by decide) ?_
      refine lv_iload_n hx hb dX9_handNow_34 rfl (lv_at hl 1 rfl) ?_
      refine lv_imul hx hb dX9_handNow_35 ?_
      refine lv_iload_n hx hb dX9_handNow_36 rfl (lv_at hl 2 rfl) ?_
      refine lv_iadd hx hb dX9_handNow_37 ?_
      obtain ⟨hin, hm⟩ := gdE hm
      have hin := inbE hin
      refine gAldI C0 hw 1 rfl hin dX9_handNow_38 ?_
      refine lv_goto (tgt := 43) hx hb dX9_handNow_39 (by decide) ?_
      have hm := Option.some.inj hm
      subst hm
      exact gRetI C0 hw dX9_handNow_43

-- WallHandsModel.isBorne(II)Z
abbrev W_m_isBorne (g : gG) (h0 h1 h2 h3 h4 h5 h6 h7 h8 h9 h10 h11 h12 h13 h14 h15 h16 h17 h18 h19 h20 h21 h22 h23 h24 h25 h26 h27 h28 h29 h30 : Nat) (v_courses : Int32) (v_wide : Int32) (v_hands : Int32) (v_jumpTold : Int32) (v_frosts : Int32) (v_gaps : Int32) (v_frostsNow : Int32) (v_notFrosts : Int32) (v_gapsNow : Int32) (v_fell : Int32) (v_fellAll : Int32) (v_sheepFirst : Int32) (v_sheepMany : Int32) (v_seens : Int32) (v_finding : Int32) (v_wall : Nat → Int32) : va_W := [(h0, .inr (9, [.ref h2, .ref h3, .int v_courses, .int v_wide, .ref h4, .int v_hands, .ref h5, .ref h6, .int v_jumpTold, .int v_frosts, .ref h7, .ref h8, .int v_gaps, .ref h9, .ref h10, .ref h11, .ref h1, .int v_frostsNow, .ref h12, .ref h13, .int v_notFrosts, .int v_gapsNow, .ref h14, .int v_fell, .int v_fellAll, .ref h15, .ref h16, .ref h17, .ref h18, .ref h19, .ref h20, .ref h21, .int v_sheepFirst, .int v_sheepMany, .int v_seens, .ref h22, .ref h23, .ref h24, .ref h25, .ref h26, .ref h27, .ref h28, .ref h29, .ref h30, .int v_finding])), (h1, .inl (gI g, 40, .inl v_wall))]

abbrev rm_m_isBorne : Room := { frames := 2, cells := 0, slots := 0, locals := 44 }

set_option maxHeartbeats 1000000 in
set_option maxRecDepth 100000 in
theorem n_m_isBorne_N51 {p : Program} {l : Launch} {e : Env} {s : State} {m : MethodId} {args : Array Value} {below : List Frame} {meth : Method} {c : Code} {A : Nat → Prop} {g : gG} {h0 h1 h2 h3 h4 h5 h6 h7 h8 h9 h10 h11 h12 h13 h14 h15 h16 h17 h18 h19 h20 h21 h22 h23 h24 h25 h26 h27 h28 h29 h30 : Nat} {v_courses : Int32} {v_wide : Int32} {v_hands : Int32} {v_jumpTold : Int32} {v_frosts : Int32} {v_gaps : Int32} {v_frostsNow : Int32} {v_notFrosts : Int32} {v_gapsNow : Int32} {v_fell : Int32} {v_fellAll : Int32} {v_sheepFirst : Int32} {v_sheepMany : Int32} {v_seens : Int32} {v_finding : Int32} {v_wall : Nat → Int32} {r : Int32} (C0 : gX p s m args meth c cX9_isBorne 5 (some .boolean) RX9 g A) : ∀ (x1 : Int32) (x3 : Int32) (y0 : Int32), f_m_isBorne_N51 v_courses v_wide v_wall x1 x3 y0 = some r → ∀ (H : Heap) (locs : List Loc) (ls : Array Slot), gW g A s (W_m_isBorne g h0 h1 h2 h3 h4 h5 h6 h7 h8 h9 h10 h11 h12 h13 h14 h15 h16 h17 h18 h19 h20 h21 h22 h23 h24 h25 h26 h27 h28 h29 h30 v_courses v_wide v_hands v_jumpTold v_frosts v_gaps v_frostsNow v_notFrosts v_gapsNow v_fell v_fellAll v_sheepFirst v_sheepMany v_seens v_finding v_wall) H locs → lv_has ls 5 [(1, .int x1), (3, .int x3)] → W p l e rm_m_isBorne s m args below meth c H locs 0 0 (gQi below args s A g r (W_m_isBorne g h0 h1 h2 h3 h4 h5 h6 h7 h8 h9 h10 h11 h12 h13 h14 h15 h16 h17 h18 h19 h20 h21 h22 h23 h24 h25 h26 h27 h28 h29 h30 v_courses v_wide v_hands v_jumpTold v_frosts v_gaps v_frostsNow v_notFrosts v_gapsNow v_fell v_fellAll v_sheepFirst v_sheepMany v_seens v_finding v_wall)) (F0 m 51 ls [.int y0]) := by
  intro x1 x3 y0 hm H locs ls hw hl
  unfold f_m_isBorne_N51 at hm
  obtain ⟨hx, hb, hr, hml, hown, hts, hlocks, hK, hA⟩ := id C0
  refine lv_istore (lv' := [(4, .int y0), (1, .int x1), (3, .int x3)]) hx hb dX9_isBorne_51 hl (by decide) rfl (fun ls hl => ?_)
  refine lv_iload_n hx hb dX9_isBorne_53 rfl (lv_at hl 1 rfl) ?_
  refine lv_if_eq (tgt := 66) hx hb dX9_isBorne_54 (by decide) (fun hc => ?_) (fun hc => ?_)
  · have hm := ipos hc hm
    refine lv_iconst (v := 1) hx hb dX9_isBorne_66 (by decide) ?_
    refine lv_goto (tgt := 71) hx hb dX9_isBorne_67 (by decide) ?_
    have hm := Option.some.inj hm
    subst hm
    exact gRetZ (v := (1 : Int32)) C0 hw rfl dX9_isBorne_71
  · have hm := ineg hc hm
    refine lv_iload_n hx hb dX9_isBorne_57 rfl (lv_at hl 2 rfl) ?_
    refine lv_if_ne (tgt := 66) hx hb dX9_isBorne_58 (by decide) (fun hc => ?_) (fun hc => ?_)
    · have hm := ineg hc hm
      refine lv_iconst (v := 1) hx hb dX9_isBorne_66 (by decide) ?_
      refine lv_goto (tgt := 71) hx hb dX9_isBorne_67 (by decide) ?_
      have hm := Option.some.inj hm
      subst hm
      exact gRetZ (v := (1 : Int32)) C0 hw rfl dX9_isBorne_71
    · have hm := ipos hc hm
      refine lv_iload hx hb dX9_isBorne_61 (lv_at hl 0 rfl) ?_
      refine lv_if_eq (tgt := 70) hx hb dX9_isBorne_63 (by decide) (fun hc => ?_) (fun hc => ?_)
      · have hm := ipos hc hm
        refine lv_iconst (v := 0) hx hb dX9_isBorne_70 (by decide) ?_
        have hm := Option.some.inj hm
        subst hm
        exact gRetZ (v := (0 : Int32)) C0 hw rfl dX9_isBorne_71
      · have hm := ineg hc hm
        refine lv_iconst (v := 1) hx hb dX9_isBorne_66 (by decide) ?_
        refine lv_goto (tgt := 71) hx hb dX9_isBorne_67 (by decide) ?_
        have hm := Option.some.inj hm
        subst hm
        exact gRetZ (v := (1 : Int32)) C0 hw rfl dX9_isBorne_71
set_option maxHeartbeats 1000000 in
set_option maxRecDepth 100000 in
theorem n_m_isBorne_N50 {p : Program} {l : Launch} {e : Env} {s : State} {m : MethodId} {args : Array Value} {below : List Frame} {meth : Method} {c : Code} {A : Nat → Prop} {g : gG} {h0 h1 h2 h3 h4 h5 h6 h7 h8 h9 h10 h11 h12 h13 h14 h15 h16 h17 h18 h19 h20 h21 h22 h23 h24 h25 h26 h27 h28 h29 h30 : Nat} {v_courses : Int32} {v_wide : Int32} {v_hands : Int32} {v_jumpTold : Int32} {v_frosts : Int32} {v_gaps : Int32} {v_frostsNow : Int32} {v_notFrosts : Int32} {v_gapsNow : Int32} {v_fell : Int32} {v_fellAll : Int32} {v_sheepFirst : Int32} {v_sheepMany : Int32} {v_seens : Int32} {v_finding : Int32} {v_wall : Nat → Int32} {r : Int32} (C0 : gX p s m args meth c cX9_isBorne 5 (some .boolean) RX9 g A) : ∀ (x1 : Int32) (x3 : Int32), f_m_isBorne_N50 v_courses v_wide v_wall x1 x3 = some r → ∀ (H : Heap) (locs : List Loc) (ls : Array Slot), gW g A s (W_m_isBorne g h0 h1 h2 h3 h4 h5 h6 h7 h8 h9 h10 h11 h12 h13 h14 h15 h16 h17 h18 h19 h20 h21 h22 h23 h24 h25 h26 h27 h28 h29 h30 v_courses v_wide v_hands v_jumpTold v_frosts v_gaps v_frostsNow v_notFrosts v_gapsNow v_fell v_fellAll v_sheepFirst v_sheepMany v_seens v_finding v_wall) H locs → lv_has ls 5 [(1, .int x1), (3, .int x3)] → W p l e rm_m_isBorne s m args below meth c H locs 0 0 (gQi below args s A g r (W_m_isBorne g h0 h1 h2 h3 h4 h5 h6 h7 h8 h9 h10 h11 h12 h13 h14 h15 h16 h17 h18 h19 h20 h21 h22 h23 h24 h25 h26 h27 h28 h29 h30 v_courses v_wide v_hands v_jumpTold v_frosts v_gaps v_frostsNow v_notFrosts v_gapsNow v_fell v_fellAll v_sheepFirst v_sheepMany v_seens v_finding v_wall)) (F0 m 50 ls []) := by
  intro x1 x3 hm H locs ls hw hl
  unfold f_m_isBorne_N50 at hm
  obtain ⟨hx, hb, hr, hml, hown, hts, hlocks, hK, hA⟩ := id C0
  refine lv_iconst (v := 0) hx hb dX9_isBorne_50 (by decide) ?_
  exact n_m_isBorne_N51 C0  _ _ _ hm _ _ _ hw (lv_sub hl [0, 1] rfl)
set_option maxHeartbeats 1000000 in
set_option maxRecDepth 100000 in
theorem n_m_isBorne_N17 {p : Program} {l : Launch} {e : Env} {s : State} {m : MethodId} {args : Array Value} {below : List Frame} {meth : Method} {c : Code} {A : Nat → Prop} {g : gG} {h0 h1 h2 h3 h4 h5 h6 h7 h8 h9 h10 h11 h12 h13 h14 h15 h16 h17 h18 h19 h20 h21 h22 h23 h24 h25 h26 h27 h28 h29 h30 : Nat} {v_courses : Int32} {v_wide : Int32} {v_hands : Int32} {v_jumpTold : Int32} {v_frosts : Int32} {v_gaps : Int32} {v_frostsNow : Int32} {v_notFrosts : Int32} {v_gapsNow : Int32} {v_fell : Int32} {v_fellAll : Int32} {v_sheepFirst : Int32} {v_sheepMany : Int32} {v_seens : Int32} {v_finding : Int32} {v_wall : Nat → Int32} {r : Int32} (C0 : gX p s m args meth c cX9_isBorne 5 (some .boolean) RX9 g A) : ∀ (x1 : Int32) (x2 : Int32) (y0 : Int32), f_m_isBorne_N17 v_courses v_wide v_wall x1 x2 y0 = some r → ∀ (H : Heap) (locs : List Loc) (ls : Array Slot), gW g A s (W_m_isBorne g h0 h1 h2 h3 h4 h5 h6 h7 h8 h9 h10 h11 h12 h13 h14 h15 h16 h17 h18 h19 h20 h21 h22 h23 h24 h25 h26 h27 h28 h29 h30 v_courses v_wide v_hands v_jumpTold v_frosts v_gaps v_frostsNow v_notFrosts v_gapsNow v_fell v_fellAll v_sheepFirst v_sheepMany v_seens v_finding v_wall) H locs → lv_has ls 5 [(0, .ref h0), (1, .int x1), (2, .int x2)] → W p l e rm_m_isBorne s m args below meth c H locs 0 0 (gQi below args s A g r (W_m_isBorne g h0 h1 h2 h3 h4 h5 h6 h7 h8 h9 h10 h11 h12 h13 h14 h15 h16 h17 h18 h19 h20 h21 h22 h23 h24 h25 h26 h27 h28 h29 h30 v_courses v_wide v_hands v_jumpTold v_frosts v_gaps v_frostsNow v_notFrosts v_gapsNow v_fell v_fellAll v_sheepFirst v_sheepMany v_seens v_finding v_wall)) (F0 m 17 ls [.int y0]) := by
  intro x1 x2 y0 hm H locs ls hw hl
  unfold f_m_isBorne_N17 at hm
  obtain ⟨hx, hb, hr, hml, hown, hts, hlocks, hK, hA⟩ := id C0
  refine lv_istore_n (lv' := [(3, .int y0), (0, .ref h0), (1, .int x1), (2, .int x2)]) hx hb dX9_isBorne_17 rfl hl (by decide) rfl (fun ls hl => ?_)
  refine lv_aload_n hx hb dX9_isBorne_18 rfl (lv_at hl 1 rfl) ?_
  refine lv_iload_n hx hb dX9_isBorne_19 rfl (lv_at hl 2 rfl) ?_
  refine lv_iconst (v := 1) hx hb dX9_isBorne_20 (by decide) ?_
  refine lv_isub hx hb dX9_isBorne_21 ?_
  refine lv_iload_n hx hb dX9_isBorne_22 rfl (lv_at hl 3 rfl) ?_
  refine lv_iconst (v := 1) hx hb dX9_isBorne_23 (by decide) ?_
  refine lv_isub hx hb dX9_isBorne_24 ?_
  obtain ⟨o25, ho25, hm⟩ := bindE hm
  refine gCalli (ws' := (W_m_isBorne g h0 h1 h2 h3 h4 h5 h6 h7 h8 h9 h10 h11 h12 h13 h14 h15 h16 h17 h18 h19 h20 h21 h22 h23 h24 h25 h26 h27 h28 h29 h30 v_courses v_wide v_hands v_jumpTold v_frosts v_gaps v_frostsNow v_notFrosts v_gapsNow v_fell v_fellAll v_sheepFirst v_sheepMany v_seens v_finding v_wall)) C0 hw (gRunV (As := [.int (x1 - (1 : Int32)), .int (x2 - (1 : Int32))]) (rest := []) C0 hw lkX9_194 (c_m_handNow l g H.size h0 h1 h2 h3 h4 h5 h6 h7 h8 h9 h10 h11 h12 h13 h14 h15 h16 h17 h18 h19 h20 h21 h22 h23 h24 h25 h26 h27 h28 h29 h30 v_courses v_wide v_hands v_jumpTold v_frosts v_gaps v_frostsNow v_notFrosts v_gapsNow v_fell v_fellAll v_sheepFirst v_sheepMany v_seens v_finding v_wall (x1 - (1 : Int32)) (x2 - (1 : Int32)) o25 ho25) ⟨rfl, rfl⟩ ⟨Nat.le_of_ble_eq_true rfl, Nat.le_of_ble_eq_true rfl⟩ [0, 1] (by decide) rfl 0 rfl rfl rfl hl.1 rfl (Nat.le_of_ble_eq_true rfl) dX9_isBorne_25) [0, 1] [] rfl rfl trivial [h0, h1] rfl rfl 2 rfl (by decide +kernel) (fun H locs hw => ?_)
  refine lv_iconst (v := -1) hx hb dX9_isBorne_28 (by decide) ?_
  refine lv_icmp_eq (tgt := 50) hx hb dX9_isBorne_29 (by decide) (fun hc => ?_) (fun hc => ?_)
  · have hm := ipos hc hm
    exact n_m_isBorne_N50 C0  _ _ hm _ _ _ hw (lv_sub hl [2, 0] rfl)
  · have hm := ineg hc hm
    refine lv_aload_n hx hb dX9_isBorne_32 rfl (lv_at hl 1 rfl) ?_
    refine lv_iload_n hx hb dX9_isBorne_33 rfl (lv_at hl 2 rfl) ?_
    refine lv_iconst (v := 1) hx hb dX9_isBorne_34 (by decide) ?_
    refine lv_isub hx hb dX9_isBorne_35 ?_
    refine lv_iload_n hx hb dX9_isBorne_36 rfl (lv_at hl 3 rfl) ?_
    refine lv_iconst (v := 1) hx hb dX9_isBorne_37 (by decide) ?_
    refine lv_iadd hx hb dX9_isBorne_38 ?_
    obtain ⟨o39, ho39, hm⟩ := bindE hm
    refine gCalli (ws' := (W_m_isBorne g h0 h1 h2 h3 h4 h5 h6 h7 h8 h9 h10 h11 h12 h13 h14 h15 h16 h17 h18 h19 h20 h21 h22 h23 h24 h25 h26 h27 h28 h29 h30 v_courses v_wide v_hands v_jumpTold v_frosts v_gaps v_frostsNow v_notFrosts v_gapsNow v_fell v_fellAll v_sheepFirst v_sheepMany v_seens v_finding v_wall)) C0 hw (gRunV (As := [.int (x1 - (1 : Int32)), .int (x2 + (1 : Int32))]) (rest := []) C0 hw lkX9_194 (c_m_handNow l g H.size h0 h1 h2 h3 h4 h5 h6 h7 h8 h9 h10 h11 h12 h13 h14 h15 h16 h17 h18 h19 h20 h21 h22 h23 h24 h25 h26 h27 h28 h29 h30 v_courses v_wide v_hands v_jumpTold v_frosts v_gaps v_frostsNow v_notFrosts v_gapsNow v_fell v_fellAll v_sheepFirst v_sheepMany v_seens v_finding v_wall (x1 - (1 : Int32)) (x2 + (1 : Int32)) o39 ho39) ⟨rfl, rfl⟩ ⟨Nat.le_of_ble_eq_true rfl, Nat.le_of_ble_eq_true rfl⟩ [0, 1] (by decide) rfl 0 rfl rfl rfl hl.1 rfl (Nat.le_of_ble_eq_true rfl) dX9_isBorne_39) [0, 1] [] rfl rfl trivial [h0, h1] rfl rfl 2 rfl (by decide +kernel) (fun H locs hw => ?_)
    refine lv_iconst (v := -1) hx hb dX9_isBorne_42 (by decide) ?_
    refine lv_icmp_eq (tgt := 50) hx hb dX9_isBorne_43 (by decide) (fun hc => ?_) (fun hc => ?_)
    · have hm := ipos hc hm
      exact n_m_isBorne_N50 C0  _ _ hm _ _ _ hw (lv_sub hl [2, 0] rfl)
    · have hm := ineg hc hm
      refine lv_iconst (v := 1) hx hb dX9_isBorne_46 (by decide) ?_
      refine lv_goto (tgt := 51) hx hb dX9_isBorne_47 (by decide) ?_
      exact n_m_isBorne_N51 C0  _ _ _ hm _ _ _ hw (lv_sub hl [2, 0] rfl)
set_option maxHeartbeats 1000000 in
set_option maxRecDepth 100000 in
theorem c_m_isBorne (l : Launch) (g : gG) (sz : Nat) (h0 h1 h2 h3 h4 h5 h6 h7 h8 h9 h10 h11 h12 h13 h14 h15 h16 h17 h18 h19 h20 h21 h22 h23 h24 h25 h26 h27 h28 h29 h30 : Nat) (v_courses : Int32) (v_wide : Int32) (v_hands : Int32) (v_jumpTold : Int32) (v_frosts : Int32) (v_gaps : Int32) (v_frostsNow : Int32) (v_notFrosts : Int32) (v_gapsNow : Int32) (v_fell : Int32) (v_fellAll : Int32) (v_sheepFirst : Int32) (v_sheepMany : Int32) (v_seens : Int32) (v_finding : Int32) (v_wall : Nat → Int32) (a0 : Int32) (a1 : Int32) (r : Int32) (hm : f_m_isBorne v_courses v_wide v_wall a0 a1 = some r) : gMi l yX9_isBorne cX9_isBorne 5 (some .boolean) rm_m_isBorne g sz [.ref h0, .int a0, .int a1] (W_m_isBorne g h0 h1 h2 h3 h4 h5 h6 h7 h8 h9 h10 h11 h12 h13 h14 h15 h16 h17 h18 h19 h20 h21 h22 h23 h24 h25 h26 h27 h28 h29 h30 v_courses v_wide v_hands v_jumpTold v_frosts v_gaps v_frostsNow v_notFrosts v_gapsNow v_fell v_fellAll v_sheepFirst v_sheepMany v_seens v_finding v_wall) r (W_m_isBorne g h0 h1 h2 h3 h4 h5 h6 h7 h8 h9 h10 h11 h12 h13 h14 h15 h16 h17 h18 h19 h20 h21 h22 h23 h24 h25 h26 h27 h28 h29 h30 v_courses v_wide v_hands v_jumpTold v_frosts v_gaps v_frostsNow v_notFrosts v_gapsNow v_fell v_fellAll v_sheepFirst v_sheepMany v_seens v_finding v_wall) := by
  unfold f_m_isBorne at hm
  refine gEnterI (by decide) (Nat.le_of_ble_eq_true rfl) (fun p e s m below meth c A C0 H locs hw ls hl => ?_)
  obtain ⟨hx, hb, hr, hml, hown, hts, hlocks, hK, hA⟩ := id C0
  have C0 : gX p s m [.ref h0, .int a0, .int a1].toArray meth c cX9_isBorne 5 (some .boolean) RX9 g A := C0
  have hl : lv_has ls 5 [(0, .ref h0), (1, .int a0), (2, .int a1)] := hl
  refine lv_aload_n hx hb dX9_isBorne_0 rfl (lv_at hl 0 rfl) ?_
  refine lv_iload_n hx hb dX9_isBorne_1 rfl (lv_at hl 1 rfl) ?_
  refine lv_iconst (v := 1) hx hb dX9_isBorne_2 (by decide) ?_
  refine lv_isub hx hb dX9_isBorne_3 ?_
  refine lv_iload_n hx hb dX9_isBorne_4 rfl (lv_at hl 2 rfl) ?_
  obtain ⟨o5, ho5, hm⟩ := bindE hm
  refine gCalli (ws' := (W_m_isBorne g h0 h1 h2 h3 h4 h5 h6 h7 h8 h9 h10 h11 h12 h13 h14 h15 h16 h17 h18 h19 h20 h21 h22 h23 h24 h25 h26 h27 h28 h29 h30 v_courses v_wide v_hands v_jumpTold v_frosts v_gaps v_frostsNow v_notFrosts v_gapsNow v_fell v_fellAll v_sheepFirst v_sheepMany v_seens v_finding v_wall)) C0 hw (gRunV (As := [.int (a0 - (1 : Int32)), .int a1]) (rest := []) C0 hw lkX9_194 (c_m_handNow l g H.size h0 h1 h2 h3 h4 h5 h6 h7 h8 h9 h10 h11 h12 h13 h14 h15 h16 h17 h18 h19 h20 h21 h22 h23 h24 h25 h26 h27 h28 h29 h30 v_courses v_wide v_hands v_jumpTold v_frosts v_gaps v_frostsNow v_notFrosts v_gapsNow v_fell v_fellAll v_sheepFirst v_sheepMany v_seens v_finding v_wall (a0 - (1 : Int32)) a1 o5 ho5) ⟨rfl, rfl⟩ ⟨Nat.le_of_ble_eq_true rfl, Nat.le_of_ble_eq_true rfl⟩ [0, 1] (by decide) rfl 0 rfl rfl rfl hl.1 rfl (Nat.le_of_ble_eq_true rfl) dX9_isBorne_5) [0, 1] [] rfl rfl trivial [h0, h1] rfl rfl 2 rfl (by decide +kernel) (fun H locs hw => ?_)
  refine lv_iconst (v := -1) hx hb dX9_isBorne_8 (by decide) ?_
  refine lv_icmp_eq (tgt := 16) hx hb dX9_isBorne_9 (by decide) (fun hc => ?_) (fun hc => ?_)
  · have hm := ipos hc hm
    refine lv_iconst (v := 0) hx hb dX9_isBorne_16 (by decide) ?_
    exact n_m_isBorne_N17 C0  _ _ _ hm _ _ _ hw (lv_sub hl [0, 1, 2] rfl)
  · have hm := ineg hc hm
    refine lv_iconst (v := 1) hx hb dX9_isBorne_12 (by decide) ?_
    refine lv_goto (tgt := 17) hx hb dX9_isBorne_13 (by decide) ?_
    exact n_m_isBorne_N17 C0  _ _ _ hm _ _ _ hw (lv_sub hl [0, 1, 2] rfl)

-- WallHandsModel.alike(II)I
abbrev W_m_alike (g : gG) (h0 h1 h2 h3 h4 h5 h6 h7 h8 h9 h10 h11 h12 h13 h14 h15 h16 h17 h18 h19 h20 h21 h22 h23 h24 h25 h26 h27 h28 h29 h30 : Nat) (v_courses : Int32) (v_wide : Int32) (v_hands : Int32) (v_jumpTold : Int32) (v_frosts : Int32) (v_gaps : Int32) (v_frostsNow : Int32) (v_notFrosts : Int32) (v_gapsNow : Int32) (v_fell : Int32) (v_fellAll : Int32) (v_sheepFirst : Int32) (v_sheepMany : Int32) (v_seens : Int32) (v_finding : Int32) : va_W := [(h0, .inr (9, [.ref h1, .ref h2, .int v_courses, .int v_wide, .ref h3, .int v_hands, .ref h4, .ref h5, .int v_jumpTold, .int v_frosts, .ref h6, .ref h7, .int v_gaps, .ref h8, .ref h9, .ref h10, .ref h11, .int v_frostsNow, .ref h12, .ref h13, .int v_notFrosts, .int v_gapsNow, .ref h14, .int v_fell, .int v_fellAll, .ref h15, .ref h16, .ref h17, .ref h18, .ref h19, .ref h20, .ref h21, .int v_sheepFirst, .int v_sheepMany, .int v_seens, .ref h22, .ref h23, .ref h24, .ref h25, .ref h26, .ref h27, .ref h28, .ref h29, .ref h30, .int v_finding]))]

abbrev rm_m_alike : Room := { frames := 0, cells := 0, slots := 0, locals := 0 }

set_option maxHeartbeats 1000000 in
set_option maxRecDepth 100000 in
theorem c_m_alike (l : Launch) (g : gG) (sz : Nat) (h0 h1 h2 h3 h4 h5 h6 h7 h8 h9 h10 h11 h12 h13 h14 h15 h16 h17 h18 h19 h20 h21 h22 h23 h24 h25 h26 h27 h28 h29 h30 : Nat) (v_courses : Int32) (v_wide : Int32) (v_hands : Int32) (v_jumpTold : Int32) (v_frosts : Int32) (v_gaps : Int32) (v_frostsNow : Int32) (v_notFrosts : Int32) (v_gapsNow : Int32) (v_fell : Int32) (v_fellAll : Int32) (v_sheepFirst : Int32) (v_sheepMany : Int32) (v_seens : Int32) (v_finding : Int32) (a0 : Int32) (a1 : Int32) (r : Int32) (hm : f_m_alike a0 a1 = some r) : gMi l yX9_alike cX9_alike 3 (some .int) rm_m_alike g sz [.ref h0, .int a0, .int a1] (W_m_alike g h0 h1 h2 h3 h4 h5 h6 h7 h8 h9 h10 h11 h12 h13 h14 h15 h16 h17 h18 h19 h20 h21 h22 h23 h24 h25 h26 h27 h28 h29 h30 v_courses v_wide v_hands v_jumpTold v_frosts v_gaps v_frostsNow v_notFrosts v_gapsNow v_fell v_fellAll v_sheepFirst v_sheepMany v_seens v_finding) r (W_m_alike g h0 h1 h2 h3 h4 h5 h6 h7 h8 h9 h10 h11 h12 h13 h14 h15 h16 h17 h18 h19 h20 h21 h22 h23 h24 h25 h26 h27 h28 h29 h30 v_courses v_wide v_hands v_jumpTold v_frosts v_gaps v_frostsNow v_notFrosts v_gapsNow v_fell v_fellAll v_sheepFirst v_sheepMany v_seens v_finding) := by
  unfold f_m_alike at hm
  refine gEnterI (by decide) (Nat.le_of_ble_eq_true rfl) (fun p e s m below meth c A C0 H locs hw ls hl => ?_)
  obtain ⟨hx, hb, hr, hml, hown, hts, hlocks, hK, hA⟩ := id C0
  have C0 : gX p s m [.ref h0, .int a0, .int a1].toArray meth c cX9_alike 3 (some .int) RX9 g A := C0
  have hl : lv_has ls 3 [(0, .ref h0), (1, .int a0), (2, .int a1)] := hl
  refine lv_iload_n hx hb dX9_alike_0 rfl (lv_at hl 2 rfl) ?_
  refine lv_iload_n hx hb dX9_alike_1 rfl (lv_at hl 1 rfl) ?_
  refine lv_icmp_ne (tgt := 9) hx hb dX9_alike_2 (by decide) (fun hc => ?_) (fun hc => ?_)
  · have hm := ineg hc hm
    refine lv_iconst (v := 0) hx hb dX9_alike_9 (by decide) ?_
    have hm := Option.some.inj hm
    subst hm
    exact gRetI C0 hw dX9_alike_10
  · have hm := ipos hc hm
    refine lv_iconst (v := 1) hx hb dX9_alike_5 (by decide) ?_
    refine lv_goto (tgt := 10) hx hb dX9_alike_6 (by decide) ?_
    have hm := Option.some.inj hm
    subst hm
    exact gRetI C0 hw dX9_alike_10

-- WallHandsModel.unlike(II)I
abbrev W_m_unlike (g : gG) (h0 h1 h2 h3 h4 h5 h6 h7 h8 h9 h10 h11 h12 h13 h14 h15 h16 h17 h18 h19 h20 h21 h22 h23 h24 h25 h26 h27 h28 h29 h30 : Nat) (v_courses : Int32) (v_wide : Int32) (v_hands : Int32) (v_jumpTold : Int32) (v_frosts : Int32) (v_gaps : Int32) (v_frostsNow : Int32) (v_notFrosts : Int32) (v_gapsNow : Int32) (v_fell : Int32) (v_fellAll : Int32) (v_sheepFirst : Int32) (v_sheepMany : Int32) (v_seens : Int32) (v_finding : Int32) : va_W := [(h0, .inr (9, [.ref h1, .ref h2, .int v_courses, .int v_wide, .ref h3, .int v_hands, .ref h4, .ref h5, .int v_jumpTold, .int v_frosts, .ref h6, .ref h7, .int v_gaps, .ref h8, .ref h9, .ref h10, .ref h11, .int v_frostsNow, .ref h12, .ref h13, .int v_notFrosts, .int v_gapsNow, .ref h14, .int v_fell, .int v_fellAll, .ref h15, .ref h16, .ref h17, .ref h18, .ref h19, .ref h20, .ref h21, .int v_sheepFirst, .int v_sheepMany, .int v_seens, .ref h22, .ref h23, .ref h24, .ref h25, .ref h26, .ref h27, .ref h28, .ref h29, .ref h30, .int v_finding]))]

abbrev rm_m_unlike : Room := { frames := 0, cells := 0, slots := 0, locals := 0 }

set_option maxHeartbeats 1000000 in
set_option maxRecDepth 100000 in
theorem c_m_unlike (l : Launch) (g : gG) (sz : Nat) (h0 h1 h2 h3 h4 h5 h6 h7 h8 h9 h10 h11 h12 h13 h14 h15 h16 h17 h18 h19 h20 h21 h22 h23 h24 h25 h26 h27 h28 h29 h30 : Nat) (v_courses : Int32) (v_wide : Int32) (v_hands : Int32) (v_jumpTold : Int32) (v_frosts : Int32) (v_gaps : Int32) (v_frostsNow : Int32) (v_notFrosts : Int32) (v_gapsNow : Int32) (v_fell : Int32) (v_fellAll : Int32) (v_sheepFirst : Int32) (v_sheepMany : Int32) (v_seens : Int32) (v_finding : Int32) (a0 : Int32) (a1 : Int32) (r : Int32) (hm : f_m_unlike a0 a1 = some r) : gMi l yX9_unlike cX9_unlike 3 (some .int) rm_m_unlike g sz [.ref h0, .int a0, .int a1] (W_m_unlike g h0 h1 h2 h3 h4 h5 h6 h7 h8 h9 h10 h11 h12 h13 h14 h15 h16 h17 h18 h19 h20 h21 h22 h23 h24 h25 h26 h27 h28 h29 h30 v_courses v_wide v_hands v_jumpTold v_frosts v_gaps v_frostsNow v_notFrosts v_gapsNow v_fell v_fellAll v_sheepFirst v_sheepMany v_seens v_finding) r (W_m_unlike g h0 h1 h2 h3 h4 h5 h6 h7 h8 h9 h10 h11 h12 h13 h14 h15 h16 h17 h18 h19 h20 h21 h22 h23 h24 h25 h26 h27 h28 h29 h30 v_courses v_wide v_hands v_jumpTold v_frosts v_gaps v_frostsNow v_notFrosts v_gapsNow v_fell v_fellAll v_sheepFirst v_sheepMany v_seens v_finding) := by
  unfold f_m_unlike at hm
  refine gEnterI (by decide) (Nat.le_of_ble_eq_true rfl) (fun p e s m below meth c A C0 H locs hw ls hl => ?_)
  obtain ⟨hx, hb, hr, hml, hown, hts, hlocks, hK, hA⟩ := id C0
  have C0 : gX p s m [.ref h0, .int a0, .int a1].toArray meth c cX9_unlike 3 (some .int) RX9 g A := C0
  have hl : lv_has ls 3 [(0, .ref h0), (1, .int a0), (2, .int a1)] := hl
  refine lv_iload_n hx hb dX9_unlike_0 rfl (lv_at hl 2 rfl) ?_
  refine lv_iconst (v := -1) hx hb dX9_unlike_1 (by decide) ?_
  refine lv_icmp_eq (tgt := 14) hx hb dX9_unlike_2 (by decide) (fun hc => ?_) (fun hc => ?_)
  · have hm := ipos hc hm
    refine lv_iconst (v := 0) hx hb dX9_unlike_14 (by decide) ?_
    have hm := Option.some.inj hm
    subst hm
    exact gRetI C0 hw dX9_unlike_15
  · have hm := ineg hc hm
    refine lv_iload_n hx hb dX9_unlike_5 rfl (lv_at hl 2 rfl) ?_
    refine lv_iload_n hx hb dX9_unlike_6 rfl (lv_at hl 1 rfl) ?_
    refine lv_icmp_eq (tgt := 14) hx hb dX9_unlike_7 (by decide) (fun hc => ?_) (fun hc => ?_)
    · have hm := ipos hc hm
      refine lv_iconst (v := 0) hx hb dX9_unlike_14 (by decide) ?_
      have hm := Option.some.inj hm
      subst hm
      exact gRetI C0 hw dX9_unlike_15
    · have hm := ineg hc hm
      refine lv_iconst (v := 1) hx hb dX9_unlike_10 (by decide) ?_
      refine lv_goto (tgt := 15) hx hb dX9_unlike_11 (by decide) ?_
      have hm := Option.some.inj hm
      subst hm
      exact gRetI C0 hw dX9_unlike_15

-- WallHandsModel.isLover(I)Z
abbrev W_m_isLover (g : gG) (h0 h1 h2 h3 h4 h5 h6 h7 h8 h9 h10 h11 h12 h13 h14 h15 h16 h17 h18 h19 h20 h21 h22 h23 h24 h25 h26 h27 h28 h29 h30 : Nat) (v_courses : Int32) (v_wide : Int32) (v_hands : Int32) (v_jumpTold : Int32) (v_frosts : Int32) (v_gaps : Int32) (v_frostsNow : Int32) (v_notFrosts : Int32) (v_gapsNow : Int32) (v_fell : Int32) (v_fellAll : Int32) (v_sheepFirst : Int32) (v_sheepMany : Int32) (v_seens : Int32) (v_finding : Int32) (v_moods : Nat → Int32) : va_W := [(h0, .inr (9, [.ref h2, .ref h3, .int v_courses, .int v_wide, .ref h4, .int v_hands, .ref h1, .ref h5, .int v_jumpTold, .int v_frosts, .ref h6, .ref h7, .int v_gaps, .ref h8, .ref h9, .ref h10, .ref h11, .int v_frostsNow, .ref h12, .ref h13, .int v_notFrosts, .int v_gapsNow, .ref h14, .int v_fell, .int v_fellAll, .ref h15, .ref h16, .ref h17, .ref h18, .ref h19, .ref h20, .ref h21, .int v_sheepFirst, .int v_sheepMany, .int v_seens, .ref h22, .ref h23, .ref h24, .ref h25, .ref h26, .ref h27, .ref h28, .ref h29, .ref h30, .int v_finding])), (h1, .inl (gI g, 9, .inl v_moods))]

abbrev rm_m_isLover : Room := { frames := 0, cells := 0, slots := 0, locals := 0 }

set_option maxHeartbeats 1000000 in
set_option maxRecDepth 100000 in
theorem c_m_isLover (l : Launch) (g : gG) (sz : Nat) (h0 h1 h2 h3 h4 h5 h6 h7 h8 h9 h10 h11 h12 h13 h14 h15 h16 h17 h18 h19 h20 h21 h22 h23 h24 h25 h26 h27 h28 h29 h30 : Nat) (v_courses : Int32) (v_wide : Int32) (v_hands : Int32) (v_jumpTold : Int32) (v_frosts : Int32) (v_gaps : Int32) (v_frostsNow : Int32) (v_notFrosts : Int32) (v_gapsNow : Int32) (v_fell : Int32) (v_fellAll : Int32) (v_sheepFirst : Int32) (v_sheepMany : Int32) (v_seens : Int32) (v_finding : Int32) (v_moods : Nat → Int32) (a0 : Int32) (r : Int32) (hm : f_m_isLover v_hands v_moods a0 = some r) : gMi l yX9_isLover cX9_isLover 2 (some .boolean) rm_m_isLover g sz [.ref h0, .int a0] (W_m_isLover g h0 h1 h2 h3 h4 h5 h6 h7 h8 h9 h10 h11 h12 h13 h14 h15 h16 h17 h18 h19 h20 h21 h22 h23 h24 h25 h26 h27 h28 h29 h30 v_courses v_wide v_hands v_jumpTold v_frosts v_gaps v_frostsNow v_notFrosts v_gapsNow v_fell v_fellAll v_sheepFirst v_sheepMany v_seens v_finding v_moods) r (W_m_isLover g h0 h1 h2 h3 h4 h5 h6 h7 h8 h9 h10 h11 h12 h13 h14 h15 h16 h17 h18 h19 h20 h21 h22 h23 h24 h25 h26 h27 h28 h29 h30 v_courses v_wide v_hands v_jumpTold v_frosts v_gaps v_frostsNow v_notFrosts v_gapsNow v_fell v_fellAll v_sheepFirst v_sheepMany v_seens v_finding v_moods) := by
  unfold f_m_isLover at hm
  refine gEnterI (by decide) (Nat.le_of_ble_eq_true rfl) (fun p e s m below meth c A C0 H locs hw ls hl => ?_)
  obtain ⟨hx, hb, hr, hml, hown, hts, hlocks, hK, hA⟩ := id C0
  have C0 : gX p s m [.ref h0, .int a0].toArray meth c cX9_isLover 2 (some .boolean) RX9 g A := C0
  have hl : lv_has ls 2 [(0, .ref h0), (1, .int a0)] := hl
  refine lv_iload_n hx hb dX9_isLover_0 rfl (lv_at hl 1 rfl) ?_
  refine lv_iconst (v := -1) hx hb dX9_isLover_1 (by decide) ?_
  refine lv_icmp_eq (tgt := 27) hx hb dX9_isLover_2 (by decide) (fun hc => ?_) (fun hc => ?_)
  · have hm := ipos hc hm
    refine lv_iconst (v := 0) hx hb dX9_isLover_27 (by decide) ?_
    have hm := Option.some.inj hm
    subst hm
    exact gRetZ (v := (0 : Int32)) C0 hw rfl dX9_isLover_28
  · have hm := ineg hc hm
    refine lv_iload_n hx hb dX9_isLover_5 rfl (lv_at hl 1 rfl) ?_
    refine lv_aload_n hx hb dX9_isLover_6 rfl (lv_at hl 0 rfl) ?_
    refine gGet C0 hw flX9_135 0 rfl rfl dX9_isLover_7 ?_
    refine lv_icmp_ge (tgt := 27) hx hb dX9_isLover_10 (by decide) (fun hc => ?_) (fun hc => ?_)
    · have hm := ipos hc hm
      refine lv_iconst (v := 0) hx hb dX9_isLover_27 (by decide) ?_
      have hm := Option.some.inj hm
      subst hm
      exact gRetZ (v := (0 : Int32)) C0 hw rfl dX9_isLover_28
    · have hm := ineg hc hm
      refine lv_aload_n hx hb dX9_isLover_13 rfl (lv_at hl 0 rfl) ?_
      refine gGet C0 hw flX9_19 0 rfl rfl dX9_isLover_14 ?_
      refine lv_iload_n hx hb dX9_isLover_17 rfl (lv_at hl 1 rfl) ?_
      obtain ⟨hin, hm⟩ := gdE hm
      have hin := inbE hin
      refine gAldI C0 hw 1 rfl hin dX9_isLover_18 ?_
      refine lv_iconst (v := 2) hx hb dX9_isLover_19 (by decide) ?_
      refine lv_icmp_ne (tgt := 27) hx hb dX9_isLover_20 (by decide) (fun hc => ?_) (fun hc => ?_)
      · have hm := ineg hc hm
        refine lv_iconst (v := 0) hx hb dX9_isLover_27 (by decide) ?_
        have hm := Option.some.inj hm
        subst hm
        exact gRetZ (v := (0 : Int32)) C0 hw rfl dX9_isLover_28
      · have hm := ipos hc hm
        refine lv_iconst (v := 1) hx hb dX9_isLover_23 (by decide) ?_
        refine lv_goto (tgt := 28) hx hb dX9_isLover_24 (by decide) ?_
        have hm := Option.some.inj hm
        subst hm
        exact gRetZ (v := (1 : Int32)) C0 hw rfl dX9_isLover_28

-- WallHandsModel.loves(II)Z
abbrev W_m_loves (g : gG) (h0 h1 h2 h3 h4 h5 h6 h7 h8 h9 h10 h11 h12 h13 h14 h15 h16 h17 h18 h19 h20 h21 h22 h23 h24 h25 h26 h27 h28 h29 h30 : Nat) (v_courses : Int32) (v_wide : Int32) (v_hands : Int32) (v_jumpTold : Int32) (v_frosts : Int32) (v_gaps : Int32) (v_frostsNow : Int32) (v_notFrosts : Int32) (v_gapsNow : Int32) (v_fell : Int32) (v_fellAll : Int32) (v_sheepFirst : Int32) (v_sheepMany : Int32) (v_seens : Int32) (v_finding : Int32) (v_moods : Nat → Int32) : va_W := [(h0, .inr (9, [.ref h2, .ref h3, .int v_courses, .int v_wide, .ref h4, .int v_hands, .ref h1, .ref h5, .int v_jumpTold, .int v_frosts, .ref h6, .ref h7, .int v_gaps, .ref h8, .ref h9, .ref h10, .ref h11, .int v_frostsNow, .ref h12, .ref h13, .int v_notFrosts, .int v_gapsNow, .ref h14, .int v_fell, .int v_fellAll, .ref h15, .ref h16, .ref h17, .ref h18, .ref h19, .ref h20, .ref h21, .int v_sheepFirst, .int v_sheepMany, .int v_seens, .ref h22, .ref h23, .ref h24, .ref h25, .ref h26, .ref h27, .ref h28, .ref h29, .ref h30, .int v_finding])), (h1, .inl (gI g, 9, .inl v_moods))]

abbrev rm_m_loves : Room := { frames := 1, cells := 0, slots := 0, locals := 21 }

set_option maxHeartbeats 1000000 in
set_option maxRecDepth 100000 in
theorem c_m_loves (l : Launch) (g : gG) (sz : Nat) (h0 h1 h2 h3 h4 h5 h6 h7 h8 h9 h10 h11 h12 h13 h14 h15 h16 h17 h18 h19 h20 h21 h22 h23 h24 h25 h26 h27 h28 h29 h30 : Nat) (v_courses : Int32) (v_wide : Int32) (v_hands : Int32) (v_jumpTold : Int32) (v_frosts : Int32) (v_gaps : Int32) (v_frostsNow : Int32) (v_notFrosts : Int32) (v_gapsNow : Int32) (v_fell : Int32) (v_fellAll : Int32) (v_sheepFirst : Int32) (v_sheepMany : Int32) (v_seens : Int32) (v_finding : Int32) (v_moods : Nat → Int32) (a0 : Int32) (a1 : Int32) (r : Int32) (hm : f_m_loves v_hands v_moods a0 a1 = some r) : gMi l yX9_loves cX9_loves 3 (some .boolean) rm_m_loves g sz [.ref h0, .int a0, .int a1] (W_m_loves g h0 h1 h2 h3 h4 h5 h6 h7 h8 h9 h10 h11 h12 h13 h14 h15 h16 h17 h18 h19 h20 h21 h22 h23 h24 h25 h26 h27 h28 h29 h30 v_courses v_wide v_hands v_jumpTold v_frosts v_gaps v_frostsNow v_notFrosts v_gapsNow v_fell v_fellAll v_sheepFirst v_sheepMany v_seens v_finding v_moods) r (W_m_loves g h0 h1 h2 h3 h4 h5 h6 h7 h8 h9 h10 h11 h12 h13 h14 h15 h16 h17 h18 h19 h20 h21 h22 h23 h24 h25 h26 h27 h28 h29 h30 v_courses v_wide v_hands v_jumpTold v_frosts v_gaps v_frostsNow v_notFrosts v_gapsNow v_fell v_fellAll v_sheepFirst v_sheepMany v_seens v_finding v_moods) := by
  unfold f_m_loves at hm
  refine gEnterI (by decide) (Nat.le_of_ble_eq_true rfl) (fun p e s m below meth c A C0 H locs hw ls hl => ?_)
  obtain ⟨hx, hb, hr, hml, hown, hts, hlocks, hK, hA⟩ := id C0
  have C0 : gX p s m [.ref h0, .int a0, .int a1].toArray meth c cX9_loves 3 (some .boolean) RX9 g A := C0
  have hl : lv_has ls 3 [(0, .ref h0), (1, .int a0), (2, .int a1)] := hl
  refine lv_iload_n hx hb dX9_loves_0 rfl (lv_at hl 2 rfl) ?_
  refine lv_iload_n hx hb dX9_loves_1 rfl (lv_at hl 1 rfl) ?_
  refine lv_icmp_eq (tgt := 17) hx hb dX9_loves_2 (by decide) (fun hc => ?_) (fun hc => ?_)
  · have hm := ipos hc hm
    refine lv_iconst (v := 0) hx hb dX9_loves_17 (by decide) ?_
    have hm := Option.some.inj hm
    subst hm
    exact gRetZ (v := (0 : Int32)) C0 hw rfl dX9_loves_18
  · have hm := ineg hc hm
    refine lv_aload_n hx hb dX9_loves_5 rfl (lv_at hl 0 rfl) ?_
    refine lv_iload_n hx hb dX9_loves_6 rfl (lv_at hl 2 rfl) ?_
    obtain ⟨o7, ho7, hm⟩ := bindE hm
    refine gCalli (ws' := (W_m_loves g h0 h1 h2 h3 h4 h5 h6 h7 h8 h9 h10 h11 h12 h13 h14 h15 h16 h17 h18 h19 h20 h21 h22 h23 h24 h25 h26 h27 h28 h29 h30 v_courses v_wide v_hands v_jumpTold v_frosts v_gaps v_frostsNow v_notFrosts v_gapsNow v_fell v_fellAll v_sheepFirst v_sheepMany v_seens v_finding v_moods)) C0 hw (gRunV (As := [.int a1]) (rest := []) C0 hw lkX9_197 (c_m_isLover l g H.size h0 h1 h2 h3 h4 h5 h6 h7 h8 h9 h10 h11 h12 h13 h14 h15 h16 h17 h18 h19 h20 h21 h22 h23 h24 h25 h26 h27 h28 h29 h30 v_courses v_wide v_hands v_jumpTold v_frosts v_gaps v_frostsNow v_notFrosts v_gapsNow v_fell v_fellAll v_sheepFirst v_sheepMany v_seens v_finding v_moods a1 o7 ho7) ⟨rfl, rfl⟩ ⟨Nat.le_of_ble_eq_true rfl, Nat.le_of_ble_eq_true rfl⟩ [0, 1] (by decide) rfl 0 rfl rfl rfl hl.1 rfl (Nat.le_of_ble_eq_true rfl) dX9_loves_7) [0, 1] [] rfl rfl trivial [h0, h1] rfl rfl 2 rfl (by decide +kernel) (fun H locs hw => ?_)
    refine lv_if_eq (tgt := 17) hx hb dX9_loves_10 (by decide) (fun hc => ?_) (fun hc => ?_)
    · have hm := ipos hc hm
      refine lv_iconst (v := 0) hx hb dX9_loves_17 (by decide) ?_
      have hm := Option.some.inj hm
      subst hm
      exact gRetZ (v := (0 : Int32)) C0 hw rfl dX9_loves_18
    · have hm := ineg hc hm
      refine lv_iconst (v := 1) hx hb dX9_loves_13 (by decide) ?_
      refine lv_goto (tgt := 18) hx hb dX9_loves_14 (by decide) ?_
      have hm := Option.some.inj hm
      subst hm
      exact gRetZ (v := (1 : Int32)) C0 hw rfl dX9_loves_18

-- WallHandsModel.holds(II)I
abbrev W_m_holds (g : gG) (h0 h1 h2 h3 h4 h5 h6 h7 h8 h9 h10 h11 h12 h13 h14 h15 h16 h17 h18 h19 h20 h21 h22 h23 h24 h25 h26 h27 h28 h29 h30 : Nat) (v_courses : Int32) (v_wide : Int32) (v_hands : Int32) (v_jumpTold : Int32) (v_frosts : Int32) (v_gaps : Int32) (v_frostsNow : Int32) (v_notFrosts : Int32) (v_gapsNow : Int32) (v_fell : Int32) (v_fellAll : Int32) (v_sheepFirst : Int32) (v_sheepMany : Int32) (v_seens : Int32) (v_finding : Int32) (v_moods : Nat → Int32) (v_strongs : Nat → Int32) (v_wall : Nat → Int32) : va_W := [(h0, .inr (9, [.ref h4, .ref h5, .int v_courses, .int v_wide, .ref h6, .int v_hands, .ref h1, .ref h2, .int v_jumpTold, .int v_frosts, .ref h7, .ref h8, .int v_gaps, .ref h9, .ref h10, .ref h11, .ref h3, .int v_frostsNow, .ref h12, .ref h13, .int v_notFrosts, .int v_gapsNow, .ref h14, .int v_fell, .int v_fellAll, .ref h15, .ref h16, .ref h17, .ref h18, .ref h19, .ref h20, .ref h21, .int v_sheepFirst, .int v_sheepMany, .int v_seens, .ref h22, .ref h23, .ref h24, .ref h25, .ref h26, .ref h27, .ref h28, .ref h29, .ref h30, .int v_finding])), (h1, .inl (gI g, 9, .inl v_moods)), (h2, .inl (gI g, 9, .inl v_strongs)), (h3, .inl (gI g, 40, .inl v_wall))]

abbrev rm_m_holds : Room := { frames := 2, cells := 0, slots := 0, locals := 44 }

set_option maxHeartbeats 1000000 in
set_option maxRecDepth 100000 in
theorem n_m_holds_N213 {p : Program} {l : Launch} {e : Env} {s : State} {m : MethodId} {args : Array Value} {below : List Frame} {meth : Method} {c : Code} {A : Nat → Prop} {g : gG} {h0 h1 h2 h3 h4 h5 h6 h7 h8 h9 h10 h11 h12 h13 h14 h15 h16 h17 h18 h19 h20 h21 h22 h23 h24 h25 h26 h27 h28 h29 h30 : Nat} {v_courses : Int32} {v_wide : Int32} {v_hands : Int32} {v_jumpTold : Int32} {v_frosts : Int32} {v_gaps : Int32} {v_frostsNow : Int32} {v_notFrosts : Int32} {v_gapsNow : Int32} {v_fell : Int32} {v_fellAll : Int32} {v_sheepFirst : Int32} {v_sheepMany : Int32} {v_seens : Int32} {v_finding : Int32} {v_moods : Nat → Int32} {v_strongs : Nat → Int32} {v_wall : Nat → Int32} {r : Int32} (C0 : gX p s m args meth c cX9_holds 9 (some .int) RX9 g A) : ∀ (y0 : Int32) (y1 : Int32), f_m_holds_N213 v_courses v_wide v_hands v_moods v_strongs v_wall y0 y1 = some r → ∀ (H : Heap) (locs : List Loc) (ls : Array Slot), gW g A s (W_m_holds g h0 h1 h2 h3 h4 h5 h6 h7 h8 h9 h10 h11 h12 h13 h14 h15 h16 h17 h18 h19 h20 h21 h22 h23 h24 h25 h26 h27 h28 h29 h30 v_courses v_wide v_hands v_jumpTold v_frosts v_gaps v_frostsNow v_notFrosts v_gapsNow v_fell v_fellAll v_sheepFirst v_sheepMany v_seens v_finding v_moods v_strongs v_wall) H locs → lv_has ls 9 [] → W p l e rm_m_holds s m args below meth c H locs 0 0 (gQi below args s A g r (W_m_holds g h0 h1 h2 h3 h4 h5 h6 h7 h8 h9 h10 h11 h12 h13 h14 h15 h16 h17 h18 h19 h20 h21 h22 h23 h24 h25 h26 h27 h28 h29 h30 v_courses v_wide v_hands v_jumpTold v_frosts v_gaps v_frostsNow v_notFrosts v_gapsNow v_fell v_fellAll v_sheepFirst v_sheepMany v_seens v_finding v_moods v_strongs v_wall)) (F0 m 213 ls [.int y1, .int y0]) := by
  intro y0 y1 hm H locs ls hw hl
  unfold f_m_holds_N213 at hm
  obtain ⟨hx, hb, hr, hml, hown, hts, hlocks, hK, hA⟩ := id C0
  refine lv_isub hx hb dX9_holds_213 ?_
  refine lv_istore (lv' := [(8, .int (y0 - y1))]) hx hb dX9_holds_214 hl (by decide) rfl (fun ls hl => ?_)
  refine lv_iload hx hb dX9_holds_216 (lv_at hl 0 rfl) ?_
  refine lv_if_le (tgt := 226) hx hb dX9_holds_218 (by decide) (fun hc => ?_) (fun hc => ?_)
  · have hm := ipos hc hm
    refine lv_iconst (v := 0) hx hb dX9_holds_226 (by decide) ?_
    have hm := Option.some.inj hm
    subst hm
    exact gRetI C0 hw dX9_holds_227
  · have hm := ineg hc hm
    refine lv_iload hx hb dX9_holds_221 (lv_at hl 0 rfl) ?_
    refine lv_goto (tgt := 227) hx hb dX9_holds_223 (by decide) ?_
    have hm := Option.some.inj hm
    subst hm
    exact gRetI C0 hw dX9_holds_227
set_option maxHeartbeats 1000000 in
set_option maxRecDepth 100000 in
theorem n_m_holds_N196 {p : Program} {l : Launch} {e : Env} {s : State} {m : MethodId} {args : Array Value} {below : List Frame} {meth : Method} {c : Code} {A : Nat → Prop} {g : gG} {h0 h1 h2 h3 h4 h5 h6 h7 h8 h9 h10 h11 h12 h13 h14 h15 h16 h17 h18 h19 h20 h21 h22 h23 h24 h25 h26 h27 h28 h29 h30 : Nat} {v_courses : Int32} {v_wide : Int32} {v_hands : Int32} {v_jumpTold : Int32} {v_frosts : Int32} {v_gaps : Int32} {v_frostsNow : Int32} {v_notFrosts : Int32} {v_gapsNow : Int32} {v_fell : Int32} {v_fellAll : Int32} {v_sheepFirst : Int32} {v_sheepMany : Int32} {v_seens : Int32} {v_finding : Int32} {v_moods : Nat → Int32} {v_strongs : Nat → Int32} {v_wall : Nat → Int32} {r : Int32} (C0 : gX p s m args meth c cX9_holds 9 (some .int) RX9 g A) : ∀ (x1 : Int32) (x3 : Int32) (x8 : Int32), f_m_holds_N196 v_courses v_wide v_hands v_moods v_strongs v_wall x1 x3 x8 = some r → ∀ (H : Heap) (locs : List Loc) (ls : Array Slot), gW g A s (W_m_holds g h0 h1 h2 h3 h4 h5 h6 h7 h8 h9 h10 h11 h12 h13 h14 h15 h16 h17 h18 h19 h20 h21 h22 h23 h24 h25 h26 h27 h28 h29 h30 v_courses v_wide v_hands v_jumpTold v_frosts v_gaps v_frostsNow v_notFrosts v_gapsNow v_fell v_fellAll v_sheepFirst v_sheepMany v_seens v_finding v_moods v_strongs v_wall) H locs → lv_has ls 9 [(0, .ref h0), (1, .int x1), (3, .int x3), (8, .int x8)] → W p l e rm_m_holds s m args below meth c H locs 0 0 (gQi below args s A g r (W_m_holds g h0 h1 h2 h3 h4 h5 h6 h7 h8 h9 h10 h11 h12 h13 h14 h15 h16 h17 h18 h19 h20 h21 h22 h23 h24 h25 h26 h27 h28 h29 h30 v_courses v_wide v_hands v_jumpTold v_frosts v_gaps v_frostsNow v_notFrosts v_gapsNow v_fell v_fellAll v_sheepFirst v_sheepMany v_seens v_finding v_moods v_strongs v_wall)) (F0 m 196 ls []) := by
  intro x1 x3 x8 hm H locs ls hw hl
  unfold f_m_holds_N196 at hm
  obtain ⟨hx, hb, hr, hml, hown, hts, hlocks, hK, hA⟩ := id C0
  refine lv_iload hx hb dX9_holds_196 (lv_at hl 3 rfl) ?_
  refine lv_aload_n hx hb dX9_holds_198 rfl (lv_at hl 0 rfl) ?_
  refine gGet C0 hw flX9_19 0 rfl rfl dX9_holds_199 ?_
  refine lv_iload_n hx hb dX9_holds_202 rfl (lv_at hl 2 rfl) ?_
  obtain ⟨hin, hm⟩ := gdE hm
  have hin := inbE hin
  refine gAldI C0 hw 1 rfl hin dX9_holds_203 ?_
  refine lv_iconst (v := 3) hx hb dX9_holds_204 (by decide) ?_
  refine lv_icmp_ne (tgt := 212) hx hb dX9_holds_205 (by decide) (fun hc => ?_) (fun hc => ?_)
  · have hm := ineg hc hm
    refine lv_iconst (v := 0) hx hb dX9_holds_212 (by decide) ?_
    exact n_m_holds_N213 C0  _ _ hm _ _ _ hw (lv_sub hl [] rfl)
  · have hm := ipos hc hm
    refine lv_iload_n hx hb dX9_holds_208 rfl (lv_at hl 1 rfl) ?_
    refine lv_goto (tgt := 213) hx hb dX9_holds_209 (by decide) ?_
    exact n_m_holds_N213 C0  _ _ hm _ _ _ hw (lv_sub hl [] rfl)
set_option maxHeartbeats 1000000 in
set_option maxRecDepth 100000 in
theorem n_m_holds_N193 {p : Program} {l : Launch} {e : Env} {s : State} {m : MethodId} {args : Array Value} {below : List Frame} {meth : Method} {c : Code} {A : Nat → Prop} {g : gG} {h0 h1 h2 h3 h4 h5 h6 h7 h8 h9 h10 h11 h12 h13 h14 h15 h16 h17 h18 h19 h20 h21 h22 h23 h24 h25 h26 h27 h28 h29 h30 : Nat} {v_courses : Int32} {v_wide : Int32} {v_hands : Int32} {v_jumpTold : Int32} {v_frosts : Int32} {v_gaps : Int32} {v_frostsNow : Int32} {v_notFrosts : Int32} {v_gapsNow : Int32} {v_fell : Int32} {v_fellAll : Int32} {v_sheepFirst : Int32} {v_sheepMany : Int32} {v_seens : Int32} {v_finding : Int32} {v_moods : Nat → Int32} {v_strongs : Nat → Int32} {v_wall : Nat → Int32} {r : Int32} (C0 : gX p s m args meth c cX9_holds 9 (some .int) RX9 g A) : ∀ (x1 : Int32) (x3 : Int32) (x8 : Int32), f_m_holds_N193 v_courses v_wide v_hands v_moods v_strongs v_wall x1 x3 x8 = some r → ∀ (H : Heap) (locs : List Loc) (ls : Array Slot), gW g A s (W_m_holds g h0 h1 h2 h3 h4 h5 h6 h7 h8 h9 h10 h11 h12 h13 h14 h15 h16 h17 h18 h19 h20 h21 h22 h23 h24 h25 h26 h27 h28 h29 h30 v_courses v_wide v_hands v_jumpTold v_frosts v_gaps v_frostsNow v_notFrosts v_gapsNow v_fell v_fellAll v_sheepFirst v_sheepMany v_seens v_finding v_moods v_strongs v_wall) H locs → lv_has ls 9 [(0, .ref h0), (1, .int x1), (3, .int x3), (8, .int x8)] → W p l e rm_m_holds s m args below meth c H locs 0 0 (gQi below args s A g r (W_m_holds g h0 h1 h2 h3 h4 h5 h6 h7 h8 h9 h10 h11 h12 h13 h14 h15 h16 h17 h18 h19 h20 h21 h22 h23 h24 h25 h26 h27 h28 h29 h30 v_courses v_wide v_hands v_jumpTold v_frosts v_gaps v_frostsNow v_notFrosts v_gapsNow v_fell v_fellAll v_sheepFirst v_sheepMany v_seens v_finding v_moods v_strongs v_wall)) (F0 m 193 ls []) := by
  intro x1 x3 x8 hm H locs ls hw hl
  unfold f_m_holds_N193 at hm
  obtain ⟨hx, hb, hr, hml, hown, hts, hlocks, hK, hA⟩ := id C0
  refine lv_iinc (v := x8 + (2 : Int32)) (lv' := [(8, .int (x8 + (2 : Int32))), (0, .ref h0), (1, .int x1), (3, .int x3)]) hx hb dX9_holds_193 hl (k := 3) rfl rfl (by decide) rfl (fun ls hl => ?_)
  exact n_m_holds_N196 C0  _ _ _ hm _ _ _ hw (lv_sub hl [1, 2, 3, 0] rfl)
set_option maxHeartbeats 1000000 in
set_option maxRecDepth 100000 in
theorem n_m_holds_N143 {p : Program} {l : Launch} {e : Env} {s : State} {m : MethodId} {args : Array Value} {below : List Frame} {meth : Method} {c : Code} {A : Nat → Prop} {g : gG} {h0 h1 h2 h3 h4 h5 h6 h7 h8 h9 h10 h11 h12 h13 h14 h15 h16 h17 h18 h19 h20 h21 h22 h23 h24 h25 h26 h27 h28 h29 h30 : Nat} {v_courses : Int32} {v_wide : Int32} {v_hands : Int32} {v_jumpTold : Int32} {v_frosts : Int32} {v_gaps : Int32} {v_frostsNow : Int32} {v_notFrosts : Int32} {v_gapsNow : Int32} {v_fell : Int32} {v_fellAll : Int32} {v_sheepFirst : Int32} {v_sheepMany : Int32} {v_seens : Int32} {v_finding : Int32} {v_moods : Nat → Int32} {v_strongs : Nat → Int32} {v_wall : Nat → Int32} {r : Int32} (C0 : gX p s m args meth c cX9_holds 9 (some .int) RX9 g A) : ∀ (x1 : Int32) (x3 : Int32) (x4 : Int32) (x5 : Int32) (x6 : Int32) (x7 : Int32) (x8 : Int32), f_m_holds_N143 v_courses v_wide v_hands v_moods v_strongs v_wall x1 x3 x4 x5 x6 x7 x8 = some r → ∀ (H : Heap) (locs : List Loc) (ls : Array Slot), gW g A s (W_m_holds g h0 h1 h2 h3 h4 h5 h6 h7 h8 h9 h10 h11 h12 h13 h14 h15 h16 h17 h18 h19 h20 h21 h22 h23 h24 h25 h26 h27 h28 h29 h30 v_courses v_wide v_hands v_jumpTold v_frosts v_gaps v_frostsNow v_notFrosts v_gapsNow v_fell v_fellAll v_sheepFirst v_sheepMany v_seens v_finding v_moods v_strongs v_wall) H locs → lv_has ls 9 [(0, .ref h0), (1, .int x1), (3, .int x3), (4, .int x4), (5, .int x5), (6, .int x6), (7, .int x7), (8, .int x8)] → W p l e rm_m_holds s m args below meth c H locs 0 0 (gQi below args s A g r (W_m_holds g h0 h1 h2 h3 h4 h5 h6 h7 h8 h9 h10 h11 h12 h13 h14 h15 h16 h17 h18 h19 h20 h21 h22 h23 h24 h25 h26 h27 h28 h29 h30 v_courses v_wide v_hands v_jumpTold v_frosts v_gaps v_frostsNow v_notFrosts v_gapsNow v_fell v_fellAll v_sheepFirst v_sheepMany v_seens v_finding v_moods v_strongs v_wall)) (F0 m 143 ls []) := by
  intro x1 x3 x4 x5 x6 x7 x8 hm H locs ls hw hl
  unfold f_m_holds_N143 at hm
  obtain ⟨hx, hb, hr, hml, hown, hts, hlocks, hK, hA⟩ := id C0
  refine lv_aload_n hx hb dX9_holds_143 rfl (lv_at hl 0 rfl) ?_
  refine gGet C0 hw flX9_19 0 rfl rfl dX9_holds_144 ?_
  refine lv_iload_n hx hb dX9_holds_147 rfl (lv_at hl 2 rfl) ?_
  obtain ⟨hin, hm⟩ := gdE hm
  have hin := inbE hin
  refine gAldI C0 hw 1 rfl hin dX9_holds_148 ?_
  refine lv_iconst (v := 2) hx hb dX9_holds_149 (by decide) ?_
  refine lv_icmp_ne (tgt := 196) hx hb dX9_holds_150 (by decide) (fun hc => ?_) (fun hc => ?_)
  · have hm := ineg hc hm
    exact n_m_holds_N196 C0  _ _ _ hm _ _ _ hw (lv_sub hl [0, 1, 2, 7] rfl)
  · have hm := ipos hc hm
    refine lv_aload_n hx hb dX9_holds_153 rfl (lv_at hl 0 rfl) ?_
    refine lv_iload_n hx hb dX9_holds_154 rfl (lv_at hl 2 rfl) ?_
    refine lv_iload hx hb dX9_holds_155 (lv_at hl 3 rfl) ?_
    obtain ⟨o157, ho157, hm⟩ := bindE hm
    refine gCalli (ws' := (W_m_holds g h0 h1 h2 h3 h4 h5 h6 h7 h8 h9 h10 h11 h12 h13 h14 h15 h16 h17 h18 h19 h20 h21 h22 h23 h24 h25 h26 h27 h28 h29 h30 v_courses v_wide v_hands v_jumpTold v_frosts v_gaps v_frostsNow v_notFrosts v_gapsNow v_fell v_fellAll v_sheepFirst v_sheepMany v_seens v_finding v_moods v_strongs v_wall)) C0 hw (gRunV (As := [.int x3, .int x4]) (rest := []) C0 hw lkX9_206 (c_m_loves l g H.size h0 h1 h4 h5 h6 h2 h7 h8 h9 h10 h11 h3 h12 h13 h14 h15 h16 h17 h18 h19 h20 h21 h22 h23 h24 h25 h26 h27 h28 h29 h30 v_courses v_wide v_hands v_jumpTold v_frosts v_gaps v_frostsNow v_notFrosts v_gapsNow v_fell v_fellAll v_sheepFirst v_sheepMany v_seens v_finding v_moods x3 x4 o157 ho157) ⟨rfl, rfl⟩ ⟨Nat.le_of_ble_eq_true rfl, Nat.le_of_ble_eq_true rfl⟩ [0, 1] (by decide) rfl 0 rfl rfl rfl hl.1 rfl (Nat.le_of_ble_eq_true rfl) dX9_holds_157) [0, 1] [2, 3] rfl rfl ⟨rfl, rfl, trivial⟩ [h0, h1, h2, h3] rfl rfl 4 rfl (by decide +kernel) (fun H locs hw => ?_)
    refine lv_if_ne (tgt := 193) hx hb dX9_holds_160 (by decide) (fun hc => ?_) (fun hc => ?_)
    · have hm := ineg hc hm
      exact n_m_holds_N193 C0  _ _ _ hm _ _ _ hw (lv_sub hl [0, 1, 2, 7] rfl)
    · have hm := ipos hc hm
      refine lv_aload_n hx hb dX9_holds_163 rfl (lv_at hl 0 rfl) ?_
      refine lv_iload_n hx hb dX9_holds_164 rfl (lv_at hl 2 rfl) ?_
      refine lv_iload hx hb dX9_holds_165 (lv_at hl 4 rfl) ?_
      obtain ⟨o167, ho167, hm⟩ := bindE hm
      refine gCalli (ws' := (W_m_holds g h0 h1 h2 h3 h4 h5 h6 h7 h8 h9 h10 h11 h12 h13 h14 h15 h16 h17 h18 h19 h20 h21 h22 h23 h24 h25 h26 h27 h28 h29 h30 v_courses v_wide v_hands v_jumpTold v_frosts v_gaps v_frostsNow v_notFrosts v_gapsNow v_fell v_fellAll v_sheepFirst v_sheepMany v_seens v_finding v_moods v_strongs v_wall)) C0 hw (gRunV (As := [.int x3, .int x5]) (rest := []) C0 hw lkX9_206 (c_m_loves l g H.size h0 h1 h4 h5 h6 h2 h7 h8 h9 h10 h11 h3 h12 h13 h14 h15 h16 h17 h18 h19 h20 h21 h22 h23 h24 h25 h26 h27 h28 h29 h30 v_courses v_wide v_hands v_jumpTold v_frosts v_gaps v_frostsNow v_notFrosts v_gapsNow v_fell v_fellAll v_sheepFirst v_sheepMany v_seens v_finding v_moods x3 x5 o167 ho167) ⟨rfl, rfl⟩ ⟨Nat.le_of_ble_eq_true rfl, Nat.le_of_ble_eq_true rfl⟩ [0, 1] (by decide) rfl 0 rfl rfl rfl hl.1 rfl (Nat.le_of_ble_eq_true rfl) dX9_holds_167) [0, 1] [2, 3] rfl rfl ⟨rfl, rfl, trivial⟩ [h0, h1, h2, h3] rfl rfl 4 rfl (by decide +kernel) (fun H locs hw => ?_)
      refine lv_if_ne (tgt := 193) hx hb dX9_holds_170 (by decide) (fun hc => ?_) (fun hc => ?_)
      · have hm := ineg hc hm
        exact n_m_holds_N193 C0  _ _ _ hm _ _ _ hw (lv_sub hl [0, 1, 2, 7] rfl)
      · have hm := ipos hc hm
        refine lv_aload_n hx hb dX9_holds_173 rfl (lv_at hl 0 rfl) ?_
        refine lv_iload_n hx hb dX9_holds_174 rfl (lv_at hl 2 rfl) ?_
        refine lv_iload hx hb dX9_holds_175 (lv_at hl 5 rfl) ?_
        obtain ⟨o177, ho177, hm⟩ := bindE hm
        refine gCalli (ws' := (W_m_holds g h0 h1 h2 h3 h4 h5 h6 h7 h8 h9 h10 h11 h12 h13 h14 h15 h16 h17 h18 h19 h20 h21 h22 h23 h24 h25 h26 h27 h28 h29 h30 v_courses v_wide v_hands v_jumpTold v_frosts v_gaps v_frostsNow v_notFrosts v_gapsNow v_fell v_fellAll v_sheepFirst v_sheepMany v_seens v_finding v_moods v_strongs v_wall)) C0 hw (gRunV (As := [.int x3, .int x6]) (rest := []) C0 hw lkX9_206 (c_m_loves l g H.size h0 h1 h4 h5 h6 h2 h7 h8 h9 h10 h11 h3 h12 h13 h14 h15 h16 h17 h18 h19 h20 h21 h22 h23 h24 h25 h26 h27 h28 h29 h30 v_courses v_wide v_hands v_jumpTold v_frosts v_gaps v_frostsNow v_notFrosts v_gapsNow v_fell v_fellAll v_sheepFirst v_sheepMany v_seens v_finding v_moods x3 x6 o177 ho177) ⟨rfl, rfl⟩ ⟨Nat.le_of_ble_eq_true rfl, Nat.le_of_ble_eq_true rfl⟩ [0, 1] (by decide) rfl 0 rfl rfl rfl hl.1 rfl (Nat.le_of_ble_eq_true rfl) dX9_holds_177) [0, 1] [2, 3] rfl rfl ⟨rfl, rfl, trivial⟩ [h0, h1, h2, h3] rfl rfl 4 rfl (by decide +kernel) (fun H locs hw => ?_)
        refine lv_if_ne (tgt := 193) hx hb dX9_holds_180 (by decide) (fun hc => ?_) (fun hc => ?_)
        · have hm := ineg hc hm
          exact n_m_holds_N193 C0  _ _ _ hm _ _ _ hw (lv_sub hl [0, 1, 2, 7] rfl)
        · have hm := ipos hc hm
          refine lv_aload_n hx hb dX9_holds_183 rfl (lv_at hl 0 rfl) ?_
          refine lv_iload_n hx hb dX9_holds_184 rfl (lv_at hl 2 rfl) ?_
          refine lv_iload hx hb dX9_holds_185 (lv_at hl 6 rfl) ?_
          obtain ⟨o187, ho187, hm⟩ := bindE hm
          refine gCalli (ws' := (W_m_holds g h0 h1 h2 h3 h4 h5 h6 h7 h8 h9 h10 h11 h12 h13 h14 h15 h16 h17 h18 h19 h20 h21 h22 h23 h24 h25 h26 h27 h28 h29 h30 v_courses v_wide v_hands v_jumpTold v_frosts v_gaps v_frostsNow v_notFrosts v_gapsNow v_fell v_fellAll v_sheepFirst v_sheepMany v_seens v_finding v_moods v_strongs v_wall)) C0 hw (gRunV (As := [.int x3, .int x7]) (rest := []) C0 hw lkX9_206 (c_m_loves l g H.size h0 h1 h4 h5 h6 h2 h7 h8 h9 h10 h11 h3 h12 h13 h14 h15 h16 h17 h18 h19 h20 h21 h22 h23 h24 h25 h26 h27 h28 h29 h30 v_courses v_wide v_hands v_jumpTold v_frosts v_gaps v_frostsNow v_notFrosts v_gapsNow v_fell v_fellAll v_sheepFirst v_sheepMany v_seens v_finding v_moods x3 x7 o187 ho187) ⟨rfl, rfl⟩ ⟨Nat.le_of_ble_eq_true rfl, Nat.le_of_ble_eq_true rfl⟩ [0, 1] (by decide) rfl 0 rfl rfl rfl hl.1 rfl (Nat.le_of_ble_eq_true rfl) dX9_holds_187) [0, 1] [2, 3] rfl rfl ⟨rfl, rfl, trivial⟩ [h0, h1, h2, h3] rfl rfl 4 rfl (by decide +kernel) (fun H locs hw => ?_)
          refine lv_if_eq (tgt := 196) hx hb dX9_holds_190 (by decide) (fun hc => ?_) (fun hc => ?_)
          · have hm := ipos hc hm
            exact n_m_holds_N196 C0  _ _ _ hm _ _ _ hw (lv_sub hl [0, 1, 2, 7] rfl)
          · have hm := ineg hc hm
            exact n_m_holds_N193 C0  _ _ _ hm _ _ _ hw (lv_sub hl [0, 1, 2, 7] rfl)
set_option maxHeartbeats 1000000 in
set_option maxRecDepth 100000 in
theorem c_m_holds (l : Launch) (g : gG) (sz : Nat) (h0 h1 h2 h3 h4 h5 h6 h7 h8 h9 h10 h11 h12 h13 h14 h15 h16 h17 h18 h19 h20 h21 h22 h23 h24 h25 h26 h27 h28 h29 h30 : Nat) (v_courses : Int32) (v_wide : Int32) (v_hands : Int32) (v_jumpTold : Int32) (v_frosts : Int32) (v_gaps : Int32) (v_frostsNow : Int32) (v_notFrosts : Int32) (v_gapsNow : Int32) (v_fell : Int32) (v_fellAll : Int32) (v_sheepFirst : Int32) (v_sheepMany : Int32) (v_seens : Int32) (v_finding : Int32) (v_moods : Nat → Int32) (v_strongs : Nat → Int32) (v_wall : Nat → Int32) (a0 : Int32) (a1 : Int32) (r : Int32) (hm : f_m_holds v_courses v_wide v_hands v_moods v_strongs v_wall a0 a1 = some r) : gMi l yX9_holds cX9_holds 9 (some .int) rm_m_holds g sz [.ref h0, .int a0, .int a1] (W_m_holds g h0 h1 h2 h3 h4 h5 h6 h7 h8 h9 h10 h11 h12 h13 h14 h15 h16 h17 h18 h19 h20 h21 h22 h23 h24 h25 h26 h27 h28 h29 h30 v_courses v_wide v_hands v_jumpTold v_frosts v_gaps v_frostsNow v_notFrosts v_gapsNow v_fell v_fellAll v_sheepFirst v_sheepMany v_seens v_finding v_moods v_strongs v_wall) r (W_m_holds g h0 h1 h2 h3 h4 h5 h6 h7 h8 h9 h10 h11 h12 h13 h14 h15 h16 h17 h18 h19 h20 h21 h22 h23 h24 h25 h26 h27 h28 h29 h30 v_courses v_wide v_hands v_jumpTold v_frosts v_gaps v_frostsNow v_notFrosts v_gapsNow v_fell v_fellAll v_sheepFirst v_sheepMany v_seens v_finding v_moods v_strongs v_wall) := by
  unfold f_m_holds at hm
  refine gEnterI (by decide) (Nat.le_of_ble_eq_true rfl) (fun p e s m below meth c A C0 H locs hw ls hl => ?_)
  obtain ⟨hx, hb, hr, hml, hown, hts, hlocks, hK, hA⟩ := id C0
  have C0 : gX p s m [.ref h0, .int a0, .int a1].toArray meth c cX9_holds 9 (some .int) RX9 g A := C0
  have hl : lv_has ls 9 [(0, .ref h0), (1, .int a0), (2, .int a1)] := hl
  refine lv_aload_n hx hb dX9_holds_0 rfl (lv_at hl 0 rfl) ?_
  refine lv_iload_n hx hb dX9_holds_1 rfl (lv_at hl 1 rfl) ?_
  refine lv_iload_n hx hb dX9_holds_2 rfl (lv_at hl 2 rfl) ?_
  obtain ⟨o3, ho3, hm⟩ := bindE hm
  refine gCalli (ws' := (W_m_holds g h0 h1 h2 h3 h4 h5 h6 h7 h8 h9 h10 h11 h12 h13 h14 h15 h16 h17 h18 h19 h20 h21 h22 h23 h24 h25 h26 h27 h28 h29 h30 v_courses v_wide v_hands v_jumpTold v_frosts v_gaps v_frostsNow v_notFrosts v_gapsNow v_fell v_fellAll v_sheepFirst v_sheepMany v_seens v_finding v_moods v_strongs v_wall)) C0 hw (gRunV (As := [.int a0, .int a1]) (rest := []) C0 hw lkX9_194 (c_m_handNow l g H.size h0 h3 h4 h5 h6 h1 h2 h7 h8 h9 h10 h11 h12 h13 h14 h15 h16 h17 h18 h19 h20 h21 h22 h23 h24 h25 h26 h27 h28 h29 h30 v_courses v_wide v_hands v_jumpTold v_frosts v_gaps v_frostsNow v_notFrosts v_gapsNow v_fell v_fellAll v_sheepFirst v_sheepMany v_seens v_finding v_wall a0 a1 o3 ho3) ⟨rfl, rfl⟩ ⟨Nat.le_of_ble_eq_true rfl, Nat.le_of_ble_eq_true rfl⟩ [0, 3] (by decide) rfl 0 rfl rfl rfl hl.1 rfl (Nat.le_of_ble_eq_true rfl) dX9_holds_3) [0, 3] [1, 2] rfl rfl ⟨rfl, rfl, trivial⟩ [h0, h1, h2, h3] rfl rfl 4 rfl (by decide +kernel) (fun H locs hw => ?_)
  refine lv_istore_n (lv' := [(3, .int o3), (0, .ref h0), (1, .int a0), (2, .int a1)]) hx hb dX9_holds_6 rfl hl (by decide) rfl (fun ls hl => ?_)
  refine lv_iload_n hx hb dX9_holds_7 rfl (lv_at hl 0 rfl) ?_
  refine lv_aload_n hx hb dX9_holds_8 rfl (lv_at hl 1 rfl) ?_
  refine gGet C0 hw flX9_135 0 rfl rfl dX9_holds_9 ?_
  refine lv_icmp_lt (tgt := 17) hx hb dX9_holds_12 (by decide) (fun hc => ?_) (fun hc => ?_)
  · have hm := ipos hc hm
    refine lv_aload_n hx hb dX9_holds_17 rfl (lv_at hl 1 rfl) ?_
    refine lv_iload_n hx hb dX9_holds_18 rfl (lv_at hl 2 rfl) ?_
    refine lv_iload_n hx hb dX9_holds_19 rfl (lv_at hl 3 rfl) ?_
    refine lv_iconst (v := 1) hx hb dX9_holds_20 (by decide) ?_
    refine lv_isub hx hb dX9_holds_21 ?_
    obtain ⟨o22, ho22, hm⟩ := bindE hm
    refine gCalli (ws' := (W_m_holds g h0 h1 h2 h3 h4 h5 h6 h7 h8 h9 h10 h11 h12 h13 h14 h15 h16 h17 h18 h19 h20 h21 h22 h23 h24 h25 h26 h27 h28 h29 h30 v_courses v_wide v_hands v_jumpTold v_frosts v_gaps v_frostsNow v_notFrosts v_gapsNow v_fell v_fellAll v_sheepFirst v_sheepMany v_seens v_finding v_moods v_strongs v_wall)) C0 hw (gRunV (As := [.int a0, .int (a1 - (1 : Int32))]) (rest := []) C0 hw lkX9_194 (c_m_handNow l g H.size h0 h3 h4 h5 h6 h1 h2 h7 h8 h9 h10 h11 h12 h13 h14 h15 h16 h17 h18 h19 h20 h21 h22 h23 h24 h25 h26 h27 h28 h29 h30 v_courses v_wide v_hands v_jumpTold v_frosts v_gaps v_frostsNow v_notFrosts v_gapsNow v_fell v_fellAll v_sheepFirst v_sheepMany v_seens v_finding v_wall a0 (a1 - (1 : Int32)) o22 ho22) ⟨rfl, rfl⟩ ⟨Nat.le_of_ble_eq_true rfl, Nat.le_of_ble_eq_true rfl⟩ [0, 3] (by decide) rfl 0 rfl rfl rfl hl.1 rfl (Nat.le_of_ble_eq_true rfl) dX9_holds_22) [0, 3] [1, 2] rfl rfl ⟨rfl, rfl, trivial⟩ [h0, h1, h2, h3] rfl rfl 4 rfl (by decide +kernel) (fun H locs hw => ?_)
    refine lv_istore (lv' := [(4, .int o22), (3, .int o3), (0, .ref h0), (1, .int a0), (2, .int a1)]) hx hb dX9_holds_25 hl (by decide) rfl (fun ls hl => ?_)
    refine lv_aload_n hx hb dX9_holds_27 rfl (lv_at hl 2 rfl) ?_
    refine lv_iload_n hx hb dX9_holds_28 rfl (lv_at hl 3 rfl) ?_
    refine lv_iload_n hx hb dX9_holds_29 rfl (lv_at hl 4 rfl) ?_
    refine lv_iconst (v := 1) hx hb dX9_holds_30 (by decide) ?_
    refine lv_iadd hx hb dX9_holds_31 ?_
    obtain ⟨o32, ho32, hm⟩ := bindE hm
    refine gCalli (ws' := (W_m_holds g h0 h1 h2 h3 h4 h5 h6 h7 h8 h9 h10 h11 h12 h13 h14 h15 h16 h17 h18 h19 h20 h21 h22 h23 h24 h25 h26 h27 h28 h29 h30 v_courses v_wide v_hands v_jumpTold v_frosts v_gaps v_frostsNow v_notFrosts v_gapsNow v_fell v_fellAll v_sheepFirst v_sheepMany v_seens v_finding v_moods v_strongs v_wall)) C0 hw (gRunV (As := [.int a0, .int (a1 + (1 : Int32))]) (rest := []) C0 hw lkX9_194 (c_m_handNow l g H.size h0 h3 h4 h5 h6 h1 h2 h7 h8 h9 h10 h11 h12 h13 h14 h15 h16 h17 h18 h19 h20 h21 h22 h23 h24 h25 h26 h27 h28 h29 h30 v_courses v_wide v_hands v_jumpTold v_frosts v_gaps v_frostsNow v_notFrosts v_gapsNow v_fell v_fellAll v_sheepFirst v_sheepMany v_seens v_finding v_wall a0 (a1 + (1 : Int32)) o32 ho32) ⟨rfl, rfl⟩ ⟨Nat.le_of_ble_eq_true rfl, Nat.le_of_ble_eq_true rfl⟩ [0, 3] (by decide) rfl 0 rfl rfl rfl hl.1 rfl (Nat.le_of_ble_eq_true rfl) dX9_holds_32) [0, 3] [1, 2] rfl rfl ⟨rfl, rfl, trivial⟩ [h0, h1, h2, h3] rfl rfl 4 rfl (by decide +kernel) (fun H locs hw => ?_)
    refine lv_istore (lv' := [(5, .int o32), (4, .int o22), (3, .int o3), (0, .ref h0), (1, .int a0), (2, .int a1)]) hx hb dX9_holds_35 hl (by decide) rfl (fun ls hl => ?_)
    refine lv_aload_n hx hb dX9_holds_37 rfl (lv_at hl 3 rfl) ?_
    refine lv_iload_n hx hb dX9_holds_38 rfl (lv_at hl 4 rfl) ?_
    refine lv_iconst (v := 1) hx hb dX9_holds_39 (by decide) ?_
    refine lv_isub hx hb dX9_holds_40 ?_
    refine lv_iload_n hx hb dX9_holds_41 rfl (lv_at hl 5 rfl) ?_
    obtain ⟨o42, ho42, hm⟩ := bindE hm
    refine gCalli (ws' := (W_m_holds g h0 h1 h2 h3 h4 h5 h6 h7 h8 h9 h10 h11 h12 h13 h14 h15 h16 h17 h18 h19 h20 h21 h22 h23 h24 h25 h26 h27 h28 h29 h30 v_courses v_wide v_hands v_jumpTold v_frosts v_gaps v_frostsNow v_notFrosts v_gapsNow v_fell v_fellAll v_sheepFirst v_sheepMany v_seens v_finding v_moods v_strongs v_wall)) C0 hw (gRunV (As := [.int (a0 - (1 : Int32)), .int a1]) (rest := []) C0 hw lkX9_194 (c_m_handNow l g H.size h0 h3 h4 h5 h6 h1 h2 h7 h8 h9 h10 h11 h12 h13 h14 h15 h16 h17 h18 h19 h20 h21 h22 h23 h24 h25 h26 h27 h28 h29 h30 v_courses v_wide v_hands v_jumpTold v_frosts v_gaps v_frostsNow v_notFrosts v_gapsNow v_fell v_fellAll v_sheepFirst v_sheepMany v_seens v_finding v_wall (a0 - (1 : Int32)) a1 o42 ho42) ⟨rfl, rfl⟩ ⟨Nat.le_of_ble_eq_true rfl, Nat.le_of_ble_eq_true rfl⟩ [0, 3] (by decide) rfl 0 rfl rfl rfl hl.1 rfl (Nat.le_of_ble_eq_true rfl) dX9_holds_42) [0, 3] [1, 2] rfl rfl ⟨rfl, rfl, trivial⟩ [h0, h1, h2, h3] rfl rfl 4 rfl (by decide +kernel) (fun H locs hw => ?_)
    refine lv_istore (lv' := [(6, .int o42), (5, .int o32), (4, .int o22), (3, .int o3), (0, .ref h0), (1, .int a0), (2, .int a1)]) hx hb dX9_holds_45 hl (by decide) rfl (fun ls hl => ?_)
    refine lv_aload_n hx hb dX9_holds_47 rfl (lv_at hl 4 rfl) ?_
    refine lv_iload_n hx hb dX9_holds_48 rfl (lv_at hl 5 rfl) ?_
    refine lv_iconst (v := 1) hx hb dX9_holds_49 (by decide) ?_
    refine lv_iadd hx hb dX9_holds_50 ?_
    refine lv_iload_n hx hb dX9_holds_51 rfl (lv_at hl 6 rfl) ?_
    obtain ⟨o52, ho52, hm⟩ := bindE hm
    refine gCalli (ws' := (W_m_holds g h0 h1 h2 h3 h4 h5 h6 h7 h8 h9 h10 h11 h12 h13 h14 h15 h16 h17 h18 h19 h20 h21 h22 h23 h24 h25 h26 h27 h28 h29 h30 v_courses v_wide v_hands v_jumpTold v_frosts v_gaps v_frostsNow v_notFrosts v_gapsNow v_fell v_fellAll v_sheepFirst v_sheepMany v_seens v_finding v_moods v_strongs v_wall)) C0 hw (gRunV (As := [.int (a0 + (1 : Int32)), .int a1]) (rest := []) C0 hw lkX9_194 (c_m_handNow l g H.size h0 h3 h4 h5 h6 h1 h2 h7 h8 h9 h10 h11 h12 h13 h14 h15 h16 h17 h18 h19 h20 h21 h22 h23 h24 h25 h26 h27 h28 h29 h30 v_courses v_wide v_hands v_jumpTold v_frosts v_gaps v_frostsNow v_notFrosts v_gapsNow v_fell v_fellAll v_sheepFirst v_sheepMany v_seens v_finding v_wall (a0 + (1 : Int32)) a1 o52 ho52) ⟨rfl, rfl⟩ ⟨Nat.le_of_ble_eq_true rfl, Nat.le_of_ble_eq_true rfl⟩ [0, 3] (by decide) rfl 0 rfl rfl rfl hl.1 rfl (Nat.le_of_ble_eq_true rfl) dX9_holds_52) [0, 3] [1, 2] rfl rfl ⟨rfl, rfl, trivial⟩ [h0, h1, h2, h3] rfl rfl 4 rfl (by decide +kernel) (fun H locs hw => ?_)
    refine lv_istore (lv' := [(7, .int o52), (6, .int o42), (5, .int o32), (4, .int o22), (3, .int o3), (0, .ref h0), (1, .int a0), (2, .int a1)]) hx hb dX9_holds_55 hl (by decide) rfl (fun ls hl => ?_)
    refine lv_aload_n hx hb dX9_holds_57 rfl (lv_at hl 5 rfl) ?_
    refine gGet C0 hw flX9_22 0 rfl rfl dX9_holds_58 ?_
    refine lv_iload_n hx hb dX9_holds_61 rfl (lv_at hl 4 rfl) ?_
    obtain ⟨hin, hm⟩ := gdE hm
    have hin := inbE hin
    refine gAldI C0 hw 2 rfl hin dX9_holds_62 ?_
    refine lv_aload_n hx hb dX9_holds_63 rfl (lv_at hl 5 rfl) ?_
    refine lv_iload_n hx hb dX9_holds_64 rfl (lv_at hl 4 rfl) ?_
    refine lv_iload hx hb dX9_holds_65 (lv_at hl 3 rfl) ?_
    obtain ⟨o67, ho67, hm⟩ := bindE hm
    refine gCalli (ws' := (W_m_holds g h0 h1 h2 h3 h4 h5 h6 h7 h8 h9 h10 h11 h12 h13 h14 h15 h16 h17 h18 h19 h20 h21 h22 h23 h24 h25 h26 h27 h28 h29 h30 v_courses v_wide v_hands v_jumpTold v_frosts v_gaps v_frostsNow v_notFrosts v_gapsNow v_fell v_fellAll v_sheepFirst v_sheepMany v_seens v_finding v_moods v_strongs v_wall)) C0 hw (gRunV (As := [.int o3, .int o22]) (rest := [.int (v_strongs o3.toNatClampNeg)]) C0 hw lkX9_200 (c_m_alike l g H.size h0 h4 h5 h6 h1 h2 h7 h8 h9 h10 h11 h3 h12 h13 h14 h15 h16 h17 h18 h19 h20 h21 h22 h23 h24 h25 h26 h27 h28 h29 h30 v_courses v_wide v_hands v_jumpTold v_frosts v_gaps v_frostsNow v_notFrosts v_gapsNow v_fell v_fellAll v_sheepFirst v_sheepMany v_seens v_finding o3 o22 o67 ho67) ⟨rfl, rfl⟩ ⟨Nat.le_of_ble_eq_true rfl, Nat.le_of_ble_eq_true rfl⟩ [0] (by decide) rfl 0 rfl rfl rfl hl.1 rfl (Nat.le_of_ble_eq_true rfl) dX9_holds_67) [0] [1, 2, 3] rfl rfl ⟨rfl, rfl, rfl, trivial⟩ [h0, h1, h2, h3] rfl rfl 4 rfl (by decide +kernel) (fun H locs hw => ?_)
    refine lv_iadd hx hb dX9_holds_70 ?_
    refine lv_aload_n hx hb dX9_holds_71 rfl (lv_at hl 5 rfl) ?_
    refine lv_iload_n hx hb dX9_holds_72 rfl (lv_at hl 4 rfl) ?_
    refine lv_iload hx hb dX9_holds_73 (lv_at hl 2 rfl) ?_
    obtain ⟨o75, ho75, hm⟩ := bindE hm
    refine gCalli (ws' := (W_m_holds g h0 h1 h2 h3 h4 h5 h6 h7 h8 h9 h10 h11 h12 h13 h14 h15 h16 h17 h18 h19 h20 h21 h22 h23 h24 h25 h26 h27 h28 h29 h30 v_courses v_wide v_hands v_jumpTold v_frosts v_gaps v_frostsNow v_notFrosts v_gapsNow v_fell v_fellAll v_sheepFirst v_sheepMany v_seens v_finding v_moods v_strongs v_wall)) C0 hw (gRunV (As := [.int o3, .int o32]) (rest := [.int ((v_strongs o3.toNatClampNeg) + o67)]) C0 hw lkX9_200 (c_m_alike l g H.size h0 h4 h5 h6 h1 h2 h7 h8 h9 h10 h11 h3 h12 h13 h14 h15 h16 h17 h18 h19 h20 h21 h22 h23 h24 h25 h26 h27 h28 h29 h30 v_courses v_wide v_hands v_jumpTold v_frosts v_gaps v_frostsNow v_notFrosts v_gapsNow v_fell v_fellAll v_sheepFirst v_sheepMany v_seens v_finding o3 o32 o75 ho75) ⟨rfl, rfl⟩ ⟨Nat.le_of_ble_eq_true rfl, Nat.le_of_ble_eq_true rfl⟩ [0] (by decide) rfl 0 rfl rfl rfl hl.1 rfl (Nat.le_of_ble_eq_true rfl) dX9_holds_75) [0] [1, 2, 3] rfl rfl ⟨rfl, rfl, rfl, trivial⟩ [h0, h1, h2, h3] rfl rfl 4 rfl (by decide +kernel) (fun H locs hw => ?_)
    refine lv_iadd hx hb dX9_holds_78 ?_
    refine lv_aload_n hx hb dX9_holds_79 rfl (lv_at hl 5 rfl) ?_
    refine lv_iload_n hx hb dX9_holds_80 rfl (lv_at hl 4 rfl) ?_
    refine lv_iload hx hb dX9_holds_81 (lv_at hl 1 rfl) ?_
    obtain ⟨o83, ho83, hm⟩ := bindE hm
    refine gCalli (ws' := (W_m_holds g h0 h1 h2 h3 h4 h5 h6 h7 h8 h9 h10 h11 h12 h13 h14 h15 h16 h17 h18 h19 h20 h21 h22 h23 h24 h25 h26 h27 h28 h29 h30 v_courses v_wide v_hands v_jumpTold v_frosts v_gaps v_frostsNow v_notFrosts v_gapsNow v_fell v_fellAll v_sheepFirst v_sheepMany v_seens v_finding v_moods v_strongs v_wall)) C0 hw (gRunV (As := [.int o3, .int o42]) (rest := [.int (((v_strongs o3.toNatClampNeg) + o67) + o75)]) C0 hw lkX9_200 (c_m_alike l g H.size h0 h4 h5 h6 h1 h2 h7 h8 h9 h10 h11 h3 h12 h13 h14 h15 h16 h17 h18 h19 h20 h21 h22 h23 h24 h25 h26 h27 h28 h29 h30 v_courses v_wide v_hands v_jumpTold v_frosts v_gaps v_frostsNow v_notFrosts v_gapsNow v_fell v_fellAll v_sheepFirst v_sheepMany v_seens v_finding o3 o42 o83 ho83) ⟨rfl, rfl⟩ ⟨Nat.le_of_ble_eq_true rfl, Nat.le_of_ble_eq_true rfl⟩ [0] (by decide) rfl 0 rfl rfl rfl hl.1 rfl (Nat.le_of_ble_eq_true rfl) dX9_holds_83) [0] [1, 2, 3] rfl rfl ⟨rfl, rfl, rfl, trivial⟩ [h0, h1, h2, h3] rfl rfl 4 rfl (by decide +kernel) (fun H locs hw => ?_)
    refine lv_iadd hx hb dX9_holds_86 ?_
    refine lv_aload_n hx hb dX9_holds_87 rfl (lv_at hl 5 rfl) ?_
    refine lv_iload_n hx hb dX9_holds_88 rfl (lv_at hl 4 rfl) ?_
    refine lv_iload hx hb dX9_holds_89 (lv_at hl 0 rfl) ?_
    obtain ⟨o91, ho91, hm⟩ := bindE hm
    refine gCalli (ws' := (W_m_holds g h0 h1 h2 h3 h4 h5 h6 h7 h8 h9 h10 h11 h12 h13 h14 h15 h16 h17 h18 h19 h20 h21 h22 h23 h24 h25 h26 h27 h28 h29 h30 v_courses v_wide v_hands v_jumpTold v_frosts v_gaps v_frostsNow v_notFrosts v_gapsNow v_fell v_fellAll v_sheepFirst v_sheepMany v_seens v_finding v_moods v_strongs v_wall)) C0 hw (gRunV (As := [.int o3, .int o52]) (rest := [.int ((((v_strongs o3.toNatClampNeg) + o67) + o75) + o83)]) C0 hw lkX9_200 (c_m_alike l g H.size h0 h4 h5 h6 h1 h2 h7 h8 h9 h10 h11 h3 h12 h13 h14 h15 h16 h17 h18 h19 h20 h21 h22 h23 h24 h25 h26 h27 h28 h29 h30 v_courses v_wide v_hands v_jumpTold v_frosts v_gaps v_frostsNow v_notFrosts v_gapsNow v_fell v_fellAll v_sheepFirst v_sheepMany v_seens v_finding o3 o52 o91 ho91) ⟨rfl, rfl⟩ ⟨Nat.le_of_ble_eq_true rfl, Nat.le_of_ble_eq_true rfl⟩ [0] (by decide) rfl 0 rfl rfl rfl hl.1 rfl (Nat.le_of_ble_eq_true rfl) dX9_holds_91) [0] [1, 2, 3] rfl rfl ⟨rfl, rfl, rfl, trivial⟩ [h0, h1, h2, h3] rfl rfl 4 rfl (by decide +kernel) (fun H locs hw => ?_)
    refine lv_iadd hx hb dX9_holds_94 ?_
    refine lv_istore (lv' := [(8, .int (((((v_strongs o3.toNatClampNeg) + o67) + o75) + o83) + o91)), (7, .int o52), (6, .int o42), (5, .int o32), (4, .int o22), (3, .int o3), (0, .ref h0), (1, .int a0), (2, .int a1)]) hx hb dX9_holds_95 hl (by decide) rfl (fun ls hl => ?_)
    refine lv_aload_n hx hb dX9_holds_97 rfl (lv_at hl 6 rfl) ?_
    refine gGet C0 hw flX9_19 0 rfl rfl dX9_holds_98 ?_
    refine lv_iload_n hx hb dX9_holds_101 rfl (lv_at hl 5 rfl) ?_
    obtain ⟨hin, hm⟩ := gdE hm
    have hin := inbE hin
    refine gAldI C0 hw 1 rfl hin dX9_holds_102 ?_
    refine lv_iconst (v := 1) hx hb dX9_holds_103 (by decide) ?_
    refine lv_icmp_ne (tgt := 143) hx hb dX9_holds_104 (by decide) (fun hc => ?_) (fun hc => ?_)
    · have hm := ineg hc hm
      exact n_m_holds_N143 C0  _ _ _ _ _ _ _ hm _ _ _ hw (lv_sub hl [6, 7, 5, 4, 3, 2, 1, 0] rfl)
    · have hm := ipos hc hm
      refine lv_iload hx hb dX9_holds_107 (lv_at hl 0 rfl) ?_
      refine lv_aload_n hx hb dX9_holds_109 rfl (lv_at hl 6 rfl) ?_
      refine lv_iload_n hx hb dX9_holds_110 rfl (lv_at hl 5 rfl) ?_
      refine lv_iload hx hb dX9_holds_111 (lv_at hl 4 rfl) ?_
      obtain ⟨o113, ho113, hm⟩ := bindE hm
      refine gCalli (ws' := (W_m_holds g h0 h1 h2 h3 h4 h5 h6 h7 h8 h9 h10 h11 h12 h13 h14 h15 h16 h17 h18 h19 h20 h21 h22 h23 h24 h25 h26 h27 h28 h29 h30 v_courses v_wide v_hands v_jumpTold v_frosts v_gaps v_frostsNow v_notFrosts v_gapsNow v_fell v_fellAll v_sheepFirst v_sheepMany v_seens v_finding v_moods v_strongs v_wall)) C0 hw (gRunV (As := [.int o3, .int o22]) (rest := [.int (((((v_strongs o3.toNatClampNeg) + o67) + o75) + o83) + o91)]) C0 hw lkX9_203 (c_m_unlike l g H.size h0 h4 h5 h6 h1 h2 h7 h8 h9 h10 h11 h3 h12 h13 h14 h15 h16 h17 h18 h19 h20 h21 h22 h23 h24 h25 h26 h27 h28 h29 h30 v_courses v_wide v_hands v_jumpTold v_frosts v_gaps v_frostsNow v_notFrosts v_gapsNow v_fell v_fellAll v_sheepFirst v_sheepMany v_seens v_finding o3 o22 o113 ho113) ⟨rfl, rfl⟩ ⟨Nat.le_of_ble_eq_true rfl, Nat.le_of_ble_eq_true rfl⟩ [0] (by decide) rfl 0 rfl rfl rfl hl.1 rfl (Nat.le_of_ble_eq_true rfl) dX9_holds_113) [0] [1, 2, 3] rfl rfl ⟨rfl, rfl, rfl, trivial⟩ [h0, h1, h2, h3] rfl rfl 4 rfl (by decide +kernel) (fun H locs hw => ?_)
      refine lv_aload_n hx hb dX9_holds_116 rfl (lv_at hl 6 rfl) ?_
      refine lv_iload_n hx hb dX9_holds_117 rfl (lv_at hl 5 rfl) ?_
      refine lv_iload hx hb dX9_holds_118 (lv_at hl 3 rfl) ?_
      obtain ⟨o120, ho120, hm⟩ := bindE hm
      refine gCalli (ws' := (W_m_holds g h0 h1 h2 h3 h4 h5 h6 h7 h8 h9 h10 h11 h12 h13 h14 h15 h16 h17 h18 h19 h20 h21 h22 h23 h24 h25 h26 h27 h28 h29 h30 v_courses v_wide v_hands v_jumpTold v_frosts v_gaps v_frostsNow v_notFrosts v_gapsNow v_fell v_fellAll v_sheepFirst v_sheepMany v_seens v_finding v_moods v_strongs v_wall)) C0 hw (gRunV (As := [.int o3, .int o32]) (rest := [.int o113, .int (((((v_strongs o3.toNatClampNeg) + o67) + o75) + o83) + o91)]) C0 hw lkX9_203 (c_m_unlike l g H.size h0 h4 h5 h6 h1 h2 h7 h8 h9 h10 h11 h3 h12 h13 h14 h15 h16 h17 h18 h19 h20 h21 h22 h23 h24 h25 h26 h27 h28 h29 h30 v_courses v_wide v_hands v_jumpTold v_frosts v_gaps v_frostsNow v_notFrosts v_gapsNow v_fell v_fellAll v_sheepFirst v_sheepMany v_seens v_finding o3 o32 o120 ho120) ⟨rfl, rfl⟩ ⟨Nat.le_of_ble_eq_true rfl, Nat.le_of_ble_eq_true rfl⟩ [0] (by decide) rfl 0 rfl rfl rfl hl.1 rfl (Nat.le_of_ble_eq_true rfl) dX9_holds_120) [0] [1, 2, 3] rfl rfl ⟨rfl, rfl, rfl, trivial⟩ [h0, h1, h2, h3] rfl rfl 4 rfl (by decide +kernel) (fun H locs hw => ?_)
      refine lv_iadd hx hb dX9_holds_123 ?_
      refine lv_aload_n hx hb dX9_holds_124 rfl (lv_at hl 6 rfl) ?_
      refine lv_iload_n hx hb dX9_holds_125 rfl (lv_at hl 5 rfl) ?_
      refine lv_iload hx hb dX9_holds_126 (lv_at hl 2 rfl) ?_
      obtain ⟨o128, ho128, hm⟩ := bindE hm
      refine gCalli (ws' := (W_m_holds g h0 h1 h2 h3 h4 h5 h6 h7 h8 h9 h10 h11 h12 h13 h14 h15 h16 h17 h18 h19 h20 h21 h22 h23 h24 h25 h26 h27 h28 h29 h30 v_courses v_wide v_hands v_jumpTold v_frosts v_gaps v_frostsNow v_notFrosts v_gapsNow v_fell v_fellAll v_sheepFirst v_sheepMany v_seens v_finding v_moods v_strongs v_wall)) C0 hw (gRunV (As := [.int o3, .int o42]) (rest := [.int (o113 + o120), .int (((((v_strongs o3.toNatClampNeg) + o67) + o75) + o83) + o91)]) C0 hw lkX9_203 (c_m_unlike l g H.size h0 h4 h5 h6 h1 h2 h7 h8 h9 h10 h11 h3 h12 h13 h14 h15 h16 h17 h18 h19 h20 h21 h22 h23 h24 h25 h26 h27 h28 h29 h30 v_courses v_wide v_hands v_jumpTold v_frosts v_gaps v_frostsNow v_notFrosts v_gapsNow v_fell v_fellAll v_sheepFirst v_sheepMany v_seens v_finding o3 o42 o128 ho128) ⟨rfl, rfl⟩ ⟨Nat.le_of_ble_eq_true rfl, Nat.le_of_ble_eq_true rfl⟩ [0] (by decide) rfl 0 rfl rfl rfl hl.1 rfl (Nat.le_of_ble_eq_true rfl) dX9_holds_128) [0] [1, 2, 3] rfl rfl ⟨rfl, rfl, rfl, trivial⟩ [h0, h1, h2, h3] rfl rfl 4 rfl (by decide +kernel) (fun H locs hw => ?_)
      refine lv_iadd hx hb dX9_holds_131 ?_
      refine lv_aload_n hx hb dX9_holds_132 rfl (lv_at hl 6 rfl) ?_
      refine lv_iload_n hx hb dX9_holds_133 rfl (lv_at hl 5 rfl) ?_
      refine lv_iload hx hb dX9_holds_134 (lv_at hl 1 rfl) ?_
      obtain ⟨o136, ho136, hm⟩ := bindE hm
      refine gCalli (ws' := (W_m_holds g h0 h1 h2 h3 h4 h5 h6 h7 h8 h9 h10 h11 h12 h13 h14 h15 h16 h17 h18 h19 h20 h21 h22 h23 h24 h25 h26 h27 h28 h29 h30 v_courses v_wide v_hands v_jumpTold v_frosts v_gaps v_frostsNow v_notFrosts v_gapsNow v_fell v_fellAll v_sheepFirst v_sheepMany v_seens v_finding v_moods v_strongs v_wall)) C0 hw (gRunV (As := [.int o3, .int o52]) (rest := [.int ((o113 + o120) + o128), .int (((((v_strongs o3.toNatClampNeg) + o67) + o75) + o83) + o91)]) C0 hw lkX9_203 (c_m_unlike l g H.size h0 h4 h5 h6 h1 h2 h7 h8 h9 h10 h11 h3 h12 h13 h14 h15 h16 h17 h18 h19 h20 h21 h22 h23 h24 h25 h26 h27 h28 h29 h30 v_courses v_wide v_hands v_jumpTold v_frosts v_gaps v_frostsNow v_notFrosts v_gapsNow v_fell v_fellAll v_sheepFirst v_sheepMany v_seens v_finding o3 o52 o136 ho136) ⟨rfl, rfl⟩ ⟨Nat.le_of_ble_eq_true rfl, Nat.le_of_ble_eq_true rfl⟩ [0] (by decide) rfl 0 rfl rfl rfl hl.1 rfl (Nat.le_of_ble_eq_true rfl) dX9_holds_136) [0] [1, 2, 3] rfl rfl ⟨rfl, rfl, rfl, trivial⟩ [h0, h1, h2, h3] rfl rfl 4 rfl (by decide +kernel) (fun H locs hw => ?_)
      refine lv_iadd hx hb dX9_holds_139 ?_
      refine lv_isub hx hb dX9_holds_140 ?_
      refine lv_istore (lv' := [(8, .int ((((((v_strongs o3.toNatClampNeg) + o67) + o75) + o83) + o91) - (((o113 + o120) + o128) + o136))), (7, .int o52), (6, .int o42), (5, .int o32), (4, .int o22), (3, .int o3), (0, .ref h0), (1, .int a0), (2, .int a1)]) hx hb dX9_holds_141 hl (by decide) rfl (fun ls hl => ?_)
      exact n_m_holds_N143 C0  _ _ _ _ _ _ _ hm _ _ _ hw (lv_sub hl [6, 7, 5, 4, 3, 2, 1, 0] rfl)
  · have hm := ineg hc hm
    refine lv_iconst (v := 0) hx hb dX9_holds_15 (by decide) ?_
    have hm := Option.some.inj hm
    subst hm
    exact gRetI C0 hw dX9_holds_16
