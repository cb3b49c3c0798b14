-- WallHandsModel.holdAll()V
abbrev W_m_holdAll (g : gG) (h0 h1 h2 h3 h4 h5 h6 h7 h8 h9 h10 h11 h12 h13 h14 h15 h16 h17 h18 h19 h20 h21 h22 h23 h24 h25 h26 h27 h28 h29 h30 : Nat) (v_courses : Int32) (v_wide : Int32) (v_hands : Int32) (v_jumpTold : Int32) (v_frosts : Int32) (v_gaps : Int32) (v_frostsNow : Int32) (v_notFrosts : Int32) (v_gapsNow : Int32) (v_fell : Int32) (v_fellAll : Int32) (v_sheepFirst : Int32) (v_sheepMany : Int32) (v_seens : Int32) (v_finding : Int32) (v_moods : Nat → Int32) (v_strongs : Nat → Int32) (v_wall : Nat → Int32) (v_holdNow : Nat → Int32) : va_W := [(h0, .inr (9, [.ref h5, .ref h6, .int v_courses, .int v_wide, .ref h7, .int v_hands, .ref h1, .ref h2, .int v_jumpTold, .int v_frosts, .ref h8, .ref h9, .int v_gaps, .ref h10, .ref h11, .ref h12, .ref h3, .int v_frostsNow, .ref h13, .ref h14, .int v_notFrosts, .int v_gapsNow, .ref h4, .int v_fell, .int v_fellAll, .ref h15, .ref h16, .ref h17, .ref h18, .ref h19, .ref h20, .ref h21, .int v_sheepFirst, .int v_sheepMany, .int v_seens, .ref h22, .ref h23, .ref h24, .ref h25, .ref h26, .ref h27, .ref h28, .ref h29, .ref h30, .int v_finding])), (h1, .inl (gI g, 9, .inl v_moods)), (h2, .inl (gI g, 9, .inl v_strongs)), (h3, .inl (gI g, 40, .inl v_wall)), (h4, .inl (gI g, 40, .inl v_holdNow))]

abbrev rm_m_holdAll : Room := { frames := 3, cells := 0, slots := 0, locals := 72 }

set_option maxHeartbeats 1000000 in
set_option maxRecDepth 100000 in
theorem n_m_holdAll_N2 {p : Program} {l : Launch} {e : Env} {s : State} {m : MethodId} {args : Array Value} {below : List Frame} {meth : Method} {c : Code} {A : Nat → Prop} {g : gG} {h0 h1 h2 h3 h4 h5 h6 h7 h8 h9 h10 h11 h12 h13 h14 h15 h16 h17 h18 h19 h20 h21 h22 h23 h24 h25 h26 h27 h28 h29 h30 : Nat} {v_courses : Int32} {v_wide : Int32} {v_hands : Int32} {v_jumpTold : Int32} {v_frosts : Int32} {v_gaps : Int32} {v_frostsNow : Int32} {v_notFrosts : Int32} {v_gapsNow : Int32} {v_fell : Int32} {v_fellAll : Int32} {v_sheepFirst : Int32} {v_sheepMany : Int32} {v_seens : Int32} {v_finding : Int32} {v_moods : Nat → Int32} {v_strongs : Nat → Int32} {v_wall : Nat → Int32} {k2 : (Nat → Int32) → Int32 → Option (Nat → Int32)} {r : (Nat → Int32)} (C0 : gX p s m args meth c cX9_holdAll 2 none RX9 g A) (hk2 : ∀ (v_holdNow : Nat → Int32) (x1 : Int32), k2 v_holdNow x1 = some r → ∀ (H : Heap) (locs : List Loc) (ls : Array Slot), gW g A s (W_m_holdAll g h0 h1 h2 h3 h4 h5 h6 h7 h8 h9 h10 h11 h12 h13 h14 h15 h16 h17 h18 h19 h20 h21 h22 h23 h24 h25 h26 h27 h28 h29 h30 v_courses v_wide v_hands v_jumpTold v_frosts v_gaps v_frostsNow v_notFrosts v_gapsNow v_fell v_fellAll v_sheepFirst v_sheepMany v_seens v_finding v_moods v_strongs v_wall v_holdNow) H locs → lv_has ls 2 [(0, .ref h0), (1, .int x1)] → W p l e rm_m_holdAll s m args below meth c H locs 0 0 (gQv below args s A g (W_m_holdAll g h0 h1 h2 h3 h4 h5 h6 h7 h8 h9 h10 h11 h12 h13 h14 h15 h16 h17 h18 h19 h20 h21 h22 h23 h24 h25 h26 h27 h28 h29 h30 v_courses v_wide v_hands v_jumpTold v_frosts v_gaps v_frostsNow v_notFrosts v_gapsNow v_fell v_fellAll v_sheepFirst v_sheepMany v_seens v_finding v_moods v_strongs v_wall r)) (F0 m 2 ls [])) : ∀ (v_holdNow : Nat → Int32) (x1 : Int32), f_m_holdAll_N2 v_courses v_wide v_hands v_moods v_strongs v_wall k2 v_holdNow x1 = some r → ∀ (H : Heap) (locs : List Loc) (ls : Array Slot), gW g A s (W_m_holdAll g h0 h1 h2 h3 h4 h5 h6 h7 h8 h9 h10 h11 h12 h13 h14 h15 h16 h17 h18 h19 h20 h21 h22 h23 h24 h25 h26 h27 h28 h29 h30 v_courses v_wide v_hands v_jumpTold v_frosts v_gaps v_frostsNow v_notFrosts v_gapsNow v_fell v_fellAll v_sheepFirst v_sheepMany v_seens v_finding v_moods v_strongs v_wall v_holdNow) H locs → lv_has ls 2 [(0, .ref h0), (1, .int x1)] → W p l e rm_m_holdAll s m args below meth c H locs 0 0 (gQv below args s A g (W_m_holdAll g h0 h1 h2 h3 h4 h5 h6 h7 h8 h9 h10 h11 h12 h13 h14 h15 h16 h17 h18 h19 h20 h21 h22 h23 h24 h25 h26 h27 h28 h29 h30 v_courses v_wide v_hands v_jumpTold v_frosts v_gaps v_frostsNow v_notFrosts v_gapsNow v_fell v_fellAll v_sheepFirst v_sheepMany v_seens v_finding v_moods v_strongs v_wall r)) (F0 m 2 ls []) := by
  intro v_holdNow x1 hm H locs ls hw hl
  unfold f_m_holdAll_N2 at hm
  obtain ⟨hx, hb, hr, hml, hown, hts, hlocks, hK, hA⟩ := id C0
  refine lv_iload_n hx hb dX9_holdAll_2 rfl (lv_at hl 1 rfl) ?_
  refine lv_bipush (v := 40) hx hb dX9_holdAll_3 (by decide) ?_
  refine lv_icmp_ge (tgt := 52) hx hb dX9_holdAll_5 (by decide) (fun hc => ?_) (fun hc => ?_)
  · have hm := ipos hc hm
    have hm := Option.some.inj hm
    subst hm
    exact gRetV C0 hw dX9_holdAll_52
  · have hm := ineg hc hm
    refine lv_aload_n hx hb dX9_holdAll_8 rfl (lv_at hl 0 rfl) ?_
    refine gGet C0 hw flX9_49 0 rfl rfl dX9_holdAll_9 ?_
    refine lv_iload_n hx hb dX9_holdAll_12 rfl (lv_at hl 1 rfl) ?_
    refine lv_aload_n hx hb dX9_holdAll_13 rfl (lv_at hl 0 rfl) ?_
    refine lv_iload_n hx hb dX9_holdAll_14 rfl (lv_at hl 1 rfl) ?_
    refine lv_bipush (v := 8) hx hb dX9_holdAll_15 (by decide) ?_
    refine lv_idiv hx hb dX9_holdAll_17 (by decide) ?_
    refine lv_iload_n hx hb dX9_holdAll_18 rfl (lv_at hl 1 rfl) ?_
    refine lv_bipush (v := 8) hx hb dX9_holdAll_19 (by decide) ?_
    refine lv_irem hx hb dX9_holdAll_21 (by decide) ?_
    obtain ⟨o22, ho22, hm⟩ := bindE hm
    refine gCalli (ws' := (W_m_holdAll g h0 h1 h2 h3 h4 h5 h6 h7 h8 h9 h10 h11 h12 h13 h14 h15 h16 h17 h18 h19 h20 h21 h22 h23 h24 h25 h26 h27 h28 h29 h30 v_courses v_wide v_hands v_jumpTold v_frosts v_gaps v_frostsNow v_notFrosts v_gapsNow v_fell v_fellAll v_sheepFirst v_sheepMany v_seens v_finding v_moods v_strongs v_wall v_holdNow)) C0 hw (gRunV (As := [.int (x1 / (8 : Int32)), .int (x1 - x1 / (8 : Int32) * (8 : Int32))]) (rest := [.int x1, .ref h4]) C0 hw lkX9_194 (c_m_handNow l g H.size h0 h3 h5 h6 h7 h1 h2 h8 h9 h10 h11 h12 h13 h14 h4 h15 h16 h17 h18 h19 h20 h21 h22 h23 h24 h25 h26 h27 h28 h29 h30 v_courses v_wide v_hands v_jumpTold v_frosts v_gaps v_frostsNow v_notFrosts v_gapsNow v_fell v_fellAll v_sheepFirst v_sheepMany v_seens v_finding v_wall (x1 / (8 : Int32)) (x1 - x1 / (8 : Int32) * (8 : Int32)) o22 ho22) ⟨rfl, rfl⟩ ⟨Nat.le_of_ble_eq_true rfl, Nat.le_of_ble_eq_true rfl⟩ [0, 3] (by decide) rfl 0 rfl rfl rfl hl.1 rfl (Nat.le_of_ble_eq_true rfl) dX9_holdAll_22) [0, 3] [1, 2, 4] rfl rfl ⟨rfl, rfl, rfl, trivial⟩ [h0, h1, h2, h3, h4] rfl rfl 5 rfl (by decide +kernel) (fun H locs hw => ?_)
    refine lv_iconst (v := -1) hx hb dX9_holdAll_25 (by decide) ?_
    refine lv_icmp_ne (tgt := 33) hx hb dX9_holdAll_26 (by decide) (fun hc => ?_) (fun hc => ?_)
    · have hm := ineg hc hm
      refine lv_aload_n hx hb dX9_holdAll_33 rfl (lv_at hl 0 rfl) ?_
      refine lv_iload_n hx hb dX9_holdAll_34 rfl (lv_at hl 1 rfl) ?_
      refine lv_bipush (v := 8) hx hb dX9_holdAll_35 (by decide) ?_
      refine lv_idiv hx hb dX9_holdAll_37 (by decide) ?_
      refine lv_iload_n hx hb dX9_holdAll_38 rfl (lv_at hl 1 rfl) ?_
      refine lv_bipush (v := 8) hx hb dX9_holdAll_39 (by decide) ?_
      refine lv_irem hx hb dX9_holdAll_41 (by decide) ?_
      obtain ⟨o42, ho42, hm⟩ := bindE hm
      refine gCalli (ws' := (W_m_holdAll g h0 h1 h2 h3 h4 h5 h6 h7 h8 h9 h10 h11 h12 h13 h14 h15 h16 h17 h18 h19 h20 h21 h22 h23 h24 h25 h26 h27 h28 h29 h30 v_courses v_wide v_hands v_jumpTold v_frosts v_gaps v_frostsNow v_notFrosts v_gapsNow v_fell v_fellAll v_sheepFirst v_sheepMany v_seens v_finding v_moods v_strongs v_wall v_holdNow)) C0 hw (gRunV (As := [.int (x1 / (8 : Int32)), .int (x1 - x1 / (8 : Int32) * (8 : Int32))]) (rest := [.int x1, .ref h4]) C0 hw lkX9_209 (c_m_holds l g H.size h0 h1 h2 h3 h5 h6 h7 h8 h9 h10 h11 h12 h13 h14 h4 h15 h16 h17 h18 h19 h20 h21 h22 h23 h24 h25 h26 h27 h28 h29 h30 v_courses v_wide v_hands v_jumpTold v_frosts v_gaps v_frostsNow v_notFrosts v_gapsNow v_fell v_fellAll v_sheepFirst v_sheepMany v_seens v_finding v_moods v_strongs v_wall (x1 / (8 : Int32)) (x1 - x1 / (8 : Int32) * (8 : Int32)) o42 ho42) ⟨rfl, rfl⟩ ⟨Nat.le_of_ble_eq_true rfl, Nat.le_of_ble_eq_true rfl⟩ [0, 1, 2, 3] (by decide) rfl 0 rfl rfl rfl hl.1 rfl (Nat.le_of_ble_eq_true rfl) dX9_holdAll_42) [0, 1, 2, 3] [4] rfl rfl ⟨rfl, trivial⟩ [h0, h1, h2, h3, h4] rfl rfl 5 rfl (by decide +kernel) (fun H locs hw => ?_)
      obtain ⟨hin, hm⟩ := gdE hm
      have hin := inbE hin
      refine gAstI (ws' := (W_m_holdAll g h0 h1 h2 h3 h4 h5 h6 h7 h8 h9 h10 h11 h12 h13 h14 h15 h16 h17 h18 h19 h20 h21 h22 h23 h24 h25 h26 h27 h28 h29 h30 v_courses v_wide v_hands v_jumpTold v_frosts v_gaps v_frostsNow v_notFrosts v_gapsNow v_fell v_fellAll v_sheepFirst v_sheepMany v_seens v_finding v_moods v_strongs v_wall (upd v_holdNow x1.toNatClampNeg o42))) C0 hw 4 rfl hin rfl dX9_holdAll_45 (fun H locs hw => ?_)
      refine lv_iinc (v := x1 + (1 : Int32)) (lv' := [(1, .int (x1 + (1 : Int32))), (0, .ref h0)]) hx hb dX9_holdAll_46 hl (k := 1) rfl rfl (by decide) rfl (fun ls hl => ?_)
      refine lv_goto (tgt := 2) hx hb dX9_holdAll_49 (by decide) ?_
      exact hk2 _ _ hm _ _ _ hw (lv_sub hl [1, 0] rfl)
    · have hm := ipos hc hm
      refine lv_iconst (v := -1) hx hb dX9_holdAll_29 (by decide) ?_
      refine lv_goto (tgt := 45) hx hb dX9_holdAll_30 (by decide) ?_
      obtain ⟨hin, hm⟩ := gdE hm
      have hin := inbE hin
      refine gAstI (ws' := (W_m_holdAll g h0 h1 h2 h3 h4 h5 h6 h7 h8 h9 h10 h11 h12 h13 h14 h15 h16 h17 h18 h19 h20 h21 h22 h23 h24 h25 h26 h27 h28 h29 h30 v_courses v_wide v_hands v_jumpTold v_frosts v_gaps v_frostsNow v_notFrosts v_gapsNow v_fell v_fellAll v_sheepFirst v_sheepMany v_seens v_finding v_moods v_strongs v_wall (upd v_holdNow x1.toNatClampNeg (-1 : Int32)))) C0 hw 4 rfl hin rfl dX9_holdAll_45 (fun H locs hw => ?_)
      refine lv_iinc (v := x1 + (1 : Int32)) (lv' := [(1, .int (x1 + (1 : Int32))), (0, .ref h0)]) hx hb dX9_holdAll_46 hl (k := 1) rfl rfl (by decide) rfl (fun ls hl => ?_)
      refine lv_goto (tgt := 2) hx hb dX9_holdAll_49 (by decide) ?_
      exact hk2 _ _ hm _ _ _ hw (lv_sub hl [1, 0] rfl)
set_option maxHeartbeats 1000000 in
set_option maxRecDepth 100000 in
theorem l_m_holdAll_N2 {p : Program} {l : Launch} {e : Env} {s : State} {m : MethodId} {args : Array Value} {below : List Frame} {meth : Method} {c : Code} {A : Nat → Prop} {g : gG} {h0 h1 h2 h3 h4 h5 h6 h7 h8 h9 h10 h11 h12 h13 h14 h15 h16 h17 h18 h19 h20 h21 h22 h23 h24 h25 h26 h27 h28 h29 h30 : Nat} {v_courses : Int32} {v_wide : Int32} {v_hands : Int32} {v_jumpTold : Int32} {v_frosts : Int32} {v_gaps : Int32} {v_frostsNow : Int32} {v_notFrosts : Int32} {v_gapsNow : Int32} {v_fell : Int32} {v_fellAll : Int32} {v_sheepFirst : Int32} {v_sheepMany : Int32} {v_seens : Int32} {v_finding : Int32} {v_moods : Nat → Int32} {v_strongs : Nat → Int32} {v_wall : Nat → Int32} {r : (Nat → Int32)} (C0 : gX p s m args meth c cX9_holdAll 2 none RX9 g A) : ∀ n : Nat, ∀ (v_holdNow : Nat → Int32) (x1 : Int32), iter (fun _ _ => none) (f_m_holdAll_N2 v_courses v_wide v_hands v_moods v_strongs v_wall) n v_holdNow x1 = some r → ∀ (H : Heap) (locs : List Loc) (ls : Array Slot), gW g A s (W_m_holdAll g h0 h1 h2 h3 h4 h5 h6 h7 h8 h9 h10 h11 h12 h13 h14 h15 h16 h17 h18 h19 h20 h21 h22 h23 h24 h25 h26 h27 h28 h29 h30 v_courses v_wide v_hands v_jumpTold v_frosts v_gaps v_frostsNow v_notFrosts v_gapsNow v_fell v_fellAll v_sheepFirst v_sheepMany v_seens v_finding v_moods v_strongs v_wall v_holdNow) H locs → lv_has ls 2 [(0, .ref h0), (1, .int x1)] → W p l e rm_m_holdAll s m args below meth c H locs 0 0 (gQv below args s A g (W_m_holdAll g h0 h1 h2 h3 h4 h5 h6 h7 h8 h9 h10 h11 h12 h13 h14 h15 h16 h17 h18 h19 h20 h21 h22 h23 h24 h25 h26 h27 h28 h29 h30 v_courses v_wide v_hands v_jumpTold v_frosts v_gaps v_frostsNow v_notFrosts v_gapsNow v_fell v_fellAll v_sheepFirst v_sheepMany v_seens v_finding v_moods v_strongs v_wall r)) (F0 m 2 ls []) := by
  intro n
  induction n with
  | zero =>
    intro v_holdNow x1 hm
    cases hm
  | succ n ih =>
    exact n_m_holdAll_N2 C0  ih
set_option maxHeartbeats 1000000 in
set_option maxRecDepth 100000 in
theorem c_m_holdAll (l : Launch) (g : gG) (sz : Nat) (h0 h1 h2 h3 h4 h5 h6 h7 h8 h9 h10 h11 h12 h13 h14 h15 h16 h17 h18 h19 h20 h21 h22 h23 h24 h25 h26 h27 h28 h29 h30 : Nat) (v_courses : Int32) (v_wide : Int32) (v_hands : Int32) (v_jumpTold : Int32) (v_frosts : Int32) (v_gaps : Int32) (v_frostsNow : Int32) (v_notFrosts : Int32) (v_gapsNow : Int32) (v_fell : Int32) (v_fellAll : Int32) (v_sheepFirst : Int32) (v_sheepMany : Int32) (v_seens : Int32) (v_finding : Int32) (v_moods : Nat → Int32) (v_strongs : Nat → Int32) (v_wall : Nat → Int32) (v_holdNow : Nat → Int32) (r : (Nat → Int32)) (hm : f_m_holdAll v_courses v_wide v_hands v_moods v_strongs v_wall v_holdNow = some r) : gMv l yX9_holdAll cX9_holdAll 2 none rm_m_holdAll g sz [.ref h0] (W_m_holdAll g h0 h1 h2 h3 h4 h5 h6 h7 h8 h9 h10 h11 h12 h13 h14 h15 h16 h17 h18 h19 h20 h21 h22 h23 h24 h25 h26 h27 h28 h29 h30 v_courses v_wide v_hands v_jumpTold v_frosts v_gaps v_frostsNow v_notFrosts v_gapsNow v_fell v_fellAll v_sheepFirst v_sheepMany v_seens v_finding v_moods v_strongs v_wall v_holdNow) (W_m_holdAll g h0 h1 h2 h3 h4 h5 h6 h7 h8 h9 h10 h11 h12 h13 h14 h15 h16 h17 h18 h19 h20 h21 h22 h23 h24 h25 h26 h27 h28 h29 h30 v_courses v_wide v_hands v_jumpTold v_frosts v_gaps v_frostsNow v_notFrosts v_gapsNow v_fell v_fellAll v_sheepFirst v_sheepMany v_seens v_finding v_moods v_strongs v_wall r) := by
  unfold f_m_holdAll at hm
  refine gEnterV (by decide) (Nat.le_of_ble_eq_true rfl) (fun p e s m below meth c A C0 H locs hw ls hl => ?_)
  obtain ⟨hx, hb, hr, hml, hown, hts, hlocks, hK, hA⟩ := id C0
  have C0 : gX p s m [.ref h0].toArray meth c cX9_holdAll 2 none RX9 g A := C0
  have hl : lv_has ls 2 [(0, .ref h0)] := hl
  refine lv_iconst (v := 0) hx hb dX9_holdAll_0 (by decide) ?_
  refine lv_istore_n (lv' := [(1, .int (0 : Int32)), (0, .ref h0)]) hx hb dX9_holdAll_1 rfl hl (by decide) rfl (fun ls hl => ?_)
  exact l_m_holdAll_N2 C0  1000 _ _ hm _ _ _ hw (lv_sub hl [1, 0] rfl)

-- WallHandsModel.drops(I)V
abbrev W_m_drops (g : gG) (h0 h1 h2 h3 h4 h5 h6 h7 h8 h9 h10 h11 h12 h13 h14 h15 h16 h17 h18 h19 h20 h21 h22 h23 h24 h25 h26 h27 h28 h29 h30 : Nat) (v_courses : Int32) (v_wide : Int32) (v_hands : Int32) (v_jumpTold : Int32) (v_frosts : Int32) (v_gaps : Int32) (v_frostsNow : Int32) (v_notFrosts : Int32) (v_gapsNow : Int32) (v_fell : Int32) (v_fellAll : Int32) (v_sheepFirst : Int32) (v_sheepMany : Int32) (v_seens : Int32) (v_finding : Int32) (v_wall : Nat → Int32) (v_fellOf : Nat → Int32) : va_W := [(h0, .inr (9, [.ref h3, .ref h4, .int v_courses, .int v_wide, .ref h5, .int v_hands, .ref h6, .ref h7, .int v_jumpTold, .int v_frosts, .ref h8, .ref h9, .int v_gaps, .ref h10, .ref h11, .ref h12, .ref h1, .int v_frostsNow, .ref h13, .ref h14, .int v_notFrosts, .int v_gapsNow, .ref h15, .int v_fell, .int v_fellAll, .ref h2, .ref h16, .ref h17, .ref h18, .ref h19, .ref h20, .ref h21, .int v_sheepFirst, .int v_sheepMany, .int v_seens, .ref h22, .ref h23, .ref h24, .ref h25, .ref h26, .ref h27, .ref h28, .ref h29, .ref h30, .int v_finding])), (h1, .inl (gI g, 40, .inl v_wall)), (h2, .inl (gI g, 8, .inl v_fellOf))]

abbrev rm_m_drops : Room := { frames := 0, cells := 0, slots := 0, locals := 0 }

set_option maxHeartbeats 1000000 in
set_option maxRecDepth 100000 in
theorem c_m_drops (l : Launch) (g : gG) (sz : Nat) (h0 h1 h2 h3 h4 h5 h6 h7 h8 h9 h10 h11 h12 h13 h14 h15 h16 h17 h18 h19 h20 h21 h22 h23 h24 h25 h26 h27 h28 h29 h30 : Nat) (v_courses : Int32) (v_wide : Int32) (v_hands : Int32) (v_jumpTold : Int32) (v_frosts : Int32) (v_gaps : Int32) (v_frostsNow : Int32) (v_notFrosts : Int32) (v_gapsNow : Int32) (v_fell : Int32) (v_fellAll : Int32) (v_sheepFirst : Int32) (v_sheepMany : Int32) (v_seens : Int32) (v_finding : Int32) (v_wall : Nat → Int32) (v_fellOf : Nat → Int32) (a0 : Int32) (r : (Int32 × (Nat → Int32) × (Nat → Int32))) (hm : f_m_drops v_fell v_wall v_fellOf a0 = some r) : gMv l yX9_drops cX9_drops 2 none rm_m_drops g sz [.ref h0, .int a0] (W_m_drops g h0 h1 h2 h3 h4 h5 h6 h7 h8 h9 h10 h11 h12 h13 h14 h15 h16 h17 h18 h19 h20 h21 h22 h23 h24 h25 h26 h27 h28 h29 h30 v_courses v_wide v_hands v_jumpTold v_frosts v_gaps v_frostsNow v_notFrosts v_gapsNow v_fell v_fellAll v_sheepFirst v_sheepMany v_seens v_finding v_wall v_fellOf) (W_m_drops g h0 h1 h2 h3 h4 h5 h6 h7 h8 h9 h10 h11 h12 h13 h14 h15 h16 h17 h18 h19 h20 h21 h22 h23 h24 h25 h26 h27 h28 h29 h30 v_courses v_wide v_hands v_jumpTold v_frosts v_gaps v_frostsNow v_notFrosts v_gapsNow r.1 v_fellAll v_sheepFirst v_sheepMany v_seens v_finding r.2.1 r.2.2) := by
  unfold f_m_drops at hm
  refine gEnterV (by decide) (Nat.le_of_ble_eq_true rfl) (fun p e s m below meth c A C0 H locs hw ls hl => ?_)
  obtain ⟨hx, hb, hr, hml, hown, hts, hlocks, hK, hA⟩ := id C0
  have C0 : gX p s m [.ref h0, .int a0].toArray meth c cX9_drops 2 none RX9 g A := C0
  have hl : lv_has ls 2 [(0, .ref h0), (1, .int a0)] := hl
  refine lv_aload_n hx hb dX9_drops_0 rfl (lv_at hl 0 rfl) ?_
  refine gGet C0 hw flX9_52 0 rfl rfl dX9_drops_1 ?_
  refine lv_aload_n hx hb dX9_drops_4 rfl (lv_at hl 0 rfl) ?_
  refine gGet C0 hw flX9_40 0 rfl rfl dX9_drops_5 ?_
  refine lv_iload_n hx hb dX9_drops_8 rfl (lv_at hl 1 rfl) ?_
  obtain ⟨hin, hm⟩ := gdE hm
  have hin := inbE hin
  refine gAldI C0 hw 1 rfl hin dX9_drops_9 ?_
  refine lv_dup2_11 hx hb dX9_drops_10 rfl rfl ?_
  obtain ⟨hin, hm⟩ := gdE hm
  have hin := inbE hin
  refine gAldI C0 hw 2 rfl hin dX9_drops_11 ?_
  refine lv_iconst (v := 1) hx hb dX9_drops_12 (by decide) ?_
  refine lv_iadd hx hb dX9_drops_13 ?_
  obtain ⟨hin, hm⟩ := gdE hm
  have hin := inbE hin
  refine gAstI (ws' := (W_m_drops g h0 h1 h2 h3 h4 h5 h6 h7 h8 h9 h10 h11 h12 h13 h14 h15 h16 h17 h18 h19 h20 h21 h22 h23 h24 h25 h26 h27 h28 h29 h30 v_courses v_wide v_hands v_jumpTold v_frosts v_gaps v_frostsNow v_notFrosts v_gapsNow v_fell v_fellAll v_sheepFirst v_sheepMany v_seens v_finding v_wall (upd v_fellOf (v_wall a0.toNatClampNeg).toNatClampNeg ((v_fellOf (v_wall a0.toNatClampNeg).toNatClampNeg) + (1 : Int32))))) C0 hw 2 rfl hin rfl dX9_drops_14 (fun H locs hw => ?_)
  refine lv_aload_n hx hb dX9_drops_15 rfl (lv_at hl 0 rfl) ?_
  refine gGet C0 hw flX9_40 0 rfl rfl dX9_drops_16 ?_
  refine lv_iload_n hx hb dX9_drops_19 rfl (lv_at hl 1 rfl) ?_
  refine lv_iconst (v := -1) hx hb dX9_drops_20 (by decide) ?_
  obtain ⟨hin, hm⟩ := gdE hm
  have hin := inbE hin
  refine gAstI (ws' := (W_m_drops g h0 h1 h2 h3 h4 h5 h6 h7 h8 h9 h10 h11 h12 h13 h14 h15 h16 h17 h18 h19 h20 h21 h22 h23 h24 h25 h26 h27 h28 h29 h30 v_courses v_wide v_hands v_jumpTold v_frosts v_gaps v_frostsNow v_notFrosts v_gapsNow v_fell v_fellAll v_sheepFirst v_sheepMany v_seens v_finding (upd v_wall a0.toNatClampNeg (-1 : Int32)) (upd v_fellOf (v_wall a0.toNatClampNeg).toNatClampNeg ((v_fellOf (v_wall a0.toNatClampNeg).toNatClampNeg) + (1 : Int32))))) C0 hw 1 rfl hin rfl dX9_drops_21 (fun H locs hw => ?_)
  refine lv_aload_n hx hb dX9_drops_22 rfl (lv_at hl 0 rfl) ?_
  refine lv_dup hx hb dX9_drops_23 rfl ?_
  refine gGet C0 hw flX9_212 0 rfl rfl dX9_drops_24 ?_
  refine lv_iconst (v := 1) hx hb dX9_drops_27 (by decide) ?_
  refine lv_iadd hx hb dX9_drops_28 ?_
  refine gPut (ws' := (W_m_drops g h0 h1 h2 h3 h4 h5 h6 h7 h8 h9 h10 h11 h12 h13 h14 h15 h16 h17 h18 h19 h20 h21 h22 h23 h24 h25 h26 h27 h28 h29 h30 v_courses v_wide v_hands v_jumpTold v_frosts v_gaps v_frostsNow v_notFrosts v_gapsNow (v_fell + (1 : Int32)) v_fellAll v_sheepFirst v_sheepMany v_seens v_finding (upd v_wall a0.toNatClampNeg (-1 : Int32)) (upd v_fellOf (v_wall a0.toNatClampNeg).toNatClampNeg ((v_fellOf (v_wall a0.toNatClampNeg).toNatClampNeg) + (1 : Int32))))) C0 hw fpX9_212 0 rfl rfl rfl (Nat.le_of_ble_eq_true rfl) rfl dX9_drops_29 (fun H locs hw => ?_)
  have hm := Option.some.inj hm
  subst hm
  exact gRetV C0 hw dX9_drops_32

-- WallHandsModel.settles()V
abbrev W_m_settles (g : gG) (h0 h1 h2 h3 h4 h5 h6 h7 h8 h9 h10 h11 h12 h13 h14 h15 h16 h17 h18 h19 h20 h21 h22 h23 h24 h25 h26 h27 h28 h29 h30 : Nat) (v_courses : Int32) (v_wide : Int32) (v_hands : Int32) (v_jumpTold : Int32) (v_frosts : Int32) (v_gaps : Int32) (v_frostsNow : Int32) (v_notFrosts : Int32) (v_gapsNow : Int32) (v_fell : Int32) (v_fellAll : Int32) (v_sheepFirst : Int32) (v_sheepMany : Int32) (v_seens : Int32) (v_finding : Int32) (v_wall : Nat → Int32) (v_fellOf : Nat → Int32) : va_W := [(h0, .inr (9, [.ref h3, .ref h4, .int v_courses, .int v_wide, .ref h5, .int v_hands, .ref h6, .ref h7, .int v_jumpTold, .int v_frosts, .ref h8, .ref h9, .int v_gaps, .ref h10, .ref h11, .ref h12, .ref h1, .int v_frostsNow, .ref h13, .ref h14, .int v_notFrosts, .int v_gapsNow, .ref h15, .int v_fell, .int v_fellAll, .ref h2, .ref h16, .ref h17, .ref h18, .ref h19, .ref h20, .ref h21, .int v_sheepFirst, .int v_sheepMany, .int v_seens, .ref h22, .ref h23, .ref h24, .ref h25, .ref h26, .ref h27, .ref h28, .ref h29, .ref h30, .int v_finding])), (h1, .inl (gI g, 40, .inl v_wall)), (h2, .inl (gI g, 8, .inl v_fellOf))]

abbrev rm_m_settles : Room := { frames := 3, cells := 0, slots := 0, locals := 68 }

set_option maxHeartbeats 1000000 in
set_option maxRecDepth 100000 in
theorem n_m_settles_N3 {p : Program} {l : Launch} {e : Env} {s : State} {m : MethodId} {args : Array Value} {below : List Frame} {meth : Method} {c : Code} {A : Nat → Prop} {g : gG} {h0 h1 h2 h3 h4 h5 h6 h7 h8 h9 h10 h11 h12 h13 h14 h15 h16 h17 h18 h19 h20 h21 h22 h23 h24 h25 h26 h27 h28 h29 h30 : Nat} {v_courses : Int32} {v_wide : Int32} {v_hands : Int32} {v_jumpTold : Int32} {v_frosts : Int32} {v_gaps : Int32} {v_frostsNow : Int32} {v_notFrosts : Int32} {v_gapsNow : Int32} {v_fellAll : Int32} {v_sheepFirst : Int32} {v_sheepMany : Int32} {v_seens : Int32} {v_finding : Int32} {k3 : Int32 → (Nat → Int32) → (Nat → Int32) → Int32 → Option (Int32 × (Nat → Int32) × (Nat → Int32))} {r : (Int32 × (Nat → Int32) × (Nat → Int32))} (C0 : gX p s m args meth c cX9_settles 2 none RX9 g A) (hk3 : ∀ (v_fell : Int32) (v_wall : Nat → Int32) (v_fellOf : Nat → Int32) (x1 : Int32), k3 v_fell v_wall v_fellOf x1 = some r → ∀ (H : Heap) (locs : List Loc) (ls : Array Slot), gW g A s (W_m_settles g h0 h1 h2 h3 h4 h5 h6 h7 h8 h9 h10 h11 h12 h13 h14 h15 h16 h17 h18 h19 h20 h21 h22 h23 h24 h25 h26 h27 h28 h29 h30 v_courses v_wide v_hands v_jumpTold v_frosts v_gaps v_frostsNow v_notFrosts v_gapsNow v_fell v_fellAll v_sheepFirst v_sheepMany v_seens v_finding v_wall v_fellOf) H locs → lv_has ls 2 [(0, .ref h0), (1, .int x1)] → W p l e rm_m_settles s m args below meth c H locs 0 0 (gQv below args s A g (W_m_settles g h0 h1 h2 h3 h4 h5 h6 h7 h8 h9 h10 h11 h12 h13 h14 h15 h16 h17 h18 h19 h20 h21 h22 h23 h24 h25 h26 h27 h28 h29 h30 v_courses v_wide v_hands v_jumpTold v_frosts v_gaps v_frostsNow v_notFrosts v_gapsNow r.1 v_fellAll v_sheepFirst v_sheepMany v_seens v_finding r.2.1 r.2.2)) (F0 m 3 ls [])) : ∀ (v_fell : Int32) (v_wall : Nat → Int32) (v_fellOf : Nat → Int32) (x1 : Int32), f_m_settles_N3 v_courses v_wide k3 v_fell v_wall v_fellOf x1 = some r → ∀ (H : Heap) (locs : List Loc) (ls : Array Slot), gW g A s (W_m_settles g h0 h1 h2 h3 h4 h5 h6 h7 h8 h9 h10 h11 h12 h13 h14 h15 h16 h17 h18 h19 h20 h21 h22 h23 h24 h25 h26 h27 h28 h29 h30 v_courses v_wide v_hands v_jumpTold v_frosts v_gaps v_frostsNow v_notFrosts v_gapsNow v_fell v_fellAll v_sheepFirst v_sheepMany v_seens v_finding v_wall v_fellOf) H locs → lv_has ls 2 [(0, .ref h0), (1, .int x1)] → W p l e rm_m_settles s m args below meth c H locs 0 0 (gQv below args s A g (W_m_settles g h0 h1 h2 h3 h4 h5 h6 h7 h8 h9 h10 h11 h12 h13 h14 h15 h16 h17 h18 h19 h20 h21 h22 h23 h24 h25 h26 h27 h28 h29 h30 v_courses v_wide v_hands v_jumpTold v_frosts v_gaps v_frostsNow v_notFrosts v_gapsNow r.1 v_fellAll v_sheepFirst v_sheepMany v_seens v_finding r.2.1 r.2.2)) (F0 m 3 ls []) := by
  intro v_fell v_wall v_fellOf x1 hm H locs ls hw hl
  unfold f_m_settles_N3 at hm
  obtain ⟨hx, hb, hr, hml, hown, hts, hlocks, hK, hA⟩ := id C0
  refine lv_iload_n hx hb dX9_settles_3 rfl (lv_at hl 1 rfl) ?_
  refine lv_bipush (v := 40) hx hb dX9_settles_4 (by decide) ?_
  refine lv_icmp_ge (tgt := 51) hx hb dX9_settles_6 (by decide) (fun hc => ?_) (fun hc => ?_)
  · have hm := ipos hc hm
    have hm := Option.some.inj hm
    subst hm
    exact gRetV C0 hw dX9_settles_51
  · have hm := ineg hc hm
    refine lv_aload_n hx hb dX9_settles_9 rfl (lv_at hl 0 rfl) ?_
    refine lv_iload_n hx hb dX9_settles_10 rfl (lv_at hl 1 rfl) ?_
    refine lv_bipush (v := 8) hx hb dX9_settles_11 (by decide) ?_
    refine lv_idiv hx hb dX9_settles_13 (by decide) ?_
    refine lv_iload_n hx hb dX9_settles_14 rfl (lv_at hl 1 rfl) ?_
    refine lv_bipush (v := 8) hx hb dX9_settles_15 (by decide) ?_
    refine lv_irem hx hb dX9_settles_17 (by decide) ?_
    obtain ⟨o18, ho18, hm⟩ := bindE hm
    refine gCalli (ws' := (W_m_settles g h0 h1 h2 h3 h4 h5 h6 h7 h8 h9 h10 h11 h12 h13 h14 h15 h16 h17 h18 h19 h20 h21 h22 h23 h24 h25 h26 h27 h28 h29 h30 v_courses v_wide v_hands v_jumpTold v_frosts v_gaps v_frostsNow v_notFrosts v_gapsNow v_fell v_fellAll v_sheepFirst v_sheepMany v_seens v_finding v_wall v_fellOf)) C0 hw (gRunV (As := [.int (x1 / (8 : Int32)), .int (x1 - x1 / (8 : Int32) * (8 : Int32))]) (rest := []) C0 hw lkX9_194 (c_m_handNow l g H.size h0 h1 h3 h4 h5 h6 h7 h8 h9 h10 h11 h12 h13 h14 h15 h2 h16 h17 h18 h19 h20 h21 h22 h23 h24 h25 h26 h27 h28 h29 h30 v_courses v_wide v_hands v_jumpTold v_frosts v_gaps v_frostsNow v_notFrosts v_gapsNow v_fell v_fellAll v_sheepFirst v_sheepMany v_seens v_finding v_wall (x1 / (8 : Int32)) (x1 - x1 / (8 : Int32) * (8 : Int32)) o18 ho18) ⟨rfl, rfl⟩ ⟨Nat.le_of_ble_eq_true rfl, Nat.le_of_ble_eq_true rfl⟩ [0, 1] (by decide) rfl 0 rfl rfl rfl hl.1 rfl (Nat.le_of_ble_eq_true rfl) dX9_settles_18) [0, 1] [2] rfl rfl ⟨rfl, trivial⟩ [h0, h1, h2] rfl rfl 3 rfl (by decide +kernel) (fun H locs hw => ?_)
    refine lv_iconst (v := -1) hx hb dX9_settles_21 (by decide) ?_
    refine lv_icmp_eq (tgt := 45) hx hb dX9_settles_22 (by decide) (fun hc => ?_) (fun hc => ?_)
    · have hm := ipos hc hm
      refine lv_iinc (v := x1 + (1 : Int32)) (lv' := [(1, .int (x1 + (1 : Int32))), (0, .ref h0)]) hx hb dX9_settles_45 hl (k := 1) rfl rfl (by decide) rfl (fun ls hl => ?_)
      refine lv_goto (tgt := 3) hx hb dX9_settles_48 (by decide) ?_
      exact hk3 _ _ _ _ hm _ _ _ hw (lv_sub hl [1, 0] rfl)
    · have hm := ineg hc hm
      refine lv_aload_n hx hb dX9_settles_25 rfl (lv_at hl 0 rfl) ?_
      refine lv_iload_n hx hb dX9_settles_26 rfl (lv_at hl 1 rfl) ?_
      refine lv_bipush (v := 8) hx hb dX9_settles_27 (by decide) ?_
      refine lv_idiv hx hb dX9_settles_29 (by decide) ?_
      refine lv_iload_n hx hb dX9_settles_30 rfl (lv_at hl 1 rfl) ?_
      refine lv_bipush (v := 8) hx hb dX9_settles_31 (by decide) ?_
      refine lv_irem hx hb dX9_settles_33 (by decide) ?_
      obtain ⟨o34, ho34, hm⟩ := bindE hm
      refine gCalli (ws' := (W_m_settles g h0 h1 h2 h3 h4 h5 h6 h7 h8 h9 h10 h11 h12 h13 h14 h15 h16 h17 h18 h19 h20 h21 h22 h23 h24 h25 h26 h27 h28 h29 h30 v_courses v_wide v_hands v_jumpTold v_frosts v_gaps v_frostsNow v_notFrosts v_gapsNow v_fell v_fellAll v_sheepFirst v_sheepMany v_seens v_finding v_wall v_fellOf)) C0 hw (gRunV (As := [.int (x1 / (8 : Int32)), .int (x1 - x1 / (8 : Int32) * (8 : Int32))]) (rest := []) C0 hw lkX9_215 (c_m_isBorne l g H.size h0 h1 h3 h4 h5 h6 h7 h8 h9 h10 h11 h12 h13 h14 h15 h2 h16 h17 h18 h19 h20 h21 h22 h23 h24 h25 h26 h27 h28 h29 h30 v_courses v_wide v_hands v_jumpTold v_frosts v_gaps v_frostsNow v_notFrosts v_gapsNow v_fell v_fellAll v_sheepFirst v_sheepMany v_seens v_finding v_wall (x1 / (8 : Int32)) (x1 - x1 / (8 : Int32) * (8 : Int32)) o34 ho34) ⟨rfl, rfl⟩ ⟨Nat.le_of_ble_eq_true rfl, Nat.le_of_ble_eq_true rfl⟩ [0, 1] (by decide) rfl 0 rfl rfl rfl hl.1 rfl (Nat.le_of_ble_eq_true rfl) dX9_settles_34) [0, 1] [2] rfl rfl ⟨rfl, trivial⟩ [h0, h1, h2] rfl rfl 3 rfl (by decide +kernel) (fun H locs hw => ?_)
      refine lv_if_ne (tgt := 45) hx hb dX9_settles_37 (by decide) (fun hc => ?_) (fun hc => ?_)
      · have hm := ineg hc hm
        refine lv_iinc (v := x1 + (1 : Int32)) (lv' := [(1, .int (x1 + (1 : Int32))), (0, .ref h0)]) hx hb dX9_settles_45 hl (k := 1) rfl rfl (by decide) rfl (fun ls hl => ?_)
        refine lv_goto (tgt := 3) hx hb dX9_settles_48 (by decide) ?_
        exact hk3 _ _ _ _ hm _ _ _ hw (lv_sub hl [1, 0] rfl)
      · have hm := ipos hc hm
        refine lv_aload_n hx hb dX9_settles_40 rfl (lv_at hl 0 rfl) ?_
        refine lv_iload_n hx hb dX9_settles_41 rfl (lv_at hl 1 rfl) ?_
        obtain ⟨o42, ho42, hm⟩ := bindE hm
        refine gCallv (ws' := (W_m_settles g h0 h1 h2 h3 h4 h5 h6 h7 h8 h9 h10 h11 h12 h13 h14 h15 h16 h17 h18 h19 h20 h21 h22 h23 h24 h25 h26 h27 h28 h29 h30 v_courses v_wide v_hands v_jumpTold v_frosts v_gaps v_frostsNow v_notFrosts v_gapsNow o42.1 v_fellAll v_sheepFirst v_sheepMany v_seens v_finding o42.2.1 o42.2.2)) C0 hw (gRunV (As := [.int x1]) (rest := []) C0 hw lkX9_218 (c_m_drops l g H.size h0 h1 h2 h3 h4 h5 h6 h7 h8 h9 h10 h11 h12 h13 h14 h15 h16 h17 h18 h19 h20 h21 h22 h23 h24 h25 h26 h27 h28 h29 h30 v_courses v_wide v_hands v_jumpTold v_frosts v_gaps v_frostsNow v_notFrosts v_gapsNow v_fell v_fellAll v_sheepFirst v_sheepMany v_seens v_finding v_wall v_fellOf x1 o42 ho42) ⟨rfl, rfl⟩ ⟨Nat.le_of_ble_eq_true rfl, Nat.le_of_ble_eq_true rfl⟩ [0, 1, 2] (by decide) rfl 0 rfl rfl rfl hl.1 rfl (Nat.le_of_ble_eq_true rfl) dX9_settles_42) [0, 1, 2] [] rfl rfl trivial [h0, h1, h2] rfl rfl 3 rfl (by decide +kernel) (fun H locs hw => ?_)
        refine lv_iinc (v := x1 + (1 : Int32)) (lv' := [(1, .int (x1 + (1 : Int32))), (0, .ref h0)]) hx hb dX9_settles_45 hl (k := 1) rfl rfl (by decide) rfl (fun ls hl => ?_)
        refine lv_goto (tgt := 3) hx hb dX9_settles_48 (by decide) ?_
        exact hk3 _ _ _ _ hm _ _ _ hw (lv_sub hl [1, 0] rfl)
set_option maxHeartbeats 1000000 in
set_option maxRecDepth 100000 in
theorem l_m_settles_N3 {p : Program} {l : Launch} {e : Env} {s : State} {m : MethodId} {args : Array Value} {below : List Frame} {meth : Method} {c : Code} {A : Nat → Prop} {g : gG} {h0 h1 h2 h3 h4 h5 h6 h7 h8 h9 h10 h11 h12 h13 h14 h15 h16 h17 h18 h19 h20 h21 h22 h23 h24 h25 h26 h27 h28 h29 h30 : Nat} {v_courses : Int32} {v_wide : Int32} {v_hands : Int32} {v_jumpTold : Int32} {v_frosts : Int32} {v_gaps : Int32} {v_frostsNow : Int32} {v_notFrosts : Int32} {v_gapsNow : Int32} {v_fellAll : Int32} {v_sheepFirst : Int32} {v_sheepMany : Int32} {v_seens : Int32} {v_finding : Int32} {r : (Int32 × (Nat → Int32) × (Nat → Int32))} (C0 : gX p s m args meth c cX9_settles 2 none RX9 g A) : ∀ n : Nat, ∀ (v_fell : Int32) (v_wall : Nat → Int32) (v_fellOf : Nat → Int32) (x1 : Int32), iter (fun _ _ _ _ => none) (f_m_settles_N3 v_courses v_wide) n v_fell v_wall v_fellOf x1 = some r → ∀ (H : Heap) (locs : List Loc) (ls : Array Slot), gW g A s (W_m_settles g h0 h1 h2 h3 h4 h5 h6 h7 h8 h9 h10 h11 h12 h13 h14 h15 h16 h17 h18 h19 h20 h21 h22 h23 h24 h25 h26 h27 h28 h29 h30 v_courses v_wide v_hands v_jumpTold v_frosts v_gaps v_frostsNow v_notFrosts v_gapsNow v_fell v_fellAll v_sheepFirst v_sheepMany v_seens v_finding v_wall v_fellOf) H locs → lv_has ls 2 [(0, .ref h0), (1, .int x1)] → W p l e rm_m_settles s m args below meth c H locs 0 0 (gQv below args s A g (W_m_settles g h0 h1 h2 h3 h4 h5 h6 h7 h8 h9 h10 h11 h12 h13 h14 h15 h16 h17 h18 h19 h20 h21 h22 h23 h24 h25 h26 h27 h28 h29 h30 v_courses v_wide v_hands v_jumpTold v_frosts v_gaps v_frostsNow v_notFrosts v_gapsNow r.1 v_fellAll v_sheepFirst v_sheepMany v_seens v_finding r.2.1 r.2.2)) (F0 m 3 ls []) := by
  intro n
  induction n with
  | zero =>
    intro v_fell v_wall v_fellOf x1 hm
    cases hm
  | succ n ih =>
    exact n_m_settles_N3 C0  ih
set_option maxHeartbeats 1000000 in
set_option maxRecDepth 100000 in
theorem c_m_settles (l : Launch) (g : gG) (sz : Nat) (h0 h1 h2 h3 h4 h5 h6 h7 h8 h9 h10 h11 h12 h13 h14 h15 h16 h17 h18 h19 h20 h21 h22 h23 h24 h25 h26 h27 h28 h29 h30 : Nat) (v_courses : Int32) (v_wide : Int32) (v_hands : Int32) (v_jumpTold : Int32) (v_frosts : Int32) (v_gaps : Int32) (v_frostsNow : Int32) (v_notFrosts : Int32) (v_gapsNow : Int32) (v_fell : Int32) (v_fellAll : Int32) (v_sheepFirst : Int32) (v_sheepMany : Int32) (v_seens : Int32) (v_finding : Int32) (v_wall : Nat → Int32) (v_fellOf : Nat → Int32) (r : (Int32 × (Nat → Int32) × (Nat → Int32))) (hm : f_m_settles v_courses v_wide v_fell v_wall v_fellOf = some r) : gMv l yX9_settles cX9_settles 2 none rm_m_settles g sz [.ref h0] (W_m_settles g h0 h1 h2 h3 h4 h5 h6 h7 h8 h9 h10 h11 h12 h13 h14 h15 h16 h17 h18 h19 h20 h21 h22 h23 h24 h25 h26 h27 h28 h29 h30 v_courses v_wide v_hands v_jumpTold v_frosts v_gaps v_frostsNow v_notFrosts v_gapsNow v_fell v_fellAll v_sheepFirst v_sheepMany v_seens v_finding v_wall v_fellOf) (W_m_settles g h0 h1 h2 h3 h4 h5 h6 h7 h8 h9 h10 h11 h12 h13 h14 h15 h16 h17 h18 h19 h20 h21 h22 h23 h24 h25 h26 h27 h28 h29 h30 v_courses v_wide v_hands v_jumpTold v_frosts v_gaps v_frostsNow v_notFrosts v_gapsNow r.1 v_fellAll v_sheepFirst v_sheepMany v_seens v_finding r.2.1 r.2.2) := by
  unfold f_m_settles at hm
  refine gEnterV (by decide) (Nat.le_of_ble_eq_true rfl) (fun p e s m below meth c A C0 H locs hw ls hl => ?_)
  obtain ⟨hx, hb, hr, hml, hown, hts, hlocks, hK, hA⟩ := id C0
  have C0 : gX p s m [.ref h0].toArray meth c cX9_settles 2 none RX9 g A := C0
  have hl : lv_has ls 2 [(0, .ref h0)] := hl
  refine lv_bipush (v := 8) hx hb dX9_settles_0 (by decide) ?_
  refine lv_istore_n (lv' := [(1, .int (8 : Int32)), (0, .ref h0)]) hx hb dX9_settles_2 rfl hl (by decide) rfl (fun ls hl => ?_)
  exact l_m_settles_N3 C0  1000 _ _ _ _ hm _ _ _ hw (lv_sub hl [1, 0] rfl)

-- WallHandsModel.freezes(I)V
abbrev W_m_freezes (g : gG) (h0 h1 h2 h3 h4 h5 h6 h7 h8 h9 h10 h11 h12 h13 h14 h15 h16 h17 h18 h19 h20 h21 h22 h23 h24 h25 h26 h27 h28 h29 h30 : Nat) (v_courses : Int32) (v_wide : Int32) (v_hands : Int32) (v_jumpTold : Int32) (v_frosts : Int32) (v_gaps : Int32) (v_frostsNow : Int32) (v_notFrosts : Int32) (v_gapsNow : Int32) (v_fell : Int32) (v_fellAll : Int32) (v_sheepFirst : Int32) (v_sheepMany : Int32) (v_seens : Int32) (v_finding : Int32) (v_moods : Nat → Int32) (v_strongs : Nat → Int32) (v_wall : Nat → Int32) (v_holdNow : Nat → Int32) (v_fellOf : Nat → Int32) : va_W := [(h0, .inr (9, [.ref h6, .ref h7, .int v_courses, .int v_wide, .ref h8, .int v_hands, .ref h1, .ref h2, .int v_jumpTold, .int v_frosts, .ref h9, .ref h10, .int v_gaps, .ref h11, .ref h12, .ref h13, .ref h3, .int v_frostsNow, .ref h14, .ref h15, .int v_notFrosts, .int v_gapsNow, .ref h4, .int v_fell, .int v_fellAll, .ref h5, .ref h16, .ref h17, .ref h18, .ref h19, .ref h20, .ref h21, .int v_sheepFirst, .int v_sheepMany, .int v_seens, .ref h22, .ref h23, .ref h24, .ref h25, .ref h26, .ref h27, .ref h28, .ref h29, .ref h30, .int v_finding])), (h1, .inl (gI g, 9, .inl v_moods)), (h2, .inl (gI g, 9, .inl v_strongs)), (h3, .inl (gI g, 40, .inl v_wall)), (h4, .inl (gI g, 40, .inl v_holdNow)), (h5, .inl (gI g, 8, .inl v_fellOf))]

abbrev rm_m_freezes : Room := { frames := 4, cells := 0, slots := 0, locals := 93 }

set_option maxHeartbeats 1000000 in
set_option maxRecDepth 100000 in
theorem n_m_freezes_N6 {p : Program} {l : Launch} {e : Env} {s : State} {m : MethodId} {args : Array Value} {below : List Frame} {meth : Method} {c : Code} {A : Nat → Prop} {g : gG} {h0 h1 h2 h3 h4 h5 h6 h7 h8 h9 h10 h11 h12 h13 h14 h15 h16 h17 h18 h19 h20 h21 h22 h23 h24 h25 h26 h27 h28 h29 h30 : Nat} {v_courses : Int32} {v_wide : Int32} {v_hands : Int32} {v_jumpTold : Int32} {v_frosts : Int32} {v_gaps : Int32} {v_frostsNow : Int32} {v_notFrosts : Int32} {v_gapsNow : Int32} {v_fellAll : Int32} {v_sheepFirst : Int32} {v_sheepMany : Int32} {v_seens : Int32} {v_finding : Int32} {v_moods : Nat → Int32} {v_strongs : Nat → Int32} {k6 : Int32 → (Nat → Int32) → (Nat → Int32) → (Nat → Int32) → Int32 → Int32 → Option (Int32 × (Nat → Int32) × (Nat → Int32) × (Nat → Int32))} {r : (Int32 × (Nat → Int32) × (Nat → Int32) × (Nat → Int32))} (C0 : gX p s m args meth c cX9_freezes 3 none RX9 g A) (hk6 : ∀ (v_fell : Int32) (v_wall : Nat → Int32) (v_holdNow : Nat → Int32) (v_fellOf : Nat → Int32) (x1 : Int32) (x2 : Int32), k6 v_fell v_wall v_holdNow v_fellOf x1 x2 = some r → ∀ (H : Heap) (locs : List Loc) (ls : Array Slot), gW g A s (W_m_freezes g h0 h1 h2 h3 h4 h5 h6 h7 h8 h9 h10 h11 h12 h13 h14 h15 h16 h17 h18 h19 h20 h21 h22 h23 h24 h25 h26 h27 h28 h29 h30 v_courses v_wide v_hands v_jumpTold v_frosts v_gaps v_frostsNow v_notFrosts v_gapsNow v_fell v_fellAll v_sheepFirst v_sheepMany v_seens v_finding v_moods v_strongs v_wall v_holdNow v_fellOf) H locs → lv_has ls 3 [(0, .ref h0), (1, .int x1), (2, .int x2)] → W p l e rm_m_freezes s m args below meth c H locs 0 0 (gQv below args s A g (W_m_freezes g h0 h1 h2 h3 h4 h5 h6 h7 h8 h9 h10 h11 h12 h13 h14 h15 h16 h17 h18 h19 h20 h21 h22 h23 h24 h25 h26 h27 h28 h29 h30 v_courses v_wide v_hands v_jumpTold v_frosts v_gaps v_frostsNow v_notFrosts v_gapsNow r.1 v_fellAll v_sheepFirst v_sheepMany v_seens v_finding v_moods v_strongs r.2.1 r.2.2.1 r.2.2.2)) (F0 m 6 ls [])) : ∀ (v_fell : Int32) (v_wall : Nat → Int32) (v_holdNow : Nat → Int32) (v_fellOf : Nat → Int32) (x1 : Int32) (x2 : Int32), f_m_freezes_N6 v_courses v_wide v_hands v_moods v_strongs k6 v_fell v_wall v_holdNow v_fellOf x1 x2 = some r → ∀ (H : Heap) (locs : List Loc) (ls : Array Slot), gW g A s (W_m_freezes g h0 h1 h2 h3 h4 h5 h6 h7 h8 h9 h10 h11 h12 h13 h14 h15 h16 h17 h18 h19 h20 h21 h22 h23 h24 h25 h26 h27 h28 h29 h30 v_courses v_wide v_hands v_jumpTold v_frosts v_gaps v_frostsNow v_notFrosts v_gapsNow v_fell v_fellAll v_sheepFirst v_sheepMany v_seens v_finding v_moods v_strongs v_wall v_holdNow v_fellOf) H locs → lv_has ls 3 [(0, .ref h0), (1, .int x1), (2, .int x2)] → W p l e rm_m_freezes s m args below meth c H locs 0 0 (gQv below args s A g (W_m_freezes g h0 h1 h2 h3 h4 h5 h6 h7 h8 h9 h10 h11 h12 h13 h14 h15 h16 h17 h18 h19 h20 h21 h22 h23 h24 h25 h26 h27 h28 h29 h30 v_courses v_wide v_hands v_jumpTold v_frosts v_gaps v_frostsNow v_notFrosts v_gapsNow r.1 v_fellAll v_sheepFirst v_sheepMany v_seens v_finding v_moods v_strongs r.2.1 r.2.2.1 r.2.2.2)) (F0 m 6 ls []) := by
  intro v_fell v_wall v_holdNow v_fellOf x1 x2 hm H locs ls hw hl
  unfold f_m_freezes_N6 at hm
  obtain ⟨hx, hb, hr, hml, hown, hts, hlocks, hK, hA⟩ := id C0
  refine lv_iload_n hx hb dX9_freezes_6 rfl (lv_at hl 2 rfl) ?_
  refine lv_bipush (v := 40) hx hb dX9_freezes_7 (by decide) ?_
  refine lv_icmp_ge (tgt := 43) hx hb dX9_freezes_9 (by decide) (fun hc => ?_) (fun hc => ?_)
  · have hm := ipos hc hm
    refine lv_aload_n hx hb dX9_freezes_43 rfl (lv_at hl 0 rfl) ?_
    obtain ⟨o44, ho44, hm⟩ := bindE hm
    refine gCallv (ws' := (W_m_freezes g h0 h1 h2 h3 h4 h5 h6 h7 h8 h9 h10 h11 h12 h13 h14 h15 h16 h17 h18 h19 h20 h21 h22 h23 h24 h25 h26 h27 h28 h29 h30 v_courses v_wide v_hands v_jumpTold v_frosts v_gaps v_frostsNow v_notFrosts v_gapsNow o44.1 v_fellAll v_sheepFirst v_sheepMany v_seens v_finding v_moods v_strongs o44.2.1 v_holdNow o44.2.2)) C0 hw (gRunV (As := []) (rest := []) C0 hw lkX9_225 (c_m_settles l g H.size h0 h3 h5 h6 h7 h8 h1 h2 h9 h10 h11 h12 h13 h14 h15 h4 h16 h17 h18 h19 h20 h21 h22 h23 h24 h25 h26 h27 h28 h29 h30 v_courses v_wide v_hands v_jumpTold v_frosts v_gaps v_frostsNow v_notFrosts v_gapsNow v_fell v_fellAll v_sheepFirst v_sheepMany v_seens v_finding v_wall v_fellOf o44 ho44) ⟨rfl, rfl⟩ ⟨Nat.le_of_ble_eq_true rfl, Nat.le_of_ble_eq_true rfl⟩ [0, 3, 5] (by decide) rfl 0 rfl rfl rfl hl.1 rfl (Nat.le_of_ble_eq_true rfl) dX9_freezes_44) [0, 3, 5] [1, 2, 4] rfl rfl ⟨rfl, rfl, rfl, trivial⟩ [h0, h1, h2, h3, h4, h5] rfl rfl 6 rfl (by decide +kernel) (fun H locs hw => ?_)
    have hm := Option.some.inj hm
    subst hm
    exact gRetV C0 hw dX9_freezes_47
  · have hm := ineg hc hm
    refine lv_aload_n hx hb dX9_freezes_12 rfl (lv_at hl 0 rfl) ?_
    refine gGet C0 hw flX9_49 0 rfl rfl dX9_freezes_13 ?_
    refine lv_iload_n hx hb dX9_freezes_16 rfl (lv_at hl 2 rfl) ?_
    obtain ⟨hin, hm⟩ := gdE hm
    have hin := inbE hin
    refine gAldI C0 hw 4 rfl hin dX9_freezes_17 ?_
    refine lv_iconst (v := -1) hx hb dX9_freezes_18 (by decide) ?_
    refine lv_icmp_eq (tgt := 37) hx hb dX9_freezes_19 (by decide) (fun hc => ?_) (fun hc => ?_)
    · have hm := ipos hc hm
      refine lv_iinc (v := x2 + (1 : Int32)) (lv' := [(2, .int (x2 + (1 : Int32))), (0, .ref h0), (1, .int x1)]) hx hb dX9_freezes_37 hl (k := 2) rfl rfl (by decide) rfl (fun ls hl => ?_)
      refine lv_goto (tgt := 6) hx hb dX9_freezes_40 (by decide) ?_
      exact hk6 _ _ _ _ _ _ hm _ _ _ hw (lv_sub hl [1, 2, 0] rfl)
    · have hm := ineg hc hm
      refine lv_aload_n hx hb dX9_freezes_22 rfl (lv_at hl 0 rfl) ?_
      refine gGet C0 hw flX9_49 0 rfl rfl dX9_freezes_23 ?_
      refine lv_iload_n hx hb dX9_freezes_26 rfl (lv_at hl 2 rfl) ?_
      obtain ⟨hin, hm⟩ := gdE hm
      have hin := inbE hin
      refine gAldI C0 hw 4 rfl hin dX9_freezes_27 ?_
      refine lv_iload_n hx hb dX9_freezes_28 rfl (lv_at hl 1 rfl) ?_
      refine lv_icmp_ge (tgt := 37) hx hb dX9_freezes_29 (by decide) (fun hc => ?_) (fun hc => ?_)
      · have hm := ipos hc hm
        refine lv_iinc (v := x2 + (1 : Int32)) (lv' := [(2, .int (x2 + (1 : Int32))), (0, .ref h0), (1, .int x1)]) hx hb dX9_freezes_37 hl (k := 2) rfl rfl (by decide) rfl (fun ls hl => ?_)
        refine lv_goto (tgt := 6) hx hb dX9_freezes_40 (by decide) ?_
        exact hk6 _ _ _ _ _ _ hm _ _ _ hw (lv_sub hl [1, 2, 0] rfl)
      · have hm := ineg hc hm
        refine lv_aload_n hx hb dX9_freezes_32 rfl (lv_at hl 0 rfl) ?_
        refine lv_iload_n hx hb dX9_freezes_33 rfl (lv_at hl 2 rfl) ?_
        obtain ⟨o34, ho34, hm⟩ := bindE hm
        refine gCallv (ws' := (W_m_freezes g h0 h1 h2 h3 h4 h5 h6 h7 h8 h9 h10 h11 h12 h13 h14 h15 h16 h17 h18 h19 h20 h21 h22 h23 h24 h25 h26 h27 h28 h29 h30 v_courses v_wide v_hands v_jumpTold v_frosts v_gaps v_frostsNow v_notFrosts v_gapsNow o34.1 v_fellAll v_sheepFirst v_sheepMany v_seens v_finding v_moods v_strongs o34.2.1 v_holdNow o34.2.2)) C0 hw (gRunV (As := [.int x2]) (rest := []) C0 hw lkX9_218 (c_m_drops l g H.size h0 h3 h5 h6 h7 h8 h1 h2 h9 h10 h11 h12 h13 h14 h15 h4 h16 h17 h18 h19 h20 h21 h22 h23 h24 h25 h26 h27 h28 h29 h30 v_courses v_wide v_hands v_jumpTold v_frosts v_gaps v_frostsNow v_notFrosts v_gapsNow v_fell v_fellAll v_sheepFirst v_sheepMany v_seens v_finding v_wall v_fellOf x2 o34 ho34) ⟨rfl, rfl⟩ ⟨Nat.le_of_ble_eq_true rfl, Nat.le_of_ble_eq_true rfl⟩ [0, 3, 5] (by decide) rfl 0 rfl rfl rfl hl.1 rfl (Nat.le_of_ble_eq_true rfl) dX9_freezes_34) [0, 3, 5] [1, 2, 4] rfl rfl ⟨rfl, rfl, rfl, trivial⟩ [h0, h1, h2, h3, h4, h5] rfl rfl 6 rfl (by decide +kernel) (fun H locs hw => ?_)
        refine lv_iinc (v := x2 + (1 : Int32)) (lv' := [(2, .int (x2 + (1 : Int32))), (0, .ref h0), (1, .int x1)]) hx hb dX9_freezes_37 hl (k := 2) rfl rfl (by decide) rfl (fun ls hl => ?_)
        refine lv_goto (tgt := 6) hx hb dX9_freezes_40 (by decide) ?_
        exact hk6 _ _ _ _ _ _ hm _ _ _ hw (lv_sub hl [1, 2, 0] rfl)
set_option maxHeartbeats 1000000 in
set_option maxRecDepth 100000 in
theorem l_m_freezes_N6 {p : Program} {l : Launch} {e : Env} {s : State} {m : MethodId} {args : Array Value} {below : List Frame} {meth : Method} {c : Code} {A : Nat → Prop} {g : gG} {h0 h1 h2 h3 h4 h5 h6 h7 h8 h9 h10 h11 h12 h13 h14 h15 h16 h17 h18 h19 h20 h21 h22 h23 h24 h25 h26 h27 h28 h29 h30 : Nat} {v_courses : Int32} {v_wide : Int32} {v_hands : Int32} {v_jumpTold : Int32} {v_frosts : Int32} {v_gaps : Int32} {v_frostsNow : Int32} {v_notFrosts : Int32} {v_gapsNow : Int32} {v_fellAll : Int32} {v_sheepFirst : Int32} {v_sheepMany : Int32} {v_seens : Int32} {v_finding : Int32} {v_moods : Nat → Int32} {v_strongs : Nat → Int32} {r : (Int32 × (Nat → Int32) × (Nat → Int32) × (Nat → Int32))} (C0 : gX p s m args meth c cX9_freezes 3 none RX9 g A) : ∀ n : Nat, ∀ (v_fell : Int32) (v_wall : Nat → Int32) (v_holdNow : Nat → Int32) (v_fellOf : Nat → Int32) (x1 : Int32) (x2 : Int32), iter (fun _ _ _ _ _ _ => none) (f_m_freezes_N6 v_courses v_wide v_hands v_moods v_strongs) n v_fell v_wall v_holdNow v_fellOf x1 x2 = some r → ∀ (H : Heap) (locs : List Loc) (ls : Array Slot), gW g A s (W_m_freezes g h0 h1 h2 h3 h4 h5 h6 h7 h8 h9 h10 h11 h12 h13 h14 h15 h16 h17 h18 h19 h20 h21 h22 h23 h24 h25 h26 h27 h28 h29 h30 v_courses v_wide v_hands v_jumpTold v_frosts v_gaps v_frostsNow v_notFrosts v_gapsNow v_fell v_fellAll v_sheepFirst v_sheepMany v_seens v_finding v_moods v_strongs v_wall v_holdNow v_fellOf) H locs → lv_has ls 3 [(0, .ref h0), (1, .int x1), (2, .int x2)] → W p l e rm_m_freezes s m args below meth c H locs 0 0 (gQv below args s A g (W_m_freezes g h0 h1 h2 h3 h4 h5 h6 h7 h8 h9 h10 h11 h12 h13 h14 h15 h16 h17 h18 h19 h20 h21 h22 h23 h24 h25 h26 h27 h28 h29 h30 v_courses v_wide v_hands v_jumpTold v_frosts v_gaps v_frostsNow v_notFrosts v_gapsNow r.1 v_fellAll v_sheepFirst v_sheepMany v_seens v_finding v_moods v_strongs r.2.1 r.2.2.1 r.2.2.2)) (F0 m 6 ls []) := by
  intro n
  induction n with
  | zero =>
    intro v_fell v_wall v_holdNow v_fellOf x1 x2 hm
    cases hm
  | succ n ih =>
    exact n_m_freezes_N6 C0  ih
set_option maxHeartbeats 1000000 in
set_option maxRecDepth 100000 in
theorem c_m_freezes (l : Launch) (g : gG) (sz : Nat) (h0 h1 h2 h3 h4 h5 h6 h7 h8 h9 h10 h11 h12 h13 h14 h15 h16 h17 h18 h19 h20 h21 h22 h23 h24 h25 h26 h27 h28 h29 h30 : Nat) (v_courses : Int32) (v_wide : Int32) (v_hands : Int32) (v_jumpTold : Int32) (v_frosts : Int32) (v_gaps : Int32) (v_frostsNow : Int32) (v_notFrosts : Int32) (v_gapsNow : Int32) (v_fell : Int32) (v_fellAll : Int32) (v_sheepFirst : Int32) (v_sheepMany : Int32) (v_seens : Int32) (v_finding : Int32) (v_moods : Nat → Int32) (v_strongs : Nat → Int32) (v_wall : Nat → Int32) (v_holdNow : Nat → Int32) (v_fellOf : Nat → Int32) (a0 : Int32) (r : (Int32 × (Nat → Int32) × (Nat → Int32) × (Nat → Int32))) (hm : f_m_freezes v_courses v_wide v_hands v_fell v_moods v_strongs v_wall v_holdNow v_fellOf a0 = some r) : gMv l yX9_freezes cX9_freezes 3 none rm_m_freezes g sz [.ref h0, .int a0] (W_m_freezes g h0 h1 h2 h3 h4 h5 h6 h7 h8 h9 h10 h11 h12 h13 h14 h15 h16 h17 h18 h19 h20 h21 h22 h23 h24 h25 h26 h27 h28 h29 h30 v_courses v_wide v_hands v_jumpTold v_frosts v_gaps v_frostsNow v_notFrosts v_gapsNow v_fell v_fellAll v_sheepFirst v_sheepMany v_seens v_finding v_moods v_strongs v_wall v_holdNow v_fellOf) (W_m_freezes g h0 h1 h2 h3 h4 h5 h6 h7 h8 h9 h10 h11 h12 h13 h14 h15 h16 h17 h18 h19 h20 h21 h22 h23 h24 h25 h26 h27 h28 h29 h30 v_courses v_wide v_hands v_jumpTold v_frosts v_gaps v_frostsNow v_notFrosts v_gapsNow r.1 v_fellAll v_sheepFirst v_sheepMany v_seens v_finding v_moods v_strongs r.2.1 r.2.2.1 r.2.2.2) := by
  unfold f_m_freezes at hm
  refine gEnterV (by decide) (Nat.le_of_ble_eq_true rfl) (fun p e s m below meth c A C0 H locs hw ls hl => ?_)
  obtain ⟨hx, hb, hr, hml, hown, hts, hlocks, hK, hA⟩ := id C0
  have C0 : gX p s m [.ref h0, .int a0].toArray meth c cX9_freezes 3 none RX9 g A := C0
  have hl : lv_has ls 3 [(0, .ref h0), (1, .int a0)] := hl
  refine lv_aload_n hx hb dX9_freezes_0 rfl (lv_at hl 0 rfl) ?_
  obtain ⟨o1, ho1, hm⟩ := bindE hm
  refine gCallv (ws' := (W_m_freezes g h0 h1 h2 h3 h4 h5 h6 h7 h8 h9 h10 h11 h12 h13 h14 h15 h16 h17 h18 h19 h20 h21 h22 h23 h24 h25 h26 h27 h28 h29 h30 v_courses v_wide v_hands v_jumpTold v_frosts v_gaps v_frostsNow v_notFrosts v_gapsNow v_fell v_fellAll v_sheepFirst v_sheepMany v_seens v_finding v_moods v_strongs v_wall o1 v_fellOf)) C0 hw (gRunV (As := []) (rest := []) C0 hw lkX9_222 (c_m_holdAll l g H.size h0 h1 h2 h3 h4 h6 h7 h8 h9 h10 h11 h12 h13 h14 h15 h5 h16 h17 h18 h19 h20 h21 h22 h23 h24 h25 h26 h27 h28 h29 h30 v_courses v_wide v_hands v_jumpTold v_frosts v_gaps v_frostsNow v_notFrosts v_gapsNow v_fell v_fellAll v_sheepFirst v_sheepMany v_seens v_finding v_moods v_strongs v_wall v_holdNow o1 ho1) ⟨rfl, rfl⟩ ⟨Nat.le_of_ble_eq_true rfl, Nat.le_of_ble_eq_true rfl⟩ [0, 1, 2, 3, 4] (by decide) rfl 0 rfl rfl rfl hl.1 rfl (Nat.le_of_ble_eq_true rfl) dX9_freezes_1) [0, 1, 2, 3, 4] [5] rfl rfl ⟨rfl, trivial⟩ [h0, h1, h2, h3, h4, h5] rfl rfl 6 rfl (by decide +kernel) (fun H locs hw => ?_)
  refine lv_iconst (v := 0) hx hb dX9_freezes_4 (by decide) ?_
  refine lv_istore_n (lv' := [(2, .int (0 : Int32)), (0, .ref h0), (1, .int a0)]) hx hb dX9_freezes_5 rfl hl (by decide) rfl (fun ls hl => ?_)
  exact l_m_freezes_N6 C0  1000 _ _ _ _ _ _ hm _ _ _ hw (lv_sub hl [1, 2, 0] rfl)

-- WallHandsModel.mends(II)V
abbrev W_m_mends (g : gG) (h0 h1 h2 h3 h4 h5 h6 h7 h8 h9 h10 h11 h12 h13 h14 h15 h16 h17 h18 h19 h20 h21 h22 h23 h24 h25 h26 h27 h28 h29 h30 : Nat) (v_courses : Int32) (v_wide : Int32) (v_hands : Int32) (v_jumpTold : Int32) (v_frosts : Int32) (v_gaps : Int32) (v_frostsNow : Int32) (v_notFrosts : Int32) (v_gapsNow : Int32) (v_fell : Int32) (v_fellAll : Int32) (v_sheepFirst : Int32) (v_sheepMany : Int32) (v_seens : Int32) (v_finding : Int32) (v_wall : Nat → Int32) : va_W := [(h0, .inr (9, [.ref h2, .ref h3, .int v_courses, .int v_wide, .ref h4, .int v_hands, .ref h5, .ref h6, .int v_jumpTold, .int v_frosts, .ref h7, .ref h8, .int v_gaps, .ref h9, .ref h10, .ref h11, .ref h1, .int v_frostsNow, .ref h12, .ref h13, .int v_notFrosts, .int v_gapsNow, .ref h14, .int v_fell, .int v_fellAll, .ref h15, .ref h16, .ref h17, .ref h18, .ref h19, .ref h20, .ref h21, .int v_sheepFirst, .int v_sheepMany, .int v_seens, .ref h22, .ref h23, .ref h24, .ref h25, .ref h26, .ref h27, .ref h28, .ref h29, .ref h30, .int v_finding])), (h1, .inl (gI g, 40, .inl v_wall))]

abbrev rm_m_mends : Room := { frames := 3, cells := 0, slots := 0, locals := 68 }

set_option maxHeartbeats 1000000 in
set_option maxRecDepth 100000 in
theorem n_m_mends_N2 {p : Program} {l : Launch} {e : Env} {s : State} {m : MethodId} {args : Array Value} {below : List Frame} {meth : Method} {c : Code} {A : Nat → Prop} {g : gG} {h0 h1 h2 h3 h4 h5 h6 h7 h8 h9 h10 h11 h12 h13 h14 h15 h16 h17 h18 h19 h20 h21 h22 h23 h24 h25 h26 h27 h28 h29 h30 : Nat} {v_courses : Int32} {v_wide : Int32} {v_hands : Int32} {v_jumpTold : Int32} {v_frosts : Int32} {v_gaps : Int32} {v_frostsNow : Int32} {v_notFrosts : Int32} {v_gapsNow : Int32} {v_fell : Int32} {v_fellAll : Int32} {v_sheepFirst : Int32} {v_sheepMany : Int32} {v_seens : Int32} {v_finding : Int32} {k2 : (Nat → Int32) → Int32 → Int32 → Int32 → Option (Nat → Int32)} {r : (Nat → Int32)} (C0 : gX p s m args meth c cX9_mends 4 none RX9 g A) (hk2 : ∀ (v_wall : Nat → Int32) (x1 : Int32) (x2 : Int32) (x3 : Int32), k2 v_wall x1 x2 x3 = some r → ∀ (H : Heap) (locs : List Loc) (ls : Array Slot), gW g A s (W_m_mends g h0 h1 h2 h3 h4 h5 h6 h7 h8 h9 h10 h11 h12 h13 h14 h15 h16 h17 h18 h19 h20 h21 h22 h23 h24 h25 h26 h27 h28 h29 h30 v_courses v_wide v_hands v_jumpTold v_frosts v_gaps v_frostsNow v_notFrosts v_gapsNow v_fell v_fellAll v_sheepFirst v_sheepMany v_seens v_finding v_wall) H locs → lv_has ls 4 [(0, .ref h0), (1, .int x1), (2, .int x2), (3, .int x3)] → W p l e rm_m_mends s m args below meth c H locs 0 0 (gQv below args s A g (W_m_mends g h0 h1 h2 h3 h4 h5 h6 h7 h8 h9 h10 h11 h12 h13 h14 h15 h16 h17 h18 h19 h20 h21 h22 h23 h24 h25 h26 h27 h28 h29 h30 v_courses v_wide v_hands v_jumpTold v_frosts v_gaps v_frostsNow v_notFrosts v_gapsNow v_fell v_fellAll v_sheepFirst v_sheepMany v_seens v_finding r)) (F0 m 2 ls [])) : ∀ (v_wall : Nat → Int32) (x1 : Int32) (x2 : Int32) (x3 : Int32), f_m_mends_N2 v_courses v_wide k2 v_wall x1 x2 x3 = some r → ∀ (H : Heap) (locs : List Loc) (ls : Array Slot), gW g A s (W_m_mends g h0 h1 h2 h3 h4 h5 h6 h7 h8 h9 h10 h11 h12 h13 h14 h15 h16 h17 h18 h19 h20 h21 h22 h23 h24 h25 h26 h27 h28 h29 h30 v_courses v_wide v_hands v_jumpTold v_frosts v_gaps v_frostsNow v_notFrosts v_gapsNow v_fell v_fellAll v_sheepFirst v_sheepMany v_seens v_finding v_wall) H locs → lv_has ls 4 [(0, .ref h0), (1, .int x1), (2, .int x2), (3, .int x3)] → W p l e rm_m_mends s m args below meth c H locs 0 0 (gQv below args s A g (W_m_mends g h0 h1 h2 h3 h4 h5 h6 h7 h8 h9 h10 h11 h12 h13 h14 h15 h16 h17 h18 h19 h20 h21 h22 h23 h24 h25 h26 h27 h28 h29 h30 v_courses v_wide v_hands v_jumpTold v_frosts v_gaps v_frostsNow v_notFrosts v_gapsNow v_fell v_fellAll v_sheepFirst v_sheepMany v_seens v_finding r)) (F0 m 2 ls []) := by
  intro v_wall x1 x2 x3 hm H locs ls hw hl
  unfold f_m_mends_N2 at hm
  obtain ⟨hx, hb, hr, hml, hown, hts, hlocks, hK, hA⟩ := id C0
  refine lv_iload_n hx hb dX9_mends_2 rfl (lv_at hl 3 rfl) ?_
  refine lv_aload_n hx hb dX9_mends_3 rfl (lv_at hl 0 rfl) ?_
  refine gGet C0 hw flX9_118 0 rfl rfl dX9_mends_4 ?_
  refine lv_icmp_ge (tgt := 65) hx hb dX9_mends_7 (by decide) (fun hc => ?_) (fun hc => ?_)
  · have hm := ipos hc hm
    have hm := Option.some.inj hm
    subst hm
    exact gRetV C0 hw dX9_mends_65
  · have hm := ineg hc hm
    refine lv_iload_n hx hb dX9_mends_10 rfl (lv_at hl 1 rfl) ?_
    refine lv_aload_n hx hb dX9_mends_11 rfl (lv_at hl 0 rfl) ?_
    refine gGet C0 hw flX9_121 0 rfl rfl dX9_mends_12 ?_
    refine lv_icmp_ge (tgt := 65) hx hb dX9_mends_15 (by decide) (fun hc => ?_) (fun hc => ?_)
    · have hm := ipos hc hm
      have hm := Option.some.inj hm
      subst hm
      exact gRetV C0 hw dX9_mends_65
    · have hm := ineg hc hm
      refine lv_aload_n hx hb dX9_mends_18 rfl (lv_at hl 0 rfl) ?_
      refine gGet C0 hw flX9_40 0 rfl rfl dX9_mends_19 ?_
      refine lv_bipush (v := 8) hx hb dX9_mends_22 (by decide) ?_
      refine lv_iload_n hx hb dX9_mends_24 rfl (lv_at hl 3 rfl) ?_
      refine lv_imul hx hb dX9_mends_25 ?_
      refine lv_iload_n hx hb dX9_mends_26 rfl (lv_at hl 1 rfl) ?_
      refine lv_iadd hx hb dX9_mends_27 ?_
      obtain ⟨hin, hm⟩ := gdE hm
      have hin := inbE hin
      refine gAldI C0 hw 1 rfl hin dX9_mends_28 ?_
      refine lv_iconst (v := -1) hx hb dX9_mends_29 (by decide) ?_
      refine lv_icmp_ne (tgt := 59) hx hb dX9_mends_30 (by decide) (fun hc => ?_) (fun hc => ?_)
      · have hm := ineg hc hm
        refine lv_iinc (v := x3 + (1 : Int32)) (lv' := [(3, .int (x3 + (1 : Int32))), (0, .ref h0), (1, .int x1), (2, .int x2)]) hx hb dX9_mends_59 hl (k := 3) rfl rfl (by decide) rfl (fun ls hl => ?_)
        refine lv_goto (tgt := 2) hx hb dX9_mends_62 (by decide) ?_
        exact hk2 _ _ _ _ hm _ _ _ hw (lv_sub hl [1, 2, 3, 0] rfl)
      · have hm := ipos hc hm
        refine lv_aload_n hx hb dX9_mends_33 rfl (lv_at hl 0 rfl) ?_
        refine gGet C0 hw flX9_40 0 rfl rfl dX9_mends_34 ?_
        refine lv_bipush (v := 8) hx hb dX9_mends_37 (by decide) ?_
        refine lv_iload_n hx hb dX9_mends_39 rfl (lv_at hl 3 rfl) ?_
        refine lv_imul hx hb dX9_mends_40 ?_
        refine lv_iload_n hx hb dX9_mends_41 rfl (lv_at hl 1 rfl) ?_
        refine lv_iadd hx hb dX9_mends_42 ?_
        refine lv_aload_n hx hb dX9_mends_43 rfl (lv_at hl 0 rfl) ?_
        refine lv_iload_n hx hb dX9_mends_44 rfl (lv_at hl 3 rfl) ?_
        refine lv_iload_n hx hb dX9_mends_45 rfl (lv_at hl 1 rfl) ?_
        obtain ⟨o46, ho46, hm⟩ := bindE hm
        refine gCalli (ws' := (W_m_mends g h0 h1 h2 h3 h4 h5 h6 h7 h8 h9 h10 h11 h12 h13 h14 h15 h16 h17 h18 h19 h20 h21 h22 h23 h24 h25 h26 h27 h28 h29 h30 v_courses v_wide v_hands v_jumpTold v_frosts v_gaps v_frostsNow v_notFrosts v_gapsNow v_fell v_fellAll v_sheepFirst v_sheepMany v_seens v_finding v_wall)) C0 hw (gRunV (As := [.int x3, .int x1]) (rest := [.int (((8 : Int32) * x3) + x1), .ref h1]) C0 hw lkX9_215 (c_m_isBorne l g H.size h0 h1 h2 h3 h4 h5 h6 h7 h8 h9 h10 h11 h12 h13 h14 h15 h16 h17 h18 h19 h20 h21 h22 h23 h24 h25 h26 h27 h28 h29 h30 v_courses v_wide v_hands v_jumpTold v_frosts v_gaps v_frostsNow v_notFrosts v_gapsNow v_fell v_fellAll v_sheepFirst v_sheepMany v_seens v_finding v_wall x3 x1 o46 ho46) ⟨rfl, rfl⟩ ⟨Nat.le_of_ble_eq_true rfl, Nat.le_of_ble_eq_true rfl⟩ [0, 1] (by decide) rfl 0 rfl rfl rfl hl.1 rfl (Nat.le_of_ble_eq_true rfl) dX9_mends_46) [0, 1] [] rfl rfl trivial [h0, h1] rfl rfl 2 rfl (by decide +kernel) (fun H locs hw => ?_)
        refine lv_if_eq (tgt := 56) hx hb dX9_mends_49 (by decide) (fun hc => ?_) (fun hc => ?_)
        · have hm := ipos hc hm
          refine lv_iconst (v := -1) hx hb dX9_mends_56 (by decide) ?_
          obtain ⟨hin, hm⟩ := gdE hm
          have hin := inbE hin
          refine gAstI (ws' := (W_m_mends g h0 h1 h2 h3 h4 h5 h6 h7 h8 h9 h10 h11 h12 h13 h14 h15 h16 h17 h18 h19 h20 h21 h22 h23 h24 h25 h26 h27 h28 h29 h30 v_courses v_wide v_hands v_jumpTold v_frosts v_gaps v_frostsNow v_notFrosts v_gapsNow v_fell v_fellAll v_sheepFirst v_sheepMany v_seens v_finding (upd v_wall (((8 : Int32) * x3) + x1).toNatClampNeg (-1 : Int32)))) C0 hw 1 rfl hin rfl dX9_mends_57 (fun H locs hw => ?_)
          have hm := Option.some.inj hm
          subst hm
          exact gRetV C0 hw dX9_mends_58
        · have hm := ineg hc hm
          refine lv_iload_n hx hb dX9_mends_52 rfl (lv_at hl 2 rfl) ?_
          refine lv_goto (tgt := 57) hx hb dX9_mends_53 (by decide) ?_
          obtain ⟨hin, hm⟩ := gdE hm
          have hin := inbE hin
          refine gAstI (ws' := (W_m_mends g h0 h1 h2 h3 h4 h5 h6 h7 h8 h9 h10 h11 h12 h13 h14 h15 h16 h17 h18 h19 h20 h21 h22 h23 h24 h25 h26 h27 h28 h29 h30 v_courses v_wide v_hands v_jumpTold v_frosts v_gaps v_frostsNow v_notFrosts v_gapsNow v_fell v_fellAll v_sheepFirst v_sheepMany v_seens v_finding (upd v_wall (((8 : Int32) * x3) + x1).toNatClampNeg x2))) C0 hw 1 rfl hin rfl dX9_mends_57 (fun H locs hw => ?_)
          have hm := Option.some.inj hm
          subst hm
          exact gRetV C0 hw dX9_mends_58
set_option maxHeartbeats 1000000 in
set_option maxRecDepth 100000 in
theorem l_m_mends_N2 {p : Program} {l : Launch} {e : Env} {s : State} {m : MethodId} {args : Array Value} {below : List Frame} {meth : Method} {c : Code} {A : Nat → Prop} {g : gG} {h0 h1 h2 h3 h4 h5 h6 h7 h8 h9 h10 h11 h12 h13 h14 h15 h16 h17 h18 h19 h20 h21 h22 h23 h24 h25 h26 h27 h28 h29 h30 : Nat} {v_courses : Int32} {v_wide : Int32} {v_hands : Int32} {v_jumpTold : Int32} {v_frosts : Int32} {v_gaps : Int32} {v_frostsNow : Int32} {v_notFrosts : Int32} {v_gapsNow : Int32} {v_fell : Int32} {v_fellAll : Int32} {v_sheepFirst : Int32} {v_sheepMany : Int32} {v_seens : Int32} {v_finding : Int32} {r : (Nat → Int32)} (C0 : gX p s m args meth c cX9_mends 4 none RX9 g A) : ∀ n : Nat, ∀ (v_wall : Nat → Int32) (x1 : Int32) (x2 : Int32) (x3 : Int32), iter (fun _ _ _ _ => none) (f_m_mends_N2 v_courses v_wide) n v_wall x1 x2 x3 = some r → ∀ (H : Heap) (locs : List Loc) (ls : Array Slot), gW g A s (W_m_mends g h0 h1 h2 h3 h4 h5 h6 h7 h8 h9 h10 h11 h12 h13 h14 h15 h16 h17 h18 h19 h20 h21 h22 h23 h24 h25 h26 h27 h28 h29 h30 v_courses v_wide v_hands v_jumpTold v_frosts v_gaps v_frostsNow v_notFrosts v_gapsNow v_fell v_fellAll v_sheepFirst v_sheepMany v_seens v_finding v_wall) H locs → lv_has ls 4 [(0, .ref h0), (1, .int x1), (2, .int x2), (3, .int x3)] → W p l e rm_m_mends s m args below meth c H locs 0 0 (gQv below args s A g (W_m_mends g h0 h1 h2 h3 h4 h5 h6 h7 h8 h9 h10 h11 h12 h13 h14 h15 h16 h17 h18 h19 h20 h21 h22 h23 h24 h25 h26 h27 h28 h29 h30 v_courses v_wide v_hands v_jumpTold v_frosts v_gaps v_frostsNow v_notFrosts v_gapsNow v_fell v_fellAll v_sheepFirst v_sheepMany v_seens v_finding r)) (F0 m 2 ls []) := by
  intro n
  induction n with
  | zero =>
    intro v_wall x1 x2 x3 hm
    cases hm
  | succ n ih =>
    exact n_m_mends_N2 C0  ih
set_option maxHeartbeats 1000000 in
set_option maxRecDepth 100000 in
theorem c_m_mends (l : Launch) (g : gG) (sz : Nat) (h0 h1 h2 h3 h4 h5 h6 h7 h8 h9 h10 h11 h12 h13 h14 h15 h16 h17 h18 h19 h20 h21 h22 h23 h24 h25 h26 h27 h28 h29 h30 : Nat) (v_courses : Int32) (v_wide : Int32) (v_hands : Int32) (v_jumpTold : Int32) (v_frosts : Int32) (v_gaps : Int32) (v_frostsNow : Int32) (v_notFrosts : Int32) (v_gapsNow : Int32) (v_fell : Int32) (v_fellAll : Int32) (v_sheepFirst : Int32) (v_sheepMany : Int32) (v_seens : Int32) (v_finding : Int32) (v_wall : Nat → Int32) (a0 : Int32) (a1 : Int32) (r : (Nat → Int32)) (hm : f_m_mends v_courses v_wide v_wall a0 a1 = some r) : gMv l yX9_mends cX9_mends 4 none rm_m_mends g sz [.ref h0, .int a0, .int a1] (W_m_mends g h0 h1 h2 h3 h4 h5 h6 h7 h8 h9 h10 h11 h12 h13 h14 h15 h16 h17 h18 h19 h20 h21 h22 h23 h24 h25 h26 h27 h28 h29 h30 v_courses v_wide v_hands v_jumpTold v_frosts v_gaps v_frostsNow v_notFrosts v_gapsNow v_fell v_fellAll v_sheepFirst v_sheepMany v_seens v_finding v_wall) (W_m_mends g h0 h1 h2 h3 h4 h5 h6 h7 h8 h9 h10 h11 h12 h13 h14 h15 h16 h17 h18 h19 h20 h21 h22 h23 h24 h25 h26 h27 h28 h29 h30 v_courses v_wide v_hands v_jumpTold v_frosts v_gaps v_frostsNow v_notFrosts v_gapsNow v_fell v_fellAll v_sheepFirst v_sheepMany v_seens v_finding r) := by
  unfold f_m_mends at hm
  refine gEnterV (by decide) (Nat.le_of_ble_eq_true rfl) (fun p e s m below meth c A C0 H locs hw ls hl => ?_)
  obtain ⟨hx, hb, hr, hml, hown, hts, hlocks, hK, hA⟩ := id C0
  have C0 : gX p s m [.ref h0, .int a0, .int a1].toArray meth c cX9_mends 4 none RX9 g A := C0
  have hl : lv_has ls 4 [(0, .ref h0), (1, .int a0), (2, .int a1)] := hl
  refine lv_iconst (v := 0) hx hb dX9_mends_0 (by decide) ?_
  refine lv_istore_n (lv' := [(3, .int (0 : Int32)), (0, .ref h0), (1, .int a0), (2, .int a1)]) hx hb dX9_mends_1 rfl hl (by decide) rfl (fun ls hl => ?_)
  exact l_m_mends_N2 C0  1000 _ _ _ _ hm _ _ _ hw (lv_sub hl [1, 2, 3, 0] rfl)

-- WallHandsModel.isThrough(II)Z
abbrev W_m_isThrough (g : gG) (h0 h1 h2 h3 h4 h5 h6 h7 h8 h9 h10 h11 h12 h13 h14 h15 h16 h17 h18 h19 h20 h21 h22 h23 h24 h25 h26 h27 h28 h29 h30 : Nat) (v_courses : Int32) (v_wide : Int32) (v_hands : Int32) (v_jumpTold : Int32) (v_frosts : Int32) (v_gaps : Int32) (v_frostsNow : Int32) (v_notFrosts : Int32) (v_gapsNow : Int32) (v_fell : Int32) (v_fellAll : Int32) (v_sheepFirst : Int32) (v_sheepMany : Int32) (v_seens : Int32) (v_finding : Int32) (v_moods : Nat → Int32) (v_wall : Nat → Int32) : va_W := [(h0, .inr (9, [.ref h3, .ref h4, .int v_courses, .int v_wide, .ref h5, .int v_hands, .ref h1, .ref h6, .int v_jumpTold, .int v_frosts, .ref h7, .ref h8, .int v_gaps, .ref h9, .ref h10, .ref h11, .ref h2, .int v_frostsNow, .ref h12, .ref h13, .int v_notFrosts, .int v_gapsNow, .ref h14, .int v_fell, .int v_fellAll, .ref h15, .ref h16, .ref h17, .ref h18, .ref h19, .ref h20, .ref h21, .int v_sheepFirst, .int v_sheepMany, .int v_seens, .ref h22, .ref h23, .ref h24, .ref h25, .ref h26, .ref h27, .ref h28, .ref h29, .ref h30, .int v_finding])), (h1, .inl (gI g, 9, .inl v_moods)), (h2, .inl (gI g, 40, .inl v_wall))]

abbrev rm_m_isThrough : Room := { frames := 1, cells := 0, slots := 0, locals := 21 }

set_option maxHeartbeats 1000000 in
set_option maxRecDepth 100000 in
theorem n_m_isThrough_N81 {p : Program} {l : Launch} {e : Env} {s : State} {m : MethodId} {args : Array Value} {below : List Frame} {meth : Method} {c : Code} {A : Nat → Prop} {g : gG} {h0 h1 h2 h3 h4 h5 h6 h7 h8 h9 h10 h11 h12 h13 h14 h15 h16 h17 h18 h19 h20 h21 h22 h23 h24 h25 h26 h27 h28 h29 h30 : Nat} {v_courses : Int32} {v_wide : Int32} {v_hands : Int32} {v_jumpTold : Int32} {v_frosts : Int32} {v_gaps : Int32} {v_frostsNow : Int32} {v_notFrosts : Int32} {v_gapsNow : Int32} {v_fell : Int32} {v_fellAll : Int32} {v_sheepFirst : Int32} {v_sheepMany : Int32} {v_seens : Int32} {v_finding : Int32} {v_moods : Nat → Int32} {v_wall : Nat → Int32} {k8 : Int32 → Int32 → Int32 → Int32 → Int32 → Option Int32} {r : Int32} (C0 : gX p s m args meth c cX9_isThrough 7 (some .boolean) RX9 g A) (hk8 : ∀ (x1 : Int32) (x2 : Int32) (x3 : Int32) (x4 : Int32) (x5 : Int32), k8 x1 x2 x3 x4 x5 = some r → ∀ (H : Heap) (locs : List Loc) (ls : Array Slot), gW g A s (W_m_isThrough g h0 h1 h2 h3 h4 h5 h6 h7 h8 h9 h10 h11 h12 h13 h14 h15 h16 h17 h18 h19 h20 h21 h22 h23 h24 h25 h26 h27 h28 h29 h30 v_courses v_wide v_hands v_jumpTold v_frosts v_gaps v_frostsNow v_notFrosts v_gapsNow v_fell v_fellAll v_sheepFirst v_sheepMany v_seens v_finding v_moods v_wall) H locs → lv_has ls 7 [(0, .ref h0), (1, .int x1), (2, .int x2), (3, .int x3), (4, .int x4), (5, .int x5)] → W p l e rm_m_isThrough s m args below meth c H locs 0 0 (gQi below args s A g r (W_m_isThrough g h0 h1 h2 h3 h4 h5 h6 h7 h8 h9 h10 h11 h12 h13 h14 h15 h16 h17 h18 h19 h20 h21 h22 h23 h24 h25 h26 h27 h28 h29 h30 v_courses v_wide v_hands v_jumpTold v_frosts v_gaps v_frostsNow v_notFrosts v_gapsNow v_fell v_fellAll v_sheepFirst v_sheepMany v_seens v_finding v_moods v_wall)) (F0 m 8 ls [])) : ∀ (x1 : Int32) (x2 : Int32) (x3 : Int32) (x5 : Int32), f_m_isThrough_N81 v_courses v_hands v_jumpTold v_moods v_wall k8 x1 x2 x3 x5 = some r → ∀ (H : Heap) (locs : List Loc) (ls : Array Slot), gW g A s (W_m_isThrough g h0 h1 h2 h3 h4 h5 h6 h7 h8 h9 h10 h11 h12 h13 h14 h15 h16 h17 h18 h19 h20 h21 h22 h23 h24 h25 h26 h27 h28 h29 h30 v_courses v_wide v_hands v_jumpTold v_frosts v_gaps v_frostsNow v_notFrosts v_gapsNow v_fell v_fellAll v_sheepFirst v_sheepMany v_seens v_finding v_moods v_wall) H locs → lv_has ls 7 [(0, .ref h0), (1, .int x1), (2, .int x2), (3, .int x3), (5, .int x5)] → W p l e rm_m_isThrough s m args below meth c H locs 0 0 (gQi below args s A g r (W_m_isThrough g h0 h1 h2 h3 h4 h5 h6 h7 h8 h9 h10 h11 h12 h13 h14 h15 h16 h17 h18 h19 h20 h21 h22 h23 h24 h25 h26 h27 h28 h29 h30 v_courses v_wide v_hands v_jumpTold v_frosts v_gaps v_frostsNow v_notFrosts v_gapsNow v_fell v_fellAll v_sheepFirst v_sheepMany v_seens v_finding v_moods v_wall)) (F0 m 81 ls []) := by
  intro x1 x2 x3 x5 hm H locs ls hw hl
  unfold f_m_isThrough_N81 at hm
  obtain ⟨hx, hb, hr, hml, hown, hts, hlocks, hK, hA⟩ := id C0
  refine lv_iconst (v := 1) hx hb dX9_isThrough_81 (by decide) ?_
  refine lv_goto (tgt := 86) hx hb dX9_isThrough_82 (by decide) ?_
  refine lv_istore (lv' := [(4, .int (1 : Int32)), (0, .ref h0), (1, .int x1), (2, .int x2), (3, .int x3), (5, .int x5)]) hx hb dX9_isThrough_86 hl (by decide) rfl (fun ls hl => ?_)
  refine lv_iinc (v := x5 + (1 : Int32)) (lv' := [(5, .int (x5 + (1 : Int32))), (4, .int (1 : Int32)), (0, .ref h0), (1, .int x1), (2, .int x2), (3, .int x3)]) hx hb dX9_isThrough_88 hl (k := 5) rfl rfl (by decide) rfl (fun ls hl => ?_)
  refine lv_goto (tgt := 8) hx hb dX9_isThrough_91 (by decide) ?_
  exact hk8 _ _ _ _ _ hm _ _ _ hw (lv_sub hl [2, 3, 4, 5, 1, 0] rfl)
set_option maxHeartbeats 1000000 in
set_option maxRecDepth 100000 in
theorem n_m_isThrough_N85 {p : Program} {l : Launch} {e : Env} {s : State} {m : MethodId} {args : Array Value} {below : List Frame} {meth : Method} {c : Code} {A : Nat → Prop} {g : gG} {h0 h1 h2 h3 h4 h5 h6 h7 h8 h9 h10 h11 h12 h13 h14 h15 h16 h17 h18 h19 h20 h21 h22 h23 h24 h25 h26 h27 h28 h29 h30 : Nat} {v_courses : Int32} {v_wide : Int32} {v_hands : Int32} {v_jumpTold : Int32} {v_frosts : Int32} {v_gaps : Int32} {v_frostsNow : Int32} {v_notFrosts : Int32} {v_gapsNow : Int32} {v_fell : Int32} {v_fellAll : Int32} {v_sheepFirst : Int32} {v_sheepMany : Int32} {v_seens : Int32} {v_finding : Int32} {v_moods : Nat → Int32} {v_wall : Nat → Int32} {k8 : Int32 → Int32 → Int32 → Int32 → Int32 → Option Int32} {r : Int32} (C0 : gX p s m args meth c cX9_isThrough 7 (some .boolean) RX9 g A) (hk8 : ∀ (x1 : Int32) (x2 : Int32) (x3 : Int32) (x4 : Int32) (x5 : Int32), k8 x1 x2 x3 x4 x5 = some r → ∀ (H : Heap) (locs : List Loc) (ls : Array Slot), gW g A s (W_m_isThrough g h0 h1 h2 h3 h4 h5 h6 h7 h8 h9 h10 h11 h12 h13 h14 h15 h16 h17 h18 h19 h20 h21 h22 h23 h24 h25 h26 h27 h28 h29 h30 v_courses v_wide v_hands v_jumpTold v_frosts v_gaps v_frostsNow v_notFrosts v_gapsNow v_fell v_fellAll v_sheepFirst v_sheepMany v_seens v_finding v_moods v_wall) H locs → lv_has ls 7 [(0, .ref h0), (1, .int x1), (2, .int x2), (3, .int x3), (4, .int x4), (5, .int x5)] → W p l e rm_m_isThrough s m args below meth c H locs 0 0 (gQi below args s A g r (W_m_isThrough g h0 h1 h2 h3 h4 h5 h6 h7 h8 h9 h10 h11 h12 h13 h14 h15 h16 h17 h18 h19 h20 h21 h22 h23 h24 h25 h26 h27 h28 h29 h30 v_courses v_wide v_hands v_jumpTold v_frosts v_gaps v_frostsNow v_notFrosts v_gapsNow v_fell v_fellAll v_sheepFirst v_sheepMany v_seens v_finding v_moods v_wall)) (F0 m 8 ls [])) : ∀ (x1 : Int32) (x2 : Int32) (x3 : Int32) (x5 : Int32), f_m_isThrough_N85 v_courses v_hands v_jumpTold v_moods v_wall k8 x1 x2 x3 x5 = some r → ∀ (H : Heap) (locs : List Loc) (ls : Array Slot), gW g A s (W_m_isThrough g h0 h1 h2 h3 h4 h5 h6 h7 h8 h9 h10 h11 h12 h13 h14 h15 h16 h17 h18 h19 h20 h21 h22 h23 h24 h25 h26 h27 h28 h29 h30 v_courses v_wide v_hands v_jumpTold v_frosts v_gaps v_frostsNow v_notFrosts v_gapsNow v_fell v_fellAll v_sheepFirst v_sheepMany v_seens v_finding v_moods v_wall) H locs → lv_has ls 7 [(0, .ref h0), (1, .int x1), (2, .int x2), (3, .int x3), (5, .int x5)] → W p l e rm_m_isThrough s m args below meth c H locs 0 0 (gQi below args s A g r (W_m_isThrough g h0 h1 h2 h3 h4 h5 h6 h7 h8 h9 h10 h11 h12 h13 h14 h15 h16 h17 h18 h19 h20 h21 h22 h23 h24 h25 h26 h27 h28 h29 h30 v_courses v_wide v_hands v_jumpTold v_frosts v_gaps v_frostsNow v_notFrosts v_gapsNow v_fell v_fellAll v_sheepFirst v_sheepMany v_seens v_finding v_moods v_wall)) (F0 m 85 ls []) := by
  intro x1 x2 x3 x5 hm H locs ls hw hl
  unfold f_m_isThrough_N85 at hm
  obtain ⟨hx, hb, hr, hml, hown, hts, hlocks, hK, hA⟩ := id C0
  refine lv_iconst (v := 0) hx hb dX9_isThrough_85 (by decide) ?_
  refine lv_istore (lv' := [(4, .int (0 : Int32)), (0, .ref h0), (1, .int x1), (2, .int x2), (3, .int x3), (5, .int x5)]) hx hb dX9_isThrough_86 hl (by decide) rfl (fun ls hl => ?_)
  refine lv_iinc (v := x5 + (1 : Int32)) (lv' := [(5, .int (x5 + (1 : Int32))), (4, .int (0 : Int32)), (0, .ref h0), (1, .int x1), (2, .int x2), (3, .int x3)]) hx hb dX9_isThrough_88 hl (k := 5) rfl rfl (by decide) rfl (fun ls hl => ?_)
  refine lv_goto (tgt := 8) hx hb dX9_isThrough_91 (by decide) ?_
  exact hk8 _ _ _ _ _ hm _ _ _ hw (lv_sub hl [2, 3, 4, 5, 1, 0] rfl)
set_option maxHeartbeats 1000000 in
set_option maxRecDepth 100000 in
theorem n_m_isThrough_N49 {p : Program} {l : Launch} {e : Env} {s : State} {m : MethodId} {args : Array Value} {below : List Frame} {meth : Method} {c : Code} {A : Nat → Prop} {g : gG} {h0 h1 h2 h3 h4 h5 h6 h7 h8 h9 h10 h11 h12 h13 h14 h15 h16 h17 h18 h19 h20 h21 h22 h23 h24 h25 h26 h27 h28 h29 h30 : Nat} {v_courses : Int32} {v_wide : Int32} {v_hands : Int32} {v_jumpTold : Int32} {v_frosts : Int32} {v_gaps : Int32} {v_frostsNow : Int32} {v_notFrosts : Int32} {v_gapsNow : Int32} {v_fell : Int32} {v_fellAll : Int32} {v_sheepFirst : Int32} {v_sheepMany : Int32} {v_seens : Int32} {v_finding : Int32} {v_moods : Nat → Int32} {v_wall : Nat → Int32} {k8 : Int32 → Int32 → Int32 → Int32 → Int32 → Option Int32} {r : Int32} (C0 : gX p s m args meth c cX9_isThrough 7 (some .boolean) RX9 g A) (hk8 : ∀ (x1 : Int32) (x2 : Int32) (x3 : Int32) (x4 : Int32) (x5 : Int32), k8 x1 x2 x3 x4 x5 = some r → ∀ (H : Heap) (locs : List Loc) (ls : Array Slot), gW g A s (W_m_isThrough g h0 h1 h2 h3 h4 h5 h6 h7 h8 h9 h10 h11 h12 h13 h14 h15 h16 h17 h18 h19 h20 h21 h22 h23 h24 h25 h26 h27 h28 h29 h30 v_courses v_wide v_hands v_jumpTold v_frosts v_gaps v_frostsNow v_notFrosts v_gapsNow v_fell v_fellAll v_sheepFirst v_sheepMany v_seens v_finding v_moods v_wall) H locs → lv_has ls 7 [(0, .ref h0), (1, .int x1), (2, .int x2), (3, .int x3), (4, .int x4), (5, .int x5)] → W p l e rm_m_isThrough s m args below meth c H locs 0 0 (gQi below args s A g r (W_m_isThrough g h0 h1 h2 h3 h4 h5 h6 h7 h8 h9 h10 h11 h12 h13 h14 h15 h16 h17 h18 h19 h20 h21 h22 h23 h24 h25 h26 h27 h28 h29 h30 v_courses v_wide v_hands v_jumpTold v_frosts v_gaps v_frostsNow v_notFrosts v_gapsNow v_fell v_fellAll v_sheepFirst v_sheepMany v_seens v_finding v_moods v_wall)) (F0 m 8 ls [])) : ∀ (x1 : Int32) (x2 : Int32) (x4 : Int32) (x5 : Int32) (x6 : Int32) (y0 : Int32), f_m_isThrough_N49 v_courses v_hands v_jumpTold v_moods v_wall k8 x1 x2 x4 x5 x6 y0 = some r → ∀ (H : Heap) (locs : List Loc) (ls : Array Slot), gW g A s (W_m_isThrough g h0 h1 h2 h3 h4 h5 h6 h7 h8 h9 h10 h11 h12 h13 h14 h15 h16 h17 h18 h19 h20 h21 h22 h23 h24 h25 h26 h27 h28 h29 h30 v_courses v_wide v_hands v_jumpTold v_frosts v_gaps v_frostsNow v_notFrosts v_gapsNow v_fell v_fellAll v_sheepFirst v_sheepMany v_seens v_finding v_moods v_wall) H locs → lv_has ls 7 [(0, .ref h0), (1, .int x1), (2, .int x2), (4, .int x4), (5, .int x5), (6, .int x6)] → W p l e rm_m_isThrough s m args below meth c H locs 0 0 (gQi below args s A g r (W_m_isThrough g h0 h1 h2 h3 h4 h5 h6 h7 h8 h9 h10 h11 h12 h13 h14 h15 h16 h17 h18 h19 h20 h21 h22 h23 h24 h25 h26 h27 h28 h29 h30 v_courses v_wide v_hands v_jumpTold v_frosts v_gaps v_frostsNow v_notFrosts v_gapsNow v_fell v_fellAll v_sheepFirst v_sheepMany v_seens v_finding v_moods v_wall)) (F0 m 49 ls [.int y0]) := by
  intro x1 x2 x4 x5 x6 y0 hm H locs ls hw hl
  unfold f_m_isThrough_N49 at hm
  obtain ⟨hx, hb, hr, hml, hown, hts, hlocks, hK, hA⟩ := id C0
  refine lv_istore_n (lv' := [(3, .int y0), (0, .ref h0), (1, .int x1), (2, .int x2), (4, .int x4), (5, .int x5), (6, .int x6)]) hx hb dX9_isThrough_49 rfl hl (by decide) rfl (fun ls hl => ?_)
  refine lv_iload hx hb dX9_isThrough_50 (lv_at hl 4 rfl) ?_
  refine lv_if_ne (tgt := 81) hx hb dX9_isThrough_52 (by decide) (fun hc => ?_) (fun hc => ?_)
  · have hm := ineg hc hm
    exact n_m_isThrough_N81 C0 hk8 _ _ _ _ hm _ _ _ hw (lv_sub hl [1, 2, 3, 0, 5] rfl)
  · have hm := ipos hc hm
    refine lv_iload hx hb dX9_isThrough_55 (lv_at hl 6 rfl) ?_
    refine lv_iconst (v := -1) hx hb dX9_isThrough_57 (by decide) ?_
    refine lv_icmp_eq (tgt := 85) hx hb dX9_isThrough_58 (by decide) (fun hc => ?_) (fun hc => ?_)
    · have hm := ipos hc hm
      exact n_m_isThrough_N85 C0 hk8 _ _ _ _ hm _ _ _ hw (lv_sub hl [1, 2, 3, 0, 5] rfl)
    · have hm := ineg hc hm
      refine lv_iload hx hb dX9_isThrough_61 (lv_at hl 6 rfl) ?_
      refine lv_aload_n hx hb dX9_isThrough_63 rfl (lv_at hl 1 rfl) ?_
      refine gGet C0 hw flX9_135 0 rfl rfl dX9_isThrough_64 ?_
      refine lv_icmp_ge (tgt := 85) hx hb dX9_isThrough_67 (by decide) (fun hc => ?_) (fun hc => ?_)
      · have hm := ipos hc hm
        exact n_m_isThrough_N85 C0 hk8 _ _ _ _ hm _ _ _ hw (lv_sub hl [1, 2, 3, 0, 5] rfl)
      · have hm := ineg hc hm
        refine lv_aload_n hx hb dX9_isThrough_70 rfl (lv_at hl 1 rfl) ?_
        refine gGet C0 hw flX9_19 0 rfl rfl dX9_isThrough_71 ?_
        refine lv_iload hx hb dX9_isThrough_74 (lv_at hl 6 rfl) ?_
        obtain ⟨hin, hm⟩ := gdE hm
        have hin := inbE hin
        refine gAldI C0 hw 1 rfl hin dX9_isThrough_76 ?_
        refine lv_iconst (v := 1) hx hb dX9_isThrough_77 (by decide) ?_
        refine lv_icmp_ne (tgt := 85) hx hb dX9_isThrough_78 (by decide) (fun hc => ?_) (fun hc => ?_)
        · have hm := ineg hc hm
          exact n_m_isThrough_N85 C0 hk8 _ _ _ _ hm _ _ _ hw (lv_sub hl [1, 2, 3, 0, 5] rfl)
        · have hm := ipos hc hm
          exact n_m_isThrough_N81 C0 hk8 _ _ _ _ hm _ _ _ hw (lv_sub hl [1, 2, 3, 0, 5] rfl)
set_option maxHeartbeats 1000000 in
set_option maxRecDepth 100000 in
theorem n_m_isThrough_N44 {p : Program} {l : Launch} {e : Env} {s : State} {m : MethodId} {args : Array Value} {below : List Frame} {meth : Method} {c : Code} {A : Nat → Prop} {g : gG} {h0 h1 h2 h3 h4 h5 h6 h7 h8 h9 h10 h11 h12 h13 h14 h15 h16 h17 h18 h19 h20 h21 h22 h23 h24 h25 h26 h27 h28 h29 h30 : Nat} {v_courses : Int32} {v_wide : Int32} {v_hands : Int32} {v_jumpTold : Int32} {v_frosts : Int32} {v_gaps : Int32} {v_frostsNow : Int32} {v_notFrosts : Int32} {v_gapsNow : Int32} {v_fell : Int32} {v_fellAll : Int32} {v_sheepFirst : Int32} {v_sheepMany : Int32} {v_seens : Int32} {v_finding : Int32} {v_moods : Nat → Int32} {v_wall : Nat → Int32} {k8 : Int32 → Int32 → Int32 → Int32 → Int32 → Option Int32} {r : Int32} (C0 : gX p s m args meth c cX9_isThrough 7 (some .boolean) RX9 g A) (hk8 : ∀ (x1 : Int32) (x2 : Int32) (x3 : Int32) (x4 : Int32) (x5 : Int32), k8 x1 x2 x3 x4 x5 = some r → ∀ (H : Heap) (locs : List Loc) (ls : Array Slot), gW g A s (W_m_isThrough g h0 h1 h2 h3 h4 h5 h6 h7 h8 h9 h10 h11 h12 h13 h14 h15 h16 h17 h18 h19 h20 h21 h22 h23 h24 h25 h26 h27 h28 h29 h30 v_courses v_wide v_hands v_jumpTold v_frosts v_gaps v_frostsNow v_notFrosts v_gapsNow v_fell v_fellAll v_sheepFirst v_sheepMany v_seens v_finding v_moods v_wall) H locs → lv_has ls 7 [(0, .ref h0), (1, .int x1), (2, .int x2), (3, .int x3), (4, .int x4), (5, .int x5)] → W p l e rm_m_isThrough s m args below meth c H locs 0 0 (gQi below args s A g r (W_m_isThrough g h0 h1 h2 h3 h4 h5 h6 h7 h8 h9 h10 h11 h12 h13 h14 h15 h16 h17 h18 h19 h20 h21 h22 h23 h24 h25 h26 h27 h28 h29 h30 v_courses v_wide v_hands v_jumpTold v_frosts v_gaps v_frostsNow v_notFrosts v_gapsNow v_fell v_fellAll v_sheepFirst v_sheepMany v_seens v_finding v_moods v_wall)) (F0 m 8 ls [])) : ∀ (x1 : Int32) (x2 : Int32) (x4 : Int32) (x5 : Int32) (x6 : Int32), f_m_isThrough_N44 v_courses v_hands v_jumpTold v_moods v_wall k8 x1 x2 x4 x5 x6 = some r → ∀ (H : Heap) (locs : List Loc) (ls : Array Slot), gW g A s (W_m_isThrough g h0 h1 h2 h3 h4 h5 h6 h7 h8 h9 h10 h11 h12 h13 h14 h15 h16 h17 h18 h19 h20 h21 h22 h23 h24 h25 h26 h27 h28 h29 h30 v_courses v_wide v_hands v_jumpTold v_frosts v_gaps v_frostsNow v_notFrosts v_gapsNow v_fell v_fellAll v_sheepFirst v_sheepMany v_seens v_finding v_moods v_wall) H locs → lv_has ls 7 [(0, .ref h0), (1, .int x1), (2, .int x2), (4, .int x4), (5, .int x5), (6, .int x6)] → W p l e rm_m_isThrough s m args below meth c H locs 0 0 (gQi below args s A g r (W_m_isThrough g h0 h1 h2 h3 h4 h5 h6 h7 h8 h9 h10 h11 h12 h13 h14 h15 h16 h17 h18 h19 h20 h21 h22 h23 h24 h25 h26 h27 h28 h29 h30 v_courses v_wide v_hands v_jumpTold v_frosts v_gaps v_frostsNow v_notFrosts v_gapsNow v_fell v_fellAll v_sheepFirst v_sheepMany v_seens v_finding v_moods v_wall)) (F0 m 44 ls []) := by
  intro x1 x2 x4 x5 x6 hm H locs ls hw hl
  unfold f_m_isThrough_N44 at hm
  obtain ⟨hx, hb, hr, hml, hown, hts, hlocks, hK, hA⟩ := id C0
  refine lv_iconst (v := 1) hx hb dX9_isThrough_44 (by decide) ?_
  refine lv_goto (tgt := 49) hx hb dX9_isThrough_45 (by decide) ?_
  exact n_m_isThrough_N49 C0 hk8 _ _ _ _ _ _ hm _ _ _ hw (lv_sub hl [0, 1, 2, 3, 4, 5] rfl)
set_option maxHeartbeats 1000000 in
set_option maxRecDepth 100000 in
theorem n_m_isThrough_N8 {p : Program} {l : Launch} {e : Env} {s : State} {m : MethodId} {args : Array Value} {below : List Frame} {meth : Method} {c : Code} {A : Nat → Prop} {g : gG} {h0 h1 h2 h3 h4 h5 h6 h7 h8 h9 h10 h11 h12 h13 h14 h15 h16 h17 h18 h19 h20 h21 h22 h23 h24 h25 h26 h27 h28 h29 h30 : Nat} {v_courses : Int32} {v_wide : Int32} {v_hands : Int32} {v_jumpTold : Int32} {v_frosts : Int32} {v_gaps : Int32} {v_frostsNow : Int32} {v_notFrosts : Int32} {v_gapsNow : Int32} {v_fell : Int32} {v_fellAll : Int32} {v_sheepFirst : Int32} {v_sheepMany : Int32} {v_seens : Int32} {v_finding : Int32} {v_moods : Nat → Int32} {v_wall : Nat → Int32} {k8 : Int32 → Int32 → Int32 → Int32 → Int32 → Option Int32} {r : Int32} (C0 : gX p s m args meth c cX9_isThrough 7 (some .boolean) RX9 g A) (hk8 : ∀ (x1 : Int32) (x2 : Int32) (x3 : Int32) (x4 : Int32) (x5 : Int32), k8 x1 x2 x3 x4 x5 = some r → ∀ (H : Heap) (locs : List Loc) (ls : Array Slot), gW g A s (W_m_isThrough g h0 h1 h2 h3 h4 h5 h6 h7 h8 h9 h10 h11 h12 h13 h14 h15 h16 h17 h18 h19 h20 h21 h22 h23 h24 h25 h26 h27 h28 h29 h30 v_courses v_wide v_hands v_jumpTold v_frosts v_gaps v_frostsNow v_notFrosts v_gapsNow v_fell v_fellAll v_sheepFirst v_sheepMany v_seens v_finding v_moods v_wall) H locs → lv_has ls 7 [(0, .ref h0), (1, .int x1), (2, .int x2), (3, .int x3), (4, .int x4), (5, .int x5)] → W p l e rm_m_isThrough s m args below meth c H locs 0 0 (gQi below args s A g r (W_m_isThrough g h0 h1 h2 h3 h4 h5 h6 h7 h8 h9 h10 h11 h12 h13 h14 h15 h16 h17 h18 h19 h20 h21 h22 h23 h24 h25 h26 h27 h28 h29 h30 v_courses v_wide v_hands v_jumpTold v_frosts v_gaps v_frostsNow v_notFrosts v_gapsNow v_fell v_fellAll v_sheepFirst v_sheepMany v_seens v_finding v_moods v_wall)) (F0 m 8 ls [])) : ∀ (x1 : Int32) (x2 : Int32) (x3 : Int32) (x4 : Int32) (x5 : Int32), f_m_isThrough_N8 v_courses v_hands v_jumpTold v_moods v_wall k8 x1 x2 x3 x4 x5 = some r → ∀ (H : Heap) (locs : List Loc) (ls : Array Slot), gW g A s (W_m_isThrough g h0 h1 h2 h3 h4 h5 h6 h7 h8 h9 h10 h11 h12 h13 h14 h15 h16 h17 h18 h19 h20 h21 h22 h23 h24 h25 h26 h27 h28 h29 h30 v_courses v_wide v_hands v_jumpTold v_frosts v_gaps v_frostsNow v_notFrosts v_gapsNow v_fell v_fellAll v_sheepFirst v_sheepMany v_seens v_finding v_moods v_wall) H locs → lv_has ls 7 [(0, .ref h0), (1, .int x1), (2, .int x2), (3, .int x3), (4, .int x4), (5, .int x5)] → W p l e rm_m_isThrough s m args below meth c H locs 0 0 (gQi below args s A g r (W_m_isThrough g h0 h1 h2 h3 h4 h5 h6 h7 h8 h9 h10 h11 h12 h13 h14 h15 h16 h17 h18 h19 h20 h21 h22 h23 h24 h25 h26 h27 h28 h29 h30 v_courses v_wide v_hands v_jumpTold v_frosts v_gaps v_frostsNow v_notFrosts v_gapsNow v_fell v_fellAll v_sheepFirst v_sheepMany v_seens v_finding v_moods v_wall)) (F0 m 8 ls []) := by
  intro x1 x2 x3 x4 x5 hm H locs ls hw hl
  unfold f_m_isThrough_N8 at hm
  obtain ⟨hx, hb, hr, hml, hown, hts, hlocks, hK, hA⟩ := id C0
  refine lv_iload hx hb dX9_isThrough_8 (lv_at hl 5 rfl) ?_
  refine lv_aload_n hx hb dX9_isThrough_10 rfl (lv_at hl 0 rfl) ?_
  refine gGet C0 hw flX9_118 0 rfl rfl dX9_isThrough_11 ?_
  refine lv_icmp_ge (tgt := 94) hx hb dX9_isThrough_14 (by decide) (fun hc => ?_) (fun hc => ?_)
  · have hm := ipos hc hm
    refine lv_iload hx hb dX9_isThrough_94 (lv_at hl 4 rfl) ?_
    refine lv_if_ne (tgt := 123) hx hb dX9_isThrough_96 (by decide) (fun hc => ?_) (fun hc => ?_)
    · have hm := ineg hc hm
      refine lv_iconst (v := 0) hx hb dX9_isThrough_123 (by decide) ?_
      have hm := Option.some.inj hm
      subst hm
      exact gRetZ (v := (0 : Int32)) C0 hw rfl dX9_isThrough_124
    · have hm := ipos hc hm
      refine lv_iload_n hx hb dX9_isThrough_99 rfl (lv_at hl 2 rfl) ?_
      refine lv_aload_n hx hb dX9_isThrough_100 rfl (lv_at hl 0 rfl) ?_
      refine gGet C0 hw flX9_101 0 rfl rfl dX9_isThrough_101 ?_
      refine lv_icmp_lt (tgt := 119) hx hb dX9_isThrough_104 (by decide) (fun hc => ?_) (fun hc => ?_)
      · have hm := ipos hc hm
        refine lv_iconst (v := 1) hx hb dX9_isThrough_119 (by decide) ?_
        refine lv_goto (tgt := 124) hx hb dX9_isThrough_120 (by decide) ?_
        have hm := Option.some.inj hm
        subst hm
        exact gRetZ (v := (1 : Int32)) C0 hw rfl dX9_isThrough_124
      · have hm := ineg hc hm
        refine lv_iload_n hx hb dX9_isThrough_107 rfl (lv_at hl 2 rfl) ?_
        refine lv_aload_n hx hb dX9_isThrough_108 rfl (lv_at hl 0 rfl) ?_
        refine gGet C0 hw flX9_101 0 rfl rfl dX9_isThrough_109 ?_
        refine lv_icmp_ne (tgt := 123) hx hb dX9_isThrough_112 (by decide) (fun hc => ?_) (fun hc => ?_)
        · have hm := ineg hc hm
          refine lv_iconst (v := 0) hx hb dX9_isThrough_123 (by decide) ?_
          have hm := Option.some.inj hm
          subst hm
          exact gRetZ (v := (0 : Int32)) C0 hw rfl dX9_isThrough_124
        · have hm := ipos hc hm
          refine lv_iload_n hx hb dX9_isThrough_115 rfl (lv_at hl 3 rfl) ?_
          refine lv_if_eq (tgt := 123) hx hb dX9_isThrough_116 (by decide) (fun hc => ?_) (fun hc => ?_)
          · have hm := ipos hc hm
            refine lv_iconst (v := 0) hx hb dX9_isThrough_123 (by decide) ?_
            have hm := Option.some.inj hm
            subst hm
            exact gRetZ (v := (0 : Int32)) C0 hw rfl dX9_isThrough_124
          · have hm := ineg hc hm
            refine lv_iconst (v := 1) hx hb dX9_isThrough_119 (by decide) ?_
            refine lv_goto (tgt := 124) hx hb dX9_isThrough_120 (by decide) ?_
            have hm := Option.some.inj hm
            subst hm
            exact gRetZ (v := (1 : Int32)) C0 hw rfl dX9_isThrough_124
  · have hm := ineg hc hm
    refine lv_aload_n hx hb dX9_isThrough_17 rfl (lv_at hl 0 rfl) ?_
    refine gGet C0 hw flX9_40 0 rfl rfl dX9_isThrough_18 ?_
    refine lv_bipush (v := 8) hx hb dX9_isThrough_21 (by decide) ?_
    refine lv_iload hx hb dX9_isThrough_23 (lv_at hl 5 rfl) ?_
    refine lv_imul hx hb dX9_isThrough_25 ?_
    refine lv_iload_n hx hb dX9_isThrough_26 rfl (lv_at hl 1 rfl) ?_
    refine lv_iadd hx hb dX9_isThrough_27 ?_
    obtain ⟨hin, hm⟩ := gdE hm
    have hin := inbE hin
    refine gAldI C0 hw 2 rfl hin dX9_isThrough_28 ?_
    refine lv_istore (lv' := [(6, .int (v_wall (((8 : Int32) * x5) + x1).toNatClampNeg)), (0, .ref h0), (1, .int x1), (2, .int x2), (3, .int x3), (4, .int x4), (5, .int x5)]) hx hb dX9_isThrough_29 hl (by decide) rfl (fun ls hl => ?_)
    refine lv_iload_n hx hb dX9_isThrough_31 rfl (lv_at hl 4 rfl) ?_
    refine lv_if_ne (tgt := 44) hx hb dX9_isThrough_32 (by decide) (fun hc => ?_) (fun hc => ?_)
    · have hm := ineg hc hm
      exact n_m_isThrough_N44 C0 hk8 _ _ _ _ _ hm _ _ _ hw (lv_sub hl [1, 2, 3, 5, 6, 0] rfl)
    · have hm := ipos hc hm
      refine lv_aload_n hx hb dX9_isThrough_35 rfl (lv_at hl 1 rfl) ?_
      refine lv_iload hx hb dX9_isThrough_36 (lv_at hl 0 rfl) ?_
      obtain ⟨o38, ho38, hm⟩ := bindE hm
      refine gCalli (ws' := (W_m_isThrough g h0 h1 h2 h3 h4 h5 h6 h7 h8 h9 h10 h11 h12 h13 h14 h15 h16 h17 h18 h19 h20 h21 h22 h23 h24 h25 h26 h27 h28 h29 h30 v_courses v_wide v_hands v_jumpTold v_frosts v_gaps v_frostsNow v_notFrosts v_gapsNow v_fell v_fellAll v_sheepFirst v_sheepMany v_seens v_finding v_moods v_wall)) C0 hw (gRunV (As := [.int (v_wall (((8 : Int32) * x5) + x1).toNatClampNeg)]) (rest := []) C0 hw lkX9_197 (c_m_isLover l g H.size h0 h1 h3 h4 h5 h6 h7 h8 h9 h10 h11 h2 h12 h13 h14 h15 h16 h17 h18 h19 h20 h21 h22 h23 h24 h25 h26 h27 h28 h29 h30 v_courses v_wide v_hands v_jumpTold v_frosts v_gaps v_frostsNow v_notFrosts v_gapsNow v_fell v_fellAll v_sheepFirst v_sheepMany v_seens v_finding v_moods (v_wall (((8 : Int32) * x5) + x1).toNatClampNeg) o38 ho38) ⟨rfl, rfl⟩ ⟨Nat.le_of_ble_eq_true rfl, Nat.le_of_ble_eq_true rfl⟩ [0, 1] (by decide) rfl 0 rfl rfl rfl hl.1 rfl (Nat.le_of_ble_eq_true rfl) dX9_isThrough_38) [0, 1] [2] rfl rfl ⟨rfl, trivial⟩ [h0, h1, h2] rfl rfl 3 rfl (by decide +kernel) (fun H locs hw => ?_)
      refine lv_if_eq (tgt := 48) hx hb dX9_isThrough_41 (by decide) (fun hc => ?_) (fun hc => ?_)
      · have hm := ipos hc hm
        refine lv_iconst (v := 0) hx hb dX9_isThrough_48 (by decide) ?_
        exact n_m_isThrough_N49 C0 hk8 _ _ _ _ _ _ hm _ _ _ hw (lv_sub hl [1, 2, 3, 5, 6, 0] rfl)
      · have hm := ineg hc hm
        exact n_m_isThrough_N44 C0 hk8 _ _ _ _ _ hm _ _ _ hw (lv_sub hl [1, 2, 3, 5, 6, 0] rfl)
set_option maxHeartbeats 1000000 in
set_option maxRecDepth 100000 in
theorem l_m_isThrough_N8 {p : Program} {l : Launch} {e : Env} {s : State} {m : MethodId} {args : Array Value} {below : List Frame} {meth : Method} {c : Code} {A : Nat → Prop} {g : gG} {h0 h1 h2 h3 h4 h5 h6 h7 h8 h9 h10 h11 h12 h13 h14 h15 h16 h17 h18 h19 h20 h21 h22 h23 h24 h25 h26 h27 h28 h29 h30 : Nat} {v_courses : Int32} {v_wide : Int32} {v_hands : Int32} {v_jumpTold : Int32} {v_frosts : Int32} {v_gaps : Int32} {v_frostsNow : Int32} {v_notFrosts : Int32} {v_gapsNow : Int32} {v_fell : Int32} {v_fellAll : Int32} {v_sheepFirst : Int32} {v_sheepMany : Int32} {v_seens : Int32} {v_finding : Int32} {v_moods : Nat → Int32} {v_wall : Nat → Int32} {r : Int32} (C0 : gX p s m args meth c cX9_isThrough 7 (some .boolean) RX9 g A) : ∀ n : Nat, ∀ (x1 : Int32) (x2 : Int32) (x3 : Int32) (x4 : Int32) (x5 : Int32), iter (fun _ _ _ _ _ => none) (f_m_isThrough_N8 v_courses v_hands v_jumpTold v_moods v_wall) n x1 x2 x3 x4 x5 = some r → ∀ (H : Heap) (locs : List Loc) (ls : Array Slot), gW g A s (W_m_isThrough g h0 h1 h2 h3 h4 h5 h6 h7 h8 h9 h10 h11 h12 h13 h14 h15 h16 h17 h18 h19 h20 h21 h22 h23 h24 h25 h26 h27 h28 h29 h30 v_courses v_wide v_hands v_jumpTold v_frosts v_gaps v_frostsNow v_notFrosts v_gapsNow v_fell v_fellAll v_sheepFirst v_sheepMany v_seens v_finding v_moods v_wall) H locs → lv_has ls 7 [(0, .ref h0), (1, .int x1), (2, .int x2), (3, .int x3), (4, .int x4), (5, .int x5)] → W p l e rm_m_isThrough s m args below meth c H locs 0 0 (gQi below args s A g r (W_m_isThrough g h0 h1 h2 h3 h4 h5 h6 h7 h8 h9 h10 h11 h12 h13 h14 h15 h16 h17 h18 h19 h20 h21 h22 h23 h24 h25 h26 h27 h28 h29 h30 v_courses v_wide v_hands v_jumpTold v_frosts v_gaps v_frostsNow v_notFrosts v_gapsNow v_fell v_fellAll v_sheepFirst v_sheepMany v_seens v_finding v_moods v_wall)) (F0 m 8 ls []) := by
  intro n
  induction n with
  | zero =>
    intro x1 x2 x3 x4 x5 hm
    cases hm
  | succ n ih =>
    exact n_m_isThrough_N8 C0  ih
set_option maxHeartbeats 1000000 in
set_option maxRecDepth 100000 in
theorem c_m_isThrough (l : Launch) (g : gG) (sz : Nat) (h0 h1 h2 h3 h4 h5 h6 h7 h8 h9 h10 h11 h12 h13 h14 h15 h16 h17 h18 h19 h20 h21 h22 h23 h24 h25 h26 h27 h28 h29 h30 : Nat) (v_courses : Int32) (v_wide : Int32) (v_hands : Int32) (v_jumpTold : Int32) (v_frosts : Int32) (v_gaps : Int32) (v_frostsNow : Int32) (v_notFrosts : Int32) (v_gapsNow : Int32) (v_fell : Int32) (v_fellAll : Int32) (v_sheepFirst : Int32) (v_sheepMany : Int32) (v_seens : Int32) (v_finding : Int32) (v_moods : Nat → Int32) (v_wall : Nat → Int32) (a0 : Int32) (a1 : Int32) (r : Int32) (hm : f_m_isThrough v_courses v_hands v_jumpTold v_moods v_wall a0 a1 = some r) : gMi l yX9_isThrough cX9_isThrough 7 (some .boolean) rm_m_isThrough g sz [.ref h0, .int a0, .int a1] (W_m_isThrough g h0 h1 h2 h3 h4 h5 h6 h7 h8 h9 h10 h11 h12 h13 h14 h15 h16 h17 h18 h19 h20 h21 h22 h23 h24 h25 h26 h27 h28 h29 h30 v_courses v_wide v_hands v_jumpTold v_frosts v_gaps v_frostsNow v_notFrosts v_gapsNow v_fell v_fellAll v_sheepFirst v_sheepMany v_seens v_finding v_moods v_wall) r (W_m_isThrough g h0 h1 h2 h3 h4 h5 h6 h7 h8 h9 h10 h11 h12 h13 h14 h15 h16 h17 h18 h19 h20 h21 h22 h23 h24 h25 h26 h27 h28 h29 h30 v_courses v_wide v_hands v_jumpTold v_frosts v_gaps v_frostsNow v_notFrosts v_gapsNow v_fell v_fellAll v_sheepFirst v_sheepMany v_seens v_finding v_moods v_wall) := by
  unfold f_m_isThrough at hm
  refine gEnterI (by decide) (Nat.le_of_ble_eq_true rfl) (fun p e s m below meth c A C0 H locs hw ls hl => ?_)
  obtain ⟨hx, hb, hr, hml, hown, hts, hlocks, hK, hA⟩ := id C0
  have C0 : gX p s m [.ref h0, .int a0, .int a1].toArray meth c cX9_isThrough 7 (some .boolean) RX9 g A := C0
  have hl : lv_has ls 7 [(0, .ref h0), (1, .int a0), (2, .int a1)] := hl
  refine lv_iconst (v := 0) hx hb dX9_isThrough_0 (by decide) ?_
  refine lv_istore_n (lv' := [(3, .int (0 : Int32)), (0, .ref h0), (1, .int a0), (2, .int a1)]) hx hb dX9_isThrough_1 rfl hl (by decide) rfl (fun ls hl => ?_)
  refine lv_iconst (v := 0) hx hb dX9_isThrough_2 (by decide) ?_
  refine lv_istore (lv' := [(4, .int (0 : Int32)), (3, .int (0 : Int32)), (0, .ref h0), (1, .int a0), (2, .int a1)]) hx hb dX9_isThrough_3 hl (by decide) rfl (fun ls hl => ?_)
  refine lv_iconst (v := 0) hx hb dX9_isThrough_5 (by decide) ?_
  refine lv_istore (lv' := [(5, .int (0 : Int32)), (4, .int (0 : Int32)), (3, .int (0 : Int32)), (0, .ref h0), (1, .int a0), (2, .int a1)]) hx hb dX9_isThrough_6 hl (by decide) rfl (fun ls hl => ?_)
  exact l_m_isThrough_N8 C0  1000 _ _ _ _ _ hm _ _ _ hw (lv_sub hl [3, 4, 5, 2, 1, 0] rfl)

-- WallHandsModel.keeps(I)V
abbrev W_m_keeps (g : gG) (h0 h1 h2 h3 h4 h5 h6 h7 h8 h9 h10 h11 h12 h13 h14 h15 h16 h17 h18 h19 h20 h21 h22 h23 h24 h25 h26 h27 h28 h29 h30 : Nat) (v_courses : Int32) (v_wide : Int32) (v_hands : Int32) (v_jumpTold : Int32) (v_frosts : Int32) (v_gaps : Int32) (v_frostsNow : Int32) (v_notFrosts : Int32) (v_gapsNow : Int32) (v_fell : Int32) (v_fellAll : Int32) (v_sheepFirst : Int32) (v_sheepMany : Int32) (v_seens : Int32) (v_finding : Int32) (v_moods : Nat → Int32) (v_strongs : Nat → Int32) (v_wall : Nat → Int32) (v_holdNow : Nat → Int32) (v_handAt : Nat → Int32) (v_holdAt : Nat → Int32) (v_standAt : Nat → Int32) (v_highAt : Nat → Int32) (v_throughAt : Nat → Int32) : va_W := [(h0, .inr (9, [.ref h10, .ref h11, .int v_courses, .int v_wide, .ref h12, .int v_hands, .ref h1, .ref h2, .int v_jumpTold, .int v_frosts, .ref h13, .ref h14, .int v_gaps, .ref h15, .ref h16, .ref h17, .ref h3, .int v_frostsNow, .ref h18, .ref h19, .int v_notFrosts, .int v_gapsNow, .ref h4, .int v_fell, .int v_fellAll, .ref h20, .ref h5, .ref h6, .ref h21, .ref h7, .ref h8, .ref h9, .int v_sheepFirst, .int v_sheepMany, .int v_seens, .ref h22, .ref h23, .ref h24, .ref h25, .ref h26, .ref h27, .ref h28, .ref h29, .ref h30, .int v_finding])), (h1, .inl (gI g, 9, .inl v_moods)), (h2, .inl (gI g, 9, .inl v_strongs)), (h3, .inl (gI g, 40, .inl v_wall)), (h4, .inl (gI g, 40, .inl v_holdNow)), (h5, .inl (gI g, 800, .inl v_handAt)), (h6, .inl (gI g, 800, .inl v_holdAt)), (h7, .inl (gI g, 20, .inl v_standAt)), (h8, .inl (gI g, 160, .inl v_highAt)), (h9, .inl (gZ g, 160, .inl v_throughAt))]

abbrev rm_m_keeps : Room := { frames := 4, cells := 0, slots := 0, locals := 93 }

set_option maxHeartbeats 1000000 in
set_option maxRecDepth 100000 in
theorem n_m_keeps_N230 {p : Program} {l : Launch} {e : Env} {s : State} {m : MethodId} {args : Array Value} {below : List Frame} {meth : Method} {c : Code} {A : Nat → Prop} {g : gG} {h0 h1 h2 h3 h4 h5 h6 h7 h8 h9 h10 h11 h12 h13 h14 h15 h16 h17 h18 h19 h20 h21 h22 h23 h24 h25 h26 h27 h28 h29 h30 : Nat} {v_courses : Int32} {v_wide : Int32} {v_hands : Int32} {v_jumpTold : Int32} {v_frosts : Int32} {v_gaps : Int32} {v_frostsNow : Int32} {v_notFrosts : Int32} {v_gapsNow : Int32} {v_fell : Int32} {v_fellAll : Int32} {v_seens : Int32} {v_finding : Int32} {v_moods : Nat → Int32} {v_strongs : Nat → Int32} {v_wall : Nat → Int32} {r : (Int32 × Int32 × (Nat → Int32) × (Nat → Int32) × (Nat → Int32) × (Nat → Int32) × (Nat → Int32) × (Nat → Int32))} (C0 : gX p s m args meth c cX9_keeps 6 none RX9 g A) : ∀ (v_sheepFirst : Int32) (v_sheepMany : Int32) (v_holdNow : Nat → Int32) (v_handAt : Nat → Int32) (v_holdAt : Nat → Int32) (v_standAt : Nat → Int32) (v_highAt : Nat → Int32) (v_throughAt : Nat → Int32) (x2 : Int32) (y1 : Int32), f_m_keeps_N230 v_courses v_wide v_hands v_jumpTold v_moods v_strongs v_wall v_sheepFirst v_sheepMany v_holdNow v_handAt v_holdAt v_standAt v_highAt v_throughAt x2 y1 = some r → ∀ (H : Heap) (locs : List Loc) (ls : Array Slot), gW g A s (W_m_keeps g h0 h1 h2 h3 h4 h5 h6 h7 h8 h9 h10 h11 h12 h13 h14 h15 h16 h17 h18 h19 h20 h21 h22 h23 h24 h25 h26 h27 h28 h29 h30 v_courses v_wide v_hands v_jumpTold v_frosts v_gaps v_frostsNow v_notFrosts v_gapsNow v_fell v_fellAll v_sheepFirst v_sheepMany v_seens v_finding v_moods v_strongs v_wall v_holdNow v_handAt v_holdAt v_standAt v_highAt v_throughAt) H locs → lv_has ls 6 [(0, .ref h0), (2, .int x2)] → W p l e rm_m_keeps s m args below meth c H locs 0 0 (gQv below args s A g (W_m_keeps g h0 h1 h2 h3 h4 h5 h6 h7 h8 h9 h10 h11 h12 h13 h14 h15 h16 h17 h18 h19 h20 h21 h22 h23 h24 h25 h26 h27 h28 h29 h30 v_courses v_wide v_hands v_jumpTold v_frosts v_gaps v_frostsNow v_notFrosts v_gapsNow v_fell v_fellAll r.1 r.2.1 v_seens v_finding v_moods v_strongs v_wall r.2.2.1 r.2.2.2.1 r.2.2.2.2.1 r.2.2.2.2.2.1 r.2.2.2.2.2.2.1 r.2.2.2.2.2.2.2)) (F0 m 230 ls [.int y1, .ref h0]) := by
  intro v_sheepFirst v_sheepMany v_holdNow v_handAt v_holdAt v_standAt v_highAt v_throughAt x2 y1 hm H locs ls hw hl
  unfold f_m_keeps_N230 at hm
  obtain ⟨hx, hb, hr, hml, hown, hts, hlocks, hK, hA⟩ := id C0
  refine gPut (ws' := (W_m_keeps g h0 h1 h2 h3 h4 h5 h6 h7 h8 h9 h10 h11 h12 h13 h14 h15 h16 h17 h18 h19 h20 h21 h22 h23 h24 h25 h26 h27 h28 h29 h30 v_courses v_wide v_hands v_jumpTold v_frosts v_gaps v_frostsNow v_notFrosts v_gapsNow v_fell v_fellAll y1 v_sheepMany v_seens v_finding v_moods v_strongs v_wall v_holdNow v_handAt v_holdAt v_standAt v_highAt v_throughAt)) C0 hw fpX9_231 0 rfl rfl rfl (Nat.le_of_ble_eq_true rfl) rfl dX9_keeps_230 (fun H locs hw => ?_)
  refine lv_aload_n hx hb dX9_keeps_233 rfl (lv_at hl 0 rfl) ?_
  refine lv_dup hx hb dX9_keeps_234 rfl ?_
  refine gGet C0 hw flX9_234 0 rfl rfl dX9_keeps_235 ?_
  refine lv_iload_n hx hb dX9_keeps_238 rfl (lv_at hl 1 rfl) ?_
  refine lv_if_eq (tgt := 246) hx hb dX9_keeps_239 (by decide) (fun hc => ?_) (fun hc => ?_)
  · have hm := ipos hc hm
    refine lv_iconst (v := 0) hx hb dX9_keeps_246 (by decide) ?_
    refine lv_iadd hx hb dX9_keeps_247 ?_
    refine gPut (ws' := (W_m_keeps g h0 h1 h2 h3 h4 h5 h6 h7 h8 h9 h10 h11 h12 h13 h14 h15 h16 h17 h18 h19 h20 h21 h22 h23 h24 h25 h26 h27 h28 h29 h30 v_courses v_wide v_hands v_jumpTold v_frosts v_gaps v_frostsNow v_notFrosts v_gapsNow v_fell v_fellAll y1 (v_sheepMany + (0 : Int32)) v_seens v_finding v_moods v_strongs v_wall v_holdNow v_handAt v_holdAt v_standAt v_highAt v_throughAt)) C0 hw fpX9_234 0 rfl rfl rfl (Nat.le_of_ble_eq_true rfl) rfl dX9_keeps_248 (fun H locs hw => ?_)
    have hm := Option.some.inj hm
    subst hm
    exact gRetV C0 hw dX9_keeps_251
  · have hm := ineg hc hm
    refine lv_iconst (v := 1) hx hb dX9_keeps_242 (by decide) ?_
    refine lv_goto (tgt := 247) hx hb dX9_keeps_243 (by decide) ?_
    refine lv_iadd hx hb dX9_keeps_247 ?_
    refine gPut (ws' := (W_m_keeps g h0 h1 h2 h3 h4 h5 h6 h7 h8 h9 h10 h11 h12 h13 h14 h15 h16 h17 h18 h19 h20 h21 h22 h23 h24 h25 h26 h27 h28 h29 h30 v_courses v_wide v_hands v_jumpTold v_frosts v_gaps v_frostsNow v_notFrosts v_gapsNow v_fell v_fellAll y1 (v_sheepMany + (1 : Int32)) v_seens v_finding v_moods v_strongs v_wall v_holdNow v_handAt v_holdAt v_standAt v_highAt v_throughAt)) C0 hw fpX9_234 0 rfl rfl rfl (Nat.le_of_ble_eq_true rfl) rfl dX9_keeps_248 (fun H locs hw => ?_)
    have hm := Option.some.inj hm
    subst hm
    exact gRetV C0 hw dX9_keeps_251
set_option maxHeartbeats 1000000 in
set_option maxRecDepth 100000 in
theorem n_m_keeps_N226 {p : Program} {l : Launch} {e : Env} {s : State} {m : MethodId} {args : Array Value} {below : List Frame} {meth : Method} {c : Code} {A : Nat → Prop} {g : gG} {h0 h1 h2 h3 h4 h5 h6 h7 h8 h9 h10 h11 h12 h13 h14 h15 h16 h17 h18 h19 h20 h21 h22 h23 h24 h25 h26 h27 h28 h29 h30 : Nat} {v_courses : Int32} {v_wide : Int32} {v_hands : Int32} {v_jumpTold : Int32} {v_frosts : Int32} {v_gaps : Int32} {v_frostsNow : Int32} {v_notFrosts : Int32} {v_gapsNow : Int32} {v_fell : Int32} {v_fellAll : Int32} {v_seens : Int32} {v_finding : Int32} {v_moods : Nat → Int32} {v_strongs : Nat → Int32} {v_wall : Nat → Int32} {r : (Int32 × Int32 × (Nat → Int32) × (Nat → Int32) × (Nat → Int32) × (Nat → Int32) × (Nat → Int32) × (Nat → Int32))} (C0 : gX p s m args meth c cX9_keeps 6 none RX9 g A) : ∀ (v_sheepFirst : Int32) (v_sheepMany : Int32) (v_holdNow : Nat → Int32) (v_handAt : Nat → Int32) (v_holdAt : Nat → Int32) (v_standAt : Nat → Int32) (v_highAt : Nat → Int32) (v_throughAt : Nat → Int32) (x2 : Int32), f_m_keeps_N226 v_courses v_wide v_hands v_jumpTold v_moods v_strongs v_wall v_sheepFirst v_sheepMany v_holdNow v_handAt v_holdAt v_standAt v_highAt v_throughAt x2 = some r → ∀ (H : Heap) (locs : List Loc) (ls : Array Slot), gW g A s (W_m_keeps g h0 h1 h2 h3 h4 h5 h6 h7 h8 h9 h10 h11 h12 h13 h14 h15 h16 h17 h18 h19 h20 h21 h22 h23 h24 h25 h26 h27 h28 h29 h30 v_courses v_wide v_hands v_jumpTold v_frosts v_gaps v_frostsNow v_notFrosts v_gapsNow v_fell v_fellAll v_sheepFirst v_sheepMany v_seens v_finding v_moods v_strongs v_wall v_holdNow v_handAt v_holdAt v_standAt v_highAt v_throughAt) H locs → lv_has ls 6 [(0, .ref h0), (2, .int x2)] → W p l e rm_m_keeps s m args below meth c H locs 0 0 (gQv below args s A g (W_m_keeps g h0 h1 h2 h3 h4 h5 h6 h7 h8 h9 h10 h11 h12 h13 h14 h15 h16 h17 h18 h19 h20 h21 h22 h23 h24 h25 h26 h27 h28 h29 h30 v_courses v_wide v_hands v_jumpTold v_frosts v_gaps v_frostsNow v_notFrosts v_gapsNow v_fell v_fellAll r.1 r.2.1 v_seens v_finding v_moods v_strongs v_wall r.2.2.1 r.2.2.2.1 r.2.2.2.2.1 r.2.2.2.2.2.1 r.2.2.2.2.2.2.1 r.2.2.2.2.2.2.2)) (F0 m 226 ls [.ref h0]) := by
  intro v_sheepFirst v_sheepMany v_holdNow v_handAt v_holdAt v_standAt v_highAt v_throughAt x2 hm H locs ls hw hl
  unfold f_m_keeps_N226 at hm
  obtain ⟨hx, hb, hr, hml, hown, hts, hlocks, hK, hA⟩ := id C0
  refine lv_aload_n hx hb dX9_keeps_226 rfl (lv_at hl 0 rfl) ?_
  refine gGet C0 hw flX9_231 0 rfl rfl dX9_keeps_227 ?_
  exact n_m_keeps_N230 C0  _ _ _ _ _ _ _ _ _ _ hm _ _ _ hw (lv_sub hl [0, 1] rfl)
set_option maxHeartbeats 1000000 in
set_option maxRecDepth 100000 in
theorem n_m_keeps_N197 {p : Program} {l : Launch} {e : Env} {s : State} {m : MethodId} {args : Array Value} {below : List Frame} {meth : Method} {c : Code} {A : Nat → Prop} {g : gG} {h0 h1 h2 h3 h4 h5 h6 h7 h8 h9 h10 h11 h12 h13 h14 h15 h16 h17 h18 h19 h20 h21 h22 h23 h24 h25 h26 h27 h28 h29 h30 : Nat} {v_courses : Int32} {v_wide : Int32} {v_hands : Int32} {v_jumpTold : Int32} {v_frosts : Int32} {v_gaps : Int32} {v_frostsNow : Int32} {v_notFrosts : Int32} {v_gapsNow : Int32} {v_fell : Int32} {v_fellAll : Int32} {v_seens : Int32} {v_finding : Int32} {v_moods : Nat → Int32} {v_strongs : Nat → Int32} {v_wall : Nat → Int32} {k93 : Int32 → Int32 → (Nat → Int32) → (Nat → Int32) → (Nat → Int32) → (Nat → Int32) → (Nat → Int32) → (Nat → Int32) → Int32 → Int32 → Int32 → Option (Int32 × Int32 × (Nat → Int32) × (Nat → Int32) × (Nat → Int32) × (Nat → Int32) × (Nat → Int32) × (Nat → Int32))} {r : (Int32 × Int32 × (Nat → Int32) × (Nat → Int32) × (Nat → Int32) × (Nat → Int32) × (Nat → Int32) × (Nat → Int32))} (C0 : gX p s m args meth c cX9_keeps 6 none RX9 g A) (hk93 : ∀ (v_sheepFirst : Int32) (v_sheepMany : Int32) (v_holdNow : Nat → Int32) (v_handAt : Nat → Int32) (v_holdAt : Nat → Int32) (v_standAt : Nat → Int32) (v_highAt : Nat → Int32) (v_throughAt : Nat → Int32) (x1 : Int32) (x2 : Int32) (x3 : Int32), k93 v_sheepFirst v_sheepMany v_holdNow v_handAt v_holdAt v_standAt v_highAt v_throughAt x1 x2 x3 = some r → ∀ (H : Heap) (locs : List Loc) (ls : Array Slot), gW g A s (W_m_keeps g h0 h1 h2 h3 h4 h5 h6 h7 h8 h9 h10 h11 h12 h13 h14 h15 h16 h17 h18 h19 h20 h21 h22 h23 h24 h25 h26 h27 h28 h29 h30 v_courses v_wide v_hands v_jumpTold v_frosts v_gaps v_frostsNow v_notFrosts v_gapsNow v_fell v_fellAll v_sheepFirst v_sheepMany v_seens v_finding v_moods v_strongs v_wall v_holdNow v_handAt v_holdAt v_standAt v_highAt v_throughAt) H locs → lv_has ls 6 [(0, .ref h0), (1, .int x1), (2, .int x2), (3, .int x3)] → W p l e rm_m_keeps s m args below meth c H locs 0 0 (gQv below args s A g (W_m_keeps g h0 h1 h2 h3 h4 h5 h6 h7 h8 h9 h10 h11 h12 h13 h14 h15 h16 h17 h18 h19 h20 h21 h22 h23 h24 h25 h26 h27 h28 h29 h30 v_courses v_wide v_hands v_jumpTold v_frosts v_gaps v_frostsNow v_notFrosts v_gapsNow v_fell v_fellAll r.1 r.2.1 v_seens v_finding v_moods v_strongs v_wall r.2.2.1 r.2.2.2.1 r.2.2.2.2.1 r.2.2.2.2.2.1 r.2.2.2.2.2.2.1 r.2.2.2.2.2.2.2)) (F0 m 93 ls [])) : ∀ (v_sheepFirst : Int32) (v_sheepMany : Int32) (v_holdNow : Nat → Int32) (v_handAt : Nat → Int32) (v_holdAt : Nat → Int32) (v_standAt : Nat → Int32) (v_highAt : Nat → Int32) (v_throughAt : Nat → Int32) (x1 : Int32) (x3 : Int32), f_m_keeps_N197 v_courses v_wide v_hands v_jumpTold v_moods v_strongs v_wall k93 v_sheepFirst v_sheepMany v_holdNow v_handAt v_holdAt v_standAt v_highAt v_throughAt x1 x3 = some r → ∀ (H : Heap) (locs : List Loc) (ls : Array Slot), gW g A s (W_m_keeps g h0 h1 h2 h3 h4 h5 h6 h7 h8 h9 h10 h11 h12 h13 h14 h15 h16 h17 h18 h19 h20 h21 h22 h23 h24 h25 h26 h27 h28 h29 h30 v_courses v_wide v_hands v_jumpTold v_frosts v_gaps v_frostsNow v_notFrosts v_gapsNow v_fell v_fellAll v_sheepFirst v_sheepMany v_seens v_finding v_moods v_strongs v_wall v_holdNow v_handAt v_holdAt v_standAt v_highAt v_throughAt) H locs → lv_has ls 6 [(0, .ref h0), (1, .int x1), (3, .int x3)] → W p l e rm_m_keeps s m args below meth c H locs 0 0 (gQv below args s A g (W_m_keeps g h0 h1 h2 h3 h4 h5 h6 h7 h8 h9 h10 h11 h12 h13 h14 h15 h16 h17 h18 h19 h20 h21 h22 h23 h24 h25 h26 h27 h28 h29 h30 v_courses v_wide v_hands v_jumpTold v_frosts v_gaps v_frostsNow v_notFrosts v_gapsNow v_fell v_fellAll r.1 r.2.1 v_seens v_finding v_moods v_strongs v_wall r.2.2.1 r.2.2.2.1 r.2.2.2.2.1 r.2.2.2.2.2.1 r.2.2.2.2.2.2.1 r.2.2.2.2.2.2.2)) (F0 m 197 ls []) := by
  intro v_sheepFirst v_sheepMany v_holdNow v_handAt v_holdAt v_standAt v_highAt v_throughAt x1 x3 hm H locs ls hw hl
  unfold f_m_keeps_N197 at hm
  obtain ⟨hx, hb, hr, hml, hown, hts, hlocks, hK, hA⟩ := id C0
  refine lv_iconst (v := 1) hx hb dX9_keeps_197 (by decide) ?_
  refine lv_goto (tgt := 202) hx hb dX9_keeps_198 (by decide) ?_
  refine lv_istore_n (lv' := [(2, .int (1 : Int32)), (0, .ref h0), (1, .int x1), (3, .int x3)]) hx hb dX9_keeps_202 rfl hl (by decide) rfl (fun ls hl => ?_)
  refine lv_iinc (v := x3 + (1 : Int32)) (lv' := [(3, .int (x3 + (1 : Int32))), (2, .int (1 : Int32)), (0, .ref h0), (1, .int x1)]) hx hb dX9_keeps_203 hl (k := 3) rfl rfl (by decide) rfl (fun ls hl => ?_)
  refine lv_goto (tgt := 93) hx hb dX9_keeps_206 (by decide) ?_
  exact hk93 _ _ _ _ _ _ _ _ _ _ _ hm _ _ _ hw (lv_sub hl [2, 3, 1, 0] rfl)
set_option maxHeartbeats 1000000 in
set_option maxRecDepth 100000 in
theorem n_m_keeps_N139 {p : Program} {l : Launch} {e : Env} {s : State} {m : MethodId} {args : Array Value} {below : List Frame} {meth : Method} {c : Code} {A : Nat → Prop} {g : gG} {h0 h1 h2 h3 h4 h5 h6 h7 h8 h9 h10 h11 h12 h13 h14 h15 h16 h17 h18 h19 h20 h21 h22 h23 h24 h25 h26 h27 h28 h29 h30 : Nat} {v_courses : Int32} {v_wide : Int32} {v_hands : Int32} {v_jumpTold : Int32} {v_frosts : Int32} {v_gaps : Int32} {v_frostsNow : Int32} {v_notFrosts : Int32} {v_gapsNow : Int32} {v_fell : Int32} {v_fellAll : Int32} {v_seens : Int32} {v_finding : Int32} {v_moods : Nat → Int32} {v_strongs : Nat → Int32} {v_wall : Nat → Int32} {k93 : Int32 → Int32 → (Nat → Int32) → (Nat → Int32) → (Nat → Int32) → (Nat → Int32) → (Nat → Int32) → (Nat → Int32) → Int32 → Int32 → Int32 → Option (Int32 × Int32 × (Nat → Int32) × (Nat → Int32) × (Nat → Int32) × (Nat → Int32) × (Nat → Int32) × (Nat → Int32))} {k107 : Int32 → Int32 → (Nat → Int32) → (Nat → Int32) → (Nat → Int32) → (Nat → Int32) → (Nat → Int32) → (Nat → Int32) → Int32 → Int32 → Int32 → Int32 → Int32 → Option (Int32 × Int32 × (Nat → Int32) × (Nat → Int32) × (Nat → Int32) × (Nat → Int32) × (Nat → Int32) × (Nat → Int32))} {r : (Int32 × Int32 × (Nat → Int32) × (Nat → Int32) × (Nat → Int32) × (Nat → Int32) × (Nat → Int32) × (Nat → Int32))} (C0 : gX p s m args meth c cX9_keeps 6 none RX9 g A) (hk93 : ∀ (v_sheepFirst : Int32) (v_sheepMany : Int32) (v_holdNow : Nat → Int32) (v_handAt : Nat → Int32) (v_holdAt : Nat → Int32) (v_standAt : Nat → Int32) (v_highAt : Nat → Int32) (v_throughAt : Nat → Int32) (x1 : Int32) (x2 : Int32) (x3 : Int32), k93 v_sheepFirst v_sheepMany v_holdNow v_handAt v_holdAt v_standAt v_highAt v_throughAt x1 x2 x3 = some r → ∀ (H : Heap) (locs : List Loc) (ls : Array Slot), gW g A s (W_m_keeps g h0 h1 h2 h3 h4 h5 h6 h7 h8 h9 h10 h11 h12 h13 h14 h15 h16 h17 h18 h19 h20 h21 h22 h23 h24 h25 h26 h27 h28 h29 h30 v_courses v_wide v_hands v_jumpTold v_frosts v_gaps v_frostsNow v_notFrosts v_gapsNow v_fell v_fellAll v_sheepFirst v_sheepMany v_seens v_finding v_moods v_strongs v_wall v_holdNow v_handAt v_holdAt v_standAt v_highAt v_throughAt) H locs → lv_has ls 6 [(0, .ref h0), (1, .int x1), (2, .int x2), (3, .int x3)] → W p l e rm_m_keeps s m args below meth c H locs 0 0 (gQv below args s A g (W_m_keeps g h0 h1 h2 h3 h4 h5 h6 h7 h8 h9 h10 h11 h12 h13 h14 h15 h16 h17 h18 h19 h20 h21 h22 h23 h24 h25 h26 h27 h28 h29 h30 v_courses v_wide v_hands v_jumpTold v_frosts v_gaps v_frostsNow v_notFrosts v_gapsNow v_fell v_fellAll r.1 r.2.1 v_seens v_finding v_moods v_strongs v_wall r.2.2.1 r.2.2.2.1 r.2.2.2.2.1 r.2.2.2.2.2.1 r.2.2.2.2.2.2.1 r.2.2.2.2.2.2.2)) (F0 m 93 ls [])) (hk107 : ∀ (v_sheepFirst : Int32) (v_sheepMany : Int32) (v_holdNow : Nat → Int32) (v_handAt : Nat → Int32) (v_holdAt : Nat → Int32) (v_standAt : Nat → Int32) (v_highAt : Nat → Int32) (v_throughAt : Nat → Int32) (x1 : Int32) (x2 : Int32) (x3 : Int32) (x4 : Int32) (x5 : Int32), k107 v_sheepFirst v_sheepMany v_holdNow v_handAt v_holdAt v_standAt v_highAt v_throughAt x1 x2 x3 x4 x5 = some r → ∀ (H : Heap) (locs : List Loc) (ls : Array Slot), gW g A s (W_m_keeps g h0 h1 h2 h3 h4 h5 h6 h7 h8 h9 h10 h11 h12 h13 h14 h15 h16 h17 h18 h19 h20 h21 h22 h23 h24 h25 h26 h27 h28 h29 h30 v_courses v_wide v_hands v_jumpTold v_frosts v_gaps v_frostsNow v_notFrosts v_gapsNow v_fell v_fellAll v_sheepFirst v_sheepMany v_seens v_finding v_moods v_strongs v_wall v_holdNow v_handAt v_holdAt v_standAt v_highAt v_throughAt) H locs → lv_has ls 6 [(0, .ref h0), (1, .int x1), (2, .int x2), (3, .int x3), (4, .int x4), (5, .int x5)] → W p l e rm_m_keeps s m args below meth c H locs 0 0 (gQv below args s A g (W_m_keeps g h0 h1 h2 h3 h4 h5 h6 h7 h8 h9 h10 h11 h12 h13 h14 h15 h16 h17 h18 h19 h20 h21 h22 h23 h24 h25 h26 h27 h28 h29 h30 v_courses v_wide v_hands v_jumpTold v_frosts v_gaps v_frostsNow v_notFrosts v_gapsNow v_fell v_fellAll r.1 r.2.1 v_seens v_finding v_moods v_strongs v_wall r.2.2.1 r.2.2.2.1 r.2.2.2.2.1 r.2.2.2.2.2.1 r.2.2.2.2.2.2.1 r.2.2.2.2.2.2.2)) (F0 m 107 ls [])) : ∀ (v_sheepFirst : Int32) (v_sheepMany : Int32) (v_holdNow : Nat → Int32) (v_handAt : Nat → Int32) (v_holdAt : Nat → Int32) (v_standAt : Nat → Int32) (v_highAt : Nat → Int32) (v_throughAt : Nat → Int32) (x1 : Int32) (x2 : Int32) (x3 : Int32) (x5 : Int32) (y0 : Int32) (y1 : Int32), f_m_keeps_N139 v_courses v_wide v_hands v_jumpTold v_moods v_strongs v_wall k93 k107 v_sheepFirst v_sheepMany v_holdNow v_handAt v_holdAt v_standAt v_highAt v_throughAt x1 x2 x3 x5 y0 y1 = some r → ∀ (H : Heap) (locs : List Loc) (ls : Array Slot), gW g A s (W_m_keeps g h0 h1 h2 h3 h4 h5 h6 h7 h8 h9 h10 h11 h12 h13 h14 h15 h16 h17 h18 h19 h20 h21 h22 h23 h24 h25 h26 h27 h28 h29 h30 v_courses v_wide v_hands v_jumpTold v_frosts v_gaps v_frostsNow v_notFrosts v_gapsNow v_fell v_fellAll v_sheepFirst v_sheepMany v_seens v_finding v_moods v_strongs v_wall v_holdNow v_handAt v_holdAt v_standAt v_highAt v_throughAt) H locs → lv_has ls 6 [(0, .ref h0), (1, .int x1), (2, .int x2), (3, .int x3), (5, .int x5)] → W p l e rm_m_keeps s m args below meth c H locs 0 0 (gQv below args s A g (W_m_keeps g h0 h1 h2 h3 h4 h5 h6 h7 h8 h9 h10 h11 h12 h13 h14 h15 h16 h17 h18 h19 h20 h21 h22 h23 h24 h25 h26 h27 h28 h29 h30 v_courses v_wide v_hands v_jumpTold v_frosts v_gaps v_frostsNow v_notFrosts v_gapsNow v_fell v_fellAll r.1 r.2.1 v_seens v_finding v_moods v_strongs v_wall r.2.2.1 r.2.2.2.1 r.2.2.2.2.1 r.2.2.2.2.2.1 r.2.2.2.2.2.2.1 r.2.2.2.2.2.2.2)) (F0 m 139 ls [.int y1, .int y0]) := by
  intro v_sheepFirst v_sheepMany v_holdNow v_handAt v_holdAt v_standAt v_highAt v_throughAt x1 x2 x3 x5 y0 y1 hm H locs ls hw hl
  unfold f_m_keeps_N139 at hm
  obtain ⟨hx, hb, hr, hml, hown, hts, hlocks, hK, hA⟩ := id C0
  refine lv_iadd hx hb dX9_keeps_139 ?_
  refine lv_istore (lv' := [(4, .int (y0 + y1)), (0, .ref h0), (1, .int x1), (2, .int x2), (3, .int x3), (5, .int x5)]) hx hb dX9_keeps_140 hl (by decide) rfl (fun ls hl => ?_)
  refine lv_iinc (v := x5 + (1 : Int32)) (lv' := [(5, .int (x5 + (1 : Int32))), (4, .int (y0 + y1)), (0, .ref h0), (1, .int x1), (2, .int x2), (3, .int x3)]) hx hb dX9_keeps_142 hl (k := 5) rfl rfl (by decide) rfl (fun ls hl => ?_)
  refine lv_goto (tgt := 107) hx hb dX9_keeps_145 (by decide) ?_
  exact hk107 _ _ _ _ _ _ _ _ _ _ _ _ _ hm _ _ _ hw (lv_sub hl [2, 3, 4, 5, 1, 0] rfl)
set_option maxHeartbeats 1000000 in
set_option maxRecDepth 100000 in
theorem n_m_keeps_N107 {p : Program} {l : Launch} {e : Env} {s : State} {m : MethodId} {args : Array Value} {below : List Frame} {meth : Method} {c : Code} {A : Nat → Prop} {g : gG} {h0 h1 h2 h3 h4 h5 h6 h7 h8 h9 h10 h11 h12 h13 h14 h15 h16 h17 h18 h19 h20 h21 h22 h23 h24 h25 h26 h27 h28 h29 h30 : Nat} {v_courses : Int32} {v_wide : Int32} {v_hands : Int32} {v_jumpTold : Int32} {v_frosts : Int32} {v_gaps : Int32} {v_frostsNow : Int32} {v_notFrosts : Int32} {v_gapsNow : Int32} {v_fell : Int32} {v_fellAll : Int32} {v_seens : Int32} {v_finding : Int32} {v_moods : Nat → Int32} {v_strongs : Nat → Int32} {v_wall : Nat → Int32} {k93 : Int32 → Int32 → (Nat → Int32) → (Nat → Int32) → (Nat → Int32) → (Nat → Int32) → (Nat → Int32) → (Nat → Int32) → Int32 → Int32 → Int32 → Option (Int32 × Int32 × (Nat → Int32) × (Nat → Int32) × (Nat → Int32) × (Nat → Int32) × (Nat → Int32) × (Nat → Int32))} {k107 : Int32 → Int32 → (Nat → Int32) → (Nat → Int32) → (Nat → Int32) → (Nat → Int32) → (Nat → Int32) → (Nat → Int32) → Int32 → Int32 → Int32 → Int32 → Int32 → Option (Int32 × Int32 × (Nat → Int32) × (Nat → Int32) × (Nat → Int32) × (Nat → Int32) × (Nat → Int32) × (Nat → Int32))} {r : (Int32 × Int32 × (Nat → Int32) × (Nat → Int32) × (Nat → Int32) × (Nat → Int32) × (Nat → Int32) × (Nat → Int32))} (C0 : gX p s m args meth c cX9_keeps 6 none RX9 g A) (hk93 : ∀ (v_sheepFirst : Int32) (v_sheepMany : Int32) (v_holdNow : Nat → Int32) (v_handAt : Nat → Int32) (v_holdAt : Nat → Int32) (v_standAt : Nat → Int32) (v_highAt : Nat → Int32) (v_throughAt : Nat → Int32) (x1 : Int32) (x2 : Int32) (x3 : Int32), k93 v_sheepFirst v_sheepMany v_holdNow v_handAt v_holdAt v_standAt v_highAt v_throughAt x1 x2 x3 = some r → ∀ (H : Heap) (locs : List Loc) (ls : Array Slot), gW g A s (W_m_keeps g h0 h1 h2 h3 h4 h5 h6 h7 h8 h9 h10 h11 h12 h13 h14 h15 h16 h17 h18 h19 h20 h21 h22 h23 h24 h25 h26 h27 h28 h29 h30 v_courses v_wide v_hands v_jumpTold v_frosts v_gaps v_frostsNow v_notFrosts v_gapsNow v_fell v_fellAll v_sheepFirst v_sheepMany v_seens v_finding v_moods v_strongs v_wall v_holdNow v_handAt v_holdAt v_standAt v_highAt v_throughAt) H locs → lv_has ls 6 [(0, .ref h0), (1, .int x1), (2, .int x2), (3, .int x3)] → W p l e rm_m_keeps s m args below meth c H locs 0 0 (gQv below args s A g (W_m_keeps g h0 h1 h2 h3 h4 h5 h6 h7 h8 h9 h10 h11 h12 h13 h14 h15 h16 h17 h18 h19 h20 h21 h22 h23 h24 h25 h26 h27 h28 h29 h30 v_courses v_wide v_hands v_jumpTold v_frosts v_gaps v_frostsNow v_notFrosts v_gapsNow v_fell v_fellAll r.1 r.2.1 v_seens v_finding v_moods v_strongs v_wall r.2.2.1 r.2.2.2.1 r.2.2.2.2.1 r.2.2.2.2.2.1 r.2.2.2.2.2.2.1 r.2.2.2.2.2.2.2)) (F0 m 93 ls [])) (hk107 : ∀ (v_sheepFirst : Int32) (v_sheepMany : Int32) (v_holdNow : Nat → Int32) (v_handAt : Nat → Int32) (v_holdAt : Nat → Int32) (v_standAt : Nat → Int32) (v_highAt : Nat → Int32) (v_throughAt : Nat → Int32) (x1 : Int32) (x2 : Int32) (x3 : Int32) (x4 : Int32) (x5 : Int32), k107 v_sheepFirst v_sheepMany v_holdNow v_handAt v_holdAt v_standAt v_highAt v_throughAt x1 x2 x3 x4 x5 = some r → ∀ (H : Heap) (locs : List Loc) (ls : Array Slot), gW g A s (W_m_keeps g h0 h1 h2 h3 h4 h5 h6 h7 h8 h9 h10 h11 h12 h13 h14 h15 h16 h17 h18 h19 h20 h21 h22 h23 h24 h25 h26 h27 h28 h29 h30 v_courses v_wide v_hands v_jumpTold v_frosts v_gaps v_frostsNow v_notFrosts v_gapsNow v_fell v_fellAll v_sheepFirst v_sheepMany v_seens v_finding v_moods v_strongs v_wall v_holdNow v_handAt v_holdAt v_standAt v_highAt v_throughAt) H locs → lv_has ls 6 [(0, .ref h0), (1, .int x1), (2, .int x2), (3, .int x3), (4, .int x4), (5, .int x5)] → W p l e rm_m_keeps s m args below meth c H locs 0 0 (gQv below args s A g (W_m_keeps g h0 h1 h2 h3 h4 h5 h6 h7 h8 h9 h10 h11 h12 h13 h14 h15 h16 h17 h18 h19 h20 h21 h22 h23 h24 h25 h26 h27 h28 h29 h30 v_courses v_wide v_hands v_jumpTold v_frosts v_gaps v_frostsNow v_notFrosts v_gapsNow v_fell v_fellAll r.1 r.2.1 v_seens v_finding v_moods v_strongs v_wall r.2.2.1 r.2.2.2.1 r.2.2.2.2.1 r.2.2.2.2.2.1 r.2.2.2.2.2.2.1 r.2.2.2.2.2.2.2)) (F0 m 107 ls [])) : ∀ (v_sheepFirst : Int32) (v_sheepMany : Int32) (v_holdNow : Nat → Int32) (v_handAt : Nat → Int32) (v_holdAt : Nat → Int32) (v_standAt : Nat → Int32) (v_highAt : Nat → Int32) (v_throughAt : Nat → Int32) (x1 : Int32) (x2 : Int32) (x3 : Int32) (x4 : Int32) (x5 : Int32), f_m_keeps_N107 v_courses v_wide v_hands v_jumpTold v_moods v_strongs v_wall k93 k107 v_sheepFirst v_sheepMany v_holdNow v_handAt v_holdAt v_standAt v_highAt v_throughAt x1 x2 x3 x4 x5 = some r → ∀ (H : Heap) (locs : List Loc) (ls : Array Slot), gW g A s (W_m_keeps g h0 h1 h2 h3 h4 h5 h6 h7 h8 h9 h10 h11 h12 h13 h14 h15 h16 h17 h18 h19 h20 h21 h22 h23 h24 h25 h26 h27 h28 h29 h30 v_courses v_wide v_hands v_jumpTold v_frosts v_gaps v_frostsNow v_notFrosts v_gapsNow v_fell v_fellAll v_sheepFirst v_sheepMany v_seens v_finding v_moods v_strongs v_wall v_holdNow v_handAt v_holdAt v_standAt v_highAt v_throughAt) H locs → lv_has ls 6 [(0, .ref h0), (1, .int x1), (2, .int x2), (3, .int x3), (4, .int x4), (5, .int x5)] → W p l e rm_m_keeps s m args below meth c H locs 0 0 (gQv below args s A g (W_m_keeps g h0 h1 h2 h3 h4 h5 h6 h7 h8 h9 h10 h11 h12 h13 h14 h15 h16 h17 h18 h19 h20 h21 h22 h23 h24 h25 h26 h27 h28 h29 h30 v_courses v_wide v_hands v_jumpTold v_frosts v_gaps v_frostsNow v_notFrosts v_gapsNow v_fell v_fellAll r.1 r.2.1 v_seens v_finding v_moods v_strongs v_wall r.2.2.1 r.2.2.2.1 r.2.2.2.2.1 r.2.2.2.2.2.1 r.2.2.2.2.2.2.1 r.2.2.2.2.2.2.2)) (F0 m 107 ls []) := by
  intro v_sheepFirst v_sheepMany v_holdNow v_handAt v_holdAt v_standAt v_highAt v_throughAt x1 x2 x3 x4 x5 hm H locs ls hw hl
  unfold f_m_keeps_N107 at hm
  obtain ⟨hx, hb, hr, hml, hown, hts, hlocks, hK, hA⟩ := id C0
  refine lv_iload hx hb dX9_keeps_107 (lv_at hl 5 rfl) ?_
  refine lv_aload_n hx hb dX9_keeps_109 rfl (lv_at hl 0 rfl) ?_
  refine gGet C0 hw flX9_118 0 rfl rfl dX9_keeps_110 ?_
  refine lv_icmp_ge (tgt := 148) hx hb dX9_keeps_113 (by decide) (fun hc => ?_) (fun hc => ?_)
  · have hm := ipos hc hm
    refine lv_aload_n hx hb dX9_keeps_148 rfl (lv_at hl 0 rfl) ?_
    refine gGet C0 hw flX9_67 0 rfl rfl dX9_keeps_149 ?_
    refine lv_bipush (v := 8) hx hb dX9_keeps_152 (by decide) ?_
    refine lv_iload_n hx hb dX9_keeps_154 rfl (lv_at hl 1 rfl) ?_
    refine lv_imul hx hb dX9_keeps_155 ?_
    refine lv_iload_n hx hb dX9_keeps_156 rfl (lv_at hl 3 rfl) ?_
    refine lv_iadd hx hb dX9_keeps_157 ?_
    refine lv_iload hx hb dX9_keeps_158 (lv_at hl 4 rfl) ?_
    obtain ⟨hin, hm⟩ := gdE hm
    have hin := inbE hin
    refine gAstI (ws' := (W_m_keeps g h0 h1 h2 h3 h4 h5 h6 h7 h8 h9 h10 h11 h12 h13 h14 h15 h16 h17 h18 h19 h20 h21 h22 h23 h24 h25 h26 h27 h28 h29 h30 v_courses v_wide v_hands v_jumpTold v_frosts v_gaps v_frostsNow v_notFrosts v_gapsNow v_fell v_fellAll v_sheepFirst v_sheepMany v_seens v_finding v_moods v_strongs v_wall v_holdNow v_handAt v_holdAt v_standAt (upd v_highAt (((8 : Int32) * x1) + x3).toNatClampNeg x4) v_throughAt)) C0 hw 8 rfl hin rfl dX9_keeps_160 (fun H locs hw => ?_)
    refine lv_aload_n hx hb dX9_keeps_161 rfl (lv_at hl 0 rfl) ?_
    refine gGet C0 hw flX9_70 0 rfl rfl dX9_keeps_162 ?_
    refine lv_bipush (v := 8) hx hb dX9_keeps_165 (by decide) ?_
    refine lv_iload_n hx hb dX9_keeps_167 rfl (lv_at hl 1 rfl) ?_
    refine lv_imul hx hb dX9_keeps_168 ?_
    refine lv_iload_n hx hb dX9_keeps_169 rfl (lv_at hl 3 rfl) ?_
    refine lv_iadd hx hb dX9_keeps_170 ?_
    refine lv_aload_n hx hb dX9_keeps_171 rfl (lv_at hl 0 rfl) ?_
    refine lv_iload_n hx hb dX9_keeps_172 rfl (lv_at hl 3 rfl) ?_
    refine lv_iload hx hb dX9_keeps_173 (lv_at hl 4 rfl) ?_
    obtain ⟨o175, ho175, hm⟩ := bindE hm
    refine gCalli (ws' := (W_m_keeps g h0 h1 h2 h3 h4 h5 h6 h7 h8 h9 h10 h11 h12 h13 h14 h15 h16 h17 h18 h19 h20 h21 h22 h23 h24 h25 h26 h27 h28 h29 h30 v_courses v_wide v_hands v_jumpTold v_frosts v_gaps v_frostsNow v_notFrosts v_gapsNow v_fell v_fellAll v_sheepFirst v_sheepMany v_seens v_finding v_moods v_strongs v_wall v_holdNow v_handAt v_holdAt v_standAt (upd v_highAt (((8 : Int32) * x1) + x3).toNatClampNeg x4) v_throughAt)) C0 hw (gRunV (As := [.int x3, .int x4]) (rest := [.int (((8 : Int32) * x1) + x3), .ref h9]) C0 hw lkX9_228 (c_m_isThrough l g H.size h0 h1 h3 h10 h11 h12 h2 h13 h14 h15 h16 h17 h18 h19 h4 h20 h5 h6 h21 h7 h8 h9 h22 h23 h24 h25 h26 h27 h28 h29 h30 v_courses v_wide v_hands v_jumpTold v_frosts v_gaps v_frostsNow v_notFrosts v_gapsNow v_fell v_fellAll v_sheepFirst v_sheepMany v_seens v_finding v_moods v_wall x3 x4 o175 ho175) ⟨rfl, rfl⟩ ⟨Nat.le_of_ble_eq_true rfl, Nat.le_of_ble_eq_true rfl⟩ [0, 1, 3] (by decide) rfl 0 rfl rfl rfl hl.1 rfl (Nat.le_of_ble_eq_true rfl) dX9_keeps_175) [0, 1, 3] [2, 4, 5, 6, 7, 8, 9] rfl rfl ⟨rfl, rfl, rfl, rfl, rfl, rfl, rfl, trivial⟩ [h0, h1, h2, h3, h4, h5, h6, h7, h8, h9] rfl rfl 10 rfl (by decide +kernel) (fun H locs hw => ?_)
    obtain ⟨hin, hm⟩ := gdE hm
    have hin := inbE hin
    refine gAstZ (ws' := (W_m_keeps g h0 h1 h2 h3 h4 h5 h6 h7 h8 h9 h10 h11 h12 h13 h14 h15 h16 h17 h18 h19 h20 h21 h22 h23 h24 h25 h26 h27 h28 h29 h30 v_courses v_wide v_hands v_jumpTold v_frosts v_gaps v_frostsNow v_notFrosts v_gapsNow v_fell v_fellAll v_sheepFirst v_sheepMany v_seens v_finding v_moods v_strongs v_wall v_holdNow v_handAt v_holdAt v_standAt (upd v_highAt (((8 : Int32) * x1) + x3).toNatClampNeg x4) (upd v_throughAt (((8 : Int32) * x1) + x3).toNatClampNeg (vp_nar .boolean o175)))) C0 hw 9 rfl hin rfl dX9_keeps_178 (fun H locs hw => ?_)
    refine lv_iload_n hx hb dX9_keeps_179 rfl (lv_at hl 2 rfl) ?_
    refine lv_if_ne (tgt := 197) hx hb dX9_keeps_180 (by decide) (fun hc => ?_) (fun hc => ?_)
    · have hm := ineg hc hm
      exact n_m_keeps_N197 C0 hk93 _ _ _ _ _ _ _ _ _ _ hm _ _ _ hw (lv_sub hl [0, 1, 3] rfl)
    · have hm := ipos hc hm
      refine lv_aload_n hx hb dX9_keeps_183 rfl (lv_at hl 0 rfl) ?_
      refine gGet C0 hw flX9_70 0 rfl rfl dX9_keeps_184 ?_
      refine lv_bipush (v := 8) hx hb dX9_keeps_187 (by decide) ?_
      refine lv_iload_n hx hb dX9_keeps_189 rfl (lv_at hl 1 rfl) ?_
      refine lv_imul hx hb dX9_keeps_190 ?_
      refine lv_iload_n hx hb dX9_keeps_191 rfl (lv_at hl 3 rfl) ?_
      refine lv_iadd hx hb dX9_keeps_192 ?_
      obtain ⟨hin, hm⟩ := gdE hm
      have hin := inbE hin
      refine gAldZ C0 hw 9 rfl hin dX9_keeps_193 ?_
      refine lv_if_eq (tgt := 201) hx hb dX9_keeps_194 (by decide) (fun hc => ?_) (fun hc => ?_)
      · have hm := ipos hc hm
        refine lv_iconst (v := 0) hx hb dX9_keeps_201 (by decide) ?_
        refine lv_istore_n (lv' := [(2, .int (0 : Int32)), (0, .ref h0), (1, .int x1), (3, .int x3), (4, .int x4), (5, .int x5)]) hx hb dX9_keeps_202 rfl hl (by decide) rfl (fun ls hl => ?_)
        refine lv_iinc (v := x3 + (1 : Int32)) (lv' := [(3, .int (x3 + (1 : Int32))), (2, .int (0 : Int32)), (0, .ref h0), (1, .int x1), (4, .int x4), (5, .int x5)]) hx hb dX9_keeps_203 hl (k := 3) rfl rfl (by decide) rfl (fun ls hl => ?_)
        refine lv_goto (tgt := 93) hx hb dX9_keeps_206 (by decide) ?_
        exact hk93 _ _ _ _ _ _ _ _ _ _ _ hm _ _ _ hw (lv_sub hl [2, 3, 1, 0] rfl)
      · have hm := ineg hc hm
        exact n_m_keeps_N197 C0 hk93 _ _ _ _ _ _ _ _ _ _ hm _ _ _ hw (lv_sub hl [0, 1, 3] rfl)
  · have hm := ineg hc hm
    refine lv_iload hx hb dX9_keeps_116 (lv_at hl 4 rfl) ?_
    refine lv_aload_n hx hb dX9_keeps_118 rfl (lv_at hl 0 rfl) ?_
    refine gGet C0 hw flX9_40 0 rfl rfl dX9_keeps_119 ?_
    refine lv_bipush (v := 8) hx hb dX9_keeps_122 (by decide) ?_
    refine lv_iload hx hb dX9_keeps_124 (lv_at hl 5 rfl) ?_
    refine lv_imul hx hb dX9_keeps_126 ?_
    refine lv_iload_n hx hb dX9_keeps_127 rfl (lv_at hl 3 rfl) ?_
    refine lv_iadd hx hb dX9_keeps_128 ?_
    obtain ⟨hin, hm⟩ := gdE hm
    have hin := inbE hin
    refine gAldI C0 hw 3 rfl hin dX9_keeps_129 ?_
    refine lv_iconst (v := -1) hx hb dX9_keeps_130 (by decide) ?_
    refine lv_icmp_ne (tgt := 138) hx hb dX9_keeps_131 (by decide) (fun hc => ?_) (fun hc => ?_)
    · have hm := ineg hc hm
      refine lv_iconst (v := 1) hx hb dX9_keeps_138 (by decide) ?_
      exact n_m_keeps_N139 C0 hk93 hk107 _ _ _ _ _ _ _ _ _ _ _ _ _ _ hm _ _ _ hw (lv_sub hl [0, 1, 2, 3, 5] rfl)
    · have hm := ipos hc hm
      refine lv_iconst (v := 0) hx hb dX9_keeps_134 (by decide) ?_
      refine lv_goto (tgt := 139) hx hb dX9_keeps_135 (by decide) ?_
      exact n_m_keeps_N139 C0 hk93 hk107 _ _ _ _ _ _ _ _ _ _ _ _ _ _ hm _ _ _ hw (lv_sub hl [0, 1, 2, 3, 5] rfl)
set_option maxHeartbeats 1000000 in
set_option maxRecDepth 100000 in
theorem l_m_keeps_N107 {p : Program} {l : Launch} {e : Env} {s : State} {m : MethodId} {args : Array Value} {below : List Frame} {meth : Method} {c : Code} {A : Nat → Prop} {g : gG} {h0 h1 h2 h3 h4 h5 h6 h7 h8 h9 h10 h11 h12 h13 h14 h15 h16 h17 h18 h19 h20 h21 h22 h23 h24 h25 h26 h27 h28 h29 h30 : Nat} {v_courses : Int32} {v_wide : Int32} {v_hands : Int32} {v_jumpTold : Int32} {v_frosts : Int32} {v_gaps : Int32} {v_frostsNow : Int32} {v_notFrosts : Int32} {v_gapsNow : Int32} {v_fell : Int32} {v_fellAll : Int32} {v_seens : Int32} {v_finding : Int32} {v_moods : Nat → Int32} {v_strongs : Nat → Int32} {v_wall : Nat → Int32} {k93 : Int32 → Int32 → (Nat → Int32) → (Nat → Int32) → (Nat → Int32) → (Nat → Int32) → (Nat → Int32) → (Nat → Int32) → Int32 → Int32 → Int32 → Option (Int32 × Int32 × (Nat → Int32) × (Nat → Int32) × (Nat → Int32) × (Nat → Int32) × (Nat → Int32) × (Nat → Int32))} {r : (Int32 × Int32 × (Nat → Int32) × (Nat → Int32) × (Nat → Int32) × (Nat → Int32) × (Nat → Int32) × (Nat → Int32))} (C0 : gX p s m args meth c cX9_keeps 6 none RX9 g A) (hk93 : ∀ (v_sheepFirst : Int32) (v_sheepMany : Int32) (v_holdNow : Nat → Int32) (v_handAt : Nat → Int32) (v_holdAt : Nat → Int32) (v_standAt : Nat → Int32) (v_highAt : Nat → Int32) (v_throughAt : Nat → Int32) (x1 : Int32) (x2 : Int32) (x3 : Int32), k93 v_sheepFirst v_sheepMany v_holdNow v_handAt v_holdAt v_standAt v_highAt v_throughAt x1 x2 x3 = some r → ∀ (H : Heap) (locs : List Loc) (ls : Array Slot), gW g A s (W_m_keeps g h0 h1 h2 h3 h4 h5 h6 h7 h8 h9 h10 h11 h12 h13 h14 h15 h16 h17 h18 h19 h20 h21 h22 h23 h24 h25 h26 h27 h28 h29 h30 v_courses v_wide v_hands v_jumpTold v_frosts v_gaps v_frostsNow v_notFrosts v_gapsNow v_fell v_fellAll v_sheepFirst v_sheepMany v_seens v_finding v_moods v_strongs v_wall v_holdNow v_handAt v_holdAt v_standAt v_highAt v_throughAt) H locs → lv_has ls 6 [(0, .ref h0), (1, .int x1), (2, .int x2), (3, .int x3)] → W p l e rm_m_keeps s m args below meth c H locs 0 0 (gQv below args s A g (W_m_keeps g h0 h1 h2 h3 h4 h5 h6 h7 h8 h9 h10 h11 h12 h13 h14 h15 h16 h17 h18 h19 h20 h21 h22 h23 h24 h25 h26 h27 h28 h29 h30 v_courses v_wide v_hands v_jumpTold v_frosts v_gaps v_frostsNow v_notFrosts v_gapsNow v_fell v_fellAll r.1 r.2.1 v_seens v_finding v_moods v_strongs v_wall r.2.2.1 r.2.2.2.1 r.2.2.2.2.1 r.2.2.2.2.2.1 r.2.2.2.2.2.2.1 r.2.2.2.2.2.2.2)) (F0 m 93 ls [])) : ∀ n : Nat, ∀ (v_sheepFirst : Int32) (v_sheepMany : Int32) (v_holdNow : Nat → Int32) (v_handAt : Nat → Int32) (v_holdAt : Nat → Int32) (v_standAt : Nat → Int32) (v_highAt : Nat → Int32) (v_throughAt : Nat → Int32) (x1 : Int32) (x2 : Int32) (x3 : Int32) (x4 : Int32) (x5 : Int32), iter (fun _ _ _ _ _ _ _ _ _ _ _ _ _ => none) (f_m_keeps_N107 v_courses v_wide v_hands v_jumpTold v_moods v_strongs v_wall k93) n v_sheepFirst v_sheepMany v_holdNow v_handAt v_holdAt v_standAt v_highAt v_throughAt x1 x2 x3 x4 x5 = some r → ∀ (H : Heap) (locs : List Loc) (ls : Array Slot), gW g A s (W_m_keeps g h0 h1 h2 h3 h4 h5 h6 h7 h8 h9 h10 h11 h12 h13 h14 h15 h16 h17 h18 h19 h20 h21 h22 h23 h24 h25 h26 h27 h28 h29 h30 v_courses v_wide v_hands v_jumpTold v_frosts v_gaps v_frostsNow v_notFrosts v_gapsNow v_fell v_fellAll v_sheepFirst v_sheepMany v_seens v_finding v_moods v_strongs v_wall v_holdNow v_handAt v_holdAt v_standAt v_highAt v_throughAt) H locs → lv_has ls 6 [(0, .ref h0), (1, .int x1), (2, .int x2), (3, .int x3), (4, .int x4), (5, .int x5)] → W p l e rm_m_keeps s m args below meth c H locs 0 0 (gQv below args s A g (W_m_keeps g h0 h1 h2 h3 h4 h5 h6 h7 h8 h9 h10 h11 h12 h13 h14 h15 h16 h17 h18 h19 h20 h21 h22 h23 h24 h25 h26 h27 h28 h29 h30 v_courses v_wide v_hands v_jumpTold v_frosts v_gaps v_frostsNow v_notFrosts v_gapsNow v_fell v_fellAll r.1 r.2.1 v_seens v_finding v_moods v_strongs v_wall r.2.2.1 r.2.2.2.1 r.2.2.2.2.1 r.2.2.2.2.2.1 r.2.2.2.2.2.2.1 r.2.2.2.2.2.2.2)) (F0 m 107 ls []) := by
  intro n
  induction n with
  | zero =>
    intro v_sheepFirst v_sheepMany v_holdNow v_handAt v_holdAt v_standAt v_highAt v_throughAt x1 x2 x3 x4 x5 hm
    cases hm
  | succ n ih =>
    exact n_m_keeps_N107 C0 hk93 ih
set_option maxHeartbeats 1000000 in
set_option maxRecDepth 100000 in
theorem n_m_keeps_N93 {p : Program} {l : Launch} {e : Env} {s : State} {m : MethodId} {args : Array Value} {below : List Frame} {meth : Method} {c : Code} {A : Nat → Prop} {g : gG} {h0 h1 h2 h3 h4 h5 h6 h7 h8 h9 h10 h11 h12 h13 h14 h15 h16 h17 h18 h19 h20 h21 h22 h23 h24 h25 h26 h27 h28 h29 h30 : Nat} {v_courses : Int32} {v_wide : Int32} {v_hands : Int32} {v_jumpTold : Int32} {v_frosts : Int32} {v_gaps : Int32} {v_frostsNow : Int32} {v_notFrosts : Int32} {v_gapsNow : Int32} {v_fell : Int32} {v_fellAll : Int32} {v_seens : Int32} {v_finding : Int32} {v_moods : Nat → Int32} {v_strongs : Nat → Int32} {v_wall : Nat → Int32} {k93 : Int32 → Int32 → (Nat → Int32) → (Nat → Int32) → (Nat → Int32) → (Nat → Int32) → (Nat → Int32) → (Nat → Int32) → Int32 → Int32 → Int32 → Option (Int32 × Int32 × (Nat → Int32) × (Nat → Int32) × (Nat → Int32) × (Nat → Int32) × (Nat → Int32) × (Nat → Int32))} {r : (Int32 × Int32 × (Nat → Int32) × (Nat → Int32) × (Nat → Int32) × (Nat → Int32) × (Nat → Int32) × (Nat → Int32))} (C0 : gX p s m args meth c cX9_keeps 6 none RX9 g A) (hk93 : ∀ (v_sheepFirst : Int32) (v_sheepMany : Int32) (v_holdNow : Nat → Int32) (v_handAt : Nat → Int32) (v_holdAt : Nat → Int32) (v_standAt : Nat → Int32) (v_highAt : Nat → Int32) (v_throughAt : Nat → Int32) (x1 : Int32) (x2 : Int32) (x3 : Int32), k93 v_sheepFirst v_sheepMany v_holdNow v_handAt v_holdAt v_standAt v_highAt v_throughAt x1 x2 x3 = some r → ∀ (H : Heap) (locs : List Loc) (ls : Array Slot), gW g A s (W_m_keeps g h0 h1 h2 h3 h4 h5 h6 h7 h8 h9 h10 h11 h12 h13 h14 h15 h16 h17 h18 h19 h20 h21 h22 h23 h24 h25 h26 h27 h28 h29 h30 v_courses v_wide v_hands v_jumpTold v_frosts v_gaps v_frostsNow v_notFrosts v_gapsNow v_fell v_fellAll v_sheepFirst v_sheepMany v_seens v_finding v_moods v_strongs v_wall v_holdNow v_handAt v_holdAt v_standAt v_highAt v_throughAt) H locs → lv_has ls 6 [(0, .ref h0), (1, .int x1), (2, .int x2), (3, .int x3)] → W p l e rm_m_keeps s m args below meth c H locs 0 0 (gQv below args s A g (W_m_keeps g h0 h1 h2 h3 h4 h5 h6 h7 h8 h9 h10 h11 h12 h13 h14 h15 h16 h17 h18 h19 h20 h21 h22 h23 h24 h25 h26 h27 h28 h29 h30 v_courses v_wide v_hands v_jumpTold v_frosts v_gaps v_frostsNow v_notFrosts v_gapsNow v_fell v_fellAll r.1 r.2.1 v_seens v_finding v_moods v_strongs v_wall r.2.2.1 r.2.2.2.1 r.2.2.2.2.1 r.2.2.2.2.2.1 r.2.2.2.2.2.2.1 r.2.2.2.2.2.2.2)) (F0 m 93 ls [])) : ∀ (v_sheepFirst : Int32) (v_sheepMany : Int32) (v_holdNow : Nat → Int32) (v_handAt : Nat → Int32) (v_holdAt : Nat → Int32) (v_standAt : Nat → Int32) (v_highAt : Nat → Int32) (v_throughAt : Nat → Int32) (x1 : Int32) (x2 : Int32) (x3 : Int32), f_m_keeps_N93 v_courses v_wide v_hands v_jumpTold v_moods v_strongs v_wall k93 v_sheepFirst v_sheepMany v_holdNow v_handAt v_holdAt v_standAt v_highAt v_throughAt x1 x2 x3 = some r → ∀ (H : Heap) (locs : List Loc) (ls : Array Slot), gW g A s (W_m_keeps g h0 h1 h2 h3 h4 h5 h6 h7 h8 h9 h10 h11 h12 h13 h14 h15 h16 h17 h18 h19 h20 h21 h22 h23 h24 h25 h26 h27 h28 h29 h30 v_courses v_wide v_hands v_jumpTold v_frosts v_gaps v_frostsNow v_notFrosts v_gapsNow v_fell v_fellAll v_sheepFirst v_sheepMany v_seens v_finding v_moods v_strongs v_wall v_holdNow v_handAt v_holdAt v_standAt v_highAt v_throughAt) H locs → lv_has ls 6 [(0, .ref h0), (1, .int x1), (2, .int x2), (3, .int x3)] → W p l e rm_m_keeps s m args below meth c H locs 0 0 (gQv below args s A g (W_m_keeps g h0 h1 h2 h3 h4 h5 h6 h7 h8 h9 h10 h11 h12 h13 h14 h15 h16 h17 h18 h19 h20 h21 h22 h23 h24 h25 h26 h27 h28 h29 h30 v_courses v_wide v_hands v_jumpTold v_frosts v_gaps v_frostsNow v_notFrosts v_gapsNow v_fell v_fellAll r.1 r.2.1 v_seens v_finding v_moods v_strongs v_wall r.2.2.1 r.2.2.2.1 r.2.2.2.2.1 r.2.2.2.2.2.1 r.2.2.2.2.2.2.1 r.2.2.2.2.2.2.2)) (F0 m 93 ls []) := by
  intro v_sheepFirst v_sheepMany v_holdNow v_handAt v_holdAt v_standAt v_highAt v_throughAt x1 x2 x3 hm H locs ls hw hl
  unfold f_m_keeps_N93 at hm
  obtain ⟨hx, hb, hr, hml, hown, hts, hlocks, hK, hA⟩ := id C0
  refine lv_iload_n hx hb dX9_keeps_93 rfl (lv_at hl 3 rfl) ?_
  refine lv_aload_n hx hb dX9_keeps_94 rfl (lv_at hl 0 rfl) ?_
  refine gGet C0 hw flX9_121 0 rfl rfl dX9_keeps_95 ?_
  refine lv_icmp_ge (tgt := 209) hx hb dX9_keeps_98 (by decide) (fun hc => ?_) (fun hc => ?_)
  · have hm := ipos hc hm
    refine lv_aload_n hx hb dX9_keeps_209 rfl (lv_at hl 0 rfl) ?_
    refine lv_iload_n hx hb dX9_keeps_210 rfl (lv_at hl 2 rfl) ?_
    refine lv_if_eq (tgt := 226) hx hb dX9_keeps_211 (by decide) (fun hc => ?_) (fun hc => ?_)
    · have hm := ipos hc hm
      exact n_m_keeps_N226 C0  _ _ _ _ _ _ _ _ _ hm _ _ _ hw (lv_sub hl [0, 2] rfl)
    · have hm := ineg hc hm
      refine lv_aload_n hx hb dX9_keeps_214 rfl (lv_at hl 0 rfl) ?_
      refine gGet C0 hw flX9_231 0 rfl rfl dX9_keeps_215 ?_
      refine lv_iconst (v := -1) hx hb dX9_keeps_218 (by decide) ?_
      refine lv_icmp_ne (tgt := 226) hx hb dX9_keeps_219 (by decide) (fun hc => ?_) (fun hc => ?_)
      · have hm := ineg hc hm
        exact n_m_keeps_N226 C0  _ _ _ _ _ _ _ _ _ hm _ _ _ hw (lv_sub hl [0, 2] rfl)
      · have hm := ipos hc hm
        refine lv_iload_n hx hb dX9_keeps_222 rfl (lv_at hl 1 rfl) ?_
        refine lv_goto (tgt := 230) hx hb dX9_keeps_223 (by decide) ?_
        exact n_m_keeps_N230 C0  _ _ _ _ _ _ _ _ _ _ hm _ _ _ hw (lv_sub hl [0, 2] rfl)
  · have hm := ineg hc hm
    refine lv_iconst (v := 0) hx hb dX9_keeps_101 (by decide) ?_
    refine lv_istore (lv' := [(4, .int (0 : Int32)), (0, .ref h0), (1, .int x1), (2, .int x2), (3, .int x3)]) hx hb dX9_keeps_102 hl (by decide) rfl (fun ls hl => ?_)
    refine lv_iconst (v := 0) hx hb dX9_keeps_104 (by decide) ?_
    refine lv_istore (lv' := [(5, .int (0 : Int32)), (4, .int (0 : Int32)), (0, .ref h0), (1, .int x1), (2, .int x2), (3, .int x3)]) hx hb dX9_keeps_105 hl (by decide) rfl (fun ls hl => ?_)
    exact l_m_keeps_N107 C0 hk93 1000 _ _ _ _ _ _ _ _ _ _ _ _ _ hm _ _ _ hw (lv_sub hl [2, 3, 4, 5, 1, 0] rfl)
set_option maxHeartbeats 1000000 in
set_option maxRecDepth 100000 in
theorem l_m_keeps_N93 {p : Program} {l : Launch} {e : Env} {s : State} {m : MethodId} {args : Array Value} {below : List Frame} {meth : Method} {c : Code} {A : Nat → Prop} {g : gG} {h0 h1 h2 h3 h4 h5 h6 h7 h8 h9 h10 h11 h12 h13 h14 h15 h16 h17 h18 h19 h20 h21 h22 h23 h24 h25 h26 h27 h28 h29 h30 : Nat} {v_courses : Int32} {v_wide : Int32} {v_hands : Int32} {v_jumpTold : Int32} {v_frosts : Int32} {v_gaps : Int32} {v_frostsNow : Int32} {v_notFrosts : Int32} {v_gapsNow : Int32} {v_fell : Int32} {v_fellAll : Int32} {v_seens : Int32} {v_finding : Int32} {v_moods : Nat → Int32} {v_strongs : Nat → Int32} {v_wall : Nat → Int32} {r : (Int32 × Int32 × (Nat → Int32) × (Nat → Int32) × (Nat → Int32) × (Nat → Int32) × (Nat → Int32) × (Nat → Int32))} (C0 : gX p s m args meth c cX9_keeps 6 none RX9 g A) : ∀ n : Nat, ∀ (v_sheepFirst : Int32) (v_sheepMany : Int32) (v_holdNow : Nat → Int32) (v_handAt : Nat → Int32) (v_holdAt : Nat → Int32) (v_standAt : Nat → Int32) (v_highAt : Nat → Int32) (v_throughAt : Nat → Int32) (x1 : Int32) (x2 : Int32) (x3 : Int32), iter (fun _ _ _ _ _ _ _ _ _ _ _ => none) (f_m_keeps_N93 v_courses v_wide v_hands v_jumpTold v_moods v_strongs v_wall) n v_sheepFirst v_sheepMany v_holdNow v_handAt v_holdAt v_standAt v_highAt v_throughAt x1 x2 x3 = some r → ∀ (H : Heap) (locs : List Loc) (ls : Array Slot), gW g A s (W_m_keeps g h0 h1 h2 h3 h4 h5 h6 h7 h8 h9 h10 h11 h12 h13 h14 h15 h16 h17 h18 h19 h20 h21 h22 h23 h24 h25 h26 h27 h28 h29 h30 v_courses v_wide v_hands v_jumpTold v_frosts v_gaps v_frostsNow v_notFrosts v_gapsNow v_fell v_fellAll v_sheepFirst v_sheepMany v_seens v_finding v_moods v_strongs v_wall v_holdNow v_handAt v_holdAt v_standAt v_highAt v_throughAt) H locs → lv_has ls 6 [(0, .ref h0), (1, .int x1), (2, .int x2), (3, .int x3)] → W p l e rm_m_keeps s m args below meth c H locs 0 0 (gQv below args s A g (W_m_keeps g h0 h1 h2 h3 h4 h5 h6 h7 h8 h9 h10 h11 h12 h13 h14 h15 h16 h17 h18 h19 h20 h21 h22 h23 h24 h25 h26 h27 h28 h29 h30 v_courses v_wide v_hands v_jumpTold v_frosts v_gaps v_frostsNow v_notFrosts v_gapsNow v_fell v_fellAll r.1 r.2.1 v_seens v_finding v_moods v_strongs v_wall r.2.2.1 r.2.2.2.1 r.2.2.2.2.1 r.2.2.2.2.2.1 r.2.2.2.2.2.2.1 r.2.2.2.2.2.2.2)) (F0 m 93 ls []) := by
  intro n
  induction n with
  | zero =>
    intro v_sheepFirst v_sheepMany v_holdNow v_handAt v_holdAt v_standAt v_highAt v_throughAt x1 x2 x3 hm
    cases hm
  | succ n ih =>
    exact n_m_keeps_N93 C0  ih
set_option maxHeartbeats 1000000 in
set_option maxRecDepth 100000 in
theorem n_m_keeps_N83 {p : Program} {l : Launch} {e : Env} {s : State} {m : MethodId} {args : Array Value} {below : List Frame} {meth : Method} {c : Code} {A : Nat → Prop} {g : gG} {h0 h1 h2 h3 h4 h5 h6 h7 h8 h9 h10 h11 h12 h13 h14 h15 h16 h17 h18 h19 h20 h21 h22 h23 h24 h25 h26 h27 h28 h29 h30 : Nat} {v_courses : Int32} {v_wide : Int32} {v_hands : Int32} {v_jumpTold : Int32} {v_frosts : Int32} {v_gaps : Int32} {v_frostsNow : Int32} {v_notFrosts : Int32} {v_gapsNow : Int32} {v_fell : Int32} {v_fellAll : Int32} {v_seens : Int32} {v_finding : Int32} {v_moods : Nat → Int32} {v_strongs : Nat → Int32} {v_wall : Nat → Int32} {k15 : Int32 → Int32 → (Nat → Int32) → (Nat → Int32) → (Nat → Int32) → (Nat → Int32) → (Nat → Int32) → (Nat → Int32) → Int32 → Int32 → Int32 → Option (Int32 × Int32 × (Nat → Int32) × (Nat → Int32) × (Nat → Int32) × (Nat → Int32) × (Nat → Int32) × (Nat → Int32))} {r : (Int32 × Int32 × (Nat → Int32) × (Nat → Int32) × (Nat → Int32) × (Nat → Int32) × (Nat → Int32) × (Nat → Int32))} (C0 : gX p s m args meth c cX9_keeps 6 none RX9 g A) (hk15 : ∀ (v_sheepFirst : Int32) (v_sheepMany : Int32) (v_holdNow : Nat → Int32) (v_handAt : Nat → Int32) (v_holdAt : Nat → Int32) (v_standAt : Nat → Int32) (v_highAt : Nat → Int32) (v_throughAt : Nat → Int32) (x1 : Int32) (x2 : Int32) (x3 : Int32), k15 v_sheepFirst v_sheepMany v_holdNow v_handAt v_holdAt v_standAt v_highAt v_throughAt x1 x2 x3 = some r → ∀ (H : Heap) (locs : List Loc) (ls : Array Slot), gW g A s (W_m_keeps g h0 h1 h2 h3 h4 h5 h6 h7 h8 h9 h10 h11 h12 h13 h14 h15 h16 h17 h18 h19 h20 h21 h22 h23 h24 h25 h26 h27 h28 h29 h30 v_courses v_wide v_hands v_jumpTold v_frosts v_gaps v_frostsNow v_notFrosts v_gapsNow v_fell v_fellAll v_sheepFirst v_sheepMany v_seens v_finding v_moods v_strongs v_wall v_holdNow v_handAt v_holdAt v_standAt v_highAt v_throughAt) H locs → lv_has ls 6 [(0, .ref h0), (1, .int x1), (2, .int x2), (3, .int x3)] → W p l e rm_m_keeps s m args below meth c H locs 0 0 (gQv below args s A g (W_m_keeps g h0 h1 h2 h3 h4 h5 h6 h7 h8 h9 h10 h11 h12 h13 h14 h15 h16 h17 h18 h19 h20 h21 h22 h23 h24 h25 h26 h27 h28 h29 h30 v_courses v_wide v_hands v_jumpTold v_frosts v_gaps v_frostsNow v_notFrosts v_gapsNow v_fell v_fellAll r.1 r.2.1 v_seens v_finding v_moods v_strongs v_wall r.2.2.1 r.2.2.2.1 r.2.2.2.2.1 r.2.2.2.2.2.1 r.2.2.2.2.2.2.1 r.2.2.2.2.2.2.2)) (F0 m 15 ls [])) : ∀ (v_sheepFirst : Int32) (v_sheepMany : Int32) (v_holdNow : Nat → Int32) (v_handAt : Nat → Int32) (v_holdAt : Nat → Int32) (v_standAt : Nat → Int32) (v_highAt : Nat → Int32) (v_throughAt : Nat → Int32) (x1 : Int32) (x2 : Int32) (x3 : Int32) (y1 : Int32) (y2 : Int32) (y3 : Int32), f_m_keeps_N83 v_courses v_wide v_hands v_jumpTold v_moods v_strongs v_wall k15 v_sheepFirst v_sheepMany v_holdNow v_handAt v_holdAt v_standAt v_highAt v_throughAt x1 x2 x3 y1 y2 y3 = some r → ∀ (H : Heap) (locs : List Loc) (ls : Array Slot), gW g A s (W_m_keeps g h0 h1 h2 h3 h4 h5 h6 h7 h8 h9 h10 h11 h12 h13 h14 h15 h16 h17 h18 h19 h20 h21 h22 h23 h24 h25 h26 h27 h28 h29 h30 v_courses v_wide v_hands v_jumpTold v_frosts v_gaps v_frostsNow v_notFrosts v_gapsNow v_fell v_fellAll v_sheepFirst v_sheepMany v_seens v_finding v_moods v_strongs v_wall v_holdNow v_handAt v_holdAt v_standAt v_highAt v_throughAt) H locs → lv_has ls 6 [(0, .ref h0), (1, .int x1), (2, .int x2), (3, .int x3)] → W p l e rm_m_keeps s m args below meth c H locs 0 0 (gQv below args s A g (W_m_keeps g h0 h1 h2 h3 h4 h5 h6 h7 h8 h9 h10 h11 h12 h13 h14 h15 h16 h17 h18 h19 h20 h21 h22 h23 h24 h25 h26 h27 h28 h29 h30 v_courses v_wide v_hands v_jumpTold v_frosts v_gaps v_frostsNow v_notFrosts v_gapsNow v_fell v_fellAll r.1 r.2.1 v_seens v_finding v_moods v_strongs v_wall r.2.2.1 r.2.2.2.1 r.2.2.2.2.1 r.2.2.2.2.2.1 r.2.2.2.2.2.2.1 r.2.2.2.2.2.2.2)) (F0 m 83 ls [.int y3, .int y2, .int y1, .ref h7]) := by
  intro v_sheepFirst v_sheepMany v_holdNow v_handAt v_holdAt v_standAt v_highAt v_throughAt x1 x2 x3 y1 y2 y3 hm H locs ls hw hl
  unfold f_m_keeps_N83 at hm
  obtain ⟨hx, hb, hr, hml, hown, hts, hlocks, hK, hA⟩ := id C0
  refine lv_iadd hx hb dX9_keeps_83 ?_
  obtain ⟨hin, hm⟩ := gdE hm
  have hin := inbE hin
  refine gAstI (ws' := (W_m_keeps g h0 h1 h2 h3 h4 h5 h6 h7 h8 h9 h10 h11 h12 h13 h14 h15 h16 h17 h18 h19 h20 h21 h22 h23 h24 h25 h26 h27 h28 h29 h30 v_courses v_wide v_hands v_jumpTold v_frosts v_gaps v_frostsNow v_notFrosts v_gapsNow v_fell v_fellAll v_sheepFirst v_sheepMany v_seens v_finding v_moods v_strongs v_wall v_holdNow v_handAt v_holdAt (upd v_standAt y1.toNatClampNeg (y2 + y3)) v_highAt v_throughAt)) C0 hw 7 rfl hin rfl dX9_keeps_84 (fun H locs hw => ?_)
  refine lv_iinc (v := x3 + (1 : Int32)) (lv' := [(3, .int (x3 + (1 : Int32))), (0, .ref h0), (1, .int x1), (2, .int x2)]) hx hb dX9_keeps_85 hl (k := 3) rfl rfl (by decide) rfl (fun ls hl => ?_)
  refine lv_goto (tgt := 15) hx hb dX9_keeps_88 (by decide) ?_
  exact hk15 _ _ _ _ _ _ _ _ _ _ _ hm _ _ _ hw (lv_sub hl [1, 2, 3, 0] rfl)
set_option maxHeartbeats 1000000 in
set_option maxRecDepth 100000 in
theorem n_m_keeps_N15 {p : Program} {l : Launch} {e : Env} {s : State} {m : MethodId} {args : Array Value} {below : List Frame} {meth : Method} {c : Code} {A : Nat → Prop} {g : gG} {h0 h1 h2 h3 h4 h5 h6 h7 h8 h9 h10 h11 h12 h13 h14 h15 h16 h17 h18 h19 h20 h21 h22 h23 h24 h25 h26 h27 h28 h29 h30 : Nat} {v_courses : Int32} {v_wide : Int32} {v_hands : Int32} {v_jumpTold : Int32} {v_frosts : Int32} {v_gaps : Int32} {v_frostsNow : Int32} {v_notFrosts : Int32} {v_gapsNow : Int32} {v_fell : Int32} {v_fellAll : Int32} {v_seens : Int32} {v_finding : Int32} {v_moods : Nat → Int32} {v_strongs : Nat → Int32} {v_wall : Nat → Int32} {k15 : Int32 → Int32 → (Nat → Int32) → (Nat → Int32) → (Nat → Int32) → (Nat → Int32) → (Nat → Int32) → (Nat → Int32) → Int32 → Int32 → Int32 → Option (Int32 × Int32 × (Nat → Int32) × (Nat → Int32) × (Nat → Int32) × (Nat → Int32) × (Nat → Int32) × (Nat → Int32))} {r : (Int32 × Int32 × (Nat → Int32) × (Nat → Int32) × (Nat → Int32) × (Nat → Int32) × (Nat → Int32) × (Nat → Int32))} (C0 : gX p s m args meth c cX9_keeps 6 none RX9 g A) (hk15 : ∀ (v_sheepFirst : Int32) (v_sheepMany : Int32) (v_holdNow : Nat → Int32) (v_handAt : Nat → Int32) (v_holdAt : Nat → Int32) (v_standAt : Nat → Int32) (v_highAt : Nat → Int32) (v_throughAt : Nat → Int32) (x1 : Int32) (x2 : Int32) (x3 : Int32), k15 v_sheepFirst v_sheepMany v_holdNow v_handAt v_holdAt v_standAt v_highAt v_throughAt x1 x2 x3 = some r → ∀ (H : Heap) (locs : List Loc) (ls : Array Slot), gW g A s (W_m_keeps g h0 h1 h2 h3 h4 h5 h6 h7 h8 h9 h10 h11 h12 h13 h14 h15 h16 h17 h18 h19 h20 h21 h22 h23 h24 h25 h26 h27 h28 h29 h30 v_courses v_wide v_hands v_jumpTold v_frosts v_gaps v_frostsNow v_notFrosts v_gapsNow v_fell v_fellAll v_sheepFirst v_sheepMany v_seens v_finding v_moods v_strongs v_wall v_holdNow v_handAt v_holdAt v_standAt v_highAt v_throughAt) H locs → lv_has ls 6 [(0, .ref h0), (1, .int x1), (2, .int x2), (3, .int x3)] → W p l e rm_m_keeps s m args below meth c H locs 0 0 (gQv below args s A g (W_m_keeps g h0 h1 h2 h3 h4 h5 h6 h7 h8 h9 h10 h11 h12 h13 h14 h15 h16 h17 h18 h19 h20 h21 h22 h23 h24 h25 h26 h27 h28 h29 h30 v_courses v_wide v_hands v_jumpTold v_frosts v_gaps v_frostsNow v_notFrosts v_gapsNow v_fell v_fellAll r.1 r.2.1 v_seens v_finding v_moods v_strongs v_wall r.2.2.1 r.2.2.2.1 r.2.2.2.2.1 r.2.2.2.2.2.1 r.2.2.2.2.2.2.1 r.2.2.2.2.2.2.2)) (F0 m 15 ls [])) : ∀ (v_sheepFirst : Int32) (v_sheepMany : Int32) (v_holdNow : Nat → Int32) (v_handAt : Nat → Int32) (v_holdAt : Nat → Int32) (v_standAt : Nat → Int32) (v_highAt : Nat → Int32) (v_throughAt : Nat → Int32) (x1 : Int32) (x2 : Int32) (x3 : Int32), f_m_keeps_N15 v_courses v_wide v_hands v_jumpTold v_moods v_strongs v_wall k15 v_sheepFirst v_sheepMany v_holdNow v_handAt v_holdAt v_standAt v_highAt v_throughAt x1 x2 x3 = some r → ∀ (H : Heap) (locs : List Loc) (ls : Array Slot), gW g A s (W_m_keeps g h0 h1 h2 h3 h4 h5 h6 h7 h8 h9 h10 h11 h12 h13 h14 h15 h16 h17 h18 h19 h20 h21 h22 h23 h24 h25 h26 h27 h28 h29 h30 v_courses v_wide v_hands v_jumpTold v_frosts v_gaps v_frostsNow v_notFrosts v_gapsNow v_fell v_fellAll v_sheepFirst v_sheepMany v_seens v_finding v_moods v_strongs v_wall v_holdNow v_handAt v_holdAt v_standAt v_highAt v_throughAt) H locs → lv_has ls 6 [(0, .ref h0), (1, .int x1), (2, .int x2), (3, .int x3)] → W p l e rm_m_keeps s m args below meth c H locs 0 0 (gQv below args s A g (W_m_keeps g h0 h1 h2 h3 h4 h5 h6 h7 h8 h9 h10 h11 h12 h13 h14 h15 h16 h17 h18 h19 h20 h21 h22 h23 h24 h25 h26 h27 h28 h29 h30 v_courses v_wide v_hands v_jumpTold v_frosts v_gaps v_frostsNow v_notFrosts v_gapsNow v_fell v_fellAll r.1 r.2.1 v_seens v_finding v_moods v_strongs v_wall r.2.2.1 r.2.2.2.1 r.2.2.2.2.1 r.2.2.2.2.2.1 r.2.2.2.2.2.2.1 r.2.2.2.2.2.2.2)) (F0 m 15 ls []) := by
  intro v_sheepFirst v_sheepMany v_holdNow v_handAt v_holdAt v_standAt v_highAt v_throughAt x1 x2 x3 hm H locs ls hw hl
  unfold f_m_keeps_N15 at hm
  obtain ⟨hx, hb, hr, hml, hown, hts, hlocks, hK, hA⟩ := id C0
  refine lv_iload_n hx hb dX9_keeps_15 rfl (lv_at hl 3 rfl) ?_
  refine lv_bipush (v := 40) hx hb dX9_keeps_16 (by decide) ?_
  refine lv_icmp_ge (tgt := 91) hx hb dX9_keeps_18 (by decide) (fun hc => ?_) (fun hc => ?_)
  · have hm := ipos hc hm
    refine lv_iconst (v := 0) hx hb dX9_keeps_91 (by decide) ?_
    refine lv_istore_n (lv' := [(3, .int (0 : Int32)), (0, .ref h0), (1, .int x1), (2, .int x2)]) hx hb dX9_keeps_92 rfl hl (by decide) rfl (fun ls hl => ?_)
    exact l_m_keeps_N93 C0  1000 _ _ _ _ _ _ _ _ _ _ _ hm _ _ _ hw (lv_sub hl [1, 2, 3, 0] rfl)
  · have hm := ineg hc hm
    refine lv_aload_n hx hb dX9_keeps_21 rfl (lv_at hl 0 rfl) ?_
    refine gGet C0 hw flX9_55 0 rfl rfl dX9_keeps_22 ?_
    refine lv_bipush (v := 40) hx hb dX9_keeps_25 (by decide) ?_
    refine lv_iload_n hx hb dX9_keeps_27 rfl (lv_at hl 1 rfl) ?_
    refine lv_imul hx hb dX9_keeps_28 ?_
    refine lv_iload_n hx hb dX9_keeps_29 rfl (lv_at hl 3 rfl) ?_
    refine lv_iadd hx hb dX9_keeps_30 ?_
    refine lv_aload_n hx hb dX9_keeps_31 rfl (lv_at hl 0 rfl) ?_
    refine lv_iload_n hx hb dX9_keeps_32 rfl (lv_at hl 3 rfl) ?_
    refine lv_bipush (v := 8) hx hb dX9_keeps_33 (by decide) ?_
    refine lv_idiv hx hb dX9_keeps_35 (by decide) ?_
    refine lv_iload_n hx hb dX9_keeps_36 rfl (lv_at hl 3 rfl) ?_
    refine lv_bipush (v := 8) hx hb dX9_keeps_37 (by decide) ?_
    refine lv_irem hx hb dX9_keeps_39 (by decide) ?_
    obtain ⟨o40, ho40, hm⟩ := bindE hm
    refine gCalli (ws' := (W_m_keeps g h0 h1 h2 h3 h4 h5 h6 h7 h8 h9 h10 h11 h12 h13 h14 h15 h16 h17 h18 h19 h20 h21 h22 h23 h24 h25 h26 h27 h28 h29 h30 v_courses v_wide v_hands v_jumpTold v_frosts v_gaps v_frostsNow v_notFrosts v_gapsNow v_fell v_fellAll v_sheepFirst v_sheepMany v_seens v_finding v_moods v_strongs v_wall v_holdNow v_handAt v_holdAt v_standAt v_highAt v_throughAt)) C0 hw (gRunV (As := [.int (x3 / (8 : Int32)), .int (x3 - x3 / (8 : Int32) * (8 : Int32))]) (rest := [.int (((40 : Int32) * x1) + x3), .ref h5]) C0 hw lkX9_194 (c_m_handNow l g H.size h0 h3 h10 h11 h12 h1 h2 h13 h14 h15 h16 h17 h18 h19 h4 h20 h5 h6 h21 h7 h8 h9 h22 h23 h24 h25 h26 h27 h28 h29 h30 v_courses v_wide v_hands v_jumpTold v_frosts v_gaps v_frostsNow v_notFrosts v_gapsNow v_fell v_fellAll v_sheepFirst v_sheepMany v_seens v_finding v_wall (x3 / (8 : Int32)) (x3 - x3 / (8 : Int32) * (8 : Int32)) o40 ho40) ⟨rfl, rfl⟩ ⟨Nat.le_of_ble_eq_true rfl, Nat.le_of_ble_eq_true rfl⟩ [0, 3] (by decide) rfl 0 rfl rfl rfl hl.1 rfl (Nat.le_of_ble_eq_true rfl) dX9_keeps_40) [0, 3] [1, 2, 4, 5, 6, 7, 8, 9] rfl rfl ⟨rfl, rfl, rfl, rfl, rfl, rfl, rfl, rfl, trivial⟩ [h0, h1, h2, h3, h4, h5, h6, h7, h8, h9] rfl rfl 10 rfl (by decide +kernel) (fun H locs hw => ?_)
    obtain ⟨hin, hm⟩ := gdE hm
    have hin := inbE hin
    refine gAstI (ws' := (W_m_keeps g h0 h1 h2 h3 h4 h5 h6 h7 h8 h9 h10 h11 h12 h13 h14 h15 h16 h17 h18 h19 h20 h21 h22 h23 h24 h25 h26 h27 h28 h29 h30 v_courses v_wide v_hands v_jumpTold v_frosts v_gaps v_frostsNow v_notFrosts v_gapsNow v_fell v_fellAll v_sheepFirst v_sheepMany v_seens v_finding v_moods v_strongs v_wall v_holdNow (upd v_handAt (((40 : Int32) * x1) + x3).toNatClampNeg o40) v_holdAt v_standAt v_highAt v_throughAt)) C0 hw 5 rfl hin rfl dX9_keeps_43 (fun H locs hw => ?_)
    refine lv_aload_n hx hb dX9_keeps_44 rfl (lv_at hl 0 rfl) ?_
    refine gGet C0 hw flX9_58 0 rfl rfl dX9_keeps_45 ?_
    refine lv_bipush (v := 40) hx hb dX9_keeps_48 (by decide) ?_
    refine lv_iload_n hx hb dX9_keeps_50 rfl (lv_at hl 1 rfl) ?_
    refine lv_imul hx hb dX9_keeps_51 ?_
    refine lv_iload_n hx hb dX9_keeps_52 rfl (lv_at hl 3 rfl) ?_
    refine lv_iadd hx hb dX9_keeps_53 ?_
    refine lv_aload_n hx hb dX9_keeps_54 rfl (lv_at hl 0 rfl) ?_
    refine gGet C0 hw flX9_49 0 rfl rfl dX9_keeps_55 ?_
    refine lv_iload_n hx hb dX9_keeps_58 rfl (lv_at hl 3 rfl) ?_
    obtain ⟨hin, hm⟩ := gdE hm
    have hin := inbE hin
    refine gAldI C0 hw 4 rfl hin dX9_keeps_59 ?_
    obtain ⟨hin, hm⟩ := gdE hm
    have hin := inbE hin
    refine gAstI (ws' := (W_m_keeps g h0 h1 h2 h3 h4 h5 h6 h7 h8 h9 h10 h11 h12 h13 h14 h15 h16 h17 h18 h19 h20 h21 h22 h23 h24 h25 h26 h27 h28 h29 h30 v_courses v_wide v_hands v_jumpTold v_frosts v_gaps v_frostsNow v_notFrosts v_gapsNow v_fell v_fellAll v_sheepFirst v_sheepMany v_seens v_finding v_moods v_strongs v_wall v_holdNow (upd v_handAt (((40 : Int32) * x1) + x3).toNatClampNeg o40) (upd v_holdAt (((40 : Int32) * x1) + x3).toNatClampNeg (v_holdNow x3.toNatClampNeg)) v_standAt v_highAt v_throughAt)) C0 hw 6 rfl hin rfl dX9_keeps_60 (fun H locs hw => ?_)
    refine lv_aload_n hx hb dX9_keeps_61 rfl (lv_at hl 0 rfl) ?_
    refine gGet C0 hw flX9_64 0 rfl rfl dX9_keeps_62 ?_
    refine lv_iload_n hx hb dX9_keeps_65 rfl (lv_at hl 1 rfl) ?_
    refine lv_dup2_11 hx hb dX9_keeps_66 rfl rfl ?_
    obtain ⟨hin, hm⟩ := gdE hm
    have hin := inbE hin
    refine gAldI C0 hw 7 rfl hin dX9_keeps_67 ?_
    refine lv_aload_n hx hb dX9_keeps_68 rfl (lv_at hl 0 rfl) ?_
    refine gGet C0 hw flX9_49 0 rfl rfl dX9_keeps_69 ?_
    refine lv_iload_n hx hb dX9_keeps_72 rfl (lv_at hl 3 rfl) ?_
    obtain ⟨hin, hm⟩ := gdE hm
    have hin := inbE hin
    refine gAldI C0 hw 4 rfl hin dX9_keeps_73 ?_
    refine lv_iconst (v := -1) hx hb dX9_keeps_74 (by decide) ?_
    refine lv_icmp_ne (tgt := 82) hx hb dX9_keeps_75 (by decide) (fun hc => ?_) (fun hc => ?_)
    · have hm := ineg hc hm
      refine lv_iconst (v := 1) hx hb dX9_keeps_82 (by decide) ?_
      exact n_m_keeps_N83 C0 hk15 _ _ _ _ _ _ _ _ _ _ _ _ _ _ hm _ _ _ hw (lv_sub hl [0, 1, 2, 3] rfl)
    · have hm := ipos hc hm
      refine lv_iconst (v := 0) hx hb dX9_keeps_78 (by decide) ?_
      refine lv_goto (tgt := 83) hx hb dX9_keeps_79 (by decide) ?_
      exact n_m_keeps_N83 C0 hk15 _ _ _ _ _ _ _ _ _ _ _ _ _ _ hm _ _ _ hw (lv_sub hl [0, 1, 2, 3] rfl)
set_option maxHeartbeats 1000000 in
set_option maxRecDepth 100000 in
theorem l_m_keeps_N15 {p : Program} {l : Launch} {e : Env} {s : State} {m : MethodId} {args : Array Value} {below : List Frame} {meth : Method} {c : Code} {A : Nat → Prop} {g : gG} {h0 h1 h2 h3 h4 h5 h6 h7 h8 h9 h10 h11 h12 h13 h14 h15 h16 h17 h18 h19 h20 h21 h22 h23 h24 h25 h26 h27 h28 h29 h30 : Nat} {v_courses : Int32} {v_wide : Int32} {v_hands : Int32} {v_jumpTold : Int32} {v_frosts : Int32} {v_gaps : Int32} {v_frostsNow : Int32} {v_notFrosts : Int32} {v_gapsNow : Int32} {v_fell : Int32} {v_fellAll : Int32} {v_seens : Int32} {v_finding : Int32} {v_moods : Nat → Int32} {v_strongs : Nat → Int32} {v_wall : Nat → Int32} {r : (Int32 × Int32 × (Nat → Int32) × (Nat → Int32) × (Nat → Int32) × (Nat → Int32) × (Nat → Int32) × (Nat → Int32))} (C0 : gX p s m args meth c cX9_keeps 6 none RX9 g A) : ∀ n : Nat, ∀ (v_sheepFirst : Int32) (v_sheepMany : Int32) (v_holdNow : Nat → Int32) (v_handAt : Nat → Int32) (v_holdAt : Nat → Int32) (v_standAt : Nat → Int32) (v_highAt : Nat → Int32) (v_throughAt : Nat → Int32) (x1 : Int32) (x2 : Int32) (x3 : Int32), iter (fun _ _ _ _ _ _ _ _ _ _ _ => none) (f_m_keeps_N15 v_courses v_wide v_hands v_jumpTold v_moods v_strongs v_wall) n v_sheepFirst v_sheepMany v_holdNow v_handAt v_holdAt v_standAt v_highAt v_throughAt x1 x2 x3 = some r → ∀ (H : Heap) (locs : List Loc) (ls : Array Slot), gW g A s (W_m_keeps g h0 h1 h2 h3 h4 h5 h6 h7 h8 h9 h10 h11 h12 h13 h14 h15 h16 h17 h18 h19 h20 h21 h22 h23 h24 h25 h26 h27 h28 h29 h30 v_courses v_wide v_hands v_jumpTold v_frosts v_gaps v_frostsNow v_notFrosts v_gapsNow v_fell v_fellAll v_sheepFirst v_sheepMany v_seens v_finding v_moods v_strongs v_wall v_holdNow v_handAt v_holdAt v_standAt v_highAt v_throughAt) H locs → lv_has ls 6 [(0, .ref h0), (1, .int x1), (2, .int x2), (3, .int x3)] → W p l e rm_m_keeps s m args below meth c H locs 0 0 (gQv below args s A g (W_m_keeps g h0 h1 h2 h3 h4 h5 h6 h7 h8 h9 h10 h11 h12 h13 h14 h15 h16 h17 h18 h19 h20 h21 h22 h23 h24 h25 h26 h27 h28 h29 h30 v_courses v_wide v_hands v_jumpTold v_frosts v_gaps v_frostsNow v_notFrosts v_gapsNow v_fell v_fellAll r.1 r.2.1 v_seens v_finding v_moods v_strongs v_wall r.2.2.1 r.2.2.2.1 r.2.2.2.2.1 r.2.2.2.2.2.1 r.2.2.2.2.2.2.1 r.2.2.2.2.2.2.2)) (F0 m 15 ls []) := by
  intro n
  induction n with
  | zero =>
    intro v_sheepFirst v_sheepMany v_holdNow v_handAt v_holdAt v_standAt v_highAt v_throughAt x1 x2 x3 hm
    cases hm
  | succ n ih =>
    exact n_m_keeps_N15 C0  ih
set_option maxHeartbeats 1000000 in
set_option maxRecDepth 100000 in
theorem c_m_keeps (l : Launch) (g : gG) (sz : Nat) (h0 h1 h2 h3 h4 h5 h6 h7 h8 h9 h10 h11 h12 h13 h14 h15 h16 h17 h18 h19 h20 h21 h22 h23 h24 h25 h26 h27 h28 h29 h30 : Nat) (v_courses : Int32) (v_wide : Int32) (v_hands : Int32) (v_jumpTold : Int32) (v_frosts : Int32) (v_gaps : Int32) (v_frostsNow : Int32) (v_notFrosts : Int32) (v_gapsNow : Int32) (v_fell : Int32) (v_fellAll : Int32) (v_sheepFirst : Int32) (v_sheepMany : Int32) (v_seens : Int32) (v_finding : Int32) (v_moods : Nat → Int32) (v_strongs : Nat → Int32) (v_wall : Nat → Int32) (v_holdNow : Nat → Int32) (v_handAt : Nat → Int32) (v_holdAt : Nat → Int32) (v_standAt : Nat → Int32) (v_highAt : Nat → Int32) (v_throughAt : Nat → Int32) (a0 : Int32) (r : (Int32 × Int32 × (Nat → Int32) × (Nat → Int32) × (Nat → Int32) × (Nat → Int32) × (Nat → Int32) × (Nat → Int32))) (hm : f_m_keeps v_courses v_wide v_hands v_jumpTold v_sheepFirst v_sheepMany v_moods v_strongs v_wall v_holdNow v_handAt v_holdAt v_standAt v_highAt v_throughAt a0 = some r) : gMv l yX9_keeps cX9_keeps 6 none rm_m_keeps g sz [.ref h0, .int a0] (W_m_keeps g h0 h1 h2 h3 h4 h5 h6 h7 h8 h9 h10 h11 h12 h13 h14 h15 h16 h17 h18 h19 h20 h21 h22 h23 h24 h25 h26 h27 h28 h29 h30 v_courses v_wide v_hands v_jumpTold v_frosts v_gaps v_frostsNow v_notFrosts v_gapsNow v_fell v_fellAll v_sheepFirst v_sheepMany v_seens v_finding v_moods v_strongs v_wall v_holdNow v_handAt v_holdAt v_standAt v_highAt v_throughAt) (W_m_keeps g h0 h1 h2 h3 h4 h5 h6 h7 h8 h9 h10 h11 h12 h13 h14 h15 h16 h17 h18 h19 h20 h21 h22 h23 h24 h25 h26 h27 h28 h29 h30 v_courses v_wide v_hands v_jumpTold v_frosts v_gaps v_frostsNow v_notFrosts v_gapsNow v_fell v_fellAll r.1 r.2.1 v_seens v_finding v_moods v_strongs v_wall r.2.2.1 r.2.2.2.1 r.2.2.2.2.1 r.2.2.2.2.2.1 r.2.2.2.2.2.2.1 r.2.2.2.2.2.2.2) := by
  unfold f_m_keeps at hm
  refine gEnterV (by decide) (Nat.le_of_ble_eq_true rfl) (fun p e s m below meth c A C0 H locs hw ls hl => ?_)
  obtain ⟨hx, hb, hr, hml, hown, hts, hlocks, hK, hA⟩ := id C0
  have C0 : gX p s m [.ref h0, .int a0].toArray meth c cX9_keeps 6 none RX9 g A := C0
  have hl : lv_has ls 6 [(0, .ref h0), (1, .int a0)] := hl
  refine lv_iconst (v := 0) hx hb dX9_keeps_0 (by decide) ?_
  refine lv_istore_n (lv' := [(2, .int (0 : Int32)), (0, .ref h0), (1, .int a0)]) hx hb dX9_keeps_1 rfl hl (by decide) rfl (fun ls hl => ?_)
  refine lv_aload_n hx hb dX9_keeps_2 rfl (lv_at hl 1 rfl) ?_
  obtain ⟨o3, ho3, hm⟩ := bindE hm
  refine gCallv (ws' := (W_m_keeps g h0 h1 h2 h3 h4 h5 h6 h7 h8 h9 h10 h11 h12 h13 h14 h15 h16 h17 h18 h19 h20 h21 h22 h23 h24 h25 h26 h27 h28 h29 h30 v_courses v_wide v_hands v_jumpTold v_frosts v_gaps v_frostsNow v_notFrosts v_gapsNow v_fell v_fellAll v_sheepFirst v_sheepMany v_seens v_finding v_moods v_strongs v_wall o3 v_handAt v_holdAt v_standAt v_highAt v_throughAt)) C0 hw (gRunV (As := []) (rest := []) C0 hw lkX9_222 (c_m_holdAll l g H.size h0 h1 h2 h3 h4 h10 h11 h12 h13 h14 h15 h16 h17 h18 h19 h20 h5 h6 h21 h7 h8 h9 h22 h23 h24 h25 h26 h27 h28 h29 h30 v_courses v_wide v_hands v_jumpTold v_frosts v_gaps v_frostsNow v_notFrosts v_gapsNow v_fell v_fellAll v_sheepFirst v_sheepMany v_seens v_finding v_moods v_strongs v_wall v_holdNow o3 ho3) ⟨rfl, rfl⟩ ⟨Nat.le_of_ble_eq_true rfl, Nat.le_of_ble_eq_true rfl⟩ [0, 1, 2, 3, 4] (by decide) rfl 0 rfl rfl rfl hl.1 rfl (Nat.le_of_ble_eq_true rfl) dX9_keeps_3) [0, 1, 2, 3, 4] [5, 6, 7, 8, 9] rfl rfl ⟨rfl, rfl, rfl, rfl, rfl, trivial⟩ [h0, h1, h2, h3, h4, h5, h6, h7, h8, h9] rfl rfl 10 rfl (by decide +kernel) (fun H locs hw => ?_)
  refine lv_aload_n hx hb dX9_keeps_6 rfl (lv_at hl 1 rfl) ?_
  refine gGet C0 hw flX9_64 0 rfl rfl dX9_keeps_7 ?_
  refine lv_iload_n hx hb dX9_keeps_10 rfl (lv_at hl 2 rfl) ?_
  refine lv_iconst (v := 0) hx hb dX9_keeps_11 (by decide) ?_
  obtain ⟨hin, hm⟩ := gdE hm
  have hin := inbE hin
  refine gAstI (ws' := (W_m_keeps g h0 h1 h2 h3 h4 h5 h6 h7 h8 h9 h10 h11 h12 h13 h14 h15 h16 h17 h18 h19 h20 h21 h22 h23 h24 h25 h26 h27 h28 h29 h30 v_courses v_wide v_hands v_jumpTold v_frosts v_gaps v_frostsNow v_notFrosts v_gapsNow v_fell v_fellAll v_sheepFirst v_sheepMany v_seens v_finding v_moods v_strongs v_wall o3 v_handAt v_holdAt (upd v_standAt a0.toNatClampNeg (0 : Int32)) v_highAt v_throughAt)) C0 hw 7 rfl hin rfl dX9_keeps_12 (fun H locs hw => ?_)
  refine lv_iconst (v := 0) hx hb dX9_keeps_13 (by decide) ?_
  refine lv_istore_n (lv' := [(3, .int (0 : Int32)), (2, .int (0 : Int32)), (0, .ref h0), (1, .int a0)]) hx hb dX9_keeps_14 rfl hl (by decide) rfl (fun ls hl => ?_)
  exact l_m_keeps_N15 C0  1000 _ _ _ _ _ _ _ _ _ _ _ hm _ _ _ hw (lv_sub hl [2, 3, 1, 0] rfl)

-- WallHandsModel.goesBy(I)V
abbrev W_m_goesBy (g : gG) (h0 h1 h2 h3 h4 h5 h6 h7 h8 h9 h10 h11 h12 h13 h14 h15 h16 h17 h18 h19 h20 h21 h22 h23 h24 h25 h26 h27 h28 h29 h30 : Nat) (v_courses : Int32) (v_wide : Int32) (v_hands : Int32) (v_jumpTold : Int32) (v_frosts : Int32) (v_gaps : Int32) (v_frostsNow : Int32) (v_notFrosts : Int32) (v_gapsNow : Int32) (v_fell : Int32) (v_fellAll : Int32) (v_sheepFirst : Int32) (v_sheepMany : Int32) (v_seens : Int32) (v_finding : Int32) (v_moods : Nat → Int32) (v_strongs : Nat → Int32) (v_gapYear : Nat → Int32) (v_gapColumn : Nat → Int32) (v_gapHand : Nat → Int32) (v_wall : Nat → Int32) (v_yearNow : Nat → Int32) (v_forceNow : Nat → Int32) (v_holdNow : Nat → Int32) (v_fellOf : Nat → Int32) (v_handAt : Nat → Int32) (v_holdAt : Nat → Int32) (v_fallsAt : Nat → Int32) (v_standAt : Nat → Int32) (v_highAt : Nat → Int32) (v_throughAt : Nat → Int32) : va_W := [(h0, .inr (9, [.ref h17, .ref h18, .int v_courses, .int v_wide, .ref h19, .int v_hands, .ref h1, .ref h2, .int v_jumpTold, .int v_frosts, .ref h20, .ref h21, .int v_gaps, .ref h3, .ref h4, .ref h5, .ref h6, .int v_frostsNow, .ref h7, .ref h8, .int v_notFrosts, .int v_gapsNow, .ref h9, .int v_fell, .int v_fellAll, .ref h10, .ref h11, .ref h12, .ref h13, .ref h14, .ref h15, .ref h16, .int v_sheepFirst, .int v_sheepMany, .int v_seens, .ref h22, .ref h23, .ref h24, .ref h25, .ref h26, .ref h27, .ref h28, .ref h29, .ref h30, .int v_finding])), (h1, .inl (gI g, 9, .inl v_moods)), (h2, .inl (gI g, 9, .inl v_strongs)), (h3, .inl (gI g, 7, .inl v_gapYear)), (h4, .inl (gI g, 7, .inl v_gapColumn)), (h5, .inl (gI g, 7, .inl v_gapHand)), (h6, .inl (gI g, 40, .inl v_wall)), (h7, .inl (gI g, 6, .inl v_yearNow)), (h8, .inl (gI g, 6, .inl v_forceNow)), (h9, .inl (gI g, 40, .inl v_holdNow)), (h10, .inl (gI g, 8, .inl v_fellOf)), (h11, .inl (gI g, 800, .inl v_handAt)), (h12, .inl (gI g, 800, .inl v_holdAt)), (h13, .inl (gI g, 20, .inl v_fallsAt)), (h14, .inl (gI g, 20, .inl v_standAt)), (h15, .inl (gI g, 160, .inl v_highAt)), (h16, .inl (gZ g, 160, .inl v_throughAt))]

abbrev rm_m_goesBy : Room := { frames := 5, cells := 0, slots := 0, locals := 118 }

set_option maxHeartbeats 1000000 in
set_option maxRecDepth 100000 in
theorem n_m_goesBy_N66 {p : Program} {l : Launch} {e : Env} {s : State} {m : MethodId} {args : Array Value} {below : List Frame} {meth : Method} {c : Code} {A : Nat → Prop} {g : gG} {h0 h1 h2 h3 h4 h5 h6 h7 h8 h9 h10 h11 h12 h13 h14 h15 h16 h17 h18 h19 h20 h21 h22 h23 h24 h25 h26 h27 h28 h29 h30 : Nat} {v_courses : Int32} {v_wide : Int32} {v_hands : Int32} {v_jumpTold : Int32} {v_frosts : Int32} {v_gaps : Int32} {v_frostsNow : Int32} {v_notFrosts : Int32} {v_gapsNow : Int32} {v_seens : Int32} {v_finding : Int32} {v_moods : Nat → Int32} {v_strongs : Nat → Int32} {v_gapYear : Nat → Int32} {v_gapColumn : Nat → Int32} {v_gapHand : Nat → Int32} {v_yearNow : Nat → Int32} {v_forceNow : Nat → Int32} {k66 : Int32 → Int32 → Int32 → Int32 → (Nat → Int32) → (Nat → Int32) → (Nat → Int32) → (Nat → Int32) → (Nat → Int32) → (Nat → Int32) → (Nat → Int32) → (Nat → Int32) → (Nat → Int32) → Int32 → Int32 → Option (Int32 × Int32 × Int32 × Int32 × (Nat → Int32) × (Nat → Int32) × (Nat → Int32) × (Nat → Int32) × (Nat → Int32) × (Nat → Int32) × (Nat → Int32) × (Nat → Int32) × (Nat → Int32))} {r : (Int32 × Int32 × Int32 × Int32 × (Nat → Int32) × (Nat → Int32) × (Nat → Int32) × (Nat → Int32) × (Nat → Int32) × (Nat → Int32) × (Nat → Int32) × (Nat → Int32) × (Nat → Int32))} (C0 : gX p s m args meth c cX9_goesBy 4 none RX9 g A) (hk66 : ∀ (v_fell : Int32) (v_fellAll : Int32) (v_sheepFirst : Int32) (v_sheepMany : Int32) (v_wall : Nat → Int32) (v_holdNow : Nat → Int32) (v_fellOf : Nat → Int32) (v_handAt : Nat → Int32) (v_holdAt : Nat → Int32) (v_fallsAt : Nat → Int32) (v_standAt : Nat → Int32) (v_highAt : Nat → Int32) (v_throughAt : Nat → Int32) (x1 : Int32) (x3 : Int32), k66 v_fell v_fellAll v_sheepFirst v_sheepMany v_wall v_holdNow v_fellOf v_handAt v_holdAt v_fallsAt v_standAt v_highAt v_throughAt x1 x3 = some r → ∀ (H : Heap) (locs : List Loc) (ls : Array Slot), gW g A s (W_m_goesBy g h0 h1 h2 h3 h4 h5 h6 h7 h8 h9 h10 h11 h12 h13 h14 h15 h16 h17 h18 h19 h20 h21 h22 h23 h24 h25 h26 h27 h28 h29 h30 v_courses v_wide v_hands v_jumpTold v_frosts v_gaps v_frostsNow v_notFrosts v_gapsNow v_fell v_fellAll v_sheepFirst v_sheepMany v_seens v_finding v_moods v_strongs v_gapYear v_gapColumn v_gapHand v_wall v_yearNow v_forceNow v_holdNow v_fellOf v_handAt v_holdAt v_fallsAt v_standAt v_highAt v_throughAt) H locs → lv_has ls 4 [(0, .ref h0), (1, .int x1), (3, .int x3)] → W p l e rm_m_goesBy s m args below meth c H locs 0 0 (gQv below args s A g (W_m_goesBy g h0 h1 h2 h3 h4 h5 h6 h7 h8 h9 h10 h11 h12 h13 h14 h15 h16 h17 h18 h19 h20 h21 h22 h23 h24 h25 h26 h27 h28 h29 h30 v_courses v_wide v_hands v_jumpTold v_frosts v_gaps v_frostsNow v_notFrosts v_gapsNow r.1 r.2.1 r.2.2.1 r.2.2.2.1 v_seens v_finding v_moods v_strongs v_gapYear v_gapColumn v_gapHand r.2.2.2.2.1 v_yearNow v_forceNow r.2.2.2.2.2.1 r.2.2.2.2.2.2.1 r.2.2.2.2.2.2.2.1 r.2.2.2.2.2.2.2.2.1 r.2.2.2.2.2.2.2.2.2.1 r.2.2.2.2.2.2.2.2.2.2.1 r.2.2.2.2.2.2.2.2.2.2.2.1 r.2.2.2.2.2.2.2.2.2.2.2.2)) (F0 m 66 ls [])) : ∀ (v_fell : Int32) (v_fellAll : Int32) (v_sheepFirst : Int32) (v_sheepMany : Int32) (v_wall : Nat → Int32) (v_holdNow : Nat → Int32) (v_fellOf : Nat → Int32) (v_handAt : Nat → Int32) (v_holdAt : Nat → Int32) (v_fallsAt : Nat → Int32) (v_standAt : Nat → Int32) (v_highAt : Nat → Int32) (v_throughAt : Nat → Int32) (x1 : Int32) (x3 : Int32), f_m_goesBy_N66 v_courses v_wide v_hands v_jumpTold v_frostsNow v_notFrosts v_gapsNow v_moods v_strongs v_gapYear v_gapColumn v_gapHand v_yearNow v_forceNow k66 v_fell v_fellAll v_sheepFirst v_sheepMany v_wall v_holdNow v_fellOf v_handAt v_holdAt v_fallsAt v_standAt v_highAt v_throughAt x1 x3 = some r → ∀ (H : Heap) (locs : List Loc) (ls : Array Slot), gW g A s (W_m_goesBy g h0 h1 h2 h3 h4 h5 h6 h7 h8 h9 h10 h11 h12 h13 h14 h15 h16 h17 h18 h19 h20 h21 h22 h23 h24 h25 h26 h27 h28 h29 h30 v_courses v_wide v_hands v_jumpTold v_frosts v_gaps v_frostsNow v_notFrosts v_gapsNow v_fell v_fellAll v_sheepFirst v_sheepMany v_seens v_finding v_moods v_strongs v_gapYear v_gapColumn v_gapHand v_wall v_yearNow v_forceNow v_holdNow v_fellOf v_handAt v_holdAt v_fallsAt v_standAt v_highAt v_throughAt) H locs → lv_has ls 4 [(0, .ref h0), (1, .int x1), (3, .int x3)] → W p l e rm_m_goesBy s m args below meth c H locs 0 0 (gQv below args s A g (W_m_goesBy g h0 h1 h2 h3 h4 h5 h6 h7 h8 h9 h10 h11 h12 h13 h14 h15 h16 h17 h18 h19 h20 h21 h22 h23 h24 h25 h26 h27 h28 h29 h30 v_courses v_wide v_hands v_jumpTold v_frosts v_gaps v_frostsNow v_notFrosts v_gapsNow r.1 r.2.1 r.2.2.1 r.2.2.2.1 v_seens v_finding v_moods v_strongs v_gapYear v_gapColumn v_gapHand r.2.2.2.2.1 v_yearNow v_forceNow r.2.2.2.2.2.1 r.2.2.2.2.2.2.1 r.2.2.2.2.2.2.2.1 r.2.2.2.2.2.2.2.2.1 r.2.2.2.2.2.2.2.2.2.1 r.2.2.2.2.2.2.2.2.2.2.1 r.2.2.2.2.2.2.2.2.2.2.2.1 r.2.2.2.2.2.2.2.2.2.2.2.2)) (F0 m 66 ls []) := by
  intro v_fell v_fellAll v_sheepFirst v_sheepMany v_wall v_holdNow v_fellOf v_handAt v_holdAt v_fallsAt v_standAt v_highAt v_throughAt x1 x3 hm H locs ls hw hl
  unfold f_m_goesBy_N66 at hm
  obtain ⟨hx, hb, hr, hml, hown, hts, hlocks, hK, hA⟩ := id C0
  refine lv_iload_n hx hb dX9_goesBy_66 rfl (lv_at hl 2 rfl) ?_
  refine lv_aload_n hx hb dX9_goesBy_67 rfl (lv_at hl 0 rfl) ?_
  refine gGet C0 hw flX9_191 0 rfl rfl dX9_goesBy_68 ?_
  refine lv_icmp_ge (tgt := 106) hx hb dX9_goesBy_71 (by decide) (fun hc => ?_) (fun hc => ?_)
  · have hm := ipos hc hm
    refine lv_aload_n hx hb dX9_goesBy_106 rfl (lv_at hl 0 rfl) ?_
    refine gGet C0 hw flX9_61 0 rfl rfl dX9_goesBy_107 ?_
    refine lv_iload_n hx hb dX9_goesBy_110 rfl (lv_at hl 1 rfl) ?_
    refine lv_aload_n hx hb dX9_goesBy_111 rfl (lv_at hl 0 rfl) ?_
    refine gGet C0 hw flX9_212 0 rfl rfl dX9_goesBy_112 ?_
    obtain ⟨hin, hm⟩ := gdE hm
    have hin := inbE hin
    refine gAstI (ws' := (W_m_goesBy g h0 h1 h2 h3 h4 h5 h6 h7 h8 h9 h10 h11 h12 h13 h14 h15 h16 h17 h18 h19 h20 h21 h22 h23 h24 h25 h26 h27 h28 h29 h30 v_courses v_wide v_hands v_jumpTold v_frosts v_gaps v_frostsNow v_notFrosts v_gapsNow v_fell v_fellAll v_sheepFirst v_sheepMany v_seens v_finding v_moods v_strongs v_gapYear v_gapColumn v_gapHand v_wall v_yearNow v_forceNow v_holdNow v_fellOf v_handAt v_holdAt (upd v_fallsAt x1.toNatClampNeg v_fell) v_standAt v_highAt v_throughAt)) C0 hw 13 rfl hin rfl dX9_goesBy_115 (fun H locs hw => ?_)
    refine lv_aload_n hx hb dX9_goesBy_116 rfl (lv_at hl 0 rfl) ?_
    refine lv_dup hx hb dX9_goesBy_117 rfl ?_
    refine gGet C0 hw flX9_247 0 rfl rfl dX9_goesBy_118 ?_
    refine lv_aload_n hx hb dX9_goesBy_121 rfl (lv_at hl 0 rfl) ?_
    refine gGet C0 hw flX9_212 0 rfl rfl dX9_goesBy_122 ?_
    refine lv_iadd hx hb dX9_goesBy_125 ?_
    refine gPut (ws' := (W_m_goesBy g h0 h1 h2 h3 h4 h5 h6 h7 h8 h9 h10 h11 h12 h13 h14 h15 h16 h17 h18 h19 h20 h21 h22 h23 h24 h25 h26 h27 h28 h29 h30 v_courses v_wide v_hands v_jumpTold v_frosts v_gaps v_frostsNow v_notFrosts v_gapsNow v_fell (v_fellAll + v_fell) v_sheepFirst v_sheepMany v_seens v_finding v_moods v_strongs v_gapYear v_gapColumn v_gapHand v_wall v_yearNow v_forceNow v_holdNow v_fellOf v_handAt v_holdAt (upd v_fallsAt x1.toNatClampNeg v_fell) v_standAt v_highAt v_throughAt)) C0 hw fpX9_247 0 rfl rfl rfl (Nat.le_of_ble_eq_true rfl) rfl dX9_goesBy_126 (fun H locs hw => ?_)
    refine lv_aload_n hx hb dX9_goesBy_129 rfl (lv_at hl 0 rfl) ?_
    refine lv_iload_n hx hb dX9_goesBy_130 rfl (lv_at hl 1 rfl) ?_
    obtain ⟨o131, ho131, hm⟩ := bindE hm
    refine gCallv (ws' := (W_m_goesBy g h0 h1 h2 h3 h4 h5 h6 h7 h8 h9 h10 h11 h12 h13 h14 h15 h16 h17 h18 h19 h20 h21 h22 h23 h24 h25 h26 h27 h28 h29 h30 v_courses v_wide v_hands v_jumpTold v_frosts v_gaps v_frostsNow v_notFrosts v_gapsNow v_fell (v_fellAll + v_fell) o131.1 o131.2.1 v_seens v_finding v_moods v_strongs v_gapYear v_gapColumn v_gapHand v_wall v_yearNow v_forceNow o131.2.2.1 v_fellOf o131.2.2.2.1 o131.2.2.2.2.1 (upd v_fallsAt x1.toNatClampNeg v_fell) o131.2.2.2.2.2.1 o131.2.2.2.2.2.2.1 o131.2.2.2.2.2.2.2)) C0 hw (gRunV (As := [.int x1]) (rest := []) C0 hw lkX9_250 (c_m_keeps l g H.size h0 h1 h2 h6 h9 h11 h12 h14 h15 h16 h17 h18 h19 h20 h21 h3 h4 h5 h7 h8 h10 h13 h22 h23 h24 h25 h26 h27 h28 h29 h30 v_courses v_wide v_hands v_jumpTold v_frosts v_gaps v_frostsNow v_notFrosts v_gapsNow v_fell (v_fellAll + v_fell) v_sheepFirst v_sheepMany v_seens v_finding v_moods v_strongs v_wall v_holdNow v_handAt v_holdAt v_standAt v_highAt v_throughAt x1 o131 ho131) ⟨rfl, rfl⟩ ⟨Nat.le_of_ble_eq_true rfl, Nat.le_of_ble_eq_true rfl⟩ [0, 1, 2, 6, 9, 11, 12, 14, 15, 16] (by decide) rfl 0 rfl rfl rfl hl.1 rfl (Nat.le_of_ble_eq_true rfl) dX9_goesBy_131) [0, 1, 2, 6, 9, 11, 12, 14, 15, 16] [3, 4, 5, 7, 8, 10, 13] rfl rfl ⟨rfl, rfl, rfl, rfl, rfl, rfl, rfl, trivial⟩ [h0, h1, h2, h3, h4, h5, h6, h7, h8, h9, h10, h11, h12, h13, h14, h15, h16] rfl rfl 17 rfl (by decide +kernel) (fun H locs hw => ?_)
    have hm := Option.some.inj hm
    subst hm
    exact gRetV C0 hw dX9_goesBy_134
  · have hm := ineg hc hm
    refine lv_aload_n hx hb dX9_goesBy_74 rfl (lv_at hl 0 rfl) ?_
    refine gGet C0 hw flX9_31 0 rfl rfl dX9_goesBy_75 ?_
    refine lv_iload_n hx hb dX9_goesBy_78 rfl (lv_at hl 2 rfl) ?_
    obtain ⟨hin, hm⟩ := gdE hm
    have hin := inbE hin
    refine gAldI C0 hw 3 rfl hin dX9_goesBy_79 ?_
    refine lv_iload_n hx hb dX9_goesBy_80 rfl (lv_at hl 1 rfl) ?_
    refine lv_icmp_ne (tgt := 100) hx hb dX9_goesBy_81 (by decide) (fun hc => ?_) (fun hc => ?_)
    · have hm := ineg hc hm
      refine lv_iinc (v := x3 + (1 : Int32)) (lv' := [(3, .int (x3 + (1 : Int32))), (0, .ref h0), (1, .int x1)]) hx hb dX9_goesBy_100 hl (k := 2) rfl rfl (by decide) rfl (fun ls hl => ?_)
      refine lv_goto (tgt := 66) hx hb dX9_goesBy_103 (by decide) ?_
      exact hk66 _ _ _ _ _ _ _ _ _ _ _ _ _ _ _ hm _ _ _ hw (lv_sub hl [1, 2, 0] rfl)
    · have hm := ipos hc hm
      refine lv_aload_n hx hb dX9_goesBy_84 rfl (lv_at hl 0 rfl) ?_
      refine lv_aload_n hx hb dX9_goesBy_85 rfl (lv_at hl 0 rfl) ?_
      refine gGet C0 hw flX9_34 0 rfl rfl dX9_goesBy_86 ?_
      refine lv_iload_n hx hb dX9_goesBy_89 rfl (lv_at hl 2 rfl) ?_
      obtain ⟨hin, hm⟩ := gdE hm
      have hin := inbE hin
      refine gAldI C0 hw 4 rfl hin dX9_goesBy_90 ?_
      refine lv_aload_n hx hb dX9_goesBy_91 rfl (lv_at hl 0 rfl) ?_
      refine gGet C0 hw flX9_37 0 rfl rfl dX9_goesBy_92 ?_
      refine lv_iload_n hx hb dX9_goesBy_95 rfl (lv_at hl 2 rfl) ?_
      obtain ⟨hin, hm⟩ := gdE hm
      have hin := inbE hin
      refine gAldI C0 hw 5 rfl hin dX9_goesBy_96 ?_
      obtain ⟨o97, ho97, hm⟩ := bindE hm
      refine gCallv (ws' := (W_m_goesBy g h0 h1 h2 h3 h4 h5 h6 h7 h8 h9 h10 h11 h12 h13 h14 h15 h16 h17 h18 h19 h20 h21 h22 h23 h24 h25 h26 h27 h28 h29 h30 v_courses v_wide v_hands v_jumpTold v_frosts v_gaps v_frostsNow v_notFrosts v_gapsNow v_fell v_fellAll v_sheepFirst v_sheepMany v_seens v_finding v_moods v_strongs v_gapYear v_gapColumn v_gapHand o97 v_yearNow v_forceNow v_holdNow v_fellOf v_handAt v_holdAt v_fallsAt v_standAt v_highAt v_throughAt)) C0 hw (gRunV (As := [.int (v_gapColumn x3.toNatClampNeg), .int (v_gapHand x3.toNatClampNeg)]) (rest := []) C0 hw lkX9_243 (c_m_mends l g H.size h0 h6 h17 h18 h19 h1 h2 h20 h21 h3 h4 h5 h7 h8 h9 h10 h11 h12 h13 h14 h15 h16 h22 h23 h24 h25 h26 h27 h28 h29 h30 v_courses v_wide v_hands v_jumpTold v_frosts v_gaps v_frostsNow v_notFrosts v_gapsNow v_fell v_fellAll v_sheepFirst v_sheepMany v_seens v_finding v_wall (v_gapColumn x3.toNatClampNeg) (v_gapHand x3.toNatClampNeg) o97 ho97) ⟨rfl, rfl⟩ ⟨Nat.le_of_ble_eq_true rfl, Nat.le_of_ble_eq_true rfl⟩ [0, 6] (by decide) rfl 0 rfl rfl rfl hl.1 rfl (Nat.le_of_ble_eq_true rfl) dX9_goesBy_97) [0, 6] [1, 2, 3, 4, 5, 7, 8, 9, 10, 11, 12, 13, 14, 15, 16] rfl rfl ⟨rfl, rfl, rfl, rfl, rfl, rfl, rfl, rfl, rfl, rfl, rfl, rfl, rfl, rfl, rfl, trivial⟩ [h0, h1, h2, h3, h4, h5, h6, h7, h8, h9, h10, h11, h12, h13, h14, h15, h16] rfl rfl 17 rfl (by decide +kernel) (fun H locs hw => ?_)
      refine lv_iinc (v := x3 + (1 : Int32)) (lv' := [(3, .int (x3 + (1 : Int32))), (0, .ref h0), (1, .int x1)]) hx hb dX9_goesBy_100 hl (k := 2) rfl rfl (by decide) rfl (fun ls hl => ?_)
      refine lv_goto (tgt := 66) hx hb dX9_goesBy_103 (by decide) ?_
      exact hk66 _ _ _ _ _ _ _ _ _ _ _ _ _ _ _ hm _ _ _ hw (lv_sub hl [1, 2, 0] rfl)
set_option maxHeartbeats 1000000 in
set_option maxRecDepth 100000 in
theorem l_m_goesBy_N66 {p : Program} {l : Launch} {e : Env} {s : State} {m : MethodId} {args : Array Value} {below : List Frame} {meth : Method} {c : Code} {A : Nat → Prop} {g : gG} {h0 h1 h2 h3 h4 h5 h6 h7 h8 h9 h10 h11 h12 h13 h14 h15 h16 h17 h18 h19 h20 h21 h22 h23 h24 h25 h26 h27 h28 h29 h30 : Nat} {v_courses : Int32} {v_wide : Int32} {v_hands : Int32} {v_jumpTold : Int32} {v_frosts : Int32} {v_gaps : Int32} {v_frostsNow : Int32} {v_notFrosts : Int32} {v_gapsNow : Int32} {v_seens : Int32} {v_finding : Int32} {v_moods : Nat → Int32} {v_strongs : Nat → Int32} {v_gapYear : Nat → Int32} {v_gapColumn : Nat → Int32} {v_gapHand : Nat → Int32} {v_yearNow : Nat → Int32} {v_forceNow : Nat → Int32} {r : (Int32 × Int32 × Int32 × Int32 × (Nat → Int32) × (Nat → Int32) × (Nat → Int32) × (Nat → Int32) × (Nat → Int32) × (Nat → Int32) × (Nat → Int32) × (Nat → Int32) × (Nat → Int32))} (C0 : gX p s m args meth c cX9_goesBy 4 none RX9 g A) : ∀ n : Nat, ∀ (v_fell : Int32) (v_fellAll : Int32) (v_sheepFirst : Int32) (v_sheepMany : Int32) (v_wall : Nat → Int32) (v_holdNow : Nat → Int32) (v_fellOf : Nat → Int32) (v_handAt : Nat → Int32) (v_holdAt : Nat → Int32) (v_fallsAt : Nat → Int32) (v_standAt : Nat → Int32) (v_highAt : Nat → Int32) (v_throughAt : Nat → Int32) (x1 : Int32) (x3 : Int32), iter (fun _ _ _ _ _ _ _ _ _ _ _ _ _ _ _ => none) (f_m_goesBy_N66 v_courses v_wide v_hands v_jumpTold v_frostsNow v_notFrosts v_gapsNow v_moods v_strongs v_gapYear v_gapColumn v_gapHand v_yearNow v_forceNow) n v_fell v_fellAll v_sheepFirst v_sheepMany v_wall v_holdNow v_fellOf v_handAt v_holdAt v_fallsAt v_standAt v_highAt v_throughAt x1 x3 = some r → ∀ (H : Heap) (locs : List Loc) (ls : Array Slot), gW g A s (W_m_goesBy g h0 h1 h2 h3 h4 h5 h6 h7 h8 h9 h10 h11 h12 h13 h14 h15 h16 h17 h18 h19 h20 h21 h22 h23 h24 h25 h26 h27 h28 h29 h30 v_courses v_wide v_hands v_jumpTold v_frosts v_gaps v_frostsNow v_notFrosts v_gapsNow v_fell v_fellAll v_sheepFirst v_sheepMany v_seens v_finding v_moods v_strongs v_gapYear v_gapColumn v_gapHand v_wall v_yearNow v_forceNow v_holdNow v_fellOf v_handAt v_holdAt v_fallsAt v_standAt v_highAt v_throughAt) H locs → lv_has ls 4 [(0, .ref h0), (1, .int x1), (3, .int x3)] → W p l e rm_m_goesBy s m args below meth c H locs 0 0 (gQv below args s A g (W_m_goesBy g h0 h1 h2 h3 h4 h5 h6 h7 h8 h9 h10 h11 h12 h13 h14 h15 h16 h17 h18 h19 h20 h21 h22 h23 h24 h25 h26 h27 h28 h29 h30 v_courses v_wide v_hands v_jumpTold v_frosts v_gaps v_frostsNow v_notFrosts v_gapsNow r.1 r.2.1 r.2.2.1 r.2.2.2.1 v_seens v_finding v_moods v_strongs v_gapYear v_gapColumn v_gapHand r.2.2.2.2.1 v_yearNow v_forceNow r.2.2.2.2.2.1 r.2.2.2.2.2.2.1 r.2.2.2.2.2.2.2.1 r.2.2.2.2.2.2.2.2.1 r.2.2.2.2.2.2.2.2.2.1 r.2.2.2.2.2.2.2.2.2.2.1 r.2.2.2.2.2.2.2.2.2.2.2.1 r.2.2.2.2.2.2.2.2.2.2.2.2)) (F0 m 66 ls []) := by
  intro n
  induction n with
  | zero =>
    intro v_fell v_fellAll v_sheepFirst v_sheepMany v_wall v_holdNow v_fellOf v_handAt v_holdAt v_fallsAt v_standAt v_highAt v_throughAt x1 x3 hm
    cases hm
  | succ n ih =>
    exact n_m_goesBy_N66 C0  ih
set_option maxHeartbeats 1000000 in
set_option maxRecDepth 100000 in
theorem n_m_goesBy_N9 {p : Program} {l : Launch} {e : Env} {s : State} {m : MethodId} {args : Array Value} {below : List Frame} {meth : Method} {c : Code} {A : Nat → Prop} {g : gG} {h0 h1 h2 h3 h4 h5 h6 h7 h8 h9 h10 h11 h12 h13 h14 h15 h16 h17 h18 h19 h20 h21 h22 h23 h24 h25 h26 h27 h28 h29 h30 : Nat} {v_courses : Int32} {v_wide : Int32} {v_hands : Int32} {v_jumpTold : Int32} {v_frosts : Int32} {v_gaps : Int32} {v_frostsNow : Int32} {v_notFrosts : Int32} {v_gapsNow : Int32} {v_seens : Int32} {v_finding : Int32} {v_moods : Nat → Int32} {v_strongs : Nat → Int32} {v_gapYear : Nat → Int32} {v_gapColumn : Nat → Int32} {v_gapHand : Nat → Int32} {v_yearNow : Nat → Int32} {v_forceNow : Nat → Int32} {k9 : Int32 → Int32 → Int32 → Int32 → (Nat → Int32) → (Nat → Int32) → (Nat → Int32) → (Nat → Int32) → (Nat → Int32) → (Nat → Int32) → (Nat → Int32) → (Nat → Int32) → (Nat → Int32) → Int32 → Int32 → Int32 → Option (Int32 × Int32 × Int32 × Int32 × (Nat → Int32) × (Nat → Int32) × (Nat → Int32) × (Nat → Int32) × (Nat → Int32) × (Nat → Int32) × (Nat → Int32) × (Nat → Int32) × (Nat → Int32))} {r : (Int32 × Int32 × Int32 × Int32 × (Nat → Int32) × (Nat → Int32) × (Nat → Int32) × (Nat → Int32) × (Nat → Int32) × (Nat → Int32) × (Nat → Int32) × (Nat → Int32) × (Nat → Int32))} (C0 : gX p s m args meth c cX9_goesBy 4 none RX9 g A) (hk9 : ∀ (v_fell : Int32) (v_fellAll : Int32) (v_sheepFirst : Int32) (v_sheepMany : Int32) (v_wall : Nat → Int32) (v_holdNow : Nat → Int32) (v_fellOf : Nat → Int32) (v_handAt : Nat → Int32) (v_holdAt : Nat → Int32) (v_fallsAt : Nat → Int32) (v_standAt : Nat → Int32) (v_highAt : Nat → Int32) (v_throughAt : Nat → Int32) (x1 : Int32) (x2 : Int32) (x3 : Int32), k9 v_fell v_fellAll v_sheepFirst v_sheepMany v_wall v_holdNow v_fellOf v_handAt v_holdAt v_fallsAt v_standAt v_highAt v_throughAt x1 x2 x3 = some r → ∀ (H : Heap) (locs : List Loc) (ls : Array Slot), gW g A s (W_m_goesBy g h0 h1 h2 h3 h4 h5 h6 h7 h8 h9 h10 h11 h12 h13 h14 h15 h16 h17 h18 h19 h20 h21 h22 h23 h24 h25 h26 h27 h28 h29 h30 v_courses v_wide v_hands v_jumpTold v_frosts v_gaps v_frostsNow v_notFrosts v_gapsNow v_fell v_fellAll v_sheepFirst v_sheepMany v_seens v_finding v_moods v_strongs v_gapYear v_gapColumn v_gapHand v_wall v_yearNow v_forceNow v_holdNow v_fellOf v_handAt v_holdAt v_fallsAt v_standAt v_highAt v_throughAt) H locs → lv_has ls 4 [(0, .ref h0), (1, .int x1), (2, .int x2), (3, .int x3)] → W p l e rm_m_goesBy s m args below meth c H locs 0 0 (gQv below args s A g (W_m_goesBy g h0 h1 h2 h3 h4 h5 h6 h7 h8 h9 h10 h11 h12 h13 h14 h15 h16 h17 h18 h19 h20 h21 h22 h23 h24 h25 h26 h27 h28 h29 h30 v_courses v_wide v_hands v_jumpTold v_frosts v_gaps v_frostsNow v_notFrosts v_gapsNow r.1 r.2.1 r.2.2.1 r.2.2.2.1 v_seens v_finding v_moods v_strongs v_gapYear v_gapColumn v_gapHand r.2.2.2.2.1 v_yearNow v_forceNow r.2.2.2.2.2.1 r.2.2.2.2.2.2.1 r.2.2.2.2.2.2.2.1 r.2.2.2.2.2.2.2.2.1 r.2.2.2.2.2.2.2.2.2.1 r.2.2.2.2.2.2.2.2.2.2.1 r.2.2.2.2.2.2.2.2.2.2.2.1 r.2.2.2.2.2.2.2.2.2.2.2.2)) (F0 m 9 ls [])) : ∀ (v_fell : Int32) (v_fellAll : Int32) (v_sheepFirst : Int32) (v_sheepMany : Int32) (v_wall : Nat → Int32) (v_holdNow : Nat → Int32) (v_fellOf : Nat → Int32) (v_handAt : Nat → Int32) (v_holdAt : Nat → Int32) (v_fallsAt : Nat → Int32) (v_standAt : Nat → Int32) (v_highAt : Nat → Int32) (v_throughAt : Nat → Int32) (x1 : Int32) (x2 : Int32) (x3 : Int32), f_m_goesBy_N9 v_courses v_wide v_hands v_jumpTold v_frostsNow v_notFrosts v_gapsNow v_moods v_strongs v_gapYear v_gapColumn v_gapHand v_yearNow v_forceNow k9 v_fell v_fellAll v_sheepFirst v_sheepMany v_wall v_holdNow v_fellOf v_handAt v_holdAt v_fallsAt v_standAt v_highAt v_throughAt x1 x2 x3 = some r → ∀ (H : Heap) (locs : List Loc) (ls : Array Slot), gW g A s (W_m_goesBy g h0 h1 h2 h3 h4 h5 h6 h7 h8 h9 h10 h11 h12 h13 h14 h15 h16 h17 h18 h19 h20 h21 h22 h23 h24 h25 h26 h27 h28 h29 h30 v_courses v_wide v_hands v_jumpTold v_frosts v_gaps v_frostsNow v_notFrosts v_gapsNow v_fell v_fellAll v_sheepFirst v_sheepMany v_seens v_finding v_moods v_strongs v_gapYear v_gapColumn v_gapHand v_wall v_yearNow v_forceNow v_holdNow v_fellOf v_handAt v_holdAt v_fallsAt v_standAt v_highAt v_throughAt) H locs → lv_has ls 4 [(0, .ref h0), (1, .int x1), (2, .int x2), (3, .int x3)] → W p l e rm_m_goesBy s m args below meth c H locs 0 0 (gQv below args s A g (W_m_goesBy g h0 h1 h2 h3 h4 h5 h6 h7 h8 h9 h10 h11 h12 h13 h14 h15 h16 h17 h18 h19 h20 h21 h22 h23 h24 h25 h26 h27 h28 h29 h30 v_courses v_wide v_hands v_jumpTold v_frosts v_gaps v_frostsNow v_notFrosts v_gapsNow r.1 r.2.1 r.2.2.1 r.2.2.2.1 v_seens v_finding v_moods v_strongs v_gapYear v_gapColumn v_gapHand r.2.2.2.2.1 v_yearNow v_forceNow r.2.2.2.2.2.1 r.2.2.2.2.2.2.1 r.2.2.2.2.2.2.2.1 r.2.2.2.2.2.2.2.2.1 r.2.2.2.2.2.2.2.2.2.1 r.2.2.2.2.2.2.2.2.2.2.1 r.2.2.2.2.2.2.2.2.2.2.2.1 r.2.2.2.2.2.2.2.2.2.2.2.2)) (F0 m 9 ls []) := by
  intro v_fell v_fellAll v_sheepFirst v_sheepMany v_wall v_holdNow v_fellOf v_handAt v_holdAt v_fallsAt v_standAt v_highAt v_throughAt x1 x2 x3 hm H locs ls hw hl
  unfold f_m_goesBy_N9 at hm
  obtain ⟨hx, hb, hr, hml, hown, hts, hlocks, hK, hA⟩ := id C0
  refine lv_iload_n hx hb dX9_goesBy_9 rfl (lv_at hl 3 rfl) ?_
  refine lv_aload_n hx hb dX9_goesBy_10 rfl (lv_at hl 0 rfl) ?_
  refine gGet C0 hw flX9_185 0 rfl rfl dX9_goesBy_11 ?_
  refine lv_icmp_ge (tgt := 56) hx hb dX9_goesBy_14 (by decide) (fun hc => ?_) (fun hc => ?_)
  · have hm := ipos hc hm
    refine lv_iload_n hx hb dX9_goesBy_56 rfl (lv_at hl 2 rfl) ?_
    refine lv_if_ne (tgt := 64) hx hb dX9_goesBy_57 (by decide) (fun hc => ?_) (fun hc => ?_)
    · have hm := ineg hc hm
      refine lv_iconst (v := 0) hx hb dX9_goesBy_64 (by decide) ?_
      refine lv_istore_n (lv' := [(3, .int (0 : Int32)), (0, .ref h0), (1, .int x1), (2, .int x2)]) hx hb dX9_goesBy_65 rfl hl (by decide) rfl (fun ls hl => ?_)
      exact l_m_goesBy_N66 C0  1000 _ _ _ _ _ _ _ _ _ _ _ _ _ _ _ hm _ _ _ hw (lv_sub hl [1, 2, 0] rfl)
    · have hm := ipos hc hm
      refine lv_aload_n hx hb dX9_goesBy_60 rfl (lv_at hl 0 rfl) ?_
      obtain ⟨o61, ho61, hm⟩ := bindE hm
      refine gCallv (ws' := (W_m_goesBy g h0 h1 h2 h3 h4 h5 h6 h7 h8 h9 h10 h11 h12 h13 h14 h15 h16 h17 h18 h19 h20 h21 h22 h23 h24 h25 h26 h27 h28 h29 h30 v_courses v_wide v_hands v_jumpTold v_frosts v_gaps v_frostsNow v_notFrosts v_gapsNow o61.1 v_fellAll v_sheepFirst v_sheepMany v_seens v_finding v_moods v_strongs v_gapYear v_gapColumn v_gapHand o61.2.1 v_yearNow v_forceNow v_holdNow o61.2.2 v_handAt v_holdAt v_fallsAt v_standAt v_highAt v_throughAt)) C0 hw (gRunV (As := []) (rest := []) C0 hw lkX9_225 (c_m_settles l g H.size h0 h6 h10 h17 h18 h19 h1 h2 h20 h21 h3 h4 h5 h7 h8 h9 h11 h12 h13 h14 h15 h16 h22 h23 h24 h25 h26 h27 h28 h29 h30 v_courses v_wide v_hands v_jumpTold v_frosts v_gaps v_frostsNow v_notFrosts v_gapsNow v_fell v_fellAll v_sheepFirst v_sheepMany v_seens v_finding v_wall v_fellOf o61 ho61) ⟨rfl, rfl⟩ ⟨Nat.le_of_ble_eq_true rfl, Nat.le_of_ble_eq_true rfl⟩ [0, 6, 10] (by decide) rfl 0 rfl rfl rfl hl.1 rfl (Nat.le_of_ble_eq_true rfl) dX9_goesBy_61) [0, 6, 10] [1, 2, 3, 4, 5, 7, 8, 9, 11, 12, 13, 14, 15, 16] rfl rfl ⟨rfl, rfl, rfl, rfl, rfl, rfl, rfl, rfl, rfl, rfl, rfl, rfl, rfl, rfl, trivial⟩ [h0, h1, h2, h3, h4, h5, h6, h7, h8, h9, h10, h11, h12, h13, h14, h15, h16] rfl rfl 17 rfl (by decide +kernel) (fun H locs hw => ?_)
      refine lv_iconst (v := 0) hx hb dX9_goesBy_64 (by decide) ?_
      refine lv_istore_n (lv' := [(3, .int (0 : Int32)), (0, .ref h0), (1, .int x1), (2, .int x2)]) hx hb dX9_goesBy_65 rfl hl (by decide) rfl (fun ls hl => ?_)
      exact l_m_goesBy_N66 C0  1000 _ _ _ _ _ _ _ _ _ _ _ _ _ _ _ hm _ _ _ hw (lv_sub hl [1, 2, 0] rfl)
  · have hm := ineg hc hm
    refine lv_aload_n hx hb dX9_goesBy_17 rfl (lv_at hl 0 rfl) ?_
    refine gGet C0 hw flX9_43 0 rfl rfl dX9_goesBy_18 ?_
    refine lv_iload_n hx hb dX9_goesBy_21 rfl (lv_at hl 3 rfl) ?_
    obtain ⟨hin, hm⟩ := gdE hm
    have hin := inbE hin
    refine gAldI C0 hw 7 rfl hin dX9_goesBy_22 ?_
    refine lv_iload_n hx hb dX9_goesBy_23 rfl (lv_at hl 1 rfl) ?_
    refine lv_icmp_ne (tgt := 50) hx hb dX9_goesBy_24 (by decide) (fun hc => ?_) (fun hc => ?_)
    · have hm := ineg hc hm
      refine lv_iinc (v := x3 + (1 : Int32)) (lv' := [(3, .int (x3 + (1 : Int32))), (0, .ref h0), (1, .int x1), (2, .int x2)]) hx hb dX9_goesBy_50 hl (k := 3) rfl rfl (by decide) rfl (fun ls hl => ?_)
      refine lv_goto (tgt := 9) hx hb dX9_goesBy_53 (by decide) ?_
      exact hk9 _ _ _ _ _ _ _ _ _ _ _ _ _ _ _ _ hm _ _ _ hw (lv_sub hl [1, 2, 3, 0] rfl)
    · have hm := ipos hc hm
      refine lv_aload_n hx hb dX9_goesBy_27 rfl (lv_at hl 0 rfl) ?_
      refine gGet C0 hw flX9_188 0 rfl rfl dX9_goesBy_28 ?_
      refine lv_iload_n hx hb dX9_goesBy_31 rfl (lv_at hl 3 rfl) ?_
      obtain ⟨o32, ho32, hm⟩ := bindE hm
      refine gCalli (ws' := (W_m_goesBy g h0 h1 h2 h3 h4 h5 h6 h7 h8 h9 h10 h11 h12 h13 h14 h15 h16 h17 h18 h19 h20 h21 h22 h23 h24 h25 h26 h27 h28 h29 h30 v_courses v_wide v_hands v_jumpTold v_frosts v_gaps v_frostsNow v_notFrosts v_gapsNow v_fell v_fellAll v_sheepFirst v_sheepMany v_seens v_finding v_moods v_strongs v_gapYear v_gapColumn v_gapHand v_wall v_yearNow v_forceNow v_holdNow v_fellOf v_handAt v_holdAt v_fallsAt v_standAt v_highAt v_throughAt)) C0 hw (gRunS (As := [.int v_notFrosts, .int x3]) (rest := []) C0 hw lkX9_237 (c_m_isIn l g H.size  v_notFrosts x3 o32 ho32) ⟨rfl, rfl⟩ ⟨Nat.le_of_ble_eq_true rfl, Nat.le_of_ble_eq_true rfl⟩ [] (by decide) rfl rfl hl.1 rfl (Nat.le_of_ble_eq_true rfl) dX9_goesBy_32) [] [0, 1, 2, 3, 4, 5, 6, 7, 8, 9, 10, 11, 12, 13, 14, 15, 16] rfl rfl ⟨rfl, rfl, rfl, rfl, rfl, rfl, rfl, rfl, rfl, rfl, rfl, rfl, rfl, rfl, rfl, rfl, rfl, trivial⟩ [h0, h1, h2, h3, h4, h5, h6, h7, h8, h9, h10, h11, h12, h13, h14, h15, h16] rfl rfl 17 rfl (by decide +kernel) (fun H locs hw => ?_)
      refine lv_if_ne (tgt := 50) hx hb dX9_goesBy_35 (by decide) (fun hc => ?_) (fun hc => ?_)
      · have hm := ineg hc hm
        refine lv_iinc (v := x3 + (1 : Int32)) (lv' := [(3, .int (x3 + (1 : Int32))), (0, .ref h0), (1, .int x1), (2, .int x2)]) hx hb dX9_goesBy_50 hl (k := 3) rfl rfl (by decide) rfl (fun ls hl => ?_)
        refine lv_goto (tgt := 9) hx hb dX9_goesBy_53 (by decide) ?_
        exact hk9 _ _ _ _ _ _ _ _ _ _ _ _ _ _ _ _ hm _ _ _ hw (lv_sub hl [1, 2, 3, 0] rfl)
      · have hm := ipos hc hm
        refine lv_iconst (v := 1) hx hb dX9_goesBy_38 (by decide) ?_
        refine lv_istore_n (lv' := [(2, .int (1 : Int32)), (0, .ref h0), (1, .int x1), (3, .int x3)]) hx hb dX9_goesBy_39 rfl hl (by decide) rfl (fun ls hl => ?_)
        refine lv_aload_n hx hb dX9_goesBy_40 rfl (lv_at hl 1 rfl) ?_
        refine lv_aload_n hx hb dX9_goesBy_41 rfl (lv_at hl 1 rfl) ?_
        refine gGet C0 hw flX9_46 0 rfl rfl dX9_goesBy_42 ?_
        refine lv_iload_n hx hb dX9_goesBy_45 rfl (lv_at hl 3 rfl) ?_
        obtain ⟨hin, hm⟩ := gdE hm
        have hin := inbE hin
        refine gAldI C0 hw 8 rfl hin dX9_goesBy_46 ?_
        obtain ⟨o47, ho47, hm⟩ := bindE hm
        refine gCallv (ws' := (W_m_goesBy g h0 h1 h2 h3 h4 h5 h6 h7 h8 h9 h10 h11 h12 h13 h14 h15 h16 h17 h18 h19 h20 h21 h22 h23 h24 h25 h26 h27 h28 h29 h30 v_courses v_wide v_hands v_jumpTold v_frosts v_gaps v_frostsNow v_notFrosts v_gapsNow o47.1 v_fellAll v_sheepFirst v_sheepMany v_seens v_finding v_moods v_strongs v_gapYear v_gapColumn v_gapHand o47.2.1 v_yearNow v_forceNow o47.2.2.1 o47.2.2.2 v_handAt v_holdAt v_fallsAt v_standAt v_highAt v_throughAt)) C0 hw (gRunV (As := [.int (v_forceNow x3.toNatClampNeg)]) (rest := []) C0 hw lkX9_240 (c_m_freezes l g H.size h0 h1 h2 h6 h9 h10 h17 h18 h19 h20 h21 h3 h4 h5 h7 h8 h11 h12 h13 h14 h15 h16 h22 h23 h24 h25 h26 h27 h28 h29 h30 v_courses v_wide v_hands v_jumpTold v_frosts v_gaps v_frostsNow v_notFrosts v_gapsNow v_fell v_fellAll v_sheepFirst v_sheepMany v_seens v_finding v_moods v_strongs v_wall v_holdNow v_fellOf (v_forceNow x3.toNatClampNeg) o47 ho47) ⟨rfl, rfl⟩ ⟨Nat.le_of_ble_eq_true rfl, Nat.le_of_ble_eq_true rfl⟩ [0, 1, 2, 6, 9, 10] (by decide) rfl 0 rfl rfl rfl hl.1 rfl (Nat.le_of_ble_eq_true rfl) dX9_goesBy_47) [0, 1, 2, 6, 9, 10] [3, 4, 5, 7, 8, 11, 12, 13, 14, 15, 16] rfl rfl ⟨rfl, rfl, rfl, rfl, rfl, rfl, rfl, rfl, rfl, rfl, rfl, trivial⟩ [h0, h1, h2, h3, h4, h5, h6, h7, h8, h9, h10, h11, h12, h13, h14, h15, h16] rfl rfl 17 rfl (by decide +kernel) (fun H locs hw => ?_)
        refine lv_iinc (v := x3 + (1 : Int32)) (lv' := [(3, .int (x3 + (1 : Int32))), (2, .int (1 : Int32)), (0, .ref h0), (1, .int x1)]) hx hb dX9_goesBy_50 hl (k := 3) rfl rfl (by decide) rfl (fun ls hl => ?_)
        refine lv_goto (tgt := 9) hx hb dX9_goesBy_53 (by decide) ?_
        exact hk9 _ _ _ _ _ _ _ _ _ _ _ _ _ _ _ _ hm _ _ _ hw (lv_sub hl [2, 3, 1, 0] rfl)
set_option maxHeartbeats 1000000 in
set_option maxRecDepth 100000 in
theorem l_m_goesBy_N9 {p : Program} {l : Launch} {e : Env} {s : State} {m : MethodId} {args : Array Value} {below : List Frame} {meth : Method} {c : Code} {A : Nat → Prop} {g : gG} {h0 h1 h2 h3 h4 h5 h6 h7 h8 h9 h10 h11 h12 h13 h14 h15 h16 h17 h18 h19 h20 h21 h22 h23 h24 h25 h26 h27 h28 h29 h30 : Nat} {v_courses : Int32} {v_wide : Int32} {v_hands : Int32} {v_jumpTold : Int32} {v_frosts : Int32} {v_gaps : Int32} {v_frostsNow : Int32} {v_notFrosts : Int32} {v_gapsNow : Int32} {v_seens : Int32} {v_finding : Int32} {v_moods : Nat → Int32} {v_strongs : Nat → Int32} {v_gapYear : Nat → Int32} {v_gapColumn : Nat → Int32} {v_gapHand : Nat → Int32} {v_yearNow : Nat → Int32} {v_forceNow : Nat → Int32} {r : (Int32 × Int32 × Int32 × Int32 × (Nat → Int32) × (Nat → Int32) × (Nat → Int32) × (Nat → Int32) × (Nat → Int32) × (Nat → Int32) × (Nat → Int32) × (Nat → Int32) × (Nat → Int32))} (C0 : gX p s m args meth c cX9_goesBy 4 none RX9 g A) : ∀ n : Nat, ∀ (v_fell : Int32) (v_fellAll : Int32) (v_sheepFirst : Int32) (v_sheepMany : Int32) (v_wall : Nat → Int32) (v_holdNow : Nat → Int32) (v_fellOf : Nat → Int32) (v_handAt : Nat → Int32) (v_holdAt : Nat → Int32) (v_fallsAt : Nat → Int32) (v_standAt : Nat → Int32) (v_highAt : Nat → Int32) (v_throughAt : Nat → Int32) (x1 : Int32) (x2 : Int32) (x3 : Int32), iter (fun _ _ _ _ _ _ _ _ _ _ _ _ _ _ _ _ => none) (f_m_goesBy_N9 v_courses v_wide v_hands v_jumpTold v_frostsNow v_notFrosts v_gapsNow v_moods v_strongs v_gapYear v_gapColumn v_gapHand v_yearNow v_forceNow) n v_fell v_fellAll v_sheepFirst v_sheepMany v_wall v_holdNow v_fellOf v_handAt v_holdAt v_fallsAt v_standAt v_highAt v_throughAt x1 x2 x3 = some r → ∀ (H : Heap) (locs : List Loc) (ls : Array Slot), gW g A s (W_m_goesBy g h0 h1 h2 h3 h4 h5 h6 h7 h8 h9 h10 h11 h12 h13 h14 h15 h16 h17 h18 h19 h20 h21 h22 h23 h24 h25 h26 h27 h28 h29 h30 v_courses v_wide v_hands v_jumpTold v_frosts v_gaps v_frostsNow v_notFrosts v_gapsNow v_fell v_fellAll v_sheepFirst v_sheepMany v_seens v_finding v_moods v_strongs v_gapYear v_gapColumn v_gapHand v_wall v_yearNow v_forceNow v_holdNow v_fellOf v_handAt v_holdAt v_fallsAt v_standAt v_highAt v_throughAt) H locs → lv_has ls 4 [(0, .ref h0), (1, .int x1), (2, .int x2), (3, .int x3)] → W p l e rm_m_goesBy s m args below meth c H locs 0 0 (gQv below args s A g (W_m_goesBy g h0 h1 h2 h3 h4 h5 h6 h7 h8 h9 h10 h11 h12 h13 h14 h15 h16 h17 h18 h19 h20 h21 h22 h23 h24 h25 h26 h27 h28 h29 h30 v_courses v_wide v_hands v_jumpTold v_frosts v_gaps v_frostsNow v_notFrosts v_gapsNow r.1 r.2.1 r.2.2.1 r.2.2.2.1 v_seens v_finding v_moods v_strongs v_gapYear v_gapColumn v_gapHand r.2.2.2.2.1 v_yearNow v_forceNow r.2.2.2.2.2.1 r.2.2.2.2.2.2.1 r.2.2.2.2.2.2.2.1 r.2.2.2.2.2.2.2.2.1 r.2.2.2.2.2.2.2.2.2.1 r.2.2.2.2.2.2.2.2.2.2.1 r.2.2.2.2.2.2.2.2.2.2.2.1 r.2.2.2.2.2.2.2.2.2.2.2.2)) (F0 m 9 ls []) := by
  intro n
  induction n with
  | zero =>
    intro v_fell v_fellAll v_sheepFirst v_sheepMany v_wall v_holdNow v_fellOf v_handAt v_holdAt v_fallsAt v_standAt v_highAt v_throughAt x1 x2 x3 hm
    cases hm
  | succ n ih =>
    exact n_m_goesBy_N9 C0  ih
set_option maxHeartbeats 1000000 in
set_option maxRecDepth 100000 in
theorem c_m_goesBy (l : Launch) (g : gG) (sz : Nat) (h0 h1 h2 h3 h4 h5 h6 h7 h8 h9 h10 h11 h12 h13 h14 h15 h16 h17 h18 h19 h20 h21 h22 h23 h24 h25 h26 h27 h28 h29 h30 : Nat) (v_courses : Int32) (v_wide : Int32) (v_hands : Int32) (v_jumpTold : Int32) (v_frosts : Int32) (v_gaps : Int32) (v_frostsNow : Int32) (v_notFrosts : Int32) (v_gapsNow : Int32) (v_fell : Int32) (v_fellAll : Int32) (v_sheepFirst : Int32) (v_sheepMany : Int32) (v_seens : Int32) (v_finding : Int32) (v_moods : Nat → Int32) (v_strongs : Nat → Int32) (v_gapYear : Nat → Int32) (v_gapColumn : Nat → Int32) (v_gapHand : Nat → Int32) (v_wall : Nat → Int32) (v_yearNow : Nat → Int32) (v_forceNow : Nat → Int32) (v_holdNow : Nat → Int32) (v_fellOf : Nat → Int32) (v_handAt : Nat → Int32) (v_holdAt : Nat → Int32) (v_fallsAt : Nat → Int32) (v_standAt : Nat → Int32) (v_highAt : Nat → Int32) (v_throughAt : Nat → Int32) (a0 : Int32) (r : (Int32 × Int32 × Int32 × Int32 × (Nat → Int32) × (Nat → Int32) × (Nat → Int32) × (Nat → Int32) × (Nat → Int32) × (Nat → Int32) × (Nat → Int32) × (Nat → Int32) × (Nat → Int32))) (hm : f_m_goesBy v_courses v_wide v_hands v_jumpTold v_frostsNow v_notFrosts v_gapsNow v_fell v_fellAll v_sheepFirst v_sheepMany v_moods v_strongs v_gapYear v_gapColumn v_gapHand v_wall v_yearNow v_forceNow v_holdNow v_fellOf v_handAt v_holdAt v_fallsAt v_standAt v_highAt v_throughAt a0 = some r) : gMv l yX9_goesBy cX9_goesBy 4 none rm_m_goesBy g sz [.ref h0, .int a0] (W_m_goesBy g h0 h1 h2 h3 h4 h5 h6 h7 h8 h9 h10 h11 h12 h13 h14 h15 h16 h17 h18 h19 h20 h21 h22 h23 h24 h25 h26 h27 h28 h29 h30 v_courses v_wide v_hands v_jumpTold v_frosts v_gaps v_frostsNow v_notFrosts v_gapsNow v_fell v_fellAll v_sheepFirst v_sheepMany v_seens v_finding v_moods v_strongs v_gapYear v_gapColumn v_gapHand v_wall v_yearNow v_forceNow v_holdNow v_fellOf v_handAt v_holdAt v_fallsAt v_standAt v_highAt v_throughAt) (W_m_goesBy g h0 h1 h2 h3 h4 h5 h6 h7 h8 h9 h10 h11 h12 h13 h14 h15 h16 h17 h18 h19 h20 h21 h22 h23 h24 h25 h26 h27 h28 h29 h30 v_courses v_wide v_hands v_jumpTold v_frosts v_gaps v_frostsNow v_notFrosts v_gapsNow r.1 r.2.1 r.2.2.1 r.2.2.2.1 v_seens v_finding v_moods v_strongs v_gapYear v_gapColumn v_gapHand r.2.2.2.2.1 v_yearNow v_forceNow r.2.2.2.2.2.1 r.2.2.2.2.2.2.1 r.2.2.2.2.2.2.2.1 r.2.2.2.2.2.2.2.2.1 r.2.2.2.2.2.2.2.2.2.1 r.2.2.2.2.2.2.2.2.2.2.1 r.2.2.2.2.2.2.2.2.2.2.2.1 r.2.2.2.2.2.2.2.2.2.2.2.2) := by
  unfold f_m_goesBy at hm
  refine gEnterV (by decide) (Nat.le_of_ble_eq_true rfl) (fun p e s m below meth c A C0 H locs hw ls hl => ?_)
  obtain ⟨hx, hb, hr, hml, hown, hts, hlocks, hK, hA⟩ := id C0
  have C0 : gX p s m [.ref h0, .int a0].toArray meth c cX9_goesBy 4 none RX9 g A := C0
  have hl : lv_has ls 4 [(0, .ref h0), (1, .int a0)] := hl
  refine lv_iconst (v := 0) hx hb dX9_goesBy_0 (by decide) ?_
  refine lv_istore_n (lv' := [(2, .int (0 : Int32)), (0, .ref h0), (1, .int a0)]) hx hb dX9_goesBy_1 rfl hl (by decide) rfl (fun ls hl => ?_)
  refine lv_aload_n hx hb dX9_goesBy_2 rfl (lv_at hl 1 rfl) ?_
  refine lv_iconst (v := 0) hx hb dX9_goesBy_3 (by decide) ?_
  refine gPut (ws' := (W_m_goesBy g h0 h1 h2 h3 h4 h5 h6 h7 h8 h9 h10 h11 h12 h13 h14 h15 h16 h17 h18 h19 h20 h21 h22 h23 h24 h25 h26 h27 h28 h29 h30 v_courses v_wide v_hands v_jumpTold v_frosts v_gaps v_frostsNow v_notFrosts v_gapsNow (0 : Int32) v_fellAll v_sheepFirst v_sheepMany v_seens v_finding v_moods v_strongs v_gapYear v_gapColumn v_gapHand v_wall v_yearNow v_forceNow v_holdNow v_fellOf v_handAt v_holdAt v_fallsAt v_standAt v_highAt v_throughAt)) C0 hw fpX9_212 0 rfl rfl rfl (Nat.le_of_ble_eq_true rfl) rfl dX9_goesBy_4 (fun H locs hw => ?_)
  refine lv_iconst (v := 0) hx hb dX9_goesBy_7 (by decide) ?_
  refine lv_istore_n (lv' := [(3, .int (0 : Int32)), (2, .int (0 : Int32)), (0, .ref h0), (1, .int a0)]) hx hb dX9_goesBy_8 rfl hl (by decide) rfl (fun ls hl => ?_)
  exact l_m_goesBy_N9 C0  1000 _ _ _ _ _ _ _ _ _ _ _ _ _ _ _ _ hm _ _ _ hw (lv_sub hl [2, 3, 1, 0] rfl)
