-- WallHands.get(III)I
abbrev W_x_get (g : gG) (h0 h1 h2 h3 h4 h5 h6 h7 h8 h9 h10 h11 h12 h13 h14 h15 h16 h17 h18 h19 h20 : Nat) (v_toldIsStale : Int32) (v_latestFinding : Int32) (v_sheets0_form : Int32) (v_sheets0_size : Int32) (v_sheets0_items : Nat → Int32) (v_sheets1_form : Int32) (v_sheets1_size : Int32) (v_sheets1_items : Nat → Int32) (v_sheets2_form : Int32) (v_sheets2_size : Int32) (v_sheets2_items : Nat → Int32) (v_sheets3_form : Int32) (v_sheets3_size : Int32) (v_sheets3_items : Nat → Int32) : va_W := [(h0, .inr (8, [.ref h10, .ref h11, .ref h12, .ref h13, .ref h14, .ref h15, .ref h16, .ref h17, .ref h9, .ref h18, .ref h19, .ref h20, .int v_toldIsStale, .int v_latestFinding])), (h1, .inr (3, [.ref h2, .int v_sheets0_form, .int v_sheets0_size])), (h2, .inl (gI g, 60, .inl v_sheets0_items)), (h3, .inr (3, [.ref h4, .int v_sheets1_form, .int v_sheets1_size])), (h4, .inl (gI g, 60, .inl v_sheets1_items)), (h5, .inr (3, [.ref h6, .int v_sheets2_form, .int v_sheets2_size])), (h6, .inl (gI g, 60, .inl v_sheets2_items)), (h7, .inr (3, [.ref h8, .int v_sheets3_form, .int v_sheets3_size])), (h8, .inl (gI g, 60, .inl v_sheets3_items)), (h9, .inl (gL g, 4, .inr (.inr (.inr (.inr (g4 h1 h3 h5 h7))))))]

abbrev rm_x_get : Room := { frames := 2, cells := 0, slots := 0, locals := 44 }

set_option maxHeartbeats 1000000 in
set_option maxRecDepth 100000 in
theorem c_x_get (l : Launch) (g : gG) (sz : Nat) (h0 h1 h2 h3 h4 h5 h6 h7 h8 h9 h10 h11 h12 h13 h14 h15 h16 h17 h18 h19 h20 : Nat) (v_toldIsStale : Int32) (v_latestFinding : Int32) (v_sheets0_form : Int32) (v_sheets0_size : Int32) (v_sheets0_items : Nat → Int32) (v_sheets1_form : Int32) (v_sheets1_size : Int32) (v_sheets1_items : Nat → Int32) (v_sheets2_form : Int32) (v_sheets2_size : Int32) (v_sheets2_items : Nat → Int32) (v_sheets3_form : Int32) (v_sheets3_size : Int32) (v_sheets3_items : Nat → Int32) (a0 : Int32) (a1 : Int32) (a2 : Int32) (r : (Int32 × Int32)) (hm : f_x_get v_latestFinding v_sheets0_form v_sheets0_size v_sheets0_items v_sheets1_form v_sheets1_size v_sheets1_items v_sheets2_form v_sheets2_size v_sheets2_items v_sheets3_form v_sheets3_size v_sheets3_items a0 a1 a2 = some r) : gMi l yX8_get cX8_get 5 (some .int) rm_x_get g sz [.ref h0, .int a0, .int a1, .int a2] (W_x_get g h0 h1 h2 h3 h4 h5 h6 h7 h8 h9 h10 h11 h12 h13 h14 h15 h16 h17 h18 h19 h20 v_toldIsStale v_latestFinding v_sheets0_form v_sheets0_size v_sheets0_items v_sheets1_form v_sheets1_size v_sheets1_items v_sheets2_form v_sheets2_size v_sheets2_items v_sheets3_form v_sheets3_size v_sheets3_items) r.1 (W_x_get g h0 h1 h2 h3 h4 h5 h6 h7 h8 h9 h10 h11 h12 h13 h14 h15 h16 h17 h18 h19 h20 v_toldIsStale r.2 v_sheets0_form v_sheets0_size v_sheets0_items v_sheets1_form v_sheets1_size v_sheets1_items v_sheets2_form v_sheets2_size v_sheets2_items v_sheets3_form v_sheets3_size v_sheets3_items) := by
  unfold f_x_get at hm
  refine gEnterI (by decide) (Nat.le_of_ble_eq_true rfl) (fun p e s m below meth c A C0 H locs hw ls hl => ?_)
  obtain ⟨hx, hb, hr, hml, hown, hts, hlocks, hK, hA⟩ := id C0
  have C0 : gX p s m [.ref h0, .int a0, .int a1, .int a2].toArray meth c cX8_get 5 (some .int) RX8 g A := C0
  have hl : lv_has ls 5 [(0, .ref h0), (1, .int a0), (2, .int a1), (3, .int a2)] := hl
  refine lv_iload_n hx hb dX8_get_0 rfl (lv_at hl 1 rfl) ?_
  obtain ⟨o1, ho1, hm⟩ := bindE hm
  refine gCalli (ws' := (W_x_get g h0 h1 h2 h3 h4 h5 h6 h7 h8 h9 h10 h11 h12 h13 h14 h15 h16 h17 h18 h19 h20 v_toldIsStale v_latestFinding v_sheets0_form v_sheets0_size v_sheets0_items v_sheets1_form v_sheets1_size v_sheets1_items v_sheets2_form v_sheets2_size v_sheets2_items v_sheets3_form v_sheets3_size v_sheets3_items)) C0 hw (gRunS (As := [.int a0]) (rest := []) C0 hw lkX8_155 (c_x_isSheet l g H.size  a0 o1 ho1) ⟨rfl, rfl⟩ ⟨Nat.le_of_ble_eq_true rfl, Nat.le_of_ble_eq_true rfl⟩ [] (by decide) rfl rfl hl.1 rfl (Nat.le_of_ble_eq_true rfl) dX8_get_1) [] [0, 1, 2, 3, 4, 5, 6, 7, 8, 9] rfl rfl ⟨rfl, rfl, rfl, rfl, rfl, rfl, rfl, rfl, rfl, rfl, trivial⟩ [h0, h1, h2, h3, h4, h5, h6, h7, h8, h9] rfl rfl 10 rfl (by decide +kernel) (fun H locs hw => ?_)
  refine lv_if_eq (tgt := 14) hx hb dX8_get_4 (by decide) (fun hc => ?_) (fun hc => ?_)
  · have hm := ipos hc hm
    refine lv_ldcw (v := -2147483648) hx hb hown (hts _ kX8_272) dX8_get_14 ?_
    have hm := Option.some.inj hm
    subst hm
    exact gRetI C0 hw dX8_get_17
  · have hm := ineg hc hm
    refine lv_iload_n hx hb dX8_get_7 rfl (lv_at hl 2 rfl) ?_
    obtain ⟨o8, ho8, hm⟩ := bindE hm
    refine gCalli (ws' := (W_x_get g h0 h1 h2 h3 h4 h5 h6 h7 h8 h9 h10 h11 h12 h13 h14 h15 h16 h17 h18 h19 h20 v_toldIsStale v_latestFinding v_sheets0_form v_sheets0_size v_sheets0_items v_sheets1_form v_sheets1_size v_sheets1_items v_sheets2_form v_sheets2_size v_sheets2_items v_sheets3_form v_sheets3_size v_sheets3_items)) C0 hw (gRunS (As := [.int a1]) (rest := []) C0 hw lkX8_259 (c_x_isForm l g H.size  a1 o8 ho8) ⟨rfl, rfl⟩ ⟨Nat.le_of_ble_eq_true rfl, Nat.le_of_ble_eq_true rfl⟩ [] (by decide) rfl rfl hl.1 rfl (Nat.le_of_ble_eq_true rfl) dX8_get_8) [] [0, 1, 2, 3, 4, 5, 6, 7, 8, 9] rfl rfl ⟨rfl, rfl, rfl, rfl, rfl, rfl, rfl, rfl, rfl, rfl, trivial⟩ [h0, h1, h2, h3, h4, h5, h6, h7, h8, h9] rfl rfl 10 rfl (by decide +kernel) (fun H locs hw => ?_)
    refine lv_if_ne (tgt := 18) hx hb dX8_get_11 (by decide) (fun hc => ?_) (fun hc => ?_)
    · have hm := ineg hc hm
      refine lv_aload_n hx hb dX8_get_18 rfl (lv_at hl 0 rfl) ?_
      refine gGet C0 hw flX8_61 0 rfl rfl dX8_get_19 ?_
      refine lv_iload_n hx hb dX8_get_22 rfl (lv_at hl 1 rfl) ?_
      by_cases hs0 : a0 = (0 : Int32)
      · have hm := ipos hs0 hm
        refine gAldL C0 hw 9 rfl hs0 (inbE (by decide)) rfl dX8_get_23 ?_
        refine lv_iload_n hx hb dX8_get_24 rfl (lv_at hl 2 rfl) ?_
        refine lv_iload_n hx hb dX8_get_25 rfl (lv_at hl 3 rfl) ?_
        obtain ⟨o26, ho26, hm⟩ := bindE hm
        refine gCalli (ws' := (W_x_get g h0 h1 h2 h3 h4 h5 h6 h7 h8 h9 h10 h11 h12 h13 h14 h15 h16 h17 h18 h19 h20 v_toldIsStale v_latestFinding v_sheets0_form v_sheets0_size v_sheets0_items v_sheets1_form v_sheets1_size v_sheets1_items v_sheets2_form v_sheets2_size v_sheets2_items v_sheets3_form v_sheets3_size v_sheets3_items)) C0 hw (gRunV (As := [.int a1, .int a2]) (rest := []) C0 hw lkX8_267 (c_sh_findingAt l g H.size h1 h2 v_sheets0_form v_sheets0_size a1 a2 o26 ho26) ⟨rfl, rfl⟩ ⟨Nat.le_of_ble_eq_true rfl, Nat.le_of_ble_eq_true rfl⟩ [1] (by decide) rfl 1 rfl rfl rfl hl.1 rfl (Nat.le_of_ble_eq_true rfl) dX8_get_26) [1] [0, 2, 3, 4, 5, 6, 7, 8, 9] rfl rfl ⟨rfl, rfl, rfl, rfl, rfl, rfl, rfl, rfl, rfl, trivial⟩ [h0, h1, h2, h3, h4, h5, h6, h7, h8, h9] rfl rfl 10 rfl (by decide +kernel) (fun H locs hw => ?_)
        refine lv_istore (lv' := [(4, .int o26), (0, .ref h0), (1, .int a0), (2, .int a1), (3, .int a2)]) hx hb dX8_get_29 hl (by decide) rfl (fun ls hl => ?_)
        refine lv_iload hx hb dX8_get_31 (lv_at hl 0 rfl) ?_
        refine lv_if_eq (tgt := 47) hx hb dX8_get_33 (by decide) (fun hc => ?_) (fun hc => ?_)
        · have hm := ipos hc hm
          refine lv_aload_n hx hb dX8_get_47 rfl (lv_at hl 1 rfl) ?_
          refine gGet C0 hw flX8_61 0 rfl rfl dX8_get_48 ?_
          refine lv_iload_n hx hb dX8_get_51 rfl (lv_at hl 2 rfl) ?_
          by_cases hs0 : a0 = (0 : Int32)
          · have hm := ipos hs0 hm
            refine gAldL C0 hw 9 rfl hs0 (inbE (by decide)) rfl dX8_get_52 ?_
            refine gGet C0 hw flX8_168 1 rfl rfl dX8_get_53 ?_
            refine lv_iload_n hx hb dX8_get_56 rfl (lv_at hl 4 rfl) ?_
            obtain ⟨hin, hm⟩ := gdE hm
            have hin := inbE hin
            refine gAldI C0 hw 2 rfl hin dX8_get_57 ?_
            have hm := Option.some.inj hm
            subst hm
            exact gRetI C0 hw dX8_get_58
          have hm := ineg hs0 hm
          by_cases hs1 : a0 = (1 : Int32)
          · have hm := ipos hs1 hm
            refine gAldL C0 hw 9 rfl hs1 (inbE (by decide)) rfl dX8_get_52 ?_
            refine gGet C0 hw flX8_168 3 rfl rfl dX8_get_53 ?_
            refine lv_iload_n hx hb dX8_get_56 rfl (lv_at hl 4 rfl) ?_
            obtain ⟨hin, hm⟩ := gdE hm
            have hin := inbE hin
            refine gAldI C0 hw 4 rfl hin dX8_get_57 ?_
            have hm := Option.some.inj hm
            subst hm
            exact gRetI C0 hw dX8_get_58
          have hm := ineg hs1 hm
          by_cases hs2 : a0 = (2 : Int32)
          · have hm := ipos hs2 hm
            refine gAldL C0 hw 9 rfl hs2 (inbE (by decide)) rfl dX8_get_52 ?_
            refine gGet C0 hw flX8_168 5 rfl rfl dX8_get_53 ?_
            refine lv_iload_n hx hb dX8_get_56 rfl (lv_at hl 4 rfl) ?_
            obtain ⟨hin, hm⟩ := gdE hm
            have hin := inbE hin
            refine gAldI C0 hw 6 rfl hin dX8_get_57 ?_
            have hm := Option.some.inj hm
            subst hm
            exact gRetI C0 hw dX8_get_58
          have hm := ineg hs2 hm
          by_cases hs3 : a0 = (3 : Int32)
          · have hm := ipos hs3 hm
            refine gAldL C0 hw 9 rfl hs3 (inbE (by decide)) rfl dX8_get_52 ?_
            refine gGet C0 hw flX8_168 7 rfl rfl dX8_get_53 ?_
            refine lv_iload_n hx hb dX8_get_56 rfl (lv_at hl 4 rfl) ?_
            obtain ⟨hin, hm⟩ := gdE hm
            have hin := inbE hin
            refine gAldI C0 hw 8 rfl hin dX8_get_57 ?_
            have hm := Option.some.inj hm
            subst hm
            exact gRetI C0 hw dX8_get_58
          have hm := ineg hs3 hm
          cases hm
        · have hm := ineg hc hm
          refine lv_aload_n hx hb dX8_get_36 rfl (lv_at hl 1 rfl) ?_
          refine lv_iload hx hb dX8_get_37 (lv_at hl 0 rfl) ?_
          obtain ⟨o39, ho39, hm⟩ := bindE hm
          refine gCalli (ws' := (W_x_get g h0 h1 h2 h3 h4 h5 h6 h7 h8 h9 h10 h11 h12 h13 h14 h15 h16 h17 h18 h19 h20 v_toldIsStale o39.2 v_sheets0_form v_sheets0_size v_sheets0_items v_sheets1_form v_sheets1_size v_sheets1_items v_sheets2_form v_sheets2_size v_sheets2_items v_sheets3_form v_sheets3_size v_sheets3_items)) C0 hw (gRunV (As := [.int o26]) (rest := []) C0 hw lkX8_161 (c_x_found l g H.size h0 h10 h11 h12 h13 h14 h15 h16 h17 h9 h18 h19 h20 v_toldIsStale v_latestFinding o26 o39 ho39) ⟨rfl, rfl⟩ ⟨Nat.le_of_ble_eq_true rfl, Nat.le_of_ble_eq_true rfl⟩ [0] (by decide) rfl 0 rfl rfl rfl hl.1 rfl (Nat.le_of_ble_eq_true rfl) dX8_get_39) [0] [1, 2, 3, 4, 5, 6, 7, 8, 9] rfl rfl ⟨rfl, rfl, rfl, rfl, rfl, rfl, rfl, rfl, rfl, trivial⟩ [h0, h1, h2, h3, h4, h5, h6, h7, h8, h9] rfl rfl 10 rfl (by decide +kernel) (fun H locs hw => ?_)
          refine lv_pop hx hb dX8_get_42 rfl ?_
          refine lv_ldcw (v := -2147483648) hx hb hown (hts _ kX8_272) dX8_get_43 ?_
          have hm := Option.some.inj hm
          subst hm
          exact gRetI C0 hw dX8_get_46
      have hm := ineg hs0 hm
      by_cases hs1 : a0 = (1 : Int32)
      · have hm := ipos hs1 hm
        refine gAldL C0 hw 9 rfl hs1 (inbE (by decide)) rfl dX8_get_23 ?_
        refine lv_iload_n hx hb dX8_get_24 rfl (lv_at hl 2 rfl) ?_
        refine lv_iload_n hx hb dX8_get_25 rfl (lv_at hl 3 rfl) ?_
        obtain ⟨o26, ho26, hm⟩ := bindE hm
        refine gCalli (ws' := (W_x_get g h0 h1 h2 h3 h4 h5 h6 h7 h8 h9 h10 h11 h12 h13 h14 h15 h16 h17 h18 h19 h20 v_toldIsStale v_latestFinding v_sheets0_form v_sheets0_size v_sheets0_items v_sheets1_form v_sheets1_size v_sheets1_items v_sheets2_form v_sheets2_size v_sheets2_items v_sheets3_form v_sheets3_size v_sheets3_items)) C0 hw (gRunV (As := [.int a1, .int a2]) (rest := []) C0 hw lkX8_267 (c_sh_findingAt l g H.size h3 h4 v_sheets1_form v_sheets1_size a1 a2 o26 ho26) ⟨rfl, rfl⟩ ⟨Nat.le_of_ble_eq_true rfl, Nat.le_of_ble_eq_true rfl⟩ [3] (by decide) rfl 3 rfl rfl rfl hl.1 rfl (Nat.le_of_ble_eq_true rfl) dX8_get_26) [3] [0, 1, 2, 4, 5, 6, 7, 8, 9] rfl rfl ⟨rfl, rfl, rfl, rfl, rfl, rfl, rfl, rfl, rfl, trivial⟩ [h0, h1, h2, h3, h4, h5, h6, h7, h8, h9] rfl rfl 10 rfl (by decide +kernel) (fun H locs hw => ?_)
        refine lv_istore (lv' := [(4, .int o26), (0, .ref h0), (1, .int a0), (2, .int a1), (3, .int a2)]) hx hb dX8_get_29 hl (by decide) rfl (fun ls hl => ?_)
        refine lv_iload hx hb dX8_get_31 (lv_at hl 0 rfl) ?_
        refine lv_if_eq (tgt := 47) hx hb dX8_get_33 (by decide) (fun hc => ?_) (fun hc => ?_)
        · have hm := ipos hc hm
          refine lv_aload_n hx hb dX8_get_47 rfl (lv_at hl 1 rfl) ?_
          refine gGet C0 hw flX8_61 0 rfl rfl dX8_get_48 ?_
          refine lv_iload_n hx hb dX8_get_51 rfl (lv_at hl 2 rfl) ?_
          by_cases hs0 : a0 = (0 : Int32)
          · have hm := ipos hs0 hm
            refine gAldL C0 hw 9 rfl hs0 (inbE (by decide)) rfl dX8_get_52 ?_
            refine gGet C0 hw flX8_168 1 rfl rfl dX8_get_53 ?_
            refine lv_iload_n hx hb dX8_get_56 rfl (lv_at hl 4 rfl) ?_
            obtain ⟨hin, hm⟩ := gdE hm
            have hin := inbE hin
            refine gAldI C0 hw 2 rfl hin dX8_get_57 ?_
            have hm := Option.some.inj hm
            subst hm
            exact gRetI C0 hw dX8_get_58
          have hm := ineg hs0 hm
          by_cases hs1 : a0 = (1 : Int32)
          · have hm := ipos hs1 hm
            refine gAldL C0 hw 9 rfl hs1 (inbE (by decide)) rfl dX8_get_52 ?_
            refine gGet C0 hw flX8_168 3 rfl rfl dX8_get_53 ?_
            refine lv_iload_n hx hb dX8_get_56 rfl (lv_at hl 4 rfl) ?_
            obtain ⟨hin, hm⟩ := gdE hm
            have hin := inbE hin
            refine gAldI C0 hw 4 rfl hin dX8_get_57 ?_
            have hm := Option.some.inj hm
            subst hm
            exact gRetI C0 hw dX8_get_58
          have hm := ineg hs1 hm
          by_cases hs2 : a0 = (2 : Int32)
          · have hm := ipos hs2 hm
            refine gAldL C0 hw 9 rfl hs2 (inbE (by decide)) rfl dX8_get_52 ?_
            refine gGet C0 hw flX8_168 5 rfl rfl dX8_get_53 ?_
            refine lv_iload_n hx hb dX8_get_56 rfl (lv_at hl 4 rfl) ?_
            obtain ⟨hin, hm⟩ := gdE hm
            have hin := inbE hin
            refine gAldI C0 hw 6 rfl hin dX8_get_57 ?_
            have hm := Option.some.inj hm
            subst hm
            exact gRetI C0 hw dX8_get_58
          have hm := ineg hs2 hm
          by_cases hs3 : a0 = (3 : Int32)
          · have hm := ipos hs3 hm
            refine gAldL C0 hw 9 rfl hs3 (inbE (by decide)) rfl dX8_get_52 ?_
            refine gGet C0 hw flX8_168 7 rfl rfl dX8_get_53 ?_
            refine lv_iload_n hx hb dX8_get_56 rfl (lv_at hl 4 rfl) ?_
            obtain ⟨hin, hm⟩ := gdE hm
            have hin := inbE hin
            refine gAldI C0 hw 8 rfl hin dX8_get_57 ?_
            have hm := Option.some.inj hm
            subst hm
            exact gRetI C0 hw dX8_get_58
          have hm := ineg hs3 hm
          cases hm
        · have hm := ineg hc hm
          refine lv_aload_n hx hb dX8_get_36 rfl (lv_at hl 1 rfl) ?_
          refine lv_iload hx hb dX8_get_37 (lv_at hl 0 rfl) ?_
          obtain ⟨o39, ho39, hm⟩ := bindE hm
          refine gCalli (ws' := (W_x_get g h0 h1 h2 h3 h4 h5 h6 h7 h8 h9 h10 h11 h12 h13 h14 h15 h16 h17 h18 h19 h20 v_toldIsStale o39.2 v_sheets0_form v_sheets0_size v_sheets0_items v_sheets1_form v_sheets1_size v_sheets1_items v_sheets2_form v_sheets2_size v_sheets2_items v_sheets3_form v_sheets3_size v_sheets3_items)) C0 hw (gRunV (As := [.int o26]) (rest := []) C0 hw lkX8_161 (c_x_found l g H.size h0 h10 h11 h12 h13 h14 h15 h16 h17 h9 h18 h19 h20 v_toldIsStale v_latestFinding o26 o39 ho39) ⟨rfl, rfl⟩ ⟨Nat.le_of_ble_eq_true rfl, Nat.le_of_ble_eq_true rfl⟩ [0] (by decide) rfl 0 rfl rfl rfl hl.1 rfl (Nat.le_of_ble_eq_true rfl) dX8_get_39) [0] [1, 2, 3, 4, 5, 6, 7, 8, 9] rfl rfl ⟨rfl, rfl, rfl, rfl, rfl, rfl, rfl, rfl, rfl, trivial⟩ [h0, h1, h2, h3, h4, h5, h6, h7, h8, h9] rfl rfl 10 rfl (by decide +kernel) (fun H locs hw => ?_)
          refine lv_pop hx hb dX8_get_42 rfl ?_
          refine lv_ldcw (v := -2147483648) hx hb hown (hts _ kX8_272) dX8_get_43 ?_
          have hm := Option.some.inj hm
          subst hm
          exact gRetI C0 hw dX8_get_46
      have hm := ineg hs1 hm
      by_cases hs2 : a0 = (2 : Int32)
      · have hm := ipos hs2 hm
        refine gAldL C0 hw 9 rfl hs2 (inbE (by decide)) rfl dX8_get_23 ?_
        refine lv_iload_n hx hb dX8_get_24 rfl (lv_at hl 2 rfl) ?_
        refine lv_iload_n hx hb dX8_get_25 rfl (lv_at hl 3 rfl) ?_
        obtain ⟨o26, ho26, hm⟩ := bindE hm
        refine gCalli (ws' := (W_x_get g h0 h1 h2 h3 h4 h5 h6 h7 h8 h9 h10 h11 h12 h13 h14 h15 h16 h17 h18 h19 h20 v_toldIsStale v_latestFinding v_sheets0_form v_sheets0_size v_sheets0_items v_sheets1_form v_sheets1_size v_sheets1_items v_sheets2_form v_sheets2_size v_sheets2_items v_sheets3_form v_sheets3_size v_sheets3_items)) C0 hw (gRunV (As := [.int a1, .int a2]) (rest := []) C0 hw lkX8_267 (c_sh_findingAt l g H.size h5 h6 v_sheets2_form v_sheets2_size a1 a2 o26 ho26) ⟨rfl, rfl⟩ ⟨Nat.le_of_ble_eq_true rfl, Nat.le_of_ble_eq_true rfl⟩ [5] (by decide) rfl 5 rfl rfl rfl hl.1 rfl (Nat.le_of_ble_eq_true rfl) dX8_get_26) [5] [0, 1, 2, 3, 4, 6, 7, 8, 9] rfl rfl ⟨rfl, rfl, rfl, rfl, rfl, rfl, rfl, rfl, rfl, trivial⟩ [h0, h1, h2, h3, h4, h5, h6, h7, h8, h9] rfl rfl 10 rfl (by decide +kernel) (fun H locs hw => ?_)
        refine lv_istore (lv' := [(4, .int o26), (0, .ref h0), (1, .int a0), (2, .int a1), (3, .int a2)]) hx hb dX8_get_29 hl (by decide) rfl (fun ls hl => ?_)
        refine lv_iload hx hb dX8_get_31 (lv_at hl 0 rfl) ?_
        refine lv_if_eq (tgt := 47) hx hb dX8_get_33 (by decide) (fun hc => ?_) (fun hc => ?_)
        · have hm := ipos hc hm
          refine lv_aload_n hx hb dX8_get_47 rfl (lv_at hl 1 rfl) ?_
          refine gGet C0 hw flX8_61 0 rfl rfl dX8_get_48 ?_
          refine lv_iload_n hx hb dX8_get_51 rfl (lv_at hl 2 rfl) ?_
          by_cases hs0 : a0 = (0 : Int32)
          · have hm := ipos hs0 hm
            refine gAldL C0 hw 9 rfl hs0 (inbE (by decide)) rfl dX8_get_52 ?_
            refine gGet C0 hw flX8_168 1 rfl rfl dX8_get_53 ?_
            refine lv_iload_n hx hb dX8_get_56 rfl (lv_at hl 4 rfl) ?_
            obtain ⟨hin, hm⟩ := gdE hm
            have hin := inbE hin
            refine gAldI C0 hw 2 rfl hin dX8_get_57 ?_
            have hm := Option.some.inj hm
            subst hm
            exact gRetI C0 hw dX8_get_58
          have hm := ineg hs0 hm
          by_cases hs1 : a0 = (1 : Int32)
          · have hm := ipos hs1 hm
            refine gAldL C0 hw 9 rfl hs1 (inbE (by decide)) rfl dX8_get_52 ?_
            refine gGet C0 hw flX8_168 3 rfl rfl dX8_get_53 ?_
            refine lv_iload_n hx hb dX8_get_56 rfl (lv_at hl 4 rfl) ?_
            obtain ⟨hin, hm⟩ := gdE hm
            have hin := inbE hin
            refine gAldI C0 hw 4 rfl hin dX8_get_57 ?_
            have hm := Option.some.inj hm
            subst hm
            exact gRetI C0 hw dX8_get_58
          have hm := ineg hs1 hm
          by_cases hs2 : a0 = (2 : Int32)
          · have hm := ipos hs2 hm
            refine gAldL C0 hw 9 rfl hs2 (inbE (by decide)) rfl dX8_get_52 ?_
            refine gGet C0 hw flX8_168 5 rfl rfl dX8_get_53 ?_
            refine lv_iload_n hx hb dX8_get_56 rfl (lv_at hl 4 rfl) ?_
            obtain ⟨hin, hm⟩ := gdE hm
            have hin := inbE hin
            refine gAldI C0 hw 6 rfl hin dX8_get_57 ?_
            have hm := Option.some.inj hm
            subst hm
            exact gRetI C0 hw dX8_get_58
          have hm := ineg hs2 hm
          by_cases hs3 : a0 = (3 : Int32)
          · have hm := ipos hs3 hm
            refine gAldL C0 hw 9 rfl hs3 (inbE (by decide)) rfl dX8_get_52 ?_
            refine gGet C0 hw flX8_168 7 rfl rfl dX8_get_53 ?_
            refine lv_iload_n hx hb dX8_get_56 rfl (lv_at hl 4 rfl) ?_
            obtain ⟨hin, hm⟩ := gdE hm
            have hin := inbE hin
            refine gAldI C0 hw 8 rfl hin dX8_get_57 ?_
            have hm := Option.some.inj hm
            subst hm
            exact gRetI C0 hw dX8_get_58
          have hm := ineg hs3 hm
          cases hm
        · have hm := ineg hc hm
          refine lv_aload_n hx hb dX8_get_36 rfl (lv_at hl 1 rfl) ?_
          refine lv_iload hx hb dX8_get_37 (lv_at hl 0 rfl) ?_
          obtain ⟨o39, ho39, hm⟩ := bindE hm
          refine gCalli (ws' := (W_x_get g h0 h1 h2 h3 h4 h5 h6 h7 h8 h9 h10 h11 h12 h13 h14 h15 h16 h17 h18 h19 h20 v_toldIsStale o39.2 v_sheets0_form v_sheets0_size v_sheets0_items v_sheets1_form v_sheets1_size v_sheets1_items v_sheets2_form v_sheets2_size v_sheets2_items v_sheets3_form v_sheets3_size v_sheets3_items)) C0 hw (gRunV (As := [.int o26]) (rest := []) C0 hw lkX8_161 (c_x_found l g H.size h0 h10 h11 h12 h13 h14 h15 h16 h17 h9 h18 h19 h20 v_toldIsStale v_latestFinding o26 o39 ho39) ⟨rfl, rfl⟩ ⟨Nat.le_of_ble_eq_true rfl, Nat.le_of_ble_eq_true rfl⟩ [0] (by decide) rfl 0 rfl rfl rfl hl.1 rfl (Nat.le_of_ble_eq_true rfl) dX8_get_39) [0] [1, 2, 3, 4, 5, 6, 7, 8, 9] rfl rfl ⟨rfl, rfl, rfl, rfl, rfl, rfl, rfl, rfl, rfl, trivial⟩ [h0, h1, h2, h3, h4, h5, h6, h7, h8, h9] rfl rfl 10 rfl (by decide +kernel) (fun H locs hw => ?_)
          refine lv_pop hx hb dX8_get_42 rfl ?_
          refine lv_ldcw (v := -2147483648) hx hb hown (hts _ kX8_272) dX8_get_43 ?_
          have hm := Option.some.inj hm
          subst hm
          exact gRetI C0 hw dX8_get_46
      have hm := ineg hs2 hm
      by_cases hs3 : a0 = (3 : Int32)
      · have hm := ipos hs3 hm
        refine gAldL C0 hw 9 rfl hs3 (inbE (by decide)) rfl dX8_get_23 ?_
        refine lv_iload_n hx hb dX8_get_24 rfl (lv_at hl 2 rfl) ?_
        refine lv_iload_n hx hb dX8_get_25 rfl (lv_at hl 3 rfl) ?_
        obtain ⟨o26, ho26, hm⟩ := bindE hm
        refine gCalli (ws' := (W_x_get g h0 h1 h2 h3 h4 h5 h6 h7 h8 h9 h10 h11 h12 h13 h14 h15 h16 h17 h18 h19 h20 v_toldIsStale v_latestFinding v_sheets0_form v_sheets0_size v_sheets0_items v_sheets1_form v_sheets1_size v_sheets1_items v_sheets2_form v_sheets2_size v_sheets2_items v_sheets3_form v_sheets3_size v_sheets3_items)) C0 hw (gRunV (As := [.int a1, .int a2]) (rest := []) C0 hw lkX8_267 (c_sh_findingAt l g H.size h7 h8 v_sheets3_form v_sheets3_size a1 a2 o26 ho26) ⟨rfl, rfl⟩ ⟨Nat.le_of_ble_eq_true rfl, Nat.le_of_ble_eq_true rfl⟩ [7] (by decide) rfl 7 rfl rfl rfl hl.1 rfl (Nat.le_of_ble_eq_true rfl) dX8_get_26) [7] [0, 1, 2, 3, 4, 5, 6, 8, 9] rfl rfl ⟨rfl, rfl, rfl, rfl, rfl, rfl, rfl, rfl, rfl, trivial⟩ [h0, h1, h2, h3, h4, h5, h6, h7, h8, h9] rfl rfl 10 rfl (by decide +kernel) (fun H locs hw => ?_)
        refine lv_istore (lv' := [(4, .int o26), (0, .ref h0), (1, .int a0), (2, .int a1), (3, .int a2)]) hx hb dX8_get_29 hl (by decide) rfl (fun ls hl => ?_)
        refine lv_iload hx hb dX8_get_31 (lv_at hl 0 rfl) ?_
        refine lv_if_eq (tgt := 47) hx hb dX8_get_33 (by decide) (fun hc => ?_) (fun hc => ?_)
        · have hm := ipos hc hm
          refine lv_aload_n hx hb dX8_get_47 rfl (lv_at hl 1 rfl) ?_
          refine gGet C0 hw flX8_61 0 rfl rfl dX8_get_48 ?_
          refine lv_iload_n hx hb dX8_get_51 rfl (lv_at hl 2 rfl) ?_
          by_cases hs0 : a0 = (0 : Int32)
          · have hm := ipos hs0 hm
            refine gAldL C0 hw 9 rfl hs0 (inbE (by decide)) rfl dX8_get_52 ?_
            refine gGet C0 hw flX8_168 1 rfl rfl dX8_get_53 ?_
            refine lv_iload_n hx hb dX8_get_56 rfl (lv_at hl 4 rfl) ?_
            obtain ⟨hin, hm⟩ := gdE hm
            have hin := inbE hin
            refine gAldI C0 hw 2 rfl hin dX8_get_57 ?_
            have hm := Option.some.inj hm
            subst hm
            exact gRetI C0 hw dX8_get_58
          have hm := ineg hs0 hm
          by_cases hs1 : a0 = (1 : Int32)
          · have hm := ipos hs1 hm
            refine gAldL C0 hw 9 rfl hs1 (inbE (by decide)) rfl dX8_get_52 ?_
            refine gGet C0 hw flX8_168 3 rfl rfl dX8_get_53 ?_
            refine lv_iload_n hx hb dX8_get_56 rfl (lv_at hl 4 rfl) ?_
            obtain ⟨hin, hm⟩ := gdE hm
            have hin := inbE hin
            refine gAldI C0 hw 4 rfl hin dX8_get_57 ?_
            have hm := Option.some.inj hm
            subst hm
            exact gRetI C0 hw dX8_get_58
          have hm := ineg hs1 hm
          by_cases hs2 : a0 = (2 : Int32)
          · have hm := ipos hs2 hm
            refine gAldL C0 hw 9 rfl hs2 (inbE (by decide)) rfl dX8_get_52 ?_
            refine gGet C0 hw flX8_168 5 rfl rfl dX8_get_53 ?_
            refine lv_iload_n hx hb dX8_get_56 rfl (lv_at hl 4 rfl) ?_
            obtain ⟨hin, hm⟩ := gdE hm
            have hin := inbE hin
            refine gAldI C0 hw 6 rfl hin dX8_get_57 ?_
            have hm := Option.some.inj hm
            subst hm
            exact gRetI C0 hw dX8_get_58
          have hm := ineg hs2 hm
          by_cases hs3 : a0 = (3 : Int32)
          · have hm := ipos hs3 hm
            refine gAldL C0 hw 9 rfl hs3 (inbE (by decide)) rfl dX8_get_52 ?_
            refine gGet C0 hw flX8_168 7 rfl rfl dX8_get_53 ?_
            refine lv_iload_n hx hb dX8_get_56 rfl (lv_at hl 4 rfl) ?_
            obtain ⟨hin, hm⟩ := gdE hm
            have hin := inbE hin
            refine gAldI C0 hw 8 rfl hin dX8_get_57 ?_
            have hm := Option.some.inj hm
            subst hm
            exact gRetI C0 hw dX8_get_58
          have hm := ineg hs3 hm
          cases hm
        · have hm := ineg hc hm
          refine lv_aload_n hx hb dX8_get_36 rfl (lv_at hl 1 rfl) ?_
          refine lv_iload hx hb dX8_get_37 (lv_at hl 0 rfl) ?_
          obtain ⟨o39, ho39, hm⟩ := bindE hm
          refine gCalli (ws' := (W_x_get g h0 h1 h2 h3 h4 h5 h6 h7 h8 h9 h10 h11 h12 h13 h14 h15 h16 h17 h18 h19 h20 v_toldIsStale o39.2 v_sheets0_form v_sheets0_size v_sheets0_items v_sheets1_form v_sheets1_size v_sheets1_items v_sheets2_form v_sheets2_size v_sheets2_items v_sheets3_form v_sheets3_size v_sheets3_items)) C0 hw (gRunV (As := [.int o26]) (rest := []) C0 hw lkX8_161 (c_x_found l g H.size h0 h10 h11 h12 h13 h14 h15 h16 h17 h9 h18 h19 h20 v_toldIsStale v_latestFinding o26 o39 ho39) ⟨rfl, rfl⟩ ⟨Nat.le_of_ble_eq_true rfl, Nat.le_of_ble_eq_true rfl⟩ [0] (by decide) rfl 0 rfl rfl rfl hl.1 rfl (Nat.le_of_ble_eq_true rfl) dX8_get_39) [0] [1, 2, 3, 4, 5, 6, 7, 8, 9] rfl rfl ⟨rfl, rfl, rfl, rfl, rfl, rfl, rfl, rfl, rfl, trivial⟩ [h0, h1, h2, h3, h4, h5, h6, h7, h8, h9] rfl rfl 10 rfl (by decide +kernel) (fun H locs hw => ?_)
          refine lv_pop hx hb dX8_get_42 rfl ?_
          refine lv_ldcw (v := -2147483648) hx hb hown (hts _ kX8_272) dX8_get_43 ?_
          have hm := Option.some.inj hm
          subst hm
          exact gRetI C0 hw dX8_get_46
      have hm := ineg hs3 hm
      cases hm
    · have hm := ipos hc hm
      refine lv_ldcw (v := -2147483648) hx hb hown (hts _ kX8_272) dX8_get_14 ?_
      have hm := Option.some.inj hm
      subst hm
      exact gRetI C0 hw dX8_get_17

-- WallHands.copy(IIIII)I
abbrev W_x_copy (g : gG) (h0 h1 h2 h3 h4 h5 h6 h7 h8 h9 h10 h11 h12 h13 h14 h15 h16 h17 h18 h19 h20 : Nat) (v_toldIsStale : Int32) (v_latestFinding : Int32) (v_sheets0_form : Int32) (v_sheets0_size : Int32) (v_sheets0_items : Nat → Int32) (v_sheets1_form : Int32) (v_sheets1_size : Int32) (v_sheets1_items : Nat → Int32) (v_sheets2_form : Int32) (v_sheets2_size : Int32) (v_sheets2_items : Nat → Int32) (v_sheets3_form : Int32) (v_sheets3_size : Int32) (v_sheets3_items : Nat → Int32) : va_W := [(h0, .inr (8, [.ref h10, .ref h11, .ref h12, .ref h13, .ref h14, .ref h15, .ref h16, .ref h17, .ref h9, .ref h18, .ref h19, .ref h20, .int v_toldIsStale, .int v_latestFinding])), (h1, .inr (3, [.ref h2, .int v_sheets0_form, .int v_sheets0_size])), (h2, .inl (gI g, 60, .inl v_sheets0_items)), (h3, .inr (3, [.ref h4, .int v_sheets1_form, .int v_sheets1_size])), (h4, .inl (gI g, 60, .inl v_sheets1_items)), (h5, .inr (3, [.ref h6, .int v_sheets2_form, .int v_sheets2_size])), (h6, .inl (gI g, 60, .inl v_sheets2_items)), (h7, .inr (3, [.ref h8, .int v_sheets3_form, .int v_sheets3_size])), (h8, .inl (gI g, 60, .inl v_sheets3_items)), (h9, .inl (gL g, 4, .inr (.inr (.inr (.inr (g4 h1 h3 h5 h7))))))]

abbrev rm_x_copy : Room := { frames := 2, cells := 0, slots := 0, locals := 48 }

set_option maxHeartbeats 1000000 in
set_option maxRecDepth 100000 in
theorem n_x_copy_N51 {p : Program} {l : Launch} {e : Env} {s : State} {m : MethodId} {args : Array Value} {below : List Frame} {meth : Method} {c : Code} {A : Nat → Prop} {g : gG} {h0 h1 h2 h3 h4 h5 h6 h7 h8 h9 h10 h11 h12 h13 h14 h15 h16 h17 h18 h19 h20 : Nat} {v_toldIsStale : Int32} {v_sheets0_form : Int32} {v_sheets0_size : Int32} {v_sheets1_form : Int32} {v_sheets1_size : Int32} {v_sheets2_form : Int32} {v_sheets2_size : Int32} {v_sheets3_form : Int32} {v_sheets3_size : Int32} {r : (Int32 × Int32 × (Nat → Int32) × (Nat → Int32) × (Nat → Int32) × (Nat → Int32))} (C0 : gX p s m args meth c cX8_copy 8 (some .int) RX8 g A) : ∀ (v_latestFinding : Int32) (v_sheets0_items : Nat → Int32) (v_sheets1_items : Nat → Int32) (v_sheets2_items : Nat → Int32) (v_sheets3_items : Nat → Int32), f_x_copy_N51 v_sheets0_form v_sheets0_size v_sheets1_form v_sheets1_size v_sheets2_form v_sheets2_size v_sheets3_form v_sheets3_size v_latestFinding v_sheets0_items v_sheets1_items v_sheets2_items v_sheets3_items = some r → ∀ (H : Heap) (locs : List Loc) (ls : Array Slot), gW g A s (W_x_copy g h0 h1 h2 h3 h4 h5 h6 h7 h8 h9 h10 h11 h12 h13 h14 h15 h16 h17 h18 h19 h20 v_toldIsStale v_latestFinding v_sheets0_form v_sheets0_size v_sheets0_items v_sheets1_form v_sheets1_size v_sheets1_items v_sheets2_form v_sheets2_size v_sheets2_items v_sheets3_form v_sheets3_size v_sheets3_items) H locs → lv_has ls 8 [(0, .ref h0)] → W p l e rm_x_copy s m args below meth c H locs 0 0 (gQi below args s A g r.1 (W_x_copy g h0 h1 h2 h3 h4 h5 h6 h7 h8 h9 h10 h11 h12 h13 h14 h15 h16 h17 h18 h19 h20 v_toldIsStale r.2.1 v_sheets0_form v_sheets0_size r.2.2.1 v_sheets1_form v_sheets1_size r.2.2.2.1 v_sheets2_form v_sheets2_size r.2.2.2.2.1 v_sheets3_form v_sheets3_size r.2.2.2.2.2)) (F0 m 51 ls []) := by
  intro v_latestFinding v_sheets0_items v_sheets1_items v_sheets2_items v_sheets3_items hm H locs ls hw hl
  unfold f_x_copy_N51 at hm
  obtain ⟨hx, hb, hr, hml, hown, hts, hlocks, hK, hA⟩ := id C0
  refine lv_aload_n hx hb dX8_copy_51 rfl (lv_at hl 0 rfl) ?_
  refine lv_iconst (v := 1) hx hb dX8_copy_52 (by decide) ?_
  obtain ⟨o53, ho53, hm⟩ := bindE hm
  refine gCalli (ws' := (W_x_copy g h0 h1 h2 h3 h4 h5 h6 h7 h8 h9 h10 h11 h12 h13 h14 h15 h16 h17 h18 h19 h20 v_toldIsStale o53.2 v_sheets0_form v_sheets0_size v_sheets0_items v_sheets1_form v_sheets1_size v_sheets1_items v_sheets2_form v_sheets2_size v_sheets2_items v_sheets3_form v_sheets3_size v_sheets3_items)) C0 hw (gRunV (As := [.int (1 : Int32)]) (rest := []) C0 hw lkX8_161 (c_x_found l g H.size h0 h10 h11 h12 h13 h14 h15 h16 h17 h9 h18 h19 h20 v_toldIsStale v_latestFinding (1 : Int32) o53 ho53) ⟨rfl, rfl⟩ ⟨Nat.le_of_ble_eq_true rfl, Nat.le_of_ble_eq_true rfl⟩ [0] (by decide) rfl 0 rfl rfl rfl hl.1 rfl (Nat.le_of_ble_eq_true rfl) dX8_copy_53) [0] [1, 2, 3, 4, 5, 6, 7, 8, 9] rfl rfl ⟨rfl, rfl, rfl, rfl, rfl, rfl, rfl, rfl, rfl, trivial⟩ [h0, h1, h2, h3, h4, h5, h6, h7, h8, h9] rfl rfl 10 rfl (by decide +kernel) (fun H locs hw => ?_)
  have hm := Option.some.inj hm
  subst hm
  exact gRetI C0 hw dX8_copy_56
set_option maxHeartbeats 1000000 in
set_option maxRecDepth 100000 in
theorem n_x_copy_N99 {p : Program} {l : Launch} {e : Env} {s : State} {m : MethodId} {args : Array Value} {below : List Frame} {meth : Method} {c : Code} {A : Nat → Prop} {g : gG} {h0 h1 h2 h3 h4 h5 h6 h7 h8 h9 h10 h11 h12 h13 h14 h15 h16 h17 h18 h19 h20 : Nat} {v_toldIsStale : Int32} {v_sheets0_form : Int32} {v_sheets0_size : Int32} {v_sheets1_form : Int32} {v_sheets1_size : Int32} {v_sheets2_form : Int32} {v_sheets2_size : Int32} {v_sheets3_form : Int32} {v_sheets3_size : Int32} {r : (Int32 × Int32 × (Nat → Int32) × (Nat → Int32) × (Nat → Int32) × (Nat → Int32))} (C0 : gX p s m args meth c cX8_copy 8 (some .int) RX8 g A) : ∀ (v_latestFinding : Int32) (v_sheets0_items : Nat → Int32) (v_sheets1_items : Nat → Int32) (v_sheets2_items : Nat → Int32) (v_sheets3_items : Nat → Int32), f_x_copy_N99 v_sheets0_form v_sheets0_size v_sheets1_form v_sheets1_size v_sheets2_form v_sheets2_size v_sheets3_form v_sheets3_size v_latestFinding v_sheets0_items v_sheets1_items v_sheets2_items v_sheets3_items = some r → ∀ (H : Heap) (locs : List Loc) (ls : Array Slot), gW g A s (W_x_copy g h0 h1 h2 h3 h4 h5 h6 h7 h8 h9 h10 h11 h12 h13 h14 h15 h16 h17 h18 h19 h20 v_toldIsStale v_latestFinding v_sheets0_form v_sheets0_size v_sheets0_items v_sheets1_form v_sheets1_size v_sheets1_items v_sheets2_form v_sheets2_size v_sheets2_items v_sheets3_form v_sheets3_size v_sheets3_items) H locs → lv_has ls 8 [(0, .ref h0)] → W p l e rm_x_copy s m args below meth c H locs 0 0 (gQi below args s A g r.1 (W_x_copy g h0 h1 h2 h3 h4 h5 h6 h7 h8 h9 h10 h11 h12 h13 h14 h15 h16 h17 h18 h19 h20 v_toldIsStale r.2.1 v_sheets0_form v_sheets0_size r.2.2.1 v_sheets1_form v_sheets1_size r.2.2.2.1 v_sheets2_form v_sheets2_size r.2.2.2.2.1 v_sheets3_form v_sheets3_size r.2.2.2.2.2)) (F0 m 99 ls []) := by
  intro v_latestFinding v_sheets0_items v_sheets1_items v_sheets2_items v_sheets3_items hm H locs ls hw hl
  unfold f_x_copy_N99 at hm
  obtain ⟨hx, hb, hr, hml, hown, hts, hlocks, hK, hA⟩ := id C0
  refine lv_aload_n hx hb dX8_copy_99 rfl (lv_at hl 0 rfl) ?_
  refine lv_iconst (v := 2) hx hb dX8_copy_100 (by decide) ?_
  obtain ⟨o101, ho101, hm⟩ := bindE hm
  refine gCalli (ws' := (W_x_copy g h0 h1 h2 h3 h4 h5 h6 h7 h8 h9 h10 h11 h12 h13 h14 h15 h16 h17 h18 h19 h20 v_toldIsStale o101.2 v_sheets0_form v_sheets0_size v_sheets0_items v_sheets1_form v_sheets1_size v_sheets1_items v_sheets2_form v_sheets2_size v_sheets2_items v_sheets3_form v_sheets3_size v_sheets3_items)) C0 hw (gRunV (As := [.int (2 : Int32)]) (rest := []) C0 hw lkX8_161 (c_x_found l g H.size h0 h10 h11 h12 h13 h14 h15 h16 h17 h9 h18 h19 h20 v_toldIsStale v_latestFinding (2 : Int32) o101 ho101) ⟨rfl, rfl⟩ ⟨Nat.le_of_ble_eq_true rfl, Nat.le_of_ble_eq_true rfl⟩ [0] (by decide) rfl 0 rfl rfl rfl hl.1 rfl (Nat.le_of_ble_eq_true rfl) dX8_copy_101) [0] [1, 2, 3, 4, 5, 6, 7, 8, 9] rfl rfl ⟨rfl, rfl, rfl, rfl, rfl, rfl, rfl, rfl, rfl, trivial⟩ [h0, h1, h2, h3, h4, h5, h6, h7, h8, h9] rfl rfl 10 rfl (by decide +kernel) (fun H locs hw => ?_)
  have hm := Option.some.inj hm
  subst hm
  exact gRetI C0 hw dX8_copy_104
set_option maxHeartbeats 1000000 in
set_option maxRecDepth 100000 in
theorem c_x_copy (l : Launch) (g : gG) (sz : Nat) (h0 h1 h2 h3 h4 h5 h6 h7 h8 h9 h10 h11 h12 h13 h14 h15 h16 h17 h18 h19 h20 : Nat) (v_toldIsStale : Int32) (v_latestFinding : Int32) (v_sheets0_form : Int32) (v_sheets0_size : Int32) (v_sheets0_items : Nat → Int32) (v_sheets1_form : Int32) (v_sheets1_size : Int32) (v_sheets1_items : Nat → Int32) (v_sheets2_form : Int32) (v_sheets2_size : Int32) (v_sheets2_items : Nat → Int32) (v_sheets3_form : Int32) (v_sheets3_size : Int32) (v_sheets3_items : Nat → Int32) (a0 : Int32) (a1 : Int32) (a2 : Int32) (a3 : Int32) (a4 : Int32) (r : (Int32 × Int32 × (Nat → Int32) × (Nat → Int32) × (Nat → Int32) × (Nat → Int32))) (hm : f_x_copy v_latestFinding v_sheets0_form v_sheets0_size v_sheets0_items v_sheets1_form v_sheets1_size v_sheets1_items v_sheets2_form v_sheets2_size v_sheets2_items v_sheets3_form v_sheets3_size v_sheets3_items a0 a1 a2 a3 a4 = some r) : gMi l yX8_copy cX8_copy 8 (some .int) rm_x_copy g sz [.ref h0, .int a0, .int a1, .int a2, .int a3, .int a4] (W_x_copy g h0 h1 h2 h3 h4 h5 h6 h7 h8 h9 h10 h11 h12 h13 h14 h15 h16 h17 h18 h19 h20 v_toldIsStale v_latestFinding v_sheets0_form v_sheets0_size v_sheets0_items v_sheets1_form v_sheets1_size v_sheets1_items v_sheets2_form v_sheets2_size v_sheets2_items v_sheets3_form v_sheets3_size v_sheets3_items) r.1 (W_x_copy g h0 h1 h2 h3 h4 h5 h6 h7 h8 h9 h10 h11 h12 h13 h14 h15 h16 h17 h18 h19 h20 v_toldIsStale r.2.1 v_sheets0_form v_sheets0_size r.2.2.1 v_sheets1_form v_sheets1_size r.2.2.2.1 v_sheets2_form v_sheets2_size r.2.2.2.2.1 v_sheets3_form v_sheets3_size r.2.2.2.2.2) := by
  unfold f_x_copy at hm
  refine gEnterI (by decide) (Nat.le_of_ble_eq_true rfl) (fun p e s m below meth c A C0 H locs hw ls hl => ?_)
  obtain ⟨hx, hb, hr, hml, hown, hts, hlocks, hK, hA⟩ := id C0
  have C0 : gX p s m [.ref h0, .int a0, .int a1, .int a2, .int a3, .int a4].toArray meth c cX8_copy 8 (some .int) RX8 g A := C0
  have hl : lv_has ls 8 [(0, .ref h0), (1, .int a0), (2, .int a1), (3, .int a2), (4, .int a3), (5, .int a4)] := hl
  refine lv_iload_n hx hb dX8_copy_0 rfl (lv_at hl 1 rfl) ?_
  obtain ⟨o1, ho1, hm⟩ := bindE hm
  refine gCalli (ws' := (W_x_copy g h0 h1 h2 h3 h4 h5 h6 h7 h8 h9 h10 h11 h12 h13 h14 h15 h16 h17 h18 h19 h20 v_toldIsStale v_latestFinding v_sheets0_form v_sheets0_size v_sheets0_items v_sheets1_form v_sheets1_size v_sheets1_items v_sheets2_form v_sheets2_size v_sheets2_items v_sheets3_form v_sheets3_size v_sheets3_items)) C0 hw (gRunS (As := [.int a0]) (rest := []) C0 hw lkX8_155 (c_x_isSheet l g H.size  a0 o1 ho1) ⟨rfl, rfl⟩ ⟨Nat.le_of_ble_eq_true rfl, Nat.le_of_ble_eq_true rfl⟩ [] (by decide) rfl rfl hl.1 rfl (Nat.le_of_ble_eq_true rfl) dX8_copy_1) [] [0, 1, 2, 3, 4, 5, 6, 7, 8, 9] rfl rfl ⟨rfl, rfl, rfl, rfl, rfl, rfl, rfl, rfl, rfl, rfl, trivial⟩ [h0, h1, h2, h3, h4, h5, h6, h7, h8, h9] rfl rfl 10 rfl (by decide +kernel) (fun H locs hw => ?_)
  refine lv_if_eq (tgt := 14) hx hb dX8_copy_4 (by decide) (fun hc => ?_) (fun hc => ?_)
  · have hm := ipos hc hm
    refine lv_bipush (v := -2) hx hb dX8_copy_14 (by decide) ?_
    have hm := Option.some.inj hm
    subst hm
    exact gRetI C0 hw dX8_copy_16
  · have hm := ineg hc hm
    refine lv_iload_n hx hb dX8_copy_7 rfl (lv_at hl 3 rfl) ?_
    obtain ⟨o8, ho8, hm⟩ := bindE hm
    refine gCalli (ws' := (W_x_copy g h0 h1 h2 h3 h4 h5 h6 h7 h8 h9 h10 h11 h12 h13 h14 h15 h16 h17 h18 h19 h20 v_toldIsStale v_latestFinding v_sheets0_form v_sheets0_size v_sheets0_items v_sheets1_form v_sheets1_size v_sheets1_items v_sheets2_form v_sheets2_size v_sheets2_items v_sheets3_form v_sheets3_size v_sheets3_items)) C0 hw (gRunS (As := [.int a2]) (rest := []) C0 hw lkX8_155 (c_x_isSheet l g H.size  a2 o8 ho8) ⟨rfl, rfl⟩ ⟨Nat.le_of_ble_eq_true rfl, Nat.le_of_ble_eq_true rfl⟩ [] (by decide) rfl rfl hl.1 rfl (Nat.le_of_ble_eq_true rfl) dX8_copy_8) [] [0, 1, 2, 3, 4, 5, 6, 7, 8, 9] rfl rfl ⟨rfl, rfl, rfl, rfl, rfl, rfl, rfl, rfl, rfl, rfl, trivial⟩ [h0, h1, h2, h3, h4, h5, h6, h7, h8, h9] rfl rfl 10 rfl (by decide +kernel) (fun H locs hw => ?_)
    refine lv_if_ne (tgt := 17) hx hb dX8_copy_11 (by decide) (fun hc => ?_) (fun hc => ?_)
    · have hm := ineg hc hm
      refine lv_aload_n hx hb dX8_copy_17 rfl (lv_at hl 0 rfl) ?_
      refine gGet C0 hw flX8_61 0 rfl rfl dX8_copy_18 ?_
      refine lv_iload_n hx hb dX8_copy_21 rfl (lv_at hl 1 rfl) ?_
      by_cases hs0 : a0 = (0 : Int32)
      · have hm := ipos hs0 hm
        refine gAldL C0 hw 9 rfl hs0 (inbE (by decide)) rfl dX8_copy_22 ?_
        refine lv_astore (lv' := [(6, .ref h1), (0, .ref h0), (1, .int a0), (2, .int a1), (3, .int a2), (4, .int a3), (5, .int a4)]) hx hb dX8_copy_23 hl (by decide) rfl (fun ls hl => ?_)
        refine lv_aload_n hx hb dX8_copy_25 rfl (lv_at hl 1 rfl) ?_
        refine gGet C0 hw flX8_61 0 rfl rfl dX8_copy_26 ?_
        refine lv_iload_n hx hb dX8_copy_29 rfl (lv_at hl 4 rfl) ?_
        by_cases hs0 : a2 = (0 : Int32)
        · have hm := ipos hs0 hm
          refine gAldL C0 hw 9 rfl hs0 (inbE (by decide)) rfl dX8_copy_30 ?_
          refine lv_astore (lv' := [(7, .ref h1), (6, .ref h1), (0, .ref h0), (1, .int a0), (2, .int a1), (3, .int a2), (4, .int a3), (5, .int a4)]) hx hb dX8_copy_31 hl (by decide) rfl (fun ls hl => ?_)
          refine lv_aload hx hb dX8_copy_33 (lv_at hl 1 rfl) ?_
          refine gGet C0 hw flX8_158 1 rfl rfl dX8_copy_35 ?_
          refine lv_iconst (v := -1) hx hb dX8_copy_38 (by decide) ?_
          refine lv_icmp_eq (tgt := 51) hx hb dX8_copy_39 (by decide) (fun hc => ?_) (fun hc => ?_)
          · have hm := ipos hc hm
            exact n_x_copy_N51 C0  _ _ _ _ _ hm _ _ _ hw (lv_sub hl [2] rfl)
          · have hm := ineg hc hm
            refine lv_aload hx hb dX8_copy_42 (lv_at hl 0 rfl) ?_
            refine gGet C0 hw flX8_158 1 rfl rfl dX8_copy_44 ?_
            refine lv_iconst (v := -1) hx hb dX8_copy_47 (by decide) ?_
            refine lv_icmp_ne (tgt := 57) hx hb dX8_copy_48 (by decide) (fun hc => ?_) (fun hc => ?_)
            · have hm := ineg hc hm
              refine lv_aload hx hb dX8_copy_57 (lv_at hl 1 rfl) ?_
              refine gGet C0 hw flX8_158 1 rfl rfl dX8_copy_59 ?_
              refine lv_aload hx hb dX8_copy_62 (lv_at hl 0 rfl) ?_
              refine gGet C0 hw flX8_158 1 rfl rfl dX8_copy_64 ?_
              refine lv_icmp_eq (tgt := 76) hx hb dX8_copy_67 (by decide) (fun hc => ?_) (fun hc => ?_)
              · have hm := ipos hc hm
                refine lv_aload hx hb dX8_copy_76 (lv_at hl 1 rfl) ?_
                refine lv_iload_n hx hb dX8_copy_78 rfl (lv_at hl 4 rfl) ?_
                refine lv_iload hx hb dX8_copy_79 (lv_at hl 7 rfl) ?_
                obtain ⟨o81, ho81, hm⟩ := bindE hm
                refine gCalli (ws' := (W_x_copy g h0 h1 h2 h3 h4 h5 h6 h7 h8 h9 h10 h11 h12 h13 h14 h15 h16 h17 h18 h19 h20 v_toldIsStale v_latestFinding v_sheets0_form v_sheets0_size v_sheets0_items v_sheets1_form v_sheets1_size v_sheets1_items v_sheets2_form v_sheets2_size v_sheets2_items v_sheets3_form v_sheets3_size v_sheets3_items)) C0 hw (gRunV (As := [.int a1, .int a4]) (rest := []) C0 hw lkX8_273 (c_sh_hasItems l g H.size h1 h2 v_sheets0_form v_sheets0_size a1 a4 o81 ho81) ⟨rfl, rfl⟩ ⟨Nat.le_of_ble_eq_true rfl, Nat.le_of_ble_eq_true rfl⟩ [1] (by decide) rfl 1 rfl rfl rfl hl.1 rfl (Nat.le_of_ble_eq_true rfl) dX8_copy_81) [1] [0, 2, 3, 4, 5, 6, 7, 8, 9] rfl rfl ⟨rfl, rfl, rfl, rfl, rfl, rfl, rfl, rfl, rfl, trivial⟩ [h0, h1, h2, h3, h4, h5, h6, h7, h8, h9] rfl rfl 10 rfl (by decide +kernel) (fun H locs hw => ?_)
                refine lv_if_eq (tgt := 99) hx hb dX8_copy_84 (by decide) (fun hc => ?_) (fun hc => ?_)
                · have hm := ipos hc hm
                  exact n_x_copy_N99 C0  _ _ _ _ _ hm _ _ _ hw (lv_sub hl [2] rfl)
                · have hm := ineg hc hm
                  refine lv_aload hx hb dX8_copy_87 (lv_at hl 0 rfl) ?_
                  refine lv_iload hx hb dX8_copy_89 (lv_at hl 6 rfl) ?_
                  refine lv_iload hx hb dX8_copy_91 (lv_at hl 7 rfl) ?_
                  obtain ⟨o93, ho93, hm⟩ := bindE hm
                  refine gCalli (ws' := (W_x_copy g h0 h1 h2 h3 h4 h5 h6 h7 h8 h9 h10 h11 h12 h13 h14 h15 h16 h17 h18 h19 h20 v_toldIsStale v_latestFinding v_sheets0_form v_sheets0_size v_sheets0_items v_sheets1_form v_sheets1_size v_sheets1_items v_sheets2_form v_sheets2_size v_sheets2_items v_sheets3_form v_sheets3_size v_sheets3_items)) C0 hw (gRunV (As := [.int a3, .int a4]) (rest := []) C0 hw lkX8_273 (c_sh_hasItems l g H.size h1 h2 v_sheets0_form v_sheets0_size a3 a4 o93 ho93) ⟨rfl, rfl⟩ ⟨Nat.le_of_ble_eq_true rfl, Nat.le_of_ble_eq_true rfl⟩ [1] (by decide) rfl 1 rfl rfl rfl hl.1 rfl (Nat.le_of_ble_eq_true rfl) dX8_copy_93) [1] [0, 2, 3, 4, 5, 6, 7, 8, 9] rfl rfl ⟨rfl, rfl, rfl, rfl, rfl, rfl, rfl, rfl, rfl, trivial⟩ [h0, h1, h2, h3, h4, h5, h6, h7, h8, h9] rfl rfl 10 rfl (by decide +kernel) (fun H locs hw => ?_)
                  refine lv_if_ne (tgt := 105) hx hb dX8_copy_96 (by decide) (fun hc => ?_) (fun hc => ?_)
                  · have hm := ineg hc hm
                    refine lv_aload hx hb dX8_copy_105 (lv_at hl 1 rfl) ?_
                    refine gGet C0 hw flX8_168 1 rfl rfl dX8_copy_107 ?_
                    refine lv_iload_n hx hb dX8_copy_110 rfl (lv_at hl 4 rfl) ?_
                    refine lv_aload hx hb dX8_copy_111 (lv_at hl 0 rfl) ?_
                    refine gGet C0 hw flX8_168 1 rfl rfl dX8_copy_113 ?_
                    refine lv_iload hx hb dX8_copy_116 (lv_at hl 6 rfl) ?_
                    refine lv_iload hx hb dX8_copy_118 (lv_at hl 7 rfl) ?_
                    obtain ⟨hcp, hm⟩ := gdE hm
                    refine gCpyI (ws' := (W_x_copy g h0 h1 h2 h3 h4 h5 h6 h7 h8 h9 h10 h11 h12 h13 h14 h15 h16 h17 h18 h19 h20 v_toldIsStale v_latestFinding v_sheets0_form v_sheets0_size (va_cpy v_sheets0_items v_sheets0_items a1.toNatClampNeg a3.toNatClampNeg a4.toNatClampNeg) v_sheets1_form v_sheets1_size v_sheets1_items v_sheets2_form v_sheets2_size v_sheets2_items v_sheets3_form v_sheets3_size v_sheets3_items)) C0 hw hl.1 alX8_276 an_copy as_copy ai_copy 2 2 rfl rfl hcp (Nat.le_of_ble_eq_true rfl) (Nat.le_of_ble_eq_true rfl) rfl dX8_copy_120 (fun H locs hw => ?_)
                    refine lv_iconst (v := 1) hx hb dX8_copy_123 (by decide) ?_
                    have hm := Option.some.inj hm
                    subst hm
                    exact gRetI C0 hw dX8_copy_124
                  · have hm := ipos hc hm
                    exact n_x_copy_N99 C0  _ _ _ _ _ hm _ _ _ hw (lv_sub hl [2] rfl)
              · have hm := ineg hc hm
                refine lv_aload_n hx hb dX8_copy_70 rfl (lv_at hl 2 rfl) ?_
                refine lv_iconst (v := 4) hx hb dX8_copy_71 (by decide) ?_
                obtain ⟨o72, ho72, hm⟩ := bindE hm
                refine gCalli (ws' := (W_x_copy g h0 h1 h2 h3 h4 h5 h6 h7 h8 h9 h10 h11 h12 h13 h14 h15 h16 h17 h18 h19 h20 v_toldIsStale o72.2 v_sheets0_form v_sheets0_size v_sheets0_items v_sheets1_form v_sheets1_size v_sheets1_items v_sheets2_form v_sheets2_size v_sheets2_items v_sheets3_form v_sheets3_size v_sheets3_items)) C0 hw (gRunV (As := [.int (4 : Int32)]) (rest := []) C0 hw lkX8_161 (c_x_found l g H.size h0 h10 h11 h12 h13 h14 h15 h16 h17 h9 h18 h19 h20 v_toldIsStale v_latestFinding (4 : Int32) o72 ho72) ⟨rfl, rfl⟩ ⟨Nat.le_of_ble_eq_true rfl, Nat.le_of_ble_eq_true rfl⟩ [0] (by decide) rfl 0 rfl rfl rfl hl.1 rfl (Nat.le_of_ble_eq_true rfl) dX8_copy_72) [0] [1, 2, 3, 4, 5, 6, 7, 8, 9] rfl rfl ⟨rfl, rfl, rfl, rfl, rfl, rfl, rfl, rfl, rfl, trivial⟩ [h0, h1, h2, h3, h4, h5, h6, h7, h8, h9] rfl rfl 10 rfl (by decide +kernel) (fun H locs hw => ?_)
                have hm := Option.some.inj hm
                subst hm
                exact gRetI C0 hw dX8_copy_75
            · have hm := ipos hc hm
              exact n_x_copy_N51 C0  _ _ _ _ _ hm _ _ _ hw (lv_sub hl [2] rfl)
        have hm := ineg hs0 hm
        by_cases hs1 : a2 = (1 : Int32)
        · have hm := ipos hs1 hm
          refine gAldL C0 hw 9 rfl hs1 (inbE (by decide)) rfl dX8_copy_30 ?_
          refine lv_astore (lv' := [(7, .ref h3), (6, .ref h1), (0, .ref h0), (1, .int a0), (2, .int a1), (3, .int a2), (4, .int a3), (5, .int a4)]) hx hb dX8_copy_31 hl (by decide) rfl (fun ls hl => ?_)
          refine lv_aload hx hb dX8_copy_33 (lv_at hl 1 rfl) ?_
          refine gGet C0 hw flX8_158 1 rfl rfl dX8_copy_35 ?_
          refine lv_iconst (v := -1) hx hb dX8_copy_38 (by decide) ?_
          refine lv_icmp_eq (tgt := 51) hx hb dX8_copy_39 (by decide) (fun hc => ?_) (fun hc => ?_)
          · have hm := ipos hc hm
            exact n_x_copy_N51 C0  _ _ _ _ _ hm _ _ _ hw (lv_sub hl [2] rfl)
          · have hm := ineg hc hm
            refine lv_aload hx hb dX8_copy_42 (lv_at hl 0 rfl) ?_
            refine gGet C0 hw flX8_158 3 rfl rfl dX8_copy_44 ?_
            refine lv_iconst (v := -1) hx hb dX8_copy_47 (by decide) ?_
            refine lv_icmp_ne (tgt := 57) hx hb dX8_copy_48 (by decide) (fun hc => ?_) (fun hc => ?_)
            · have hm := ineg hc hm
              refine lv_aload hx hb dX8_copy_57 (lv_at hl 1 rfl) ?_
              refine gGet C0 hw flX8_158 1 rfl rfl dX8_copy_59 ?_
              refine lv_aload hx hb dX8_copy_62 (lv_at hl 0 rfl) ?_
              refine gGet C0 hw flX8_158 3 rfl rfl dX8_copy_64 ?_
              refine lv_icmp_eq (tgt := 76) hx hb dX8_copy_67 (by decide) (fun hc => ?_) (fun hc => ?_)
              · have hm := ipos hc hm
                refine lv_aload hx hb dX8_copy_76 (lv_at hl 1 rfl) ?_
                refine lv_iload_n hx hb dX8_copy_78 rfl (lv_at hl 4 rfl) ?_
                refine lv_iload hx hb dX8_copy_79 (lv_at hl 7 rfl) ?_
                obtain ⟨o81, ho81, hm⟩ := bindE hm
                refine gCalli (ws' := (W_x_copy g h0 h1 h2 h3 h4 h5 h6 h7 h8 h9 h10 h11 h12 h13 h14 h15 h16 h17 h18 h19 h20 v_toldIsStale v_latestFinding v_sheets0_form v_sheets0_size v_sheets0_items v_sheets1_form v_sheets1_size v_sheets1_items v_sheets2_form v_sheets2_size v_sheets2_items v_sheets3_form v_sheets3_size v_sheets3_items)) C0 hw (gRunV (As := [.int a1, .int a4]) (rest := []) C0 hw lkX8_273 (c_sh_hasItems l g H.size h1 h2 v_sheets0_form v_sheets0_size a1 a4 o81 ho81) ⟨rfl, rfl⟩ ⟨Nat.le_of_ble_eq_true rfl, Nat.le_of_ble_eq_true rfl⟩ [1] (by decide) rfl 1 rfl rfl rfl hl.1 rfl (Nat.le_of_ble_eq_true rfl) dX8_copy_81) [1] [0, 2, 3, 4, 5, 6, 7, 8, 9] rfl rfl ⟨rfl, rfl, rfl, rfl, rfl, rfl, rfl, rfl, rfl, trivial⟩ [h0, h1, h2, h3, h4, h5, h6, h7, h8, h9] rfl rfl 10 rfl (by decide +kernel) (fun H locs hw => ?_)
                refine lv_if_eq (tgt := 99) hx hb dX8_copy_84 (by decide) (fun hc => ?_) (fun hc => ?_)
                · have hm := ipos hc hm
                  exact n_x_copy_N99 C0  _ _ _ _ _ hm _ _ _ hw (lv_sub hl [2] rfl)
                · have hm := ineg hc hm
                  refine lv_aload hx hb dX8_copy_87 (lv_at hl 0 rfl) ?_
                  refine lv_iload hx hb dX8_copy_89 (lv_at hl 6 rfl) ?_
                  refine lv_iload hx hb dX8_copy_91 (lv_at hl 7 rfl) ?_
                  obtain ⟨o93, ho93, hm⟩ := bindE hm
                  refine gCalli (ws' := (W_x_copy g h0 h1 h2 h3 h4 h5 h6 h7 h8 h9 h10 h11 h12 h13 h14 h15 h16 h17 h18 h19 h20 v_toldIsStale v_latestFinding v_sheets0_form v_sheets0_size v_sheets0_items v_sheets1_form v_sheets1_size v_sheets1_items v_sheets2_form v_sheets2_size v_sheets2_items v_sheets3_form v_sheets3_size v_sheets3_items)) C0 hw (gRunV (As := [.int a3, .int a4]) (rest := []) C0 hw lkX8_273 (c_sh_hasItems l g H.size h3 h4 v_sheets1_form v_sheets1_size a3 a4 o93 ho93) ⟨rfl, rfl⟩ ⟨Nat.le_of_ble_eq_true rfl, Nat.le_of_ble_eq_true rfl⟩ [3] (by decide) rfl 3 rfl rfl rfl hl.1 rfl (Nat.le_of_ble_eq_true rfl) dX8_copy_93) [3] [0, 1, 2, 4, 5, 6, 7, 8, 9] rfl rfl ⟨rfl, rfl, rfl, rfl, rfl, rfl, rfl, rfl, rfl, trivial⟩ [h0, h1, h2, h3, h4, h5, h6, h7, h8, h9] rfl rfl 10 rfl (by decide +kernel) (fun H locs hw => ?_)
                  refine lv_if_ne (tgt := 105) hx hb dX8_copy_96 (by decide) (fun hc => ?_) (fun hc => ?_)
                  · have hm := ineg hc hm
                    refine lv_aload hx hb dX8_copy_105 (lv_at hl 1 rfl) ?_
                    refine gGet C0 hw flX8_168 1 rfl rfl dX8_copy_107 ?_
                    refine lv_iload_n hx hb dX8_copy_110 rfl (lv_at hl 4 rfl) ?_
                    refine lv_aload hx hb dX8_copy_111 (lv_at hl 0 rfl) ?_
                    refine gGet C0 hw flX8_168 3 rfl rfl dX8_copy_113 ?_
                    refine lv_iload hx hb dX8_copy_116 (lv_at hl 6 rfl) ?_
                    refine lv_iload hx hb dX8_copy_118 (lv_at hl 7 rfl) ?_
                    obtain ⟨hcp, hm⟩ := gdE hm
                    refine gCpyI (ws' := (W_x_copy g h0 h1 h2 h3 h4 h5 h6 h7 h8 h9 h10 h11 h12 h13 h14 h15 h16 h17 h18 h19 h20 v_toldIsStale v_latestFinding v_sheets0_form v_sheets0_size v_sheets0_items v_sheets1_form v_sheets1_size (va_cpy v_sheets0_items v_sheets1_items a1.toNatClampNeg a3.toNatClampNeg a4.toNatClampNeg) v_sheets2_form v_sheets2_size v_sheets2_items v_sheets3_form v_sheets3_size v_sheets3_items)) C0 hw hl.1 alX8_276 an_copy as_copy ai_copy 2 4 rfl rfl hcp (Nat.le_of_ble_eq_true rfl) (Nat.le_of_ble_eq_true rfl) rfl dX8_copy_120 (fun H locs hw => ?_)
                    refine lv_iconst (v := 1) hx hb dX8_copy_123 (by decide) ?_
                    have hm := Option.some.inj hm
                    subst hm
                    exact gRetI C0 hw dX8_copy_124
                  · have hm := ipos hc hm
                    exact n_x_copy_N99 C0  _ _ _ _ _ hm _ _ _ hw (lv_sub hl [2] rfl)
              · have hm := ineg hc hm
                refine lv_aload_n hx hb dX8_copy_70 rfl (lv_at hl 2 rfl) ?_
                refine lv_iconst (v := 4) hx hb dX8_copy_71 (by decide) ?_
                obtain ⟨o72, ho72, hm⟩ := bindE hm
                refine gCalli (ws' := (W_x_copy g h0 h1 h2 h3 h4 h5 h6 h7 h8 h9 h10 h11 h12 h13 h14 h15 h16 h17 h18 h19 h20 v_toldIsStale o72.2 v_sheets0_form v_sheets0_size v_sheets0_items v_sheets1_form v_sheets1_size v_sheets1_items v_sheets2_form v_sheets2_size v_sheets2_items v_sheets3_form v_sheets3_size v_sheets3_items)) C0 hw (gRunV (As := [.int (4 : Int32)]) (rest := []) C0 hw lkX8_161 (c_x_found l g H.size h0 h10 h11 h12 h13 h14 h15 h16 h17 h9 h18 h19 h20 v_toldIsStale v_latestFinding (4 : Int32) o72 ho72) ⟨rfl, rfl⟩ ⟨Nat.le_of_ble_eq_true rfl, Nat.le_of_ble_eq_true rfl⟩ [0] (by decide) rfl 0 rfl rfl rfl hl.1 rfl (Nat.le_of_ble_eq_true rfl) dX8_copy_72) [0] [1, 2, 3, 4, 5, 6, 7, 8, 9] rfl rfl ⟨rfl, rfl, rfl, rfl, rfl, rfl, rfl, rfl, rfl, trivial⟩ [h0, h1, h2, h3, h4, h5, h6, h7, h8, h9] rfl rfl 10 rfl (by decide +kernel) (fun H locs hw => ?_)
                have hm := Option.some.inj hm
                subst hm
                exact gRetI C0 hw dX8_copy_75
            · have hm := ipos hc hm
              exact n_x_copy_N51 C0  _ _ _ _ _ hm _ _ _ hw (lv_sub hl [2] rfl)
        have hm := ineg hs1 hm
        by_cases hs2 : a2 = (2 : Int32)
        · have hm := ipos hs2 hm
          refine gAldL C0 hw 9 rfl hs2 (inbE (by decide)) rfl dX8_copy_30 ?_
          refine lv_astore (lv' := [(7, .ref h5), (6, .ref h1), (0, .ref h0), (1, .int a0), (2, .int a1), (3, .int a2), (4, .int a3), (5, .int a4)]) hx hb dX8_copy_31 hl (by decide) rfl (fun ls hl => ?_)
          refine lv_aload hx hb dX8_copy_33 (lv_at hl 1 rfl) ?_
          refine gGet C0 hw flX8_158 1 rfl rfl dX8_copy_35 ?_
          refine lv_iconst (v := -1) hx hb dX8_copy_38 (by decide) ?_
          refine lv_icmp_eq (tgt := 51) hx hb dX8_copy_39 (by decide) (fun hc => ?_) (fun hc => ?_)
          · have hm := ipos hc hm
            exact n_x_copy_N51 C0  _ _ _ _ _ hm _ _ _ hw (lv_sub hl [2] rfl)
          · have hm := ineg hc hm
            refine lv_aload hx hb dX8_copy_42 (lv_at hl 0 rfl) ?_
            refine gGet C0 hw flX8_158 5 rfl rfl dX8_copy_44 ?_
            refine lv_iconst (v := -1) hx hb dX8_copy_47 (by decide) ?_
            refine lv_icmp_ne (tgt := 57) hx hb dX8_copy_48 (by decide) (fun hc => ?_) (fun hc => ?_)
            · have hm := ineg hc hm
              refine lv_aload hx hb dX8_copy_57 (lv_at hl 1 rfl) ?_
              refine gGet C0 hw flX8_158 1 rfl rfl dX8_copy_59 ?_
              refine lv_aload hx hb dX8_copy_62 (lv_at hl 0 rfl) ?_
              refine gGet C0 hw flX8_158 5 rfl rfl dX8_copy_64 ?_
              refine lv_icmp_eq (tgt := 76) hx hb dX8_copy_67 (by decide) (fun hc => ?_) (fun hc => ?_)
              · have hm := ipos hc hm
                refine lv_aload hx hb dX8_copy_76 (lv_at hl 1 rfl) ?_
                refine lv_iload_n hx hb dX8_copy_78 rfl (lv_at hl 4 rfl) ?_
                refine lv_iload hx hb dX8_copy_79 (lv_at hl 7 rfl) ?_
                obtain ⟨o81, ho81, hm⟩ := bindE hm
                refine gCalli (ws' := (W_x_copy g h0 h1 h2 h3 h4 h5 h6 h7 h8 h9 h10 h11 h12 h13 h14 h15 h16 h17 h18 h19 h20 v_toldIsStale v_latestFinding v_sheets0_form v_sheets0_size v_sheets0_items v_sheets1_form v_sheets1_size v_sheets1_items v_sheets2_form v_sheets2_size v_sheets2_items v_sheets3_form v_sheets3_size v_sheets3_items)) C0 hw (gRunV (As := [.int a1, .int a4]) (rest := []) C0 hw lkX8_273 (c_sh_hasItems l g H.size h1 h2 v_sheets0_form v_sheets0_size a1 a4 o81 ho81) ⟨rfl, rfl⟩ ⟨Nat.le_of_ble_eq_true rfl, Nat.le_of_ble_eq_true rfl⟩ [1] (by decide) rfl 1 rfl rfl rfl hl.1 rfl (Nat.le_of_ble_eq_true rfl) dX8_copy_81) [1] [0, 2, 3, 4, 5, 6, 7, 8, 9] rfl rfl ⟨rfl, rfl, rfl, rfl, rfl, rfl, rfl, rfl, rfl, trivial⟩ [h0, h1, h2, h3, h4, h5, h6, h7, h8, h9] rfl rfl 10 rfl (by decide +kernel) (fun H locs hw => ?_)
                refine lv_if_eq (tgt := 99) hx hb dX8_copy_84 (by decide) (fun hc => ?_) (fun hc => ?_)
                · have hm := ipos hc hm
                  exact n_x_copy_N99 C0  _ _ _ _ _ hm _ _ _ hw (lv_sub hl [2] rfl)
                · have hm := ineg hc hm
                  refine lv_aload hx hb dX8_copy_87 (lv_at hl 0 rfl) ?_
                  refine lv_iload hx hb dX8_copy_89 (lv_at hl 6 rfl) ?_
                  refine lv_iload hx hb dX8_copy_91 (lv_at hl 7 rfl) ?_
                  obtain ⟨o93, ho93, hm⟩ := bindE hm
                  refine gCalli (ws' := (W_x_copy g h0 h1 h2 h3 h4 h5 h6 h7 h8 h9 h10 h11 h12 h13 h14 h15 h16 h17 h18 h19 h20 v_toldIsStale v_latestFinding v_sheets0_form v_sheets0_size v_sheets0_items v_sheets1_form v_sheets1_size v_sheets1_items v_sheets2_form v_sheets2_size v_sheets2_items v_sheets3_form v_sheets3_size v_sheets3_items)) C0 hw (gRunV (As := [.int a3, .int a4]) (rest := []) C0 hw lkX8_273 (c_sh_hasItems l g H.size h5 h6 v_sheets2_form v_sheets2_size a3 a4 o93 ho93) ⟨rfl, rfl⟩ ⟨Nat.le_of_ble_eq_true rfl, Nat.le_of_ble_eq_true rfl⟩ [5] (by decide) rfl 5 rfl rfl rfl hl.1 rfl (Nat.le_of_ble_eq_true rfl) dX8_copy_93) [5] [0, 1, 2, 3, 4, 6, 7, 8, 9] rfl rfl ⟨rfl, rfl, rfl, rfl, rfl, rfl, rfl, rfl, rfl, trivial⟩ [h0, h1, h2, h3, h4, h5, h6, h7, h8, h9] rfl rfl 10 rfl (by decide +kernel) (fun H locs hw => ?_)
                  refine lv_if_ne (tgt := 105) hx hb dX8_copy_96 (by decide) (fun hc => ?_) (fun hc => ?_)
                  · have hm := ineg hc hm
                    refine lv_aload hx hb dX8_copy_105 (lv_at hl 1 rfl) ?_
                    refine gGet C0 hw flX8_168 1 rfl rfl dX8_copy_107 ?_
                    refine lv_iload_n hx hb dX8_copy_110 rfl (lv_at hl 4 rfl) ?_
                    refine lv_aload hx hb dX8_copy_111 (lv_at hl 0 rfl) ?_
                    refine gGet C0 hw flX8_168 5 rfl rfl dX8_copy_113 ?_
                    refine lv_iload hx hb dX8_copy_116 (lv_at hl 6 rfl) ?_
                    refine lv_iload hx hb dX8_copy_118 (lv_at hl 7 rfl) ?_
                    obtain ⟨hcp, hm⟩ := gdE hm
                    refine gCpyI (ws' := (W_x_copy g h0 h1 h2 h3 h4 h5 h6 h7 h8 h9 h10 h11 h12 h13 h14 h15 h16 h17 h18 h19 h20 v_toldIsStale v_latestFinding v_sheets0_form v_sheets0_size v_sheets0_items v_sheets1_form v_sheets1_size v_sheets1_items v_sheets2_form v_sheets2_size (va_cpy v_sheets0_items v_sheets2_items a1.toNatClampNeg a3.toNatClampNeg a4.toNatClampNeg) v_sheets3_form v_sheets3_size v_sheets3_items)) C0 hw hl.1 alX8_276 an_copy as_copy ai_copy 2 6 rfl rfl hcp (Nat.le_of_ble_eq_true rfl) (Nat.le_of_ble_eq_true rfl) rfl dX8_copy_120 (fun H locs hw => ?_)
                    refine lv_iconst (v := 1) hx hb dX8_copy_123 (by decide) ?_
                    have hm := Option.some.inj hm
                    subst hm
                    exact gRetI C0 hw dX8_copy_124
                  · have hm := ipos hc hm
                    exact n_x_copy_N99 C0  _ _ _ _ _ hm _ _ _ hw (lv_sub hl [2] rfl)
              · have hm := ineg hc hm
                refine lv_aload_n hx hb dX8_copy_70 rfl (lv_at hl 2 rfl) ?_
                refine lv_iconst (v := 4) hx hb dX8_copy_71 (by decide) ?_
                obtain ⟨o72, ho72, hm⟩ := bindE hm
                refine gCalli (ws' := (W_x_copy g h0 h1 h2 h3 h4 h5 h6 h7 h8 h9 h10 h11 h12 h13 h14 h15 h16 h17 h18 h19 h20 v_toldIsStale o72.2 v_sheets0_form v_sheets0_size v_sheets0_items v_sheets1_form v_sheets1_size v_sheets1_items v_sheets2_form v_sheets2_size v_sheets2_items v_sheets3_form v_sheets3_size v_sheets3_items)) C0 hw (gRunV (As := [.int (4 : Int32)]) (rest := []) C0 hw lkX8_161 (c_x_found l g H.size h0 h10 h11 h12 h13 h14 h15 h16 h17 h9 h18 h19 h20 v_toldIsStale v_latestFinding (4 : Int32) o72 ho72) ⟨rfl, rfl⟩ ⟨Nat.le_of_ble_eq_true rfl, Nat.le_of_ble_eq_true rfl⟩ [0] (by decide) rfl 0 rfl rfl rfl hl.1 rfl (Nat.le_of_ble_eq_true rfl) dX8_copy_72) [0] [1, 2, 3, 4, 5, 6, 7, 8, 9] rfl rfl ⟨rfl, rfl, rfl, rfl, rfl, rfl, rfl, rfl, rfl, trivial⟩ [h0, h1, h2, h3, h4, h5, h6, h7, h8, h9] rfl rfl 10 rfl (by decide +kernel) (fun H locs hw => ?_)
                have hm := Option.some.inj hm
                subst hm
                exact gRetI C0 hw dX8_copy_75
            · have hm := ipos hc hm
              exact n_x_copy_N51 C0  _ _ _ _ _ hm _ _ _ hw (lv_sub hl [2] rfl)
        have hm := ineg hs2 hm
        by_cases hs3 : a2 = (3 : Int32)
        · have hm := ipos hs3 hm
          refine gAldL C0 hw 9 rfl hs3 (inbE (by decide)) rfl dX8_copy_30 ?_
          refine lv_astore (lv' := [(7, .ref h7), (6, .ref h1), (0, .ref h0), (1, .int a0), (2, .int a1), (3, .int a2), (4, .int a3), (5, .int a4)]) hx hb dX8_copy_31 hl (by decide) rfl (fun ls hl => ?_)
          refine lv_aload hx hb dX8_copy_33 (lv_at hl 1 rfl) ?_
          refine gGet C0 hw flX8_158 1 rfl rfl dX8_copy_35 ?_
          refine lv_iconst (v := -1) hx hb dX8_copy_38 (by decide) ?_
          refine lv_icmp_eq (tgt := 51) hx hb dX8_copy_39 (by decide) (fun hc => ?_) (fun hc => ?_)
          · have hm := ipos hc hm
            exact n_x_copy_N51 C0  _ _ _ _ _ hm _ _ _ hw (lv_sub hl [2] rfl)
          · have hm := ineg hc hm
            refine lv_aload hx hb dX8_copy_42 (lv_at hl 0 rfl) ?_
            refine gGet C0 hw flX8_158 7 rfl rfl dX8_copy_44 ?_
            refine lv_iconst (v := -1) hx hb dX8_copy_47 (by decide) ?_
            refine lv_icmp_ne (tgt := 57) hx hb dX8_copy_48 (by decide) (fun hc => ?_) (fun hc => ?_)
            · have hm := ineg hc hm
              refine lv_aload hx hb dX8_copy_57 (lv_at hl 1 rfl) ?_
              refine gGet C0 hw flX8_158 1 rfl rfl dX8_copy_59 ?_
              refine lv_aload hx hb dX8_copy_62 (lv_at hl 0 rfl) ?_
              refine gGet C0 hw flX8_158 7 rfl rfl dX8_copy_64 ?_
              refine lv_icmp_eq (tgt := 76) hx hb dX8_copy_67 (by decide) (fun hc => ?_) (fun hc => ?_)
              · have hm := ipos hc hm
                refine lv_aload hx hb dX8_copy_76 (lv_at hl 1 rfl) ?_
                refine lv_iload_n hx hb dX8_copy_78 rfl (lv_at hl 4 rfl) ?_
                refine lv_iload hx hb dX8_copy_79 (lv_at hl 7 rfl) ?_
                obtain ⟨o81, ho81, hm⟩ := bindE hm
                refine gCalli (ws' := (W_x_copy g h0 h1 h2 h3 h4 h5 h6 h7 h8 h9 h10 h11 h12 h13 h14 h15 h16 h17 h18 h19 h20 v_toldIsStale v_latestFinding v_sheets0_form v_sheets0_size v_sheets0_items v_sheets1_form v_sheets1_size v_sheets1_items v_sheets2_form v_sheets2_size v_sheets2_items v_sheets3_form v_sheets3_size v_sheets3_items)) C0 hw (gRunV (As := [.int a1, .int a4]) (rest := []) C0 hw lkX8_273 (c_sh_hasItems l g H.size h1 h2 v_sheets0_form v_sheets0_size a1 a4 o81 ho81) ⟨rfl, rfl⟩ ⟨Nat.le_of_ble_eq_true rfl, Nat.le_of_ble_eq_true rfl⟩ [1] (by decide) rfl 1 rfl rfl rfl hl.1 rfl (Nat.le_of_ble_eq_true rfl) dX8_copy_81) [1] [0, 2, 3, 4, 5, 6, 7, 8, 9] rfl rfl ⟨rfl, rfl, rfl, rfl, rfl, rfl, rfl, rfl, rfl, trivial⟩ [h0, h1, h2, h3, h4, h5, h6, h7, h8, h9] rfl rfl 10 rfl (by decide +kernel) (fun H locs hw => ?_)
                refine lv_if_eq (tgt := 99) hx hb dX8_copy_84 (by decide) (fun hc => ?_) (fun hc => ?_)
                · have hm := ipos hc hm
                  exact n_x_copy_N99 C0  _ _ _ _ _ hm _ _ _ hw (lv_sub hl [2] rfl)
                · have hm := ineg hc hm
                  refine lv_aload hx hb dX8_copy_87 (lv_at hl 0 rfl) ?_
                  refine lv_iload hx hb dX8_copy_89 (lv_at hl 6 rfl) ?_
                  refine lv_iload hx hb dX8_copy_91 (lv_at hl 7 rfl) ?_
                  obtain ⟨o93, ho93, hm⟩ := bindE hm
                  refine gCalli (ws' := (W_x_copy g h0 h1 h2 h3 h4 h5 h6 h7 h8 h9 h10 h11 h12 h13 h14 h15 h16 h17 h18 h19 h20 v_toldIsStale v_latestFinding v_sheets0_form v_sheets0_size v_sheets0_items v_sheets1_form v_sheets1_size v_sheets1_items v_sheets2_form v_sheets2_size v_sheets2_items v_sheets3_form v_sheets3_size v_sheets3_items)) C0 hw (gRunV (As := [.int a3, .int a4]) (rest := []) C0 hw lkX8_273 (c_sh_hasItems l g H.size h7 h8 v_sheets3_form v_sheets3_size a3 a4 o93 ho93) ⟨rfl, rfl⟩ ⟨Nat.le_of_ble_eq_true rfl, Nat.le_of_ble_eq_true rfl⟩ [7] (by decide) rfl 7 rfl rfl rfl hl.1 rfl (Nat.le_of_ble_eq_true rfl) dX8_copy_93) [7] [0, 1, 2, 3, 4, 5, 6, 8, 9] rfl rfl ⟨rfl, rfl, rfl, rfl, rfl, rfl, rfl, rfl, rfl, trivial⟩ [h0, h1, h2, h3, h4, h5, h6, h7, h8, h9] rfl rfl 10 rfl (by decide +kernel) (fun H locs hw => ?_)
                  refine lv_if_ne (tgt := 105) hx hb dX8_copy_96 (by decide) (fun hc => ?_) (fun hc => ?_)
                  · have hm := ineg hc hm
                    refine lv_aload hx hb dX8_copy_105 (lv_at hl 1 rfl) ?_
                    refine gGet C0 hw flX8_168 1 rfl rfl dX8_copy_107 ?_
                    refine lv_iload_n hx hb dX8_copy_110 rfl (lv_at hl 4 rfl) ?_
                    refine lv_aload hx hb dX8_copy_111 (lv_at hl 0 rfl) ?_
                    refine gGet C0 hw flX8_168 7 rfl rfl dX8_copy_113 ?_
                    refine lv_iload hx hb dX8_copy_116 (lv_at hl 6 rfl) ?_
                    refine lv_iload hx hb dX8_copy_118 (lv_at hl 7 rfl) ?_
                    obtain ⟨hcp, hm⟩ := gdE hm
                    refine gCpyI (ws' := (W_x_copy g h0 h1 h2 h3 h4 h5 h6 h7 h8 h9 h10 h11 h12 h13 h14 h15 h16 h17 h18 h19 h20 v_toldIsStale v_latestFinding v_sheets0_form v_sheets0_size v_sheets0_items v_sheets1_form v_sheets1_size v_sheets1_items v_sheets2_form v_sheets2_size v_sheets2_items v_sheets3_form v_sheets3_size (va_cpy v_sheets0_items v_sheets3_items a1.toNatClampNeg a3.toNatClampNeg a4.toNatClampNeg))) C0 hw hl.1 alX8_276 an_copy as_copy ai_copy 2 8 rfl rfl hcp (Nat.le_of_ble_eq_true rfl) (Nat.le_of_ble_eq_true rfl) rfl dX8_copy_120 (fun H locs hw => ?_)
                    refine lv_iconst (v := 1) hx hb dX8_copy_123 (by decide) ?_
                    have hm := Option.some.inj hm
                    subst hm
                    exact gRetI C0 hw dX8_copy_124
                  · have hm := ipos hc hm
                    exact n_x_copy_N99 C0  _ _ _ _ _ hm _ _ _ hw (lv_sub hl [2] rfl)
              · have hm := ineg hc hm
                refine lv_aload_n hx hb dX8_copy_70 rfl (lv_at hl 2 rfl) ?_
                refine lv_iconst (v := 4) hx hb dX8_copy_71 (by decide) ?_
                obtain ⟨o72, ho72, hm⟩ := bindE hm
                refine gCalli (ws' := (W_x_copy g h0 h1 h2 h3 h4 h5 h6 h7 h8 h9 h10 h11 h12 h13 h14 h15 h16 h17 h18 h19 h20 v_toldIsStale o72.2 v_sheets0_form v_sheets0_size v_sheets0_items v_sheets1_form v_sheets1_size v_sheets1_items v_sheets2_form v_sheets2_size v_sheets2_items v_sheets3_form v_sheets3_size v_sheets3_items)) C0 hw (gRunV (As := [.int (4 : Int32)]) (rest := []) C0 hw lkX8_161 (c_x_found l g H.size h0 h10 h11 h12 h13 h14 h15 h16 h17 h9 h18 h19 h20 v_toldIsStale v_latestFinding (4 : Int32) o72 ho72) ⟨rfl, rfl⟩ ⟨Nat.le_of_ble_eq_true rfl, Nat.le_of_ble_eq_true rfl⟩ [0] (by decide) rfl 0 rfl rfl rfl hl.1 rfl (Nat.le_of_ble_eq_true rfl) dX8_copy_72) [0] [1, 2, 3, 4, 5, 6, 7, 8, 9] rfl rfl ⟨rfl, rfl, rfl, rfl, rfl, rfl, rfl, rfl, rfl, trivial⟩ [h0, h1, h2, h3, h4, h5, h6, h7, h8, h9] rfl rfl 10 rfl (by decide +kernel) (fun H locs hw => ?_)
                have hm := Option.some.inj hm
                subst hm
                exact gRetI C0 hw dX8_copy_75
            · have hm := ipos hc hm
              exact n_x_copy_N51 C0  _ _ _ _ _ hm _ _ _ hw (lv_sub hl [2] rfl)
        have hm := ineg hs3 hm
        cases hm
      have hm := ineg hs0 hm
      by_cases hs1 : a0 = (1 : Int32)
      · have hm := ipos hs1 hm
        refine gAldL C0 hw 9 rfl hs1 (inbE (by decide)) rfl dX8_copy_22 ?_
        refine lv_astore (lv' := [(6, .ref h3), (0, .ref h0), (1, .int a0), (2, .int a1), (3, .int a2), (4, .int a3), (5, .int a4)]) hx hb dX8_copy_23 hl (by decide) rfl (fun ls hl => ?_)
        refine lv_aload_n hx hb dX8_copy_25 rfl (lv_at hl 1 rfl) ?_
        refine gGet C0 hw flX8_61 0 rfl rfl dX8_copy_26 ?_
        refine lv_iload_n hx hb dX8_copy_29 rfl (lv_at hl 4 rfl) ?_
        by_cases hs0 : a2 = (0 : Int32)
        · have hm := ipos hs0 hm
          refine gAldL C0 hw 9 rfl hs0 (inbE (by decide)) rfl dX8_copy_30 ?_
          refine lv_astore (lv' := [(7, .ref h1), (6, .ref h3), (0, .ref h0), (1, .int a0), (2, .int a1), (3, .int a2), (4, .int a3), (5, .int a4)]) hx hb dX8_copy_31 hl (by decide) rfl (fun ls hl => ?_)
          refine lv_aload hx hb dX8_copy_33 (lv_at hl 1 rfl) ?_
          refine gGet C0 hw flX8_158 3 rfl rfl dX8_copy_35 ?_
          refine lv_iconst (v := -1) hx hb dX8_copy_38 (by decide) ?_
          refine lv_icmp_eq (tgt := 51) hx hb dX8_copy_39 (by decide) (fun hc => ?_) (fun hc => ?_)
          · have hm := ipos hc hm
            exact n_x_copy_N51 C0  _ _ _ _ _ hm _ _ _ hw (lv_sub hl [2] rfl)
          · have hm := ineg hc hm
            refine lv_aload hx hb dX8_copy_42 (lv_at hl 0 rfl) ?_
            refine gGet C0 hw flX8_158 1 rfl rfl dX8_copy_44 ?_
            refine lv_iconst (v := -1) hx hb dX8_copy_47 (by decide) ?_
            refine lv_icmp_ne (tgt := 57) hx hb dX8_copy_48 (by decide) (fun hc => ?_) (fun hc => ?_)
            · have hm := ineg hc hm
              refine lv_aload hx hb dX8_copy_57 (lv_at hl 1 rfl) ?_
              refine gGet C0 hw flX8_158 3 rfl rfl dX8_copy_59 ?_
              refine lv_aload hx hb dX8_copy_62 (lv_at hl 0 rfl) ?_
              refine gGet C0 hw flX8_158 1 rfl rfl dX8_copy_64 ?_
              refine lv_icmp_eq (tgt := 76) hx hb dX8_copy_67 (by decide) (fun hc => ?_) (fun hc => ?_)
              · have hm := ipos hc hm
                refine lv_aload hx hb dX8_copy_76 (lv_at hl 1 rfl) ?_
                refine lv_iload_n hx hb dX8_copy_78 rfl (lv_at hl 4 rfl) ?_
                refine lv_iload hx hb dX8_copy_79 (lv_at hl 7 rfl) ?_
                obtain ⟨o81, ho81, hm⟩ := bindE hm
                refine gCalli (ws' := (W_x_copy g h0 h1 h2 h3 h4 h5 h6 h7 h8 h9 h10 h11 h12 h13 h14 h15 h16 h17 h18 h19 h20 v_toldIsStale v_latestFinding v_sheets0_form v_sheets0_size v_sheets0_items v_sheets1_form v_sheets1_size v_sheets1_items v_sheets2_form v_sheets2_size v_sheets2_items v_sheets3_form v_sheets3_size v_sheets3_items)) C0 hw (gRunV (As := [.int a1, .int a4]) (rest := []) C0 hw lkX8_273 (c_sh_hasItems l g H.size h3 h4 v_sheets1_form v_sheets1_size a1 a4 o81 ho81) ⟨rfl, rfl⟩ ⟨Nat.le_of_ble_eq_true rfl, Nat.le_of_ble_eq_true rfl⟩ [3] (by decide) rfl 3 rfl rfl rfl hl.1 rfl (Nat.le_of_ble_eq_true rfl) dX8_copy_81) [3] [0, 1, 2, 4, 5, 6, 7, 8, 9] rfl rfl ⟨rfl, rfl, rfl, rfl, rfl, rfl, rfl, rfl, rfl, trivial⟩ [h0, h1, h2, h3, h4, h5, h6, h7, h8, h9] rfl rfl 10 rfl (by decide +kernel) (fun H locs hw => ?_)
                refine lv_if_eq (tgt := 99) hx hb dX8_copy_84 (by decide) (fun hc => ?_) (fun hc => ?_)
                · have hm := ipos hc hm
                  exact n_x_copy_N99 C0  _ _ _ _ _ hm _ _ _ hw (lv_sub hl [2] rfl)
                · have hm := ineg hc hm
                  refine lv_aload hx hb dX8_copy_87 (lv_at hl 0 rfl) ?_
                  refine lv_iload hx hb dX8_copy_89 (lv_at hl 6 rfl) ?_
                  refine lv_iload hx hb dX8_copy_91 (lv_at hl 7 rfl) ?_
                  obtain ⟨o93, ho93, hm⟩ := bindE hm
                  refine gCalli (ws' := (W_x_copy g h0 h1 h2 h3 h4 h5 h6 h7 h8 h9 h10 h11 h12 h13 h14 h15 h16 h17 h18 h19 h20 v_toldIsStale v_latestFinding v_sheets0_form v_sheets0_size v_sheets0_items v_sheets1_form v_sheets1_size v_sheets1_items v_sheets2_form v_sheets2_size v_sheets2_items v_sheets3_form v_sheets3_size v_sheets3_items)) C0 hw (gRunV (As := [.int a3, .int a4]) (rest := []) C0 hw lkX8_273 (c_sh_hasItems l g H.size h1 h2 v_sheets0_form v_sheets0_size a3 a4 o93 ho93) ⟨rfl, rfl⟩ ⟨Nat.le_of_ble_eq_true rfl, Nat.le_of_ble_eq_true rfl⟩ [1] (by decide) rfl 1 rfl rfl rfl hl.1 rfl (Nat.le_of_ble_eq_true rfl) dX8_copy_93) [1] [0, 2, 3, 4, 5, 6, 7, 8, 9] rfl rfl ⟨rfl, rfl, rfl, rfl, rfl, rfl, rfl, rfl, rfl, trivial⟩ [h0, h1, h2, h3, h4, h5, h6, h7, h8, h9] rfl rfl 10 rfl (by decide +kernel) (fun H locs hw => ?_)
                  refine lv_if_ne (tgt := 105) hx hb dX8_copy_96 (by decide) (fun hc => ?_) (fun hc => ?_)
                  · have hm := ineg hc hm
                    refine lv_aload hx hb dX8_copy_105 (lv_at hl 1 rfl) ?_
                    refine gGet C0 hw flX8_168 3 rfl rfl dX8_copy_107 ?_
                    refine lv_iload_n hx hb dX8_copy_110 rfl (lv_at hl 4 rfl) ?_
                    refine lv_aload hx hb dX8_copy_111 (lv_at hl 0 rfl) ?_
                    refine gGet C0 hw flX8_168 1 rfl rfl dX8_copy_113 ?_
                    refine lv_iload hx hb dX8_copy_116 (lv_at hl 6 rfl) ?_
                    refine lv_iload hx hb dX8_copy_118 (lv_at hl 7 rfl) ?_
                    obtain ⟨hcp, hm⟩ := gdE hm
                    refine gCpyI (ws' := (W_x_copy g h0 h1 h2 h3 h4 h5 h6 h7 h8 h9 h10 h11 h12 h13 h14 h15 h16 h17 h18 h19 h20 v_toldIsStale v_latestFinding v_sheets0_form v_sheets0_size (va_cpy v_sheets1_items v_sheets0_items a1.toNatClampNeg a3.toNatClampNeg a4.toNatClampNeg) v_sheets1_form v_sheets1_size v_sheets1_items v_sheets2_form v_sheets2_size v_sheets2_items v_sheets3_form v_sheets3_size v_sheets3_items)) C0 hw hl.1 alX8_276 an_copy as_copy ai_copy 4 2 rfl rfl hcp (Nat.le_of_ble_eq_true rfl) (Nat.le_of_ble_eq_true rfl) rfl dX8_copy_120 (fun H locs hw => ?_)
                    refine lv_iconst (v := 1) hx hb dX8_copy_123 (by decide) ?_
                    have hm := Option.some.inj hm
                    subst hm
                    exact gRetI C0 hw dX8_copy_124
                  · have hm := ipos hc hm
                    exact n_x_copy_N99 C0  _ _ _ _ _ hm _ _ _ hw (lv_sub hl [2] rfl)
              · have hm := ineg hc hm
                refine lv_aload_n hx hb dX8_copy_70 rfl (lv_at hl 2 rfl) ?_
                refine lv_iconst (v := 4) hx hb dX8_copy_71 (by decide) ?_
                obtain ⟨o72, ho72, hm⟩ := bindE hm
                refine gCalli (ws' := (W_x_copy g h0 h1 h2 h3 h4 h5 h6 h7 h8 h9 h10 h11 h12 h13 h14 h15 h16 h17 h18 h19 h20 v_toldIsStale o72.2 v_sheets0_form v_sheets0_size v_sheets0_items v_sheets1_form v_sheets1_size v_sheets1_items v_sheets2_form v_sheets2_size v_sheets2_items v_sheets3_form v_sheets3_size v_sheets3_items)) C0 hw (gRunV (As := [.int (4 : Int32)]) (rest := []) C0 hw lkX8_161 (c_x_found l g H.size h0 h10 h11 h12 h13 h14 h15 h16 h17 h9 h18 h19 h20 v_toldIsStale v_latestFinding (4 : Int32) o72 ho72) ⟨rfl, rfl⟩ ⟨Nat.le_of_ble_eq_true rfl, Nat.le_of_ble_eq_true rfl⟩ [0] (by decide) rfl 0 rfl rfl rfl hl.1 rfl (Nat.le_of_ble_eq_true rfl) dX8_copy_72) [0] [1, 2, 3, 4, 5, 6, 7, 8, 9] rfl rfl ⟨rfl, rfl, rfl, rfl, rfl, rfl, rfl, rfl, rfl, trivial⟩ [h0, h1, h2, h3, h4, h5, h6, h7, h8, h9] rfl rfl 10 rfl (by decide +kernel) (fun H locs hw => ?_)
                have hm := Option.some.inj hm
                subst hm
                exact gRetI C0 hw dX8_copy_75
            · have hm := ipos hc hm
              exact n_x_copy_N51 C0  _ _ _ _ _ hm _ _ _ hw (lv_sub hl [2] rfl)
        have hm := ineg hs0 hm
        by_cases hs1 : a2 = (1 : Int32)
        · have hm := ipos hs1 hm
          refine gAldL C0 hw 9 rfl hs1 (inbE (by decide)) rfl dX8_copy_30 ?_
          refine lv_astore (lv' := [(7, .ref h3), (6, .ref h3), (0, .ref h0), (1, .int a0), (2, .int a1), (3, .int a2), (4, .int a3), (5, .int a4)]) hx hb dX8_copy_31 hl (by decide) rfl (fun ls hl => ?_)
          refine lv_aload hx hb dX8_copy_33 (lv_at hl 1 rfl) ?_
          refine gGet C0 hw flX8_158 3 rfl rfl dX8_copy_35 ?_
          refine lv_iconst (v := -1) hx hb dX8_copy_38 (by decide) ?_
          refine lv_icmp_eq (tgt := 51) hx hb dX8_copy_39 (by decide) (fun hc => ?_) (fun hc => ?_)
          · have hm := ipos hc hm
            exact n_x_copy_N51 C0  _ _ _ _ _ hm _ _ _ hw (lv_sub hl [2] rfl)
          · have hm := ineg hc hm
            refine lv_aload hx hb dX8_copy_42 (lv_at hl 0 rfl) ?_
            refine gGet C0 hw flX8_158 3 rfl rfl dX8_copy_44 ?_
            refine lv_iconst (v := -1) hx hb dX8_copy_47 (by decide) ?_
            refine lv_icmp_ne (tgt := 57) hx hb dX8_copy_48 (by decide) (fun hc => ?_) (fun hc => ?_)
            · have hm := ineg hc hm
              refine lv_aload hx hb dX8_copy_57 (lv_at hl 1 rfl) ?_
              refine gGet C0 hw flX8_158 3 rfl rfl dX8_copy_59 ?_
              refine lv_aload hx hb dX8_copy_62 (lv_at hl 0 rfl) ?_
              refine gGet C0 hw flX8_158 3 rfl rfl dX8_copy_64 ?_
              refine lv_icmp_eq (tgt := 76) hx hb dX8_copy_67 (by decide) (fun hc => ?_) (fun hc => ?_)
              · have hm := ipos hc hm
                refine lv_aload hx hb dX8_copy_76 (lv_at hl 1 rfl) ?_
                refine lv_iload_n hx hb dX8_copy_78 rfl (lv_at hl 4 rfl) ?_
                refine lv_iload hx hb dX8_copy_79 (lv_at hl 7 rfl) ?_
                obtain ⟨o81, ho81, hm⟩ := bindE hm
                refine gCalli (ws' := (W_x_copy g h0 h1 h2 h3 h4 h5 h6 h7 h8 h9 h10 h11 h12 h13 h14 h15 h16 h17 h18 h19 h20 v_toldIsStale v_latestFinding v_sheets0_form v_sheets0_size v_sheets0_items v_sheets1_form v_sheets1_size v_sheets1_items v_sheets2_form v_sheets2_size v_sheets2_items v_sheets3_form v_sheets3_size v_sheets3_items)) C0 hw (gRunV (As := [.int a1, .int a4]) (rest := []) C0 hw lkX8_273 (c_sh_hasItems l g H.size h3 h4 v_sheets1_form v_sheets1_size a1 a4 o81 ho81) ⟨rfl, rfl⟩ ⟨Nat.le_of_ble_eq_true rfl, Nat.le_of_ble_eq_true rfl⟩ [3] (by decide) rfl 3 rfl rfl rfl hl.1 rfl (Nat.le_of_ble_eq_true rfl) dX8_copy_81) [3] [0, 1, 2, 4, 5, 6, 7, 8, 9] rfl rfl ⟨rfl, rfl, rfl, rfl, rfl, rfl, rfl, rfl, rfl, trivial⟩ [h0, h1, h2, h3, h4, h5, h6, h7, h8, h9] rfl rfl 10 rfl (by decide +kernel) (fun H locs hw => ?_)
                refine lv_if_eq (tgt := 99) hx hb dX8_copy_84 (by decide) (fun hc => ?_) (fun hc => ?_)
                · have hm := ipos hc hm
                  exact n_x_copy_N99 C0  _ _ _ _ _ hm _ _ _ hw (lv_sub hl [2] rfl)
                · have hm := ineg hc hm
                  refine lv_aload hx hb dX8_copy_87 (lv_at hl 0 rfl) ?_
                  refine lv_iload hx hb dX8_copy_89 (lv_at hl 6 rfl) ?_
                  refine lv_iload hx hb dX8_copy_91 (lv_at hl 7 rfl) ?_
                  obtain ⟨o93, ho93, hm⟩ := bindE hm
                  refine gCalli (ws' := (W_x_copy g h0 h1 h2 h3 h4 h5 h6 h7 h8 h9 h10 h11 h12 h13 h14 h15 h16 h17 h18 h19 h20 v_toldIsStale v_latestFinding v_sheets0_form v_sheets0_size v_sheets0_items v_sheets1_form v_sheets1_size v_sheets1_items v_sheets2_form v_sheets2_size v_sheets2_items v_sheets3_form v_sheets3_size v_sheets3_items)) C0 hw (gRunV (As := [.int a3, .int a4]) (rest := []) C0 hw lkX8_273 (c_sh_hasItems l g H.size h3 h4 v_sheets1_form v_sheets1_size a3 a4 o93 ho93) ⟨rfl, rfl⟩ ⟨Nat.le_of_ble_eq_true rfl, Nat.le_of_ble_eq_true rfl⟩ [3] (by decide) rfl 3 rfl rfl rfl hl.1 rfl (Nat.le_of_ble_eq_true rfl) dX8_copy_93) [3] [0, 1, 2, 4, 5, 6, 7, 8, 9] rfl rfl ⟨rfl, rfl, rfl, rfl, rfl, rfl, rfl, rfl, rfl, trivial⟩ [h0, h1, h2, h3, h4, h5, h6, h7, h8, h9] rfl rfl 10 rfl (by decide +kernel) (fun H locs hw => ?_)
                  refine lv_if_ne (tgt := 105) hx hb dX8_copy_96 (by decide) (fun hc => ?_) (fun hc => ?_)
                  · have hm := ineg hc hm
                    refine lv_aload hx hb dX8_copy_105 (lv_at hl 1 rfl) ?_
                    refine gGet C0 hw flX8_168 3 rfl rfl dX8_copy_107 ?_
                    refine lv_iload_n hx hb dX8_copy_110 rfl (lv_at hl 4 rfl) ?_
                    refine lv_aload hx hb dX8_copy_111 (lv_at hl 0 rfl) ?_
                    refine gGet C0 hw flX8_168 3 rfl rfl dX8_copy_113 ?_
                    refine lv_iload hx hb dX8_copy_116 (lv_at hl 6 rfl) ?_
                    refine lv_iload hx hb dX8_copy_118 (lv_at hl 7 rfl) ?_
                    obtain ⟨hcp, hm⟩ := gdE hm
                    refine gCpyI (ws' := (W_x_copy g h0 h1 h2 h3 h4 h5 h6 h7 h8 h9 h10 h11 h12 h13 h14 h15 h16 h17 h18 h19 h20 v_toldIsStale v_latestFinding v_sheets0_form v_sheets0_size v_sheets0_items v_sheets1_form v_sheets1_size (va_cpy v_sheets1_items v_sheets1_items a1.toNatClampNeg a3.toNatClampNeg a4.toNatClampNeg) v_sheets2_form v_sheets2_size v_sheets2_items v_sheets3_form v_sheets3_size v_sheets3_items)) C0 hw hl.1 alX8_276 an_copy as_copy ai_copy 4 4 rfl rfl hcp (Nat.le_of_ble_eq_true rfl) (Nat.le_of_ble_eq_true rfl) rfl dX8_copy_120 (fun H locs hw => ?_)
                    refine lv_iconst (v := 1) hx hb dX8_copy_123 (by decide) ?_
                    have hm := Option.some.inj hm
                    subst hm
                    exact gRetI C0 hw dX8_copy_124
                  · have hm := ipos hc hm
                    exact n_x_copy_N99 C0  _ _ _ _ _ hm _ _ _ hw (lv_sub hl [2] rfl)
              · have hm := ineg hc hm
                refine lv_aload_n hx hb dX8_copy_70 rfl (lv_at hl 2 rfl) ?_
                refine lv_iconst (v := 4) hx hb dX8_copy_71 (by decide) ?_
                obtain ⟨o72, ho72, hm⟩ := bindE hm
                refine gCalli (ws' := (W_x_copy g h0 h1 h2 h3 h4 h5 h6 h7 h8 h9 h10 h11 h12 h13 h14 h15 h16 h17 h18 h19 h20 v_toldIsStale o72.2 v_sheets0_form v_sheets0_size v_sheets0_items v_sheets1_form v_sheets1_size v_sheets1_items v_sheets2_form v_sheets2_size v_sheets2_items v_sheets3_form v_sheets3_size v_sheets3_items)) C0 hw (gRunV (As := [.int (4 : Int32)]) (rest := []) C0 hw lkX8_161 (c_x_found l g H.size h0 h10 h11 h12 h13 h14 h15 h16 h17 h9 h18 h19 h20 v_toldIsStale v_latestFinding (4 : Int32) o72 ho72) ⟨rfl, rfl⟩ ⟨Nat.le_of_ble_eq_true rfl, Nat.le_of_ble_eq_true rfl⟩ [0] (by decide) rfl 0 rfl rfl rfl hl.1 rfl (Nat.le_of_ble_eq_true rfl) dX8_copy_72) [0] [1, 2, 3, 4, 5, 6, 7, 8, 9] rfl rfl ⟨rfl, rfl, rfl, rfl, rfl, rfl, rfl, rfl, rfl, trivial⟩ [h0, h1, h2, h3, h4, h5, h6, h7, h8, h9] rfl rfl 10 rfl (by decide +kernel) (fun H locs hw => ?_)
                have hm := Option.some.inj hm
                subst hm
                exact gRetI C0 hw dX8_copy_75
            · have hm := ipos hc hm
              exact n_x_copy_N51 C0  _ _ _ _ _ hm _ _ _ hw (lv_sub hl [2] rfl)
        have hm := ineg hs1 hm
        by_cases hs2 : a2 = (2 : Int32)
        · have hm := ipos hs2 hm
          refine gAldL C0 hw 9 rfl hs2 (inbE (by decide)) rfl dX8_copy_30 ?_
          refine lv_astore (lv' := [(7, .ref h5), (6, .ref h3), (0, .ref h0), (1, .int a0), (2, .int a1), (3, .int a2), (4, .int a3), (5, .int a4)]) hx hb dX8_copy_31 hl (by decide) rfl (fun ls hl => ?_)
          refine lv_aload hx hb dX8_copy_33 (lv_at hl 1 rfl) ?_
          refine gGet C0 hw flX8_158 3 rfl rfl dX8_copy_35 ?_
          refine lv_iconst (v := -1) hx hb dX8_copy_38 (by decide) ?_
          refine lv_icmp_eq (tgt := 51) hx hb dX8_copy_39 (by decide) (fun hc => ?_) (fun hc => ?_)
          · have hm := ipos hc hm
            exact n_x_copy_N51 C0  _ _ _ _ _ hm _ _ _ hw (lv_sub hl [2] rfl)
          · have hm := ineg hc hm
            refine lv_aload hx hb dX8_copy_42 (lv_at hl 0 rfl) ?_
            refine gGet C0 hw flX8_158 5 rfl rfl dX8_copy_44 ?_
            refine lv_iconst (v := -1) hx hb dX8_copy_47 (by decide) ?_
            refine lv_icmp_ne (tgt := 57) hx hb dX8_copy_48 (by decide) (fun hc => ?_) (fun hc => ?_)
            · have hm := ineg hc hm
              refine lv_aload hx hb dX8_copy_57 (lv_at hl 1 rfl) ?_
              refine gGet C0 hw flX8_158 3 rfl rfl dX8_copy_59 ?_
              refine lv_aload hx hb dX8_copy_62 (lv_at hl 0 rfl) ?_
              refine gGet C0 hw flX8_158 5 rfl rfl dX8_copy_64 ?_
              refine lv_icmp_eq (tgt := 76) hx hb dX8_copy_67 (by decide) (fun hc => ?_) (fun hc => ?_)
              · have hm := ipos hc hm
                refine lv_aload hx hb dX8_copy_76 (lv_at hl 1 rfl) ?_
                refine lv_iload_n hx hb dX8_copy_78 rfl (lv_at hl 4 rfl) ?_
                refine lv_iload hx hb dX8_copy_79 (lv_at hl 7 rfl) ?_
                obtain ⟨o81, ho81, hm⟩ := bindE hm
                refine gCalli (ws' := (W_x_copy g h0 h1 h2 h3 h4 h5 h6 h7 h8 h9 h10 h11 h12 h13 h14 h15 h16 h17 h18 h19 h20 v_toldIsStale v_latestFinding v_sheets0_form v_sheets0_size v_sheets0_items v_sheets1_form v_sheets1_size v_sheets1_items v_sheets2_form v_sheets2_size v_sheets2_items v_sheets3_form v_sheets3_size v_sheets3_items)) C0 hw (gRunV (As := [.int a1, .int a4]) (rest := []) C0 hw lkX8_273 (c_sh_hasItems l g H.size h3 h4 v_sheets1_form v_sheets1_size a1 a4 o81 ho81) ⟨rfl, rfl⟩ ⟨Nat.le_of_ble_eq_true rfl, Nat.le_of_ble_eq_true rfl⟩ [3] (by decide) rfl 3 rfl rfl rfl hl.1 rfl (Nat.le_of_ble_eq_true rfl) dX8_copy_81) [3] [0, 1, 2, 4, 5, 6, 7, 8, 9] rfl rfl ⟨rfl, rfl, rfl, rfl, rfl, rfl, rfl, rfl, rfl, trivial⟩ [h0, h1, h2, h3, h4, h5, h6, h7, h8, h9] rfl rfl 10 rfl (by decide +kernel) (fun H locs hw => ?_)
                refine lv_if_eq (tgt := 99) hx hb dX8_copy_84 (by decide) (fun hc => ?_) (fun hc => ?_)
                · have hm := ipos hc hm
                  exact n_x_copy_N99 C0  _ _ _ _ _ hm _ _ _ hw (lv_sub hl [2] rfl)
                · have hm := ineg hc hm
                  refine lv_aload hx hb dX8_copy_87 (lv_at hl 0 rfl) ?_
                  refine lv_iload hx hb dX8_copy_89 (lv_at hl 6 rfl) ?_
                  refine lv_iload hx hb dX8_copy_91 (lv_at hl 7 rfl) ?_
                  obtain ⟨o93, ho93, hm⟩ := bindE hm
                  refine gCalli (ws' := (W_x_copy g h0 h1 h2 h3 h4 h5 h6 h7 h8 h9 h10 h11 h12 h13 h14 h15 h16 h17 h18 h19 h20 v_toldIsStale v_latestFinding v_sheets0_form v_sheets0_size v_sheets0_items v_sheets1_form v_sheets1_size v_sheets1_items v_sheets2_form v_sheets2_size v_sheets2_items v_sheets3_form v_sheets3_size v_sheets3_items)) C0 hw (gRunV (As := [.int a3, .int a4]) (rest := []) C0 hw lkX8_273 (c_sh_hasItems l g H.size h5 h6 v_sheets2_form v_sheets2_size a3 a4 o93 ho93) ⟨rfl, rfl⟩ ⟨Nat.le_of_ble_eq_true rfl, Nat.le_of_ble_eq_true rfl⟩ [5] (by decide) rfl 5 rfl rfl rfl hl.1 rfl (Nat.le_of_ble_eq_true rfl) dX8_copy_93) [5] [0, 1, 2, 3, 4, 6, 7, 8, 9] rfl rfl ⟨rfl, rfl, rfl, rfl, rfl, rfl, rfl, rfl, rfl, trivial⟩ [h0, h1, h2, h3, h4, h5, h6, h7, h8, h9] rfl rfl 10 rfl (by decide +kernel) (fun H locs hw => ?_)
                  refine lv_if_ne (tgt := 105) hx hb dX8_copy_96 (by decide) (fun hc => ?_) (fun hc => ?_)
                  · have hm := ineg hc hm
                    refine lv_aload hx hb dX8_copy_105 (lv_at hl 1 rfl) ?_
                    refine gGet C0 hw flX8_168 3 rfl rfl dX8_copy_107 ?_
                    refine lv_iload_n hx hb dX8_copy_110 rfl (lv_at hl 4 rfl) ?_
                    refine lv_aload hx hb dX8_copy_111 (lv_at hl 0 rfl) ?_
                    refine gGet C0 hw flX8_168 5 rfl rfl dX8_copy_113 ?_
                    refine lv_iload hx hb dX8_copy_116 (lv_at hl 6 rfl) ?_
                    refine lv_iload hx hb dX8_copy_118 (lv_at hl 7 rfl) ?_
                    obtain ⟨hcp, hm⟩ := gdE hm
                    refine gCpyI (ws' := (W_x_copy g h0 h1 h2 h3 h4 h5 h6 h7 h8 h9 h10 h11 h12 h13 h14 h15 h16 h17 h18 h19 h20 v_toldIsStale v_latestFinding v_sheets0_form v_sheets0_size v_sheets0_items v_sheets1_form v_sheets1_size v_sheets1_items v_sheets2_form v_sheets2_size (va_cpy v_sheets1_items v_sheets2_items a1.toNatClampNeg a3.toNatClampNeg a4.toNatClampNeg) v_sheets3_form v_sheets3_size v_sheets3_items)) C0 hw hl.1 alX8_276 an_copy as_copy ai_copy 4 6 rfl rfl hcp (Nat.le_of_ble_eq_true rfl) (Nat.le_of_ble_eq_true rfl) rfl dX8_copy_120 (fun H locs hw => ?_)
                    refine lv_iconst (v := 1) hx hb dX8_copy_123 (by decide) ?_
                    have hm := Option.some.inj hm
                    subst hm
                    exact gRetI C0 hw dX8_copy_124
                  · have hm := ipos hc hm
                    exact n_x_copy_N99 C0  _ _ _ _ _ hm _ _ _ hw (lv_sub hl [2] rfl)
              · have hm := ineg hc hm
                refine lv_aload_n hx hb dX8_copy_70 rfl (lv_at hl 2 rfl) ?_
                refine lv_iconst (v := 4) hx hb dX8_copy_71 (by decide) ?_
                obtain ⟨o72, ho72, hm⟩ := bindE hm
                refine gCalli (ws' := (W_x_copy g h0 h1 h2 h3 h4 h5 h6 h7 h8 h9 h10 h11 h12 h13 h14 h15 h16 h17 h18 h19 h20 v_toldIsStale o72.2 v_sheets0_form v_sheets0_size v_sheets0_items v_sheets1_form v_sheets1_size v_sheets1_items v_sheets2_form v_sheets2_size v_sheets2_items v_sheets3_form v_sheets3_size v_sheets3_items)) C0 hw (gRunV (As := [.int (4 : Int32)]) (rest := []) C0 hw lkX8_161 (c_x_found l g H.size h0 h10 h11 h12 h13 h14 h15 h16 h17 h9 h18 h19 h20 v_toldIsStale v_latestFinding (4 : Int32) o72 ho72) ⟨rfl, rfl⟩ ⟨Nat.le_of_ble_eq_true rfl, Nat.le_of_ble_eq_true rfl⟩ [0] (by decide) rfl 0 rfl rfl rfl hl.1 rfl (Nat.le_of_ble_eq_true rfl) dX8_copy_72) [0] [1, 2, 3, 4, 5, 6, 7, 8, 9] rfl rfl ⟨rfl, rfl, rfl, rfl, rfl, rfl, rfl, rfl, rfl, trivial⟩ [h0, h1, h2, h3, h4, h5, h6, h7, h8, h9] rfl rfl 10 rfl (by decide +kernel) (fun H locs hw => ?_)
                have hm := Option.some.inj hm
                subst hm
                exact gRetI C0 hw dX8_copy_75
            · have hm := ipos hc hm
              exact n_x_copy_N51 C0  _ _ _ _ _ hm _ _ _ hw (lv_sub hl [2] rfl)
        have hm := ineg hs2 hm
        by_cases hs3 : a2 = (3 : Int32)
        · have hm := ipos hs3 hm
          refine gAldL C0 hw 9 rfl hs3 (inbE (by decide)) rfl dX8_copy_30 ?_
          refine lv_astore (lv' := [(7, .ref h7), (6, .ref h3), (0, .ref h0), (1, .int a0), (2, .int a1), (3, .int a2), (4, .int a3), (5, .int a4)]) hx hb dX8_copy_31 hl (by decide) rfl (fun ls hl => ?_)
          refine lv_aload hx hb dX8_copy_33 (lv_at hl 1 rfl) ?_
          refine gGet C0 hw flX8_158 3 rfl rfl dX8_copy_35 ?_
          refine lv_iconst (v := -1) hx hb dX8_copy_38 (by decide) ?_
          refine lv_icmp_eq (tgt := 51) hx hb dX8_copy_39 (by decide) (fun hc => ?_) (fun hc => ?_)
          · have hm := ipos hc hm
            exact n_x_copy_N51 C0  _ _ _ _ _ hm _ _ _ hw (lv_sub hl [2] rfl)
          · have hm := ineg hc hm
            refine lv_aload hx hb dX8_copy_42 (lv_at hl 0 rfl) ?_
            refine gGet C0 hw flX8_158 7 rfl rfl dX8_copy_44 ?_
            refine lv_iconst (v := -1) hx hb dX8_copy_47 (by decide) ?_
            refine lv_icmp_ne (tgt := 57) hx hb dX8_copy_48 (by decide) (fun hc => ?_) (fun hc => ?_)
            · have hm := ineg hc hm
              refine lv_aload hx hb dX8_copy_57 (lv_at hl 1 rfl) ?_
              refine gGet C0 hw flX8_158 3 rfl rfl dX8_copy_59 ?_
              refine lv_aload hx hb dX8_copy_62 (lv_at hl 0 rfl) ?_
              refine gGet C0 hw flX8_158 7 rfl rfl dX8_copy_64 ?_
              refine lv_icmp_eq (tgt := 76) hx hb dX8_copy_67 (by decide) (fun hc => ?_) (fun hc => ?_)
              · have hm := ipos hc hm
                refine lv_aload hx hb dX8_copy_76 (lv_at hl 1 rfl) ?_
                refine lv_iload_n hx hb dX8_copy_78 rfl (lv_at hl 4 rfl) ?_
                refine lv_iload hx hb dX8_copy_79 (lv_at hl 7 rfl) ?_
                obtain ⟨o81, ho81, hm⟩ := bindE hm
                refine gCalli (ws' := (W_x_copy g h0 h1 h2 h3 h4 h5 h6 h7 h8 h9 h10 h11 h12 h13 h14 h15 h16 h17 h18 h19 h20 v_toldIsStale v_latestFinding v_sheets0_form v_sheets0_size v_sheets0_items v_sheets1_form v_sheets1_size v_sheets1_items v_sheets2_form v_sheets2_size v_sheets2_items v_sheets3_form v_sheets3_size v_sheets3_items)) C0 hw (gRunV (As := [.int a1, .int a4]) (rest := []) C0 hw lkX8_273 (c_sh_hasItems l g H.size h3 h4 v_sheets1_form v_sheets1_size a1 a4 o81 ho81) ⟨rfl, rfl⟩ ⟨Nat.le_of_ble_eq_true rfl, Nat.le_of_ble_eq_true rfl⟩ [3] (by decide) rfl 3 rfl rfl rfl hl.1 rfl (Nat.le_of_ble_eq_true rfl) dX8_copy_81) [3] [0, 1, 2, 4, 5, 6, 7, 8, 9] rfl rfl ⟨rfl, rfl, rfl, rfl, rfl, rfl, rfl, rfl, rfl, trivial⟩ [h0, h1, h2, h3, h4, h5, h6, h7, h8, h9] rfl rfl 10 rfl (by decide +kernel) (fun H locs hw => ?_)
                refine lv_if_eq (tgt := 99) hx hb dX8_copy_84 (by decide) (fun hc => ?_) (fun hc => ?_)
                · have hm := ipos hc hm
                  exact n_x_copy_N99 C0  _ _ _ _ _ hm _ _ _ hw (lv_sub hl [2] rfl)
                · have hm := ineg hc hm
                  refine lv_aload hx hb dX8_copy_87 (lv_at hl 0 rfl) ?_
                  refine lv_iload hx hb dX8_copy_89 (lv_at hl 6 rfl) ?_
                  refine lv_iload hx hb dX8_copy_91 (lv_at hl 7 rfl) ?_
                  obtain ⟨o93, ho93, hm⟩ := bindE hm
                  refine gCalli (ws' := (W_x_copy g h0 h1 h2 h3 h4 h5 h6 h7 h8 h9 h10 h11 h12 h13 h14 h15 h16 h17 h18 h19 h20 v_toldIsStale v_latestFinding v_sheets0_form v_sheets0_size v_sheets0_items v_sheets1_form v_sheets1_size v_sheets1_items v_sheets2_form v_sheets2_size v_sheets2_items v_sheets3_form v_sheets3_size v_sheets3_items)) C0 hw (gRunV (As := [.int a3, .int a4]) (rest := []) C0 hw lkX8_273 (c_sh_hasItems l g H.size h7 h8 v_sheets3_form v_sheets3_size a3 a4 o93 ho93) ⟨rfl, rfl⟩ ⟨Nat.le_of_ble_eq_true rfl, Nat.le_of_ble_eq_true rfl⟩ [7] (by decide) rfl 7 rfl rfl rfl hl.1 rfl (Nat.le_of_ble_eq_true rfl) dX8_copy_93) [7] [0, 1, 2, 3, 4, 5, 6, 8, 9] rfl rfl ⟨rfl, rfl, rfl, rfl, rfl, rfl, rfl, rfl, rfl, trivial⟩ [h0, h1, h2, h3, h4, h5, h6, h7, h8, h9] rfl rfl 10 rfl (by decide +kernel) (fun H locs hw => ?_)
                  refine lv_if_ne (tgt := 105) hx hb dX8_copy_96 (by decide) (fun hc => ?_) (fun hc => ?_)
                  · have hm := ineg hc hm
                    refine lv_aload hx hb dX8_copy_105 (lv_at hl 1 rfl) ?_
                    refine gGet C0 hw flX8_168 3 rfl rfl dX8_copy_107 ?_
                    refine lv_iload_n hx hb dX8_copy_110 rfl (lv_at hl 4 rfl) ?_
                    refine lv_aload hx hb dX8_copy_111 (lv_at hl 0 rfl) ?_
                    refine gGet C0 hw flX8_168 7 rfl rfl dX8_copy_113 ?_
                    refine lv_iload hx hb dX8_copy_116 (lv_at hl 6 rfl) ?_
                    refine lv_iload hx hb dX8_copy_118 (lv_at hl 7 rfl) ?_
                    obtain ⟨hcp, hm⟩ := gdE hm
                    refine gCpyI (ws' := (W_x_copy g h0 h1 h2 h3 h4 h5 h6 h7 h8 h9 h10 h11 h12 h13 h14 h15 h16 h17 h18 h19 h20 v_toldIsStale v_latestFinding v_sheets0_form v_sheets0_size v_sheets0_items v_sheets1_form v_sheets1_size v_sheets1_items v_sheets2_form v_sheets2_size v_sheets2_items v_sheets3_form v_sheets3_size (va_cpy v_sheets1_items v_sheets3_items a1.toNatClampNeg a3.toNatClampNeg a4.toNatClampNeg))) C0 hw hl.1 alX8_276 an_copy as_copy ai_copy 4 8 rfl rfl hcp (Nat.le_of_ble_eq_true rfl) (Nat.le_of_ble_eq_true rfl) rfl dX8_copy_120 (fun H locs hw => ?_)
                    refine lv_iconst (v := 1) hx hb dX8_copy_123 (by decide) ?_
                    have hm := Option.some.inj hm
                    subst hm
                    exact gRetI C0 hw dX8_copy_124
                  · have hm := ipos hc hm
                    exact n_x_copy_N99 C0  _ _ _ _ _ hm _ _ _ hw (lv_sub hl [2] rfl)
              · have hm := ineg hc hm
                refine lv_aload_n hx hb dX8_copy_70 rfl (lv_at hl 2 rfl) ?_
                refine lv_iconst (v := 4) hx hb dX8_copy_71 (by decide) ?_
                obtain ⟨o72, ho72, hm⟩ := bindE hm
                refine gCalli (ws' := (W_x_copy g h0 h1 h2 h3 h4 h5 h6 h7 h8 h9 h10 h11 h12 h13 h14 h15 h16 h17 h18 h19 h20 v_toldIsStale o72.2 v_sheets0_form v_sheets0_size v_sheets0_items v_sheets1_form v_sheets1_size v_sheets1_items v_sheets2_form v_sheets2_size v_sheets2_items v_sheets3_form v_sheets3_size v_sheets3_items)) C0 hw (gRunV (As := [.int (4 : Int32)]) (rest := []) C0 hw lkX8_161 (c_x_found l g H.size h0 h10 h11 h12 h13 h14 h15 h16 h17 h9 h18 h19 h20 v_toldIsStale v_latestFinding (4 : Int32) o72 ho72) ⟨rfl, rfl⟩ ⟨Nat.le_of_ble_eq_true rfl, Nat.le_of_ble_eq_true rfl⟩ [0] (by decide) rfl 0 rfl rfl rfl hl.1 rfl (Nat.le_of_ble_eq_true rfl) dX8_copy_72) [0] [1, 2, 3, 4, 5, 6, 7, 8, 9] rfl rfl ⟨rfl, rfl, rfl, rfl, rfl, rfl, rfl, rfl, rfl, trivial⟩ [h0, h1, h2, h3, h4, h5, h6, h7, h8, h9] rfl rfl 10 rfl (by decide +kernel) (fun H locs hw => ?_)
                have hm := Option.some.inj hm
                subst hm
                exact gRetI C0 hw dX8_copy_75
            · have hm := ipos hc hm
              exact n_x_copy_N51 C0  _ _ _ _ _ hm _ _ _ hw (lv_sub hl [2] rfl)
        have hm := ineg hs3 hm
        cases hm
      have hm := ineg hs1 hm
      by_cases hs2 : a0 = (2 : Int32)
      · have hm := ipos hs2 hm
        refine gAldL C0 hw 9 rfl hs2 (inbE (by decide)) rfl dX8_copy_22 ?_
        refine lv_astore (lv' := [(6, .ref h5), (0, .ref h0), (1, .int a0), (2, .int a1), (3, .int a2), (4, .int a3), (5, .int a4)]) hx hb dX8_copy_23 hl (by decide) rfl (fun ls hl => ?_)
        refine lv_aload_n hx hb dX8_copy_25 rfl (lv_at hl 1 rfl) ?_
        refine gGet C0 hw flX8_61 0 rfl rfl dX8_copy_26 ?_
        refine lv_iload_n hx hb dX8_copy_29 rfl (lv_at hl 4 rfl) ?_
        by_cases hs0 : a2 = (0 : Int32)
        · have hm := ipos hs0 hm
          refine gAldL C0 hw 9 rfl hs0 (inbE (by decide)) rfl dX8_copy_30 ?_
          refine lv_astore (lv' := [(7, .ref h1), (6, .ref h5), (0, .ref h0), (1, .int a0), (2, .int a1), (3, .int a2), (4, .int a3), (5, .int a4)]) hx hb dX8_copy_31 hl (by decide) rfl (fun ls hl => ?_)
          refine lv_aload hx hb dX8_copy_33 (lv_at hl 1 rfl) ?_
          refine gGet C0 hw flX8_158 5 rfl rfl dX8_copy_35 ?_
          refine lv_iconst (v := -1) hx hb dX8_copy_38 (by decide) ?_
          refine lv_icmp_eq (tgt := 51) hx hb dX8_copy_39 (by decide) (fun hc => ?_) (fun hc => ?_)
          · have hm := ipos hc hm
            exact n_x_copy_N51 C0  _ _ _ _ _ hm _ _ _ hw (lv_sub hl [2] rfl)
          · have hm := ineg hc hm
            refine lv_aload hx hb dX8_copy_42 (lv_at hl 0 rfl) ?_
            refine gGet C0 hw flX8_158 1 rfl rfl dX8_copy_44 ?_
            refine lv_iconst (v := -1) hx hb dX8_copy_47 (by decide) ?_
            refine lv_icmp_ne (tgt := 57) hx hb dX8_copy_48 (by decide) (fun hc => ?_) (fun hc => ?_)
            · have hm := ineg hc hm
              refine lv_aload hx hb dX8_copy_57 (lv_at hl 1 rfl) ?_
              refine gGet C0 hw flX8_158 5 rfl rfl dX8_copy_59 ?_
              refine lv_aload hx hb dX8_copy_62 (lv_at hl 0 rfl) ?_
              refine gGet C0 hw flX8_158 1 rfl rfl dX8_copy_64 ?_
              refine lv_icmp_eq (tgt := 76) hx hb dX8_copy_67 (by decide) (fun hc => ?_) (fun hc => ?_)
              · have hm := ipos hc hm
                refine lv_aload hx hb dX8_copy_76 (lv_at hl 1 rfl) ?_
                refine lv_iload_n hx hb dX8_copy_78 rfl (lv_at hl 4 rfl) ?_
                refine lv_iload hx hb dX8_copy_79 (lv_at hl 7 rfl) ?_
                obtain ⟨o81, ho81, hm⟩ := bindE hm
                refine gCalli (ws' := (W_x_copy g h0 h1 h2 h3 h4 h5 h6 h7 h8 h9 h10 h11 h12 h13 h14 h15 h16 h17 h18 h19 h20 v_toldIsStale v_latestFinding v_sheets0_form v_sheets0_size v_sheets0_items v_sheets1_form v_sheets1_size v_sheets1_items v_sheets2_form v_sheets2_size v_sheets2_items v_sheets3_form v_sheets3_size v_sheets3_items)) C0 hw (gRunV (As := [.int a1, .int a4]) (rest := []) C0 hw lkX8_273 (c_sh_hasItems l g H.size h5 h6 v_sheets2_form v_sheets2_size a1 a4 o81 ho81) ⟨rfl, rfl⟩ ⟨Nat.le_of_ble_eq_true rfl, Nat.le_of_ble_eq_true rfl⟩ [5] (by decide) rfl 5 rfl rfl rfl hl.1 rfl (Nat.le_of_ble_eq_true rfl) dX8_copy_81) [5] [0, 1, 2, 3, 4, 6, 7, 8, 9] rfl rfl ⟨rfl, rfl, rfl, rfl, rfl, rfl, rfl, rfl, rfl, trivial⟩ [h0, h1, h2, h3, h4, h5, h6, h7, h8, h9] rfl rfl 10 rfl (by decide +kernel) (fun H locs hw => ?_)
                refine lv_if_eq (tgt := 99) hx hb dX8_copy_84 (by decide) (fun hc => ?_) (fun hc => ?_)
                · have hm := ipos hc hm
                  exact n_x_copy_N99 C0  _ _ _ _ _ hm _ _ _ hw (lv_sub hl [2] rfl)
                · have hm := ineg hc hm
                  refine lv_aload hx hb dX8_copy_87 (lv_at hl 0 rfl) ?_
                  refine lv_iload hx hb dX8_copy_89 (lv_at hl 6 rfl) ?_
                  refine lv_iload hx hb dX8_copy_91 (lv_at hl 7 rfl) ?_
                  obtain ⟨o93, ho93, hm⟩ := bindE hm
                  refine gCalli (ws' := (W_x_copy g h0 h1 h2 h3 h4 h5 h6 h7 h8 h9 h10 h11 h12 h13 h14 h15 h16 h17 h18 h19 h20 v_toldIsStale v_latestFinding v_sheets0_form v_sheets0_size v_sheets0_items v_sheets1_form v_sheets1_size v_sheets1_items v_sheets2_form v_sheets2_size v_sheets2_items v_sheets3_form v_sheets3_size v_sheets3_items)) C0 hw (gRunV (As := [.int a3, .int a4]) (rest := []) C0 hw lkX8_273 (c_sh_hasItems l g H.size h1 h2 v_sheets0_form v_sheets0_size a3 a4 o93 ho93) ⟨rfl, rfl⟩ ⟨Nat.le_of_ble_eq_true rfl, Nat.le_of_ble_eq_true rfl⟩ [1] (by decide) rfl 1 rfl rfl rfl hl.1 rfl (Nat.le_of_ble_eq_true rfl) dX8_copy_93) [1] [0, 2, 3, 4, 5, 6, 7, 8, 9] rfl rfl ⟨rfl, rfl, rfl, rfl, rfl, rfl, rfl, rfl, rfl, trivial⟩ [h0, h1, h2, h3, h4, h5, h6, h7, h8, h9] rfl rfl 10 rfl (by decide +kernel) (fun H locs hw => ?_)
                  refine lv_if_ne (tgt := 105) hx hb dX8_copy_96 (by decide) (fun hc => ?_) (fun hc => ?_)
                  · have hm := ineg hc hm
                    refine lv_aload hx hb dX8_copy_105 (lv_at hl 1 rfl) ?_
                    refine gGet C0 hw flX8_168 5 rfl rfl dX8_copy_107 ?_
                    refine lv_iload_n hx hb dX8_copy_110 rfl (lv_at hl 4 rfl) ?_
                    refine lv_aload hx hb dX8_copy_111 (lv_at hl 0 rfl) ?_
                    refine gGet C0 hw flX8_168 1 rfl rfl dX8_copy_113 ?_
                    refine lv_iload hx hb dX8_copy_116 (lv_at hl 6 rfl) ?_
                    refine lv_iload hx hb dX8_copy_118 (lv_at hl 7 rfl) ?_
                    obtain ⟨hcp, hm⟩ := gdE hm
                    refine gCpyI (ws' := (W_x_copy g h0 h1 h2 h3 h4 h5 h6 h7 h8 h9 h10 h11 h12 h13 h14 h15 h16 h17 h18 h19 h20 v_toldIsStale v_latestFinding v_sheets0_form v_sheets0_size (va_cpy v_sheets2_items v_sheets0_items a1.toNatClampNeg a3.toNatClampNeg a4.toNatClampNeg) v_sheets1_form v_sheets1_size v_sheets1_items v_sheets2_form v_sheets2_size v_sheets2_items v_sheets3_form v_sheets3_size v_sheets3_items)) C0 hw hl.1 alX8_276 an_copy as_copy ai_copy 6 2 rfl rfl hcp (Nat.le_of_ble_eq_true rfl) (Nat.le_of_ble_eq_true rfl) rfl dX8_copy_120 (fun H locs hw => ?_)
                    refine lv_iconst (v := 1) hx hb dX8_copy_123 (by decide) ?_
                    have hm := Option.some.inj hm
                    subst hm
                    exact gRetI C0 hw dX8_copy_124
                  · have hm := ipos hc hm
                    exact n_x_copy_N99 C0  _ _ _ _ _ hm _ _ _ hw (lv_sub hl [2] rfl)
              · have hm := ineg hc hm
                refine lv_aload_n hx hb dX8_copy_70 rfl (lv_at hl 2 rfl) ?_
                refine lv_iconst (v := 4) hx hb dX8_copy_71 (by decide) ?_
                obtain ⟨o72, ho72, hm⟩ := bindE hm
                refine gCalli (ws' := (W_x_copy g h0 h1 h2 h3 h4 h5 h6 h7 h8 h9 h10 h11 h12 h13 h14 h15 h16 h17 h18 h19 h20 v_toldIsStale o72.2 v_sheets0_form v_sheets0_size v_sheets0_items v_sheets1_form v_sheets1_size v_sheets1_items v_sheets2_form v_sheets2_size v_sheets2_items v_sheets3_form v_sheets3_size v_sheets3_items)) C0 hw (gRunV (As := [.int (4 : Int32)]) (rest := []) C0 hw lkX8_161 (c_x_found l g H.size h0 h10 h11 h12 h13 h14 h15 h16 h17 h9 h18 h19 h20 v_toldIsStale v_latestFinding (4 : Int32) o72 ho72) ⟨rfl, rfl⟩ ⟨Nat.le_of_ble_eq_true rfl, Nat.le_of_ble_eq_true rfl⟩ [0] (by decide) rfl 0 rfl rfl rfl hl.1 rfl (Nat.le_of_ble_eq_true rfl) dX8_copy_72) [0] [1, 2, 3, 4, 5, 6, 7, 8, 9] rfl rfl ⟨rfl, rfl, rfl, rfl, rfl, rfl, rfl, rfl, rfl, trivial⟩ [h0, h1, h2, h3, h4, h5, h6, h7, h8, h9] rfl rfl 10 rfl (by decide +kernel) (fun H locs hw => ?_)
                have hm := Option.some.inj hm
                subst hm
                exact gRetI C0 hw dX8_copy_75
            · have hm := ipos hc hm
              exact n_x_copy_N51 C0  _ _ _ _ _ hm _ _ _ hw (lv_sub hl [2] rfl)
        have hm := ineg hs0 hm
        by_cases hs1 : a2 = (1 : Int32)
        · have hm := ipos hs1 hm
          refine gAldL C0 hw 9 rfl hs1 (inbE (by decide)) rfl dX8_copy_30 ?_
          refine lv_astore (lv' := [(7, .ref h3), (6, .ref h5), (0, .ref h0), (1, .int a0), (2, .int a1), (3, .int a2), (4, .int a3), (5, .int a4)]) hx hb dX8_copy_31 hl (by decide) rfl (fun ls hl => ?_)
          refine lv_aload hx hb dX8_copy_33 (lv_at hl 1 rfl) ?_
          refine gGet C0 hw flX8_158 5 rfl rfl dX8_copy_35 ?_
          refine lv_iconst (v := -1) hx hb dX8_copy_38 (by decide) ?_
          refine lv_icmp_eq (tgt := 51) hx hb dX8_copy_39 (by decide) (fun hc => ?_) (fun hc => ?_)
          · have hm := ipos hc hm
            exact n_x_copy_N51 C0  _ _ _ _ _ hm _ _ _ hw (lv_sub hl [2] rfl)
          · have hm := ineg hc hm
            refine lv_aload hx hb dX8_copy_42 (lv_at hl 0 rfl) ?_
            refine gGet C0 hw flX8_158 3 rfl rfl dX8_copy_44 ?_
            refine lv_iconst (v := -1) hx hb dX8_copy_47 (by decide) ?_
            refine lv_icmp_ne (tgt := 57) hx hb dX8_copy_48 (by decide) (fun hc => ?_) (fun hc => ?_)
            · have hm := ineg hc hm
              refine lv_aload hx hb dX8_copy_57 (lv_at hl 1 rfl) ?_
              refine gGet C0 hw flX8_158 5 rfl rfl dX8_copy_59 ?_
              refine lv_aload hx hb dX8_copy_62 (lv_at hl 0 rfl) ?_
              refine gGet C0 hw flX8_158 3 rfl rfl dX8_copy_64 ?_
              refine lv_icmp_eq (tgt := 76) hx hb dX8_copy_67 (by decide) (fun hc => ?_) (fun hc => ?_)
              · have hm := ipos hc hm
                refine lv_aload hx hb dX8_copy_76 (lv_at hl 1 rfl) ?_
                refine lv_iload_n hx hb dX8_copy_78 rfl (lv_at hl 4 rfl) ?_
                refine lv_iload hx hb dX8_copy_79 (lv_at hl 7 rfl) ?_
                obtain ⟨o81, ho81, hm⟩ := bindE hm
                refine gCalli (ws' := (W_x_copy g h0 h1 h2 h3 h4 h5 h6 h7 h8 h9 h10 h11 h12 h13 h14 h15 h16 h17 h18 h19 h20 v_toldIsStale v_latestFinding v_sheets0_form v_sheets0_size v_sheets0_items v_sheets1_form v_sheets1_size v_sheets1_items v_sheets2_form v_sheets2_size v_sheets2_items v_sheets3_form v_sheets3_size v_sheets3_items)) C0 hw (gRunV (As := [.int a1, .int a4]) (rest := []) C0 hw lkX8_273 (c_sh_hasItems l g H.size h5 h6 v_sheets2_form v_sheets2_size a1 a4 o81 ho81) ⟨rfl, rfl⟩ ⟨Nat.le_of_ble_eq_true rfl, Nat.le_of_ble_eq_true rfl⟩ [5] (by decide) rfl 5 rfl rfl rfl hl.1 rfl (Nat.le_of_ble_eq_true rfl) dX8_copy_81) [5] [0, 1, 2, 3, 4, 6, 7, 8, 9] rfl rfl ⟨rfl, rfl, rfl, rfl, rfl, rfl, rfl, rfl, rfl, trivial⟩ [h0, h1, h2, h3, h4, h5, h6, h7, h8, h9] rfl rfl 10 rfl (by decide +kernel) (fun H locs hw => ?_)
                refine lv_if_eq (tgt := 99) hx hb dX8_copy_84 (by decide) (fun hc => ?_) (fun hc => ?_)
                · have hm := ipos hc hm
                  exact n_x_copy_N99 C0  _ _ _ _ _ hm _ _ _ hw (lv_sub hl [2] rfl)
                · have hm := ineg hc hm
                  refine lv_aload hx hb dX8_copy_87 (lv_at hl 0 rfl) ?_
                  refine lv_iload hx hb dX8_copy_89 (lv_at hl 6 rfl) ?_
                  refine lv_iload hx hb dX8_copy_91 (lv_at hl 7 rfl) ?_
                  obtain ⟨o93, ho93, hm⟩ := bindE hm
                  refine gCalli (ws' := (W_x_copy g h0 h1 h2 h3 h4 h5 h6 h7 h8 h9 h10 h11 h12 h13 h14 h15 h16 h17 h18 h19 h20 v_toldIsStale v_latestFinding v_sheets0_form v_sheets0_size v_sheets0_items v_sheets1_form v_sheets1_size v_sheets1_items v_sheets2_form v_sheets2_size v_sheets2_items v_sheets3_form v_sheets3_size v_sheets3_items)) C0 hw (gRunV (As := [.int a3, .int a4]) (rest := []) C0 hw lkX8_273 (c_sh_hasItems l g H.size h3 h4 v_sheets1_form v_sheets1_size a3 a4 o93 ho93) ⟨rfl, rfl⟩ ⟨Nat.le_of_ble_eq_true rfl, Nat.le_of_ble_eq_true rfl⟩ [3] (by decide) rfl 3 rfl rfl rfl hl.1 rfl (Nat.le_of_ble_eq_true rfl) dX8_copy_93) [3] [0, 1, 2, 4, 5, 6, 7, 8, 9] rfl rfl ⟨rfl, rfl, rfl, rfl, rfl, rfl, rfl, rfl, rfl, trivial⟩ [h0, h1, h2, h3, h4, h5, h6, h7, h8, h9] rfl rfl 10 rfl (by decide +kernel) (fun H locs hw => ?_)
                  refine lv_if_ne (tgt := 105) hx hb dX8_copy_96 (by decide) (fun hc => ?_) (fun hc => ?_)
                  · have hm := ineg hc hm
                    refine lv_aload hx hb dX8_copy_105 (lv_at hl 1 rfl) ?_
                    refine gGet C0 hw flX8_168 5 rfl rfl dX8_copy_107 ?_
                    refine lv_iload_n hx hb dX8_copy_110 rfl (lv_at hl 4 rfl) ?_
                    refine lv_aload hx hb dX8_copy_111 (lv_at hl 0 rfl) ?_
                    refine gGet C0 hw flX8_168 3 rfl rfl dX8_copy_113 ?_
                    refine lv_iload hx hb dX8_copy_116 (lv_at hl 6 rfl) ?_
                    refine lv_iload hx hb dX8_copy_118 (lv_at hl 7 rfl) ?_
                    obtain ⟨hcp, hm⟩ := gdE hm
                    refine gCpyI (ws' := (W_x_copy g h0 h1 h2 h3 h4 h5 h6 h7 h8 h9 h10 h11 h12 h13 h14 h15 h16 h17 h18 h19 h20 v_toldIsStale v_latestFinding v_sheets0_form v_sheets0_size v_sheets0_items v_sheets1_form v_sheets1_size (va_cpy v_sheets2_items v_sheets1_items a1.toNatClampNeg a3.toNatClampNeg a4.toNatClampNeg) v_sheets2_form v_sheets2_size v_sheets2_items v_sheets3_form v_sheets3_size v_sheets3_items)) C0 hw hl.1 alX8_276 an_copy as_copy ai_copy 6 4 rfl rfl hcp (Nat.le_of_ble_eq_true rfl) (Nat.le_of_ble_eq_true rfl) rfl dX8_copy_120 (fun H locs hw => ?_)
                    refine lv_iconst (v := 1) hx hb dX8_copy_123 (by decide) ?_
                    have hm := Option.some.inj hm
                    subst hm
                    exact gRetI C0 hw dX8_copy_124
                  · have hm := ipos hc hm
                    exact n_x_copy_N99 C0  _ _ _ _ _ hm _ _ _ hw (lv_sub hl [2] rfl)
              · have hm := ineg hc hm
                refine lv_aload_n hx hb dX8_copy_70 rfl (lv_at hl 2 rfl) ?_
                refine lv_iconst (v := 4) hx hb dX8_copy_71 (by decide) ?_
                obtain ⟨o72, ho72, hm⟩ := bindE hm
                refine gCalli (ws' := (W_x_copy g h0 h1 h2 h3 h4 h5 h6 h7 h8 h9 h10 h11 h12 h13 h14 h15 h16 h17 h18 h19 h20 v_toldIsStale o72.2 v_sheets0_form v_sheets0_size v_sheets0_items v_sheets1_form v_sheets1_size v_sheets1_items v_sheets2_form v_sheets2_size v_sheets2_items v_sheets3_form v_sheets3_size v_sheets3_items)) C0 hw (gRunV (As := [.int (4 : Int32)]) (rest := []) C0 hw lkX8_161 (c_x_found l g H.size h0 h10 h11 h12 h13 h14 h15 h16 h17 h9 h18 h19 h20 v_toldIsStale v_latestFinding (4 : Int32) o72 ho72) ⟨rfl, rfl⟩ ⟨Nat.le_of_ble_eq_true rfl, Nat.le_of_ble_eq_true rfl⟩ [0] (by decide) rfl 0 rfl rfl rfl hl.1 rfl (Nat.le_of_ble_eq_true rfl) dX8_copy_72) [0] [1, 2, 3, 4, 5, 6, 7, 8, 9] rfl rfl ⟨rfl, rfl, rfl, rfl, rfl, rfl, rfl, rfl, rfl, trivial⟩ [h0, h1, h2, h3, h4, h5, h6, h7, h8, h9] rfl rfl 10 rfl (by decide +kernel) (fun H locs hw => ?_)
                have hm := Option.some.inj hm
                subst hm
                exact gRetI C0 hw dX8_copy_75
            · have hm := ipos hc hm
              exact n_x_copy_N51 C0  _ _ _ _ _ hm _ _ _ hw (lv_sub hl [2] rfl)
        have hm := ineg hs1 hm
        by_cases hs2 : a2 = (2 : Int32)
        · have hm := ipos hs2 hm
          refine gAldL C0 hw 9 rfl hs2 (inbE (by decide)) rfl dX8_copy_30 ?_
          refine lv_astore (lv' := [(7, .ref h5), (6, .ref h5), (0, .ref h0), (1, .int a0), (2, .int a1), (3, .int a2), (4, .int a3), (5, .int a4)]) hx hb dX8_copy_31 hl (by decide) rfl (fun ls hl => ?_)
          refine lv_aload hx hb dX8_copy_33 (lv_at hl 1 rfl) ?_
          refine gGet C0 hw flX8_158 5 rfl rfl dX8_copy_35 ?_
          refine lv_iconst (v := -1) hx hb dX8_copy_38 (by decide) ?_
          refine lv_icmp_eq (tgt := 51) hx hb dX8_copy_39 (by decide) (fun hc => ?_) (fun hc => ?_)
          · have hm := ipos hc hm
            exact n_x_copy_N51 C0  _ _ _ _ _ hm _ _ _ hw (lv_sub hl [2] rfl)
          · have hm := ineg hc hm
            refine lv_aload hx hb dX8_copy_42 (lv_at hl 0 rfl) ?_
            refine gGet C0 hw flX8_158 5 rfl rfl dX8_copy_44 ?_
            refine lv_iconst (v := -1) hx hb dX8_copy_47 (by decide) ?_
            refine lv_icmp_ne (tgt := 57) hx hb dX8_copy_48 (by decide) (fun hc => ?_) (fun hc => ?_)
            · have hm := ineg hc hm
              refine lv_aload hx hb dX8_copy_57 (lv_at hl 1 rfl) ?_
              refine gGet C0 hw flX8_158 5 rfl rfl dX8_copy_59 ?_
              refine lv_aload hx hb dX8_copy_62 (lv_at hl 0 rfl) ?_
              refine gGet C0 hw flX8_158 5 rfl rfl dX8_copy_64 ?_
              refine lv_icmp_eq (tgt := 76) hx hb dX8_copy_67 (by decide) (fun hc => ?_) (fun hc => ?_)
              · have hm := ipos hc hm
                refine lv_aload hx hb dX8_copy_76 (lv_at hl 1 rfl) ?_
                refine lv_iload_n hx hb dX8_copy_78 rfl (lv_at hl 4 rfl) ?_
                refine lv_iload hx hb dX8_copy_79 (lv_at hl 7 rfl) ?_
                obtain ⟨o81, ho81, hm⟩ := bindE hm
                refine gCalli (ws' := (W_x_copy g h0 h1 h2 h3 h4 h5 h6 h7 h8 h9 h10 h11 h12 h13 h14 h15 h16 h17 h18 h19 h20 v_toldIsStale v_latestFinding v_sheets0_form v_sheets0_size v_sheets0_items v_sheets1_form v_sheets1_size v_sheets1_items v_sheets2_form v_sheets2_size v_sheets2_items v_sheets3_form v_sheets3_size v_sheets3_items)) C0 hw (gRunV (As := [.int a1, .int a4]) (rest := []) C0 hw lkX8_273 (c_sh_hasItems l g H.size h5 h6 v_sheets2_form v_sheets2_size a1 a4 o81 ho81) ⟨rfl, rfl⟩ ⟨Nat.le_of_ble_eq_true rfl, Nat.le_of_ble_eq_true rfl⟩ [5] (by decide) rfl 5 rfl rfl rfl hl.1 rfl (Nat.le_of_ble_eq_true rfl) dX8_copy_81) [5] [0, 1, 2, 3, 4, 6, 7, 8, 9] rfl rfl ⟨rfl, rfl, rfl, rfl, rfl, rfl, rfl, rfl, rfl, trivial⟩ [h0, h1, h2, h3, h4, h5, h6, h7, h8, h9] rfl rfl 10 rfl (by decide +kernel) (fun H locs hw => ?_)
                refine lv_if_eq (tgt := 99) hx hb dX8_copy_84 (by decide) (fun hc => ?_) (fun hc => ?_)
                · have hm := ipos hc hm
                  exact n_x_copy_N99 C0  _ _ _ _ _ hm _ _ _ hw (lv_sub hl [2] rfl)
                · have hm := ineg hc hm
                  refine lv_aload hx hb dX8_copy_87 (lv_at hl 0 rfl) ?_
                  refine lv_iload hx hb dX8_copy_89 (lv_at hl 6 rfl) ?_
                  refine lv_iload hx hb dX8_copy_91 (lv_at hl 7 rfl) ?_
                  obtain ⟨o93, ho93, hm⟩ := bindE hm
                  refine gCalli (ws' := (W_x_copy g h0 h1 h2 h3 h4 h5 h6 h7 h8 h9 h10 h11 h12 h13 h14 h15 h16 h17 h18 h19 h20 v_toldIsStale v_latestFinding v_sheets0_form v_sheets0_size v_sheets0_items v_sheets1_form v_sheets1_size v_sheets1_items v_sheets2_form v_sheets2_size v_sheets2_items v_sheets3_form v_sheets3_size v_sheets3_items)) C0 hw (gRunV (As := [.int a3, .int a4]) (rest := []) C0 hw lkX8_273 (c_sh_hasItems l g H.size h5 h6 v_sheets2_form v_sheets2_size a3 a4 o93 ho93) ⟨rfl, rfl⟩ ⟨Nat.le_of_ble_eq_true rfl, Nat.le_of_ble_eq_true rfl⟩ [5] (by decide) rfl 5 rfl rfl rfl hl.1 rfl (Nat.le_of_ble_eq_true rfl) dX8_copy_93) [5] [0, 1, 2, 3, 4, 6, 7, 8, 9] rfl rfl ⟨rfl, rfl, rfl, rfl, rfl, rfl, rfl, rfl, rfl, trivial⟩ [h0, h1, h2, h3, h4, h5, h6, h7, h8, h9] rfl rfl 10 rfl (by decide +kernel) (fun H locs hw => ?_)
                  refine lv_if_ne (tgt := 105) hx hb dX8_copy_96 (by decide) (fun hc => ?_) (fun hc => ?_)
                  · have hm := ineg hc hm
                    refine lv_aload hx hb dX8_copy_105 (lv_at hl 1 rfl) ?_
                    refine gGet C0 hw flX8_168 5 rfl rfl dX8_copy_107 ?_
                    refine lv_iload_n hx hb dX8_copy_110 rfl (lv_at hl 4 rfl) ?_
                    refine lv_aload hx hb dX8_copy_111 (lv_at hl 0 rfl) ?_
                    refine gGet C0 hw flX8_168 5 rfl rfl dX8_copy_113 ?_
                    refine lv_iload hx hb dX8_copy_116 (lv_at hl 6 rfl) ?_
                    refine lv_iload hx hb dX8_copy_118 (lv_at hl 7 rfl) ?_
                    obtain ⟨hcp, hm⟩ := gdE hm
                    refine gCpyI (ws' := (W_x_copy g h0 h1 h2 h3 h4 h5 h6 h7 h8 h9 h10 h11 h12 h13 h14 h15 h16 h17 h18 h19 h20 v_toldIsStale v_latestFinding v_sheets0_form v_sheets0_size v_sheets0_items v_sheets1_form v_sheets1_size v_sheets1_items v_sheets2_form v_sheets2_size (va_cpy v_sheets2_items v_sheets2_items a1.toNatClampNeg a3.toNatClampNeg a4.toNatClampNeg) v_sheets3_form v_sheets3_size v_sheets3_items)) C0 hw hl.1 alX8_276 an_copy as_copy ai_copy 6 6 rfl rfl hcp (Nat.le_of_ble_eq_true rfl) (Nat.le_of_ble_eq_true rfl) rfl dX8_copy_120 (fun H locs hw => ?_)
                    refine lv_iconst (v := 1) hx hb dX8_copy_123 (by decide) ?_
                    have hm := Option.some.inj hm
                    subst hm
                    exact gRetI C0 hw dX8_copy_124
                  · have hm := ipos hc hm
                    exact n_x_copy_N99 C0  _ _ _ _ _ hm _ _ _ hw (lv_sub hl [2] rfl)
              · have hm := ineg hc hm
                refine lv_aload_n hx hb dX8_copy_70 rfl (lv_at hl 2 rfl) ?_
                refine lv_iconst (v := 4) hx hb dX8_copy_71 (by decide) ?_
                obtain ⟨o72, ho72, hm⟩ := bindE hm
                refine gCalli (ws' := (W_x_copy g h0 h1 h2 h3 h4 h5 h6 h7 h8 h9 h10 h11 h12 h13 h14 h15 h16 h17 h18 h19 h20 v_toldIsStale o72.2 v_sheets0_form v_sheets0_size v_sheets0_items v_sheets1_form v_sheets1_size v_sheets1_items v_sheets2_form v_sheets2_size v_sheets2_items v_sheets3_form v_sheets3_size v_sheets3_items)) C0 hw (gRunV (As := [.int (4 : Int32)]) (rest := []) C0 hw lkX8_161 (c_x_found l g H.size h0 h10 h11 h12 h13 h14 h15 h16 h17 h9 h18 h19 h20 v_toldIsStale v_latestFinding (4 : Int32) o72 ho72) ⟨rfl, rfl⟩ ⟨Nat.le_of_ble_eq_true rfl, Nat.le_of_ble_eq_true rfl⟩ [0] (by decide) rfl 0 rfl rfl rfl hl.1 rfl (Nat.le_of_ble_eq_true rfl) dX8_copy_72) [0] [1, 2, 3, 4, 5, 6, 7, 8, 9] rfl rfl ⟨rfl, rfl, rfl, rfl, rfl, rfl, rfl, rfl, rfl, trivial⟩ [h0, h1, h2, h3, h4, h5, h6, h7, h8, h9] rfl rfl 10 rfl (by decide +kernel) (fun H locs hw => ?_)
                have hm := Option.some.inj hm
                subst hm
                exact gRetI C0 hw dX8_copy_75
            · have hm := ipos hc hm
              exact n_x_copy_N51 C0  _ _ _ _ _ hm _ _ _ hw (lv_sub hl [2] rfl)
        have hm := ineg hs2 hm
        by_cases hs3 : a2 = (3 : Int32)
        · have hm := ipos hs3 hm
          refine gAldL C0 hw 9 rfl hs3 (inbE (by decide)) rfl dX8_copy_30 ?_
          refine lv_astore (lv' := [(7, .ref h7), (6, .ref h5), (0, .ref h0), (1, .int a0), (2, .int a1), (3, .int a2), (4, .int a3), (5, .int a4)]) hx hb dX8_copy_31 hl (by decide) rfl (fun ls hl => ?_)
          refine lv_aload hx hb dX8_copy_33 (lv_at hl 1 rfl) ?_
          refine gGet C0 hw flX8_158 5 rfl rfl dX8_copy_35 ?_
          refine lv_iconst (v := -1) hx hb dX8_copy_38 (by decide) ?_
          refine lv_icmp_eq (tgt := 51) hx hb dX8_copy_39 (by decide) (fun hc => ?_) (fun hc => ?_)
          · have hm := ipos hc hm
            exact n_x_copy_N51 C0  _ _ _ _ _ hm _ _ _ hw (lv_sub hl [2] rfl)
          · have hm := ineg hc hm
            refine lv_aload hx hb dX8_copy_42 (lv_at hl 0 rfl) ?_
            refine gGet C0 hw flX8_158 7 rfl rfl dX8_copy_44 ?_
            refine lv_iconst (v := -1) hx hb dX8_copy_47 (by decide) ?_
            refine lv_icmp_ne (tgt := 57) hx hb dX8_copy_48 (by decide) (fun hc => ?_) (fun hc => ?_)
            · have hm := ineg hc hm
              refine lv_aload hx hb dX8_copy_57 (lv_at hl 1 rfl) ?_
              refine gGet C0 hw flX8_158 5 rfl rfl dX8_copy_59 ?_
              refine lv_aload hx hb dX8_copy_62 (lv_at hl 0 rfl) ?_
              refine gGet C0 hw flX8_158 7 rfl rfl dX8_copy_64 ?_
              refine lv_icmp_eq (tgt := 76) hx hb dX8_copy_67 (by decide) (fun hc => ?_) (fun hc => ?_)
              · have hm := ipos hc hm
                refine lv_aload hx hb dX8_copy_76 (lv_at hl 1 rfl) ?_
                refine lv_iload_n hx hb dX8_copy_78 rfl (lv_at hl 4 rfl) ?_
                refine lv_iload hx hb dX8_copy_79 (lv_at hl 7 rfl) ?_
                obtain ⟨o81, ho81, hm⟩ := bindE hm
                refine gCalli (ws' := (W_x_copy g h0 h1 h2 h3 h4 h5 h6 h7 h8 h9 h10 h11 h12 h13 h14 h15 h16 h17 h18 h19 h20 v_toldIsStale v_latestFinding v_sheets0_form v_sheets0_size v_sheets0_items v_sheets1_form v_sheets1_size v_sheets1_items v_sheets2_form v_sheets2_size v_sheets2_items v_sheets3_form v_sheets3_size v_sheets3_items)) C0 hw (gRunV (As := [.int a1, .int a4]) (rest := []) C0 hw lkX8_273 (c_sh_hasItems l g H.size h5 h6 v_sheets2_form v_sheets2_size a1 a4 o81 ho81) ⟨rfl, rfl⟩ ⟨Nat.le_of_ble_eq_true rfl, Nat.le_of_ble_eq_true rfl⟩ [5] (by decide) rfl 5 rfl rfl rfl hl.1 rfl (Nat.le_of_ble_eq_true rfl) dX8_copy_81) [5] [0, 1, 2, 3, 4, 6, 7, 8, 9] rfl rfl ⟨rfl, rfl, rfl, rfl, rfl, rfl, rfl, rfl, rfl, trivial⟩ [h0, h1, h2, h3, h4, h5, h6, h7, h8, h9] rfl rfl 10 rfl (by decide +kernel) (fun H locs hw => ?_)
                refine lv_if_eq (tgt := 99) hx hb dX8_copy_84 (by decide) (fun hc => ?_) (fun hc => ?_)
                · have hm := ipos hc hm
                  exact n_x_copy_N99 C0  _ _ _ _ _ hm _ _ _ hw (lv_sub hl [2] rfl)
                · have hm := ineg hc hm
                  refine lv_aload hx hb dX8_copy_87 (lv_at hl 0 rfl) ?_
                  refine lv_iload hx hb dX8_copy_89 (lv_at hl 6 rfl) ?_
                  refine lv_iload hx hb dX8_copy_91 (lv_at hl 7 rfl) ?_
                  obtain ⟨o93, ho93, hm⟩ := bindE hm
                  refine gCalli (ws' := (W_x_copy g h0 h1 h2 h3 h4 h5 h6 h7 h8 h9 h10 h11 h12 h13 h14 h15 h16 h17 h18 h19 h20 v_toldIsStale v_latestFinding v_sheets0_form v_sheets0_size v_sheets0_items v_sheets1_form v_sheets1_size v_sheets1_items v_sheets2_form v_sheets2_size v_sheets2_items v_sheets3_form v_sheets3_size v_sheets3_items)) C0 hw (gRunV (As := [.int a3, .int a4]) (rest := []) C0 hw lkX8_273 (c_sh_hasItems l g H.size h7 h8 v_sheets3_form v_sheets3_size a3 a4 o93 ho93) ⟨rfl, rfl⟩ ⟨Nat.le_of_ble_eq_true rfl, Nat.le_of_ble_eq_true rfl⟩ [7] (by decide) rfl 7 rfl rfl rfl hl.1 rfl (Nat.le_of_ble_eq_true rfl) dX8_copy_93) [7] [0, 1, 2, 3, 4, 5, 6, 8, 9] rfl rfl ⟨rfl, rfl, rfl, rfl, rfl, rfl, rfl, rfl, rfl, trivial⟩ [h0, h1, h2, h3, h4, h5, h6, h7, h8, h9] rfl rfl 10 rfl (by decide +kernel) (fun H locs hw => ?_)
                  refine lv_if_ne (tgt := 105) hx hb dX8_copy_96 (by decide) (fun hc => ?_) (fun hc => ?_)
                  · have hm := ineg hc hm
                    refine lv_aload hx hb dX8_copy_105 (lv_at hl 1 rfl) ?_
                    refine gGet C0 hw flX8_168 5 rfl rfl dX8_copy_107 ?_
                    refine lv_iload_n hx hb dX8_copy_110 rfl (lv_at hl 4 rfl) ?_
                    refine lv_aload hx hb dX8_copy_111 (lv_at hl 0 rfl) ?_
                    refine gGet C0 hw flX8_168 7 rfl rfl dX8_copy_113 ?_
                    refine lv_iload hx hb dX8_copy_116 (lv_at hl 6 rfl) ?_
                    refine lv_iload hx hb dX8_copy_118 (lv_at hl 7 rfl) ?_
                    obtain ⟨hcp, hm⟩ := gdE hm
                    refine gCpyI (ws' := (W_x_copy g h0 h1 h2 h3 h4 h5 h6 h7 h8 h9 h10 h11 h12 h13 h14 h15 h16 h17 h18 h19 h20 v_toldIsStale v_latestFinding v_sheets0_form v_sheets0_size v_sheets0_items v_sheets1_form v_sheets1_size v_sheets1_items v_sheets2_form v_sheets2_size v_sheets2_items v_sheets3_form v_sheets3_size (va_cpy v_sheets2_items v_sheets3_items a1.toNatClampNeg a3.toNatClampNeg a4.toNatClampNeg))) C0 hw hl.1 alX8_276 an_copy as_copy ai_copy 6 8 rfl rfl hcp (Nat.le_of_ble_eq_true rfl) (Nat.le_of_ble_eq_true rfl) rfl dX8_copy_120 (fun H locs hw => ?_)
                    refine lv_iconst (v := 1) hx hb dX8_copy_123 (by decide) ?_
                    have hm := Option.some.inj hm
                    subst hm
                    exact gRetI C0 hw dX8_copy_124
                  · have hm := ipos hc hm
                    exact n_x_copy_N99 C0  _ _ _ _ _ hm _ _ _ hw (lv_sub hl [2] rfl)
              · have hm := ineg hc hm
                refine lv_aload_n hx hb dX8_copy_70 rfl (lv_at hl 2 rfl) ?_
                refine lv_iconst (v := 4) hx hb dX8_copy_71 (by decide) ?_
                obtain ⟨o72, ho72, hm⟩ := bindE hm
                refine gCalli (ws' := (W_x_copy g h0 h1 h2 h3 h4 h5 h6 h7 h8 h9 h10 h11 h12 h13 h14 h15 h16 h17 h18 h19 h20 v_toldIsStale o72.2 v_sheets0_form v_sheets0_size v_sheets0_items v_sheets1_form v_sheets1_size v_sheets1_items v_sheets2_form v_sheets2_size v_sheets2_items v_sheets3_form v_sheets3_size v_sheets3_items)) C0 hw (gRunV (As := [.int (4 : Int32)]) (rest := []) C0 hw lkX8_161 (c_x_found l g H.size h0 h10 h11 h12 h13 h14 h15 h16 h17 h9 h18 h19 h20 v_toldIsStale v_latestFinding (4 : Int32) o72 ho72) ⟨rfl, rfl⟩ ⟨Nat.le_of_ble_eq_true rfl, Nat.le_of_ble_eq_true rfl⟩ [0] (by decide) rfl 0 rfl rfl rfl hl.1 rfl (Nat.le_of_ble_eq_true rfl) dX8_copy_72) [0] [1, 2, 3, 4, 5, 6, 7, 8, 9] rfl rfl ⟨rfl, rfl, rfl, rfl, rfl, rfl, rfl, rfl, rfl, trivial⟩ [h0, h1, h2, h3, h4, h5, h6, h7, h8, h9] rfl rfl 10 rfl (by decide +kernel) (fun H locs hw => ?_)
                have hm := Option.some.inj hm
                subst hm
                exact gRetI C0 hw dX8_copy_75
            · have hm := ipos hc hm
              exact n_x_copy_N51 C0  _ _ _ _ _ hm _ _ _ hw (lv_sub hl [2] rfl)
        have hm := ineg hs3 hm
        cases hm
      have hm := ineg hs2 hm
      by_cases hs3 : a0 = (3 : Int32)
      · have hm := ipos hs3 hm
        refine gAldL C0 hw 9 rfl hs3 (inbE (by decide)) rfl dX8_copy_22 ?_
        refine lv_astore (lv' := [(6, .ref h7), (0, .ref h0), (1, .int a0), (2, .int a1), (3, .int a2), (4, .int a3), (5, .int a4)]) hx hb dX8_copy_23 hl (by decide) rfl (fun ls hl => ?_)
        refine lv_aload_n hx hb dX8_copy_25 rfl (lv_at hl 1 rfl) ?_
        refine gGet C0 hw flX8_61 0 rfl rfl dX8_copy_26 ?_
        refine lv_iload_n hx hb dX8_copy_29 rfl (lv_at hl 4 rfl) ?_
        by_cases hs0 : a2 = (0 : Int32)
        · have hm := ipos hs0 hm
          refine gAldL C0 hw 9 rfl hs0 (inbE (by decide)) rfl dX8_copy_30 ?_
          refine lv_astore (lv' := [(7, .ref h1), (6, .ref h7), (0, .ref h0), (1, .int a0), (2, .int a1), (3, .int a2), (4, .int a3), (5, .int a4)]) hx hb dX8_copy_31 hl (by decide) rfl (fun ls hl => ?_)
          refine lv_aload hx hb dX8_copy_33 (lv_at hl 1 rfl) ?_
          refine gGet C0 hw flX8_158 7 rfl rfl dX8_copy_35 ?_
          refine lv_iconst (v := -1) hx hb dX8_copy_38 (by decide) ?_
          refine lv_icmp_eq (tgt := 51) hx hb dX8_copy_39 (by decide) (fun hc => ?_) (fun hc => ?_)
          · have hm := ipos hc hm
            exact n_x_copy_N51 C0  _ _ _ _ _ hm _ _ _ hw (lv_sub hl [2] rfl)
          · have hm := ineg hc hm
            refine lv_aload hx hb dX8_copy_42 (lv_at hl 0 rfl) ?_
            refine gGet C0 hw flX8_158 1 rfl rfl dX8_copy_44 ?_
            refine lv_iconst (v := -1) hx hb dX8_copy_47 (by decide) ?_
            refine lv_icmp_ne (tgt := 57) hx hb dX8_copy_48 (by decide) (fun hc => ?_) (fun hc => ?_)
            · have hm := ineg hc hm
              refine lv_aload hx hb dX8_copy_57 (lv_at hl 1 rfl) ?_
              refine gGet C0 hw flX8_158 7 rfl rfl dX8_copy_59 ?_
              refine lv_aload hx hb dX8_copy_62 (lv_at hl 0 rfl) ?_
              refine gGet C0 hw flX8_158 1 rfl rfl dX8_copy_64 ?_
              refine lv_icmp_eq (tgt := 76) hx hb dX8_copy_67 (by decide) (fun hc => ?_) (fun hc => ?_)
              · have hm := ipos hc hm
                refine lv_aload hx hb dX8_copy_76 (lv_at hl 1 rfl) ?_
                refine lv_iload_n hx hb dX8_copy_78 rfl (lv_at hl 4 rfl) ?_
                refine lv_iload hx hb dX8_copy_79 (lv_at hl 7 rfl) ?_
                obtain ⟨o81, ho81, hm⟩ := bindE hm
                refine gCalli (ws' := (W_x_copy g h0 h1 h2 h3 h4 h5 h6 h7 h8 h9 h10 h11 h12 h13 h14 h15 h16 h17 h18 h19 h20 v_toldIsStale v_latestFinding v_sheets0_form v_sheets0_size v_sheets0_items v_sheets1_form v_sheets1_size v_sheets1_items v_sheets2_form v_sheets2_size v_sheets2_items v_sheets3_form v_sheets3_size v_sheets3_items)) C0 hw (gRunV (As := [.int a1, .int a4]) (rest := []) C0 hw lkX8_273 (c_sh_hasItems l g H.size h7 h8 v_sheets3_form v_sheets3_size a1 a4 o81 ho81) ⟨rfl, rfl⟩ ⟨Nat.le_of_ble_eq_true rfl, Nat.le_of_ble_eq_true rfl⟩ [7] (by decide) rfl 7 rfl rfl rfl hl.1 rfl (Nat.le_of_ble_eq_true rfl) dX8_copy_81) [7] [0, 1, 2, 3, 4, 5, 6, 8, 9] rfl rfl ⟨rfl, rfl, rfl, rfl, rfl, rfl, rfl, rfl, rfl, trivial⟩ [h0, h1, h2, h3, h4, h5, h6, h7, h8, h9] rfl rfl 10 rfl (by decide +kernel) (fun H locs hw => ?_)
                refine lv_if_eq (tgt := 99) hx hb dX8_copy_84 (by decide) (fun hc => ?_) (fun hc => ?_)
                · have hm := ipos hc hm
                  exact n_x_copy_N99 C0  _ _ _ _ _ hm _ _ _ hw (lv_sub hl [2] rfl)
                · have hm := ineg hc hm
                  refine lv_aload hx hb dX8_copy_87 (lv_at hl 0 rfl) ?_
                  refine lv_iload hx hb dX8_copy_89 (lv_at hl 6 rfl) ?_
                  refine lv_iload hx hb dX8_copy_91 (lv_at hl 7 rfl) ?_
                  obtain ⟨o93, ho93, hm⟩ := bindE hm
                  refine gCalli (ws' := (W_x_copy g h0 h1 h2 h3 h4 h5 h6 h7 h8 h9 h10 h11 h12 h13 h14 h15 h16 h17 h18 h19 h20 v_toldIsStale v_latestFinding v_sheets0_form v_sheets0_size v_sheets0_items v_sheets1_form v_sheets1_size v_sheets1_items v_sheets2_form v_sheets2_size v_sheets2_items v_sheets3_form v_sheets3_size v_sheets3_items)) C0 hw (gRunV (As := [.int a3, .int a4]) (rest := []) C0 hw lkX8_273 (c_sh_hasItems l g H.size h1 h2 v_sheets0_form v_sheets0_size a3 a4 o93 ho93) ⟨rfl, rfl⟩ ⟨Nat.le_of_ble_eq_true rfl, Nat.le_of_ble_eq_true rfl⟩ [1] (by decide) rfl 1 rfl rfl rfl hl.1 rfl (Nat.le_of_ble_eq_true rfl) dX8_copy_93) [1] [0, 2, 3, 4, 5, 6, 7, 8, 9] rfl rfl ⟨rfl, rfl, rfl, rfl, rfl, rfl, rfl, rfl, rfl, trivial⟩ [h0, h1, h2, h3, h4, h5, h6, h7, h8, h9] rfl rfl 10 rfl (by decide +kernel) (fun H locs hw => ?_)
                  refine lv_if_ne (tgt := 105) hx hb dX8_copy_96 (by decide) (fun hc => ?_) (fun hc => ?_)
                  · have hm := ineg hc hm
                    refine lv_aload hx hb dX8_copy_105 (lv_at hl 1 rfl) ?_
                    refine gGet C0 hw flX8_168 7 rfl rfl dX8_copy_107 ?_
                    refine lv_iload_n hx hb dX8_copy_110 rfl (lv_at hl 4 rfl) ?_
                    refine lv_aload hx hb dX8_copy_111 (lv_at hl 0 rfl) ?_
                    refine gGet C0 hw flX8_168 1 rfl rfl dX8_copy_113 ?_
                    refine lv_iload hx hb dX8_copy_116 (lv_at hl 6 rfl) ?_
                    refine lv_iload hx hb dX8_copy_118 (lv_at hl 7 rfl) ?_
                    obtain ⟨hcp, hm⟩ := gdE hm
                    refine gCpyI (ws' := (W_x_copy g h0 h1 h2 h3 h4 h5 h6 h7 h8 h9 h10 h11 h12 h13 h14 h15 h16 h17 h18 h19 h20 v_toldIsStale v_latestFinding v_sheets0_form v_sheets0_size (va_cpy v_sheets3_items v_sheets0_items a1.toNatClampNeg a3.toNatClampNeg a4.toNatClampNeg) v_sheets1_form v_sheets1_size v_sheets1_items v_sheets2_form v_sheets2_size v_sheets2_items v_sheets3_form v_sheets3_size v_sheets3_items)) C0 hw hl.1 alX8_276 an_copy as_copy ai_copy 8 2 rfl rfl hcp (Nat.le_of_ble_eq_true rfl) (Nat.le_of_ble_eq_true rfl) rfl dX8_copy_120 (fun H locs hw => ?_)
                    refine lv_iconst (v := 1) hx hb dX8_copy_123 (by decide) ?_
                    have hm := Option.some.inj hm
                    subst hm
                    exact gRetI C0 hw dX8_copy_124
                  · have hm := ipos hc hm
                    exact n_x_copy_N99 C0  _ _ _ _ _ hm _ _ _ hw (lv_sub hl [2] rfl)
              · have hm := ineg hc hm
                refine lv_aload_n hx hb dX8_copy_70 rfl (lv_at hl 2 rfl) ?_
                refine lv_iconst (v := 4) hx hb dX8_copy_71 (by decide) ?_
                obtain ⟨o72, ho72, hm⟩ := bindE hm
                refine gCalli (ws' := (W_x_copy g h0 h1 h2 h3 h4 h5 h6 h7 h8 h9 h10 h11 h12 h13 h14 h15 h16 h17 h18 h19 h20 v_toldIsStale o72.2 v_sheets0_form v_sheets0_size v_sheets0_items v_sheets1_form v_sheets1_size v_sheets1_items v_sheets2_form v_sheets2_size v_sheets2_items v_sheets3_form v_sheets3_size v_sheets3_items)) C0 hw (gRunV (As := [.int (4 : Int32)]) (rest := []) C0 hw lkX8_161 (c_x_found l g H.size h0 h10 h11 h12 h13 h14 h15 h16 h17 h9 h18 h19 h20 v_toldIsStale v_latestFinding (4 : Int32) o72 ho72) ⟨rfl, rfl⟩ ⟨Nat.le_of_ble_eq_true rfl, Nat.le_of_ble_eq_true rfl⟩ [0] (by decide) rfl 0 rfl rfl rfl hl.1 rfl (Nat.le_of_ble_eq_true rfl) dX8_copy_72) [0] [1, 2, 3, 4, 5, 6, 7, 8, 9] rfl rfl ⟨rfl, rfl, rfl, rfl, rfl, rfl, rfl, rfl, rfl, trivial⟩ [h0, h1, h2, h3, h4, h5, h6, h7, h8, h9] rfl rfl 10 rfl (by decide +kernel) (fun H locs hw => ?_)
                have hm := Option.some.inj hm
                subst hm
                exact gRetI C0 hw dX8_copy_75
            · have hm := ipos hc hm
              exact n_x_copy_N51 C0  _ _ _ _ _ hm _ _ _ hw (lv_sub hl [2] rfl)
        have hm := ineg hs0 hm
        by_cases hs1 : a2 = (1 : Int32)
        · have hm := ipos hs1 hm
          refine gAldL C0 hw 9 rfl hs1 (inbE (by decide)) rfl dX8_copy_30 ?_
          refine lv_astore (lv' := [(7, .ref h3), (6, .ref h7), (0, .ref h0), (1, .int a0), (2, .int a1), (3, .int a2), (4, .int a3), (5, .int a4)]) hx hb dX8_copy_31 hl (by decide) rfl (fun ls hl => ?_)
          refine lv_aload hx hb dX8_copy_33 (lv_at hl 1 rfl) ?_
          refine gGet C0 hw flX8_158 7 rfl rfl dX8_copy_35 ?_
          refine lv_iconst (v := -1) hx hb dX8_copy_38 (by decide) ?_
          refine lv_icmp_eq (tgt := 51) hx hb dX8_copy_39 (by decide) (fun hc => ?_) (fun hc => ?_)
          · have hm := ipos hc hm
            exact n_x_copy_N51 C0  _ _ _ _ _ hm _ _ _ hw (lv_sub hl [2] rfl)
          · have hm := ineg hc hm
            refine lv_aload hx hb dX8_copy_42 (lv_at hl 0 rfl) ?_
            refine gGet C0 hw flX8_158 3 rfl rfl dX8_copy_44 ?_
            refine lv_iconst (v := -1) hx hb dX8_copy_47 (by decide) ?_
            refine lv_icmp_ne (tgt := 57) hx hb dX8_copy_48 (by decide) (fun hc => ?_) (fun hc => ?_)
            · have hm := ineg hc hm
              refine lv_aload hx hb dX8_copy_57 (lv_at hl 1 rfl) ?_
              refine gGet C0 hw flX8_158 7 rfl rfl dX8_copy_59 ?_
              refine lv_aload hx hb dX8_copy_62 (lv_at hl 0 rfl) ?_
              refine gGet C0 hw flX8_158 3 rfl rfl dX8_copy_64 ?_
              refine lv_icmp_eq (tgt := 76) hx hb dX8_copy_67 (by decide) (fun hc => ?_) (fun hc => ?_)
              · have hm := ipos hc hm
                refine lv_aload hx hb dX8_copy_76 (lv_at hl 1 rfl) ?_
                refine lv_iload_n hx hb dX8_copy_78 rfl (lv_at hl 4 rfl) ?_
                refine lv_iload hx hb dX8_copy_79 (lv_at hl 7 rfl) ?_
                obtain ⟨o81, ho81, hm⟩ := bindE hm
                refine gCalli (ws' := (W_x_copy g h0 h1 h2 h3 h4 h5 h6 h7 h8 h9 h10 h11 h12 h13 h14 h15 h16 h17 h18 h19 h20 v_toldIsStale v_latestFinding v_sheets0_form v_sheets0_size v_sheets0_items v_sheets1_form v_sheets1_size v_sheets1_items v_sheets2_form v_sheets2_size v_sheets2_items v_sheets3_form v_sheets3_size v_sheets3_items)) C0 hw (gRunV (As := [.int a1, .int a4]) (rest := []) C0 hw lkX8_273 (c_sh_hasItems l g H.size h7 h8 v_sheets3_form v_sheets3_size a1 a4 o81 ho81) ⟨rfl, rfl⟩ ⟨Nat.le_of_ble_eq_true rfl, Nat.le_of_ble_eq_true rfl⟩ [7] (by decide) rfl 7 rfl rfl rfl hl.1 rfl (Nat.le_of_ble_eq_true rfl) dX8_copy_81) [7] [0, 1, 2, 3, 4, 5, 6, 8, 9] rfl rfl ⟨rfl, rfl, rfl, rfl, rfl, rfl, rfl, rfl, rfl, trivial⟩ [h0, h1, h2, h3, h4, h5, h6, h7, h8, h9] rfl rfl 10 rfl (by decide +kernel) (fun H locs hw => ?_)
                refine lv_if_eq (tgt := 99) hx hb dX8_copy_84 (by decide) (fun hc => ?_) (fun hc => ?_)
                · have hm := ipos hc hm
                  exact n_x_copy_N99 C0  _ _ _ _ _ hm _ _ _ hw (lv_sub hl [2] rfl)
                · have hm := ineg hc hm
                  refine lv_aload hx hb dX8_copy_87 (lv_at hl 0 rfl) ?_
                  refine lv_iload hx hb dX8_copy_89 (lv_at hl 6 rfl) ?_
                  refine lv_iload hx hb dX8_copy_91 (lv_at hl 7 rfl) ?_
                  obtain ⟨o93, ho93, hm⟩ := bindE hm
                  refine gCalli (ws' := (W_x_copy g h0 h1 h2 h3 h4 h5 h6 h7 h8 h9 h10 h11 h12 h13 h14 h15 h16 h17 h18 h19 h20 v_toldIsStale v_latestFinding v_sheets0_form v_sheets0_size v_sheets0_items v_sheets1_form v_sheets1_size v_sheets1_items v_sheets2_form v_sheets2_size v_sheets2_items v_sheets3_form v_sheets3_size v_sheets3_items)) C0 hw (gRunV (As := [.int a3, .int a4]) (rest := []) C0 hw lkX8_273 (c_sh_hasItems l g H.size h3 h4 v_sheets1_form v_sheets1_size a3 a4 o93 ho93) ⟨rfl, rfl⟩ ⟨Nat.le_of_ble_eq_true rfl, Nat.le_of_ble_eq_true rfl⟩ [3] (by decide) rfl 3 rfl rfl rfl hl.1 rfl (Nat.le_of_ble_eq_true rfl) dX8_copy_93) [3] [0, 1, 2, 4, 5, 6, 7, 8, 9] rfl rfl ⟨rfl, rfl, rfl, rfl, rfl, rfl, rfl, rfl, rfl, trivial⟩ [h0, h1, h2, h3, h4, h5, h6, h7, h8, h9] rfl rfl 10 rfl (by decide +kernel) (fun H locs hw => ?_)
                  refine lv_if_ne (tgt := 105) hx hb dX8_copy_96 (by decide) (fun hc => ?_) (fun hc => ?_)
                  · have hm := ineg hc hm
                    refine lv_aload hx hb dX8_copy_105 (lv_at hl 1 rfl) ?_
                    refine gGet C0 hw flX8_168 7 rfl rfl dX8_copy_107 ?_
                    refine lv_iload_n hx hb dX8_copy_110 rfl (lv_at hl 4 rfl) ?_
                    refine lv_aload hx hb dX8_copy_111 (lv_at hl 0 rfl) ?_
                    refine gGet C0 hw flX8_168 3 rfl rfl dX8_copy_113 ?_
                    refine lv_iload hx hb dX8_copy_116 (lv_at hl 6 rfl) ?_
                    refine lv_iload hx hb dX8_copy_118 (lv_at hl 7 rfl) ?_
                    obtain ⟨hcp, hm⟩ := gdE hm
                    refine gCpyI (ws' := (W_x_copy g h0 h1 h2 h3 h4 h5 h6 h7 h8 h9 h10 h11 h12 h13 h14 h15 h16 h17 h18 h19 h20 v_toldIsStale v_latestFinding v_sheets0_form v_sheets0_size v_sheets0_items v_sheets1_form v_sheets1_size (va_cpy v_sheets3_items v_sheets1_items a1.toNatClampNeg a3.toNatClampNeg a4.toNatClampNeg) v_sheets2_form v_sheets2_size v_sheets2_items v_sheets3_form v_sheets3_size v_sheets3_items)) C0 hw hl.1 alX8_276 an_copy as_copy ai_copy 8 4 rfl rfl hcp (Nat.le_of_ble_eq_true rfl) (Nat.le_of_ble_eq_true rfl) rfl dX8_copy_120 (fun H locs hw => ?_)
                    refine lv_iconst (v := 1) hx hb dX8_copy_123 (by decide) ?_
                    have hm := Option.some.inj hm
                    subst hm
                    exact gRetI C0 hw dX8_copy_124
                  · have hm := ipos hc hm
                    exact n_x_copy_N99 C0  _ _ _ _ _ hm _ _ _ hw (lv_sub hl [2] rfl)
              · have hm := ineg hc hm
                refine lv_aload_n hx hb dX8_copy_70 rfl (lv_at hl 2 rfl) ?_
                refine lv_iconst (v := 4) hx hb dX8_copy_71 (by decide) ?_
                obtain ⟨o72, ho72, hm⟩ := bindE hm
                refine gCalli (ws' := (W_x_copy g h0 h1 h2 h3 h4 h5 h6 h7 h8 h9 h10 h11 h12 h13 h14 h15 h16 h17 h18 h19 h20 v_toldIsStale o72.2 v_sheets0_form v_sheets0_size v_sheets0_items v_sheets1_form v_sheets1_size v_sheets1_items v_sheets2_form v_sheets2_size v_sheets2_items v_sheets3_form v_sheets3_size v_sheets3_items)) C0 hw (gRunV (As := [.int (4 : Int32)]) (rest := []) C0 hw lkX8_161 (c_x_found l g H.size h0 h10 h11 h12 h13 h14 h15 h16 h17 h9 h18 h19 h20 v_toldIsStale v_latestFinding (4 : Int32) o72 ho72) ⟨rfl, rfl⟩ ⟨Nat.le_of_ble_eq_true rfl, Nat.le_of_ble_eq_true rfl⟩ [0] (by decide) rfl 0 rfl rfl rfl hl.1 rfl (Nat.le_of_ble_eq_true rfl) dX8_copy_72) [0] [1, 2, 3, 4, 5, 6, 7, 8, 9] rfl rfl ⟨rfl, rfl, rfl, rfl, rfl, rfl, rfl, rfl, rfl, trivial⟩ [h0, h1, h2, h3, h4, h5, h6, h7, h8, h9] rfl rfl 10 rfl (by decide +kernel) (fun H locs hw => ?_)
                have hm := Option.some.inj hm
                subst hm
                exact gRetI C0 hw dX8_copy_75
            · have hm := ipos hc hm
              exact n_x_copy_N51 C0  _ _ _ _ _ hm _ _ _ hw (lv_sub hl [2] rfl)
        have hm := ineg hs1 hm
        by_cases hs2 : a2 = (2 : Int32)
        · have hm := ipos hs2 hm
          refine gAldL C0 hw 9 rfl hs2 (inbE (by decide)) rfl dX8_copy_30 ?_
          refine lv_astore (lv' := [(7, .ref h5), (6, .ref h7), (0, .ref h0), (1, .int a0), (2, .int a1), (3, .int a2), (4, .int a3), (5, .int a4)]) hx hb dX8_copy_31 hl (by decide) rfl (fun ls hl => ?_)
          refine lv_aload hx hb dX8_copy_33 (lv_at hl 1 rfl) ?_
          refine gGet C0 hw flX8_158 7 rfl rfl dX8_copy_35 ?_
          refine lv_iconst (v := -1) hx hb dX8_copy_38 (by decide) ?_
          refine lv_icmp_eq (tgt := 51) hx hb dX8_copy_39 (by decide) (fun hc => ?_) (fun hc => ?_)
          · have hm := ipos hc hm
            exact n_x_copy_N51 C0  _ _ _ _ _ hm _ _ _ hw (lv_sub hl [2] rfl)
          · have hm := ineg hc hm
            refine lv_aload hx hb dX8_copy_42 (lv_at hl 0 rfl) ?_
            refine gGet C0 hw flX8_158 5 rfl rfl dX8_copy_44 ?_
            refine lv_iconst (v := -1) hx hb dX8_copy_47 (by decide) ?_
            refine lv_icmp_ne (tgt := 57) hx hb dX8_copy_48 (by decide) (fun hc => ?_) (fun hc => ?_)
            · have hm := ineg hc hm
              refine lv_aload hx hb dX8_copy_57 (lv_at hl 1 rfl) ?_
              refine gGet C0 hw flX8_158 7 rfl rfl dX8_copy_59 ?_
              refine lv_aload hx hb dX8_copy_62 (lv_at hl 0 rfl) ?_
              refine gGet C0 hw flX8_158 5 rfl rfl dX8_copy_64 ?_
              refine lv_icmp_eq (tgt := 76) hx hb dX8_copy_67 (by decide) (fun hc => ?_) (fun hc => ?_)
              · have hm := ipos hc hm
                refine lv_aload hx hb dX8_copy_76 (lv_at hl 1 rfl) ?_
                refine lv_iload_n hx hb dX8_copy_78 rfl (lv_at hl 4 rfl) ?_
                refine lv_iload hx hb dX8_copy_79 (lv_at hl 7 rfl) ?_
                obtain ⟨o81, ho81, hm⟩ := bindE hm
                refine gCalli (ws' := (W_x_copy g h0 h1 h2 h3 h4 h5 h6 h7 h8 h9 h10 h11 h12 h13 h14 h15 h16 h17 h18 h19 h20 v_toldIsStale v_latestFinding v_sheets0_form v_sheets0_size v_sheets0_items v_sheets1_form v_sheets1_size v_sheets1_items v_sheets2_form v_sheets2_size v_sheets2_items v_sheets3_form v_sheets3_size v_sheets3_items)) C0 hw (gRunV (As := [.int a1, .int a4]) (rest := []) C0 hw lkX8_273 (c_sh_hasItems l g H.size h7 h8 v_sheets3_form v_sheets3_size a1 a4 o81 ho81) ⟨rfl, rfl⟩ ⟨Nat.le_of_ble_eq_true rfl, Nat.le_of_ble_eq_true rfl⟩ [7] (by decide) rfl 7 rfl rfl rfl hl.1 rfl (Nat.le_of_ble_eq_true rfl) dX8_copy_81) [7] [0, 1, 2, 3, 4, 5, 6, 8, 9] rfl rfl ⟨rfl, rfl, rfl, rfl, rfl, rfl, rfl, rfl, rfl, trivial⟩ [h0, h1, h2, h3, h4, h5, h6, h7, h8, h9] rfl rfl 10 rfl (by decide +kernel) (fun H locs hw => ?_)
                refine lv_if_eq (tgt := 99) hx hb dX8_copy_84 (by decide) (fun hc => ?_) (fun hc => ?_)
                · have hm := ipos hc hm
                  exact n_x_copy_N99 C0  _ _ _ _ _ hm _ _ _ hw (lv_sub hl [2] rfl)
                · have hm := ineg hc hm
                  refine lv_aload hx hb dX8_copy_87 (lv_at hl 0 rfl) ?_
                  refine lv_iload hx hb dX8_copy_89 (lv_at hl 6 rfl) ?_
                  refine lv_iload hx hb dX8_copy_91 (lv_at hl 7 rfl) ?_
                  obtain ⟨o93, ho93, hm⟩ := bindE hm
                  refine gCalli (ws' := (W_x_copy g h0 h1 h2 h3 h4 h5 h6 h7 h8 h9 h10 h11 h12 h13 h14 h15 h16 h17 h18 h19 h20 v_toldIsStale v_latestFinding v_sheets0_form v_sheets0_size v_sheets0_items v_sheets1_form v_sheets1_size v_sheets1_items v_sheets2_form v_sheets2_size v_sheets2_items v_sheets3_form v_sheets3_size v_sheets3_items)) C0 hw (gRunV (As := [.int a3, .int a4]) (rest := []) C0 hw lkX8_273 (c_sh_hasItems l g H.size h5 h6 v_sheets2_form v_sheets2_size a3 a4 o93 ho93) ⟨rfl, rfl⟩ ⟨Nat.le_of_ble_eq_true rfl, Nat.le_of_ble_eq_true rfl⟩ [5] (by decide) rfl 5 rfl rfl rfl hl.1 rfl (Nat.le_of_ble_eq_true rfl) dX8_copy_93) [5] [0, 1, 2, 3, 4, 6, 7, 8, 9] rfl rfl ⟨rfl, rfl, rfl, rfl, rfl, rfl, rfl, rfl, rfl, trivial⟩ [h0, h1, h2, h3, h4, h5, h6, h7, h8, h9] rfl rfl 10 rfl (by decide +kernel) (fun H locs hw => ?_)
                  refine lv_if_ne (tgt := 105) hx hb dX8_copy_96 (by decide) (fun hc => ?_) (fun hc => ?_)
                  · have hm := ineg hc hm
                    refine lv_aload hx hb dX8_copy_105 (lv_at hl 1 rfl) ?_
                    refine gGet C0 hw flX8_168 7 rfl rfl dX8_copy_107 ?_
                    refine lv_iload_n hx hb dX8_copy_110 rfl (lv_at hl 4 rfl) ?_
                    refine lv_aload hx hb dX8_copy_111 (lv_at hl 0 rfl) ?_
                    refine gGet C0 hw flX8_168 5 rfl rfl dX8_copy_113 ?_
                    refine lv_iload hx hb dX8_copy_116 (lv_at hl 6 rfl) ?_
                    refine lv_iload hx hb dX8_copy_118 (lv_at hl 7 rfl) ?_
                    obtain ⟨hcp, hm⟩ := gdE hm
                    refine gCpyI (ws' := (W_x_copy g h0 h1 h2 h3 h4 h5 h6 h7 h8 h9 h10 h11 h12 h13 h14 h15 h16 h17 h18 h19 h20 v_toldIsStale v_latestFinding v_sheets0_form v_sheets0_size v_sheets0_items v_sheets1_form v_sheets1_size v_sheets1_items v_sheets2_form v_sheets2_size (va_cpy v_sheets3_items v_sheets2_items a1.toNatClampNeg a3.toNatClampNeg a4.toNatClampNeg) v_sheets3_form v_sheets3_size v_sheets3_items)) C0 hw hl.1 alX8_276 an_copy as_copy ai_copy 8 6 rfl rfl hcp (Nat.le_of_ble_eq_true rfl) (Nat.le_of_ble_eq_true rfl) rfl dX8_copy_120 (fun H locs hw => ?_)
                    refine lv_iconst (v := 1) hx hb dX8_copy_123 (by decide) ?_
                    have hm := Option.some.inj hm
                    subst hm
                    exact gRetI C0 hw dX8_copy_124
                  · have hm := ipos hc hm
                    exact n_x_copy_N99 C0  _ _ _ _ _ hm _ _ _ hw (lv_sub hl [2] rfl)
              · have hm := ineg hc hm
                refine lv_aload_n hx hb dX8_copy_70 rfl (lv_at hl 2 rfl) ?_
                refine lv_iconst (v := 4) hx hb dX8_copy_71 (by decide) ?_
                obtain ⟨o72, ho72, hm⟩ := bindE hm
                refine gCalli (ws' := (W_x_copy g h0 h1 h2 h3 h4 h5 h6 h7 h8 h9 h10 h11 h12 h13 h14 h15 h16 h17 h18 h19 h20 v_toldIsStale o72.2 v_sheets0_form v_sheets0_size v_sheets0_items v_sheets1_form v_sheets1_size v_sheets1_items v_sheets2_form v_sheets2_size v_sheets2_items v_sheets3_form v_sheets3_size v_sheets3_items)) C0 hw (gRunV (As := [.int (4 : Int32)]) (rest := []) C0 hw lkX8_161 (c_x_found l g H.size h0 h10 h11 h12 h13 h14 h15 h16 h17 h9 h18 h19 h20 v_toldIsStale v_latestFinding (4 : Int32) o72 ho72) ⟨rfl, rfl⟩ ⟨Nat.le_of_ble_eq_true rfl, Nat.le_of_ble_eq_true rfl⟩ [0] (by decide) rfl 0 rfl rfl rfl hl.1 rfl (Nat.le_of_ble_eq_true rfl) dX8_copy_72) [0] [1, 2, 3, 4, 5, 6, 7, 8, 9] rfl rfl ⟨rfl, rfl, rfl, rfl, rfl, rfl, rfl, rfl, rfl, trivial⟩ [h0, h1, h2, h3, h4, h5, h6, h7, h8, h9] rfl rfl 10 rfl (by decide +kernel) (fun H locs hw => ?_)
                have hm := Option.some.inj hm
                subst hm
                exact gRetI C0 hw dX8_copy_75
            · have hm := ipos hc hm
              exact n_x_copy_N51 C0  _ _ _ _ _ hm _ _ _ hw (lv_sub hl [2] rfl)
        have hm := ineg hs2 hm
        by_cases hs3 : a2 = (3 : Int32)
        · have hm := ipos hs3 hm
          refine gAldL C0 hw 9 rfl hs3 (inbE (by decide)) rfl dX8_copy_30 ?_
          refine lv_astore (lv' := [(7, .ref h7), (6, .ref h7), (0, .ref h0), (1, .int a0), (2, .int a1), (3, .int a2), (4, .int a3), (5, .int a4)]) hx hb dX8_copy_31 hl (by decide) rfl (fun ls hl => ?_)
          refine lv_aload hx hb dX8_copy_33 (lv_at hl 1 rfl) ?_
          refine gGet C0 hw flX8_158 7 rfl rfl dX8_copy_35 ?_
          refine lv_iconst (v := -1) hx hb dX8_copy_38 (by decide) ?_
          refine lv_icmp_eq (tgt := 51) hx hb dX8_copy_39 (by decide) (fun hc => ?_) (fun hc => ?_)
          · have hm := ipos hc hm
            exact n_x_copy_N51 C0  _ _ _ _ _ hm _ _ _ hw (lv_sub hl [2] rfl)
          · have hm := ineg hc hm
            refine lv_aload hx hb dX8_copy_42 (lv_at hl 0 rfl) ?_
            refine gGet C0 hw flX8_158 7 rfl rfl dX8_copy_44 ?_
            refine lv_iconst (v := -1) hx hb dX8_copy_47 (by decide) ?_
            refine lv_icmp_ne (tgt := 57) hx hb dX8_copy_48 (by decide) (fun hc => ?_) (fun hc => ?_)
            · have hm := ineg hc hm
              refine lv_aload hx hb dX8_copy_57 (lv_at hl 1 rfl) ?_
              refine gGet C0 hw flX8_158 7 rfl rfl dX8_copy_59 ?_
              refine lv_aload hx hb dX8_copy_62 (lv_at hl 0 rfl) ?_
              refine gGet C0 hw flX8_158 7 rfl rfl dX8_copy_64 ?_
              refine lv_icmp_eq (tgt := 76) hx hb dX8_copy_67 (by decide) (fun hc => ?_) (fun hc => ?_)
              · have hm := ipos hc hm
                refine lv_aload hx hb dX8_copy_76 (lv_at hl 1 rfl) ?_
                refine lv_iload_n hx hb dX8_copy_78 rfl (lv_at hl 4 rfl) ?_
                refine lv_iload hx hb dX8_copy_79 (lv_at hl 7 rfl) ?_
                obtain ⟨o81, ho81, hm⟩ := bindE hm
                refine gCalli (ws' := (W_x_copy g h0 h1 h2 h3 h4 h5 h6 h7 h8 h9 h10 h11 h12 h13 h14 h15 h16 h17 h18 h19 h20 v_toldIsStale v_latestFinding v_sheets0_form v_sheets0_size v_sheets0_items v_sheets1_form v_sheets1_size v_sheets1_items v_sheets2_form v_sheets2_size v_sheets2_items v_sheets3_form v_sheets3_size v_sheets3_items)) C0 hw (gRunV (As := [.int a1, .int a4]) (rest := []) C0 hw lkX8_273 (c_sh_hasItems l g H.size h7 h8 v_sheets3_form v_sheets3_size a1 a4 o81 ho81) ⟨rfl, rfl⟩ ⟨Nat.le_of_ble_eq_true rfl, Nat.le_of_ble_eq_true rfl⟩ [7] (by decide) rfl 7 rfl rfl rfl hl.1 rfl (Nat.le_of_ble_eq_true rfl) dX8_copy_81) [7] [0, 1, 2, 3, 4, 5, 6, 8, 9] rfl rfl ⟨rfl, rfl, rfl, rfl, rfl, rfl, rfl, rfl, rfl, trivial⟩ [h0, h1, h2, h3, h4, h5, h6, h7, h8, h9] rfl rfl 10 rfl (by decide +kernel) (fun H locs hw => ?_)
                refine lv_if_eq (tgt := 99) hx hb dX8_copy_84 (by decide) (fun hc => ?_) (fun hc => ?_)
                · have hm := ipos hc hm
                  exact n_x_copy_N99 C0  _ _ _ _ _ hm _ _ _ hw (lv_sub hl [2] rfl)
                · have hm := ineg hc hm
                  refine lv_aload hx hb dX8_copy_87 (lv_at hl 0 rfl) ?_
                  refine lv_iload hx hb dX8_copy_89 (lv_at hl 6 rfl) ?_
                  refine lv_iload hx hb dX8_copy_91 (lv_at hl 7 rfl) ?_
                  obtain ⟨o93, ho93, hm⟩ := bindE hm
                  refine gCalli (ws' := (W_x_copy g h0 h1 h2 h3 h4 h5 h6 h7 h8 h9 h10 h11 h12 h13 h14 h15 h16 h17 h18 h19 h20 v_toldIsStale v_latestFinding v_sheets0_form v_sheets0_size v_sheets0_items v_sheets1_form v_sheets1_size v_sheets1_items v_sheets2_form v_sheets2_size v_sheets2_items v_sheets3_form v_sheets3_size v_sheets3_items)) C0 hw (gRunV (As := [.int a3, .int a4]) (rest := []) C0 hw lkX8_273 (c_sh_hasItems l g H.size h7 h8 v_sheets3_form v_sheets3_size a3 a4 o93 ho93) ⟨rfl, rfl⟩ ⟨Nat.le_of_ble_eq_true rfl, Nat.le_of_ble_eq_true rfl⟩ [7] (by decide) rfl 7 rfl rfl rfl hl.1 rfl (Nat.le_of_ble_eq_true rfl) dX8_copy_93) [7] [0, 1, 2, 3, 4, 5, 6, 8, 9] rfl rfl ⟨rfl, rfl, rfl, rfl, rfl, rfl, rfl, rfl, rfl, trivial⟩ [h0, h1, h2, h3, h4, h5, h6, h7, h8, h9] rfl rfl 10 rfl (by decide +kernel) (fun H locs hw => ?_)
                  refine lv_if_ne (tgt := 105) hx hb dX8_copy_96 (by decide) (fun hc => ?_) (fun hc => ?_)
                  · have hm := ineg hc hm
                    refine lv_aload hx hb dX8_copy_105 (lv_at hl 1 rfl) ?_
                    refine gGet C0 hw flX8_168 7 rfl rfl dX8_copy_107 ?_
                    refine lv_iload_n hx hb dX8_copy_110 rfl (lv_at hl 4 rfl) ?_
                    refine lv_aload hx hb dX8_copy_111 (lv_at hl 0 rfl) ?_
                    refine gGet C0 hw flX8_168 7 rfl rfl dX8_copy_113 ?_
                    refine lv_iload hx hb dX8_copy_116 (lv_at hl 6 rfl) ?_
                    refine lv_iload hx hb dX8_copy_118 (lv_at hl 7 rfl) ?_
                    obtain ⟨hcp, hm⟩ := gdE hm
                    refine gCpyI (ws' := (W_x_copy g h0 h1 h2 h3 h4 h5 h6 h7 h8 h9 h10 h11 h12 h13 h14 h15 h16 h17 h18 h19 h20 v_toldIsStale v_latestFinding v_sheets0_form v_sheets0_size v_sheets0_items v_sheets1_form v_sheets1_size v_sheets1_items v_sheets2_form v_sheets2_size v_sheets2_items v_sheets3_form v_sheets3_size (va_cpy v_sheets3_items v_sheets3_items a1.toNatClampNeg a3.toNatClampNeg a4.toNatClampNeg))) C0 hw hl.1 alX8_276 an_copy as_copy ai_copy 8 8 rfl rfl hcp (Nat.le_of_ble_eq_true rfl) (Nat.le_of_ble_eq_true rfl) rfl dX8_copy_120 (fun H locs hw => ?_)
                    refine lv_iconst (v := 1) hx hb dX8_copy_123 (by decide) ?_
                    have hm := Option.some.inj hm
                    subst hm
                    exact gRetI C0 hw dX8_copy_124
                  · have hm := ipos hc hm
                    exact n_x_copy_N99 C0  _ _ _ _ _ hm _ _ _ hw (lv_sub hl [2] rfl)
              · have hm := ineg hc hm
                refine lv_aload_n hx hb dX8_copy_70 rfl (lv_at hl 2 rfl) ?_
                refine lv_iconst (v := 4) hx hb dX8_copy_71 (by decide) ?_
                obtain ⟨o72, ho72, hm⟩ := bindE hm
                refine gCalli (ws' := (W_x_copy g h0 h1 h2 h3 h4 h5 h6 h7 h8 h9 h10 h11 h12 h13 h14 h15 h16 h17 h18 h19 h20 v_toldIsStale o72.2 v_sheets0_form v_sheets0_size v_sheets0_items v_sheets1_form v_sheets1_size v_sheets1_items v_sheets2_form v_sheets2_size v_sheets2_items v_sheets3_form v_sheets3_size v_sheets3_items)) C0 hw (gRunV (As := [.int (4 : Int32)]) (rest := []) C0 hw lkX8_161 (c_x_found l g H.size h0 h10 h11 h12 h13 h14 h15 h16 h17 h9 h18 h19 h20 v_toldIsStale v_latestFinding (4 : Int32) o72 ho72) ⟨rfl, rfl⟩ ⟨Nat.le_of_ble_eq_true rfl, Nat.le_of_ble_eq_true rfl⟩ [0] (by decide) rfl 0 rfl rfl rfl hl.1 rfl (Nat.le_of_ble_eq_true rfl) dX8_copy_72) [0] [1, 2, 3, 4, 5, 6, 7, 8, 9] rfl rfl ⟨rfl, rfl, rfl, rfl, rfl, rfl, rfl, rfl, rfl, trivial⟩ [h0, h1, h2, h3, h4, h5, h6, h7, h8, h9] rfl rfl 10 rfl (by decide +kernel) (fun H locs hw => ?_)
                have hm := Option.some.inj hm
                subst hm
                exact gRetI C0 hw dX8_copy_75
            · have hm := ipos hc hm
              exact n_x_copy_N51 C0  _ _ _ _ _ hm _ _ _ hw (lv_sub hl [2] rfl)
        have hm := ineg hs3 hm
        cases hm
      have hm := ineg hs3 hm
      cases hm
    · have hm := ipos hc hm
      refine lv_bipush (v := -2) hx hb dX8_copy_14 (by decide) ?_
      have hm := Option.some.inj hm
      subst hm
      exact gRetI C0 hw dX8_copy_16

-- WallHands.write(II)I
abbrev W_x_write (g : gG) (h0 h1 h2 h3 h4 h5 h6 h7 h8 h9 h10 h11 h12 h13 h14 h15 h16 h17 h18 h19 h20 h21 h22 h23 h24 h25 h26 h27 h28 h29 h30 h31 h32 h33 : Nat) (v_toldIsStale : Int32) (v_latestFinding : Int32) (v_wall_courses : Int32) (v_wall_columns : Int32) (v_wall_fault : Int32) (v_wall_jump : Int32) (v_wall_stones : Nat → Int64) (v_hands_told : Int32) (v_hands_fault : Int32) (v_hands_mood : Nat → Int32) (v_hands_strong : Nat → Int32) (v_frosts_told : Int32) (v_frosts_year : Nat → Int32) (v_frosts_force : Nat → Int32) (v_gappings_told : Int32) (v_gappings_year : Nat → Int32) (v_gappings_column : Nat → Int32) (v_gappings_hand : Nat → Int32) (v_sheets0_form : Int32) (v_sheets0_size : Int32) (v_sheets0_items : Nat → Int32) (v_sheets1_form : Int32) (v_sheets1_size : Int32) (v_sheets1_items : Nat → Int32) (v_sheets2_form : Int32) (v_sheets2_size : Int32) (v_sheets2_items : Nat → Int32) (v_sheets3_form : Int32) (v_sheets3_size : Int32) (v_sheets3_items : Nat → Int32) (v_told_all : Int64) (v_told_losers : Int32) (v_told_now : Nat → Int64) (v_told_stones : Nat → Int64) (v_told_standing : Nat → Int64) (v_told_open : Nat → Int32) (v_told_fallen : Nat → Int32) : va_W := [(h0, .inr (8, [.ref h28, .ref h29, .ref h1, .ref h3, .ref h6, .ref h30, .ref h9, .ref h31, .ref h21, .ref h22, .ref h32, .ref h33, .int v_toldIsStale, .int v_latestFinding])), (h1, .inr (6, [.ref h2, .int v_wall_courses, .int v_wall_columns, .int v_wall_fault, .int v_wall_jump])), (h2, .inl (gJ g, 8, .inr (.inl v_wall_stones))), (h3, .inr (2, [.ref h4, .ref h5, .int v_hands_told, .int v_hands_fault])), (h4, .inl (gI g, 8, .inl v_hands_mood)), (h5, .inl (gI g, 8, .inl v_hands_strong)), (h6, .inr (0, [.ref h7, .ref h8, .int v_frosts_told])), (h7, .inl (gI g, 6, .inl v_frosts_year)), (h8, .inl (gI g, 6, .inl v_frosts_force)), (h9, .inr (1, [.ref h10, .ref h11, .ref h12, .int v_gappings_told])), (h10, .inl (gI g, 7, .inl v_gappings_year)), (h11, .inl (gI g, 7, .inl v_gappings_column)), (h12, .inl (gI g, 7, .inl v_gappings_hand)), (h13, .inr (3, [.ref h14, .int v_sheets0_form, .int v_sheets0_size])), (h14, .inl (gI g, 60, .inl v_sheets0_items)), (h15, .inr (3, [.ref h16, .int v_sheets1_form, .int v_sheets1_size])), (h16, .inl (gI g, 60, .inl v_sheets1_items)), (h17, .inr (3, [.ref h18, .int v_sheets2_form, .int v_sheets2_size])), (h18, .inl (gI g, 60, .inl v_sheets2_items)), (h19, .inr (3, [.ref h20, .int v_sheets3_form, .int v_sheets3_size])), (h20, .inl (gI g, 60, .inl v_sheets3_items)), (h21, .inl (gL g, 4, .inr (.inr (.inr (.inr (g4 h13 h15 h17 h19)))))), (h22, .inr (7, [.ref h1, .ref h3, .ref h9, .ref h23, .long v_told_all, .ref h24, .ref h25, .ref h26, .ref h27, .int v_told_losers])), (h23, .inl (gJ g, 8, .inr (.inl v_told_now))), (h24, .inl (gJ g, 160, .inr (.inl v_told_stones))), (h25, .inl (gJ g, 20, .inr (.inl v_told_standing))), (h26, .inl (gI g, 20, .inl v_told_open)), (h27, .inl (gI g, 20, .inl v_told_fallen))]

abbrev rm_x_write : Room := { frames := 5, cells := 0, slots := 0, locals := 132 }

set_option maxHeartbeats 1000000 in
set_option maxRecDepth 100000 in
theorem n_x_write_N63_0 {p : Program} {l : Launch} {e : Env} {s : State} {m : MethodId} {args : Array Value} {below : List Frame} {meth : Method} {c : Code} {A : Nat → Prop} {g : gG} {h0 h1 h2 h3 h4 h5 h6 h7 h8 h9 h10 h11 h12 h13 h14 h15 h16 h17 h18 h19 h20 h21 h22 h23 h24 h25 h26 h27 h28 h29 h30 h31 h32 h33 : Nat} {v_wall_courses : Int32} {v_wall_columns : Int32} {v_wall_fault : Int32} {v_wall_jump : Int32} {v_wall_stones : Nat → Int64} {v_hands_told : Int32} {v_hands_fault : Int32} {v_hands_mood : Nat → Int32} {v_hands_strong : Nat → Int32} {v_frosts_told : Int32} {v_frosts_year : Nat → Int32} {v_frosts_force : Nat → Int32} {v_gappings_told : Int32} {v_gappings_year : Nat → Int32} {v_gappings_column : Nat → Int32} {v_gappings_hand : Nat → Int32} {v_sheets0_form : Int32} {v_sheets0_size : Int32} {v_sheets1_form : Int32} {v_sheets1_size : Int32} {v_sheets2_form : Int32} {v_sheets2_size : Int32} {v_sheets3_form : Int32} {v_sheets3_size : Int32} {k63 : Int32 → Int32 → (Nat → Int32) → (Nat → Int32) → (Nat → Int32) → (Nat → Int32) → Int64 → Int32 → (Nat → Int64) → (Nat → Int64) → (Nat → Int64) → (Nat → Int32) → (Nat → Int32) → Int32 → Int32 → Int32 → Option (Int32 × Int32 × Int32 × (Nat → Int32) × (Nat → Int32) × (Nat → Int32) × (Nat → Int32) × Int64 × Int32 × (Nat → Int64) × (Nat → Int64) × (Nat → Int64) × (Nat → Int32) × (Nat → Int32))} {r : (Int32 × Int32 × Int32 × (Nat → Int32) × (Nat → Int32) × (Nat → Int32) × (Nat → Int32) × Int64 × Int32 × (Nat → Int64) × (Nat → Int64) × (Nat → Int64) × (Nat → Int32) × (Nat → Int32))} (C0 : gX p s m args meth c cX8_write 7 (some .int) RX8 g A) (hk63 : ∀ (v_toldIsStale : Int32) (v_latestFinding : Int32) (v_sheets0_items : Nat → Int32) (v_sheets1_items : Nat → Int32) (v_sheets2_items : Nat → Int32) (v_sheets3_items : Nat → Int32) (v_told_all : Int64) (v_told_losers : Int32) (v_told_now : Nat → Int64) (v_told_stones : Nat → Int64) (v_told_standing : Nat → Int64) (v_told_open : Nat → Int32) (v_told_fallen : Nat → Int32) (x1 : Int32) (x4 : Int32) (x6 : Int32), k63 v_toldIsStale v_latestFinding v_sheets0_items v_sheets1_items v_sheets2_items v_sheets3_items v_told_all v_told_losers v_told_now v_told_stones v_told_standing v_told_open v_told_fallen x1 x4 x6 = some r → ∀ (H : Heap) (locs : List Loc) (ls : Array Slot), gW g A s (W_x_write g h0 h1 h2 h3 h4 h5 h6 h7 h8 h9 h10 h11 h12 h13 h14 h15 h16 h17 h18 h19 h20 h21 h22 h23 h24 h25 h26 h27 h28 h29 h30 h31 h32 h33 v_toldIsStale v_latestFinding v_wall_courses v_wall_columns v_wall_fault v_wall_jump v_wall_stones v_hands_told v_hands_fault v_hands_mood v_hands_strong v_frosts_told v_frosts_year v_frosts_force v_gappings_told v_gappings_year v_gappings_column v_gappings_hand v_sheets0_form v_sheets0_size v_sheets0_items v_sheets1_form v_sheets1_size v_sheets1_items v_sheets2_form v_sheets2_size v_sheets2_items v_sheets3_form v_sheets3_size v_sheets3_items v_told_all v_told_losers v_told_now v_told_stones v_told_standing v_told_open v_told_fallen) H locs → lv_has ls 7 [(1, .int x1), (3, .ref h13), (4, .int x4), (5, .ref h22), (6, .int x6)] → W p l e rm_x_write s m args below meth c H locs 0 0 (gQi below args s A g r.1 (W_x_write g h0 h1 h2 h3 h4 h5 h6 h7 h8 h9 h10 h11 h12 h13 h14 h15 h16 h17 h18 h19 h20 h21 h22 h23 h24 h25 h26 h27 h28 h29 h30 h31 h32 h33 r.2.1 r.2.2.1 v_wall_courses v_wall_columns v_wall_fault v_wall_jump v_wall_stones v_hands_told v_hands_fault v_hands_mood v_hands_strong v_frosts_told v_frosts_year v_frosts_force v_gappings_told v_gappings_year v_gappings_column v_gappings_hand v_sheets0_form v_sheets0_size r.2.2.2.1 v_sheets1_form v_sheets1_size r.2.2.2.2.1 v_sheets2_form v_sheets2_size r.2.2.2.2.2.1 v_sheets3_form v_sheets3_size r.2.2.2.2.2.2.1 r.2.2.2.2.2.2.2.1 r.2.2.2.2.2.2.2.2.1 r.2.2.2.2.2.2.2.2.2.1 r.2.2.2.2.2.2.2.2.2.2.1 r.2.2.2.2.2.2.2.2.2.2.2.1 r.2.2.2.2.2.2.2.2.2.2.2.2.1 r.2.2.2.2.2.2.2.2.2.2.2.2.2)) (F0 m 63 ls [])) : ∀ (v_toldIsStale : Int32) (v_latestFinding : Int32) (v_sheets0_items : Nat → Int32) (v_sheets1_items : Nat → Int32) (v_sheets2_items : Nat → Int32) (v_sheets3_items : Nat → Int32) (v_told_all : Int64) (v_told_losers : Int32) (v_told_now : Nat → Int64) (v_told_stones : Nat → Int64) (v_told_standing : Nat → Int64) (v_told_open : Nat → Int32) (v_told_fallen : Nat → Int32) (x1 : Int32) (x4 : Int32) (x6 : Int32), f_x_write_N63_0 v_wall_courses v_wall_columns v_wall_jump v_wall_stones v_hands_told v_hands_mood v_hands_strong v_frosts_told v_frosts_year v_frosts_force v_gappings_told v_gappings_year v_gappings_column v_gappings_hand v_sheets0_form v_sheets0_size v_sheets1_form v_sheets1_size v_sheets2_form v_sheets2_size v_sheets3_form v_sheets3_size k63 v_toldIsStale v_latestFinding v_sheets0_items v_sheets1_items v_sheets2_items v_sheets3_items v_told_all v_told_losers v_told_now v_told_stones v_told_standing v_told_open v_told_fallen x1 x4 x6 = some r → ∀ (H : Heap) (locs : List Loc) (ls : Array Slot), gW g A s (W_x_write g h0 h1 h2 h3 h4 h5 h6 h7 h8 h9 h10 h11 h12 h13 h14 h15 h16 h17 h18 h19 h20 h21 h22 h23 h24 h25 h26 h27 h28 h29 h30 h31 h32 h33 v_toldIsStale v_latestFinding v_wall_courses v_wall_columns v_wall_fault v_wall_jump v_wall_stones v_hands_told v_hands_fault v_hands_mood v_hands_strong v_frosts_told v_frosts_year v_frosts_force v_gappings_told v_gappings_year v_gappings_column v_gappings_hand v_sheets0_form v_sheets0_size v_sheets0_items v_sheets1_form v_sheets1_size v_sheets1_items v_sheets2_form v_sheets2_size v_sheets2_items v_sheets3_form v_sheets3_size v_sheets3_items v_told_all v_told_losers v_told_now v_told_stones v_told_standing v_told_open v_told_fallen) H locs → lv_has ls 7 [(1, .int x1), (3, .ref h13), (4, .int x4), (5, .ref h22), (6, .int x6)] → W p l e rm_x_write s m args below meth c H locs 0 0 (gQi below args s A g r.1 (W_x_write g h0 h1 h2 h3 h4 h5 h6 h7 h8 h9 h10 h11 h12 h13 h14 h15 h16 h17 h18 h19 h20 h21 h22 h23 h24 h25 h26 h27 h28 h29 h30 h31 h32 h33 r.2.1 r.2.2.1 v_wall_courses v_wall_columns v_wall_fault v_wall_jump v_wall_stones v_hands_told v_hands_fault v_hands_mood v_hands_strong v_frosts_told v_frosts_year v_frosts_force v_gappings_told v_gappings_year v_gappings_column v_gappings_hand v_sheets0_form v_sheets0_size r.2.2.2.1 v_sheets1_form v_sheets1_size r.2.2.2.2.1 v_sheets2_form v_sheets2_size r.2.2.2.2.2.1 v_sheets3_form v_sheets3_size r.2.2.2.2.2.2.1 r.2.2.2.2.2.2.2.1 r.2.2.2.2.2.2.2.2.1 r.2.2.2.2.2.2.2.2.2.1 r.2.2.2.2.2.2.2.2.2.2.1 r.2.2.2.2.2.2.2.2.2.2.2.1 r.2.2.2.2.2.2.2.2.2.2.2.2.1 r.2.2.2.2.2.2.2.2.2.2.2.2.2)) (F0 m 63 ls []) := by
  intro v_toldIsStale v_latestFinding v_sheets0_items v_sheets1_items v_sheets2_items v_sheets3_items v_told_all v_told_losers v_told_now v_told_stones v_told_standing v_told_open v_told_fallen x1 x4 x6 hm H locs ls hw hl
  unfold f_x_write_N63_0 at hm
  obtain ⟨hx, hb, hr, hml, hown, hts, hlocks, hK, hA⟩ := id C0
  refine lv_iload hx hb dX8_write_63 (lv_at hl 4 rfl) ?_
  refine lv_iload hx hb dX8_write_65 (lv_at hl 2 rfl) ?_
  refine lv_icmp_ge (tgt := 91) hx hb dX8_write_67 (by decide) (fun hc => ?_) (fun hc => ?_)
  · have hm := ipos hc hm
    refine lv_iload hx hb dX8_write_91 (lv_at hl 2 rfl) ?_
    have hm := Option.some.inj hm
    subst hm
    exact gRetI C0 hw dX8_write_93
  · have hm := ineg hc hm
    refine lv_aload_n hx hb dX8_write_70 rfl (lv_at hl 1 rfl) ?_
    refine gGet C0 hw flX8_168 13 rfl rfl dX8_write_71 ?_
    refine lv_iload hx hb dX8_write_74 (lv_at hl 4 rfl) ?_
    refine lv_aload hx hb dX8_write_76 (lv_at hl 3 rfl) ?_
    refine lv_iload_n hx hb dX8_write_78 rfl (lv_at hl 0 rfl) ?_
    refine lv_iload hx hb dX8_write_79 (lv_at hl 4 rfl) ?_
    obtain ⟨o81, ho81, hm⟩ := bindE hm
    refine gCalli (ws' := (W_x_write g h0 h1 h2 h3 h4 h5 h6 h7 h8 h9 h10 h11 h12 h13 h14 h15 h16 h17 h18 h19 h20 h21 h22 h23 h24 h25 h26 h27 h28 h29 h30 h31 h32 h33 v_toldIsStale v_latestFinding v_wall_courses v_wall_columns v_wall_fault v_wall_jump v_wall_stones v_hands_told v_hands_fault v_hands_mood v_hands_strong v_frosts_told v_frosts_year v_frosts_force v_gappings_told v_gappings_year v_gappings_column v_gappings_hand v_sheets0_form v_sheets0_size v_sheets0_items v_sheets1_form v_sheets1_size v_sheets1_items v_sheets2_form v_sheets2_size v_sheets2_items v_sheets3_form v_sheets3_size v_sheets3_items v_told_all v_told_losers v_told_now v_told_stones v_told_standing v_told_open v_told_fallen)) C0 hw (gRunV (As := [.int x1, .int x6]) (rest := [.int x6, .ref h14]) C0 hw lkX8_185 (c_ys_highBehind l g H.size h22 h25 h1 h3 h9 h23 h24 h26 h27 v_told_all v_told_losers v_told_standing x1 x6 o81 ho81) ⟨rfl, rfl⟩ ⟨Nat.le_of_ble_eq_true rfl, Nat.le_of_ble_eq_true rfl⟩ [22, 25] (by decide) rfl 22 rfl rfl rfl hl.1 rfl (Nat.le_of_ble_eq_true rfl) dX8_write_81) [22, 25] [0, 1, 2, 3, 4, 5, 6, 7, 8, 9, 10, 11, 12, 13, 14, 15, 16, 17, 18, 19, 20, 21, 23, 24, 26, 27] rfl rfl ⟨rfl, rfl, rfl, rfl, rfl, rfl, rfl, rfl, rfl, rfl, rfl, rfl, rfl, rfl, rfl, rfl, rfl, rfl, rfl, rfl, rfl, rfl, rfl, rfl, rfl, rfl, trivial⟩ [h0, h1, h2, h3, h4, h5, h6, h7, h8, h9, h10, h11, h12, h13, h14, h15, h16, h17, h18, h19, h20, h21, h22, h23, h24, h25, h26, h27] rfl rfl 28 rfl (by decide +kernel) (fun H locs hw => ?_)
    obtain ⟨hin, hm⟩ := gdE hm
    have hin := inbE hin
    refine gAstI (ws' := (W_x_write g h0 h1 h2 h3 h4 h5 h6 h7 h8 h9 h10 h11 h12 h13 h14 h15 h16 h17 h18 h19 h20 h21 h22 h23 h24 h25 h26 h27 h28 h29 h30 h31 h32 h33 v_toldIsStale v_latestFinding v_wall_courses v_wall_columns v_wall_fault v_wall_jump v_wall_stones v_hands_told v_hands_fault v_hands_mood v_hands_strong v_frosts_told v_frosts_year v_frosts_force v_gappings_told v_gappings_year v_gappings_column v_gappings_hand v_sheets0_form v_sheets0_size (upd v_sheets0_items x6.toNatClampNeg o81) v_sheets1_form v_sheets1_size v_sheets1_items v_sheets2_form v_sheets2_size v_sheets2_items v_sheets3_form v_sheets3_size v_sheets3_items v_told_all v_told_losers v_told_now v_told_stones v_told_standing v_told_open v_told_fallen)) C0 hw 14 rfl hin rfl dX8_write_84 (fun H locs hw => ?_)
    refine lv_iinc (v := x6 + (1 : Int32)) (lv' := [(6, .int (x6 + (1 : Int32))), (1, .int x1), (3, .ref h13), (4, .int x4), (5, .ref h22)]) hx hb dX8_write_85 hl (k := 4) rfl rfl (by decide) rfl (fun ls hl => ?_)
    refine lv_goto (tgt := 63) hx hb dX8_write_88 (by decide) ?_
    exact hk63 _ _ _ _ _ _ _ _ _ _ _ _ _ _ _ _ hm _ _ _ hw (lv_sub hl [1, 2, 3, 4, 0] rfl)
set_option maxHeartbeats 1000000 in
set_option maxRecDepth 100000 in
theorem l_x_write_N63_0 {p : Program} {l : Launch} {e : Env} {s : State} {m : MethodId} {args : Array Value} {below : List Frame} {meth : Method} {c : Code} {A : Nat → Prop} {g : gG} {h0 h1 h2 h3 h4 h5 h6 h7 h8 h9 h10 h11 h12 h13 h14 h15 h16 h17 h18 h19 h20 h21 h22 h23 h24 h25 h26 h27 h28 h29 h30 h31 h32 h33 : Nat} {v_wall_courses : Int32} {v_wall_columns : Int32} {v_wall_fault : Int32} {v_wall_jump : Int32} {v_wall_stones : Nat → Int64} {v_hands_told : Int32} {v_hands_fault : Int32} {v_hands_mood : Nat → Int32} {v_hands_strong : Nat → Int32} {v_frosts_told : Int32} {v_frosts_year : Nat → Int32} {v_frosts_force : Nat → Int32} {v_gappings_told : Int32} {v_gappings_year : Nat → Int32} {v_gappings_column : Nat → Int32} {v_gappings_hand : Nat → Int32} {v_sheets0_form : Int32} {v_sheets0_size : Int32} {v_sheets1_form : Int32} {v_sheets1_size : Int32} {v_sheets2_form : Int32} {v_sheets2_size : Int32} {v_sheets3_form : Int32} {v_sheets3_size : Int32} {r : (Int32 × Int32 × Int32 × (Nat → Int32) × (Nat → Int32) × (Nat → Int32) × (Nat → Int32) × Int64 × Int32 × (Nat → Int64) × (Nat → Int64) × (Nat → Int64) × (Nat → Int32) × (Nat → Int32))} (C0 : gX p s m args meth c cX8_write 7 (some .int) RX8 g A) : ∀ n : Nat, ∀ (v_toldIsStale : Int32) (v_latestFinding : Int32) (v_sheets0_items : Nat → Int32) (v_sheets1_items : Nat → Int32) (v_sheets2_items : Nat → Int32) (v_sheets3_items : Nat → Int32) (v_told_all : Int64) (v_told_losers : Int32) (v_told_now : Nat → Int64) (v_told_stones : Nat → Int64) (v_told_standing : Nat → Int64) (v_told_open : Nat → Int32) (v_told_fallen : Nat → Int32) (x1 : Int32) (x4 : Int32) (x6 : Int32), iter (fun _ _ _ _ _ _ _ _ _ _ _ _ _ _ _ _ => none) (f_x_write_N63_0 v_wall_courses v_wall_columns v_wall_jump v_wall_stones v_hands_told v_hands_mood v_hands_strong v_frosts_told v_frosts_year v_frosts_force v_gappings_told v_gappings_year v_gappings_column v_gappings_hand v_sheets0_form v_sheets0_size v_sheets1_form v_sheets1_size v_sheets2_form v_sheets2_size v_sheets3_form v_sheets3_size) n v_toldIsStale v_latestFinding v_sheets0_items v_sheets1_items v_sheets2_items v_sheets3_items v_told_all v_told_losers v_told_now v_told_stones v_told_standing v_told_open v_told_fallen x1 x4 x6 = some r → ∀ (H : Heap) (locs : List Loc) (ls : Array Slot), gW g A s (W_x_write g h0 h1 h2 h3 h4 h5 h6 h7 h8 h9 h10 h11 h12 h13 h14 h15 h16 h17 h18 h19 h20 h21 h22 h23 h24 h25 h26 h27 h28 h29 h30 h31 h32 h33 v_toldIsStale v_latestFinding v_wall_courses v_wall_columns v_wall_fault v_wall_jump v_wall_stones v_hands_told v_hands_fault v_hands_mood v_hands_strong v_frosts_told v_frosts_year v_frosts_force v_gappings_told v_gappings_year v_gappings_column v_gappings_hand v_sheets0_form v_sheets0_size v_sheets0_items v_sheets1_form v_sheets1_size v_sheets1_items v_sheets2_form v_sheets2_size v_sheets2_items v_sheets3_form v_sheets3_size v_sheets3_items v_told_all v_told_losers v_told_now v_told_stones v_told_standing v_told_open v_told_fallen) H locs → lv_has ls 7 [(1, .int x1), (3, .ref h13), (4, .int x4), (5, .ref h22), (6, .int x6)] → W p l e rm_x_write s m args below meth c H locs 0 0 (gQi below args s A g r.1 (W_x_write g h0 h1 h2 h3 h4 h5 h6 h7 h8 h9 h10 h11 h12 h13 h14 h15 h16 h17 h18 h19 h20 h21 h22 h23 h24 h25 h26 h27 h28 h29 h30 h31 h32 h33 r.2.1 r.2.2.1 v_wall_courses v_wall_columns v_wall_fault v_wall_jump v_wall_stones v_hands_told v_hands_fault v_hands_mood v_hands_strong v_frosts_told v_frosts_year v_frosts_force v_gappings_told v_gappings_year v_gappings_column v_gappings_hand v_sheets0_form v_sheets0_size r.2.2.2.1 v_sheets1_form v_sheets1_size r.2.2.2.2.1 v_sheets2_form v_sheets2_size r.2.2.2.2.2.1 v_sheets3_form v_sheets3_size r.2.2.2.2.2.2.1 r.2.2.2.2.2.2.2.1 r.2.2.2.2.2.2.2.2.1 r.2.2.2.2.2.2.2.2.2.1 r.2.2.2.2.2.2.2.2.2.2.1 r.2.2.2.2.2.2.2.2.2.2.2.1 r.2.2.2.2.2.2.2.2.2.2.2.2.1 r.2.2.2.2.2.2.2.2.2.2.2.2.2)) (F0 m 63 ls []) := by
  intro n
  induction n with
  | zero =>
    intro v_toldIsStale v_latestFinding v_sheets0_items v_sheets1_items v_sheets2_items v_sheets3_items v_told_all v_told_losers v_told_now v_told_stones v_told_standing v_told_open v_told_fallen x1 x4 x6 hm
    cases hm
  | succ n ih =>
    exact n_x_write_N63_0 C0  ih
set_option maxHeartbeats 1000000 in
set_option maxRecDepth 100000 in
theorem n_x_write_N63_1 {p : Program} {l : Launch} {e : Env} {s : State} {m : MethodId} {args : Array Value} {below : List Frame} {meth : Method} {c : Code} {A : Nat → Prop} {g : gG} {h0 h1 h2 h3 h4 h5 h6 h7 h8 h9 h10 h11 h12 h13 h14 h15 h16 h17 h18 h19 h20 h21 h22 h23 h24 h25 h26 h27 h28 h29 h30 h31 h32 h33 : Nat} {v_wall_courses : Int32} {v_wall_columns : Int32} {v_wall_fault : Int32} {v_wall_jump : Int32} {v_wall_stones : Nat → Int64} {v_hands_told : Int32} {v_hands_fault : Int32} {v_hands_mood : Nat → Int32} {v_hands_strong : Nat → Int32} {v_frosts_told : Int32} {v_frosts_year : Nat → Int32} {v_frosts_force : Nat → Int32} {v_gappings_told : Int32} {v_gappings_year : Nat → Int32} {v_gappings_column : Nat → Int32} {v_gappings_hand : Nat → Int32} {v_sheets0_form : Int32} {v_sheets0_size : Int32} {v_sheets1_form : Int32} {v_sheets1_size : Int32} {v_sheets2_form : Int32} {v_sheets2_size : Int32} {v_sheets3_form : Int32} {v_sheets3_size : Int32} {k63 : Int32 → Int32 → (Nat → Int32) → (Nat → Int32) → (Nat → Int32) → (Nat → Int32) → Int64 → Int32 → (Nat → Int64) → (Nat → Int64) → (Nat → Int64) → (Nat → Int32) → (Nat → Int32) → Int32 → Int32 → Int32 → Option (Int32 × Int32 × Int32 × (Nat → Int32) × (Nat → Int32) × (Nat → Int32) × (Nat → Int32) × Int64 × Int32 × (Nat → Int64) × (Nat → Int64) × (Nat → Int64) × (Nat → Int32) × (Nat → Int32))} {r : (Int32 × Int32 × Int32 × (Nat → Int32) × (Nat → Int32) × (Nat → Int32) × (Nat → Int32) × Int64 × Int32 × (Nat → Int64) × (Nat → Int64) × (Nat → Int64) × (Nat → Int32) × (Nat → Int32))} (C0 : gX p s m args meth c cX8_write 7 (some .int) RX8 g A) (hk63 : ∀ (v_toldIsStale : Int32) (v_latestFinding : Int32) (v_sheets0_items : Nat → Int32) (v_sheets1_items : Nat → Int32) (v_sheets2_items : Nat → Int32) (v_sheets3_items : Nat → Int32) (v_told_all : Int64) (v_told_losers : Int32) (v_told_now : Nat → Int64) (v_told_stones : Nat → Int64) (v_told_standing : Nat → Int64) (v_told_open : Nat → Int32) (v_told_fallen : Nat → Int32) (x1 : Int32) (x4 : Int32) (x6 : Int32), k63 v_toldIsStale v_latestFinding v_sheets0_items v_sheets1_items v_sheets2_items v_sheets3_items v_told_all v_told_losers v_told_now v_told_stones v_told_standing v_told_open v_told_fallen x1 x4 x6 = some r → ∀ (H : Heap) (locs : List Loc) (ls : Array Slot), gW g A s (W_x_write g h0 h1 h2 h3 h4 h5 h6 h7 h8 h9 h10 h11 h12 h13 h14 h15 h16 h17 h18 h19 h20 h21 h22 h23 h24 h25 h26 h27 h28 h29 h30 h31 h32 h33 v_toldIsStale v_latestFinding v_wall_courses v_wall_columns v_wall_fault v_wall_jump v_wall_stones v_hands_told v_hands_fault v_hands_mood v_hands_strong v_frosts_told v_frosts_year v_frosts_force v_gappings_told v_gappings_year v_gappings_column v_gappings_hand v_sheets0_form v_sheets0_size v_sheets0_items v_sheets1_form v_sheets1_size v_sheets1_items v_sheets2_form v_sheets2_size v_sheets2_items v_sheets3_form v_sheets3_size v_sheets3_items v_told_all v_told_losers v_told_now v_told_stones v_told_standing v_told_open v_told_fallen) H locs → lv_has ls 7 [(1, .int x1), (3, .ref h15), (4, .int x4), (5, .ref h22), (6, .int x6)] → W p l e rm_x_write s m args below meth c H locs 0 0 (gQi below args s A g r.1 (W_x_write g h0 h1 h2 h3 h4 h5 h6 h7 h8 h9 h10 h11 h12 h13 h14 h15 h16 h17 h18 h19 h20 h21 h22 h23 h24 h25 h26 h27 h28 h29 h30 h31 h32 h33 r.2.1 r.2.2.1 v_wall_courses v_wall_columns v_wall_fault v_wall_jump v_wall_stones v_hands_told v_hands_fault v_hands_mood v_hands_strong v_frosts_told v_frosts_year v_frosts_force v_gappings_told v_gappings_year v_gappings_column v_gappings_hand v_sheets0_form v_sheets0_size r.2.2.2.1 v_sheets1_form v_sheets1_size r.2.2.2.2.1 v_sheets2_form v_sheets2_size r.2.2.2.2.2.1 v_sheets3_form v_sheets3_size r.2.2.2.2.2.2.1 r.2.2.2.2.2.2.2.1 r.2.2.2.2.2.2.2.2.1 r.2.2.2.2.2.2.2.2.2.1 r.2.2.2.2.2.2.2.2.2.2.1 r.2.2.2.2.2.2.2.2.2.2.2.1 r.2.2.2.2.2.2.2.2.2.2.2.2.1 r.2.2.2.2.2.2.2.2.2.2.2.2.2)) (F0 m 63 ls [])) : ∀ (v_toldIsStale : Int32) (v_latestFinding : Int32) (v_sheets0_items : Nat → Int32) (v_sheets1_items : Nat → Int32) (v_sheets2_items : Nat → Int32) (v_sheets3_items : Nat → Int32) (v_told_all : Int64) (v_told_losers : Int32) (v_told_now : Nat → Int64) (v_told_stones : Nat → Int64) (v_told_standing : Nat → Int64) (v_told_open : Nat → Int32) (v_told_fallen : Nat → Int32) (x1 : Int32) (x4 : Int32) (x6 : Int32), f_x_write_N63_1 v_wall_courses v_wall_columns v_wall_jump v_wall_stones v_hands_told v_hands_mood v_hands_strong v_frosts_told v_frosts_year v_frosts_force v_gappings_told v_gappings_year v_gappings_column v_gappings_hand v_sheets0_form v_sheets0_size v_sheets1_form v_sheets1_size v_sheets2_form v_sheets2_size v_sheets3_form v_sheets3_size k63 v_toldIsStale v_latestFinding v_sheets0_items v_sheets1_items v_sheets2_items v_sheets3_items v_told_all v_told_losers v_told_now v_told_stones v_told_standing v_told_open v_told_fallen x1 x4 x6 = some r → ∀ (H : Heap) (locs : List Loc) (ls : Array Slot), gW g A s (W_x_write g h0 h1 h2 h3 h4 h5 h6 h7 h8 h9 h10 h11 h12 h13 h14 h15 h16 h17 h18 h19 h20 h21 h22 h23 h24 h25 h26 h27 h28 h29 h30 h31 h32 h33 v_toldIsStale v_latestFinding v_wall_courses v_wall_columns v_wall_fault v_wall_jump v_wall_stones v_hands_told v_hands_fault v_hands_mood v_hands_strong v_frosts_told v_frosts_year v_frosts_force v_gappings_told v_gappings_year v_gappings_column v_gappings_hand v_sheets0_form v_sheets0_size v_sheets0_items v_sheets1_form v_sheets1_size v_sheets1_items v_sheets2_form v_sheets2_size v_sheets2_items v_sheets3_form v_sheets3_size v_sheets3_items v_told_all v_told_losers v_told_now v_told_stones v_told_standing v_told_open v_told_fallen) H locs → lv_has ls 7 [(1, .int x1), (3, .ref h15), (4, .int x4), (5, .ref h22), (6, .int x6)] → W p l e rm_x_write s m args below meth c H locs 0 0 (gQi below args s A g r.1 (W_x_write g h0 h1 h2 h3 h4 h5 h6 h7 h8 h9 h10 h11 h12 h13 h14 h15 h16 h17 h18 h19 h20 h21 h22 h23 h24 h25 h26 h27 h28 h29 h30 h31 h32 h33 r.2.1 r.2.2.1 v_wall_courses v_wall_columns v_wall_fault v_wall_jump v_wall_stones v_hands_told v_hands_fault v_hands_mood v_hands_strong v_frosts_told v_frosts_year v_frosts_force v_gappings_told v_gappings_year v_gappings_column v_gappings_hand v_sheets0_form v_sheets0_size r.2.2.2.1 v_sheets1_form v_sheets1_size r.2.2.2.2.1 v_sheets2_form v_sheets2_size r.2.2.2.2.2.1 v_sheets3_form v_sheets3_size r.2.2.2.2.2.2.1 r.2.2.2.2.2.2.2.1 r.2.2.2.2.2.2.2.2.1 r.2.2.2.2.2.2.2.2.2.1 r.2.2.2.2.2.2.2.2.2.2.1 r.2.2.2.2.2.2.2.2.2.2.2.1 r.2.2.2.2.2.2.2.2.2.2.2.2.1 r.2.2.2.2.2.2.2.2.2.2.2.2.2)) (F0 m 63 ls []) := by
  intro v_toldIsStale v_latestFinding v_sheets0_items v_sheets1_items v_sheets2_items v_sheets3_items v_told_all v_told_losers v_told_now v_told_stones v_told_standing v_told_open v_told_fallen x1 x4 x6 hm H locs ls hw hl
  unfold f_x_write_N63_1 at hm
  obtain ⟨hx, hb, hr, hml, hown, hts, hlocks, hK, hA⟩ := id C0
  refine lv_iload hx hb dX8_write_63 (lv_at hl 4 rfl) ?_
  refine lv_iload hx hb dX8_write_65 (lv_at hl 2 rfl) ?_
  refine lv_icmp_ge (tgt := 91) hx hb dX8_write_67 (by decide) (fun hc => ?_) (fun hc => ?_)
  · have hm := ipos hc hm
    refine lv_iload hx hb dX8_write_91 (lv_at hl 2 rfl) ?_
    have hm := Option.some.inj hm
    subst hm
    exact gRetI C0 hw dX8_write_93
  · have hm := ineg hc hm
    refine lv_aload_n hx hb dX8_write_70 rfl (lv_at hl 1 rfl) ?_
    refine gGet C0 hw flX8_168 15 rfl rfl dX8_write_71 ?_
    refine lv_iload hx hb dX8_write_74 (lv_at hl 4 rfl) ?_
    refine lv_aload hx hb dX8_write_76 (lv_at hl 3 rfl) ?_
    refine lv_iload_n hx hb dX8_write_78 rfl (lv_at hl 0 rfl) ?_
    refine lv_iload hx hb dX8_write_79 (lv_at hl 4 rfl) ?_
    obtain ⟨o81, ho81, hm⟩ := bindE hm
    refine gCalli (ws' := (W_x_write g h0 h1 h2 h3 h4 h5 h6 h7 h8 h9 h10 h11 h12 h13 h14 h15 h16 h17 h18 h19 h20 h21 h22 h23 h24 h25 h26 h27 h28 h29 h30 h31 h32 h33 v_toldIsStale v_latestFinding v_wall_courses v_wall_columns v_wall_fault v_wall_jump v_wall_stones v_hands_told v_hands_fault v_hands_mood v_hands_strong v_frosts_told v_frosts_year v_frosts_force v_gappings_told v_gappings_year v_gappings_column v_gappings_hand v_sheets0_form v_sheets0_size v_sheets0_items v_sheets1_form v_sheets1_size v_sheets1_items v_sheets2_form v_sheets2_size v_sheets2_items v_sheets3_form v_sheets3_size v_sheets3_items v_told_all v_told_losers v_told_now v_told_stones v_told_standing v_told_open v_told_fallen)) C0 hw (gRunV (As := [.int x1, .int x6]) (rest := [.int x6, .ref h16]) C0 hw lkX8_185 (c_ys_highBehind l g H.size h22 h25 h1 h3 h9 h23 h24 h26 h27 v_told_all v_told_losers v_told_standing x1 x6 o81 ho81) ⟨rfl, rfl⟩ ⟨Nat.le_of_ble_eq_true rfl, Nat.le_of_ble_eq_true rfl⟩ [22, 25] (by decide) rfl 22 rfl rfl rfl hl.1 rfl (Nat.le_of_ble_eq_true rfl) dX8_write_81) [22, 25] [0, 1, 2, 3, 4, 5, 6, 7, 8, 9, 10, 11, 12, 13, 14, 15, 16, 17, 18, 19, 20, 21, 23, 24, 26, 27] rfl rfl ⟨rfl, rfl, rfl, rfl, rfl, rfl, rfl, rfl, rfl, rfl, rfl, rfl, rfl, rfl, rfl, rfl, rfl, rfl, rfl, rfl, rfl, rfl, rfl, rfl, rfl, rfl, trivial⟩ [h0, h1, h2, h3, h4, h5, h6, h7, h8, h9, h10, h11, h12, h13, h14, h15, h16, h17, h18, h19, h20, h21, h22, h23, h24, h25, h26, h27] rfl rfl 28 rfl (by decide +kernel) (fun H locs hw => ?_)
    obtain ⟨hin, hm⟩ := gdE hm
    have hin := inbE hin
    refine gAstI (ws' := (W_x_write g h0 h1 h2 h3 h4 h5 h6 h7 h8 h9 h10 h11 h12 h13 h14 h15 h16 h17 h18 h19 h20 h21 h22 h23 h24 h25 h26 h27 h28 h29 h30 h31 h32 h33 v_toldIsStale v_latestFinding v_wall_courses v_wall_columns v_wall_fault v_wall_jump v_wall_stones v_hands_told v_hands_fault v_hands_mood v_hands_strong v_frosts_told v_frosts_year v_frosts_force v_gappings_told v_gappings_year v_gappings_column v_gappings_hand v_sheets0_form v_sheets0_size v_sheets0_items v_sheets1_form v_sheets1_size (upd v_sheets1_items x6.toNatClampNeg o81) v_sheets2_form v_sheets2_size v_sheets2_items v_sheets3_form v_sheets3_size v_sheets3_items v_told_all v_told_losers v_told_now v_told_stones v_told_standing v_told_open v_told_fallen)) C0 hw 16 rfl hin rfl dX8_write_84 (fun H locs hw => ?_)
    refine lv_iinc (v := x6 + (1 : Int32)) (lv' := [(6, .int (x6 + (1 : Int32))), (1, .int x1), (3, .ref h15), (4, .int x4), (5, .ref h22)]) hx hb dX8_write_85 hl (k := 4) rfl rfl (by decide) rfl (fun ls hl => ?_)
    refine lv_goto (tgt := 63) hx hb dX8_write_88 (by decide) ?_
    exact hk63 _ _ _ _ _ _ _ _ _ _ _ _ _ _ _ _ hm _ _ _ hw (lv_sub hl [1, 2, 3, 4, 0] rfl)
set_option maxHeartbeats 1000000 in
set_option maxRecDepth 100000 in
theorem l_x_write_N63_1 {p : Program} {l : Launch} {e : Env} {s : State} {m : MethodId} {args : Array Value} {below : List Frame} {meth : Method} {c : Code} {A : Nat → Prop} {g : gG} {h0 h1 h2 h3 h4 h5 h6 h7 h8 h9 h10 h11 h12 h13 h14 h15 h16 h17 h18 h19 h20 h21 h22 h23 h24 h25 h26 h27 h28 h29 h30 h31 h32 h33 : Nat} {v_wall_courses : Int32} {v_wall_columns : Int32} {v_wall_fault : Int32} {v_wall_jump : Int32} {v_wall_stones : Nat → Int64} {v_hands_told : Int32} {v_hands_fault : Int32} {v_hands_mood : Nat → Int32} {v_hands_strong : Nat → Int32} {v_frosts_told : Int32} {v_frosts_year : Nat → Int32} {v_frosts_force : Nat → Int32} {v_gappings_told : Int32} {v_gappings_year : Nat → Int32} {v_gappings_column : Nat → Int32} {v_gappings_hand : Nat → Int32} {v_sheets0_form : Int32} {v_sheets0_size : Int32} {v_sheets1_form : Int32} {v_sheets1_size : Int32} {v_sheets2_form : Int32} {v_sheets2_size : Int32} {v_sheets3_form : Int32} {v_sheets3_size : Int32} {r : (Int32 × Int32 × Int32 × (Nat → Int32) × (Nat → Int32) × (Nat → Int32) × (Nat → Int32) × Int64 × Int32 × (Nat → Int64) × (Nat → Int64) × (Nat → Int64) × (Nat → Int32) × (Nat → Int32))} (C0 : gX p s m args meth c cX8_write 7 (some .int) RX8 g A) : ∀ n : Nat, ∀ (v_toldIsStale : Int32) (v_latestFinding : Int32) (v_sheets0_items : Nat → Int32) (v_sheets1_items : Nat → Int32) (v_sheets2_items : Nat → Int32) (v_sheets3_items : Nat → Int32) (v_told_all : Int64) (v_told_losers : Int32) (v_told_now : Nat → Int64) (v_told_stones : Nat → Int64) (v_told_standing : Nat → Int64) (v_told_open : Nat → Int32) (v_told_fallen : Nat → Int32) (x1 : Int32) (x4 : Int32) (x6 : Int32), iter (fun _ _ _ _ _ _ _ _ _ _ _ _ _ _ _ _ => none) (f_x_write_N63_1 v_wall_courses v_wall_columns v_wall_jump v_wall_stones v_hands_told v_hands_mood v_hands_strong v_frosts_told v_frosts_year v_frosts_force v_gappings_told v_gappings_year v_gappings_column v_gappings_hand v_sheets0_form v_sheets0_size v_sheets1_form v_sheets1_size v_sheets2_form v_sheets2_size v_sheets3_form v_sheets3_size) n v_toldIsStale v_latestFinding v_sheets0_items v_sheets1_items v_sheets2_items v_sheets3_items v_told_all v_told_losers v_told_now v_told_stones v_told_standing v_told_open v_told_fallen x1 x4 x6 = some r → ∀ (H : Heap) (locs : List Loc) (ls : Array Slot), gW g A s (W_x_write g h0 h1 h2 h3 h4 h5 h6 h7 h8 h9 h10 h11 h12 h13 h14 h15 h16 h17 h18 h19 h20 h21 h22 h23 h24 h25 h26 h27 h28 h29 h30 h31 h32 h33 v_toldIsStale v_latestFinding v_wall_courses v_wall_columns v_wall_fault v_wall_jump v_wall_stones v_hands_told v_hands_fault v_hands_mood v_hands_strong v_frosts_told v_frosts_year v_frosts_force v_gappings_told v_gappings_year v_gappings_column v_gappings_hand v_sheets0_form v_sheets0_size v_sheets0_items v_sheets1_form v_sheets1_size v_sheets1_items v_sheets2_form v_sheets2_size v_sheets2_items v_sheets3_form v_sheets3_size v_sheets3_items v_told_all v_told_losers v_told_now v_told_stones v_told_standing v_told_open v_told_fallen) H locs → lv_has ls 7 [(1, .int x1), (3, .ref h15), (4, .int x4), (5, .ref h22), (6, .int x6)] → W p l e rm_x_write s m args below meth c H locs 0 0 (gQi below args s A g r.1 (W_x_write g h0 h1 h2 h3 h4 h5 h6 h7 h8 h9 h10 h11 h12 h13 h14 h15 h16 h17 h18 h19 h20 h21 h22 h23 h24 h25 h26 h27 h28 h29 h30 h31 h32 h33 r.2.1 r.2.2.1 v_wall_courses v_wall_columns v_wall_fault v_wall_jump v_wall_stones v_hands_told v_hands_fault v_hands_mood v_hands_strong v_frosts_told v_frosts_year v_frosts_force v_gappings_told v_gappings_year v_gappings_column v_gappings_hand v_sheets0_form v_sheets0_size r.2.2.2.1 v_sheets1_form v_sheets1_size r.2.2.2.2.1 v_sheets2_form v_sheets2_size r.2.2.2.2.2.1 v_sheets3_form v_sheets3_size r.2.2.2.2.2.2.1 r.2.2.2.2.2.2.2.1 r.2.2.2.2.2.2.2.2.1 r.2.2.2.2.2.2.2.2.2.1 r.2.2.2.2.2.2.2.2.2.2.1 r.2.2.2.2.2.2.2.2.2.2.2.1 r.2.2.2.2.2.2.2.2.2.2.2.2.1 r.2.2.2.2.2.2.2.2.2.2.2.2.2)) (F0 m 63 ls []) := by
  intro n
  induction n with
  | zero =>
    intro v_toldIsStale v_latestFinding v_sheets0_items v_sheets1_items v_sheets2_items v_sheets3_items v_told_all v_told_losers v_told_now v_told_stones v_told_standing v_told_open v_told_fallen x1 x4 x6 hm
    cases hm
  | succ n ih =>
    exact n_x_write_N63_1 C0  ih
set_option maxHeartbeats 1000000 in
set_option maxRecDepth 100000 in
theorem n_x_write_N63_2 {p : Program} {l : Launch} {e : Env} {s : State} {m : MethodId} {args : Array Value} {below : List Frame} {meth : Method} {c : Code} {A : Nat → Prop} {g : gG} {h0 h1 h2 h3 h4 h5 h6 h7 h8 h9 h10 h11 h12 h13 h14 h15 h16 h17 h18 h19 h20 h21 h22 h23 h24 h25 h26 h27 h28 h29 h30 h31 h32 h33 : Nat} {v_wall_courses : Int32} {v_wall_columns : Int32} {v_wall_fault : Int32} {v_wall_jump : Int32} {v_wall_stones : Nat → Int64} {v_hands_told : Int32} {v_hands_fault : Int32} {v_hands_mood : Nat → Int32} {v_hands_strong : Nat → Int32} {v_frosts_told : Int32} {v_frosts_year : Nat → Int32} {v_frosts_force : Nat → Int32} {v_gappings_told : Int32} {v_gappings_year : Nat → Int32} {v_gappings_column : Nat → Int32} {v_gappings_hand : Nat → Int32} {v_sheets0_form : Int32} {v_sheets0_size : Int32} {v_sheets1_form : Int32} {v_sheets1_size : Int32} {v_sheets2_form : Int32} {v_sheets2_size : Int32} {v_sheets3_form : Int32} {v_sheets3_size : Int32} {k63 : Int32 → Int32 → (Nat → Int32) → (Nat → Int32) → (Nat → Int32) → (Nat → Int32) → Int64 → Int32 → (Nat → Int64) → (Nat → Int64) → (Nat → Int64) → (Nat → Int32) → (Nat → Int32) → Int32 → Int32 → Int32 → Option (Int32 × Int32 × Int32 × (Nat → Int32) × (Nat → Int32) × (Nat → Int32) × (Nat → Int32) × Int64 × Int32 × (Nat → Int64) × (Nat → Int64) × (Nat → Int64) × (Nat → Int32) × (Nat → Int32))} {r : (Int32 × Int32 × Int32 × (Nat → Int32) × (Nat → Int32) × (Nat → Int32) × (Nat → Int32) × Int64 × Int32 × (Nat → Int64) × (Nat → Int64) × (Nat → Int64) × (Nat → Int32) × (Nat → Int32))} (C0 : gX p s m args meth c cX8_write 7 (some .int) RX8 g A) (hk63 : ∀ (v_toldIsStale : Int32) (v_latestFinding : Int32) (v_sheets0_items : Nat → Int32) (v_sheets1_items : Nat → Int32) (v_sheets2_items : Nat → Int32) (v_sheets3_items : Nat → Int32) (v_told_all : Int64) (v_told_losers : Int32) (v_told_now : Nat → Int64) (v_told_stones : Nat → Int64) (v_told_standing : Nat → Int64) (v_told_open : Nat → Int32) (v_told_fallen : Nat → Int32) (x1 : Int32) (x4 : Int32) (x6 : Int32), k63 v_toldIsStale v_latestFinding v_sheets0_items v_sheets1_items v_sheets2_items v_sheets3_items v_told_all v_told_losers v_told_now v_told_stones v_told_standing v_told_open v_told_fallen x1 x4 x6 = some r → ∀ (H : Heap) (locs : List Loc) (ls : Array Slot), gW g A s (W_x_write g h0 h1 h2 h3 h4 h5 h6 h7 h8 h9 h10 h11 h12 h13 h14 h15 h16 h17 h18 h19 h20 h21 h22 h23 h24 h25 h26 h27 h28 h29 h30 h31 h32 h33 v_toldIsStale v_latestFinding v_wall_courses v_wall_columns v_wall_fault v_wall_jump v_wall_stones v_hands_told v_hands_fault v_hands_mood v_hands_strong v_frosts_told v_frosts_year v_frosts_force v_gappings_told v_gappings_year v_gappings_column v_gappings_hand v_sheets0_form v_sheets0_size v_sheets0_items v_sheets1_form v_sheets1_size v_sheets1_items v_sheets2_form v_sheets2_size v_sheets2_items v_sheets3_form v_sheets3_size v_sheets3_items v_told_all v_told_losers v_told_now v_told_stones v_told_standing v_told_open v_told_fallen) H locs → lv_has ls 7 [(1, .int x1), (3, .ref h17), (4, .int x4), (5, .ref h22), (6, .int x6)] → W p l e rm_x_write s m args below meth c H locs 0 0 (gQi below args s A g r.1 (W_x_write g h0 h1 h2 h3 h4 h5 h6 h7 h8 h9 h10 h11 h12 h13 h14 h15 h16 h17 h18 h19 h20 h21 h22 h23 h24 h25 h26 h27 h28 h29 h30 h31 h32 h33 r.2.1 r.2.2.1 v_wall_courses v_wall_columns v_wall_fault v_wall_jump v_wall_stones v_hands_told v_hands_fault v_hands_mood v_hands_strong v_frosts_told v_frosts_year v_frosts_force v_gappings_told v_gappings_year v_gappings_column v_gappings_hand v_sheets0_form v_sheets0_size r.2.2.2.1 v_sheets1_form v_sheets1_size r.2.2.2.2.1 v_sheets2_form v_sheets2_size r.2.2.2.2.2.1 v_sheets3_form v_sheets3_size r.2.2.2.2.2.2.1 r.2.2.2.2.2.2.2.1 r.2.2.2.2.2.2.2.2.1 r.2.2.2.2.2.2.2.2.2.1 r.2.2.2.2.2.2.2.2.2.2.1 r.2.2.2.2.2.2.2.2.2.2.2.1 r.2.2.2.2.2.2.2.2.2.2.2.2.1 r.2.2.2.2.2.2.2.2.2.2.2.2.2)) (F0 m 63 ls [])) : ∀ (v_toldIsStale : Int32) (v_latestFinding : Int32) (v_sheets0_items : Nat → Int32) (v_sheets1_items : Nat → Int32) (v_sheets2_items : Nat → Int32) (v_sheets3_items : Nat → Int32) (v_told_all : Int64) (v_told_losers : Int32) (v_told_now : Nat → Int64) (v_told_stones : Nat → Int64) (v_told_standing : Nat → Int64) (v_told_open : Nat → Int32) (v_told_fallen : Nat → Int32) (x1 : Int32) (x4 : Int32) (x6 : Int32), f_x_write_N63_2 v_wall_courses v_wall_columns v_wall_jump v_wall_stones v_hands_told v_hands_mood v_hands_strong v_frosts_told v_frosts_year v_frosts_force v_gappings_told v_gappings_year v_gappings_column v_gappings_hand v_sheets0_form v_sheets0_size v_sheets1_form v_sheets1_size v_sheets2_form v_sheets2_size v_sheets3_form v_sheets3_size k63 v_toldIsStale v_latestFinding v_sheets0_items v_sheets1_items v_sheets2_items v_sheets3_items v_told_all v_told_losers v_told_now v_told_stones v_told_standing v_told_open v_told_fallen x1 x4 x6 = some r → ∀ (H : Heap) (locs : List Loc) (ls : Array Slot), gW g A s (W_x_write g h0 h1 h2 h3 h4 h5 h6 h7 h8 h9 h10 h11 h12 h13 h14 h15 h16 h17 h18 h19 h20 h21 h22 h23 h24 h25 h26 h27 h28 h29 h30 h31 h32 h33 v_toldIsStale v_latestFinding v_wall_courses v_wall_columns v_wall_fault v_wall_jump v_wall_stones v_hands_told v_hands_fault v_hands_mood v_hands_strong v_frosts_told v_frosts_year v_frosts_force v_gappings_told v_gappings_year v_gappings_column v_gappings_hand v_sheets0_form v_sheets0_size v_sheets0_items v_sheets1_form v_sheets1_size v_sheets1_items v_sheets2_form v_sheets2_size v_sheets2_items v_sheets3_form v_sheets3_size v_sheets3_items v_told_all v_told_losers v_told_now v_told_stones v_told_standing v_told_open v_told_fallen) H locs → lv_has ls 7 [(1, .int x1), (3, .ref h17), (4, .int x4), (5, .ref h22), (6, .int x6)] → W p l e rm_x_write s m args below meth c H locs 0 0 (gQi below args s A g r.1 (W_x_write g h0 h1 h2 h3 h4 h5 h6 h7 h8 h9 h10 h11 h12 h13 h14 h15 h16 h17 h18 h19 h20 h21 h22 h23 h24 h25 h26 h27 h28 h29 h30 h31 h32 h33 r.2.1 r.2.2.1 v_wall_courses v_wall_columns v_wall_fault v_wall_jump v_wall_stones v_hands_told v_hands_fault v_hands_mood v_hands_strong v_frosts_told v_frosts_year v_frosts_force v_gappings_told v_gappings_year v_gappings_column v_gappings_hand v_sheets0_form v_sheets0_size r.2.2.2.1 v_sheets1_form v_sheets1_size r.2.2.2.2.1 v_sheets2_form v_sheets2_size r.2.2.2.2.2.1 v_sheets3_form v_sheets3_size r.2.2.2.2.2.2.1 r.2.2.2.2.2.2.2.1 r.2.2.2.2.2.2.2.2.1 r.2.2.2.2.2.2.2.2.2.1 r.2.2.2.2.2.2.2.2.2.2.1 r.2.2.2.2.2.2.2.2.2.2.2.1 r.2.2.2.2.2.2.2.2.2.2.2.2.1 r.2.2.2.2.2.2.2.2.2.2.2.2.2)) (F0 m 63 ls []) := by
  intro v_toldIsStale v_latestFinding v_sheets0_items v_sheets1_items v_sheets2_items v_sheets3_items v_told_all v_told_losers v_told_now v_told_stones v_told_standing v_told_open v_told_fallen x1 x4 x6 hm H locs ls hw hl
  unfold f_x_write_N63_2 at hm
  obtain ⟨hx, hb, hr, hml, hown, hts, hlocks, hK, hA⟩ := id C0
  refine lv_iload hx hb dX8_write_63 (lv_at hl 4 rfl) ?_
  refine lv_iload hx hb dX8_write_65 (lv_at hl 2 rfl) ?_
  refine lv_icmp_ge (tgt := 91) hx hb dX8_write_67 (by decide) (fun hc => ?_) (fun hc => ?_)
  · have hm := ipos hc hm
    refine lv_iload hx hb dX8_write_91 (lv_at hl 2 rfl) ?_
    have hm := Option.some.inj hm
    subst hm
    exact gRetI C0 hw dX8_write_93
  · have hm := ineg hc hm
    refine lv_aload_n hx hb dX8_write_70 rfl (lv_at hl 1 rfl) ?_
    refine gGet C0 hw flX8_168 17 rfl rfl dX8_write_71 ?_
    refine lv_iload hx hb dX8_write_74 (lv_at hl 4 rfl) ?_
    refine lv_aload hx hb dX8_write_76 (lv_at hl 3 rfl) ?_
    refine lv_iload_n hx hb dX8_write_78 rfl (lv_at hl 0 rfl) ?_
    refine lv_iload hx hb dX8_write_79 (lv_at hl 4 rfl) ?_
    obtain ⟨o81, ho81, hm⟩ := bindE hm
    refine gCalli (ws' := (W_x_write g h0 h1 h2 h3 h4 h5 h6 h7 h8 h9 h10 h11 h12 h13 h14 h15 h16 h17 h18 h19 h20 h21 h22 h23 h24 h25 h26 h27 h28 h29 h30 h31 h32 h33 v_toldIsStale v_latestFinding v_wall_courses v_wall_columns v_wall_fault v_wall_jump v_wall_stones v_hands_told v_hands_fault v_hands_mood v_hands_strong v_frosts_told v_frosts_year v_frosts_force v_gappings_told v_gappings_year v_gappings_column v_gappings_hand v_sheets0_form v_sheets0_size v_sheets0_items v_sheets1_form v_sheets1_size v_sheets1_items v_sheets2_form v_sheets2_size v_sheets2_items v_sheets3_form v_sheets3_size v_sheets3_items v_told_all v_told_losers v_told_now v_told_stones v_told_standing v_told_open v_told_fallen)) C0 hw (gRunV (As := [.int x1, .int x6]) (rest := [.int x6, .ref h18]) C0 hw lkX8_185 (c_ys_highBehind l g H.size h22 h25 h1 h3 h9 h23 h24 h26 h27 v_told_all v_told_losers v_told_standing x1 x6 o81 ho81) ⟨rfl, rfl⟩ ⟨Nat.le_of_ble_eq_true rfl, Nat.le_of_ble_eq_true rfl⟩ [22, 25] (by decide) rfl 22 rfl rfl rfl hl.1 rfl (Nat.le_of_ble_eq_true rfl) dX8_write_81) [22, 25] [0, 1, 2, 3, 4, 5, 6, 7, 8, 9, 10, 11, 12, 13, 14, 15, 16, 17, 18, 19, 20, 21, 23, 24, 26, 27] rfl rfl ⟨rfl, rfl, rfl, rfl, rfl, rfl, rfl, rfl, rfl, rfl, rfl, rfl, rfl, rfl, rfl, rfl, rfl, rfl, rfl, rfl, rfl, rfl, rfl, rfl, rfl, rfl, trivial⟩ [h0, h1, h2, h3, h4, h5, h6, h7, h8, h9, h10, h11, h12, h13, h14, h15, h16, h17, h18, h19, h20, h21, h22, h23, h24, h25, h26, h27] rfl rfl 28 rfl (by decide +kernel) (fun H locs hw => ?_)
    obtain ⟨hin, hm⟩ := gdE hm
    have hin := inbE hin
    refine gAstI (ws' := (W_x_write g h0 h1 h2 h3 h4 h5 h6 h7 h8 h9 h10 h11 h12 h13 h14 h15 h16 h17 h18 h19 h20 h21 h22 h23 h24 h25 h26 h27 h28 h29 h30 h31 h32 h33 v_toldIsStale v_latestFinding v_wall_courses v_wall_columns v_wall_fault v_wall_jump v_wall_stones v_hands_told v_hands_fault v_hands_mood v_hands_strong v_frosts_told v_frosts_year v_frosts_force v_gappings_told v_gappings_year v_gappings_column v_gappings_hand v_sheets0_form v_sheets0_size v_sheets0_items v_sheets1_form v_sheets1_size v_sheets1_items v_sheets2_form v_sheets2_size (upd v_sheets2_items x6.toNatClampNeg o81) v_sheets3_form v_sheets3_size v_sheets3_items v_told_all v_told_losers v_told_now v_told_stones v_told_standing v_told_open v_told_fallen)) C0 hw 18 rfl hin rfl dX8_write_84 (fun H locs hw => ?_)
    refine lv_iinc (v := x6 + (1 : Int32)) (lv' := [(6, .int (x6 + (1 : Int32))), (1, .int x1), (3, .ref h17), (4, .int x4), (5, .ref h22)]) hx hb dX8_write_85 hl (k := 4) rfl rfl (by decide) rfl (fun ls hl => ?_)
    refine lv_goto (tgt := 63) hx hb dX8_write_88 (by decide) ?_
    exact hk63 _ _ _ _ _ _ _ _ _ _ _ _ _ _ _ _ hm _ _ _ hw (lv_sub hl [1, 2, 3, 4, 0] rfl)
set_option maxHeartbeats 1000000 in
set_option maxRecDepth 100000 in
theorem l_x_write_N63_2 {p : Program} {l : Launch} {e : Env} {s : State} {m : MethodId} {args : Array Value} {below : List Frame} {meth : Method} {c : Code} {A : Nat → Prop} {g : gG} {h0 h1 h2 h3 h4 h5 h6 h7 h8 h9 h10 h11 h12 h13 h14 h15 h16 h17 h18 h19 h20 h21 h22 h23 h24 h25 h26 h27 h28 h29 h30 h31 h32 h33 : Nat} {v_wall_courses : Int32} {v_wall_columns : Int32} {v_wall_fault : Int32} {v_wall_jump : Int32} {v_wall_stones : Nat → Int64} {v_hands_told : Int32} {v_hands_fault : Int32} {v_hands_mood : Nat → Int32} {v_hands_strong : Nat → Int32} {v_frosts_told : Int32} {v_frosts_year : Nat → Int32} {v_frosts_force : Nat → Int32} {v_gappings_told : Int32} {v_gappings_year : Nat → Int32} {v_gappings_column : Nat → Int32} {v_gappings_hand : Nat → Int32} {v_sheets0_form : Int32} {v_sheets0_size : Int32} {v_sheets1_form : Int32} {v_sheets1_size : Int32} {v_sheets2_form : Int32} {v_sheets2_size : Int32} {v_sheets3_form : Int32} {v_sheets3_size : Int32} {r : (Int32 × Int32 × Int32 × (Nat → Int32) × (Nat → Int32) × (Nat → Int32) × (Nat → Int32) × Int64 × Int32 × (Nat → Int64) × (Nat → Int64) × (Nat → Int64) × (Nat → Int32) × (Nat → Int32))} (C0 : gX p s m args meth c cX8_write 7 (some .int) RX8 g A) : ∀ n : Nat, ∀ (v_toldIsStale : Int32) (v_latestFinding : Int32) (v_sheets0_items : Nat → Int32) (v_sheets1_items : Nat → Int32) (v_sheets2_items : Nat → Int32) (v_sheets3_items : Nat → Int32) (v_told_all : Int64) (v_told_losers : Int32) (v_told_now : Nat → Int64) (v_told_stones : Nat → Int64) (v_told_standing : Nat → Int64) (v_told_open : Nat → Int32) (v_told_fallen : Nat → Int32) (x1 : Int32) (x4 : Int32) (x6 : Int32), iter (fun _ _ _ _ _ _ _ _ _ _ _ _ _ _ _ _ => none) (f_x_write_N63_2 v_wall_courses v_wall_columns v_wall_jump v_wall_stones v_hands_told v_hands_mood v_hands_strong v_frosts_told v_frosts_year v_frosts_force v_gappings_told v_gappings_year v_gappings_column v_gappings_hand v_sheets0_form v_sheets0_size v_sheets1_form v_sheets1_size v_sheets2_form v_sheets2_size v_sheets3_form v_sheets3_size) n v_toldIsStale v_latestFinding v_sheets0_items v_sheets1_items v_sheets2_items v_sheets3_items v_told_all v_told_losers v_told_now v_told_stones v_told_standing v_told_open v_told_fallen x1 x4 x6 = some r → ∀ (H : Heap) (locs : List Loc) (ls : Array Slot), gW g A s (W_x_write g h0 h1 h2 h3 h4 h5 h6 h7 h8 h9 h10 h11 h12 h13 h14 h15 h16 h17 h18 h19 h20 h21 h22 h23 h24 h25 h26 h27 h28 h29 h30 h31 h32 h33 v_toldIsStale v_latestFinding v_wall_courses v_wall_columns v_wall_fault v_wall_jump v_wall_stones v_hands_told v_hands_fault v_hands_mood v_hands_strong v_frosts_told v_frosts_year v_frosts_force v_gappings_told v_gappings_year v_gappings_column v_gappings_hand v_sheets0_form v_sheets0_size v_sheets0_items v_sheets1_form v_sheets1_size v_sheets1_items v_sheets2_form v_sheets2_size v_sheets2_items v_sheets3_form v_sheets3_size v_sheets3_items v_told_all v_told_losers v_told_now v_told_stones v_told_standing v_told_open v_told_fallen) H locs → lv_has ls 7 [(1, .int x1), (3, .ref h17), (4, .int x4), (5, .ref h22), (6, .int x6)] → W p l e rm_x_write s m args below meth c H locs 0 0 (gQi below args s A g r.1 (W_x_write g h0 h1 h2 h3 h4 h5 h6 h7 h8 h9 h10 h11 h12 h13 h14 h15 h16 h17 h18 h19 h20 h21 h22 h23 h24 h25 h26 h27 h28 h29 h30 h31 h32 h33 r.2.1 r.2.2.1 v_wall_courses v_wall_columns v_wall_fault v_wall_jump v_wall_stones v_hands_told v_hands_fault v_hands_mood v_hands_strong v_frosts_told v_frosts_year v_frosts_force v_gappings_told v_gappings_year v_gappings_column v_gappings_hand v_sheets0_form v_sheets0_size r.2.2.2.1 v_sheets1_form v_sheets1_size r.2.2.2.2.1 v_sheets2_form v_sheets2_size r.2.2.2.2.2.1 v_sheets3_form v_sheets3_size r.2.2.2.2.2.2.1 r.2.2.2.2.2.2.2.1 r.2.2.2.2.2.2.2.2.1 r.2.2.2.2.2.2.2.2.2.1 r.2.2.2.2.2.2.2.2.2.2.1 r.2.2.2.2.2.2.2.2.2.2.2.1 r.2.2.2.2.2.2.2.2.2.2.2.2.1 r.2.2.2.2.2.2.2.2.2.2.2.2.2)) (F0 m 63 ls []) := by
  intro n
  induction n with
  | zero =>
    intro v_toldIsStale v_latestFinding v_sheets0_items v_sheets1_items v_sheets2_items v_sheets3_items v_told_all v_told_losers v_told_now v_told_stones v_told_standing v_told_open v_told_fallen x1 x4 x6 hm
    cases hm
  | succ n ih =>
    exact n_x_write_N63_2 C0  ih
set_option maxHeartbeats 1000000 in
set_option maxRecDepth 100000 in
theorem n_x_write_N63_3 {p : Program} {l : Launch} {e : Env} {s : State} {m : MethodId} {args : Array Value} {below : List Frame} {meth : Method} {c : Code} {A : Nat → Prop} {g : gG} {h0 h1 h2 h3 h4 h5 h6 h7 h8 h9 h10 h11 h12 h13 h14 h15 h16 h17 h18 h19 h20 h21 h22 h23 h24 h25 h26 h27 h28 h29 h30 h31 h32 h33 : Nat} {v_wall_courses : Int32} {v_wall_columns : Int32} {v_wall_fault : Int32} {v_wall_jump : Int32} {v_wall_stones : Nat → Int64} {v_hands_told : Int32} {v_hands_fault : Int32} {v_hands_mood : Nat → Int32} {v_hands_strong : Nat → Int32} {v_frosts_told : Int32} {v_frosts_year : Nat → Int32} {v_frosts_force : Nat → Int32} {v_gappings_told : Int32} {v_gappings_year : Nat → Int32} {v_gappings_column : Nat → Int32} {v_gappings_hand : Nat → Int32} {v_sheets0_form : Int32} {v_sheets0_size : Int32} {v_sheets1_form : Int32} {v_sheets1_size : Int32} {v_sheets2_form : Int32} {v_sheets2_size : Int32} {v_sheets3_form : Int32} {v_sheets3_size : Int32} {k63 : Int32 → Int32 → (Nat → Int32) → (Nat → Int32) → (Nat → Int32) → (Nat → Int32) → Int64 → Int32 → (Nat → Int64) → (Nat → Int64) → (Nat → Int64) → (Nat → Int32) → (Nat → Int32) → Int32 → Int32 → Int32 → Option (Int32 × Int32 × Int32 × (Nat → Int32) × (Nat → Int32) × (Nat → Int32) × (Nat → Int32) × Int64 × Int32 × (Nat → Int64) × (Nat → Int64) × (Nat → Int64) × (Nat → Int32) × (Nat → Int32))} {r : (Int32 × Int32 × Int32 × (Nat → Int32) × (Nat → Int32) × (Nat → Int32) × (Nat → Int32) × Int64 × Int32 × (Nat → Int64) × (Nat → Int64) × (Nat → Int64) × (Nat → Int32) × (Nat → Int32))} (C0 : gX p s m args meth c cX8_write 7 (some .int) RX8 g A) (hk63 : ∀ (v_toldIsStale : Int32) (v_latestFinding : Int32) (v_sheets0_items : Nat → Int32) (v_sheets1_items : Nat → Int32) (v_sheets2_items : Nat → Int32) (v_sheets3_items : Nat → Int32) (v_told_all : Int64) (v_told_losers : Int32) (v_told_now : Nat → Int64) (v_told_stones : Nat → Int64) (v_told_standing : Nat → Int64) (v_told_open : Nat → Int32) (v_told_fallen : Nat → Int32) (x1 : Int32) (x4 : Int32) (x6 : Int32), k63 v_toldIsStale v_latestFinding v_sheets0_items v_sheets1_items v_sheets2_items v_sheets3_items v_told_all v_told_losers v_told_now v_told_stones v_told_standing v_told_open v_told_fallen x1 x4 x6 = some r → ∀ (H : Heap) (locs : List Loc) (ls : Array Slot), gW g A s (W_x_write g h0 h1 h2 h3 h4 h5 h6 h7 h8 h9 h10 h11 h12 h13 h14 h15 h16 h17 h18 h19 h20 h21 h22 h23 h24 h25 h26 h27 h28 h29 h30 h31 h32 h33 v_toldIsStale v_latestFinding v_wall_courses v_wall_columns v_wall_fault v_wall_jump v_wall_stones v_hands_told v_hands_fault v_hands_mood v_hands_strong v_frosts_told v_frosts_year v_frosts_force v_gappings_told v_gappings_year v_gappings_column v_gappings_hand v_sheets0_form v_sheets0_size v_sheets0_items v_sheets1_form v_sheets1_size v_sheets1_items v_sheets2_form v_sheets2_size v_sheets2_items v_sheets3_form v_sheets3_size v_sheets3_items v_told_all v_told_losers v_told_now v_told_stones v_told_standing v_told_open v_told_fallen) H locs → lv_has ls 7 [(1, .int x1), (3, .ref h19), (4, .int x4), (5, .ref h22), (6, .int x6)] → W p l e rm_x_write s m args below meth c H locs 0 0 (gQi below args s A g r.1 (W_x_write g h0 h1 h2 h3 h4 h5 h6 h7 h8 h9 h10 h11 h12 h13 h14 h15 h16 h17 h18 h19 h20 h21 h22 h23 h24 h25 h26 h27 h28 h29 h30 h31 h32 h33 r.2.1 r.2.2.1 v_wall_courses v_wall_columns v_wall_fault v_wall_jump v_wall_stones v_hands_told v_hands_fault v_hands_mood v_hands_strong v_frosts_told v_frosts_year v_frosts_force v_gappings_told v_gappings_year v_gappings_column v_gappings_hand v_sheets0_form v_sheets0_size r.2.2.2.1 v_sheets1_form v_sheets1_size r.2.2.2.2.1 v_sheets2_form v_sheets2_size r.2.2.2.2.2.1 v_sheets3_form v_sheets3_size r.2.2.2.2.2.2.1 r.2.2.2.2.2.2.2.1 r.2.2.2.2.2.2.2.2.1 r.2.2.2.2.2.2.2.2.2.1 r.2.2.2.2.2.2.2.2.2.2.1 r.2.2.2.2.2.2.2.2.2.2.2.1 r.2.2.2.2.2.2.2.2.2.2.2.2.1 r.2.2.2.2.2.2.2.2.2.2.2.2.2)) (F0 m 63 ls [])) : ∀ (v_toldIsStale : Int32) (v_latestFinding : Int32) (v_sheets0_items : Nat → Int32) (v_sheets1_items : Nat → Int32) (v_sheets2_items : Nat → Int32) (v_sheets3_items : Nat → Int32) (v_told_all : Int64) (v_told_losers : Int32) (v_told_now : Nat → Int64) (v_told_stones : Nat → Int64) (v_told_standing : Nat → Int64) (v_told_open : Nat → Int32) (v_told_fallen : Nat → Int32) (x1 : Int32) (x4 : Int32) (x6 : Int32), f_x_write_N63_3 v_wall_courses v_wall_columns v_wall_jump v_wall_stones v_hands_told v_hands_mood v_hands_strong v_frosts_told v_frosts_year v_frosts_force v_gappings_told v_gappings_year v_gappings_column v_gappings_hand v_sheets0_form v_sheets0_size v_sheets1_form v_sheets1_size v_sheets2_form v_sheets2_size v_sheets3_form v_sheets3_size k63 v_toldIsStale v_latestFinding v_sheets0_items v_sheets1_items v_sheets2_items v_sheets3_items v_told_all v_told_losers v_told_now v_told_stones v_told_standing v_told_open v_told_fallen x1 x4 x6 = some r → ∀ (H : Heap) (locs : List Loc) (ls : Array Slot), gW g A s (W_x_write g h0 h1 h2 h3 h4 h5 h6 h7 h8 h9 h10 h11 h12 h13 h14 h15 h16 h17 h18 h19 h20 h21 h22 h23 h24 h25 h26 h27 h28 h29 h30 h31 h32 h33 v_toldIsStale v_latestFinding v_wall_courses v_wall_columns v_wall_fault v_wall_jump v_wall_stones v_hands_told v_hands_fault v_hands_mood v_hands_strong v_frosts_told v_frosts_year v_frosts_force v_gappings_told v_gappings_year v_gappings_column v_gappings_hand v_sheets0_form v_sheets0_size v_sheets0_items v_sheets1_form v_sheets1_size v_sheets1_items v_sheets2_form v_sheets2_size v_sheets2_items v_sheets3_form v_sheets3_size v_sheets3_items v_told_all v_told_losers v_told_now v_told_stones v_told_standing v_told_open v_told_fallen) H locs → lv_has ls 7 [(1, .int x1), (3, .ref h19), (4, .int x4), (5, .ref h22), (6, .int x6)] → W p l e rm_x_write s m args below meth c H locs 0 0 (gQi below args s A g r.1 (W_x_write g h0 h1 h2 h3 h4 h5 h6 h7 h8 h9 h10 h11 h12 h13 h14 h15 h16 h17 h18 h19 h20 h21 h22 h23 h24 h25 h26 h27 h28 h29 h30 h31 h32 h33 r.2.1 r.2.2.1 v_wall_courses v_wall_columns v_wall_fault v_wall_jump v_wall_stones v_hands_told v_hands_fault v_hands_mood v_hands_strong v_frosts_told v_frosts_year v_frosts_force v_gappings_told v_gappings_year v_gappings_column v_gappings_hand v_sheets0_form v_sheets0_size r.2.2.2.1 v_sheets1_form v_sheets1_size r.2.2.2.2.1 v_sheets2_form v_sheets2_size r.2.2.2.2.2.1 v_sheets3_form v_sheets3_size r.2.2.2.2.2.2.1 r.2.2.2.2.2.2.2.1 r.2.2.2.2.2.2.2.2.1 r.2.2.2.2.2.2.2.2.2.1 r.2.2.2.2.2.2.2.2.2.2.1 r.2.2.2.2.2.2.2.2.2.2.2.1 r.2.2.2.2.2.2.2.2.2.2.2.2.1 r.2.2.2.2.2.2.2.2.2.2.2.2.2)) (F0 m 63 ls []) := by
  intro v_toldIsStale v_latestFinding v_sheets0_items v_sheets1_items v_sheets2_items v_sheets3_items v_told_all v_told_losers v_told_now v_told_stones v_told_standing v_told_open v_told_fallen x1 x4 x6 hm H locs ls hw hl
  unfold f_x_write_N63_3 at hm
  obtain ⟨hx, hb, hr, hml, hown, hts, hlocks, hK, hA⟩ := id C0
  refine lv_iload hx hb dX8_write_63 (lv_at hl 4 rfl) ?_
  refine lv_iload hx hb dX8_write_65 (lv_at hl 2 rfl) ?_
  refine lv_icmp_ge (tgt := 91) hx hb dX8_write_67 (by decide) (fun hc => ?_) (fun hc => ?_)
  · have hm := ipos hc hm
    refine lv_iload hx hb dX8_write_91 (lv_at hl 2 rfl) ?_
    have hm := Option.some.inj hm
    subst hm
    exact gRetI C0 hw dX8_write_93
  · have hm := ineg hc hm
    refine lv_aload_n hx hb dX8_write_70 rfl (lv_at hl 1 rfl) ?_
    refine gGet C0 hw flX8_168 19 rfl rfl dX8_write_71 ?_
    refine lv_iload hx hb dX8_write_74 (lv_at hl 4 rfl) ?_
    refine lv_aload hx hb dX8_write_76 (lv_at hl 3 rfl) ?_
    refine lv_iload_n hx hb dX8_write_78 rfl (lv_at hl 0 rfl) ?_
    refine lv_iload hx hb dX8_write_79 (lv_at hl 4 rfl) ?_
    obtain ⟨o81, ho81, hm⟩ := bindE hm
    refine gCalli (ws' := (W_x_write g h0 h1 h2 h3 h4 h5 h6 h7 h8 h9 h10 h11 h12 h13 h14 h15 h16 h17 h18 h19 h20 h21 h22 h23 h24 h25 h26 h27 h28 h29 h30 h31 h32 h33 v_toldIsStale v_latestFinding v_wall_courses v_wall_columns v_wall_fault v_wall_jump v_wall_stones v_hands_told v_hands_fault v_hands_mood v_hands_strong v_frosts_told v_frosts_year v_frosts_force v_gappings_told v_gappings_year v_gappings_column v_gappings_hand v_sheets0_form v_sheets0_size v_sheets0_items v_sheets1_form v_sheets1_size v_sheets1_items v_sheets2_form v_sheets2_size v_sheets2_items v_sheets3_form v_sheets3_size v_sheets3_items v_told_all v_told_losers v_told_now v_told_stones v_told_standing v_told_open v_told_fallen)) C0 hw (gRunV (As := [.int x1, .int x6]) (rest := [.int x6, .ref h20]) C0 hw lkX8_185 (c_ys_highBehind l g H.size h22 h25 h1 h3 h9 h23 h24 h26 h27 v_told_all v_told_losers v_told_standing x1 x6 o81 ho81) ⟨rfl, rfl⟩ ⟨Nat.le_of_ble_eq_true rfl, Nat.le_of_ble_eq_true rfl⟩ [22, 25] (by decide) rfl 22 rfl rfl rfl hl.1 rfl (Nat.le_of_ble_eq_true rfl) dX8_write_81) [22, 25] [0, 1, 2, 3, 4, 5, 6, 7, 8, 9, 10, 11, 12, 13, 14, 15, 16, 17, 18, 19, 20, 21, 23, 24, 26, 27] rfl rfl ⟨rfl, rfl, rfl, rfl, rfl, rfl, rfl, rfl, rfl, rfl, rfl, rfl, rfl, rfl, rfl, rfl, rfl, rfl, rfl, rfl, rfl, rfl, rfl, rfl, rfl, rfl, trivial⟩ [h0, h1, h2, h3, h4, h5, h6, h7, h8, h9, h10, h11, h12, h13, h14, h15, h16, h17, h18, h19, h20, h21, h22, h23, h24, h25, h26, h27] rfl rfl 28 rfl (by decide +kernel) (fun H locs hw => ?_)
    obtain ⟨hin, hm⟩ := gdE hm
    have hin := inbE hin
    refine gAstI (ws' := (W_x_write g h0 h1 h2 h3 h4 h5 h6 h7 h8 h9 h10 h11 h12 h13 h14 h15 h16 h17 h18 h19 h20 h21 h22 h23 h24 h25 h26 h27 h28 h29 h30 h31 h32 h33 v_toldIsStale v_latestFinding v_wall_courses v_wall_columns v_wall_fault v_wall_jump v_wall_stones v_hands_told v_hands_fault v_hands_mood v_hands_strong v_frosts_told v_frosts_year v_frosts_force v_gappings_told v_gappings_year v_gappings_column v_gappings_hand v_sheets0_form v_sheets0_size v_sheets0_items v_sheets1_form v_sheets1_size v_sheets1_items v_sheets2_form v_sheets2_size v_sheets2_items v_sheets3_form v_sheets3_size (upd v_sheets3_items x6.toNatClampNeg o81) v_told_all v_told_losers v_told_now v_told_stones v_told_standing v_told_open v_told_fallen)) C0 hw 20 rfl hin rfl dX8_write_84 (fun H locs hw => ?_)
    refine lv_iinc (v := x6 + (1 : Int32)) (lv' := [(6, .int (x6 + (1 : Int32))), (1, .int x1), (3, .ref h19), (4, .int x4), (5, .ref h22)]) hx hb dX8_write_85 hl (k := 4) rfl rfl (by decide) rfl (fun ls hl => ?_)
    refine lv_goto (tgt := 63) hx hb dX8_write_88 (by decide) ?_
    exact hk63 _ _ _ _ _ _ _ _ _ _ _ _ _ _ _ _ hm _ _ _ hw (lv_sub hl [1, 2, 3, 4, 0] rfl)
set_option maxHeartbeats 1000000 in
set_option maxRecDepth 100000 in
theorem l_x_write_N63_3 {p : Program} {l : Launch} {e : Env} {s : State} {m : MethodId} {args : Array Value} {below : List Frame} {meth : Method} {c : Code} {A : Nat → Prop} {g : gG} {h0 h1 h2 h3 h4 h5 h6 h7 h8 h9 h10 h11 h12 h13 h14 h15 h16 h17 h18 h19 h20 h21 h22 h23 h24 h25 h26 h27 h28 h29 h30 h31 h32 h33 : Nat} {v_wall_courses : Int32} {v_wall_columns : Int32} {v_wall_fault : Int32} {v_wall_jump : Int32} {v_wall_stones : Nat → Int64} {v_hands_told : Int32} {v_hands_fault : Int32} {v_hands_mood : Nat → Int32} {v_hands_strong : Nat → Int32} {v_frosts_told : Int32} {v_frosts_year : Nat → Int32} {v_frosts_force : Nat → Int32} {v_gappings_told : Int32} {v_gappings_year : Nat → Int32} {v_gappings_column : Nat → Int32} {v_gappings_hand : Nat → Int32} {v_sheets0_form : Int32} {v_sheets0_size : Int32} {v_sheets1_form : Int32} {v_sheets1_size : Int32} {v_sheets2_form : Int32} {v_sheets2_size : Int32} {v_sheets3_form : Int32} {v_sheets3_size : Int32} {r : (Int32 × Int32 × Int32 × (Nat → Int32) × (Nat → Int32) × (Nat → Int32) × (Nat → Int32) × Int64 × Int32 × (Nat → Int64) × (Nat → Int64) × (Nat → Int64) × (Nat → Int32) × (Nat → Int32))} (C0 : gX p s m args meth c cX8_write 7 (some .int) RX8 g A) : ∀ n : Nat, ∀ (v_toldIsStale : Int32) (v_latestFinding : Int32) (v_sheets0_items : Nat → Int32) (v_sheets1_items : Nat → Int32) (v_sheets2_items : Nat → Int32) (v_sheets3_items : Nat → Int32) (v_told_all : Int64) (v_told_losers : Int32) (v_told_now : Nat → Int64) (v_told_stones : Nat → Int64) (v_told_standing : Nat → Int64) (v_told_open : Nat → Int32) (v_told_fallen : Nat → Int32) (x1 : Int32) (x4 : Int32) (x6 : Int32), iter (fun _ _ _ _ _ _ _ _ _ _ _ _ _ _ _ _ => none) (f_x_write_N63_3 v_wall_courses v_wall_columns v_wall_jump v_wall_stones v_hands_told v_hands_mood v_hands_strong v_frosts_told v_frosts_year v_frosts_force v_gappings_told v_gappings_year v_gappings_column v_gappings_hand v_sheets0_form v_sheets0_size v_sheets1_form v_sheets1_size v_sheets2_form v_sheets2_size v_sheets3_form v_sheets3_size) n v_toldIsStale v_latestFinding v_sheets0_items v_sheets1_items v_sheets2_items v_sheets3_items v_told_all v_told_losers v_told_now v_told_stones v_told_standing v_told_open v_told_fallen x1 x4 x6 = some r → ∀ (H : Heap) (locs : List Loc) (ls : Array Slot), gW g A s (W_x_write g h0 h1 h2 h3 h4 h5 h6 h7 h8 h9 h10 h11 h12 h13 h14 h15 h16 h17 h18 h19 h20 h21 h22 h23 h24 h25 h26 h27 h28 h29 h30 h31 h32 h33 v_toldIsStale v_latestFinding v_wall_courses v_wall_columns v_wall_fault v_wall_jump v_wall_stones v_hands_told v_hands_fault v_hands_mood v_hands_strong v_frosts_told v_frosts_year v_frosts_force v_gappings_told v_gappings_year v_gappings_column v_gappings_hand v_sheets0_form v_sheets0_size v_sheets0_items v_sheets1_form v_sheets1_size v_sheets1_items v_sheets2_form v_sheets2_size v_sheets2_items v_sheets3_form v_sheets3_size v_sheets3_items v_told_all v_told_losers v_told_now v_told_stones v_told_standing v_told_open v_told_fallen) H locs → lv_has ls 7 [(1, .int x1), (3, .ref h19), (4, .int x4), (5, .ref h22), (6, .int x6)] → W p l e rm_x_write s m args below meth c H locs 0 0 (gQi below args s A g r.1 (W_x_write g h0 h1 h2 h3 h4 h5 h6 h7 h8 h9 h10 h11 h12 h13 h14 h15 h16 h17 h18 h19 h20 h21 h22 h23 h24 h25 h26 h27 h28 h29 h30 h31 h32 h33 r.2.1 r.2.2.1 v_wall_courses v_wall_columns v_wall_fault v_wall_jump v_wall_stones v_hands_told v_hands_fault v_hands_mood v_hands_strong v_frosts_told v_frosts_year v_frosts_force v_gappings_told v_gappings_year v_gappings_column v_gappings_hand v_sheets0_form v_sheets0_size r.2.2.2.1 v_sheets1_form v_sheets1_size r.2.2.2.2.1 v_sheets2_form v_sheets2_size r.2.2.2.2.2.1 v_sheets3_form v_sheets3_size r.2.2.2.2.2.2.1 r.2.2.2.2.2.2.2.1 r.2.2.2.2.2.2.2.2.1 r.2.2.2.2.2.2.2.2.2.1 r.2.2.2.2.2.2.2.2.2.2.1 r.2.2.2.2.2.2.2.2.2.2.2.1 r.2.2.2.2.2.2.2.2.2.2.2.2.1 r.2.2.2.2.2.2.2.2.2.2.2.2.2)) (F0 m 63 ls []) := by
  intro n
  induction n with
  | zero =>
    intro v_toldIsStale v_latestFinding v_sheets0_items v_sheets1_items v_sheets2_items v_sheets3_items v_told_all v_told_losers v_told_now v_told_stones v_told_standing v_told_open v_told_fallen x1 x4 x6 hm
    cases hm
  | succ n ih =>
    exact n_x_write_N63_3 C0  ih
set_option maxHeartbeats 1000000 in
set_option maxRecDepth 100000 in
theorem c_x_write (l : Launch) (g : gG) (sz : Nat) (h0 h1 h2 h3 h4 h5 h6 h7 h8 h9 h10 h11 h12 h13 h14 h15 h16 h17 h18 h19 h20 h21 h22 h23 h24 h25 h26 h27 h28 h29 h30 h31 h32 h33 : Nat) (v_toldIsStale : Int32) (v_latestFinding : Int32) (v_wall_courses : Int32) (v_wall_columns : Int32) (v_wall_fault : Int32) (v_wall_jump : Int32) (v_wall_stones : Nat → Int64) (v_hands_told : Int32) (v_hands_fault : Int32) (v_hands_mood : Nat → Int32) (v_hands_strong : Nat → Int32) (v_frosts_told : Int32) (v_frosts_year : Nat → Int32) (v_frosts_force : Nat → Int32) (v_gappings_told : Int32) (v_gappings_year : Nat → Int32) (v_gappings_column : Nat → Int32) (v_gappings_hand : Nat → Int32) (v_sheets0_form : Int32) (v_sheets0_size : Int32) (v_sheets0_items : Nat → Int32) (v_sheets1_form : Int32) (v_sheets1_size : Int32) (v_sheets1_items : Nat → Int32) (v_sheets2_form : Int32) (v_sheets2_size : Int32) (v_sheets2_items : Nat → Int32) (v_sheets3_form : Int32) (v_sheets3_size : Int32) (v_sheets3_items : Nat → Int32) (v_told_all : Int64) (v_told_losers : Int32) (v_told_now : Nat → Int64) (v_told_stones : Nat → Int64) (v_told_standing : Nat → Int64) (v_told_open : Nat → Int32) (v_told_fallen : Nat → Int32) (a0 : Int32) (a1 : Int32) (r : (Int32 × Int32 × Int32 × (Nat → Int32) × (Nat → Int32) × (Nat → Int32) × (Nat → Int32) × Int64 × Int32 × (Nat → Int64) × (Nat → Int64) × (Nat → Int64) × (Nat → Int32) × (Nat → Int32))) (hm : f_x_write v_toldIsStale v_latestFinding v_wall_courses v_wall_columns v_wall_jump v_wall_stones v_hands_told v_hands_mood v_hands_strong v_frosts_told v_frosts_year v_frosts_force v_gappings_told v_gappings_year v_gappings_column v_gappings_hand v_sheets0_form v_sheets0_size v_sheets0_items v_sheets1_form v_sheets1_size v_sheets1_items v_sheets2_form v_sheets2_size v_sheets2_items v_sheets3_form v_sheets3_size v_sheets3_items v_told_all v_told_losers v_told_now v_told_stones v_told_standing v_told_open v_told_fallen a0 a1 = some r) : gMi l yX8_write cX8_write 7 (some .int) rm_x_write g sz [.ref h0, .int a0, .int a1] (W_x_write g h0 h1 h2 h3 h4 h5 h6 h7 h8 h9 h10 h11 h12 h13 h14 h15 h16 h17 h18 h19 h20 h21 h22 h23 h24 h25 h26 h27 h28 h29 h30 h31 h32 h33 v_toldIsStale v_latestFinding v_wall_courses v_wall_columns v_wall_fault v_wall_jump v_wall_stones v_hands_told v_hands_fault v_hands_mood v_hands_strong v_frosts_told v_frosts_year v_frosts_force v_gappings_told v_gappings_year v_gappings_column v_gappings_hand v_sheets0_form v_sheets0_size v_sheets0_items v_sheets1_form v_sheets1_size v_sheets1_items v_sheets2_form v_sheets2_size v_sheets2_items v_sheets3_form v_sheets3_size v_sheets3_items v_told_all v_told_losers v_told_now v_told_stones v_told_standing v_told_open v_told_fallen) r.1 (W_x_write g h0 h1 h2 h3 h4 h5 h6 h7 h8 h9 h10 h11 h12 h13 h14 h15 h16 h17 h18 h19 h20 h21 h22 h23 h24 h25 h26 h27 h28 h29 h30 h31 h32 h33 r.2.1 r.2.2.1 v_wall_courses v_wall_columns v_wall_fault v_wall_jump v_wall_stones v_hands_told v_hands_fault v_hands_mood v_hands_strong v_frosts_told v_frosts_year v_frosts_force v_gappings_told v_gappings_year v_gappings_column v_gappings_hand v_sheets0_form v_sheets0_size r.2.2.2.1 v_sheets1_form v_sheets1_size r.2.2.2.2.1 v_sheets2_form v_sheets2_size r.2.2.2.2.2.1 v_sheets3_form v_sheets3_size r.2.2.2.2.2.2.1 r.2.2.2.2.2.2.2.1 r.2.2.2.2.2.2.2.2.1 r.2.2.2.2.2.2.2.2.2.1 r.2.2.2.2.2.2.2.2.2.2.1 r.2.2.2.2.2.2.2.2.2.2.2.1 r.2.2.2.2.2.2.2.2.2.2.2.2.1 r.2.2.2.2.2.2.2.2.2.2.2.2.2) := by
  unfold f_x_write at hm
  refine gEnterI (by decide) (Nat.le_of_ble_eq_true rfl) (fun p e s m below meth c A C0 H locs hw ls hl => ?_)
  obtain ⟨hx, hb, hr, hml, hown, hts, hlocks, hK, hA⟩ := id C0
  have C0 : gX p s m [.ref h0, .int a0, .int a1].toArray meth c cX8_write 7 (some .int) RX8 g A := C0
  have hl : lv_has ls 7 [(0, .ref h0), (1, .int a0), (2, .int a1)] := hl
  refine lv_iload_n hx hb dX8_write_0 rfl (lv_at hl 1 rfl) ?_
  obtain ⟨o1, ho1, hm⟩ := bindE hm
  refine gCalli (ws' := (W_x_write g h0 h1 h2 h3 h4 h5 h6 h7 h8 h9 h10 h11 h12 h13 h14 h15 h16 h17 h18 h19 h20 h21 h22 h23 h24 h25 h26 h27 h28 h29 h30 h31 h32 h33 v_toldIsStale v_latestFinding v_wall_courses v_wall_columns v_wall_fault v_wall_jump v_wall_stones v_hands_told v_hands_fault v_hands_mood v_hands_strong v_frosts_told v_frosts_year v_frosts_force v_gappings_told v_gappings_year v_gappings_column v_gappings_hand v_sheets0_form v_sheets0_size v_sheets0_items v_sheets1_form v_sheets1_size v_sheets1_items v_sheets2_form v_sheets2_size v_sheets2_items v_sheets3_form v_sheets3_size v_sheets3_items v_told_all v_told_losers v_told_now v_told_stones v_told_standing v_told_open v_told_fallen)) C0 hw (gRunS (As := [.int a0]) (rest := []) C0 hw lkX8_148 (c_x_isYear l g H.size  a0 o1 ho1) ⟨rfl, rfl⟩ ⟨Nat.le_of_ble_eq_true rfl, Nat.le_of_ble_eq_true rfl⟩ [] (by decide) rfl rfl hl.1 rfl (Nat.le_of_ble_eq_true rfl) dX8_write_1) [] [0, 1, 2, 3, 4, 5, 6, 7, 8, 9, 10, 11, 12, 13, 14, 15, 16, 17, 18, 19, 20, 21, 22, 23, 24, 25, 26, 27] rfl rfl ⟨rfl, rfl, rfl, rfl, rfl, rfl, rfl, rfl, rfl, rfl, rfl, rfl, rfl, rfl, rfl, rfl, rfl, rfl, rfl, rfl, rfl, rfl, rfl, rfl, rfl, rfl, rfl, rfl, trivial⟩ [h0, h1, h2, h3, h4, h5, h6, h7, h8, h9, h10, h11, h12, h13, h14, h15, h16, h17, h18, h19, h20, h21, h22, h23, h24, h25, h26, h27] rfl rfl 28 rfl (by decide +kernel) (fun H locs hw => ?_)
  refine lv_if_eq (tgt := 14) hx hb dX8_write_4 (by decide) (fun hc => ?_) (fun hc => ?_)
  · have hm := ipos hc hm
    refine lv_bipush (v := -2) hx hb dX8_write_14 (by decide) ?_
    have hm := Option.some.inj hm
    subst hm
    exact gRetI C0 hw dX8_write_16
  · have hm := ineg hc hm
    refine lv_iload_n hx hb dX8_write_7 rfl (lv_at hl 2 rfl) ?_
    obtain ⟨o8, ho8, hm⟩ := bindE hm
    refine gCalli (ws' := (W_x_write g h0 h1 h2 h3 h4 h5 h6 h7 h8 h9 h10 h11 h12 h13 h14 h15 h16 h17 h18 h19 h20 h21 h22 h23 h24 h25 h26 h27 h28 h29 h30 h31 h32 h33 v_toldIsStale v_latestFinding v_wall_courses v_wall_columns v_wall_fault v_wall_jump v_wall_stones v_hands_told v_hands_fault v_hands_mood v_hands_strong v_frosts_told v_frosts_year v_frosts_force v_gappings_told v_gappings_year v_gappings_column v_gappings_hand v_sheets0_form v_sheets0_size v_sheets0_items v_sheets1_form v_sheets1_size v_sheets1_items v_sheets2_form v_sheets2_size v_sheets2_items v_sheets3_form v_sheets3_size v_sheets3_items v_told_all v_told_losers v_told_now v_told_stones v_told_standing v_told_open v_told_fallen)) C0 hw (gRunS (As := [.int a1]) (rest := []) C0 hw lkX8_155 (c_x_isSheet l g H.size  a1 o8 ho8) ⟨rfl, rfl⟩ ⟨Nat.le_of_ble_eq_true rfl, Nat.le_of_ble_eq_true rfl⟩ [] (by decide) rfl rfl hl.1 rfl (Nat.le_of_ble_eq_true rfl) dX8_write_8) [] [0, 1, 2, 3, 4, 5, 6, 7, 8, 9, 10, 11, 12, 13, 14, 15, 16, 17, 18, 19, 20, 21, 22, 23, 24, 25, 26, 27] rfl rfl ⟨rfl, rfl, rfl, rfl, rfl, rfl, rfl, rfl, rfl, rfl, rfl, rfl, rfl, rfl, rfl, rfl, rfl, rfl, rfl, rfl, rfl, rfl, rfl, rfl, rfl, rfl, rfl, rfl, trivial⟩ [h0, h1, h2, h3, h4, h5, h6, h7, h8, h9, h10, h11, h12, h13, h14, h15, h16, h17, h18, h19, h20, h21, h22, h23, h24, h25, h26, h27] rfl rfl 28 rfl (by decide +kernel) (fun H locs hw => ?_)
    refine lv_if_ne (tgt := 17) hx hb dX8_write_11 (by decide) (fun hc => ?_) (fun hc => ?_)
    · have hm := ineg hc hm
      refine lv_aload_n hx hb dX8_write_17 rfl (lv_at hl 0 rfl) ?_
      refine gGet C0 hw flX8_61 0 rfl rfl dX8_write_18 ?_
      refine lv_iload_n hx hb dX8_write_21 rfl (lv_at hl 2 rfl) ?_
      by_cases hs0 : a1 = (0 : Int32)
      · have hm := ipos hs0 hm
        refine gAldL C0 hw 21 rfl hs0 (inbE (by decide)) rfl dX8_write_22 ?_
        refine lv_astore_n (lv' := [(3, .ref h13), (0, .ref h0), (1, .int a0), (2, .int a1)]) hx hb dX8_write_23 rfl hl (by decide) rfl (fun ls hl => ?_)
        refine lv_aload_n hx hb dX8_write_24 rfl (lv_at hl 0 rfl) ?_
        refine gGet C0 hw flX8_158 13 rfl rfl dX8_write_25 ?_
        refine lv_iconst (v := -1) hx hb dX8_write_28 (by decide) ?_
        refine lv_icmp_ne (tgt := 38) hx hb dX8_write_29 (by decide) (fun hc => ?_) (fun hc => ?_)
        · have hm := ineg hc hm
          refine lv_aload_n hx hb dX8_write_38 rfl (lv_at hl 0 rfl) ?_
          refine gGet C0 hw flX8_165 13 rfl rfl dX8_write_39 ?_
          refine lv_aload_n hx hb dX8_write_42 rfl (lv_at hl 1 rfl) ?_
          refine gGet C0 hw flX8_24 0 rfl rfl dX8_write_43 ?_
          refine gGet C0 hw flX8_182 1 rfl rfl dX8_write_46 ?_
          refine gMin C0 hl.1 mlX8_282 ms_min mi_math mc_min (Nat.le_of_ble_eq_true rfl) (Nat.le_of_ble_eq_true rfl) dX8_write_49 ?_
          refine lv_istore (lv' := [(4, .int (mmin v_sheets0_size v_wall_columns)), (3, .ref h13), (0, .ref h0), (1, .int a0), (2, .int a1)]) hx hb dX8_write_52 hl (by decide) rfl (fun ls hl => ?_)
          refine lv_aload_n hx hb dX8_write_54 rfl (lv_at hl 2 rfl) ?_
          obtain ⟨o55, ho55, hm⟩ := bindE hm
          refine gCallr (ws' := (W_x_write g h0 h1 h2 h3 h4 h5 h6 h7 h8 h9 h10 h11 h12 h13 h14 h15 h16 h17 h18 h19 h20 h21 h22 h23 h24 h25 h26 h27 h28 h29 h30 h31 h32 h33 o55.1 v_latestFinding v_wall_courses v_wall_columns v_wall_fault v_wall_jump v_wall_stones v_hands_told v_hands_fault v_hands_mood v_hands_strong v_frosts_told v_frosts_year v_frosts_force v_gappings_told v_gappings_year v_gappings_column v_gappings_hand v_sheets0_form v_sheets0_size v_sheets0_items v_sheets1_form v_sheets1_size v_sheets1_items v_sheets2_form v_sheets2_size v_sheets2_items v_sheets3_form v_sheets3_size v_sheets3_items o55.2.1 o55.2.2.1 o55.2.2.2.1 o55.2.2.2.2.1 o55.2.2.2.2.2.1 o55.2.2.2.2.2.2.1 o55.2.2.2.2.2.2.2)) C0 hw (gRunV (As := []) (rest := []) C0 hw lkX8_171 (c_x_asTold l g H.size h0 h1 h2 h3 h4 h5 h6 h7 h8 h9 h10 h11 h12 h22 h23 h24 h25 h26 h27 h28 h29 h30 h31 h21 h32 h33 v_toldIsStale v_latestFinding v_wall_courses v_wall_columns v_wall_fault v_wall_jump v_wall_stones v_hands_told v_hands_fault v_hands_mood v_hands_strong v_frosts_told v_frosts_year v_frosts_force v_gappings_told v_gappings_year v_gappings_column v_gappings_hand v_told_all v_told_losers v_told_now v_told_stones v_told_standing v_told_open v_told_fallen o55 ho55) ⟨rfl, rfl⟩ ⟨Nat.le_of_ble_eq_true rfl, Nat.le_of_ble_eq_true rfl⟩ [0, 1, 2, 3, 4, 5, 6, 7, 8, 9, 10, 11, 12, 22, 23, 24, 25, 26, 27] (by decide) rfl 0 rfl rfl rfl hl.1 rfl (Nat.le_of_ble_eq_true rfl) dX8_write_55) [0, 1, 2, 3, 4, 5, 6, 7, 8, 9, 10, 11, 12, 22, 23, 24, 25, 26, 27] [13, 14, 15, 16, 17, 18, 19, 20, 21] rfl rfl ⟨rfl, rfl, rfl, rfl, rfl, rfl, rfl, rfl, rfl, trivial⟩ [h0, h1, h2, h3, h4, h5, h6, h7, h8, h9, h10, h11, h12, h13, h14, h15, h16, h17, h18, h19, h20, h21, h22, h23, h24, h25, h26, h27] rfl rfl 28 rfl (by decide +kernel) (fun H locs hw => ?_)
          refine lv_astore (lv' := [(5, .ref h22), (4, .int (mmin v_sheets0_size v_wall_columns)), (3, .ref h13), (0, .ref h0), (1, .int a0), (2, .int a1)]) hx hb dX8_write_58 hl (by decide) rfl (fun ls hl => ?_)
          refine lv_iconst (v := 0) hx hb dX8_write_60 (by decide) ?_
          refine lv_istore (lv' := [(6, .int (0 : Int32)), (5, .ref h22), (4, .int (mmin v_sheets0_size v_wall_columns)), (3, .ref h13), (0, .ref h0), (1, .int a0), (2, .int a1)]) hx hb dX8_write_61 hl (by decide) rfl (fun ls hl => ?_)
          exact l_x_write_N63_0 C0  1000 _ _ _ _ _ _ _ _ _ _ _ _ _ _ _ _ hm _ _ _ hw (lv_sub hl [5, 3, 2, 1, 0] rfl)
        · have hm := ipos hc hm
          refine lv_aload_n hx hb dX8_write_32 rfl (lv_at hl 1 rfl) ?_
          refine lv_iconst (v := 1) hx hb dX8_write_33 (by decide) ?_
          obtain ⟨o34, ho34, hm⟩ := bindE hm
          refine gCalli (ws' := (W_x_write g h0 h1 h2 h3 h4 h5 h6 h7 h8 h9 h10 h11 h12 h13 h14 h15 h16 h17 h18 h19 h20 h21 h22 h23 h24 h25 h26 h27 h28 h29 h30 h31 h32 h33 v_toldIsStale o34.2 v_wall_courses v_wall_columns v_wall_fault v_wall_jump v_wall_stones v_hands_told v_hands_fault v_hands_mood v_hands_strong v_frosts_told v_frosts_year v_frosts_force v_gappings_told v_gappings_year v_gappings_column v_gappings_hand v_sheets0_form v_sheets0_size v_sheets0_items v_sheets1_form v_sheets1_size v_sheets1_items v_sheets2_form v_sheets2_size v_sheets2_items v_sheets3_form v_sheets3_size v_sheets3_items v_told_all v_told_losers v_told_now v_told_stones v_told_standing v_told_open v_told_fallen)) C0 hw (gRunV (As := [.int (1 : Int32)]) (rest := []) C0 hw lkX8_161 (c_x_found l g H.size h0 h28 h29 h1 h3 h6 h30 h9 h31 h21 h22 h32 h33 v_toldIsStale v_latestFinding (1 : Int32) o34 ho34) ⟨rfl, rfl⟩ ⟨Nat.le_of_ble_eq_true rfl, Nat.le_of_ble_eq_true rfl⟩ [0] (by decide) rfl 0 rfl rfl rfl hl.1 rfl (Nat.le_of_ble_eq_true rfl) dX8_write_34) [0] [1, 2, 3, 4, 5, 6, 7, 8, 9, 10, 11, 12, 13, 14, 15, 16, 17, 18, 19, 20, 21, 22, 23, 24, 25, 26, 27] rfl rfl ⟨rfl, rfl, rfl, rfl, rfl, rfl, rfl, rfl, rfl, rfl, rfl, rfl, rfl, rfl, rfl, rfl, rfl, rfl, rfl, rfl, rfl, rfl, rfl, rfl, rfl, rfl, rfl, trivial⟩ [h0, h1, h2, h3, h4, h5, h6, h7, h8, h9, h10, h11, h12, h13, h14, h15, h16, h17, h18, h19, h20, h21, h22, h23, h24, h25, h26, h27] rfl rfl 28 rfl (by decide +kernel) (fun H locs hw => ?_)
          have hm := Option.some.inj hm
          subst hm
          exact gRetI C0 hw dX8_write_37
      have hm := ineg hs0 hm
      by_cases hs1 : a1 = (1 : Int32)
      · have hm := ipos hs1 hm
        refine gAldL C0 hw 21 rfl hs1 (inbE (by decide)) rfl dX8_write_22 ?_
        refine lv_astore_n (lv' := [(3, .ref h15), (0, .ref h0), (1, .int a0), (2, .int a1)]) hx hb dX8_write_23 rfl hl (by decide) rfl (fun ls hl => ?_)
        refine lv_aload_n hx hb dX8_write_24 rfl (lv_at hl 0 rfl) ?_
        refine gGet C0 hw flX8_158 15 rfl rfl dX8_write_25 ?_
        refine lv_iconst (v := -1) hx hb dX8_write_28 (by decide) ?_
        refine lv_icmp_ne (tgt := 38) hx hb dX8_write_29 (by decide) (fun hc => ?_) (fun hc => ?_)
        · have hm := ineg hc hm
          refine lv_aload_n hx hb dX8_write_38 rfl (lv_at hl 0 rfl) ?_
          refine gGet C0 hw flX8_165 15 rfl rfl dX8_write_39 ?_
          refine lv_aload_n hx hb dX8_write_42 rfl (lv_at hl 1 rfl) ?_
          refine gGet C0 hw flX8_24 0 rfl rfl dX8_write_43 ?_
          refine gGet C0 hw flX8_182 1 rfl rfl dX8_write_46 ?_
          refine gMin C0 hl.1 mlX8_282 ms_min mi_math mc_min (Nat.le_of_ble_eq_true rfl) (Nat.le_of_ble_eq_true rfl) dX8_write_49 ?_
          refine lv_istore (lv' := [(4, .int (mmin v_sheets1_size v_wall_columns)), (3, .ref h15), (0, .ref h0), (1, .int a0), (2, .int a1)]) hx hb dX8_write_52 hl (by decide) rfl (fun ls hl => ?_)
          refine lv_aload_n hx hb dX8_write_54 rfl (lv_at hl 2 rfl) ?_
          obtain ⟨o55, ho55, hm⟩ := bindE hm
          refine gCallr (ws' := (W_x_write g h0 h1 h2 h3 h4 h5 h6 h7 h8 h9 h10 h11 h12 h13 h14 h15 h16 h17 h18 h19 h20 h21 h22 h23 h24 h25 h26 h27 h28 h29 h30 h31 h32 h33 o55.1 v_latestFinding v_wall_courses v_wall_columns v_wall_fault v_wall_jump v_wall_stones v_hands_told v_hands_fault v_hands_mood v_hands_strong v_frosts_told v_frosts_year v_frosts_force v_gappings_told v_gappings_year v_gappings_column v_gappings_hand v_sheets0_form v_sheets0_size v_sheets0_items v_sheets1_form v_sheets1_size v_sheets1_items v_sheets2_form v_sheets2_size v_sheets2_items v_sheets3_form v_sheets3_size v_sheets3_items o55.2.1 o55.2.2.1 o55.2.2.2.1 o55.2.2.2.2.1 o55.2.2.2.2.2.1 o55.2.2.2.2.2.2.1 o55.2.2.2.2.2.2.2)) C0 hw (gRunV (As := []) (rest := []) C0 hw lkX8_171 (c_x_asTold l g H.size h0 h1 h2 h3 h4 h5 h6 h7 h8 h9 h10 h11 h12 h22 h23 h24 h25 h26 h27 h28 h29 h30 h31 h21 h32 h33 v_toldIsStale v_latestFinding v_wall_courses v_wall_columns v_wall_fault v_wall_jump v_wall_stones v_hands_told v_hands_fault v_hands_mood v_hands_strong v_frosts_told v_frosts_year v_frosts_force v_gappings_told v_gappings_year v_gappings_column v_gappings_hand v_told_all v_told_losers v_told_now v_told_stones v_told_standing v_told_open v_told_fallen o55 ho55) ⟨rfl, rfl⟩ ⟨Nat.le_of_ble_eq_true rfl, Nat.le_of_ble_eq_true rfl⟩ [0, 1, 2, 3, 4, 5, 6, 7, 8, 9, 10, 11, 12, 22, 23, 24, 25, 26, 27] (by decide) rfl 0 rfl rfl rfl hl.1 rfl (Nat.le_of_ble_eq_true rfl) dX8_write_55) [0, 1, 2, 3, 4, 5, 6, 7, 8, 9, 10, 11, 12, 22, 23, 24, 25, 26, 27] [13, 14, 15, 16, 17, 18, 19, 20, 21] rfl rfl ⟨rfl, rfl, rfl, rfl, rfl, rfl, rfl, rfl, rfl, trivial⟩ [h0, h1, h2, h3, h4, h5, h6, h7, h8, h9, h10, h11, h12, h13, h14, h15, h16, h17, h18, h19, h20, h21, h22, h23, h24, h25, h26, h27] rfl rfl 28 rfl (by decide +kernel) (fun H locs hw => ?_)
          refine lv_astore (lv' := [(5, .ref h22), (4, .int (mmin v_sheets1_size v_wall_columns)), (3, .ref h15), (0, .ref h0), (1, .int a0), (2, .int a1)]) hx hb dX8_write_58 hl (by decide) rfl (fun ls hl => ?_)
          refine lv_iconst (v := 0) hx hb dX8_write_60 (by decide) ?_
          refine lv_istore (lv' := [(6, .int (0 : Int32)), (5, .ref h22), (4, .int (mmin v_sheets1_size v_wall_columns)), (3, .ref h15), (0, .ref h0), (1, .int a0), (2, .int a1)]) hx hb dX8_write_61 hl (by decide) rfl (fun ls hl => ?_)
          exact l_x_write_N63_1 C0  1000 _ _ _ _ _ _ _ _ _ _ _ _ _ _ _ _ hm _ _ _ hw (lv_sub hl [5, 3, 2, 1, 0] rfl)
        · have hm := ipos hc hm
          refine lv_aload_n hx hb dX8_write_32 rfl (lv_at hl 1 rfl) ?_
          refine lv_iconst (v := 1) hx hb dX8_write_33 (by decide) ?_
          obtain ⟨o34, ho34, hm⟩ := bindE hm
          refine gCalli (ws' := (W_x_write g h0 h1 h2 h3 h4 h5 h6 h7 h8 h9 h10 h11 h12 h13 h14 h15 h16 h17 h18 h19 h20 h21 h22 h23 h24 h25 h26 h27 h28 h29 h30 h31 h32 h33 v_toldIsStale o34.2 v_wall_courses v_wall_columns v_wall_fault v_wall_jump v_wall_stones v_hands_told v_hands_fault v_hands_mood v_hands_strong v_frosts_told v_frosts_year v_frosts_force v_gappings_told v_gappings_year v_gappings_column v_gappings_hand v_sheets0_form v_sheets0_size v_sheets0_items v_sheets1_form v_sheets1_size v_sheets1_items v_sheets2_form v_sheets2_size v_sheets2_items v_sheets3_form v_sheets3_size v_sheets3_items v_told_all v_told_losers v_told_now v_told_stones v_told_standing v_told_open v_told_fallen)) C0 hw (gRunV (As := [.int (1 : Int32)]) (rest := []) C0 hw lkX8_161 (c_x_found l g H.size h0 h28 h29 h1 h3 h6 h30 h9 h31 h21 h22 h32 h33 v_toldIsStale v_latestFinding (1 : Int32) o34 ho34) ⟨rfl, rfl⟩ ⟨Nat.le_of_ble_eq_true rfl, Nat.le_of_ble_eq_true rfl⟩ [0] (by decide) rfl 0 rfl rfl rfl hl.1 rfl (Nat.le_of_ble_eq_true rfl) dX8_write_34) [0] [1, 2, 3, 4, 5, 6, 7, 8, 9, 10, 11, 12, 13, 14, 15, 16, 17, 18, 19, 20, 21, 22, 23, 24, 25, 26, 27] rfl rfl ⟨rfl, rfl, rfl, rfl, rfl, rfl, rfl, rfl, rfl, rfl, rfl, rfl, rfl, rfl, rfl, rfl, rfl, rfl, rfl, rfl, rfl, rfl, rfl, rfl, rfl, rfl, rfl, trivial⟩ [h0, h1, h2, h3, h4, h5, h6, h7, h8, h9, h10, h11, h12, h13, h14, h15, h16, h17, h18, h19, h20, h21, h22, h23, h24, h25, h26, h27] rfl rfl 28 rfl (by decide +kernel) (fun H locs hw => ?_)
          have hm := Option.some.inj hm
          subst hm
          exact gRetI C0 hw dX8_write_37
      have hm := ineg hs1 hm
      by_cases hs2 : a1 = (2 : Int32)
      · have hm := ipos hs2 hm
        refine gAldL C0 hw 21 rfl hs2 (inbE (by decide)) rfl dX8_write_22 ?_
        refine lv_astore_n (lv' := [(3, .ref h17), (0, .ref h0), (1, .int a0), (2, .int a1)]) hx hb dX8_write_23 rfl hl (by decide) rfl (fun ls hl => ?_)
        refine lv_aload_n hx hb dX8_write_24 rfl (lv_at hl 0 rfl) ?_
        refine gGet C0 hw flX8_158 17 rfl rfl dX8_write_25 ?_
        refine lv_iconst (v := -1) hx hb dX8_write_28 (by decide) ?_
        refine lv_icmp_ne (tgt := 38) hx hb dX8_write_29 (by decide) (fun hc => ?_) (fun hc => ?_)
        · have hm := ineg hc hm
          refine lv_aload_n hx hb dX8_write_38 rfl (lv_at hl 0 rfl) ?_
          refine gGet C0 hw flX8_165 17 rfl rfl dX8_write_39 ?_
          refine lv_aload_n hx hb dX8_write_42 rfl (lv_at hl 1 rfl) ?_
          refine gGet C0 hw flX8_24 0 rfl rfl dX8_write_43 ?_
          refine gGet C0 hw flX8_182 1 rfl rfl dX8_write_46 ?_
          refine gMin C0 hl.1 mlX8_282 ms_min mi_math mc_min (Nat.le_of_ble_eq_true rfl) (Nat.le_of_ble_eq_true rfl) dX8_write_49 ?_
          refine lv_istore (lv' := [(4, .int (mmin v_sheets2_size v_wall_columns)), (3, .ref h17), (0, .ref h0), (1, .int a0), (2, .int a1)]) hx hb dX8_write_52 hl (by decide) rfl (fun ls hl => ?_)
          refine lv_aload_n hx hb dX8_write_54 rfl (lv_at hl 2 rfl) ?_
          obtain ⟨o55, ho55, hm⟩ := bindE hm
          refine gCallr (ws' := (W_x_write g h0 h1 h2 h3 h4 h5 h6 h7 h8 h9 h10 h11 h12 h13 h14 h15 h16 h17 h18 h19 h20 h21 h22 h23 h24 h25 h26 h27 h28 h29 h30 h31 h32 h33 o55.1 v_latestFinding v_wall_courses v_wall_columns v_wall_fault v_wall_jump v_wall_stones v_hands_told v_hands_fault v_hands_mood v_hands_strong v_frosts_told v_frosts_year v_frosts_force v_gappings_told v_gappings_year v_gappings_column v_gappings_hand v_sheets0_form v_sheets0_size v_sheets0_items v_sheets1_form v_sheets1_size v_sheets1_items v_sheets2_form v_sheets2_size v_sheets2_items v_sheets3_form v_sheets3_size v_sheets3_items o55.2.1 o55.2.2.1 o55.2.2.2.1 o55.2.2.2.2.1 o55.2.2.2.2.2.1 o55.2.2.2.2.2.2.1 o55.2.2.2.2.2.2.2)) C0 hw (gRunV (As := []) (rest := []) C0 hw lkX8_171 (c_x_asTold l g H.size h0 h1 h2 h3 h4 h5 h6 h7 h8 h9 h10 h11 h12 h22 h23 h24 h25 h26 h27 h28 h29 h30 h31 h21 h32 h33 v_toldIsStale v_latestFinding v_wall_courses v_wall_columns v_wall_fault v_wall_jump v_wall_stones v_hands_told v_hands_fault v_hands_mood v_hands_strong v_frosts_told v_frosts_year v_frosts_force v_gappings_told v_gappings_year v_gappings_column v_gappings_hand v_told_all v_told_losers v_told_now v_told_stones v_told_standing v_told_open v_told_fallen o55 ho55) ⟨rfl, rfl⟩ ⟨Nat.le_of_ble_eq_true rfl, Nat.le_of_ble_eq_true rfl⟩ [0, 1, 2, 3, 4, 5, 6, 7, 8, 9, 10, 11, 12, 22, 23, 24, 25, 26, 27] (by decide) rfl 0 rfl rfl rfl hl.1 rfl (Nat.le_of_ble_eq_true rfl) dX8_write_55) [0, 1, 2, 3, 4, 5, 6, 7, 8, 9, 10, 11, 12, 22, 23, 24, 25, 26, 27] [13, 14, 15, 16, 17, 18, 19, 20, 21] rfl rfl ⟨rfl, rfl, rfl, rfl, rfl, rfl, rfl, rfl, rfl, trivial⟩ [h0, h1, h2, h3, h4, h5, h6, h7, h8, h9, h10, h11, h12, h13, h14, h15, h16, h17, h18, h19, h20, h21, h22, h23, h24, h25, h26, h27] rfl rfl 28 rfl (by decide +kernel) (fun H locs hw => ?_)
          refine lv_astore (lv' := [(5, .ref h22), (4, .int (mmin v_sheets2_size v_wall_columns)), (3, .ref h17), (0, .ref h0), (1, .int a0), (2, .int a1)]) hx hb dX8_write_58 hl (by decide) rfl (fun ls hl => ?_)
          refine lv_iconst (v := 0) hx hb dX8_write_60 (by decide) ?_
          refine lv_istore (lv' := [(6, .int (0 : Int32)), (5, .ref h22), (4, .int (mmin v_sheets2_size v_wall_columns)), (3, .ref h17), (0, .ref h0), (1, .int a0), (2, .int a1)]) hx hb dX8_write_61 hl (by decide) rfl (fun ls hl => ?_)
          exact l_x_write_N63_2 C0  1000 _ _ _ _ _ _ _ _ _ _ _ _ _ _ _ _ hm _ _ _ hw (lv_sub hl [5, 3, 2, 1, 0] rfl)
        · have hm := ipos hc hm
          refine lv_aload_n hx hb dX8_write_32 rfl (lv_at hl 1 rfl) ?_
          refine lv_iconst (v := 1) hx hb dX8_write_33 (by decide) ?_
          obtain ⟨o34, ho34, hm⟩ := bindE hm
          refine gCalli (ws' := (W_x_write g h0 h1 h2 h3 h4 h5 h6 h7 h8 h9 h10 h11 h12 h13 h14 h15 h16 h17 h18 h19 h20 h21 h22 h23 h24 h25 h26 h27 h28 h29 h30 h31 h32 h33 v_toldIsStale o34.2 v_wall_courses v_wall_columns v_wall_fault v_wall_jump v_wall_stones v_hands_told v_hands_fault v_hands_mood v_hands_strong v_frosts_told v_frosts_year v_frosts_force v_gappings_told v_gappings_year v_gappings_column v_gappings_hand v_sheets0_form v_sheets0_size v_sheets0_items v_sheets1_form v_sheets1_size v_sheets1_items v_sheets2_form v_sheets2_size v_sheets2_items v_sheets3_form v_sheets3_size v_sheets3_items v_told_all v_told_losers v_told_now v_told_stones v_told_standing v_told_open v_told_fallen)) C0 hw (gRunV (As := [.int (1 : Int32)]) (rest := []) C0 hw lkX8_161 (c_x_found l g H.size h0 h28 h29 h1 h3 h6 h30 h9 h31 h21 h22 h32 h33 v_toldIsStale v_latestFinding (1 : Int32) o34 ho34) ⟨rfl, rfl⟩ ⟨Nat.le_of_ble_eq_true rfl, Nat.le_of_ble_eq_true rfl⟩ [0] (by decide) rfl 0 rfl rfl rfl hl.1 rfl (Nat.le_of_ble_eq_true rfl) dX8_write_34) [0] [1, 2, 3, 4, 5, 6, 7, 8, 9, 10, 11, 12, 13, 14, 15, 16, 17, 18, 19, 20, 21, 22, 23, 24, 25, 26, 27] rfl rfl ⟨rfl, rfl, rfl, rfl, rfl, rfl, rfl, rfl, rfl, rfl, rfl, rfl, rfl, rfl, rfl, rfl, rfl, rfl, rfl, rfl, rfl, rfl, rfl, rfl, rfl, rfl, rfl, trivial⟩ [h0, h1, h2, h3, h4, h5, h6, h7, h8, h9, h10, h11, h12, h13, h14, h15, h16, h17, h18, h19, h20, h21, h22, h23, h24, h25, h26, h27] rfl rfl 28 rfl (by decide +kernel) (fun H locs hw => ?_)
          have hm := Option.some.inj hm
          subst hm
          exact gRetI C0 hw dX8_write_37
      have hm := ineg hs2 hm
      by_cases hs3 : a1 = (3 : Int32)
      · have hm := ipos hs3 hm
        refine gAldL C0 hw 21 rfl hs3 (inbE (by decide)) rfl dX8_write_22 ?_
        refine lv_astore_n (lv' := [(3, .ref h19), (0, .ref h0), (1, .int a0), (2, .int a1)]) hx hb dX8_write_23 rfl hl (by decide) rfl (fun ls hl => ?_)
        refine lv_aload_n hx hb dX8_write_24 rfl (lv_at hl 0 rfl) ?_
        refine gGet C0 hw flX8_158 19 rfl rfl dX8_write_25 ?_
        refine lv_iconst (v := -1) hx hb dX8_write_28 (by decide) ?_
        refine lv_icmp_ne (tgt := 38) hx hb dX8_write_29 (by decide) (fun hc => ?_) (fun hc => ?_)
        · have hm := ineg hc hm
          refine lv_aload_n hx hb dX8_write_38 rfl (lv_at hl 0 rfl) ?_
          refine gGet C0 hw flX8_165 19 rfl rfl dX8_write_39 ?_
          refine lv_aload_n hx hb dX8_write_42 rfl (lv_at hl 1 rfl) ?_
          refine gGet C0 hw flX8_24 0 rfl rfl dX8_write_43 ?_
          refine gGet C0 hw flX8_182 1 rfl rfl dX8_write_46 ?_
          refine gMin C0 hl.1 mlX8_282 ms_min mi_math mc_min (Nat.le_of_ble_eq_true rfl) (Nat.le_of_ble_eq_true rfl) dX8_write_49 ?_
          refine lv_istore (lv' := [(4, .int (mmin v_sheets3_size v_wall_columns)), (3, .ref h19), (0, .ref h0), (1, .int a0), (2, .int a1)]) hx hb dX8_write_52 hl (by decide) rfl (fun ls hl => ?_)
          refine lv_aload_n hx hb dX8_write_54 rfl (lv_at hl 2 rfl) ?_
          obtain ⟨o55, ho55, hm⟩ := bindE hm
          refine gCallr (ws' := (W_x_write g h0 h1 h2 h3 h4 h5 h6 h7 h8 h9 h10 h11 h12 h13 h14 h15 h16 h17 h18 h19 h20 h21 h22 h23 h24 h25 h26 h27 h28 h29 h30 h31 h32 h33 o55.1 v_latestFinding v_wall_courses v_wall_columns v_wall_fault v_wall_jump v_wall_stones v_hands_told v_hands_fault v_hands_mood v_hands_strong v_frosts_told v_frosts_year v_frosts_force v_gappings_told v_gappings_year v_gappings_column v_gappings_hand v_sheets0_form v_sheets0_size v_sheets0_items v_sheets1_form v_sheets1_size v_sheets1_items v_sheets2_form v_sheets2_size v_sheets2_items v_sheets3_form v_sheets3_size v_sheets3_items o55.2.1 o55.2.2.1 o55.2.2.2.1 o55.2.2.2.2.1 o55.2.2.2.2.2.1 o55.2.2.2.2.2.2.1 o55.2.2.2.2.2.2.2)) C0 hw (gRunV (As := []) (rest := []) C0 hw lkX8_171 (c_x_asTold l g H.size h0 h1 h2 h3 h4 h5 h6 h7 h8 h9 h10 h11 h12 h22 h23 h24 h25 h26 h27 h28 h29 h30 h31 h21 h32 h33 v_toldIsStale v_latestFinding v_wall_courses v_wall_columns v_wall_fault v_wall_jump v_wall_stones v_hands_told v_hands_fault v_hands_mood v_hands_strong v_frosts_told v_frosts_year v_frosts_force v_gappings_told v_gappings_year v_gappings_column v_gappings_hand v_told_all v_told_losers v_told_now v_told_stones v_told_standing v_told_open v_told_fallen o55 ho55) ⟨rfl, rfl⟩ ⟨Nat.le_of_ble_eq_true rfl, Nat.le_of_ble_eq_true rfl⟩ [0, 1, 2, 3, 4, 5, 6, 7, 8, 9, 10, 11, 12, 22, 23, 24, 25, 26, 27] (by decide) rfl 0 rfl rfl rfl hl.1 rfl (Nat.le_of_ble_eq_true rfl) dX8_write_55) [0, 1, 2, 3, 4, 5, 6, 7, 8, 9, 10, 11, 12, 22, 23, 24, 25, 26, 27] [13, 14, 15, 16, 17, 18, 19, 20, 21] rfl rfl ⟨rfl, rfl, rfl, rfl, rfl, rfl, rfl, rfl, rfl, trivial⟩ [h0, h1, h2, h3, h4, h5, h6, h7, h8, h9, h10, h11, h12, h13, h14, h15, h16, h17, h18, h19, h20, h21, h22, h23, h24, h25, h26, h27] rfl rfl 28 rfl (by decide +kernel) (fun H locs hw => ?_)
          refine lv_astore (lv' := [(5, .ref h22), (4, .int (mmin v_sheets3_size v_wall_columns)), (3, .ref h19), (0, .ref h0), (1, .int a0), (2, .int a1)]) hx hb dX8_write_58 hl (by decide) rfl (fun ls hl => ?_)
          refine lv_iconst (v := 0) hx hb dX8_write_60 (by decide) ?_
          refine lv_istore (lv' := [(6, .int (0 : Int32)), (5, .ref h22), (4, .int (mmin v_sheets3_size v_wall_columns)), (3, .ref h19), (0, .ref h0), (1, .int a0), (2, .int a1)]) hx hb dX8_write_61 hl (by decide) rfl (fun ls hl => ?_)
          exact l_x_write_N63_3 C0  1000 _ _ _ _ _ _ _ _ _ _ _ _ _ _ _ _ hm _ _ _ hw (lv_sub hl [5, 3, 2, 1, 0] rfl)
        · have hm := ipos hc hm
          refine lv_aload_n hx hb dX8_write_32 rfl (lv_at hl 1 rfl) ?_
          refine lv_iconst (v := 1) hx hb dX8_write_33 (by decide) ?_
          obtain ⟨o34, ho34, hm⟩ := bindE hm
          refine gCalli (ws' := (W_x_write g h0 h1 h2 h3 h4 h5 h6 h7 h8 h9 h10 h11 h12 h13 h14 h15 h16 h17 h18 h19 h20 h21 h22 h23 h24 h25 h26 h27 h28 h29 h30 h31 h32 h33 v_toldIsStale o34.2 v_wall_courses v_wall_columns v_wall_fault v_wall_jump v_wall_stones v_hands_told v_hands_fault v_hands_mood v_hands_strong v_frosts_told v_frosts_year v_frosts_force v_gappings_told v_gappings_year v_gappings_column v_gappings_hand v_sheets0_form v_sheets0_size v_sheets0_items v_sheets1_form v_sheets1_size v_sheets1_items v_sheets2_form v_sheets2_size v_sheets2_items v_sheets3_form v_sheets3_size v_sheets3_items v_told_all v_told_losers v_told_now v_told_stones v_told_standing v_told_open v_told_fallen)) C0 hw (gRunV (As := [.int (1 : Int32)]) (rest := []) C0 hw lkX8_161 (c_x_found l g H.size h0 h28 h29 h1 h3 h6 h30 h9 h31 h21 h22 h32 h33 v_toldIsStale v_latestFinding (1 : Int32) o34 ho34) ⟨rfl, rfl⟩ ⟨Nat.le_of_ble_eq_true rfl, Nat.le_of_ble_eq_true rfl⟩ [0] (by decide) rfl 0 rfl rfl rfl hl.1 rfl (Nat.le_of_ble_eq_true rfl) dX8_write_34) [0] [1, 2, 3, 4, 5, 6, 7, 8, 9, 10, 11, 12, 13, 14, 15, 16, 17, 18, 19, 20, 21, 22, 23, 24, 25, 26, 27] rfl rfl ⟨rfl, rfl, rfl, rfl, rfl, rfl, rfl, rfl, rfl, rfl, rfl, rfl, rfl, rfl, rfl, rfl, rfl, rfl, rfl, rfl, rfl, rfl, rfl, rfl, rfl, rfl, rfl, trivial⟩ [h0, h1, h2, h3, h4, h5, h6, h7, h8, h9, h10, h11, h12, h13, h14, h15, h16, h17, h18, h19, h20, h21, h22, h23, h24, h25, h26, h27] rfl rfl 28 rfl (by decide +kernel) (fun H locs hw => ?_)
          have hm := Option.some.inj hm
          subst hm
          exact gRetI C0 hw dX8_write_37
      have hm := ineg hs3 hm
      cases hm
    · have hm := ipos hc hm
      refine lv_bipush (v := -2) hx hb dX8_write_14 (by decide) ?_
      have hm := Option.some.inj hm
      subst hm
      exact gRetI C0 hw dX8_write_16
