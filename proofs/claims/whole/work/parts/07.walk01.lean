-- WallHands.within(III)Z

abbrev rm_x_within : Room := { frames := 0, cells := 0, slots := 0, locals := 0 }

set_option maxHeartbeats 1000000 in
set_option maxRecDepth 100000 in
theorem c_x_within (l : Launch) (g : gG) (sz : Nat) (a0 : Int32) (a1 : Int32) (a2 : Int32) (r : Int32) (hm : f_x_within a0 a1 a2 = some r) : gMi l yX8_within cX8_within 3 (some .boolean) rm_x_within g sz [.int a0, .int a1, .int a2] [] r [] := by
  unfold f_x_within at hm
  refine gEnterI (by decide) (Nat.le_of_ble_eq_true rfl) (fun p e s m below meth c A C0 H locs hw ls hl => ?_)
  obtain ⟨hx, hb, hr, hml, hown, hts, hlocks, hK, hA⟩ := id C0
  have C0 : gX p s m [.int a0, .int a1, .int a2].toArray meth c cX8_within 3 (some .boolean) RX8 g A := C0
  have hl : lv_has ls 3 [(0, .int a0), (1, .int a1), (2, .int a2)] := hl
  refine lv_iload_n hx hb dX8_within_0 rfl (lv_at hl 0 rfl) ?_
  refine lv_iload_n hx hb dX8_within_1 rfl (lv_at hl 1 rfl) ?_
  refine lv_icmp_lt (tgt := 14) hx hb dX8_within_2 (by decide) (fun hc => ?_) (fun hc => ?_)
  · have hm := ipos hc hm
    refine lv_iconst (v := 0) hx hb dX8_within_14 (by decide) ?_
    have hm := Option.some.inj hm
    subst hm
    exact gRetZ (v := (0 : Int32)) C0 hw rfl dX8_within_15
  · have hm := ineg hc hm
    refine lv_iload_n hx hb dX8_within_5 rfl (lv_at hl 0 rfl) ?_
    refine lv_iload_n hx hb dX8_within_6 rfl (lv_at hl 2 rfl) ?_
    refine lv_icmp_gt (tgt := 14) hx hb dX8_within_7 (by decide) (fun hc => ?_) (fun hc => ?_)
    · have hm := ipos hc hm
      refine lv_iconst (v := 0) hx hb dX8_within_14 (by decide) ?_
      have hm := Option.some.inj hm
      subst hm
      exact gRetZ (v := (0 : Int32)) C0 hw rfl dX8_within_15
    · have hm := ineg hc hm
      refine lv_iconst (v := 1) hx hb dX8_within_10 (by decide) ?_
      refine lv_goto (tgt := 15) hx hb dX8_within_11 (by decide) ?_
      have hm := Option.some.inj hm
      subst hm
      exact gRetZ (v := (1 : Int32)) C0 hw rfl dX8_within_15

-- WallHands.isYear(I)Z

abbrev rm_x_isYear : Room := { frames := 1, cells := 0, slots := 0, locals := 22 }

set_option maxHeartbeats 1000000 in
set_option maxRecDepth 100000 in
theorem c_x_isYear (l : Launch) (g : gG) (sz : Nat) (a0 : Int32) (r : Int32) (hm : f_x_isYear a0 = some r) : gMi l yX8_isYear cX8_isYear 1 (some .boolean) rm_x_isYear g sz [.int a0] [] r [] := by
  unfold f_x_isYear at hm
  refine gEnterI (by decide) (Nat.le_of_ble_eq_true rfl) (fun p e s m below meth c A C0 H locs hw ls hl => ?_)
  obtain ⟨hx, hb, hr, hml, hown, hts, hlocks, hK, hA⟩ := id C0
  have C0 : gX p s m [.int a0].toArray meth c cX8_isYear 1 (some .boolean) RX8 g A := C0
  have hl : lv_has ls 1 [(0, .int a0)] := hl
  refine lv_iload_n hx hb dX8_isYear_0 rfl (lv_at hl 0 rfl) ?_
  refine lv_iconst (v := 0) hx hb dX8_isYear_1 (by decide) ?_
  refine lv_bipush (v := 19) hx hb dX8_isYear_2 (by decide) ?_
  obtain ⟨o4, ho4, hm⟩ := bindE hm
  refine gCalli (ws' := []) C0 hw (gRunS (As := [.int a0, .int (0 : Int32), .int (19 : Int32)]) (rest := []) C0 hw lkX8_94 (c_x_within l g H.size  a0 (0 : Int32) (19 : Int32) o4 ho4) ⟨rfl, rfl⟩ ⟨Nat.le_of_ble_eq_true rfl, Nat.le_of_ble_eq_true rfl⟩ [] (by decide) rfl rfl hl.1 rfl (Nat.le_of_ble_eq_true rfl) dX8_isYear_4) [] [] rfl rfl trivial [] rfl rfl 0 rfl (by decide +kernel) (fun H locs hw => ?_)
  obtain ⟨hB0, hm⟩ := gdE hm
  have hB := of_decide_eq_true hB0
  have hm := Option.some.inj hm
  subst hm
  exact gRetZ C0 hw hB dX8_isYear_7

-- WallHands$Frosts.mayBe(II)Z

abbrev rm_fr_mayBe : Room := { frames := 2, cells := 0, slots := 0, locals := 42 }

set_option maxHeartbeats 1000000 in
set_option maxRecDepth 100000 in
theorem c_fr_mayBe (l : Launch) (g : gG) (sz : Nat) (a0 : Int32) (a1 : Int32) (r : Int32) (hm : f_fr_mayBe a0 a1 = some r) : gMi l yX0_mayBe cX0_mayBe 2 (some .boolean) rm_fr_mayBe g sz [.int a0, .int a1] [] r [] := by
  unfold f_fr_mayBe at hm
  refine gEnterI (by decide) (Nat.le_of_ble_eq_true rfl) (fun p e s m below meth c A C0 H locs hw ls hl => ?_)
  obtain ⟨hx, hb, hr, hml, hown, hts, hlocks, hK, hA⟩ := id C0
  have C0 : gX p s m [.int a0, .int a1].toArray meth c cX0_mayBe 2 (some .boolean) RX0 g A := C0
  have hl : lv_has ls 2 [(0, .int a0), (1, .int a1)] := hl
  refine lv_iload_n hx hb dX0_mayBe_0 rfl (lv_at hl 0 rfl) ?_
  obtain ⟨o1, ho1, hm⟩ := bindE hm
  refine gCalli (ws' := []) C0 hw (gRunN (As := [.int a0]) (rest := []) C0 hw lkX0_18 (c_x_isYear l g H.size  a0 o1 ho1) ⟨rfl, rfl⟩ ⟨Nat.le_of_ble_eq_true rfl, Nat.le_of_ble_eq_true rfl⟩ [] (by decide) rfl rfl hl.1 rfl (Nat.le_of_ble_eq_true rfl) dX0_mayBe_1) [] [] rfl rfl trivial [] rfl rfl 0 rfl (by decide +kernel) (fun H locs hw => ?_)
  refine lv_if_eq (tgt := 21) hx hb dX0_mayBe_4 (by decide) (fun hc => ?_) (fun hc => ?_)
  · have hm := ipos hc hm
    refine lv_iconst (v := 0) hx hb dX0_mayBe_21 (by decide) ?_
    have hm := Option.some.inj hm
    subst hm
    exact gRetZ (v := (0 : Int32)) C0 hw rfl dX0_mayBe_22
  · have hm := ineg hc hm
    refine lv_iload_n hx hb dX0_mayBe_7 rfl (lv_at hl 1 rfl) ?_
    refine lv_iconst (v := 1) hx hb dX0_mayBe_8 (by decide) ?_
    refine lv_bipush (v := 15) hx hb dX0_mayBe_9 (by decide) ?_
    obtain ⟨o11, ho11, hm⟩ := bindE hm
    refine gCalli (ws' := []) C0 hw (gRunN (As := [.int a1, .int (1 : Int32), .int (15 : Int32)]) (rest := []) C0 hw lkX0_22 (c_x_within l g H.size  a1 (1 : Int32) (15 : Int32) o11 ho11) ⟨rfl, rfl⟩ ⟨Nat.le_of_ble_eq_true rfl, Nat.le_of_ble_eq_true rfl⟩ [] (by decide) rfl rfl hl.1 rfl (Nat.le_of_ble_eq_true rfl) dX0_mayBe_11) [] [] rfl rfl trivial [] rfl rfl 0 rfl (by decide +kernel) (fun H locs hw => ?_)
    refine lv_if_eq (tgt := 21) hx hb dX0_mayBe_14 (by decide) (fun hc => ?_) (fun hc => ?_)
    · have hm := ipos hc hm
      refine lv_iconst (v := 0) hx hb dX0_mayBe_21 (by decide) ?_
      have hm := Option.some.inj hm
      subst hm
      exact gRetZ (v := (0 : Int32)) C0 hw rfl dX0_mayBe_22
    · have hm := ineg hc hm
      refine lv_iconst (v := 1) hx hb dX0_mayBe_17 (by decide) ?_
      refine lv_goto (tgt := 22) hx hb dX0_mayBe_18 (by decide) ?_
      have hm := Option.some.inj hm
      subst hm
      exact gRetZ (v := (1 : Int32)) C0 hw rfl dX0_mayBe_22

-- WallHands$Frosts.add(II)V
abbrev W_fr_add (g : gG) (h0 h1 h2 : Nat) (v_told : Int32) (v_year : Nat → Int32) (v_force : Nat → Int32) : va_W := [(h0, .inr (0, [.ref h1, .ref h2, .int v_told])), (h1, .inl (gI g, 6, .inl v_year)), (h2, .inl (gI g, 6, .inl v_force))]

abbrev rm_fr_add : Room := { frames := 0, cells := 0, slots := 0, locals := 0 }

set_option maxHeartbeats 1000000 in
set_option maxRecDepth 100000 in
theorem c_fr_add (l : Launch) (g : gG) (sz : Nat) (h0 h1 h2 : Nat) (v_told : Int32) (v_year : Nat → Int32) (v_force : Nat → Int32) (a0 : Int32) (a1 : Int32) (r : (Int32 × (Nat → Int32) × (Nat → Int32))) (hm : f_fr_add v_told v_year v_force a0 a1 = some r) : gMv l yX0_add cX0_add 3 none rm_fr_add g sz [.ref h0, .int a0, .int a1] (W_fr_add g h0 h1 h2 v_told v_year v_force) (W_fr_add g h0 h1 h2 r.1 r.2.1 r.2.2) := by
  unfold f_fr_add at hm
  refine gEnterV (by decide) (Nat.le_of_ble_eq_true rfl) (fun p e s m below meth c A C0 H locs hw ls hl => ?_)
  obtain ⟨hx, hb, hr, hml, hown, hts, hlocks, hK, hA⟩ := id C0
  have C0 : gX p s m [.ref h0, .int a0, .int a1].toArray meth c cX0_add 3 none RX0 g A := C0
  have hl : lv_has ls 3 [(0, .ref h0), (1, .int a0), (2, .int a1)] := hl
  refine lv_aload_n hx hb dX0_add_0 rfl (lv_at hl 0 rfl) ?_
  refine gGet C0 hw flX0_26 0 rfl rfl dX0_add_1 ?_
  refine lv_bipush (v := 6) hx hb dX0_add_4 (by decide) ?_
  refine lv_icmp_ge (tgt := 39) hx hb dX0_add_6 (by decide) (fun hc => ?_) (fun hc => ?_)
  · have hm := ipos hc hm
    have hm := Option.some.inj hm
    subst hm
    exact gRetV C0 hw dX0_add_39
  · have hm := ineg hc hm
    refine lv_aload_n hx hb dX0_add_9 rfl (lv_at hl 0 rfl) ?_
    refine gGet C0 hw flX0_9 0 rfl rfl dX0_add_10 ?_
    refine lv_aload_n hx hb dX0_add_13 rfl (lv_at hl 0 rfl) ?_
    refine gGet C0 hw flX0_26 0 rfl rfl dX0_add_14 ?_
    refine lv_iload_n hx hb dX0_add_17 rfl (lv_at hl 1 rfl) ?_
    obtain ⟨hin, hm⟩ := gdE hm
    have hin := inbE hin
    refine gAstI (ws' := (W_fr_add g h0 h1 h2 v_told (upd v_year v_told.toNatClampNeg a0) v_force)) C0 hw 1 rfl hin rfl dX0_add_18 (fun H locs hw => ?_)
    refine lv_aload_n hx hb dX0_add_19 rfl (lv_at hl 0 rfl) ?_
    refine gGet C0 hw flX0_15 0 rfl rfl dX0_add_20 ?_
    refine lv_aload_n hx hb dX0_add_23 rfl (lv_at hl 0 rfl) ?_
    refine gGet C0 hw flX0_26 0 rfl rfl dX0_add_24 ?_
    refine lv_iload_n hx hb dX0_add_27 rfl (lv_at hl 2 rfl) ?_
    obtain ⟨hin, hm⟩ := gdE hm
    have hin := inbE hin
    refine gAstI (ws' := (W_fr_add g h0 h1 h2 v_told (upd v_year v_told.toNatClampNeg a0) (upd v_force v_told.toNatClampNeg a1))) C0 hw 2 rfl hin rfl dX0_add_28 (fun H locs hw => ?_)
    refine lv_aload_n hx hb dX0_add_29 rfl (lv_at hl 0 rfl) ?_
    refine lv_dup hx hb dX0_add_30 rfl ?_
    refine gGet C0 hw flX0_26 0 rfl rfl dX0_add_31 ?_
    refine lv_iconst (v := 1) hx hb dX0_add_34 (by decide) ?_
    refine lv_iadd hx hb dX0_add_35 ?_
    refine gPut (ws' := (W_fr_add g h0 h1 h2 (v_told + (1 : Int32)) (upd v_year v_told.toNatClampNeg a0) (upd v_force v_told.toNatClampNeg a1))) C0 hw fpX0_26 0 rfl rfl rfl (Nat.le_of_ble_eq_true rfl) rfl dX0_add_36 (fun H locs hw => ?_)
    have hm := Option.some.inj hm
    subst hm
    exact gRetV C0 hw dX0_add_39

-- WallHands$Gappings.add(III)V
abbrev W_gp_add (g : gG) (h0 h1 h2 h3 : Nat) (v_told : Int32) (v_year : Nat → Int32) (v_column : Nat → Int32) (v_hand : Nat → Int32) : va_W := [(h0, .inr (1, [.ref h1, .ref h2, .ref h3, .int v_told])), (h1, .inl (gI g, 7, .inl v_year)), (h2, .inl (gI g, 7, .inl v_column)), (h3, .inl (gI g, 7, .inl v_hand))]

abbrev rm_gp_add : Room := { frames := 0, cells := 0, slots := 0, locals := 0 }

set_option maxHeartbeats 1000000 in
set_option maxRecDepth 100000 in
theorem c_gp_add (l : Launch) (g : gG) (sz : Nat) (h0 h1 h2 h3 : Nat) (v_told : Int32) (v_year : Nat → Int32) (v_column : Nat → Int32) (v_hand : Nat → Int32) (a0 : Int32) (a1 : Int32) (a2 : Int32) (r : (Int32 × (Nat → Int32) × (Nat → Int32) × (Nat → Int32))) (hm : f_gp_add v_told v_year v_column v_hand a0 a1 a2 = some r) : gMv l yX1_add cX1_add 4 none rm_gp_add g sz [.ref h0, .int a0, .int a1, .int a2] (W_gp_add g h0 h1 h2 h3 v_told v_year v_column v_hand) (W_gp_add g h0 h1 h2 h3 r.1 r.2.1 r.2.2.1 r.2.2.2) := by
  unfold f_gp_add at hm
  refine gEnterV (by decide) (Nat.le_of_ble_eq_true rfl) (fun p e s m below meth c A C0 H locs hw ls hl => ?_)
  obtain ⟨hx, hb, hr, hml, hown, hts, hlocks, hK, hA⟩ := id C0
  have C0 : gX p s m [.ref h0, .int a0, .int a1, .int a2].toArray meth c cX1_add 4 none RX1 g A := C0
  have hl : lv_has ls 4 [(0, .ref h0), (1, .int a0), (2, .int a1), (3, .int a2)] := hl
  refine lv_aload_n hx hb dX1_add_0 rfl (lv_at hl 0 rfl) ?_
  refine gGet C0 hw flX1_21 0 rfl rfl dX1_add_1 ?_
  refine lv_bipush (v := 6) hx hb dX1_add_4 (by decide) ?_
  refine lv_icmp_gt (tgt := 49) hx hb dX1_add_6 (by decide) (fun hc => ?_) (fun hc => ?_)
  · have hm := ipos hc hm
    have hm := Option.some.inj hm
    subst hm
    exact gRetV C0 hw dX1_add_49
  · have hm := ineg hc hm
    refine lv_aload_n hx hb dX1_add_9 rfl (lv_at hl 0 rfl) ?_
    refine gGet C0 hw flX1_9 0 rfl rfl dX1_add_10 ?_
    refine lv_aload_n hx hb dX1_add_13 rfl (lv_at hl 0 rfl) ?_
    refine gGet C0 hw flX1_21 0 rfl rfl dX1_add_14 ?_
    refine lv_iload_n hx hb dX1_add_17 rfl (lv_at hl 1 rfl) ?_
    obtain ⟨hin, hm⟩ := gdE hm
    have hin := inbE hin
    refine gAstI (ws' := (W_gp_add g h0 h1 h2 h3 v_told (upd v_year v_told.toNatClampNeg a0) v_column v_hand)) C0 hw 1 rfl hin rfl dX1_add_18 (fun H locs hw => ?_)
    refine lv_aload_n hx hb dX1_add_19 rfl (lv_at hl 0 rfl) ?_
    refine gGet C0 hw flX1_15 0 rfl rfl dX1_add_20 ?_
    refine lv_aload_n hx hb dX1_add_23 rfl (lv_at hl 0 rfl) ?_
    refine gGet C0 hw flX1_21 0 rfl rfl dX1_add_24 ?_
    refine lv_iload_n hx hb dX1_add_27 rfl (lv_at hl 2 rfl) ?_
    obtain ⟨hin, hm⟩ := gdE hm
    have hin := inbE hin
    refine gAstI (ws' := (W_gp_add g h0 h1 h2 h3 v_told (upd v_year v_told.toNatClampNeg a0) (upd v_column v_told.toNatClampNeg a1) v_hand)) C0 hw 2 rfl hin rfl dX1_add_28 (fun H locs hw => ?_)
    refine lv_aload_n hx hb dX1_add_29 rfl (lv_at hl 0 rfl) ?_
    refine gGet C0 hw flX1_18 0 rfl rfl dX1_add_30 ?_
    refine lv_aload_n hx hb dX1_add_33 rfl (lv_at hl 0 rfl) ?_
    refine gGet C0 hw flX1_21 0 rfl rfl dX1_add_34 ?_
    refine lv_iload_n hx hb dX1_add_37 rfl (lv_at hl 3 rfl) ?_
    obtain ⟨hin, hm⟩ := gdE hm
    have hin := inbE hin
    refine gAstI (ws' := (W_gp_add g h0 h1 h2 h3 v_told (upd v_year v_told.toNatClampNeg a0) (upd v_column v_told.toNatClampNeg a1) (upd v_hand v_told.toNatClampNeg a2))) C0 hw 3 rfl hin rfl dX1_add_38 (fun H locs hw => ?_)
    refine lv_aload_n hx hb dX1_add_39 rfl (lv_at hl 0 rfl) ?_
    refine lv_dup hx hb dX1_add_40 rfl ?_
    refine gGet C0 hw flX1_21 0 rfl rfl dX1_add_41 ?_
    refine lv_iconst (v := 1) hx hb dX1_add_44 (by decide) ?_
    refine lv_iadd hx hb dX1_add_45 ?_
    refine gPut (ws' := (W_gp_add g h0 h1 h2 h3 (v_told + (1 : Int32)) (upd v_year v_told.toNatClampNeg a0) (upd v_column v_told.toNatClampNeg a1) (upd v_hand v_told.toNatClampNeg a2))) C0 hw fpX1_21 0 rfl rfl rfl (Nat.le_of_ble_eq_true rfl) rfl dX1_add_46 (fun H locs hw => ?_)
    have hm := Option.some.inj hm
    subst hm
    exact gRetV C0 hw dX1_add_49

-- WallHands$Hands.has(I)Z
abbrev W_hs_has (g : gG) (h0 h1 h2 : Nat) (v_told : Int32) (v_fault : Int32) : va_W := [(h0, .inr (2, [.ref h1, .ref h2, .int v_told, .int v_fault]))]

abbrev rm_hs_has : Room := { frames := 1, cells := 0, slots := 0, locals := 22 }

set_option maxHeartbeats 1000000 in
set_option maxRecDepth 100000 in
theorem c_hs_has (l : Launch) (g : gG) (sz : Nat) (h0 h1 h2 : Nat) (v_told : Int32) (v_fault : Int32) (a0 : Int32) (r : Int32) (hm : f_hs_has v_told a0 = some r) : gMi l yX2_has cX2_has 2 (some .boolean) rm_hs_has g sz [.ref h0, .int a0] (W_hs_has g h0 h1 h2 v_told v_fault) r (W_hs_has g h0 h1 h2 v_told v_fault) := by
  unfold f_hs_has at hm
  refine gEnterI (by decide) (Nat.le_of_ble_eq_true rfl) (fun p e s m below meth c A C0 H locs hw ls hl => ?_)
  obtain ⟨hx, hb, hr, hml, hown, hts, hlocks, hK, hA⟩ := id C0
  have C0 : gX p s m [.ref h0, .int a0].toArray meth c cX2_has 2 (some .boolean) RX2 g A := C0
  have hl : lv_has ls 2 [(0, .ref h0), (1, .int a0)] := hl
  refine lv_iload_n hx hb dX2_has_0 rfl (lv_at hl 1 rfl) ?_
  refine lv_iconst (v := 0) hx hb dX2_has_1 (by decide) ?_
  refine lv_aload_n hx hb dX2_has_2 rfl (lv_at hl 0 rfl) ?_
  refine gGet C0 hw flX2_22 0 rfl rfl dX2_has_3 ?_
  refine lv_iconst (v := 1) hx hb dX2_has_6 (by decide) ?_
  refine lv_isub hx hb dX2_has_7 ?_
  obtain ⟨o8, ho8, hm⟩ := bindE hm
  refine gCalli (ws' := (W_hs_has g h0 h1 h2 v_told v_fault)) C0 hw (gRunN (As := [.int a0, .int (0 : Int32), .int (v_told - (1 : Int32))]) (rest := []) C0 hw lkX2_25 (c_x_within l g H.size  a0 (0 : Int32) (v_told - (1 : Int32)) o8 ho8) ⟨rfl, rfl⟩ ⟨Nat.le_of_ble_eq_true rfl, Nat.le_of_ble_eq_true rfl⟩ [] (by decide) rfl rfl hl.1 rfl (Nat.le_of_ble_eq_true rfl) dX2_has_8) [] [0] rfl rfl ⟨rfl, trivial⟩ [h0] rfl rfl 1 rfl (by decide +kernel) (fun H locs hw => ?_)
  obtain ⟨hB0, hm⟩ := gdE hm
  have hB := of_decide_eq_true hB0
  have hm := Option.some.inj hm
  subst hm
  exact gRetZ C0 hw hB dX2_has_11

-- java/lang/String.isLatin1()Z

abbrev rm_js_isLatin1 : Room := { frames := 0, cells := 0, slots := 0, locals := 0 }

set_option maxHeartbeats 1000000 in
set_option maxRecDepth 100000 in
theorem c_js_isLatin1 (l : Launch) (g : gG) (sz : Nat) (r : Int32) (hm : f_js_isLatin1 = some r) : gMi l yJ0_isLatin1_aae02 cJ0_isLatin1_aae02 1 (some .boolean) rm_js_isLatin1 g sz [.ref (gSK g)] [] r [] := by
  unfold f_js_isLatin1 at hm
  refine gEnterI (by decide) (Nat.le_of_ble_eq_true rfl) (fun p e s m below meth c A C0 H locs hw ls hl => ?_)
  obtain ⟨hx, hb, hr, hml, hown, hts, hlocks, hK, hA⟩ := id C0
  have C0 : gX p s m [.ref (gSK g)].toArray meth c cJ0_isLatin1_aae02 1 (some .boolean) RJ0 g A := C0
  have hl : lv_has ls 1 [(0, .ref (gSK g))] := hl
  refine gStrStat C0 hw flJ0_38 dJ0_isLatin1_aae02_0 ?_
  refine lv_if_eq (tgt := 17) hx hb dJ0_isLatin1_aae02_3 (by decide) (fun hc => ?_) (fun hc => ?_)
  · have hm := ipos hc hm
    refine lv_iconst (v := 0) hx hb dJ0_isLatin1_aae02_17 (by decide) ?_
    have hm := Option.some.inj hm
    subst hm
    exact gRetZ (v := (0 : Int32)) C0 hw rfl dJ0_isLatin1_aae02_18
  · have hm := ineg hc hm
    refine lv_aload_n hx hb dJ0_isLatin1_aae02_6 rfl (lv_at hl 0 rfl) ?_
    refine gStrCoder C0 hw flJ0_15 dJ0_isLatin1_aae02_7 ?_
    refine lv_if_ne (tgt := 17) hx hb dJ0_isLatin1_aae02_10 (by decide) (fun hc => ?_) (fun hc => ?_)
    · have hm := ineg hc hm
      refine lv_iconst (v := 0) hx hb dJ0_isLatin1_aae02_17 (by decide) ?_
      have hm := Option.some.inj hm
      subst hm
      exact gRetZ (v := (0 : Int32)) C0 hw rfl dJ0_isLatin1_aae02_18
    · have hm := ipos hc hm
      refine lv_iconst (v := 1) hx hb dJ0_isLatin1_aae02_13 (by decide) ?_
      refine lv_goto (tgt := 18) hx hb dJ0_isLatin1_aae02_14 (by decide) ?_
      have hm := Option.some.inj hm
      subst hm
      exact gRetZ (v := (1 : Int32)) C0 hw rfl dJ0_isLatin1_aae02_18

-- java/lang/String.coder()B

abbrev rm_js_coder : Room := { frames := 0, cells := 0, slots := 0, locals := 0 }

set_option maxHeartbeats 1000000 in
set_option maxRecDepth 100000 in
theorem c_js_coder (l : Launch) (g : gG) (sz : Nat) (r : Int32) (hm : f_js_coder = some r) : gMi l yJ0_coder_7d493 cJ0_coder_7d493 1 (some .byte) rm_js_coder g sz [.ref (gSK g)] [] r [] := by
  unfold f_js_coder at hm
  refine gEnterI (by decide) (Nat.le_of_ble_eq_true rfl) (fun p e s m below meth c A C0 H locs hw ls hl => ?_)
  obtain ⟨hx, hb, hr, hml, hown, hts, hlocks, hK, hA⟩ := id C0
  have C0 : gX p s m [.ref (gSK g)].toArray meth c cJ0_coder_7d493 1 (some .byte) RJ0 g A := C0
  have hl : lv_has ls 1 [(0, .ref (gSK g))] := hl
  refine gStrStat C0 hw flJ0_38 dJ0_coder_7d493_0 ?_
  refine lv_if_eq (tgt := 13) hx hb dJ0_coder_7d493_3 (by decide) (fun hc => ?_) (fun hc => ?_)
  · have hm := ipos hc hm
    refine lv_iconst (v := 1) hx hb dJ0_coder_7d493_13 (by decide) ?_
    have hm := Option.some.inj hm
    subst hm
    exact gRetBy (v := (1 : Int32)) C0 hw rfl dJ0_coder_7d493_14
  · have hm := ineg hc hm
    refine lv_aload_n hx hb dJ0_coder_7d493_6 rfl (lv_at hl 0 rfl) ?_
    refine gStrCoder C0 hw flJ0_15 dJ0_coder_7d493_7 ?_
    refine lv_goto (tgt := 14) hx hb dJ0_coder_7d493_10 (by decide) ?_
    have hm := Option.some.inj hm
    subst hm
    exact gRetBy (v := (0 : Int32)) C0 hw rfl dJ0_coder_7d493_14

-- java/lang/String.length()I

abbrev rm_js_length : Room := { frames := 1, cells := 0, slots := 0, locals := 20 }

set_option maxHeartbeats 1000000 in
set_option maxRecDepth 100000 in
theorem c_js_length (l : Launch) (g : gG) (sz : Nat) (r : Int32) (hm : f_js_length = some r) : gMi l yJ0_length_8abf5 cJ0_length_8abf5 1 (some .int) rm_js_length g sz [.ref (gSK g)] [] r [] := by
  unfold f_js_length at hm
  refine gEnterI (by decide) (Nat.le_of_ble_eq_true rfl) (fun p e s m below meth c A C0 H locs hw ls hl => ?_)
  obtain ⟨hx, hb, hr, hml, hown, hts, hlocks, hK, hA⟩ := id C0
  have C0 : gX p s m [.ref (gSK g)].toArray meth c cJ0_length_8abf5 1 (some .int) RJ0 g A := C0
  have hl : lv_has ls 1 [(0, .ref (gSK g))] := hl
  refine lv_aload_n hx hb dJ0_length_8abf5_0 rfl (lv_at hl 0 rfl) ?_
  refine gStrVal C0 hw flJ0_9 dJ0_length_8abf5_1 ?_
  refine gStrLen C0 hw dJ0_length_8abf5_4 ?_
  refine lv_aload_n hx hb dJ0_length_8abf5_5 rfl (lv_at hl 0 rfl) ?_
  obtain ⟨o6, ho6, hm⟩ := bindE hm
  refine gCalli (ws' := []) C0 hw (gRunStr (As := []) (rest := [.int (4 : Int32)]) C0 hw lkJ0_335 rfl (c_js_coder l g H.size  o6 ho6) ⟨rfl, rfl⟩ ⟨Nat.le_of_ble_eq_true rfl, Nat.le_of_ble_eq_true rfl⟩ [] (by decide) rfl rfl hl.1 rfl (Nat.le_of_ble_eq_true rfl) dJ0_length_8abf5_6) [] [] rfl rfl trivial [] rfl rfl 0 rfl (by decide +kernel) (fun H locs hw => ?_)
  refine lv_ishr hx hb dJ0_length_8abf5_9 ?_
  have hm := Option.some.inj hm
  subst hm
  exact gRetI C0 hw dJ0_length_8abf5_10

-- java/lang/StringLatin1.canEncode(I)Z

abbrev rm_jt_canEncode : Room := { frames := 0, cells := 0, slots := 0, locals := 0 }

set_option maxHeartbeats 1000000 in
set_option maxRecDepth 100000 in
theorem c_jt_canEncode (l : Launch) (g : gG) (sz : Nat) (a0 : Int32) (r : Int32) (hm : f_jt_canEncode a0 = some r) : gMi l yJ1_canEncode_9a6ad cJ1_canEncode_9a6ad 1 (some .boolean) rm_jt_canEncode g sz [.int a0] [] r [] := by
  unfold f_jt_canEncode at hm
  refine gEnterI (by decide) (Nat.le_of_ble_eq_true rfl) (fun p e s m below meth c A C0 H locs hw ls hl => ?_)
  obtain ⟨hx, hb, hr, hml, hown, hts, hlocks, hK, hA⟩ := id C0
  have C0 : gX p s m [.int a0].toArray meth c cJ1_canEncode_9a6ad 1 (some .boolean) RJ1 g A := C0
  have hl : lv_has ls 1 [(0, .int a0)] := hl
  refine lv_iload_n hx hb dJ1_canEncode_9a6ad_0 rfl (lv_at hl 0 rfl) ?_
  refine lv_if_lt (tgt := 15) hx hb dJ1_canEncode_9a6ad_1 (by decide) (fun hc => ?_) (fun hc => ?_)
  · have hm := ipos hc hm
    refine lv_iconst (v := 0) hx hb dJ1_canEncode_9a6ad_15 (by decide) ?_
    have hm := Option.some.inj hm
    subst hm
    exact gRetZ (v := (0 : Int32)) C0 hw rfl dJ1_canEncode_9a6ad_16
  · have hm := ineg hc hm
    refine lv_iload_n hx hb dJ1_canEncode_9a6ad_4 rfl (lv_at hl 0 rfl) ?_
    refine lv_sipush (v := 255) hx hb dJ1_canEncode_9a6ad_5 (by decide) ?_
    refine lv_icmp_gt (tgt := 15) hx hb dJ1_canEncode_9a6ad_8 (by decide) (fun hc => ?_) (fun hc => ?_)
    · have hm := ipos hc hm
      refine lv_iconst (v := 0) hx hb dJ1_canEncode_9a6ad_15 (by decide) ?_
      have hm := Option.some.inj hm
      subst hm
      exact gRetZ (v := (0 : Int32)) C0 hw rfl dJ1_canEncode_9a6ad_16
    · have hm := ineg hc hm
      refine lv_iconst (v := 1) hx hb dJ1_canEncode_9a6ad_11 (by decide) ?_
      refine lv_goto (tgt := 16) hx hb dJ1_canEncode_9a6ad_12 (by decide) ?_
      have hm := Option.some.inj hm
      subst hm
      exact gRetZ (v := (1 : Int32)) C0 hw rfl dJ1_canEncode_9a6ad_16

-- java/lang/StringLatin1.indexOfChar([BIII)I

abbrev rm_jt_indexOfChar : Room := { frames := 0, cells := 0, slots := 0, locals := 0 }

set_option maxHeartbeats 1000000 in
set_option maxRecDepth 100000 in
theorem n_jt_indexOfChar_N7 {p : Program} {l : Launch} {e : Env} {s : State} {m : MethodId} {args : Array Value} {below : List Frame} {meth : Method} {c : Code} {A : Nat → Prop} {g : gG} {k7 : Int32 → Int32 → Int32 → Option Int32} {r : Int32} (C0 : gX p s m args meth c cJ1_indexOfChar_4cfef 6 (some .int) RJ1 g A) (hk7 : ∀ (x3 : Int32) (x4 : Int32) (x5 : Int32), k7 x3 x4 x5 = some r → ∀ (H : Heap) (locs : List Loc) (ls : Array Slot), gW g A s [] H locs → lv_has ls 6 [(0, .ref (gSV g)), (3, .int x3), (4, .int x4), (5, .int x5)] → W p l e rm_jt_indexOfChar s m args below meth c H locs 0 0 (gQi below args s A g r []) (F0 m 7 ls [])) : ∀ (x3 : Int32) (x4 : Int32) (x5 : Int32), f_jt_indexOfChar_N7 k7 x3 x4 x5 = some r → ∀ (H : Heap) (locs : List Loc) (ls : Array Slot), gW g A s [] H locs → lv_has ls 6 [(0, .ref (gSV g)), (3, .int x3), (4, .int x4), (5, .int x5)] → W p l e rm_jt_indexOfChar s m args below meth c H locs 0 0 (gQi below args s A g r []) (F0 m 7 ls []) := by
  intro x3 x4 x5 hm H locs ls hw hl
  unfold f_jt_indexOfChar_N7 at hm
  obtain ⟨hx, hb, hr, hml, hown, hts, hlocks, hK, hA⟩ := id C0
  refine lv_iload hx hb dJ1_indexOfChar_4cfef_7 (lv_at hl 3 rfl) ?_
  refine lv_iload_n hx hb dJ1_indexOfChar_4cfef_9 rfl (lv_at hl 1 rfl) ?_
  refine lv_icmp_ge (tgt := 31) hx hb dJ1_indexOfChar_4cfef_10 (by decide) (fun hc => ?_) (fun hc => ?_)
  · have hm := ipos hc hm
    refine lv_iconst (v := -1) hx hb dJ1_indexOfChar_4cfef_31 (by decide) ?_
    have hm := Option.some.inj hm
    subst hm
    exact gRetI C0 hw dJ1_indexOfChar_4cfef_32
  · have hm := ineg hc hm
    refine lv_aload_n hx hb dJ1_indexOfChar_4cfef_13 rfl (lv_at hl 0 rfl) ?_
    refine lv_iload hx hb dJ1_indexOfChar_4cfef_14 (lv_at hl 3 rfl) ?_
    obtain ⟨hin, hm⟩ := gdE hm
    have hin := inbE hin
    refine gStrAld C0 hw hin dJ1_indexOfChar_4cfef_16 ?_
    refine lv_iload hx hb dJ1_indexOfChar_4cfef_17 (lv_at hl 2 rfl) ?_
    refine lv_icmp_ne (tgt := 25) hx hb dJ1_indexOfChar_4cfef_19 (by decide) (fun hc => ?_) (fun hc => ?_)
    · have hm := ineg hc hm
      refine lv_iinc (v := x5 + (1 : Int32)) (lv' := [(5, .int (x5 + (1 : Int32))), (0, .ref (gSV g)), (3, .int x3), (4, .int x4)]) hx hb dJ1_indexOfChar_4cfef_25 hl (k := 3) rfl rfl (by decide) rfl (fun ls hl => ?_)
      refine lv_goto (tgt := 7) hx hb dJ1_indexOfChar_4cfef_28 (by decide) ?_
      exact hk7 _ _ _ hm _ _ _ hw (lv_sub hl [1, 2, 3, 0] rfl)
    · have hm := ipos hc hm
      refine lv_iload hx hb dJ1_indexOfChar_4cfef_22 (lv_at hl 3 rfl) ?_
      have hm := Option.some.inj hm
      subst hm
      exact gRetI C0 hw dJ1_indexOfChar_4cfef_24
set_option maxHeartbeats 1000000 in
set_option maxRecDepth 100000 in
theorem l_jt_indexOfChar_N7 {p : Program} {l : Launch} {e : Env} {s : State} {m : MethodId} {args : Array Value} {below : List Frame} {meth : Method} {c : Code} {A : Nat → Prop} {g : gG} {r : Int32} (C0 : gX p s m args meth c cJ1_indexOfChar_4cfef 6 (some .int) RJ1 g A) : ∀ n : Nat, ∀ (x3 : Int32) (x4 : Int32) (x5 : Int32), iter (fun _ _ _ => none) (f_jt_indexOfChar_N7) n x3 x4 x5 = some r → ∀ (H : Heap) (locs : List Loc) (ls : Array Slot), gW g A s [] H locs → lv_has ls 6 [(0, .ref (gSV g)), (3, .int x3), (4, .int x4), (5, .int x5)] → W p l e rm_jt_indexOfChar s m args below meth c H locs 0 0 (gQi below args s A g r []) (F0 m 7 ls []) := by
  intro n
  induction n with
  | zero =>
    intro x3 x4 x5 hm
    cases hm
  | succ n ih =>
    exact n_jt_indexOfChar_N7 C0  ih
set_option maxHeartbeats 1000000 in
set_option maxRecDepth 100000 in
theorem c_jt_indexOfChar (l : Launch) (g : gG) (sz : Nat) (a1 : Int32) (a2 : Int32) (a3 : Int32) (r : Int32) (hm : f_jt_indexOfChar a1 a2 a3 = some r) : gMi l yJ1_indexOfChar_4cfef cJ1_indexOfChar_4cfef 6 (some .int) rm_jt_indexOfChar g sz [.ref (gSV g), .int a1, .int a2, .int a3] [] r [] := by
  unfold f_jt_indexOfChar at hm
  refine gEnterI (by decide) (Nat.le_of_ble_eq_true rfl) (fun p e s m below meth c A C0 H locs hw ls hl => ?_)
  obtain ⟨hx, hb, hr, hml, hown, hts, hlocks, hK, hA⟩ := id C0
  have C0 : gX p s m [.ref (gSV g), .int a1, .int a2, .int a3].toArray meth c cJ1_indexOfChar_4cfef 6 (some .int) RJ1 g A := C0
  have hl : lv_has ls 6 [(0, .ref (gSV g)), (1, .int a1), (2, .int a2), (3, .int a3)] := hl
  refine lv_iload_n hx hb dJ1_indexOfChar_4cfef_0 rfl (lv_at hl 1 rfl) ?_
  refine lv_i2b (v := a1.toInt8.toInt32) hx hb dJ1_indexOfChar_4cfef_1 rfl ?_
  refine lv_istore (lv' := [(4, .int a1.toInt8.toInt32), (0, .ref (gSV g)), (1, .int a1), (2, .int a2), (3, .int a3)]) hx hb dJ1_indexOfChar_4cfef_2 hl (by decide) rfl (fun ls hl => ?_)
  refine lv_iload_n hx hb dJ1_indexOfChar_4cfef_4 rfl (lv_at hl 3 rfl) ?_
  refine lv_istore (lv' := [(5, .int a2), (4, .int a1.toInt8.toInt32), (0, .ref (gSV g)), (1, .int a1), (2, .int a2), (3, .int a3)]) hx hb dJ1_indexOfChar_4cfef_5 hl (by decide) rfl (fun ls hl => ?_)
  exact l_jt_indexOfChar_N7 C0  1000 _ _ _ hm _ _ _ hw (lv_sub hl [2, 5, 1, 0] rfl)

-- java/lang/StringLatin1.indexOf([BIII)I

abbrev rm_jt_indexOf : Room := { frames := 1, cells := 0, slots := 0, locals := 25 }

set_option maxHeartbeats 1000000 in
set_option maxRecDepth 100000 in
theorem c_jt_indexOf (l : Launch) (g : gG) (sz : Nat) (a1 : Int32) (a2 : Int32) (a3 : Int32) (r : Int32) (hm : f_jt_indexOf a1 a2 a3 = some r) : gMi l yJ1_indexOf_4cfef cJ1_indexOf_4cfef 4 (some .int) rm_jt_indexOf g sz [.ref (gSV g), .int a1, .int a2, .int a3] [] r [] := by
  unfold f_jt_indexOf at hm
  refine gEnterI (by decide) (Nat.le_of_ble_eq_true rfl) (fun p e s m below meth c A C0 H locs hw ls hl => ?_)
  obtain ⟨hx, hb, hr, hml, hown, hts, hlocks, hK, hA⟩ := id C0
  have C0 : gX p s m [.ref (gSV g), .int a1, .int a2, .int a3].toArray meth c cJ1_indexOf_4cfef 4 (some .int) RJ1 g A := C0
  have hl : lv_has ls 4 [(0, .ref (gSV g)), (1, .int a1), (2, .int a2), (3, .int a3)] := hl
  refine lv_iload_n hx hb dJ1_indexOf_4cfef_0 rfl (lv_at hl 1 rfl) ?_
  obtain ⟨o1, ho1, hm⟩ := bindE hm
  refine gCalli (ws' := []) C0 hw (gRunS (As := [.int a1]) (rest := []) C0 hw lkJ1_88 (c_jt_canEncode l g H.size  a1 o1 ho1) ⟨rfl, rfl⟩ ⟨Nat.le_of_ble_eq_true rfl, Nat.le_of_ble_eq_true rfl⟩ [] (by decide) rfl rfl hl.1 rfl (Nat.le_of_ble_eq_true rfl) dJ1_indexOf_4cfef_1) [] [] rfl rfl trivial [] rfl rfl 0 rfl (by decide +kernel) (fun H locs hw => ?_)
  refine lv_if_ne (tgt := 9) hx hb dJ1_indexOf_4cfef_4 (by decide) (fun hc => ?_) (fun hc => ?_)
  · have hm := ineg hc hm
    refine lv_iload_n hx hb dJ1_indexOf_4cfef_9 rfl (lv_at hl 2 rfl) ?_
    refine lv_iconst (v := 0) hx hb dJ1_indexOf_4cfef_10 (by decide) ?_
    refine gMax C0 hl.1 mlJ1_92 ms_max mi_math mc_max (Nat.le_of_ble_eq_true rfl) (Nat.le_of_ble_eq_true rfl) dJ1_indexOf_4cfef_11 ?_
    refine lv_istore_n (lv' := [(2, .int (mmax a2 (0 : Int32))), (0, .ref (gSV g)), (1, .int a1), (3, .int a3)]) hx hb dJ1_indexOf_4cfef_14 rfl hl (by decide) rfl (fun ls hl => ?_)
    refine lv_iload_n hx hb dJ1_indexOf_4cfef_15 rfl (lv_at hl 3 rfl) ?_
    refine lv_aload_n hx hb dJ1_indexOf_4cfef_16 rfl (lv_at hl 1 rfl) ?_
    refine gStrLen C0 hw dJ1_indexOf_4cfef_17 ?_
    refine gMin C0 hl.1 mlJ1_38 ms_min mi_math mc_min (Nat.le_of_ble_eq_true rfl) (Nat.le_of_ble_eq_true rfl) dJ1_indexOf_4cfef_18 ?_
    refine lv_istore_n (lv' := [(3, .int (mmin a3 (4 : Int32))), (2, .int (mmax a2 (0 : Int32))), (0, .ref (gSV g)), (1, .int a1)]) hx hb dJ1_indexOf_4cfef_21 rfl hl (by decide) rfl (fun ls hl => ?_)
    refine lv_iload_n hx hb dJ1_indexOf_4cfef_22 rfl (lv_at hl 1 rfl) ?_
    refine lv_iload_n hx hb dJ1_indexOf_4cfef_23 rfl (lv_at hl 0 rfl) ?_
    refine lv_icmp_lt (tgt := 29) hx hb dJ1_indexOf_4cfef_24 (by decide) (fun hc => ?_) (fun hc => ?_)
    · have hm := ipos hc hm
      refine lv_aload_n hx hb dJ1_indexOf_4cfef_29 rfl (lv_at hl 2 rfl) ?_
      refine lv_iload_n hx hb dJ1_indexOf_4cfef_30 rfl (lv_at hl 3 rfl) ?_
      refine lv_iload_n hx hb dJ1_indexOf_4cfef_31 rfl (lv_at hl 1 rfl) ?_
      refine lv_iload_n hx hb dJ1_indexOf_4cfef_32 rfl (lv_at hl 0 rfl) ?_
      obtain ⟨o33, ho33, hm⟩ := bindE hm
      refine gCalli (ws' := []) C0 hw (gRunS (As := [.ref (gSV g), .int a1, .int (mmax a2 (0 : Int32)), .int (mmin a3 (4 : Int32))]) (rest := []) C0 hw lkJ1_95 (c_jt_indexOfChar l g H.size  a1 (mmax a2 (0 : Int32)) (mmin a3 (4 : Int32)) o33 ho33) ⟨rfl, rfl⟩ ⟨Nat.le_of_ble_eq_true rfl, Nat.le_of_ble_eq_true rfl⟩ [] (by decide) rfl rfl hl.1 rfl (Nat.le_of_ble_eq_true rfl) dJ1_indexOf_4cfef_33) [] [] rfl rfl trivial [] rfl rfl 0 rfl (by decide +kernel) (fun H locs hw => ?_)
      have hm := Option.some.inj hm
      subst hm
      exact gRetI C0 hw dJ1_indexOf_4cfef_36
    · have hm := ineg hc hm
      refine lv_iconst (v := -1) hx hb dJ1_indexOf_4cfef_27 (by decide) ?_
      have hm := Option.some.inj hm
      subst hm
      exact gRetI C0 hw dJ1_indexOf_4cfef_28
  · have hm := ipos hc hm
    refine lv_iconst (v := -1) hx hb dJ1_indexOf_4cfef_7 (by decide) ?_
    have hm := Option.some.inj hm
    subst hm
    exact gRetI C0 hw dJ1_indexOf_4cfef_8

-- java/lang/String.indexOf(II)I

abbrev rm_js_indexOf2 : Room := { frames := 2, cells := 0, slots := 0, locals := 48 }

set_option maxHeartbeats 1000000 in
set_option maxRecDepth 100000 in
theorem c_js_indexOf2 (l : Launch) (g : gG) (sz : Nat) (a0 : Int32) (a1 : Int32) (r : Int32) (hm : f_js_indexOf2 a0 a1 = some r) : gMi l yJ0_indexOf_7cf53 cJ0_indexOf_7cf53 3 (some .int) rm_js_indexOf2 g sz [.ref (gSK g), .int a0, .int a1] [] r [] := by
  unfold f_js_indexOf2 at hm
  refine gEnterI (by decide) (Nat.le_of_ble_eq_true rfl) (fun p e s m below meth c A C0 H locs hw ls hl => ?_)
  obtain ⟨hx, hb, hr, hml, hown, hts, hlocks, hK, hA⟩ := id C0
  have C0 : gX p s m [.ref (gSK g), .int a0, .int a1].toArray meth c cJ0_indexOf_7cf53 3 (some .int) RJ0 g A := C0
  have hl : lv_has ls 3 [(0, .ref (gSK g)), (1, .int a0), (2, .int a1)] := hl
  refine lv_aload_n hx hb dJ0_indexOf_7cf53_0 rfl (lv_at hl 0 rfl) ?_
  obtain ⟨o1, ho1, hm⟩ := bindE hm
  refine gCalli (ws' := []) C0 hw (gRunStr (As := []) (rest := []) C0 hw lkJ0_492 rfl (c_js_isLatin1 l g H.size  o1 ho1) ⟨rfl, rfl⟩ ⟨Nat.le_of_ble_eq_true rfl, Nat.le_of_ble_eq_true rfl⟩ [] (by decide) rfl rfl hl.1 rfl (Nat.le_of_ble_eq_true rfl) dJ0_indexOf_7cf53_1) [] [] rfl rfl trivial [] rfl rfl 0 rfl (by decide +kernel) (fun H locs hw => ?_)
  refine lv_if_eq (tgt := 23) hx hb dJ0_indexOf_7cf53_4 (by decide) (fun hc => ?_) (fun hc => ?_)
  · have hm := ipos hc hm
    refine lv_aload_n hx hb dJ0_indexOf_7cf53_23 rfl (lv_at hl 0 rfl) ?_
    refine gStrVal C0 hw flJ0_9 dJ0_indexOf_7cf53_24 ?_
    refine lv_iload_n hx hb dJ0_indexOf_7cf53_27 rfl (lv_at hl 1 rfl) ?_
    refine lv_iload_n hx hb dJ0_indexOf_7cf53_28 rfl (lv_at hl 2 rfl) ?_
    refine lv_aload_n hx hb dJ0_indexOf_7cf53_29 rfl (lv_at hl 0 rfl) ?_
    obtain ⟨o30, ho30, hm⟩ := bindE hm
    refine gCalli (ws' := []) C0 hw (gRunStr (As := []) (rest := [.int a1, .int a0, .ref (gSV g)]) C0 hw lkJ0_505 rfl (c_js_length l g H.size  o30 ho30) ⟨rfl, rfl⟩ ⟨Nat.le_of_ble_eq_true rfl, Nat.le_of_ble_eq_true rfl⟩ [] (by decide) rfl rfl hl.1 rfl (Nat.le_of_ble_eq_true rfl) dJ0_indexOf_7cf53_30) [] [] rfl rfl trivial [] rfl rfl 0 rfl (by decide +kernel) (fun H locs hw => ?_)
    cases hm
  · have hm := ineg hc hm
    refine lv_aload_n hx hb dJ0_indexOf_7cf53_7 rfl (lv_at hl 0 rfl) ?_
    refine gStrVal C0 hw flJ0_9 dJ0_indexOf_7cf53_8 ?_
    refine lv_iload_n hx hb dJ0_indexOf_7cf53_11 rfl (lv_at hl 1 rfl) ?_
    refine lv_iload_n hx hb dJ0_indexOf_7cf53_12 rfl (lv_at hl 2 rfl) ?_
    refine lv_aload_n hx hb dJ0_indexOf_7cf53_13 rfl (lv_at hl 0 rfl) ?_
    obtain ⟨o14, ho14, hm⟩ := bindE hm
    refine gCalli (ws' := []) C0 hw (gRunStr (As := []) (rest := [.int a1, .int a0, .ref (gSV g)]) C0 hw lkJ0_505 rfl (c_js_length l g H.size  o14 ho14) ⟨rfl, rfl⟩ ⟨Nat.le_of_ble_eq_true rfl, Nat.le_of_ble_eq_true rfl⟩ [] (by decide) rfl rfl hl.1 rfl (Nat.le_of_ble_eq_true rfl) dJ0_indexOf_7cf53_14) [] [] rfl rfl trivial [] rfl rfl 0 rfl (by decide +kernel) (fun H locs hw => ?_)
    obtain ⟨o17, ho17, hm⟩ := bindE hm
    refine gCalli (ws' := []) C0 hw (gRunS (As := [.ref (gSV g), .int a0, .int a1, .int o14]) (rest := []) C0 hw lkJ0_637 (c_jt_indexOf l g H.size  a0 a1 o14 o17 ho17) ⟨rfl, rfl⟩ ⟨Nat.le_of_ble_eq_true rfl, Nat.le_of_ble_eq_true rfl⟩ [] (by decide) rfl rfl hl.1 rfl (Nat.le_of_ble_eq_true rfl) dJ0_indexOf_7cf53_17) [] [] rfl rfl trivial [] rfl rfl 0 rfl (by decide +kernel) (fun H locs hw => ?_)
    refine lv_goto (tgt := 36) hx hb dJ0_indexOf_7cf53_20 (by decide) ?_
    have hm := Option.some.inj hm
    subst hm
    exact gRetI C0 hw dJ0_indexOf_7cf53_36

-- java/lang/String.indexOf(I)I

abbrev rm_js_indexOf : Room := { frames := 3, cells := 0, slots := 0, locals := 70 }

set_option maxHeartbeats 1000000 in
set_option maxRecDepth 100000 in
theorem c_js_indexOf (l : Launch) (g : gG) (sz : Nat) (a0 : Int32) (r : Int32) (hm : f_js_indexOf a0 = some r) : gMi l yJ0_indexOf_0f7a4 cJ0_indexOf_0f7a4 2 (some .int) rm_js_indexOf g sz [.ref (gSK g), .int a0] [] r [] := by
  unfold f_js_indexOf at hm
  refine gEnterI (by decide) (Nat.le_of_ble_eq_true rfl) (fun p e s m below meth c A C0 H locs hw ls hl => ?_)
  obtain ⟨hx, hb, hr, hml, hown, hts, hlocks, hK, hA⟩ := id C0
  have C0 : gX p s m [.ref (gSK g), .int a0].toArray meth c cJ0_indexOf_0f7a4 2 (some .int) RJ0 g A := C0
  have hl : lv_has ls 2 [(0, .ref (gSK g)), (1, .int a0)] := hl
  refine lv_aload_n hx hb dJ0_indexOf_0f7a4_0 rfl (lv_at hl 0 rfl) ?_
  refine lv_iload_n hx hb dJ0_indexOf_0f7a4_1 rfl (lv_at hl 1 rfl) ?_
  refine lv_iconst (v := 0) hx hb dJ0_indexOf_0f7a4_2 (by decide) ?_
  obtain ⟨o3, ho3, hm⟩ := bindE hm
  refine gCalli (ws' := []) C0 hw (gRunStr (As := [.int a0, .int (0 : Int32)]) (rest := []) C0 hw lkJ0_633 rfl (c_js_indexOf2 l g H.size  a0 (0 : Int32) o3 ho3) ⟨rfl, rfl⟩ ⟨Nat.le_of_ble_eq_true rfl, Nat.le_of_ble_eq_true rfl⟩ [] (by decide) rfl rfl hl.1 rfl (Nat.le_of_ble_eq_true rfl) dJ0_indexOf_0f7a4_3) [] [] rfl rfl trivial [] rfl rfl 0 rfl (by decide +kernel) (fun H locs hw => ?_)
  have hm := Option.some.inj hm
  subst hm
  exact gRetI C0 hw dJ0_indexOf_0f7a4_6

-- WallHands$Hands.firstFault(LWallHands$Text;)I
abbrev W_hs_firstFault (g : gG) (h0 h1 : Nat) (p0_length : Int32) (p0_bytes : Nat → Int32) (p0_bytes_n : Nat) : va_W := [(h0, .inr (5, [.ref h1, .int p0_length])), (h1, .inl (gI g, p0_bytes_n, .inl p0_bytes))]

abbrev rm_hs_firstFault : Room := { frames := 4, cells := 0, slots := 0, locals := 91 }

set_option maxHeartbeats 1000000 in
set_option maxRecDepth 100000 in
theorem n_hs_firstFault_N70 {p : Program} {l : Launch} {e : Env} {s : State} {m : MethodId} {args : Array Value} {below : List Frame} {meth : Method} {c : Code} {A : Nat → Prop} {g : gG} {h0 h1 : Nat} {p0_length : Int32} {p0_bytes : Nat → Int32} {p0_bytes_n : Nat} {k2 : Int32 → Option Int32} {r : Int32} (C0 : gX p s m args meth c cX2_firstFault 4 (some .int) RX2 g A) (hk2 : ∀ (x1 : Int32), k2 x1 = some r → ∀ (H : Heap) (locs : List Loc) (ls : Array Slot), gW g A s (W_hs_firstFault g h0 h1 p0_length p0_bytes p0_bytes_n) H locs → lv_has ls 4 [(0, .ref h0), (1, .int x1)] → W p l e rm_hs_firstFault s m args below meth c H locs 0 0 (gQi below args s A g r (W_hs_firstFault g h0 h1 p0_length p0_bytes p0_bytes_n)) (F0 m 2 ls [])) : ∀ (x1 : Int32) (y0 : Int32), f_hs_firstFault_N70 p0_length p0_bytes p0_bytes_n k2 x1 y0 = some r → ∀ (H : Heap) (locs : List Loc) (ls : Array Slot), gW g A s (W_hs_firstFault g h0 h1 p0_length p0_bytes p0_bytes_n) H locs → lv_has ls 4 [(0, .ref h0), (1, .int x1)] → W p l e rm_hs_firstFault s m args below meth c H locs 0 0 (gQi below args s A g r (W_hs_firstFault g h0 h1 p0_length p0_bytes p0_bytes_n)) (F0 m 70 ls [.int y0]) := by
  intro x1 y0 hm H locs ls hw hl
  unfold f_hs_firstFault_N70 at hm
  obtain ⟨hx, hb, hr, hml, hown, hts, hlocks, hK, hA⟩ := id C0
  refine lv_istore_n (lv' := [(3, .int y0), (0, .ref h0), (1, .int x1)]) hx hb dX2_firstFault_70 rfl hl (by decide) rfl (fun ls hl => ?_)
  refine lv_iload_n hx hb dX2_firstFault_71 rfl (lv_at hl 0 rfl) ?_
  refine lv_if_ne (tgt := 77) hx hb dX2_firstFault_72 (by decide) (fun hc => ?_) (fun hc => ?_)
  · have hm := ineg hc hm
    refine lv_iinc (v := x1 + (1 : Int32)) (lv' := [(1, .int (x1 + (1 : Int32))), (3, .int y0), (0, .ref h0)]) hx hb dX2_firstFault_77 hl (k := 2) rfl rfl (by decide) rfl (fun ls hl => ?_)
    refine lv_goto (tgt := 2) hx hb dX2_firstFault_80 (by decide) ?_
    exact hk2 _ hm _ _ _ hw (lv_sub hl [2, 0] rfl)
  · have hm := ipos hc hm
    refine lv_iload_n hx hb dX2_firstFault_75 rfl (lv_at hl 2 rfl) ?_
    have hm := Option.some.inj hm
    subst hm
    exact gRetI C0 hw dX2_firstFault_76
set_option maxHeartbeats 1000000 in
set_option maxRecDepth 100000 in
theorem n_hs_firstFault_N2 {p : Program} {l : Launch} {e : Env} {s : State} {m : MethodId} {args : Array Value} {below : List Frame} {meth : Method} {c : Code} {A : Nat → Prop} {g : gG} {h0 h1 : Nat} {p0_length : Int32} {p0_bytes : Nat → Int32} {p0_bytes_n : Nat} {k2 : Int32 → Option Int32} {r : Int32} (C0 : gX p s m args meth c cX2_firstFault 4 (some .int) RX2 g A) (hk2 : ∀ (x1 : Int32), k2 x1 = some r → ∀ (H : Heap) (locs : List Loc) (ls : Array Slot), gW g A s (W_hs_firstFault g h0 h1 p0_length p0_bytes p0_bytes_n) H locs → lv_has ls 4 [(0, .ref h0), (1, .int x1)] → W p l e rm_hs_firstFault s m args below meth c H locs 0 0 (gQi below args s A g r (W_hs_firstFault g h0 h1 p0_length p0_bytes p0_bytes_n)) (F0 m 2 ls [])) : ∀ (x1 : Int32), f_hs_firstFault_N2 p0_length p0_bytes p0_bytes_n k2 x1 = some r → ∀ (H : Heap) (locs : List Loc) (ls : Array Slot), gW g A s (W_hs_firstFault g h0 h1 p0_length p0_bytes p0_bytes_n) H locs → lv_has ls 4 [(0, .ref h0), (1, .int x1)] → W p l e rm_hs_firstFault s m args below meth c H locs 0 0 (gQi below args s A g r (W_hs_firstFault g h0 h1 p0_length p0_bytes p0_bytes_n)) (F0 m 2 ls []) := by
  intro x1 hm H locs ls hw hl
  unfold f_hs_firstFault_N2 at hm
  obtain ⟨hx, hb, hr, hml, hown, hts, hlocks, hK, hA⟩ := id C0
  refine lv_iload_n hx hb dX2_firstFault_2 rfl (lv_at hl 1 rfl) ?_
  refine lv_aload_n hx hb dX2_firstFault_3 rfl (lv_at hl 0 rfl) ?_
  refine gGet C0 hw flX2_33 0 rfl rfl dX2_firstFault_4 ?_
  refine lv_icmp_ge (tgt := 83) hx hb dX2_firstFault_7 (by decide) (fun hc => ?_) (fun hc => ?_)
  · have hm := ipos hc hm
    refine lv_aload_n hx hb dX2_firstFault_83 rfl (lv_at hl 0 rfl) ?_
    refine gGet C0 hw flX2_33 0 rfl rfl dX2_firstFault_84 ?_
    refine lv_if_eq (tgt := 100) hx hb dX2_firstFault_87 (by decide) (fun hc => ?_) (fun hc => ?_)
    · have hm := ipos hc hm
      refine lv_iconst (v := -1) hx hb dX2_firstFault_100 (by decide) ?_
      refine lv_goto (tgt := 108) hx hb dX2_firstFault_101 (by decide) ?_
      have hm := Option.some.inj hm
      subst hm
      exact gRetI C0 hw dX2_firstFault_108
    · have hm := ineg hc hm
      refine lv_aload_n hx hb dX2_firstFault_90 rfl (lv_at hl 0 rfl) ?_
      refine gGet C0 hw flX2_33 0 rfl rfl dX2_firstFault_91 ?_
      refine lv_iconst (v := 3) hx hb dX2_firstFault_94 (by decide) ?_
      refine lv_irem hx hb dX2_firstFault_95 (by decide) ?_
      refine lv_iconst (v := 2) hx hb dX2_firstFault_96 (by decide) ?_
      refine lv_icmp_ne (tgt := 104) hx hb dX2_firstFault_97 (by decide) (fun hc => ?_) (fun hc => ?_)
      · have hm := ineg hc hm
        refine lv_aload_n hx hb dX2_firstFault_104 rfl (lv_at hl 0 rfl) ?_
        refine gGet C0 hw flX2_33 0 rfl rfl dX2_firstFault_105 ?_
        have hm := Option.some.inj hm
        subst hm
        exact gRetI C0 hw dX2_firstFault_108
      · have hm := ipos hc hm
        refine lv_iconst (v := -1) hx hb dX2_firstFault_100 (by decide) ?_
        refine lv_goto (tgt := 108) hx hb dX2_firstFault_101 (by decide) ?_
        have hm := Option.some.inj hm
        subst hm
        exact gRetI C0 hw dX2_firstFault_108
  · have hm := ineg hc hm
    refine lv_aload_n hx hb dX2_firstFault_10 rfl (lv_at hl 0 rfl) ?_
    refine gGet C0 hw flX2_40 0 rfl rfl dX2_firstFault_11 ?_
    refine lv_iload_n hx hb dX2_firstFault_14 rfl (lv_at hl 1 rfl) ?_
    obtain ⟨hin, hm⟩ := gdE hm
    have hin := inbE hin
    refine gAldI C0 hw 1 rfl hin dX2_firstFault_15 ?_
    refine lv_istore_n (lv' := [(2, .int (p0_bytes x1.toNatClampNeg)), (0, .ref h0), (1, .int x1)]) hx hb dX2_firstFault_16 rfl hl (by decide) rfl (fun ls hl => ?_)
    refine lv_iload_n hx hb dX2_firstFault_17 rfl (lv_at hl 2 rfl) ?_
    refine lv_iconst (v := 3) hx hb dX2_firstFault_18 (by decide) ?_
    refine lv_irem hx hb dX2_firstFault_19 (by decide) ?_
    refine lv_if_ne (tgt := 41) hx hb dX2_firstFault_20 (by decide) (fun hc => ?_) (fun hc => ?_)
    · have hm := ineg hc hm
      refine lv_iload_n hx hb dX2_firstFault_41 rfl (lv_at hl 2 rfl) ?_
      refine lv_iconst (v := 3) hx hb dX2_firstFault_42 (by decide) ?_
      refine lv_irem hx hb dX2_firstFault_43 (by decide) ?_
      refine lv_iconst (v := 1) hx hb dX2_firstFault_44 (by decide) ?_
      refine lv_icmp_ne (tgt := 59) hx hb dX2_firstFault_45 (by decide) (fun hc => ?_) (fun hc => ?_)
      · have hm := ineg hc hm
        refine lv_iload_n hx hb dX2_firstFault_59 rfl (lv_at hl 0 rfl) ?_
        refine lv_bipush (v := 59) hx hb dX2_firstFault_60 (by decide) ?_
        refine lv_icmp_ne (tgt := 69) hx hb dX2_firstFault_62 (by decide) (fun hc => ?_) (fun hc => ?_)
        · have hm := ineg hc hm
          refine lv_iconst (v := 0) hx hb dX2_firstFault_69 (by decide) ?_
          exact n_hs_firstFault_N70 C0 hk2 _ _ hm _ _ _ hw (lv_sub hl [1, 2] rfl)
        · have hm := ipos hc hm
          refine lv_iconst (v := 1) hx hb dX2_firstFault_65 (by decide) ?_
          refine lv_goto (tgt := 70) hx hb dX2_firstFault_66 (by decide) ?_
          exact n_hs_firstFault_N70 C0 hk2 _ _ hm _ _ _ hw (lv_sub hl [1, 2] rfl)
      · have hm := ipos hc hm
        refine lv_iload_n hx hb dX2_firstFault_48 rfl (lv_at hl 0 rfl) ?_
        refine lv_bipush (v := 49) hx hb dX2_firstFault_49 (by decide) ?_
        refine lv_bipush (v := 57) hx hb dX2_firstFault_51 (by decide) ?_
        obtain ⟨o53, ho53, hm⟩ := bindE hm
        refine gCalli (ws' := (W_hs_firstFault g h0 h1 p0_length p0_bytes p0_bytes_n)) C0 hw (gRunN (As := [.int (p0_bytes x1.toNatClampNeg), .int (49 : Int32), .int (57 : Int32)]) (rest := []) C0 hw lkX2_25 (c_x_within l g H.size  (p0_bytes x1.toNatClampNeg) (49 : Int32) (57 : Int32) o53 ho53) ⟨rfl, rfl⟩ ⟨Nat.le_of_ble_eq_true rfl, Nat.le_of_ble_eq_true rfl⟩ [] (by decide) rfl rfl hl.1 rfl (Nat.le_of_ble_eq_true rfl) dX2_firstFault_53) [] [0, 1] rfl rfl ⟨rfl, rfl, trivial⟩ [h0, h1] rfl rfl 2 rfl (by decide +kernel) (fun H locs hw => ?_)
        refine lv_goto (tgt := 70) hx hb dX2_firstFault_56 (by decide) ?_
        exact n_hs_firstFault_N70 C0 hk2 _ _ hm _ _ _ hw (lv_sub hl [1, 2] rfl)
    · have hm := ipos hc hm
      refine gStrRef C0 dX2_firstFault_23 ?_
      refine lv_iload_n hx hb dX2_firstFault_25 rfl (lv_at hl 0 rfl) ?_
      refine lv_i2c (v := ((p0_bytes x1.toNatClampNeg).toUInt32 % 65536).toInt32) hx hb dX2_firstFault_26 rfl ?_
      obtain ⟨o27, ho27, hm⟩ := bindE hm
      refine gCalli (ws' := (W_hs_firstFault g h0 h1 p0_length p0_bytes p0_bytes_n)) C0 hw (gRunStr (As := [.int (((p0_bytes x1.toNatClampNeg).toUInt32 % 65536).toInt32)]) (rest := []) C0 hw lkX2_43 rfl (c_js_indexOf l g H.size  (((p0_bytes x1.toNatClampNeg).toUInt32 % 65536).toInt32) o27 ho27) ⟨rfl, rfl⟩ ⟨Nat.le_of_ble_eq_true rfl, Nat.le_of_ble_eq_true rfl⟩ [] (by decide) rfl rfl hl.1 rfl (Nat.le_of_ble_eq_true rfl) dX2_firstFault_27) [] [0, 1] rfl rfl ⟨rfl, rfl, trivial⟩ [h0, h1] rfl rfl 2 rfl (by decide +kernel) (fun H locs hw => ?_)
      refine lv_if_lt (tgt := 37) hx hb dX2_firstFault_30 (by decide) (fun hc => ?_) (fun hc => ?_)
      · have hm := ipos hc hm
        refine lv_iconst (v := 0) hx hb dX2_firstFault_37 (by decide) ?_
        refine lv_goto (tgt := 70) hx hb dX2_firstFault_38 (by decide) ?_
        exact n_hs_firstFault_N70 C0 hk2 _ _ hm _ _ _ hw (lv_sub hl [1, 2] rfl)
      · have hm := ineg hc hm
        refine lv_iconst (v := 1) hx hb dX2_firstFault_33 (by decide) ?_
        refine lv_goto (tgt := 70) hx hb dX2_firstFault_34 (by decide) ?_
        exact n_hs_firstFault_N70 C0 hk2 _ _ hm _ _ _ hw (lv_sub hl [1, 2] rfl)
set_option maxHeartbeats 1000000 in
set_option maxRecDepth 100000 in
theorem l_hs_firstFault_N2 {p : Program} {l : Launch} {e : Env} {s : State} {m : MethodId} {args : Array Value} {below : List Frame} {meth : Method} {c : Code} {A : Nat → Prop} {g : gG} {h0 h1 : Nat} {p0_length : Int32} {p0_bytes : Nat → Int32} {p0_bytes_n : Nat} {r : Int32} (C0 : gX p s m args meth c cX2_firstFault 4 (some .int) RX2 g A) : ∀ n : Nat, ∀ (x1 : Int32), iter (fun _ => none) (f_hs_firstFault_N2 p0_length p0_bytes p0_bytes_n) n x1 = some r → ∀ (H : Heap) (locs : List Loc) (ls : Array Slot), gW g A s (W_hs_firstFault g h0 h1 p0_length p0_bytes p0_bytes_n) H locs → lv_has ls 4 [(0, .ref h0), (1, .int x1)] → W p l e rm_hs_firstFault s m args below meth c H locs 0 0 (gQi below args s A g r (W_hs_firstFault g h0 h1 p0_length p0_bytes p0_bytes_n)) (F0 m 2 ls []) := by
  intro n
  induction n with
  | zero =>
    intro x1 hm
    cases hm
  | succ n ih =>
    exact n_hs_firstFault_N2 C0  ih
set_option maxHeartbeats 1000000 in
set_option maxRecDepth 100000 in
theorem c_hs_firstFault (l : Launch) (g : gG) (sz : Nat) (h0 h1 : Nat) (p0_length : Int32) (p0_bytes : Nat → Int32) (p0_bytes_n : Nat) (r : Int32) (hm : f_hs_firstFault p0_length p0_bytes p0_bytes_n = some r) : gMi l yX2_firstFault cX2_firstFault 4 (some .int) rm_hs_firstFault g sz [.ref h0] (W_hs_firstFault g h0 h1 p0_length p0_bytes p0_bytes_n) r (W_hs_firstFault g h0 h1 p0_length p0_bytes p0_bytes_n) := by
  unfold f_hs_firstFault at hm
  refine gEnterI (by decide) (Nat.le_of_ble_eq_true rfl) (fun p e s m below meth c A C0 H locs hw ls hl => ?_)
  obtain ⟨hx, hb, hr, hml, hown, hts, hlocks, hK, hA⟩ := id C0
  have C0 : gX p s m [.ref h0].toArray meth c cX2_firstFault 4 (some .int) RX2 g A := C0
  have hl : lv_has ls 4 [(0, .ref h0)] := hl
  refine lv_iconst (v := 0) hx hb dX2_firstFault_0 (by decide) ?_
  refine lv_istore_n (lv' := [(1, .int (0 : Int32)), (0, .ref h0)]) hx hb dX2_firstFault_1 rfl hl (by decide) rfl (fun ls hl => ?_)
  exact l_hs_firstFault_N2 C0  1000 _ hm _ _ _ hw (lv_sub hl [1, 0] rfl)

-- WallHands$Hands.tell(LWallHands$Text;)V
abbrev W_hs_tell (g : gG) (h0 h1 h2 h3 h4 : Nat) (v_told : Int32) (v_fault : Int32) (v_mood : Nat → Int32) (v_strong : Nat → Int32) (p0_length : Int32) (p0_bytes : Nat → Int32) (p0_bytes_n : Nat) : va_W := [(h0, .inr (2, [.ref h1, .ref h2, .int v_told, .int v_fault])), (h1, .inl (gI g, 8, .inl v_mood)), (h2, .inl (gI g, 8, .inl v_strong)), (h3, .inr (5, [.ref h4, .int p0_length])), (h4, .inl (gI g, p0_bytes_n, .inl p0_bytes))]

abbrev rm_hs_tell : Room := { frames := 5, cells := 0, slots := 0, locals := 114 }

set_option maxHeartbeats 1000000 in
set_option maxRecDepth 100000 in
theorem n_hs_tell_N34 {p : Program} {l : Launch} {e : Env} {s : State} {m : MethodId} {args : Array Value} {below : List Frame} {meth : Method} {c : Code} {A : Nat → Prop} {g : gG} {h0 h1 h2 h3 h4 : Nat} {p0_length : Int32} {p0_bytes : Nat → Int32} {p0_bytes_n : Nat} {k34 : Int32 → Int32 → (Nat → Int32) → (Nat → Int32) → Int32 → Option (Int32 × Int32 × (Nat → Int32) × (Nat → Int32))} {r : (Int32 × Int32 × (Nat → Int32) × (Nat → Int32))} (C0 : gX p s m args meth c cX2_tell 3 none RX2 g A) (hk34 : ∀ (v_told : Int32) (v_fault : Int32) (v_mood : Nat → Int32) (v_strong : Nat → Int32) (x2 : Int32), k34 v_told v_fault v_mood v_strong x2 = some r → ∀ (H : Heap) (locs : List Loc) (ls : Array Slot), gW g A s (W_hs_tell g h0 h1 h2 h3 h4 v_told v_fault v_mood v_strong p0_length p0_bytes p0_bytes_n) H locs → lv_has ls 3 [(0, .ref h0), (1, .ref h3), (2, .int x2)] → W p l e rm_hs_tell s m args below meth c H locs 0 0 (gQv below args s A g (W_hs_tell g h0 h1 h2 h3 h4 r.1 r.2.1 r.2.2.1 r.2.2.2 p0_length p0_bytes p0_bytes_n)) (F0 m 34 ls [])) : ∀ (v_told : Int32) (v_fault : Int32) (v_mood : Nat → Int32) (v_strong : Nat → Int32) (x2 : Int32), f_hs_tell_N34 p0_length p0_bytes p0_bytes_n k34 v_told v_fault v_mood v_strong x2 = some r → ∀ (H : Heap) (locs : List Loc) (ls : Array Slot), gW g A s (W_hs_tell g h0 h1 h2 h3 h4 v_told v_fault v_mood v_strong p0_length p0_bytes p0_bytes_n) H locs → lv_has ls 3 [(0, .ref h0), (1, .ref h3), (2, .int x2)] → W p l e rm_hs_tell s m args below meth c H locs 0 0 (gQv below args s A g (W_hs_tell g h0 h1 h2 h3 h4 r.1 r.2.1 r.2.2.1 r.2.2.2 p0_length p0_bytes p0_bytes_n)) (F0 m 34 ls []) := by
  intro v_told v_fault v_mood v_strong x2 hm H locs ls hw hl
  unfold f_hs_tell_N34 at hm
  obtain ⟨hx, hb, hr, hml, hown, hts, hlocks, hK, hA⟩ := id C0
  refine lv_iload_n hx hb dX2_tell_34 rfl (lv_at hl 2 rfl) ?_
  refine lv_aload_n hx hb dX2_tell_35 rfl (lv_at hl 0 rfl) ?_
  refine gGet C0 hw flX2_22 0 rfl rfl dX2_tell_36 ?_
  refine lv_icmp_ge (tgt := 87) hx hb dX2_tell_39 (by decide) (fun hc => ?_) (fun hc => ?_)
  · have hm := ipos hc hm
    have hm := Option.some.inj hm
    subst hm
    exact gRetV C0 hw dX2_tell_87
  · have hm := ineg hc hm
    refine lv_aload_n hx hb dX2_tell_42 rfl (lv_at hl 0 rfl) ?_
    refine gGet C0 hw flX2_9 0 rfl rfl dX2_tell_43 ?_
    refine lv_iload_n hx hb dX2_tell_46 rfl (lv_at hl 2 rfl) ?_
    refine gStrRef C0 dX2_tell_47 ?_
    refine lv_aload_n hx hb dX2_tell_49 rfl (lv_at hl 1 rfl) ?_
    refine gGet C0 hw flX2_40 3 rfl rfl dX2_tell_50 ?_
    refine lv_iconst (v := 3) hx hb dX2_tell_53 (by decide) ?_
    refine lv_iload_n hx hb dX2_tell_54 rfl (lv_at hl 2 rfl) ?_
    refine lv_imul hx hb dX2_tell_55 ?_
    obtain ⟨hin, hm⟩ := gdE hm
    have hin := inbE hin
    refine gAldI C0 hw 4 rfl hin dX2_tell_56 ?_
    refine lv_i2c (v := ((p0_bytes ((3 : Int32) * x2).toNatClampNeg).toUInt32 % 65536).toInt32) hx hb dX2_tell_57 rfl ?_
    obtain ⟨o58, ho58, hm⟩ := bindE hm
    refine gCalli (ws' := (W_hs_tell g h0 h1 h2 h3 h4 v_told v_fault v_mood v_strong p0_length p0_bytes p0_bytes_n)) C0 hw (gRunStr (As := [.int (((p0_bytes ((3 : Int32) * x2).toNatClampNeg).toUInt32 % 65536).toInt32)]) (rest := [.int x2, .ref h1]) C0 hw lkX2_43 rfl (c_js_indexOf l g H.size  (((p0_bytes ((3 : Int32) * x2).toNatClampNeg).toUInt32 % 65536).toInt32) o58 ho58) ⟨rfl, rfl⟩ ⟨Nat.le_of_ble_eq_true rfl, Nat.le_of_ble_eq_true rfl⟩ [] (by decide) rfl rfl hl.1 rfl (Nat.le_of_ble_eq_true rfl) dX2_tell_58) [] [0, 1, 2, 3, 4] rfl rfl ⟨rfl, rfl, rfl, rfl, rfl, trivial⟩ [h0, h1, h2, h3, h4] rfl rfl 5 rfl (by decide +kernel) (fun H locs hw => ?_)
    obtain ⟨hin, hm⟩ := gdE hm
    have hin := inbE hin
    refine gAstI (ws' := (W_hs_tell g h0 h1 h2 h3 h4 v_told v_fault (upd v_mood x2.toNatClampNeg o58) v_strong p0_length p0_bytes p0_bytes_n)) C0 hw 1 rfl hin rfl dX2_tell_61 (fun H locs hw => ?_)
    refine lv_aload_n hx hb dX2_tell_62 rfl (lv_at hl 0 rfl) ?_
    refine gGet C0 hw flX2_15 0 rfl rfl dX2_tell_63 ?_
    refine lv_iload_n hx hb dX2_tell_66 rfl (lv_at hl 2 rfl) ?_
    refine lv_aload_n hx hb dX2_tell_67 rfl (lv_at hl 1 rfl) ?_
    refine gGet C0 hw flX2_40 3 rfl rfl dX2_tell_68 ?_
    refine lv_iconst (v := 3) hx hb dX2_tell_71 (by decide) ?_
    refine lv_iload_n hx hb dX2_tell_72 rfl (lv_at hl 2 rfl) ?_
    refine lv_imul hx hb dX2_tell_73 ?_
    refine lv_iconst (v := 1) hx hb dX2_tell_74 (by decide) ?_
    refine lv_iadd hx hb dX2_tell_75 ?_
    obtain ⟨hin, hm⟩ := gdE hm
    have hin := inbE hin
    refine gAldI C0 hw 4 rfl hin dX2_tell_76 ?_
    refine lv_bipush (v := 48) hx hb dX2_tell_77 (by decide) ?_
    refine lv_isub hx hb dX2_tell_79 ?_
    obtain ⟨hin, hm⟩ := gdE hm
    have hin := inbE hin
    refine gAstI (ws' := (W_hs_tell g h0 h1 h2 h3 h4 v_told v_fault (upd v_mood x2.toNatClampNeg o58) (upd v_strong x2.toNatClampNeg ((p0_bytes (((3 : Int32) * x2) + (1 : Int32)).toNatClampNeg) - (48 : Int32))) p0_length p0_bytes p0_bytes_n)) C0 hw 2 rfl hin rfl dX2_tell_80 (fun H locs hw => ?_)
    refine lv_iinc (v := x2 + (1 : Int32)) (lv' := [(2, .int (x2 + (1 : Int32))), (0, .ref h0), (1, .ref h3)]) hx hb dX2_tell_81 hl (k := 2) rfl rfl (by decide) rfl (fun ls hl => ?_)
    refine lv_goto (tgt := 34) hx hb dX2_tell_84 (by decide) ?_
    exact hk34 _ _ _ _ _ hm _ _ _ hw (lv_sub hl [1, 2, 0] rfl)
set_option maxHeartbeats 1000000 in
set_option maxRecDepth 100000 in
theorem l_hs_tell_N34 {p : Program} {l : Launch} {e : Env} {s : State} {m : MethodId} {args : Array Value} {below : List Frame} {meth : Method} {c : Code} {A : Nat → Prop} {g : gG} {h0 h1 h2 h3 h4 : Nat} {p0_length : Int32} {p0_bytes : Nat → Int32} {p0_bytes_n : Nat} {r : (Int32 × Int32 × (Nat → Int32) × (Nat → Int32))} (C0 : gX p s m args meth c cX2_tell 3 none RX2 g A) : ∀ n : Nat, ∀ (v_told : Int32) (v_fault : Int32) (v_mood : Nat → Int32) (v_strong : Nat → Int32) (x2 : Int32), iter (fun _ _ _ _ _ => none) (f_hs_tell_N34 p0_length p0_bytes p0_bytes_n) n v_told v_fault v_mood v_strong x2 = some r → ∀ (H : Heap) (locs : List Loc) (ls : Array Slot), gW g A s (W_hs_tell g h0 h1 h2 h3 h4 v_told v_fault v_mood v_strong p0_length p0_bytes p0_bytes_n) H locs → lv_has ls 3 [(0, .ref h0), (1, .ref h3), (2, .int x2)] → W p l e rm_hs_tell s m args below meth c H locs 0 0 (gQv below args s A g (W_hs_tell g h0 h1 h2 h3 h4 r.1 r.2.1 r.2.2.1 r.2.2.2 p0_length p0_bytes p0_bytes_n)) (F0 m 34 ls []) := by
  intro n
  induction n with
  | zero =>
    intro v_told v_fault v_mood v_strong x2 hm
    cases hm
  | succ n ih =>
    exact n_hs_tell_N34 C0  ih
set_option maxHeartbeats 1000000 in
set_option maxRecDepth 100000 in
theorem c_hs_tell (l : Launch) (g : gG) (sz : Nat) (h0 h1 h2 h3 h4 : Nat) (v_told : Int32) (v_fault : Int32) (v_mood : Nat → Int32) (v_strong : Nat → Int32) (p0_length : Int32) (p0_bytes : Nat → Int32) (p0_bytes_n : Nat) (r : (Int32 × Int32 × (Nat → Int32) × (Nat → Int32))) (hm : f_hs_tell v_told v_fault v_mood v_strong p0_length p0_bytes p0_bytes_n = some r) : gMv l yX2_tell cX2_tell 3 none rm_hs_tell g sz [.ref h0, .ref h3] (W_hs_tell g h0 h1 h2 h3 h4 v_told v_fault v_mood v_strong p0_length p0_bytes p0_bytes_n) (W_hs_tell g h0 h1 h2 h3 h4 r.1 r.2.1 r.2.2.1 r.2.2.2 p0_length p0_bytes p0_bytes_n) := by
  unfold f_hs_tell at hm
  refine gEnterV (by decide) (Nat.le_of_ble_eq_true rfl) (fun p e s m below meth c A C0 H locs hw ls hl => ?_)
  obtain ⟨hx, hb, hr, hml, hown, hts, hlocks, hK, hA⟩ := id C0
  have C0 : gX p s m [.ref h0, .ref h3].toArray meth c cX2_tell 3 none RX2 g A := C0
  have hl : lv_has ls 3 [(0, .ref h0), (1, .ref h3)] := hl
  refine lv_aload_n hx hb dX2_tell_0 rfl (lv_at hl 0 rfl) ?_
  refine lv_aload_n hx hb dX2_tell_1 rfl (lv_at hl 1 rfl) ?_
  obtain ⟨o2, ho2, hm⟩ := bindE hm
  refine gCalli (ws' := (W_hs_tell g h0 h1 h2 h3 h4 v_told v_fault v_mood v_strong p0_length p0_bytes p0_bytes_n)) C0 hw (gRunS (As := [.ref h3]) (rest := [.ref h0]) C0 hw lkX2_29 (c_hs_firstFault l g H.size h3 h4 p0_length p0_bytes p0_bytes_n o2 ho2) ⟨rfl, rfl⟩ ⟨Nat.le_of_ble_eq_true rfl, Nat.le_of_ble_eq_true rfl⟩ [3, 4] (by decide) rfl rfl hl.1 rfl (Nat.le_of_ble_eq_true rfl) dX2_tell_2) [3, 4] [0, 1, 2] rfl rfl ⟨rfl, rfl, rfl, trivial⟩ [h0, h1, h2, h3, h4] rfl rfl 5 rfl (by decide +kernel) (fun H locs hw => ?_)
  refine gPut (ws' := (W_hs_tell g h0 h1 h2 h3 h4 v_told o2 v_mood v_strong p0_length p0_bytes p0_bytes_n)) C0 hw fpX2_18 0 rfl rfl rfl (Nat.le_of_ble_eq_true rfl) rfl dX2_tell_5 (fun H locs hw => ?_)
  refine lv_aload_n hx hb dX2_tell_8 rfl (lv_at hl 0 rfl) ?_
  refine lv_aload_n hx hb dX2_tell_9 rfl (lv_at hl 0 rfl) ?_
  refine gGet C0 hw flX2_18 0 rfl rfl dX2_tell_10 ?_
  refine lv_iconst (v := -1) hx hb dX2_tell_13 (by decide) ?_
  refine lv_icmp_ne (tgt := 28) hx hb dX2_tell_14 (by decide) (fun hc => ?_) (fun hc => ?_)
  · have hm := ineg hc hm
    refine lv_iconst (v := 0) hx hb dX2_tell_28 (by decide) ?_
    refine gPut (ws' := (W_hs_tell g h0 h1 h2 h3 h4 (0 : Int32) o2 v_mood v_strong p0_length p0_bytes p0_bytes_n)) C0 hw fpX2_22 0 rfl rfl rfl (Nat.le_of_ble_eq_true rfl) rfl dX2_tell_29 (fun H locs hw => ?_)
    refine lv_iconst (v := 0) hx hb dX2_tell_32 (by decide) ?_
    refine lv_istore_n (lv' := [(2, .int (0 : Int32)), (0, .ref h0), (1, .ref h3)]) hx hb dX2_tell_33 rfl hl (by decide) rfl (fun ls hl => ?_)
    exact l_hs_tell_N34 C0  1000 _ _ _ _ _ hm _ _ _ hw (lv_sub hl [1, 2, 0] rfl)
  · have hm := ipos hc hm
    refine lv_aload_n hx hb dX2_tell_17 rfl (lv_at hl 1 rfl) ?_
    refine gGet C0 hw flX2_33 3 rfl rfl dX2_tell_18 ?_
    refine lv_iconst (v := 1) hx hb dX2_tell_21 (by decide) ?_
    refine lv_iadd hx hb dX2_tell_22 ?_
    refine lv_iconst (v := 3) hx hb dX2_tell_23 (by decide) ?_
    refine lv_idiv hx hb dX2_tell_24 (by decide) ?_
    refine lv_goto (tgt := 29) hx hb dX2_tell_25 (by decide) ?_
    refine gPut (ws' := (W_hs_tell g h0 h1 h2 h3 h4 ((p0_length + (1 : Int32)) / (3 : Int32)) o2 v_mood v_strong p0_length p0_bytes p0_bytes_n)) C0 hw fpX2_22 0 rfl rfl rfl (Nat.le_of_ble_eq_true rfl) rfl dX2_tell_29 (fun H locs hw => ?_)
    refine lv_iconst (v := 0) hx hb dX2_tell_32 (by decide) ?_
    refine lv_istore_n (lv' := [(2, .int (0 : Int32)), (0, .ref h0), (1, .ref h3)]) hx hb dX2_tell_33 rfl hl (by decide) rfl (fun ls hl => ?_)
    exact l_hs_tell_N34 C0  1000 _ _ _ _ _ hm _ _ _ hw (lv_sub hl [1, 2, 0] rfl)

-- WallHands$Sheet.findingAt(II)I
abbrev W_sh_findingAt (g : gG) (h0 h1 : Nat) (v_form : Int32) (v_size : Int32) : va_W := [(h0, .inr (3, [.ref h1, .int v_form, .int v_size]))]

abbrev rm_sh_findingAt : Room := { frames := 1, cells := 0, slots := 0, locals := 22 }

set_option maxHeartbeats 1000000 in
set_option maxRecDepth 100000 in
theorem c_sh_findingAt (l : Launch) (g : gG) (sz : Nat) (h0 h1 : Nat) (v_form : Int32) (v_size : Int32) (a0 : Int32) (a1 : Int32) (r : Int32) (hm : f_sh_findingAt v_form v_size a0 a1 = some r) : gMi l yX3_findingAt cX3_findingAt 3 (some .int) rm_sh_findingAt g sz [.ref h0, .int a0, .int a1] (W_sh_findingAt g h0 h1 v_form v_size) r (W_sh_findingAt g h0 h1 v_form v_size) := by
  unfold f_sh_findingAt at hm
  refine gEnterI (by decide) (Nat.le_of_ble_eq_true rfl) (fun p e s m below meth c A C0 H locs hw ls hl => ?_)
  obtain ⟨hx, hb, hr, hml, hown, hts, hlocks, hK, hA⟩ := id C0
  have C0 : gX p s m [.ref h0, .int a0, .int a1].toArray meth c cX3_findingAt 3 (some .int) RX3 g A := C0
  have hl : lv_has ls 3 [(0, .ref h0), (1, .int a0), (2, .int a1)] := hl
  refine lv_aload_n hx hb dX3_findingAt_0 rfl (lv_at hl 0 rfl) ?_
  refine gGet C0 hw flX3_15 0 rfl rfl dX3_findingAt_1 ?_
  refine lv_iconst (v := -1) hx hb dX3_findingAt_4 (by decide) ?_
  refine lv_icmp_ne (tgt := 10) hx hb dX3_findingAt_5 (by decide) (fun hc => ?_) (fun hc => ?_)
  · have hm := ineg hc hm
    refine lv_aload_n hx hb dX3_findingAt_10 rfl (lv_at hl 0 rfl) ?_
    refine gGet C0 hw flX3_15 0 rfl rfl dX3_findingAt_11 ?_
    refine lv_iload_n hx hb dX3_findingAt_14 rfl (lv_at hl 1 rfl) ?_
    refine lv_icmp_eq (tgt := 20) hx hb dX3_findingAt_15 (by decide) (fun hc => ?_) (fun hc => ?_)
    · have hm := ipos hc hm
      refine lv_iload_n hx hb dX3_findingAt_20 rfl (lv_at hl 2 rfl) ?_
      refine lv_iconst (v := 0) hx hb dX3_findingAt_21 (by decide) ?_
      refine lv_aload_n hx hb dX3_findingAt_22 rfl (lv_at hl 0 rfl) ?_
      refine gGet C0 hw flX3_19 0 rfl rfl dX3_findingAt_23 ?_
      refine lv_iconst (v := 1) hx hb dX3_findingAt_26 (by decide) ?_
      refine lv_isub hx hb dX3_findingAt_27 ?_
      obtain ⟨o28, ho28, hm⟩ := bindE hm
      refine gCalli (ws' := (W_sh_findingAt g h0 h1 v_form v_size)) C0 hw (gRunN (As := [.int a1, .int (0 : Int32), .int (v_size - (1 : Int32))]) (rest := []) C0 hw lkX3_22 (c_x_within l g H.size  a1 (0 : Int32) (v_size - (1 : Int32)) o28 ho28) ⟨rfl, rfl⟩ ⟨Nat.le_of_ble_eq_true rfl, Nat.le_of_ble_eq_true rfl⟩ [] (by decide) rfl rfl hl.1 rfl (Nat.le_of_ble_eq_true rfl) dX3_findingAt_28) [] [0] rfl rfl ⟨rfl, trivial⟩ [h0] rfl rfl 1 rfl (by decide +kernel) (fun H locs hw => ?_)
      refine lv_if_eq (tgt := 38) hx hb dX3_findingAt_31 (by decide) (fun hc => ?_) (fun hc => ?_)
      · have hm := ipos hc hm
        refine lv_iconst (v := 2) hx hb dX3_findingAt_38 (by decide) ?_
        have hm := Option.some.inj hm
        subst hm
        exact gRetI C0 hw dX3_findingAt_39
      · have hm := ineg hc hm
        refine lv_iconst (v := 0) hx hb dX3_findingAt_34 (by decide) ?_
        refine lv_goto (tgt := 39) hx hb dX3_findingAt_35 (by decide) ?_
        have hm := Option.some.inj hm
        subst hm
        exact gRetI C0 hw dX3_findingAt_39
    · have hm := ineg hc hm
      refine lv_iconst (v := 3) hx hb dX3_findingAt_18 (by decide) ?_
      have hm := Option.some.inj hm
      subst hm
      exact gRetI C0 hw dX3_findingAt_19
  · have hm := ipos hc hm
    refine lv_iconst (v := 1) hx hb dX3_findingAt_8 (by decide) ?_
    have hm := Option.some.inj hm
    subst hm
    exact gRetI C0 hw dX3_findingAt_9

-- WallHands$Sheet.hasItems(II)Z
abbrev W_sh_hasItems (g : gG) (h0 h1 : Nat) (v_form : Int32) (v_size : Int32) : va_W := [(h0, .inr (3, [.ref h1, .int v_form, .int v_size]))]

abbrev rm_sh_hasItems : Room := { frames := 1, cells := 0, slots := 0, locals := 22 }

set_option maxHeartbeats 1000000 in
set_option maxRecDepth 100000 in
theorem c_sh_hasItems (l : Launch) (g : gG) (sz : Nat) (h0 h1 : Nat) (v_form : Int32) (v_size : Int32) (a0 : Int32) (a1 : Int32) (r : Int32) (hm : f_sh_hasItems v_size a0 a1 = some r) : gMi l yX3_hasItems cX3_hasItems 3 (some .boolean) rm_sh_hasItems g sz [.ref h0, .int a0, .int a1] (W_sh_hasItems g h0 h1 v_form v_size) r (W_sh_hasItems g h0 h1 v_form v_size) := by
  unfold f_sh_hasItems at hm
  refine gEnterI (by decide) (Nat.le_of_ble_eq_true rfl) (fun p e s m below meth c A C0 H locs hw ls hl => ?_)
  obtain ⟨hx, hb, hr, hml, hown, hts, hlocks, hK, hA⟩ := id C0
  have C0 : gX p s m [.ref h0, .int a0, .int a1].toArray meth c cX3_hasItems 3 (some .boolean) RX3 g A := C0
  have hl : lv_has ls 3 [(0, .ref h0), (1, .int a0), (2, .int a1)] := hl
  refine lv_iload_n hx hb dX3_hasItems_0 rfl (lv_at hl 1 rfl) ?_
  refine lv_iconst (v := 0) hx hb dX3_hasItems_1 (by decide) ?_
  refine lv_aload_n hx hb dX3_hasItems_2 rfl (lv_at hl 0 rfl) ?_
  refine gGet C0 hw flX3_19 0 rfl rfl dX3_hasItems_3 ?_
  obtain ⟨o6, ho6, hm⟩ := bindE hm
  refine gCalli (ws' := (W_sh_hasItems g h0 h1 v_form v_size)) C0 hw (gRunN (As := [.int a0, .int (0 : Int32), .int v_size]) (rest := []) C0 hw lkX3_22 (c_x_within l g H.size  a0 (0 : Int32) v_size o6 ho6) ⟨rfl, rfl⟩ ⟨Nat.le_of_ble_eq_true rfl, Nat.le_of_ble_eq_true rfl⟩ [] (by decide) rfl rfl hl.1 rfl (Nat.le_of_ble_eq_true rfl) dX3_hasItems_6) [] [0] rfl rfl ⟨rfl, trivial⟩ [h0] rfl rfl 1 rfl (by decide +kernel) (fun H locs hw => ?_)
  refine lv_if_eq (tgt := 30) hx hb dX3_hasItems_9 (by decide) (fun hc => ?_) (fun hc => ?_)
  · have hm := ipos hc hm
    refine lv_iconst (v := 0) hx hb dX3_hasItems_30 (by decide) ?_
    have hm := Option.some.inj hm
    subst hm
    exact gRetZ (v := (0 : Int32)) C0 hw rfl dX3_hasItems_31
  · have hm := ineg hc hm
    refine lv_iload_n hx hb dX3_hasItems_12 rfl (lv_at hl 2 rfl) ?_
    refine lv_iconst (v := 0) hx hb dX3_hasItems_13 (by decide) ?_
    refine lv_aload_n hx hb dX3_hasItems_14 rfl (lv_at hl 0 rfl) ?_
    refine gGet C0 hw flX3_19 0 rfl rfl dX3_hasItems_15 ?_
    refine lv_iload_n hx hb dX3_hasItems_18 rfl (lv_at hl 1 rfl) ?_
    refine lv_isub hx hb dX3_hasItems_19 ?_
    obtain ⟨o20, ho20, hm⟩ := bindE hm
    refine gCalli (ws' := (W_sh_hasItems g h0 h1 v_form v_size)) C0 hw (gRunN (As := [.int a1, .int (0 : Int32), .int (v_size - a0)]) (rest := []) C0 hw lkX3_22 (c_x_within l g H.size  a1 (0 : Int32) (v_size - a0) o20 ho20) ⟨rfl, rfl⟩ ⟨Nat.le_of_ble_eq_true rfl, Nat.le_of_ble_eq_true rfl⟩ [] (by decide) rfl rfl hl.1 rfl (Nat.le_of_ble_eq_true rfl) dX3_hasItems_20) [] [0] rfl rfl ⟨rfl, trivial⟩ [h0] rfl rfl 1 rfl (by decide +kernel) (fun H locs hw => ?_)
    refine lv_if_eq (tgt := 30) hx hb dX3_hasItems_23 (by decide) (fun hc => ?_) (fun hc => ?_)
    · have hm := ipos hc hm
      refine lv_iconst (v := 0) hx hb dX3_hasItems_30 (by decide) ?_
      have hm := Option.some.inj hm
      subst hm
      exact gRetZ (v := (0 : Int32)) C0 hw rfl dX3_hasItems_31
    · have hm := ineg hc hm
      refine lv_iconst (v := 1) hx hb dX3_hasItems_26 (by decide) ?_
      refine lv_goto (tgt := 31) hx hb dX3_hasItems_27 (by decide) ?_
      have hm := Option.some.inj hm
      subst hm
      exact gRetZ (v := (1 : Int32)) C0 hw rfl dX3_hasItems_31

-- WallHands$Sights.add(III)V
abbrev W_sg_add (g : gG) (h0 h1 h2 h3 : Nat) (v_told : Int32) (v_year : Nat → Int32) (v_place : Nat → Int32) (v_setter : Nat → Int32) : va_W := [(h0, .inr (4, [.ref h1, .ref h2, .ref h3, .int v_told])), (h1, .inl (gI g, 8, .inl v_year)), (h2, .inl (gI g, 8, .inl v_place)), (h3, .inl (gI g, 8, .inl v_setter))]

abbrev rm_sg_add : Room := { frames := 0, cells := 0, slots := 0, locals := 0 }

set_option maxHeartbeats 1000000 in
set_option maxRecDepth 100000 in
theorem c_sg_add (l : Launch) (g : gG) (sz : Nat) (h0 h1 h2 h3 : Nat) (v_told : Int32) (v_year : Nat → Int32) (v_place : Nat → Int32) (v_setter : Nat → Int32) (a0 : Int32) (a1 : Int32) (a2 : Int32) (r : (Int32 × (Nat → Int32) × (Nat → Int32) × (Nat → Int32))) (hm : f_sg_add v_told v_year v_place v_setter a0 a1 a2 = some r) : gMv l yX4_add cX4_add 4 none rm_sg_add g sz [.ref h0, .int a0, .int a1, .int a2] (W_sg_add g h0 h1 h2 h3 v_told v_year v_place v_setter) (W_sg_add g h0 h1 h2 h3 r.1 r.2.1 r.2.2.1 r.2.2.2) := by
  unfold f_sg_add at hm
  refine gEnterV (by decide) (Nat.le_of_ble_eq_true rfl) (fun p e s m below meth c A C0 H locs hw ls hl => ?_)
  obtain ⟨hx, hb, hr, hml, hown, hts, hlocks, hK, hA⟩ := id C0
  have C0 : gX p s m [.ref h0, .int a0, .int a1, .int a2].toArray meth c cX4_add 4 none RX4 g A := C0
  have hl : lv_has ls 4 [(0, .ref h0), (1, .int a0), (2, .int a1), (3, .int a2)] := hl
  refine lv_aload_n hx hb dX4_add_0 rfl (lv_at hl 0 rfl) ?_
  refine gGet C0 hw flX4_21 0 rfl rfl dX4_add_1 ?_
  refine lv_bipush (v := 8) hx hb dX4_add_4 (by decide) ?_
  refine lv_icmp_ge (tgt := 49) hx hb dX4_add_6 (by decide) (fun hc => ?_) (fun hc => ?_)
  · have hm := ipos hc hm
    have hm := Option.some.inj hm
    subst hm
    exact gRetV C0 hw dX4_add_49
  · have hm := ineg hc hm
    refine lv_aload_n hx hb dX4_add_9 rfl (lv_at hl 0 rfl) ?_
    refine gGet C0 hw flX4_9 0 rfl rfl dX4_add_10 ?_
    refine lv_aload_n hx hb dX4_add_13 rfl (lv_at hl 0 rfl) ?_
    refine gGet C0 hw flX4_21 0 rfl rfl dX4_add_14 ?_
    refine lv_iload_n hx hb dX4_add_17 rfl (lv_at hl 1 rfl) ?_
    obtain ⟨hin, hm⟩ := gdE hm
    have hin := inbE hin
    refine gAstI (ws' := (W_sg_add g h0 h1 h2 h3 v_told (upd v_year v_told.toNatClampNeg a0) v_place v_setter)) C0 hw 1 rfl hin rfl dX4_add_18 (fun H locs hw => ?_)
    refine lv_aload_n hx hb dX4_add_19 rfl (lv_at hl 0 rfl) ?_
    refine gGet C0 hw flX4_15 0 rfl rfl dX4_add_20 ?_
    refine lv_aload_n hx hb dX4_add_23 rfl (lv_at hl 0 rfl) ?_
    refine gGet C0 hw flX4_21 0 rfl rfl dX4_add_24 ?_
    refine lv_iload_n hx hb dX4_add_27 rfl (lv_at hl 2 rfl) ?_
    obtain ⟨hin, hm⟩ := gdE hm
    have hin := inbE hin
    refine gAstI (ws' := (W_sg_add g h0 h1 h2 h3 v_told (upd v_year v_told.toNatClampNeg a0) (upd v_place v_told.toNatClampNeg a1) v_setter)) C0 hw 2 rfl hin rfl dX4_add_28 (fun H locs hw => ?_)
    refine lv_aload_n hx hb dX4_add_29 rfl (lv_at hl 0 rfl) ?_
    refine gGet C0 hw flX4_18 0 rfl rfl dX4_add_30 ?_
    refine lv_aload_n hx hb dX4_add_33 rfl (lv_at hl 0 rfl) ?_
    refine gGet C0 hw flX4_21 0 rfl rfl dX4_add_34 ?_
    refine lv_iload_n hx hb dX4_add_37 rfl (lv_at hl 3 rfl) ?_
    obtain ⟨hin, hm⟩ := gdE hm
    have hin := inbE hin
    refine gAstI (ws' := (W_sg_add g h0 h1 h2 h3 v_told (upd v_year v_told.toNatClampNeg a0) (upd v_place v_told.toNatClampNeg a1) (upd v_setter v_told.toNatClampNeg a2))) C0 hw 3 rfl hin rfl dX4_add_38 (fun H locs hw => ?_)
    refine lv_aload_n hx hb dX4_add_39 rfl (lv_at hl 0 rfl) ?_
    refine lv_dup hx hb dX4_add_40 rfl ?_
    refine gGet C0 hw flX4_21 0 rfl rfl dX4_add_41 ?_
    refine lv_iconst (v := 1) hx hb dX4_add_44 (by decide) ?_
    refine lv_iadd hx hb dX4_add_45 ?_
    refine gPut (ws' := (W_sg_add g h0 h1 h2 h3 (v_told + (1 : Int32)) (upd v_year v_told.toNatClampNeg a0) (upd v_place v_told.toNatClampNeg a1) (upd v_setter v_told.toNatClampNeg a2))) C0 hw fpX4_21 0 rfl rfl rfl (Nat.le_of_ble_eq_true rfl) rfl dX4_add_46 (fun H locs hw => ?_)
    have hm := Option.some.inj hm
    subst hm
    exact gRetV C0 hw dX4_add_49

-- WallHands.isAt(JI)Z

abbrev rm_x_isAt : Room := { frames := 0, cells := 0, slots := 0, locals := 0 }

set_option maxHeartbeats 1000000 in
set_option maxRecDepth 100000 in
theorem c_x_isAt (l : Launch) (g : gG) (sz : Nat) (a0 : Int64) (a1 : Int32) (r : Int32) (hm : f_x_isAt a0 a1 = some r) : gMi l yX8_isAt cX8_isAt 3 (some .boolean) rm_x_isAt g sz [.long a0, .int a1] [] r [] := by
  unfold f_x_isAt at hm
  refine gEnterI (by decide) (Nat.le_of_ble_eq_true rfl) (fun p e s m below meth c A C0 H locs hw ls hl => ?_)
  obtain ⟨hx, hb, hr, hml, hown, hts, hlocks, hK, hA⟩ := id C0
  have C0 : gX p s m [.long a0, .int a1].toArray meth c cX8_isAt 3 (some .boolean) RX8 g A := C0
  have hl : lv_has ls 3 [(0, .long a0), (2, .int a1)] := hl
  refine lv_lload_n hx hb dX8_isAt_0 rfl (lv_at hl 0 rfl) ?_
  refine lv_iload_n hx hb dX8_isAt_1 rfl (lv_at hl 1 rfl) ?_
  refine lv_lushr (v := lushr a0 a1) hx hb dX8_isAt_2 rfl ?_
  refine lv_lconst (v := 1) hx hb dX8_isAt_3 (by decide) ?_
  refine lv_land hx hb dX8_isAt_4 ?_
  refine lv_lconst (v := 0) hx hb dX8_isAt_5 (by decide) ?_
  refine W.lcmp hx hb dX8_isAt_6 ?_
  refine lv_if_eq (tgt := 14) hx hb dX8_isAt_7 (by decide) (fun hc => ?_) (fun hc => ?_)
  · have hm := ipos hc hm
    refine lv_iconst (v := 0) hx hb dX8_isAt_14 (by decide) ?_
    have hm := Option.some.inj hm
    subst hm
    exact gRetZ (v := (0 : Int32)) C0 hw rfl dX8_isAt_15
  · have hm := ineg hc hm
    refine lv_iconst (v := 1) hx hb dX8_isAt_10 (by decide) ?_
    refine lv_goto (tgt := 15) hx hb dX8_isAt_11 (by decide) ?_
    have hm := Option.some.inj hm
    subst hm
    exact gRetZ (v := (1 : Int32)) C0 hw rfl dX8_isAt_15

-- WallHands.setterAt([JII)I
abbrev W_x_setterAt (g : gG) (h0 : Nat) (p0 : Nat → Int64) (p0_n : Nat) : va_W := [(h0, .inl (gJ g, p0_n, .inr (.inl p0)))]

abbrev rm_x_setterAt : Room := { frames := 1, cells := 0, slots := 0, locals := 22 }

set_option maxHeartbeats 1000000 in
set_option maxRecDepth 100000 in
theorem n_x_setterAt_N2 {p : Program} {l : Launch} {e : Env} {s : State} {m : MethodId} {args : Array Value} {below : List Frame} {meth : Method} {c : Code} {A : Nat → Prop} {g : gG} {h0 : Nat} {p0 : Nat → Int64} {p0_n : Nat} {k2 : Int32 → Int32 → Int32 → Option Int32} {r : Int32} (C0 : gX p s m args meth c cX8_setterAt 4 (some .int) RX8 g A) (hk2 : ∀ (x1 : Int32) (x2 : Int32) (x3 : Int32), k2 x1 x2 x3 = some r → ∀ (H : Heap) (locs : List Loc) (ls : Array Slot), gW g A s (W_x_setterAt g h0 p0 p0_n) H locs → lv_has ls 4 [(0, .ref h0), (1, .int x1), (2, .int x2), (3, .int x3)] → W p l e rm_x_setterAt s m args below meth c H locs 0 0 (gQi below args s A g r (W_x_setterAt g h0 p0 p0_n)) (F0 m 2 ls [])) : ∀ (x1 : Int32) (x2 : Int32) (x3 : Int32), f_x_setterAt_N2 p0 p0_n k2 x1 x2 x3 = some r → ∀ (H : Heap) (locs : List Loc) (ls : Array Slot), gW g A s (W_x_setterAt g h0 p0 p0_n) H locs → lv_has ls 4 [(0, .ref h0), (1, .int x1), (2, .int x2), (3, .int x3)] → W p l e rm_x_setterAt s m args below meth c H locs 0 0 (gQi below args s A g r (W_x_setterAt g h0 p0 p0_n)) (F0 m 2 ls []) := by
  intro x1 x2 x3 hm H locs ls hw hl
  unfold f_x_setterAt_N2 at hm
  obtain ⟨hx, hb, hr, hml, hown, hts, hlocks, hK, hA⟩ := id C0
  refine lv_iload_n hx hb dX8_setterAt_2 rfl (lv_at hl 3 rfl) ?_
  refine lv_bipush (v := 8) hx hb dX8_setterAt_3 (by decide) ?_
  refine lv_icmp_ge (tgt := 28) hx hb dX8_setterAt_5 (by decide) (fun hc => ?_) (fun hc => ?_)
  · have hm := ipos hc hm
    refine lv_iconst (v := -1) hx hb dX8_setterAt_28 (by decide) ?_
    have hm := Option.some.inj hm
    subst hm
    exact gRetI C0 hw dX8_setterAt_29
  · have hm := ineg hc hm
    refine lv_aload_n hx hb dX8_setterAt_8 rfl (lv_at hl 0 rfl) ?_
    refine lv_iload_n hx hb dX8_setterAt_9 rfl (lv_at hl 1 rfl) ?_
    refine lv_iload_n hx hb dX8_setterAt_10 rfl (lv_at hl 3 rfl) ?_
    refine lv_iadd hx hb dX8_setterAt_11 ?_
    obtain ⟨hin, hm⟩ := gdE hm
    have hin := inbE hin
    refine gAldJ C0 hw 0 rfl hin dX8_setterAt_12 ?_
    refine lv_iload_n hx hb dX8_setterAt_13 rfl (lv_at hl 2 rfl) ?_
    obtain ⟨o14, ho14, hm⟩ := bindE hm
    refine gCalli (ws' := (W_x_setterAt g h0 p0 p0_n)) C0 hw (gRunS (As := [.long (p0 (x1 + x3).toNatClampNeg), .int x2]) (rest := []) C0 hw lkX8_358 (c_x_isAt l g H.size  (p0 (x1 + x3).toNatClampNeg) x2 o14 ho14) ⟨rfl, rfl⟩ ⟨Nat.le_of_ble_eq_true rfl, Nat.le_of_ble_eq_true rfl⟩ [] (by decide) rfl rfl hl.1 rfl (Nat.le_of_ble_eq_true rfl) dX8_setterAt_14) [] [0] rfl rfl ⟨rfl, trivial⟩ [h0] rfl rfl 1 rfl (by decide +kernel) (fun H locs hw => ?_)
    refine lv_if_eq (tgt := 22) hx hb dX8_setterAt_17 (by decide) (fun hc => ?_) (fun hc => ?_)
    · have hm := ipos hc hm
      refine lv_iinc (v := x3 + (1 : Int32)) (lv' := [(3, .int (x3 + (1 : Int32))), (0, .ref h0), (1, .int x1), (2, .int x2)]) hx hb dX8_setterAt_22 hl (k := 3) rfl rfl (by decide) rfl (fun ls hl => ?_)
      refine lv_goto (tgt := 2) hx hb dX8_setterAt_25 (by decide) ?_
      exact hk2 _ _ _ hm _ _ _ hw (lv_sub hl [1, 2, 3, 0] rfl)
    · have hm := ineg hc hm
      refine lv_iload_n hx hb dX8_setterAt_20 rfl (lv_at hl 3 rfl) ?_
      have hm := Option.some.inj hm
      subst hm
      exact gRetI C0 hw dX8_setterAt_21
set_option maxHeartbeats 1000000 in
set_option maxRecDepth 100000 in
theorem l_x_setterAt_N2 {p : Program} {l : Launch} {e : Env} {s : State} {m : MethodId} {args : Array Value} {below : List Frame} {meth : Method} {c : Code} {A : Nat → Prop} {g : gG} {h0 : Nat} {p0 : Nat → Int64} {p0_n : Nat} {r : Int32} (C0 : gX p s m args meth c cX8_setterAt 4 (some .int) RX8 g A) : ∀ n : Nat, ∀ (x1 : Int32) (x2 : Int32) (x3 : Int32), iter (fun _ _ _ => none) (f_x_setterAt_N2 p0 p0_n) n x1 x2 x3 = some r → ∀ (H : Heap) (locs : List Loc) (ls : Array Slot), gW g A s (W_x_setterAt g h0 p0 p0_n) H locs → lv_has ls 4 [(0, .ref h0), (1, .int x1), (2, .int x2), (3, .int x3)] → W p l e rm_x_setterAt s m args below meth c H locs 0 0 (gQi below args s A g r (W_x_setterAt g h0 p0 p0_n)) (F0 m 2 ls []) := by
  intro n
  induction n with
  | zero =>
    intro x1 x2 x3 hm
    cases hm
  | succ n ih =>
    exact n_x_setterAt_N2 C0  ih
set_option maxHeartbeats 1000000 in
set_option maxRecDepth 100000 in
theorem c_x_setterAt (l : Launch) (g : gG) (sz : Nat) (h0 : Nat) (p0 : Nat → Int64) (p0_n : Nat) (a1 : Int32) (a2 : Int32) (r : Int32) (hm : f_x_setterAt p0 p0_n a1 a2 = some r) : gMi l yX8_setterAt cX8_setterAt 4 (some .int) rm_x_setterAt g sz [.ref h0, .int a1, .int a2] (W_x_setterAt g h0 p0 p0_n) r (W_x_setterAt g h0 p0 p0_n) := by
  unfold f_x_setterAt at hm
  refine gEnterI (by decide) (Nat.le_of_ble_eq_true rfl) (fun p e s m below meth c A C0 H locs hw ls hl => ?_)
  obtain ⟨hx, hb, hr, hml, hown, hts, hlocks, hK, hA⟩ := id C0
  have C0 : gX p s m [.ref h0, .int a1, .int a2].toArray meth c cX8_setterAt 4 (some .int) RX8 g A := C0
  have hl : lv_has ls 4 [(0, .ref h0), (1, .int a1), (2, .int a2)] := hl
  refine lv_iconst (v := 0) hx hb dX8_setterAt_0 (by decide) ?_
  refine lv_istore_n (lv' := [(3, .int (0 : Int32)), (0, .ref h0), (1, .int a1), (2, .int a2)]) hx hb dX8_setterAt_1 rfl hl (by decide) rfl (fun ls hl => ?_)
  exact l_x_setterAt_N2 C0  1000 _ _ _ hm _ _ _ hw (lv_sub hl [1, 2, 3, 0] rfl)

-- WallHands$Years.setterBehind(II)I
abbrev W_ys_setterBehind (g : gG) (h0 h1 h2 h3 h4 h5 h6 h7 h8 : Nat) (v_all : Int64) (v_losers : Int32) (v_stones : Nat → Int64) : va_W := [(h0, .inr (7, [.ref h2, .ref h3, .ref h4, .ref h5, .long v_all, .ref h1, .ref h6, .ref h7, .ref h8, .int v_losers])), (h1, .inl (gJ g, 160, .inr (.inl v_stones)))]

abbrev rm_ys_setterBehind : Room := { frames := 2, cells := 0, slots := 0, locals := 45 }

set_option maxHeartbeats 1000000 in
set_option maxRecDepth 100000 in
theorem c_ys_setterBehind (l : Launch) (g : gG) (sz : Nat) (h0 h1 h2 h3 h4 h5 h6 h7 h8 : Nat) (v_all : Int64) (v_losers : Int32) (v_stones : Nat → Int64) (a0 : Int32) (a1 : Int32) (r : Int32) (hm : f_ys_setterBehind v_stones a0 a1 = some r) : gMi l yX7_setterBehind cX7_setterBehind 3 (some .int) rm_ys_setterBehind g sz [.ref h0, .int a0, .int a1] (W_ys_setterBehind g h0 h1 h2 h3 h4 h5 h6 h7 h8 v_all v_losers v_stones) r (W_ys_setterBehind g h0 h1 h2 h3 h4 h5 h6 h7 h8 v_all v_losers v_stones) := by
  unfold f_ys_setterBehind at hm
  refine gEnterI (by decide) (Nat.le_of_ble_eq_true rfl) (fun p e s m below meth c A C0 H locs hw ls hl => ?_)
  obtain ⟨hx, hb, hr, hml, hown, hts, hlocks, hK, hA⟩ := id C0
  have C0 : gX p s m [.ref h0, .int a0, .int a1].toArray meth c cX7_setterBehind 3 (some .int) RX7 g A := C0
  have hl : lv_has ls 3 [(0, .ref h0), (1, .int a0), (2, .int a1)] := hl
  refine lv_aload_n hx hb dX7_setterBehind_0 rfl (lv_at hl 0 rfl) ?_
  refine gGet C0 hw flX7_15 0 rfl rfl dX7_setterBehind_1 ?_
  refine lv_bipush (v := 8) hx hb dX7_setterBehind_4 (by decide) ?_
  refine lv_iload_n hx hb dX7_setterBehind_6 rfl (lv_at hl 1 rfl) ?_
  refine lv_imul hx hb dX7_setterBehind_7 ?_
  refine lv_iload_n hx hb dX7_setterBehind_8 rfl (lv_at hl 2 rfl) ?_
  obtain ⟨o9, ho9, hm⟩ := bindE hm
  refine gCalli (ws' := (W_ys_setterBehind g h0 h1 h2 h3 h4 h5 h6 h7 h8 v_all v_losers v_stones)) C0 hw (gRunN (As := [.ref h1, .int ((8 : Int32) * a0), .int a1]) (rest := []) C0 hw lkX7_147 (c_x_setterAt l g H.size h1 v_stones 160 ((8 : Int32) * a0) a1 o9 ho9) ⟨rfl, rfl⟩ ⟨Nat.le_of_ble_eq_true rfl, Nat.le_of_ble_eq_true rfl⟩ [1] (by decide) rfl rfl hl.1 rfl (Nat.le_of_ble_eq_true rfl) dX7_setterBehind_9) [1] [0] rfl rfl ⟨rfl, trivial⟩ [h0, h1] rfl rfl 2 rfl (by decide +kernel) (fun H locs hw => ?_)
  have hm := Option.some.inj hm
  subst hm
  exact gRetI C0 hw dX7_setterBehind_12

-- WallHands$Sights.comeOutIn(LWallHands$Years;)Z
abbrev W_sg_comeOutIn (g : gG) (h0 h1 h2 h3 h4 h5 h6 h7 h8 h9 h10 h11 h12 : Nat) (v_told : Int32) (v_year : Nat → Int32) (v_place : Nat → Int32) (v_setter : Nat → Int32) (p0_all : Int64) (p0_losers : Int32) (p0_stones : Nat → Int64) : va_W := [(h0, .inr (4, [.ref h1, .ref h2, .ref h3, .int v_told])), (h1, .inl (gI g, 8, .inl v_year)), (h2, .inl (gI g, 8, .inl v_place)), (h3, .inl (gI g, 8, .inl v_setter)), (h4, .inr (7, [.ref h6, .ref h7, .ref h8, .ref h9, .long p0_all, .ref h5, .ref h10, .ref h11, .ref h12, .int p0_losers])), (h5, .inl (gJ g, 160, .inr (.inl p0_stones)))]

abbrev rm_sg_comeOutIn : Room := { frames := 3, cells := 0, slots := 0, locals := 67 }

set_option maxHeartbeats 1000000 in
set_option maxRecDepth 100000 in
theorem n_sg_comeOutIn_N2 {p : Program} {l : Launch} {e : Env} {s : State} {m : MethodId} {args : Array Value} {below : List Frame} {meth : Method} {c : Code} {A : Nat → Prop} {g : gG} {h0 h1 h2 h3 h4 h5 h6 h7 h8 h9 h10 h11 h12 : Nat} {v_told : Int32} {v_year : Nat → Int32} {v_place : Nat → Int32} {v_setter : Nat → Int32} {p0_all : Int64} {p0_losers : Int32} {p0_stones : Nat → Int64} {k2 : Int32 → Option Int32} {r : Int32} (C0 : gX p s m args meth c cX4_comeOutIn 3 (some .boolean) RX4 g A) (hk2 : ∀ (x2 : Int32), k2 x2 = some r → ∀ (H : Heap) (locs : List Loc) (ls : Array Slot), gW g A s (W_sg_comeOutIn g h0 h1 h2 h3 h4 h5 h6 h7 h8 h9 h10 h11 h12 v_told v_year v_place v_setter p0_all p0_losers p0_stones) H locs → lv_has ls 3 [(0, .ref h0), (1, .ref h4), (2, .int x2)] → W p l e rm_sg_comeOutIn s m args below meth c H locs 0 0 (gQi below args s A g r (W_sg_comeOutIn g h0 h1 h2 h3 h4 h5 h6 h7 h8 h9 h10 h11 h12 v_told v_year v_place v_setter p0_all p0_losers p0_stones)) (F0 m 2 ls [])) : ∀ (x2 : Int32), f_sg_comeOutIn_N2 v_told v_year v_place v_setter p0_stones k2 x2 = some r → ∀ (H : Heap) (locs : List Loc) (ls : Array Slot), gW g A s (W_sg_comeOutIn g h0 h1 h2 h3 h4 h5 h6 h7 h8 h9 h10 h11 h12 v_told v_year v_place v_setter p0_all p0_losers p0_stones) H locs → lv_has ls 3 [(0, .ref h0), (1, .ref h4), (2, .int x2)] → W p l e rm_sg_comeOutIn s m args below meth c H locs 0 0 (gQi below args s A g r (W_sg_comeOutIn g h0 h1 h2 h3 h4 h5 h6 h7 h8 h9 h10 h11 h12 v_told v_year v_place v_setter p0_all p0_losers p0_stones)) (F0 m 2 ls []) := by
  intro x2 hm H locs ls hw hl
  unfold f_sg_comeOutIn_N2 at hm
  obtain ⟨hx, hb, hr, hml, hown, hts, hlocks, hK, hA⟩ := id C0
  refine lv_iload_n hx hb dX4_comeOutIn_2 rfl (lv_at hl 2 rfl) ?_
  refine lv_aload_n hx hb dX4_comeOutIn_3 rfl (lv_at hl 0 rfl) ?_
  refine gGet C0 hw flX4_21 0 rfl rfl dX4_comeOutIn_4 ?_
  refine lv_icmp_ge (tgt := 43) hx hb dX4_comeOutIn_7 (by decide) (fun hc => ?_) (fun hc => ?_)
  · have hm := ipos hc hm
    refine lv_iconst (v := 1) hx hb dX4_comeOutIn_43 (by decide) ?_
    have hm := Option.some.inj hm
    subst hm
    exact gRetZ (v := (1 : Int32)) C0 hw rfl dX4_comeOutIn_44
  · have hm := ineg hc hm
    refine lv_aload_n hx hb dX4_comeOutIn_10 rfl (lv_at hl 1 rfl) ?_
    refine lv_aload_n hx hb dX4_comeOutIn_11 rfl (lv_at hl 0 rfl) ?_
    refine gGet C0 hw flX4_9 0 rfl rfl dX4_comeOutIn_12 ?_
    refine lv_iload_n hx hb dX4_comeOutIn_15 rfl (lv_at hl 2 rfl) ?_
    obtain ⟨hin, hm⟩ := gdE hm
    have hin := inbE hin
    refine gAldI C0 hw 1 rfl hin dX4_comeOutIn_16 ?_
    refine lv_aload_n hx hb dX4_comeOutIn_17 rfl (lv_at hl 0 rfl) ?_
    refine gGet C0 hw flX4_15 0 rfl rfl dX4_comeOutIn_18 ?_
    refine lv_iload_n hx hb dX4_comeOutIn_21 rfl (lv_at hl 2 rfl) ?_
    obtain ⟨hin, hm⟩ := gdE hm
    have hin := inbE hin
    refine gAldI C0 hw 2 rfl hin dX4_comeOutIn_22 ?_
    obtain ⟨o23, ho23, hm⟩ := bindE hm
    refine gCalli (ws' := (W_sg_comeOutIn g h0 h1 h2 h3 h4 h5 h6 h7 h8 h9 h10 h11 h12 v_told v_year v_place v_setter p0_all p0_losers p0_stones)) C0 hw (gRunV (As := [.int (v_year x2.toNatClampNeg), .int (v_place x2.toNatClampNeg)]) (rest := []) C0 hw lkX4_25 (c_ys_setterBehind l g H.size h4 h5 h6 h7 h8 h9 h10 h11 h12 p0_all p0_losers p0_stones (v_year x2.toNatClampNeg) (v_place x2.toNatClampNeg) o23 ho23) ⟨rfl, rfl⟩ ⟨Nat.le_of_ble_eq_true rfl, Nat.le_of_ble_eq_true rfl⟩ [4, 5] (by decide) rfl 4 rfl rfl rfl hl.1 rfl (Nat.le_of_ble_eq_true rfl) dX4_comeOutIn_23) [4, 5] [0, 1, 2, 3] rfl rfl ⟨rfl, rfl, rfl, rfl, trivial⟩ [h0, h1, h2, h3, h4, h5] rfl rfl 6 rfl (by decide +kernel) (fun H locs hw => ?_)
    refine lv_aload_n hx hb dX4_comeOutIn_26 rfl (lv_at hl 0 rfl) ?_
    refine gGet C0 hw flX4_18 0 rfl rfl dX4_comeOutIn_27 ?_
    refine lv_iload_n hx hb dX4_comeOutIn_30 rfl (lv_at hl 2 rfl) ?_
    obtain ⟨hin, hm⟩ := gdE hm
    have hin := inbE hin
    refine gAldI C0 hw 3 rfl hin dX4_comeOutIn_31 ?_
    refine lv_icmp_eq (tgt := 37) hx hb dX4_comeOutIn_32 (by decide) (fun hc => ?_) (fun hc => ?_)
    · have hm := ipos hc hm
      refine lv_iinc (v := x2 + (1 : Int32)) (lv' := [(2, .int (x2 + (1 : Int32))), (0, .ref h0), (1, .ref h4)]) hx hb dX4_comeOutIn_37 hl (k := 2) rfl rfl (by decide) rfl (fun ls hl => ?_)
      refine lv_goto (tgt := 2) hx hb dX4_comeOutIn_40 (by decide) ?_
      exact hk2 _ hm _ _ _ hw (lv_sub hl [1, 2, 0] rfl)
    · have hm := ineg hc hm
      refine lv_iconst (v := 0) hx hb dX4_comeOutIn_35 (by decide) ?_
      have hm := Option.some.inj hm
      subst hm
      exact gRetZ (v := (0 : Int32)) C0 hw rfl dX4_comeOutIn_36
set_option maxHeartbeats 1000000 in
set_option maxRecDepth 100000 in
theorem l_sg_comeOutIn_N2 {p : Program} {l : Launch} {e : Env} {s : State} {m : MethodId} {args : Array Value} {below : List Frame} {meth : Method} {c : Code} {A : Nat → Prop} {g : gG} {h0 h1 h2 h3 h4 h5 h6 h7 h8 h9 h10 h11 h12 : Nat} {v_told : Int32} {v_year : Nat → Int32} {v_place : Nat → Int32} {v_setter : Nat → Int32} {p0_all : Int64} {p0_losers : Int32} {p0_stones : Nat → Int64} {r : Int32} (C0 : gX p s m args meth c cX4_comeOutIn 3 (some .boolean) RX4 g A) : ∀ n : Nat, ∀ (x2 : Int32), iter (fun _ => none) (f_sg_comeOutIn_N2 v_told v_year v_place v_setter p0_stones) n x2 = some r → ∀ (H : Heap) (locs : List Loc) (ls : Array Slot), gW g A s (W_sg_comeOutIn g h0 h1 h2 h3 h4 h5 h6 h7 h8 h9 h10 h11 h12 v_told v_year v_place v_setter p0_all p0_losers p0_stones) H locs → lv_has ls 3 [(0, .ref h0), (1, .ref h4), (2, .int x2)] → W p l e rm_sg_comeOutIn s m args below meth c H locs 0 0 (gQi below args s A g r (W_sg_comeOutIn g h0 h1 h2 h3 h4 h5 h6 h7 h8 h9 h10 h11 h12 v_told v_year v_place v_setter p0_all p0_losers p0_stones)) (F0 m 2 ls []) := by
  intro n
  induction n with
  | zero =>
    intro x2 hm
    cases hm
  | succ n ih =>
    exact n_sg_comeOutIn_N2 C0  ih
set_option maxHeartbeats 1000000 in
set_option maxRecDepth 100000 in
theorem c_sg_comeOutIn (l : Launch) (g : gG) (sz : Nat) (h0 h1 h2 h3 h4 h5 h6 h7 h8 h9 h10 h11 h12 : Nat) (v_told : Int32) (v_year : Nat → Int32) (v_place : Nat → Int32) (v_setter : Nat → Int32) (p0_all : Int64) (p0_losers : Int32) (p0_stones : Nat → Int64) (r : Int32) (hm : f_sg_comeOutIn v_told v_year v_place v_setter p0_stones = some r) : gMi l yX4_comeOutIn cX4_comeOutIn 3 (some .boolean) rm_sg_comeOutIn g sz [.ref h0, .ref h4] (W_sg_comeOutIn g h0 h1 h2 h3 h4 h5 h6 h7 h8 h9 h10 h11 h12 v_told v_year v_place v_setter p0_all p0_losers p0_stones) r (W_sg_comeOutIn g h0 h1 h2 h3 h4 h5 h6 h7 h8 h9 h10 h11 h12 v_told v_year v_place v_setter p0_all p0_losers p0_stones) := by
  unfold f_sg_comeOutIn at hm
  refine gEnterI (by decide) (Nat.le_of_ble_eq_true rfl) (fun p e s m below meth c A C0 H locs hw ls hl => ?_)
  obtain ⟨hx, hb, hr, hml, hown, hts, hlocks, hK, hA⟩ := id C0
  have C0 : gX p s m [.ref h0, .ref h4].toArray meth c cX4_comeOutIn 3 (some .boolean) RX4 g A := C0
  have hl : lv_has ls 3 [(0, .ref h0), (1, .ref h4)] := hl
  refine lv_iconst (v := 0) hx hb dX4_comeOutIn_0 (by decide) ?_
  refine lv_istore_n (lv' := [(2, .int (0 : Int32)), (0, .ref h0), (1, .ref h4)]) hx hb dX4_comeOutIn_1 rfl hl (by decide) rfl (fun ls hl => ?_)
  exact l_sg_comeOutIn_N2 C0  1000 _ hm _ _ _ hw (lv_sub hl [1, 2, 0] rfl)

-- java/util/Arrays.fill([JJ)V
abbrev W_ja_fill_j (g : gG) (h0 : Nat) (p0 : Nat → Int64) (p0_n : Nat) : va_W := [(h0, .inl (gJ g, p0_n, .inr (.inl p0)))]

abbrev rm_ja_fill_j : Room := { frames := 0, cells := 0, slots := 0, locals := 0 }

set_option maxHeartbeats 1000000 in
set_option maxRecDepth 100000 in
theorem n_ja_fill_j_N6 {p : Program} {l : Launch} {e : Env} {s : State} {m : MethodId} {args : Array Value} {below : List Frame} {meth : Method} {c : Code} {A : Nat → Prop} {g : gG} {h0 : Nat} {p0_n : Nat} {k6 : (Nat → Int64) → Int64 → Int32 → Int32 → Option (Nat → Int64)} {r : (Nat → Int64)} (C0 : gX p s m args meth c cJ7_fill_d0a16 5 none RJ7 g A) (hk6 : ∀ (p0 : Nat → Int64) (x1 : Int64) (x3 : Int32) (x4 : Int32), k6 p0 x1 x3 x4 = some r → ∀ (H : Heap) (locs : List Loc) (ls : Array Slot), gW g A s (W_ja_fill_j g h0 p0 p0_n) H locs → lv_has ls 5 [(0, .ref h0), (1, .long x1), (3, .int x3), (4, .int x4)] → W p l e rm_ja_fill_j s m args below meth c H locs 0 0 (gQv below args s A g (W_ja_fill_j g h0 r p0_n)) (F0 m 6 ls [])) : ∀ (p0 : Nat → Int64) (x1 : Int64) (x3 : Int32) (x4 : Int32), f_ja_fill_j_N6 p0_n k6 p0 x1 x3 x4 = some r → ∀ (H : Heap) (locs : List Loc) (ls : Array Slot), gW g A s (W_ja_fill_j g h0 p0 p0_n) H locs → lv_has ls 5 [(0, .ref h0), (1, .long x1), (3, .int x3), (4, .int x4)] → W p l e rm_ja_fill_j s m args below meth c H locs 0 0 (gQv below args s A g (W_ja_fill_j g h0 r p0_n)) (F0 m 6 ls []) := by
  intro p0 x1 x3 x4 hm H locs ls hw hl
  unfold f_ja_fill_j_N6 at hm
  obtain ⟨hx, hb, hr, hml, hown, hts, hlocks, hK, hA⟩ := id C0
  refine lv_iload_n hx hb dJ7_fill_d0a16_6 rfl (lv_at hl 2 rfl) ?_
  refine lv_iload hx hb dJ7_fill_d0a16_7 (lv_at hl 3 rfl) ?_
  refine lv_icmp_ge (tgt := 22) hx hb dJ7_fill_d0a16_9 (by decide) (fun hc => ?_) (fun hc => ?_)
  · have hm := ipos hc hm
    have hm := Option.some.inj hm
    subst hm
    exact gRetV C0 hw dJ7_fill_d0a16_22
  · have hm := ineg hc hm
    refine lv_aload_n hx hb dJ7_fill_d0a16_12 rfl (lv_at hl 0 rfl) ?_
    refine lv_iload_n hx hb dJ7_fill_d0a16_13 rfl (lv_at hl 2 rfl) ?_
    refine lv_lload_n hx hb dJ7_fill_d0a16_14 rfl (lv_at hl 1 rfl) ?_
    obtain ⟨hin, hm⟩ := gdE hm
    have hin := inbE hin
    refine gAstJ (ws' := (W_ja_fill_j g h0 (vp_updL p0 x3.toNatClampNeg x1) p0_n)) C0 hw 0 rfl hin rfl dJ7_fill_d0a16_15 (fun H locs hw => ?_)
    refine lv_iinc (v := x3 + (1 : Int32)) (lv' := [(3, .int (x3 + (1 : Int32))), (0, .ref h0), (1, .long x1), (4, .int x4)]) hx hb dJ7_fill_d0a16_16 hl (k := 2) rfl rfl (by decide) rfl (fun ls hl => ?_)
    refine lv_goto (tgt := 6) hx hb dJ7_fill_d0a16_19 (by decide) ?_
    exact hk6 _ _ _ _ hm _ _ _ hw (lv_sub hl [1, 2, 0, 3] rfl)
set_option maxHeartbeats 1000000 in
set_option maxRecDepth 100000 in
theorem l_ja_fill_j_N6 {p : Program} {l : Launch} {e : Env} {s : State} {m : MethodId} {args : Array Value} {below : List Frame} {meth : Method} {c : Code} {A : Nat → Prop} {g : gG} {h0 : Nat} {p0_n : Nat} {r : (Nat → Int64)} (C0 : gX p s m args meth c cJ7_fill_d0a16 5 none RJ7 g A) : ∀ n : Nat, ∀ (p0 : Nat → Int64) (x1 : Int64) (x3 : Int32) (x4 : Int32), iter (fun _ _ _ _ => none) (f_ja_fill_j_N6 p0_n) n p0 x1 x3 x4 = some r → ∀ (H : Heap) (locs : List Loc) (ls : Array Slot), gW g A s (W_ja_fill_j g h0 p0 p0_n) H locs → lv_has ls 5 [(0, .ref h0), (1, .long x1), (3, .int x3), (4, .int x4)] → W p l e rm_ja_fill_j s m args below meth c H locs 0 0 (gQv below args s A g (W_ja_fill_j g h0 r p0_n)) (F0 m 6 ls []) := by
  intro n
  induction n with
  | zero =>
    intro p0 x1 x3 x4 hm
    cases hm
  | succ n ih =>
    exact n_ja_fill_j_N6 C0  ih
set_option maxHeartbeats 1000000 in
set_option maxRecDepth 100000 in
theorem c_ja_fill_j (l : Launch) (g : gG) (sz : Nat) (h0 : Nat) (p0 : Nat → Int64) (p0_n : Nat) (a1 : Int64) (r : (Nat → Int64)) (hm : f_ja_fill_j p0 p0_n a1 = some r) : gMv l yJ7_fill_d0a16 cJ7_fill_d0a16 5 none rm_ja_fill_j g sz [.ref h0, .long a1] (W_ja_fill_j g h0 p0 p0_n) (W_ja_fill_j g h0 r p0_n) := by
  unfold f_ja_fill_j at hm
  refine gEnterV (by decide) (Nat.le_of_ble_eq_true rfl) (fun p e s m below meth c A C0 H locs hw ls hl => ?_)
  obtain ⟨hx, hb, hr, hml, hown, hts, hlocks, hK, hA⟩ := id C0
  have C0 : gX p s m [.ref h0, .long a1].toArray meth c cJ7_fill_d0a16 5 none RJ7 g A := C0
  have hl : lv_has ls 5 [(0, .ref h0), (1, .long a1)] := hl
  refine lv_iconst (v := 0) hx hb dJ7_fill_d0a16_0 (by decide) ?_
  refine lv_istore_n (lv' := [(3, .int (0 : Int32)), (0, .ref h0), (1, .long a1)]) hx hb dJ7_fill_d0a16_1 rfl hl (by decide) rfl (fun ls hl => ?_)
  refine lv_aload_n hx hb dJ7_fill_d0a16_2 rfl (lv_at hl 1 rfl) ?_
  refine gLen C0 hw 0 1 rfl rfl dJ7_fill_d0a16_3 ?_
  refine lv_istore (lv' := [(4, .int (Int32.ofNat p0_n)), (3, .int (0 : Int32)), (0, .ref h0), (1, .long a1)]) hx hb dJ7_fill_d0a16_4 hl (by decide) rfl (fun ls hl => ?_)
  exact l_ja_fill_j_N6 C0  1000 _ _ _ _ hm _ _ _ hw (lv_sub hl [2, 3, 1, 0] rfl)

-- WallHands$Wall.firstFault(LWallHands$Text;)I
abbrev W_wl_firstFault (g : gG) (h0 h1 : Nat) (p0_length : Int32) (p0_bytes : Nat → Int32) (p0_bytes_n : Nat) : va_W := [(h0, .inr (5, [.ref h1, .int p0_length])), (h1, .inl (gI g, p0_bytes_n, .inl p0_bytes))]

abbrev rm_wl_firstFault : Room := { frames := 1, cells := 0, slots := 0, locals := 22 }

set_option maxHeartbeats 1000000 in
set_option maxRecDepth 100000 in
theorem n_wl_firstFault_N13 {p : Program} {l : Launch} {e : Env} {s : State} {m : MethodId} {args : Array Value} {below : List Frame} {meth : Method} {c : Code} {A : Nat → Prop} {g : gG} {h0 h1 : Nat} {p0_length : Int32} {p0_bytes : Nat → Int32} {p0_bytes_n : Nat} {k13 : Int32 → Int32 → Int32 → Int32 → Int32 → Option Int32} {r : Int32} (C0 : gX p s m args meth c cX6_firstFault 7 (some .int) RX6 g A) (hk13 : ∀ (x1 : Int32) (x2 : Int32) (x3 : Int32) (x4 : Int32) (x5 : Int32), k13 x1 x2 x3 x4 x5 = some r → ∀ (H : Heap) (locs : List Loc) (ls : Array Slot), gW g A s (W_wl_firstFault g h0 h1 p0_length p0_bytes p0_bytes_n) H locs → lv_has ls 7 [(0, .ref h0), (1, .int x1), (2, .int x2), (3, .int x3), (4, .int x4), (5, .int x5)] → W p l e rm_wl_firstFault s m args below meth c H locs 0 0 (gQi below args s A g r (W_wl_firstFault g h0 h1 p0_length p0_bytes p0_bytes_n)) (F0 m 13 ls [])) : ∀ (x1 : Int32) (x2 : Int32) (x3 : Int32) (x4 : Int32) (x5 : Int32), f_wl_firstFault_N13 p0_length p0_bytes p0_bytes_n k13 x1 x2 x3 x4 x5 = some r → ∀ (H : Heap) (locs : List Loc) (ls : Array Slot), gW g A s (W_wl_firstFault g h0 h1 p0_length p0_bytes p0_bytes_n) H locs → lv_has ls 7 [(0, .ref h0), (1, .int x1), (2, .int x2), (3, .int x3), (4, .int x4), (5, .int x5)] → W p l e rm_wl_firstFault s m args below meth c H locs 0 0 (gQi below args s A g r (W_wl_firstFault g h0 h1 p0_length p0_bytes p0_bytes_n)) (F0 m 13 ls []) := by
  intro x1 x2 x3 x4 x5 hm H locs ls hw hl
  unfold f_wl_firstFault_N13 at hm
  obtain ⟨hx, hb, hr, hml, hown, hts, hlocks, hK, hA⟩ := id C0
  refine lv_iload hx hb dX6_firstFault_13 (lv_at hl 5 rfl) ?_
  refine lv_aload_n hx hb dX6_firstFault_15 rfl (lv_at hl 0 rfl) ?_
  refine gGet C0 hw flX6_38 0 rfl rfl dX6_firstFault_16 ?_
  refine lv_icmp_ge (tgt := 101) hx hb dX6_firstFault_19 (by decide) (fun hc => ?_) (fun hc => ?_)
  · have hm := ipos hc hm
    refine lv_aload_n hx hb dX6_firstFault_101 rfl (lv_at hl 0 rfl) ?_
    refine gGet C0 hw flX6_38 0 rfl rfl dX6_firstFault_102 ?_
    refine lv_if_le (tgt := 120) hx hb dX6_firstFault_105 (by decide) (fun hc => ?_) (fun hc => ?_)
    · have hm := ipos hc hm
      refine lv_iconst (v := -1) hx hb dX6_firstFault_120 (by decide) ?_
      have hm := Option.some.inj hm
      subst hm
      exact gRetI C0 hw dX6_firstFault_121
    · have hm := ineg hc hm
      refine lv_iload_n hx hb dX6_firstFault_108 rfl (lv_at hl 2 rfl) ?_
      refine lv_iload_n hx hb dX6_firstFault_109 rfl (lv_at hl 3 rfl) ?_
      refine lv_icmp_ge (tgt := 120) hx hb dX6_firstFault_110 (by decide) (fun hc => ?_) (fun hc => ?_)
      · have hm := ipos hc hm
        refine lv_iconst (v := -1) hx hb dX6_firstFault_120 (by decide) ?_
        have hm := Option.some.inj hm
        subst hm
        exact gRetI C0 hw dX6_firstFault_121
      · have hm := ineg hc hm
        refine lv_aload_n hx hb dX6_firstFault_113 rfl (lv_at hl 0 rfl) ?_
        refine gGet C0 hw flX6_38 0 rfl rfl dX6_firstFault_114 ?_
        refine lv_goto (tgt := 121) hx hb dX6_firstFault_117 (by decide) ?_
        have hm := Option.some.inj hm
        subst hm
        exact gRetI C0 hw dX6_firstFault_121
  · have hm := ineg hc hm
    refine lv_aload_n hx hb dX6_firstFault_22 rfl (lv_at hl 0 rfl) ?_
    refine gGet C0 hw flX6_47 0 rfl rfl dX6_firstFault_23 ?_
    refine lv_iload hx hb dX6_firstFault_26 (lv_at hl 5 rfl) ?_
    obtain ⟨hin, hm⟩ := gdE hm
    have hin := inbE hin
    refine gAldI C0 hw 1 rfl hin dX6_firstFault_28 ?_
    refine lv_istore (lv' := [(6, .int (p0_bytes x5.toNatClampNeg)), (0, .ref h0), (1, .int x1), (2, .int x2), (3, .int x3), (4, .int x4), (5, .int x5)]) hx hb dX6_firstFault_29 hl (by decide) rfl (fun ls hl => ?_)
    refine lv_iload hx hb dX6_firstFault_31 (lv_at hl 0 rfl) ?_
    refine lv_bipush (v := 59) hx hb dX6_firstFault_33 (by decide) ?_
    refine lv_icmp_ne (tgt := 59) hx hb dX6_firstFault_35 (by decide) (fun hc => ?_) (fun hc => ?_)
    · have hm := ineg hc hm
      refine lv_iload_n hx hb dX6_firstFault_59 rfl (lv_at hl 2 rfl) ?_
      refine lv_iconst (v := 5) hx hb dX6_firstFault_60 (by decide) ?_
      refine lv_icmp_eq (tgt := 89) hx hb dX6_firstFault_61 (by decide) (fun hc => ?_) (fun hc => ?_)
      · have hm := ipos hc hm
        refine lv_iload hx hb dX6_firstFault_89 (lv_at hl 6 rfl) ?_
        have hm := Option.some.inj hm
        subst hm
        exact gRetI C0 hw dX6_firstFault_91
      · have hm := ineg hc hm
        refine lv_iload_n hx hb dX6_firstFault_64 rfl (lv_at hl 3 rfl) ?_
        refine lv_iload hx hb dX6_firstFault_65 (lv_at hl 5 rfl) ?_
        refine lv_icmp_eq (tgt := 89) hx hb dX6_firstFault_67 (by decide) (fun hc => ?_) (fun hc => ?_)
        · have hm := ipos hc hm
          refine lv_iload hx hb dX6_firstFault_89 (lv_at hl 6 rfl) ?_
          have hm := Option.some.inj hm
          subst hm
          exact gRetI C0 hw dX6_firstFault_91
        · have hm := ineg hc hm
          refine lv_iload hx hb dX6_firstFault_70 (lv_at hl 0 rfl) ?_
          refine lv_bipush (v := 46) hx hb dX6_firstFault_72 (by decide) ?_
          refine lv_icmp_eq (tgt := 92) hx hb dX6_firstFault_74 (by decide) (fun hc => ?_) (fun hc => ?_)
          · have hm := ipos hc hm
            refine lv_iinc (v := x2 + (1 : Int32)) (lv' := [(2, .int (x2 + (1 : Int32))), (6, .int (p0_bytes x5.toNatClampNeg)), (0, .ref h0), (1, .int x1), (3, .int x3), (4, .int x4), (5, .int x5)]) hx hb dX6_firstFault_92 hl (k := 3) rfl rfl (by decide) rfl (fun ls hl => ?_)
            refine lv_iinc (v := x5 + (1 : Int32)) (lv' := [(5, .int (x5 + (1 : Int32))), (2, .int (x2 + (1 : Int32))), (6, .int (p0_bytes x5.toNatClampNeg)), (0, .ref h0), (1, .int x1), (3, .int x3), (4, .int x4)]) hx hb dX6_firstFault_95 hl (k := 6) rfl rfl (by decide) rfl (fun ls hl => ?_)
            refine lv_goto (tgt := 13) hx hb dX6_firstFault_98 (by decide) ?_
            exact hk13 _ _ _ _ _ hm _ _ _ hw (lv_sub hl [3, 4, 1, 5, 6, 0] rfl)
          · have hm := ineg hc hm
            refine lv_iload hx hb dX6_firstFault_77 (lv_at hl 0 rfl) ?_
            refine lv_bipush (v := 97) hx hb dX6_firstFault_79 (by decide) ?_
            refine lv_bipush (v := 104) hx hb dX6_firstFault_81 (by decide) ?_
            obtain ⟨o83, ho83, hm⟩ := bindE hm
            refine gCalli (ws' := (W_wl_firstFault g h0 h1 p0_length p0_bytes p0_bytes_n)) C0 hw (gRunN (As := [.int (p0_bytes x5.toNatClampNeg), .int (97 : Int32), .int (104 : Int32)]) (rest := []) C0 hw lkX6_51 (c_x_within l g H.size  (p0_bytes x5.toNatClampNeg) (97 : Int32) (104 : Int32) o83 ho83) ⟨rfl, rfl⟩ ⟨Nat.le_of_ble_eq_true rfl, Nat.le_of_ble_eq_true rfl⟩ [] (by decide) rfl rfl hl.1 rfl (Nat.le_of_ble_eq_true rfl) dX6_firstFault_83) [] [0, 1] rfl rfl ⟨rfl, rfl, trivial⟩ [h0, h1] rfl rfl 2 rfl (by decide +kernel) (fun H locs hw => ?_)
            refine lv_if_ne (tgt := 92) hx hb dX6_firstFault_86 (by decide) (fun hc => ?_) (fun hc => ?_)
            · have hm := ineg hc hm
              refine lv_iinc (v := x2 + (1 : Int32)) (lv' := [(2, .int (x2 + (1 : Int32))), (6, .int (p0_bytes x5.toNatClampNeg)), (0, .ref h0), (1, .int x1), (3, .int x3), (4, .int x4), (5, .int x5)]) hx hb dX6_firstFault_92 hl (k := 3) rfl rfl (by decide) rfl (fun ls hl => ?_)
              refine lv_iinc (v := x5 + (1 : Int32)) (lv' := [(5, .int (x5 + (1 : Int32))), (2, .int (x2 + (1 : Int32))), (6, .int (p0_bytes x5.toNatClampNeg)), (0, .ref h0), (1, .int x1), (3, .int x3), (4, .int x4)]) hx hb dX6_firstFault_95 hl (k := 6) rfl rfl (by decide) rfl (fun ls hl => ?_)
              refine lv_goto (tgt := 13) hx hb dX6_firstFault_98 (by decide) ?_
              exact hk13 _ _ _ _ _ hm _ _ _ hw (lv_sub hl [3, 4, 1, 5, 6, 0] rfl)
            · have hm := ipos hc hm
              refine lv_iload hx hb dX6_firstFault_89 (lv_at hl 6 rfl) ?_
              have hm := Option.some.inj hm
              subst hm
              exact gRetI C0 hw dX6_firstFault_91
    · have hm := ipos hc hm
      refine lv_iload_n hx hb dX6_firstFault_38 rfl (lv_at hl 3 rfl) ?_
      refine lv_iload_n hx hb dX6_firstFault_39 rfl (lv_at hl 4 rfl) ?_
      refine lv_icmp_ge (tgt := 46) hx hb dX6_firstFault_40 (by decide) (fun hc => ?_) (fun hc => ?_)
      · have hm := ipos hc hm
        refine lv_iload_n hx hb dX6_firstFault_46 rfl (lv_at hl 3 rfl) ?_
        refine lv_istore_n (lv' := [(3, .int x2), (6, .int (p0_bytes x5.toNatClampNeg)), (0, .ref h0), (1, .int x1), (2, .int x2), (4, .int x4), (5, .int x5)]) hx hb dX6_firstFault_47 rfl hl (by decide) rfl (fun ls hl => ?_)
        refine lv_iload_n hx hb dX6_firstFault_48 rfl (lv_at hl 4 rfl) ?_
        refine lv_istore (lv' := [(4, .int x2), (3, .int x2), (6, .int (p0_bytes x5.toNatClampNeg)), (0, .ref h0), (1, .int x1), (2, .int x2), (5, .int x5)]) hx hb dX6_firstFault_49 hl (by decide) rfl (fun ls hl => ?_)
        refine lv_iinc (v := x1 + (1 : Int32)) (lv' := [(1, .int (x1 + (1 : Int32))), (4, .int x2), (3, .int x2), (6, .int (p0_bytes x5.toNatClampNeg)), (0, .ref h0), (2, .int x2), (5, .int x5)]) hx hb dX6_firstFault_51 hl (k := 4) rfl rfl (by decide) rfl (fun ls hl => ?_)
        refine lv_iconst (v := 0) hx hb dX6_firstFault_54 (by decide) ?_
        refine lv_istore_n (lv' := [(2, .int (0 : Int32)), (1, .int (x1 + (1 : Int32))), (4, .int x2), (3, .int x2), (6, .int (p0_bytes x5.toNatClampNeg)), (0, .ref h0), (5, .int x5)]) hx hb dX6_firstFault_55 rfl hl (by decide) rfl (fun ls hl => ?_)
        refine lv_goto (tgt := 95) hx hb dX6_firstFault_56 (by decide) ?_
        refine lv_iinc (v := x5 + (1 : Int32)) (lv' := [(5, .int (x5 + (1 : Int32))), (2, .int (0 : Int32)), (1, .int (x1 + (1 : Int32))), (4, .int x2), (3, .int x2), (6, .int (p0_bytes x5.toNatClampNeg)), (0, .ref h0)]) hx hb dX6_firstFault_95 hl (k := 6) rfl rfl (by decide) rfl (fun ls hl => ?_)
        refine lv_goto (tgt := 13) hx hb dX6_firstFault_98 (by decide) ?_
        exact hk13 _ _ _ _ _ hm _ _ _ hw (lv_sub hl [6, 2, 1, 4, 3, 0] rfl)
      · have hm := ineg hc hm
        refine lv_iload hx hb dX6_firstFault_43 (lv_at hl 6 rfl) ?_
        have hm := Option.some.inj hm
        subst hm
        exact gRetI C0 hw dX6_firstFault_45
set_option maxHeartbeats 1000000 in
set_option maxRecDepth 100000 in
theorem l_wl_firstFault_N13 {p : Program} {l : Launch} {e : Env} {s : State} {m : MethodId} {args : Array Value} {below : List Frame} {meth : Method} {c : Code} {A : Nat → Prop} {g : gG} {h0 h1 : Nat} {p0_length : Int32} {p0_bytes : Nat → Int32} {p0_bytes_n : Nat} {r : Int32} (C0 : gX p s m args meth c cX6_firstFault 7 (some .int) RX6 g A) : ∀ n : Nat, ∀ (x1 : Int32) (x2 : Int32) (x3 : Int32) (x4 : Int32) (x5 : Int32), iter (fun _ _ _ _ _ => none) (f_wl_firstFault_N13 p0_length p0_bytes p0_bytes_n) n x1 x2 x3 x4 x5 = some r → ∀ (H : Heap) (locs : List Loc) (ls : Array Slot), gW g A s (W_wl_firstFault g h0 h1 p0_length p0_bytes p0_bytes_n) H locs → lv_has ls 7 [(0, .ref h0), (1, .int x1), (2, .int x2), (3, .int x3), (4, .int x4), (5, .int x5)] → W p l e rm_wl_firstFault s m args below meth c H locs 0 0 (gQi below args s A g r (W_wl_firstFault g h0 h1 p0_length p0_bytes p0_bytes_n)) (F0 m 13 ls []) := by
  intro n
  induction n with
  | zero =>
    intro x1 x2 x3 x4 x5 hm
    cases hm
  | succ n ih =>
    exact n_wl_firstFault_N13 C0  ih
set_option maxHeartbeats 1000000 in
set_option maxRecDepth 100000 in
theorem c_wl_firstFault (l : Launch) (g : gG) (sz : Nat) (h0 h1 : Nat) (p0_length : Int32) (p0_bytes : Nat → Int32) (p0_bytes_n : Nat) (r : Int32) (hm : f_wl_firstFault p0_length p0_bytes p0_bytes_n = some r) : gMi l yX6_firstFault cX6_firstFault 7 (some .int) rm_wl_firstFault g sz [.ref h0] (W_wl_firstFault g h0 h1 p0_length p0_bytes p0_bytes_n) r (W_wl_firstFault g h0 h1 p0_length p0_bytes p0_bytes_n) := by
  unfold f_wl_firstFault at hm
  refine gEnterI (by decide) (Nat.le_of_ble_eq_true rfl) (fun p e s m below meth c A C0 H locs hw ls hl => ?_)
  obtain ⟨hx, hb, hr, hml, hown, hts, hlocks, hK, hA⟩ := id C0
  have C0 : gX p s m [.ref h0].toArray meth c cX6_firstFault 7 (some .int) RX6 g A := C0
  have hl : lv_has ls 7 [(0, .ref h0)] := hl
  refine lv_iconst (v := 0) hx hb dX6_firstFault_0 (by decide) ?_
  refine lv_istore_n (lv' := [(1, .int (0 : Int32)), (0, .ref h0)]) hx hb dX6_firstFault_1 rfl hl (by decide) rfl (fun ls hl => ?_)
  refine lv_iconst (v := 0) hx hb dX6_firstFault_2 (by decide) ?_
  refine lv_istore_n (lv' := [(2, .int (0 : Int32)), (1, .int (0 : Int32)), (0, .ref h0)]) hx hb dX6_firstFault_3 rfl hl (by decide) rfl (fun ls hl => ?_)
  refine lv_iconst (v := 1) hx hb dX6_firstFault_4 (by decide) ?_
  refine lv_istore_n (lv' := [(3, .int (1 : Int32)), (2, .int (0 : Int32)), (1, .int (0 : Int32)), (0, .ref h0)]) hx hb dX6_firstFault_5 rfl hl (by decide) rfl (fun ls hl => ?_)
  refine lv_bipush (v := 8) hx hb dX6_firstFault_6 (by decide) ?_
  refine lv_istore (lv' := [(4, .int (8 : Int32)), (3, .int (1 : Int32)), (2, .int (0 : Int32)), (1, .int (0 : Int32)), (0, .ref h0)]) hx hb dX6_firstFault_8 hl (by decide) rfl (fun ls hl => ?_)
  refine lv_iconst (v := 0) hx hb dX6_firstFault_10 (by decide) ?_
  refine lv_istore (lv' := [(5, .int (0 : Int32)), (4, .int (8 : Int32)), (3, .int (1 : Int32)), (2, .int (0 : Int32)), (1, .int (0 : Int32)), (0, .ref h0)]) hx hb dX6_firstFault_11 hl (by decide) rfl (fun ls hl => ?_)
  exact l_wl_firstFault_N13 C0  1000 _ _ _ _ _ hm _ _ _ hw (lv_sub hl [5, 4, 3, 2, 1, 0] rfl)

-- WallHands$Wall.lay(LWallHands$Text;)V
abbrev W_wl_lay (g : gG) (h0 h1 h2 h3 : Nat) (v_courses : Int32) (v_columns : Int32) (v_fault : Int32) (v_jump : Int32) (v_stones : Nat → Int64) (p0_length : Int32) (p0_bytes : Nat → Int32) (p0_bytes_n : Nat) : va_W := [(h0, .inr (6, [.ref h1, .int v_courses, .int v_columns, .int v_fault, .int v_jump])), (h1, .inl (gJ g, 8, .inr (.inl v_stones))), (h2, .inr (5, [.ref h3, .int p0_length])), (h3, .inl (gI g, p0_bytes_n, .inl p0_bytes))]

abbrev rm_wl_lay : Room := { frames := 1, cells := 0, slots := 0, locals := 22 }

set_option maxHeartbeats 1000000 in
set_option maxRecDepth 100000 in
theorem n_wl_lay_N7 {p : Program} {l : Launch} {e : Env} {s : State} {m : MethodId} {args : Array Value} {below : List Frame} {meth : Method} {c : Code} {A : Nat → Prop} {g : gG} {h0 h1 h2 h3 : Nat} {v_fault : Int32} {v_jump : Int32} {p0_length : Int32} {p0_bytes : Nat → Int32} {p0_bytes_n : Nat} {k7 : Int32 → Int32 → (Nat → Int64) → Int32 → Int32 → Int32 → Option (Int32 × Int32 × (Nat → Int64))} {r : (Int32 × Int32 × (Nat → Int64))} (C0 : gX p s m args meth c cX6_lay 6 none RX6 g A) (hk7 : ∀ (v_courses : Int32) (v_columns : Int32) (v_stones : Nat → Int64) (x2 : Int32) (x3 : Int32) (x4 : Int32), k7 v_courses v_columns v_stones x2 x3 x4 = some r → ∀ (H : Heap) (locs : List Loc) (ls : Array Slot), gW g A s (W_wl_lay g h0 h1 h2 h3 v_courses v_columns v_fault v_jump v_stones p0_length p0_bytes p0_bytes_n) H locs → lv_has ls 6 [(0, .ref h0), (1, .ref h2), (2, .int x2), (3, .int x3), (4, .int x4)] → W p l e rm_wl_lay s m args below meth c H locs 0 0 (gQv below args s A g (W_wl_lay g h0 h1 h2 h3 r.1 r.2.1 v_fault v_jump r.2.2 p0_length p0_bytes p0_bytes_n)) (F0 m 7 ls [])) : ∀ (v_courses : Int32) (v_columns : Int32) (v_stones : Nat → Int64) (x2 : Int32) (x3 : Int32) (x4 : Int32), f_wl_lay_N7 p0_length p0_bytes p0_bytes_n k7 v_courses v_columns v_stones x2 x3 x4 = some r → ∀ (H : Heap) (locs : List Loc) (ls : Array Slot), gW g A s (W_wl_lay g h0 h1 h2 h3 v_courses v_columns v_fault v_jump v_stones p0_length p0_bytes p0_bytes_n) H locs → lv_has ls 6 [(0, .ref h0), (1, .ref h2), (2, .int x2), (3, .int x3), (4, .int x4)] → W p l e rm_wl_lay s m args below meth c H locs 0 0 (gQv below args s A g (W_wl_lay g h0 h1 h2 h3 r.1 r.2.1 v_fault v_jump r.2.2 p0_length p0_bytes p0_bytes_n)) (F0 m 7 ls []) := by
  intro v_courses v_columns v_stones x2 x3 x4 hm H locs ls hw hl
  unfold f_wl_lay_N7 at hm
  obtain ⟨hx, hb, hr, hml, hown, hts, hlocks, hK, hA⟩ := id C0
  refine lv_iload hx hb dX6_lay_7 (lv_at hl 4 rfl) ?_
  refine lv_aload_n hx hb dX6_lay_9 rfl (lv_at hl 1 rfl) ?_
  refine gGet C0 hw flX6_38 2 rfl rfl dX6_lay_10 ?_
  refine lv_icmp_ge (tgt := 82) hx hb dX6_lay_13 (by decide) (fun hc => ?_) (fun hc => ?_)
  · have hm := ipos hc hm
    refine lv_aload_n hx hb dX6_lay_82 rfl (lv_at hl 0 rfl) ?_
    refine lv_iload_n hx hb dX6_lay_83 rfl (lv_at hl 2 rfl) ?_
    refine lv_iconst (v := 1) hx hb dX6_lay_84 (by decide) ?_
    refine lv_iadd hx hb dX6_lay_85 ?_
    refine gPut (ws' := (W_wl_lay g h0 h1 h2 h3 (x2 + (1 : Int32)) v_columns v_fault v_jump v_stones p0_length p0_bytes p0_bytes_n)) C0 hw fpX6_28 0 rfl rfl rfl (Nat.le_of_ble_eq_true rfl) rfl dX6_lay_86 (fun H locs hw => ?_)
    refine lv_aload_n hx hb dX6_lay_89 rfl (lv_at hl 0 rfl) ?_
    refine lv_iload_n hx hb dX6_lay_90 rfl (lv_at hl 3 rfl) ?_
    refine gPut (ws' := (W_wl_lay g h0 h1 h2 h3 (x2 + (1 : Int32)) x3 v_fault v_jump v_stones p0_length p0_bytes p0_bytes_n)) C0 hw fpX6_31 0 rfl rfl rfl (Nat.le_of_ble_eq_true rfl) rfl dX6_lay_91 (fun H locs hw => ?_)
    have hm := Option.some.inj hm
    subst hm
    exact gRetV C0 hw dX6_lay_94
  · have hm := ineg hc hm
    refine lv_aload_n hx hb dX6_lay_16 rfl (lv_at hl 1 rfl) ?_
    refine gGet C0 hw flX6_47 2 rfl rfl dX6_lay_17 ?_
    refine lv_iload hx hb dX6_lay_20 (lv_at hl 4 rfl) ?_
    obtain ⟨hin, hm⟩ := gdE hm
    have hin := inbE hin
    refine gAldI C0 hw 3 rfl hin dX6_lay_22 ?_
    refine lv_istore (lv' := [(5, .int (p0_bytes x4.toNatClampNeg)), (0, .ref h0), (1, .ref h2), (2, .int x2), (3, .int x3), (4, .int x4)]) hx hb dX6_lay_23 hl (by decide) rfl (fun ls hl => ?_)
    refine lv_iload hx hb dX6_lay_25 (lv_at hl 0 rfl) ?_
    refine lv_bipush (v := 59) hx hb dX6_lay_27 (by decide) ?_
    refine lv_icmp_ne (tgt := 40) hx hb dX6_lay_29 (by decide) (fun hc => ?_) (fun hc => ?_)
    · have hm := ineg hc hm
      refine lv_iload hx hb dX6_lay_40 (lv_at hl 0 rfl) ?_
      refine lv_bipush (v := 97) hx hb dX6_lay_42 (by decide) ?_
      refine lv_bipush (v := 104) hx hb dX6_lay_44 (by decide) ?_
      obtain ⟨o46, ho46, hm⟩ := bindE hm
      refine gCalli (ws' := (W_wl_lay g h0 h1 h2 h3 v_courses v_columns v_fault v_jump v_stones p0_length p0_bytes p0_bytes_n)) C0 hw (gRunN (As := [.int (p0_bytes x4.toNatClampNeg), .int (97 : Int32), .int (104 : Int32)]) (rest := []) C0 hw lkX6_51 (c_x_within l g H.size  (p0_bytes x4.toNatClampNeg) (97 : Int32) (104 : Int32) o46 ho46) ⟨rfl, rfl⟩ ⟨Nat.le_of_ble_eq_true rfl, Nat.le_of_ble_eq_true rfl⟩ [] (by decide) rfl rfl hl.1 rfl (Nat.le_of_ble_eq_true rfl) dX6_lay_46) [] [0, 1, 2, 3] rfl rfl ⟨rfl, rfl, rfl, rfl, trivial⟩ [h0, h1, h2, h3] rfl rfl 4 rfl (by decide +kernel) (fun H locs hw => ?_)
      refine lv_if_eq (tgt := 73) hx hb dX6_lay_49 (by decide) (fun hc => ?_) (fun hc => ?_)
      · have hm := ipos hc hm
        refine lv_iinc (v := x3 + (1 : Int32)) (lv' := [(3, .int (x3 + (1 : Int32))), (5, .int (p0_bytes x4.toNatClampNeg)), (0, .ref h0), (1, .ref h2), (2, .int x2), (4, .int x4)]) hx hb dX6_lay_73 hl (k := 4) rfl rfl (by decide) rfl (fun ls hl => ?_)
        refine lv_iinc (v := x4 + (1 : Int32)) (lv' := [(4, .int (x4 + (1 : Int32))), (3, .int (x3 + (1 : Int32))), (5, .int (p0_bytes x4.toNatClampNeg)), (0, .ref h0), (1, .ref h2), (2, .int x2)]) hx hb dX6_lay_76 hl (k := 5) rfl rfl (by decide) rfl (fun ls hl => ?_)
        refine lv_goto (tgt := 7) hx hb dX6_lay_79 (by decide) ?_
        exact hk7 _ _ _ _ _ _ hm _ _ _ hw (lv_sub hl [3, 4, 5, 1, 0] rfl)
      · have hm := ineg hc hm
        refine lv_aload_n hx hb dX6_lay_52 rfl (lv_at hl 1 rfl) ?_
        refine gGet C0 hw flX6_9 0 rfl rfl dX6_lay_53 ?_
        refine lv_iload hx hb dX6_lay_56 (lv_at hl 0 rfl) ?_
        refine lv_bipush (v := 97) hx hb dX6_lay_58 (by decide) ?_
        refine lv_isub hx hb dX6_lay_60 ?_
        refine lv_dup2_11 hx hb dX6_lay_61 rfl rfl ?_
        obtain ⟨hin, hm⟩ := gdE hm
        have hin := inbE hin
        refine gAldJ C0 hw 1 rfl hin dX6_lay_62 ?_
        refine lv_lconst (v := 1) hx hb dX6_lay_63 (by decide) ?_
        refine lv_bipush (v := 8) hx hb dX6_lay_64 (by decide) ?_
        refine lv_iload_n hx hb dX6_lay_66 rfl (lv_at hl 3 rfl) ?_
        refine lv_imul hx hb dX6_lay_67 ?_
        refine lv_iload_n hx hb dX6_lay_68 rfl (lv_at hl 4 rfl) ?_
        refine lv_iadd hx hb dX6_lay_69 ?_
        refine lv_lshl (v := lshl (1 : Int64) (((8 : Int32) * x2) + x3)) hx hb dX6_lay_70 rfl ?_
        refine lv_lor hx hb dX6_lay_71 ?_
        obtain ⟨hin, hm⟩ := gdE hm
        have hin := inbE hin
        refine gAstJ (ws' := (W_wl_lay g h0 h1 h2 h3 v_courses v_columns v_fault v_jump (vp_updL v_stones ((p0_bytes x4.toNatClampNeg) - (97 : Int32)).toNatClampNeg ((v_stones ((p0_bytes x4.toNatClampNeg) - (97 : Int32)).toNatClampNeg) ||| (lshl (1 : Int64) (((8 : Int32) * x2) + x3)))) p0_length p0_bytes p0_bytes_n)) C0 hw 1 rfl hin rfl dX6_lay_72 (fun H locs hw => ?_)
        refine lv_iinc (v := x3 + (1 : Int32)) (lv' := [(3, .int (x3 + (1 : Int32))), (5, .int (p0_bytes x4.toNatClampNeg)), (0, .ref h0), (1, .ref h2), (2, .int x2), (4, .int x4)]) hx hb dX6_lay_73 hl (k := 4) rfl rfl (by decide) rfl (fun ls hl => ?_)
        refine lv_iinc (v := x4 + (1 : Int32)) (lv' := [(4, .int (x4 + (1 : Int32))), (3, .int (x3 + (1 : Int32))), (5, .int (p0_bytes x4.toNatClampNeg)), (0, .ref h0), (1, .ref h2), (2, .int x2)]) hx hb dX6_lay_76 hl (k := 5) rfl rfl (by decide) rfl (fun ls hl => ?_)
        refine lv_goto (tgt := 7) hx hb dX6_lay_79 (by decide) ?_
        exact hk7 _ _ _ _ _ _ hm _ _ _ hw (lv_sub hl [3, 4, 5, 1, 0] rfl)
    · have hm := ipos hc hm
      refine lv_iinc (v := x2 + (1 : Int32)) (lv' := [(2, .int (x2 + (1 : Int32))), (5, .int (p0_bytes x4.toNatClampNeg)), (0, .ref h0), (1, .ref h2), (3, .int x3), (4, .int x4)]) hx hb dX6_lay_32 hl (k := 3) rfl rfl (by decide) rfl (fun ls hl => ?_)
      refine lv_iconst (v := 0) hx hb dX6_lay_35 (by decide) ?_
      refine lv_istore_n (lv' := [(3, .int (0 : Int32)), (2, .int (x2 + (1 : Int32))), (5, .int (p0_bytes x4.toNatClampNeg)), (0, .ref h0), (1, .ref h2), (4, .int x4)]) hx hb dX6_lay_36 rfl hl (by decide) rfl (fun ls hl => ?_)
      refine lv_goto (tgt := 76) hx hb dX6_lay_37 (by decide) ?_
      refine lv_iinc (v := x4 + (1 : Int32)) (lv' := [(4, .int (x4 + (1 : Int32))), (3, .int (0 : Int32)), (2, .int (x2 + (1 : Int32))), (5, .int (p0_bytes x4.toNatClampNeg)), (0, .ref h0), (1, .ref h2)]) hx hb dX6_lay_76 hl (k := 5) rfl rfl (by decide) rfl (fun ls hl => ?_)
      refine lv_goto (tgt := 7) hx hb dX6_lay_79 (by decide) ?_
      exact hk7 _ _ _ _ _ _ hm _ _ _ hw (lv_sub hl [4, 5, 2, 1, 0] rfl)
set_option maxHeartbeats 1000000 in
set_option maxRecDepth 100000 in
theorem l_wl_lay_N7 {p : Program} {l : Launch} {e : Env} {s : State} {m : MethodId} {args : Array Value} {below : List Frame} {meth : Method} {c : Code} {A : Nat → Prop} {g : gG} {h0 h1 h2 h3 : Nat} {v_fault : Int32} {v_jump : Int32} {p0_length : Int32} {p0_bytes : Nat → Int32} {p0_bytes_n : Nat} {r : (Int32 × Int32 × (Nat → Int64))} (C0 : gX p s m args meth c cX6_lay 6 none RX6 g A) : ∀ n : Nat, ∀ (v_courses : Int32) (v_columns : Int32) (v_stones : Nat → Int64) (x2 : Int32) (x3 : Int32) (x4 : Int32), iter (fun _ _ _ _ _ _ => none) (f_wl_lay_N7 p0_length p0_bytes p0_bytes_n) n v_courses v_columns v_stones x2 x3 x4 = some r → ∀ (H : Heap) (locs : List Loc) (ls : Array Slot), gW g A s (W_wl_lay g h0 h1 h2 h3 v_courses v_columns v_fault v_jump v_stones p0_length p0_bytes p0_bytes_n) H locs → lv_has ls 6 [(0, .ref h0), (1, .ref h2), (2, .int x2), (3, .int x3), (4, .int x4)] → W p l e rm_wl_lay s m args below meth c H locs 0 0 (gQv below args s A g (W_wl_lay g h0 h1 h2 h3 r.1 r.2.1 v_fault v_jump r.2.2 p0_length p0_bytes p0_bytes_n)) (F0 m 7 ls []) := by
  intro n
  induction n with
  | zero =>
    intro v_courses v_columns v_stones x2 x3 x4 hm
    cases hm
  | succ n ih =>
    exact n_wl_lay_N7 C0  ih
set_option maxHeartbeats 1000000 in
set_option maxRecDepth 100000 in
theorem c_wl_lay (l : Launch) (g : gG) (sz : Nat) (h0 h1 h2 h3 : Nat) (v_courses : Int32) (v_columns : Int32) (v_fault : Int32) (v_jump : Int32) (v_stones : Nat → Int64) (p0_length : Int32) (p0_bytes : Nat → Int32) (p0_bytes_n : Nat) (r : (Int32 × Int32 × (Nat → Int64))) (hm : f_wl_lay v_courses v_columns v_stones p0_length p0_bytes p0_bytes_n = some r) : gMv l yX6_lay cX6_lay 6 none rm_wl_lay g sz [.ref h0, .ref h2] (W_wl_lay g h0 h1 h2 h3 v_courses v_columns v_fault v_jump v_stones p0_length p0_bytes p0_bytes_n) (W_wl_lay g h0 h1 h2 h3 r.1 r.2.1 v_fault v_jump r.2.2 p0_length p0_bytes p0_bytes_n) := by
  unfold f_wl_lay at hm
  refine gEnterV (by decide) (Nat.le_of_ble_eq_true rfl) (fun p e s m below meth c A C0 H locs hw ls hl => ?_)
  obtain ⟨hx, hb, hr, hml, hown, hts, hlocks, hK, hA⟩ := id C0
  have C0 : gX p s m [.ref h0, .ref h2].toArray meth c cX6_lay 6 none RX6 g A := C0
  have hl : lv_has ls 6 [(0, .ref h0), (1, .ref h2)] := hl
  refine lv_iconst (v := 0) hx hb dX6_lay_0 (by decide) ?_
  refine lv_istore_n (lv' := [(2, .int (0 : Int32)), (0, .ref h0), (1, .ref h2)]) hx hb dX6_lay_1 rfl hl (by decide) rfl (fun ls hl => ?_)
  refine lv_iconst (v := 0) hx hb dX6_lay_2 (by decide) ?_
  refine lv_istore_n (lv' := [(3, .int (0 : Int32)), (2, .int (0 : Int32)), (0, .ref h0), (1, .ref h2)]) hx hb dX6_lay_3 rfl hl (by decide) rfl (fun ls hl => ?_)
  refine lv_iconst (v := 0) hx hb dX6_lay_4 (by decide) ?_
  refine lv_istore (lv' := [(4, .int (0 : Int32)), (3, .int (0 : Int32)), (2, .int (0 : Int32)), (0, .ref h0), (1, .ref h2)]) hx hb dX6_lay_5 hl (by decide) rfl (fun ls hl => ?_)
  exact l_wl_lay_N7 C0  1000 _ _ _ _ _ _ hm _ _ _ hw (lv_sub hl [3, 4, 2, 1, 0] rfl)

-- WallHands$Wall.tell(LWallHands$Text;)V
abbrev W_wl_tell (g : gG) (h0 h1 h2 h3 : Nat) (v_courses : Int32) (v_columns : Int32) (v_fault : Int32) (v_jump : Int32) (v_stones : Nat → Int64) (p0_length : Int32) (p0_bytes : Nat → Int32) (p0_bytes_n : Nat) : va_W := [(h0, .inr (6, [.ref h1, .int v_courses, .int v_columns, .int v_fault, .int v_jump])), (h1, .inl (gJ g, 8, .inr (.inl v_stones))), (h2, .inr (5, [.ref h3, .int p0_length])), (h3, .inl (gI g, p0_bytes_n, .inl p0_bytes))]

abbrev rm_wl_tell : Room := { frames := 2, cells := 0, slots := 0, locals := 48 }

set_option maxHeartbeats 1000000 in
set_option maxRecDepth 100000 in
theorem c_wl_tell (l : Launch) (g : gG) (sz : Nat) (h0 h1 h2 h3 : Nat) (v_courses : Int32) (v_columns : Int32) (v_fault : Int32) (v_jump : Int32) (v_stones : Nat → Int64) (p0_length : Int32) (p0_bytes : Nat → Int32) (p0_bytes_n : Nat) (r : (Int32 × Int32 × Int32 × (Nat → Int64))) (hm : f_wl_tell v_courses v_columns v_fault v_stones p0_length p0_bytes p0_bytes_n = some r) : gMv l yX6_tell cX6_tell 2 none rm_wl_tell g sz [.ref h0, .ref h2] (W_wl_tell g h0 h1 h2 h3 v_courses v_columns v_fault v_jump v_stones p0_length p0_bytes p0_bytes_n) (W_wl_tell g h0 h1 h2 h3 r.1 r.2.1 r.2.2.1 v_jump r.2.2.2 p0_length p0_bytes p0_bytes_n) := by
  unfold f_wl_tell at hm
  refine gEnterV (by decide) (Nat.le_of_ble_eq_true rfl) (fun p e s m below meth c A C0 H locs hw ls hl => ?_)
  obtain ⟨hx, hb, hr, hml, hown, hts, hlocks, hK, hA⟩ := id C0
  have C0 : gX p s m [.ref h0, .ref h2].toArray meth c cX6_tell 2 none RX6 g A := C0
  have hl : lv_has ls 2 [(0, .ref h0), (1, .ref h2)] := hl
  refine lv_aload_n hx hb dX6_tell_0 rfl (lv_at hl 0 rfl) ?_
  refine gGet C0 hw flX6_9 0 rfl rfl dX6_tell_1 ?_
  refine lv_lconst (v := 0) hx hb dX6_tell_4 (by decide) ?_
  obtain ⟨o5, ho5, hm⟩ := bindE hm
  refine gCallv (ws' := (W_wl_tell g h0 h1 h2 h3 v_courses v_columns v_fault v_jump o5 p0_length p0_bytes p0_bytes_n)) C0 hw (gRunS (As := [.ref h1, .long (0 : Int64)]) (rest := []) C0 hw lkX6_22 (c_ja_fill_j l g H.size h1 v_stones 8 (0 : Int64) o5 ho5) ⟨rfl, rfl⟩ ⟨Nat.le_of_ble_eq_true rfl, Nat.le_of_ble_eq_true rfl⟩ [1] (by decide) rfl rfl hl.1 rfl (Nat.le_of_ble_eq_true rfl) dX6_tell_5) [1] [0, 2, 3] rfl rfl ⟨rfl, rfl, rfl, trivial⟩ [h0, h1, h2, h3] rfl rfl 4 rfl (by decide +kernel) (fun H locs hw => ?_)
  refine lv_aload_n hx hb dX6_tell_8 rfl (lv_at hl 0 rfl) ?_
  refine lv_iconst (v := 0) hx hb dX6_tell_9 (by decide) ?_
  refine gPut (ws' := (W_wl_tell g h0 h1 h2 h3 (0 : Int32) v_columns v_fault v_jump o5 p0_length p0_bytes p0_bytes_n)) C0 hw fpX6_28 0 rfl rfl rfl (Nat.le_of_ble_eq_true rfl) rfl dX6_tell_10 (fun H locs hw => ?_)
  refine lv_aload_n hx hb dX6_tell_13 rfl (lv_at hl 0 rfl) ?_
  refine lv_iconst (v := 0) hx hb dX6_tell_14 (by decide) ?_
  refine gPut (ws' := (W_wl_tell g h0 h1 h2 h3 (0 : Int32) (0 : Int32) v_fault v_jump o5 p0_length p0_bytes p0_bytes_n)) C0 hw fpX6_31 0 rfl rfl rfl (Nat.le_of_ble_eq_true rfl) rfl dX6_tell_15 (fun H locs hw => ?_)
  refine lv_aload_n hx hb dX6_tell_18 rfl (lv_at hl 0 rfl) ?_
  refine lv_aload_n hx hb dX6_tell_19 rfl (lv_at hl 1 rfl) ?_
  obtain ⟨o20, ho20, hm⟩ := bindE hm
  refine gCalli (ws' := (W_wl_tell g h0 h1 h2 h3 (0 : Int32) (0 : Int32) v_fault v_jump o5 p0_length p0_bytes p0_bytes_n)) C0 hw (gRunS (As := [.ref h2]) (rest := [.ref h0]) C0 hw lkX6_34 (c_wl_firstFault l g H.size h2 h3 p0_length p0_bytes p0_bytes_n o20 ho20) ⟨rfl, rfl⟩ ⟨Nat.le_of_ble_eq_true rfl, Nat.le_of_ble_eq_true rfl⟩ [2, 3] (by decide) rfl rfl hl.1 rfl (Nat.le_of_ble_eq_true rfl) dX6_tell_20) [2, 3] [0, 1] rfl rfl ⟨rfl, rfl, trivial⟩ [h0, h1, h2, h3] rfl rfl 4 rfl (by decide +kernel) (fun H locs hw => ?_)
  refine gPut (ws' := (W_wl_tell g h0 h1 h2 h3 (0 : Int32) (0 : Int32) o20 v_jump o5 p0_length p0_bytes p0_bytes_n)) C0 hw fpX6_15 0 rfl rfl rfl (Nat.le_of_ble_eq_true rfl) rfl dX6_tell_23 (fun H locs hw => ?_)
  refine lv_aload_n hx hb dX6_tell_26 rfl (lv_at hl 0 rfl) ?_
  refine gGet C0 hw flX6_15 0 rfl rfl dX6_tell_27 ?_
  refine lv_iconst (v := -1) hx hb dX6_tell_30 (by decide) ?_
  refine lv_icmp_ne (tgt := 46) hx hb dX6_tell_31 (by decide) (fun hc => ?_) (fun hc => ?_)
  · have hm := ineg hc hm
    have hm := Option.some.inj hm
    subst hm
    exact gRetV C0 hw dX6_tell_46
  · have hm := ipos hc hm
    refine lv_aload_n hx hb dX6_tell_34 rfl (lv_at hl 1 rfl) ?_
    refine gGet C0 hw flX6_38 2 rfl rfl dX6_tell_35 ?_
    refine lv_if_le (tgt := 46) hx hb dX6_tell_38 (by decide) (fun hc => ?_) (fun hc => ?_)
    · have hm := ipos hc hm
      have hm := Option.some.inj hm
      subst hm
      exact gRetV C0 hw dX6_tell_46
    · have hm := ineg hc hm
      refine lv_aload_n hx hb dX6_tell_41 rfl (lv_at hl 0 rfl) ?_
      refine lv_aload_n hx hb dX6_tell_42 rfl (lv_at hl 1 rfl) ?_
      obtain ⟨o43, ho43, hm⟩ := bindE hm
      refine gCallv (ws' := (W_wl_tell g h0 h1 h2 h3 o43.1 o43.2.1 o20 v_jump o43.2.2 p0_length p0_bytes p0_bytes_n)) C0 hw (gRunV (As := [.ref h2]) (rest := []) C0 hw lkX6_43 (c_wl_lay l g H.size h0 h1 h2 h3 (0 : Int32) (0 : Int32) o20 v_jump o5 p0_length p0_bytes p0_bytes_n o43 ho43) ⟨rfl, rfl⟩ ⟨Nat.le_of_ble_eq_true rfl, Nat.le_of_ble_eq_true rfl⟩ [0, 1, 2, 3] (by decide) rfl 0 rfl rfl rfl hl.1 rfl (Nat.le_of_ble_eq_true rfl) dX6_tell_43) [0, 1, 2, 3] [] rfl rfl trivial [h0, h1, h2, h3] rfl rfl 4 rfl (by decide +kernel) (fun H locs hw => ?_)
      have hm := Option.some.inj hm
      subst hm
      exact gRetV C0 hw dX6_tell_46

-- WallHands$Wall.passOn(III)V
abbrev W_wl_passOn (g : gG) (h0 h1 : Nat) (v_courses : Int32) (v_columns : Int32) (v_fault : Int32) (v_jump : Int32) (v_stones : Nat → Int64) : va_W := [(h0, .inr (6, [.ref h1, .int v_courses, .int v_columns, .int v_fault, .int v_jump])), (h1, .inl (gJ g, 8, .inr (.inl v_stones)))]

abbrev rm_wl_passOn : Room := { frames := 0, cells := 0, slots := 0, locals := 0 }

set_option maxHeartbeats 1000000 in
set_option maxRecDepth 100000 in
theorem c_wl_passOn (l : Launch) (g : gG) (sz : Nat) (h0 h1 : Nat) (v_courses : Int32) (v_columns : Int32) (v_fault : Int32) (v_jump : Int32) (v_stones : Nat → Int64) (a0 : Int32) (a1 : Int32) (a2 : Int32) (r : (Nat → Int64)) (hm : f_wl_passOn v_stones a0 a1 a2 = some r) : gMv l yX6_passOn cX6_passOn 4 none rm_wl_passOn g sz [.ref h0, .int a0, .int a1, .int a2] (W_wl_passOn g h0 h1 v_courses v_columns v_fault v_jump v_stones) (W_wl_passOn g h0 h1 v_courses v_columns v_fault v_jump r) := by
  unfold f_wl_passOn at hm
  refine gEnterV (by decide) (Nat.le_of_ble_eq_true rfl) (fun p e s m below meth c A C0 H locs hw ls hl => ?_)
  obtain ⟨hx, hb, hr, hml, hown, hts, hlocks, hK, hA⟩ := id C0
  have C0 : gX p s m [.ref h0, .int a0, .int a1, .int a2].toArray meth c cX6_passOn 4 none RX6 g A := C0
  have hl : lv_has ls 4 [(0, .ref h0), (1, .int a0), (2, .int a1), (3, .int a2)] := hl
  refine lv_aload_n hx hb dX6_passOn_0 rfl (lv_at hl 0 rfl) ?_
  refine gGet C0 hw flX6_9 0 rfl rfl dX6_passOn_1 ?_
  refine lv_iload_n hx hb dX6_passOn_4 rfl (lv_at hl 2 rfl) ?_
  refine lv_dup2_11 hx hb dX6_passOn_5 rfl rfl ?_
  obtain ⟨hin, hm⟩ := gdE hm
  have hin := inbE hin
  refine gAldJ C0 hw 1 rfl hin dX6_passOn_6 ?_
  refine lv_lconst (v := 1) hx hb dX6_passOn_7 (by decide) ?_
  refine lv_iload_n hx hb dX6_passOn_8 rfl (lv_at hl 1 rfl) ?_
  refine lv_lshl (v := lshl (1 : Int64) a0) hx hb dX6_passOn_9 rfl ?_
  refine lv_ldc2 (v := -1) hx hb hown (hts _ kX6_55) dX6_passOn_10 ?_
  refine lv_lxor hx hb dX6_passOn_13 ?_
  refine lv_land hx hb dX6_passOn_14 ?_
  obtain ⟨hin, hm⟩ := gdE hm
  have hin := inbE hin
  refine gAstJ (ws' := (W_wl_passOn g h0 h1 v_courses v_columns v_fault v_jump (vp_updL v_stones a1.toNatClampNeg ((v_stones a1.toNatClampNeg) &&& ((lshl (1 : Int64) a0) ^^^ (-1 : Int64)))))) C0 hw 1 rfl hin rfl dX6_passOn_15 (fun H locs hw => ?_)
  refine lv_aload_n hx hb dX6_passOn_16 rfl (lv_at hl 0 rfl) ?_
  refine gGet C0 hw flX6_9 0 rfl rfl dX6_passOn_17 ?_
  refine lv_iload_n hx hb dX6_passOn_20 rfl (lv_at hl 3 rfl) ?_
  refine lv_dup2_11 hx hb dX6_passOn_21 rfl rfl ?_
  obtain ⟨hin, hm⟩ := gdE hm
  have hin := inbE hin
  refine gAldJ C0 hw 1 rfl hin dX6_passOn_22 ?_
  refine lv_lconst (v := 1) hx hb dX6_passOn_23 (by decide) ?_
  refine lv_iload_n hx hb dX6_passOn_24 rfl (lv_at hl 1 rfl) ?_
  refine lv_lshl (v := lshl (1 : Int64) a0) hx hb dX6_passOn_25 rfl ?_
  refine lv_lor hx hb dX6_passOn_26 ?_
  obtain ⟨hin, hm⟩ := gdE hm
  have hin := inbE hin
  refine gAstJ (ws' := (W_wl_passOn g h0 h1 v_courses v_columns v_fault v_jump (vp_updL (vp_updL v_stones a1.toNatClampNeg ((v_stones a1.toNatClampNeg) &&& ((lshl (1 : Int64) a0) ^^^ (-1 : Int64)))) a2.toNatClampNeg (((vp_updL v_stones a1.toNatClampNeg ((v_stones a1.toNatClampNeg) &&& ((lshl (1 : Int64) a0) ^^^ (-1 : Int64)))) a2.toNatClampNeg) ||| (lshl (1 : Int64) a0))))) C0 hw 1 rfl hin rfl dX6_passOn_27 (fun H locs hw => ?_)
  have hm := Option.some.inj hm
  subst hm
  exact gRetV C0 hw dX6_passOn_28

-- WallHands.union([J)J
abbrev W_x_union (g : gG) (h0 : Nat) (p0 : Nat → Int64) (p0_n : Nat) : va_W := [(h0, .inl (gJ g, p0_n, .inr (.inl p0)))]

abbrev rm_x_union : Room := { frames := 0, cells := 0, slots := 0, locals := 0 }

set_option maxHeartbeats 1000000 in
set_option maxRecDepth 100000 in
theorem n_x_union_N4 {p : Program} {l : Launch} {e : Env} {s : State} {m : MethodId} {args : Array Value} {below : List Frame} {meth : Method} {c : Code} {A : Nat → Prop} {g : gG} {h0 : Nat} {p0 : Nat → Int64} {p0_n : Nat} {k4 : Int64 → Int32 → Option Int64} {r : Int64} (C0 : gX p s m args meth c cX8_union 4 (some .long) RX8 g A) (hk4 : ∀ (x1 : Int64) (x3 : Int32), k4 x1 x3 = some r → ∀ (H : Heap) (locs : List Loc) (ls : Array Slot), gW g A s (W_x_union g h0 p0 p0_n) H locs → lv_has ls 4 [(0, .ref h0), (1, .long x1), (3, .int x3)] → W p l e rm_x_union s m args below meth c H locs 0 0 (gQl below args s A g r (W_x_union g h0 p0 p0_n)) (F0 m 4 ls [])) : ∀ (x1 : Int64) (x3 : Int32), f_x_union_N4 p0 p0_n k4 x1 x3 = some r → ∀ (H : Heap) (locs : List Loc) (ls : Array Slot), gW g A s (W_x_union g h0 p0 p0_n) H locs → lv_has ls 4 [(0, .ref h0), (1, .long x1), (3, .int x3)] → W p l e rm_x_union s m args below meth c H locs 0 0 (gQl below args s A g r (W_x_union g h0 p0 p0_n)) (F0 m 4 ls []) := by
  intro x1 x3 hm H locs ls hw hl
  unfold f_x_union_N4 at hm
  obtain ⟨hx, hb, hr, hml, hown, hts, hlocks, hK, hA⟩ := id C0
  refine lv_iload_n hx hb dX8_union_4 rfl (lv_at hl 2 rfl) ?_
  refine lv_bipush (v := 8) hx hb dX8_union_5 (by decide) ?_
  refine lv_icmp_ge (tgt := 22) hx hb dX8_union_7 (by decide) (fun hc => ?_) (fun hc => ?_)
  · have hm := ipos hc hm
    refine lv_lload_n hx hb dX8_union_22 rfl (lv_at hl 1 rfl) ?_
    have hm := Option.some.inj hm
    subst hm
    exact gRetL C0 hw dX8_union_23
  · have hm := ineg hc hm
    refine lv_lload_n hx hb dX8_union_10 rfl (lv_at hl 1 rfl) ?_
    refine lv_aload_n hx hb dX8_union_11 rfl (lv_at hl 0 rfl) ?_
    refine lv_iload_n hx hb dX8_union_12 rfl (lv_at hl 2 rfl) ?_
    obtain ⟨hin, hm⟩ := gdE hm
    have hin := inbE hin
    refine gAldJ C0 hw 0 rfl hin dX8_union_13 ?_
    refine lv_lor hx hb dX8_union_14 ?_
    refine lv_lstore_n (lv' := [(1, .long (x1 ||| (p0 x3.toNatClampNeg))), (0, .ref h0), (3, .int x3)]) hx hb dX8_union_15 rfl hl (by decide) rfl (fun ls hl => ?_)
    refine lv_iinc (v := x3 + (1 : Int32)) (lv' := [(3, .int (x3 + (1 : Int32))), (1, .long (x1 ||| (p0 x3.toNatClampNeg))), (0, .ref h0)]) hx hb dX8_union_16 hl (k := 2) rfl rfl (by decide) rfl (fun ls hl => ?_)
    refine lv_goto (tgt := 4) hx hb dX8_union_19 (by decide) ?_
    exact hk4 _ _ hm _ _ _ hw (lv_sub hl [2, 1, 0] rfl)
set_option maxHeartbeats 1000000 in
set_option maxRecDepth 100000 in
theorem l_x_union_N4 {p : Program} {l : Launch} {e : Env} {s : State} {m : MethodId} {args : Array Value} {below : List Frame} {meth : Method} {c : Code} {A : Nat → Prop} {g : gG} {h0 : Nat} {p0 : Nat → Int64} {p0_n : Nat} {r : Int64} (C0 : gX p s m args meth c cX8_union 4 (some .long) RX8 g A) : ∀ n : Nat, ∀ (x1 : Int64) (x3 : Int32), iter (fun _ _ => none) (f_x_union_N4 p0 p0_n) n x1 x3 = some r → ∀ (H : Heap) (locs : List Loc) (ls : Array Slot), gW g A s (W_x_union g h0 p0 p0_n) H locs → lv_has ls 4 [(0, .ref h0), (1, .long x1), (3, .int x3)] → W p l e rm_x_union s m args below meth c H locs 0 0 (gQl below args s A g r (W_x_union g h0 p0 p0_n)) (F0 m 4 ls []) := by
  intro n
  induction n with
  | zero =>
    intro x1 x3 hm
    cases hm
  | succ n ih =>
    exact n_x_union_N4 C0  ih
set_option maxHeartbeats 1000000 in
set_option maxRecDepth 100000 in
theorem c_x_union (l : Launch) (g : gG) (sz : Nat) (h0 : Nat) (p0 : Nat → Int64) (p0_n : Nat) (r : Int64) (hm : f_x_union p0 p0_n = some r) : gMl l yX8_union cX8_union 4 (some .long) rm_x_union g sz [.ref h0] (W_x_union g h0 p0 p0_n) r (W_x_union g h0 p0 p0_n) := by
  unfold f_x_union at hm
  refine gEnterL (by decide) (Nat.le_of_ble_eq_true rfl) (fun p e s m below meth c A C0 H locs hw ls hl => ?_)
  obtain ⟨hx, hb, hr, hml, hown, hts, hlocks, hK, hA⟩ := id C0
  have C0 : gX p s m [.ref h0].toArray meth c cX8_union 4 (some .long) RX8 g A := C0
  have hl : lv_has ls 4 [(0, .ref h0)] := hl
  refine lv_lconst (v := 0) hx hb dX8_union_0 (by decide) ?_
  refine lv_lstore_n (lv' := [(1, .long (0 : Int64)), (0, .ref h0)]) hx hb dX8_union_1 rfl hl (by decide) rfl (fun ls hl => ?_)
  refine lv_iconst (v := 0) hx hb dX8_union_2 (by decide) ?_
  refine lv_istore_n (lv' := [(3, .int (0 : Int32)), (1, .long (0 : Int64)), (0, .ref h0)]) hx hb dX8_union_3 rfl hl (by decide) rfl (fun ls hl => ?_)
  exact l_x_union_N4 C0  1000 _ _ hm _ _ _ hw (lv_sub hl [2, 1, 0] rfl)

-- WallHands.borneOf(J)J

abbrev rm_x_borneOf : Room := { frames := 0, cells := 0, slots := 0, locals := 0 }

set_option maxHeartbeats 1000000 in
set_option maxRecDepth 100000 in
theorem n_x_borneOf_N12 {p : Program} {l : Launch} {e : Env} {s : State} {m : MethodId} {args : Array Value} {below : List Frame} {meth : Method} {c : Code} {A : Nat → Prop} {g : gG} {k12 : Int64 → Int64 → Int64 → Int32 → Option Int64} {r : Int64} (C0 : gX p s m args meth c cX8_borneOf 9 (some .long) RX8 g A) (hk12 : ∀ (x0 : Int64) (x2 : Int64) (x4 : Int64) (x6 : Int32), k12 x0 x2 x4 x6 = some r → ∀ (H : Heap) (locs : List Loc) (ls : Array Slot), gW g A s [] H locs → lv_has ls 9 [(0, .long x0), (2, .long x2), (4, .long x4), (6, .int x6)] → W p l e rm_x_borneOf s m args below meth c H locs 0 0 (gQl below args s A g r []) (F0 m 12 ls [])) : ∀ (x0 : Int64) (x2 : Int64) (x4 : Int64) (x6 : Int32), f_x_borneOf_N12 k12 x0 x2 x4 x6 = some r → ∀ (H : Heap) (locs : List Loc) (ls : Array Slot), gW g A s [] H locs → lv_has ls 9 [(0, .long x0), (2, .long x2), (4, .long x4), (6, .int x6)] → W p l e rm_x_borneOf s m args below meth c H locs 0 0 (gQl below args s A g r []) (F0 m 12 ls []) := by
  intro x0 x2 x4 x6 hm H locs ls hw hl
  unfold f_x_borneOf_N12 at hm
  obtain ⟨hx, hb, hr, hml, hown, hts, hlocks, hK, hA⟩ := id C0
  refine lv_iload hx hb dX8_borneOf_12 (lv_at hl 3 rfl) ?_
  refine lv_iconst (v := 5) hx hb dX8_borneOf_14 (by decide) ?_
  refine lv_icmp_ge (tgt := 62) hx hb dX8_borneOf_15 (by decide) (fun hc => ?_) (fun hc => ?_)
  · have hm := ipos hc hm
    refine lv_lload hx hb dX8_borneOf_62 (lv_at hl 2 rfl) ?_
    have hm := Option.some.inj hm
    subst hm
    exact gRetL C0 hw dX8_borneOf_64
  · have hm := ineg hc hm
    refine lv_lload_n hx hb dX8_borneOf_18 rfl (lv_at hl 1 rfl) ?_
    refine lv_lload_n hx hb dX8_borneOf_19 rfl (lv_at hl 1 rfl) ?_
    refine lv_iconst (v := 1) hx hb dX8_borneOf_20 (by decide) ?_
    refine lv_lshl (v := lshl x2 (1 : Int32)) hx hb dX8_borneOf_21 rfl ?_
    refine lv_lload_n hx hb dX8_borneOf_22 rfl (lv_at hl 1 rfl) ?_
    refine lv_iconst (v := 1) hx hb dX8_borneOf_23 (by decide) ?_
    refine lv_lushr (v := lushr x2 (1 : Int32)) hx hb dX8_borneOf_24 rfl ?_
    refine lv_land hx hb dX8_borneOf_25 ?_
    refine lv_lor hx hb dX8_borneOf_26 ?_
    refine lv_lstore (lv' := [(7, .long (x2 ||| ((lshl x2 (1 : Int32)) &&& (lushr x2 (1 : Int32))))), (0, .long x0), (2, .long x2), (4, .long x4), (6, .int x6)]) hx hb dX8_borneOf_27 hl (by decide) rfl (fun ls hl => ?_)
    refine lv_lload_n hx hb dX8_borneOf_29 rfl (lv_at hl 1 rfl) ?_
    refine lv_bipush (v := 8) hx hb dX8_borneOf_30 (by decide) ?_
    refine lv_iload hx hb dX8_borneOf_32 (lv_at hl 4 rfl) ?_
    refine lv_imul hx hb dX8_borneOf_34 ?_
    refine lv_lushr (v := lushr x0 ((8 : Int32) * x6)) hx hb dX8_borneOf_35 rfl ?_
    refine lv_ldc2 (v := 255) hx hb hown (hts _ kX8_362) dX8_borneOf_36 ?_
    refine lv_land hx hb dX8_borneOf_39 ?_
    refine lv_lload hx hb dX8_borneOf_40 (lv_at hl 0 rfl) ?_
    refine lv_land hx hb dX8_borneOf_42 ?_
    refine lv_lstore_n (lv' := [(2, .long (((lushr x0 ((8 : Int32) * x6)) &&& (255 : Int64)) &&& (x2 ||| ((lshl x2 (1 : Int32)) &&& (lushr x2 (1 : Int32)))))), (7, .long (x2 ||| ((lshl x2 (1 : Int32)) &&& (lushr x2 (1 : Int32))))), (0, .long x0), (4, .long x4), (6, .int x6)]) hx hb dX8_borneOf_43 rfl hl (by decide) rfl (fun ls hl => ?_)
    refine lv_lload hx hb dX8_borneOf_44 (lv_at hl 3 rfl) ?_
    refine lv_lload_n hx hb dX8_borneOf_46 rfl (lv_at hl 0 rfl) ?_
    refine lv_bipush (v := 8) hx hb dX8_borneOf_47 (by decide) ?_
    refine lv_iload hx hb dX8_borneOf_49 (lv_at hl 4 rfl) ?_
    refine lv_imul hx hb dX8_borneOf_51 ?_
    refine lv_lshl (v := lshl (((lushr x0 ((8 : Int32) * x6)) &&& (255 : Int64)) &&& (x2 ||| ((lshl x2 (1 : Int32)) &&& (lushr x2 (1 : Int32))))) ((8 : Int32) * x6)) hx hb dX8_borneOf_52 rfl ?_
    refine lv_lor hx hb dX8_borneOf_53 ?_
    refine lv_lstore (lv' := [(4, .long (x4 ||| (lshl (((lushr x0 ((8 : Int32) * x6)) &&& (255 : Int64)) &&& (x2 ||| ((lshl x2 (1 : Int32)) &&& (lushr x2 (1 : Int32))))) ((8 : Int32) * x6)))), (2, .long (((lushr x0 ((8 : Int32) * x6)) &&& (255 : Int64)) &&& (x2 ||| ((lshl x2 (1 : Int32)) &&& (lushr x2 (1 : Int32)))))), (7, .long (x2 ||| ((lshl x2 (1 : Int32)) &&& (lushr x2 (1 : Int32))))), (0, .long x0), (6, .int x6)]) hx hb dX8_borneOf_54 hl (by decide) rfl (fun ls hl => ?_)
    refine lv_iinc (v := x6 + (1 : Int32)) (lv' := [(6, .int (x6 + (1 : Int32))), (4, .long (x4 ||| (lshl (((lushr x0 ((8 : Int32) * x6)) &&& (255 : Int64)) &&& (x2 ||| ((lshl x2 (1 : Int32)) &&& (lushr x2 (1 : Int32))))) ((8 : Int32) * x6)))), (2, .long (((lushr x0 ((8 : Int32) * x6)) &&& (255 : Int64)) &&& (x2 ||| ((lshl x2 (1 : Int32)) &&& (lushr x2 (1 : Int32)))))), (7, .long (x2 ||| ((lshl x2 (1 : Int32)) &&& (lushr x2 (1 : Int32))))), (0, .long x0)]) hx hb dX8_borneOf_56 hl (k := 4) rfl rfl (by decide) rfl (fun ls hl => ?_)
    refine lv_goto (tgt := 12) hx hb dX8_borneOf_59 (by decide) ?_
    exact hk12 _ _ _ _ hm _ _ _ hw (lv_sub hl [4, 2, 1, 0] rfl)
set_option maxHeartbeats 1000000 in
set_option maxRecDepth 100000 in
theorem l_x_borneOf_N12 {p : Program} {l : Launch} {e : Env} {s : State} {m : MethodId} {args : Array Value} {below : List Frame} {meth : Method} {c : Code} {A : Nat → Prop} {g : gG} {r : Int64} (C0 : gX p s m args meth c cX8_borneOf 9 (some .long) RX8 g A) : ∀ n : Nat, ∀ (x0 : Int64) (x2 : Int64) (x4 : Int64) (x6 : Int32), iter (fun _ _ _ _ => none) (f_x_borneOf_N12) n x0 x2 x4 x6 = some r → ∀ (H : Heap) (locs : List Loc) (ls : Array Slot), gW g A s [] H locs → lv_has ls 9 [(0, .long x0), (2, .long x2), (4, .long x4), (6, .int x6)] → W p l e rm_x_borneOf s m args below meth c H locs 0 0 (gQl below args s A g r []) (F0 m 12 ls []) := by
  intro n
  induction n with
  | zero =>
    intro x0 x2 x4 x6 hm
    cases hm
  | succ n ih =>
    exact n_x_borneOf_N12 C0  ih
set_option maxHeartbeats 1000000 in
set_option maxRecDepth 100000 in
theorem c_x_borneOf (l : Launch) (g : gG) (sz : Nat) (a0 : Int64) (r : Int64) (hm : f_x_borneOf a0 = some r) : gMl l yX8_borneOf cX8_borneOf 9 (some .long) rm_x_borneOf g sz [.long a0] [] r [] := by
  unfold f_x_borneOf at hm
  refine gEnterL (by decide) (Nat.le_of_ble_eq_true rfl) (fun p e s m below meth c A C0 H locs hw ls hl => ?_)
  obtain ⟨hx, hb, hr, hml, hown, hts, hlocks, hK, hA⟩ := id C0
  have C0 : gX p s m [.long a0].toArray meth c cX8_borneOf 9 (some .long) RX8 g A := C0
  have hl : lv_has ls 9 [(0, .long a0)] := hl
  refine lv_lload_n hx hb dX8_borneOf_0 rfl (lv_at hl 0 rfl) ?_
  refine lv_ldc2 (v := 255) hx hb hown (hts _ kX8_362) dX8_borneOf_1 ?_
  refine lv_land hx hb dX8_borneOf_4 ?_
  refine lv_lstore_n (lv' := [(2, .long (a0 &&& (255 : Int64))), (0, .long a0)]) hx hb dX8_borneOf_5 rfl hl (by decide) rfl (fun ls hl => ?_)
  refine lv_lload_n hx hb dX8_borneOf_6 rfl (lv_at hl 0 rfl) ?_
  refine lv_lstore (lv' := [(4, .long (a0 &&& (255 : Int64))), (2, .long (a0 &&& (255 : Int64))), (0, .long a0)]) hx hb dX8_borneOf_7 hl (by decide) rfl (fun ls hl => ?_)
  refine lv_iconst (v := 1) hx hb dX8_borneOf_9 (by decide) ?_
  refine lv_istore (lv' := [(6, .int (1 : Int32)), (4, .long (a0 &&& (255 : Int64))), (2, .long (a0 &&& (255 : Int64))), (0, .long a0)]) hx hb dX8_borneOf_10 hl (by decide) rfl (fun ls hl => ?_)
  exact l_x_borneOf_N12 C0  1000 _ _ _ _ hm _ _ _ hw (lv_sub hl [3, 2, 1, 0] rfl)

-- java/lang/Long.bitCount(J)I

abbrev rm_jl_bitCount : Room := { frames := 0, cells := 0, slots := 0, locals := 0 }

set_option maxHeartbeats 1000000 in
set_option maxRecDepth 100000 in
theorem n_jl_bitCount_N55 {p : Program} {l : Launch} {e : Env} {s : State} {m : MethodId} {args : Array Value} {below : List Frame} {meth : Method} {c : Code} {A : Nat → Prop} {g : gG} {r : Int32} (C0 : gX p s m args meth c cJ13_bitCount_95d88 2 (some .int) RJ13 g A) : ∀ (x0 : Int64), f_jl_bitCount_N55 x0 = some r → ∀ (H : Heap) (locs : List Loc) (ls : Array Slot), gW g A s [] H locs → lv_has ls 2 [(0, .long x0)] → W p l e rm_jl_bitCount s m args below meth c H locs 0 0 (gQi below args s A g r []) (F0 m 55 ls []) := by
  intro x0 hm H locs ls hw hl
  unfold f_jl_bitCount_N55 at hm
  obtain ⟨hx, hb, hr, hml, hown, hts, hlocks, hK, hA⟩ := id C0
  refine lv_lload_n hx hb dJ13_bitCount_95d88_55 rfl (lv_at hl 0 rfl) ?_
  refine lv_l2i (v := x0.toInt32) hx hb dJ13_bitCount_95d88_56 rfl ?_
  refine lv_bipush (v := 127) hx hb dJ13_bitCount_95d88_57 (by decide) ?_
  refine lv_iand hx hb dJ13_bitCount_95d88_59 ?_
  have hm := Option.some.inj hm
  subst hm
  exact gRetI C0 hw dJ13_bitCount_95d88_60
set_option maxHeartbeats 1000000 in
set_option maxRecDepth 100000 in
theorem n_jl_bitCount_N48 {p : Program} {l : Launch} {e : Env} {s : State} {m : MethodId} {args : Array Value} {below : List Frame} {meth : Method} {c : Code} {A : Nat → Prop} {g : gG} {r : Int32} (C0 : gX p s m args meth c cJ13_bitCount_95d88 2 (some .int) RJ13 g A) : ∀ (x0 : Int64), f_jl_bitCount_N48 x0 = some r → ∀ (H : Heap) (locs : List Loc) (ls : Array Slot), gW g A s [] H locs → lv_has ls 2 [(0, .long x0)] → W p l e rm_jl_bitCount s m args below meth c H locs 0 0 (gQi below args s A g r []) (F0 m 48 ls []) := by
  intro x0 hm H locs ls hw hl
  unfold f_jl_bitCount_N48 at hm
  obtain ⟨hx, hb, hr, hml, hown, hts, hlocks, hK, hA⟩ := id C0
  refine lv_lload_n hx hb dJ13_bitCount_95d88_48 rfl (lv_at hl 0 rfl) ?_
  refine lv_lload_n hx hb dJ13_bitCount_95d88_49 rfl (lv_at hl 0 rfl) ?_
  refine lv_bipush (v := 32) hx hb dJ13_bitCount_95d88_50 (by decide) ?_
  refine lv_lushr (v := lushr x0 (32 : Int32)) hx hb dJ13_bitCount_95d88_52 rfl ?_
  refine lv_ladd hx hb dJ13_bitCount_95d88_53 ?_
  refine lv_lstore_n (lv' := [(0, .long (x0 + (lushr x0 (32 : Int32))))]) hx hb dJ13_bitCount_95d88_54 rfl hl (by decide) rfl (fun ls hl => ?_)
  exact n_jl_bitCount_N55 C0  _ hm _ _ _ hw (lv_sub hl [0] rfl)
set_option maxHeartbeats 1000000 in
set_option maxRecDepth 100000 in
theorem n_jl_bitCount_N41 {p : Program} {l : Launch} {e : Env} {s : State} {m : MethodId} {args : Array Value} {below : List Frame} {meth : Method} {c : Code} {A : Nat → Prop} {g : gG} {r : Int32} (C0 : gX p s m args meth c cJ13_bitCount_95d88 2 (some .int) RJ13 g A) : ∀ (x0 : Int64), f_jl_bitCount_N41 x0 = some r → ∀ (H : Heap) (locs : List Loc) (ls : Array Slot), gW g A s [] H locs → lv_has ls 2 [(0, .long x0)] → W p l e rm_jl_bitCount s m args below meth c H locs 0 0 (gQi below args s A g r []) (F0 m 41 ls []) := by
  intro x0 hm H locs ls hw hl
  unfold f_jl_bitCount_N41 at hm
  obtain ⟨hx, hb, hr, hml, hown, hts, hlocks, hK, hA⟩ := id C0
  refine lv_lload_n hx hb dJ13_bitCount_95d88_41 rfl (lv_at hl 0 rfl) ?_
  refine lv_lload_n hx hb dJ13_bitCount_95d88_42 rfl (lv_at hl 0 rfl) ?_
  refine lv_bipush (v := 16) hx hb dJ13_bitCount_95d88_43 (by decide) ?_
  refine lv_lushr (v := lushr x0 (16 : Int32)) hx hb dJ13_bitCount_95d88_45 rfl ?_
  refine lv_ladd hx hb dJ13_bitCount_95d88_46 ?_
  refine lv_lstore_n (lv' := [(0, .long (x0 + (lushr x0 (16 : Int32))))]) hx hb dJ13_bitCount_95d88_47 rfl hl (by decide) rfl (fun ls hl => ?_)
  exact n_jl_bitCount_N48 C0  _ hm _ _ _ hw (lv_sub hl [0] rfl)
set_option maxHeartbeats 1000000 in
set_option maxRecDepth 100000 in
theorem n_jl_bitCount_N34 {p : Program} {l : Launch} {e : Env} {s : State} {m : MethodId} {args : Array Value} {below : List Frame} {meth : Method} {c : Code} {A : Nat → Prop} {g : gG} {r : Int32} (C0 : gX p s m args meth c cJ13_bitCount_95d88 2 (some .int) RJ13 g A) : ∀ (x0 : Int64), f_jl_bitCount_N34 x0 = some r → ∀ (H : Heap) (locs : List Loc) (ls : Array Slot), gW g A s [] H locs → lv_has ls 2 [(0, .long x0)] → W p l e rm_jl_bitCount s m args below meth c H locs 0 0 (gQi below args s A g r []) (F0 m 34 ls []) := by
  intro x0 hm H locs ls hw hl
  unfold f_jl_bitCount_N34 at hm
  obtain ⟨hx, hb, hr, hml, hown, hts, hlocks, hK, hA⟩ := id C0
  refine lv_lload_n hx hb dJ13_bitCount_95d88_34 rfl (lv_at hl 0 rfl) ?_
  refine lv_lload_n hx hb dJ13_bitCount_95d88_35 rfl (lv_at hl 0 rfl) ?_
  refine lv_bipush (v := 8) hx hb dJ13_bitCount_95d88_36 (by decide) ?_
  refine lv_lushr (v := lushr x0 (8 : Int32)) hx hb dJ13_bitCount_95d88_38 rfl ?_
  refine lv_ladd hx hb dJ13_bitCount_95d88_39 ?_
  refine lv_lstore_n (lv' := [(0, .long (x0 + (lushr x0 (8 : Int32))))]) hx hb dJ13_bitCount_95d88_40 rfl hl (by decide) rfl (fun ls hl => ?_)
  exact n_jl_bitCount_N41 C0  _ hm _ _ _ hw (lv_sub hl [0] rfl)
set_option maxHeartbeats 1000000 in
set_option maxRecDepth 100000 in
theorem n_jl_bitCount_N24 {p : Program} {l : Launch} {e : Env} {s : State} {m : MethodId} {args : Array Value} {below : List Frame} {meth : Method} {c : Code} {A : Nat → Prop} {g : gG} {r : Int32} (C0 : gX p s m args meth c cJ13_bitCount_95d88 2 (some .int) RJ13 g A) : ∀ (x0 : Int64), f_jl_bitCount_N24 x0 = some r → ∀ (H : Heap) (locs : List Loc) (ls : Array Slot), gW g A s [] H locs → lv_has ls 2 [(0, .long x0)] → W p l e rm_jl_bitCount s m args below meth c H locs 0 0 (gQi below args s A g r []) (F0 m 24 ls []) := by
  intro x0 hm H locs ls hw hl
  unfold f_jl_bitCount_N24 at hm
  obtain ⟨hx, hb, hr, hml, hown, hts, hlocks, hK, hA⟩ := id C0
  refine lv_lload_n hx hb dJ13_bitCount_95d88_24 rfl (lv_at hl 0 rfl) ?_
  refine lv_lload_n hx hb dJ13_bitCount_95d88_25 rfl (lv_at hl 0 rfl) ?_
  refine lv_iconst (v := 4) hx hb dJ13_bitCount_95d88_26 (by decide) ?_
  refine lv_lushr (v := lushr x0 (4 : Int32)) hx hb dJ13_bitCount_95d88_27 rfl ?_
  refine lv_ladd hx hb dJ13_bitCount_95d88_28 ?_
  refine lv_ldc2 (v := 1085102592571150095) hx hb hown (hts _ kJ13_318) dJ13_bitCount_95d88_29 ?_
  refine lv_land hx hb dJ13_bitCount_95d88_32 ?_
  refine lv_lstore_n (lv' := [(0, .long ((x0 + (lushr x0 (4 : Int32))) &&& (1085102592571150095 : Int64)))]) hx hb dJ13_bitCount_95d88_33 rfl hl (by decide) rfl (fun ls hl => ?_)
  exact n_jl_bitCount_N34 C0  _ hm _ _ _ hw (lv_sub hl [0] rfl)
set_option maxHeartbeats 1000000 in
set_option maxRecDepth 100000 in
theorem n_jl_bitCount_N10 {p : Program} {l : Launch} {e : Env} {s : State} {m : MethodId} {args : Array Value} {below : List Frame} {meth : Method} {c : Code} {A : Nat → Prop} {g : gG} {r : Int32} (C0 : gX p s m args meth c cJ13_bitCount_95d88 2 (some .int) RJ13 g A) : ∀ (x0 : Int64), f_jl_bitCount_N10 x0 = some r → ∀ (H : Heap) (locs : List Loc) (ls : Array Slot), gW g A s [] H locs → lv_has ls 2 [(0, .long x0)] → W p l e rm_jl_bitCount s m args below meth c H locs 0 0 (gQi below args s A g r []) (F0 m 10 ls []) := by
  intro x0 hm H locs ls hw hl
  unfold f_jl_bitCount_N10 at hm
  obtain ⟨hx, hb, hr, hml, hown, hts, hlocks, hK, hA⟩ := id C0
  refine lv_lload_n hx hb dJ13_bitCount_95d88_10 rfl (lv_at hl 0 rfl) ?_
  refine lv_ldc2 (v := 3689348814741910323) hx hb hown (hts _ kJ13_316) dJ13_bitCount_95d88_11 ?_
  refine lv_land hx hb dJ13_bitCount_95d88_14 ?_
  refine lv_lload_n hx hb dJ13_bitCount_95d88_15 rfl (lv_at hl 0 rfl) ?_
  refine lv_iconst (v := 2) hx hb dJ13_bitCount_95d88_16 (by decide) ?_
  refine lv_lushr (v := lushr x0 (2 : Int32)) hx hb dJ13_bitCount_95d88_17 rfl ?_
  refine lv_ldc2 (v := 3689348814741910323) hx hb hown (hts _ kJ13_316) dJ13_bitCount_95d88_18 ?_
  refine lv_land hx hb dJ13_bitCount_95d88_21 ?_
  refine lv_ladd hx hb dJ13_bitCount_95d88_22 ?_
  refine lv_lstore_n (lv' := [(0, .long ((x0 &&& (3689348814741910323 : Int64)) + ((lushr x0 (2 : Int32)) &&& (3689348814741910323 : Int64))))]) hx hb dJ13_bitCount_95d88_23 rfl hl (by decide) rfl (fun ls hl => ?_)
  exact n_jl_bitCount_N24 C0  _ hm _ _ _ hw (lv_sub hl [0] rfl)
set_option maxHeartbeats 1000000 in
set_option maxRecDepth 100000 in
theorem c_jl_bitCount (l : Launch) (g : gG) (sz : Nat) (a0 : Int64) (r : Int32) (hm : f_jl_bitCount a0 = some r) : gMi l yJ13_bitCount_95d88 cJ13_bitCount_95d88 2 (some .int) rm_jl_bitCount g sz [.long a0] [] r [] := by
  unfold f_jl_bitCount at hm
  refine gEnterI (by decide) (Nat.le_of_ble_eq_true rfl) (fun p e s m below meth c A C0 H locs hw ls hl => ?_)
  obtain ⟨hx, hb, hr, hml, hown, hts, hlocks, hK, hA⟩ := id C0
  have C0 : gX p s m [.long a0].toArray meth c cJ13_bitCount_95d88 2 (some .int) RJ13 g A := C0
  have hl : lv_has ls 2 [(0, .long a0)] := hl
  refine lv_lload_n hx hb dJ13_bitCount_95d88_0 rfl (lv_at hl 0 rfl) ?_
  refine lv_lload_n hx hb dJ13_bitCount_95d88_1 rfl (lv_at hl 0 rfl) ?_
  refine lv_iconst (v := 1) hx hb dJ13_bitCount_95d88_2 (by decide) ?_
  refine lv_lushr (v := lushr a0 (1 : Int32)) hx hb dJ13_bitCount_95d88_3 rfl ?_
  refine lv_ldc2 (v := 6148914691236517205) hx hb hown (hts _ kJ13_314) dJ13_bitCount_95d88_4 ?_
  refine lv_land hx hb dJ13_bitCount_95d88_7 ?_
  refine lv_lsub hx hb dJ13_bitCount_95d88_8 ?_
  refine lv_lstore_n (lv' := [(0, .long (a0 - ((lushr a0 (1 : Int32)) &&& (6148914691236517205 : Int64))))]) hx hb dJ13_bitCount_95d88_9 rfl hl (by decide) rfl (fun ls hl => ?_)
  exact n_jl_bitCount_N10 C0  _ hm _ _ _ hw (lv_sub hl [0] rfl)

-- WallHands$Years.leave(J)I
abbrev W_ys_leave (g : gG) (h0 h1 h2 h3 h4 h5 h6 h7 h8 : Nat) (v_all : Int64) (v_losers : Int32) (v_now : Nat → Int64) : va_W := [(h0, .inr (7, [.ref h2, .ref h3, .ref h4, .ref h1, .long v_all, .ref h5, .ref h6, .ref h7, .ref h8, .int v_losers])), (h1, .inl (gJ g, 8, .inr (.inl v_now)))]

abbrev rm_ys_leave : Room := { frames := 1, cells := 0, slots := 0, locals := 21 }

set_option maxHeartbeats 1000000 in
set_option maxRecDepth 100000 in
theorem n_ys_leave_N22 {p : Program} {l : Launch} {e : Env} {s : State} {m : MethodId} {args : Array Value} {below : List Frame} {meth : Method} {c : Code} {A : Nat → Prop} {g : gG} {h0 h1 h2 h3 h4 h5 h6 h7 h8 : Nat} {k22 : Int64 → Int32 → (Nat → Int64) → Int64 → Int64 → Int32 → Option (Int32 × Int64 × Int32 × (Nat → Int64))} {r : (Int32 × Int64 × Int32 × (Nat → Int64))} (C0 : gX p s m args meth c cX7_leave 6 (some .int) RX7 g A) (hk22 : ∀ (v_all : Int64) (v_losers : Int32) (v_now : Nat → Int64) (x1 : Int64) (x3 : Int64) (x5 : Int32), k22 v_all v_losers v_now x1 x3 x5 = some r → ∀ (H : Heap) (locs : List Loc) (ls : Array Slot), gW g A s (W_ys_leave g h0 h1 h2 h3 h4 h5 h6 h7 h8 v_all v_losers v_now) H locs → lv_has ls 6 [(0, .ref h0), (1, .long x1), (3, .long x3), (5, .int x5)] → W p l e rm_ys_leave s m args below meth c H locs 0 0 (gQi below args s A g r.1 (W_ys_leave g h0 h1 h2 h3 h4 h5 h6 h7 h8 r.2.1 r.2.2.1 r.2.2.2)) (F0 m 22 ls [])) : ∀ (v_all : Int64) (v_losers : Int32) (v_now : Nat → Int64) (x1 : Int64) (x3 : Int64) (x5 : Int32), f_ys_leave_N22 k22 v_all v_losers v_now x1 x3 x5 = some r → ∀ (H : Heap) (locs : List Loc) (ls : Array Slot), gW g A s (W_ys_leave g h0 h1 h2 h3 h4 h5 h6 h7 h8 v_all v_losers v_now) H locs → lv_has ls 6 [(0, .ref h0), (1, .long x1), (3, .long x3), (5, .int x5)] → W p l e rm_ys_leave s m args below meth c H locs 0 0 (gQi below args s A g r.1 (W_ys_leave g h0 h1 h2 h3 h4 h5 h6 h7 h8 r.2.1 r.2.2.1 r.2.2.2)) (F0 m 22 ls []) := by
  intro v_all v_losers v_now x1 x3 x5 hm H locs ls hw hl
  unfold f_ys_leave_N22 at hm
  obtain ⟨hx, hb, hr, hml, hown, hts, hlocks, hK, hA⟩ := id C0
  refine lv_iload hx hb dX7_leave_22 (lv_at hl 3 rfl) ?_
  refine lv_bipush (v := 8) hx hb dX7_leave_24 (by decide) ?_
  refine lv_icmp_ge (tgt := 73) hx hb dX7_leave_26 (by decide) (fun hc => ?_) (fun hc => ?_)
  · have hm := ipos hc hm
    refine lv_aload_n hx hb dX7_leave_73 rfl (lv_at hl 0 rfl) ?_
    refine lv_lload_n hx hb dX7_leave_74 rfl (lv_at hl 1 rfl) ?_
    refine gPut (ws' := (W_ys_leave g h0 h1 h2 h3 h4 h5 h6 h7 h8 x1 v_losers v_now)) C0 hw fpX7_53 0 rfl rfl rfl (Nat.le_of_ble_eq_true rfl) rfl dX7_leave_75 (fun H locs hw => ?_)
    refine lv_lload_n hx hb dX7_leave_78 rfl (lv_at hl 2 rfl) ?_
    obtain ⟨o79, ho79, hm⟩ := bindE hm
    refine gCalli (ws' := (W_ys_leave g h0 h1 h2 h3 h4 h5 h6 h7 h8 x1 v_losers v_now)) C0 hw (gRunS (As := [.long x3]) (rest := []) C0 hw lkX7_101 (c_jl_bitCount l g H.size  x3 o79 ho79) ⟨rfl, rfl⟩ ⟨Nat.le_of_ble_eq_true rfl, Nat.le_of_ble_eq_true rfl⟩ [] (by decide) rfl rfl hl.1 rfl (Nat.le_of_ble_eq_true rfl) dX7_leave_79) [] [0, 1] rfl rfl ⟨rfl, rfl, trivial⟩ [h0, h1] rfl rfl 2 rfl (by decide +kernel) (fun H locs hw => ?_)
    have hm := Option.some.inj hm
    subst hm
    exact gRetI C0 hw dX7_leave_82
  · have hm := ineg hc hm
    refine lv_aload_n hx hb dX7_leave_29 rfl (lv_at hl 0 rfl) ?_
    refine gGet C0 hw flX7_9 0 rfl rfl dX7_leave_30 ?_
    refine lv_iload hx hb dX7_leave_33 (lv_at hl 3 rfl) ?_
    obtain ⟨hin, hm⟩ := gdE hm
    have hin := inbE hin
    refine gAldJ C0 hw 1 rfl hin dX7_leave_35 ?_
    refine lv_lload_n hx hb dX7_leave_36 rfl (lv_at hl 2 rfl) ?_
    refine lv_land hx hb dX7_leave_37 ?_
    refine lv_lconst (v := 0) hx hb dX7_leave_38 (by decide) ?_
    refine W.lcmp hx hb dX7_leave_39 ?_
    refine lv_if_eq (tgt := 67) hx hb dX7_leave_40 (by decide) (fun hc => ?_) (fun hc => ?_)
    · have hm := ipos hc hm
      refine lv_iinc (v := x5 + (1 : Int32)) (lv' := [(5, .int (x5 + (1 : Int32))), (0, .ref h0), (1, .long x1), (3, .long x3)]) hx hb dX7_leave_67 hl (k := 3) rfl rfl (by decide) rfl (fun ls hl => ?_)
      refine lv_goto (tgt := 22) hx hb dX7_leave_70 (by decide) ?_
      exact hk22 _ _ _ _ _ _ hm _ _ _ hw (lv_sub hl [1, 2, 3, 0] rfl)
    · have hm := ineg hc hm
      refine lv_aload_n hx hb dX7_leave_43 rfl (lv_at hl 0 rfl) ?_
      refine lv_dup hx hb dX7_leave_44 rfl ?_
      refine gGet C0 hw flX7_57 0 rfl rfl dX7_leave_45 ?_
      refine lv_iconst (v := 1) hx hb dX7_leave_48 (by decide) ?_
      refine lv_iload hx hb dX7_leave_49 (lv_at hl 3 rfl) ?_
      refine lv_ishl hx hb dX7_leave_51 ?_
      refine lv_ior hx hb dX7_leave_52 ?_
      refine gPut (ws' := (W_ys_leave g h0 h1 h2 h3 h4 h5 h6 h7 h8 v_all (v_losers ||| ((1 : Int32) <<< (x5 &&& 31))) v_now)) C0 hw fpX7_57 0 rfl rfl rfl (Nat.le_of_ble_eq_true rfl) rfl dX7_leave_53 (fun H locs hw => ?_)
      refine lv_aload_n hx hb dX7_leave_56 rfl (lv_at hl 0 rfl) ?_
      refine gGet C0 hw flX7_9 0 rfl rfl dX7_leave_57 ?_
      refine lv_iload hx hb dX7_leave_60 (lv_at hl 3 rfl) ?_
      refine lv_dup2_11 hx hb dX7_leave_62 rfl rfl ?_
      obtain ⟨hin, hm⟩ := gdE hm
      have hin := inbE hin
      refine gAldJ C0 hw 1 rfl hin dX7_leave_63 ?_
      refine lv_lload_n hx hb dX7_leave_64 rfl (lv_at hl 1 rfl) ?_
      refine lv_land hx hb dX7_leave_65 ?_
      obtain ⟨hin, hm⟩ := gdE hm
      have hin := inbE hin
      refine gAstJ (ws' := (W_ys_leave g h0 h1 h2 h3 h4 h5 h6 h7 h8 v_all (v_losers ||| ((1 : Int32) <<< (x5 &&& 31))) (vp_updL v_now x5.toNatClampNeg ((v_now x5.toNatClampNeg) &&& x1)))) C0 hw 1 rfl hin rfl dX7_leave_66 (fun H locs hw => ?_)
      refine lv_iinc (v := x5 + (1 : Int32)) (lv' := [(5, .int (x5 + (1 : Int32))), (0, .ref h0), (1, .long x1), (3, .long x3)]) hx hb dX7_leave_67 hl (k := 3) rfl rfl (by decide) rfl (fun ls hl => ?_)
      refine lv_goto (tgt := 22) hx hb dX7_leave_70 (by decide) ?_
      exact hk22 _ _ _ _ _ _ hm _ _ _ hw (lv_sub hl [1, 2, 3, 0] rfl)
set_option maxHeartbeats 1000000 in
set_option maxRecDepth 100000 in
theorem l_ys_leave_N22 {p : Program} {l : Launch} {e : Env} {s : State} {m : MethodId} {args : Array Value} {below : List Frame} {meth : Method} {c : Code} {A : Nat → Prop} {g : gG} {h0 h1 h2 h3 h4 h5 h6 h7 h8 : Nat} {r : (Int32 × Int64 × Int32 × (Nat → Int64))} (C0 : gX p s m args meth c cX7_leave 6 (some .int) RX7 g A) : ∀ n : Nat, ∀ (v_all : Int64) (v_losers : Int32) (v_now : Nat → Int64) (x1 : Int64) (x3 : Int64) (x5 : Int32), iter (fun _ _ _ _ _ _ => none) (f_ys_leave_N22) n v_all v_losers v_now x1 x3 x5 = some r → ∀ (H : Heap) (locs : List Loc) (ls : Array Slot), gW g A s (W_ys_leave g h0 h1 h2 h3 h4 h5 h6 h7 h8 v_all v_losers v_now) H locs → lv_has ls 6 [(0, .ref h0), (1, .long x1), (3, .long x3), (5, .int x5)] → W p l e rm_ys_leave s m args below meth c H locs 0 0 (gQi below args s A g r.1 (W_ys_leave g h0 h1 h2 h3 h4 h5 h6 h7 h8 r.2.1 r.2.2.1 r.2.2.2)) (F0 m 22 ls []) := by
  intro n
  induction n with
  | zero =>
    intro v_all v_losers v_now x1 x3 x5 hm
    cases hm
  | succ n ih =>
    exact n_ys_leave_N22 C0  ih
set_option maxHeartbeats 1000000 in
set_option maxRecDepth 100000 in
theorem c_ys_leave (l : Launch) (g : gG) (sz : Nat) (h0 h1 h2 h3 h4 h5 h6 h7 h8 : Nat) (v_all : Int64) (v_losers : Int32) (v_now : Nat → Int64) (a0 : Int64) (r : (Int32 × Int64 × Int32 × (Nat → Int64))) (hm : f_ys_leave v_all v_losers v_now a0 = some r) : gMi l yX7_leave cX7_leave 6 (some .int) rm_ys_leave g sz [.ref h0, .long a0] (W_ys_leave g h0 h1 h2 h3 h4 h5 h6 h7 h8 v_all v_losers v_now) r.1 (W_ys_leave g h0 h1 h2 h3 h4 h5 h6 h7 h8 r.2.1 r.2.2.1 r.2.2.2) := by
  unfold f_ys_leave at hm
  refine gEnterI (by decide) (Nat.le_of_ble_eq_true rfl) (fun p e s m below meth c A C0 H locs hw ls hl => ?_)
  obtain ⟨hx, hb, hr, hml, hown, hts, hlocks, hK, hA⟩ := id C0
  have C0 : gX p s m [.ref h0, .long a0].toArray meth c cX7_leave 6 (some .int) RX7 g A := C0
  have hl : lv_has ls 6 [(0, .ref h0), (1, .long a0)] := hl
  refine lv_aload_n hx hb dX7_leave_0 rfl (lv_at hl 0 rfl) ?_
  refine gGet C0 hw flX7_53 0 rfl rfl dX7_leave_1 ?_
  refine lv_lload_n hx hb dX7_leave_4 rfl (lv_at hl 1 rfl) ?_
  refine lv_ldc2 (v := -1) hx hb hown (hts _ kX7_99) dX7_leave_5 ?_
  refine lv_lxor hx hb dX7_leave_8 ?_
  refine lv_land hx hb dX7_leave_9 ?_
  refine lv_lstore_n (lv' := [(3, .long (v_all &&& (a0 ^^^ (-1 : Int64)))), (0, .ref h0), (1, .long a0)]) hx hb dX7_leave_10 rfl hl (by decide) rfl (fun ls hl => ?_)
  refine lv_lload_n hx hb dX7_leave_11 rfl (lv_at hl 0 rfl) ?_
  refine lv_lconst (v := 0) hx hb dX7_leave_12 (by decide) ?_
  refine W.lcmp hx hb dX7_leave_13 ?_
  refine lv_if_ne (tgt := 19) hx hb dX7_leave_14 (by decide) (fun hc => ?_) (fun hc => ?_)
  · have hm := ineg hc hm
    refine lv_iconst (v := 0) hx hb dX7_leave_19 (by decide) ?_
    refine lv_istore (lv' := [(5, .int (0 : Int32)), (3, .long (v_all &&& (a0 ^^^ (-1 : Int64)))), (0, .ref h0), (1, .long a0)]) hx hb dX7_leave_20 hl (by decide) rfl (fun ls hl => ?_)
    exact l_ys_leave_N22 C0  1000 _ _ _ _ _ _ hm _ _ _ hw (lv_sub hl [2, 3, 1, 0] rfl)
  · have hm := ipos hc hm
    refine lv_iconst (v := 0) hx hb dX7_leave_17 (by decide) ?_
    have hm := Option.some.inj hm
    subst hm
    exact gRetI C0 hw dX7_leave_18

-- WallHands.besideAtLeast(JI)J

abbrev rm_x_besideAtLeast : Room := { frames := 0, cells := 0, slots := 0, locals := 0 }

set_option maxHeartbeats 1000000 in
set_option maxRecDepth 100000 in
theorem c_x_besideAtLeast (l : Launch) (g : gG) (sz : Nat) (a0 : Int64) (a1 : Int32) (r : Int64) (hm : f_x_besideAtLeast a0 a1 = some r) : gMl l yX8_besideAtLeast cX8_besideAtLeast 11 (some .long) rm_x_besideAtLeast g sz [.long a0, .int a1] [] r [] := by
  unfold f_x_besideAtLeast at hm
  refine gEnterL (by decide) (Nat.le_of_ble_eq_true rfl) (fun p e s m below meth c A C0 H locs hw ls hl => ?_)
  obtain ⟨hx, hb, hr, hml, hown, hts, hlocks, hK, hA⟩ := id C0
  have C0 : gX p s m [.long a0, .int a1].toArray meth c cX8_besideAtLeast 11 (some .long) RX8 g A := C0
  have hl : lv_has ls 11 [(0, .long a0), (2, .int a1)] := hl
  refine lv_iload_n hx hb dX8_besideAtLeast_0 rfl (lv_at hl 1 rfl) ?_
  refine lv_if_gt (tgt := 8) hx hb dX8_besideAtLeast_1 (by decide) (fun hc => ?_) (fun hc => ?_)
  · have hm := ipos hc hm
    refine lv_lload_n hx hb dX8_besideAtLeast_8 rfl (lv_at hl 0 rfl) ?_
    refine lv_ldc2 (v := -551911719041) hx hb hown (hts _ kX8_364) dX8_besideAtLeast_9 ?_
    refine lv_land hx hb dX8_besideAtLeast_12 ?_
    refine lv_iconst (v := 1) hx hb dX8_besideAtLeast_13 (by decide) ?_
    refine lv_lshl (v := lshl (a0 &&& (-551911719041 : Int64)) (1 : Int32)) hx hb dX8_besideAtLeast_14 rfl ?_
    refine lv_lstore_n (lv' := [(3, .long (lshl (a0 &&& (-551911719041 : Int64)) (1 : Int32))), (0, .long a0), (2, .int a1)]) hx hb dX8_besideAtLeast_15 rfl hl (by decide) rfl (fun ls hl => ?_)
    refine lv_lload_n hx hb dX8_besideAtLeast_16 rfl (lv_at hl 1 rfl) ?_
    refine lv_ldc2 (v := -4311810306) hx hb hown (hts _ kX8_366) dX8_besideAtLeast_17 ?_
    refine lv_land hx hb dX8_besideAtLeast_20 ?_
    refine lv_iconst (v := 1) hx hb dX8_besideAtLeast_21 (by decide) ?_
    refine lv_lushr (v := lushr (a0 &&& (-4311810306 : Int64)) (1 : Int32)) hx hb dX8_besideAtLeast_22 rfl ?_
    refine lv_lstore (lv' := [(5, .long (lushr (a0 &&& (-4311810306 : Int64)) (1 : Int32))), (3, .long (lshl (a0 &&& (-551911719041 : Int64)) (1 : Int32))), (0, .long a0), (2, .int a1)]) hx hb dX8_besideAtLeast_23 hl (by decide) rfl (fun ls hl => ?_)
    refine lv_lload_n hx hb dX8_besideAtLeast_25 rfl (lv_at hl 2 rfl) ?_
    refine lv_bipush (v := 8) hx hb dX8_besideAtLeast_26 (by decide) ?_
    refine lv_lshl (v := lshl a0 (8 : Int32)) hx hb dX8_besideAtLeast_28 rfl ?_
    refine lv_lstore (lv' := [(7, .long (lshl a0 (8 : Int32))), (5, .long (lushr (a0 &&& (-4311810306 : Int64)) (1 : Int32))), (3, .long (lshl (a0 &&& (-551911719041 : Int64)) (1 : Int32))), (0, .long a0), (2, .int a1)]) hx hb dX8_besideAtLeast_29 hl (by decide) rfl (fun ls hl => ?_)
    refine lv_lload_n hx hb dX8_besideAtLeast_31 rfl (lv_at hl 3 rfl) ?_
    refine lv_bipush (v := 8) hx hb dX8_besideAtLeast_32 (by decide) ?_
    refine lv_lushr (v := lushr a0 (8 : Int32)) hx hb dX8_besideAtLeast_34 rfl ?_
    refine lv_lstore (lv' := [(9, .long (lushr a0 (8 : Int32))), (7, .long (lshl a0 (8 : Int32))), (5, .long (lushr (a0 &&& (-4311810306 : Int64)) (1 : Int32))), (3, .long (lshl (a0 &&& (-551911719041 : Int64)) (1 : Int32))), (0, .long a0), (2, .int a1)]) hx hb dX8_besideAtLeast_35 hl (by decide) rfl (fun ls hl => ?_)
    refine lv_iload_n hx hb dX8_besideAtLeast_37 rfl (lv_at hl 5 rfl) ?_
    by_cases hc1 : a1 = (1 : Int32)
    · have hm := ipos hc1 hm
      refine gSw (tgt := 68) (off := 30) C0 hc1 dX8_besideAtLeast_38 ⟨by decide, by decide, by decide⟩ ?_
      refine lv_lload_n hx hb dX8_besideAtLeast_68 rfl (lv_at hl 3 rfl) ?_
      refine lv_lload hx hb dX8_besideAtLeast_69 (lv_at hl 2 rfl) ?_
      refine lv_lor hx hb dX8_besideAtLeast_71 ?_
      refine lv_lload hx hb dX8_besideAtLeast_72 (lv_at hl 1 rfl) ?_
      refine lv_lor hx hb dX8_besideAtLeast_74 ?_
      refine lv_lload hx hb dX8_besideAtLeast_75 (lv_at hl 0 rfl) ?_
      refine lv_lor hx hb dX8_besideAtLeast_77 ?_
      have hm := Option.some.inj hm
      subst hm
      exact gRetL C0 hw dX8_besideAtLeast_78
    have hm := ineg hc1 hm
    by_cases hc2 : a1 = (2 : Int32)
    · have hm := ipos hc2 hm
      refine gSw (tgt := 79) (off := 41) C0 hc2 dX8_besideAtLeast_38 ⟨by decide, by decide, by decide⟩ ?_
      refine lv_lload_n hx hb dX8_besideAtLeast_79 rfl (lv_at hl 3 rfl) ?_
      refine lv_lload hx hb dX8_besideAtLeast_80 (lv_at hl 2 rfl) ?_
      refine lv_land hx hb dX8_besideAtLeast_82 ?_
      refine lv_lload hx hb dX8_besideAtLeast_83 (lv_at hl 1 rfl) ?_
      refine lv_lload hx hb dX8_besideAtLeast_85 (lv_at hl 0 rfl) ?_
      refine lv_land hx hb dX8_besideAtLeast_87 ?_
      refine lv_lor hx hb dX8_besideAtLeast_88 ?_
      refine lv_lload_n hx hb dX8_besideAtLeast_89 rfl (lv_at hl 3 rfl) ?_
      refine lv_lload hx hb dX8_besideAtLeast_90 (lv_at hl 2 rfl) ?_
      refine lv_lor hx hb dX8_besideAtLeast_92 ?_
      refine lv_lload hx hb dX8_besideAtLeast_93 (lv_at hl 1 rfl) ?_
      refine lv_lload hx hb dX8_besideAtLeast_95 (lv_at hl 0 rfl) ?_
      refine lv_lor hx hb dX8_besideAtLeast_97 ?_
      refine lv_land hx hb dX8_besideAtLeast_98 ?_
      refine lv_lor hx hb dX8_besideAtLeast_99 ?_
      have hm := Option.some.inj hm
      subst hm
      exact gRetL C0 hw dX8_besideAtLeast_100
    have hm := ineg hc2 hm
    by_cases hc3 : a1 = (3 : Int32)
    · have hm := ipos hc3 hm
      refine gSw (tgt := 101) (off := 63) C0 hc3 dX8_besideAtLeast_38 ⟨by decide, by decide, by decide⟩ ?_
      refine lv_lload_n hx hb dX8_besideAtLeast_101 rfl (lv_at hl 3 rfl) ?_
      refine lv_lload hx hb dX8_besideAtLeast_102 (lv_at hl 2 rfl) ?_
      refine lv_land hx hb dX8_besideAtLeast_104 ?_
      refine lv_lload hx hb dX8_besideAtLeast_105 (lv_at hl 1 rfl) ?_
      refine lv_lload hx hb dX8_besideAtLeast_107 (lv_at hl 0 rfl) ?_
      refine lv_lor hx hb dX8_besideAtLeast_109 ?_
      refine lv_land hx hb dX8_besideAtLeast_110 ?_
      refine lv_lload hx hb dX8_besideAtLeast_111 (lv_at hl 1 rfl) ?_
      refine lv_lload hx hb dX8_besideAtLeast_113 (lv_at hl 0 rfl) ?_
      refine lv_land hx hb dX8_besideAtLeast_115 ?_
      refine lv_lload_n hx hb dX8_besideAtLeast_116 rfl (lv_at hl 3 rfl) ?_
      refine lv_lload hx hb dX8_besideAtLeast_117 (lv_at hl 2 rfl) ?_
      refine lv_lor hx hb dX8_besideAtLeast_119 ?_
      refine lv_land hx hb dX8_besideAtLeast_120 ?_
      refine lv_lor hx hb dX8_besideAtLeast_121 ?_
      have hm := Option.some.inj hm
      subst hm
      exact gRetL C0 hw dX8_besideAtLeast_122
    have hm := ineg hc3 hm
    by_cases hc4 : a1 = (4 : Int32)
    · have hm := ipos hc4 hm
      refine gSw (tgt := 123) (off := 85) C0 hc4 dX8_besideAtLeast_38 ⟨by decide, by decide, by decide⟩ ?_
      refine lv_lload_n hx hb dX8_besideAtLeast_123 rfl (lv_at hl 3 rfl) ?_
      refine lv_lload hx hb dX8_besideAtLeast_124 (lv_at hl 2 rfl) ?_
      refine lv_land hx hb dX8_besideAtLeast_126 ?_
      refine lv_lload hx hb dX8_besideAtLeast_127 (lv_at hl 1 rfl) ?_
      refine lv_land hx hb dX8_besideAtLeast_129 ?_
      refine lv_lload hx hb dX8_besideAtLeast_130 (lv_at hl 0 rfl) ?_
      refine lv_land hx hb dX8_besideAtLeast_132 ?_
      have hm := Option.some.inj hm
      subst hm
      exact gRetL C0 hw dX8_besideAtLeast_133
    have hm := ineg hc4 hm
    refine gSwD (tgt := 134) C0 dX8_besideAtLeast_38 ?_ (by decide) ?_
    · intro k hk h
      have hk : k < 4 := hk
      rcases (show k = 0 ∨ k = 1 ∨ k = 2 ∨ k = 3 by omega) with rfl | rfl | rfl | rfl
      · exact hc1 (Int32.toInt_inj.mp (h.trans (by decide)))
      · exact hc2 (Int32.toInt_inj.mp (h.trans (by decide)))
      · exact hc3 (Int32.toInt_inj.mp (h.trans (by decide)))
      · exact hc4 (Int32.toInt_inj.mp (h.trans (by decide)))
    refine lv_lconst (v := 0) hx hb dX8_besideAtLeast_134 (by decide) ?_
    have hm := Option.some.inj hm
    subst hm
    exact gRetL C0 hw dX8_besideAtLeast_135
  · have hm := ineg hc hm
    refine lv_ldc2 (v := -1) hx hb hown (hts _ kX8_226) dX8_besideAtLeast_4 ?_
    have hm := Option.some.inj hm
    subst hm
    exact gRetL C0 hw dX8_besideAtLeast_7
