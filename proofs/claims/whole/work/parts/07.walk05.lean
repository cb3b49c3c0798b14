-- WallHands.lift(II)I
abbrev W_x_lift (g : gG) (h0 h1 h2 h3 h4 h5 h6 h7 h8 h9 h10 h11 h12 h13 : Nat) (v_toldIsStale : Int32) (v_latestFinding : Int32) (v_wall_courses : Int32) (v_wall_columns : Int32) (v_wall_fault : Int32) (v_wall_jump : Int32) (v_wall_stones : Nat → Int64) : va_W := [(h0, .inr (8, [.ref h3, .ref h4, .ref h1, .ref h5, .ref h6, .ref h7, .ref h8, .ref h9, .ref h10, .ref h11, .ref h12, .ref h13, .int v_toldIsStale, .int v_latestFinding])), (h1, .inr (6, [.ref h2, .int v_wall_courses, .int v_wall_columns, .int v_wall_fault, .int v_wall_jump])), (h2, .inl (gJ g, 8, .inr (.inl v_wall_stones)))]

abbrev rm_x_lift : Room := { frames := 2, cells := 0, slots := 0, locals := 43 }

set_option maxHeartbeats 1000000 in
set_option maxRecDepth 100000 in
theorem c_x_lift (l : Launch) (g : gG) (sz : Nat) (h0 h1 h2 h3 h4 h5 h6 h7 h8 h9 h10 h11 h12 h13 : Nat) (v_toldIsStale : Int32) (v_latestFinding : Int32) (v_wall_courses : Int32) (v_wall_columns : Int32) (v_wall_fault : Int32) (v_wall_jump : Int32) (v_wall_stones : Nat → Int64) (a0 : Int32) (a1 : Int32) (r : Int32) (hm : f_x_lift v_wall_stones a0 a1 = some r) : gMi l yX8_lift cX8_lift 9 (some .int) rm_x_lift g sz [.ref h0, .int a0, .int a1] (W_x_lift g h0 h1 h2 h3 h4 h5 h6 h7 h8 h9 h10 h11 h12 h13 v_toldIsStale v_latestFinding v_wall_courses v_wall_columns v_wall_fault v_wall_jump v_wall_stones) r (W_x_lift g h0 h1 h2 h3 h4 h5 h6 h7 h8 h9 h10 h11 h12 h13 v_toldIsStale v_latestFinding v_wall_courses v_wall_columns v_wall_fault v_wall_jump v_wall_stones) := by
  unfold f_x_lift at hm
  refine gEnterI (by decide) (Nat.le_of_ble_eq_true rfl) (fun p e s m below meth c A C0 H locs hw ls hl => ?_)
  obtain ⟨hx, hb, hr, hml, hown, hts, hlocks, hK, hA⟩ := id C0
  have C0 : gX p s m [.ref h0, .int a0, .int a1].toArray meth c cX8_lift 9 (some .int) RX8 g A := C0
  have hl : lv_has ls 9 [(0, .ref h0), (1, .int a0), (2, .int a1)] := hl
  refine lv_iload_n hx hb dX8_lift_0 rfl (lv_at hl 1 rfl) ?_
  refine lv_iload_n hx hb dX8_lift_1 rfl (lv_at hl 2 rfl) ?_
  obtain ⟨o2, ho2, hm⟩ := bindE hm
  refine gCalli (ws' := (W_x_lift g h0 h1 h2 h3 h4 h5 h6 h7 h8 h9 h10 h11 h12 h13 v_toldIsStale v_latestFinding v_wall_courses v_wall_columns v_wall_fault v_wall_jump v_wall_stones)) C0 hw (gRunS (As := [.int a0, .int a1]) (rest := []) C0 hw lkX8_115 (c_x_isPlace l g H.size  a0 a1 o2 ho2) ⟨rfl, rfl⟩ ⟨Nat.le_of_ble_eq_true rfl, Nat.le_of_ble_eq_true rfl⟩ [] (by decide) rfl rfl hl.1 rfl (Nat.le_of_ble_eq_true rfl) dX8_lift_2) [] [0, 1, 2] rfl rfl ⟨rfl, rfl, rfl, trivial⟩ [h0, h1, h2] rfl rfl 3 rfl (by decide +kernel) (fun H locs hw => ?_)
  refine lv_if_ne (tgt := 11) hx hb dX8_lift_5 (by decide) (fun hc => ?_) (fun hc => ?_)
  · have hm := ineg hc hm
    refine lv_aload_n hx hb dX8_lift_11 rfl (lv_at hl 0 rfl) ?_
    refine gGet C0 hw flX8_24 0 rfl rfl dX8_lift_12 ?_
    refine gGet C0 hw flX8_119 1 rfl rfl dX8_lift_15 ?_
    obtain ⟨o18, ho18, hm⟩ := bindE hm
    refine gCalll (ws' := (W_x_lift g h0 h1 h2 h3 h4 h5 h6 h7 h8 h9 h10 h11 h12 h13 v_toldIsStale v_latestFinding v_wall_courses v_wall_columns v_wall_fault v_wall_jump v_wall_stones)) C0 hw (gRunS (As := [.ref h2]) (rest := []) C0 hw lkX8_218 (c_x_union l g H.size h2 v_wall_stones 8 o18 ho18) ⟨rfl, rfl⟩ ⟨Nat.le_of_ble_eq_true rfl, Nat.le_of_ble_eq_true rfl⟩ [2] (by decide) rfl rfl hl.1 rfl (Nat.le_of_ble_eq_true rfl) dX8_lift_18) [2] [0, 1] rfl rfl ⟨rfl, rfl, trivial⟩ [h0, h1, h2] rfl rfl 3 rfl (by decide +kernel) (fun H locs hw => ?_)
    refine lv_lstore_n (lv' := [(3, .long o18), (0, .ref h0), (1, .int a0), (2, .int a1)]) hx hb dX8_lift_21 rfl hl (by decide) rfl (fun ls hl => ?_)
    refine lv_lconst (v := 1) hx hb dX8_lift_22 (by decide) ?_
    refine lv_bipush (v := 8) hx hb dX8_lift_23 (by decide) ?_
    refine lv_iload_n hx hb dX8_lift_25 rfl (lv_at hl 2 rfl) ?_
    refine lv_imul hx hb dX8_lift_26 ?_
    refine lv_iload_n hx hb dX8_lift_27 rfl (lv_at hl 3 rfl) ?_
    refine lv_iadd hx hb dX8_lift_28 ?_
    refine lv_lshl (v := lshl (1 : Int64) (((8 : Int32) * a0) + a1)) hx hb dX8_lift_29 rfl ?_
    refine lv_lstore (lv' := [(5, .long (lshl (1 : Int64) (((8 : Int32) * a0) + a1))), (3, .long o18), (0, .ref h0), (1, .int a0), (2, .int a1)]) hx hb dX8_lift_30 hl (by decide) rfl (fun ls hl => ?_)
    refine lv_lload_n hx hb dX8_lift_32 rfl (lv_at hl 1 rfl) ?_
    refine lv_lload hx hb dX8_lift_33 (lv_at hl 0 rfl) ?_
    refine lv_land hx hb dX8_lift_35 ?_
    refine lv_lconst (v := 0) hx hb dX8_lift_36 (by decide) ?_
    refine W.lcmp hx hb dX8_lift_37 ?_
    refine lv_if_ne (tgt := 43) hx hb dX8_lift_38 (by decide) (fun hc => ?_) (fun hc => ?_)
    · have hm := ineg hc hm
      refine lv_lload_n hx hb dX8_lift_43 rfl (lv_at hl 1 rfl) ?_
      obtain ⟨o44, ho44, hm⟩ := bindE hm
      refine gCalll (ws' := (W_x_lift g h0 h1 h2 h3 h4 h5 h6 h7 h8 h9 h10 h11 h12 h13 v_toldIsStale v_latestFinding v_wall_courses v_wall_columns v_wall_fault v_wall_jump v_wall_stones)) C0 hw (gRunS (As := [.long o18]) (rest := []) C0 hw lkX8_222 (c_x_borneOf l g H.size  o18 o44 ho44) ⟨rfl, rfl⟩ ⟨Nat.le_of_ble_eq_true rfl, Nat.le_of_ble_eq_true rfl⟩ [] (by decide) rfl rfl hl.1 rfl (Nat.le_of_ble_eq_true rfl) dX8_lift_44) [] [0, 1, 2] rfl rfl ⟨rfl, rfl, rfl, trivial⟩ [h0, h1, h2] rfl rfl 3 rfl (by decide +kernel) (fun H locs hw => ?_)
      refine lv_lload hx hb dX8_lift_47 (lv_at hl 0 rfl) ?_
      refine lv_ldc2 (v := -1) hx hb hown (hts _ kX8_226) dX8_lift_49 ?_
      refine lv_lxor hx hb dX8_lift_52 ?_
      refine lv_land hx hb dX8_lift_53 ?_
      refine lv_lstore (lv' := [(7, .long (o44 &&& ((lshl (1 : Int64) (((8 : Int32) * a0) + a1)) ^^^ (-1 : Int64)))), (5, .long (lshl (1 : Int64) (((8 : Int32) * a0) + a1))), (3, .long o18), (0, .ref h0), (1, .int a0), (2, .int a1)]) hx hb dX8_lift_54 hl (by decide) rfl (fun ls hl => ?_)
      refine lv_lload hx hb dX8_lift_56 (lv_at hl 0 rfl) ?_
      refine lv_lload_n hx hb dX8_lift_58 rfl (lv_at hl 2 rfl) ?_
      refine lv_lload hx hb dX8_lift_59 (lv_at hl 1 rfl) ?_
      refine lv_ldc2 (v := -1) hx hb hown (hts _ kX8_226) dX8_lift_61 ?_
      refine lv_lxor hx hb dX8_lift_64 ?_
      refine lv_land hx hb dX8_lift_65 ?_
      obtain ⟨o66, ho66, hm⟩ := bindE hm
      refine gCalll (ws' := (W_x_lift g h0 h1 h2 h3 h4 h5 h6 h7 h8 h9 h10 h11 h12 h13 v_toldIsStale v_latestFinding v_wall_courses v_wall_columns v_wall_fault v_wall_jump v_wall_stones)) C0 hw (gRunS (As := [.long (o18 &&& ((lshl (1 : Int64) (((8 : Int32) * a0) + a1)) ^^^ (-1 : Int64)))]) (rest := [.long (o44 &&& ((lshl (1 : Int64) (((8 : Int32) * a0) + a1)) ^^^ (-1 : Int64)))]) C0 hw lkX8_222 (c_x_borneOf l g H.size  (o18 &&& ((lshl (1 : Int64) (((8 : Int32) * a0) + a1)) ^^^ (-1 : Int64))) o66 ho66) ⟨rfl, rfl⟩ ⟨Nat.le_of_ble_eq_true rfl, Nat.le_of_ble_eq_true rfl⟩ [] (by decide) rfl rfl hl.1 rfl (Nat.le_of_ble_eq_true rfl) dX8_lift_66) [] [0, 1, 2] rfl rfl ⟨rfl, rfl, rfl, trivial⟩ [h0, h1, h2] rfl rfl 3 rfl (by decide +kernel) (fun H locs hw => ?_)
      refine lv_ldc2 (v := -1) hx hb hown (hts _ kX8_226) dX8_lift_69 ?_
      refine lv_lxor hx hb dX8_lift_72 ?_
      refine lv_land hx hb dX8_lift_73 ?_
      obtain ⟨o74, ho74, hm⟩ := bindE hm
      refine gCalli (ws' := (W_x_lift g h0 h1 h2 h3 h4 h5 h6 h7 h8 h9 h10 h11 h12 h13 v_toldIsStale v_latestFinding v_wall_courses v_wall_columns v_wall_fault v_wall_jump v_wall_stones)) C0 hw (gRunS (As := [.long ((o44 &&& ((lshl (1 : Int64) (((8 : Int32) * a0) + a1)) ^^^ (-1 : Int64))) &&& (o66 ^^^ (-1 : Int64)))]) (rest := []) C0 hw lkX8_228 (c_jl_bitCount l g H.size  ((o44 &&& ((lshl (1 : Int64) (((8 : Int32) * a0) + a1)) ^^^ (-1 : Int64))) &&& (o66 ^^^ (-1 : Int64))) o74 ho74) ⟨rfl, rfl⟩ ⟨Nat.le_of_ble_eq_true rfl, Nat.le_of_ble_eq_true rfl⟩ [] (by decide) rfl rfl hl.1 rfl (Nat.le_of_ble_eq_true rfl) dX8_lift_74) [] [0, 1, 2] rfl rfl ⟨rfl, rfl, rfl, trivial⟩ [h0, h1, h2] rfl rfl 3 rfl (by decide +kernel) (fun H locs hw => ?_)
      have hm := Option.some.inj hm
      subst hm
      exact gRetI C0 hw dX8_lift_77
    · have hm := ipos hc hm
      refine lv_iconst (v := -1) hx hb dX8_lift_41 (by decide) ?_
      have hm := Option.some.inj hm
      subst hm
      exact gRetI C0 hw dX8_lift_42
  · have hm := ipos hc hm
    refine lv_bipush (v := -2) hx hb dX8_lift_8 (by decide) ?_
    have hm := Option.some.inj hm
    subst hm
    exact gRetI C0 hw dX8_lift_10

-- WallHands.seen(IIII)I
abbrev W_x_seen (g : gG) (h0 h1 h2 h3 h4 h5 h6 h7 h8 h9 h10 h11 h12 h13 h14 h15 : Nat) (v_toldIsStale : Int32) (v_latestFinding : Int32) (v_sights_told : Int32) (v_sights_year : Nat → Int32) (v_sights_place : Nat → Int32) (v_sights_setter : Nat → Int32) : va_W := [(h0, .inr (8, [.ref h5, .ref h6, .ref h7, .ref h8, .ref h9, .ref h10, .ref h11, .ref h1, .ref h12, .ref h13, .ref h14, .ref h15, .int v_toldIsStale, .int v_latestFinding])), (h1, .inr (4, [.ref h2, .ref h3, .ref h4, .int v_sights_told])), (h2, .inl (gI g, 8, .inl v_sights_year)), (h3, .inl (gI g, 8, .inl v_sights_place)), (h4, .inl (gI g, 8, .inl v_sights_setter))]

abbrev rm_x_seen : Room := { frames := 2, cells := 0, slots := 0, locals := 43 }

set_option maxHeartbeats 1000000 in
set_option maxRecDepth 100000 in
theorem n_x_seen_N68 {p : Program} {l : Launch} {e : Env} {s : State} {m : MethodId} {args : Array Value} {below : List Frame} {meth : Method} {c : Code} {A : Nat → Prop} {g : gG} {h0 h1 h2 h3 h4 h5 h6 h7 h8 h9 h10 h11 h12 h13 h14 h15 : Nat} {v_toldIsStale : Int32} {v_latestFinding : Int32} {r : (Int32 × Int32 × (Nat → Int32) × (Nat → Int32) × (Nat → Int32))} (C0 : gX p s m args meth c cX8_seen 5 (some .int) RX8 g A) : ∀ (v_sights_told : Int32) (v_sights_year : Nat → Int32) (v_sights_place : Nat → Int32) (v_sights_setter : Nat → Int32) (y1 : Int32) (y2 : Int32) (y3 : Int32), f_x_seen_N68 v_sights_told v_sights_year v_sights_place v_sights_setter y1 y2 y3 = some r → ∀ (H : Heap) (locs : List Loc) (ls : Array Slot), gW g A s (W_x_seen g h0 h1 h2 h3 h4 h5 h6 h7 h8 h9 h10 h11 h12 h13 h14 h15 v_toldIsStale v_latestFinding v_sights_told v_sights_year v_sights_place v_sights_setter) H locs → lv_has ls 5 [(0, .ref h0)] → W p l e rm_x_seen s m args below meth c H locs 0 0 (gQi below args s A g r.1 (W_x_seen g h0 h1 h2 h3 h4 h5 h6 h7 h8 h9 h10 h11 h12 h13 h14 h15 v_toldIsStale v_latestFinding r.2.1 r.2.2.1 r.2.2.2.1 r.2.2.2.2)) (F0 m 68 ls [.int y3, .int y2, .int y1, .ref h1]) := by
  intro v_sights_told v_sights_year v_sights_place v_sights_setter y1 y2 y3 hm H locs ls hw hl
  unfold f_x_seen_N68 at hm
  obtain ⟨hx, hb, hr, hml, hown, hts, hlocks, hK, hA⟩ := id C0
  obtain ⟨o68, ho68, hm⟩ := bindE hm
  refine gCallv (ws' := (W_x_seen g h0 h1 h2 h3 h4 h5 h6 h7 h8 h9 h10 h11 h12 h13 h14 h15 v_toldIsStale v_latestFinding o68.1 o68.2.1 o68.2.2.1 o68.2.2.2)) C0 hw (gRunV (As := [.int y1, .int y2, .int y3]) (rest := []) C0 hw lkX8_235 (c_sg_add l g H.size h1 h2 h3 h4 v_sights_told v_sights_year v_sights_place v_sights_setter y1 y2 y3 o68 ho68) ⟨rfl, rfl⟩ ⟨Nat.le_of_ble_eq_true rfl, Nat.le_of_ble_eq_true rfl⟩ [1, 2, 3, 4] (by decide) rfl 1 rfl rfl rfl hl.1 rfl (Nat.le_of_ble_eq_true rfl) dX8_seen_68) [1, 2, 3, 4] [0] rfl rfl ⟨rfl, trivial⟩ [h0, h1, h2, h3, h4] rfl rfl 5 rfl (by decide +kernel) (fun H locs hw => ?_)
  refine lv_aload_n hx hb dX8_seen_71 rfl (lv_at hl 0 rfl) ?_
  refine gGet C0 hw flX8_55 0 rfl rfl dX8_seen_72 ?_
  refine gGet C0 hw flX8_234 1 rfl rfl dX8_seen_75 ?_
  have hm := Option.some.inj hm
  subst hm
  exact gRetI C0 hw dX8_seen_78
set_option maxHeartbeats 1000000 in
set_option maxRecDepth 100000 in
theorem c_x_seen (l : Launch) (g : gG) (sz : Nat) (h0 h1 h2 h3 h4 h5 h6 h7 h8 h9 h10 h11 h12 h13 h14 h15 : Nat) (v_toldIsStale : Int32) (v_latestFinding : Int32) (v_sights_told : Int32) (v_sights_year : Nat → Int32) (v_sights_place : Nat → Int32) (v_sights_setter : Nat → Int32) (a0 : Int32) (a1 : Int32) (a2 : Int32) (a3 : Int32) (r : (Int32 × Int32 × (Nat → Int32) × (Nat → Int32) × (Nat → Int32))) (hm : f_x_seen v_sights_told v_sights_year v_sights_place v_sights_setter a0 a1 a2 a3 = some r) : gMi l yX8_seen cX8_seen 5 (some .int) rm_x_seen g sz [.ref h0, .int a0, .int a1, .int a2, .int a3] (W_x_seen g h0 h1 h2 h3 h4 h5 h6 h7 h8 h9 h10 h11 h12 h13 h14 h15 v_toldIsStale v_latestFinding v_sights_told v_sights_year v_sights_place v_sights_setter) r.1 (W_x_seen g h0 h1 h2 h3 h4 h5 h6 h7 h8 h9 h10 h11 h12 h13 h14 h15 v_toldIsStale v_latestFinding r.2.1 r.2.2.1 r.2.2.2.1 r.2.2.2.2) := by
  unfold f_x_seen at hm
  refine gEnterI (by decide) (Nat.le_of_ble_eq_true rfl) (fun p e s m below meth c A C0 H locs hw ls hl => ?_)
  obtain ⟨hx, hb, hr, hml, hown, hts, hlocks, hK, hA⟩ := id C0
  have C0 : gX p s m [.ref h0, .int a0, .int a1, .int a2, .int a3].toArray meth c cX8_seen 5 (some .int) RX8 g A := C0
  have hl : lv_has ls 5 [(0, .ref h0), (1, .int a0), (2, .int a1), (3, .int a2), (4, .int a3)] := hl
  refine lv_iload_n hx hb dX8_seen_0 rfl (lv_at hl 1 rfl) ?_
  obtain ⟨o1, ho1, hm⟩ := bindE hm
  refine gCalli (ws' := (W_x_seen g h0 h1 h2 h3 h4 h5 h6 h7 h8 h9 h10 h11 h12 h13 h14 h15 v_toldIsStale v_latestFinding v_sights_told v_sights_year v_sights_place v_sights_setter)) C0 hw (gRunS (As := [.int a0]) (rest := []) C0 hw lkX8_148 (c_x_isYear l g H.size  a0 o1 ho1) ⟨rfl, rfl⟩ ⟨Nat.le_of_ble_eq_true rfl, Nat.le_of_ble_eq_true rfl⟩ [] (by decide) rfl rfl hl.1 rfl (Nat.le_of_ble_eq_true rfl) dX8_seen_1) [] [0, 1, 2, 3, 4] rfl rfl ⟨rfl, rfl, rfl, rfl, rfl, trivial⟩ [h0, h1, h2, h3, h4] rfl rfl 5 rfl (by decide +kernel) (fun H locs hw => ?_)
  refine lv_if_eq (tgt := 26) hx hb dX8_seen_4 (by decide) (fun hc => ?_) (fun hc => ?_)
  · have hm := ipos hc hm
    refine lv_bipush (v := -2) hx hb dX8_seen_26 (by decide) ?_
    have hm := Option.some.inj hm
    subst hm
    exact gRetI C0 hw dX8_seen_28
  · have hm := ineg hc hm
    refine lv_iload_n hx hb dX8_seen_7 rfl (lv_at hl 2 rfl) ?_
    refine lv_iload_n hx hb dX8_seen_8 rfl (lv_at hl 3 rfl) ?_
    obtain ⟨o9, ho9, hm⟩ := bindE hm
    refine gCalli (ws' := (W_x_seen g h0 h1 h2 h3 h4 h5 h6 h7 h8 h9 h10 h11 h12 h13 h14 h15 v_toldIsStale v_latestFinding v_sights_told v_sights_year v_sights_place v_sights_setter)) C0 hw (gRunS (As := [.int a1, .int a2]) (rest := []) C0 hw lkX8_115 (c_x_isPlace l g H.size  a1 a2 o9 ho9) ⟨rfl, rfl⟩ ⟨Nat.le_of_ble_eq_true rfl, Nat.le_of_ble_eq_true rfl⟩ [] (by decide) rfl rfl hl.1 rfl (Nat.le_of_ble_eq_true rfl) dX8_seen_9) [] [0, 1, 2, 3, 4] rfl rfl ⟨rfl, rfl, rfl, rfl, rfl, trivial⟩ [h0, h1, h2, h3, h4] rfl rfl 5 rfl (by decide +kernel) (fun H locs hw => ?_)
    refine lv_if_eq (tgt := 26) hx hb dX8_seen_12 (by decide) (fun hc => ?_) (fun hc => ?_)
    · have hm := ipos hc hm
      refine lv_bipush (v := -2) hx hb dX8_seen_26 (by decide) ?_
      have hm := Option.some.inj hm
      subst hm
      exact gRetI C0 hw dX8_seen_28
    · have hm := ineg hc hm
      refine lv_iload hx hb dX8_seen_15 (lv_at hl 4 rfl) ?_
      refine lv_iconst (v := 0) hx hb dX8_seen_17 (by decide) ?_
      refine lv_bipush (v := 8) hx hb dX8_seen_18 (by decide) ?_
      obtain ⟨o20, ho20, hm⟩ := bindE hm
      refine gCalli (ws' := (W_x_seen g h0 h1 h2 h3 h4 h5 h6 h7 h8 h9 h10 h11 h12 h13 h14 h15 v_toldIsStale v_latestFinding v_sights_told v_sights_year v_sights_place v_sights_setter)) C0 hw (gRunS (As := [.int a3, .int (0 : Int32), .int (8 : Int32)]) (rest := []) C0 hw lkX8_94 (c_x_within l g H.size  a3 (0 : Int32) (8 : Int32) o20 ho20) ⟨rfl, rfl⟩ ⟨Nat.le_of_ble_eq_true rfl, Nat.le_of_ble_eq_true rfl⟩ [] (by decide) rfl rfl hl.1 rfl (Nat.le_of_ble_eq_true rfl) dX8_seen_20) [] [0, 1, 2, 3, 4] rfl rfl ⟨rfl, rfl, rfl, rfl, rfl, trivial⟩ [h0, h1, h2, h3, h4] rfl rfl 5 rfl (by decide +kernel) (fun H locs hw => ?_)
      refine lv_if_ne (tgt := 29) hx hb dX8_seen_23 (by decide) (fun hc => ?_) (fun hc => ?_)
      · have hm := ineg hc hm
        refine lv_aload_n hx hb dX8_seen_29 rfl (lv_at hl 0 rfl) ?_
        refine gGet C0 hw flX8_55 0 rfl rfl dX8_seen_30 ?_
        refine gGet C0 hw flX8_234 1 rfl rfl dX8_seen_33 ?_
        refine lv_bipush (v := 8) hx hb dX8_seen_36 (by decide) ?_
        refine lv_icmp_lt (tgt := 44) hx hb dX8_seen_38 (by decide) (fun hc => ?_) (fun hc => ?_)
        · have hm := ipos hc hm
          refine lv_aload_n hx hb dX8_seen_44 rfl (lv_at hl 0 rfl) ?_
          refine gGet C0 hw flX8_55 0 rfl rfl dX8_seen_45 ?_
          refine lv_iload_n hx hb dX8_seen_48 rfl (lv_at hl 1 rfl) ?_
          refine lv_bipush (v := 8) hx hb dX8_seen_49 (by decide) ?_
          refine lv_iload_n hx hb dX8_seen_51 rfl (lv_at hl 2 rfl) ?_
          refine lv_imul hx hb dX8_seen_52 ?_
          refine lv_iload_n hx hb dX8_seen_53 rfl (lv_at hl 3 rfl) ?_
          refine lv_iadd hx hb dX8_seen_54 ?_
          refine lv_iload hx hb dX8_seen_55 (lv_at hl 4 rfl) ?_
          refine lv_bipush (v := 8) hx hb dX8_seen_57 (by decide) ?_
          refine lv_icmp_ne (tgt := 66) hx hb dX8_seen_59 (by decide) (fun hc => ?_) (fun hc => ?_)
          · have hm := ineg hc hm
            refine lv_iload hx hb dX8_seen_66 (lv_at hl 4 rfl) ?_
            exact n_x_seen_N68 C0  _ _ _ _ _ _ _ hm _ _ _ hw (lv_sub hl [0] rfl)
          · have hm := ipos hc hm
            refine lv_iconst (v := -1) hx hb dX8_seen_62 (by decide) ?_
            refine lv_goto (tgt := 68) hx hb dX8_seen_63 (by decide) ?_
            exact n_x_seen_N68 C0  _ _ _ _ _ _ _ hm _ _ _ hw (lv_sub hl [0] rfl)
        · have hm := ineg hc hm
          refine lv_bipush (v := -4) hx hb dX8_seen_41 (by decide) ?_
          have hm := Option.some.inj hm
          subst hm
          exact gRetI C0 hw dX8_seen_43
      · have hm := ipos hc hm
        refine lv_bipush (v := -2) hx hb dX8_seen_26 (by decide) ?_
        have hm := Option.some.inj hm
        subst hm
        exact gRetI C0 hw dX8_seen_28

-- WallHands.forget()I
abbrev W_x_forget (g : gG) (h0 h1 h2 h3 h4 h5 h6 h7 h8 h9 h10 h11 h12 h13 h14 h15 : Nat) (v_toldIsStale : Int32) (v_latestFinding : Int32) (v_sights_told : Int32) : va_W := [(h0, .inr (8, [.ref h2, .ref h3, .ref h4, .ref h5, .ref h6, .ref h7, .ref h8, .ref h1, .ref h9, .ref h10, .ref h11, .ref h12, .int v_toldIsStale, .int v_latestFinding])), (h1, .inr (4, [.ref h13, .ref h14, .ref h15, .int v_sights_told]))]

abbrev rm_x_forget : Room := { frames := 0, cells := 0, slots := 0, locals := 0 }

set_option maxHeartbeats 1000000 in
set_option maxRecDepth 100000 in
theorem c_x_forget (l : Launch) (g : gG) (sz : Nat) (h0 h1 h2 h3 h4 h5 h6 h7 h8 h9 h10 h11 h12 h13 h14 h15 : Nat) (v_toldIsStale : Int32) (v_latestFinding : Int32) (v_sights_told : Int32) (r : (Int32 × Int32)) (hm : f_x_forget v_sights_told = some r) : gMi l yX8_forget cX8_forget 2 (some .int) rm_x_forget g sz [.ref h0] (W_x_forget g h0 h1 h2 h3 h4 h5 h6 h7 h8 h9 h10 h11 h12 h13 h14 h15 v_toldIsStale v_latestFinding v_sights_told) r.1 (W_x_forget g h0 h1 h2 h3 h4 h5 h6 h7 h8 h9 h10 h11 h12 h13 h14 h15 v_toldIsStale v_latestFinding r.2) := by
  unfold f_x_forget at hm
  refine gEnterI (by decide) (Nat.le_of_ble_eq_true rfl) (fun p e s m below meth c A C0 H locs hw ls hl => ?_)
  obtain ⟨hx, hb, hr, hml, hown, hts, hlocks, hK, hA⟩ := id C0
  have C0 : gX p s m [.ref h0].toArray meth c cX8_forget 2 (some .int) RX8 g A := C0
  have hl : lv_has ls 2 [(0, .ref h0)] := hl
  refine lv_aload_n hx hb dX8_forget_0 rfl (lv_at hl 0 rfl) ?_
  refine gGet C0 hw flX8_55 0 rfl rfl dX8_forget_1 ?_
  refine gGet C0 hw flX8_234 1 rfl rfl dX8_forget_4 ?_
  refine lv_istore_n (lv' := [(1, .int v_sights_told), (0, .ref h0)]) hx hb dX8_forget_7 rfl hl (by decide) rfl (fun ls hl => ?_)
  refine lv_aload_n hx hb dX8_forget_8 rfl (lv_at hl 1 rfl) ?_
  refine gGet C0 hw flX8_55 0 rfl rfl dX8_forget_9 ?_
  refine lv_iconst (v := 0) hx hb dX8_forget_12 (by decide) ?_
  refine gPut (ws' := (W_x_forget g h0 h1 h2 h3 h4 h5 h6 h7 h8 h9 h10 h11 h12 h13 h14 h15 v_toldIsStale v_latestFinding (0 : Int32))) C0 hw fpX8_234 1 rfl rfl rfl (Nat.le_of_ble_eq_true rfl) rfl dX8_forget_13 (fun H locs hw => ?_)
  refine lv_iload_n hx hb dX8_forget_16 rfl (lv_at hl 0 rfl) ?_
  have hm := Option.some.inj hm
  subst hm
  exact gRetI C0 hw dX8_forget_17

-- WallHands.never()I
abbrev W_x_never (g : gG) (h0 h1 h2 h3 h4 h5 h6 h7 h8 h9 h10 h11 h12 h13 h14 h15 h16 h17 h18 h19 h20 h21 h22 h23 h24 h25 h26 h27 h28 : Nat) (v_toldIsStale : Int32) (v_latestFinding : Int32) (v_wall_courses : Int32) (v_wall_columns : Int32) (v_wall_fault : Int32) (v_wall_jump : Int32) (v_wall_stones : Nat → Int64) (v_hands_told : Int32) (v_hands_fault : Int32) (v_hands_mood : Nat → Int32) (v_hands_strong : Nat → Int32) (v_frosts_told : Int32) (v_frosts_year : Nat → Int32) (v_frosts_force : Nat → Int32) (v_gappings_told : Int32) (v_gappings_year : Nat → Int32) (v_gappings_column : Nat → Int32) (v_gappings_hand : Nat → Int32) (v_sights_told : Int32) (v_sights_year : Nat → Int32) (v_sights_place : Nat → Int32) (v_sights_setter : Nat → Int32) (v_trial_all : Int64) (v_trial_losers : Int32) (v_trial_now : Nat → Int64) (v_trial_stones : Nat → Int64) (v_trial_standing : Nat → Int64) (v_trial_open : Nat → Int32) (v_trial_fallen : Nat → Int32) : va_W := [(h0, .inr (8, [.ref h23, .ref h24, .ref h1, .ref h3, .ref h6, .ref h25, .ref h9, .ref h13, .ref h26, .ref h27, .ref h17, .ref h28, .int v_toldIsStale, .int v_latestFinding])), (h1, .inr (6, [.ref h2, .int v_wall_courses, .int v_wall_columns, .int v_wall_fault, .int v_wall_jump])), (h2, .inl (gJ g, 8, .inr (.inl v_wall_stones))), (h3, .inr (2, [.ref h4, .ref h5, .int v_hands_told, .int v_hands_fault])), (h4, .inl (gI g, 8, .inl v_hands_mood)), (h5, .inl (gI g, 8, .inl v_hands_strong)), (h6, .inr (0, [.ref h7, .ref h8, .int v_frosts_told])), (h7, .inl (gI g, 6, .inl v_frosts_year)), (h8, .inl (gI g, 6, .inl v_frosts_force)), (h9, .inr (1, [.ref h10, .ref h11, .ref h12, .int v_gappings_told])), (h10, .inl (gI g, 7, .inl v_gappings_year)), (h11, .inl (gI g, 7, .inl v_gappings_column)), (h12, .inl (gI g, 7, .inl v_gappings_hand)), (h13, .inr (4, [.ref h14, .ref h15, .ref h16, .int v_sights_told])), (h14, .inl (gI g, 8, .inl v_sights_year)), (h15, .inl (gI g, 8, .inl v_sights_place)), (h16, .inl (gI g, 8, .inl v_sights_setter)), (h17, .inr (7, [.ref h1, .ref h3, .ref h9, .ref h18, .long v_trial_all, .ref h19, .ref h20, .ref h21, .ref h22, .int v_trial_losers])), (h18, .inl (gJ g, 8, .inr (.inl v_trial_now))), (h19, .inl (gJ g, 160, .inr (.inl v_trial_stones))), (h20, .inl (gJ g, 20, .inr (.inl v_trial_standing))), (h21, .inl (gI g, 20, .inl v_trial_open)), (h22, .inl (gI g, 20, .inl v_trial_fallen))]

abbrev rm_x_never : Room := { frames := 4, cells := 0, slots := 0, locals := 112 }

set_option maxHeartbeats 1000000 in
set_option maxRecDepth 100000 in
theorem n_x_never_N4 {p : Program} {l : Launch} {e : Env} {s : State} {m : MethodId} {args : Array Value} {below : List Frame} {meth : Method} {c : Code} {A : Nat → Prop} {g : gG} {h0 h1 h2 h3 h4 h5 h6 h7 h8 h9 h10 h11 h12 h13 h14 h15 h16 h17 h18 h19 h20 h21 h22 h23 h24 h25 h26 h27 h28 : Nat} {v_toldIsStale : Int32} {v_latestFinding : Int32} {v_wall_courses : Int32} {v_wall_columns : Int32} {v_wall_fault : Int32} {v_wall_jump : Int32} {v_wall_stones : Nat → Int64} {v_hands_told : Int32} {v_hands_fault : Int32} {v_hands_mood : Nat → Int32} {v_hands_strong : Nat → Int32} {v_frosts_told : Int32} {v_frosts_year : Nat → Int32} {v_frosts_force : Nat → Int32} {v_gappings_told : Int32} {v_gappings_year : Nat → Int32} {v_gappings_column : Nat → Int32} {v_gappings_hand : Nat → Int32} {v_sights_told : Int32} {v_sights_year : Nat → Int32} {v_sights_place : Nat → Int32} {v_sights_setter : Nat → Int32} {k4 : Int64 → Int32 → (Nat → Int64) → (Nat → Int64) → (Nat → Int64) → (Nat → Int32) → (Nat → Int32) → Int32 → Int32 → Option (Int32 × Int64 × Int32 × (Nat → Int64) × (Nat → Int64) × (Nat → Int64) × (Nat → Int32) × (Nat → Int32))} {r : (Int32 × Int64 × Int32 × (Nat → Int64) × (Nat → Int64) × (Nat → Int64) × (Nat → Int32) × (Nat → Int32))} (C0 : gX p s m args meth c cX8_never 3 (some .int) RX8 g A) (hk4 : ∀ (v_trial_all : Int64) (v_trial_losers : Int32) (v_trial_now : Nat → Int64) (v_trial_stones : Nat → Int64) (v_trial_standing : Nat → Int64) (v_trial_open : Nat → Int32) (v_trial_fallen : Nat → Int32) (x1 : Int32) (x2 : Int32), k4 v_trial_all v_trial_losers v_trial_now v_trial_stones v_trial_standing v_trial_open v_trial_fallen x1 x2 = some r → ∀ (H : Heap) (locs : List Loc) (ls : Array Slot), gW g A s (W_x_never g h0 h1 h2 h3 h4 h5 h6 h7 h8 h9 h10 h11 h12 h13 h14 h15 h16 h17 h18 h19 h20 h21 h22 h23 h24 h25 h26 h27 h28 v_toldIsStale v_latestFinding v_wall_courses v_wall_columns v_wall_fault v_wall_jump v_wall_stones v_hands_told v_hands_fault v_hands_mood v_hands_strong v_frosts_told v_frosts_year v_frosts_force v_gappings_told v_gappings_year v_gappings_column v_gappings_hand v_sights_told v_sights_year v_sights_place v_sights_setter v_trial_all v_trial_losers v_trial_now v_trial_stones v_trial_standing v_trial_open v_trial_fallen) H locs → lv_has ls 3 [(0, .ref h0), (1, .int x1), (2, .int x2)] → W p l e rm_x_never s m args below meth c H locs 0 0 (gQi below args s A g r.1 (W_x_never g h0 h1 h2 h3 h4 h5 h6 h7 h8 h9 h10 h11 h12 h13 h14 h15 h16 h17 h18 h19 h20 h21 h22 h23 h24 h25 h26 h27 h28 v_toldIsStale v_latestFinding v_wall_courses v_wall_columns v_wall_fault v_wall_jump v_wall_stones v_hands_told v_hands_fault v_hands_mood v_hands_strong v_frosts_told v_frosts_year v_frosts_force v_gappings_told v_gappings_year v_gappings_column v_gappings_hand v_sights_told v_sights_year v_sights_place v_sights_setter r.2.1 r.2.2.1 r.2.2.2.1 r.2.2.2.2.1 r.2.2.2.2.2.1 r.2.2.2.2.2.2.1 r.2.2.2.2.2.2.2)) (F0 m 4 ls [])) : ∀ (v_trial_all : Int64) (v_trial_losers : Int32) (v_trial_now : Nat → Int64) (v_trial_stones : Nat → Int64) (v_trial_standing : Nat → Int64) (v_trial_open : Nat → Int32) (v_trial_fallen : Nat → Int32) (x1 : Int32) (x2 : Int32), f_x_never_N4 v_wall_courses v_wall_columns v_wall_jump v_wall_stones v_hands_told v_hands_mood v_hands_strong v_frosts_told v_frosts_year v_frosts_force v_gappings_told v_gappings_year v_gappings_column v_gappings_hand v_sights_told v_sights_year v_sights_place v_sights_setter k4 v_trial_all v_trial_losers v_trial_now v_trial_stones v_trial_standing v_trial_open v_trial_fallen x1 x2 = some r → ∀ (H : Heap) (locs : List Loc) (ls : Array Slot), gW g A s (W_x_never g h0 h1 h2 h3 h4 h5 h6 h7 h8 h9 h10 h11 h12 h13 h14 h15 h16 h17 h18 h19 h20 h21 h22 h23 h24 h25 h26 h27 h28 v_toldIsStale v_latestFinding v_wall_courses v_wall_columns v_wall_fault v_wall_jump v_wall_stones v_hands_told v_hands_fault v_hands_mood v_hands_strong v_frosts_told v_frosts_year v_frosts_force v_gappings_told v_gappings_year v_gappings_column v_gappings_hand v_sights_told v_sights_year v_sights_place v_sights_setter v_trial_all v_trial_losers v_trial_now v_trial_stones v_trial_standing v_trial_open v_trial_fallen) H locs → lv_has ls 3 [(0, .ref h0), (1, .int x1), (2, .int x2)] → W p l e rm_x_never s m args below meth c H locs 0 0 (gQi below args s A g r.1 (W_x_never g h0 h1 h2 h3 h4 h5 h6 h7 h8 h9 h10 h11 h12 h13 h14 h15 h16 h17 h18 h19 h20 h21 h22 h23 h24 h25 h26 h27 h28 v_toldIsStale v_latestFinding v_wall_courses v_wall_columns v_wall_fault v_wall_jump v_wall_stones v_hands_told v_hands_fault v_hands_mood v_hands_strong v_frosts_told v_frosts_year v_frosts_force v_gappings_told v_gappings_year v_gappings_column v_gappings_hand v_sights_told v_sights_year v_sights_place v_sights_setter r.2.1 r.2.2.1 r.2.2.2.1 r.2.2.2.2.1 r.2.2.2.2.2.1 r.2.2.2.2.2.2.1 r.2.2.2.2.2.2.2)) (F0 m 4 ls []) := by
  intro v_trial_all v_trial_losers v_trial_now v_trial_stones v_trial_standing v_trial_open v_trial_fallen x1 x2 hm H locs ls hw hl
  unfold f_x_never_N4 at hm
  obtain ⟨hx, hb, hr, hml, hown, hts, hlocks, hK, hA⟩ := id C0
  refine lv_iload_n hx hb dX8_never_4 rfl (lv_at hl 2 rfl) ?_
  refine lv_aload_n hx hb dX8_never_5 rfl (lv_at hl 0 rfl) ?_
  refine gGet C0 hw flX8_38 0 rfl rfl dX8_never_6 ?_
  refine gGet C0 hw flX8_142 6 rfl rfl dX8_never_9 ?_
  refine lv_icmp_ge (tgt := 55) hx hb dX8_never_12 (by decide) (fun hc => ?_) (fun hc => ?_)
  · have hm := ipos hc hm
    refine lv_iload_n hx hb dX8_never_55 rfl (lv_at hl 1 rfl) ?_
    have hm := Option.some.inj hm
    subst hm
    exact gRetI C0 hw dX8_never_56
  · have hm := ineg hc hm
    refine lv_aload_n hx hb dX8_never_15 rfl (lv_at hl 0 rfl) ?_
    refine gGet C0 hw flX8_74 0 rfl rfl dX8_never_16 ?_
    refine lv_aload_n hx hb dX8_never_19 rfl (lv_at hl 0 rfl) ?_
    refine gGet C0 hw flX8_38 0 rfl rfl dX8_never_20 ?_
    refine lv_iconst (v := 1) hx hb dX8_never_23 (by decide) ?_
    refine lv_iload_n hx hb dX8_never_24 rfl (lv_at hl 2 rfl) ?_
    refine lv_ishl hx hb dX8_never_25 ?_
    obtain ⟨o26, ho26, hm⟩ := bindE hm
    refine gCallv (ws' := (W_x_never g h0 h1 h2 h3 h4 h5 h6 h7 h8 h9 h10 h11 h12 h13 h14 h15 h16 h17 h18 h19 h20 h21 h22 h23 h24 h25 h26 h27 h28 v_toldIsStale v_latestFinding v_wall_courses v_wall_columns v_wall_fault v_wall_jump v_wall_stones v_hands_told v_hands_fault v_hands_mood v_hands_strong v_frosts_told v_frosts_year v_frosts_force v_gappings_told v_gappings_year v_gappings_column v_gappings_hand v_sights_told v_sights_year v_sights_place v_sights_setter o26.1 o26.2.1 o26.2.2.1 o26.2.2.2.1 o26.2.2.2.2.1 o26.2.2.2.2.2.1 o26.2.2.2.2.2.2)) C0 hw (gRunV (As := [.ref h6, .int ((1 : Int32) <<< (x2 &&& 31))]) (rest := []) C0 hw lkX8_205 (c_ys_run l g H.size h17 h1 h2 h3 h4 h5 h9 h10 h11 h12 h18 h19 h20 h21 h22 h6 h7 h8 v_trial_all v_trial_losers v_wall_courses v_wall_columns v_wall_fault v_wall_jump v_wall_stones v_hands_told v_hands_fault v_hands_mood v_hands_strong v_gappings_told v_gappings_year v_gappings_column v_gappings_hand v_trial_now v_trial_stones v_trial_standing v_trial_open v_trial_fallen v_frosts_told v_frosts_year v_frosts_force ((1 : Int32) <<< (x2 &&& 31)) o26 ho26) ⟨rfl, rfl⟩ ⟨Nat.le_of_ble_eq_true rfl, Nat.le_of_ble_eq_true rfl⟩ [17, 1, 2, 3, 4, 5, 9, 10, 11, 12, 18, 19, 20, 21, 22, 6, 7, 8] (by decide) rfl 17 rfl rfl rfl hl.1 rfl (Nat.le_of_ble_eq_true rfl) dX8_never_26) [17, 1, 2, 3, 4, 5, 9, 10, 11, 12, 18, 19, 20, 21, 22, 6, 7, 8] [0, 13, 14, 15, 16] rfl rfl ⟨rfl, rfl, rfl, rfl, rfl, trivial⟩ [h0, h1, h2, h3, h4, h5, h6, h7, h8, h9, h10, h11, h12, h13, h14, h15, h16, h17, h18, h19, h20, h21, h22] rfl rfl 23 rfl (by decide +kernel) (fun H locs hw => ?_)
    refine lv_aload_n hx hb dX8_never_29 rfl (lv_at hl 0 rfl) ?_
    refine gGet C0 hw flX8_55 0 rfl rfl dX8_never_30 ?_
    refine lv_aload_n hx hb dX8_never_33 rfl (lv_at hl 0 rfl) ?_
    refine gGet C0 hw flX8_74 0 rfl rfl dX8_never_34 ?_
    obtain ⟨o37, ho37, hm⟩ := bindE hm
    refine gCalli (ws' := (W_x_never g h0 h1 h2 h3 h4 h5 h6 h7 h8 h9 h10 h11 h12 h13 h14 h15 h16 h17 h18 h19 h20 h21 h22 h23 h24 h25 h26 h27 h28 v_toldIsStale v_latestFinding v_wall_courses v_wall_columns v_wall_fault v_wall_jump v_wall_stones v_hands_told v_hands_fault v_hands_mood v_hands_strong v_frosts_told v_frosts_year v_frosts_force v_gappings_told v_gappings_year v_gappings_column v_gappings_hand v_sights_told v_sights_year v_sights_place v_sights_setter o26.1 o26.2.1 o26.2.2.1 o26.2.2.2.1 o26.2.2.2.2.1 o26.2.2.2.2.2.1 o26.2.2.2.2.2.2)) C0 hw (gRunV (As := [.ref h17]) (rest := []) C0 hw lkX8_236 (c_sg_comeOutIn l g H.size h13 h14 h15 h16 h17 h19 h1 h3 h9 h18 h20 h21 h22 v_sights_told v_sights_year v_sights_place v_sights_setter o26.1 o26.2.1 o26.2.2.2.1 o37 ho37) ⟨rfl, rfl⟩ ⟨Nat.le_of_ble_eq_true rfl, Nat.le_of_ble_eq_true rfl⟩ [13, 14, 15, 16, 17, 19] (by decide) rfl 13 rfl rfl rfl hl.1 rfl (Nat.le_of_ble_eq_true rfl) dX8_never_37) [13, 14, 15, 16, 17, 19] [0, 1, 2, 3, 4, 5, 6, 7, 8, 9, 10, 11, 12, 18, 20, 21, 22] rfl rfl ⟨rfl, rfl, rfl, rfl, rfl, rfl, rfl, rfl, rfl, rfl, rfl, rfl, rfl, rfl, rfl, rfl, rfl, trivial⟩ [h0, h1, h2, h3, h4, h5, h6, h7, h8, h9, h10, h11, h12, h13, h14, h15, h16, h17, h18, h19, h20, h21, h22] rfl rfl 23 rfl (by decide +kernel) (fun H locs hw => ?_)
    refine lv_if_eq (tgt := 49) hx hb dX8_never_40 (by decide) (fun hc => ?_) (fun hc => ?_)
    · have hm := ipos hc hm
      refine lv_iinc (v := x2 + (1 : Int32)) (lv' := [(2, .int (x2 + (1 : Int32))), (0, .ref h0), (1, .int x1)]) hx hb dX8_never_49 hl (k := 2) rfl rfl (by decide) rfl (fun ls hl => ?_)
      refine lv_goto (tgt := 4) hx hb dX8_never_52 (by decide) ?_
      exact hk4 _ _ _ _ _ _ _ _ _ hm _ _ _ hw (lv_sub hl [1, 2, 0] rfl)
    · have hm := ineg hc hm
      refine lv_iload_n hx hb dX8_never_43 rfl (lv_at hl 1 rfl) ?_
      refine lv_iconst (v := 1) hx hb dX8_never_44 (by decide) ?_
      refine lv_iload_n hx hb dX8_never_45 rfl (lv_at hl 2 rfl) ?_
      refine lv_ishl hx hb dX8_never_46 ?_
      refine lv_ior hx hb dX8_never_47 ?_
      refine lv_istore_n (lv' := [(1, .int (x1 ||| ((1 : Int32) <<< (x2 &&& 31)))), (0, .ref h0), (2, .int x2)]) hx hb dX8_never_48 rfl hl (by decide) rfl (fun ls hl => ?_)
      refine lv_iinc (v := x2 + (1 : Int32)) (lv' := [(2, .int (x2 + (1 : Int32))), (1, .int (x1 ||| ((1 : Int32) <<< (x2 &&& 31)))), (0, .ref h0)]) hx hb dX8_never_49 hl (k := 2) rfl rfl (by decide) rfl (fun ls hl => ?_)
      refine lv_goto (tgt := 4) hx hb dX8_never_52 (by decide) ?_
      exact hk4 _ _ _ _ _ _ _ _ _ hm _ _ _ hw (lv_sub hl [2, 1, 0] rfl)
set_option maxHeartbeats 1000000 in
set_option maxRecDepth 100000 in
theorem l_x_never_N4 {p : Program} {l : Launch} {e : Env} {s : State} {m : MethodId} {args : Array Value} {below : List Frame} {meth : Method} {c : Code} {A : Nat → Prop} {g : gG} {h0 h1 h2 h3 h4 h5 h6 h7 h8 h9 h10 h11 h12 h13 h14 h15 h16 h17 h18 h19 h20 h21 h22 h23 h24 h25 h26 h27 h28 : Nat} {v_toldIsStale : Int32} {v_latestFinding : Int32} {v_wall_courses : Int32} {v_wall_columns : Int32} {v_wall_fault : Int32} {v_wall_jump : Int32} {v_wall_stones : Nat → Int64} {v_hands_told : Int32} {v_hands_fault : Int32} {v_hands_mood : Nat → Int32} {v_hands_strong : Nat → Int32} {v_frosts_told : Int32} {v_frosts_year : Nat → Int32} {v_frosts_force : Nat → Int32} {v_gappings_told : Int32} {v_gappings_year : Nat → Int32} {v_gappings_column : Nat → Int32} {v_gappings_hand : Nat → Int32} {v_sights_told : Int32} {v_sights_year : Nat → Int32} {v_sights_place : Nat → Int32} {v_sights_setter : Nat → Int32} {r : (Int32 × Int64 × Int32 × (Nat → Int64) × (Nat → Int64) × (Nat → Int64) × (Nat → Int32) × (Nat → Int32))} (C0 : gX p s m args meth c cX8_never 3 (some .int) RX8 g A) : ∀ n : Nat, ∀ (v_trial_all : Int64) (v_trial_losers : Int32) (v_trial_now : Nat → Int64) (v_trial_stones : Nat → Int64) (v_trial_standing : Nat → Int64) (v_trial_open : Nat → Int32) (v_trial_fallen : Nat → Int32) (x1 : Int32) (x2 : Int32), iter (fun _ _ _ _ _ _ _ _ _ => none) (f_x_never_N4 v_wall_courses v_wall_columns v_wall_jump v_wall_stones v_hands_told v_hands_mood v_hands_strong v_frosts_told v_frosts_year v_frosts_force v_gappings_told v_gappings_year v_gappings_column v_gappings_hand v_sights_told v_sights_year v_sights_place v_sights_setter) n v_trial_all v_trial_losers v_trial_now v_trial_stones v_trial_standing v_trial_open v_trial_fallen x1 x2 = some r → ∀ (H : Heap) (locs : List Loc) (ls : Array Slot), gW g A s (W_x_never g h0 h1 h2 h3 h4 h5 h6 h7 h8 h9 h10 h11 h12 h13 h14 h15 h16 h17 h18 h19 h20 h21 h22 h23 h24 h25 h26 h27 h28 v_toldIsStale v_latestFinding v_wall_courses v_wall_columns v_wall_fault v_wall_jump v_wall_stones v_hands_told v_hands_fault v_hands_mood v_hands_strong v_frosts_told v_frosts_year v_frosts_force v_gappings_told v_gappings_year v_gappings_column v_gappings_hand v_sights_told v_sights_year v_sights_place v_sights_setter v_trial_all v_trial_losers v_trial_now v_trial_stones v_trial_standing v_trial_open v_trial_fallen) H locs → lv_has ls 3 [(0, .ref h0), (1, .int x1), (2, .int x2)] → W p l e rm_x_never s m args below meth c H locs 0 0 (gQi below args s A g r.1 (W_x_never g h0 h1 h2 h3 h4 h5 h6 h7 h8 h9 h10 h11 h12 h13 h14 h15 h16 h17 h18 h19 h20 h21 h22 h23 h24 h25 h26 h27 h28 v_toldIsStale v_latestFinding v_wall_courses v_wall_columns v_wall_fault v_wall_jump v_wall_stones v_hands_told v_hands_fault v_hands_mood v_hands_strong v_frosts_told v_frosts_year v_frosts_force v_gappings_told v_gappings_year v_gappings_column v_gappings_hand v_sights_told v_sights_year v_sights_place v_sights_setter r.2.1 r.2.2.1 r.2.2.2.1 r.2.2.2.2.1 r.2.2.2.2.2.1 r.2.2.2.2.2.2.1 r.2.2.2.2.2.2.2)) (F0 m 4 ls []) := by
  intro n
  induction n with
  | zero =>
    intro v_trial_all v_trial_losers v_trial_now v_trial_stones v_trial_standing v_trial_open v_trial_fallen x1 x2 hm
    cases hm
  | succ n ih =>
    exact n_x_never_N4 C0  ih
set_option maxHeartbeats 1000000 in
set_option maxRecDepth 100000 in
theorem c_x_never (l : Launch) (g : gG) (sz : Nat) (h0 h1 h2 h3 h4 h5 h6 h7 h8 h9 h10 h11 h12 h13 h14 h15 h16 h17 h18 h19 h20 h21 h22 h23 h24 h25 h26 h27 h28 : Nat) (v_toldIsStale : Int32) (v_latestFinding : Int32) (v_wall_courses : Int32) (v_wall_columns : Int32) (v_wall_fault : Int32) (v_wall_jump : Int32) (v_wall_stones : Nat → Int64) (v_hands_told : Int32) (v_hands_fault : Int32) (v_hands_mood : Nat → Int32) (v_hands_strong : Nat → Int32) (v_frosts_told : Int32) (v_frosts_year : Nat → Int32) (v_frosts_force : Nat → Int32) (v_gappings_told : Int32) (v_gappings_year : Nat → Int32) (v_gappings_column : Nat → Int32) (v_gappings_hand : Nat → Int32) (v_sights_told : Int32) (v_sights_year : Nat → Int32) (v_sights_place : Nat → Int32) (v_sights_setter : Nat → Int32) (v_trial_all : Int64) (v_trial_losers : Int32) (v_trial_now : Nat → Int64) (v_trial_stones : Nat → Int64) (v_trial_standing : Nat → Int64) (v_trial_open : Nat → Int32) (v_trial_fallen : Nat → Int32) (r : (Int32 × Int64 × Int32 × (Nat → Int64) × (Nat → Int64) × (Nat → Int64) × (Nat → Int32) × (Nat → Int32))) (hm : f_x_never v_wall_courses v_wall_columns v_wall_jump v_wall_stones v_hands_told v_hands_mood v_hands_strong v_frosts_told v_frosts_year v_frosts_force v_gappings_told v_gappings_year v_gappings_column v_gappings_hand v_sights_told v_sights_year v_sights_place v_sights_setter v_trial_all v_trial_losers v_trial_now v_trial_stones v_trial_standing v_trial_open v_trial_fallen = some r) : gMi l yX8_never cX8_never 3 (some .int) rm_x_never g sz [.ref h0] (W_x_never g h0 h1 h2 h3 h4 h5 h6 h7 h8 h9 h10 h11 h12 h13 h14 h15 h16 h17 h18 h19 h20 h21 h22 h23 h24 h25 h26 h27 h28 v_toldIsStale v_latestFinding v_wall_courses v_wall_columns v_wall_fault v_wall_jump v_wall_stones v_hands_told v_hands_fault v_hands_mood v_hands_strong v_frosts_told v_frosts_year v_frosts_force v_gappings_told v_gappings_year v_gappings_column v_gappings_hand v_sights_told v_sights_year v_sights_place v_sights_setter v_trial_all v_trial_losers v_trial_now v_trial_stones v_trial_standing v_trial_open v_trial_fallen) r.1 (W_x_never g h0 h1 h2 h3 h4 h5 h6 h7 h8 h9 h10 h11 h12 h13 h14 h15 h16 h17 h18 h19 h20 h21 h22 h23 h24 h25 h26 h27 h28 v_toldIsStale v_latestFinding v_wall_courses v_wall_columns v_wall_fault v_wall_jump v_wall_stones v_hands_told v_hands_fault v_hands_mood v_hands_strong v_frosts_told v_frosts_year v_frosts_force v_gappings_told v_gappings_year v_gappings_column v_gappings_hand v_sights_told v_sights_year v_sights_place v_sights_setter r.2.1 r.2.2.1 r.2.2.2.1 r.2.2.2.2.1 r.2.2.2.2.2.1 r.2.2.2.2.2.2.1 r.2.2.2.2.2.2.2) := by
  unfold f_x_never at hm
  refine gEnterI (by decide) (Nat.le_of_ble_eq_true rfl) (fun p e s m below meth c A C0 H locs hw ls hl => ?_)
  obtain ⟨hx, hb, hr, hml, hown, hts, hlocks, hK, hA⟩ := id C0
  have C0 : gX p s m [.ref h0].toArray meth c cX8_never 3 (some .int) RX8 g A := C0
  have hl : lv_has ls 3 [(0, .ref h0)] := hl
  refine lv_iconst (v := 0) hx hb dX8_never_0 (by decide) ?_
  refine lv_istore_n (lv' := [(1, .int (0 : Int32)), (0, .ref h0)]) hx hb dX8_never_1 rfl hl (by decide) rfl (fun ls hl => ?_)
  refine lv_iconst (v := 0) hx hb dX8_never_2 (by decide) ?_
  refine lv_istore_n (lv' := [(2, .int (0 : Int32)), (1, .int (0 : Int32)), (0, .ref h0)]) hx hb dX8_never_3 rfl hl (by decide) rfl (fun ls hl => ?_)
  exact l_x_never_N4 C0  1000 _ _ _ _ _ _ _ _ _ hm _ _ _ hw (lv_sub hl [2, 1, 0] rfl)

-- WallHands.was(II)I
abbrev W_x_was (g : gG) (h0 h1 h2 h3 h4 h5 h6 h7 h8 h9 h10 h11 h12 h13 h14 h15 h16 h17 h18 h19 h20 h21 h22 h23 h24 h25 h26 h27 h28 : Nat) (v_toldIsStale : Int32) (v_latestFinding : Int32) (v_wall_courses : Int32) (v_wall_columns : Int32) (v_wall_fault : Int32) (v_wall_jump : Int32) (v_wall_stones : Nat → Int64) (v_hands_told : Int32) (v_hands_fault : Int32) (v_hands_mood : Nat → Int32) (v_hands_strong : Nat → Int32) (v_frosts_told : Int32) (v_frosts_year : Nat → Int32) (v_frosts_force : Nat → Int32) (v_gappings_told : Int32) (v_gappings_year : Nat → Int32) (v_gappings_column : Nat → Int32) (v_gappings_hand : Nat → Int32) (v_sights_told : Int32) (v_sights_year : Nat → Int32) (v_sights_place : Nat → Int32) (v_sights_setter : Nat → Int32) (v_trial_all : Int64) (v_trial_losers : Int32) (v_trial_now : Nat → Int64) (v_trial_stones : Nat → Int64) (v_trial_standing : Nat → Int64) (v_trial_open : Nat → Int32) (v_trial_fallen : Nat → Int32) : va_W := [(h0, .inr (8, [.ref h23, .ref h24, .ref h1, .ref h3, .ref h6, .ref h25, .ref h9, .ref h13, .ref h26, .ref h27, .ref h17, .ref h28, .int v_toldIsStale, .int v_latestFinding])), (h1, .inr (6, [.ref h2, .int v_wall_courses, .int v_wall_columns, .int v_wall_fault, .int v_wall_jump])), (h2, .inl (gJ g, 8, .inr (.inl v_wall_stones))), (h3, .inr (2, [.ref h4, .ref h5, .int v_hands_told, .int v_hands_fault])), (h4, .inl (gI g, 8, .inl v_hands_mood)), (h5, .inl (gI g, 8, .inl v_hands_strong)), (h6, .inr (0, [.ref h7, .ref h8, .int v_frosts_told])), (h7, .inl (gI g, 6, .inl v_frosts_year)), (h8, .inl (gI g, 6, .inl v_frosts_force)), (h9, .inr (1, [.ref h10, .ref h11, .ref h12, .int v_gappings_told])), (h10, .inl (gI g, 7, .inl v_gappings_year)), (h11, .inl (gI g, 7, .inl v_gappings_column)), (h12, .inl (gI g, 7, .inl v_gappings_hand)), (h13, .inr (4, [.ref h14, .ref h15, .ref h16, .int v_sights_told])), (h14, .inl (gI g, 8, .inl v_sights_year)), (h15, .inl (gI g, 8, .inl v_sights_place)), (h16, .inl (gI g, 8, .inl v_sights_setter)), (h17, .inr (7, [.ref h1, .ref h3, .ref h9, .ref h18, .long v_trial_all, .ref h19, .ref h20, .ref h21, .ref h22, .int v_trial_losers])), (h18, .inl (gJ g, 8, .inr (.inl v_trial_now))), (h19, .inl (gJ g, 160, .inr (.inl v_trial_stones))), (h20, .inl (gJ g, 20, .inr (.inl v_trial_standing))), (h21, .inl (gI g, 20, .inl v_trial_open)), (h22, .inl (gI g, 20, .inl v_trial_fallen))]

abbrev rm_x_was : Room := { frames := 4, cells := 0, slots := 0, locals := 112 }

set_option maxHeartbeats 1000000 in
set_option maxRecDepth 100000 in
theorem n_x_was_N78_0 {p : Program} {l : Launch} {e : Env} {s : State} {m : MethodId} {args : Array Value} {below : List Frame} {meth : Method} {c : Code} {A : Nat → Prop} {g : gG} {h0 h1 h2 h3 h4 h5 h6 h7 h8 h9 h10 h11 h12 h13 h14 h15 h16 h17 h18 h19 h20 h21 h22 h23 h24 h25 h26 h27 h28 : Nat} {v_toldIsStale : Int32} {v_latestFinding : Int32} {v_wall_courses : Int32} {v_wall_columns : Int32} {v_wall_fault : Int32} {v_wall_jump : Int32} {v_wall_stones : Nat → Int64} {v_hands_told : Int32} {v_hands_fault : Int32} {v_frosts_told : Int32} {v_frosts_year : Nat → Int32} {v_frosts_force : Nat → Int32} {v_gappings_told : Int32} {v_gappings_year : Nat → Int32} {v_gappings_column : Nat → Int32} {v_gappings_hand : Nat → Int32} {v_sights_told : Int32} {v_sights_year : Nat → Int32} {v_sights_place : Nat → Int32} {v_sights_setter : Nat → Int32} {k78 : (Nat → Int32) → (Nat → Int32) → Int64 → Int32 → (Nat → Int64) → (Nat → Int64) → (Nat → Int64) → (Nat → Int32) → (Nat → Int32) → Int32 → Int32 → Int32 → Int32 → Int32 → Option (Int32 × (Nat → Int32) × (Nat → Int32) × Int64 × Int32 × (Nat → Int64) × (Nat → Int64) × (Nat → Int64) × (Nat → Int32) × (Nat → Int32))} {r : (Int32 × (Nat → Int32) × (Nat → Int32) × Int64 × Int32 × (Nat → Int64) × (Nat → Int64) × (Nat → Int64) × (Nat → Int32) × (Nat → Int32))} (C0 : gX p s m args meth c cX8_was 9 (some .int) RX8 g A) (hk78 : ∀ (v_hands_mood : Nat → Int32) (v_hands_strong : Nat → Int32) (v_trial_all : Int64) (v_trial_losers : Int32) (v_trial_now : Nat → Int64) (v_trial_stones : Nat → Int64) (v_trial_standing : Nat → Int64) (v_trial_open : Nat → Int32) (v_trial_fallen : Nat → Int32) (x1 : Int32) (x5 : Int32) (x6 : Int32) (x7 : Int32) (x8 : Int32), k78 v_hands_mood v_hands_strong v_trial_all v_trial_losers v_trial_now v_trial_stones v_trial_standing v_trial_open v_trial_fallen x1 x5 x6 x7 x8 = some r → ∀ (H : Heap) (locs : List Loc) (ls : Array Slot), gW g A s (W_x_was g h0 h1 h2 h3 h4 h5 h6 h7 h8 h9 h10 h11 h12 h13 h14 h15 h16 h17 h18 h19 h20 h21 h22 h23 h24 h25 h26 h27 h28 v_toldIsStale v_latestFinding v_wall_courses v_wall_columns v_wall_fault v_wall_jump v_wall_stones v_hands_told v_hands_fault v_hands_mood v_hands_strong v_frosts_told v_frosts_year v_frosts_force v_gappings_told v_gappings_year v_gappings_column v_gappings_hand v_sights_told v_sights_year v_sights_place v_sights_setter v_trial_all v_trial_losers v_trial_now v_trial_stones v_trial_standing v_trial_open v_trial_fallen) H locs → lv_has ls 9 [(0, .ref h0), (1, .int x1), (3, .ref h4), (5, .int x5), (6, .int x6), (7, .int x7), (8, .int x8)] → W p l e rm_x_was s m args below meth c H locs 0 0 (gQi below args s A g r.1 (W_x_was g h0 h1 h2 h3 h4 h5 h6 h7 h8 h9 h10 h11 h12 h13 h14 h15 h16 h17 h18 h19 h20 h21 h22 h23 h24 h25 h26 h27 h28 v_toldIsStale v_latestFinding v_wall_courses v_wall_columns v_wall_fault v_wall_jump v_wall_stones v_hands_told v_hands_fault r.2.1 r.2.2.1 v_frosts_told v_frosts_year v_frosts_force v_gappings_told v_gappings_year v_gappings_column v_gappings_hand v_sights_told v_sights_year v_sights_place v_sights_setter r.2.2.2.1 r.2.2.2.2.1 r.2.2.2.2.2.1 r.2.2.2.2.2.2.1 r.2.2.2.2.2.2.2.1 r.2.2.2.2.2.2.2.2.1 r.2.2.2.2.2.2.2.2.2)) (F0 m 78 ls [])) : ∀ (v_hands_mood : Nat → Int32) (v_hands_strong : Nat → Int32) (v_trial_all : Int64) (v_trial_losers : Int32) (v_trial_now : Nat → Int64) (v_trial_stones : Nat → Int64) (v_trial_standing : Nat → Int64) (v_trial_open : Nat → Int32) (v_trial_fallen : Nat → Int32) (x1 : Int32) (x5 : Int32) (x6 : Int32) (x7 : Int32) (x8 : Int32), f_x_was_N78_0 v_wall_courses v_wall_columns v_wall_jump v_wall_stones v_hands_told v_frosts_told v_frosts_year v_frosts_force v_gappings_told v_gappings_year v_gappings_column v_gappings_hand v_sights_told v_sights_year v_sights_place v_sights_setter k78 v_hands_mood v_hands_strong v_trial_all v_trial_losers v_trial_now v_trial_stones v_trial_standing v_trial_open v_trial_fallen x1 x5 x6 x7 x8 = some r → ∀ (H : Heap) (locs : List Loc) (ls : Array Slot), gW g A s (W_x_was g h0 h1 h2 h3 h4 h5 h6 h7 h8 h9 h10 h11 h12 h13 h14 h15 h16 h17 h18 h19 h20 h21 h22 h23 h24 h25 h26 h27 h28 v_toldIsStale v_latestFinding v_wall_courses v_wall_columns v_wall_fault v_wall_jump v_wall_stones v_hands_told v_hands_fault v_hands_mood v_hands_strong v_frosts_told v_frosts_year v_frosts_force v_gappings_told v_gappings_year v_gappings_column v_gappings_hand v_sights_told v_sights_year v_sights_place v_sights_setter v_trial_all v_trial_losers v_trial_now v_trial_stones v_trial_standing v_trial_open v_trial_fallen) H locs → lv_has ls 9 [(0, .ref h0), (1, .int x1), (3, .ref h4), (5, .int x5), (6, .int x6), (7, .int x7), (8, .int x8)] → W p l e rm_x_was s m args below meth c H locs 0 0 (gQi below args s A g r.1 (W_x_was g h0 h1 h2 h3 h4 h5 h6 h7 h8 h9 h10 h11 h12 h13 h14 h15 h16 h17 h18 h19 h20 h21 h22 h23 h24 h25 h26 h27 h28 v_toldIsStale v_latestFinding v_wall_courses v_wall_columns v_wall_fault v_wall_jump v_wall_stones v_hands_told v_hands_fault r.2.1 r.2.2.1 v_frosts_told v_frosts_year v_frosts_force v_gappings_told v_gappings_year v_gappings_column v_gappings_hand v_sights_told v_sights_year v_sights_place v_sights_setter r.2.2.2.1 r.2.2.2.2.1 r.2.2.2.2.2.1 r.2.2.2.2.2.2.1 r.2.2.2.2.2.2.2.1 r.2.2.2.2.2.2.2.2.1 r.2.2.2.2.2.2.2.2.2)) (F0 m 78 ls []) := by
  intro v_hands_mood v_hands_strong v_trial_all v_trial_losers v_trial_now v_trial_stones v_trial_standing v_trial_open v_trial_fallen x1 x5 x6 x7 x8 hm H locs ls hw hl
  unfold f_x_was_N78_0 at hm
  obtain ⟨hx, hb, hr, hml, hown, hts, hlocks, hK, hA⟩ := id C0
  refine lv_iload hx hb dX8_was_78 (lv_at hl 6 rfl) ?_
  refine lv_iload hx hb dX8_was_80 (lv_at hl 3 rfl) ?_
  refine lv_icmp_gt (tgt := 131) hx hb dX8_was_82 (by decide) (fun hc => ?_) (fun hc => ?_)
  · have hm := ipos hc hm
    refine lv_aload_n hx hb dX8_was_131 rfl (lv_at hl 2 rfl) ?_
    refine lv_iload_n hx hb dX8_was_132 rfl (lv_at hl 1 rfl) ?_
    refine lv_iload hx hb dX8_was_133 (lv_at hl 4 rfl) ?_
    obtain ⟨hin, hm⟩ := gdE hm
    have hin := inbE hin
    refine gAstI (ws' := (W_x_was g h0 h1 h2 h3 h4 h5 h6 h7 h8 h9 h10 h11 h12 h13 h14 h15 h16 h17 h18 h19 h20 h21 h22 h23 h24 h25 h26 h27 h28 v_toldIsStale v_latestFinding v_wall_courses v_wall_columns v_wall_fault v_wall_jump v_wall_stones v_hands_told v_hands_fault (upd v_hands_mood x1.toNatClampNeg x6) v_hands_strong v_frosts_told v_frosts_year v_frosts_force v_gappings_told v_gappings_year v_gappings_column v_gappings_hand v_sights_told v_sights_year v_sights_place v_sights_setter v_trial_all v_trial_losers v_trial_now v_trial_stones v_trial_standing v_trial_open v_trial_fallen)) C0 hw 4 rfl hin rfl dX8_was_135 (fun H locs hw => ?_)
    refine lv_iload hx hb dX8_was_136 (lv_at hl 5 rfl) ?_
    have hm := Option.some.inj hm
    subst hm
    exact gRetI C0 hw dX8_was_138
  · have hm := ineg hc hm
    refine lv_aload_n hx hb dX8_was_85 rfl (lv_at hl 2 rfl) ?_
    refine lv_iload_n hx hb dX8_was_86 rfl (lv_at hl 1 rfl) ?_
    refine lv_iload hx hb dX8_was_87 (lv_at hl 6 rfl) ?_
    obtain ⟨hin, hm⟩ := gdE hm
    have hin := inbE hin
    refine gAstI (ws' := (W_x_was g h0 h1 h2 h3 h4 h5 h6 h7 h8 h9 h10 h11 h12 h13 h14 h15 h16 h17 h18 h19 h20 h21 h22 h23 h24 h25 h26 h27 h28 v_toldIsStale v_latestFinding v_wall_courses v_wall_columns v_wall_fault v_wall_jump v_wall_stones v_hands_told v_hands_fault (upd v_hands_mood x1.toNatClampNeg x8) v_hands_strong v_frosts_told v_frosts_year v_frosts_force v_gappings_told v_gappings_year v_gappings_column v_gappings_hand v_sights_told v_sights_year v_sights_place v_sights_setter v_trial_all v_trial_losers v_trial_now v_trial_stones v_trial_standing v_trial_open v_trial_fallen)) C0 hw 4 rfl hin rfl dX8_was_89 (fun H locs hw => ?_)
    refine lv_aload_n hx hb dX8_was_90 rfl (lv_at hl 0 rfl) ?_
    refine gGet C0 hw flX8_74 0 rfl rfl dX8_was_91 ?_
    refine lv_aload_n hx hb dX8_was_94 rfl (lv_at hl 0 rfl) ?_
    refine gGet C0 hw flX8_38 0 rfl rfl dX8_was_95 ?_
    refine lv_iconst (v := 0) hx hb dX8_was_98 (by decide) ?_
    obtain ⟨o99, ho99, hm⟩ := bindE hm
    refine gCallv (ws' := (W_x_was g h0 h1 h2 h3 h4 h5 h6 h7 h8 h9 h10 h11 h12 h13 h14 h15 h16 h17 h18 h19 h20 h21 h22 h23 h24 h25 h26 h27 h28 v_toldIsStale v_latestFinding v_wall_courses v_wall_columns v_wall_fault v_wall_jump v_wall_stones v_hands_told v_hands_fault (upd v_hands_mood x1.toNatClampNeg x8) v_hands_strong v_frosts_told v_frosts_year v_frosts_force v_gappings_told v_gappings_year v_gappings_column v_gappings_hand v_sights_told v_sights_year v_sights_place v_sights_setter o99.1 o99.2.1 o99.2.2.1 o99.2.2.2.1 o99.2.2.2.2.1 o99.2.2.2.2.2.1 o99.2.2.2.2.2.2)) C0 hw (gRunV (As := [.ref h6, .int (0 : Int32)]) (rest := []) C0 hw lkX8_205 (c_ys_run l g H.size h17 h1 h2 h3 h4 h5 h9 h10 h11 h12 h18 h19 h20 h21 h22 h6 h7 h8 v_trial_all v_trial_losers v_wall_courses v_wall_columns v_wall_fault v_wall_jump v_wall_stones v_hands_told v_hands_fault (upd v_hands_mood x1.toNatClampNeg x8) v_hands_strong v_gappings_told v_gappings_year v_gappings_column v_gappings_hand v_trial_now v_trial_stones v_trial_standing v_trial_open v_trial_fallen v_frosts_told v_frosts_year v_frosts_force (0 : Int32) o99 ho99) ⟨rfl, rfl⟩ ⟨Nat.le_of_ble_eq_true rfl, Nat.le_of_ble_eq_true rfl⟩ [17, 1, 2, 3, 4, 5, 9, 10, 11, 12, 18, 19, 20, 21, 22, 6, 7, 8] (by decide) rfl 17 rfl rfl rfl hl.1 rfl (Nat.le_of_ble_eq_true rfl) dX8_was_99) [17, 1, 2, 3, 4, 5, 9, 10, 11, 12, 18, 19, 20, 21, 22, 6, 7, 8] [0, 13, 14, 15, 16] rfl rfl ⟨rfl, rfl, rfl, rfl, rfl, trivial⟩ [h0, h1, h2, h3, h4, h5, h6, h7, h8, h9, h10, h11, h12, h13, h14, h15, h16, h17, h18, h19, h20, h21, h22] rfl rfl 23 rfl (by decide +kernel) (fun H locs hw => ?_)
    refine lv_aload_n hx hb dX8_was_102 rfl (lv_at hl 0 rfl) ?_
    refine gGet C0 hw flX8_55 0 rfl rfl dX8_was_103 ?_
    refine lv_aload_n hx hb dX8_was_106 rfl (lv_at hl 0 rfl) ?_
    refine gGet C0 hw flX8_74 0 rfl rfl dX8_was_107 ?_
    obtain ⟨o110, ho110, hm⟩ := bindE hm
    refine gCalli (ws' := (W_x_was g h0 h1 h2 h3 h4 h5 h6 h7 h8 h9 h10 h11 h12 h13 h14 h15 h16 h17 h18 h19 h20 h21 h22 h23 h24 h25 h26 h27 h28 v_toldIsStale v_latestFinding v_wall_courses v_wall_columns v_wall_fault v_wall_jump v_wall_stones v_hands_told v_hands_fault (upd v_hands_mood x1.toNatClampNeg x8) v_hands_strong v_frosts_told v_frosts_year v_frosts_force v_gappings_told v_gappings_year v_gappings_column v_gappings_hand v_sights_told v_sights_year v_sights_place v_sights_setter o99.1 o99.2.1 o99.2.2.1 o99.2.2.2.1 o99.2.2.2.2.1 o99.2.2.2.2.2.1 o99.2.2.2.2.2.2)) C0 hw (gRunV (As := [.ref h17]) (rest := []) C0 hw lkX8_236 (c_sg_comeOutIn l g H.size h13 h14 h15 h16 h17 h19 h1 h3 h9 h18 h20 h21 h22 v_sights_told v_sights_year v_sights_place v_sights_setter o99.1 o99.2.1 o99.2.2.2.1 o110 ho110) ⟨rfl, rfl⟩ ⟨Nat.le_of_ble_eq_true rfl, Nat.le_of_ble_eq_true rfl⟩ [13, 14, 15, 16, 17, 19] (by decide) rfl 13 rfl rfl rfl hl.1 rfl (Nat.le_of_ble_eq_true rfl) dX8_was_110) [13, 14, 15, 16, 17, 19] [0, 1, 2, 3, 4, 5, 6, 7, 8, 9, 10, 11, 12, 18, 20, 21, 22] rfl rfl ⟨rfl, rfl, rfl, rfl, rfl, rfl, rfl, rfl, rfl, rfl, rfl, rfl, rfl, rfl, rfl, rfl, rfl, trivial⟩ [h0, h1, h2, h3, h4, h5, h6, h7, h8, h9, h10, h11, h12, h13, h14, h15, h16, h17, h18, h19, h20, h21, h22] rfl rfl 23 rfl (by decide +kernel) (fun H locs hw => ?_)
    refine lv_if_eq (tgt := 125) hx hb dX8_was_113 (by decide) (fun hc => ?_) (fun hc => ?_)
    · have hm := ipos hc hm
      refine lv_iinc (v := x8 + (1 : Int32)) (lv' := [(8, .int (x8 + (1 : Int32))), (0, .ref h0), (1, .int x1), (3, .ref h4), (5, .int x5), (6, .int x6), (7, .int x7)]) hx hb dX8_was_125 hl (k := 6) rfl rfl (by decide) rfl (fun ls hl => ?_)
      refine lv_goto (tgt := 78) hx hb dX8_was_128 (by decide) ?_
      exact hk78 _ _ _ _ _ _ _ _ _ _ _ _ _ _ hm _ _ _ hw (lv_sub hl [1, 2, 3, 4, 5, 6, 0] rfl)
    · have hm := ineg hc hm
      refine lv_iload hx hb dX8_was_116 (lv_at hl 5 rfl) ?_
      refine lv_iconst (v := 1) hx hb dX8_was_118 (by decide) ?_
      refine lv_iload hx hb dX8_was_119 (lv_at hl 6 rfl) ?_
      refine lv_ishl hx hb dX8_was_121 ?_
      refine lv_ior hx hb dX8_was_122 ?_
      refine lv_istore (lv' := [(7, .int (x7 ||| ((1 : Int32) <<< (x8 &&& 31)))), (0, .ref h0), (1, .int x1), (3, .ref h4), (5, .int x5), (6, .int x6), (8, .int x8)]) hx hb dX8_was_123 hl (by decide) rfl (fun ls hl => ?_)
      refine lv_iinc (v := x8 + (1 : Int32)) (lv' := [(8, .int (x8 + (1 : Int32))), (7, .int (x7 ||| ((1 : Int32) <<< (x8 &&& 31)))), (0, .ref h0), (1, .int x1), (3, .ref h4), (5, .int x5), (6, .int x6)]) hx hb dX8_was_125 hl (k := 6) rfl rfl (by decide) rfl (fun ls hl => ?_)
      refine lv_goto (tgt := 78) hx hb dX8_was_128 (by decide) ?_
      exact hk78 _ _ _ _ _ _ _ _ _ _ _ _ _ _ hm _ _ _ hw (lv_sub hl [2, 3, 4, 5, 6, 1, 0] rfl)
set_option maxHeartbeats 1000000 in
set_option maxRecDepth 100000 in
theorem l_x_was_N78_0 {p : Program} {l : Launch} {e : Env} {s : State} {m : MethodId} {args : Array Value} {below : List Frame} {meth : Method} {c : Code} {A : Nat → Prop} {g : gG} {h0 h1 h2 h3 h4 h5 h6 h7 h8 h9 h10 h11 h12 h13 h14 h15 h16 h17 h18 h19 h20 h21 h22 h23 h24 h25 h26 h27 h28 : Nat} {v_toldIsStale : Int32} {v_latestFinding : Int32} {v_wall_courses : Int32} {v_wall_columns : Int32} {v_wall_fault : Int32} {v_wall_jump : Int32} {v_wall_stones : Nat → Int64} {v_hands_told : Int32} {v_hands_fault : Int32} {v_frosts_told : Int32} {v_frosts_year : Nat → Int32} {v_frosts_force : Nat → Int32} {v_gappings_told : Int32} {v_gappings_year : Nat → Int32} {v_gappings_column : Nat → Int32} {v_gappings_hand : Nat → Int32} {v_sights_told : Int32} {v_sights_year : Nat → Int32} {v_sights_place : Nat → Int32} {v_sights_setter : Nat → Int32} {r : (Int32 × (Nat → Int32) × (Nat → Int32) × Int64 × Int32 × (Nat → Int64) × (Nat → Int64) × (Nat → Int64) × (Nat → Int32) × (Nat → Int32))} (C0 : gX p s m args meth c cX8_was 9 (some .int) RX8 g A) : ∀ n : Nat, ∀ (v_hands_mood : Nat → Int32) (v_hands_strong : Nat → Int32) (v_trial_all : Int64) (v_trial_losers : Int32) (v_trial_now : Nat → Int64) (v_trial_stones : Nat → Int64) (v_trial_standing : Nat → Int64) (v_trial_open : Nat → Int32) (v_trial_fallen : Nat → Int32) (x1 : Int32) (x5 : Int32) (x6 : Int32) (x7 : Int32) (x8 : Int32), iter (fun _ _ _ _ _ _ _ _ _ _ _ _ _ _ => none) (f_x_was_N78_0 v_wall_courses v_wall_columns v_wall_jump v_wall_stones v_hands_told v_frosts_told v_frosts_year v_frosts_force v_gappings_told v_gappings_year v_gappings_column v_gappings_hand v_sights_told v_sights_year v_sights_place v_sights_setter) n v_hands_mood v_hands_strong v_trial_all v_trial_losers v_trial_now v_trial_stones v_trial_standing v_trial_open v_trial_fallen x1 x5 x6 x7 x8 = some r → ∀ (H : Heap) (locs : List Loc) (ls : Array Slot), gW g A s (W_x_was g h0 h1 h2 h3 h4 h5 h6 h7 h8 h9 h10 h11 h12 h13 h14 h15 h16 h17 h18 h19 h20 h21 h22 h23 h24 h25 h26 h27 h28 v_toldIsStale v_latestFinding v_wall_courses v_wall_columns v_wall_fault v_wall_jump v_wall_stones v_hands_told v_hands_fault v_hands_mood v_hands_strong v_frosts_told v_frosts_year v_frosts_force v_gappings_told v_gappings_year v_gappings_column v_gappings_hand v_sights_told v_sights_year v_sights_place v_sights_setter v_trial_all v_trial_losers v_trial_now v_trial_stones v_trial_standing v_trial_open v_trial_fallen) H locs → lv_has ls 9 [(0, .ref h0), (1, .int x1), (3, .ref h4), (5, .int x5), (6, .int x6), (7, .int x7), (8, .int x8)] → W p l e rm_x_was s m args below meth c H locs 0 0 (gQi below args s A g r.1 (W_x_was g h0 h1 h2 h3 h4 h5 h6 h7 h8 h9 h10 h11 h12 h13 h14 h15 h16 h17 h18 h19 h20 h21 h22 h23 h24 h25 h26 h27 h28 v_toldIsStale v_latestFinding v_wall_courses v_wall_columns v_wall_fault v_wall_jump v_wall_stones v_hands_told v_hands_fault r.2.1 r.2.2.1 v_frosts_told v_frosts_year v_frosts_force v_gappings_told v_gappings_year v_gappings_column v_gappings_hand v_sights_told v_sights_year v_sights_place v_sights_setter r.2.2.2.1 r.2.2.2.2.1 r.2.2.2.2.2.1 r.2.2.2.2.2.2.1 r.2.2.2.2.2.2.2.1 r.2.2.2.2.2.2.2.2.1 r.2.2.2.2.2.2.2.2.2)) (F0 m 78 ls []) := by
  intro n
  induction n with
  | zero =>
    intro v_hands_mood v_hands_strong v_trial_all v_trial_losers v_trial_now v_trial_stones v_trial_standing v_trial_open v_trial_fallen x1 x5 x6 x7 x8 hm
    cases hm
  | succ n ih =>
    exact n_x_was_N78_0 C0  ih
set_option maxHeartbeats 1000000 in
set_option maxRecDepth 100000 in
theorem n_x_was_N64_0 {p : Program} {l : Launch} {e : Env} {s : State} {m : MethodId} {args : Array Value} {below : List Frame} {meth : Method} {c : Code} {A : Nat → Prop} {g : gG} {h0 h1 h2 h3 h4 h5 h6 h7 h8 h9 h10 h11 h12 h13 h14 h15 h16 h17 h18 h19 h20 h21 h22 h23 h24 h25 h26 h27 h28 : Nat} {v_toldIsStale : Int32} {v_latestFinding : Int32} {v_wall_courses : Int32} {v_wall_columns : Int32} {v_wall_fault : Int32} {v_wall_jump : Int32} {v_wall_stones : Nat → Int64} {v_hands_told : Int32} {v_hands_fault : Int32} {v_frosts_told : Int32} {v_frosts_year : Nat → Int32} {v_frosts_force : Nat → Int32} {v_gappings_told : Int32} {v_gappings_year : Nat → Int32} {v_gappings_column : Nat → Int32} {v_gappings_hand : Nat → Int32} {v_sights_told : Int32} {v_sights_year : Nat → Int32} {v_sights_place : Nat → Int32} {v_sights_setter : Nat → Int32} {r : (Int32 × (Nat → Int32) × (Nat → Int32) × Int64 × Int32 × (Nat → Int64) × (Nat → Int64) × (Nat → Int64) × (Nat → Int32) × (Nat → Int32))} (C0 : gX p s m args meth c cX8_was 9 (some .int) RX8 g A) : ∀ (v_hands_mood : Nat → Int32) (v_hands_strong : Nat → Int32) (v_trial_all : Int64) (v_trial_losers : Int32) (v_trial_now : Nat → Int64) (v_trial_stones : Nat → Int64) (v_trial_standing : Nat → Int64) (v_trial_open : Nat → Int32) (v_trial_fallen : Nat → Int32) (x1 : Int32) (x4 : Int32) (y0 : Int32), f_x_was_N64_0 v_wall_courses v_wall_columns v_wall_jump v_wall_stones v_hands_told v_frosts_told v_frosts_year v_frosts_force v_gappings_told v_gappings_year v_gappings_column v_gappings_hand v_sights_told v_sights_year v_sights_place v_sights_setter v_hands_mood v_hands_strong v_trial_all v_trial_losers v_trial_now v_trial_stones v_trial_standing v_trial_open v_trial_fallen x1 x4 y0 = some r → ∀ (H : Heap) (locs : List Loc) (ls : Array Slot), gW g A s (W_x_was g h0 h1 h2 h3 h4 h5 h6 h7 h8 h9 h10 h11 h12 h13 h14 h15 h16 h17 h18 h19 h20 h21 h22 h23 h24 h25 h26 h27 h28 v_toldIsStale v_latestFinding v_wall_courses v_wall_columns v_wall_fault v_wall_jump v_wall_stones v_hands_told v_hands_fault v_hands_mood v_hands_strong v_frosts_told v_frosts_year v_frosts_force v_gappings_told v_gappings_year v_gappings_column v_gappings_hand v_sights_told v_sights_year v_sights_place v_sights_setter v_trial_all v_trial_losers v_trial_now v_trial_stones v_trial_standing v_trial_open v_trial_fallen) H locs → lv_has ls 9 [(0, .ref h0), (1, .int x1), (3, .ref h4), (4, .int x4)] → W p l e rm_x_was s m args below meth c H locs 0 0 (gQi below args s A g r.1 (W_x_was g h0 h1 h2 h3 h4 h5 h6 h7 h8 h9 h10 h11 h12 h13 h14 h15 h16 h17 h18 h19 h20 h21 h22 h23 h24 h25 h26 h27 h28 v_toldIsStale v_latestFinding v_wall_courses v_wall_columns v_wall_fault v_wall_jump v_wall_stones v_hands_told v_hands_fault r.2.1 r.2.2.1 v_frosts_told v_frosts_year v_frosts_force v_gappings_told v_gappings_year v_gappings_column v_gappings_hand v_sights_told v_sights_year v_sights_place v_sights_setter r.2.2.2.1 r.2.2.2.2.1 r.2.2.2.2.2.1 r.2.2.2.2.2.2.1 r.2.2.2.2.2.2.2.1 r.2.2.2.2.2.2.2.2.1 r.2.2.2.2.2.2.2.2.2)) (F0 m 64 ls [.int y0]) := by
  intro v_hands_mood v_hands_strong v_trial_all v_trial_losers v_trial_now v_trial_stones v_trial_standing v_trial_open v_trial_fallen x1 x4 y0 hm H locs ls hw hl
  unfold f_x_was_N64_0 at hm
  obtain ⟨hx, hb, hr, hml, hown, hts, hlocks, hK, hA⟩ := id C0
  refine lv_istore (lv' := [(5, .int y0), (0, .ref h0), (1, .int x1), (3, .ref h4), (4, .int x4)]) hx hb dX8_was_64 hl (by decide) rfl (fun ls hl => ?_)
  refine lv_aload_n hx hb dX8_was_66 rfl (lv_at hl 3 rfl) ?_
  refine lv_iload_n hx hb dX8_was_67 rfl (lv_at hl 2 rfl) ?_
  obtain ⟨hin, hm⟩ := gdE hm
  have hin := inbE hin
  refine gAldI C0 hw 4 rfl hin dX8_was_68 ?_
  refine lv_istore (lv' := [(6, .int (v_hands_mood x1.toNatClampNeg)), (5, .int y0), (0, .ref h0), (1, .int x1), (3, .ref h4), (4, .int x4)]) hx hb dX8_was_69 hl (by decide) rfl (fun ls hl => ?_)
  refine lv_iconst (v := 0) hx hb dX8_was_71 (by decide) ?_
  refine lv_istore (lv' := [(7, .int (0 : Int32)), (6, .int (v_hands_mood x1.toNatClampNeg)), (5, .int y0), (0, .ref h0), (1, .int x1), (3, .ref h4), (4, .int x4)]) hx hb dX8_was_72 hl (by decide) rfl (fun ls hl => ?_)
  refine lv_iload hx hb dX8_was_74 (lv_at hl 6 rfl) ?_
  refine lv_istore (lv' := [(8, .int x4), (7, .int (0 : Int32)), (6, .int (v_hands_mood x1.toNatClampNeg)), (5, .int y0), (0, .ref h0), (1, .int x1), (3, .ref h4), (4, .int x4)]) hx hb dX8_was_76 hl (by decide) rfl (fun ls hl => ?_)
  exact l_x_was_N78_0 C0  1000 _ _ _ _ _ _ _ _ _ _ _ _ _ _ hm _ _ _ hw (lv_sub hl [4, 5, 6, 3, 2, 1, 0] rfl)
set_option maxHeartbeats 1000000 in
set_option maxRecDepth 100000 in
theorem n_x_was_N52_0 {p : Program} {l : Launch} {e : Env} {s : State} {m : MethodId} {args : Array Value} {below : List Frame} {meth : Method} {c : Code} {A : Nat → Prop} {g : gG} {h0 h1 h2 h3 h4 h5 h6 h7 h8 h9 h10 h11 h12 h13 h14 h15 h16 h17 h18 h19 h20 h21 h22 h23 h24 h25 h26 h27 h28 : Nat} {v_toldIsStale : Int32} {v_latestFinding : Int32} {v_wall_courses : Int32} {v_wall_columns : Int32} {v_wall_fault : Int32} {v_wall_jump : Int32} {v_wall_stones : Nat → Int64} {v_hands_told : Int32} {v_hands_fault : Int32} {v_frosts_told : Int32} {v_frosts_year : Nat → Int32} {v_frosts_force : Nat → Int32} {v_gappings_told : Int32} {v_gappings_year : Nat → Int32} {v_gappings_column : Nat → Int32} {v_gappings_hand : Nat → Int32} {v_sights_told : Int32} {v_sights_year : Nat → Int32} {v_sights_place : Nat → Int32} {v_sights_setter : Nat → Int32} {r : (Int32 × (Nat → Int32) × (Nat → Int32) × Int64 × Int32 × (Nat → Int64) × (Nat → Int64) × (Nat → Int64) × (Nat → Int32) × (Nat → Int32))} (C0 : gX p s m args meth c cX8_was 9 (some .int) RX8 g A) : ∀ (v_hands_mood : Nat → Int32) (v_hands_strong : Nat → Int32) (v_trial_all : Int64) (v_trial_losers : Int32) (v_trial_now : Nat → Int64) (v_trial_stones : Nat → Int64) (v_trial_standing : Nat → Int64) (v_trial_open : Nat → Int32) (v_trial_fallen : Nat → Int32) (x1 : Int32) (x2 : Int32) (y0 : Int32), f_x_was_N52_0 v_wall_courses v_wall_columns v_wall_jump v_wall_stones v_hands_told v_frosts_told v_frosts_year v_frosts_force v_gappings_told v_gappings_year v_gappings_column v_gappings_hand v_sights_told v_sights_year v_sights_place v_sights_setter v_hands_mood v_hands_strong v_trial_all v_trial_losers v_trial_now v_trial_stones v_trial_standing v_trial_open v_trial_fallen x1 x2 y0 = some r → ∀ (H : Heap) (locs : List Loc) (ls : Array Slot), gW g A s (W_x_was g h0 h1 h2 h3 h4 h5 h6 h7 h8 h9 h10 h11 h12 h13 h14 h15 h16 h17 h18 h19 h20 h21 h22 h23 h24 h25 h26 h27 h28 v_toldIsStale v_latestFinding v_wall_courses v_wall_columns v_wall_fault v_wall_jump v_wall_stones v_hands_told v_hands_fault v_hands_mood v_hands_strong v_frosts_told v_frosts_year v_frosts_force v_gappings_told v_gappings_year v_gappings_column v_gappings_hand v_sights_told v_sights_year v_sights_place v_sights_setter v_trial_all v_trial_losers v_trial_now v_trial_stones v_trial_standing v_trial_open v_trial_fallen) H locs → lv_has ls 9 [(0, .ref h0), (1, .int x1), (2, .int x2), (3, .ref h4)] → W p l e rm_x_was s m args below meth c H locs 0 0 (gQi below args s A g r.1 (W_x_was g h0 h1 h2 h3 h4 h5 h6 h7 h8 h9 h10 h11 h12 h13 h14 h15 h16 h17 h18 h19 h20 h21 h22 h23 h24 h25 h26 h27 h28 v_toldIsStale v_latestFinding v_wall_courses v_wall_columns v_wall_fault v_wall_jump v_wall_stones v_hands_told v_hands_fault r.2.1 r.2.2.1 v_frosts_told v_frosts_year v_frosts_force v_gappings_told v_gappings_year v_gappings_column v_gappings_hand v_sights_told v_sights_year v_sights_place v_sights_setter r.2.2.2.1 r.2.2.2.2.1 r.2.2.2.2.2.1 r.2.2.2.2.2.2.1 r.2.2.2.2.2.2.2.1 r.2.2.2.2.2.2.2.2.1 r.2.2.2.2.2.2.2.2.2)) (F0 m 52 ls [.int y0]) := by
  intro v_hands_mood v_hands_strong v_trial_all v_trial_losers v_trial_now v_trial_stones v_trial_standing v_trial_open v_trial_fallen x1 x2 y0 hm H locs ls hw hl
  unfold f_x_was_N52_0 at hm
  obtain ⟨hx, hb, hr, hml, hown, hts, hlocks, hK, hA⟩ := id C0
  refine lv_istore (lv' := [(4, .int y0), (0, .ref h0), (1, .int x1), (2, .int x2), (3, .ref h4)]) hx hb dX8_was_52 hl (by decide) rfl (fun ls hl => ?_)
  refine lv_iload_n hx hb dX8_was_54 rfl (lv_at hl 3 rfl) ?_
  refine lv_if_ne (tgt := 63) hx hb dX8_was_55 (by decide) (fun hc => ?_) (fun hc => ?_)
  · have hm := ineg hc hm
    refine lv_iconst (v := 3) hx hb dX8_was_63 (by decide) ?_
    exact n_x_was_N64_0 C0  _ _ _ _ _ _ _ _ _ _ _ _ hm _ _ _ hw (lv_sub hl [1, 2, 4, 0] rfl)
  · have hm := ipos hc hm
    refine lv_bipush (v := 9) hx hb dX8_was_58 (by decide) ?_
    refine lv_goto (tgt := 64) hx hb dX8_was_60 (by decide) ?_
    exact n_x_was_N64_0 C0  _ _ _ _ _ _ _ _ _ _ _ _ hm _ _ _ hw (lv_sub hl [1, 2, 4, 0] rfl)
set_option maxHeartbeats 1000000 in
set_option maxRecDepth 100000 in
theorem n_x_was_N42_0 {p : Program} {l : Launch} {e : Env} {s : State} {m : MethodId} {args : Array Value} {below : List Frame} {meth : Method} {c : Code} {A : Nat → Prop} {g : gG} {h0 h1 h2 h3 h4 h5 h6 h7 h8 h9 h10 h11 h12 h13 h14 h15 h16 h17 h18 h19 h20 h21 h22 h23 h24 h25 h26 h27 h28 : Nat} {v_toldIsStale : Int32} {v_latestFinding : Int32} {v_wall_courses : Int32} {v_wall_columns : Int32} {v_wall_fault : Int32} {v_wall_jump : Int32} {v_wall_stones : Nat → Int64} {v_hands_told : Int32} {v_hands_fault : Int32} {v_frosts_told : Int32} {v_frosts_year : Nat → Int32} {v_frosts_force : Nat → Int32} {v_gappings_told : Int32} {v_gappings_year : Nat → Int32} {v_gappings_column : Nat → Int32} {v_gappings_hand : Nat → Int32} {v_sights_told : Int32} {v_sights_year : Nat → Int32} {v_sights_place : Nat → Int32} {v_sights_setter : Nat → Int32} {r : (Int32 × (Nat → Int32) × (Nat → Int32) × Int64 × Int32 × (Nat → Int64) × (Nat → Int64) × (Nat → Int64) × (Nat → Int32) × (Nat → Int32))} (C0 : gX p s m args meth c cX8_was 9 (some .int) RX8 g A) : ∀ (v_hands_mood : Nat → Int32) (v_hands_strong : Nat → Int32) (v_trial_all : Int64) (v_trial_losers : Int32) (v_trial_now : Nat → Int64) (v_trial_stones : Nat → Int64) (v_trial_standing : Nat → Int64) (v_trial_open : Nat → Int32) (v_trial_fallen : Nat → Int32) (x1 : Int32) (x2 : Int32), f_x_was_N42_0 v_wall_courses v_wall_columns v_wall_jump v_wall_stones v_hands_told v_frosts_told v_frosts_year v_frosts_force v_gappings_told v_gappings_year v_gappings_column v_gappings_hand v_sights_told v_sights_year v_sights_place v_sights_setter v_hands_mood v_hands_strong v_trial_all v_trial_losers v_trial_now v_trial_stones v_trial_standing v_trial_open v_trial_fallen x1 x2 = some r → ∀ (H : Heap) (locs : List Loc) (ls : Array Slot), gW g A s (W_x_was g h0 h1 h2 h3 h4 h5 h6 h7 h8 h9 h10 h11 h12 h13 h14 h15 h16 h17 h18 h19 h20 h21 h22 h23 h24 h25 h26 h27 h28 v_toldIsStale v_latestFinding v_wall_courses v_wall_columns v_wall_fault v_wall_jump v_wall_stones v_hands_told v_hands_fault v_hands_mood v_hands_strong v_frosts_told v_frosts_year v_frosts_force v_gappings_told v_gappings_year v_gappings_column v_gappings_hand v_sights_told v_sights_year v_sights_place v_sights_setter v_trial_all v_trial_losers v_trial_now v_trial_stones v_trial_standing v_trial_open v_trial_fallen) H locs → lv_has ls 9 [(0, .ref h0), (1, .int x1), (2, .int x2)] → W p l e rm_x_was s m args below meth c H locs 0 0 (gQi below args s A g r.1 (W_x_was g h0 h1 h2 h3 h4 h5 h6 h7 h8 h9 h10 h11 h12 h13 h14 h15 h16 h17 h18 h19 h20 h21 h22 h23 h24 h25 h26 h27 h28 v_toldIsStale v_latestFinding v_wall_courses v_wall_columns v_wall_fault v_wall_jump v_wall_stones v_hands_told v_hands_fault r.2.1 r.2.2.1 v_frosts_told v_frosts_year v_frosts_force v_gappings_told v_gappings_year v_gappings_column v_gappings_hand v_sights_told v_sights_year v_sights_place v_sights_setter r.2.2.2.1 r.2.2.2.2.1 r.2.2.2.2.2.1 r.2.2.2.2.2.2.1 r.2.2.2.2.2.2.2.1 r.2.2.2.2.2.2.2.2.1 r.2.2.2.2.2.2.2.2.2)) (F0 m 42 ls [.ref h4]) := by
  intro v_hands_mood v_hands_strong v_trial_all v_trial_losers v_trial_now v_trial_stones v_trial_standing v_trial_open v_trial_fallen x1 x2 hm H locs ls hw hl
  unfold f_x_was_N42_0 at hm
  obtain ⟨hx, hb, hr, hml, hown, hts, hlocks, hK, hA⟩ := id C0
  refine lv_astore_n (lv' := [(3, .ref h4), (0, .ref h0), (1, .int x1), (2, .int x2)]) hx hb dX8_was_42 rfl hl (by decide) rfl (fun ls hl => ?_)
  refine lv_iload_n hx hb dX8_was_43 rfl (lv_at hl 3 rfl) ?_
  refine lv_if_ne (tgt := 51) hx hb dX8_was_44 (by decide) (fun hc => ?_) (fun hc => ?_)
  · have hm := ineg hc hm
    refine lv_iconst (v := 0) hx hb dX8_was_51 (by decide) ?_
    exact n_x_was_N52_0 C0  _ _ _ _ _ _ _ _ _ _ _ _ hm _ _ _ hw (lv_sub hl [1, 2, 3, 0] rfl)
  · have hm := ipos hc hm
    refine lv_iconst (v := 1) hx hb dX8_was_47 (by decide) ?_
    refine lv_goto (tgt := 52) hx hb dX8_was_48 (by decide) ?_
    exact n_x_was_N52_0 C0  _ _ _ _ _ _ _ _ _ _ _ _ hm _ _ _ hw (lv_sub hl [1, 2, 3, 0] rfl)
set_option maxHeartbeats 1000000 in
set_option maxRecDepth 100000 in
theorem n_x_was_N78_1 {p : Program} {l : Launch} {e : Env} {s : State} {m : MethodId} {args : Array Value} {below : List Frame} {meth : Method} {c : Code} {A : Nat → Prop} {g : gG} {h0 h1 h2 h3 h4 h5 h6 h7 h8 h9 h10 h11 h12 h13 h14 h15 h16 h17 h18 h19 h20 h21 h22 h23 h24 h25 h26 h27 h28 : Nat} {v_toldIsStale : Int32} {v_latestFinding : Int32} {v_wall_courses : Int32} {v_wall_columns : Int32} {v_wall_fault : Int32} {v_wall_jump : Int32} {v_wall_stones : Nat → Int64} {v_hands_told : Int32} {v_hands_fault : Int32} {v_frosts_told : Int32} {v_frosts_year : Nat → Int32} {v_frosts_force : Nat → Int32} {v_gappings_told : Int32} {v_gappings_year : Nat → Int32} {v_gappings_column : Nat → Int32} {v_gappings_hand : Nat → Int32} {v_sights_told : Int32} {v_sights_year : Nat → Int32} {v_sights_place : Nat → Int32} {v_sights_setter : Nat → Int32} {k78 : (Nat → Int32) → (Nat → Int32) → Int64 → Int32 → (Nat → Int64) → (Nat → Int64) → (Nat → Int64) → (Nat → Int32) → (Nat → Int32) → Int32 → Int32 → Int32 → Int32 → Int32 → Option (Int32 × (Nat → Int32) × (Nat → Int32) × Int64 × Int32 × (Nat → Int64) × (Nat → Int64) × (Nat → Int64) × (Nat → Int32) × (Nat → Int32))} {r : (Int32 × (Nat → Int32) × (Nat → Int32) × Int64 × Int32 × (Nat → Int64) × (Nat → Int64) × (Nat → Int64) × (Nat → Int32) × (Nat → Int32))} (C0 : gX p s m args meth c cX8_was 9 (some .int) RX8 g A) (hk78 : ∀ (v_hands_mood : Nat → Int32) (v_hands_strong : Nat → Int32) (v_trial_all : Int64) (v_trial_losers : Int32) (v_trial_now : Nat → Int64) (v_trial_stones : Nat → Int64) (v_trial_standing : Nat → Int64) (v_trial_open : Nat → Int32) (v_trial_fallen : Nat → Int32) (x1 : Int32) (x5 : Int32) (x6 : Int32) (x7 : Int32) (x8 : Int32), k78 v_hands_mood v_hands_strong v_trial_all v_trial_losers v_trial_now v_trial_stones v_trial_standing v_trial_open v_trial_fallen x1 x5 x6 x7 x8 = some r → ∀ (H : Heap) (locs : List Loc) (ls : Array Slot), gW g A s (W_x_was g h0 h1 h2 h3 h4 h5 h6 h7 h8 h9 h10 h11 h12 h13 h14 h15 h16 h17 h18 h19 h20 h21 h22 h23 h24 h25 h26 h27 h28 v_toldIsStale v_latestFinding v_wall_courses v_wall_columns v_wall_fault v_wall_jump v_wall_stones v_hands_told v_hands_fault v_hands_mood v_hands_strong v_frosts_told v_frosts_year v_frosts_force v_gappings_told v_gappings_year v_gappings_column v_gappings_hand v_sights_told v_sights_year v_sights_place v_sights_setter v_trial_all v_trial_losers v_trial_now v_trial_stones v_trial_standing v_trial_open v_trial_fallen) H locs → lv_has ls 9 [(0, .ref h0), (1, .int x1), (3, .ref h5), (5, .int x5), (6, .int x6), (7, .int x7), (8, .int x8)] → W p l e rm_x_was s m args below meth c H locs 0 0 (gQi below args s A g r.1 (W_x_was g h0 h1 h2 h3 h4 h5 h6 h7 h8 h9 h10 h11 h12 h13 h14 h15 h16 h17 h18 h19 h20 h21 h22 h23 h24 h25 h26 h27 h28 v_toldIsStale v_latestFinding v_wall_courses v_wall_columns v_wall_fault v_wall_jump v_wall_stones v_hands_told v_hands_fault r.2.1 r.2.2.1 v_frosts_told v_frosts_year v_frosts_force v_gappings_told v_gappings_year v_gappings_column v_gappings_hand v_sights_told v_sights_year v_sights_place v_sights_setter r.2.2.2.1 r.2.2.2.2.1 r.2.2.2.2.2.1 r.2.2.2.2.2.2.1 r.2.2.2.2.2.2.2.1 r.2.2.2.2.2.2.2.2.1 r.2.2.2.2.2.2.2.2.2)) (F0 m 78 ls [])) : ∀ (v_hands_mood : Nat → Int32) (v_hands_strong : Nat → Int32) (v_trial_all : Int64) (v_trial_losers : Int32) (v_trial_now : Nat → Int64) (v_trial_stones : Nat → Int64) (v_trial_standing : Nat → Int64) (v_trial_open : Nat → Int32) (v_trial_fallen : Nat → Int32) (x1 : Int32) (x5 : Int32) (x6 : Int32) (x7 : Int32) (x8 : Int32), f_x_was_N78_1 v_wall_courses v_wall_columns v_wall_jump v_wall_stones v_hands_told v_frosts_told v_frosts_year v_frosts_force v_gappings_told v_gappings_year v_gappings_column v_gappings_hand v_sights_told v_sights_year v_sights_place v_sights_setter k78 v_hands_mood v_hands_strong v_trial_all v_trial_losers v_trial_now v_trial_stones v_trial_standing v_trial_open v_trial_fallen x1 x5 x6 x7 x8 = some r → ∀ (H : Heap) (locs : List Loc) (ls : Array Slot), gW g A s (W_x_was g h0 h1 h2 h3 h4 h5 h6 h7 h8 h9 h10 h11 h12 h13 h14 h15 h16 h17 h18 h19 h20 h21 h22 h23 h24 h25 h26 h27 h28 v_toldIsStale v_latestFinding v_wall_courses v_wall_columns v_wall_fault v_wall_jump v_wall_stones v_hands_told v_hands_fault v_hands_mood v_hands_strong v_frosts_told v_frosts_year v_frosts_force v_gappings_told v_gappings_year v_gappings_column v_gappings_hand v_sights_told v_sights_year v_sights_place v_sights_setter v_trial_all v_trial_losers v_trial_now v_trial_stones v_trial_standing v_trial_open v_trial_fallen) H locs → lv_has ls 9 [(0, .ref h0), (1, .int x1), (3, .ref h5), (5, .int x5), (6, .int x6), (7, .int x7), (8, .int x8)] → W p l e rm_x_was s m args below meth c H locs 0 0 (gQi below args s A g r.1 (W_x_was g h0 h1 h2 h3 h4 h5 h6 h7 h8 h9 h10 h11 h12 h13 h14 h15 h16 h17 h18 h19 h20 h21 h22 h23 h24 h25 h26 h27 h28 v_toldIsStale v_latestFinding v_wall_courses v_wall_columns v_wall_fault v_wall_jump v_wall_stones v_hands_told v_hands_fault r.2.1 r.2.2.1 v_frosts_told v_frosts_year v_frosts_force v_gappings_told v_gappings_year v_gappings_column v_gappings_hand v_sights_told v_sights_year v_sights_place v_sights_setter r.2.2.2.1 r.2.2.2.2.1 r.2.2.2.2.2.1 r.2.2.2.2.2.2.1 r.2.2.2.2.2.2.2.1 r.2.2.2.2.2.2.2.2.1 r.2.2.2.2.2.2.2.2.2)) (F0 m 78 ls []) := by
  intro v_hands_mood v_hands_strong v_trial_all v_trial_losers v_trial_now v_trial_stones v_trial_standing v_trial_open v_trial_fallen x1 x5 x6 x7 x8 hm H locs ls hw hl
  unfold f_x_was_N78_1 at hm
  obtain ⟨hx, hb, hr, hml, hown, hts, hlocks, hK, hA⟩ := id C0
  refine lv_iload hx hb dX8_was_78 (lv_at hl 6 rfl) ?_
  refine lv_iload hx hb dX8_was_80 (lv_at hl 3 rfl) ?_
  refine lv_icmp_gt (tgt := 131) hx hb dX8_was_82 (by decide) (fun hc => ?_) (fun hc => ?_)
  · have hm := ipos hc hm
    refine lv_aload_n hx hb dX8_was_131 rfl (lv_at hl 2 rfl) ?_
    refine lv_iload_n hx hb dX8_was_132 rfl (lv_at hl 1 rfl) ?_
    refine lv_iload hx hb dX8_was_133 (lv_at hl 4 rfl) ?_
    obtain ⟨hin, hm⟩ := gdE hm
    have hin := inbE hin
    refine gAstI (ws' := (W_x_was g h0 h1 h2 h3 h4 h5 h6 h7 h8 h9 h10 h11 h12 h13 h14 h15 h16 h17 h18 h19 h20 h21 h22 h23 h24 h25 h26 h27 h28 v_toldIsStale v_latestFinding v_wall_courses v_wall_columns v_wall_fault v_wall_jump v_wall_stones v_hands_told v_hands_fault v_hands_mood (upd v_hands_strong x1.toNatClampNeg x6) v_frosts_told v_frosts_year v_frosts_force v_gappings_told v_gappings_year v_gappings_column v_gappings_hand v_sights_told v_sights_year v_sights_place v_sights_setter v_trial_all v_trial_losers v_trial_now v_trial_stones v_trial_standing v_trial_open v_trial_fallen)) C0 hw 5 rfl hin rfl dX8_was_135 (fun H locs hw => ?_)
    refine lv_iload hx hb dX8_was_136 (lv_at hl 5 rfl) ?_
    have hm := Option.some.inj hm
    subst hm
    exact gRetI C0 hw dX8_was_138
  · have hm := ineg hc hm
    refine lv_aload_n hx hb dX8_was_85 rfl (lv_at hl 2 rfl) ?_
    refine lv_iload_n hx hb dX8_was_86 rfl (lv_at hl 1 rfl) ?_
    refine lv_iload hx hb dX8_was_87 (lv_at hl 6 rfl) ?_
    obtain ⟨hin, hm⟩ := gdE hm
    have hin := inbE hin
    refine gAstI (ws' := (W_x_was g h0 h1 h2 h3 h4 h5 h6 h7 h8 h9 h10 h11 h12 h13 h14 h15 h16 h17 h18 h19 h20 h21 h22 h23 h24 h25 h26 h27 h28 v_toldIsStale v_latestFinding v_wall_courses v_wall_columns v_wall_fault v_wall_jump v_wall_stones v_hands_told v_hands_fault v_hands_mood (upd v_hands_strong x1.toNatClampNeg x8) v_frosts_told v_frosts_year v_frosts_force v_gappings_told v_gappings_year v_gappings_column v_gappings_hand v_sights_told v_sights_year v_sights_place v_sights_setter v_trial_all v_trial_losers v_trial_now v_trial_stones v_trial_standing v_trial_open v_trial_fallen)) C0 hw 5 rfl hin rfl dX8_was_89 (fun H locs hw => ?_)
    refine lv_aload_n hx hb dX8_was_90 rfl (lv_at hl 0 rfl) ?_
    refine gGet C0 hw flX8_74 0 rfl rfl dX8_was_91 ?_
    refine lv_aload_n hx hb dX8_was_94 rfl (lv_at hl 0 rfl) ?_
    refine gGet C0 hw flX8_38 0 rfl rfl dX8_was_95 ?_
    refine lv_iconst (v := 0) hx hb dX8_was_98 (by decide) ?_
    obtain ⟨o99, ho99, hm⟩ := bindE hm
    refine gCallv (ws' := (W_x_was g h0 h1 h2 h3 h4 h5 h6 h7 h8 h9 h10 h11 h12 h13 h14 h15 h16 h17 h18 h19 h20 h21 h22 h23 h24 h25 h26 h27 h28 v_toldIsStale v_latestFinding v_wall_courses v_wall_columns v_wall_fault v_wall_jump v_wall_stones v_hands_told v_hands_fault v_hands_mood (upd v_hands_strong x1.toNatClampNeg x8) v_frosts_told v_frosts_year v_frosts_force v_gappings_told v_gappings_year v_gappings_column v_gappings_hand v_sights_told v_sights_year v_sights_place v_sights_setter o99.1 o99.2.1 o99.2.2.1 o99.2.2.2.1 o99.2.2.2.2.1 o99.2.2.2.2.2.1 o99.2.2.2.2.2.2)) C0 hw (gRunV (As := [.ref h6, .int (0 : Int32)]) (rest := []) C0 hw lkX8_205 (c_ys_run l g H.size h17 h1 h2 h3 h4 h5 h9 h10 h11 h12 h18 h19 h20 h21 h22 h6 h7 h8 v_trial_all v_trial_losers v_wall_courses v_wall_columns v_wall_fault v_wall_jump v_wall_stones v_hands_told v_hands_fault v_hands_mood (upd v_hands_strong x1.toNatClampNeg x8) v_gappings_told v_gappings_year v_gappings_column v_gappings_hand v_trial_now v_trial_stones v_trial_standing v_trial_open v_trial_fallen v_frosts_told v_frosts_year v_frosts_force (0 : Int32) o99 ho99) ⟨rfl, rfl⟩ ⟨Nat.le_of_ble_eq_true rfl, Nat.le_of_ble_eq_true rfl⟩ [17, 1, 2, 3, 4, 5, 9, 10, 11, 12, 18, 19, 20, 21, 22, 6, 7, 8] (by decide) rfl 17 rfl rfl rfl hl.1 rfl (Nat.le_of_ble_eq_true rfl) dX8_was_99) [17, 1, 2, 3, 4, 5, 9, 10, 11, 12, 18, 19, 20, 21, 22, 6, 7, 8] [0, 13, 14, 15, 16] rfl rfl ⟨rfl, rfl, rfl, rfl, rfl, trivial⟩ [h0, h1, h2, h3, h4, h5, h6, h7, h8, h9, h10, h11, h12, h13, h14, h15, h16, h17, h18, h19, h20, h21, h22] rfl rfl 23 rfl (by decide +kernel) (fun H locs hw => ?_)
    refine lv_aload_n hx hb dX8_was_102 rfl (lv_at hl 0 rfl) ?_
    refine gGet C0 hw flX8_55 0 rfl rfl dX8_was_103 ?_
    refine lv_aload_n hx hb dX8_was_106 rfl (lv_at hl 0 rfl) ?_
    refine gGet C0 hw flX8_74 0 rfl rfl dX8_was_107 ?_
    obtain ⟨o110, ho110, hm⟩ := bindE hm
    refine gCalli (ws' := (W_x_was g h0 h1 h2 h3 h4 h5 h6 h7 h8 h9 h10 h11 h12 h13 h14 h15 h16 h17 h18 h19 h20 h21 h22 h23 h24 h25 h26 h27 h28 v_toldIsStale v_latestFinding v_wall_courses v_wall_columns v_wall_fault v_wall_jump v_wall_stones v_hands_told v_hands_fault v_hands_mood (upd v_hands_strong x1.toNatClampNeg x8) v_frosts_told v_frosts_year v_frosts_force v_gappings_told v_gappings_year v_gappings_column v_gappings_hand v_sights_told v_sights_year v_sights_place v_sights_setter o99.1 o99.2.1 o99.2.2.1 o99.2.2.2.1 o99.2.2.2.2.1 o99.2.2.2.2.2.1 o99.2.2.2.2.2.2)) C0 hw (gRunV (As := [.ref h17]) (rest := []) C0 hw lkX8_236 (c_sg_comeOutIn l g H.size h13 h14 h15 h16 h17 h19 h1 h3 h9 h18 h20 h21 h22 v_sights_told v_sights_year v_sights_place v_sights_setter o99.1 o99.2.1 o99.2.2.2.1 o110 ho110) ⟨rfl, rfl⟩ ⟨Nat.le_of_ble_eq_true rfl, Nat.le_of_ble_eq_true rfl⟩ [13, 14, 15, 16, 17, 19] (by decide) rfl 13 rfl rfl rfl hl.1 rfl (Nat.le_of_ble_eq_true rfl) dX8_was_110) [13, 14, 15, 16, 17, 19] [0, 1, 2, 3, 4, 5, 6, 7, 8, 9, 10, 11, 12, 18, 20, 21, 22] rfl rfl ⟨rfl, rfl, rfl, rfl, rfl, rfl, rfl, rfl, rfl, rfl, rfl, rfl, rfl, rfl, rfl, rfl, rfl, trivial⟩ [h0, h1, h2, h3, h4, h5, h6, h7, h8, h9, h10, h11, h12, h13, h14, h15, h16, h17, h18, h19, h20, h21, h22] rfl rfl 23 rfl (by decide +kernel) (fun H locs hw => ?_)
    refine lv_if_eq (tgt := 125) hx hb dX8_was_113 (by decide) (fun hc => ?_) (fun hc => ?_)
    · have hm := ipos hc hm
      refine lv_iinc (v := x8 + (1 : Int32)) (lv' := [(8, .int (x8 + (1 : Int32))), (0, .ref h0), (1, .int x1), (3, .ref h5), (5, .int x5), (6, .int x6), (7, .int x7)]) hx hb dX8_was_125 hl (k := 6) rfl rfl (by decide) rfl (fun ls hl => ?_)
      refine lv_goto (tgt := 78) hx hb dX8_was_128 (by decide) ?_
      exact hk78 _ _ _ _ _ _ _ _ _ _ _ _ _ _ hm _ _ _ hw (lv_sub hl [1, 2, 3, 4, 5, 6, 0] rfl)
    · have hm := ineg hc hm
      refine lv_iload hx hb dX8_was_116 (lv_at hl 5 rfl) ?_
      refine lv_iconst (v := 1) hx hb dX8_was_118 (by decide) ?_
      refine lv_iload hx hb dX8_was_119 (lv_at hl 6 rfl) ?_
      refine lv_ishl hx hb dX8_was_121 ?_
      refine lv_ior hx hb dX8_was_122 ?_
      refine lv_istore (lv' := [(7, .int (x7 ||| ((1 : Int32) <<< (x8 &&& 31)))), (0, .ref h0), (1, .int x1), (3, .ref h5), (5, .int x5), (6, .int x6), (8, .int x8)]) hx hb dX8_was_123 hl (by decide) rfl (fun ls hl => ?_)
      refine lv_iinc (v := x8 + (1 : Int32)) (lv' := [(8, .int (x8 + (1 : Int32))), (7, .int (x7 ||| ((1 : Int32) <<< (x8 &&& 31)))), (0, .ref h0), (1, .int x1), (3, .ref h5), (5, .int x5), (6, .int x6)]) hx hb dX8_was_125 hl (k := 6) rfl rfl (by decide) rfl (fun ls hl => ?_)
      refine lv_goto (tgt := 78) hx hb dX8_was_128 (by decide) ?_
      exact hk78 _ _ _ _ _ _ _ _ _ _ _ _ _ _ hm _ _ _ hw (lv_sub hl [2, 3, 4, 5, 6, 1, 0] rfl)
set_option maxHeartbeats 1000000 in
set_option maxRecDepth 100000 in
theorem l_x_was_N78_1 {p : Program} {l : Launch} {e : Env} {s : State} {m : MethodId} {args : Array Value} {below : List Frame} {meth : Method} {c : Code} {A : Nat → Prop} {g : gG} {h0 h1 h2 h3 h4 h5 h6 h7 h8 h9 h10 h11 h12 h13 h14 h15 h16 h17 h18 h19 h20 h21 h22 h23 h24 h25 h26 h27 h28 : Nat} {v_toldIsStale : Int32} {v_latestFinding : Int32} {v_wall_courses : Int32} {v_wall_columns : Int32} {v_wall_fault : Int32} {v_wall_jump : Int32} {v_wall_stones : Nat → Int64} {v_hands_told : Int32} {v_hands_fault : Int32} {v_frosts_told : Int32} {v_frosts_year : Nat → Int32} {v_frosts_force : Nat → Int32} {v_gappings_told : Int32} {v_gappings_year : Nat → Int32} {v_gappings_column : Nat → Int32} {v_gappings_hand : Nat → Int32} {v_sights_told : Int32} {v_sights_year : Nat → Int32} {v_sights_place : Nat → Int32} {v_sights_setter : Nat → Int32} {r : (Int32 × (Nat → Int32) × (Nat → Int32) × Int64 × Int32 × (Nat → Int64) × (Nat → Int64) × (Nat → Int64) × (Nat → Int32) × (Nat → Int32))} (C0 : gX p s m args meth c cX8_was 9 (some .int) RX8 g A) : ∀ n : Nat, ∀ (v_hands_mood : Nat → Int32) (v_hands_strong : Nat → Int32) (v_trial_all : Int64) (v_trial_losers : Int32) (v_trial_now : Nat → Int64) (v_trial_stones : Nat → Int64) (v_trial_standing : Nat → Int64) (v_trial_open : Nat → Int32) (v_trial_fallen : Nat → Int32) (x1 : Int32) (x5 : Int32) (x6 : Int32) (x7 : Int32) (x8 : Int32), iter (fun _ _ _ _ _ _ _ _ _ _ _ _ _ _ => none) (f_x_was_N78_1 v_wall_courses v_wall_columns v_wall_jump v_wall_stones v_hands_told v_frosts_told v_frosts_year v_frosts_force v_gappings_told v_gappings_year v_gappings_column v_gappings_hand v_sights_told v_sights_year v_sights_place v_sights_setter) n v_hands_mood v_hands_strong v_trial_all v_trial_losers v_trial_now v_trial_stones v_trial_standing v_trial_open v_trial_fallen x1 x5 x6 x7 x8 = some r → ∀ (H : Heap) (locs : List Loc) (ls : Array Slot), gW g A s (W_x_was g h0 h1 h2 h3 h4 h5 h6 h7 h8 h9 h10 h11 h12 h13 h14 h15 h16 h17 h18 h19 h20 h21 h22 h23 h24 h25 h26 h27 h28 v_toldIsStale v_latestFinding v_wall_courses v_wall_columns v_wall_fault v_wall_jump v_wall_stones v_hands_told v_hands_fault v_hands_mood v_hands_strong v_frosts_told v_frosts_year v_frosts_force v_gappings_told v_gappings_year v_gappings_column v_gappings_hand v_sights_told v_sights_year v_sights_place v_sights_setter v_trial_all v_trial_losers v_trial_now v_trial_stones v_trial_standing v_trial_open v_trial_fallen) H locs → lv_has ls 9 [(0, .ref h0), (1, .int x1), (3, .ref h5), (5, .int x5), (6, .int x6), (7, .int x7), (8, .int x8)] → W p l e rm_x_was s m args below meth c H locs 0 0 (gQi below args s A g r.1 (W_x_was g h0 h1 h2 h3 h4 h5 h6 h7 h8 h9 h10 h11 h12 h13 h14 h15 h16 h17 h18 h19 h20 h21 h22 h23 h24 h25 h26 h27 h28 v_toldIsStale v_latestFinding v_wall_courses v_wall_columns v_wall_fault v_wall_jump v_wall_stones v_hands_told v_hands_fault r.2.1 r.2.2.1 v_frosts_told v_frosts_year v_frosts_force v_gappings_told v_gappings_year v_gappings_column v_gappings_hand v_sights_told v_sights_year v_sights_place v_sights_setter r.2.2.2.1 r.2.2.2.2.1 r.2.2.2.2.2.1 r.2.2.2.2.2.2.1 r.2.2.2.2.2.2.2.1 r.2.2.2.2.2.2.2.2.1 r.2.2.2.2.2.2.2.2.2)) (F0 m 78 ls []) := by
  intro n
  induction n with
  | zero =>
    intro v_hands_mood v_hands_strong v_trial_all v_trial_losers v_trial_now v_trial_stones v_trial_standing v_trial_open v_trial_fallen x1 x5 x6 x7 x8 hm
    cases hm
  | succ n ih =>
    exact n_x_was_N78_1 C0  ih
set_option maxHeartbeats 1000000 in
set_option maxRecDepth 100000 in
theorem n_x_was_N64_1 {p : Program} {l : Launch} {e : Env} {s : State} {m : MethodId} {args : Array Value} {below : List Frame} {meth : Method} {c : Code} {A : Nat → Prop} {g : gG} {h0 h1 h2 h3 h4 h5 h6 h7 h8 h9 h10 h11 h12 h13 h14 h15 h16 h17 h18 h19 h20 h21 h22 h23 h24 h25 h26 h27 h28 : Nat} {v_toldIsStale : Int32} {v_latestFinding : Int32} {v_wall_courses : Int32} {v_wall_columns : Int32} {v_wall_fault : Int32} {v_wall_jump : Int32} {v_wall_stones : Nat → Int64} {v_hands_told : Int32} {v_hands_fault : Int32} {v_frosts_told : Int32} {v_frosts_year : Nat → Int32} {v_frosts_force : Nat → Int32} {v_gappings_told : Int32} {v_gappings_year : Nat → Int32} {v_gappings_column : Nat → Int32} {v_gappings_hand : Nat → Int32} {v_sights_told : Int32} {v_sights_year : Nat → Int32} {v_sights_place : Nat → Int32} {v_sights_setter : Nat → Int32} {r : (Int32 × (Nat → Int32) × (Nat → Int32) × Int64 × Int32 × (Nat → Int64) × (Nat → Int64) × (Nat → Int64) × (Nat → Int32) × (Nat → Int32))} (C0 : gX p s m args meth c cX8_was 9 (some .int) RX8 g A) : ∀ (v_hands_mood : Nat → Int32) (v_hands_strong : Nat → Int32) (v_trial_all : Int64) (v_trial_losers : Int32) (v_trial_now : Nat → Int64) (v_trial_stones : Nat → Int64) (v_trial_standing : Nat → Int64) (v_trial_open : Nat → Int32) (v_trial_fallen : Nat → Int32) (x1 : Int32) (x4 : Int32) (y0 : Int32), f_x_was_N64_1 v_wall_courses v_wall_columns v_wall_jump v_wall_stones v_hands_told v_frosts_told v_frosts_year v_frosts_force v_gappings_told v_gappings_year v_gappings_column v_gappings_hand v_sights_told v_sights_year v_sights_place v_sights_setter v_hands_mood v_hands_strong v_trial_all v_trial_losers v_trial_now v_trial_stones v_trial_standing v_trial_open v_trial_fallen x1 x4 y0 = some r → ∀ (H : Heap) (locs : List Loc) (ls : Array Slot), gW g A s (W_x_was g h0 h1 h2 h3 h4 h5 h6 h7 h8 h9 h10 h11 h12 h13 h14 h15 h16 h17 h18 h19 h20 h21 h22 h23 h24 h25 h26 h27 h28 v_toldIsStale v_latestFinding v_wall_courses v_wall_columns v_wall_fault v_wall_jump v_wall_stones v_hands_told v_hands_fault v_hands_mood v_hands_strong v_frosts_told v_frosts_year v_frosts_force v_gappings_told v_gappings_year v_gappings_column v_gappings_hand v_sights_told v_sights_year v_sights_place v_sights_setter v_trial_all v_trial_losers v_trial_now v_trial_stones v_trial_standing v_trial_open v_trial_fallen) H locs → lv_has ls 9 [(0, .ref h0), (1, .int x1), (3, .ref h5), (4, .int x4)] → W p l e rm_x_was s m args below meth c H locs 0 0 (gQi below args s A g r.1 (W_x_was g h0 h1 h2 h3 h4 h5 h6 h7 h8 h9 h10 h11 h12 h13 h14 h15 h16 h17 h18 h19 h20 h21 h22 h23 h24 h25 h26 h27 h28 v_toldIsStale v_latestFinding v_wall_courses v_wall_columns v_wall_fault v_wall_jump v_wall_stones v_hands_told v_hands_fault r.2.1 r.2.2.1 v_frosts_told v_frosts_year v_frosts_force v_gappings_told v_gappings_year v_gappings_column v_gappings_hand v_sights_told v_sights_year v_sights_place v_sights_setter r.2.2.2.1 r.2.2.2.2.1 r.2.2.2.2.2.1 r.2.2.2.2.2.2.1 r.2.2.2.2.2.2.2.1 r.2.2.2.2.2.2.2.2.1 r.2.2.2.2.2.2.2.2.2)) (F0 m 64 ls [.int y0]) := by
  intro v_hands_mood v_hands_strong v_trial_all v_trial_losers v_trial_now v_trial_stones v_trial_standing v_trial_open v_trial_fallen x1 x4 y0 hm H locs ls hw hl
  unfold f_x_was_N64_1 at hm
  obtain ⟨hx, hb, hr, hml, hown, hts, hlocks, hK, hA⟩ := id C0
  refine lv_istore (lv' := [(5, .int y0), (0, .ref h0), (1, .int x1), (3, .ref h5), (4, .int x4)]) hx hb dX8_was_64 hl (by decide) rfl (fun ls hl => ?_)
  refine lv_aload_n hx hb dX8_was_66 rfl (lv_at hl 3 rfl) ?_
  refine lv_iload_n hx hb dX8_was_67 rfl (lv_at hl 2 rfl) ?_
  obtain ⟨hin, hm⟩ := gdE hm
  have hin := inbE hin
  refine gAldI C0 hw 5 rfl hin dX8_was_68 ?_
  refine lv_istore (lv' := [(6, .int (v_hands_strong x1.toNatClampNeg)), (5, .int y0), (0, .ref h0), (1, .int x1), (3, .ref h5), (4, .int x4)]) hx hb dX8_was_69 hl (by decide) rfl (fun ls hl => ?_)
  refine lv_iconst (v := 0) hx hb dX8_was_71 (by decide) ?_
  refine lv_istore (lv' := [(7, .int (0 : Int32)), (6, .int (v_hands_strong x1.toNatClampNeg)), (5, .int y0), (0, .ref h0), (1, .int x1), (3, .ref h5), (4, .int x4)]) hx hb dX8_was_72 hl (by decide) rfl (fun ls hl => ?_)
  refine lv_iload hx hb dX8_was_74 (lv_at hl 6 rfl) ?_
  refine lv_istore (lv' := [(8, .int x4), (7, .int (0 : Int32)), (6, .int (v_hands_strong x1.toNatClampNeg)), (5, .int y0), (0, .ref h0), (1, .int x1), (3, .ref h5), (4, .int x4)]) hx hb dX8_was_76 hl (by decide) rfl (fun ls hl => ?_)
  exact l_x_was_N78_1 C0  1000 _ _ _ _ _ _ _ _ _ _ _ _ _ _ hm _ _ _ hw (lv_sub hl [4, 5, 6, 3, 2, 1, 0] rfl)
set_option maxHeartbeats 1000000 in
set_option maxRecDepth 100000 in
theorem n_x_was_N52_1 {p : Program} {l : Launch} {e : Env} {s : State} {m : MethodId} {args : Array Value} {below : List Frame} {meth : Method} {c : Code} {A : Nat → Prop} {g : gG} {h0 h1 h2 h3 h4 h5 h6 h7 h8 h9 h10 h11 h12 h13 h14 h15 h16 h17 h18 h19 h20 h21 h22 h23 h24 h25 h26 h27 h28 : Nat} {v_toldIsStale : Int32} {v_latestFinding : Int32} {v_wall_courses : Int32} {v_wall_columns : Int32} {v_wall_fault : Int32} {v_wall_jump : Int32} {v_wall_stones : Nat → Int64} {v_hands_told : Int32} {v_hands_fault : Int32} {v_frosts_told : Int32} {v_frosts_year : Nat → Int32} {v_frosts_force : Nat → Int32} {v_gappings_told : Int32} {v_gappings_year : Nat → Int32} {v_gappings_column : Nat → Int32} {v_gappings_hand : Nat → Int32} {v_sights_told : Int32} {v_sights_year : Nat → Int32} {v_sights_place : Nat → Int32} {v_sights_setter : Nat → Int32} {r : (Int32 × (Nat → Int32) × (Nat → Int32) × Int64 × Int32 × (Nat → Int64) × (Nat → Int64) × (Nat → Int64) × (Nat → Int32) × (Nat → Int32))} (C0 : gX p s m args meth c cX8_was 9 (some .int) RX8 g A) : ∀ (v_hands_mood : Nat → Int32) (v_hands_strong : Nat → Int32) (v_trial_all : Int64) (v_trial_losers : Int32) (v_trial_now : Nat → Int64) (v_trial_stones : Nat → Int64) (v_trial_standing : Nat → Int64) (v_trial_open : Nat → Int32) (v_trial_fallen : Nat → Int32) (x1 : Int32) (x2 : Int32) (y0 : Int32), f_x_was_N52_1 v_wall_courses v_wall_columns v_wall_jump v_wall_stones v_hands_told v_frosts_told v_frosts_year v_frosts_force v_gappings_told v_gappings_year v_gappings_column v_gappings_hand v_sights_told v_sights_year v_sights_place v_sights_setter v_hands_mood v_hands_strong v_trial_all v_trial_losers v_trial_now v_trial_stones v_trial_standing v_trial_open v_trial_fallen x1 x2 y0 = some r → ∀ (H : Heap) (locs : List Loc) (ls : Array Slot), gW g A s (W_x_was g h0 h1 h2 h3 h4 h5 h6 h7 h8 h9 h10 h11 h12 h13 h14 h15 h16 h17 h18 h19 h20 h21 h22 h23 h24 h25 h26 h27 h28 v_toldIsStale v_latestFinding v_wall_courses v_wall_columns v_wall_fault v_wall_jump v_wall_stones v_hands_told v_hands_fault v_hands_mood v_hands_strong v_frosts_told v_frosts_year v_frosts_force v_gappings_told v_gappings_year v_gappings_column v_gappings_hand v_sights_told v_sights_year v_sights_place v_sights_setter v_trial_all v_trial_losers v_trial_now v_trial_stones v_trial_standing v_trial_open v_trial_fallen) H locs → lv_has ls 9 [(0, .ref h0), (1, .int x1), (2, .int x2), (3, .ref h5)] → W p l e rm_x_was s m args below meth c H locs 0 0 (gQi below args s A g r.1 (W_x_was g h0 h1 h2 h3 h4 h5 h6 h7 h8 h9 h10 h11 h12 h13 h14 h15 h16 h17 h18 h19 h20 h21 h22 h23 h24 h25 h26 h27 h28 v_toldIsStale v_latestFinding v_wall_courses v_wall_columns v_wall_fault v_wall_jump v_wall_stones v_hands_told v_hands_fault r.2.1 r.2.2.1 v_frosts_told v_frosts_year v_frosts_force v_gappings_told v_gappings_year v_gappings_column v_gappings_hand v_sights_told v_sights_year v_sights_place v_sights_setter r.2.2.2.1 r.2.2.2.2.1 r.2.2.2.2.2.1 r.2.2.2.2.2.2.1 r.2.2.2.2.2.2.2.1 r.2.2.2.2.2.2.2.2.1 r.2.2.2.2.2.2.2.2.2)) (F0 m 52 ls [.int y0]) := by
  intro v_hands_mood v_hands_strong v_trial_all v_trial_losers v_trial_now v_trial_stones v_trial_standing v_trial_open v_trial_fallen x1 x2 y0 hm H locs ls hw hl
  unfold f_x_was_N52_1 at hm
  obtain ⟨hx, hb, hr, hml, hown, hts, hlocks, hK, hA⟩ := id C0
  refine lv_istore (lv' := [(4, .int y0), (0, .ref h0), (1, .int x1), (2, .int x2), (3, .ref h5)]) hx hb dX8_was_52 hl (by decide) rfl (fun ls hl => ?_)
  refine lv_iload_n hx hb dX8_was_54 rfl (lv_at hl 3 rfl) ?_
  refine lv_if_ne (tgt := 63) hx hb dX8_was_55 (by decide) (fun hc => ?_) (fun hc => ?_)
  · have hm := ineg hc hm
    refine lv_iconst (v := 3) hx hb dX8_was_63 (by decide) ?_
    exact n_x_was_N64_1 C0  _ _ _ _ _ _ _ _ _ _ _ _ hm _ _ _ hw (lv_sub hl [1, 2, 4, 0] rfl)
  · have hm := ipos hc hm
    refine lv_bipush (v := 9) hx hb dX8_was_58 (by decide) ?_
    refine lv_goto (tgt := 64) hx hb dX8_was_60 (by decide) ?_
    exact n_x_was_N64_1 C0  _ _ _ _ _ _ _ _ _ _ _ _ hm _ _ _ hw (lv_sub hl [1, 2, 4, 0] rfl)
set_option maxHeartbeats 1000000 in
set_option maxRecDepth 100000 in
theorem n_x_was_N42_1 {p : Program} {l : Launch} {e : Env} {s : State} {m : MethodId} {args : Array Value} {below : List Frame} {meth : Method} {c : Code} {A : Nat → Prop} {g : gG} {h0 h1 h2 h3 h4 h5 h6 h7 h8 h9 h10 h11 h12 h13 h14 h15 h16 h17 h18 h19 h20 h21 h22 h23 h24 h25 h26 h27 h28 : Nat} {v_toldIsStale : Int32} {v_latestFinding : Int32} {v_wall_courses : Int32} {v_wall_columns : Int32} {v_wall_fault : Int32} {v_wall_jump : Int32} {v_wall_stones : Nat → Int64} {v_hands_told : Int32} {v_hands_fault : Int32} {v_frosts_told : Int32} {v_frosts_year : Nat → Int32} {v_frosts_force : Nat → Int32} {v_gappings_told : Int32} {v_gappings_year : Nat → Int32} {v_gappings_column : Nat → Int32} {v_gappings_hand : Nat → Int32} {v_sights_told : Int32} {v_sights_year : Nat → Int32} {v_sights_place : Nat → Int32} {v_sights_setter : Nat → Int32} {r : (Int32 × (Nat → Int32) × (Nat → Int32) × Int64 × Int32 × (Nat → Int64) × (Nat → Int64) × (Nat → Int64) × (Nat → Int32) × (Nat → Int32))} (C0 : gX p s m args meth c cX8_was 9 (some .int) RX8 g A) : ∀ (v_hands_mood : Nat → Int32) (v_hands_strong : Nat → Int32) (v_trial_all : Int64) (v_trial_losers : Int32) (v_trial_now : Nat → Int64) (v_trial_stones : Nat → Int64) (v_trial_standing : Nat → Int64) (v_trial_open : Nat → Int32) (v_trial_fallen : Nat → Int32) (x1 : Int32) (x2 : Int32), f_x_was_N42_1 v_wall_courses v_wall_columns v_wall_jump v_wall_stones v_hands_told v_frosts_told v_frosts_year v_frosts_force v_gappings_told v_gappings_year v_gappings_column v_gappings_hand v_sights_told v_sights_year v_sights_place v_sights_setter v_hands_mood v_hands_strong v_trial_all v_trial_losers v_trial_now v_trial_stones v_trial_standing v_trial_open v_trial_fallen x1 x2 = some r → ∀ (H : Heap) (locs : List Loc) (ls : Array Slot), gW g A s (W_x_was g h0 h1 h2 h3 h4 h5 h6 h7 h8 h9 h10 h11 h12 h13 h14 h15 h16 h17 h18 h19 h20 h21 h22 h23 h24 h25 h26 h27 h28 v_toldIsStale v_latestFinding v_wall_courses v_wall_columns v_wall_fault v_wall_jump v_wall_stones v_hands_told v_hands_fault v_hands_mood v_hands_strong v_frosts_told v_frosts_year v_frosts_force v_gappings_told v_gappings_year v_gappings_column v_gappings_hand v_sights_told v_sights_year v_sights_place v_sights_setter v_trial_all v_trial_losers v_trial_now v_trial_stones v_trial_standing v_trial_open v_trial_fallen) H locs → lv_has ls 9 [(0, .ref h0), (1, .int x1), (2, .int x2)] → W p l e rm_x_was s m args below meth c H locs 0 0 (gQi below args s A g r.1 (W_x_was g h0 h1 h2 h3 h4 h5 h6 h7 h8 h9 h10 h11 h12 h13 h14 h15 h16 h17 h18 h19 h20 h21 h22 h23 h24 h25 h26 h27 h28 v_toldIsStale v_latestFinding v_wall_courses v_wall_columns v_wall_fault v_wall_jump v_wall_stones v_hands_told v_hands_fault r.2.1 r.2.2.1 v_frosts_told v_frosts_year v_frosts_force v_gappings_told v_gappings_year v_gappings_column v_gappings_hand v_sights_told v_sights_year v_sights_place v_sights_setter r.2.2.2.1 r.2.2.2.2.1 r.2.2.2.2.2.1 r.2.2.2.2.2.2.1 r.2.2.2.2.2.2.2.1 r.2.2.2.2.2.2.2.2.1 r.2.2.2.2.2.2.2.2.2)) (F0 m 42 ls [.ref h5]) := by
  intro v_hands_mood v_hands_strong v_trial_all v_trial_losers v_trial_now v_trial_stones v_trial_standing v_trial_open v_trial_fallen x1 x2 hm H locs ls hw hl
  unfold f_x_was_N42_1 at hm
  obtain ⟨hx, hb, hr, hml, hown, hts, hlocks, hK, hA⟩ := id C0
  refine lv_astore_n (lv' := [(3, .ref h5), (0, .ref h0), (1, .int x1), (2, .int x2)]) hx hb dX8_was_42 rfl hl (by decide) rfl (fun ls hl => ?_)
  refine lv_iload_n hx hb dX8_was_43 rfl (lv_at hl 3 rfl) ?_
  refine lv_if_ne (tgt := 51) hx hb dX8_was_44 (by decide) (fun hc => ?_) (fun hc => ?_)
  · have hm := ineg hc hm
    refine lv_iconst (v := 0) hx hb dX8_was_51 (by decide) ?_
    exact n_x_was_N52_1 C0  _ _ _ _ _ _ _ _ _ _ _ _ hm _ _ _ hw (lv_sub hl [1, 2, 3, 0] rfl)
  · have hm := ipos hc hm
    refine lv_iconst (v := 1) hx hb dX8_was_47 (by decide) ?_
    refine lv_goto (tgt := 52) hx hb dX8_was_48 (by decide) ?_
    exact n_x_was_N52_1 C0  _ _ _ _ _ _ _ _ _ _ _ _ hm _ _ _ hw (lv_sub hl [1, 2, 3, 0] rfl)
set_option maxHeartbeats 1000000 in
set_option maxRecDepth 100000 in
theorem c_x_was (l : Launch) (g : gG) (sz : Nat) (h0 h1 h2 h3 h4 h5 h6 h7 h8 h9 h10 h11 h12 h13 h14 h15 h16 h17 h18 h19 h20 h21 h22 h23 h24 h25 h26 h27 h28 : Nat) (v_toldIsStale : Int32) (v_latestFinding : Int32) (v_wall_courses : Int32) (v_wall_columns : Int32) (v_wall_fault : Int32) (v_wall_jump : Int32) (v_wall_stones : Nat → Int64) (v_hands_told : Int32) (v_hands_fault : Int32) (v_hands_mood : Nat → Int32) (v_hands_strong : Nat → Int32) (v_frosts_told : Int32) (v_frosts_year : Nat → Int32) (v_frosts_force : Nat → Int32) (v_gappings_told : Int32) (v_gappings_year : Nat → Int32) (v_gappings_column : Nat → Int32) (v_gappings_hand : Nat → Int32) (v_sights_told : Int32) (v_sights_year : Nat → Int32) (v_sights_place : Nat → Int32) (v_sights_setter : Nat → Int32) (v_trial_all : Int64) (v_trial_losers : Int32) (v_trial_now : Nat → Int64) (v_trial_stones : Nat → Int64) (v_trial_standing : Nat → Int64) (v_trial_open : Nat → Int32) (v_trial_fallen : Nat → Int32) (a0 : Int32) (a1 : Int32) (r : (Int32 × (Nat → Int32) × (Nat → Int32) × Int64 × Int32 × (Nat → Int64) × (Nat → Int64) × (Nat → Int64) × (Nat → Int32) × (Nat → Int32))) (hm : f_x_was v_wall_courses v_wall_columns v_wall_jump v_wall_stones v_hands_told v_hands_mood v_hands_strong v_frosts_told v_frosts_year v_frosts_force v_gappings_told v_gappings_year v_gappings_column v_gappings_hand v_sights_told v_sights_year v_sights_place v_sights_setter v_trial_all v_trial_losers v_trial_now v_trial_stones v_trial_standing v_trial_open v_trial_fallen a0 a1 = some r) : gMi l yX8_was cX8_was 9 (some .int) rm_x_was g sz [.ref h0, .int a0, .int a1] (W_x_was g h0 h1 h2 h3 h4 h5 h6 h7 h8 h9 h10 h11 h12 h13 h14 h15 h16 h17 h18 h19 h20 h21 h22 h23 h24 h25 h26 h27 h28 v_toldIsStale v_latestFinding v_wall_courses v_wall_columns v_wall_fault v_wall_jump v_wall_stones v_hands_told v_hands_fault v_hands_mood v_hands_strong v_frosts_told v_frosts_year v_frosts_force v_gappings_told v_gappings_year v_gappings_column v_gappings_hand v_sights_told v_sights_year v_sights_place v_sights_setter v_trial_all v_trial_losers v_trial_now v_trial_stones v_trial_standing v_trial_open v_trial_fallen) r.1 (W_x_was g h0 h1 h2 h3 h4 h5 h6 h7 h8 h9 h10 h11 h12 h13 h14 h15 h16 h17 h18 h19 h20 h21 h22 h23 h24 h25 h26 h27 h28 v_toldIsStale v_latestFinding v_wall_courses v_wall_columns v_wall_fault v_wall_jump v_wall_stones v_hands_told v_hands_fault r.2.1 r.2.2.1 v_frosts_told v_frosts_year v_frosts_force v_gappings_told v_gappings_year v_gappings_column v_gappings_hand v_sights_told v_sights_year v_sights_place v_sights_setter r.2.2.2.1 r.2.2.2.2.1 r.2.2.2.2.2.1 r.2.2.2.2.2.2.1 r.2.2.2.2.2.2.2.1 r.2.2.2.2.2.2.2.2.1 r.2.2.2.2.2.2.2.2.2) := by
  unfold f_x_was at hm
  refine gEnterI (by decide) (Nat.le_of_ble_eq_true rfl) (fun p e s m below meth c A C0 H locs hw ls hl => ?_)
  obtain ⟨hx, hb, hr, hml, hown, hts, hlocks, hK, hA⟩ := id C0
  have C0 : gX p s m [.ref h0, .int a0, .int a1].toArray meth c cX8_was 9 (some .int) RX8 g A := C0
  have hl : lv_has ls 9 [(0, .ref h0), (1, .int a0), (2, .int a1)] := hl
  refine lv_aload_n hx hb dX8_was_0 rfl (lv_at hl 0 rfl) ?_
  refine gGet C0 hw flX8_31 0 rfl rfl dX8_was_1 ?_
  refine lv_iload_n hx hb dX8_was_4 rfl (lv_at hl 1 rfl) ?_
  obtain ⟨o5, ho5, hm⟩ := bindE hm
  refine gCalli (ws' := (W_x_was g h0 h1 h2 h3 h4 h5 h6 h7 h8 h9 h10 h11 h12 h13 h14 h15 h16 h17 h18 h19 h20 h21 h22 h23 h24 h25 h26 h27 h28 v_toldIsStale v_latestFinding v_wall_courses v_wall_columns v_wall_fault v_wall_jump v_wall_stones v_hands_told v_hands_fault v_hands_mood v_hands_strong v_frosts_told v_frosts_year v_frosts_force v_gappings_told v_gappings_year v_gappings_column v_gappings_hand v_sights_told v_sights_year v_sights_place v_sights_setter v_trial_all v_trial_losers v_trial_now v_trial_stones v_trial_standing v_trial_open v_trial_fallen)) C0 hw (gRunV (As := [.int a0]) (rest := []) C0 hw lkX8_127 (c_hs_has l g H.size h3 h4 h5 v_hands_told v_hands_fault a0 o5 ho5) ⟨rfl, rfl⟩ ⟨Nat.le_of_ble_eq_true rfl, Nat.le_of_ble_eq_true rfl⟩ [3] (by decide) rfl 3 rfl rfl rfl hl.1 rfl (Nat.le_of_ble_eq_true rfl) dX8_was_5) [3] [0, 1, 2, 4, 5, 6, 7, 8, 9, 10, 11, 12, 13, 14, 15, 16, 17, 18, 19, 20, 21, 22] rfl rfl ⟨rfl, rfl, rfl, rfl, rfl, rfl, rfl, rfl, rfl, rfl, rfl, rfl, rfl, rfl, rfl, rfl, rfl, rfl, rfl, rfl, rfl, rfl, trivial⟩ [h0, h1, h2, h3, h4, h5, h6, h7, h8, h9, h10, h11, h12, h13, h14, h15, h16, h17, h18, h19, h20, h21, h22] rfl rfl 23 rfl (by decide +kernel) (fun H locs hw => ?_)
  refine lv_if_eq (tgt := 18) hx hb dX8_was_8 (by decide) (fun hc => ?_) (fun hc => ?_)
  · have hm := ipos hc hm
    refine lv_bipush (v := -2) hx hb dX8_was_18 (by decide) ?_
    have hm := Option.some.inj hm
    subst hm
    exact gRetI C0 hw dX8_was_20
  · have hm := ineg hc hm
    refine lv_iload_n hx hb dX8_was_11 rfl (lv_at hl 2 rfl) ?_
    obtain ⟨o12, ho12, hm⟩ := bindE hm
    refine gCalli (ws' := (W_x_was g h0 h1 h2 h3 h4 h5 h6 h7 h8 h9 h10 h11 h12 h13 h14 h15 h16 h17 h18 h19 h20 h21 h22 h23 h24 h25 h26 h27 h28 v_toldIsStale v_latestFinding v_wall_courses v_wall_columns v_wall_fault v_wall_jump v_wall_stones v_hands_told v_hands_fault v_hands_mood v_hands_strong v_frosts_told v_frosts_year v_frosts_force v_gappings_told v_gappings_year v_gappings_column v_gappings_hand v_sights_told v_sights_year v_sights_place v_sights_setter v_trial_all v_trial_losers v_trial_now v_trial_stones v_trial_standing v_trial_open v_trial_fallen)) C0 hw (gRunS (As := [.int a1]) (rest := []) C0 hw lkX8_90 (c_x_isEither l g H.size  a1 o12 ho12) ⟨rfl, rfl⟩ ⟨Nat.le_of_ble_eq_true rfl, Nat.le_of_ble_eq_true rfl⟩ [] (by decide) rfl rfl hl.1 rfl (Nat.le_of_ble_eq_true rfl) dX8_was_12) [] [0, 1, 2, 3, 4, 5, 6, 7, 8, 9, 10, 11, 12, 13, 14, 15, 16, 17, 18, 19, 20, 21, 22] rfl rfl ⟨rfl, rfl, rfl, rfl, rfl, rfl, rfl, rfl, rfl, rfl, rfl, rfl, rfl, rfl, rfl, rfl, rfl, rfl, rfl, rfl, rfl, rfl, rfl, trivial⟩ [h0, h1, h2, h3, h4, h5, h6, h7, h8, h9, h10, h11, h12, h13, h14, h15, h16, h17, h18, h19, h20, h21, h22] rfl rfl 23 rfl (by decide +kernel) (fun H locs hw => ?_)
    refine lv_if_ne (tgt := 21) hx hb dX8_was_15 (by decide) (fun hc => ?_) (fun hc => ?_)
    · have hm := ineg hc hm
      refine lv_iload_n hx hb dX8_was_21 rfl (lv_at hl 2 rfl) ?_
      refine lv_if_ne (tgt := 35) hx hb dX8_was_22 (by decide) (fun hc => ?_) (fun hc => ?_)
      · have hm := ineg hc hm
        refine lv_aload_n hx hb dX8_was_35 rfl (lv_at hl 0 rfl) ?_
        refine gGet C0 hw flX8_31 0 rfl rfl dX8_was_36 ?_
        refine gGet C0 hw flX8_130 3 rfl rfl dX8_was_39 ?_
        exact n_x_was_N42_0 C0  _ _ _ _ _ _ _ _ _ _ _ hm _ _ _ hw (lv_sub hl [0, 1, 2] rfl)
      · have hm := ipos hc hm
        refine lv_aload_n hx hb dX8_was_25 rfl (lv_at hl 0 rfl) ?_
        refine gGet C0 hw flX8_31 0 rfl rfl dX8_was_26 ?_
        refine gGet C0 hw flX8_133 3 rfl rfl dX8_was_29 ?_
        refine lv_goto (tgt := 42) hx hb dX8_was_32 (by decide) ?_
        exact n_x_was_N42_1 C0  _ _ _ _ _ _ _ _ _ _ _ hm _ _ _ hw (lv_sub hl [0, 1, 2] rfl)
    · have hm := ipos hc hm
      refine lv_bipush (v := -2) hx hb dX8_was_18 (by decide) ?_
      have hm := Option.some.inj hm
      subst hm
      exact gRetI C0 hw dX8_was_20

-- WallHands.mostAlike(II)I
abbrev W_x_mostAlike (g : gG) (h0 h1 h2 h3 h4 h5 h6 h7 h8 h9 h10 h11 h12 : Nat) (v_toldIsStale : Int32) (v_latestFinding : Int32) (v_stood : Nat → Int32) : va_W := [(h0, .inr (8, [.ref h2, .ref h3, .ref h4, .ref h5, .ref h6, .ref h7, .ref h8, .ref h9, .ref h10, .ref h11, .ref h12, .ref h1, .int v_toldIsStale, .int v_latestFinding])), (h1, .inl (gI g, 180, .inl v_stood))]

abbrev rm_x_mostAlike : Room := { frames := 1, cells := 0, slots := 0, locals := 21 }

set_option maxHeartbeats 1000000 in
set_option maxRecDepth 100000 in
theorem n_x_mostAlike_N17 {p : Program} {l : Launch} {e : Env} {s : State} {m : MethodId} {args : Array Value} {below : List Frame} {meth : Method} {c : Code} {A : Nat → Prop} {g : gG} {h0 h1 h2 h3 h4 h5 h6 h7 h8 h9 h10 h11 h12 : Nat} {v_toldIsStale : Int32} {v_latestFinding : Int32} {v_stood : Nat → Int32} {k5 : Int32 → Int32 → Int32 → Int32 → Option Int32} {k17 : Int32 → Int32 → Int32 → Int32 → Int32 → Int32 → Option Int32} {r : Int32} (C0 : gX p s m args meth c cX8_mostAlike 7 (some .int) RX8 g A) (hk5 : ∀ (x1 : Int32) (x2 : Int32) (x3 : Int32) (x4 : Int32), k5 x1 x2 x3 x4 = some r → ∀ (H : Heap) (locs : List Loc) (ls : Array Slot), gW g A s (W_x_mostAlike g h0 h1 h2 h3 h4 h5 h6 h7 h8 h9 h10 h11 h12 v_toldIsStale v_latestFinding v_stood) H locs → lv_has ls 7 [(0, .ref h0), (1, .int x1), (2, .int x2), (3, .int x3), (4, .int x4)] → W p l e rm_x_mostAlike s m args below meth c H locs 0 0 (gQi below args s A g r (W_x_mostAlike g h0 h1 h2 h3 h4 h5 h6 h7 h8 h9 h10 h11 h12 v_toldIsStale v_latestFinding v_stood)) (F0 m 5 ls [])) (hk17 : ∀ (x1 : Int32) (x2 : Int32) (x3 : Int32) (x4 : Int32) (x5 : Int32) (x6 : Int32), k17 x1 x2 x3 x4 x5 x6 = some r → ∀ (H : Heap) (locs : List Loc) (ls : Array Slot), gW g A s (W_x_mostAlike g h0 h1 h2 h3 h4 h5 h6 h7 h8 h9 h10 h11 h12 v_toldIsStale v_latestFinding v_stood) H locs → lv_has ls 7 [(0, .ref h0), (1, .int x1), (2, .int x2), (3, .int x3), (4, .int x4), (5, .int x5), (6, .int x6)] → W p l e rm_x_mostAlike s m args below meth c H locs 0 0 (gQi below args s A g r (W_x_mostAlike g h0 h1 h2 h3 h4 h5 h6 h7 h8 h9 h10 h11 h12 v_toldIsStale v_latestFinding v_stood)) (F0 m 17 ls [])) : ∀ (x1 : Int32) (x2 : Int32) (x3 : Int32) (x4 : Int32) (x5 : Int32) (x6 : Int32), f_x_mostAlike_N17 v_stood k5 k17 x1 x2 x3 x4 x5 x6 = some r → ∀ (H : Heap) (locs : List Loc) (ls : Array Slot), gW g A s (W_x_mostAlike g h0 h1 h2 h3 h4 h5 h6 h7 h8 h9 h10 h11 h12 v_toldIsStale v_latestFinding v_stood) H locs → lv_has ls 7 [(0, .ref h0), (1, .int x1), (2, .int x2), (3, .int x3), (4, .int x4), (5, .int x5), (6, .int x6)] → W p l e rm_x_mostAlike s m args below meth c H locs 0 0 (gQi below args s A g r (W_x_mostAlike g h0 h1 h2 h3 h4 h5 h6 h7 h8 h9 h10 h11 h12 v_toldIsStale v_latestFinding v_stood)) (F0 m 17 ls []) := by
  intro x1 x2 x3 x4 x5 x6 hm H locs ls hw hl
  unfold f_x_mostAlike_N17 at hm
  obtain ⟨hx, hb, hr, hml, hown, hts, hlocks, hK, hA⟩ := id C0
  refine lv_iload hx hb dX8_mostAlike_17 (lv_at hl 6 rfl) ?_
  refine lv_iload_n hx hb dX8_mostAlike_19 rfl (lv_at hl 1 rfl) ?_
  refine lv_icmp_ge (tgt := 59) hx hb dX8_mostAlike_20 (by decide) (fun hc => ?_) (fun hc => ?_)
  · have hm := ipos hc hm
    refine lv_iload_n hx hb dX8_mostAlike_59 rfl (lv_at hl 3 rfl) ?_
    refine lv_iload hx hb dX8_mostAlike_60 (lv_at hl 5 rfl) ?_
    refine gMax C0 hl.1 mlX8_354 ms_max mi_math mc_max (Nat.le_of_ble_eq_true rfl) (Nat.le_of_ble_eq_true rfl) dX8_mostAlike_62 ?_
    refine lv_istore_n (lv' := [(3, .int (mmax x3 x5)), (0, .ref h0), (1, .int x1), (2, .int x2), (4, .int x4), (5, .int x5), (6, .int x6)]) hx hb dX8_mostAlike_65 rfl hl (by decide) rfl (fun ls hl => ?_)
    refine lv_iinc (v := x4 + (1 : Int32)) (lv' := [(4, .int (x4 + (1 : Int32))), (3, .int (mmax x3 x5)), (0, .ref h0), (1, .int x1), (2, .int x2), (5, .int x5), (6, .int x6)]) hx hb dX8_mostAlike_66 hl (k := 4) rfl rfl (by decide) rfl (fun ls hl => ?_)
    refine lv_goto (tgt := 5) hx hb dX8_mostAlike_69 (by decide) ?_
    exact hk5 _ _ _ _ hm _ _ _ hw (lv_sub hl [2, 3, 4, 1, 0] rfl)
  · have hm := ineg hc hm
    refine lv_aload_n hx hb dX8_mostAlike_23 rfl (lv_at hl 0 rfl) ?_
    refine gGet C0 hw flX8_77 0 rfl rfl dX8_mostAlike_24 ?_
    refine lv_iload hx hb dX8_mostAlike_27 (lv_at hl 4 rfl) ?_
    refine lv_bipush (v := 20) hx hb dX8_mostAlike_29 (by decide) ?_
    refine lv_imul hx hb dX8_mostAlike_31 ?_
    refine lv_iload_n hx hb dX8_mostAlike_32 rfl (lv_at hl 2 rfl) ?_
    refine lv_iadd hx hb dX8_mostAlike_33 ?_
    obtain ⟨hin, hm⟩ := gdE hm
    have hin := inbE hin
    refine gAldI C0 hw 1 rfl hin dX8_mostAlike_34 ?_
    refine lv_aload_n hx hb dX8_mostAlike_35 rfl (lv_at hl 0 rfl) ?_
    refine gGet C0 hw flX8_77 0 rfl rfl dX8_mostAlike_36 ?_
    refine lv_iload hx hb dX8_mostAlike_39 (lv_at hl 6 rfl) ?_
    refine lv_bipush (v := 20) hx hb dX8_mostAlike_41 (by decide) ?_
    refine lv_imul hx hb dX8_mostAlike_43 ?_
    refine lv_iload_n hx hb dX8_mostAlike_44 rfl (lv_at hl 2 rfl) ?_
    refine lv_iadd hx hb dX8_mostAlike_45 ?_
    obtain ⟨hin, hm⟩ := gdE hm
    have hin := inbE hin
    refine gAldI C0 hw 1 rfl hin dX8_mostAlike_46 ?_
    refine lv_icmp_ne (tgt := 53) hx hb dX8_mostAlike_47 (by decide) (fun hc => ?_) (fun hc => ?_)
    · have hm := ineg hc hm
      refine lv_iinc (v := x6 + (1 : Int32)) (lv' := [(6, .int (x6 + (1 : Int32))), (0, .ref h0), (1, .int x1), (2, .int x2), (3, .int x3), (4, .int x4), (5, .int x5)]) hx hb dX8_mostAlike_53 hl (k := 6) rfl rfl (by decide) rfl (fun ls hl => ?_)
      refine lv_goto (tgt := 17) hx hb dX8_mostAlike_56 (by decide) ?_
      exact hk17 _ _ _ _ _ _ hm _ _ _ hw (lv_sub hl [1, 2, 3, 4, 5, 6, 0] rfl)
    · have hm := ipos hc hm
      refine lv_iinc (v := x5 + (1 : Int32)) (lv' := [(5, .int (x5 + (1 : Int32))), (0, .ref h0), (1, .int x1), (2, .int x2), (3, .int x3), (4, .int x4), (6, .int x6)]) hx hb dX8_mostAlike_50 hl (k := 5) rfl rfl (by decide) rfl (fun ls hl => ?_)
      refine lv_iinc (v := x6 + (1 : Int32)) (lv' := [(6, .int (x6 + (1 : Int32))), (5, .int (x5 + (1 : Int32))), (0, .ref h0), (1, .int x1), (2, .int x2), (3, .int x3), (4, .int x4)]) hx hb dX8_mostAlike_53 hl (k := 6) rfl rfl (by decide) rfl (fun ls hl => ?_)
      refine lv_goto (tgt := 17) hx hb dX8_mostAlike_56 (by decide) ?_
      exact hk17 _ _ _ _ _ _ hm _ _ _ hw (lv_sub hl [2, 3, 4, 5, 6, 1, 0] rfl)
set_option maxHeartbeats 1000000 in
set_option maxRecDepth 100000 in
theorem l_x_mostAlike_N17 {p : Program} {l : Launch} {e : Env} {s : State} {m : MethodId} {args : Array Value} {below : List Frame} {meth : Method} {c : Code} {A : Nat → Prop} {g : gG} {h0 h1 h2 h3 h4 h5 h6 h7 h8 h9 h10 h11 h12 : Nat} {v_toldIsStale : Int32} {v_latestFinding : Int32} {v_stood : Nat → Int32} {k5 : Int32 → Int32 → Int32 → Int32 → Option Int32} {r : Int32} (C0 : gX p s m args meth c cX8_mostAlike 7 (some .int) RX8 g A) (hk5 : ∀ (x1 : Int32) (x2 : Int32) (x3 : Int32) (x4 : Int32), k5 x1 x2 x3 x4 = some r → ∀ (H : Heap) (locs : List Loc) (ls : Array Slot), gW g A s (W_x_mostAlike g h0 h1 h2 h3 h4 h5 h6 h7 h8 h9 h10 h11 h12 v_toldIsStale v_latestFinding v_stood) H locs → lv_has ls 7 [(0, .ref h0), (1, .int x1), (2, .int x2), (3, .int x3), (4, .int x4)] → W p l e rm_x_mostAlike s m args below meth c H locs 0 0 (gQi below args s A g r (W_x_mostAlike g h0 h1 h2 h3 h4 h5 h6 h7 h8 h9 h10 h11 h12 v_toldIsStale v_latestFinding v_stood)) (F0 m 5 ls [])) : ∀ n : Nat, ∀ (x1 : Int32) (x2 : Int32) (x3 : Int32) (x4 : Int32) (x5 : Int32) (x6 : Int32), iter (fun _ _ _ _ _ _ => none) (f_x_mostAlike_N17 v_stood k5) n x1 x2 x3 x4 x5 x6 = some r → ∀ (H : Heap) (locs : List Loc) (ls : Array Slot), gW g A s (W_x_mostAlike g h0 h1 h2 h3 h4 h5 h6 h7 h8 h9 h10 h11 h12 v_toldIsStale v_latestFinding v_stood) H locs → lv_has ls 7 [(0, .ref h0), (1, .int x1), (2, .int x2), (3, .int x3), (4, .int x4), (5, .int x5), (6, .int x6)] → W p l e rm_x_mostAlike s m args below meth c H locs 0 0 (gQi below args s A g r (W_x_mostAlike g h0 h1 h2 h3 h4 h5 h6 h7 h8 h9 h10 h11 h12 v_toldIsStale v_latestFinding v_stood)) (F0 m 17 ls []) := by
  intro n
  induction n with
  | zero =>
    intro x1 x2 x3 x4 x5 x6 hm
    cases hm
  | succ n ih =>
    exact n_x_mostAlike_N17 C0 hk5 ih
set_option maxHeartbeats 1000000 in
set_option maxRecDepth 100000 in
theorem n_x_mostAlike_N5 {p : Program} {l : Launch} {e : Env} {s : State} {m : MethodId} {args : Array Value} {below : List Frame} {meth : Method} {c : Code} {A : Nat → Prop} {g : gG} {h0 h1 h2 h3 h4 h5 h6 h7 h8 h9 h10 h11 h12 : Nat} {v_toldIsStale : Int32} {v_latestFinding : Int32} {v_stood : Nat → Int32} {k5 : Int32 → Int32 → Int32 → Int32 → Option Int32} {r : Int32} (C0 : gX p s m args meth c cX8_mostAlike 7 (some .int) RX8 g A) (hk5 : ∀ (x1 : Int32) (x2 : Int32) (x3 : Int32) (x4 : Int32), k5 x1 x2 x3 x4 = some r → ∀ (H : Heap) (locs : List Loc) (ls : Array Slot), gW g A s (W_x_mostAlike g h0 h1 h2 h3 h4 h5 h6 h7 h8 h9 h10 h11 h12 v_toldIsStale v_latestFinding v_stood) H locs → lv_has ls 7 [(0, .ref h0), (1, .int x1), (2, .int x2), (3, .int x3), (4, .int x4)] → W p l e rm_x_mostAlike s m args below meth c H locs 0 0 (gQi below args s A g r (W_x_mostAlike g h0 h1 h2 h3 h4 h5 h6 h7 h8 h9 h10 h11 h12 v_toldIsStale v_latestFinding v_stood)) (F0 m 5 ls [])) : ∀ (x1 : Int32) (x2 : Int32) (x3 : Int32) (x4 : Int32), f_x_mostAlike_N5 v_stood k5 x1 x2 x3 x4 = some r → ∀ (H : Heap) (locs : List Loc) (ls : Array Slot), gW g A s (W_x_mostAlike g h0 h1 h2 h3 h4 h5 h6 h7 h8 h9 h10 h11 h12 v_toldIsStale v_latestFinding v_stood) H locs → lv_has ls 7 [(0, .ref h0), (1, .int x1), (2, .int x2), (3, .int x3), (4, .int x4)] → W p l e rm_x_mostAlike s m args below meth c H locs 0 0 (gQi below args s A g r (W_x_mostAlike g h0 h1 h2 h3 h4 h5 h6 h7 h8 h9 h10 h11 h12 v_toldIsStale v_latestFinding v_stood)) (F0 m 5 ls []) := by
  intro x1 x2 x3 x4 hm H locs ls hw hl
  unfold f_x_mostAlike_N5 at hm
  obtain ⟨hx, hb, hr, hml, hown, hts, hlocks, hK, hA⟩ := id C0
  refine lv_iload hx hb dX8_mostAlike_5 (lv_at hl 4 rfl) ?_
  refine lv_iload_n hx hb dX8_mostAlike_7 rfl (lv_at hl 1 rfl) ?_
  refine lv_icmp_ge (tgt := 72) hx hb dX8_mostAlike_8 (by decide) (fun hc => ?_) (fun hc => ?_)
  · have hm := ipos hc hm
    refine lv_iload_n hx hb dX8_mostAlike_72 rfl (lv_at hl 3 rfl) ?_
    have hm := Option.some.inj hm
    subst hm
    exact gRetI C0 hw dX8_mostAlike_73
  · have hm := ineg hc hm
    refine lv_iconst (v := 0) hx hb dX8_mostAlike_11 (by decide) ?_
    refine lv_istore (lv' := [(5, .int (0 : Int32)), (0, .ref h0), (1, .int x1), (2, .int x2), (3, .int x3), (4, .int x4)]) hx hb dX8_mostAlike_12 hl (by decide) rfl (fun ls hl => ?_)
    refine lv_iconst (v := 0) hx hb dX8_mostAlike_14 (by decide) ?_
    refine lv_istore (lv' := [(6, .int (0 : Int32)), (5, .int (0 : Int32)), (0, .ref h0), (1, .int x1), (2, .int x2), (3, .int x3), (4, .int x4)]) hx hb dX8_mostAlike_15 hl (by decide) rfl (fun ls hl => ?_)
    exact l_x_mostAlike_N17 C0 hk5 1000 _ _ _ _ _ _ hm _ _ _ hw (lv_sub hl [2, 3, 4, 5, 6, 1, 0] rfl)
set_option maxHeartbeats 1000000 in
set_option maxRecDepth 100000 in
theorem l_x_mostAlike_N5 {p : Program} {l : Launch} {e : Env} {s : State} {m : MethodId} {args : Array Value} {below : List Frame} {meth : Method} {c : Code} {A : Nat → Prop} {g : gG} {h0 h1 h2 h3 h4 h5 h6 h7 h8 h9 h10 h11 h12 : Nat} {v_toldIsStale : Int32} {v_latestFinding : Int32} {v_stood : Nat → Int32} {r : Int32} (C0 : gX p s m args meth c cX8_mostAlike 7 (some .int) RX8 g A) : ∀ n : Nat, ∀ (x1 : Int32) (x2 : Int32) (x3 : Int32) (x4 : Int32), iter (fun _ _ _ _ => none) (f_x_mostAlike_N5 v_stood) n x1 x2 x3 x4 = some r → ∀ (H : Heap) (locs : List Loc) (ls : Array Slot), gW g A s (W_x_mostAlike g h0 h1 h2 h3 h4 h5 h6 h7 h8 h9 h10 h11 h12 v_toldIsStale v_latestFinding v_stood) H locs → lv_has ls 7 [(0, .ref h0), (1, .int x1), (2, .int x2), (3, .int x3), (4, .int x4)] → W p l e rm_x_mostAlike s m args below meth c H locs 0 0 (gQi below args s A g r (W_x_mostAlike g h0 h1 h2 h3 h4 h5 h6 h7 h8 h9 h10 h11 h12 v_toldIsStale v_latestFinding v_stood)) (F0 m 5 ls []) := by
  intro n
  induction n with
  | zero =>
    intro x1 x2 x3 x4 hm
    cases hm
  | succ n ih =>
    exact n_x_mostAlike_N5 C0  ih
set_option maxHeartbeats 1000000 in
set_option maxRecDepth 100000 in
theorem c_x_mostAlike (l : Launch) (g : gG) (sz : Nat) (h0 h1 h2 h3 h4 h5 h6 h7 h8 h9 h10 h11 h12 : Nat) (v_toldIsStale : Int32) (v_latestFinding : Int32) (v_stood : Nat → Int32) (a0 : Int32) (a1 : Int32) (r : Int32) (hm : f_x_mostAlike v_stood a0 a1 = some r) : gMi l yX8_mostAlike cX8_mostAlike 7 (some .int) rm_x_mostAlike g sz [.ref h0, .int a0, .int a1] (W_x_mostAlike g h0 h1 h2 h3 h4 h5 h6 h7 h8 h9 h10 h11 h12 v_toldIsStale v_latestFinding v_stood) r (W_x_mostAlike g h0 h1 h2 h3 h4 h5 h6 h7 h8 h9 h10 h11 h12 v_toldIsStale v_latestFinding v_stood) := by
  unfold f_x_mostAlike at hm
  refine gEnterI (by decide) (Nat.le_of_ble_eq_true rfl) (fun p e s m below meth c A C0 H locs hw ls hl => ?_)
  obtain ⟨hx, hb, hr, hml, hown, hts, hlocks, hK, hA⟩ := id C0
  have C0 : gX p s m [.ref h0, .int a0, .int a1].toArray meth c cX8_mostAlike 7 (some .int) RX8 g A := C0
  have hl : lv_has ls 7 [(0, .ref h0), (1, .int a0), (2, .int a1)] := hl
  refine lv_iconst (v := 0) hx hb dX8_mostAlike_0 (by decide) ?_
  refine lv_istore_n (lv' := [(3, .int (0 : Int32)), (0, .ref h0), (1, .int a0), (2, .int a1)]) hx hb dX8_mostAlike_1 rfl hl (by decide) rfl (fun ls hl => ?_)
  refine lv_iconst (v := 0) hx hb dX8_mostAlike_2 (by decide) ?_
  refine lv_istore (lv' := [(4, .int (0 : Int32)), (3, .int (0 : Int32)), (0, .ref h0), (1, .int a0), (2, .int a1)]) hx hb dX8_mostAlike_3 hl (by decide) rfl (fun ls hl => ?_)
  exact l_x_mostAlike_N5 C0  1000 _ _ _ _ hm _ _ _ hw (lv_sub hl [2, 3, 4, 1, 0] rfl)

-- WallHands.ask(I)I
abbrev W_x_ask (g : gG) (h0 h1 h2 h3 h4 h5 h6 h7 h8 h9 h10 h11 h12 h13 h14 h15 h16 h17 h18 h19 h20 h21 h22 h23 h24 h25 h26 h27 h28 : Nat) (v_toldIsStale : Int32) (v_latestFinding : Int32) (v_wall_courses : Int32) (v_wall_columns : Int32) (v_wall_fault : Int32) (v_wall_jump : Int32) (v_wall_stones : Nat → Int64) (v_hands_told : Int32) (v_hands_fault : Int32) (v_hands_mood : Nat → Int32) (v_hands_strong : Nat → Int32) (v_frosts_told : Int32) (v_frosts_year : Nat → Int32) (v_frosts_force : Nat → Int32) (v_gappings_told : Int32) (v_gappings_year : Nat → Int32) (v_gappings_column : Nat → Int32) (v_gappings_hand : Nat → Int32) (v_sights_told : Int32) (v_sights_year : Nat → Int32) (v_sights_place : Nat → Int32) (v_sights_setter : Nat → Int32) (v_trial_all : Int64) (v_trial_losers : Int32) (v_trial_now : Nat → Int64) (v_trial_stones : Nat → Int64) (v_trial_standing : Nat → Int64) (v_trial_open : Nat → Int32) (v_trial_fallen : Nat → Int32) (v_stood : Nat → Int32) : va_W := [(h0, .inr (8, [.ref h24, .ref h25, .ref h1, .ref h3, .ref h6, .ref h26, .ref h9, .ref h13, .ref h27, .ref h28, .ref h17, .ref h23, .int v_toldIsStale, .int v_latestFinding])), (h1, .inr (6, [.ref h2, .int v_wall_courses, .int v_wall_columns, .int v_wall_fault, .int v_wall_jump])), (h2, .inl (gJ g, 8, .inr (.inl v_wall_stones))), (h3, .inr (2, [.ref h4, .ref h5, .int v_hands_told, .int v_hands_fault])), (h4, .inl (gI g, 8, .inl v_hands_mood)), (h5, .inl (gI g, 8, .inl v_hands_strong)), (h6, .inr (0, [.ref h7, .ref h8, .int v_frosts_told])), (h7, .inl (gI g, 6, .inl v_frosts_year)), (h8, .inl (gI g, 6, .inl v_frosts_force)), (h9, .inr (1, [.ref h10, .ref h11, .ref h12, .int v_gappings_told])), (h10, .inl (gI g, 7, .inl v_gappings_year)), (h11, .inl (gI g, 7, .inl v_gappings_column)), (h12, .inl (gI g, 7, .inl v_gappings_hand)), (h13, .inr (4, [.ref h14, .ref h15, .ref h16, .int v_sights_told])), (h14, .inl (gI g, 8, .inl v_sights_year)), (h15, .inl (gI g, 8, .inl v_sights_place)), (h16, .inl (gI g, 8, .inl v_sights_setter)), (h17, .inr (7, [.ref h1, .ref h3, .ref h9, .ref h18, .long v_trial_all, .ref h19, .ref h20, .ref h21, .ref h22, .int v_trial_losers])), (h18, .inl (gJ g, 8, .inr (.inl v_trial_now))), (h19, .inl (gJ g, 160, .inr (.inl v_trial_stones))), (h20, .inl (gJ g, 20, .inr (.inl v_trial_standing))), (h21, .inl (gI g, 20, .inl v_trial_open)), (h22, .inl (gI g, 20, .inl v_trial_fallen)), (h23, .inl (gI g, 180, .inl v_stood))]

abbrev rm_x_ask : Room := { frames := 4, cells := 0, slots := 0, locals := 112 }

set_option maxHeartbeats 1000000 in
set_option maxRecDepth 100000 in
theorem n_x_ask_N121 {p : Program} {l : Launch} {e : Env} {s : State} {m : MethodId} {args : Array Value} {below : List Frame} {meth : Method} {c : Code} {A : Nat → Prop} {g : gG} {h0 h1 h2 h3 h4 h5 h6 h7 h8 h9 h10 h11 h12 h13 h14 h15 h16 h17 h18 h19 h20 h21 h22 h23 h24 h25 h26 h27 h28 : Nat} {v_toldIsStale : Int32} {v_latestFinding : Int32} {v_wall_courses : Int32} {v_wall_columns : Int32} {v_wall_fault : Int32} {v_wall_jump : Int32} {v_wall_stones : Nat → Int64} {v_hands_told : Int32} {v_hands_fault : Int32} {v_hands_mood : Nat → Int32} {v_frosts_told : Int32} {v_frosts_year : Nat → Int32} {v_frosts_force : Nat → Int32} {v_gappings_told : Int32} {v_gappings_year : Nat → Int32} {v_gappings_column : Nat → Int32} {v_gappings_hand : Nat → Int32} {v_sights_told : Int32} {v_sights_year : Nat → Int32} {v_sights_place : Nat → Int32} {v_sights_setter : Nat → Int32} {k121 : (Nat → Int32) → Int64 → Int32 → (Nat → Int64) → (Nat → Int64) → (Nat → Int64) → (Nat → Int32) → (Nat → Int32) → (Nat → Int32) → Int32 → Int32 → Int32 → Int32 → Option (Int32 × (Nat → Int32) × Int64 × Int32 × (Nat → Int64) × (Nat → Int64) × (Nat → Int64) × (Nat → Int32) × (Nat → Int32) × (Nat → Int32))} {r : (Int32 × (Nat → Int32) × Int64 × Int32 × (Nat → Int64) × (Nat → Int64) × (Nat → Int64) × (Nat → Int32) × (Nat → Int32) × (Nat → Int32))} (C0 : gX p s m args meth c cX8_ask 8 (some .int) RX8 g A) (hk121 : ∀ (v_hands_strong : Nat → Int32) (v_trial_all : Int64) (v_trial_losers : Int32) (v_trial_now : Nat → Int64) (v_trial_stones : Nat → Int64) (v_trial_standing : Nat → Int64) (v_trial_open : Nat → Int32) (v_trial_fallen : Nat → Int32) (v_stood : Nat → Int32) (x3 : Int32) (x4 : Int32) (x5 : Int32) (x6 : Int32), k121 v_hands_strong v_trial_all v_trial_losers v_trial_now v_trial_stones v_trial_standing v_trial_open v_trial_fallen v_stood x3 x4 x5 x6 = some r → ∀ (H : Heap) (locs : List Loc) (ls : Array Slot), gW g A s (W_x_ask g h0 h1 h2 h3 h4 h5 h6 h7 h8 h9 h10 h11 h12 h13 h14 h15 h16 h17 h18 h19 h20 h21 h22 h23 h24 h25 h26 h27 h28 v_toldIsStale v_latestFinding v_wall_courses v_wall_columns v_wall_fault v_wall_jump v_wall_stones v_hands_told v_hands_fault v_hands_mood v_hands_strong v_frosts_told v_frosts_year v_frosts_force v_gappings_told v_gappings_year v_gappings_column v_gappings_hand v_sights_told v_sights_year v_sights_place v_sights_setter v_trial_all v_trial_losers v_trial_now v_trial_stones v_trial_standing v_trial_open v_trial_fallen v_stood) H locs → lv_has ls 8 [(0, .ref h0), (3, .int x3), (4, .int x4), (5, .int x5), (6, .int x6)] → W p l e rm_x_ask s m args below meth c H locs 0 0 (gQi below args s A g r.1 (W_x_ask g h0 h1 h2 h3 h4 h5 h6 h7 h8 h9 h10 h11 h12 h13 h14 h15 h16 h17 h18 h19 h20 h21 h22 h23 h24 h25 h26 h27 h28 v_toldIsStale v_latestFinding v_wall_courses v_wall_columns v_wall_fault v_wall_jump v_wall_stones v_hands_told v_hands_fault v_hands_mood r.2.1 v_frosts_told v_frosts_year v_frosts_force v_gappings_told v_gappings_year v_gappings_column v_gappings_hand v_sights_told v_sights_year v_sights_place v_sights_setter r.2.2.1 r.2.2.2.1 r.2.2.2.2.1 r.2.2.2.2.2.1 r.2.2.2.2.2.2.1 r.2.2.2.2.2.2.2.1 r.2.2.2.2.2.2.2.2.1 r.2.2.2.2.2.2.2.2.2)) (F0 m 121 ls [])) : ∀ (v_hands_strong : Nat → Int32) (v_trial_all : Int64) (v_trial_losers : Int32) (v_trial_now : Nat → Int64) (v_trial_stones : Nat → Int64) (v_trial_standing : Nat → Int64) (v_trial_open : Nat → Int32) (v_trial_fallen : Nat → Int32) (v_stood : Nat → Int32) (x3 : Int32) (x4 : Int32) (x5 : Int32) (x6 : Int32), f_x_ask_N121 v_wall_courses v_wall_columns v_wall_jump v_wall_stones v_hands_told v_hands_mood v_frosts_told v_frosts_year v_frosts_force v_gappings_told v_gappings_year v_gappings_column v_gappings_hand v_sights_told v_sights_year v_sights_place v_sights_setter k121 v_hands_strong v_trial_all v_trial_losers v_trial_now v_trial_stones v_trial_standing v_trial_open v_trial_fallen v_stood x3 x4 x5 x6 = some r → ∀ (H : Heap) (locs : List Loc) (ls : Array Slot), gW g A s (W_x_ask g h0 h1 h2 h3 h4 h5 h6 h7 h8 h9 h10 h11 h12 h13 h14 h15 h16 h17 h18 h19 h20 h21 h22 h23 h24 h25 h26 h27 h28 v_toldIsStale v_latestFinding v_wall_courses v_wall_columns v_wall_fault v_wall_jump v_wall_stones v_hands_told v_hands_fault v_hands_mood v_hands_strong v_frosts_told v_frosts_year v_frosts_force v_gappings_told v_gappings_year v_gappings_column v_gappings_hand v_sights_told v_sights_year v_sights_place v_sights_setter v_trial_all v_trial_losers v_trial_now v_trial_stones v_trial_standing v_trial_open v_trial_fallen v_stood) H locs → lv_has ls 8 [(0, .ref h0), (3, .int x3), (4, .int x4), (5, .int x5), (6, .int x6)] → W p l e rm_x_ask s m args below meth c H locs 0 0 (gQi below args s A g r.1 (W_x_ask g h0 h1 h2 h3 h4 h5 h6 h7 h8 h9 h10 h11 h12 h13 h14 h15 h16 h17 h18 h19 h20 h21 h22 h23 h24 h25 h26 h27 h28 v_toldIsStale v_latestFinding v_wall_courses v_wall_columns v_wall_fault v_wall_jump v_wall_stones v_hands_told v_hands_fault v_hands_mood r.2.1 v_frosts_told v_frosts_year v_frosts_force v_gappings_told v_gappings_year v_gappings_column v_gappings_hand v_sights_told v_sights_year v_sights_place v_sights_setter r.2.2.1 r.2.2.2.1 r.2.2.2.2.1 r.2.2.2.2.2.1 r.2.2.2.2.2.2.1 r.2.2.2.2.2.2.2.1 r.2.2.2.2.2.2.2.2.1 r.2.2.2.2.2.2.2.2.2)) (F0 m 121 ls []) := by
  intro v_hands_strong v_trial_all v_trial_losers v_trial_now v_trial_stones v_trial_standing v_trial_open v_trial_fallen v_stood x3 x4 x5 x6 hm H locs ls hw hl
  unfold f_x_ask_N121 at hm
  obtain ⟨hx, hb, hr, hml, hown, hts, hlocks, hK, hA⟩ := id C0
  refine lv_iload hx hb dX8_ask_121 (lv_at hl 4 rfl) ?_
  refine lv_bipush (v := 20) hx hb dX8_ask_123 (by decide) ?_
  refine lv_icmp_ge (tgt := 158) hx hb dX8_ask_125 (by decide) (fun hc => ?_) (fun hc => ?_)
  · have hm := ipos hc hm
    refine lv_iload hx hb dX8_ask_158 (lv_at hl 2 rfl) ?_
    have hm := Option.some.inj hm
    subst hm
    exact gRetI C0 hw dX8_ask_160
  · have hm := ineg hc hm
    refine lv_aload_n hx hb dX8_ask_128 rfl (lv_at hl 0 rfl) ?_
    refine lv_iload_n hx hb dX8_ask_129 rfl (lv_at hl 1 rfl) ?_
    refine lv_iload hx hb dX8_ask_130 (lv_at hl 4 rfl) ?_
    obtain ⟨o132, ho132, hm⟩ := bindE hm
    refine gCalli (ws' := (W_x_ask g h0 h1 h2 h3 h4 h5 h6 h7 h8 h9 h10 h11 h12 h13 h14 h15 h16 h17 h18 h19 h20 h21 h22 h23 h24 h25 h26 h27 h28 v_toldIsStale v_latestFinding v_wall_courses v_wall_columns v_wall_fault v_wall_jump v_wall_stones v_hands_told v_hands_fault v_hands_mood v_hands_strong v_frosts_told v_frosts_year v_frosts_force v_gappings_told v_gappings_year v_gappings_column v_gappings_hand v_sights_told v_sights_year v_sights_place v_sights_setter v_trial_all v_trial_losers v_trial_now v_trial_stones v_trial_standing v_trial_open v_trial_fallen v_stood)) C0 hw (gRunV (As := [.int x3, .int x6]) (rest := []) C0 hw lkX8_244 (c_x_mostAlike l g H.size h0 h23 h24 h25 h1 h3 h6 h26 h9 h13 h27 h28 h17 v_toldIsStale v_latestFinding v_stood x3 x6 o132 ho132) ⟨rfl, rfl⟩ ⟨Nat.le_of_ble_eq_true rfl, Nat.le_of_ble_eq_true rfl⟩ [0, 23] (by decide) rfl 0 rfl rfl rfl hl.1 rfl (Nat.le_of_ble_eq_true rfl) dX8_ask_132) [0, 23] [1, 2, 3, 4, 5, 6, 7, 8, 9, 10, 11, 12, 13, 14, 15, 16, 17, 18, 19, 20, 21, 22] rfl rfl ⟨rfl, rfl, rfl, rfl, rfl, rfl, rfl, rfl, rfl, rfl, rfl, rfl, rfl, rfl, rfl, rfl, rfl, rfl, rfl, rfl, rfl, rfl, trivial⟩ [h0, h1, h2, h3, h4, h5, h6, h7, h8, h9, h10, h11, h12, h13, h14, h15, h16, h17, h18, h19, h20, h21, h22, h23] rfl rfl 24 rfl (by decide +kernel) (fun H locs hw => ?_)
    refine lv_istore (lv' := [(7, .int o132), (0, .ref h0), (3, .int x3), (4, .int x4), (5, .int x5), (6, .int x6)]) hx hb dX8_ask_135 hl (by decide) rfl (fun ls hl => ?_)
    refine lv_iload hx hb dX8_ask_137 (lv_at hl 0 rfl) ?_
    refine lv_iload hx hb dX8_ask_139 (lv_at hl 4 rfl) ?_
    refine lv_icmp_ge (tgt := 152) hx hb dX8_ask_141 (by decide) (fun hc => ?_) (fun hc => ?_)
    · have hm := ipos hc hm
      refine lv_iinc (v := x6 + (1 : Int32)) (lv' := [(6, .int (x6 + (1 : Int32))), (7, .int o132), (0, .ref h0), (3, .int x3), (4, .int x4), (5, .int x5)]) hx hb dX8_ask_152 hl (k := 5) rfl rfl (by decide) rfl (fun ls hl => ?_)
      refine lv_goto (tgt := 121) hx hb dX8_ask_155 (by decide) ?_
      exact hk121 _ _ _ _ _ _ _ _ _ _ _ _ _ hm _ _ _ hw (lv_sub hl [2, 3, 4, 5, 0] rfl)
    · have hm := ineg hc hm
      refine lv_iload hx hb dX8_ask_144 (lv_at hl 0 rfl) ?_
      refine lv_istore (lv' := [(5, .int o132), (7, .int o132), (0, .ref h0), (3, .int x3), (4, .int x4), (6, .int x6)]) hx hb dX8_ask_146 hl (by decide) rfl (fun ls hl => ?_)
      refine lv_iload hx hb dX8_ask_148 (lv_at hl 5 rfl) ?_
      refine lv_istore (lv' := [(4, .int x6), (5, .int o132), (7, .int o132), (0, .ref h0), (3, .int x3), (6, .int x6)]) hx hb dX8_ask_150 hl (by decide) rfl (fun ls hl => ?_)
      refine lv_iinc (v := x6 + (1 : Int32)) (lv' := [(6, .int (x6 + (1 : Int32))), (4, .int x6), (5, .int o132), (7, .int o132), (0, .ref h0), (3, .int x3)]) hx hb dX8_ask_152 hl (k := 5) rfl rfl (by decide) rfl (fun ls hl => ?_)
      refine lv_goto (tgt := 121) hx hb dX8_ask_155 (by decide) ?_
      exact hk121 _ _ _ _ _ _ _ _ _ _ _ _ _ hm _ _ _ hw (lv_sub hl [4, 5, 1, 2, 0] rfl)
set_option maxHeartbeats 1000000 in
set_option maxRecDepth 100000 in
theorem l_x_ask_N121 {p : Program} {l : Launch} {e : Env} {s : State} {m : MethodId} {args : Array Value} {below : List Frame} {meth : Method} {c : Code} {A : Nat → Prop} {g : gG} {h0 h1 h2 h3 h4 h5 h6 h7 h8 h9 h10 h11 h12 h13 h14 h15 h16 h17 h18 h19 h20 h21 h22 h23 h24 h25 h26 h27 h28 : Nat} {v_toldIsStale : Int32} {v_latestFinding : Int32} {v_wall_courses : Int32} {v_wall_columns : Int32} {v_wall_fault : Int32} {v_wall_jump : Int32} {v_wall_stones : Nat → Int64} {v_hands_told : Int32} {v_hands_fault : Int32} {v_hands_mood : Nat → Int32} {v_frosts_told : Int32} {v_frosts_year : Nat → Int32} {v_frosts_force : Nat → Int32} {v_gappings_told : Int32} {v_gappings_year : Nat → Int32} {v_gappings_column : Nat → Int32} {v_gappings_hand : Nat → Int32} {v_sights_told : Int32} {v_sights_year : Nat → Int32} {v_sights_place : Nat → Int32} {v_sights_setter : Nat → Int32} {r : (Int32 × (Nat → Int32) × Int64 × Int32 × (Nat → Int64) × (Nat → Int64) × (Nat → Int64) × (Nat → Int32) × (Nat → Int32) × (Nat → Int32))} (C0 : gX p s m args meth c cX8_ask 8 (some .int) RX8 g A) : ∀ n : Nat, ∀ (v_hands_strong : Nat → Int32) (v_trial_all : Int64) (v_trial_losers : Int32) (v_trial_now : Nat → Int64) (v_trial_stones : Nat → Int64) (v_trial_standing : Nat → Int64) (v_trial_open : Nat → Int32) (v_trial_fallen : Nat → Int32) (v_stood : Nat → Int32) (x3 : Int32) (x4 : Int32) (x5 : Int32) (x6 : Int32), iter (fun _ _ _ _ _ _ _ _ _ _ _ _ _ => none) (f_x_ask_N121 v_wall_courses v_wall_columns v_wall_jump v_wall_stones v_hands_told v_hands_mood v_frosts_told v_frosts_year v_frosts_force v_gappings_told v_gappings_year v_gappings_column v_gappings_hand v_sights_told v_sights_year v_sights_place v_sights_setter) n v_hands_strong v_trial_all v_trial_losers v_trial_now v_trial_stones v_trial_standing v_trial_open v_trial_fallen v_stood x3 x4 x5 x6 = some r → ∀ (H : Heap) (locs : List Loc) (ls : Array Slot), gW g A s (W_x_ask g h0 h1 h2 h3 h4 h5 h6 h7 h8 h9 h10 h11 h12 h13 h14 h15 h16 h17 h18 h19 h20 h21 h22 h23 h24 h25 h26 h27 h28 v_toldIsStale v_latestFinding v_wall_courses v_wall_columns v_wall_fault v_wall_jump v_wall_stones v_hands_told v_hands_fault v_hands_mood v_hands_strong v_frosts_told v_frosts_year v_frosts_force v_gappings_told v_gappings_year v_gappings_column v_gappings_hand v_sights_told v_sights_year v_sights_place v_sights_setter v_trial_all v_trial_losers v_trial_now v_trial_stones v_trial_standing v_trial_open v_trial_fallen v_stood) H locs → lv_has ls 8 [(0, .ref h0), (3, .int x3), (4, .int x4), (5, .int x5), (6, .int x6)] → W p l e rm_x_ask s m args below meth c H locs 0 0 (gQi below args s A g r.1 (W_x_ask g h0 h1 h2 h3 h4 h5 h6 h7 h8 h9 h10 h11 h12 h13 h14 h15 h16 h17 h18 h19 h20 h21 h22 h23 h24 h25 h26 h27 h28 v_toldIsStale v_latestFinding v_wall_courses v_wall_columns v_wall_fault v_wall_jump v_wall_stones v_hands_told v_hands_fault v_hands_mood r.2.1 v_frosts_told v_frosts_year v_frosts_force v_gappings_told v_gappings_year v_gappings_column v_gappings_hand v_sights_told v_sights_year v_sights_place v_sights_setter r.2.2.1 r.2.2.2.1 r.2.2.2.2.1 r.2.2.2.2.2.1 r.2.2.2.2.2.2.1 r.2.2.2.2.2.2.2.1 r.2.2.2.2.2.2.2.2.1 r.2.2.2.2.2.2.2.2.2)) (F0 m 121 ls []) := by
  intro n
  induction n with
  | zero =>
    intro v_hands_strong v_trial_all v_trial_losers v_trial_now v_trial_stones v_trial_standing v_trial_open v_trial_fallen v_stood x3 x4 x5 x6 hm
    cases hm
  | succ n ih =>
    exact n_x_ask_N121 C0  ih
set_option maxHeartbeats 1000000 in
set_option maxRecDepth 100000 in
theorem n_x_ask_N29 {p : Program} {l : Launch} {e : Env} {s : State} {m : MethodId} {args : Array Value} {below : List Frame} {meth : Method} {c : Code} {A : Nat → Prop} {g : gG} {h0 h1 h2 h3 h4 h5 h6 h7 h8 h9 h10 h11 h12 h13 h14 h15 h16 h17 h18 h19 h20 h21 h22 h23 h24 h25 h26 h27 h28 : Nat} {v_toldIsStale : Int32} {v_latestFinding : Int32} {v_wall_courses : Int32} {v_wall_columns : Int32} {v_wall_fault : Int32} {v_wall_jump : Int32} {v_wall_stones : Nat → Int64} {v_hands_told : Int32} {v_hands_fault : Int32} {v_hands_mood : Nat → Int32} {v_frosts_told : Int32} {v_frosts_year : Nat → Int32} {v_frosts_force : Nat → Int32} {v_gappings_told : Int32} {v_gappings_year : Nat → Int32} {v_gappings_column : Nat → Int32} {v_gappings_hand : Nat → Int32} {v_sights_told : Int32} {v_sights_year : Nat → Int32} {v_sights_place : Nat → Int32} {v_sights_setter : Nat → Int32} {k29 : (Nat → Int32) → Int64 → Int32 → (Nat → Int64) → (Nat → Int64) → (Nat → Int64) → (Nat → Int32) → (Nat → Int32) → (Nat → Int32) → Int32 → Int32 → Int32 → Int32 → Option (Int32 × (Nat → Int32) × Int64 × Int32 × (Nat → Int64) × (Nat → Int64) × (Nat → Int64) × (Nat → Int32) × (Nat → Int32) × (Nat → Int32))} {r : (Int32 × (Nat → Int32) × Int64 × Int32 × (Nat → Int64) × (Nat → Int64) × (Nat → Int64) × (Nat → Int32) × (Nat → Int32) × (Nat → Int32))} (C0 : gX p s m args meth c cX8_ask 8 (some .int) RX8 g A) (hk29 : ∀ (v_hands_strong : Nat → Int32) (v_trial_all : Int64) (v_trial_losers : Int32) (v_trial_now : Nat → Int64) (v_trial_stones : Nat → Int64) (v_trial_standing : Nat → Int64) (v_trial_open : Nat → Int32) (v_trial_fallen : Nat → Int32) (v_stood : Nat → Int32) (x1 : Int32) (x2 : Int32) (x3 : Int32) (x4 : Int32), k29 v_hands_strong v_trial_all v_trial_losers v_trial_now v_trial_stones v_trial_standing v_trial_open v_trial_fallen v_stood x1 x2 x3 x4 = some r → ∀ (H : Heap) (locs : List Loc) (ls : Array Slot), gW g A s (W_x_ask g h0 h1 h2 h3 h4 h5 h6 h7 h8 h9 h10 h11 h12 h13 h14 h15 h16 h17 h18 h19 h20 h21 h22 h23 h24 h25 h26 h27 h28 v_toldIsStale v_latestFinding v_wall_courses v_wall_columns v_wall_fault v_wall_jump v_wall_stones v_hands_told v_hands_fault v_hands_mood v_hands_strong v_frosts_told v_frosts_year v_frosts_force v_gappings_told v_gappings_year v_gappings_column v_gappings_hand v_sights_told v_sights_year v_sights_place v_sights_setter v_trial_all v_trial_losers v_trial_now v_trial_stones v_trial_standing v_trial_open v_trial_fallen v_stood) H locs → lv_has ls 8 [(0, .ref h0), (1, .int x1), (2, .int x2), (3, .int x3), (4, .int x4)] → W p l e rm_x_ask s m args below meth c H locs 0 0 (gQi below args s A g r.1 (W_x_ask g h0 h1 h2 h3 h4 h5 h6 h7 h8 h9 h10 h11 h12 h13 h14 h15 h16 h17 h18 h19 h20 h21 h22 h23 h24 h25 h26 h27 h28 v_toldIsStale v_latestFinding v_wall_courses v_wall_columns v_wall_fault v_wall_jump v_wall_stones v_hands_told v_hands_fault v_hands_mood r.2.1 v_frosts_told v_frosts_year v_frosts_force v_gappings_told v_gappings_year v_gappings_column v_gappings_hand v_sights_told v_sights_year v_sights_place v_sights_setter r.2.2.1 r.2.2.2.1 r.2.2.2.2.1 r.2.2.2.2.2.1 r.2.2.2.2.2.2.1 r.2.2.2.2.2.2.2.1 r.2.2.2.2.2.2.2.2.1 r.2.2.2.2.2.2.2.2.2)) (F0 m 29 ls [])) : ∀ (v_hands_strong : Nat → Int32) (v_trial_all : Int64) (v_trial_losers : Int32) (v_trial_now : Nat → Int64) (v_trial_stones : Nat → Int64) (v_trial_standing : Nat → Int64) (v_trial_open : Nat → Int32) (v_trial_fallen : Nat → Int32) (v_stood : Nat → Int32) (x1 : Int32) (x2 : Int32) (x3 : Int32) (x4 : Int32), f_x_ask_N29 v_wall_courses v_wall_columns v_wall_jump v_wall_stones v_hands_told v_hands_mood v_frosts_told v_frosts_year v_frosts_force v_gappings_told v_gappings_year v_gappings_column v_gappings_hand v_sights_told v_sights_year v_sights_place v_sights_setter k29 v_hands_strong v_trial_all v_trial_losers v_trial_now v_trial_stones v_trial_standing v_trial_open v_trial_fallen v_stood x1 x2 x3 x4 = some r → ∀ (H : Heap) (locs : List Loc) (ls : Array Slot), gW g A s (W_x_ask g h0 h1 h2 h3 h4 h5 h6 h7 h8 h9 h10 h11 h12 h13 h14 h15 h16 h17 h18 h19 h20 h21 h22 h23 h24 h25 h26 h27 h28 v_toldIsStale v_latestFinding v_wall_courses v_wall_columns v_wall_fault v_wall_jump v_wall_stones v_hands_told v_hands_fault v_hands_mood v_hands_strong v_frosts_told v_frosts_year v_frosts_force v_gappings_told v_gappings_year v_gappings_column v_gappings_hand v_sights_told v_sights_year v_sights_place v_sights_setter v_trial_all v_trial_losers v_trial_now v_trial_stones v_trial_standing v_trial_open v_trial_fallen v_stood) H locs → lv_has ls 8 [(0, .ref h0), (1, .int x1), (2, .int x2), (3, .int x3), (4, .int x4)] → W p l e rm_x_ask s m args below meth c H locs 0 0 (gQi below args s A g r.1 (W_x_ask g h0 h1 h2 h3 h4 h5 h6 h7 h8 h9 h10 h11 h12 h13 h14 h15 h16 h17 h18 h19 h20 h21 h22 h23 h24 h25 h26 h27 h28 v_toldIsStale v_latestFinding v_wall_courses v_wall_columns v_wall_fault v_wall_jump v_wall_stones v_hands_told v_hands_fault v_hands_mood r.2.1 v_frosts_told v_frosts_year v_frosts_force v_gappings_told v_gappings_year v_gappings_column v_gappings_hand v_sights_told v_sights_year v_sights_place v_sights_setter r.2.2.1 r.2.2.2.1 r.2.2.2.2.1 r.2.2.2.2.2.1 r.2.2.2.2.2.2.1 r.2.2.2.2.2.2.2.1 r.2.2.2.2.2.2.2.2.1 r.2.2.2.2.2.2.2.2.2)) (F0 m 29 ls []) := by
  intro v_hands_strong v_trial_all v_trial_losers v_trial_now v_trial_stones v_trial_standing v_trial_open v_trial_fallen v_stood x1 x2 x3 x4 hm H locs ls hw hl
  unfold f_x_ask_N29 at hm
  obtain ⟨hx, hb, hr, hml, hown, hts, hlocks, hK, hA⟩ := id C0
  refine lv_iload hx hb dX8_ask_29 (lv_at hl 4 rfl) ?_
  refine lv_bipush (v := 9) hx hb dX8_ask_31 (by decide) ?_
  refine lv_icmp_gt (tgt := 97) hx hb dX8_ask_33 (by decide) (fun hc => ?_) (fun hc => ?_)
  · have hm := ipos hc hm
    refine lv_aload_n hx hb dX8_ask_97 rfl (lv_at hl 0 rfl) ?_
    refine gGet C0 hw flX8_31 0 rfl rfl dX8_ask_98 ?_
    refine gGet C0 hw flX8_133 3 rfl rfl dX8_ask_101 ?_
    refine lv_iload_n hx hb dX8_ask_104 rfl (lv_at hl 1 rfl) ?_
    refine lv_iload_n hx hb dX8_ask_105 rfl (lv_at hl 2 rfl) ?_
    obtain ⟨hin, hm⟩ := gdE hm
    have hin := inbE hin
    refine gAstI (ws' := (W_x_ask g h0 h1 h2 h3 h4 h5 h6 h7 h8 h9 h10 h11 h12 h13 h14 h15 h16 h17 h18 h19 h20 h21 h22 h23 h24 h25 h26 h27 h28 v_toldIsStale v_latestFinding v_wall_courses v_wall_columns v_wall_fault v_wall_jump v_wall_stones v_hands_told v_hands_fault v_hands_mood (upd v_hands_strong x1.toNatClampNeg x2) v_frosts_told v_frosts_year v_frosts_force v_gappings_told v_gappings_year v_gappings_column v_gappings_hand v_sights_told v_sights_year v_sights_place v_sights_setter v_trial_all v_trial_losers v_trial_now v_trial_stones v_trial_standing v_trial_open v_trial_fallen v_stood)) C0 hw 5 rfl hin rfl dX8_ask_106 (fun H locs hw => ?_)
    refine lv_iconst (v := 0) hx hb dX8_ask_107 (by decide) ?_
    refine lv_istore (lv' := [(4, .int (0 : Int32)), (0, .ref h0), (1, .int x1), (2, .int x2), (3, .int x3)]) hx hb dX8_ask_108 hl (by decide) rfl (fun ls hl => ?_)
    refine lv_aload_n hx hb dX8_ask_110 rfl (lv_at hl 1 rfl) ?_
    refine lv_iload_n hx hb dX8_ask_111 rfl (lv_at hl 4 rfl) ?_
    refine lv_iconst (v := 0) hx hb dX8_ask_112 (by decide) ?_
    obtain ⟨o113, ho113, hm⟩ := bindE hm
    refine gCalli (ws' := (W_x_ask g h0 h1 h2 h3 h4 h5 h6 h7 h8 h9 h10 h11 h12 h13 h14 h15 h16 h17 h18 h19 h20 h21 h22 h23 h24 h25 h26 h27 h28 v_toldIsStale v_latestFinding v_wall_courses v_wall_columns v_wall_fault v_wall_jump v_wall_stones v_hands_told v_hands_fault v_hands_mood (upd v_hands_strong x1.toNatClampNeg x2) v_frosts_told v_frosts_year v_frosts_force v_gappings_told v_gappings_year v_gappings_column v_gappings_hand v_sights_told v_sights_year v_sights_place v_sights_setter v_trial_all v_trial_losers v_trial_now v_trial_stones v_trial_standing v_trial_open v_trial_fallen v_stood)) C0 hw (gRunV (As := [.int x3, .int (0 : Int32)]) (rest := []) C0 hw lkX8_244 (c_x_mostAlike l g H.size h0 h23 h24 h25 h1 h3 h6 h26 h9 h13 h27 h28 h17 v_toldIsStale v_latestFinding v_stood x3 (0 : Int32) o113 ho113) ⟨rfl, rfl⟩ ⟨Nat.le_of_ble_eq_true rfl, Nat.le_of_ble_eq_true rfl⟩ [0, 23] (by decide) rfl 0 rfl rfl rfl hl.1 rfl (Nat.le_of_ble_eq_true rfl) dX8_ask_113) [0, 23] [1, 2, 3, 4, 5, 6, 7, 8, 9, 10, 11, 12, 13, 14, 15, 16, 17, 18, 19, 20, 21, 22] rfl rfl ⟨rfl, rfl, rfl, rfl, rfl, rfl, rfl, rfl, rfl, rfl, rfl, rfl, rfl, rfl, rfl, rfl, rfl, rfl, rfl, rfl, rfl, rfl, trivial⟩ [h0, h1, h2, h3, h4, h5, h6, h7, h8, h9, h10, h11, h12, h13, h14, h15, h16, h17, h18, h19, h20, h21, h22, h23] rfl rfl 24 rfl (by decide +kernel) (fun H locs hw => ?_)
    refine lv_istore (lv' := [(5, .int o113), (4, .int (0 : Int32)), (0, .ref h0), (1, .int x1), (2, .int x2), (3, .int x3)]) hx hb dX8_ask_116 hl (by decide) rfl (fun ls hl => ?_)
    refine lv_iconst (v := 1) hx hb dX8_ask_118 (by decide) ?_
    refine lv_istore (lv' := [(6, .int (1 : Int32)), (5, .int o113), (4, .int (0 : Int32)), (0, .ref h0), (1, .int x1), (2, .int x2), (3, .int x3)]) hx hb dX8_ask_119 hl (by decide) rfl (fun ls hl => ?_)
    exact l_x_ask_N121 C0  1000 _ _ _ _ _ _ _ _ _ _ _ _ _ hm _ _ _ hw (lv_sub hl [3, 6, 2, 1, 0] rfl)
  · have hm := ineg hc hm
    refine lv_aload_n hx hb dX8_ask_36 rfl (lv_at hl 0 rfl) ?_
    refine gGet C0 hw flX8_31 0 rfl rfl dX8_ask_37 ?_
    refine gGet C0 hw flX8_133 3 rfl rfl dX8_ask_40 ?_
    refine lv_iload_n hx hb dX8_ask_43 rfl (lv_at hl 1 rfl) ?_
    refine lv_iload hx hb dX8_ask_44 (lv_at hl 4 rfl) ?_
    obtain ⟨hin, hm⟩ := gdE hm
    have hin := inbE hin
    refine gAstI (ws' := (W_x_ask g h0 h1 h2 h3 h4 h5 h6 h7 h8 h9 h10 h11 h12 h13 h14 h15 h16 h17 h18 h19 h20 h21 h22 h23 h24 h25 h26 h27 h28 v_toldIsStale v_latestFinding v_wall_courses v_wall_columns v_wall_fault v_wall_jump v_wall_stones v_hands_told v_hands_fault v_hands_mood (upd v_hands_strong x1.toNatClampNeg x4) v_frosts_told v_frosts_year v_frosts_force v_gappings_told v_gappings_year v_gappings_column v_gappings_hand v_sights_told v_sights_year v_sights_place v_sights_setter v_trial_all v_trial_losers v_trial_now v_trial_stones v_trial_standing v_trial_open v_trial_fallen v_stood)) C0 hw 5 rfl hin rfl dX8_ask_46 (fun H locs hw => ?_)
    refine lv_aload_n hx hb dX8_ask_47 rfl (lv_at hl 0 rfl) ?_
    refine gGet C0 hw flX8_74 0 rfl rfl dX8_ask_48 ?_
    refine lv_aload_n hx hb dX8_ask_51 rfl (lv_at hl 0 rfl) ?_
    refine gGet C0 hw flX8_38 0 rfl rfl dX8_ask_52 ?_
    refine lv_iconst (v := 0) hx hb dX8_ask_55 (by decide) ?_
    obtain ⟨o56, ho56, hm⟩ := bindE hm
    refine gCallv (ws' := (W_x_ask g h0 h1 h2 h3 h4 h5 h6 h7 h8 h9 h10 h11 h12 h13 h14 h15 h16 h17 h18 h19 h20 h21 h22 h23 h24 h25 h26 h27 h28 v_toldIsStale v_latestFinding v_wall_courses v_wall_columns v_wall_fault v_wall_jump v_wall_stones v_hands_told v_hands_fault v_hands_mood (upd v_hands_strong x1.toNatClampNeg x4) v_frosts_told v_frosts_year v_frosts_force v_gappings_told v_gappings_year v_gappings_column v_gappings_hand v_sights_told v_sights_year v_sights_place v_sights_setter o56.1 o56.2.1 o56.2.2.1 o56.2.2.2.1 o56.2.2.2.2.1 o56.2.2.2.2.2.1 o56.2.2.2.2.2.2 v_stood)) C0 hw (gRunV (As := [.ref h6, .int (0 : Int32)]) (rest := []) C0 hw lkX8_205 (c_ys_run l g H.size h17 h1 h2 h3 h4 h5 h9 h10 h11 h12 h18 h19 h20 h21 h22 h6 h7 h8 v_trial_all v_trial_losers v_wall_courses v_wall_columns v_wall_fault v_wall_jump v_wall_stones v_hands_told v_hands_fault v_hands_mood (upd v_hands_strong x1.toNatClampNeg x4) v_gappings_told v_gappings_year v_gappings_column v_gappings_hand v_trial_now v_trial_stones v_trial_standing v_trial_open v_trial_fallen v_frosts_told v_frosts_year v_frosts_force (0 : Int32) o56 ho56) ⟨rfl, rfl⟩ ⟨Nat.le_of_ble_eq_true rfl, Nat.le_of_ble_eq_true rfl⟩ [17, 1, 2, 3, 4, 5, 9, 10, 11, 12, 18, 19, 20, 21, 22, 6, 7, 8] (by decide) rfl 17 rfl rfl rfl hl.1 rfl (Nat.le_of_ble_eq_true rfl) dX8_ask_56) [17, 1, 2, 3, 4, 5, 9, 10, 11, 12, 18, 19, 20, 21, 22, 6, 7, 8] [0, 13, 14, 15, 16, 23] rfl rfl ⟨rfl, rfl, rfl, rfl, rfl, rfl, trivial⟩ [h0, h1, h2, h3, h4, h5, h6, h7, h8, h9, h10, h11, h12, h13, h14, h15, h16, h17, h18, h19, h20, h21, h22, h23] rfl rfl 24 rfl (by decide +kernel) (fun H locs hw => ?_)
    refine lv_aload_n hx hb dX8_ask_59 rfl (lv_at hl 0 rfl) ?_
    refine gGet C0 hw flX8_55 0 rfl rfl dX8_ask_60 ?_
    refine lv_aload_n hx hb dX8_ask_63 rfl (lv_at hl 0 rfl) ?_
    refine gGet C0 hw flX8_74 0 rfl rfl dX8_ask_64 ?_
    obtain ⟨o67, ho67, hm⟩ := bindE hm
    refine gCalli (ws' := (W_x_ask g h0 h1 h2 h3 h4 h5 h6 h7 h8 h9 h10 h11 h12 h13 h14 h15 h16 h17 h18 h19 h20 h21 h22 h23 h24 h25 h26 h27 h28 v_toldIsStale v_latestFinding v_wall_courses v_wall_columns v_wall_fault v_wall_jump v_wall_stones v_hands_told v_hands_fault v_hands_mood (upd v_hands_strong x1.toNatClampNeg x4) v_frosts_told v_frosts_year v_frosts_force v_gappings_told v_gappings_year v_gappings_column v_gappings_hand v_sights_told v_sights_year v_sights_place v_sights_setter o56.1 o56.2.1 o56.2.2.1 o56.2.2.2.1 o56.2.2.2.2.1 o56.2.2.2.2.2.1 o56.2.2.2.2.2.2 v_stood)) C0 hw (gRunV (As := [.ref h17]) (rest := []) C0 hw lkX8_236 (c_sg_comeOutIn l g H.size h13 h14 h15 h16 h17 h19 h1 h3 h9 h18 h20 h21 h22 v_sights_told v_sights_year v_sights_place v_sights_setter o56.1 o56.2.1 o56.2.2.2.1 o67 ho67) ⟨rfl, rfl⟩ ⟨Nat.le_of_ble_eq_true rfl, Nat.le_of_ble_eq_true rfl⟩ [13, 14, 15, 16, 17, 19] (by decide) rfl 13 rfl rfl rfl hl.1 rfl (Nat.le_of_ble_eq_true rfl) dX8_ask_67) [13, 14, 15, 16, 17, 19] [0, 1, 2, 3, 4, 5, 6, 7, 8, 9, 10, 11, 12, 18, 20, 21, 22, 23] rfl rfl ⟨rfl, rfl, rfl, rfl, rfl, rfl, rfl, rfl, rfl, rfl, rfl, rfl, rfl, rfl, rfl, rfl, rfl, rfl, trivial⟩ [h0, h1, h2, h3, h4, h5, h6, h7, h8, h9, h10, h11, h12, h13, h14, h15, h16, h17, h18, h19, h20, h21, h22, h23] rfl rfl 24 rfl (by decide +kernel) (fun H locs hw => ?_)
    refine lv_if_eq (tgt := 91) hx hb dX8_ask_70 (by decide) (fun hc => ?_) (fun hc => ?_)
    · have hm := ipos hc hm
      refine lv_iinc (v := x4 + (1 : Int32)) (lv' := [(4, .int (x4 + (1 : Int32))), (0, .ref h0), (1, .int x1), (2, .int x2), (3, .int x3)]) hx hb dX8_ask_91 hl (k := 4) rfl rfl (by decide) rfl (fun ls hl => ?_)
      refine lv_goto (tgt := 29) hx hb dX8_ask_94 (by decide) ?_
      exact hk29 _ _ _ _ _ _ _ _ _ _ _ _ _ hm _ _ _ hw (lv_sub hl [1, 2, 3, 4, 0] rfl)
    · have hm := ineg hc hm
      refine lv_aload_n hx hb dX8_ask_73 rfl (lv_at hl 0 rfl) ?_
      refine gGet C0 hw flX8_74 0 rfl rfl dX8_ask_74 ?_
      refine lv_aload_n hx hb dX8_ask_77 rfl (lv_at hl 0 rfl) ?_
      refine gGet C0 hw flX8_77 0 rfl rfl dX8_ask_78 ?_
      refine lv_iload_n hx hb dX8_ask_81 rfl (lv_at hl 3 rfl) ?_
      refine lv_bipush (v := 20) hx hb dX8_ask_82 (by decide) ?_
      refine lv_imul hx hb dX8_ask_84 ?_
      obtain ⟨o85, ho85, hm⟩ := bindE hm
      refine gCallv (ws' := (W_x_ask g h0 h1 h2 h3 h4 h5 h6 h7 h8 h9 h10 h11 h12 h13 h14 h15 h16 h17 h18 h19 h20 h21 h22 h23 h24 h25 h26 h27 h28 v_toldIsStale v_latestFinding v_wall_courses v_wall_columns v_wall_fault v_wall_jump v_wall_stones v_hands_told v_hands_fault v_hands_mood (upd v_hands_strong x1.toNatClampNeg x4) v_frosts_told v_frosts_year v_frosts_force v_gappings_told v_gappings_year v_gappings_column v_gappings_hand v_sights_told v_sights_year v_sights_place v_sights_setter o56.1 o56.2.1 o56.2.2.1 o56.2.2.2.1 o56.2.2.2.2.1 o56.2.2.2.2.2.1 o56.2.2.2.2.2.2 o85)) C0 hw (gRunV (As := [.ref h23, .int (x3 * (20 : Int32))]) (rest := []) C0 hw lkX8_240 (c_ys_tallyInto l g H.size h17 h20 h23 h1 h3 h9 h18 h19 h21 h22 o56.1 o56.2.1 o56.2.2.2.2.1 v_stood 180 (x3 * (20 : Int32)) o85 ho85) ⟨rfl, rfl⟩ ⟨Nat.le_of_ble_eq_true rfl, Nat.le_of_ble_eq_true rfl⟩ [17, 20, 23] (by decide) rfl 17 rfl rfl rfl hl.1 rfl (Nat.le_of_ble_eq_true rfl) dX8_ask_85) [17, 20, 23] [0, 1, 2, 3, 4, 5, 6, 7, 8, 9, 10, 11, 12, 13, 14, 15, 16, 18, 19, 21, 22] rfl rfl ⟨rfl, rfl, rfl, rfl, rfl, rfl, rfl, rfl, rfl, rfl, rfl, rfl, rfl, rfl, rfl, rfl, rfl, rfl, rfl, rfl, rfl, trivial⟩ [h0, h1, h2, h3, h4, h5, h6, h7, h8, h9, h10, h11, h12, h13, h14, h15, h16, h17, h18, h19, h20, h21, h22, h23] rfl rfl 24 rfl (by decide +kernel) (fun H locs hw => ?_)
      refine lv_iinc (v := x3 + (1 : Int32)) (lv' := [(3, .int (x3 + (1 : Int32))), (0, .ref h0), (1, .int x1), (2, .int x2), (4, .int x4)]) hx hb dX8_ask_88 hl (k := 3) rfl rfl (by decide) rfl (fun ls hl => ?_)
      refine lv_iinc (v := x4 + (1 : Int32)) (lv' := [(4, .int (x4 + (1 : Int32))), (3, .int (x3 + (1 : Int32))), (0, .ref h0), (1, .int x1), (2, .int x2)]) hx hb dX8_ask_91 hl (k := 4) rfl rfl (by decide) rfl (fun ls hl => ?_)
      refine lv_goto (tgt := 29) hx hb dX8_ask_94 (by decide) ?_
      exact hk29 _ _ _ _ _ _ _ _ _ _ _ _ _ hm _ _ _ hw (lv_sub hl [2, 3, 4, 1, 0] rfl)
set_option maxHeartbeats 1000000 in
set_option maxRecDepth 100000 in
theorem l_x_ask_N29 {p : Program} {l : Launch} {e : Env} {s : State} {m : MethodId} {args : Array Value} {below : List Frame} {meth : Method} {c : Code} {A : Nat → Prop} {g : gG} {h0 h1 h2 h3 h4 h5 h6 h7 h8 h9 h10 h11 h12 h13 h14 h15 h16 h17 h18 h19 h20 h21 h22 h23 h24 h25 h26 h27 h28 : Nat} {v_toldIsStale : Int32} {v_latestFinding : Int32} {v_wall_courses : Int32} {v_wall_columns : Int32} {v_wall_fault : Int32} {v_wall_jump : Int32} {v_wall_stones : Nat → Int64} {v_hands_told : Int32} {v_hands_fault : Int32} {v_hands_mood : Nat → Int32} {v_frosts_told : Int32} {v_frosts_year : Nat → Int32} {v_frosts_force : Nat → Int32} {v_gappings_told : Int32} {v_gappings_year : Nat → Int32} {v_gappings_column : Nat → Int32} {v_gappings_hand : Nat → Int32} {v_sights_told : Int32} {v_sights_year : Nat → Int32} {v_sights_place : Nat → Int32} {v_sights_setter : Nat → Int32} {r : (Int32 × (Nat → Int32) × Int64 × Int32 × (Nat → Int64) × (Nat → Int64) × (Nat → Int64) × (Nat → Int32) × (Nat → Int32) × (Nat → Int32))} (C0 : gX p s m args meth c cX8_ask 8 (some .int) RX8 g A) : ∀ n : Nat, ∀ (v_hands_strong : Nat → Int32) (v_trial_all : Int64) (v_trial_losers : Int32) (v_trial_now : Nat → Int64) (v_trial_stones : Nat → Int64) (v_trial_standing : Nat → Int64) (v_trial_open : Nat → Int32) (v_trial_fallen : Nat → Int32) (v_stood : Nat → Int32) (x1 : Int32) (x2 : Int32) (x3 : Int32) (x4 : Int32), iter (fun _ _ _ _ _ _ _ _ _ _ _ _ _ => none) (f_x_ask_N29 v_wall_courses v_wall_columns v_wall_jump v_wall_stones v_hands_told v_hands_mood v_frosts_told v_frosts_year v_frosts_force v_gappings_told v_gappings_year v_gappings_column v_gappings_hand v_sights_told v_sights_year v_sights_place v_sights_setter) n v_hands_strong v_trial_all v_trial_losers v_trial_now v_trial_stones v_trial_standing v_trial_open v_trial_fallen v_stood x1 x2 x3 x4 = some r → ∀ (H : Heap) (locs : List Loc) (ls : Array Slot), gW g A s (W_x_ask g h0 h1 h2 h3 h4 h5 h6 h7 h8 h9 h10 h11 h12 h13 h14 h15 h16 h17 h18 h19 h20 h21 h22 h23 h24 h25 h26 h27 h28 v_toldIsStale v_latestFinding v_wall_courses v_wall_columns v_wall_fault v_wall_jump v_wall_stones v_hands_told v_hands_fault v_hands_mood v_hands_strong v_frosts_told v_frosts_year v_frosts_force v_gappings_told v_gappings_year v_gappings_column v_gappings_hand v_sights_told v_sights_year v_sights_place v_sights_setter v_trial_all v_trial_losers v_trial_now v_trial_stones v_trial_standing v_trial_open v_trial_fallen v_stood) H locs → lv_has ls 8 [(0, .ref h0), (1, .int x1), (2, .int x2), (3, .int x3), (4, .int x4)] → W p l e rm_x_ask s m args below meth c H locs 0 0 (gQi below args s A g r.1 (W_x_ask g h0 h1 h2 h3 h4 h5 h6 h7 h8 h9 h10 h11 h12 h13 h14 h15 h16 h17 h18 h19 h20 h21 h22 h23 h24 h25 h26 h27 h28 v_toldIsStale v_latestFinding v_wall_courses v_wall_columns v_wall_fault v_wall_jump v_wall_stones v_hands_told v_hands_fault v_hands_mood r.2.1 v_frosts_told v_frosts_year v_frosts_force v_gappings_told v_gappings_year v_gappings_column v_gappings_hand v_sights_told v_sights_year v_sights_place v_sights_setter r.2.2.1 r.2.2.2.1 r.2.2.2.2.1 r.2.2.2.2.2.1 r.2.2.2.2.2.2.1 r.2.2.2.2.2.2.2.1 r.2.2.2.2.2.2.2.2.1 r.2.2.2.2.2.2.2.2.2)) (F0 m 29 ls []) := by
  intro n
  induction n with
  | zero =>
    intro v_hands_strong v_trial_all v_trial_losers v_trial_now v_trial_stones v_trial_standing v_trial_open v_trial_fallen v_stood x1 x2 x3 x4 hm
    cases hm
  | succ n ih =>
    exact n_x_ask_N29 C0  ih
set_option maxHeartbeats 1000000 in
set_option maxRecDepth 100000 in
theorem c_x_ask (l : Launch) (g : gG) (sz : Nat) (h0 h1 h2 h3 h4 h5 h6 h7 h8 h9 h10 h11 h12 h13 h14 h15 h16 h17 h18 h19 h20 h21 h22 h23 h24 h25 h26 h27 h28 : Nat) (v_toldIsStale : Int32) (v_latestFinding : Int32) (v_wall_courses : Int32) (v_wall_columns : Int32) (v_wall_fault : Int32) (v_wall_jump : Int32) (v_wall_stones : Nat → Int64) (v_hands_told : Int32) (v_hands_fault : Int32) (v_hands_mood : Nat → Int32) (v_hands_strong : Nat → Int32) (v_frosts_told : Int32) (v_frosts_year : Nat → Int32) (v_frosts_force : Nat → Int32) (v_gappings_told : Int32) (v_gappings_year : Nat → Int32) (v_gappings_column : Nat → Int32) (v_gappings_hand : Nat → Int32) (v_sights_told : Int32) (v_sights_year : Nat → Int32) (v_sights_place : Nat → Int32) (v_sights_setter : Nat → Int32) (v_trial_all : Int64) (v_trial_losers : Int32) (v_trial_now : Nat → Int64) (v_trial_stones : Nat → Int64) (v_trial_standing : Nat → Int64) (v_trial_open : Nat → Int32) (v_trial_fallen : Nat → Int32) (v_stood : Nat → Int32) (a0 : Int32) (r : (Int32 × (Nat → Int32) × Int64 × Int32 × (Nat → Int64) × (Nat → Int64) × (Nat → Int64) × (Nat → Int32) × (Nat → Int32) × (Nat → Int32))) (hm : f_x_ask v_wall_courses v_wall_columns v_wall_jump v_wall_stones v_hands_told v_hands_mood v_hands_strong v_frosts_told v_frosts_year v_frosts_force v_gappings_told v_gappings_year v_gappings_column v_gappings_hand v_sights_told v_sights_year v_sights_place v_sights_setter v_trial_all v_trial_losers v_trial_now v_trial_stones v_trial_standing v_trial_open v_trial_fallen v_stood a0 = some r) : gMi l yX8_ask cX8_ask 8 (some .int) rm_x_ask g sz [.ref h0, .int a0] (W_x_ask g h0 h1 h2 h3 h4 h5 h6 h7 h8 h9 h10 h11 h12 h13 h14 h15 h16 h17 h18 h19 h20 h21 h22 h23 h24 h25 h26 h27 h28 v_toldIsStale v_latestFinding v_wall_courses v_wall_columns v_wall_fault v_wall_jump v_wall_stones v_hands_told v_hands_fault v_hands_mood v_hands_strong v_frosts_told v_frosts_year v_frosts_force v_gappings_told v_gappings_year v_gappings_column v_gappings_hand v_sights_told v_sights_year v_sights_place v_sights_setter v_trial_all v_trial_losers v_trial_now v_trial_stones v_trial_standing v_trial_open v_trial_fallen v_stood) r.1 (W_x_ask g h0 h1 h2 h3 h4 h5 h6 h7 h8 h9 h10 h11 h12 h13 h14 h15 h16 h17 h18 h19 h20 h21 h22 h23 h24 h25 h26 h27 h28 v_toldIsStale v_latestFinding v_wall_courses v_wall_columns v_wall_fault v_wall_jump v_wall_stones v_hands_told v_hands_fault v_hands_mood r.2.1 v_frosts_told v_frosts_year v_frosts_force v_gappings_told v_gappings_year v_gappings_column v_gappings_hand v_sights_told v_sights_year v_sights_place v_sights_setter r.2.2.1 r.2.2.2.1 r.2.2.2.2.1 r.2.2.2.2.2.1 r.2.2.2.2.2.2.1 r.2.2.2.2.2.2.2.1 r.2.2.2.2.2.2.2.2.1 r.2.2.2.2.2.2.2.2.2) := by
  unfold f_x_ask at hm
  refine gEnterI (by decide) (Nat.le_of_ble_eq_true rfl) (fun p e s m below meth c A C0 H locs hw ls hl => ?_)
  obtain ⟨hx, hb, hr, hml, hown, hts, hlocks, hK, hA⟩ := id C0
  have C0 : gX p s m [.ref h0, .int a0].toArray meth c cX8_ask 8 (some .int) RX8 g A := C0
  have hl : lv_has ls 8 [(0, .ref h0), (1, .int a0)] := hl
  refine lv_aload_n hx hb dX8_ask_0 rfl (lv_at hl 0 rfl) ?_
  refine gGet C0 hw flX8_31 0 rfl rfl dX8_ask_1 ?_
  refine lv_iload_n hx hb dX8_ask_4 rfl (lv_at hl 1 rfl) ?_
  obtain ⟨o5, ho5, hm⟩ := bindE hm
  refine gCalli (ws' := (W_x_ask g h0 h1 h2 h3 h4 h5 h6 h7 h8 h9 h10 h11 h12 h13 h14 h15 h16 h17 h18 h19 h20 h21 h22 h23 h24 h25 h26 h27 h28 v_toldIsStale v_latestFinding v_wall_courses v_wall_columns v_wall_fault v_wall_jump v_wall_stones v_hands_told v_hands_fault v_hands_mood v_hands_strong v_frosts_told v_frosts_year v_frosts_force v_gappings_told v_gappings_year v_gappings_column v_gappings_hand v_sights_told v_sights_year v_sights_place v_sights_setter v_trial_all v_trial_losers v_trial_now v_trial_stones v_trial_standing v_trial_open v_trial_fallen v_stood)) C0 hw (gRunV (As := [.int a0]) (rest := []) C0 hw lkX8_127 (c_hs_has l g H.size h3 h4 h5 v_hands_told v_hands_fault a0 o5 ho5) ⟨rfl, rfl⟩ ⟨Nat.le_of_ble_eq_true rfl, Nat.le_of_ble_eq_true rfl⟩ [3] (by decide) rfl 3 rfl rfl rfl hl.1 rfl (Nat.le_of_ble_eq_true rfl) dX8_ask_5) [3] [0, 1, 2, 4, 5, 6, 7, 8, 9, 10, 11, 12, 13, 14, 15, 16, 17, 18, 19, 20, 21, 22, 23] rfl rfl ⟨rfl, rfl, rfl, rfl, rfl, rfl, rfl, rfl, rfl, rfl, rfl, rfl, rfl, rfl, rfl, rfl, rfl, rfl, rfl, rfl, rfl, rfl, rfl, trivial⟩ [h0, h1, h2, h3, h4, h5, h6, h7, h8, h9, h10, h11, h12, h13, h14, h15, h16, h17, h18, h19, h20, h21, h22, h23] rfl rfl 24 rfl (by decide +kernel) (fun H locs hw => ?_)
  refine lv_if_ne (tgt := 14) hx hb dX8_ask_8 (by decide) (fun hc => ?_) (fun hc => ?_)
  · have hm := ineg hc hm
    refine lv_aload_n hx hb dX8_ask_14 rfl (lv_at hl 0 rfl) ?_
    refine gGet C0 hw flX8_31 0 rfl rfl dX8_ask_15 ?_
    refine gGet C0 hw flX8_133 3 rfl rfl dX8_ask_18 ?_
    refine lv_iload_n hx hb dX8_ask_21 rfl (lv_at hl 1 rfl) ?_
    obtain ⟨hin, hm⟩ := gdE hm
    have hin := inbE hin
    refine gAldI C0 hw 5 rfl hin dX8_ask_22 ?_
    refine lv_istore_n (lv' := [(2, .int (v_hands_strong a0.toNatClampNeg)), (0, .ref h0), (1, .int a0)]) hx hb dX8_ask_23 rfl hl (by decide) rfl (fun ls hl => ?_)
    refine lv_iconst (v := 0) hx hb dX8_ask_24 (by decide) ?_
    refine lv_istore_n (lv' := [(3, .int (0 : Int32)), (2, .int (v_hands_strong a0.toNatClampNeg)), (0, .ref h0), (1, .int a0)]) hx hb dX8_ask_25 rfl hl (by decide) rfl (fun ls hl => ?_)
    refine lv_iconst (v := 1) hx hb dX8_ask_26 (by decide) ?_
    refine lv_istore (lv' := [(4, .int (1 : Int32)), (3, .int (0 : Int32)), (2, .int (v_hands_strong a0.toNatClampNeg)), (0, .ref h0), (1, .int a0)]) hx hb dX8_ask_27 hl (by decide) rfl (fun ls hl => ?_)
    exact l_x_ask_N29 C0  1000 _ _ _ _ _ _ _ _ _ _ _ _ _ hm _ _ _ hw (lv_sub hl [3, 4, 2, 1, 0] rfl)
  · have hm := ipos hc hm
    refine lv_bipush (v := -2) hx hb dX8_ask_11 (by decide) ?_
    have hm := Option.some.inj hm
    subst hm
    exact gRetI C0 hw dX8_ask_13
