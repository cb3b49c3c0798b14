-- WallHands.waysOf(II)J
abbrev W_x_waysOf (g : gG) (h0 h1 h2 h3 h4 h5 h6 h7 h8 h9 h10 h11 h12 h13 h14 : Nat) (v_toldIsStale : Int32) (v_latestFinding : Int32) (v_frosts_told : Int32) : va_W := [(h0, .inr (8, [.ref h2, .ref h3, .ref h4, .ref h5, .ref h1, .ref h6, .ref h7, .ref h8, .ref h9, .ref h10, .ref h11, .ref h12, .int v_toldIsStale, .int v_latestFinding])), (h1, .inr (0, [.ref h13, .ref h14, .int v_frosts_told]))]

abbrev rm_x_waysOf : Room := { frames := 0, cells := 0, slots := 0, locals := 0 }

set_option maxHeartbeats 1000000 in
set_option maxRecDepth 100000 in
theorem n_x_waysOf_N37 {p : Program} {l : Launch} {e : Env} {s : State} {m : MethodId} {args : Array Value} {below : List Frame} {meth : Method} {c : Code} {A : Nat → Prop} {g : gG} {h0 h1 h2 h3 h4 h5 h6 h7 h8 h9 h10 h11 h12 h13 h14 : Nat} {v_toldIsStale : Int32} {v_latestFinding : Int32} {v_frosts_told : Int32} {k5 : Int32 → Int32 → Int64 → Int32 → Option Int64} {r : Int64} (C0 : gX p s m args meth c cX8_waysOf 6 (some .long) RX8 g A) (hk5 : ∀ (x1 : Int32) (x2 : Int32) (x3 : Int64) (x5 : Int32), k5 x1 x2 x3 x5 = some r → ∀ (H : Heap) (locs : List Loc) (ls : Array Slot), gW g A s (W_x_waysOf g h0 h1 h2 h3 h4 h5 h6 h7 h8 h9 h10 h11 h12 h13 h14 v_toldIsStale v_latestFinding v_frosts_told) H locs → lv_has ls 6 [(0, .ref h0), (1, .int x1), (2, .int x2), (3, .long x3), (5, .int x5)] → W p l e rm_x_waysOf s m args below meth c H locs 0 0 (gQl below args s A g r (W_x_waysOf g h0 h1 h2 h3 h4 h5 h6 h7 h8 h9 h10 h11 h12 h13 h14 v_toldIsStale v_latestFinding v_frosts_told)) (F0 m 5 ls [])) : ∀ (x1 : Int32) (x2 : Int32) (x5 : Int32) (y0 : Int64) (y1 : Int64), f_x_waysOf_N37 v_frosts_told k5 x1 x2 x5 y0 y1 = some r → ∀ (H : Heap) (locs : List Loc) (ls : Array Slot), gW g A s (W_x_waysOf g h0 h1 h2 h3 h4 h5 h6 h7 h8 h9 h10 h11 h12 h13 h14 v_toldIsStale v_latestFinding v_frosts_told) H locs → lv_has ls 6 [(0, .ref h0), (1, .int x1), (2, .int x2), (5, .int x5)] → W p l e rm_x_waysOf s m args below meth c H locs 0 0 (gQl below args s A g r (W_x_waysOf g h0 h1 h2 h3 h4 h5 h6 h7 h8 h9 h10 h11 h12 h13 h14 v_toldIsStale v_latestFinding v_frosts_told)) (F0 m 37 ls [.long y1, .long y0]) := by
  intro x1 x2 x5 y0 y1 hm H locs ls hw hl
  unfold f_x_waysOf_N37 at hm
  obtain ⟨hx, hb, hr, hml, hown, hts, hlocks, hK, hA⟩ := id C0
  refine lv_lmul hx hb dX8_waysOf_37 ?_
  refine lv_lstore_n (lv' := [(3, .long (y0 * y1)), (0, .ref h0), (1, .int x1), (2, .int x2), (5, .int x5)]) hx hb dX8_waysOf_38 rfl hl (by decide) rfl (fun ls hl => ?_)
  refine lv_iinc (v := x5 + (1 : Int32)) (lv' := [(5, .int (x5 + (1 : Int32))), (3, .long (y0 * y1)), (0, .ref h0), (1, .int x1), (2, .int x2)]) hx hb dX8_waysOf_39 hl (k := 4) rfl rfl (by decide) rfl (fun ls hl => ?_)
  refine lv_goto (tgt := 5) hx hb dX8_waysOf_42 (by decide) ?_
  exact hk5 _ _ _ _ hm _ _ _ hw (lv_sub hl [2, 3, 4, 1, 0] rfl)
set_option maxHeartbeats 1000000 in
set_option maxRecDepth 100000 in
theorem n_x_waysOf_N5 {p : Program} {l : Launch} {e : Env} {s : State} {m : MethodId} {args : Array Value} {below : List Frame} {meth : Method} {c : Code} {A : Nat → Prop} {g : gG} {h0 h1 h2 h3 h4 h5 h6 h7 h8 h9 h10 h11 h12 h13 h14 : Nat} {v_toldIsStale : Int32} {v_latestFinding : Int32} {v_frosts_told : Int32} {k5 : Int32 → Int32 → Int64 → Int32 → Option Int64} {r : Int64} (C0 : gX p s m args meth c cX8_waysOf 6 (some .long) RX8 g A) (hk5 : ∀ (x1 : Int32) (x2 : Int32) (x3 : Int64) (x5 : Int32), k5 x1 x2 x3 x5 = some r → ∀ (H : Heap) (locs : List Loc) (ls : Array Slot), gW g A s (W_x_waysOf g h0 h1 h2 h3 h4 h5 h6 h7 h8 h9 h10 h11 h12 h13 h14 v_toldIsStale v_latestFinding v_frosts_told) H locs → lv_has ls 6 [(0, .ref h0), (1, .int x1), (2, .int x2), (3, .long x3), (5, .int x5)] → W p l e rm_x_waysOf s m args below meth c H locs 0 0 (gQl below args s A g r (W_x_waysOf g h0 h1 h2 h3 h4 h5 h6 h7 h8 h9 h10 h11 h12 h13 h14 v_toldIsStale v_latestFinding v_frosts_told)) (F0 m 5 ls [])) : ∀ (x1 : Int32) (x2 : Int32) (x3 : Int64) (x5 : Int32), f_x_waysOf_N5 v_frosts_told k5 x1 x2 x3 x5 = some r → ∀ (H : Heap) (locs : List Loc) (ls : Array Slot), gW g A s (W_x_waysOf g h0 h1 h2 h3 h4 h5 h6 h7 h8 h9 h10 h11 h12 h13 h14 v_toldIsStale v_latestFinding v_frosts_told) H locs → lv_has ls 6 [(0, .ref h0), (1, .int x1), (2, .int x2), (3, .long x3), (5, .int x5)] → W p l e rm_x_waysOf s m args below meth c H locs 0 0 (gQl below args s A g r (W_x_waysOf g h0 h1 h2 h3 h4 h5 h6 h7 h8 h9 h10 h11 h12 h13 h14 v_toldIsStale v_latestFinding v_frosts_told)) (F0 m 5 ls []) := by
  intro x1 x2 x3 x5 hm H locs ls hw hl
  unfold f_x_waysOf_N5 at hm
  obtain ⟨hx, hb, hr, hml, hown, hts, hlocks, hK, hA⟩ := id C0
  refine lv_iload hx hb dX8_waysOf_5 (lv_at hl 4 rfl) ?_
  refine lv_aload_n hx hb dX8_waysOf_7 rfl (lv_at hl 0 rfl) ?_
  refine gGet C0 hw flX8_38 0 rfl rfl dX8_waysOf_8 ?_
  refine gGet C0 hw flX8_142 1 rfl rfl dX8_waysOf_11 ?_
  refine lv_icmp_ge (tgt := 45) hx hb dX8_waysOf_14 (by decide) (fun hc => ?_) (fun hc => ?_)
  · have hm := ipos hc hm
    refine lv_lload_n hx hb dX8_waysOf_45 rfl (lv_at hl 3 rfl) ?_
    have hm := Option.some.inj hm
    subst hm
    exact gRetL C0 hw dX8_waysOf_46
  · have hm := ineg hc hm
    refine lv_lload_n hx hb dX8_waysOf_17 rfl (lv_at hl 3 rfl) ?_
    refine lv_iload_n hx hb dX8_waysOf_18 rfl (lv_at hl 1 rfl) ?_
    refine lv_iload hx hb dX8_waysOf_19 (lv_at hl 4 rfl) ?_
    refine lv_iushr (v := ushr x1 x5) hx hb dX8_waysOf_21 rfl ?_
    refine lv_iconst (v := 1) hx hb dX8_waysOf_22 (by decide) ?_
    refine lv_iand hx hb dX8_waysOf_23 ?_
    refine lv_if_ne (tgt := 32) hx hb dX8_waysOf_24 (by decide) (fun hc => ?_) (fun hc => ?_)
    · have hm := ineg hc hm
      refine lv_bipush (v := 16) hx hb dX8_waysOf_32 (by decide) ?_
      refine lv_iload_n hx hb dX8_waysOf_34 rfl (lv_at hl 2 rfl) ?_
      refine lv_isub hx hb dX8_waysOf_35 ?_
      refine lv_i2l (v := ((16 : Int32) - x2).toInt64) hx hb dX8_waysOf_36 rfl ?_
      exact n_x_waysOf_N37 C0 hk5 _ _ _ _ _ hm _ _ _ hw (lv_sub hl [0, 1, 2, 4] rfl)
    · have hm := ipos hc hm
      refine lv_iload_n hx hb dX8_waysOf_27 rfl (lv_at hl 2 rfl) ?_
      refine lv_i2l (v := x2.toInt64) hx hb dX8_waysOf_28 rfl ?_
      refine lv_goto (tgt := 37) hx hb dX8_waysOf_29 (by decide) ?_
      exact n_x_waysOf_N37 C0 hk5 _ _ _ _ _ hm _ _ _ hw (lv_sub hl [0, 1, 2, 4] rfl)
set_option maxHeartbeats 1000000 in
set_option maxRecDepth 100000 in
theorem l_x_waysOf_N5 {p : Program} {l : Launch} {e : Env} {s : State} {m : MethodId} {args : Array Value} {below : List Frame} {meth : Method} {c : Code} {A : Nat → Prop} {g : gG} {h0 h1 h2 h3 h4 h5 h6 h7 h8 h9 h10 h11 h12 h13 h14 : Nat} {v_toldIsStale : Int32} {v_latestFinding : Int32} {v_frosts_told : Int32} {r : Int64} (C0 : gX p s m args meth c cX8_waysOf 6 (some .long) RX8 g A) : ∀ n : Nat, ∀ (x1 : Int32) (x2 : Int32) (x3 : Int64) (x5 : Int32), iter (fun _ _ _ _ => none) (f_x_waysOf_N5 v_frosts_told) n x1 x2 x3 x5 = some r → ∀ (H : Heap) (locs : List Loc) (ls : Array Slot), gW g A s (W_x_waysOf g h0 h1 h2 h3 h4 h5 h6 h7 h8 h9 h10 h11 h12 h13 h14 v_toldIsStale v_latestFinding v_frosts_told) H locs → lv_has ls 6 [(0, .ref h0), (1, .int x1), (2, .int x2), (3, .long x3), (5, .int x5)] → W p l e rm_x_waysOf s m args below meth c H locs 0 0 (gQl below args s A g r (W_x_waysOf g h0 h1 h2 h3 h4 h5 h6 h7 h8 h9 h10 h11 h12 h13 h14 v_toldIsStale v_latestFinding v_frosts_told)) (F0 m 5 ls []) := by
  intro n
  induction n with
  | zero =>
    intro x1 x2 x3 x5 hm
    cases hm
  | succ n ih =>
    exact n_x_waysOf_N5 C0  ih
set_option maxHeartbeats 1000000 in
set_option maxRecDepth 100000 in
theorem c_x_waysOf (l : Launch) (g : gG) (sz : Nat) (h0 h1 h2 h3 h4 h5 h6 h7 h8 h9 h10 h11 h12 h13 h14 : Nat) (v_toldIsStale : Int32) (v_latestFinding : Int32) (v_frosts_told : Int32) (a0 : Int32) (a1 : Int32) (r : Int64) (hm : f_x_waysOf v_frosts_told a0 a1 = some r) : gMl l yX8_waysOf cX8_waysOf 6 (some .long) rm_x_waysOf g sz [.ref h0, .int a0, .int a1] (W_x_waysOf g h0 h1 h2 h3 h4 h5 h6 h7 h8 h9 h10 h11 h12 h13 h14 v_toldIsStale v_latestFinding v_frosts_told) r (W_x_waysOf g h0 h1 h2 h3 h4 h5 h6 h7 h8 h9 h10 h11 h12 h13 h14 v_toldIsStale v_latestFinding v_frosts_told) := by
  unfold f_x_waysOf at hm
  refine gEnterL (by decide) (Nat.le_of_ble_eq_true rfl) (fun p e s m below meth c A C0 H locs hw ls hl => ?_)
  obtain ⟨hx, hb, hr, hml, hown, hts, hlocks, hK, hA⟩ := id C0
  have C0 : gX p s m [.ref h0, .int a0, .int a1].toArray meth c cX8_waysOf 6 (some .long) RX8 g A := C0
  have hl : lv_has ls 6 [(0, .ref h0), (1, .int a0), (2, .int a1)] := hl
  refine lv_lconst (v := 1) hx hb dX8_waysOf_0 (by decide) ?_
  refine lv_lstore_n (lv' := [(3, .long (1 : Int64)), (0, .ref h0), (1, .int a0), (2, .int a1)]) hx hb dX8_waysOf_1 rfl hl (by decide) rfl (fun ls hl => ?_)
  refine lv_iconst (v := 0) hx hb dX8_waysOf_2 (by decide) ?_
  refine lv_istore (lv' := [(5, .int (0 : Int32)), (3, .long (1 : Int64)), (0, .ref h0), (1, .int a0), (2, .int a1)]) hx hb dX8_waysOf_3 hl (by decide) rfl (fun ls hl => ?_)
  exact l_x_waysOf_N5 C0  1000 _ _ _ _ hm _ _ _ hw (lv_sub hl [2, 3, 4, 1, 0] rfl)

-- WallHands.luck(II)J
abbrev W_x_luck (g : gG) (h0 h1 h2 h3 h4 h5 h6 h7 h8 h9 h10 h11 h12 h13 h14 h15 h16 h17 h18 h19 h20 h21 h22 h23 h24 h25 : Nat) (v_toldIsStale : Int32) (v_latestFinding : Int32) (v_wall_courses : Int32) (v_wall_columns : Int32) (v_wall_fault : Int32) (v_wall_jump : Int32) (v_wall_stones : Nat → Int64) (v_hands_told : Int32) (v_hands_fault : Int32) (v_hands_mood : Nat → Int32) (v_hands_strong : Nat → Int32) (v_frosts_told : Int32) (v_frosts_year : Nat → Int32) (v_frosts_force : Nat → Int32) (v_gappings_told : Int32) (v_gappings_year : Nat → Int32) (v_gappings_column : Nat → Int32) (v_gappings_hand : Nat → Int32) (v_trial_all : Int64) (v_trial_losers : Int32) (v_trial_now : Nat → Int64) (v_trial_stones : Nat → Int64) (v_trial_standing : Nat → Int64) (v_trial_open : Nat → Int32) (v_trial_fallen : Nat → Int32) : va_W := [(h0, .inr (8, [.ref h19, .ref h20, .ref h1, .ref h3, .ref h6, .ref h21, .ref h9, .ref h22, .ref h23, .ref h24, .ref h13, .ref h25, .int v_toldIsStale, .int v_latestFinding])), (h1, .inr (6, [.ref h2, .int v_wall_courses, .int v_wall_columns, .int v_wall_fault, .int v_wall_jump])), (h2, .inl (gJ g, 8, .inr (.inl v_wall_stones))), (h3, .inr (2, [.ref h4, .ref h5, .int v_hands_told, .int v_hands_fault])), (h4, .inl (gI g, 8, .inl v_hands_mood)), (h5, .inl (gI g, 8, .inl v_hands_strong)), (h6, .inr (0, [.ref h7, .ref h8, .int v_frosts_told])), (h7, .inl (gI g, 6, .inl v_frosts_year)), (h8, .inl (gI g, 6, .inl v_frosts_force)), (h9, .inr (1, [.ref h10, .ref h11, .ref h12, .int v_gappings_told])), (h10, .inl (gI g, 7, .inl v_gappings_year)), (h11, .inl (gI g, 7, .inl v_gappings_column)), (h12, .inl (gI g, 7, .inl v_gappings_hand)), (h13, .inr (7, [.ref h1, .ref h3, .ref h9, .ref h14, .long v_trial_all, .ref h15, .ref h16, .ref h17, .ref h18, .int v_trial_losers])), (h14, .inl (gJ g, 8, .inr (.inl v_trial_now))), (h15, .inl (gJ g, 160, .inr (.inl v_trial_stones))), (h16, .inl (gJ g, 20, .inr (.inl v_trial_standing))), (h17, .inl (gI g, 20, .inl v_trial_open)), (h18, .inl (gI g, 20, .inl v_trial_fallen))]

abbrev rm_x_luck : Room := { frames := 4, cells := 0, slots := 0, locals := 112 }

set_option maxHeartbeats 1000000 in
set_option maxRecDepth 100000 in
theorem n_x_luck_N130 {p : Program} {l : Launch} {e : Env} {s : State} {m : MethodId} {args : Array Value} {below : List Frame} {meth : Method} {c : Code} {A : Nat → Prop} {g : gG} {h0 h1 h2 h3 h4 h5 h6 h7 h8 h9 h10 h11 h12 h13 h14 h15 h16 h17 h18 h19 h20 h21 h22 h23 h24 h25 : Nat} {v_toldIsStale : Int32} {v_latestFinding : Int32} {v_wall_courses : Int32} {v_wall_columns : Int32} {v_wall_fault : Int32} {v_wall_jump : Int32} {v_wall_stones : Nat → Int64} {v_hands_told : Int32} {v_hands_fault : Int32} {v_hands_mood : Nat → Int32} {v_hands_strong : Nat → Int32} {v_frosts_told : Int32} {v_frosts_year : Nat → Int32} {v_frosts_force : Nat → Int32} {v_gappings_told : Int32} {v_gappings_year : Nat → Int32} {v_gappings_column : Nat → Int32} {v_gappings_hand : Nat → Int32} {r : (Int64 × Int64 × Int32 × (Nat → Int64) × (Nat → Int64) × (Nat → Int64) × (Nat → Int32) × (Nat → Int32))} (C0 : gX p s m args meth c cX8_luck 9 (some .long) RX8 g A) : ∀ (v_trial_all : Int64) (v_trial_losers : Int32) (v_trial_now : Nat → Int64) (v_trial_stones : Nat → Int64) (v_trial_standing : Nat → Int64) (v_trial_open : Nat → Int32) (v_trial_fallen : Nat → Int32) (x2 : Int32) (x3 : Int64) (x6 : Int64), f_x_luck_N130 v_wall_courses v_wall_columns v_wall_jump v_wall_stones v_hands_told v_hands_mood v_hands_strong v_frosts_told v_frosts_year v_frosts_force v_gappings_told v_gappings_year v_gappings_column v_gappings_hand v_trial_all v_trial_losers v_trial_now v_trial_stones v_trial_standing v_trial_open v_trial_fallen x2 x3 x6 = some r → ∀ (H : Heap) (locs : List Loc) (ls : Array Slot), gW g A s (W_x_luck g h0 h1 h2 h3 h4 h5 h6 h7 h8 h9 h10 h11 h12 h13 h14 h15 h16 h17 h18 h19 h20 h21 h22 h23 h24 h25 v_toldIsStale v_latestFinding v_wall_courses v_wall_columns v_wall_fault v_wall_jump v_wall_stones v_hands_told v_hands_fault v_hands_mood v_hands_strong v_frosts_told v_frosts_year v_frosts_force v_gappings_told v_gappings_year v_gappings_column v_gappings_hand v_trial_all v_trial_losers v_trial_now v_trial_stones v_trial_standing v_trial_open v_trial_fallen) H locs → lv_has ls 9 [(2, .int x2), (3, .long x3), (6, .long x6)] → W p l e rm_x_luck s m args below meth c H locs 0 0 (gQl below args s A g r.1 (W_x_luck g h0 h1 h2 h3 h4 h5 h6 h7 h8 h9 h10 h11 h12 h13 h14 h15 h16 h17 h18 h19 h20 h21 h22 h23 h24 h25 v_toldIsStale v_latestFinding v_wall_courses v_wall_columns v_wall_fault v_wall_jump v_wall_stones v_hands_told v_hands_fault v_hands_mood v_hands_strong v_frosts_told v_frosts_year v_frosts_force v_gappings_told v_gappings_year v_gappings_column v_gappings_hand r.2.1 r.2.2.1 r.2.2.2.1 r.2.2.2.2.1 r.2.2.2.2.2.1 r.2.2.2.2.2.2.1 r.2.2.2.2.2.2.2)) (F0 m 130 ls []) := by
  intro v_trial_all v_trial_losers v_trial_now v_trial_stones v_trial_standing v_trial_open v_trial_fallen x2 x3 x6 hm H locs ls hw hl
  unfold f_x_luck_N130 at hm
  obtain ⟨hx, hb, hr, hml, hown, hts, hlocks, hK, hA⟩ := id C0
  refine lv_iload_n hx hb dX8_luck_130 rfl (lv_at hl 0 rfl) ?_
  refine lv_if_ne (tgt := 138) hx hb dX8_luck_131 (by decide) (fun hc => ?_) (fun hc => ?_)
  · have hm := ineg hc hm
    refine lv_lload hx hb dX8_luck_138 (lv_at hl 2 rfl) ?_
    have hm := Option.some.inj hm
    subst hm
    exact gRetL C0 hw dX8_luck_140
  · have hm := ipos hc hm
    refine lv_lload_n hx hb dX8_luck_134 rfl (lv_at hl 1 rfl) ?_
    refine lv_goto (tgt := 140) hx hb dX8_luck_135 (by decide) ?_
    have hm := Option.some.inj hm
    subst hm
    exact gRetL C0 hw dX8_luck_140
set_option maxHeartbeats 1000000 in
set_option maxRecDepth 100000 in
theorem n_x_luck_N99 {p : Program} {l : Launch} {e : Env} {s : State} {m : MethodId} {args : Array Value} {below : List Frame} {meth : Method} {c : Code} {A : Nat → Prop} {g : gG} {h0 h1 h2 h3 h4 h5 h6 h7 h8 h9 h10 h11 h12 h13 h14 h15 h16 h17 h18 h19 h20 h21 h22 h23 h24 h25 : Nat} {v_toldIsStale : Int32} {v_latestFinding : Int32} {v_wall_courses : Int32} {v_wall_columns : Int32} {v_wall_fault : Int32} {v_wall_jump : Int32} {v_wall_stones : Nat → Int64} {v_hands_told : Int32} {v_hands_fault : Int32} {v_hands_mood : Nat → Int32} {v_hands_strong : Nat → Int32} {v_frosts_told : Int32} {v_frosts_year : Nat → Int32} {v_frosts_force : Nat → Int32} {v_gappings_told : Int32} {v_gappings_year : Nat → Int32} {v_gappings_column : Nat → Int32} {v_gappings_hand : Nat → Int32} {k99 : Int64 → Int32 → (Nat → Int64) → (Nat → Int64) → (Nat → Int64) → (Nat → Int32) → (Nat → Int32) → Int32 → Int64 → Int32 → Int64 → Int32 → Option (Int64 × Int64 × Int32 × (Nat → Int64) × (Nat → Int64) × (Nat → Int64) × (Nat → Int32) × (Nat → Int32))} {r : (Int64 × Int64 × Int32 × (Nat → Int64) × (Nat → Int64) × (Nat → Int64) × (Nat → Int32) × (Nat → Int32))} (C0 : gX p s m args meth c cX8_luck 9 (some .long) RX8 g A) (hk99 : ∀ (v_trial_all : Int64) (v_trial_losers : Int32) (v_trial_now : Nat → Int64) (v_trial_stones : Nat → Int64) (v_trial_standing : Nat → Int64) (v_trial_open : Nat → Int32) (v_trial_fallen : Nat → Int32) (x2 : Int32) (x3 : Int64) (x5 : Int32) (x6 : Int64) (x8 : Int32), k99 v_trial_all v_trial_losers v_trial_now v_trial_stones v_trial_standing v_trial_open v_trial_fallen x2 x3 x5 x6 x8 = some r → ∀ (H : Heap) (locs : List Loc) (ls : Array Slot), gW g A s (W_x_luck g h0 h1 h2 h3 h4 h5 h6 h7 h8 h9 h10 h11 h12 h13 h14 h15 h16 h17 h18 h19 h20 h21 h22 h23 h24 h25 v_toldIsStale v_latestFinding v_wall_courses v_wall_columns v_wall_fault v_wall_jump v_wall_stones v_hands_told v_hands_fault v_hands_mood v_hands_strong v_frosts_told v_frosts_year v_frosts_force v_gappings_told v_gappings_year v_gappings_column v_gappings_hand v_trial_all v_trial_losers v_trial_now v_trial_stones v_trial_standing v_trial_open v_trial_fallen) H locs → lv_has ls 9 [(2, .int x2), (3, .long x3), (5, .int x5), (6, .long x6), (8, .int x8)] → W p l e rm_x_luck s m args below meth c H locs 0 0 (gQl below args s A g r.1 (W_x_luck g h0 h1 h2 h3 h4 h5 h6 h7 h8 h9 h10 h11 h12 h13 h14 h15 h16 h17 h18 h19 h20 h21 h22 h23 h24 h25 v_toldIsStale v_latestFinding v_wall_courses v_wall_columns v_wall_fault v_wall_jump v_wall_stones v_hands_told v_hands_fault v_hands_mood v_hands_strong v_frosts_told v_frosts_year v_frosts_force v_gappings_told v_gappings_year v_gappings_column v_gappings_hand r.2.1 r.2.2.1 r.2.2.2.1 r.2.2.2.2.1 r.2.2.2.2.2.1 r.2.2.2.2.2.2.1 r.2.2.2.2.2.2.2)) (F0 m 99 ls [])) : ∀ (v_trial_all : Int64) (v_trial_losers : Int32) (v_trial_now : Nat → Int64) (v_trial_stones : Nat → Int64) (v_trial_standing : Nat → Int64) (v_trial_open : Nat → Int32) (v_trial_fallen : Nat → Int32) (x2 : Int32) (x3 : Int64) (x5 : Int32) (x6 : Int64) (x8 : Int32), f_x_luck_N99 v_wall_courses v_wall_columns v_wall_jump v_wall_stones v_hands_told v_hands_mood v_hands_strong v_frosts_told v_frosts_year v_frosts_force v_gappings_told v_gappings_year v_gappings_column v_gappings_hand k99 v_trial_all v_trial_losers v_trial_now v_trial_stones v_trial_standing v_trial_open v_trial_fallen x2 x3 x5 x6 x8 = some r → ∀ (H : Heap) (locs : List Loc) (ls : Array Slot), gW g A s (W_x_luck g h0 h1 h2 h3 h4 h5 h6 h7 h8 h9 h10 h11 h12 h13 h14 h15 h16 h17 h18 h19 h20 h21 h22 h23 h24 h25 v_toldIsStale v_latestFinding v_wall_courses v_wall_columns v_wall_fault v_wall_jump v_wall_stones v_hands_told v_hands_fault v_hands_mood v_hands_strong v_frosts_told v_frosts_year v_frosts_force v_gappings_told v_gappings_year v_gappings_column v_gappings_hand v_trial_all v_trial_losers v_trial_now v_trial_stones v_trial_standing v_trial_open v_trial_fallen) H locs → lv_has ls 9 [(2, .int x2), (3, .long x3), (5, .int x5), (6, .long x6), (8, .int x8)] → W p l e rm_x_luck s m args below meth c H locs 0 0 (gQl below args s A g r.1 (W_x_luck g h0 h1 h2 h3 h4 h5 h6 h7 h8 h9 h10 h11 h12 h13 h14 h15 h16 h17 h18 h19 h20 h21 h22 h23 h24 h25 v_toldIsStale v_latestFinding v_wall_courses v_wall_columns v_wall_fault v_wall_jump v_wall_stones v_hands_told v_hands_fault v_hands_mood v_hands_strong v_frosts_told v_frosts_year v_frosts_force v_gappings_told v_gappings_year v_gappings_column v_gappings_hand r.2.1 r.2.2.1 r.2.2.2.1 r.2.2.2.2.1 r.2.2.2.2.2.1 r.2.2.2.2.2.2.1 r.2.2.2.2.2.2.2)) (F0 m 99 ls []) := by
  intro v_trial_all v_trial_losers v_trial_now v_trial_stones v_trial_standing v_trial_open v_trial_fallen x2 x3 x5 x6 x8 hm H locs ls hw hl
  unfold f_x_luck_N99 at hm
  obtain ⟨hx, hb, hr, hml, hown, hts, hlocks, hK, hA⟩ := id C0
  refine lv_iload hx hb dX8_luck_99 (lv_at hl 4 rfl) ?_
  refine lv_iload hx hb dX8_luck_101 (lv_at hl 2 rfl) ?_
  refine lv_icmp_ge (tgt := 130) hx hb dX8_luck_103 (by decide) (fun hc => ?_) (fun hc => ?_)
  · have hm := ipos hc hm
    exact n_x_luck_N130 C0  _ _ _ _ _ _ _ _ _ _ hm _ _ _ hw (lv_sub hl [0, 1, 3] rfl)
  · have hm := ineg hc hm
    refine lv_lload_n hx hb dX8_luck_106 rfl (lv_at hl 1 rfl) ?_
    refine lv_lconst (v := 1) hx hb dX8_luck_107 (by decide) ?_
    refine lv_land hx hb dX8_luck_108 ?_
    refine lv_lconst (v := 0) hx hb dX8_luck_109 (by decide) ?_
    refine W.lcmp hx hb dX8_luck_110 ?_
    refine lv_if_ne (tgt := 130) hx hb dX8_luck_111 (by decide) (fun hc => ?_) (fun hc => ?_)
    · have hm := ineg hc hm
      exact n_x_luck_N130 C0  _ _ _ _ _ _ _ _ _ _ hm _ _ _ hw (lv_sub hl [0, 1, 3] rfl)
    · have hm := ipos hc hm
      refine lv_lload_n hx hb dX8_luck_114 rfl (lv_at hl 1 rfl) ?_
      refine lv_iconst (v := 1) hx hb dX8_luck_115 (by decide) ?_
      refine lv_lshr (v := lshr x3 (1 : Int32)) hx hb dX8_luck_116 rfl ?_
      refine lv_lstore_n (lv' := [(3, .long (lshr x3 (1 : Int32))), (2, .int x2), (5, .int x5), (6, .long x6), (8, .int x8)]) hx hb dX8_luck_117 rfl hl (by decide) rfl (fun ls hl => ?_)
      refine lv_lload hx hb dX8_luck_118 (lv_at hl 3 rfl) ?_
      refine lv_iconst (v := 1) hx hb dX8_luck_120 (by decide) ?_
      refine lv_lshr (v := lshr x6 (1 : Int32)) hx hb dX8_luck_121 rfl ?_
      refine lv_lstore (lv' := [(6, .long (lshr x6 (1 : Int32))), (3, .long (lshr x3 (1 : Int32))), (2, .int x2), (5, .int x5), (8, .int x8)]) hx hb dX8_luck_122 hl (by decide) rfl (fun ls hl => ?_)
      refine lv_iinc (v := x8 + (1 : Int32)) (lv' := [(8, .int (x8 + (1 : Int32))), (6, .long (lshr x6 (1 : Int32))), (3, .long (lshr x3 (1 : Int32))), (2, .int x2), (5, .int x5)]) hx hb dX8_luck_124 hl (k := 4) rfl rfl (by decide) rfl (fun ls hl => ?_)
      refine lv_goto (tgt := 99) hx hb dX8_luck_127 (by decide) ?_
      exact hk99 _ _ _ _ _ _ _ _ _ _ _ _ hm _ _ _ hw (lv_sub hl [3, 2, 4, 1, 0] rfl)
set_option maxHeartbeats 1000000 in
set_option maxRecDepth 100000 in
theorem l_x_luck_N99 {p : Program} {l : Launch} {e : Env} {s : State} {m : MethodId} {args : Array Value} {below : List Frame} {meth : Method} {c : Code} {A : Nat → Prop} {g : gG} {h0 h1 h2 h3 h4 h5 h6 h7 h8 h9 h10 h11 h12 h13 h14 h15 h16 h17 h18 h19 h20 h21 h22 h23 h24 h25 : Nat} {v_toldIsStale : Int32} {v_latestFinding : Int32} {v_wall_courses : Int32} {v_wall_columns : Int32} {v_wall_fault : Int32} {v_wall_jump : Int32} {v_wall_stones : Nat → Int64} {v_hands_told : Int32} {v_hands_fault : Int32} {v_hands_mood : Nat → Int32} {v_hands_strong : Nat → Int32} {v_frosts_told : Int32} {v_frosts_year : Nat → Int32} {v_frosts_force : Nat → Int32} {v_gappings_told : Int32} {v_gappings_year : Nat → Int32} {v_gappings_column : Nat → Int32} {v_gappings_hand : Nat → Int32} {r : (Int64 × Int64 × Int32 × (Nat → Int64) × (Nat → Int64) × (Nat → Int64) × (Nat → Int32) × (Nat → Int32))} (C0 : gX p s m args meth c cX8_luck 9 (some .long) RX8 g A) : ∀ n : Nat, ∀ (v_trial_all : Int64) (v_trial_losers : Int32) (v_trial_now : Nat → Int64) (v_trial_stones : Nat → Int64) (v_trial_standing : Nat → Int64) (v_trial_open : Nat → Int32) (v_trial_fallen : Nat → Int32) (x2 : Int32) (x3 : Int64) (x5 : Int32) (x6 : Int64) (x8 : Int32), iter (fun _ _ _ _ _ _ _ _ _ _ _ _ => none) (f_x_luck_N99 v_wall_courses v_wall_columns v_wall_jump v_wall_stones v_hands_told v_hands_mood v_hands_strong v_frosts_told v_frosts_year v_frosts_force v_gappings_told v_gappings_year v_gappings_column v_gappings_hand) n v_trial_all v_trial_losers v_trial_now v_trial_stones v_trial_standing v_trial_open v_trial_fallen x2 x3 x5 x6 x8 = some r → ∀ (H : Heap) (locs : List Loc) (ls : Array Slot), gW g A s (W_x_luck g h0 h1 h2 h3 h4 h5 h6 h7 h8 h9 h10 h11 h12 h13 h14 h15 h16 h17 h18 h19 h20 h21 h22 h23 h24 h25 v_toldIsStale v_latestFinding v_wall_courses v_wall_columns v_wall_fault v_wall_jump v_wall_stones v_hands_told v_hands_fault v_hands_mood v_hands_strong v_frosts_told v_frosts_year v_frosts_force v_gappings_told v_gappings_year v_gappings_column v_gappings_hand v_trial_all v_trial_losers v_trial_now v_trial_stones v_trial_standing v_trial_open v_trial_fallen) H locs → lv_has ls 9 [(2, .int x2), (3, .long x3), (5, .int x5), (6, .long x6), (8, .int x8)] → W p l e rm_x_luck s m args below meth c H locs 0 0 (gQl below args s A g r.1 (W_x_luck g h0 h1 h2 h3 h4 h5 h6 h7 h8 h9 h10 h11 h12 h13 h14 h15 h16 h17 h18 h19 h20 h21 h22 h23 h24 h25 v_toldIsStale v_latestFinding v_wall_courses v_wall_columns v_wall_fault v_wall_jump v_wall_stones v_hands_told v_hands_fault v_hands_mood v_hands_strong v_frosts_told v_frosts_year v_frosts_force v_gappings_told v_gappings_year v_gappings_column v_gappings_hand r.2.1 r.2.2.1 r.2.2.2.1 r.2.2.2.2.1 r.2.2.2.2.2.1 r.2.2.2.2.2.2.1 r.2.2.2.2.2.2.2)) (F0 m 99 ls []) := by
  intro n
  induction n with
  | zero =>
    intro v_trial_all v_trial_losers v_trial_now v_trial_stones v_trial_standing v_trial_open v_trial_fallen x2 x3 x5 x6 x8 hm
    cases hm
  | succ n ih =>
    exact n_x_luck_N99 C0  ih
set_option maxHeartbeats 1000000 in
set_option maxRecDepth 100000 in
theorem n_x_luck_N26 {p : Program} {l : Launch} {e : Env} {s : State} {m : MethodId} {args : Array Value} {below : List Frame} {meth : Method} {c : Code} {A : Nat → Prop} {g : gG} {h0 h1 h2 h3 h4 h5 h6 h7 h8 h9 h10 h11 h12 h13 h14 h15 h16 h17 h18 h19 h20 h21 h22 h23 h24 h25 : Nat} {v_toldIsStale : Int32} {v_latestFinding : Int32} {v_wall_courses : Int32} {v_wall_columns : Int32} {v_wall_fault : Int32} {v_wall_jump : Int32} {v_wall_stones : Nat → Int64} {v_hands_told : Int32} {v_hands_fault : Int32} {v_hands_mood : Nat → Int32} {v_hands_strong : Nat → Int32} {v_frosts_told : Int32} {v_frosts_year : Nat → Int32} {v_frosts_force : Nat → Int32} {v_gappings_told : Int32} {v_gappings_year : Nat → Int32} {v_gappings_column : Nat → Int32} {v_gappings_hand : Nat → Int32} {k26 : Int64 → Int32 → (Nat → Int64) → (Nat → Int64) → (Nat → Int64) → (Nat → Int32) → (Nat → Int32) → Int32 → Int32 → Int64 → Int32 → Option (Int64 × Int64 × Int32 × (Nat → Int64) × (Nat → Int64) × (Nat → Int64) × (Nat → Int32) × (Nat → Int32))} {r : (Int64 × Int64 × Int32 × (Nat → Int64) × (Nat → Int64) × (Nat → Int64) × (Nat → Int32) × (Nat → Int32))} (C0 : gX p s m args meth c cX8_luck 9 (some .long) RX8 g A) (hk26 : ∀ (v_trial_all : Int64) (v_trial_losers : Int32) (v_trial_now : Nat → Int64) (v_trial_stones : Nat → Int64) (v_trial_standing : Nat → Int64) (v_trial_open : Nat → Int32) (v_trial_fallen : Nat → Int32) (x1 : Int32) (x2 : Int32) (x3 : Int64) (x5 : Int32), k26 v_trial_all v_trial_losers v_trial_now v_trial_stones v_trial_standing v_trial_open v_trial_fallen x1 x2 x3 x5 = some r → ∀ (H : Heap) (locs : List Loc) (ls : Array Slot), gW g A s (W_x_luck g h0 h1 h2 h3 h4 h5 h6 h7 h8 h9 h10 h11 h12 h13 h14 h15 h16 h17 h18 h19 h20 h21 h22 h23 h24 h25 v_toldIsStale v_latestFinding v_wall_courses v_wall_columns v_wall_fault v_wall_jump v_wall_stones v_hands_told v_hands_fault v_hands_mood v_hands_strong v_frosts_told v_frosts_year v_frosts_force v_gappings_told v_gappings_year v_gappings_column v_gappings_hand v_trial_all v_trial_losers v_trial_now v_trial_stones v_trial_standing v_trial_open v_trial_fallen) H locs → lv_has ls 9 [(0, .ref h0), (1, .int x1), (2, .int x2), (3, .long x3), (5, .int x5)] → W p l e rm_x_luck s m args below meth c H locs 0 0 (gQl below args s A g r.1 (W_x_luck g h0 h1 h2 h3 h4 h5 h6 h7 h8 h9 h10 h11 h12 h13 h14 h15 h16 h17 h18 h19 h20 h21 h22 h23 h24 h25 v_toldIsStale v_latestFinding v_wall_courses v_wall_columns v_wall_fault v_wall_jump v_wall_stones v_hands_told v_hands_fault v_hands_mood v_hands_strong v_frosts_told v_frosts_year v_frosts_force v_gappings_told v_gappings_year v_gappings_column v_gappings_hand r.2.1 r.2.2.1 r.2.2.2.1 r.2.2.2.2.1 r.2.2.2.2.2.1 r.2.2.2.2.2.2.1 r.2.2.2.2.2.2.2)) (F0 m 26 ls [])) : ∀ (v_trial_all : Int64) (v_trial_losers : Int32) (v_trial_now : Nat → Int64) (v_trial_stones : Nat → Int64) (v_trial_standing : Nat → Int64) (v_trial_open : Nat → Int32) (v_trial_fallen : Nat → Int32) (x1 : Int32) (x2 : Int32) (x3 : Int64) (x5 : Int32), f_x_luck_N26 v_wall_courses v_wall_columns v_wall_jump v_wall_stones v_hands_told v_hands_mood v_hands_strong v_frosts_told v_frosts_year v_frosts_force v_gappings_told v_gappings_year v_gappings_column v_gappings_hand k26 v_trial_all v_trial_losers v_trial_now v_trial_stones v_trial_standing v_trial_open v_trial_fallen x1 x2 x3 x5 = some r → ∀ (H : Heap) (locs : List Loc) (ls : Array Slot), gW g A s (W_x_luck g h0 h1 h2 h3 h4 h5 h6 h7 h8 h9 h10 h11 h12 h13 h14 h15 h16 h17 h18 h19 h20 h21 h22 h23 h24 h25 v_toldIsStale v_latestFinding v_wall_courses v_wall_columns v_wall_fault v_wall_jump v_wall_stones v_hands_told v_hands_fault v_hands_mood v_hands_strong v_frosts_told v_frosts_year v_frosts_force v_gappings_told v_gappings_year v_gappings_column v_gappings_hand v_trial_all v_trial_losers v_trial_now v_trial_stones v_trial_standing v_trial_open v_trial_fallen) H locs → lv_has ls 9 [(0, .ref h0), (1, .int x1), (2, .int x2), (3, .long x3), (5, .int x5)] → W p l e rm_x_luck s m args below meth c H locs 0 0 (gQl below args s A g r.1 (W_x_luck g h0 h1 h2 h3 h4 h5 h6 h7 h8 h9 h10 h11 h12 h13 h14 h15 h16 h17 h18 h19 h20 h21 h22 h23 h24 h25 v_toldIsStale v_latestFinding v_wall_courses v_wall_columns v_wall_fault v_wall_jump v_wall_stones v_hands_told v_hands_fault v_hands_mood v_hands_strong v_frosts_told v_frosts_year v_frosts_force v_gappings_told v_gappings_year v_gappings_column v_gappings_hand r.2.1 r.2.2.1 r.2.2.2.1 r.2.2.2.2.1 r.2.2.2.2.2.1 r.2.2.2.2.2.2.1 r.2.2.2.2.2.2.2)) (F0 m 26 ls []) := by
  intro v_trial_all v_trial_losers v_trial_now v_trial_stones v_trial_standing v_trial_open v_trial_fallen x1 x2 x3 x5 hm H locs ls hw hl
  unfold f_x_luck_N26 at hm
  obtain ⟨hx, hb, hr, hml, hown, hts, hlocks, hK, hA⟩ := id C0
  refine lv_iload hx hb dX8_luck_26 (lv_at hl 4 rfl) ?_
  refine lv_iconst (v := 1) hx hb dX8_luck_28 (by decide) ?_
  refine lv_aload_n hx hb dX8_luck_29 rfl (lv_at hl 0 rfl) ?_
  refine gGet C0 hw flX8_38 0 rfl rfl dX8_luck_30 ?_
  refine gGet C0 hw flX8_142 6 rfl rfl dX8_luck_33 ?_
  refine lv_ishl hx hb dX8_luck_36 ?_
  refine lv_icmp_ge (tgt := 79) hx hb dX8_luck_37 (by decide) (fun hc => ?_) (fun hc => ?_)
  · have hm := ipos hc hm
    refine lv_iconst (v := 4) hx hb dX8_luck_79 (by decide) ?_
    refine lv_aload_n hx hb dX8_luck_80 rfl (lv_at hl 0 rfl) ?_
    refine gGet C0 hw flX8_38 0 rfl rfl dX8_luck_81 ?_
    refine gGet C0 hw flX8_142 6 rfl rfl dX8_luck_84 ?_
    refine lv_imul hx hb dX8_luck_87 ?_
    refine lv_istore (lv' := [(5, .int ((4 : Int32) * v_frosts_told)), (0, .ref h0), (1, .int x1), (2, .int x2), (3, .long x3)]) hx hb dX8_luck_88 hl (by decide) rfl (fun ls hl => ?_)
    refine lv_lconst (v := 1) hx hb dX8_luck_90 (by decide) ?_
    refine lv_iload hx hb dX8_luck_91 (lv_at hl 0 rfl) ?_
    refine lv_lshl (v := lshl (1 : Int64) ((4 : Int32) * v_frosts_told)) hx hb dX8_luck_93 rfl ?_
    refine lv_lstore (lv' := [(6, .long (lshl (1 : Int64) ((4 : Int32) * v_frosts_told))), (5, .int ((4 : Int32) * v_frosts_told)), (0, .ref h0), (1, .int x1), (2, .int x2), (3, .long x3)]) hx hb dX8_luck_94 hl (by decide) rfl (fun ls hl => ?_)
    refine lv_iconst (v := 0) hx hb dX8_luck_96 (by decide) ?_
    refine lv_istore (lv' := [(8, .int (0 : Int32)), (6, .long (lshl (1 : Int64) ((4 : Int32) * v_frosts_told))), (5, .int ((4 : Int32) * v_frosts_told)), (0, .ref h0), (1, .int x1), (2, .int x2), (3, .long x3)]) hx hb dX8_luck_97 hl (by decide) rfl (fun ls hl => ?_)
    exact l_x_luck_N99 C0  1000 _ _ _ _ _ _ _ _ _ _ _ _ hm _ _ _ hw (lv_sub hl [5, 6, 2, 1, 0] rfl)
  · have hm := ineg hc hm
    refine lv_aload_n hx hb dX8_luck_40 rfl (lv_at hl 0 rfl) ?_
    refine gGet C0 hw flX8_74 0 rfl rfl dX8_luck_41 ?_
    refine lv_aload_n hx hb dX8_luck_44 rfl (lv_at hl 0 rfl) ?_
    refine gGet C0 hw flX8_38 0 rfl rfl dX8_luck_45 ?_
    refine lv_iload hx hb dX8_luck_48 (lv_at hl 4 rfl) ?_
    obtain ⟨o50, ho50, hm⟩ := bindE hm
    refine gCallv (ws' := (W_x_luck g h0 h1 h2 h3 h4 h5 h6 h7 h8 h9 h10 h11 h12 h13 h14 h15 h16 h17 h18 h19 h20 h21 h22 h23 h24 h25 v_toldIsStale v_latestFinding v_wall_courses v_wall_columns v_wall_fault v_wall_jump v_wall_stones v_hands_told v_hands_fault v_hands_mood v_hands_strong v_frosts_told v_frosts_year v_frosts_force v_gappings_told v_gappings_year v_gappings_column v_gappings_hand o50.1 o50.2.1 o50.2.2.1 o50.2.2.2.1 o50.2.2.2.2.1 o50.2.2.2.2.2.1 o50.2.2.2.2.2.2)) C0 hw (gRunV (As := [.ref h6, .int x5]) (rest := []) C0 hw lkX8_205 (c_ys_run l g H.size h13 h1 h2 h3 h4 h5 h9 h10 h11 h12 h14 h15 h16 h17 h18 h6 h7 h8 v_trial_all v_trial_losers v_wall_courses v_wall_columns v_wall_fault v_wall_jump v_wall_stones v_hands_told v_hands_fault v_hands_mood v_hands_strong v_gappings_told v_gappings_year v_gappings_column v_gappings_hand v_trial_now v_trial_stones v_trial_standing v_trial_open v_trial_fallen v_frosts_told v_frosts_year v_frosts_force x5 o50 ho50) ⟨rfl, rfl⟩ ⟨Nat.le_of_ble_eq_true rfl, Nat.le_of_ble_eq_true rfl⟩ [13, 1, 2, 3, 4, 5, 9, 10, 11, 12, 14, 15, 16, 17, 18, 6, 7, 8] (by decide) rfl 13 rfl rfl rfl hl.1 rfl (Nat.le_of_ble_eq_true rfl) dX8_luck_50) [13, 1, 2, 3, 4, 5, 9, 10, 11, 12, 14, 15, 16, 17, 18, 6, 7, 8] [0] rfl rfl ⟨rfl, trivial⟩ [h0, h1, h2, h3, h4, h5, h6, h7, h8, h9, h10, h11, h12, h13, h14, h15, h16, h17, h18] rfl rfl 19 rfl (by decide +kernel) (fun H locs hw => ?_)
    refine lv_aload_n hx hb dX8_luck_53 rfl (lv_at hl 0 rfl) ?_
    refine gGet C0 hw flX8_74 0 rfl rfl dX8_luck_54 ?_
    obtain ⟨o57, ho57, hm⟩ := bindE hm
    refine gCalli (ws' := (W_x_luck g h0 h1 h2 h3 h4 h5 h6 h7 h8 h9 h10 h11 h12 h13 h14 h15 h16 h17 h18 h19 h20 h21 h22 h23 h24 h25 v_toldIsStale v_latestFinding v_wall_courses v_wall_columns v_wall_fault v_wall_jump v_wall_stones v_hands_told v_hands_fault v_hands_mood v_hands_strong v_frosts_told v_frosts_year v_frosts_force v_gappings_told v_gappings_year v_gappings_column v_gappings_hand o50.1 o50.2.1 o50.2.2.1 o50.2.2.2.1 o50.2.2.2.2.1 o50.2.2.2.2.2.1 o50.2.2.2.2.2.2)) C0 hw (gRunV (As := []) (rest := []) C0 hw lkX8_198 (c_ys_openYears l g H.size h13 h17 h1 h3 h9 h14 h15 h16 h18 o50.1 o50.2.1 o50.2.2.2.2.2.1 o57 ho57) ⟨rfl, rfl⟩ ⟨Nat.le_of_ble_eq_true rfl, Nat.le_of_ble_eq_true rfl⟩ [13, 17] (by decide) rfl 13 rfl rfl rfl hl.1 rfl (Nat.le_of_ble_eq_true rfl) dX8_luck_57) [13, 17] [0, 1, 2, 3, 4, 5, 6, 7, 8, 9, 10, 11, 12, 14, 15, 16, 18] rfl rfl ⟨rfl, rfl, rfl, rfl, rfl, rfl, rfl, rfl, rfl, rfl, rfl, rfl, rfl, rfl, rfl, rfl, rfl, trivial⟩ [h0, h1, h2, h3, h4, h5, h6, h7, h8, h9, h10, h11, h12, h13, h14, h15, h16, h17, h18] rfl rfl 19 rfl (by decide +kernel) (fun H locs hw => ?_)
    refine lv_if_ne (tgt := 73) hx hb dX8_luck_60 (by decide) (fun hc => ?_) (fun hc => ?_)
    · have hm := ineg hc hm
      refine lv_iinc (v := x5 + (1 : Int32)) (lv' := [(5, .int (x5 + (1 : Int32))), (0, .ref h0), (1, .int x1), (2, .int x2), (3, .long x3)]) hx hb dX8_luck_73 hl (k := 4) rfl rfl (by decide) rfl (fun ls hl => ?_)
      refine lv_goto (tgt := 26) hx hb dX8_luck_76 (by decide) ?_
      exact hk26 _ _ _ _ _ _ _ _ _ _ _ hm _ _ _ hw (lv_sub hl [1, 2, 3, 4, 0] rfl)
    · have hm := ipos hc hm
      refine lv_lload_n hx hb dX8_luck_63 rfl (lv_at hl 3 rfl) ?_
      refine lv_aload_n hx hb dX8_luck_64 rfl (lv_at hl 0 rfl) ?_
      refine lv_iload hx hb dX8_luck_65 (lv_at hl 4 rfl) ?_
      refine lv_iload_n hx hb dX8_luck_67 rfl (lv_at hl 1 rfl) ?_
      obtain ⟨o68, ho68, hm⟩ := bindE hm
      refine gCalll (ws' := (W_x_luck g h0 h1 h2 h3 h4 h5 h6 h7 h8 h9 h10 h11 h12 h13 h14 h15 h16 h17 h18 h19 h20 h21 h22 h23 h24 h25 v_toldIsStale v_latestFinding v_wall_courses v_wall_columns v_wall_fault v_wall_jump v_wall_stones v_hands_told v_hands_fault v_hands_mood v_hands_strong v_frosts_told v_frosts_year v_frosts_force v_gappings_told v_gappings_year v_gappings_column v_gappings_hand o50.1 o50.2.1 o50.2.2.1 o50.2.2.2.1 o50.2.2.2.2.1 o50.2.2.2.2.2.1 o50.2.2.2.2.2.2)) C0 hw (gRunV (As := [.int x5, .int x1]) (rest := [.long x3]) C0 hw lkX8_249 (c_x_waysOf l g H.size h0 h6 h19 h20 h1 h3 h21 h9 h22 h23 h24 h13 h25 h7 h8 v_toldIsStale v_latestFinding v_frosts_told x5 x1 o68 ho68) ⟨rfl, rfl⟩ ⟨Nat.le_of_ble_eq_true rfl, Nat.le_of_ble_eq_true rfl⟩ [0, 6] (by decide) rfl 0 rfl rfl rfl hl.1 rfl (Nat.le_of_ble_eq_true rfl) dX8_luck_68) [0, 6] [1, 2, 3, 4, 5, 7, 8, 9, 10, 11, 12, 13, 14, 15, 16, 17, 18] rfl rfl ⟨rfl, rfl, rfl, rfl, rfl, rfl, rfl, rfl, rfl, rfl, rfl, rfl, rfl, rfl, rfl, rfl, rfl, trivial⟩ [h0, h1, h2, h3, h4, h5, h6, h7, h8, h9, h10, h11, h12, h13, h14, h15, h16, h17, h18] rfl rfl 19 rfl (by decide +kernel) (fun H locs hw => ?_)
      refine lv_ladd hx hb dX8_luck_71 ?_
      refine lv_lstore_n (lv' := [(3, .long (x3 + o68)), (0, .ref h0), (1, .int x1), (2, .int x2), (5, .int x5)]) hx hb dX8_luck_72 rfl hl (by decide) rfl (fun ls hl => ?_)
      refine lv_iinc (v := x5 + (1 : Int32)) (lv' := [(5, .int (x5 + (1 : Int32))), (3, .long (x3 + o68)), (0, .ref h0), (1, .int x1), (2, .int x2)]) hx hb dX8_luck_73 hl (k := 4) rfl rfl (by decide) rfl (fun ls hl => ?_)
      refine lv_goto (tgt := 26) hx hb dX8_luck_76 (by decide) ?_
      exact hk26 _ _ _ _ _ _ _ _ _ _ _ hm _ _ _ hw (lv_sub hl [2, 3, 4, 1, 0] rfl)
set_option maxHeartbeats 1000000 in
set_option maxRecDepth 100000 in
theorem l_x_luck_N26 {p : Program} {l : Launch} {e : Env} {s : State} {m : MethodId} {args : Array Value} {below : List Frame} {meth : Method} {c : Code} {A : Nat → Prop} {g : gG} {h0 h1 h2 h3 h4 h5 h6 h7 h8 h9 h10 h11 h12 h13 h14 h15 h16 h17 h18 h19 h20 h21 h22 h23 h24 h25 : Nat} {v_toldIsStale : Int32} {v_latestFinding : Int32} {v_wall_courses : Int32} {v_wall_columns : Int32} {v_wall_fault : Int32} {v_wall_jump : Int32} {v_wall_stones : Nat → Int64} {v_hands_told : Int32} {v_hands_fault : Int32} {v_hands_mood : Nat → Int32} {v_hands_strong : Nat → Int32} {v_frosts_told : Int32} {v_frosts_year : Nat → Int32} {v_frosts_force : Nat → Int32} {v_gappings_told : Int32} {v_gappings_year : Nat → Int32} {v_gappings_column : Nat → Int32} {v_gappings_hand : Nat → Int32} {r : (Int64 × Int64 × Int32 × (Nat → Int64) × (Nat → Int64) × (Nat → Int64) × (Nat → Int32) × (Nat → Int32))} (C0 : gX p s m args meth c cX8_luck 9 (some .long) RX8 g A) : ∀ n : Nat, ∀ (v_trial_all : Int64) (v_trial_losers : Int32) (v_trial_now : Nat → Int64) (v_trial_stones : Nat → Int64) (v_trial_standing : Nat → Int64) (v_trial_open : Nat → Int32) (v_trial_fallen : Nat → Int32) (x1 : Int32) (x2 : Int32) (x3 : Int64) (x5 : Int32), iter (fun _ _ _ _ _ _ _ _ _ _ _ => none) (f_x_luck_N26 v_wall_courses v_wall_columns v_wall_jump v_wall_stones v_hands_told v_hands_mood v_hands_strong v_frosts_told v_frosts_year v_frosts_force v_gappings_told v_gappings_year v_gappings_column v_gappings_hand) n v_trial_all v_trial_losers v_trial_now v_trial_stones v_trial_standing v_trial_open v_trial_fallen x1 x2 x3 x5 = some r → ∀ (H : Heap) (locs : List Loc) (ls : Array Slot), gW g A s (W_x_luck g h0 h1 h2 h3 h4 h5 h6 h7 h8 h9 h10 h11 h12 h13 h14 h15 h16 h17 h18 h19 h20 h21 h22 h23 h24 h25 v_toldIsStale v_latestFinding v_wall_courses v_wall_columns v_wall_fault v_wall_jump v_wall_stones v_hands_told v_hands_fault v_hands_mood v_hands_strong v_frosts_told v_frosts_year v_frosts_force v_gappings_told v_gappings_year v_gappings_column v_gappings_hand v_trial_all v_trial_losers v_trial_now v_trial_stones v_trial_standing v_trial_open v_trial_fallen) H locs → lv_has ls 9 [(0, .ref h0), (1, .int x1), (2, .int x2), (3, .long x3), (5, .int x5)] → W p l e rm_x_luck s m args below meth c H locs 0 0 (gQl below args s A g r.1 (W_x_luck g h0 h1 h2 h3 h4 h5 h6 h7 h8 h9 h10 h11 h12 h13 h14 h15 h16 h17 h18 h19 h20 h21 h22 h23 h24 h25 v_toldIsStale v_latestFinding v_wall_courses v_wall_columns v_wall_fault v_wall_jump v_wall_stones v_hands_told v_hands_fault v_hands_mood v_hands_strong v_frosts_told v_frosts_year v_frosts_force v_gappings_told v_gappings_year v_gappings_column v_gappings_hand r.2.1 r.2.2.1 r.2.2.2.1 r.2.2.2.2.1 r.2.2.2.2.2.1 r.2.2.2.2.2.2.1 r.2.2.2.2.2.2.2)) (F0 m 26 ls []) := by
  intro n
  induction n with
  | zero =>
    intro v_trial_all v_trial_losers v_trial_now v_trial_stones v_trial_standing v_trial_open v_trial_fallen x1 x2 x3 x5 hm
    cases hm
  | succ n ih =>
    exact n_x_luck_N26 C0  ih
set_option maxHeartbeats 1000000 in
set_option maxRecDepth 100000 in
theorem c_x_luck (l : Launch) (g : gG) (sz : Nat) (h0 h1 h2 h3 h4 h5 h6 h7 h8 h9 h10 h11 h12 h13 h14 h15 h16 h17 h18 h19 h20 h21 h22 h23 h24 h25 : Nat) (v_toldIsStale : Int32) (v_latestFinding : Int32) (v_wall_courses : Int32) (v_wall_columns : Int32) (v_wall_fault : Int32) (v_wall_jump : Int32) (v_wall_stones : Nat → Int64) (v_hands_told : Int32) (v_hands_fault : Int32) (v_hands_mood : Nat → Int32) (v_hands_strong : Nat → Int32) (v_frosts_told : Int32) (v_frosts_year : Nat → Int32) (v_frosts_force : Nat → Int32) (v_gappings_told : Int32) (v_gappings_year : Nat → Int32) (v_gappings_column : Nat → Int32) (v_gappings_hand : Nat → Int32) (v_trial_all : Int64) (v_trial_losers : Int32) (v_trial_now : Nat → Int64) (v_trial_stones : Nat → Int64) (v_trial_standing : Nat → Int64) (v_trial_open : Nat → Int32) (v_trial_fallen : Nat → Int32) (a0 : Int32) (a1 : Int32) (r : (Int64 × Int64 × Int32 × (Nat → Int64) × (Nat → Int64) × (Nat → Int64) × (Nat → Int32) × (Nat → Int32))) (hm : f_x_luck v_wall_courses v_wall_columns v_wall_jump v_wall_stones v_hands_told v_hands_mood v_hands_strong v_frosts_told v_frosts_year v_frosts_force v_gappings_told v_gappings_year v_gappings_column v_gappings_hand v_trial_all v_trial_losers v_trial_now v_trial_stones v_trial_standing v_trial_open v_trial_fallen a0 a1 = some r) : gMl l yX8_luck cX8_luck 9 (some .long) rm_x_luck g sz [.ref h0, .int a0, .int a1] (W_x_luck g h0 h1 h2 h3 h4 h5 h6 h7 h8 h9 h10 h11 h12 h13 h14 h15 h16 h17 h18 h19 h20 h21 h22 h23 h24 h25 v_toldIsStale v_latestFinding v_wall_courses v_wall_columns v_wall_fault v_wall_jump v_wall_stones v_hands_told v_hands_fault v_hands_mood v_hands_strong v_frosts_told v_frosts_year v_frosts_force v_gappings_told v_gappings_year v_gappings_column v_gappings_hand v_trial_all v_trial_losers v_trial_now v_trial_stones v_trial_standing v_trial_open v_trial_fallen) r.1 (W_x_luck g h0 h1 h2 h3 h4 h5 h6 h7 h8 h9 h10 h11 h12 h13 h14 h15 h16 h17 h18 h19 h20 h21 h22 h23 h24 h25 v_toldIsStale v_latestFinding v_wall_courses v_wall_columns v_wall_fault v_wall_jump v_wall_stones v_hands_told v_hands_fault v_hands_mood v_hands_strong v_frosts_told v_frosts_year v_frosts_force v_gappings_told v_gappings_year v_gappings_column v_gappings_hand r.2.1 r.2.2.1 r.2.2.2.1 r.2.2.2.2.1 r.2.2.2.2.2.1 r.2.2.2.2.2.2.1 r.2.2.2.2.2.2.2) := by
  unfold f_x_luck at hm
  refine gEnterL (by decide) (Nat.le_of_ble_eq_true rfl) (fun p e s m below meth c A C0 H locs hw ls hl => ?_)
  obtain ⟨hx, hb, hr, hml, hown, hts, hlocks, hK, hA⟩ := id C0
  have C0 : gX p s m [.ref h0, .int a0, .int a1].toArray meth c cX8_luck 9 (some .long) RX8 g A := C0
  have hl : lv_has ls 9 [(0, .ref h0), (1, .int a0), (2, .int a1)] := hl
  refine lv_iload_n hx hb dX8_luck_0 rfl (lv_at hl 1 rfl) ?_
  refine lv_iconst (v := 0) hx hb dX8_luck_1 (by decide) ?_
  refine lv_bipush (v := 16) hx hb dX8_luck_2 (by decide) ?_
  obtain ⟨o4, ho4, hm⟩ := bindE hm
  refine gCalli (ws' := (W_x_luck g h0 h1 h2 h3 h4 h5 h6 h7 h8 h9 h10 h11 h12 h13 h14 h15 h16 h17 h18 h19 h20 h21 h22 h23 h24 h25 v_toldIsStale v_latestFinding v_wall_courses v_wall_columns v_wall_fault v_wall_jump v_wall_stones v_hands_told v_hands_fault v_hands_mood v_hands_strong v_frosts_told v_frosts_year v_frosts_force v_gappings_told v_gappings_year v_gappings_column v_gappings_hand v_trial_all v_trial_losers v_trial_now v_trial_stones v_trial_standing v_trial_open v_trial_fallen)) C0 hw (gRunS (As := [.int a0, .int (0 : Int32), .int (16 : Int32)]) (rest := []) C0 hw lkX8_94 (c_x_within l g H.size  a0 (0 : Int32) (16 : Int32) o4 ho4) ⟨rfl, rfl⟩ ⟨Nat.le_of_ble_eq_true rfl, Nat.le_of_ble_eq_true rfl⟩ [] (by decide) rfl rfl hl.1 rfl (Nat.le_of_ble_eq_true rfl) dX8_luck_4) [] [0, 1, 2, 3, 4, 5, 6, 7, 8, 9, 10, 11, 12, 13, 14, 15, 16, 17, 18] rfl rfl ⟨rfl, rfl, rfl, rfl, rfl, rfl, rfl, rfl, rfl, rfl, rfl, rfl, rfl, rfl, rfl, rfl, rfl, rfl, rfl, trivial⟩ [h0, h1, h2, h3, h4, h5, h6, h7, h8, h9, h10, h11, h12, h13, h14, h15, h16, h17, h18] rfl rfl 19 rfl (by decide +kernel) (fun H locs hw => ?_)
  refine lv_if_eq (tgt := 17) hx hb dX8_luck_7 (by decide) (fun hc => ?_) (fun hc => ?_)
  · have hm := ipos hc hm
    refine lv_ldc2 (v := -9223372036854775806) hx hb hown (hts _ kX8_247) dX8_luck_17 ?_
    have hm := Option.some.inj hm
    subst hm
    exact gRetL C0 hw dX8_luck_20
  · have hm := ineg hc hm
    refine lv_iload_n hx hb dX8_luck_10 rfl (lv_at hl 2 rfl) ?_
    obtain ⟨o11, ho11, hm⟩ := bindE hm
    refine gCalli (ws' := (W_x_luck g h0 h1 h2 h3 h4 h5 h6 h7 h8 h9 h10 h11 h12 h13 h14 h15 h16 h17 h18 h19 h20 h21 h22 h23 h24 h25 v_toldIsStale v_latestFinding v_wall_courses v_wall_columns v_wall_fault v_wall_jump v_wall_stones v_hands_told v_hands_fault v_hands_mood v_hands_strong v_frosts_told v_frosts_year v_frosts_force v_gappings_told v_gappings_year v_gappings_column v_gappings_hand v_trial_all v_trial_losers v_trial_now v_trial_stones v_trial_standing v_trial_open v_trial_fallen)) C0 hw (gRunS (As := [.int a1]) (rest := []) C0 hw lkX8_90 (c_x_isEither l g H.size  a1 o11 ho11) ⟨rfl, rfl⟩ ⟨Nat.le_of_ble_eq_true rfl, Nat.le_of_ble_eq_true rfl⟩ [] (by decide) rfl rfl hl.1 rfl (Nat.le_of_ble_eq_true rfl) dX8_luck_11) [] [0, 1, 2, 3, 4, 5, 6, 7, 8, 9, 10, 11, 12, 13, 14, 15, 16, 17, 18] rfl rfl ⟨rfl, rfl, rfl, rfl, rfl, rfl, rfl, rfl, rfl, rfl, rfl, rfl, rfl, rfl, rfl, rfl, rfl, rfl, rfl, trivial⟩ [h0, h1, h2, h3, h4, h5, h6, h7, h8, h9, h10, h11, h12, h13, h14, h15, h16, h17, h18] rfl rfl 19 rfl (by decide +kernel) (fun H locs hw => ?_)
    refine lv_if_ne (tgt := 21) hx hb dX8_luck_14 (by decide) (fun hc => ?_) (fun hc => ?_)
    · have hm := ineg hc hm
      refine lv_lconst (v := 0) hx hb dX8_luck_21 (by decide) ?_
      refine lv_lstore_n (lv' := [(3, .long (0 : Int64)), (0, .ref h0), (1, .int a0), (2, .int a1)]) hx hb dX8_luck_22 rfl hl (by decide) rfl (fun ls hl => ?_)
      refine lv_iconst (v := 0) hx hb dX8_luck_23 (by decide) ?_
      refine lv_istore (lv' := [(5, .int (0 : Int32)), (3, .long (0 : Int64)), (0, .ref h0), (1, .int a0), (2, .int a1)]) hx hb dX8_luck_24 hl (by decide) rfl (fun ls hl => ?_)
      exact l_x_luck_N26 C0  1000 _ _ _ _ _ _ _ _ _ _ _ hm _ _ _ hw (lv_sub hl [2, 3, 4, 1, 0] rfl)
    · have hm := ipos hc hm
      refine lv_ldc2 (v := -9223372036854775806) hx hb hown (hts _ kX8_247) dX8_luck_17 ?_
      have hm := Option.some.inj hm
      subst hm
      exact gRetL C0 hw dX8_luck_20

-- WallHands.nextSeed(I)I

abbrev rm_x_nextSeed : Room := { frames := 0, cells := 0, slots := 0, locals := 0 }

set_option maxHeartbeats 1000000 in
set_option maxRecDepth 100000 in
theorem c_x_nextSeed (l : Launch) (g : gG) (sz : Nat) (a0 : Int32) (r : Int32) (hm : f_x_nextSeed a0 = some r) : gMi l yX8_nextSeed cX8_nextSeed 1 (some .int) rm_x_nextSeed g sz [.int a0] [] r [] := by
  unfold f_x_nextSeed at hm
  refine gEnterI (by decide) (Nat.le_of_ble_eq_true rfl) (fun p e s m below meth c A C0 H locs hw ls hl => ?_)
  obtain ⟨hx, hb, hr, hml, hown, hts, hlocks, hK, hA⟩ := id C0
  have C0 : gX p s m [.int a0].toArray meth c cX8_nextSeed 1 (some .int) RX8 g A := C0
  have hl : lv_has ls 1 [(0, .int a0)] := hl
  refine lv_ldcw (v := 1103515245) hx hb hown (hts _ kX8_357) dX8_nextSeed_0 ?_
  refine lv_iload_n hx hb dX8_nextSeed_3 rfl (lv_at hl 0 rfl) ?_
  refine lv_imul hx hb dX8_nextSeed_4 ?_
  refine lv_sipush (v := 12345) hx hb dX8_nextSeed_5 (by decide) ?_
  refine lv_iadd hx hb dX8_nextSeed_8 ?_
  have hm := Option.some.inj hm
  subst hm
  exact gRetI C0 hw dX8_nextSeed_9

-- WallHands.ages(III)I
abbrev W_x_ages (g : gG) (h0 h1 h2 h3 h4 h5 h6 h7 h8 h9 h10 h11 h12 h13 h14 h15 h16 h17 h18 h19 h20 h21 h22 h23 h24 h25 : Nat) (v_toldIsStale : Int32) (v_latestFinding : Int32) (v_wall_courses : Int32) (v_wall_columns : Int32) (v_wall_fault : Int32) (v_wall_jump : Int32) (v_wall_stones : Nat → Int64) (v_hands_told : Int32) (v_hands_fault : Int32) (v_hands_mood : Nat → Int32) (v_hands_strong : Nat → Int32) (v_chanceFrosts_told : Int32) (v_chanceFrosts_year : Nat → Int32) (v_chanceFrosts_force : Nat → Int32) (v_gappings_told : Int32) (v_gappings_year : Nat → Int32) (v_gappings_column : Nat → Int32) (v_gappings_hand : Nat → Int32) (v_trial_all : Int64) (v_trial_losers : Int32) (v_trial_now : Nat → Int64) (v_trial_stones : Nat → Int64) (v_trial_standing : Nat → Int64) (v_trial_open : Nat → Int32) (v_trial_fallen : Nat → Int32) : va_W := [(h0, .inr (8, [.ref h19, .ref h20, .ref h1, .ref h3, .ref h21, .ref h6, .ref h9, .ref h22, .ref h23, .ref h24, .ref h13, .ref h25, .int v_toldIsStale, .int v_latestFinding])), (h1, .inr (6, [.ref h2, .int v_wall_courses, .int v_wall_columns, .int v_wall_fault, .int v_wall_jump])), (h2, .inl (gJ g, 8, .inr (.inl v_wall_stones))), (h3, .inr (2, [.ref h4, .ref h5, .int v_hands_told, .int v_hands_fault])), (h4, .inl (gI g, 8, .inl v_hands_mood)), (h5, .inl (gI g, 8, .inl v_hands_strong)), (h6, .inr (0, [.ref h7, .ref h8, .int v_chanceFrosts_told])), (h7, .inl (gI g, 6, .inl v_chanceFrosts_year)), (h8, .inl (gI g, 6, .inl v_chanceFrosts_force)), (h9, .inr (1, [.ref h10, .ref h11, .ref h12, .int v_gappings_told])), (h10, .inl (gI g, 7, .inl v_gappings_year)), (h11, .inl (gI g, 7, .inl v_gappings_column)), (h12, .inl (gI g, 7, .inl v_gappings_hand)), (h13, .inr (7, [.ref h1, .ref h3, .ref h9, .ref h14, .long v_trial_all, .ref h15, .ref h16, .ref h17, .ref h18, .int v_trial_losers])), (h14, .inl (gJ g, 8, .inr (.inl v_trial_now))), (h15, .inl (gJ g, 160, .inr (.inl v_trial_stones))), (h16, .inl (gJ g, 20, .inr (.inl v_trial_standing))), (h17, .inl (gI g, 20, .inl v_trial_open)), (h18, .inl (gI g, 20, .inl v_trial_fallen))]

abbrev rm_x_ages : Room := { frames := 4, cells := 0, slots := 0, locals := 112 }

set_option maxHeartbeats 1000000 in
set_option maxRecDepth 100000 in
theorem n_x_ages_N34 {p : Program} {l : Launch} {e : Env} {s : State} {m : MethodId} {args : Array Value} {below : List Frame} {meth : Method} {c : Code} {A : Nat → Prop} {g : gG} {h0 h1 h2 h3 h4 h5 h6 h7 h8 h9 h10 h11 h12 h13 h14 h15 h16 h17 h18 h19 h20 h21 h22 h23 h24 h25 : Nat} {v_toldIsStale : Int32} {v_latestFinding : Int32} {v_wall_courses : Int32} {v_wall_columns : Int32} {v_wall_fault : Int32} {v_wall_jump : Int32} {v_wall_stones : Nat → Int64} {v_hands_told : Int32} {v_hands_fault : Int32} {v_hands_mood : Nat → Int32} {v_hands_strong : Nat → Int32} {v_gappings_told : Int32} {v_gappings_year : Nat → Int32} {v_gappings_column : Nat → Int32} {v_gappings_hand : Nat → Int32} {k34 : Int32 → (Nat → Int32) → (Nat → Int32) → Int64 → Int32 → (Nat → Int64) → (Nat → Int64) → (Nat → Int64) → (Nat → Int32) → (Nat → Int32) → Int32 → Int32 → Int32 → Int32 → Option (Int32 × Int32 × (Nat → Int32) × (Nat → Int32) × Int64 × Int32 × (Nat → Int64) × (Nat → Int64) × (Nat → Int64) × (Nat → Int32) × (Nat → Int32))} {r : (Int32 × Int32 × (Nat → Int32) × (Nat → Int32) × Int64 × Int32 × (Nat → Int64) × (Nat → Int64) × (Nat → Int64) × (Nat → Int32) × (Nat → Int32))} (C0 : gX p s m args meth c cX8_ages 7 (some .int) RX8 g A) (hk34 : ∀ (v_chanceFrosts_told : Int32) (v_chanceFrosts_year : Nat → Int32) (v_chanceFrosts_force : Nat → Int32) (v_trial_all : Int64) (v_trial_losers : Int32) (v_trial_now : Nat → Int64) (v_trial_stones : Nat → Int64) (v_trial_standing : Nat → Int64) (v_trial_open : Nat → Int32) (v_trial_fallen : Nat → Int32) (x2 : Int32) (x3 : Int32) (x4 : Int32) (x5 : Int32), k34 v_chanceFrosts_told v_chanceFrosts_year v_chanceFrosts_force v_trial_all v_trial_losers v_trial_now v_trial_stones v_trial_standing v_trial_open v_trial_fallen x2 x3 x4 x5 = some r → ∀ (H : Heap) (locs : List Loc) (ls : Array Slot), gW g A s (W_x_ages g h0 h1 h2 h3 h4 h5 h6 h7 h8 h9 h10 h11 h12 h13 h14 h15 h16 h17 h18 h19 h20 h21 h22 h23 h24 h25 v_toldIsStale v_latestFinding v_wall_courses v_wall_columns v_wall_fault v_wall_jump v_wall_stones v_hands_told v_hands_fault v_hands_mood v_hands_strong v_chanceFrosts_told v_chanceFrosts_year v_chanceFrosts_force v_gappings_told v_gappings_year v_gappings_column v_gappings_hand v_trial_all v_trial_losers v_trial_now v_trial_stones v_trial_standing v_trial_open v_trial_fallen) H locs → lv_has ls 7 [(0, .ref h0), (2, .int x2), (3, .int x3), (4, .int x4), (5, .int x5)] → W p l e rm_x_ages s m args below meth c H locs 0 0 (gQi below args s A g r.1 (W_x_ages g h0 h1 h2 h3 h4 h5 h6 h7 h8 h9 h10 h11 h12 h13 h14 h15 h16 h17 h18 h19 h20 h21 h22 h23 h24 h25 v_toldIsStale v_latestFinding v_wall_courses v_wall_columns v_wall_fault v_wall_jump v_wall_stones v_hands_told v_hands_fault v_hands_mood v_hands_strong r.2.1 r.2.2.1 r.2.2.2.1 v_gappings_told v_gappings_year v_gappings_column v_gappings_hand r.2.2.2.2.1 r.2.2.2.2.2.1 r.2.2.2.2.2.2.1 r.2.2.2.2.2.2.2.1 r.2.2.2.2.2.2.2.2.1 r.2.2.2.2.2.2.2.2.2.1 r.2.2.2.2.2.2.2.2.2.2)) (F0 m 34 ls [])) : ∀ (v_chanceFrosts_told : Int32) (v_chanceFrosts_year : Nat → Int32) (v_chanceFrosts_force : Nat → Int32) (v_trial_all : Int64) (v_trial_losers : Int32) (v_trial_now : Nat → Int64) (v_trial_stones : Nat → Int64) (v_trial_standing : Nat → Int64) (v_trial_open : Nat → Int32) (v_trial_fallen : Nat → Int32) (x2 : Int32) (x3 : Int32) (x4 : Int32) (x5 : Int32), f_x_ages_N34 v_wall_courses v_wall_columns v_wall_jump v_wall_stones v_hands_told v_hands_mood v_hands_strong v_gappings_told v_gappings_year v_gappings_column v_gappings_hand k34 v_chanceFrosts_told v_chanceFrosts_year v_chanceFrosts_force v_trial_all v_trial_losers v_trial_now v_trial_stones v_trial_standing v_trial_open v_trial_fallen x2 x3 x4 x5 = some r → ∀ (H : Heap) (locs : List Loc) (ls : Array Slot), gW g A s (W_x_ages g h0 h1 h2 h3 h4 h5 h6 h7 h8 h9 h10 h11 h12 h13 h14 h15 h16 h17 h18 h19 h20 h21 h22 h23 h24 h25 v_toldIsStale v_latestFinding v_wall_courses v_wall_columns v_wall_fault v_wall_jump v_wall_stones v_hands_told v_hands_fault v_hands_mood v_hands_strong v_chanceFrosts_told v_chanceFrosts_year v_chanceFrosts_force v_gappings_told v_gappings_year v_gappings_column v_gappings_hand v_trial_all v_trial_losers v_trial_now v_trial_stones v_trial_standing v_trial_open v_trial_fallen) H locs → lv_has ls 7 [(0, .ref h0), (2, .int x2), (3, .int x3), (4, .int x4), (5, .int x5)] → W p l e rm_x_ages s m args below meth c H locs 0 0 (gQi below args s A g r.1 (W_x_ages g h0 h1 h2 h3 h4 h5 h6 h7 h8 h9 h10 h11 h12 h13 h14 h15 h16 h17 h18 h19 h20 h21 h22 h23 h24 h25 v_toldIsStale v_latestFinding v_wall_courses v_wall_columns v_wall_fault v_wall_jump v_wall_stones v_hands_told v_hands_fault v_hands_mood v_hands_strong r.2.1 r.2.2.1 r.2.2.2.1 v_gappings_told v_gappings_year v_gappings_column v_gappings_hand r.2.2.2.2.1 r.2.2.2.2.2.1 r.2.2.2.2.2.2.1 r.2.2.2.2.2.2.2.1 r.2.2.2.2.2.2.2.2.1 r.2.2.2.2.2.2.2.2.2.1 r.2.2.2.2.2.2.2.2.2.2)) (F0 m 34 ls []) := by
  intro v_chanceFrosts_told v_chanceFrosts_year v_chanceFrosts_force v_trial_all v_trial_losers v_trial_now v_trial_stones v_trial_standing v_trial_open v_trial_fallen x2 x3 x4 x5 hm H locs ls hw hl
  unfold f_x_ages_N34 at hm
  obtain ⟨hx, hb, hr, hml, hown, hts, hlocks, hK, hA⟩ := id C0
  refine lv_iload hx hb dX8_ages_34 (lv_at hl 4 rfl) ?_
  refine lv_iload_n hx hb dX8_ages_36 rfl (lv_at hl 1 rfl) ?_
  refine lv_icmp_ge (tgt := 89) hx hb dX8_ages_37 (by decide) (fun hc => ?_) (fun hc => ?_)
  · have hm := ipos hc hm
    refine lv_aload_n hx hb dX8_ages_89 rfl (lv_at hl 0 rfl) ?_
    refine gGet C0 hw flX8_74 0 rfl rfl dX8_ages_90 ?_
    refine lv_aload_n hx hb dX8_ages_93 rfl (lv_at hl 0 rfl) ?_
    refine gGet C0 hw flX8_42 0 rfl rfl dX8_ages_94 ?_
    refine lv_iconst (v := 0) hx hb dX8_ages_97 (by decide) ?_
    obtain ⟨o98, ho98, hm⟩ := bindE hm
    refine gCallv (ws' := (W_x_ages g h0 h1 h2 h3 h4 h5 h6 h7 h8 h9 h10 h11 h12 h13 h14 h15 h16 h17 h18 h19 h20 h21 h22 h23 h24 h25 v_toldIsStale v_latestFinding v_wall_courses v_wall_columns v_wall_fault v_wall_jump v_wall_stones v_hands_told v_hands_fault v_hands_mood v_hands_strong v_chanceFrosts_told v_chanceFrosts_year v_chanceFrosts_force v_gappings_told v_gappings_year v_gappings_column v_gappings_hand o98.1 o98.2.1 o98.2.2.1 o98.2.2.2.1 o98.2.2.2.2.1 o98.2.2.2.2.2.1 o98.2.2.2.2.2.2)) C0 hw (gRunV (As := [.ref h6, .int (0 : Int32)]) (rest := []) C0 hw lkX8_205 (c_ys_run l g H.size h13 h1 h2 h3 h4 h5 h9 h10 h11 h12 h14 h15 h16 h17 h18 h6 h7 h8 v_trial_all v_trial_losers v_wall_courses v_wall_columns v_wall_fault v_wall_jump v_wall_stones v_hands_told v_hands_fault v_hands_mood v_hands_strong v_gappings_told v_gappings_year v_gappings_column v_gappings_hand v_trial_now v_trial_stones v_trial_standing v_trial_open v_trial_fallen v_chanceFrosts_told v_chanceFrosts_year v_chanceFrosts_force (0 : Int32) o98 ho98) ⟨rfl, rfl⟩ ⟨Nat.le_of_ble_eq_true rfl, Nat.le_of_ble_eq_true rfl⟩ [13, 1, 2, 3, 4, 5, 9, 10, 11, 12, 14, 15, 16, 17, 18, 6, 7, 8] (by decide) rfl 13 rfl rfl rfl hl.1 rfl (Nat.le_of_ble_eq_true rfl) dX8_ages_98) [13, 1, 2, 3, 4, 5, 9, 10, 11, 12, 14, 15, 16, 17, 18, 6, 7, 8] [0] rfl rfl ⟨rfl, trivial⟩ [h0, h1, h2, h3, h4, h5, h6, h7, h8, h9, h10, h11, h12, h13, h14, h15, h16, h17, h18] rfl rfl 19 rfl (by decide +kernel) (fun H locs hw => ?_)
    refine lv_iload_n hx hb dX8_ages_101 rfl (lv_at hl 2 rfl) ?_
    refine lv_if_ne (tgt := 121) hx hb dX8_ages_102 (by decide) (fun hc => ?_) (fun hc => ?_)
    · have hm := ineg hc hm
      refine lv_aload_n hx hb dX8_ages_121 rfl (lv_at hl 0 rfl) ?_
      refine gGet C0 hw flX8_74 0 rfl rfl dX8_ages_122 ?_
      obtain ⟨o125, ho125, hm⟩ := bindE hm
      refine gCalli (ws' := (W_x_ages g h0 h1 h2 h3 h4 h5 h6 h7 h8 h9 h10 h11 h12 h13 h14 h15 h16 h17 h18 h19 h20 h21 h22 h23 h24 h25 v_toldIsStale v_latestFinding v_wall_courses v_wall_columns v_wall_fault v_wall_jump v_wall_stones v_hands_told v_hands_fault v_hands_mood v_hands_strong v_chanceFrosts_told v_chanceFrosts_year v_chanceFrosts_force v_gappings_told v_gappings_year v_gappings_column v_gappings_hand o98.1 o98.2.1 o98.2.2.1 o98.2.2.2.1 o98.2.2.2.2.1 o98.2.2.2.2.2.1 o98.2.2.2.2.2.2)) C0 hw (gRunV (As := []) (rest := []) C0 hw lkX8_198 (c_ys_openYears l g H.size h13 h17 h1 h3 h9 h14 h15 h16 h18 o98.1 o98.2.1 o98.2.2.2.2.2.1 o125 ho125) ⟨rfl, rfl⟩ ⟨Nat.le_of_ble_eq_true rfl, Nat.le_of_ble_eq_true rfl⟩ [13, 17] (by decide) rfl 13 rfl rfl rfl hl.1 rfl (Nat.le_of_ble_eq_true rfl) dX8_ages_125) [13, 17] [0, 1, 2, 3, 4, 5, 6, 7, 8, 9, 10, 11, 12, 14, 15, 16, 18] rfl rfl ⟨rfl, rfl, rfl, rfl, rfl, rfl, rfl, rfl, rfl, rfl, rfl, rfl, rfl, rfl, rfl, rfl, rfl, trivial⟩ [h0, h1, h2, h3, h4, h5, h6, h7, h8, h9, h10, h11, h12, h13, h14, h15, h16, h17, h18] rfl rfl 19 rfl (by decide +kernel) (fun H locs hw => ?_)
      have hm := Option.some.inj hm
      subst hm
      exact gRetI C0 hw dX8_ages_128
    · have hm := ipos hc hm
      refine lv_aload_n hx hb dX8_ages_105 rfl (lv_at hl 0 rfl) ?_
      refine gGet C0 hw flX8_74 0 rfl rfl dX8_ages_106 ?_
      refine gGet C0 hw flX8_256 13 rfl rfl dX8_ages_109 ?_
      refine lv_bipush (v := 19) hx hb dX8_ages_112 (by decide) ?_
      obtain ⟨hin, hm⟩ := gdE hm
      have hin := inbE hin
      refine gAldJ C0 hw 16 rfl hin dX8_ages_114 ?_
      obtain ⟨o115, ho115, hm⟩ := bindE hm
      refine gCalli (ws' := (W_x_ages g h0 h1 h2 h3 h4 h5 h6 h7 h8 h9 h10 h11 h12 h13 h14 h15 h16 h17 h18 h19 h20 h21 h22 h23 h24 h25 v_toldIsStale v_latestFinding v_wall_courses v_wall_columns v_wall_fault v_wall_jump v_wall_stones v_hands_told v_hands_fault v_hands_mood v_hands_strong v_chanceFrosts_told v_chanceFrosts_year v_chanceFrosts_force v_gappings_told v_gappings_year v_gappings_column v_gappings_hand o98.1 o98.2.1 o98.2.2.1 o98.2.2.2.1 o98.2.2.2.2.1 o98.2.2.2.2.2.1 o98.2.2.2.2.2.2)) C0 hw (gRunS (As := [.long (o98.2.2.2.2.1 (19 : Int32).toNatClampNeg)]) (rest := []) C0 hw lkX8_228 (c_jl_bitCount l g H.size  (o98.2.2.2.2.1 (19 : Int32).toNatClampNeg) o115 ho115) ⟨rfl, rfl⟩ ⟨Nat.le_of_ble_eq_true rfl, Nat.le_of_ble_eq_true rfl⟩ [] (by decide) rfl rfl hl.1 rfl (Nat.le_of_ble_eq_true rfl) dX8_ages_115) [] [0, 1, 2, 3, 4, 5, 6, 7, 8, 9, 10, 11, 12, 13, 14, 15, 16, 17, 18] rfl rfl ⟨rfl, rfl, rfl, rfl, rfl, rfl, rfl, rfl, rfl, rfl, rfl, rfl, rfl, rfl, rfl, rfl, rfl, rfl, rfl, trivial⟩ [h0, h1, h2, h3, h4, h5, h6, h7, h8, h9, h10, h11, h12, h13, h14, h15, h16, h17, h18] rfl rfl 19 rfl (by decide +kernel) (fun H locs hw => ?_)
      refine lv_goto (tgt := 128) hx hb dX8_ages_118 (by decide) ?_
      have hm := Option.some.inj hm
      subst hm
      exact gRetI C0 hw dX8_ages_128
  · have hm := ineg hc hm
    refine lv_iload hx hb dX8_ages_40 (lv_at hl 3 rfl) ?_
    obtain ⟨o42, ho42, hm⟩ := bindE hm
    refine gCalli (ws' := (W_x_ages g h0 h1 h2 h3 h4 h5 h6 h7 h8 h9 h10 h11 h12 h13 h14 h15 h16 h17 h18 h19 h20 h21 h22 h23 h24 h25 v_toldIsStale v_latestFinding v_wall_courses v_wall_columns v_wall_fault v_wall_jump v_wall_stones v_hands_told v_hands_fault v_hands_mood v_hands_strong v_chanceFrosts_told v_chanceFrosts_year v_chanceFrosts_force v_gappings_told v_gappings_year v_gappings_column v_gappings_hand v_trial_all v_trial_losers v_trial_now v_trial_stones v_trial_standing v_trial_open v_trial_fallen)) C0 hw (gRunS (As := [.int x4]) (rest := []) C0 hw lkX8_253 (c_x_nextSeed l g H.size  x4 o42 ho42) ⟨rfl, rfl⟩ ⟨Nat.le_of_ble_eq_true rfl, Nat.le_of_ble_eq_true rfl⟩ [] (by decide) rfl rfl hl.1 rfl (Nat.le_of_ble_eq_true rfl) dX8_ages_42) [] [0, 1, 2, 3, 4, 5, 6, 7, 8, 9, 10, 11, 12, 13, 14, 15, 16, 17, 18] rfl rfl ⟨rfl, rfl, rfl, rfl, rfl, rfl, rfl, rfl, rfl, rfl, rfl, rfl, rfl, rfl, rfl, rfl, rfl, rfl, rfl, trivial⟩ [h0, h1, h2, h3, h4, h5, h6, h7, h8, h9, h10, h11, h12, h13, h14, h15, h16, h17, h18] rfl rfl 19 rfl (by decide +kernel) (fun H locs hw => ?_)
    refine lv_istore (lv' := [(4, .int o42), (0, .ref h0), (2, .int x2), (3, .int x3), (5, .int x5)]) hx hb dX8_ages_45 hl (by decide) rfl (fun ls hl => ?_)
    refine lv_iload hx hb dX8_ages_47 (lv_at hl 0 rfl) ?_
    refine lv_bipush (v := 16) hx hb dX8_ages_49 (by decide) ?_
    refine lv_iushr (v := ushr o42 (16 : Int32)) hx hb dX8_ages_51 rfl ?_
    refine lv_bipush (v := 20) hx hb dX8_ages_52 (by decide) ?_
    refine lv_irem hx hb dX8_ages_54 (by decide) ?_
    refine lv_istore (lv' := [(6, .int ((ushr o42 (16 : Int32)) - (ushr o42 (16 : Int32)) / (20 : Int32) * (20 : Int32))), (4, .int o42), (0, .ref h0), (2, .int x2), (3, .int x3), (5, .int x5)]) hx hb dX8_ages_55 hl (by decide) rfl (fun ls hl => ?_)
    refine lv_iload hx hb dX8_ages_57 (lv_at hl 1 rfl) ?_
    obtain ⟨o59, ho59, hm⟩ := bindE hm
    refine gCalli (ws' := (W_x_ages g h0 h1 h2 h3 h4 h5 h6 h7 h8 h9 h10 h11 h12 h13 h14 h15 h16 h17 h18 h19 h20 h21 h22 h23 h24 h25 v_toldIsStale v_latestFinding v_wall_courses v_wall_columns v_wall_fault v_wall_jump v_wall_stones v_hands_told v_hands_fault v_hands_mood v_hands_strong v_chanceFrosts_told v_chanceFrosts_year v_chanceFrosts_force v_gappings_told v_gappings_year v_gappings_column v_gappings_hand v_trial_all v_trial_losers v_trial_now v_trial_stones v_trial_standing v_trial_open v_trial_fallen)) C0 hw (gRunS (As := [.int o42]) (rest := []) C0 hw lkX8_253 (c_x_nextSeed l g H.size  o42 o59 ho59) ⟨rfl, rfl⟩ ⟨Nat.le_of_ble_eq_true rfl, Nat.le_of_ble_eq_true rfl⟩ [] (by decide) rfl rfl hl.1 rfl (Nat.le_of_ble_eq_true rfl) dX8_ages_59) [] [0, 1, 2, 3, 4, 5, 6, 7, 8, 9, 10, 11, 12, 13, 14, 15, 16, 17, 18] rfl rfl ⟨rfl, rfl, rfl, rfl, rfl, rfl, rfl, rfl, rfl, rfl, rfl, rfl, rfl, rfl, rfl, rfl, rfl, rfl, rfl, trivial⟩ [h0, h1, h2, h3, h4, h5, h6, h7, h8, h9, h10, h11, h12, h13, h14, h15, h16, h17, h18] rfl rfl 19 rfl (by decide +kernel) (fun H locs hw => ?_)
    refine lv_istore (lv' := [(4, .int o59), (6, .int ((ushr o42 (16 : Int32)) - (ushr o42 (16 : Int32)) / (20 : Int32) * (20 : Int32))), (0, .ref h0), (2, .int x2), (3, .int x3), (5, .int x5)]) hx hb dX8_ages_62 hl (by decide) rfl (fun ls hl => ?_)
    refine lv_aload_n hx hb dX8_ages_64 rfl (lv_at hl 2 rfl) ?_
    refine gGet C0 hw flX8_42 0 rfl rfl dX8_ages_65 ?_
    refine lv_iload hx hb dX8_ages_68 (lv_at hl 1 rfl) ?_
    refine lv_iload hx hb dX8_ages_70 (lv_at hl 0 rfl) ?_
    refine lv_bipush (v := 16) hx hb dX8_ages_72 (by decide) ?_
    refine lv_iushr (v := ushr o59 (16 : Int32)) hx hb dX8_ages_74 rfl ?_
    refine lv_bipush (v := 15) hx hb dX8_ages_75 (by decide) ?_
    refine lv_irem hx hb dX8_ages_77 (by decide) ?_
    refine lv_iconst (v := 1) hx hb dX8_ages_78 (by decide) ?_
    refine lv_iadd hx hb dX8_ages_79 ?_
    obtain ⟨o80, ho80, hm⟩ := bindE hm
    refine gCallv (ws' := (W_x_ages g h0 h1 h2 h3 h4 h5 h6 h7 h8 h9 h10 h11 h12 h13 h14 h15 h16 h17 h18 h19 h20 h21 h22 h23 h24 h25 v_toldIsStale v_latestFinding v_wall_courses v_wall_columns v_wall_fault v_wall_jump v_wall_stones v_hands_told v_hands_fault v_hands_mood v_hands_strong o80.1 o80.2.1 o80.2.2 v_gappings_told v_gappings_year v_gappings_column v_gappings_hand v_trial_all v_trial_losers v_trial_now v_trial_stones v_trial_standing v_trial_open v_trial_fallen)) C0 hw (gRunV (As := [.int ((ushr o42 (16 : Int32)) - (ushr o42 (16 : Int32)) / (20 : Int32) * (20 : Int32)), .int (((ushr o59 (16 : Int32)) - (ushr o59 (16 : Int32)) / (15 : Int32) * (15 : Int32)) + (1 : Int32))]) (rest := []) C0 hw lkX8_144 (c_fr_add l g H.size h6 h7 h8 v_chanceFrosts_told v_chanceFrosts_year v_chanceFrosts_force ((ushr o42 (16 : Int32)) - (ushr o42 (16 : Int32)) / (20 : Int32) * (20 : Int32)) (((ushr o59 (16 : Int32)) - (ushr o59 (16 : Int32)) / (15 : Int32) * (15 : Int32)) + (1 : Int32)) o80 ho80) ⟨rfl, rfl⟩ ⟨Nat.le_of_ble_eq_true rfl, Nat.le_of_ble_eq_true rfl⟩ [6, 7, 8] (by decide) rfl 6 rfl rfl rfl hl.1 rfl (Nat.le_of_ble_eq_true rfl) dX8_ages_80) [6, 7, 8] [0, 1, 2, 3, 4, 5, 9, 10, 11, 12, 13, 14, 15, 16, 17, 18] rfl rfl ⟨rfl, rfl, rfl, rfl, rfl, rfl, rfl, rfl, rfl, rfl, rfl, rfl, rfl, rfl, rfl, rfl, trivial⟩ [h0, h1, h2, h3, h4, h5, h6, h7, h8, h9, h10, h11, h12, h13, h14, h15, h16, h17, h18] rfl rfl 19 rfl (by decide +kernel) (fun H locs hw => ?_)
    refine lv_iinc (v := x5 + (1 : Int32)) (lv' := [(5, .int (x5 + (1 : Int32))), (4, .int o59), (6, .int ((ushr o42 (16 : Int32)) - (ushr o42 (16 : Int32)) / (20 : Int32) * (20 : Int32))), (0, .ref h0), (2, .int x2), (3, .int x3)]) hx hb dX8_ages_83 hl (k := 5) rfl rfl (by decide) rfl (fun ls hl => ?_)
    refine lv_goto (tgt := 34) hx hb dX8_ages_86 (by decide) ?_
    exact hk34 _ _ _ _ _ _ _ _ _ _ _ _ _ _ hm _ _ _ hw (lv_sub hl [3, 4, 5, 1, 0] rfl)
set_option maxHeartbeats 1000000 in
set_option maxRecDepth 100000 in
theorem l_x_ages_N34 {p : Program} {l : Launch} {e : Env} {s : State} {m : MethodId} {args : Array Value} {below : List Frame} {meth : Method} {c : Code} {A : Nat → Prop} {g : gG} {h0 h1 h2 h3 h4 h5 h6 h7 h8 h9 h10 h11 h12 h13 h14 h15 h16 h17 h18 h19 h20 h21 h22 h23 h24 h25 : Nat} {v_toldIsStale : Int32} {v_latestFinding : Int32} {v_wall_courses : Int32} {v_wall_columns : Int32} {v_wall_fault : Int32} {v_wall_jump : Int32} {v_wall_stones : Nat → Int64} {v_hands_told : Int32} {v_hands_fault : Int32} {v_hands_mood : Nat → Int32} {v_hands_strong : Nat → Int32} {v_gappings_told : Int32} {v_gappings_year : Nat → Int32} {v_gappings_column : Nat → Int32} {v_gappings_hand : Nat → Int32} {r : (Int32 × Int32 × (Nat → Int32) × (Nat → Int32) × Int64 × Int32 × (Nat → Int64) × (Nat → Int64) × (Nat → Int64) × (Nat → Int32) × (Nat → Int32))} (C0 : gX p s m args meth c cX8_ages 7 (some .int) RX8 g A) : ∀ n : Nat, ∀ (v_chanceFrosts_told : Int32) (v_chanceFrosts_year : Nat → Int32) (v_chanceFrosts_force : Nat → Int32) (v_trial_all : Int64) (v_trial_losers : Int32) (v_trial_now : Nat → Int64) (v_trial_stones : Nat → Int64) (v_trial_standing : Nat → Int64) (v_trial_open : Nat → Int32) (v_trial_fallen : Nat → Int32) (x2 : Int32) (x3 : Int32) (x4 : Int32) (x5 : Int32), iter (fun _ _ _ _ _ _ _ _ _ _ _ _ _ _ => none) (f_x_ages_N34 v_wall_courses v_wall_columns v_wall_jump v_wall_stones v_hands_told v_hands_mood v_hands_strong v_gappings_told v_gappings_year v_gappings_column v_gappings_hand) n v_chanceFrosts_told v_chanceFrosts_year v_chanceFrosts_force v_trial_all v_trial_losers v_trial_now v_trial_stones v_trial_standing v_trial_open v_trial_fallen x2 x3 x4 x5 = some r → ∀ (H : Heap) (locs : List Loc) (ls : Array Slot), gW g A s (W_x_ages g h0 h1 h2 h3 h4 h5 h6 h7 h8 h9 h10 h11 h12 h13 h14 h15 h16 h17 h18 h19 h20 h21 h22 h23 h24 h25 v_toldIsStale v_latestFinding v_wall_courses v_wall_columns v_wall_fault v_wall_jump v_wall_stones v_hands_told v_hands_fault v_hands_mood v_hands_strong v_chanceFrosts_told v_chanceFrosts_year v_chanceFrosts_force v_gappings_told v_gappings_year v_gappings_column v_gappings_hand v_trial_all v_trial_losers v_trial_now v_trial_stones v_trial_standing v_trial_open v_trial_fallen) H locs → lv_has ls 7 [(0, .ref h0), (2, .int x2), (3, .int x3), (4, .int x4), (5, .int x5)] → W p l e rm_x_ages s m args below meth c H locs 0 0 (gQi below args s A g r.1 (W_x_ages g h0 h1 h2 h3 h4 h5 h6 h7 h8 h9 h10 h11 h12 h13 h14 h15 h16 h17 h18 h19 h20 h21 h22 h23 h24 h25 v_toldIsStale v_latestFinding v_wall_courses v_wall_columns v_wall_fault v_wall_jump v_wall_stones v_hands_told v_hands_fault v_hands_mood v_hands_strong r.2.1 r.2.2.1 r.2.2.2.1 v_gappings_told v_gappings_year v_gappings_column v_gappings_hand r.2.2.2.2.1 r.2.2.2.2.2.1 r.2.2.2.2.2.2.1 r.2.2.2.2.2.2.2.1 r.2.2.2.2.2.2.2.2.1 r.2.2.2.2.2.2.2.2.2.1 r.2.2.2.2.2.2.2.2.2.2)) (F0 m 34 ls []) := by
  intro n
  induction n with
  | zero =>
    intro v_chanceFrosts_told v_chanceFrosts_year v_chanceFrosts_force v_trial_all v_trial_losers v_trial_now v_trial_stones v_trial_standing v_trial_open v_trial_fallen x2 x3 x4 x5 hm
    cases hm
  | succ n ih =>
    exact n_x_ages_N34 C0  ih
set_option maxHeartbeats 1000000 in
set_option maxRecDepth 100000 in
theorem c_x_ages (l : Launch) (g : gG) (sz : Nat) (h0 h1 h2 h3 h4 h5 h6 h7 h8 h9 h10 h11 h12 h13 h14 h15 h16 h17 h18 h19 h20 h21 h22 h23 h24 h25 : Nat) (v_toldIsStale : Int32) (v_latestFinding : Int32) (v_wall_courses : Int32) (v_wall_columns : Int32) (v_wall_fault : Int32) (v_wall_jump : Int32) (v_wall_stones : Nat → Int64) (v_hands_told : Int32) (v_hands_fault : Int32) (v_hands_mood : Nat → Int32) (v_hands_strong : Nat → Int32) (v_chanceFrosts_told : Int32) (v_chanceFrosts_year : Nat → Int32) (v_chanceFrosts_force : Nat → Int32) (v_gappings_told : Int32) (v_gappings_year : Nat → Int32) (v_gappings_column : Nat → Int32) (v_gappings_hand : Nat → Int32) (v_trial_all : Int64) (v_trial_losers : Int32) (v_trial_now : Nat → Int64) (v_trial_stones : Nat → Int64) (v_trial_standing : Nat → Int64) (v_trial_open : Nat → Int32) (v_trial_fallen : Nat → Int32) (a0 : Int32) (a1 : Int32) (a2 : Int32) (r : (Int32 × Int32 × (Nat → Int32) × (Nat → Int32) × Int64 × Int32 × (Nat → Int64) × (Nat → Int64) × (Nat → Int64) × (Nat → Int32) × (Nat → Int32))) (hm : f_x_ages v_wall_courses v_wall_columns v_wall_jump v_wall_stones v_hands_told v_hands_mood v_hands_strong v_chanceFrosts_told v_chanceFrosts_year v_chanceFrosts_force v_gappings_told v_gappings_year v_gappings_column v_gappings_hand v_trial_all v_trial_losers v_trial_now v_trial_stones v_trial_standing v_trial_open v_trial_fallen a0 a1 a2 = some r) : gMi l yX8_ages cX8_ages 7 (some .int) rm_x_ages g sz [.ref h0, .int a0, .int a1, .int a2] (W_x_ages g h0 h1 h2 h3 h4 h5 h6 h7 h8 h9 h10 h11 h12 h13 h14 h15 h16 h17 h18 h19 h20 h21 h22 h23 h24 h25 v_toldIsStale v_latestFinding v_wall_courses v_wall_columns v_wall_fault v_wall_jump v_wall_stones v_hands_told v_hands_fault v_hands_mood v_hands_strong v_chanceFrosts_told v_chanceFrosts_year v_chanceFrosts_force v_gappings_told v_gappings_year v_gappings_column v_gappings_hand v_trial_all v_trial_losers v_trial_now v_trial_stones v_trial_standing v_trial_open v_trial_fallen) r.1 (W_x_ages g h0 h1 h2 h3 h4 h5 h6 h7 h8 h9 h10 h11 h12 h13 h14 h15 h16 h17 h18 h19 h20 h21 h22 h23 h24 h25 v_toldIsStale v_latestFinding v_wall_courses v_wall_columns v_wall_fault v_wall_jump v_wall_stones v_hands_told v_hands_fault v_hands_mood v_hands_strong r.2.1 r.2.2.1 r.2.2.2.1 v_gappings_told v_gappings_year v_gappings_column v_gappings_hand r.2.2.2.2.1 r.2.2.2.2.2.1 r.2.2.2.2.2.2.1 r.2.2.2.2.2.2.2.1 r.2.2.2.2.2.2.2.2.1 r.2.2.2.2.2.2.2.2.2.1 r.2.2.2.2.2.2.2.2.2.2) := by
  unfold f_x_ages at hm
  refine gEnterI (by decide) (Nat.le_of_ble_eq_true rfl) (fun p e s m below meth c A C0 H locs hw ls hl => ?_)
  obtain ⟨hx, hb, hr, hml, hown, hts, hlocks, hK, hA⟩ := id C0
  have C0 : gX p s m [.ref h0, .int a0, .int a1, .int a2].toArray meth c cX8_ages 7 (some .int) RX8 g A := C0
  have hl : lv_has ls 7 [(0, .ref h0), (1, .int a0), (2, .int a1), (3, .int a2)] := hl
  refine lv_iload_n hx hb dX8_ages_0 rfl (lv_at hl 2 rfl) ?_
  refine lv_iconst (v := 0) hx hb dX8_ages_1 (by decide) ?_
  refine lv_bipush (v := 6) hx hb dX8_ages_2 (by decide) ?_
  obtain ⟨o4, ho4, hm⟩ := bindE hm
  refine gCalli (ws' := (W_x_ages g h0 h1 h2 h3 h4 h5 h6 h7 h8 h9 h10 h11 h12 h13 h14 h15 h16 h17 h18 h19 h20 h21 h22 h23 h24 h25 v_toldIsStale v_latestFinding v_wall_courses v_wall_columns v_wall_fault v_wall_jump v_wall_stones v_hands_told v_hands_fault v_hands_mood v_hands_strong v_chanceFrosts_told v_chanceFrosts_year v_chanceFrosts_force v_gappings_told v_gappings_year v_gappings_column v_gappings_hand v_trial_all v_trial_losers v_trial_now v_trial_stones v_trial_standing v_trial_open v_trial_fallen)) C0 hw (gRunS (As := [.int a1, .int (0 : Int32), .int (6 : Int32)]) (rest := []) C0 hw lkX8_94 (c_x_within l g H.size  a1 (0 : Int32) (6 : Int32) o4 ho4) ⟨rfl, rfl⟩ ⟨Nat.le_of_ble_eq_true rfl, Nat.le_of_ble_eq_true rfl⟩ [] (by decide) rfl rfl hl.1 rfl (Nat.le_of_ble_eq_true rfl) dX8_ages_4) [] [0, 1, 2, 3, 4, 5, 6, 7, 8, 9, 10, 11, 12, 13, 14, 15, 16, 17, 18] rfl rfl ⟨rfl, rfl, rfl, rfl, rfl, rfl, rfl, rfl, rfl, rfl, rfl, rfl, rfl, rfl, rfl, rfl, rfl, rfl, rfl, trivial⟩ [h0, h1, h2, h3, h4, h5, h6, h7, h8, h9, h10, h11, h12, h13, h14, h15, h16, h17, h18] rfl rfl 19 rfl (by decide +kernel) (fun H locs hw => ?_)
  refine lv_if_eq (tgt := 17) hx hb dX8_ages_7 (by decide) (fun hc => ?_) (fun hc => ?_)
  · have hm := ipos hc hm
    refine lv_bipush (v := -2) hx hb dX8_ages_17 (by decide) ?_
    have hm := Option.some.inj hm
    subst hm
    exact gRetI C0 hw dX8_ages_19
  · have hm := ineg hc hm
    refine lv_iload_n hx hb dX8_ages_10 rfl (lv_at hl 3 rfl) ?_
    obtain ⟨o11, ho11, hm⟩ := bindE hm
    refine gCalli (ws' := (W_x_ages g h0 h1 h2 h3 h4 h5 h6 h7 h8 h9 h10 h11 h12 h13 h14 h15 h16 h17 h18 h19 h20 h21 h22 h23 h24 h25 v_toldIsStale v_latestFinding v_wall_courses v_wall_columns v_wall_fault v_wall_jump v_wall_stones v_hands_told v_hands_fault v_hands_mood v_hands_strong v_chanceFrosts_told v_chanceFrosts_year v_chanceFrosts_force v_gappings_told v_gappings_year v_gappings_column v_gappings_hand v_trial_all v_trial_losers v_trial_now v_trial_stones v_trial_standing v_trial_open v_trial_fallen)) C0 hw (gRunS (As := [.int a2]) (rest := []) C0 hw lkX8_90 (c_x_isEither l g H.size  a2 o11 ho11) ⟨rfl, rfl⟩ ⟨Nat.le_of_ble_eq_true rfl, Nat.le_of_ble_eq_true rfl⟩ [] (by decide) rfl rfl hl.1 rfl (Nat.le_of_ble_eq_true rfl) dX8_ages_11) [] [0, 1, 2, 3, 4, 5, 6, 7, 8, 9, 10, 11, 12, 13, 14, 15, 16, 17, 18] rfl rfl ⟨rfl, rfl, rfl, rfl, rfl, rfl, rfl, rfl, rfl, rfl, rfl, rfl, rfl, rfl, rfl, rfl, rfl, rfl, rfl, trivial⟩ [h0, h1, h2, h3, h4, h5, h6, h7, h8, h9, h10, h11, h12, h13, h14, h15, h16, h17, h18] rfl rfl 19 rfl (by decide +kernel) (fun H locs hw => ?_)
    refine lv_if_ne (tgt := 20) hx hb dX8_ages_14 (by decide) (fun hc => ?_) (fun hc => ?_)
    · have hm := ineg hc hm
      refine lv_iload_n hx hb dX8_ages_20 rfl (lv_at hl 1 rfl) ?_
      refine lv_istore (lv' := [(4, .int a0), (0, .ref h0), (1, .int a0), (2, .int a1), (3, .int a2)]) hx hb dX8_ages_21 hl (by decide) rfl (fun ls hl => ?_)
      refine lv_aload_n hx hb dX8_ages_23 rfl (lv_at hl 1 rfl) ?_
      refine gGet C0 hw flX8_42 0 rfl rfl dX8_ages_24 ?_
      refine lv_iconst (v := 0) hx hb dX8_ages_27 (by decide) ?_
      refine gPut (ws' := (W_x_ages g h0 h1 h2 h3 h4 h5 h6 h7 h8 h9 h10 h11 h12 h13 h14 h15 h16 h17 h18 h19 h20 h21 h22 h23 h24 h25 v_toldIsStale v_latestFinding v_wall_courses v_wall_columns v_wall_fault v_wall_jump v_wall_stones v_hands_told v_hands_fault v_hands_mood v_hands_strong (0 : Int32) v_chanceFrosts_year v_chanceFrosts_force v_gappings_told v_gappings_year v_gappings_column v_gappings_hand v_trial_all v_trial_losers v_trial_now v_trial_stones v_trial_standing v_trial_open v_trial_fallen)) C0 hw fpX8_142 6 rfl rfl rfl (Nat.le_of_ble_eq_true rfl) rfl dX8_ages_28 (fun H locs hw => ?_)
      refine lv_iconst (v := 0) hx hb dX8_ages_31 (by decide) ?_
      refine lv_istore (lv' := [(5, .int (0 : Int32)), (4, .int a0), (0, .ref h0), (1, .int a0), (2, .int a1), (3, .int a2)]) hx hb dX8_ages_32 hl (by decide) rfl (fun ls hl => ?_)
      exact l_x_ages_N34 C0  1000 _ _ _ _ _ _ _ _ _ _ _ _ _ _ hm _ _ _ hw (lv_sub hl [2, 4, 5, 1, 0] rfl)
    · have hm := ipos hc hm
      refine lv_bipush (v := -2) hx hb dX8_ages_17 (by decide) ?_
      have hm := Option.some.inj hm
      subst hm
      exact gRetI C0 hw dX8_ages_19

-- WallHands.isForm(I)Z

abbrev rm_x_isForm : Room := { frames := 1, cells := 0, slots := 0, locals := 22 }

set_option maxHeartbeats 1000000 in
set_option maxRecDepth 100000 in
theorem c_x_isForm (l : Launch) (g : gG) (sz : Nat) (a0 : Int32) (r : Int32) (hm : f_x_isForm a0 = some r) : gMi l yX8_isForm cX8_isForm 1 (some .boolean) rm_x_isForm g sz [.int a0] [] r [] := by
  unfold f_x_isForm at hm
  refine gEnterI (by decide) (Nat.le_of_ble_eq_true rfl) (fun p e s m below meth c A C0 H locs hw ls hl => ?_)
  obtain ⟨hx, hb, hr, hml, hown, hts, hlocks, hK, hA⟩ := id C0
  have C0 : gX p s m [.int a0].toArray meth c cX8_isForm 1 (some .boolean) RX8 g A := C0
  have hl : lv_has ls 1 [(0, .int a0)] := hl
  refine lv_iload_n hx hb dX8_isForm_0 rfl (lv_at hl 0 rfl) ?_
  refine lv_iconst (v := 0) hx hb dX8_isForm_1 (by decide) ?_
  refine lv_iconst (v := 2) hx hb dX8_isForm_2 (by decide) ?_
  obtain ⟨o3, ho3, hm⟩ := bindE hm
  refine gCalli (ws' := []) C0 hw (gRunS (As := [.int a0, .int (0 : Int32), .int (2 : Int32)]) (rest := []) C0 hw lkX8_94 (c_x_within l g H.size  a0 (0 : Int32) (2 : Int32) o3 ho3) ⟨rfl, rfl⟩ ⟨Nat.le_of_ble_eq_true rfl, Nat.le_of_ble_eq_true rfl⟩ [] (by decide) rfl rfl hl.1 rfl (Nat.le_of_ble_eq_true rfl) dX8_isForm_3) [] [] rfl rfl trivial [] rfl rfl 0 rfl (by decide +kernel) (fun H locs hw => ?_)
  obtain ⟨hB0, hm⟩ := gdE hm
  have hB := of_decide_eq_true hB0
  have hm := Option.some.inj hm
  subst hm
  exact gRetZ C0 hw hB dX8_isForm_6

-- java/util/Arrays.fill([II)V
abbrev W_ja_fill_i (g : gG) (h0 : Nat) (p0 : Nat → Int32) (p0_n : Nat) : va_W := [(h0, .inl (gI g, p0_n, .inl p0))]

abbrev rm_ja_fill_i : Room := { frames := 0, cells := 0, slots := 0, locals := 0 }

set_option maxHeartbeats 1000000 in
set_option maxRecDepth 100000 in
theorem n_ja_fill_i_N5 {p : Program} {l : Launch} {e : Env} {s : State} {m : MethodId} {args : Array Value} {below : List Frame} {meth : Method} {c : Code} {A : Nat → Prop} {g : gG} {h0 : Nat} {p0_n : Nat} {k5 : (Nat → Int32) → Int32 → Int32 → Int32 → Option (Nat → Int32)} {r : (Nat → Int32)} (C0 : gX p s m args meth c cJ7_fill_53178 4 none RJ7 g A) (hk5 : ∀ (p0 : Nat → Int32) (x1 : Int32) (x2 : Int32) (x3 : Int32), k5 p0 x1 x2 x3 = some r → ∀ (H : Heap) (locs : List Loc) (ls : Array Slot), gW g A s (W_ja_fill_i g h0 p0 p0_n) H locs → lv_has ls 4 [(0, .ref h0), (1, .int x1), (2, .int x2), (3, .int x3)] → W p l e rm_ja_fill_i s m args below meth c H locs 0 0 (gQv below args s A g (W_ja_fill_i g h0 r p0_n)) (F0 m 5 ls [])) : ∀ (p0 : Nat → Int32) (x1 : Int32) (x2 : Int32) (x3 : Int32), f_ja_fill_i_N5 p0_n k5 p0 x1 x2 x3 = some r → ∀ (H : Heap) (locs : List Loc) (ls : Array Slot), gW g A s (W_ja_fill_i g h0 p0 p0_n) H locs → lv_has ls 4 [(0, .ref h0), (1, .int x1), (2, .int x2), (3, .int x3)] → W p l e rm_ja_fill_i s m args below meth c H locs 0 0 (gQv below args s A g (W_ja_fill_i g h0 r p0_n)) (F0 m 5 ls []) := by
  intro p0 x1 x2 x3 hm H locs ls hw hl
  unfold f_ja_fill_i_N5 at hm
  obtain ⟨hx, hb, hr, hml, hown, hts, hlocks, hK, hA⟩ := id C0
  refine lv_iload_n hx hb dJ7_fill_53178_5 rfl (lv_at hl 2 rfl) ?_
  refine lv_iload_n hx hb dJ7_fill_53178_6 rfl (lv_at hl 3 rfl) ?_
  refine lv_icmp_ge (tgt := 20) hx hb dJ7_fill_53178_7 (by decide) (fun hc => ?_) (fun hc => ?_)
  · have hm := ipos hc hm
    have hm := Option.some.inj hm
    subst hm
    exact gRetV C0 hw dJ7_fill_53178_20
  · have hm := ineg hc hm
    refine lv_aload_n hx hb dJ7_fill_53178_10 rfl (lv_at hl 0 rfl) ?_
    refine lv_iload_n hx hb dJ7_fill_53178_11 rfl (lv_at hl 2 rfl) ?_
    refine lv_iload_n hx hb dJ7_fill_53178_12 rfl (lv_at hl 1 rfl) ?_
    obtain ⟨hin, hm⟩ := gdE hm
    have hin := inbE hin
    refine gAstI (ws' := (W_ja_fill_i g h0 (upd p0 x2.toNatClampNeg x1) p0_n)) C0 hw 0 rfl hin rfl dJ7_fill_53178_13 (fun H locs hw => ?_)
    refine lv_iinc (v := x2 + (1 : Int32)) (lv' := [(2, .int (x2 + (1 : Int32))), (0, .ref h0), (1, .int x1), (3, .int x3)]) hx hb dJ7_fill_53178_14 hl (k := 2) rfl rfl (by decide) rfl (fun ls hl => ?_)
    refine lv_goto (tgt := 5) hx hb dJ7_fill_53178_17 (by decide) ?_
    exact hk5 _ _ _ _ hm _ _ _ hw (lv_sub hl [1, 2, 0, 3] rfl)
set_option maxHeartbeats 1000000 in
set_option maxRecDepth 100000 in
theorem l_ja_fill_i_N5 {p : Program} {l : Launch} {e : Env} {s : State} {m : MethodId} {args : Array Value} {below : List Frame} {meth : Method} {c : Code} {A : Nat → Prop} {g : gG} {h0 : Nat} {p0_n : Nat} {r : (Nat → Int32)} (C0 : gX p s m args meth c cJ7_fill_53178 4 none RJ7 g A) : ∀ n : Nat, ∀ (p0 : Nat → Int32) (x1 : Int32) (x2 : Int32) (x3 : Int32), iter (fun _ _ _ _ => none) (f_ja_fill_i_N5 p0_n) n p0 x1 x2 x3 = some r → ∀ (H : Heap) (locs : List Loc) (ls : Array Slot), gW g A s (W_ja_fill_i g h0 p0 p0_n) H locs → lv_has ls 4 [(0, .ref h0), (1, .int x1), (2, .int x2), (3, .int x3)] → W p l e rm_ja_fill_i s m args below meth c H locs 0 0 (gQv below args s A g (W_ja_fill_i g h0 r p0_n)) (F0 m 5 ls []) := by
  intro n
  induction n with
  | zero =>
    intro p0 x1 x2 x3 hm
    cases hm
  | succ n ih =>
    exact n_ja_fill_i_N5 C0  ih
set_option maxHeartbeats 1000000 in
set_option maxRecDepth 100000 in
theorem c_ja_fill_i (l : Launch) (g : gG) (sz : Nat) (h0 : Nat) (p0 : Nat → Int32) (p0_n : Nat) (a1 : Int32) (r : (Nat → Int32)) (hm : f_ja_fill_i p0 p0_n a1 = some r) : gMv l yJ7_fill_53178 cJ7_fill_53178 4 none rm_ja_fill_i g sz [.ref h0, .int a1] (W_ja_fill_i g h0 p0 p0_n) (W_ja_fill_i g h0 r p0_n) := by
  unfold f_ja_fill_i at hm
  refine gEnterV (by decide) (Nat.le_of_ble_eq_true rfl) (fun p e s m below meth c A C0 H locs hw ls hl => ?_)
  obtain ⟨hx, hb, hr, hml, hown, hts, hlocks, hK, hA⟩ := id C0
  have C0 : gX p s m [.ref h0, .int a1].toArray meth c cJ7_fill_53178 4 none RJ7 g A := C0
  have hl : lv_has ls 4 [(0, .ref h0), (1, .int a1)] := hl
  refine lv_iconst (v := 0) hx hb dJ7_fill_53178_0 (by decide) ?_
  refine lv_istore_n (lv' := [(2, .int (0 : Int32)), (0, .ref h0), (1, .int a1)]) hx hb dJ7_fill_53178_1 rfl hl (by decide) rfl (fun ls hl => ?_)
  refine lv_aload_n hx hb dJ7_fill_53178_2 rfl (lv_at hl 1 rfl) ?_
  refine gLen C0 hw 0 0 rfl rfl dJ7_fill_53178_3 ?_
  refine lv_istore_n (lv' := [(3, .int (Int32.ofNat p0_n)), (2, .int (0 : Int32)), (0, .ref h0), (1, .int a1)]) hx hb dJ7_fill_53178_4 rfl hl (by decide) rfl (fun ls hl => ?_)
  exact l_ja_fill_i_N5 C0  1000 _ _ _ _ hm _ _ _ hw (lv_sub hl [2, 3, 1, 0] rfl)

-- WallHands.sheet(III)I
abbrev W_x_sheet (g : gG) (h0 h1 h2 h3 h4 h5 h6 h7 h8 h9 h10 h11 h12 h13 h14 h15 h16 h17 h18 h19 h20 : Nat) (v_toldIsStale : Int32) (v_latestFinding : Int32) (v_sheets0_form : Int32) (v_sheets0_size : Int32) (v_sheets0_items : Nat → Int32) (v_sheets1_form : Int32) (v_sheets1_size : Int32) (v_sheets1_items : Nat → Int32) (v_sheets2_form : Int32) (v_sheets2_size : Int32) (v_sheets2_items : Nat → Int32) (v_sheets3_form : Int32) (v_sheets3_size : Int32) (v_sheets3_items : Nat → Int32) : va_W := [(h0, .inr (8, [.ref h10, .ref h11, .ref h12, .ref h13, .ref h14, .ref h15, .ref h16, .ref h17, .ref h9, .ref h18, .ref h19, .ref h20, .int v_toldIsStale, .int v_latestFinding])), (h1, .inr (3, [.ref h2, .int v_sheets0_form, .int v_sheets0_size])), (h2, .inl (gI g, 60, .inl v_sheets0_items)), (h3, .inr (3, [.ref h4, .int v_sheets1_form, .int v_sheets1_size])), (h4, .inl (gI g, 60, .inl v_sheets1_items)), (h5, .inr (3, [.ref h6, .int v_sheets2_form, .int v_sheets2_size])), (h6, .inl (gI g, 60, .inl v_sheets2_items)), (h7, .inr (3, [.ref h8, .int v_sheets3_form, .int v_sheets3_size])), (h8, .inl (gI g, 60, .inl v_sheets3_items)), (h9, .inl (gL g, 4, .inr (.inr (.inr (.inr (g4 h1 h3 h5 h7))))))]

abbrev rm_x_sheet : Room := { frames := 2, cells := 0, slots := 0, locals := 42 }

set_option maxHeartbeats 1000000 in
set_option maxRecDepth 100000 in
theorem c_x_sheet (l : Launch) (g : gG) (sz : Nat) (h0 h1 h2 h3 h4 h5 h6 h7 h8 h9 h10 h11 h12 h13 h14 h15 h16 h17 h18 h19 h20 : Nat) (v_toldIsStale : Int32) (v_latestFinding : Int32) (v_sheets0_form : Int32) (v_sheets0_size : Int32) (v_sheets0_items : Nat → Int32) (v_sheets1_form : Int32) (v_sheets1_size : Int32) (v_sheets1_items : Nat → Int32) (v_sheets2_form : Int32) (v_sheets2_size : Int32) (v_sheets2_items : Nat → Int32) (v_sheets3_form : Int32) (v_sheets3_size : Int32) (v_sheets3_items : Nat → Int32) (a0 : Int32) (a1 : Int32) (a2 : Int32) (r : (Int32 × Int32 × Int32 × Int32 × (Nat → Int32) × Int32 × Int32 × (Nat → Int32) × Int32 × Int32 × (Nat → Int32) × Int32 × Int32 × (Nat → Int32))) (hm : f_x_sheet v_latestFinding v_sheets0_form v_sheets0_size v_sheets0_items v_sheets1_form v_sheets1_size v_sheets1_items v_sheets2_form v_sheets2_size v_sheets2_items v_sheets3_form v_sheets3_size v_sheets3_items a0 a1 a2 = some r) : gMi l yX8_sheet cX8_sheet 5 (some .int) rm_x_sheet g sz [.ref h0, .int a0, .int a1, .int a2] (W_x_sheet g h0 h1 h2 h3 h4 h5 h6 h7 h8 h9 h10 h11 h12 h13 h14 h15 h16 h17 h18 h19 h20 v_toldIsStale v_latestFinding v_sheets0_form v_sheets0_size v_sheets0_items v_sheets1_form v_sheets1_size v_sheets1_items v_sheets2_form v_sheets2_size v_sheets2_items v_sheets3_form v_sheets3_size v_sheets3_items) r.1 (W_x_sheet g h0 h1 h2 h3 h4 h5 h6 h7 h8 h9 h10 h11 h12 h13 h14 h15 h16 h17 h18 h19 h20 v_toldIsStale r.2.1 r.2.2.1 r.2.2.2.1 r.2.2.2.2.1 r.2.2.2.2.2.1 r.2.2.2.2.2.2.1 r.2.2.2.2.2.2.2.1 r.2.2.2.2.2.2.2.2.1 r.2.2.2.2.2.2.2.2.2.1 r.2.2.2.2.2.2.2.2.2.2.1 r.2.2.2.2.2.2.2.2.2.2.2.1 r.2.2.2.2.2.2.2.2.2.2.2.2.1 r.2.2.2.2.2.2.2.2.2.2.2.2.2) := by
  unfold f_x_sheet at hm
  refine gEnterI (by decide) (Nat.le_of_ble_eq_true rfl) (fun p e s m below meth c A C0 H locs hw ls hl => ?_)
  obtain ⟨hx, hb, hr, hml, hown, hts, hlocks, hK, hA⟩ := id C0
  have C0 : gX p s m [.ref h0, .int a0, .int a1, .int a2].toArray meth c cX8_sheet 5 (some .int) RX8 g A := C0
  have hl : lv_has ls 5 [(0, .ref h0), (1, .int a0), (2, .int a1), (3, .int a2)] := hl
  refine lv_iload_n hx hb dX8_sheet_0 rfl (lv_at hl 1 rfl) ?_
  obtain ⟨o1, ho1, hm⟩ := bindE hm
  refine gCalli (ws' := (W_x_sheet g h0 h1 h2 h3 h4 h5 h6 h7 h8 h9 h10 h11 h12 h13 h14 h15 h16 h17 h18 h19 h20 v_toldIsStale v_latestFinding v_sheets0_form v_sheets0_size v_sheets0_items v_sheets1_form v_sheets1_size v_sheets1_items v_sheets2_form v_sheets2_size v_sheets2_items v_sheets3_form v_sheets3_size v_sheets3_items)) C0 hw (gRunS (As := [.int a0]) (rest := []) C0 hw lkX8_155 (c_x_isSheet l g H.size  a0 o1 ho1) ⟨rfl, rfl⟩ ⟨Nat.le_of_ble_eq_true rfl, Nat.le_of_ble_eq_true rfl⟩ [] (by decide) rfl rfl hl.1 rfl (Nat.le_of_ble_eq_true rfl) dX8_sheet_1) [] [0, 1, 2, 3, 4, 5, 6, 7, 8, 9] rfl rfl ⟨rfl, rfl, rfl, rfl, rfl, rfl, rfl, rfl, rfl, rfl, trivial⟩ [h0, h1, h2, h3, h4, h5, h6, h7, h8, h9] rfl rfl 10 rfl (by decide +kernel) (fun H locs hw => ?_)
  refine lv_if_eq (tgt := 20) hx hb dX8_sheet_4 (by decide) (fun hc => ?_) (fun hc => ?_)
  · have hm := ipos hc hm
    refine lv_bipush (v := -2) hx hb dX8_sheet_20 (by decide) ?_
    have hm := Option.some.inj hm
    subst hm
    exact gRetI C0 hw dX8_sheet_22
  · have hm := ineg hc hm
    refine lv_iload_n hx hb dX8_sheet_7 rfl (lv_at hl 2 rfl) ?_
    obtain ⟨o8, ho8, hm⟩ := bindE hm
    refine gCalli (ws' := (W_x_sheet g h0 h1 h2 h3 h4 h5 h6 h7 h8 h9 h10 h11 h12 h13 h14 h15 h16 h17 h18 h19 h20 v_toldIsStale v_latestFinding v_sheets0_form v_sheets0_size v_sheets0_items v_sheets1_form v_sheets1_size v_sheets1_items v_sheets2_form v_sheets2_size v_sheets2_items v_sheets3_form v_sheets3_size v_sheets3_items)) C0 hw (gRunS (As := [.int a1]) (rest := []) C0 hw lkX8_259 (c_x_isForm l g H.size  a1 o8 ho8) ⟨rfl, rfl⟩ ⟨Nat.le_of_ble_eq_true rfl, Nat.le_of_ble_eq_true rfl⟩ [] (by decide) rfl rfl hl.1 rfl (Nat.le_of_ble_eq_true rfl) dX8_sheet_8) [] [0, 1, 2, 3, 4, 5, 6, 7, 8, 9] rfl rfl ⟨rfl, rfl, rfl, rfl, rfl, rfl, rfl, rfl, rfl, rfl, trivial⟩ [h0, h1, h2, h3, h4, h5, h6, h7, h8, h9] rfl rfl 10 rfl (by decide +kernel) (fun H locs hw => ?_)
    refine lv_if_eq (tgt := 20) hx hb dX8_sheet_11 (by decide) (fun hc => ?_) (fun hc => ?_)
    · have hm := ipos hc hm
      refine lv_bipush (v := -2) hx hb dX8_sheet_20 (by decide) ?_
      have hm := Option.some.inj hm
      subst hm
      exact gRetI C0 hw dX8_sheet_22
    · have hm := ineg hc hm
      refine lv_iload_n hx hb dX8_sheet_14 rfl (lv_at hl 3 rfl) ?_
      refine lv_bipush (v := 60) hx hb dX8_sheet_15 (by decide) ?_
      refine lv_icmp_le (tgt := 23) hx hb dX8_sheet_17 (by decide) (fun hc => ?_) (fun hc => ?_)
      · have hm := ipos hc hm
        refine lv_iload_n hx hb dX8_sheet_23 rfl (lv_at hl 3 rfl) ?_
        refine lv_if_ge (tgt := 33) hx hb dX8_sheet_24 (by decide) (fun hc => ?_) (fun hc => ?_)
        · have hm := ipos hc hm
          refine lv_aload_n hx hb dX8_sheet_33 rfl (lv_at hl 0 rfl) ?_
          refine gGet C0 hw flX8_61 0 rfl rfl dX8_sheet_34 ?_
          refine lv_iload_n hx hb dX8_sheet_37 rfl (lv_at hl 1 rfl) ?_
          by_cases hs0 : a0 = (0 : Int32)
          · have hm := ipos hs0 hm
            refine gAldL C0 hw 9 rfl hs0 (inbE (by decide)) rfl dX8_sheet_38 ?_
            refine lv_astore (lv' := [(4, .ref h1), (0, .ref h0), (1, .int a0), (2, .int a1), (3, .int a2)]) hx hb dX8_sheet_39 hl (by decide) rfl (fun ls hl => ?_)
            refine lv_aload hx hb dX8_sheet_41 (lv_at hl 0 rfl) ?_
            refine gGet C0 hw flX8_168 1 rfl rfl dX8_sheet_43 ?_
            refine lv_iconst (v := 0) hx hb dX8_sheet_46 (by decide) ?_
            obtain ⟨o47, ho47, hm⟩ := bindE hm
            refine gCallv (ws' := (W_x_sheet g h0 h1 h2 h3 h4 h5 h6 h7 h8 h9 h10 h11 h12 h13 h14 h15 h16 h17 h18 h19 h20 v_toldIsStale v_latestFinding v_sheets0_form v_sheets0_size o47 v_sheets1_form v_sheets1_size v_sheets1_items v_sheets2_form v_sheets2_size v_sheets2_items v_sheets3_form v_sheets3_size v_sheets3_items)) C0 hw (gRunS (As := [.ref h2, .int (0 : Int32)]) (rest := []) C0 hw lkX8_262 (c_ja_fill_i l g H.size h2 v_sheets0_items 60 (0 : Int32) o47 ho47) ⟨rfl, rfl⟩ ⟨Nat.le_of_ble_eq_true rfl, Nat.le_of_ble_eq_true rfl⟩ [2] (by decide) rfl rfl hl.1 rfl (Nat.le_of_ble_eq_true rfl) dX8_sheet_47) [2] [0, 1, 3, 4, 5, 6, 7, 8, 9] rfl rfl ⟨rfl, rfl, rfl, rfl, rfl, rfl, rfl, rfl, rfl, trivial⟩ [h0, h1, h2, h3, h4, h5, h6, h7, h8, h9] rfl rfl 10 rfl (by decide +kernel) (fun H locs hw => ?_)
            refine lv_aload hx hb dX8_sheet_50 (lv_at hl 0 rfl) ?_
            refine lv_iload_n hx hb dX8_sheet_52 rfl (lv_at hl 3 rfl) ?_
            refine gPut (ws' := (W_x_sheet g h0 h1 h2 h3 h4 h5 h6 h7 h8 h9 h10 h11 h12 h13 h14 h15 h16 h17 h18 h19 h20 v_toldIsStale v_latestFinding a1 v_sheets0_size o47 v_sheets1_form v_sheets1_size v_sheets1_items v_sheets2_form v_sheets2_size v_sheets2_items v_sheets3_form v_sheets3_size v_sheets3_items)) C0 hw fpX8_158 1 rfl rfl rfl (Nat.le_of_ble_eq_true rfl) rfl dX8_sheet_53 (fun H locs hw => ?_)
            refine lv_aload hx hb dX8_sheet_56 (lv_at hl 0 rfl) ?_
            refine lv_iload_n hx hb dX8_sheet_58 rfl (lv_at hl 4 rfl) ?_
            refine gPut (ws' := (W_x_sheet g h0 h1 h2 h3 h4 h5 h6 h7 h8 h9 h10 h11 h12 h13 h14 h15 h16 h17 h18 h19 h20 v_toldIsStale v_latestFinding a1 a2 o47 v_sheets1_form v_sheets1_size v_sheets1_items v_sheets2_form v_sheets2_size v_sheets2_items v_sheets3_form v_sheets3_size v_sheets3_items)) C0 hw fpX8_165 1 rfl rfl rfl (Nat.le_of_ble_eq_true rfl) rfl dX8_sheet_59 (fun H locs hw => ?_)
            refine lv_iload_n hx hb dX8_sheet_62 rfl (lv_at hl 4 rfl) ?_
            have hm := Option.some.inj hm
            subst hm
            exact gRetI C0 hw dX8_sheet_63
          have hm := ineg hs0 hm
          by_cases hs1 : a0 = (1 : Int32)
          · have hm := ipos hs1 hm
            refine gAldL C0 hw 9 rfl hs1 (inbE (by decide)) rfl dX8_sheet_38 ?_
            refine lv_astore (lv' := [(4, .ref h3), (0, .ref h0), (1, .int a0), (2, .int a1), (3, .int a2)]) hx hb dX8_sheet_39 hl (by decide) rfl (fun ls hl => ?_)
            refine lv_aload hx hb dX8_sheet_41 (lv_at hl 0 rfl) ?_
            refine gGet C0 hw flX8_168 3 rfl rfl dX8_sheet_43 ?_
            refine lv_iconst (v := 0) hx hb dX8_sheet_46 (by decide) ?_
            obtain ⟨o47, ho47, hm⟩ := bindE hm
            refine gCallv (ws' := (W_x_sheet g h0 h1 h2 h3 h4 h5 h6 h7 h8 h9 h10 h11 h12 h13 h14 h15 h16 h17 h18 h19 h20 v_toldIsStale v_latestFinding v_sheets0_form v_sheets0_size v_sheets0_items v_sheets1_form v_sheets1_size o47 v_sheets2_form v_sheets2_size v_sheets2_items v_sheets3_form v_sheets3_size v_sheets3_items)) C0 hw (gRunS (As := [.ref h4, .int (0 : Int32)]) (rest := []) C0 hw lkX8_262 (c_ja_fill_i l g H.size h4 v_sheets1_items 60 (0 : Int32) o47 ho47) ⟨rfl, rfl⟩ ⟨Nat.le_of_ble_eq_true rfl, Nat.le_of_ble_eq_true rfl⟩ [4] (by decide) rfl rfl hl.1 rfl (Nat.le_of_ble_eq_true rfl) dX8_sheet_47) [4] [0, 1, 2, 3, 5, 6, 7, 8, 9] rfl rfl ⟨rfl, rfl, rfl, rfl, rfl, rfl, rfl, rfl, rfl, trivial⟩ [h0, h1, h2, h3, h4, h5, h6, h7, h8, h9] rfl rfl 10 rfl (by decide +kernel) (fun H locs hw => ?_)
            refine lv_aload hx hb dX8_sheet_50 (lv_at hl 0 rfl) ?_
            refine lv_iload_n hx hb dX8_sheet_52 rfl (lv_at hl 3 rfl) ?_
            refine gPut (ws' := (W_x_sheet g h0 h1 h2 h3 h4 h5 h6 h7 h8 h9 h10 h11 h12 h13 h14 h15 h16 h17 h18 h19 h20 v_toldIsStale v_latestFinding v_sheets0_form v_sheets0_size v_sheets0_items a1 v_sheets1_size o47 v_sheets2_form v_sheets2_size v_sheets2_items v_sheets3_form v_sheets3_size v_sheets3_items)) C0 hw fpX8_158 3 rfl rfl rfl (Nat.le_of_ble_eq_true rfl) rfl dX8_sheet_53 (fun H locs hw => ?_)
            refine lv_aload hx hb dX8_sheet_56 (lv_at hl 0 rfl) ?_
            refine lv_iload_n hx hb dX8_sheet_58 rfl (lv_at hl 4 rfl) ?_
            refine gPut (ws' := (W_x_sheet g h0 h1 h2 h3 h4 h5 h6 h7 h8 h9 h10 h11 h12 h13 h14 h15 h16 h17 h18 h19 h20 v_toldIsStale v_latestFinding v_sheets0_form v_sheets0_size v_sheets0_items a1 a2 o47 v_sheets2_form v_sheets2_size v_sheets2_items v_sheets3_form v_sheets3_size v_sheets3_items)) C0 hw fpX8_165 3 rfl rfl rfl (Nat.le_of_ble_eq_true rfl) rfl dX8_sheet_59 (fun H locs hw => ?_)
            refine lv_iload_n hx hb dX8_sheet_62 rfl (lv_at hl 4 rfl) ?_
            have hm := Option.some.inj hm
            subst hm
            exact gRetI C0 hw dX8_sheet_63
          have hm := ineg hs1 hm
          by_cases hs2 : a0 = (2 : Int32)
          · have hm := ipos hs2 hm
            refine gAldL C0 hw 9 rfl hs2 (inbE (by decide)) rfl dX8_sheet_38 ?_
            refine lv_astore (lv' := [(4, .ref h5), (0, .ref h0), (1, .int a0), (2, .int a1), (3, .int a2)]) hx hb dX8_sheet_39 hl (by decide) rfl (fun ls hl => ?_)
            refine lv_aload hx hb dX8_sheet_41 (lv_at hl 0 rfl) ?_
            refine gGet C0 hw flX8_168 5 rfl rfl dX8_sheet_43 ?_
            refine lv_iconst (v := 0) hx hb dX8_sheet_46 (by decide) ?_
            obtain ⟨o47, ho47, hm⟩ := bindE hm
            refine gCallv (ws' := (W_x_sheet g h0 h1 h2 h3 h4 h5 h6 h7 h8 h9 h10 h11 h12 h13 h14 h15 h16 h17 h18 h19 h20 v_toldIsStale v_latestFinding v_sheets0_form v_sheets0_size v_sheets0_items v_sheets1_form v_sheets1_size v_sheets1_items v_sheets2_form v_sheets2_size o47 v_sheets3_form v_sheets3_size v_sheets3_items)) C0 hw (gRunS (As := [.ref h6, .int (0 : Int32)]) (rest := []) C0 hw lkX8_262 (c_ja_fill_i l g H.size h6 v_sheets2_items 60 (0 : Int32) o47 ho47) ⟨rfl, rfl⟩ ⟨Nat.le_of_ble_eq_true rfl, Nat.le_of_ble_eq_true rfl⟩ [6] (by decide) rfl rfl hl.1 rfl (Nat.le_of_ble_eq_true rfl) dX8_sheet_47) [6] [0, 1, 2, 3, 4, 5, 7, 8, 9] rfl rfl ⟨rfl, rfl, rfl, rfl, rfl, rfl, rfl, rfl, rfl, trivial⟩ [h0, h1, h2, h3, h4, h5, h6, h7, h8, h9] rfl rfl 10 rfl (by decide +kernel) (fun H locs hw => ?_)
            refine lv_aload hx hb dX8_sheet_50 (lv_at hl 0 rfl) ?_
            refine lv_iload_n hx hb dX8_sheet_52 rfl (lv_at hl 3 rfl) ?_
            refine gPut (ws' := (W_x_sheet g h0 h1 h2 h3 h4 h5 h6 h7 h8 h9 h10 h11 h12 h13 h14 h15 h16 h17 h18 h19 h20 v_toldIsStale v_latestFinding v_sheets0_form v_sheets0_size v_sheets0_items v_sheets1_form v_sheets1_size v_sheets1_items a1 v_sheets2_size o47 v_sheets3_form v_sheets3_size v_sheets3_items)) C0 hw fpX8_158 5 rfl rfl rfl (Nat.le_of_ble_eq_true rfl) rfl dX8_sheet_53 (fun H locs hw => ?_)
            refine lv_aload hx hb dX8_sheet_56 (lv_at hl 0 rfl) ?_
            refine lv_iload_n hx hb dX8_sheet_58 rfl (lv_at hl 4 rfl) ?_
            refine gPut (ws' := (W_x_sheet g h0 h1 h2 h3 h4 h5 h6 h7 h8 h9 h10 h11 h12 h13 h14 h15 h16 h17 h18 h19 h20 v_toldIsStale v_latestFinding v_sheets0_form v_sheets0_size v_sheets0_items v_sheets1_form v_sheets1_size v_sheets1_items a1 a2 o47 v_sheets3_form v_sheets3_size v_sheets3_items)) C0 hw fpX8_165 5 rfl rfl rfl (Nat.le_of_ble_eq_true rfl) rfl dX8_sheet_59 (fun H locs hw => ?_)
            refine lv_iload_n hx hb dX8_sheet_62 rfl (lv_at hl 4 rfl) ?_
            have hm := Option.some.inj hm
            subst hm
            exact gRetI C0 hw dX8_sheet_63
          have hm := ineg hs2 hm
          by_cases hs3 : a0 = (3 : Int32)
          · have hm := ipos hs3 hm
            refine gAldL C0 hw 9 rfl hs3 (inbE (by decide)) rfl dX8_sheet_38 ?_
            refine lv_astore (lv' := [(4, .ref h7), (0, .ref h0), (1, .int a0), (2, .int a1), (3, .int a2)]) hx hb dX8_sheet_39 hl (by decide) rfl (fun ls hl => ?_)
            refine lv_aload hx hb dX8_sheet_41 (lv_at hl 0 rfl) ?_
            refine gGet C0 hw flX8_168 7 rfl rfl dX8_sheet_43 ?_
            refine lv_iconst (v := 0) hx hb dX8_sheet_46 (by decide) ?_
            obtain ⟨o47, ho47, hm⟩ := bindE hm
            refine gCallv (ws' := (W_x_sheet g h0 h1 h2 h3 h4 h5 h6 h7 h8 h9 h10 h11 h12 h13 h14 h15 h16 h17 h18 h19 h20 v_toldIsStale v_latestFinding v_sheets0_form v_sheets0_size v_sheets0_items v_sheets1_form v_sheets1_size v_sheets1_items v_sheets2_form v_sheets2_size v_sheets2_items v_sheets3_form v_sheets3_size o47)) C0 hw (gRunS (As := [.ref h8, .int (0 : Int32)]) (rest := []) C0 hw lkX8_262 (c_ja_fill_i l g H.size h8 v_sheets3_items 60 (0 : Int32) o47 ho47) ⟨rfl, rfl⟩ ⟨Nat.le_of_ble_eq_true rfl, Nat.le_of_ble_eq_true rfl⟩ [8] (by decide) rfl rfl hl.1 rfl (Nat.le_of_ble_eq_true rfl) dX8_sheet_47) [8] [0, 1, 2, 3, 4, 5, 6, 7, 9] rfl rfl ⟨rfl, rfl, rfl, rfl, rfl, rfl, rfl, rfl, rfl, trivial⟩ [h0, h1, h2, h3, h4, h5, h6, h7, h8, h9] rfl rfl 10 rfl (by decide +kernel) (fun H locs hw => ?_)
            refine lv_aload hx hb dX8_sheet_50 (lv_at hl 0 rfl) ?_
            refine lv_iload_n hx hb dX8_sheet_52 rfl (lv_at hl 3 rfl) ?_
            refine gPut (ws' := (W_x_sheet g h0 h1 h2 h3 h4 h5 h6 h7 h8 h9 h10 h11 h12 h13 h14 h15 h16 h17 h18 h19 h20 v_toldIsStale v_latestFinding v_sheets0_form v_sheets0_size v_sheets0_items v_sheets1_form v_sheets1_size v_sheets1_items v_sheets2_form v_sheets2_size v_sheets2_items a1 v_sheets3_size o47)) C0 hw fpX8_158 7 rfl rfl rfl (Nat.le_of_ble_eq_true rfl) rfl dX8_sheet_53 (fun H locs hw => ?_)
            refine lv_aload hx hb dX8_sheet_56 (lv_at hl 0 rfl) ?_
            refine lv_iload_n hx hb dX8_sheet_58 rfl (lv_at hl 4 rfl) ?_
            refine gPut (ws' := (W_x_sheet g h0 h1 h2 h3 h4 h5 h6 h7 h8 h9 h10 h11 h12 h13 h14 h15 h16 h17 h18 h19 h20 v_toldIsStale v_latestFinding v_sheets0_form v_sheets0_size v_sheets0_items v_sheets1_form v_sheets1_size v_sheets1_items v_sheets2_form v_sheets2_size v_sheets2_items a1 a2 o47)) C0 hw fpX8_165 7 rfl rfl rfl (Nat.le_of_ble_eq_true rfl) rfl dX8_sheet_59 (fun H locs hw => ?_)
            refine lv_iload_n hx hb dX8_sheet_62 rfl (lv_at hl 4 rfl) ?_
            have hm := Option.some.inj hm
            subst hm
            exact gRetI C0 hw dX8_sheet_63
          have hm := ineg hs3 hm
          cases hm
        · have hm := ineg hc hm
          refine lv_aload_n hx hb dX8_sheet_27 rfl (lv_at hl 0 rfl) ?_
          refine lv_iconst (v := 5) hx hb dX8_sheet_28 (by decide) ?_
          obtain ⟨o29, ho29, hm⟩ := bindE hm
          refine gCalli (ws' := (W_x_sheet g h0 h1 h2 h3 h4 h5 h6 h7 h8 h9 h10 h11 h12 h13 h14 h15 h16 h17 h18 h19 h20 v_toldIsStale o29.2 v_sheets0_form v_sheets0_size v_sheets0_items v_sheets1_form v_sheets1_size v_sheets1_items v_sheets2_form v_sheets2_size v_sheets2_items v_sheets3_form v_sheets3_size v_sheets3_items)) C0 hw (gRunV (As := [.int (5 : Int32)]) (rest := []) C0 hw lkX8_161 (c_x_found l g H.size h0 h10 h11 h12 h13 h14 h15 h16 h17 h9 h18 h19 h20 v_toldIsStale v_latestFinding (5 : Int32) o29 ho29) ⟨rfl, rfl⟩ ⟨Nat.le_of_ble_eq_true rfl, Nat.le_of_ble_eq_true rfl⟩ [0] (by decide) rfl 0 rfl rfl rfl hl.1 rfl (Nat.le_of_ble_eq_true rfl) dX8_sheet_29) [0] [1, 2, 3, 4, 5, 6, 7, 8, 9] rfl rfl ⟨rfl, rfl, rfl, rfl, rfl, rfl, rfl, rfl, rfl, trivial⟩ [h0, h1, h2, h3, h4, h5, h6, h7, h8, h9] rfl rfl 10 rfl (by decide +kernel) (fun H locs hw => ?_)
          have hm := Option.some.inj hm
          subst hm
          exact gRetI C0 hw dX8_sheet_32
      · have hm := ineg hc hm
        refine lv_bipush (v := -2) hx hb dX8_sheet_20 (by decide) ?_
        have hm := Option.some.inj hm
        subst hm
        exact gRetI C0 hw dX8_sheet_22

-- WallHands.lose(I)I
abbrev W_x_lose (g : gG) (h0 h1 h2 h3 h4 h5 h6 h7 h8 h9 h10 h11 h12 h13 h14 h15 h16 h17 h18 h19 h20 : Nat) (v_toldIsStale : Int32) (v_latestFinding : Int32) (v_sheets0_form : Int32) (v_sheets0_size : Int32) (v_sheets1_form : Int32) (v_sheets1_size : Int32) (v_sheets2_form : Int32) (v_sheets2_size : Int32) (v_sheets3_form : Int32) (v_sheets3_size : Int32) : va_W := [(h0, .inr (8, [.ref h6, .ref h7, .ref h8, .ref h9, .ref h10, .ref h11, .ref h12, .ref h13, .ref h5, .ref h14, .ref h15, .ref h16, .int v_toldIsStale, .int v_latestFinding])), (h1, .inr (3, [.ref h17, .int v_sheets0_form, .int v_sheets0_size])), (h2, .inr (3, [.ref h18, .int v_sheets1_form, .int v_sheets1_size])), (h3, .inr (3, [.ref h19, .int v_sheets2_form, .int v_sheets2_size])), (h4, .inr (3, [.ref h20, .int v_sheets3_form, .int v_sheets3_size])), (h5, .inl (gL g, 4, .inr (.inr (.inr (.inr (g4 h1 h2 h3 h4))))))]

abbrev rm_x_lose : Room := { frames := 2, cells := 0, slots := 0, locals := 42 }

set_option maxHeartbeats 1000000 in
set_option maxRecDepth 100000 in
theorem c_x_lose (l : Launch) (g : gG) (sz : Nat) (h0 h1 h2 h3 h4 h5 h6 h7 h8 h9 h10 h11 h12 h13 h14 h15 h16 h17 h18 h19 h20 : Nat) (v_toldIsStale : Int32) (v_latestFinding : Int32) (v_sheets0_form : Int32) (v_sheets0_size : Int32) (v_sheets1_form : Int32) (v_sheets1_size : Int32) (v_sheets2_form : Int32) (v_sheets2_size : Int32) (v_sheets3_form : Int32) (v_sheets3_size : Int32) (a0 : Int32) (r : (Int32 × Int32 × Int32 × Int32 × Int32 × Int32)) (hm : f_x_lose v_latestFinding v_sheets0_form v_sheets0_size v_sheets1_form v_sheets1_size v_sheets2_form v_sheets2_size v_sheets3_form v_sheets3_size a0 = some r) : gMi l yX8_lose cX8_lose 3 (some .int) rm_x_lose g sz [.ref h0, .int a0] (W_x_lose g h0 h1 h2 h3 h4 h5 h6 h7 h8 h9 h10 h11 h12 h13 h14 h15 h16 h17 h18 h19 h20 v_toldIsStale v_latestFinding v_sheets0_form v_sheets0_size v_sheets1_form v_sheets1_size v_sheets2_form v_sheets2_size v_sheets3_form v_sheets3_size) r.1 (W_x_lose g h0 h1 h2 h3 h4 h5 h6 h7 h8 h9 h10 h11 h12 h13 h14 h15 h16 h17 h18 h19 h20 v_toldIsStale r.2.1 r.2.2.1 v_sheets0_size r.2.2.2.1 v_sheets1_size r.2.2.2.2.1 v_sheets2_size r.2.2.2.2.2 v_sheets3_size) := by
  unfold f_x_lose at hm
  refine gEnterI (by decide) (Nat.le_of_ble_eq_true rfl) (fun p e s m below meth c A C0 H locs hw ls hl => ?_)
  obtain ⟨hx, hb, hr, hml, hown, hts, hlocks, hK, hA⟩ := id C0
  have C0 : gX p s m [.ref h0, .int a0].toArray meth c cX8_lose 3 (some .int) RX8 g A := C0
  have hl : lv_has ls 3 [(0, .ref h0), (1, .int a0)] := hl
  refine lv_iload_n hx hb dX8_lose_0 rfl (lv_at hl 1 rfl) ?_
  obtain ⟨o1, ho1, hm⟩ := bindE hm
  refine gCalli (ws' := (W_x_lose g h0 h1 h2 h3 h4 h5 h6 h7 h8 h9 h10 h11 h12 h13 h14 h15 h16 h17 h18 h19 h20 v_toldIsStale v_latestFinding v_sheets0_form v_sheets0_size v_sheets1_form v_sheets1_size v_sheets2_form v_sheets2_size v_sheets3_form v_sheets3_size)) C0 hw (gRunS (As := [.int a0]) (rest := []) C0 hw lkX8_155 (c_x_isSheet l g H.size  a0 o1 ho1) ⟨rfl, rfl⟩ ⟨Nat.le_of_ble_eq_true rfl, Nat.le_of_ble_eq_true rfl⟩ [] (by decide) rfl rfl hl.1 rfl (Nat.le_of_ble_eq_true rfl) dX8_lose_1) [] [0, 1, 2, 3, 4, 5] rfl rfl ⟨rfl, rfl, rfl, rfl, rfl, rfl, trivial⟩ [h0, h1, h2, h3, h4, h5] rfl rfl 6 rfl (by decide +kernel) (fun H locs hw => ?_)
  refine lv_if_ne (tgt := 10) hx hb dX8_lose_4 (by decide) (fun hc => ?_) (fun hc => ?_)
  · have hm := ineg hc hm
    refine lv_aload_n hx hb dX8_lose_10 rfl (lv_at hl 0 rfl) ?_
    refine gGet C0 hw flX8_61 0 rfl rfl dX8_lose_11 ?_
    refine lv_iload_n hx hb dX8_lose_14 rfl (lv_at hl 1 rfl) ?_
    by_cases hs0 : a0 = (0 : Int32)
    · have hm := ipos hs0 hm
      refine gAldL C0 hw 5 rfl hs0 (inbE (by decide)) rfl dX8_lose_15 ?_
      refine lv_astore_n (lv' := [(2, .ref h1), (0, .ref h0), (1, .int a0)]) hx hb dX8_lose_16 rfl hl (by decide) rfl (fun ls hl => ?_)
      refine lv_aload_n hx hb dX8_lose_17 rfl (lv_at hl 0 rfl) ?_
      refine gGet C0 hw flX8_158 1 rfl rfl dX8_lose_18 ?_
      refine lv_iconst (v := -1) hx hb dX8_lose_21 (by decide) ?_
      refine lv_icmp_ne (tgt := 31) hx hb dX8_lose_22 (by decide) (fun hc => ?_) (fun hc => ?_)
      · have hm := ineg hc hm
        refine lv_aload_n hx hb dX8_lose_31 rfl (lv_at hl 0 rfl) ?_
        refine lv_iconst (v := -1) hx hb dX8_lose_32 (by decide) ?_
        refine gPut (ws' := (W_x_lose g h0 h1 h2 h3 h4 h5 h6 h7 h8 h9 h10 h11 h12 h13 h14 h15 h16 h17 h18 h19 h20 v_toldIsStale v_latestFinding (-1 : Int32) v_sheets0_size v_sheets1_form v_sheets1_size v_sheets2_form v_sheets2_size v_sheets3_form v_sheets3_size)) C0 hw fpX8_158 1 rfl rfl rfl (Nat.le_of_ble_eq_true rfl) rfl dX8_lose_33 (fun H locs hw => ?_)
        refine lv_aload_n hx hb dX8_lose_36 rfl (lv_at hl 0 rfl) ?_
        refine gGet C0 hw flX8_165 1 rfl rfl dX8_lose_37 ?_
        have hm := Option.some.inj hm
        subst hm
        exact gRetI C0 hw dX8_lose_40
      · have hm := ipos hc hm
        refine lv_aload_n hx hb dX8_lose_25 rfl (lv_at hl 1 rfl) ?_
        refine lv_iconst (v := 1) hx hb dX8_lose_26 (by decide) ?_
        obtain ⟨o27, ho27, hm⟩ := bindE hm
        refine gCalli (ws' := (W_x_lose g h0 h1 h2 h3 h4 h5 h6 h7 h8 h9 h10 h11 h12 h13 h14 h15 h16 h17 h18 h19 h20 v_toldIsStale o27.2 v_sheets0_form v_sheets0_size v_sheets1_form v_sheets1_size v_sheets2_form v_sheets2_size v_sheets3_form v_sheets3_size)) C0 hw (gRunV (As := [.int (1 : Int32)]) (rest := []) C0 hw lkX8_161 (c_x_found l g H.size h0 h6 h7 h8 h9 h10 h11 h12 h13 h5 h14 h15 h16 v_toldIsStale v_latestFinding (1 : Int32) o27 ho27) ⟨rfl, rfl⟩ ⟨Nat.le_of_ble_eq_true rfl, Nat.le_of_ble_eq_true rfl⟩ [0] (by decide) rfl 0 rfl rfl rfl hl.1 rfl (Nat.le_of_ble_eq_true rfl) dX8_lose_27) [0] [1, 2, 3, 4, 5] rfl rfl ⟨rfl, rfl, rfl, rfl, rfl, trivial⟩ [h0, h1, h2, h3, h4, h5] rfl rfl 6 rfl (by decide +kernel) (fun H locs hw => ?_)
        have hm := Option.some.inj hm
        subst hm
        exact gRetI C0 hw dX8_lose_30
    have hm := ineg hs0 hm
    by_cases hs1 : a0 = (1 : Int32)
    · have hm := ipos hs1 hm
      refine gAldL C0 hw 5 rfl hs1 (inbE (by decide)) rfl dX8_lose_15 ?_
      refine lv_astore_n (lv' := [(2, .ref h2), (0, .ref h0), (1, .int a0)]) hx hb dX8_lose_16 rfl hl (by decide) rfl (fun ls hl => ?_)
      refine lv_aload_n hx hb dX8_lose_17 rfl (lv_at hl 0 rfl) ?_
      refine gGet C0 hw flX8_158 2 rfl rfl dX8_lose_18 ?_
      refine lv_iconst (v := -1) hx hb dX8_lose_21 (by decide) ?_
      refine lv_icmp_ne (tgt := 31) hx hb dX8_lose_22 (by decide) (fun hc => ?_) (fun hc => ?_)
      · have hm := ineg hc hm
        refine lv_aload_n hx hb dX8_lose_31 rfl (lv_at hl 0 rfl) ?_
        refine lv_iconst (v := -1) hx hb dX8_lose_32 (by decide) ?_
        refine gPut (ws' := (W_x_lose g h0 h1 h2 h3 h4 h5 h6 h7 h8 h9 h10 h11 h12 h13 h14 h15 h16 h17 h18 h19 h20 v_toldIsStale v_latestFinding v_sheets0_form v_sheets0_size (-1 : Int32) v_sheets1_size v_sheets2_form v_sheets2_size v_sheets3_form v_sheets3_size)) C0 hw fpX8_158 2 rfl rfl rfl (Nat.le_of_ble_eq_true rfl) rfl dX8_lose_33 (fun H locs hw => ?_)
        refine lv_aload_n hx hb dX8_lose_36 rfl (lv_at hl 0 rfl) ?_
        refine gGet C0 hw flX8_165 2 rfl rfl dX8_lose_37 ?_
        have hm := Option.some.inj hm
        subst hm
        exact gRetI C0 hw dX8_lose_40
      · have hm := ipos hc hm
        refine lv_aload_n hx hb dX8_lose_25 rfl (lv_at hl 1 rfl) ?_
        refine lv_iconst (v := 1) hx hb dX8_lose_26 (by decide) ?_
        obtain ⟨o27, ho27, hm⟩ := bindE hm
        refine gCalli (ws' := (W_x_lose g h0 h1 h2 h3 h4 h5 h6 h7 h8 h9 h10 h11 h12 h13 h14 h15 h16 h17 h18 h19 h20 v_toldIsStale o27.2 v_sheets0_form v_sheets0_size v_sheets1_form v_sheets1_size v_sheets2_form v_sheets2_size v_sheets3_form v_sheets3_size)) C0 hw (gRunV (As := [.int (1 : Int32)]) (rest := []) C0 hw lkX8_161 (c_x_found l g H.size h0 h6 h7 h8 h9 h10 h11 h12 h13 h5 h14 h15 h16 v_toldIsStale v_latestFinding (1 : Int32) o27 ho27) ⟨rfl, rfl⟩ ⟨Nat.le_of_ble_eq_true rfl, Nat.le_of_ble_eq_true rfl⟩ [0] (by decide) rfl 0 rfl rfl rfl hl.1 rfl (Nat.le_of_ble_eq_true rfl) dX8_lose_27) [0] [1, 2, 3, 4, 5] rfl rfl ⟨rfl, rfl, rfl, rfl, rfl, trivial⟩ [h0, h1, h2, h3, h4, h5] rfl rfl 6 rfl (by decide +kernel) (fun H locs hw => ?_)
        have hm := Option.some.inj hm
        subst hm
        exact gRetI C0 hw dX8_lose_30
    have hm := ineg hs1 hm
    by_cases hs2 : a0 = (2 : Int32)
    · have hm := ipos hs2 hm
      refine gAldL C0 hw 5 rfl hs2 (inbE (by decide)) rfl dX8_lose_15 ?_
      refine lv_astore_n (lv' := [(2, .ref h3), (0, .ref h0), (1, .int a0)]) hx hb dX8_lose_16 rfl hl (by decide) rfl (fun ls hl => ?_)
      refine lv_aload_n hx hb dX8_lose_17 rfl (lv_at hl 0 rfl) ?_
      refine gGet C0 hw flX8_158 3 rfl rfl dX8_lose_18 ?_
      refine lv_iconst (v := -1) hx hb dX8_lose_21 (by decide) ?_
      refine lv_icmp_ne (tgt := 31) hx hb dX8_lose_22 (by decide) (fun hc => ?_) (fun hc => ?_)
      · have hm := ineg hc hm
        refine lv_aload_n hx hb dX8_lose_31 rfl (lv_at hl 0 rfl) ?_
        refine lv_iconst (v := -1) hx hb dX8_lose_32 (by decide) ?_
        refine gPut (ws' := (W_x_lose g h0 h1 h2 h3 h4 h5 h6 h7 h8 h9 h10 h11 h12 h13 h14 h15 h16 h17 h18 h19 h20 v_toldIsStale v_latestFinding v_sheets0_form v_sheets0_size v_sheets1_form v_sheets1_size (-1 : Int32) v_sheets2_size v_sheets3_form v_sheets3_size)) C0 hw fpX8_158 3 rfl rfl rfl (Nat.le_of_ble_eq_true rfl) rfl dX8_lose_33 (fun H locs hw => ?_)
        refine lv_aload_n hx hb dX8_lose_36 rfl (lv_at hl 0 rfl) ?_
        refine gGet C0 hw flX8_165 3 rfl rfl dX8_lose_37 ?_
        have hm := Option.some.inj hm
        subst hm
        exact gRetI C0 hw dX8_lose_40
      · have hm := ipos hc hm
        refine lv_aload_n hx hb dX8_lose_25 rfl (lv_at hl 1 rfl) ?_
        refine lv_iconst (v := 1) hx hb dX8_lose_26 (by decide) ?_
        obtain ⟨o27, ho27, hm⟩ := bindE hm
        refine gCalli (ws' := (W_x_lose g h0 h1 h2 h3 h4 h5 h6 h7 h8 h9 h10 h11 h12 h13 h14 h15 h16 h17 h18 h19 h20 v_toldIsStale o27.2 v_sheets0_form v_sheets0_size v_sheets1_form v_sheets1_size v_sheets2_form v_sheets2_size v_sheets3_form v_sheets3_size)) C0 hw (gRunV (As := [.int (1 : Int32)]) (rest := []) C0 hw lkX8_161 (c_x_found l g H.size h0 h6 h7 h8 h9 h10 h11 h12 h13 h5 h14 h15 h16 v_toldIsStale v_latestFinding (1 : Int32) o27 ho27) ⟨rfl, rfl⟩ ⟨Nat.le_of_ble_eq_true rfl, Nat.le_of_ble_eq_true rfl⟩ [0] (by decide) rfl 0 rfl rfl rfl hl.1 rfl (Nat.le_of_ble_eq_true rfl) dX8_lose_27) [0] [1, 2, 3, 4, 5] rfl rfl ⟨rfl, rfl, rfl, rfl, rfl, trivial⟩ [h0, h1, h2, h3, h4, h5] rfl rfl 6 rfl (by decide +kernel) (fun H locs hw => ?_)
        have hm := Option.some.inj hm
        subst hm
        exact gRetI C0 hw dX8_lose_30
    have hm := ineg hs2 hm
    by_cases hs3 : a0 = (3 : Int32)
    · have hm := ipos hs3 hm
      refine gAldL C0 hw 5 rfl hs3 (inbE (by decide)) rfl dX8_lose_15 ?_
      refine lv_astore_n (lv' := [(2, .ref h4), (0, .ref h0), (1, .int a0)]) hx hb dX8_lose_16 rfl hl (by decide) rfl (fun ls hl => ?_)
      refine lv_aload_n hx hb dX8_lose_17 rfl (lv_at hl 0 rfl) ?_
      refine gGet C0 hw flX8_158 4 rfl rfl dX8_lose_18 ?_
      refine lv_iconst (v := -1) hx hb dX8_lose_21 (by decide) ?_
      refine lv_icmp_ne (tgt := 31) hx hb dX8_lose_22 (by decide) (fun hc => ?_) (fun hc => ?_)
      · have hm := ineg hc hm
        refine lv_aload_n hx hb dX8_lose_31 rfl (lv_at hl 0 rfl) ?_
        refine lv_iconst (v := -1) hx hb dX8_lose_32 (by decide) ?_
        refine gPut (ws' := (W_x_lose g h0 h1 h2 h3 h4 h5 h6 h7 h8 h9 h10 h11 h12 h13 h14 h15 h16 h17 h18 h19 h20 v_toldIsStale v_latestFinding v_sheets0_form v_sheets0_size v_sheets1_form v_sheets1_size v_sheets2_form v_sheets2_size (-1 : Int32) v_sheets3_size)) C0 hw fpX8_158 4 rfl rfl rfl (Nat.le_of_ble_eq_true rfl) rfl dX8_lose_33 (fun H locs hw => ?_)
        refine lv_aload_n hx hb dX8_lose_36 rfl (lv_at hl 0 rfl) ?_
        refine gGet C0 hw flX8_165 4 rfl rfl dX8_lose_37 ?_
        have hm := Option.some.inj hm
        subst hm
        exact gRetI C0 hw dX8_lose_40
      · have hm := ipos hc hm
        refine lv_aload_n hx hb dX8_lose_25 rfl (lv_at hl 1 rfl) ?_
        refine lv_iconst (v := 1) hx hb dX8_lose_26 (by decide) ?_
        obtain ⟨o27, ho27, hm⟩ := bindE hm
        refine gCalli (ws' := (W_x_lose g h0 h1 h2 h3 h4 h5 h6 h7 h8 h9 h10 h11 h12 h13 h14 h15 h16 h17 h18 h19 h20 v_toldIsStale o27.2 v_sheets0_form v_sheets0_size v_sheets1_form v_sheets1_size v_sheets2_form v_sheets2_size v_sheets3_form v_sheets3_size)) C0 hw (gRunV (As := [.int (1 : Int32)]) (rest := []) C0 hw lkX8_161 (c_x_found l g H.size h0 h6 h7 h8 h9 h10 h11 h12 h13 h5 h14 h15 h16 v_toldIsStale v_latestFinding (1 : Int32) o27 ho27) ⟨rfl, rfl⟩ ⟨Nat.le_of_ble_eq_true rfl, Nat.le_of_ble_eq_true rfl⟩ [0] (by decide) rfl 0 rfl rfl rfl hl.1 rfl (Nat.le_of_ble_eq_true rfl) dX8_lose_27) [0] [1, 2, 3, 4, 5] rfl rfl ⟨rfl, rfl, rfl, rfl, rfl, trivial⟩ [h0, h1, h2, h3, h4, h5] rfl rfl 6 rfl (by decide +kernel) (fun H locs hw => ?_)
        have hm := Option.some.inj hm
        subst hm
        exact gRetI C0 hw dX8_lose_30
    have hm := ineg hs3 hm
    cases hm
  · have hm := ipos hc hm
    refine lv_bipush (v := -2) hx hb dX8_lose_7 (by decide) ?_
    have hm := Option.some.inj hm
    subst hm
    exact gRetI C0 hw dX8_lose_9

-- WallHands.put(IIII)I
abbrev W_x_put (g : gG) (h0 h1 h2 h3 h4 h5 h6 h7 h8 h9 h10 h11 h12 h13 h14 h15 h16 h17 h18 h19 h20 : Nat) (v_toldIsStale : Int32) (v_latestFinding : Int32) (v_sheets0_form : Int32) (v_sheets0_size : Int32) (v_sheets0_items : Nat → Int32) (v_sheets1_form : Int32) (v_sheets1_size : Int32) (v_sheets1_items : Nat → Int32) (v_sheets2_form : Int32) (v_sheets2_size : Int32) (v_sheets2_items : Nat → Int32) (v_sheets3_form : Int32) (v_sheets3_size : Int32) (v_sheets3_items : Nat → Int32) : va_W := [(h0, .inr (8, [.ref h10, .ref h11, .ref h12, .ref h13, .ref h14, .ref h15, .ref h16, .ref h17, .ref h9, .ref h18, .ref h19, .ref h20, .int v_toldIsStale, .int v_latestFinding])), (h1, .inr (3, [.ref h2, .int v_sheets0_form, .int v_sheets0_size])), (h2, .inl (gI g, 60, .inl v_sheets0_items)), (h3, .inr (3, [.ref h4, .int v_sheets1_form, .int v_sheets1_size])), (h4, .inl (gI g, 60, .inl v_sheets1_items)), (h5, .inr (3, [.ref h6, .int v_sheets2_form, .int v_sheets2_size])), (h6, .inl (gI g, 60, .inl v_sheets2_items)), (h7, .inr (3, [.ref h8, .int v_sheets3_form, .int v_sheets3_size])), (h8, .inl (gI g, 60, .inl v_sheets3_items)), (h9, .inl (gL g, 4, .inr (.inr (.inr (.inr (g4 h1 h3 h5 h7))))))]

abbrev rm_x_put : Room := { frames := 2, cells := 0, slots := 0, locals := 44 }

set_option maxHeartbeats 1000000 in
set_option maxRecDepth 100000 in
theorem c_x_put (l : Launch) (g : gG) (sz : Nat) (h0 h1 h2 h3 h4 h5 h6 h7 h8 h9 h10 h11 h12 h13 h14 h15 h16 h17 h18 h19 h20 : Nat) (v_toldIsStale : Int32) (v_latestFinding : Int32) (v_sheets0_form : Int32) (v_sheets0_size : Int32) (v_sheets0_items : Nat → Int32) (v_sheets1_form : Int32) (v_sheets1_size : Int32) (v_sheets1_items : Nat → Int32) (v_sheets2_form : Int32) (v_sheets2_size : Int32) (v_sheets2_items : Nat → Int32) (v_sheets3_form : Int32) (v_sheets3_size : Int32) (v_sheets3_items : Nat → Int32) (a0 : Int32) (a1 : Int32) (a2 : Int32) (a3 : Int32) (r : (Int32 × Int32 × (Nat → Int32) × (Nat → Int32) × (Nat → Int32) × (Nat → Int32))) (hm : f_x_put v_latestFinding v_sheets0_form v_sheets0_size v_sheets0_items v_sheets1_form v_sheets1_size v_sheets1_items v_sheets2_form v_sheets2_size v_sheets2_items v_sheets3_form v_sheets3_size v_sheets3_items a0 a1 a2 a3 = some r) : gMi l yX8_put cX8_put 6 (some .int) rm_x_put g sz [.ref h0, .int a0, .int a1, .int a2, .int a3] (W_x_put g h0 h1 h2 h3 h4 h5 h6 h7 h8 h9 h10 h11 h12 h13 h14 h15 h16 h17 h18 h19 h20 v_toldIsStale v_latestFinding v_sheets0_form v_sheets0_size v_sheets0_items v_sheets1_form v_sheets1_size v_sheets1_items v_sheets2_form v_sheets2_size v_sheets2_items v_sheets3_form v_sheets3_size v_sheets3_items) r.1 (W_x_put g h0 h1 h2 h3 h4 h5 h6 h7 h8 h9 h10 h11 h12 h13 h14 h15 h16 h17 h18 h19 h20 v_toldIsStale r.2.1 v_sheets0_form v_sheets0_size r.2.2.1 v_sheets1_form v_sheets1_size r.2.2.2.1 v_sheets2_form v_sheets2_size r.2.2.2.2.1 v_sheets3_form v_sheets3_size r.2.2.2.2.2) := by
  unfold f_x_put at hm
  refine gEnterI (by decide) (Nat.le_of_ble_eq_true rfl) (fun p e s m below meth c A C0 H locs hw ls hl => ?_)
  obtain ⟨hx, hb, hr, hml, hown, hts, hlocks, hK, hA⟩ := id C0
  have C0 : gX p s m [.ref h0, .int a0, .int a1, .int a2, .int a3].toArray meth c cX8_put 6 (some .int) RX8 g A := C0
  have hl : lv_has ls 6 [(0, .ref h0), (1, .int a0), (2, .int a1), (3, .int a2), (4, .int a3)] := hl
  refine lv_iload_n hx hb dX8_put_0 rfl (lv_at hl 1 rfl) ?_
  obtain ⟨o1, ho1, hm⟩ := bindE hm
  refine gCalli (ws' := (W_x_put g h0 h1 h2 h3 h4 h5 h6 h7 h8 h9 h10 h11 h12 h13 h14 h15 h16 h17 h18 h19 h20 v_toldIsStale v_latestFinding v_sheets0_form v_sheets0_size v_sheets0_items v_sheets1_form v_sheets1_size v_sheets1_items v_sheets2_form v_sheets2_size v_sheets2_items v_sheets3_form v_sheets3_size v_sheets3_items)) C0 hw (gRunS (As := [.int a0]) (rest := []) C0 hw lkX8_155 (c_x_isSheet l g H.size  a0 o1 ho1) ⟨rfl, rfl⟩ ⟨Nat.le_of_ble_eq_true rfl, Nat.le_of_ble_eq_true rfl⟩ [] (by decide) rfl rfl hl.1 rfl (Nat.le_of_ble_eq_true rfl) dX8_put_1) [] [0, 1, 2, 3, 4, 5, 6, 7, 8, 9] rfl rfl ⟨rfl, rfl, rfl, rfl, rfl, rfl, rfl, rfl, rfl, rfl, trivial⟩ [h0, h1, h2, h3, h4, h5, h6, h7, h8, h9] rfl rfl 10 rfl (by decide +kernel) (fun H locs hw => ?_)
  refine lv_if_eq (tgt := 14) hx hb dX8_put_4 (by decide) (fun hc => ?_) (fun hc => ?_)
  · have hm := ipos hc hm
    refine lv_bipush (v := -2) hx hb dX8_put_14 (by decide) ?_
    have hm := Option.some.inj hm
    subst hm
    exact gRetI C0 hw dX8_put_16
  · have hm := ineg hc hm
    refine lv_iload_n hx hb dX8_put_7 rfl (lv_at hl 2 rfl) ?_
    obtain ⟨o8, ho8, hm⟩ := bindE hm
    refine gCalli (ws' := (W_x_put g h0 h1 h2 h3 h4 h5 h6 h7 h8 h9 h10 h11 h12 h13 h14 h15 h16 h17 h18 h19 h20 v_toldIsStale v_latestFinding v_sheets0_form v_sheets0_size v_sheets0_items v_sheets1_form v_sheets1_size v_sheets1_items v_sheets2_form v_sheets2_size v_sheets2_items v_sheets3_form v_sheets3_size v_sheets3_items)) C0 hw (gRunS (As := [.int a1]) (rest := []) C0 hw lkX8_259 (c_x_isForm l g H.size  a1 o8 ho8) ⟨rfl, rfl⟩ ⟨Nat.le_of_ble_eq_true rfl, Nat.le_of_ble_eq_true rfl⟩ [] (by decide) rfl rfl hl.1 rfl (Nat.le_of_ble_eq_true rfl) dX8_put_8) [] [0, 1, 2, 3, 4, 5, 6, 7, 8, 9] rfl rfl ⟨rfl, rfl, rfl, rfl, rfl, rfl, rfl, rfl, rfl, rfl, trivial⟩ [h0, h1, h2, h3, h4, h5, h6, h7, h8, h9] rfl rfl 10 rfl (by decide +kernel) (fun H locs hw => ?_)
    refine lv_if_ne (tgt := 17) hx hb dX8_put_11 (by decide) (fun hc => ?_) (fun hc => ?_)
    · have hm := ineg hc hm
      refine lv_aload_n hx hb dX8_put_17 rfl (lv_at hl 0 rfl) ?_
      refine gGet C0 hw flX8_61 0 rfl rfl dX8_put_18 ?_
      refine lv_iload_n hx hb dX8_put_21 rfl (lv_at hl 1 rfl) ?_
      by_cases hs0 : a0 = (0 : Int32)
      · have hm := ipos hs0 hm
        refine gAldL C0 hw 9 rfl hs0 (inbE (by decide)) rfl dX8_put_22 ?_
        refine lv_iload_n hx hb dX8_put_23 rfl (lv_at hl 2 rfl) ?_
        refine lv_iload_n hx hb dX8_put_24 rfl (lv_at hl 3 rfl) ?_
        obtain ⟨o25, ho25, hm⟩ := bindE hm
        refine gCalli (ws' := (W_x_put g h0 h1 h2 h3 h4 h5 h6 h7 h8 h9 h10 h11 h12 h13 h14 h15 h16 h17 h18 h19 h20 v_toldIsStale v_latestFinding v_sheets0_form v_sheets0_size v_sheets0_items v_sheets1_form v_sheets1_size v_sheets1_items v_sheets2_form v_sheets2_size v_sheets2_items v_sheets3_form v_sheets3_size v_sheets3_items)) C0 hw (gRunV (As := [.int a1, .int a2]) (rest := []) C0 hw lkX8_267 (c_sh_findingAt l g H.size h1 h2 v_sheets0_form v_sheets0_size a1 a2 o25 ho25) ⟨rfl, rfl⟩ ⟨Nat.le_of_ble_eq_true rfl, Nat.le_of_ble_eq_true rfl⟩ [1] (by decide) rfl 1 rfl rfl rfl hl.1 rfl (Nat.le_of_ble_eq_true rfl) dX8_put_25) [1] [0, 2, 3, 4, 5, 6, 7, 8, 9] rfl rfl ⟨rfl, rfl, rfl, rfl, rfl, rfl, rfl, rfl, rfl, trivial⟩ [h0, h1, h2, h3, h4, h5, h6, h7, h8, h9] rfl rfl 10 rfl (by decide +kernel) (fun H locs hw => ?_)
        refine lv_istore (lv' := [(5, .int o25), (0, .ref h0), (1, .int a0), (2, .int a1), (3, .int a2), (4, .int a3)]) hx hb dX8_put_28 hl (by decide) rfl (fun ls hl => ?_)
        refine lv_iload hx hb dX8_put_30 (lv_at hl 0 rfl) ?_
        refine lv_if_eq (tgt := 42) hx hb dX8_put_32 (by decide) (fun hc => ?_) (fun hc => ?_)
        · have hm := ipos hc hm
          refine lv_aload_n hx hb dX8_put_42 rfl (lv_at hl 1 rfl) ?_
          refine gGet C0 hw flX8_61 0 rfl rfl dX8_put_43 ?_
          refine lv_iload_n hx hb dX8_put_46 rfl (lv_at hl 2 rfl) ?_
          by_cases hs0 : a0 = (0 : Int32)
          · have hm := ipos hs0 hm
            refine gAldL C0 hw 9 rfl hs0 (inbE (by decide)) rfl dX8_put_47 ?_
            refine gGet C0 hw flX8_168 1 rfl rfl dX8_put_48 ?_
            refine lv_iload_n hx hb dX8_put_51 rfl (lv_at hl 4 rfl) ?_
            refine lv_iload_n hx hb dX8_put_52 rfl (lv_at hl 3 rfl) ?_
            refine lv_if_ne (tgt := 62) hx hb dX8_put_53 (by decide) (fun hc => ?_) (fun hc => ?_)
            · have hm := ineg hc hm
              refine lv_iload_n hx hb dX8_put_62 rfl (lv_at hl 3 rfl) ?_
              refine lv_iconst (v := 1) hx hb dX8_put_63 (by decide) ?_
              refine lv_icmp_ne (tgt := 73) hx hb dX8_put_64 (by decide) (fun hc => ?_) (fun hc => ?_)
              · have hm := ineg hc hm
                refine lv_iload hx hb dX8_put_73 (lv_at hl 5 rfl) ?_
                obtain ⟨hin, hm⟩ := gdE hm
                have hin := inbE hin
                refine gAstI (ws' := (W_x_put g h0 h1 h2 h3 h4 h5 h6 h7 h8 h9 h10 h11 h12 h13 h14 h15 h16 h17 h18 h19 h20 v_toldIsStale v_latestFinding v_sheets0_form v_sheets0_size (upd v_sheets0_items a2.toNatClampNeg a3) v_sheets1_form v_sheets1_size v_sheets1_items v_sheets2_form v_sheets2_size v_sheets2_items v_sheets3_form v_sheets3_size v_sheets3_items)) C0 hw 2 rfl hin rfl dX8_put_75 (fun H locs hw => ?_)
                refine lv_iconst (v := 1) hx hb dX8_put_76 (by decide) ?_
                have hm := Option.some.inj hm
                subst hm
                exact gRetI C0 hw dX8_put_77
              · have hm := ipos hc hm
                refine lv_iload hx hb dX8_put_67 (lv_at hl 5 rfl) ?_
                refine lv_i2s (v := a3.toInt16.toInt32) hx hb dX8_put_69 rfl ?_
                refine lv_goto (tgt := 75) hx hb dX8_put_70 (by decide) ?_
                obtain ⟨hin, hm⟩ := gdE hm
                have hin := inbE hin
                refine gAstI (ws' := (W_x_put g h0 h1 h2 h3 h4 h5 h6 h7 h8 h9 h10 h11 h12 h13 h14 h15 h16 h17 h18 h19 h20 v_toldIsStale v_latestFinding v_sheets0_form v_sheets0_size (upd v_sheets0_items a2.toNatClampNeg a3.toInt16.toInt32) v_sheets1_form v_sheets1_size v_sheets1_items v_sheets2_form v_sheets2_size v_sheets2_items v_sheets3_form v_sheets3_size v_sheets3_items)) C0 hw 2 rfl hin rfl dX8_put_75 (fun H locs hw => ?_)
                refine lv_iconst (v := 1) hx hb dX8_put_76 (by decide) ?_
                have hm := Option.some.inj hm
                subst hm
                exact gRetI C0 hw dX8_put_77
            · have hm := ipos hc hm
              refine lv_iload hx hb dX8_put_56 (lv_at hl 5 rfl) ?_
              refine lv_i2b (v := a3.toInt8.toInt32) hx hb dX8_put_58 rfl ?_
              refine lv_goto (tgt := 75) hx hb dX8_put_59 (by decide) ?_
              obtain ⟨hin, hm⟩ := gdE hm
              have hin := inbE hin
              refine gAstI (ws' := (W_x_put g h0 h1 h2 h3 h4 h5 h6 h7 h8 h9 h10 h11 h12 h13 h14 h15 h16 h17 h18 h19 h20 v_toldIsStale v_latestFinding v_sheets0_form v_sheets0_size (upd v_sheets0_items a2.toNatClampNeg a3.toInt8.toInt32) v_sheets1_form v_sheets1_size v_sheets1_items v_sheets2_form v_sheets2_size v_sheets2_items v_sheets3_form v_sheets3_size v_sheets3_items)) C0 hw 2 rfl hin rfl dX8_put_75 (fun H locs hw => ?_)
              refine lv_iconst (v := 1) hx hb dX8_put_76 (by decide) ?_
              have hm := Option.some.inj hm
              subst hm
              exact gRetI C0 hw dX8_put_77
          have hm := ineg hs0 hm
          by_cases hs1 : a0 = (1 : Int32)
          · have hm := ipos hs1 hm
            refine gAldL C0 hw 9 rfl hs1 (inbE (by decide)) rfl dX8_put_47 ?_
            refine gGet C0 hw flX8_168 3 rfl rfl dX8_put_48 ?_
            refine lv_iload_n hx hb dX8_put_51 rfl (lv_at hl 4 rfl) ?_
            refine lv_iload_n hx hb dX8_put_52 rfl (lv_at hl 3 rfl) ?_
            refine lv_if_ne (tgt := 62) hx hb dX8_put_53 (by decide) (fun hc => ?_) (fun hc => ?_)
            · have hm := ineg hc hm
              refine lv_iload_n hx hb dX8_put_62 rfl (lv_at hl 3 rfl) ?_
              refine lv_iconst (v := 1) hx hb dX8_put_63 (by decide) ?_
              refine lv_icmp_ne (tgt := 73) hx hb dX8_put_64 (by decide) (fun hc => ?_) (fun hc => ?_)
              · have hm := ineg hc hm
                refine lv_iload hx hb dX8_put_73 (lv_at hl 5 rfl) ?_
                obtain ⟨hin, hm⟩ := gdE hm
                have hin := inbE hin
                refine gAstI (ws' := (W_x_put g h0 h1 h2 h3 h4 h5 h6 h7 h8 h9 h10 h11 h12 h13 h14 h15 h16 h17 h18 h19 h20 v_toldIsStale v_latestFinding v_sheets0_form v_sheets0_size v_sheets0_items v_sheets1_form v_sheets1_size (upd v_sheets1_items a2.toNatClampNeg a3) v_sheets2_form v_sheets2_size v_sheets2_items v_sheets3_form v_sheets3_size v_sheets3_items)) C0 hw 4 rfl hin rfl dX8_put_75 (fun H locs hw => ?_)
                refine lv_iconst (v := 1) hx hb dX8_put_76 (by decide) ?_
                have hm := Option.some.inj hm
                subst hm
                exact gRetI C0 hw dX8_put_77
              · have hm := ipos hc hm
                refine lv_iload hx hb dX8_put_67 (lv_at hl 5 rfl) ?_
                refine lv_i2s (v := a3.toInt16.toInt32) hx hb dX8_put_69 rfl ?_
                refine lv_goto (tgt := 75) hx hb dX8_put_70 (by decide) ?_
                obtain ⟨hin, hm⟩ := gdE hm
                have hin := inbE hin
                refine gAstI (ws' := (W_x_put g h0 h1 h2 h3 h4 h5 h6 h7 h8 h9 h10 h11 h12 h13 h14 h15 h16 h17 h18 h19 h20 v_toldIsStale v_latestFinding v_sheets0_form v_sheets0_size v_sheets0_items v_sheets1_form v_sheets1_size (upd v_sheets1_items a2.toNatClampNeg a3.toInt16.toInt32) v_sheets2_form v_sheets2_size v_sheets2_items v_sheets3_form v_sheets3_size v_sheets3_items)) C0 hw 4 rfl hin rfl dX8_put_75 (fun H locs hw => ?_)
                refine lv_iconst (v := 1) hx hb dX8_put_76 (by decide) ?_
                have hm := Option.some.inj hm
                subst hm
                exact gRetI C0 hw dX8_put_77
            · have hm := ipos hc hm
              refine lv_iload hx hb dX8_put_56 (lv_at hl 5 rfl) ?_
              refine lv_i2b (v := a3.toInt8.toInt32) hx hb dX8_put_58 rfl ?_
              refine lv_goto (tgt := 75) hx hb dX8_put_59 (by decide) ?_
              obtain ⟨hin, hm⟩ := gdE hm
              have hin := inbE hin
              refine gAstI (ws' := (W_x_put g h0 h1 h2 h3 h4 h5 h6 h7 h8 h9 h10 h11 h12 h13 h14 h15 h16 h17 h18 h19 h20 v_toldIsStale v_latestFinding v_sheets0_form v_sheets0_size v_sheets0_items v_sheets1_form v_sheets1_size (upd v_sheets1_items a2.toNatClampNeg a3.toInt8.toInt32) v_sheets2_form v_sheets2_size v_sheets2_items v_sheets3_form v_sheets3_size v_sheets3_items)) C0 hw 4 rfl hin rfl dX8_put_75 (fun H locs hw => ?_)
              refine lv_iconst (v := 1) hx hb dX8_put_76 (by decide) ?_
              have hm := Option.some.inj hm
              subst hm
              exact gRetI C0 hw dX8_put_77
          have hm := ineg hs1 hm
          by_cases hs2 : a0 = (2 : Int32)
          · have hm := ipos hs2 hm
            refine gAldL C0 hw 9 rfl hs2 (inbE (by decide)) rfl dX8_put_47 ?_
            refine gGet C0 hw flX8_168 5 rfl rfl dX8_put_48 ?_
            refine lv_iload_n hx hb dX8_put_51 rfl (lv_at hl 4 rfl) ?_
            refine lv_iload_n hx hb dX8_put_52 rfl (lv_at hl 3 rfl) ?_
            refine lv_if_ne (tgt := 62) hx hb dX8_put_53 (by decide) (fun hc => ?_) (fun hc => ?_)
            · have hm := ineg hc hm
              refine lv_iload_n hx hb dX8_put_62 rfl (lv_at hl 3 rfl) ?_
              refine lv_iconst (v := 1) hx hb dX8_put_63 (by decide) ?_
              refine lv_icmp_ne (tgt := 73) hx hb dX8_put_64 (by decide) (fun hc => ?_) (fun hc => ?_)
              · have hm := ineg hc hm
                refine lv_iload hx hb dX8_put_73 (lv_at hl 5 rfl) ?_
                obtain ⟨hin, hm⟩ := gdE hm
                have hin := inbE hin
                refine gAstI (ws' := (W_x_put g h0 h1 h2 h3 h4 h5 h6 h7 h8 h9 h10 h11 h12 h13 h14 h15 h16 h17 h18 h19 h20 v_toldIsStale v_latestFinding v_sheets0_form v_sheets0_size v_sheets0_items v_sheets1_form v_sheets1_size v_sheets1_items v_sheets2_form v_sheets2_size (upd v_sheets2_items a2.toNatClampNeg a3) v_sheets3_form v_sheets3_size v_sheets3_items)) C0 hw 6 rfl hin rfl dX8_put_75 (fun H locs hw => ?_)
                refine lv_iconst (v := 1) hx hb dX8_put_76 (by decide) ?_
                have hm := Option.some.inj hm
                subst hm
                exact gRetI C0 hw dX8_put_77
              · have hm := ipos hc hm
                refine lv_iload hx hb dX8_put_67 (lv_at hl 5 rfl) ?_
                refine lv_i2s (v := a3.toInt16.toInt32) hx hb dX8_put_69 rfl ?_
                refine lv_goto (tgt := 75) hx hb dX8_put_70 (by decide) ?_
                obtain ⟨hin, hm⟩ := gdE hm
                have hin := inbE hin
                refine gAstI (ws' := (W_x_put g h0 h1 h2 h3 h4 h5 h6 h7 h8 h9 h10 h11 h12 h13 h14 h15 h16 h17 h18 h19 h20 v_toldIsStale v_latestFinding v_sheets0_form v_sheets0_size v_sheets0_items v_sheets1_form v_sheets1_size v_sheets1_items v_sheets2_form v_sheets2_size (upd v_sheets2_items a2.toNatClampNeg a3.toInt16.toInt32) v_sheets3_form v_sheets3_size v_sheets3_items)) C0 hw 6 rfl hin rfl dX8_put_75 (fun H locs hw => ?_)
                refine lv_iconst (v := 1) hx hb dX8_put_76 (by decide) ?_
                have hm := Option.some.inj hm
                subst hm
                exact gRetI C0 hw dX8_put_77
            · have hm := ipos hc hm
              refine lv_iload hx hb dX8_put_56 (lv_at hl 5 rfl) ?_
              refine lv_i2b (v := a3.toInt8.toInt32) hx hb dX8_put_58 rfl ?_
              refine lv_goto (tgt := 75) hx hb dX8_put_59 (by decide) ?_
              obtain ⟨hin, hm⟩ := gdE hm
              have hin := inbE hin
              refine gAstI (ws' := (W_x_put g h0 h1 h2 h3 h4 h5 h6 h7 h8 h9 h10 h11 h12 h13 h14 h15 h16 h17 h18 h19 h20 v_toldIsStale v_latestFinding v_sheets0_form v_sheets0_size v_sheets0_items v_sheets1_form v_sheets1_size v_sheets1_items v_sheets2_form v_sheets2_size (upd v_sheets2_items a2.toNatClampNeg a3.toInt8.toInt32) v_sheets3_form v_sheets3_size v_sheets3_items)) C0 hw 6 rfl hin rfl dX8_put_75 (fun H locs hw => ?_)
              refine lv_iconst (v := 1) hx hb dX8_put_76 (by decide) ?_
              have hm := Option.some.inj hm
              subst hm
              exact gRetI C0 hw dX8_put_77
          have hm := ineg hs2 hm
          by_cases hs3 : a0 = (3 : Int32)
          · have hm := ipos hs3 hm
            refine gAldL C0 hw 9 rfl hs3 (inbE (by decide)) rfl dX8_put_47 ?_
            refine gGet C0 hw flX8_168 7 rfl rfl dX8_put_48 ?_
            refine lv_iload_n hx hb dX8_put_51 rfl (lv_at hl 4 rfl) ?_
            refine lv_iload_n hx hb dX8_put_52 rfl (lv_at hl 3 rfl) ?_
            refine lv_if_ne (tgt := 62) hx hb dX8_put_53 (by decide) (fun hc => ?_) (fun hc => ?_)
            · have hm := ineg hc hm
              refine lv_iload_n hx hb dX8_put_62 rfl (lv_at hl 3 rfl) ?_
              refine lv_iconst (v := 1) hx hb dX8_put_63 (by decide) ?_
              refine lv_icmp_ne (tgt := 73) hx hb dX8_put_64 (by decide) (fun hc => ?_) (fun hc => ?_)
              · have hm := ineg hc hm
                refine lv_iload hx hb dX8_put_73 (lv_at hl 5 rfl) ?_
                obtain ⟨hin, hm⟩ := gdE hm
                have hin := inbE hin
                refine gAstI (ws' := (W_x_put g h0 h1 h2 h3 h4 h5 h6 h7 h8 h9 h10 h11 h12 h13 h14 h15 h16 h17 h18 h19 h20 v_toldIsStale v_latestFinding v_sheets0_form v_sheets0_size v_sheets0_items v_sheets1_form v_sheets1_size v_sheets1_items v_sheets2_form v_sheets2_size v_sheets2_items v_sheets3_form v_sheets3_size (upd v_sheets3_items a2.toNatClampNeg a3))) C0 hw 8 rfl hin rfl dX8_put_75 (fun H locs hw => ?_)
                refine lv_iconst (v := 1) hx hb dX8_put_76 (by decide) ?_
                have hm := Option.some.inj hm
                subst hm
                exact gRetI C0 hw dX8_put_77
              · have hm := ipos hc hm
                refine lv_iload hx hb dX8_put_67 (lv_at hl 5 rfl) ?_
                refine lv_i2s (v := a3.toInt16.toInt32) hx hb dX8_put_69 rfl ?_
                refine lv_goto (tgt := 75) hx hb dX8_put_70 (by decide) ?_
                obtain ⟨hin, hm⟩ := gdE hm
                have hin := inbE hin
                refine gAstI (ws' := (W_x_put g h0 h1 h2 h3 h4 h5 h6 h7 h8 h9 h10 h11 h12 h13 h14 h15 h16 h17 h18 h19 h20 v_toldIsStale v_latestFinding v_sheets0_form v_sheets0_size v_sheets0_items v_sheets1_form v_sheets1_size v_sheets1_items v_sheets2_form v_sheets2_size v_sheets2_items v_sheets3_form v_sheets3_size (upd v_sheets3_items a2.toNatClampNeg a3.toInt16.toInt32))) C0 hw 8 rfl hin rfl dX8_put_75 (fun H locs hw => ?_)
                refine lv_iconst (v := 1) hx hb dX8_put_76 (by decide) ?_
                have hm := Option.some.inj hm
                subst hm
                exact gRetI C0 hw dX8_put_77
            · have hm := ipos hc hm
              refine lv_iload hx hb dX8_put_56 (lv_at hl 5 rfl) ?_
              refine lv_i2b (v := a3.toInt8.toInt32) hx hb dX8_put_58 rfl ?_
              refine lv_goto (tgt := 75) hx hb dX8_put_59 (by decide) ?_
              obtain ⟨hin, hm⟩ := gdE hm
              have hin := inbE hin
              refine gAstI (ws' := (W_x_put g h0 h1 h2 h3 h4 h5 h6 h7 h8 h9 h10 h11 h12 h13 h14 h15 h16 h17 h18 h19 h20 v_toldIsStale v_latestFinding v_sheets0_form v_sheets0_size v_sheets0_items v_sheets1_form v_sheets1_size v_sheets1_items v_sheets2_form v_sheets2_size v_sheets2_items v_sheets3_form v_sheets3_size (upd v_sheets3_items a2.toNatClampNeg a3.toInt8.toInt32))) C0 hw 8 rfl hin rfl dX8_put_75 (fun H locs hw => ?_)
              refine lv_iconst (v := 1) hx hb dX8_put_76 (by decide) ?_
              have hm := Option.some.inj hm
              subst hm
              exact gRetI C0 hw dX8_put_77
          have hm := ineg hs3 hm
          cases hm
        · have hm := ineg hc hm
          refine lv_aload_n hx hb dX8_put_35 rfl (lv_at hl 1 rfl) ?_
          refine lv_iload hx hb dX8_put_36 (lv_at hl 0 rfl) ?_
          obtain ⟨o38, ho38, hm⟩ := bindE hm
          refine gCalli (ws' := (W_x_put g h0 h1 h2 h3 h4 h5 h6 h7 h8 h9 h10 h11 h12 h13 h14 h15 h16 h17 h18 h19 h20 v_toldIsStale o38.2 v_sheets0_form v_sheets0_size v_sheets0_items v_sheets1_form v_sheets1_size v_sheets1_items v_sheets2_form v_sheets2_size v_sheets2_items v_sheets3_form v_sheets3_size v_sheets3_items)) C0 hw (gRunV (As := [.int o25]) (rest := []) C0 hw lkX8_161 (c_x_found l g H.size h0 h10 h11 h12 h13 h14 h15 h16 h17 h9 h18 h19 h20 v_toldIsStale v_latestFinding o25 o38 ho38) ⟨rfl, rfl⟩ ⟨Nat.le_of_ble_eq_true rfl, Nat.le_of_ble_eq_true rfl⟩ [0] (by decide) rfl 0 rfl rfl rfl hl.1 rfl (Nat.le_of_ble_eq_true rfl) dX8_put_38) [0] [1, 2, 3, 4, 5, 6, 7, 8, 9] rfl rfl ⟨rfl, rfl, rfl, rfl, rfl, rfl, rfl, rfl, rfl, trivial⟩ [h0, h1, h2, h3, h4, h5, h6, h7, h8, h9] rfl rfl 10 rfl (by decide +kernel) (fun H locs hw => ?_)
          have hm := Option.some.inj hm
          subst hm
          exact gRetI C0 hw dX8_put_41
      have hm := ineg hs0 hm
      by_cases hs1 : a0 = (1 : Int32)
      · have hm := ipos hs1 hm
        refine gAldL C0 hw 9 rfl hs1 (inbE (by decide)) rfl dX8_put_22 ?_
        refine lv_iload_n hx hb dX8_put_23 rfl (lv_at hl 2 rfl) ?_
        refine lv_iload_n hx hb dX8_put_24 rfl (lv_at hl 3 rfl) ?_
        obtain ⟨o25, ho25, hm⟩ := bindE hm
        refine gCalli (ws' := (W_x_put g h0 h1 h2 h3 h4 h5 h6 h7 h8 h9 h10 h11 h12 h13 h14 h15 h16 h17 h18 h19 h20 v_toldIsStale v_latestFinding v_sheets0_form v_sheets0_size v_sheets0_items v_sheets1_form v_sheets1_size v_sheets1_items v_sheets2_form v_sheets2_size v_sheets2_items v_sheets3_form v_sheets3_size v_sheets3_items)) C0 hw (gRunV (As := [.int a1, .int a2]) (rest := []) C0 hw lkX8_267 (c_sh_findingAt l g H.size h3 h4 v_sheets1_form v_sheets1_size a1 a2 o25 ho25) ⟨rfl, rfl⟩ ⟨Nat.le_of_ble_eq_true rfl, Nat.le_of_ble_eq_true rfl⟩ [3] (by decide) rfl 3 rfl rfl rfl hl.1 rfl (Nat.le_of_ble_eq_true rfl) dX8_put_25) [3] [0, 1, 2, 4, 5, 6, 7, 8, 9] rfl rfl ⟨rfl, rfl, rfl, rfl, rfl, rfl, rfl, rfl, rfl, trivial⟩ [h0, h1, h2, h3, h4, h5, h6, h7, h8, h9] rfl rfl 10 rfl (by decide +kernel) (fun H locs hw => ?_)
        refine lv_istore (lv' := [(5, .int o25), (0, .ref h0), (1, .int a0), (2, .int a1), (3, .int a2), (4, .int a3)]) hx hb dX8_put_28 hl (by decide) rfl (fun ls hl => ?_)
        refine lv_iload hx hb dX8_put_30 (lv_at hl 0 rfl) ?_
        refine lv_if_eq (tgt := 42) hx hb dX8_put_32 (by decide) (fun hc => ?_) (fun hc => ?_)
        · have hm := ipos hc hm
          refine lv_aload_n hx hb dX8_put_42 rfl (lv_at hl 1 rfl) ?_
          refine gGet C0 hw flX8_61 0 rfl rfl dX8_put_43 ?_
          refine lv_iload_n hx hb dX8_put_46 rfl (lv_at hl 2 rfl) ?_
          by_cases hs0 : a0 = (0 : Int32)
          · have hm := ipos hs0 hm
            refine gAldL C0 hw 9 rfl hs0 (inbE (by decide)) rfl dX8_put_47 ?_
            refine gGet C0 hw flX8_168 1 rfl rfl dX8_put_48 ?_
            refine lv_iload_n hx hb dX8_put_51 rfl (lv_at hl 4 rfl) ?_
            refine lv_iload_n hx hb dX8_put_52 rfl (lv_at hl 3 rfl) ?_
            refine lv_if_ne (tgt := 62) hx hb dX8_put_53 (by decide) (fun hc => ?_) (fun hc => ?_)
            · have hm := ineg hc hm
              refine lv_iload_n hx hb dX8_put_62 rfl (lv_at hl 3 rfl) ?_
              refine lv_iconst (v := 1) hx hb dX8_put_63 (by decide) ?_
              refine lv_icmp_ne (tgt := 73) hx hb dX8_put_64 (by decide) (fun hc => ?_) (fun hc => ?_)
              · have hm := ineg hc hm
                refine lv_iload hx hb dX8_put_73 (lv_at hl 5 rfl) ?_
                obtain ⟨hin, hm⟩ := gdE hm
                have hin := inbE hin
                refine gAstI (ws' := (W_x_put g h0 h1 h2 h3 h4 h5 h6 h7 h8 h9 h10 h11 h12 h13 h14 h15 h16 h17 h18 h19 h20 v_toldIsStale v_latestFinding v_sheets0_form v_sheets0_size (upd v_sheets0_items a2.toNatClampNeg a3) v_sheets1_form v_sheets1_size v_sheets1_items v_sheets2_form v_sheets2_size v_sheets2_items v_sheets3_form v_sheets3_size v_sheets3_items)) C0 hw 2 rfl hin rfl dX8_put_75 (fun H locs hw => ?_)
                refine lv_iconst (v := 1) hx hb dX8_put_76 (by decide) ?_
                have hm := Option.some.inj hm
                subst hm
                exact gRetI C0 hw dX8_put_77
              · have hm := ipos hc hm
                refine lv_iload hx hb dX8_put_67 (lv_at hl 5 rfl) ?_
                refine lv_i2s (v := a3.toInt16.toInt32) hx hb dX8_put_69 rfl ?_
                refine lv_goto (tgt := 75) hx hb dX8_put_70 (by decide) ?_
                obtain ⟨hin, hm⟩ := gdE hm
                have hin := inbE hin
                refine gAstI (ws' := (W_x_put g h0 h1 h2 h3 h4 h5 h6 h7 h8 h9 h10 h11 h12 h13 h14 h15 h16 h17 h18 h19 h20 v_toldIsStale v_latestFinding v_sheets0_form v_sheets0_size (upd v_sheets0_items a2.toNatClampNeg a3.toInt16.toInt32) v_sheets1_form v_sheets1_size v_sheets1_items v_sheets2_form v_sheets2_size v_sheets2_items v_sheets3_form v_sheets3_size v_sheets3_items)) C0 hw 2 rfl hin rfl dX8_put_75 (fun H locs hw => ?_)
                refine lv_iconst (v := 1) hx hb dX8_put_76 (by decide) ?_
                have hm := Option.some.inj hm
                subst hm
                exact gRetI C0 hw dX8_put_77
            · have hm := ipos hc hm
              refine lv_iload hx hb dX8_put_56 (lv_at hl 5 rfl) ?_
              refine lv_i2b (v := a3.toInt8.toInt32) hx hb dX8_put_58 rfl ?_
              refine lv_goto (tgt := 75) hx hb dX8_put_59 (by decide) ?_
              obtain ⟨hin, hm⟩ := gdE hm
              have hin := inbE hin
              refine gAstI (ws' := (W_x_put g h0 h1 h2 h3 h4 h5 h6 h7 h8 h9 h10 h11 h12 h13 h14 h15 h16 h17 h18 h19 h20 v_toldIsStale v_latestFinding v_sheets0_form v_sheets0_size (upd v_sheets0_items a2.toNatClampNeg a3.toInt8.toInt32) v_sheets1_form v_sheets1_size v_sheets1_items v_sheets2_form v_sheets2_size v_sheets2_items v_sheets3_form v_sheets3_size v_sheets3_items)) C0 hw 2 rfl hin rfl dX8_put_75 (fun H locs hw => ?_)
              refine lv_iconst (v := 1) hx hb dX8_put_76 (by decide) ?_
              have hm := Option.some.inj hm
              subst hm
              exact gRetI C0 hw dX8_put_77
          have hm := ineg hs0 hm
          by_cases hs1 : a0 = (1 : Int32)
          · have hm := ipos hs1 hm
            refine gAldL C0 hw 9 rfl hs1 (inbE (by decide)) rfl dX8_put_47 ?_
            refine gGet C0 hw flX8_168 3 rfl rfl dX8_put_48 ?_
            refine lv_iload_n hx hb dX8_put_51 rfl (lv_at hl 4 rfl) ?_
            refine lv_iload_n hx hb dX8_put_52 rfl (lv_at hl 3 rfl) ?_
            refine lv_if_ne (tgt := 62) hx hb dX8_put_53 (by decide) (fun hc => ?_) (fun hc => ?_)
            · have hm := ineg hc hm
              refine lv_iload_n hx hb dX8_put_62 rfl (lv_at hl 3 rfl) ?_
              refine lv_iconst (v := 1) hx hb dX8_put_63 (by decide) ?_
              refine lv_icmp_ne (tgt := 73) hx hb dX8_put_64 (by decide) (fun hc => ?_) (fun hc => ?_)
              · have hm := ineg hc hm
                refine lv_iload hx hb dX8_put_73 (lv_at hl 5 rfl) ?_
                obtain ⟨hin, hm⟩ := gdE hm
                have hin := inbE hin
                refine gAstI (ws' := (W_x_put g h0 h1 h2 h3 h4 h5 h6 h7 h8 h9 h10 h11 h12 h13 h14 h15 h16 h17 h18 h19 h20 v_toldIsStale v_latestFinding v_sheets0_form v_sheets0_size v_sheets0_items v_sheets1_form v_sheets1_size (upd v_sheets1_items a2.toNatClampNeg a3) v_sheets2_form v_sheets2_size v_sheets2_items v_sheets3_form v_sheets3_size v_sheets3_items)) C0 hw 4 rfl hin rfl dX8_put_75 (fun H locs hw => ?_)
                refine lv_iconst (v := 1) hx hb dX8_put_76 (by decide) ?_
                have hm := Option.some.inj hm
                subst hm
                exact gRetI C0 hw dX8_put_77
              · have hm := ipos hc hm
                refine lv_iload hx hb dX8_put_67 (lv_at hl 5 rfl) ?_
                refine lv_i2s (v := a3.toInt16.toInt32) hx hb dX8_put_69 rfl ?_
                refine lv_goto (tgt := 75) hx hb dX8_put_70 (by decide) ?_
                obtain ⟨hin, hm⟩ := gdE hm
                have hin := inbE hin
                refine gAstI (ws' := (W_x_put g h0 h1 h2 h3 h4 h5 h6 h7 h8 h9 h10 h11 h12 h13 h14 h15 h16 h17 h18 h19 h20 v_toldIsStale v_latestFinding v_sheets0_form v_sheets0_size v_sheets0_items v_sheets1_form v_sheets1_size (upd v_sheets1_items a2.toNatClampNeg a3.toInt16.toInt32) v_sheets2_form v_sheets2_size v_sheets2_items v_sheets3_form v_sheets3_size v_sheets3_items)) C0 hw 4 rfl hin rfl dX8_put_75 (fun H locs hw => ?_)
                refine lv_iconst (v := 1) hx hb dX8_put_76 (by decide) ?_
                have hm := Option.some.inj hm
                subst hm
                exact gRetI C0 hw dX8_put_77
            · have hm := ipos hc hm
              refine lv_iload hx hb dX8_put_56 (lv_at hl 5 rfl) ?_
              refine lv_i2b (v := a3.toInt8.toInt32) hx hb dX8_put_58 rfl ?_
              refine lv_goto (tgt := 75) hx hb dX8_put_59 (by decide) ?_
              obtain ⟨hin, hm⟩ := gdE hm
              have hin := inbE hin
              refine gAstI (ws' := (W_x_put g h0 h1 h2 h3 h4 h5 h6 h7 h8 h9 h10 h11 h12 h13 h14 h15 h16 h17 h18 h19 h20 v_toldIsStale v_latestFinding v_sheets0_form v_sheets0_size v_sheets0_items v_sheets1_form v_sheets1_size (upd v_sheets1_items a2.toNatClampNeg a3.toInt8.toInt32) v_sheets2_form v_sheets2_size v_sheets2_items v_sheets3_form v_sheets3_size v_sheets3_items)) C0 hw 4 rfl hin rfl dX8_put_75 (fun H locs hw => ?_)
              refine lv_iconst (v := 1) hx hb dX8_put_76 (by decide) ?_
              have hm := Option.some.inj hm
              subst hm
              exact gRetI C0 hw dX8_put_77
          have hm := ineg hs1 hm
          by_cases hs2 : a0 = (2 : Int32)
          · have hm := ipos hs2 hm
            refine gAldL C0 hw 9 rfl hs2 (inbE (by decide)) rfl dX8_put_47 ?_
            refine gGet C0 hw flX8_168 5 rfl rfl dX8_put_48 ?_
            refine lv_iload_n hx hb dX8_put_51 rfl (lv_at hl 4 rfl) ?_
            refine lv_iload_n hx hb dX8_put_52 rfl (lv_at hl 3 rfl) ?_
            refine lv_if_ne (tgt := 62) hx hb dX8_put_53 (by decide) (fun hc => ?_) (fun hc => ?_)
            · have hm := ineg hc hm
              refine lv_iload_n hx hb dX8_put_62 rfl (lv_at hl 3 rfl) ?_
              refine lv_iconst (v := 1) hx hb dX8_put_63 (by decide) ?_
              refine lv_icmp_ne (tgt := 73) hx hb dX8_put_64 (by decide) (fun hc => ?_) (fun hc => ?_)
              · have hm := ineg hc hm
                refine lv_iload hx hb dX8_put_73 (lv_at hl 5 rfl) ?_
                obtain ⟨hin, hm⟩ := gdE hm
                have hin := inbE hin
                refine gAstI (ws' := (W_x_put g h0 h1 h2 h3 h4 h5 h6 h7 h8 h9 h10 h11 h12 h13 h14 h15 h16 h17 h18 h19 h20 v_toldIsStale v_latestFinding v_sheets0_form v_sheets0_size v_sheets0_items v_sheets1_form v_sheets1_size v_sheets1_items v_sheets2_form v_sheets2_size (upd v_sheets2_items a2.toNatClampNeg a3) v_sheets3_form v_sheets3_size v_sheets3_items)) C0 hw 6 rfl hin rfl dX8_put_75 (fun H locs hw => ?_)
                refine lv_iconst (v := 1) hx hb dX8_put_76 (by decide) ?_
                have hm := Option.some.inj hm
                subst hm
                exact gRetI C0 hw dX8_put_77
              · have hm := ipos hc hm
                refine lv_iload hx hb dX8_put_67 (lv_at hl 5 rfl) ?_
                refine lv_i2s (v := a3.toInt16.toInt32) hx hb dX8_put_69 rfl ?_
                refine lv_goto (tgt := 75) hx hb dX8_put_70 (by decide) ?_
                obtain ⟨hin, hm⟩ := gdE hm
                have hin := inbE hin
                refine gAstI (ws' := (W_x_put g h0 h1 h2 h3 h4 h5 h6 h7 h8 h9 h10 h11 h12 h13 h14 h15 h16 h17 h18 h19 h20 v_toldIsStale v_latestFinding v_sheets0_form v_sheets0_size v_sheets0_items v_sheets1_form v_sheets1_size v_sheets1_items v_sheets2_form v_sheets2_size (upd v_sheets2_items a2.toNatClampNeg a3.toInt16.toInt32) v_sheets3_form v_sheets3_size v_sheets3_items)) C0 hw 6 rfl hin rfl dX8_put_75 (fun H locs hw => ?_)
                refine lv_iconst (v := 1) hx hb dX8_put_76 (by decide) ?_
                have hm := Option.some.inj hm
                subst hm
                exact gRetI C0 hw dX8_put_77
            · have hm := ipos hc hm
              refine lv_iload hx hb dX8_put_56 (lv_at hl 5 rfl) ?_
              refine lv_i2b (v := a3.toInt8.toInt32) hx hb dX8_put_58 rfl ?_
              refine lv_goto (tgt := 75) hx hb dX8_put_59 (by decide) ?_
              obtain ⟨hin, hm⟩ := gdE hm
              have hin := inbE hin
              refine gAstI (ws' := (W_x_put g h0 h1 h2 h3 h4 h5 h6 h7 h8 h9 h10 h11 h12 h13 h14 h15 h16 h17 h18 h19 h20 v_toldIsStale v_latestFinding v_sheets0_form v_sheets0_size v_sheets0_items v_sheets1_form v_sheets1_size v_sheets1_items v_sheets2_form v_sheets2_size (upd v_sheets2_items a2.toNatClampNeg a3.toInt8.toInt32) v_sheets3_form v_sheets3_size v_sheets3_items)) C0 hw 6 rfl hin rfl dX8_put_75 (fun H locs hw => ?_)
              refine lv_iconst (v := 1) hx hb dX8_put_76 (by decide) ?_
              have hm := Option.some.inj hm
              subst hm
              exact gRetI C0 hw dX8_put_77
          have hm := ineg hs2 hm
          by_cases hs3 : a0 = (3 : Int32)
          · have hm := ipos hs3 hm
            refine gAldL C0 hw 9 rfl hs3 (inbE (by decide)) rfl dX8_put_47 ?_
            refine gGet C0 hw flX8_168 7 rfl rfl dX8_put_48 ?_
            refine lv_iload_n hx hb dX8_put_51 rfl (lv_at hl 4 rfl) ?_
            refine lv_iload_n hx hb dX8_put_52 rfl (lv_at hl 3 rfl) ?_
            refine lv_if_ne (tgt := 62) hx hb dX8_put_53 (by decide) (fun hc => ?_) (fun hc => ?_)
            · have hm := ineg hc hm
              refine lv_iload_n hx hb dX8_put_62 rfl (lv_at hl 3 rfl) ?_
              refine lv_iconst (v := 1) hx hb dX8_put_63 (by decide) ?_
              refine lv_icmp_ne (tgt := 73) hx hb dX8_put_64 (by decide) (fun hc => ?_) (fun hc => ?_)
              · have hm := ineg hc hm
                refine lv_iload hx hb dX8_put_73 (lv_at hl 5 rfl) ?_
                obtain ⟨hin, hm⟩ := gdE hm
                have hin := inbE hin
                refine gAstI (ws' := (W_x_put g h0 h1 h2 h3 h4 h5 h6 h7 h8 h9 h10 h11 h12 h13 h14 h15 h16 h17 h18 h19 h20 v_toldIsStale v_latestFinding v_sheets0_form v_sheets0_size v_sheets0_items v_sheets1_form v_sheets1_size v_sheets1_items v_sheets2_form v_sheets2_size v_sheets2_items v_sheets3_form v_sheets3_size (upd v_sheets3_items a2.toNatClampNeg a3))) C0 hw 8 rfl hin rfl dX8_put_75 (fun H locs hw => ?_)
                refine lv_iconst (v := 1) hx hb dX8_put_76 (by decide) ?_
                have hm := Option.some.inj hm
                subst hm
                exact gRetI C0 hw dX8_put_77
              · have hm := ipos hc hm
                refine lv_iload hx hb dX8_put_67 (lv_at hl 5 rfl) ?_
                refine lv_i2s (v := a3.toInt16.toInt32) hx hb dX8_put_69 rfl ?_
                refine lv_goto (tgt := 75) hx hb dX8_put_70 (by decide) ?_
                obtain ⟨hin, hm⟩ := gdE hm
                have hin := inbE hin
                refine gAstI (ws' := (W_x_put g h0 h1 h2 h3 h4 h5 h6 h7 h8 h9 h10 h11 h12 h13 h14 h15 h16 h17 h18 h19 h20 v_toldIsStale v_latestFinding v_sheets0_form v_sheets0_size v_sheets0_items v_sheets1_form v_sheets1_size v_sheets1_items v_sheets2_form v_sheets2_size v_sheets2_items v_sheets3_form v_sheets3_size (upd v_sheets3_items a2.toNatClampNeg a3.toInt16.toInt32))) C0 hw 8 rfl hin rfl dX8_put_75 (fun H locs hw => ?_)
                refine lv_iconst (v := 1) hx hb dX8_put_76 (by decide) ?_
                have hm := Option.some.inj hm
                subst hm
                exact gRetI C0 hw dX8_put_77
            · have hm := ipos hc hm
              refine lv_iload hx hb dX8_put_56 (lv_at hl 5 rfl) ?_
              refine lv_i2b (v := a3.toInt8.toInt32) hx hb dX8_put_58 rfl ?_
              refine lv_goto (tgt := 75) hx hb dX8_put_59 (by decide) ?_
              obtain ⟨hin, hm⟩ := gdE hm
              have hin := inbE hin
              refine gAstI (ws' := (W_x_put g h0 h1 h2 h3 h4 h5 h6 h7 h8 h9 h10 h11 h12 h13 h14 h15 h16 h17 h18 h19 h20 v_toldIsStale v_latestFinding v_sheets0_form v_sheets0_size v_sheets0_items v_sheets1_form v_sheets1_size v_sheets1_items v_sheets2_form v_sheets2_size v_sheets2_items v_sheets3_form v_sheets3_size (upd v_sheets3_items a2.toNatClampNeg a3.toInt8.toInt32))) C0 hw 8 rfl hin rfl dX8_put_75 (fun H locs hw => ?_)
              refine lv_iconst (v := 1) hx hb dX8_put_76 (by decide) ?_
              have hm := Option.some.inj hm
              subst hm
              exact gRetI C0 hw dX8_put_77
          have hm := ineg hs3 hm
          cases hm
        · have hm := ineg hc hm
          refine lv_aload_n hx hb dX8_put_35 rfl (lv_at hl 1 rfl) ?_
          refine lv_iload hx hb dX8_put_36 (lv_at hl 0 rfl) ?_
          obtain ⟨o38, ho38, hm⟩ := bindE hm
          refine gCalli (ws' := (W_x_put g h0 h1 h2 h3 h4 h5 h6 h7 h8 h9 h10 h11 h12 h13 h14 h15 h16 h17 h18 h19 h20 v_toldIsStale o38.2 v_sheets0_form v_sheets0_size v_sheets0_items v_sheets1_form v_sheets1_size v_sheets1_items v_sheets2_form v_sheets2_size v_sheets2_items v_sheets3_form v_sheets3_size v_sheets3_items)) C0 hw (gRunV (As := [.int o25]) (rest := []) C0 hw lkX8_161 (c_x_found l g H.size h0 h10 h11 h12 h13 h14 h15 h16 h17 h9 h18 h19 h20 v_toldIsStale v_latestFinding o25 o38 ho38) ⟨rfl, rfl⟩ ⟨Nat.le_of_ble_eq_true rfl, Nat.le_of_ble_eq_true rfl⟩ [0] (by decide) rfl 0 rfl rfl rfl hl.1 rfl (Nat.le_of_ble_eq_true rfl) dX8_put_38) [0] [1, 2, 3, 4, 5, 6, 7, 8, 9] rfl rfl ⟨rfl, rfl, rfl, rfl, rfl, rfl, rfl, rfl, rfl, trivial⟩ [h0, h1, h2, h3, h4, h5, h6, h7, h8, h9] rfl rfl 10 rfl (by decide +kernel) (fun H locs hw => ?_)
          have hm := Option.some.inj hm
          subst hm
          exact gRetI C0 hw dX8_put_41
      have hm := ineg hs1 hm
      by_cases hs2 : a0 = (2 : Int32)
      · have hm := ipos hs2 hm
        refine gAldL C0 hw 9 rfl hs2 (inbE (by decide)) rfl dX8_put_22 ?_
        refine lv_iload_n hx hb dX8_put_23 rfl (lv_at hl 2 rfl) ?_
        refine lv_iload_n hx hb dX8_put_24 rfl (lv_at hl 3 rfl) ?_
        obtain ⟨o25, ho25, hm⟩ := bindE hm
        refine gCalli (ws' := (W_x_put g h0 h1 h2 h3 h4 h5 h6 h7 h8 h9 h10 h11 h12 h13 h14 h15 h16 h17 h18 h19 h20 v_toldIsStale v_latestFinding v_sheets0_form v_sheets0_size v_sheets0_items v_sheets1_form v_sheets1_size v_sheets1_items v_sheets2_form v_sheets2_size v_sheets2_items v_sheets3_form v_sheets3_size v_sheets3_items)) C0 hw (gRunV (As := [.int a1, .int a2]) (rest := []) C0 hw lkX8_267 (c_sh_findingAt l g H.size h5 h6 v_sheets2_form v_sheets2_size a1 a2 o25 ho25) ⟨rfl, rfl⟩ ⟨Nat.le_of_ble_eq_true rfl, Nat.le_of_ble_eq_true rfl⟩ [5] (by decide) rfl 5 rfl rfl rfl hl.1 rfl (Nat.le_of_ble_eq_true rfl) dX8_put_25) [5] [0, 1, 2, 3, 4, 6, 7, 8, 9] rfl rfl ⟨rfl, rfl, rfl, rfl, rfl, rfl, rfl, rfl, rfl, trivial⟩ [h0, h1, h2, h3, h4, h5, h6, h7, h8, h9] rfl rfl 10 rfl (by decide +kernel) (fun H locs hw => ?_)
        refine lv_istore (lv' := [(5, .int o25), (0, .ref h0), (1, .int a0), (2, .int a1), (3, .int a2), (4, .int a3)]) hx hb dX8_put_28 hl (by decide) rfl (fun ls hl => ?_)
        refine lv_iload hx hb dX8_put_30 (lv_at hl 0 rfl) ?_
        refine lv_if_eq (tgt := 42) hx hb dX8_put_32 (by decide) (fun hc => ?_) (fun hc => ?_)
        · have hm := ipos hc hm
          refine lv_aload_n hx hb dX8_put_42 rfl (lv_at hl 1 rfl) ?_
          refine gGet C0 hw flX8_61 0 rfl rfl dX8_put_43 ?_
          refine lv_iload_n hx hb dX8_put_46 rfl (lv_at hl 2 rfl) ?_
          by_cases hs0 : a0 = (0 : Int32)
          · have hm := ipos hs0 hm
            refine gAldL C0 hw 9 rfl hs0 (inbE (by decide)) rfl dX8_put_47 ?_
            refine gGet C0 hw flX8_168 1 rfl rfl dX8_put_48 ?_
            refine lv_iload_n hx hb dX8_put_51 rfl (lv_at hl 4 rfl) ?_
            refine lv_iload_n hx hb dX8_put_52 rfl (lv_at hl 3 rfl) ?_
            refine lv_if_ne (tgt := 62) hx hb dX8_put_53 (by decide) (fun hc => ?_) (fun hc => ?_)
            · have hm := ineg hc hm
              refine lv_iload_n hx hb dX8_put_62 rfl (lv_at hl 3 rfl) ?_
              refine lv_iconst (v := 1) hx hb dX8_put_63 (by decide) ?_
              refine lv_icmp_ne (tgt := 73) hx hb dX8_put_64 (by decide) (fun hc => ?_) (fun hc => ?_)
              · have hm := ineg hc hm
                refine lv_iload hx hb dX8_put_73 (lv_at hl 5 rfl) ?_
                obtain ⟨hin, hm⟩ := gdE hm
                have hin := inbE hin
                refine gAstI (ws' := (W_x_put g h0 h1 h2 h3 h4 h5 h6 h7 h8 h9 h10 h11 h12 h13 h14 h15 h16 h17 h18 h19 h20 v_toldIsStale v_latestFinding v_sheets0_form v_sheets0_size (upd v_sheets0_items a2.toNatClampNeg a3) v_sheets1_form v_sheets1_size v_sheets1_items v_sheets2_form v_sheets2_size v_sheets2_items v_sheets3_form v_sheets3_size v_sheets3_items)) C0 hw 2 rfl hin rfl dX8_put_75 (fun H locs hw => ?_)
                refine lv_iconst (v := 1) hx hb dX8_put_76 (by decide) ?_
                have hm := Option.some.inj hm
                subst hm
                exact gRetI C0 hw dX8_put_77
              · have hm := ipos hc hm
                refine lv_iload hx hb dX8_put_67 (lv_at hl 5 rfl) ?_
                refine lv_i2s (v := a3.toInt16.toInt32) hx hb dX8_put_69 rfl ?_
                refine lv_goto (tgt := 75) hx hb dX8_put_70 (by decide) ?_
                obtain ⟨hin, hm⟩ := gdE hm
                have hin := inbE hin
                refine gAstI (ws' := (W_x_put g h0 h1 h2 h3 h4 h5 h6 h7 h8 h9 h10 h11 h12 h13 h14 h15 h16 h17 h18 h19 h20 v_toldIsStale v_latestFinding v_sheets0_form v_sheets0_size (upd v_sheets0_items a2.toNatClampNeg a3.toInt16.toInt32) v_sheets1_form v_sheets1_size v_sheets1_items v_sheets2_form v_sheets2_size v_sheets2_items v_sheets3_form v_sheets3_size v_sheets3_items)) C0 hw 2 rfl hin rfl dX8_put_75 (fun H locs hw => ?_)
                refine lv_iconst (v := 1) hx hb dX8_put_76 (by decide) ?_
                have hm := Option.some.inj hm
                subst hm
                exact gRetI C0 hw dX8_put_77
            · have hm := ipos hc hm
              refine lv_iload hx hb dX8_put_56 (lv_at hl 5 rfl) ?_
              refine lv_i2b (v := a3.toInt8.toInt32) hx hb dX8_put_58 rfl ?_
              refine lv_goto (tgt := 75) hx hb dX8_put_59 (by decide) ?_
              obtain ⟨hin, hm⟩ := gdE hm
              have hin := inbE hin
              refine gAstI (ws' := (W_x_put g h0 h1 h2 h3 h4 h5 h6 h7 h8 h9 h10 h11 h12 h13 h14 h15 h16 h17 h18 h19 h20 v_toldIsStale v_latestFinding v_sheets0_form v_sheets0_size (upd v_sheets0_items a2.toNatClampNeg a3.toInt8.toInt32) v_sheets1_form v_sheets1_size v_sheets1_items v_sheets2_form v_sheets2_size v_sheets2_items v_sheets3_form v_sheets3_size v_sheets3_items)) C0 hw 2 rfl hin rfl dX8_put_75 (fun H locs hw => ?_)
              refine lv_iconst (v := 1) hx hb dX8_put_76 (by decide) ?_
              have hm := Option.some.inj hm
              subst hm
              exact gRetI C0 hw dX8_put_77
          have hm := ineg hs0 hm
          by_cases hs1 : a0 = (1 : Int32)
          · have hm := ipos hs1 hm
            refine gAldL C0 hw 9 rfl hs1 (inbE (by decide)) rfl dX8_put_47 ?_
            refine gGet C0 hw flX8_168 3 rfl rfl dX8_put_48 ?_
            refine lv_iload_n hx hb dX8_put_51 rfl (lv_at hl 4 rfl) ?_
            refine lv_iload_n hx hb dX8_put_52 rfl (lv_at hl 3 rfl) ?_
            refine lv_if_ne (tgt := 62) hx hb dX8_put_53 (by decide) (fun hc => ?_) (fun hc => ?_)
            · have hm := ineg hc hm
              refine lv_iload_n hx hb dX8_put_62 rfl (lv_at hl 3 rfl) ?_
              refine lv_iconst (v := 1) hx hb dX8_put_63 (by decide) ?_
              refine lv_icmp_ne (tgt := 73) hx hb dX8_put_64 (by decide) (fun hc => ?_) (fun hc => ?_)
              · have hm := ineg hc hm
                refine lv_iload hx hb dX8_put_73 (lv_at hl 5 rfl) ?_
                obtain ⟨hin, hm⟩ := gdE hm
                have hin := inbE hin
                refine gAstI (ws' := (W_x_put g h0 h1 h2 h3 h4 h5 h6 h7 h8 h9 h10 h11 h12 h13 h14 h15 h16 h17 h18 h19 h20 v_toldIsStale v_latestFinding v_sheets0_form v_sheets0_size v_sheets0_items v_sheets1_form v_sheets1_size (upd v_sheets1_items a2.toNatClampNeg a3) v_sheets2_form v_sheets2_size v_sheets2_items v_sheets3_form v_sheets3_size v_sheets3_items)) C0 hw 4 rfl hin rfl dX8_put_75 (fun H locs hw => ?_)
                refine lv_iconst (v := 1) hx hb dX8_put_76 (by decide) ?_
                have hm := Option.some.inj hm
                subst hm
                exact gRetI C0 hw dX8_put_77
              · have hm := ipos hc hm
                refine lv_iload hx hb dX8_put_67 (lv_at hl 5 rfl) ?_
                refine lv_i2s (v := a3.toInt16.toInt32) hx hb dX8_put_69 rfl ?_
                refine lv_goto (tgt := 75) hx hb dX8_put_70 (by decide) ?_
                obtain ⟨hin, hm⟩ := gdE hm
                have hin := inbE hin
                refine gAstI (ws' := (W_x_put g h0 h1 h2 h3 h4 h5 h6 h7 h8 h9 h10 h11 h12 h13 h14 h15 h16 h17 h18 h19 h20 v_toldIsStale v_latestFinding v_sheets0_form v_sheets0_size v_sheets0_items v_sheets1_form v_sheets1_size (upd v_sheets1_items a2.toNatClampNeg a3.toInt16.toInt32) v_sheets2_form v_sheets2_size v_sheets2_items v_sheets3_form v_sheets3_size v_sheets3_items)) C0 hw 4 rfl hin rfl dX8_put_75 (fun H locs hw => ?_)
                refine lv_iconst (v := 1) hx hb dX8_put_76 (by decide) ?_
                have hm := Option.some.inj hm
                subst hm
                exact gRetI C0 hw dX8_put_77
            · have hm := ipos hc hm
              refine lv_iload hx hb dX8_put_56 (lv_at hl 5 rfl) ?_
              refine lv_i2b (v := a3.toInt8.toInt32) hx hb dX8_put_58 rfl ?_
              refine lv_goto (tgt := 75) hx hb dX8_put_59 (by decide) ?_
              obtain ⟨hin, hm⟩ := gdE hm
              have hin := inbE hin
              refine gAstI (ws' := (W_x_put g h0 h1 h2 h3 h4 h5 h6 h7 h8 h9 h10 h11 h12 h13 h14 h15 h16 h17 h18 h19 h20 v_toldIsStale v_latestFinding v_sheets0_form v_sheets0_size v_sheets0_items v_sheets1_form v_sheets1_size (upd v_sheets1_items a2.toNatClampNeg a3.toInt8.toInt32) v_sheets2_form v_sheets2_size v_sheets2_items v_sheets3_form v_sheets3_size v_sheets3_items)) C0 hw 4 rfl hin rfl dX8_put_75 (fun H locs hw => ?_)
              refine lv_iconst (v := 1) hx hb dX8_put_76 (by decide) ?_
              have hm := Option.some.inj hm
              subst hm
              exact gRetI C0 hw dX8_put_77
          have hm := ineg hs1 hm
          by_cases hs2 : a0 = (2 : Int32)
          · have hm := ipos hs2 hm
            refine gAldL C0 hw 9 rfl hs2 (inbE (by decide)) rfl dX8_put_47 ?_
            refine gGet C0 hw flX8_168 5 rfl rfl dX8_put_48 ?_
            refine lv_iload_n hx hb dX8_put_51 rfl (lv_at hl 4 rfl) ?_
            refine lv_iload_n hx hb dX8_put_52 rfl (lv_at hl 3 rfl) ?_
            refine lv_if_ne (tgt := 62) hx hb dX8_put_53 (by decide) (fun hc => ?_) (fun hc => ?_)
            · have hm := ineg hc hm
              refine lv_iload_n hx hb dX8_put_62 rfl (lv_at hl 3 rfl) ?_
              refine lv_iconst (v := 1) hx hb dX8_put_63 (by decide) ?_
              refine lv_icmp_ne (tgt := 73) hx hb dX8_put_64 (by decide) (fun hc => ?_) (fun hc => ?_)
              · have hm := ineg hc hm
                refine lv_iload hx hb dX8_put_73 (lv_at hl 5 rfl) ?_
                obtain ⟨hin, hm⟩ := gdE hm
                have hin := inbE hin
                refine gAstI (ws' := (W_x_put g h0 h1 h2 h3 h4 h5 h6 h7 h8 h9 h10 h11 h12 h13 h14 h15 h16 h17 h18 h19 h20 v_toldIsStale v_latestFinding v_sheets0_form v_sheets0_size v_sheets0_items v_sheets1_form v_sheets1_size v_sheets1_items v_sheets2_form v_sheets2_size (upd v_sheets2_items a2.toNatClampNeg a3) v_sheets3_form v_sheets3_size v_sheets3_items)) C0 hw 6 rfl hin rfl dX8_put_75 (fun H locs hw => ?_)
                refine lv_iconst (v := 1) hx hb dX8_put_76 (by decide) ?_
                have hm := Option.some.inj hm
                subst hm
                exact gRetI C0 hw dX8_put_77
              · have hm := ipos hc hm
                refine lv_iload hx hb dX8_put_67 (lv_at hl 5 rfl) ?_
                refine lv_i2s (v := a3.toInt16.toInt32) hx hb dX8_put_69 rfl ?_
                refine lv_goto (tgt := 75) hx hb dX8_put_70 (by decide) ?_
                obtain ⟨hin, hm⟩ := gdE hm
                have hin := inbE hin
                refine gAstI (ws' := (W_x_put g h0 h1 h2 h3 h4 h5 h6 h7 h8 h9 h10 h11 h12 h13 h14 h15 h16 h17 h18 h19 h20 v_toldIsStale v_latestFinding v_sheets0_form v_sheets0_size v_sheets0_items v_sheets1_form v_sheets1_size v_sheets1_items v_sheets2_form v_sheets2_size (upd v_sheets2_items a2.toNatClampNeg a3.toInt16.toInt32) v_sheets3_form v_sheets3_size v_sheets3_items)) C0 hw 6 rfl hin rfl dX8_put_75 (fun H locs hw => ?_)
                refine lv_iconst (v := 1) hx hb dX8_put_76 (by decide) ?_
                have hm := Option.some.inj hm
                subst hm
                exact gRetI C0 hw dX8_put_77
            · have hm := ipos hc hm
              refine lv_iload hx hb dX8_put_56 (lv_at hl 5 rfl) ?_
              refine lv_i2b (v := a3.toInt8.toInt32) hx hb dX8_put_58 rfl ?_
              refine lv_goto (tgt := 75) hx hb dX8_put_59 (by decide) ?_
              obtain ⟨hin, hm⟩ := gdE hm
              have hin := inbE hin
              refine gAstI (ws' := (W_x_put g h0 h1 h2 h3 h4 h5 h6 h7 h8 h9 h10 h11 h12 h13 h14 h15 h16 h17 h18 h19 h20 v_toldIsStale v_latestFinding v_sheets0_form v_sheets0_size v_sheets0_items v_sheets1_form v_sheets1_size v_sheets1_items v_sheets2_form v_sheets2_size (upd v_sheets2_items a2.toNatClampNeg a3.toInt8.toInt32) v_sheets3_form v_sheets3_size v_sheets3_items)) C0 hw 6 rfl hin rfl dX8_put_75 (fun H locs hw => ?_)
              refine lv_iconst (v := 1) hx hb dX8_put_76 (by decide) ?_
              have hm := Option.some.inj hm
              subst hm
              exact gRetI C0 hw dX8_put_77
          have hm := ineg hs2 hm
          by_cases hs3 : a0 = (3 : Int32)
          · have hm := ipos hs3 hm
            refine gAldL C0 hw 9 rfl hs3 (inbE (by decide)) rfl dX8_put_47 ?_
            refine gGet C0 hw flX8_168 7 rfl rfl dX8_put_48 ?_
            refine lv_iload_n hx hb dX8_put_51 rfl (lv_at hl 4 rfl) ?_
            refine lv_iload_n hx hb dX8_put_52 rfl (lv_at hl 3 rfl) ?_
            refine lv_if_ne (tgt := 62) hx hb dX8_put_53 (by decide) (fun hc => ?_) (fun hc => ?_)
            · have hm := ineg hc hm
              refine lv_iload_n hx hb dX8_put_62 rfl (lv_at hl 3 rfl) ?_
              refine lv_iconst (v := 1) hx hb dX8_put_63 (by decide) ?_
              refine lv_icmp_ne (tgt := 73) hx hb dX8_put_64 (by decide) (fun hc => ?_) (fun hc => ?_)
              · have hm := ineg hc hm
                refine lv_iload hx hb dX8_put_73 (lv_at hl 5 rfl) ?_
                obtain ⟨hin, hm⟩ := gdE hm
                have hin := inbE hin
                refine gAstI (ws' := (W_x_put g h0 h1 h2 h3 h4 h5 h6 h7 h8 h9 h10 h11 h12 h13 h14 h15 h16 h17 h18 h19 h20 v_toldIsStale v_latestFinding v_sheets0_form v_sheets0_size v_sheets0_items v_sheets1_form v_sheets1_size v_sheets1_items v_sheets2_form v_sheets2_size v_sheets2_items v_sheets3_form v_sheets3_size (upd v_sheets3_items a2.toNatClampNeg a3))) C0 hw 8 rfl hin rfl dX8_put_75 (fun H locs hw => ?_)
                refine lv_iconst (v := 1) hx hb dX8_put_76 (by decide) ?_
                have hm := Option.some.inj hm
                subst hm
                exact gRetI C0 hw dX8_put_77
              · have hm := ipos hc hm
                refine lv_iload hx hb dX8_put_67 (lv_at hl 5 rfl) ?_
                refine lv_i2s (v := a3.toInt16.toInt32) hx hb dX8_put_69 rfl ?_
                refine lv_goto (tgt := 75) hx hb dX8_put_70 (by decide) ?_
                obtain ⟨hin, hm⟩ := gdE hm
                have hin := inbE hin
                refine gAstI (ws' := (W_x_put g h0 h1 h2 h3 h4 h5 h6 h7 h8 h9 h10 h11 h12 h13 h14 h15 h16 h17 h18 h19 h20 v_toldIsStale v_latestFinding v_sheets0_form v_sheets0_size v_sheets0_items v_sheets1_form v_sheets1_size v_sheets1_items v_sheets2_form v_sheets2_size v_sheets2_items v_sheets3_form v_sheets3_size (upd v_sheets3_items a2.toNatClampNeg a3.toInt16.toInt32))) C0 hw 8 rfl hin rfl dX8_put_75 (fun H locs hw => ?_)
                refine lv_iconst (v := 1) hx hb dX8_put_76 (by decide) ?_
                have hm := Option.some.inj hm
                subst hm
                exact gRetI C0 hw dX8_put_77
            · have hm := ipos hc hm
              refine lv_iload hx hb dX8_put_56 (lv_at hl 5 rfl) ?_
              refine lv_i2b (v := a3.toInt8.toInt32) hx hb dX8_put_58 rfl ?_
              refine lv_goto (tgt := 75) hx hb dX8_put_59 (by decide) ?_
              obtain ⟨hin, hm⟩ := gdE hm
              have hin := inbE hin
              refine gAstI (ws' := (W_x_put g h0 h1 h2 h3 h4 h5 h6 h7 h8 h9 h10 h11 h12 h13 h14 h15 h16 h17 h18 h19 h20 v_toldIsStale v_latestFinding v_sheets0_form v_sheets0_size v_sheets0_items v_sheets1_form v_sheets1_size v_sheets1_items v_sheets2_form v_sheets2_size v_sheets2_items v_sheets3_form v_sheets3_size (upd v_sheets3_items a2.toNatClampNeg a3.toInt8.toInt32))) C0 hw 8 rfl hin rfl dX8_put_75 (fun H locs hw => ?_)
              refine lv_iconst (v := 1) hx hb dX8_put_76 (by decide) ?_
              have hm := Option.some.inj hm
              subst hm
              exact gRetI C0 hw dX8_put_77
          have hm := ineg hs3 hm
          cases hm
        · have hm := ineg hc hm
          refine lv_aload_n hx hb dX8_put_35 rfl (lv_at hl 1 rfl) ?_
          refine lv_iload hx hb dX8_put_36 (lv_at hl 0 rfl) ?_
          obtain ⟨o38, ho38, hm⟩ := bindE hm
          refine gCalli (ws' := (W_x_put g h0 h1 h2 h3 h4 h5 h6 h7 h8 h9 h10 h11 h12 h13 h14 h15 h16 h17 h18 h19 h20 v_toldIsStale o38.2 v_sheets0_form v_sheets0_size v_sheets0_items v_sheets1_form v_sheets1_size v_sheets1_items v_sheets2_form v_sheets2_size v_sheets2_items v_sheets3_form v_sheets3_size v_sheets3_items)) C0 hw (gRunV (As := [.int o25]) (rest := []) C0 hw lkX8_161 (c_x_found l g H.size h0 h10 h11 h12 h13 h14 h15 h16 h17 h9 h18 h19 h20 v_toldIsStale v_latestFinding o25 o38 ho38) ⟨rfl, rfl⟩ ⟨Nat.le_of_ble_eq_true rfl, Nat.le_of_ble_eq_true rfl⟩ [0] (by decide) rfl 0 rfl rfl rfl hl.1 rfl (Nat.le_of_ble_eq_true rfl) dX8_put_38) [0] [1, 2, 3, 4, 5, 6, 7, 8, 9] rfl rfl ⟨rfl, rfl, rfl, rfl, rfl, rfl, rfl, rfl, rfl, trivial⟩ [h0, h1, h2, h3, h4, h5, h6, h7, h8, h9] rfl rfl 10 rfl (by decide +kernel) (fun H locs hw => ?_)
          have hm := Option.some.inj hm
          subst hm
          exact gRetI C0 hw dX8_put_41
      have hm := ineg hs2 hm
      by_cases hs3 : a0 = (3 : Int32)
      · have hm := ipos hs3 hm
        refine gAldL C0 hw 9 rfl hs3 (inbE (by decide)) rfl dX8_put_22 ?_
        refine lv_iload_n hx hb dX8_put_23 rfl (lv_at hl 2 rfl) ?_
        refine lv_iload_n hx hb dX8_put_24 rfl (lv_at hl 3 rfl) ?_
        obtain ⟨o25, ho25, hm⟩ := bindE hm
        refine gCalli (ws' := (W_x_put g h0 h1 h2 h3 h4 h5 h6 h7 h8 h9 h10 h11 h12 h13 h14 h15 h16 h17 h18 h19 h20 v_toldIsStale v_latestFinding v_sheets0_form v_sheets0_size v_sheets0_items v_sheets1_form v_sheets1_size v_sheets1_items v_sheets2_form v_sheets2_size v_sheets2_items v_sheets3_form v_sheets3_size v_sheets3_items)) C0 hw (gRunV (As := [.int a1, .int a2]) (rest := []) C0 hw lkX8_267 (c_sh_findingAt l g H.size h7 h8 v_sheets3_form v_sheets3_size a1 a2 o25 ho25) ⟨rfl, rfl⟩ ⟨Nat.le_of_ble_eq_true rfl, Nat.le_of_ble_eq_true rfl⟩ [7] (by decide) rfl 7 rfl rfl rfl hl.1 rfl (Nat.le_of_ble_eq_true rfl) dX8_put_25) [7] [0, 1, 2, 3, 4, 5, 6, 8, 9] rfl rfl ⟨rfl, rfl, rfl, rfl, rfl, rfl, rfl, rfl, rfl, trivial⟩ [h0, h1, h2, h3, h4, h5, h6, h7, h8, h9] rfl rfl 10 rfl (by decide +kernel) (fun H locs hw => ?_)
        refine lv_istore (lv' := [(5, .int o25), (0, .ref h0), (1, .int a0), (2, .int a1), (3, .int a2), (4, .int a3)]) hx hb dX8_put_28 hl (by decide) rfl (fun ls hl => ?_)
        refine lv_iload hx hb dX8_put_30 (lv_at hl 0 rfl) ?_
        refine lv_if_eq (tgt := 42) hx hb dX8_put_32 (by decide) (fun hc => ?_) (fun hc => ?_)
        · have hm := ipos hc hm
          refine lv_aload_n hx hb dX8_put_42 rfl (lv_at hl 1 rfl) ?_
          refine gGet C0 hw flX8_61 0 rfl rfl dX8_put_43 ?_
          refine lv_iload_n hx hb dX8_put_46 rfl (lv_at hl 2 rfl) ?_
          by_cases hs0 : a0 = (0 : Int32)
          · have hm := ipos hs0 hm
            refine gAldL C0 hw 9 rfl hs0 (inbE (by decide)) rfl dX8_put_47 ?_
            refine gGet C0 hw flX8_168 1 rfl rfl dX8_put_48 ?_
            refine lv_iload_n hx hb dX8_put_51 rfl (lv_at hl 4 rfl) ?_
            refine lv_iload_n hx hb dX8_put_52 rfl (lv_at hl 3 rfl) ?_
            refine lv_if_ne (tgt := 62) hx hb dX8_put_53 (by decide) (fun hc => ?_) (fun hc => ?_)
            · have hm := ineg hc hm
              refine lv_iload_n hx hb dX8_put_62 rfl (lv_at hl 3 rfl) ?_
              refine lv_iconst (v := 1) hx hb dX8_put_63 (by decide) ?_
              refine lv_icmp_ne (tgt := 73) hx hb dX8_put_64 (by decide) (fun hc => ?_) (fun hc => ?_)
              · have hm := ineg hc hm
                refine lv_iload hx hb dX8_put_73 (lv_at hl 5 rfl) ?_
                obtain ⟨hin, hm⟩ := gdE hm
                have hin := inbE hin
                refine gAstI (ws' := (W_x_put g h0 h1 h2 h3 h4 h5 h6 h7 h8 h9 h10 h11 h12 h13 h14 h15 h16 h17 h18 h19 h20 v_toldIsStale v_latestFinding v_sheets0_form v_sheets0_size (upd v_sheets0_items a2.toNatClampNeg a3) v_sheets1_form v_sheets1_size v_sheets1_items v_sheets2_form v_sheets2_size v_sheets2_items v_sheets3_form v_sheets3_size v_sheets3_items)) C0 hw 2 rfl hin rfl dX8_put_75 (fun H locs hw => ?_)
                refine lv_iconst (v := 1) hx hb dX8_put_76 (by decide) ?_
                have hm := Option.some.inj hm
                subst hm
                exact gRetI C0 hw dX8_put_77
              · have hm := ipos hc hm
                refine lv_iload hx hb dX8_put_67 (lv_at hl 5 rfl) ?_
                refine lv_i2s (v := a3.toInt16.toInt32) hx hb dX8_put_69 rfl ?_
                refine lv_goto (tgt := 75) hx hb dX8_put_70 (by decide) ?_
                obtain ⟨hin, hm⟩ := gdE hm
                have hin := inbE hin
                refine gAstI (ws' := (W_x_put g h0 h1 h2 h3 h4 h5 h6 h7 h8 h9 h10 h11 h12 h13 h14 h15 h16 h17 h18 h19 h20 v_toldIsStale v_latestFinding v_sheets0_form v_sheets0_size (upd v_sheets0_items a2.toNatClampNeg a3.toInt16.toInt32) v_sheets1_form v_sheets1_size v_sheets1_items v_sheets2_form v_sheets2_size v_sheets2_items v_sheets3_form v_sheets3_size v_sheets3_items)) C0 hw 2 rfl hin rfl dX8_put_75 (fun H locs hw => ?_)
                refine lv_iconst (v := 1) hx hb dX8_put_76 (by decide) ?_
                have hm := Option.some.inj hm
                subst hm
                exact gRetI C0 hw dX8_put_77
            · have hm := ipos hc hm
              refine lv_iload hx hb dX8_put_56 (lv_at hl 5 rfl) ?_
              refine lv_i2b (v := a3.toInt8.toInt32) hx hb dX8_put_58 rfl ?_
              refine lv_goto (tgt := 75) hx hb dX8_put_59 (by decide) ?_
              obtain ⟨hin, hm⟩ := gdE hm
              have hin := inbE hin
              refine gAstI (ws' := (W_x_put g h0 h1 h2 h3 h4 h5 h6 h7 h8 h9 h10 h11 h12 h13 h14 h15 h16 h17 h18 h19 h20 v_toldIsStale v_latestFinding v_sheets0_form v_sheets0_size (upd v_sheets0_items a2.toNatClampNeg a3.toInt8.toInt32) v_sheets1_form v_sheets1_size v_sheets1_items v_sheets2_form v_sheets2_size v_sheets2_items v_sheets3_form v_sheets3_size v_sheets3_items)) C0 hw 2 rfl hin rfl dX8_put_75 (fun H locs hw => ?_)
              refine lv_iconst (v := 1) hx hb dX8_put_76 (by decide) ?_
              have hm := Option.some.inj hm
              subst hm
              exact gRetI C0 hw dX8_put_77
          have hm := ineg hs0 hm
          by_cases hs1 : a0 = (1 : Int32)
          · have hm := ipos hs1 hm
            refine gAldL C0 hw 9 rfl hs1 (inbE (by decide)) rfl dX8_put_47 ?_
            refine gGet C0 hw flX8_168 3 rfl rfl dX8_put_48 ?_
            refine lv_iload_n hx hb dX8_put_51 rfl (lv_at hl 4 rfl) ?_
            refine lv_iload_n hx hb dX8_put_52 rfl (lv_at hl 3 rfl) ?_
            refine lv_if_ne (tgt := 62) hx hb dX8_put_53 (by decide) (fun hc => ?_) (fun hc => ?_)
            · have hm := ineg hc hm
              refine lv_iload_n hx hb dX8_put_62 rfl (lv_at hl 3 rfl) ?_
              refine lv_iconst (v := 1) hx hb dX8_put_63 (by decide) ?_
              refine lv_icmp_ne (tgt := 73) hx hb dX8_put_64 (by decide) (fun hc => ?_) (fun hc => ?_)
              · have hm := ineg hc hm
                refine lv_iload hx hb dX8_put_73 (lv_at hl 5 rfl) ?_
                obtain ⟨hin, hm⟩ := gdE hm
                have hin := inbE hin
                refine gAstI (ws' := (W_x_put g h0 h1 h2 h3 h4 h5 h6 h7 h8 h9 h10 h11 h12 h13 h14 h15 h16 h17 h18 h19 h20 v_toldIsStale v_latestFinding v_sheets0_form v_sheets0_size v_sheets0_items v_sheets1_form v_sheets1_size (upd v_sheets1_items a2.toNatClampNeg a3) v_sheets2_form v_sheets2_size v_sheets2_items v_sheets3_form v_sheets3_size v_sheets3_items)) C0 hw 4 rfl hin rfl dX8_put_75 (fun H locs hw => ?_)
                refine lv_iconst (v := 1) hx hb dX8_put_76 (by decide) ?_
                have hm := Option.some.inj hm
                subst hm
                exact gRetI C0 hw dX8_put_77
              · have hm := ipos hc hm
                refine lv_iload hx hb dX8_put_67 (lv_at hl 5 rfl) ?_
                refine lv_i2s (v := a3.toInt16.toInt32) hx hb dX8_put_69 rfl ?_
                refine lv_goto (tgt := 75) hx hb dX8_put_70 (by decide) ?_
                obtain ⟨hin, hm⟩ := gdE hm
                have hin := inbE hin
                refine gAstI (ws' := (W_x_put g h0 h1 h2 h3 h4 h5 h6 h7 h8 h9 h10 h11 h12 h13 h14 h15 h16 h17 h18 h19 h20 v_toldIsStale v_latestFinding v_sheets0_form v_sheets0_size v_sheets0_items v_sheets1_form v_sheets1_size (upd v_sheets1_items a2.toNatClampNeg a3.toInt16.toInt32) v_sheets2_form v_sheets2_size v_sheets2_items v_sheets3_form v_sheets3_size v_sheets3_items)) C0 hw 4 rfl hin rfl dX8_put_75 (fun H locs hw => ?_)
                refine lv_iconst (v := 1) hx hb dX8_put_76 (by decide) ?_
                have hm := Option.some.inj hm
                subst hm
                exact gRetI C0 hw dX8_put_77
            · have hm := ipos hc hm
              refine lv_iload hx hb dX8_put_56 (lv_at hl 5 rfl) ?_
              refine lv_i2b (v := a3.toInt8.toInt32) hx hb dX8_put_58 rfl ?_
              refine lv_goto (tgt := 75) hx hb dX8_put_59 (by decide) ?_
              obtain ⟨hin, hm⟩ := gdE hm
              have hin := inbE hin
              refine gAstI (ws' := (W_x_put g h0 h1 h2 h3 h4 h5 h6 h7 h8 h9 h10 h11 h12 h13 h14 h15 h16 h17 h18 h19 h20 v_toldIsStale v_latestFinding v_sheets0_form v_sheets0_size v_sheets0_items v_sheets1_form v_sheets1_size (upd v_sheets1_items a2.toNatClampNeg a3.toInt8.toInt32) v_sheets2_form v_sheets2_size v_sheets2_items v_sheets3_form v_sheets3_size v_sheets3_items)) C0 hw 4 rfl hin rfl dX8_put_75 (fun H locs hw => ?_)
              refine lv_iconst (v := 1) hx hb dX8_put_76 (by decide) ?_
              have hm := Option.some.inj hm
              subst hm
              exact gRetI C0 hw dX8_put_77
          have hm := ineg hs1 hm
          by_cases hs2 : a0 = (2 : Int32)
          · have hm := ipos hs2 hm
            refine gAldL C0 hw 9 rfl hs2 (inbE (by decide)) rfl dX8_put_47 ?_
            refine gGet C0 hw flX8_168 5 rfl rfl dX8_put_48 ?_
            refine lv_iload_n hx hb dX8_put_51 rfl (lv_at hl 4 rfl) ?_
            refine lv_iload_n hx hb dX8_put_52 rfl (lv_at hl 3 rfl) ?_
            refine lv_if_ne (tgt := 62) hx hb dX8_put_53 (by decide) (fun hc => ?_) (fun hc => ?_)
            · have hm := ineg hc hm
              refine lv_iload_n hx hb dX8_put_62 rfl (lv_at hl 3 rfl) ?_
              refine lv_iconst (v := 1) hx hb dX8_put_63 (by decide) ?_
              refine lv_icmp_ne (tgt := 73) hx hb dX8_put_64 (by decide) (fun hc => ?_) (fun hc => ?_)
              · have hm := ineg hc hm
                refine lv_iload hx hb dX8_put_73 (lv_at hl 5 rfl) ?_
                obtain ⟨hin, hm⟩ := gdE hm
                have hin := inbE hin
                refine gAstI (ws' := (W_x_put g h0 h1 h2 h3 h4 h5 h6 h7 h8 h9 h10 h11 h12 h13 h14 h15 h16 h17 h18 h19 h20 v_toldIsStale v_latestFinding v_sheets0_form v_sheets0_size v_sheets0_items v_sheets1_form v_sheets1_size v_sheets1_items v_sheets2_form v_sheets2_size (upd v_sheets2_items a2.toNatClampNeg a3) v_sheets3_form v_sheets3_size v_sheets3_items)) C0 hw 6 rfl hin rfl dX8_put_75 (fun H locs hw => ?_)
                refine lv_iconst (v := 1) hx hb dX8_put_76 (by decide) ?_
                have hm := Option.some.inj hm
                subst hm
                exact gRetI C0 hw dX8_put_77
              · have hm := ipos hc hm
                refine lv_iload hx hb dX8_put_67 (lv_at hl 5 rfl) ?_
                refine lv_i2s (v := a3.toInt16.toInt32) hx hb dX8_put_69 rfl ?_
                refine lv_goto (tgt := 75) hx hb dX8_put_70 (by decide) ?_
                obtain ⟨hin, hm⟩ := gdE hm
                have hin := inbE hin
                refine gAstI (ws' := (W_x_put g h0 h1 h2 h3 h4 h5 h6 h7 h8 h9 h10 h11 h12 h13 h14 h15 h16 h17 h18 h19 h20 v_toldIsStale v_latestFinding v_sheets0_form v_sheets0_size v_sheets0_items v_sheets1_form v_sheets1_size v_sheets1_items v_sheets2_form v_sheets2_size (upd v_sheets2_items a2.toNatClampNeg a3.toInt16.toInt32) v_sheets3_form v_sheets3_size v_sheets3_items)) C0 hw 6 rfl hin rfl dX8_put_75 (fun H locs hw => ?_)
                refine lv_iconst (v := 1) hx hb dX8_put_76 (by decide) ?_
                have hm := Option.some.inj hm
                subst hm
                exact gRetI C0 hw dX8_put_77
            · have hm := ipos hc hm
              refine lv_iload hx hb dX8_put_56 (lv_at hl 5 rfl) ?_
              refine lv_i2b (v := a3.toInt8.toInt32) hx hb dX8_put_58 rfl ?_
              refine lv_goto (tgt := 75) hx hb dX8_put_59 (by decide) ?_
              obtain ⟨hin, hm⟩ := gdE hm
              have hin := inbE hin
              refine gAstI (ws' := (W_x_put g h0 h1 h2 h3 h4 h5 h6 h7 h8 h9 h10 h11 h12 h13 h14 h15 h16 h17 h18 h19 h20 v_toldIsStale v_latestFinding v_sheets0_form v_sheets0_size v_sheets0_items v_sheets1_form v_sheets1_size v_sheets1_items v_sheets2_form v_sheets2_size (upd v_sheets2_items a2.toNatClampNeg a3.toInt8.toInt32) v_sheets3_form v_sheets3_size v_sheets3_items)) C0 hw 6 rfl hin rfl dX8_put_75 (fun H locs hw => ?_)
              refine lv_iconst (v := 1) hx hb dX8_put_76 (by decide) ?_
              have hm := Option.some.inj hm
              subst hm
              exact gRetI C0 hw dX8_put_77
          have hm := ineg hs2 hm
          by_cases hs3 : a0 = (3 : Int32)
          · have hm := ipos hs3 hm
            refine gAldL C0 hw 9 rfl hs3 (inbE (by decide)) rfl dX8_put_47 ?_
            refine gGet C0 hw flX8_168 7 rfl rfl dX8_put_48 ?_
            refine lv_iload_n hx hb dX8_put_51 rfl (lv_at hl 4 rfl) ?_
            refine lv_iload_n hx hb dX8_put_52 rfl (lv_at hl 3 rfl) ?_
            refine lv_if_ne (tgt := 62) hx hb dX8_put_53 (by decide) (fun hc => ?_) (fun hc => ?_)
            · have hm := ineg hc hm
              refine lv_iload_n hx hb dX8_put_62 rfl (lv_at hl 3 rfl) ?_
              refine lv_iconst (v := 1) hx hb dX8_put_63 (by decide) ?_
              refine lv_icmp_ne (tgt := 73) hx hb dX8_put_64 (by decide) (fun hc => ?_) (fun hc => ?_)
              · have hm := ineg hc hm
                refine lv_iload hx hb dX8_put_73 (lv_at hl 5 rfl) ?_
                obtain ⟨hin, hm⟩ := gdE hm
                have hin := inbE hin
                refine gAstI (ws' := (W_x_put g h0 h1 h2 h3 h4 h5 h6 h7 h8 h9 h10 h11 h12 h13 h14 h15 h16 h17 h18 h19 h20 v_toldIsStale v_latestFinding v_sheets0_form v_sheets0_size v_sheets0_items v_sheets1_form v_sheets1_size v_sheets1_items v_sheets2_form v_sheets2_size v_sheets2_items v_sheets3_form v_sheets3_size (upd v_sheets3_items a2.toNatClampNeg a3))) C0 hw 8 rfl hin rfl dX8_put_75 (fun H locs hw => ?_)
                refine lv_iconst (v := 1) hx hb dX8_put_76 (by decide) ?_
                have hm := Option.some.inj hm
                subst hm
                exact gRetI C0 hw dX8_put_77
              · have hm := ipos hc hm
                refine lv_iload hx hb dX8_put_67 (lv_at hl 5 rfl) ?_
                refine lv_i2s (v := a3.toInt16.toInt32) hx hb dX8_put_69 rfl ?_
                refine lv_goto (tgt := 75) hx hb dX8_put_70 (by decide) ?_
                obtain ⟨hin, hm⟩ := gdE hm
                have hin := inbE hin
                refine gAstI (ws' := (W_x_put g h0 h1 h2 h3 h4 h5 h6 h7 h8 h9 h10 h11 h12 h13 h14 h15 h16 h17 h18 h19 h20 v_toldIsStale v_latestFinding v_sheets0_form v_sheets0_size v_sheets0_items v_sheets1_form v_sheets1_size v_sheets1_items v_sheets2_form v_sheets2_size v_sheets2_items v_sheets3_form v_sheets3_size (upd v_sheets3_items a2.toNatClampNeg a3.toInt16.toInt32))) C0 hw 8 rfl hin rfl dX8_put_75 (fun H locs hw => ?_)
                refine lv_iconst (v := 1) hx hb dX8_put_76 (by decide) ?_
                have hm := Option.some.inj hm
                subst hm
                exact gRetI C0 hw dX8_put_77
            · have hm := ipos hc hm
              refine lv_iload hx hb dX8_put_56 (lv_at hl 5 rfl) ?_
              refine lv_i2b (v := a3.toInt8.toInt32) hx hb dX8_put_58 rfl ?_
              refine lv_goto (tgt := 75) hx hb dX8_put_59 (by decide) ?_
              obtain ⟨hin, hm⟩ := gdE hm
              have hin := inbE hin
              refine gAstI (ws' := (W_x_put g h0 h1 h2 h3 h4 h5 h6 h7 h8 h9 h10 h11 h12 h13 h14 h15 h16 h17 h18 h19 h20 v_toldIsStale v_latestFinding v_sheets0_form v_sheets0_size v_sheets0_items v_sheets1_form v_sheets1_size v_sheets1_items v_sheets2_form v_sheets2_size v_sheets2_items v_sheets3_form v_sheets3_size (upd v_sheets3_items a2.toNatClampNeg a3.toInt8.toInt32))) C0 hw 8 rfl hin rfl dX8_put_75 (fun H locs hw => ?_)
              refine lv_iconst (v := 1) hx hb dX8_put_76 (by decide) ?_
              have hm := Option.some.inj hm
              subst hm
              exact gRetI C0 hw dX8_put_77
          have hm := ineg hs3 hm
          cases hm
        · have hm := ineg hc hm
          refine lv_aload_n hx hb dX8_put_35 rfl (lv_at hl 1 rfl) ?_
          refine lv_iload hx hb dX8_put_36 (lv_at hl 0 rfl) ?_
          obtain ⟨o38, ho38, hm⟩ := bindE hm
          refine gCalli (ws' := (W_x_put g h0 h1 h2 h3 h4 h5 h6 h7 h8 h9 h10 h11 h12 h13 h14 h15 h16 h17 h18 h19 h20 v_toldIsStale o38.2 v_sheets0_form v_sheets0_size v_sheets0_items v_sheets1_form v_sheets1_size v_sheets1_items v_sheets2_form v_sheets2_size v_sheets2_items v_sheets3_form v_sheets3_size v_sheets3_items)) C0 hw (gRunV (As := [.int o25]) (rest := []) C0 hw lkX8_161 (c_x_found l g H.size h0 h10 h11 h12 h13 h14 h15 h16 h17 h9 h18 h19 h20 v_toldIsStale v_latestFinding o25 o38 ho38) ⟨rfl, rfl⟩ ⟨Nat.le_of_ble_eq_true rfl, Nat.le_of_ble_eq_true rfl⟩ [0] (by decide) rfl 0 rfl rfl rfl hl.1 rfl (Nat.le_of_ble_eq_true rfl) dX8_put_38) [0] [1, 2, 3, 4, 5, 6, 7, 8, 9] rfl rfl ⟨rfl, rfl, rfl, rfl, rfl, rfl, rfl, rfl, rfl, trivial⟩ [h0, h1, h2, h3, h4, h5, h6, h7, h8, h9] rfl rfl 10 rfl (by decide +kernel) (fun H locs hw => ?_)
          have hm := Option.some.inj hm
          subst hm
          exact gRetI C0 hw dX8_put_41
      have hm := ineg hs3 hm
      cases hm
    · have hm := ipos hc hm
      refine lv_bipush (v := -2) hx hb dX8_put_14 (by decide) ?_
      have hm := Option.some.inj hm
      subst hm
      exact gRetI C0 hw dX8_put_16
