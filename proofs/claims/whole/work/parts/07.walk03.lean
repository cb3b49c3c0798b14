-- WallHands$Years.tallyInto([II)V
abbrev W_ys_tallyInto (g : gG) (h0 h1 h2 h3 h4 h5 h6 h7 h8 h9 : Nat) (v_all : Int64) (v_losers : Int32) (v_standing : Nat → Int64) (p0 : Nat → Int32) (p0_n : Nat) : va_W := [(h0, .inr (7, [.ref h3, .ref h4, .ref h5, .ref h6, .long v_all, .ref h7, .ref h1, .ref h8, .ref h9, .int v_losers])), (h1, .inl (gJ g, 20, .inr (.inl v_standing))), (h2, .inl (gI g, p0_n, .inl p0))]

abbrev rm_ys_tallyInto : Room := { frames := 1, cells := 0, slots := 0, locals := 21 }

set_option maxHeartbeats 1000000 in
set_option maxRecDepth 100000 in
theorem n_ys_tallyInto_N2 {p : Program} {l : Launch} {e : Env} {s : State} {m : MethodId} {args : Array Value} {below : List Frame} {meth : Method} {c : Code} {A : Nat → Prop} {g : gG} {h0 h1 h2 h3 h4 h5 h6 h7 h8 h9 : Nat} {v_all : Int64} {v_losers : Int32} {v_standing : Nat → Int64} {p0_n : Nat} {k2 : (Nat → Int32) → Int32 → Int32 → Option (Nat → Int32)} {r : (Nat → Int32)} (C0 : gX p s m args meth c cX7_tallyInto 4 none RX7 g A) (hk2 : ∀ (p0 : Nat → Int32) (x2 : Int32) (x3 : Int32), k2 p0 x2 x3 = some r → ∀ (H : Heap) (locs : List Loc) (ls : Array Slot), gW g A s (W_ys_tallyInto g h0 h1 h2 h3 h4 h5 h6 h7 h8 h9 v_all v_losers v_standing p0 p0_n) H locs → lv_has ls 4 [(0, .ref h0), (1, .ref h2), (2, .int x2), (3, .int x3)] → W p l e rm_ys_tallyInto s m args below meth c H locs 0 0 (gQv below args s A g (W_ys_tallyInto g h0 h1 h2 h3 h4 h5 h6 h7 h8 h9 v_all v_losers v_standing r p0_n)) (F0 m 2 ls [])) : ∀ (p0 : Nat → Int32) (x2 : Int32) (x3 : Int32), f_ys_tallyInto_N2 v_standing p0_n k2 p0 x2 x3 = some r → ∀ (H : Heap) (locs : List Loc) (ls : Array Slot), gW g A s (W_ys_tallyInto g h0 h1 h2 h3 h4 h5 h6 h7 h8 h9 v_all v_losers v_standing p0 p0_n) H locs → lv_has ls 4 [(0, .ref h0), (1, .ref h2), (2, .int x2), (3, .int x3)] → W p l e rm_ys_tallyInto s m args below meth c H locs 0 0 (gQv below args s A g (W_ys_tallyInto g h0 h1 h2 h3 h4 h5 h6 h7 h8 h9 v_all v_losers v_standing r p0_n)) (F0 m 2 ls []) := by
  intro p0 x2 x3 hm H locs ls hw hl
  unfold f_ys_tallyInto_N2 at hm
  obtain ⟨hx, hb, hr, hml, hown, hts, hlocks, hK, hA⟩ := id C0
  refine lv_iload_n hx hb dX7_tallyInto_2 rfl (lv_at hl 3 rfl) ?_
  refine lv_bipush (v := 20) hx hb dX7_tallyInto_3 (by decide) ?_
  refine lv_icmp_ge (tgt := 36) hx hb dX7_tallyInto_5 (by decide) (fun hc => ?_) (fun hc => ?_)
  · have hm := ipos hc hm
    have hm := Option.some.inj hm
    subst hm
    exact gRetV C0 hw dX7_tallyInto_36
  · have hm := ineg hc hm
    refine lv_iload_n hx hb dX7_tallyInto_8 rfl (lv_at hl 2 rfl) ?_
    refine lv_iload_n hx hb dX7_tallyInto_9 rfl (lv_at hl 3 rfl) ?_
    refine lv_iadd hx hb dX7_tallyInto_10 ?_
    refine lv_aload_n hx hb dX7_tallyInto_11 rfl (lv_at hl 1 rfl) ?_
    refine gLen C0 hw 2 0 rfl rfl dX7_tallyInto_12 ?_
    refine lv_icmp_ge (tgt := 36) hx hb dX7_tallyInto_13 (by decide) (fun hc => ?_) (fun hc => ?_)
    · have hm := ipos hc hm
      have hm := Option.some.inj hm
      subst hm
      exact gRetV C0 hw dX7_tallyInto_36
    · have hm := ineg hc hm
      refine lv_aload_n hx hb dX7_tallyInto_16 rfl (lv_at hl 1 rfl) ?_
      refine lv_iload_n hx hb dX7_tallyInto_17 rfl (lv_at hl 2 rfl) ?_
      refine lv_iload_n hx hb dX7_tallyInto_18 rfl (lv_at hl 3 rfl) ?_
      refine lv_iadd hx hb dX7_tallyInto_19 ?_
      refine lv_aload_n hx hb dX7_tallyInto_20 rfl (lv_at hl 0 rfl) ?_
      refine gGet C0 hw flX7_18 0 rfl rfl dX7_tallyInto_21 ?_
      refine lv_iload_n hx hb dX7_tallyInto_24 rfl (lv_at hl 3 rfl) ?_
      obtain ⟨hin, hm⟩ := gdE hm
      have hin := inbE hin
      refine gAldJ C0 hw 1 rfl hin dX7_tallyInto_25 ?_
      obtain ⟨o26, ho26, hm⟩ := bindE hm
      refine gCalli (ws' := (W_ys_tallyInto g h0 h1 h2 h3 h4 h5 h6 h7 h8 h9 v_all v_losers v_standing p0 p0_n)) C0 hw (gRunS (As := [.long (v_standing x3.toNatClampNeg)]) (rest := [.int (x2 + x3), .ref h2]) C0 hw lkX7_101 (c_jl_bitCount l g H.size  (v_standing x3.toNatClampNeg) o26 ho26) ⟨rfl, rfl⟩ ⟨Nat.le_of_ble_eq_true rfl, Nat.le_of_ble_eq_true rfl⟩ [] (by decide) rfl rfl hl.1 rfl (Nat.le_of_ble_eq_true rfl) dX7_tallyInto_26) [] [0, 1, 2] rfl rfl ⟨rfl, rfl, rfl, trivial⟩ [h0, h1, h2] rfl rfl 3 rfl (by decide +kernel) (fun H locs hw => ?_)
      obtain ⟨hin, hm⟩ := gdE hm
      have hin := inbE hin
      refine gAstI (ws' := (W_ys_tallyInto g h0 h1 h2 h3 h4 h5 h6 h7 h8 h9 v_all v_losers v_standing (upd p0 (x2 + x3).toNatClampNeg o26) p0_n)) C0 hw 2 rfl hin rfl dX7_tallyInto_29 (fun H locs hw => ?_)
      refine lv_iinc (v := x3 + (1 : Int32)) (lv' := [(3, .int (x3 + (1 : Int32))), (0, .ref h0), (1, .ref h2), (2, .int x2)]) hx hb dX7_tallyInto_30 hl (k := 3) rfl rfl (by decide) rfl (fun ls hl => ?_)
      refine lv_goto (tgt := 2) hx hb dX7_tallyInto_33 (by decide) ?_
      exact hk2 _ _ _ hm _ _ _ hw (lv_sub hl [1, 2, 3, 0] rfl)
set_option maxHeartbeats 1000000 in
set_option maxRecDepth 100000 in
theorem l_ys_tallyInto_N2 {p : Program} {l : Launch} {e : Env} {s : State} {m : MethodId} {args : Array Value} {below : List Frame} {meth : Method} {c : Code} {A : Nat → Prop} {g : gG} {h0 h1 h2 h3 h4 h5 h6 h7 h8 h9 : Nat} {v_all : Int64} {v_losers : Int32} {v_standing : Nat → Int64} {p0_n : Nat} {r : (Nat → Int32)} (C0 : gX p s m args meth c cX7_tallyInto 4 none RX7 g A) : ∀ n : Nat, ∀ (p0 : Nat → Int32) (x2 : Int32) (x3 : Int32), iter (fun _ _ _ => none) (f_ys_tallyInto_N2 v_standing p0_n) n p0 x2 x3 = some r → ∀ (H : Heap) (locs : List Loc) (ls : Array Slot), gW g A s (W_ys_tallyInto g h0 h1 h2 h3 h4 h5 h6 h7 h8 h9 v_all v_losers v_standing p0 p0_n) H locs → lv_has ls 4 [(0, .ref h0), (1, .ref h2), (2, .int x2), (3, .int x3)] → W p l e rm_ys_tallyInto s m args below meth c H locs 0 0 (gQv below args s A g (W_ys_tallyInto g h0 h1 h2 h3 h4 h5 h6 h7 h8 h9 v_all v_losers v_standing r p0_n)) (F0 m 2 ls []) := by
  intro n
  induction n with
  | zero =>
    intro p0 x2 x3 hm
    cases hm
  | succ n ih =>
    exact n_ys_tallyInto_N2 C0  ih
set_option maxHeartbeats 1000000 in
set_option maxRecDepth 100000 in
theorem c_ys_tallyInto (l : Launch) (g : gG) (sz : Nat) (h0 h1 h2 h3 h4 h5 h6 h7 h8 h9 : Nat) (v_all : Int64) (v_losers : Int32) (v_standing : Nat → Int64) (p0 : Nat → Int32) (p0_n : Nat) (a1 : Int32) (r : (Nat → Int32)) (hm : f_ys_tallyInto v_standing p0 p0_n a1 = some r) : gMv l yX7_tallyInto cX7_tallyInto 4 none rm_ys_tallyInto g sz [.ref h0, .ref h2, .int a1] (W_ys_tallyInto g h0 h1 h2 h3 h4 h5 h6 h7 h8 h9 v_all v_losers v_standing p0 p0_n) (W_ys_tallyInto g h0 h1 h2 h3 h4 h5 h6 h7 h8 h9 v_all v_losers v_standing r p0_n) := by
  unfold f_ys_tallyInto at hm
  refine gEnterV (by decide) (Nat.le_of_ble_eq_true rfl) (fun p e s m below meth c A C0 H locs hw ls hl => ?_)
  obtain ⟨hx, hb, hr, hml, hown, hts, hlocks, hK, hA⟩ := id C0
  have C0 : gX p s m [.ref h0, .ref h2, .int a1].toArray meth c cX7_tallyInto 4 none RX7 g A := C0
  have hl : lv_has ls 4 [(0, .ref h0), (1, .ref h2), (2, .int a1)] := hl
  refine lv_iconst (v := 0) hx hb dX7_tallyInto_0 (by decide) ?_
  refine lv_istore_n (lv' := [(3, .int (0 : Int32)), (0, .ref h0), (1, .ref h2), (2, .int a1)]) hx hb dX7_tallyInto_1 rfl hl (by decide) rfl (fun ls hl => ?_)
  exact l_ys_tallyInto_N2 C0  1000 _ _ _ hm _ _ _ hw (lv_sub hl [1, 2, 3, 0] rfl)

-- WallHands.isEither(I)Z

abbrev rm_x_isEither : Room := { frames := 0, cells := 0, slots := 0, locals := 0 }

set_option maxHeartbeats 1000000 in
set_option maxRecDepth 100000 in
theorem c_x_isEither (l : Launch) (g : gG) (sz : Nat) (a0 : Int32) (r : Int32) (hm : f_x_isEither a0 = some r) : gMi l yX8_isEither cX8_isEither 1 (some .boolean) rm_x_isEither g sz [.int a0] [] r [] := by
  unfold f_x_isEither at hm
  refine gEnterI (by decide) (Nat.le_of_ble_eq_true rfl) (fun p e s m below meth c A C0 H locs hw ls hl => ?_)
  obtain ⟨hx, hb, hr, hml, hown, hts, hlocks, hK, hA⟩ := id C0
  have C0 : gX p s m [.int a0].toArray meth c cX8_isEither 1 (some .boolean) RX8 g A := C0
  have hl : lv_has ls 1 [(0, .int a0)] := hl
  refine lv_iload_n hx hb dX8_isEither_0 rfl (lv_at hl 0 rfl) ?_
  refine lv_if_eq (tgt := 9) hx hb dX8_isEither_1 (by decide) (fun hc => ?_) (fun hc => ?_)
  · have hm := ipos hc hm
    refine lv_iconst (v := 1) hx hb dX8_isEither_9 (by decide) ?_
    refine lv_goto (tgt := 14) hx hb dX8_isEither_10 (by decide) ?_
    have hm := Option.some.inj hm
    subst hm
    exact gRetZ (v := (1 : Int32)) C0 hw rfl dX8_isEither_14
  · have hm := ineg hc hm
    refine lv_iload_n hx hb dX8_isEither_4 rfl (lv_at hl 0 rfl) ?_
    refine lv_iconst (v := 1) hx hb dX8_isEither_5 (by decide) ?_
    refine lv_icmp_ne (tgt := 13) hx hb dX8_isEither_6 (by decide) (fun hc => ?_) (fun hc => ?_)
    · have hm := ineg hc hm
      refine lv_iconst (v := 0) hx hb dX8_isEither_13 (by decide) ?_
      have hm := Option.some.inj hm
      subst hm
      exact gRetZ (v := (0 : Int32)) C0 hw rfl dX8_isEither_14
    · have hm := ipos hc hm
      refine lv_iconst (v := 1) hx hb dX8_isEither_9 (by decide) ?_
      refine lv_goto (tgt := 14) hx hb dX8_isEither_10 (by decide) ?_
      have hm := Option.some.inj hm
      subst hm
      exact gRetZ (v := (1 : Int32)) C0 hw rfl dX8_isEither_14

-- WallHands.textOf(I)LWallHands$Text;
abbrev W_x_textOf (g : gG) (h0 h1 h2 h3 h4 h5 h6 h7 h8 h9 h10 h11 h12 : Nat) (v_toldIsStale : Int32) (v_latestFinding : Int32) : va_W := [(h0, .inr (8, [.ref h1, .ref h2, .ref h3, .ref h4, .ref h5, .ref h6, .ref h7, .ref h8, .ref h9, .ref h10, .ref h11, .ref h12, .int v_toldIsStale, .int v_latestFinding]))]

abbrev rm_x_textOf : Room := { frames := 0, cells := 0, slots := 0, locals := 0 }

set_option maxHeartbeats 1000000 in
set_option maxRecDepth 100000 in
theorem c_x_textOf (l : Launch) (g : gG) (sz : Nat) (h0 h1 h2 h3 h4 h5 h6 h7 h8 h9 h10 h11 h12 : Nat) (v_toldIsStale : Int32) (v_latestFinding : Int32) (a0 : Int32) (r : Nat) (hm : f_x_textOf a0 = some r) : gMr l yX8_textOf cX8_textOf 2 (some (.object "WallHands$Text")) rm_x_textOf g sz [.ref h0, .int a0] (W_x_textOf g h0 h1 h2 h3 h4 h5 h6 h7 h8 h9 h10 h11 h12 v_toldIsStale v_latestFinding) (gP r h1 h2) (W_x_textOf g h0 h1 h2 h3 h4 h5 h6 h7 h8 h9 h10 h11 h12 v_toldIsStale v_latestFinding) := by
  unfold f_x_textOf at hm
  refine gEnterR (by decide) (Nat.le_of_ble_eq_true rfl) (fun p e s m below meth c A C0 H locs hw ls hl => ?_)
  obtain ⟨hx, hb, hr, hml, hown, hts, hlocks, hK, hA⟩ := id C0
  have C0 : gX p s m [.ref h0, .int a0].toArray meth c cX8_textOf 2 (some (.object "WallHands$Text")) RX8 g A := C0
  have hl : lv_has ls 2 [(0, .ref h0), (1, .int a0)] := hl
  refine lv_iload_n hx hb dX8_textOf_0 rfl (lv_at hl 1 rfl) ?_
  refine lv_if_ne (tgt := 11) hx hb dX8_textOf_1 (by decide) (fun hc => ?_) (fun hc => ?_)
  · have hm := ineg hc hm
    refine lv_aload_n hx hb dX8_textOf_11 rfl (lv_at hl 0 rfl) ?_
    refine gGet C0 hw flX8_18 0 rfl rfl dX8_textOf_12 ?_
    have hm := Option.some.inj hm
    subst hm
    exact gRetR C0 hw dX8_textOf_15
  · have hm := ipos hc hm
    refine lv_aload_n hx hb dX8_textOf_4 rfl (lv_at hl 0 rfl) ?_
    refine gGet C0 hw flX8_14 0 rfl rfl dX8_textOf_5 ?_
    refine lv_goto (tgt := 15) hx hb dX8_textOf_8 (by decide) ?_
    have hm := Option.some.inj hm
    subst hm
    exact gRetR C0 hw dX8_textOf_15

-- WallHands.retell(I)V
abbrev W_x_retell (g : gG) (h0 h1 h2 h3 h4 h5 h6 h7 h8 h9 h10 h11 h12 h13 h14 h15 h16 h17 : Nat) (v_toldIsStale : Int32) (v_latestFinding : Int32) (v_wallText_length : Int32) (v_wallText_bytes : Nat → Int32) (v_handsText_length : Int32) (v_handsText_bytes : Nat → Int32) (v_wall_courses : Int32) (v_wall_columns : Int32) (v_wall_fault : Int32) (v_wall_jump : Int32) (v_wall_stones : Nat → Int64) (v_hands_told : Int32) (v_hands_fault : Int32) (v_hands_mood : Nat → Int32) (v_hands_strong : Nat → Int32) : va_W := [(h0, .inr (8, [.ref h1, .ref h3, .ref h5, .ref h7, .ref h10, .ref h11, .ref h12, .ref h13, .ref h14, .ref h15, .ref h16, .ref h17, .int v_toldIsStale, .int v_latestFinding])), (h1, .inr (5, [.ref h2, .int v_wallText_length])), (h2, .inl (gI g, 44, .inl v_wallText_bytes)), (h3, .inr (5, [.ref h4, .int v_handsText_length])), (h4, .inl (gI g, 23, .inl v_handsText_bytes)), (h5, .inr (6, [.ref h6, .int v_wall_courses, .int v_wall_columns, .int v_wall_fault, .int v_wall_jump])), (h6, .inl (gJ g, 8, .inr (.inl v_wall_stones))), (h7, .inr (2, [.ref h8, .ref h9, .int v_hands_told, .int v_hands_fault])), (h8, .inl (gI g, 8, .inl v_hands_mood)), (h9, .inl (gI g, 8, .inl v_hands_strong))]

abbrev rm_x_retell : Room := { frames := 6, cells := 0, slots := 0, locals := 136 }

set_option maxHeartbeats 1000000 in
set_option maxRecDepth 100000 in
theorem c_x_retell (l : Launch) (g : gG) (sz : Nat) (h0 h1 h2 h3 h4 h5 h6 h7 h8 h9 h10 h11 h12 h13 h14 h15 h16 h17 : Nat) (v_toldIsStale : Int32) (v_latestFinding : Int32) (v_wallText_length : Int32) (v_wallText_bytes : Nat → Int32) (v_handsText_length : Int32) (v_handsText_bytes : Nat → Int32) (v_wall_courses : Int32) (v_wall_columns : Int32) (v_wall_fault : Int32) (v_wall_jump : Int32) (v_wall_stones : Nat → Int64) (v_hands_told : Int32) (v_hands_fault : Int32) (v_hands_mood : Nat → Int32) (v_hands_strong : Nat → Int32) (a0 : Int32) (r : (Int32 × Int32 × Int32 × Int32 × (Nat → Int64) × Int32 × Int32 × (Nat → Int32) × (Nat → Int32))) (hm : f_x_retell v_toldIsStale v_wallText_length v_wallText_bytes v_handsText_length v_handsText_bytes v_wall_courses v_wall_columns v_wall_fault v_wall_stones v_hands_told v_hands_fault v_hands_mood v_hands_strong a0 = some r) : gMv l yX8_retell cX8_retell 2 none rm_x_retell g sz [.ref h0, .int a0] (W_x_retell g h0 h1 h2 h3 h4 h5 h6 h7 h8 h9 h10 h11 h12 h13 h14 h15 h16 h17 v_toldIsStale v_latestFinding v_wallText_length v_wallText_bytes v_handsText_length v_handsText_bytes v_wall_courses v_wall_columns v_wall_fault v_wall_jump v_wall_stones v_hands_told v_hands_fault v_hands_mood v_hands_strong) (W_x_retell g h0 h1 h2 h3 h4 h5 h6 h7 h8 h9 h10 h11 h12 h13 h14 h15 h16 h17 r.1 v_latestFinding v_wallText_length v_wallText_bytes v_handsText_length v_handsText_bytes r.2.1 r.2.2.1 r.2.2.2.1 v_wall_jump r.2.2.2.2.1 r.2.2.2.2.2.1 r.2.2.2.2.2.2.1 r.2.2.2.2.2.2.2.1 r.2.2.2.2.2.2.2.2) := by
  unfold f_x_retell at hm
  refine gEnterV (by decide) (Nat.le_of_ble_eq_true rfl) (fun p e s m below meth c A C0 H locs hw ls hl => ?_)
  obtain ⟨hx, hb, hr, hml, hown, hts, hlocks, hK, hA⟩ := id C0
  have C0 : gX p s m [.ref h0, .int a0].toArray meth c cX8_retell 2 none RX8 g A := C0
  have hl : lv_has ls 2 [(0, .ref h0), (1, .int a0)] := hl
  refine lv_iload_n hx hb dX8_retell_0 rfl (lv_at hl 1 rfl) ?_
  refine lv_if_ne (tgt := 18) hx hb dX8_retell_1 (by decide) (fun hc => ?_) (fun hc => ?_)
  · have hm := ineg hc hm
    refine lv_aload_n hx hb dX8_retell_18 rfl (lv_at hl 0 rfl) ?_
    refine gGet C0 hw flX8_31 0 rfl rfl dX8_retell_19 ?_
    refine lv_aload_n hx hb dX8_retell_22 rfl (lv_at hl 0 rfl) ?_
    refine gGet C0 hw flX8_18 0 rfl rfl dX8_retell_23 ?_
    obtain ⟨o26, ho26, hm⟩ := bindE hm
    refine gCallv (ws' := (W_x_retell g h0 h1 h2 h3 h4 h5 h6 h7 h8 h9 h10 h11 h12 h13 h14 h15 h16 h17 v_toldIsStale v_latestFinding v_wallText_length v_wallText_bytes v_handsText_length v_handsText_bytes v_wall_courses v_wall_columns v_wall_fault v_wall_jump v_wall_stones o26.1 o26.2.1 o26.2.2.1 o26.2.2.2)) C0 hw (gRunV (As := [.ref h3]) (rest := []) C0 hw lkX8_353 (c_hs_tell l g H.size h7 h8 h9 h3 h4 v_hands_told v_hands_fault v_hands_mood v_hands_strong v_handsText_length v_handsText_bytes 23 o26 ho26) ⟨rfl, rfl⟩ ⟨Nat.le_of_ble_eq_true rfl, Nat.le_of_ble_eq_true rfl⟩ [7, 8, 9, 3, 4] (by decide) rfl 7 rfl rfl rfl hl.1 rfl (Nat.le_of_ble_eq_true rfl) dX8_retell_26) [7, 8, 9, 3, 4] [0, 1, 2, 5, 6] rfl rfl ⟨rfl, rfl, rfl, rfl, rfl, trivial⟩ [h0, h1, h2, h3, h4, h5, h6, h7, h8, h9] rfl rfl 10 rfl (by decide +kernel) (fun H locs hw => ?_)
    refine lv_aload_n hx hb dX8_retell_29 rfl (lv_at hl 0 rfl) ?_
    refine lv_iconst (v := 1) hx hb dX8_retell_30 (by decide) ?_
    refine gPut (ws' := (W_x_retell g h0 h1 h2 h3 h4 h5 h6 h7 h8 h9 h10 h11 h12 h13 h14 h15 h16 h17 (1 : Int32) v_latestFinding v_wallText_length v_wallText_bytes v_handsText_length v_handsText_bytes v_wall_courses v_wall_columns v_wall_fault v_wall_jump v_wall_stones o26.1 o26.2.1 o26.2.2.1 o26.2.2.2)) C0 hw fpX8_81 0 rfl rfl rfl (Nat.le_of_ble_eq_true rfl) rfl dX8_retell_31 (fun H locs hw => ?_)
    have hm := Option.some.inj hm
    subst hm
    exact gRetV C0 hw dX8_retell_34
  · have hm := ipos hc hm
    refine lv_aload_n hx hb dX8_retell_4 rfl (lv_at hl 0 rfl) ?_
    refine gGet C0 hw flX8_24 0 rfl rfl dX8_retell_5 ?_
    refine lv_aload_n hx hb dX8_retell_8 rfl (lv_at hl 0 rfl) ?_
    refine gGet C0 hw flX8_14 0 rfl rfl dX8_retell_9 ?_
    obtain ⟨o12, ho12, hm⟩ := bindE hm
    refine gCallv (ws' := (W_x_retell g h0 h1 h2 h3 h4 h5 h6 h7 h8 h9 h10 h11 h12 h13 h14 h15 h16 h17 v_toldIsStale v_latestFinding v_wallText_length v_wallText_bytes v_handsText_length v_handsText_bytes o12.1 o12.2.1 o12.2.2.1 v_wall_jump o12.2.2.2 v_hands_told v_hands_fault v_hands_mood v_hands_strong)) C0 hw (gRunV (As := [.ref h1]) (rest := []) C0 hw lkX8_349 (c_wl_tell l g H.size h5 h6 h1 h2 v_wall_courses v_wall_columns v_wall_fault v_wall_jump v_wall_stones v_wallText_length v_wallText_bytes 44 o12 ho12) ⟨rfl, rfl⟩ ⟨Nat.le_of_ble_eq_true rfl, Nat.le_of_ble_eq_true rfl⟩ [5, 6, 1, 2] (by decide) rfl 5 rfl rfl rfl hl.1 rfl (Nat.le_of_ble_eq_true rfl) dX8_retell_12) [5, 6, 1, 2] [0, 3, 4, 7, 8, 9] rfl rfl ⟨rfl, rfl, rfl, rfl, rfl, rfl, trivial⟩ [h0, h1, h2, h3, h4, h5, h6, h7, h8, h9] rfl rfl 10 rfl (by decide +kernel) (fun H locs hw => ?_)
    refine lv_goto (tgt := 29) hx hb dX8_retell_15 (by decide) ?_
    refine lv_aload_n hx hb dX8_retell_29 rfl (lv_at hl 0 rfl) ?_
    refine lv_iconst (v := 1) hx hb dX8_retell_30 (by decide) ?_
    refine gPut (ws' := (W_x_retell g h0 h1 h2 h3 h4 h5 h6 h7 h8 h9 h10 h11 h12 h13 h14 h15 h16 h17 (1 : Int32) v_latestFinding v_wallText_length v_wallText_bytes v_handsText_length v_handsText_bytes o12.1 o12.2.1 o12.2.2.1 v_wall_jump o12.2.2.2 v_hands_told v_hands_fault v_hands_mood v_hands_strong)) C0 hw fpX8_81 0 rfl rfl rfl (Nat.le_of_ble_eq_true rfl) rfl dX8_retell_31 (fun H locs hw => ?_)
    have hm := Option.some.inj hm
    subst hm
    exact gRetV C0 hw dX8_retell_34

-- WallHands.type(II)I
abbrev W_x_type (g : gG) (h0 h1 h2 h3 h4 h5 h6 h7 h8 h9 h10 h11 h12 h13 h14 h15 h16 h17 : Nat) (v_toldIsStale : Int32) (v_latestFinding : Int32) (v_wallText_length : Int32) (v_wallText_bytes : Nat → Int32) (v_handsText_length : Int32) (v_handsText_bytes : Nat → Int32) (v_wall_courses : Int32) (v_wall_columns : Int32) (v_wall_fault : Int32) (v_wall_jump : Int32) (v_wall_stones : Nat → Int64) (v_hands_told : Int32) (v_hands_fault : Int32) (v_hands_mood : Nat → Int32) (v_hands_strong : Nat → Int32) : va_W := [(h0, .inr (8, [.ref h1, .ref h3, .ref h5, .ref h7, .ref h10, .ref h11, .ref h12, .ref h13, .ref h14, .ref h15, .ref h16, .ref h17, .int v_toldIsStale, .int v_latestFinding])), (h1, .inr (5, [.ref h2, .int v_wallText_length])), (h2, .inl (gI g, 44, .inl v_wallText_bytes)), (h3, .inr (5, [.ref h4, .int v_handsText_length])), (h4, .inl (gI g, 23, .inl v_handsText_bytes)), (h5, .inr (6, [.ref h6, .int v_wall_courses, .int v_wall_columns, .int v_wall_fault, .int v_wall_jump])), (h6, .inl (gJ g, 8, .inr (.inl v_wall_stones))), (h7, .inr (2, [.ref h8, .ref h9, .int v_hands_told, .int v_hands_fault])), (h8, .inl (gI g, 8, .inl v_hands_mood)), (h9, .inl (gI g, 8, .inl v_hands_strong))]

abbrev rm_x_type : Room := { frames := 7, cells := 0, slots := 0, locals := 157 }

set_option maxHeartbeats 1000000 in
set_option maxRecDepth 100000 in
theorem c_x_type (l : Launch) (g : gG) (sz : Nat) (h0 h1 h2 h3 h4 h5 h6 h7 h8 h9 h10 h11 h12 h13 h14 h15 h16 h17 : Nat) (v_toldIsStale : Int32) (v_latestFinding : Int32) (v_wallText_length : Int32) (v_wallText_bytes : Nat → Int32) (v_handsText_length : Int32) (v_handsText_bytes : Nat → Int32) (v_wall_courses : Int32) (v_wall_columns : Int32) (v_wall_fault : Int32) (v_wall_jump : Int32) (v_wall_stones : Nat → Int64) (v_hands_told : Int32) (v_hands_fault : Int32) (v_hands_mood : Nat → Int32) (v_hands_strong : Nat → Int32) (a0 : Int32) (a1 : Int32) (r : (Int32 × Int32 × Int32 × (Nat → Int32) × Int32 × (Nat → Int32) × Int32 × Int32 × Int32 × (Nat → Int64) × Int32 × Int32 × (Nat → Int32) × (Nat → Int32))) (hm : f_x_type v_toldIsStale v_wallText_length v_wallText_bytes v_handsText_length v_handsText_bytes v_wall_courses v_wall_columns v_wall_fault v_wall_stones v_hands_told v_hands_fault v_hands_mood v_hands_strong a0 a1 = some r) : gMi l yX8_type cX8_type 4 (some .int) rm_x_type g sz [.ref h0, .int a0, .int a1] (W_x_type g h0 h1 h2 h3 h4 h5 h6 h7 h8 h9 h10 h11 h12 h13 h14 h15 h16 h17 v_toldIsStale v_latestFinding v_wallText_length v_wallText_bytes v_handsText_length v_handsText_bytes v_wall_courses v_wall_columns v_wall_fault v_wall_jump v_wall_stones v_hands_told v_hands_fault v_hands_mood v_hands_strong) r.1 (W_x_type g h0 h1 h2 h3 h4 h5 h6 h7 h8 h9 h10 h11 h12 h13 h14 h15 h16 h17 r.2.1 v_latestFinding r.2.2.1 r.2.2.2.1 r.2.2.2.2.1 r.2.2.2.2.2.1 r.2.2.2.2.2.2.1 r.2.2.2.2.2.2.2.1 r.2.2.2.2.2.2.2.2.1 v_wall_jump r.2.2.2.2.2.2.2.2.2.1 r.2.2.2.2.2.2.2.2.2.2.1 r.2.2.2.2.2.2.2.2.2.2.2.1 r.2.2.2.2.2.2.2.2.2.2.2.2.1 r.2.2.2.2.2.2.2.2.2.2.2.2.2) := by
  unfold f_x_type at hm
  refine gEnterI (by decide) (Nat.le_of_ble_eq_true rfl) (fun p e s m below meth c A C0 H locs hw ls hl => ?_)
  obtain ⟨hx, hb, hr, hml, hown, hts, hlocks, hK, hA⟩ := id C0
  have C0 : gX p s m [.ref h0, .int a0, .int a1].toArray meth c cX8_type 4 (some .int) RX8 g A := C0
  have hl : lv_has ls 4 [(0, .ref h0), (1, .int a0), (2, .int a1)] := hl
  refine lv_iload_n hx hb dX8_type_0 rfl (lv_at hl 1 rfl) ?_
  obtain ⟨o1, ho1, hm⟩ := bindE hm
  refine gCalli (ws' := (W_x_type g h0 h1 h2 h3 h4 h5 h6 h7 h8 h9 h10 h11 h12 h13 h14 h15 h16 h17 v_toldIsStale v_latestFinding v_wallText_length v_wallText_bytes v_handsText_length v_handsText_bytes v_wall_courses v_wall_columns v_wall_fault v_wall_jump v_wall_stones v_hands_told v_hands_fault v_hands_mood v_hands_strong)) C0 hw (gRunS (As := [.int a0]) (rest := []) C0 hw lkX8_90 (c_x_isEither l g H.size  a0 o1 ho1) ⟨rfl, rfl⟩ ⟨Nat.le_of_ble_eq_true rfl, Nat.le_of_ble_eq_true rfl⟩ [] (by decide) rfl rfl hl.1 rfl (Nat.le_of_ble_eq_true rfl) dX8_type_1) [] [0, 1, 2, 3, 4, 5, 6, 7, 8, 9] rfl rfl ⟨rfl, rfl, rfl, rfl, rfl, rfl, rfl, rfl, rfl, rfl, trivial⟩ [h0, h1, h2, h3, h4, h5, h6, h7, h8, h9] rfl rfl 10 rfl (by decide +kernel) (fun H locs hw => ?_)
  refine lv_if_eq (tgt := 18) hx hb dX8_type_4 (by decide) (fun hc => ?_) (fun hc => ?_)
  · have hm := ipos hc hm
    refine lv_bipush (v := -2) hx hb dX8_type_18 (by decide) ?_
    have hm := Option.some.inj hm
    subst hm
    exact gRetI C0 hw dX8_type_20
  · have hm := ineg hc hm
    refine lv_iload_n hx hb dX8_type_7 rfl (lv_at hl 2 rfl) ?_
    refine lv_iconst (v := 0) hx hb dX8_type_8 (by decide) ?_
    refine lv_sipush (v := 255) hx hb dX8_type_9 (by decide) ?_
    obtain ⟨o12, ho12, hm⟩ := bindE hm
    refine gCalli (ws' := (W_x_type g h0 h1 h2 h3 h4 h5 h6 h7 h8 h9 h10 h11 h12 h13 h14 h15 h16 h17 v_toldIsStale v_latestFinding v_wallText_length v_wallText_bytes v_handsText_length v_handsText_bytes v_wall_courses v_wall_columns v_wall_fault v_wall_jump v_wall_stones v_hands_told v_hands_fault v_hands_mood v_hands_strong)) C0 hw (gRunS (As := [.int a1, .int (0 : Int32), .int (255 : Int32)]) (rest := []) C0 hw lkX8_94 (c_x_within l g H.size  a1 (0 : Int32) (255 : Int32) o12 ho12) ⟨rfl, rfl⟩ ⟨Nat.le_of_ble_eq_true rfl, Nat.le_of_ble_eq_true rfl⟩ [] (by decide) rfl rfl hl.1 rfl (Nat.le_of_ble_eq_true rfl) dX8_type_12) [] [0, 1, 2, 3, 4, 5, 6, 7, 8, 9] rfl rfl ⟨rfl, rfl, rfl, rfl, rfl, rfl, rfl, rfl, rfl, rfl, trivial⟩ [h0, h1, h2, h3, h4, h5, h6, h7, h8, h9] rfl rfl 10 rfl (by decide +kernel) (fun H locs hw => ?_)
    refine lv_if_ne (tgt := 21) hx hb dX8_type_15 (by decide) (fun hc => ?_) (fun hc => ?_)
    · have hm := ineg hc hm
      refine lv_aload_n hx hb dX8_type_21 rfl (lv_at hl 0 rfl) ?_
      refine lv_iload_n hx hb dX8_type_22 rfl (lv_at hl 1 rfl) ?_
      obtain ⟨o23, ho23, hm⟩ := bindE hm
      refine gCallr (ws' := (W_x_type g h0 h1 h2 h3 h4 h5 h6 h7 h8 h9 h10 h11 h12 h13 h14 h15 h16 h17 v_toldIsStale v_latestFinding v_wallText_length v_wallText_bytes v_handsText_length v_handsText_bytes v_wall_courses v_wall_columns v_wall_fault v_wall_jump v_wall_stones v_hands_told v_hands_fault v_hands_mood v_hands_strong)) C0 hw (gRunV (As := [.int a0]) (rest := []) C0 hw lkX8_98 (c_x_textOf l g H.size h0 h1 h3 h5 h7 h10 h11 h12 h13 h14 h15 h16 h17 v_toldIsStale v_latestFinding a0 o23 ho23) ⟨rfl, rfl⟩ ⟨Nat.le_of_ble_eq_true rfl, Nat.le_of_ble_eq_true rfl⟩ [0] (by decide) rfl 0 rfl rfl rfl hl.1 rfl (Nat.le_of_ble_eq_true rfl) dX8_type_23) [0] [1, 2, 3, 4, 5, 6, 7, 8, 9] rfl rfl ⟨rfl, rfl, rfl, rfl, rfl, rfl, rfl, rfl, rfl, trivial⟩ [h0, h1, h2, h3, h4, h5, h6, h7, h8, h9] rfl rfl 10 rfl (by decide +kernel) (fun H locs hw => ?_)
      by_cases hr0 : o23 = 0
      · have hm := ipos hr0 hm
        rw [gPick hr0]
        refine lv_astore_n (lv' := [(3, .ref h1), (0, .ref h0), (1, .int a0), (2, .int a1)]) hx hb dX8_type_26 rfl hl (by decide) rfl (fun ls hl => ?_)
        refine lv_aload_n hx hb dX8_type_27 rfl (lv_at hl 0 rfl) ?_
        refine gGet C0 hw flX8_102 1 rfl rfl dX8_type_28 ?_
        refine lv_aload_n hx hb dX8_type_31 rfl (lv_at hl 0 rfl) ?_
        refine gGet C0 hw flX8_105 1 rfl rfl dX8_type_32 ?_
        refine gLen C0 hw 2 0 rfl rfl dX8_type_35 ?_
        refine lv_icmp_lt (tgt := 42) hx hb dX8_type_36 (by decide) (fun hc => ?_) (fun hc => ?_)
        · have hm := ipos hc hm
          refine lv_aload_n hx hb dX8_type_42 rfl (lv_at hl 0 rfl) ?_
          refine gGet C0 hw flX8_105 1 rfl rfl dX8_type_43 ?_
          refine lv_aload_n hx hb dX8_type_46 rfl (lv_at hl 0 rfl) ?_
          refine gGet C0 hw flX8_102 1 rfl rfl dX8_type_47 ?_
          refine lv_iload_n hx hb dX8_type_50 rfl (lv_at hl 3 rfl) ?_
          obtain ⟨hin, hm⟩ := gdE hm
          have hin := inbE hin
          refine gAstI (ws' := (W_x_type g h0 h1 h2 h3 h4 h5 h6 h7 h8 h9 h10 h11 h12 h13 h14 h15 h16 h17 v_toldIsStale v_latestFinding v_wallText_length (upd v_wallText_bytes v_wallText_length.toNatClampNeg a1) v_handsText_length v_handsText_bytes v_wall_courses v_wall_columns v_wall_fault v_wall_jump v_wall_stones v_hands_told v_hands_fault v_hands_mood v_hands_strong)) C0 hw 2 rfl hin rfl dX8_type_51 (fun H locs hw => ?_)
          refine lv_aload_n hx hb dX8_type_52 rfl (lv_at hl 0 rfl) ?_
          refine lv_dup hx hb dX8_type_53 rfl ?_
          refine gGet C0 hw flX8_102 1 rfl rfl dX8_type_54 ?_
          refine lv_iconst (v := 1) hx hb dX8_type_57 (by decide) ?_
          refine lv_iadd hx hb dX8_type_58 ?_
          refine gPut (ws' := (W_x_type g h0 h1 h2 h3 h4 h5 h6 h7 h8 h9 h10 h11 h12 h13 h14 h15 h16 h17 v_toldIsStale v_latestFinding (v_wallText_length + (1 : Int32)) (upd v_wallText_bytes v_wallText_length.toNatClampNeg a1) v_handsText_length v_handsText_bytes v_wall_courses v_wall_columns v_wall_fault v_wall_jump v_wall_stones v_hands_told v_hands_fault v_hands_mood v_hands_strong)) C0 hw fpX8_102 1 rfl rfl rfl (Nat.le_of_ble_eq_true rfl) rfl dX8_type_59 (fun H locs hw => ?_)
          refine lv_aload_n hx hb dX8_type_62 rfl (lv_at hl 1 rfl) ?_
          refine lv_iload_n hx hb dX8_type_63 rfl (lv_at hl 2 rfl) ?_
          obtain ⟨o64, ho64, hm⟩ := bindE hm
          refine gCallv (ws' := (W_x_type g h0 h1 h2 h3 h4 h5 h6 h7 h8 h9 h10 h11 h12 h13 h14 h15 h16 h17 o64.1 v_latestFinding (v_wallText_length + (1 : Int32)) (upd v_wallText_bytes v_wallText_length.toNatClampNeg a1) v_handsText_length v_handsText_bytes o64.2.1 o64.2.2.1 o64.2.2.2.1 v_wall_jump o64.2.2.2.2.1 o64.2.2.2.2.2.1 o64.2.2.2.2.2.2.1 o64.2.2.2.2.2.2.2.1 o64.2.2.2.2.2.2.2.2)) C0 hw (gRunV (As := [.int a0]) (rest := []) C0 hw lkX8_108 (c_x_retell l g H.size h0 h1 h2 h3 h4 h5 h6 h7 h8 h9 h10 h11 h12 h13 h14 h15 h16 h17 v_toldIsStale v_latestFinding (v_wallText_length + (1 : Int32)) (upd v_wallText_bytes v_wallText_length.toNatClampNeg a1) v_handsText_length v_handsText_bytes v_wall_courses v_wall_columns v_wall_fault v_wall_jump v_wall_stones v_hands_told v_hands_fault v_hands_mood v_hands_strong a0 o64 ho64) ⟨rfl, rfl⟩ ⟨Nat.le_of_ble_eq_true rfl, Nat.le_of_ble_eq_true rfl⟩ [0, 1, 2, 3, 4, 5, 6, 7, 8, 9] (by decide) rfl 0 rfl rfl rfl hl.1 rfl (Nat.le_of_ble_eq_true rfl) dX8_type_64) [0, 1, 2, 3, 4, 5, 6, 7, 8, 9] [] rfl rfl trivial [h0, h1, h2, h3, h4, h5, h6, h7, h8, h9] rfl rfl 10 rfl (by decide +kernel) (fun H locs hw => ?_)
          refine lv_aload_n hx hb dX8_type_67 rfl (lv_at hl 0 rfl) ?_
          refine gGet C0 hw flX8_102 1 rfl rfl dX8_type_68 ?_
          have hm := Option.some.inj hm
          subst hm
          exact gRetI C0 hw dX8_type_71
        · have hm := ineg hc hm
          refine lv_bipush (v := -4) hx hb dX8_type_39 (by decide) ?_
          have hm := Option.some.inj hm
          subst hm
          exact gRetI C0 hw dX8_type_41
      have hm := ineg hr0 hm
      rw [gPickN hr0]
      refine lv_astore_n (lv' := [(3, .ref h3), (0, .ref h0), (1, .int a0), (2, .int a1)]) hx hb dX8_type_26 rfl hl (by decide) rfl (fun ls hl => ?_)
      refine lv_aload_n hx hb dX8_type_27 rfl (lv_at hl 0 rfl) ?_
      refine gGet C0 hw flX8_102 3 rfl rfl dX8_type_28 ?_
      refine lv_aload_n hx hb dX8_type_31 rfl (lv_at hl 0 rfl) ?_
      refine gGet C0 hw flX8_105 3 rfl rfl dX8_type_32 ?_
      refine gLen C0 hw 4 0 rfl rfl dX8_type_35 ?_
      refine lv_icmp_lt (tgt := 42) hx hb dX8_type_36 (by decide) (fun hc => ?_) (fun hc => ?_)
      · have hm := ipos hc hm
        refine lv_aload_n hx hb dX8_type_42 rfl (lv_at hl 0 rfl) ?_
        refine gGet C0 hw flX8_105 3 rfl rfl dX8_type_43 ?_
        refine lv_aload_n hx hb dX8_type_46 rfl (lv_at hl 0 rfl) ?_
        refine gGet C0 hw flX8_102 3 rfl rfl dX8_type_47 ?_
        refine lv_iload_n hx hb dX8_type_50 rfl (lv_at hl 3 rfl) ?_
        obtain ⟨hin, hm⟩ := gdE hm
        have hin := inbE hin
        refine gAstI (ws' := (W_x_type g h0 h1 h2 h3 h4 h5 h6 h7 h8 h9 h10 h11 h12 h13 h14 h15 h16 h17 v_toldIsStale v_latestFinding v_wallText_length v_wallText_bytes v_handsText_length (upd v_handsText_bytes v_handsText_length.toNatClampNeg a1) v_wall_courses v_wall_columns v_wall_fault v_wall_jump v_wall_stones v_hands_told v_hands_fault v_hands_mood v_hands_strong)) C0 hw 4 rfl hin rfl dX8_type_51 (fun H locs hw => ?_)
        refine lv_aload_n hx hb dX8_type_52 rfl (lv_at hl 0 rfl) ?_
        refine lv_dup hx hb dX8_type_53 rfl ?_
        refine gGet C0 hw flX8_102 3 rfl rfl dX8_type_54 ?_
        refine lv_iconst (v := 1) hx hb dX8_type_57 (by decide) ?_
        refine lv_iadd hx hb dX8_type_58 ?_
        refine gPut (ws' := (W_x_type g h0 h1 h2 h3 h4 h5 h6 h7 h8 h9 h10 h11 h12 h13 h14 h15 h16 h17 v_toldIsStale v_latestFinding v_wallText_length v_wallText_bytes (v_handsText_length + (1 : Int32)) (upd v_handsText_bytes v_handsText_length.toNatClampNeg a1) v_wall_courses v_wall_columns v_wall_fault v_wall_jump v_wall_stones v_hands_told v_hands_fault v_hands_mood v_hands_strong)) C0 hw fpX8_102 3 rfl rfl rfl (Nat.le_of_ble_eq_true rfl) rfl dX8_type_59 (fun H locs hw => ?_)
        refine lv_aload_n hx hb dX8_type_62 rfl (lv_at hl 1 rfl) ?_
        refine lv_iload_n hx hb dX8_type_63 rfl (lv_at hl 2 rfl) ?_
        obtain ⟨o64, ho64, hm⟩ := bindE hm
        refine gCallv (ws' := (W_x_type g h0 h1 h2 h3 h4 h5 h6 h7 h8 h9 h10 h11 h12 h13 h14 h15 h16 h17 o64.1 v_latestFinding v_wallText_length v_wallText_bytes (v_handsText_length + (1 : Int32)) (upd v_handsText_bytes v_handsText_length.toNatClampNeg a1) o64.2.1 o64.2.2.1 o64.2.2.2.1 v_wall_jump o64.2.2.2.2.1 o64.2.2.2.2.2.1 o64.2.2.2.2.2.2.1 o64.2.2.2.2.2.2.2.1 o64.2.2.2.2.2.2.2.2)) C0 hw (gRunV (As := [.int a0]) (rest := []) C0 hw lkX8_108 (c_x_retell l g H.size h0 h1 h2 h3 h4 h5 h6 h7 h8 h9 h10 h11 h12 h13 h14 h15 h16 h17 v_toldIsStale v_latestFinding v_wallText_length v_wallText_bytes (v_handsText_length + (1 : Int32)) (upd v_handsText_bytes v_handsText_length.toNatClampNeg a1) v_wall_courses v_wall_columns v_wall_fault v_wall_jump v_wall_stones v_hands_told v_hands_fault v_hands_mood v_hands_strong a0 o64 ho64) ⟨rfl, rfl⟩ ⟨Nat.le_of_ble_eq_true rfl, Nat.le_of_ble_eq_true rfl⟩ [0, 1, 2, 3, 4, 5, 6, 7, 8, 9] (by decide) rfl 0 rfl rfl rfl hl.1 rfl (Nat.le_of_ble_eq_true rfl) dX8_type_64) [0, 1, 2, 3, 4, 5, 6, 7, 8, 9] [] rfl rfl trivial [h0, h1, h2, h3, h4, h5, h6, h7, h8, h9] rfl rfl 10 rfl (by decide +kernel) (fun H locs hw => ?_)
        refine lv_aload_n hx hb dX8_type_67 rfl (lv_at hl 0 rfl) ?_
        refine gGet C0 hw flX8_102 3 rfl rfl dX8_type_68 ?_
        have hm := Option.some.inj hm
        subst hm
        exact gRetI C0 hw dX8_type_71
      · have hm := ineg hc hm
        refine lv_bipush (v := -4) hx hb dX8_type_39 (by decide) ?_
        have hm := Option.some.inj hm
        subst hm
        exact gRetI C0 hw dX8_type_41
    · have hm := ipos hc hm
      refine lv_bipush (v := -2) hx hb dX8_type_18 (by decide) ?_
      have hm := Option.some.inj hm
      subst hm
      exact gRetI C0 hw dX8_type_20

-- WallHands.wipe(I)I
abbrev W_x_wipe (g : gG) (h0 h1 h2 h3 h4 h5 h6 h7 h8 h9 h10 h11 h12 h13 h14 h15 h16 h17 : Nat) (v_toldIsStale : Int32) (v_latestFinding : Int32) (v_wallText_length : Int32) (v_wallText_bytes : Nat → Int32) (v_handsText_length : Int32) (v_handsText_bytes : Nat → Int32) (v_wall_courses : Int32) (v_wall_columns : Int32) (v_wall_fault : Int32) (v_wall_jump : Int32) (v_wall_stones : Nat → Int64) (v_hands_told : Int32) (v_hands_fault : Int32) (v_hands_mood : Nat → Int32) (v_hands_strong : Nat → Int32) : va_W := [(h0, .inr (8, [.ref h1, .ref h3, .ref h5, .ref h7, .ref h10, .ref h11, .ref h12, .ref h13, .ref h14, .ref h15, .ref h16, .ref h17, .int v_toldIsStale, .int v_latestFinding])), (h1, .inr (5, [.ref h2, .int v_wallText_length])), (h2, .inl (gI g, 44, .inl v_wallText_bytes)), (h3, .inr (5, [.ref h4, .int v_handsText_length])), (h4, .inl (gI g, 23, .inl v_handsText_bytes)), (h5, .inr (6, [.ref h6, .int v_wall_courses, .int v_wall_columns, .int v_wall_fault, .int v_wall_jump])), (h6, .inl (gJ g, 8, .inr (.inl v_wall_stones))), (h7, .inr (2, [.ref h8, .ref h9, .int v_hands_told, .int v_hands_fault])), (h8, .inl (gI g, 8, .inl v_hands_mood)), (h9, .inl (gI g, 8, .inl v_hands_strong))]

abbrev rm_x_wipe : Room := { frames := 7, cells := 0, slots := 0, locals := 157 }

set_option maxHeartbeats 1000000 in
set_option maxRecDepth 100000 in
theorem c_x_wipe (l : Launch) (g : gG) (sz : Nat) (h0 h1 h2 h3 h4 h5 h6 h7 h8 h9 h10 h11 h12 h13 h14 h15 h16 h17 : Nat) (v_toldIsStale : Int32) (v_latestFinding : Int32) (v_wallText_length : Int32) (v_wallText_bytes : Nat → Int32) (v_handsText_length : Int32) (v_handsText_bytes : Nat → Int32) (v_wall_courses : Int32) (v_wall_columns : Int32) (v_wall_fault : Int32) (v_wall_jump : Int32) (v_wall_stones : Nat → Int64) (v_hands_told : Int32) (v_hands_fault : Int32) (v_hands_mood : Nat → Int32) (v_hands_strong : Nat → Int32) (a0 : Int32) (r : (Int32 × Int32 × Int32 × Int32 × Int32 × Int32 × Int32 × (Nat → Int64) × Int32 × Int32 × (Nat → Int32) × (Nat → Int32))) (hm : f_x_wipe v_toldIsStale v_wallText_length v_wallText_bytes v_handsText_length v_handsText_bytes v_wall_courses v_wall_columns v_wall_fault v_wall_stones v_hands_told v_hands_fault v_hands_mood v_hands_strong a0 = some r) : gMi l yX8_wipe cX8_wipe 4 (some .int) rm_x_wipe g sz [.ref h0, .int a0] (W_x_wipe g h0 h1 h2 h3 h4 h5 h6 h7 h8 h9 h10 h11 h12 h13 h14 h15 h16 h17 v_toldIsStale v_latestFinding v_wallText_length v_wallText_bytes v_handsText_length v_handsText_bytes v_wall_courses v_wall_columns v_wall_fault v_wall_jump v_wall_stones v_hands_told v_hands_fault v_hands_mood v_hands_strong) r.1 (W_x_wipe g h0 h1 h2 h3 h4 h5 h6 h7 h8 h9 h10 h11 h12 h13 h14 h15 h16 h17 r.2.1 v_latestFinding r.2.2.1 v_wallText_bytes r.2.2.2.1 v_handsText_bytes r.2.2.2.2.1 r.2.2.2.2.2.1 r.2.2.2.2.2.2.1 v_wall_jump r.2.2.2.2.2.2.2.1 r.2.2.2.2.2.2.2.2.1 r.2.2.2.2.2.2.2.2.2.1 r.2.2.2.2.2.2.2.2.2.2.1 r.2.2.2.2.2.2.2.2.2.2.2) := by
  unfold f_x_wipe at hm
  refine gEnterI (by decide) (Nat.le_of_ble_eq_true rfl) (fun p e s m below meth c A C0 H locs hw ls hl => ?_)
  obtain ⟨hx, hb, hr, hml, hown, hts, hlocks, hK, hA⟩ := id C0
  have C0 : gX p s m [.ref h0, .int a0].toArray meth c cX8_wipe 4 (some .int) RX8 g A := C0
  have hl : lv_has ls 4 [(0, .ref h0), (1, .int a0)] := hl
  refine lv_iload_n hx hb dX8_wipe_0 rfl (lv_at hl 1 rfl) ?_
  obtain ⟨o1, ho1, hm⟩ := bindE hm
  refine gCalli (ws' := (W_x_wipe g h0 h1 h2 h3 h4 h5 h6 h7 h8 h9 h10 h11 h12 h13 h14 h15 h16 h17 v_toldIsStale v_latestFinding v_wallText_length v_wallText_bytes v_handsText_length v_handsText_bytes v_wall_courses v_wall_columns v_wall_fault v_wall_jump v_wall_stones v_hands_told v_hands_fault v_hands_mood v_hands_strong)) C0 hw (gRunS (As := [.int a0]) (rest := []) C0 hw lkX8_90 (c_x_isEither l g H.size  a0 o1 ho1) ⟨rfl, rfl⟩ ⟨Nat.le_of_ble_eq_true rfl, Nat.le_of_ble_eq_true rfl⟩ [] (by decide) rfl rfl hl.1 rfl (Nat.le_of_ble_eq_true rfl) dX8_wipe_1) [] [0, 1, 2, 3, 4, 5, 6, 7, 8, 9] rfl rfl ⟨rfl, rfl, rfl, rfl, rfl, rfl, rfl, rfl, rfl, rfl, trivial⟩ [h0, h1, h2, h3, h4, h5, h6, h7, h8, h9] rfl rfl 10 rfl (by decide +kernel) (fun H locs hw => ?_)
  refine lv_if_ne (tgt := 10) hx hb dX8_wipe_4 (by decide) (fun hc => ?_) (fun hc => ?_)
  · have hm := ineg hc hm
    refine lv_aload_n hx hb dX8_wipe_10 rfl (lv_at hl 0 rfl) ?_
    refine lv_iload_n hx hb dX8_wipe_11 rfl (lv_at hl 1 rfl) ?_
    obtain ⟨o12, ho12, hm⟩ := bindE hm
    refine gCallr (ws' := (W_x_wipe g h0 h1 h2 h3 h4 h5 h6 h7 h8 h9 h10 h11 h12 h13 h14 h15 h16 h17 v_toldIsStale v_latestFinding v_wallText_length v_wallText_bytes v_handsText_length v_handsText_bytes v_wall_courses v_wall_columns v_wall_fault v_wall_jump v_wall_stones v_hands_told v_hands_fault v_hands_mood v_hands_strong)) C0 hw (gRunV (As := [.int a0]) (rest := []) C0 hw lkX8_98 (c_x_textOf l g H.size h0 h1 h3 h5 h7 h10 h11 h12 h13 h14 h15 h16 h17 v_toldIsStale v_latestFinding a0 o12 ho12) ⟨rfl, rfl⟩ ⟨Nat.le_of_ble_eq_true rfl, Nat.le_of_ble_eq_true rfl⟩ [0] (by decide) rfl 0 rfl rfl rfl hl.1 rfl (Nat.le_of_ble_eq_true rfl) dX8_wipe_12) [0] [1, 2, 3, 4, 5, 6, 7, 8, 9] rfl rfl ⟨rfl, rfl, rfl, rfl, rfl, rfl, rfl, rfl, rfl, trivial⟩ [h0, h1, h2, h3, h4, h5, h6, h7, h8, h9] rfl rfl 10 rfl (by decide +kernel) (fun H locs hw => ?_)
    by_cases hr0 : o12 = 0
    · have hm := ipos hr0 hm
      rw [gPick hr0]
      refine lv_astore_n (lv' := [(2, .ref h1), (0, .ref h0), (1, .int a0)]) hx hb dX8_wipe_15 rfl hl (by decide) rfl (fun ls hl => ?_)
      refine lv_aload_n hx hb dX8_wipe_16 rfl (lv_at hl 0 rfl) ?_
      refine gGet C0 hw flX8_102 1 rfl rfl dX8_wipe_17 ?_
      refine lv_istore_n (lv' := [(3, .int v_wallText_length), (2, .ref h1), (0, .ref h0), (1, .int a0)]) hx hb dX8_wipe_20 rfl hl (by decide) rfl (fun ls hl => ?_)
      refine lv_aload_n hx hb dX8_wipe_21 rfl (lv_at hl 1 rfl) ?_
      refine lv_iconst (v := 0) hx hb dX8_wipe_22 (by decide) ?_
      refine gPut (ws' := (W_x_wipe g h0 h1 h2 h3 h4 h5 h6 h7 h8 h9 h10 h11 h12 h13 h14 h15 h16 h17 v_toldIsStale v_latestFinding (0 : Int32) v_wallText_bytes v_handsText_length v_handsText_bytes v_wall_courses v_wall_columns v_wall_fault v_wall_jump v_wall_stones v_hands_told v_hands_fault v_hands_mood v_hands_strong)) C0 hw fpX8_102 1 rfl rfl rfl (Nat.le_of_ble_eq_true rfl) rfl dX8_wipe_23 (fun H locs hw => ?_)
      refine lv_aload_n hx hb dX8_wipe_26 rfl (lv_at hl 2 rfl) ?_
      refine lv_iload_n hx hb dX8_wipe_27 rfl (lv_at hl 3 rfl) ?_
      obtain ⟨o28, ho28, hm⟩ := bindE hm
      refine gCallv (ws' := (W_x_wipe g h0 h1 h2 h3 h4 h5 h6 h7 h8 h9 h10 h11 h12 h13 h14 h15 h16 h17 o28.1 v_latestFinding (0 : Int32) v_wallText_bytes v_handsText_length v_handsText_bytes o28.2.1 o28.2.2.1 o28.2.2.2.1 v_wall_jump o28.2.2.2.2.1 o28.2.2.2.2.2.1 o28.2.2.2.2.2.2.1 o28.2.2.2.2.2.2.2.1 o28.2.2.2.2.2.2.2.2)) C0 hw (gRunV (As := [.int a0]) (rest := []) C0 hw lkX8_108 (c_x_retell l g H.size h0 h1 h2 h3 h4 h5 h6 h7 h8 h9 h10 h11 h12 h13 h14 h15 h16 h17 v_toldIsStale v_latestFinding (0 : Int32) v_wallText_bytes v_handsText_length v_handsText_bytes v_wall_courses v_wall_columns v_wall_fault v_wall_jump v_wall_stones v_hands_told v_hands_fault v_hands_mood v_hands_strong a0 o28 ho28) ⟨rfl, rfl⟩ ⟨Nat.le_of_ble_eq_true rfl, Nat.le_of_ble_eq_true rfl⟩ [0, 1, 2, 3, 4, 5, 6, 7, 8, 9] (by decide) rfl 0 rfl rfl rfl hl.1 rfl (Nat.le_of_ble_eq_true rfl) dX8_wipe_28) [0, 1, 2, 3, 4, 5, 6, 7, 8, 9] [] rfl rfl trivial [h0, h1, h2, h3, h4, h5, h6, h7, h8, h9] rfl rfl 10 rfl (by decide +kernel) (fun H locs hw => ?_)
      refine lv_iload_n hx hb dX8_wipe_31 rfl (lv_at hl 0 rfl) ?_
      have hm := Option.some.inj hm
      subst hm
      exact gRetI C0 hw dX8_wipe_32
    have hm := ineg hr0 hm
    rw [gPickN hr0]
    refine lv_astore_n (lv' := [(2, .ref h3), (0, .ref h0), (1, .int a0)]) hx hb dX8_wipe_15 rfl hl (by decide) rfl (fun ls hl => ?_)
    refine lv_aload_n hx hb dX8_wipe_16 rfl (lv_at hl 0 rfl) ?_
    refine gGet C0 hw flX8_102 3 rfl rfl dX8_wipe_17 ?_
    refine lv_istore_n (lv' := [(3, .int v_handsText_length), (2, .ref h3), (0, .ref h0), (1, .int a0)]) hx hb dX8_wipe_20 rfl hl (by decide) rfl (fun ls hl => ?_)
    refine lv_aload_n hx hb dX8_wipe_21 rfl (lv_at hl 1 rfl) ?_
    refine lv_iconst (v := 0) hx hb dX8_wipe_22 (by decide) ?_
    refine gPut (ws' := (W_x_wipe g h0 h1 h2 h3 h4 h5 h6 h7 h8 h9 h10 h11 h12 h13 h14 h15 h16 h17 v_toldIsStale v_latestFinding v_wallText_length v_wallText_bytes (0 : Int32) v_handsText_bytes v_wall_courses v_wall_columns v_wall_fault v_wall_jump v_wall_stones v_hands_told v_hands_fault v_hands_mood v_hands_strong)) C0 hw fpX8_102 3 rfl rfl rfl (Nat.le_of_ble_eq_true rfl) rfl dX8_wipe_23 (fun H locs hw => ?_)
    refine lv_aload_n hx hb dX8_wipe_26 rfl (lv_at hl 2 rfl) ?_
    refine lv_iload_n hx hb dX8_wipe_27 rfl (lv_at hl 3 rfl) ?_
    obtain ⟨o28, ho28, hm⟩ := bindE hm
    refine gCallv (ws' := (W_x_wipe g h0 h1 h2 h3 h4 h5 h6 h7 h8 h9 h10 h11 h12 h13 h14 h15 h16 h17 o28.1 v_latestFinding v_wallText_length v_wallText_bytes (0 : Int32) v_handsText_bytes o28.2.1 o28.2.2.1 o28.2.2.2.1 v_wall_jump o28.2.2.2.2.1 o28.2.2.2.2.2.1 o28.2.2.2.2.2.2.1 o28.2.2.2.2.2.2.2.1 o28.2.2.2.2.2.2.2.2)) C0 hw (gRunV (As := [.int a0]) (rest := []) C0 hw lkX8_108 (c_x_retell l g H.size h0 h1 h2 h3 h4 h5 h6 h7 h8 h9 h10 h11 h12 h13 h14 h15 h16 h17 v_toldIsStale v_latestFinding v_wallText_length v_wallText_bytes (0 : Int32) v_handsText_bytes v_wall_courses v_wall_columns v_wall_fault v_wall_jump v_wall_stones v_hands_told v_hands_fault v_hands_mood v_hands_strong a0 o28 ho28) ⟨rfl, rfl⟩ ⟨Nat.le_of_ble_eq_true rfl, Nat.le_of_ble_eq_true rfl⟩ [0, 1, 2, 3, 4, 5, 6, 7, 8, 9] (by decide) rfl 0 rfl rfl rfl hl.1 rfl (Nat.le_of_ble_eq_true rfl) dX8_wipe_28) [0, 1, 2, 3, 4, 5, 6, 7, 8, 9] [] rfl rfl trivial [h0, h1, h2, h3, h4, h5, h6, h7, h8, h9] rfl rfl 10 rfl (by decide +kernel) (fun H locs hw => ?_)
    refine lv_iload_n hx hb dX8_wipe_31 rfl (lv_at hl 0 rfl) ?_
    have hm := Option.some.inj hm
    subst hm
    exact gRetI C0 hw dX8_wipe_32
  · have hm := ipos hc hm
    refine lv_bipush (v := -2) hx hb dX8_wipe_7 (by decide) ?_
    have hm := Option.some.inj hm
    subst hm
    exact gRetI C0 hw dX8_wipe_9

-- WallHands.undo(I)I
abbrev W_x_undo (g : gG) (h0 h1 h2 h3 h4 h5 h6 h7 h8 h9 h10 h11 h12 h13 h14 h15 h16 h17 : Nat) (v_toldIsStale : Int32) (v_latestFinding : Int32) (v_wallText_length : Int32) (v_wallText_bytes : Nat → Int32) (v_handsText_length : Int32) (v_handsText_bytes : Nat → Int32) (v_wall_courses : Int32) (v_wall_columns : Int32) (v_wall_fault : Int32) (v_wall_jump : Int32) (v_wall_stones : Nat → Int64) (v_hands_told : Int32) (v_hands_fault : Int32) (v_hands_mood : Nat → Int32) (v_hands_strong : Nat → Int32) : va_W := [(h0, .inr (8, [.ref h1, .ref h3, .ref h5, .ref h7, .ref h10, .ref h11, .ref h12, .ref h13, .ref h14, .ref h15, .ref h16, .ref h17, .int v_toldIsStale, .int v_latestFinding])), (h1, .inr (5, [.ref h2, .int v_wallText_length])), (h2, .inl (gI g, 44, .inl v_wallText_bytes)), (h3, .inr (5, [.ref h4, .int v_handsText_length])), (h4, .inl (gI g, 23, .inl v_handsText_bytes)), (h5, .inr (6, [.ref h6, .int v_wall_courses, .int v_wall_columns, .int v_wall_fault, .int v_wall_jump])), (h6, .inl (gJ g, 8, .inr (.inl v_wall_stones))), (h7, .inr (2, [.ref h8, .ref h9, .int v_hands_told, .int v_hands_fault])), (h8, .inl (gI g, 8, .inl v_hands_mood)), (h9, .inl (gI g, 8, .inl v_hands_strong))]

abbrev rm_x_undo : Room := { frames := 7, cells := 0, slots := 0, locals := 157 }

set_option maxHeartbeats 1000000 in
set_option maxRecDepth 100000 in
theorem c_x_undo (l : Launch) (g : gG) (sz : Nat) (h0 h1 h2 h3 h4 h5 h6 h7 h8 h9 h10 h11 h12 h13 h14 h15 h16 h17 : Nat) (v_toldIsStale : Int32) (v_latestFinding : Int32) (v_wallText_length : Int32) (v_wallText_bytes : Nat → Int32) (v_handsText_length : Int32) (v_handsText_bytes : Nat → Int32) (v_wall_courses : Int32) (v_wall_columns : Int32) (v_wall_fault : Int32) (v_wall_jump : Int32) (v_wall_stones : Nat → Int64) (v_hands_told : Int32) (v_hands_fault : Int32) (v_hands_mood : Nat → Int32) (v_hands_strong : Nat → Int32) (a0 : Int32) (r : (Int32 × Int32 × Int32 × Int32 × Int32 × Int32 × Int32 × (Nat → Int64) × Int32 × Int32 × (Nat → Int32) × (Nat → Int32))) (hm : f_x_undo v_toldIsStale v_wallText_length v_wallText_bytes v_handsText_length v_handsText_bytes v_wall_courses v_wall_columns v_wall_fault v_wall_stones v_hands_told v_hands_fault v_hands_mood v_hands_strong a0 = some r) : gMi l yX8_undo cX8_undo 3 (some .int) rm_x_undo g sz [.ref h0, .int a0] (W_x_undo g h0 h1 h2 h3 h4 h5 h6 h7 h8 h9 h10 h11 h12 h13 h14 h15 h16 h17 v_toldIsStale v_latestFinding v_wallText_length v_wallText_bytes v_handsText_length v_handsText_bytes v_wall_courses v_wall_columns v_wall_fault v_wall_jump v_wall_stones v_hands_told v_hands_fault v_hands_mood v_hands_strong) r.1 (W_x_undo g h0 h1 h2 h3 h4 h5 h6 h7 h8 h9 h10 h11 h12 h13 h14 h15 h16 h17 r.2.1 v_latestFinding r.2.2.1 v_wallText_bytes r.2.2.2.1 v_handsText_bytes r.2.2.2.2.1 r.2.2.2.2.2.1 r.2.2.2.2.2.2.1 v_wall_jump r.2.2.2.2.2.2.2.1 r.2.2.2.2.2.2.2.2.1 r.2.2.2.2.2.2.2.2.2.1 r.2.2.2.2.2.2.2.2.2.2.1 r.2.2.2.2.2.2.2.2.2.2.2) := by
  unfold f_x_undo at hm
  refine gEnterI (by decide) (Nat.le_of_ble_eq_true rfl) (fun p e s m below meth c A C0 H locs hw ls hl => ?_)
  obtain ⟨hx, hb, hr, hml, hown, hts, hlocks, hK, hA⟩ := id C0
  have C0 : gX p s m [.ref h0, .int a0].toArray meth c cX8_undo 3 (some .int) RX8 g A := C0
  have hl : lv_has ls 3 [(0, .ref h0), (1, .int a0)] := hl
  refine lv_iload_n hx hb dX8_undo_0 rfl (lv_at hl 1 rfl) ?_
  obtain ⟨o1, ho1, hm⟩ := bindE hm
  refine gCalli (ws' := (W_x_undo g h0 h1 h2 h3 h4 h5 h6 h7 h8 h9 h10 h11 h12 h13 h14 h15 h16 h17 v_toldIsStale v_latestFinding v_wallText_length v_wallText_bytes v_handsText_length v_handsText_bytes v_wall_courses v_wall_columns v_wall_fault v_wall_jump v_wall_stones v_hands_told v_hands_fault v_hands_mood v_hands_strong)) C0 hw (gRunS (As := [.int a0]) (rest := []) C0 hw lkX8_90 (c_x_isEither l g H.size  a0 o1 ho1) ⟨rfl, rfl⟩ ⟨Nat.le_of_ble_eq_true rfl, Nat.le_of_ble_eq_true rfl⟩ [] (by decide) rfl rfl hl.1 rfl (Nat.le_of_ble_eq_true rfl) dX8_undo_1) [] [0, 1, 2, 3, 4, 5, 6, 7, 8, 9] rfl rfl ⟨rfl, rfl, rfl, rfl, rfl, rfl, rfl, rfl, rfl, rfl, trivial⟩ [h0, h1, h2, h3, h4, h5, h6, h7, h8, h9] rfl rfl 10 rfl (by decide +kernel) (fun H locs hw => ?_)
  refine lv_if_ne (tgt := 10) hx hb dX8_undo_4 (by decide) (fun hc => ?_) (fun hc => ?_)
  · have hm := ineg hc hm
    refine lv_aload_n hx hb dX8_undo_10 rfl (lv_at hl 0 rfl) ?_
    refine lv_iload_n hx hb dX8_undo_11 rfl (lv_at hl 1 rfl) ?_
    obtain ⟨o12, ho12, hm⟩ := bindE hm
    refine gCallr (ws' := (W_x_undo g h0 h1 h2 h3 h4 h5 h6 h7 h8 h9 h10 h11 h12 h13 h14 h15 h16 h17 v_toldIsStale v_latestFinding v_wallText_length v_wallText_bytes v_handsText_length v_handsText_bytes v_wall_courses v_wall_columns v_wall_fault v_wall_jump v_wall_stones v_hands_told v_hands_fault v_hands_mood v_hands_strong)) C0 hw (gRunV (As := [.int a0]) (rest := []) C0 hw lkX8_98 (c_x_textOf l g H.size h0 h1 h3 h5 h7 h10 h11 h12 h13 h14 h15 h16 h17 v_toldIsStale v_latestFinding a0 o12 ho12) ⟨rfl, rfl⟩ ⟨Nat.le_of_ble_eq_true rfl, Nat.le_of_ble_eq_true rfl⟩ [0] (by decide) rfl 0 rfl rfl rfl hl.1 rfl (Nat.le_of_ble_eq_true rfl) dX8_undo_12) [0] [1, 2, 3, 4, 5, 6, 7, 8, 9] rfl rfl ⟨rfl, rfl, rfl, rfl, rfl, rfl, rfl, rfl, rfl, trivial⟩ [h0, h1, h2, h3, h4, h5, h6, h7, h8, h9] rfl rfl 10 rfl (by decide +kernel) (fun H locs hw => ?_)
    by_cases hr0 : o12 = 0
    · have hm := ipos hr0 hm
      rw [gPick hr0]
      refine lv_astore_n (lv' := [(2, .ref h1), (0, .ref h0), (1, .int a0)]) hx hb dX8_undo_15 rfl hl (by decide) rfl (fun ls hl => ?_)
      refine lv_aload_n hx hb dX8_undo_16 rfl (lv_at hl 0 rfl) ?_
      refine gGet C0 hw flX8_102 1 rfl rfl dX8_undo_17 ?_
      refine lv_if_ne (tgt := 26) hx hb dX8_undo_20 (by decide) (fun hc => ?_) (fun hc => ?_)
      · have hm := ineg hc hm
        refine lv_aload_n hx hb dX8_undo_26 rfl (lv_at hl 0 rfl) ?_
        refine lv_dup hx hb dX8_undo_27 rfl ?_
        refine gGet C0 hw flX8_102 1 rfl rfl dX8_undo_28 ?_
        refine lv_iconst (v := 1) hx hb dX8_undo_31 (by decide) ?_
        refine lv_isub hx hb dX8_undo_32 ?_
        refine gPut (ws' := (W_x_undo g h0 h1 h2 h3 h4 h5 h6 h7 h8 h9 h10 h11 h12 h13 h14 h15 h16 h17 v_toldIsStale v_latestFinding (v_wallText_length - (1 : Int32)) v_wallText_bytes v_handsText_length v_handsText_bytes v_wall_courses v_wall_columns v_wall_fault v_wall_jump v_wall_stones v_hands_told v_hands_fault v_hands_mood v_hands_strong)) C0 hw fpX8_102 1 rfl rfl rfl (Nat.le_of_ble_eq_true rfl) rfl dX8_undo_33 (fun H locs hw => ?_)
        refine lv_aload_n hx hb dX8_undo_36 rfl (lv_at hl 1 rfl) ?_
        refine lv_iload_n hx hb dX8_undo_37 rfl (lv_at hl 2 rfl) ?_
        obtain ⟨o38, ho38, hm⟩ := bindE hm
        refine gCallv (ws' := (W_x_undo g h0 h1 h2 h3 h4 h5 h6 h7 h8 h9 h10 h11 h12 h13 h14 h15 h16 h17 o38.1 v_latestFinding (v_wallText_length - (1 : Int32)) v_wallText_bytes v_handsText_length v_handsText_bytes o38.2.1 o38.2.2.1 o38.2.2.2.1 v_wall_jump o38.2.2.2.2.1 o38.2.2.2.2.2.1 o38.2.2.2.2.2.2.1 o38.2.2.2.2.2.2.2.1 o38.2.2.2.2.2.2.2.2)) C0 hw (gRunV (As := [.int a0]) (rest := []) C0 hw lkX8_108 (c_x_retell l g H.size h0 h1 h2 h3 h4 h5 h6 h7 h8 h9 h10 h11 h12 h13 h14 h15 h16 h17 v_toldIsStale v_latestFinding (v_wallText_length - (1 : Int32)) v_wallText_bytes v_handsText_length v_handsText_bytes v_wall_courses v_wall_columns v_wall_fault v_wall_jump v_wall_stones v_hands_told v_hands_fault v_hands_mood v_hands_strong a0 o38 ho38) ⟨rfl, rfl⟩ ⟨Nat.le_of_ble_eq_true rfl, Nat.le_of_ble_eq_true rfl⟩ [0, 1, 2, 3, 4, 5, 6, 7, 8, 9] (by decide) rfl 0 rfl rfl rfl hl.1 rfl (Nat.le_of_ble_eq_true rfl) dX8_undo_38) [0, 1, 2, 3, 4, 5, 6, 7, 8, 9] [] rfl rfl trivial [h0, h1, h2, h3, h4, h5, h6, h7, h8, h9] rfl rfl 10 rfl (by decide +kernel) (fun H locs hw => ?_)
        refine lv_aload_n hx hb dX8_undo_41 rfl (lv_at hl 0 rfl) ?_
        refine gGet C0 hw flX8_102 1 rfl rfl dX8_undo_42 ?_
        have hm := Option.some.inj hm
        subst hm
        exact gRetI C0 hw dX8_undo_45
      · have hm := ipos hc hm
        refine lv_bipush (v := -3) hx hb dX8_undo_23 (by decide) ?_
        have hm := Option.some.inj hm
        subst hm
        exact gRetI C0 hw dX8_undo_25
    have hm := ineg hr0 hm
    rw [gPickN hr0]
    refine lv_astore_n (lv' := [(2, .ref h3), (0, .ref h0), (1, .int a0)]) hx hb dX8_undo_15 rfl hl (by decide) rfl (fun ls hl => ?_)
    refine lv_aload_n hx hb dX8_undo_16 rfl (lv_at hl 0 rfl) ?_
    refine gGet C0 hw flX8_102 3 rfl rfl dX8_undo_17 ?_
    refine lv_if_ne (tgt := 26) hx hb dX8_undo_20 (by decide) (fun hc => ?_) (fun hc => ?_)
    · have hm := ineg hc hm
      refine lv_aload_n hx hb dX8_undo_26 rfl (lv_at hl 0 rfl) ?_
      refine lv_dup hx hb dX8_undo_27 rfl ?_
      refine gGet C0 hw flX8_102 3 rfl rfl dX8_undo_28 ?_
      refine lv_iconst (v := 1) hx hb dX8_undo_31 (by decide) ?_
      refine lv_isub hx hb dX8_undo_32 ?_
      refine gPut (ws' := (W_x_undo g h0 h1 h2 h3 h4 h5 h6 h7 h8 h9 h10 h11 h12 h13 h14 h15 h16 h17 v_toldIsStale v_latestFinding v_wallText_length v_wallText_bytes (v_handsText_length - (1 : Int32)) v_handsText_bytes v_wall_courses v_wall_columns v_wall_fault v_wall_jump v_wall_stones v_hands_told v_hands_fault v_hands_mood v_hands_strong)) C0 hw fpX8_102 3 rfl rfl rfl (Nat.le_of_ble_eq_true rfl) rfl dX8_undo_33 (fun H locs hw => ?_)
      refine lv_aload_n hx hb dX8_undo_36 rfl (lv_at hl 1 rfl) ?_
      refine lv_iload_n hx hb dX8_undo_37 rfl (lv_at hl 2 rfl) ?_
      obtain ⟨o38, ho38, hm⟩ := bindE hm
      refine gCallv (ws' := (W_x_undo g h0 h1 h2 h3 h4 h5 h6 h7 h8 h9 h10 h11 h12 h13 h14 h15 h16 h17 o38.1 v_latestFinding v_wallText_length v_wallText_bytes (v_handsText_length - (1 : Int32)) v_handsText_bytes o38.2.1 o38.2.2.1 o38.2.2.2.1 v_wall_jump o38.2.2.2.2.1 o38.2.2.2.2.2.1 o38.2.2.2.2.2.2.1 o38.2.2.2.2.2.2.2.1 o38.2.2.2.2.2.2.2.2)) C0 hw (gRunV (As := [.int a0]) (rest := []) C0 hw lkX8_108 (c_x_retell l g H.size h0 h1 h2 h3 h4 h5 h6 h7 h8 h9 h10 h11 h12 h13 h14 h15 h16 h17 v_toldIsStale v_latestFinding v_wallText_length v_wallText_bytes (v_handsText_length - (1 : Int32)) v_handsText_bytes v_wall_courses v_wall_columns v_wall_fault v_wall_jump v_wall_stones v_hands_told v_hands_fault v_hands_mood v_hands_strong a0 o38 ho38) ⟨rfl, rfl⟩ ⟨Nat.le_of_ble_eq_true rfl, Nat.le_of_ble_eq_true rfl⟩ [0, 1, 2, 3, 4, 5, 6, 7, 8, 9] (by decide) rfl 0 rfl rfl rfl hl.1 rfl (Nat.le_of_ble_eq_true rfl) dX8_undo_38) [0, 1, 2, 3, 4, 5, 6, 7, 8, 9] [] rfl rfl trivial [h0, h1, h2, h3, h4, h5, h6, h7, h8, h9] rfl rfl 10 rfl (by decide +kernel) (fun H locs hw => ?_)
      refine lv_aload_n hx hb dX8_undo_41 rfl (lv_at hl 0 rfl) ?_
      refine gGet C0 hw flX8_102 3 rfl rfl dX8_undo_42 ?_
      have hm := Option.some.inj hm
      subst hm
      exact gRetI C0 hw dX8_undo_45
    · have hm := ipos hc hm
      refine lv_bipush (v := -3) hx hb dX8_undo_23 (by decide) ?_
      have hm := Option.some.inj hm
      subst hm
      exact gRetI C0 hw dX8_undo_25
  · have hm := ipos hc hm
    refine lv_bipush (v := -2) hx hb dX8_undo_7 (by decide) ?_
    have hm := Option.some.inj hm
    subst hm
    exact gRetI C0 hw dX8_undo_9

-- WallHands.fault(I)I
abbrev W_x_fault (g : gG) (h0 h1 h2 h3 h4 h5 h6 h7 h8 h9 h10 h11 h12 h13 h14 h15 : Nat) (v_toldIsStale : Int32) (v_latestFinding : Int32) (v_wall_courses : Int32) (v_wall_columns : Int32) (v_wall_fault : Int32) (v_wall_jump : Int32) (v_hands_told : Int32) (v_hands_fault : Int32) : va_W := [(h0, .inr (8, [.ref h3, .ref h4, .ref h1, .ref h2, .ref h5, .ref h6, .ref h7, .ref h8, .ref h9, .ref h10, .ref h11, .ref h12, .int v_toldIsStale, .int v_latestFinding])), (h1, .inr (6, [.ref h13, .int v_wall_courses, .int v_wall_columns, .int v_wall_fault, .int v_wall_jump])), (h2, .inr (2, [.ref h14, .ref h15, .int v_hands_told, .int v_hands_fault]))]

abbrev rm_x_fault : Room := { frames := 1, cells := 0, slots := 0, locals := 20 }

set_option maxHeartbeats 1000000 in
set_option maxRecDepth 100000 in
theorem c_x_fault (l : Launch) (g : gG) (sz : Nat) (h0 h1 h2 h3 h4 h5 h6 h7 h8 h9 h10 h11 h12 h13 h14 h15 : Nat) (v_toldIsStale : Int32) (v_latestFinding : Int32) (v_wall_courses : Int32) (v_wall_columns : Int32) (v_wall_fault : Int32) (v_wall_jump : Int32) (v_hands_told : Int32) (v_hands_fault : Int32) (a0 : Int32) (r : Int32) (hm : f_x_fault v_wall_fault v_hands_fault a0 = some r) : gMi l yX8_fault cX8_fault 2 (some .int) rm_x_fault g sz [.ref h0, .int a0] (W_x_fault g h0 h1 h2 h3 h4 h5 h6 h7 h8 h9 h10 h11 h12 h13 h14 h15 v_toldIsStale v_latestFinding v_wall_courses v_wall_columns v_wall_fault v_wall_jump v_hands_told v_hands_fault) r (W_x_fault g h0 h1 h2 h3 h4 h5 h6 h7 h8 h9 h10 h11 h12 h13 h14 h15 v_toldIsStale v_latestFinding v_wall_courses v_wall_columns v_wall_fault v_wall_jump v_hands_told v_hands_fault) := by
  unfold f_x_fault at hm
  refine gEnterI (by decide) (Nat.le_of_ble_eq_true rfl) (fun p e s m below meth c A C0 H locs hw ls hl => ?_)
  obtain ⟨hx, hb, hr, hml, hown, hts, hlocks, hK, hA⟩ := id C0
  have C0 : gX p s m [.ref h0, .int a0].toArray meth c cX8_fault 2 (some .int) RX8 g A := C0
  have hl : lv_has ls 2 [(0, .ref h0), (1, .int a0)] := hl
  refine lv_iload_n hx hb dX8_fault_0 rfl (lv_at hl 1 rfl) ?_
  obtain ⟨o1, ho1, hm⟩ := bindE hm
  refine gCalli (ws' := (W_x_fault g h0 h1 h2 h3 h4 h5 h6 h7 h8 h9 h10 h11 h12 h13 h14 h15 v_toldIsStale v_latestFinding v_wall_courses v_wall_columns v_wall_fault v_wall_jump v_hands_told v_hands_fault)) C0 hw (gRunS (As := [.int a0]) (rest := []) C0 hw lkX8_90 (c_x_isEither l g H.size  a0 o1 ho1) ⟨rfl, rfl⟩ ⟨Nat.le_of_ble_eq_true rfl, Nat.le_of_ble_eq_true rfl⟩ [] (by decide) rfl rfl hl.1 rfl (Nat.le_of_ble_eq_true rfl) dX8_fault_1) [] [0, 1, 2] rfl rfl ⟨rfl, rfl, rfl, trivial⟩ [h0, h1, h2] rfl rfl 3 rfl (by decide +kernel) (fun H locs hw => ?_)
  refine lv_if_ne (tgt := 10) hx hb dX8_fault_4 (by decide) (fun hc => ?_) (fun hc => ?_)
  · have hm := ineg hc hm
    refine lv_iload_n hx hb dX8_fault_10 rfl (lv_at hl 1 rfl) ?_
    refine lv_if_ne (tgt := 24) hx hb dX8_fault_11 (by decide) (fun hc => ?_) (fun hc => ?_)
    · have hm := ineg hc hm
      refine lv_aload_n hx hb dX8_fault_24 rfl (lv_at hl 0 rfl) ?_
      refine gGet C0 hw flX8_31 0 rfl rfl dX8_fault_25 ?_
      refine gGet C0 hw flX8_114 2 rfl rfl dX8_fault_28 ?_
      have hm := Option.some.inj hm
      subst hm
      exact gRetI C0 hw dX8_fault_31
    · have hm := ipos hc hm
      refine lv_aload_n hx hb dX8_fault_14 rfl (lv_at hl 0 rfl) ?_
      refine gGet C0 hw flX8_24 0 rfl rfl dX8_fault_15 ?_
      refine gGet C0 hw flX8_111 1 rfl rfl dX8_fault_18 ?_
      refine lv_goto (tgt := 31) hx hb dX8_fault_21 (by decide) ?_
      have hm := Option.some.inj hm
      subst hm
      exact gRetI C0 hw dX8_fault_31
  · have hm := ipos hc hm
    refine lv_bipush (v := -2) hx hb dX8_fault_7 (by decide) ?_
    have hm := Option.some.inj hm
    subst hm
    exact gRetI C0 hw dX8_fault_9

-- WallHands.isPlace(II)Z

abbrev rm_x_isPlace : Room := { frames := 1, cells := 0, slots := 0, locals := 22 }

set_option maxHeartbeats 1000000 in
set_option maxRecDepth 100000 in
theorem c_x_isPlace (l : Launch) (g : gG) (sz : Nat) (a0 : Int32) (a1 : Int32) (r : Int32) (hm : f_x_isPlace a0 a1 = some r) : gMi l yX8_isPlace cX8_isPlace 2 (some .boolean) rm_x_isPlace g sz [.int a0, .int a1] [] r [] := by
  unfold f_x_isPlace at hm
  refine gEnterI (by decide) (Nat.le_of_ble_eq_true rfl) (fun p e s m below meth c A C0 H locs hw ls hl => ?_)
  obtain ⟨hx, hb, hr, hml, hown, hts, hlocks, hK, hA⟩ := id C0
  have C0 : gX p s m [.int a0, .int a1].toArray meth c cX8_isPlace 2 (some .boolean) RX8 g A := C0
  have hl : lv_has ls 2 [(0, .int a0), (1, .int a1)] := hl
  refine lv_iload_n hx hb dX8_isPlace_0 rfl (lv_at hl 0 rfl) ?_
  refine lv_iconst (v := 0) hx hb dX8_isPlace_1 (by decide) ?_
  refine lv_iconst (v := 4) hx hb dX8_isPlace_2 (by decide) ?_
  obtain ⟨o3, ho3, hm⟩ := bindE hm
  refine gCalli (ws' := []) C0 hw (gRunS (As := [.int a0, .int (0 : Int32), .int (4 : Int32)]) (rest := []) C0 hw lkX8_94 (c_x_within l g H.size  a0 (0 : Int32) (4 : Int32) o3 ho3) ⟨rfl, rfl⟩ ⟨Nat.le_of_ble_eq_true rfl, Nat.le_of_ble_eq_true rfl⟩ [] (by decide) rfl rfl hl.1 rfl (Nat.le_of_ble_eq_true rfl) dX8_isPlace_3) [] [] rfl rfl trivial [] rfl rfl 0 rfl (by decide +kernel) (fun H locs hw => ?_)
  refine lv_if_eq (tgt := 23) hx hb dX8_isPlace_6 (by decide) (fun hc => ?_) (fun hc => ?_)
  · have hm := ipos hc hm
    refine lv_iconst (v := 0) hx hb dX8_isPlace_23 (by decide) ?_
    have hm := Option.some.inj hm
    subst hm
    exact gRetZ (v := (0 : Int32)) C0 hw rfl dX8_isPlace_24
  · have hm := ineg hc hm
    refine lv_iload_n hx hb dX8_isPlace_9 rfl (lv_at hl 1 rfl) ?_
    refine lv_iconst (v := 0) hx hb dX8_isPlace_10 (by decide) ?_
    refine lv_bipush (v := 7) hx hb dX8_isPlace_11 (by decide) ?_
    obtain ⟨o13, ho13, hm⟩ := bindE hm
    refine gCalli (ws' := []) C0 hw (gRunS (As := [.int a1, .int (0 : Int32), .int (7 : Int32)]) (rest := []) C0 hw lkX8_94 (c_x_within l g H.size  a1 (0 : Int32) (7 : Int32) o13 ho13) ⟨rfl, rfl⟩ ⟨Nat.le_of_ble_eq_true rfl, Nat.le_of_ble_eq_true rfl⟩ [] (by decide) rfl rfl hl.1 rfl (Nat.le_of_ble_eq_true rfl) dX8_isPlace_13) [] [] rfl rfl trivial [] rfl rfl 0 rfl (by decide +kernel) (fun H locs hw => ?_)
    refine lv_if_eq (tgt := 23) hx hb dX8_isPlace_16 (by decide) (fun hc => ?_) (fun hc => ?_)
    · have hm := ipos hc hm
      refine lv_iconst (v := 0) hx hb dX8_isPlace_23 (by decide) ?_
      have hm := Option.some.inj hm
      subst hm
      exact gRetZ (v := (0 : Int32)) C0 hw rfl dX8_isPlace_24
    · have hm := ineg hc hm
      refine lv_iconst (v := 1) hx hb dX8_isPlace_19 (by decide) ?_
      refine lv_goto (tgt := 24) hx hb dX8_isPlace_20 (by decide) ?_
      have hm := Option.some.inj hm
      subst hm
      exact gRetZ (v := (1 : Int32)) C0 hw rfl dX8_isPlace_24

-- WallHands.stone(II)I
abbrev W_x_stone (g : gG) (h0 h1 h2 h3 h4 h5 h6 h7 h8 h9 h10 h11 h12 h13 : Nat) (v_toldIsStale : Int32) (v_latestFinding : Int32) (v_wall_courses : Int32) (v_wall_columns : Int32) (v_wall_fault : Int32) (v_wall_jump : Int32) (v_wall_stones : Nat → Int64) : va_W := [(h0, .inr (8, [.ref h3, .ref h4, .ref h1, .ref h5, .ref h6, .ref h7, .ref h8, .ref h9, .ref h10, .ref h11, .ref h12, .ref h13, .int v_toldIsStale, .int v_latestFinding])), (h1, .inr (6, [.ref h2, .int v_wall_courses, .int v_wall_columns, .int v_wall_fault, .int v_wall_jump])), (h2, .inl (gJ g, 8, .inr (.inl v_wall_stones)))]

abbrev rm_x_stone : Room := { frames := 2, cells := 0, slots := 0, locals := 45 }

set_option maxHeartbeats 1000000 in
set_option maxRecDepth 100000 in
theorem c_x_stone (l : Launch) (g : gG) (sz : Nat) (h0 h1 h2 h3 h4 h5 h6 h7 h8 h9 h10 h11 h12 h13 : Nat) (v_toldIsStale : Int32) (v_latestFinding : Int32) (v_wall_courses : Int32) (v_wall_columns : Int32) (v_wall_fault : Int32) (v_wall_jump : Int32) (v_wall_stones : Nat → Int64) (a0 : Int32) (a1 : Int32) (r : Int32) (hm : f_x_stone v_wall_stones a0 a1 = some r) : gMi l yX8_stone cX8_stone 3 (some .int) rm_x_stone g sz [.ref h0, .int a0, .int a1] (W_x_stone g h0 h1 h2 h3 h4 h5 h6 h7 h8 h9 h10 h11 h12 h13 v_toldIsStale v_latestFinding v_wall_courses v_wall_columns v_wall_fault v_wall_jump v_wall_stones) r (W_x_stone g h0 h1 h2 h3 h4 h5 h6 h7 h8 h9 h10 h11 h12 h13 v_toldIsStale v_latestFinding v_wall_courses v_wall_columns v_wall_fault v_wall_jump v_wall_stones) := by
  unfold f_x_stone at hm
  refine gEnterI (by decide) (Nat.le_of_ble_eq_true rfl) (fun p e s m below meth c A C0 H locs hw ls hl => ?_)
  obtain ⟨hx, hb, hr, hml, hown, hts, hlocks, hK, hA⟩ := id C0
  have C0 : gX p s m [.ref h0, .int a0, .int a1].toArray meth c cX8_stone 3 (some .int) RX8 g A := C0
  have hl : lv_has ls 3 [(0, .ref h0), (1, .int a0), (2, .int a1)] := hl
  refine lv_iload_n hx hb dX8_stone_0 rfl (lv_at hl 1 rfl) ?_
  refine lv_iload_n hx hb dX8_stone_1 rfl (lv_at hl 2 rfl) ?_
  obtain ⟨o2, ho2, hm⟩ := bindE hm
  refine gCalli (ws' := (W_x_stone g h0 h1 h2 h3 h4 h5 h6 h7 h8 h9 h10 h11 h12 h13 v_toldIsStale v_latestFinding v_wall_courses v_wall_columns v_wall_fault v_wall_jump v_wall_stones)) C0 hw (gRunS (As := [.int a0, .int a1]) (rest := []) C0 hw lkX8_115 (c_x_isPlace l g H.size  a0 a1 o2 ho2) ⟨rfl, rfl⟩ ⟨Nat.le_of_ble_eq_true rfl, Nat.le_of_ble_eq_true rfl⟩ [] (by decide) rfl rfl hl.1 rfl (Nat.le_of_ble_eq_true rfl) dX8_stone_2) [] [0, 1, 2] rfl rfl ⟨rfl, rfl, rfl, trivial⟩ [h0, h1, h2] rfl rfl 3 rfl (by decide +kernel) (fun H locs hw => ?_)
  refine lv_if_ne (tgt := 11) hx hb dX8_stone_5 (by decide) (fun hc => ?_) (fun hc => ?_)
  · have hm := ineg hc hm
    refine lv_aload_n hx hb dX8_stone_11 rfl (lv_at hl 0 rfl) ?_
    refine gGet C0 hw flX8_24 0 rfl rfl dX8_stone_12 ?_
    refine gGet C0 hw flX8_119 1 rfl rfl dX8_stone_15 ?_
    refine lv_iconst (v := 0) hx hb dX8_stone_18 (by decide) ?_
    refine lv_bipush (v := 8) hx hb dX8_stone_19 (by decide) ?_
    refine lv_iload_n hx hb dX8_stone_21 rfl (lv_at hl 1 rfl) ?_
    refine lv_imul hx hb dX8_stone_22 ?_
    refine lv_iload_n hx hb dX8_stone_23 rfl (lv_at hl 2 rfl) ?_
    refine lv_iadd hx hb dX8_stone_24 ?_
    obtain ⟨o25, ho25, hm⟩ := bindE hm
    refine gCalli (ws' := (W_x_stone g h0 h1 h2 h3 h4 h5 h6 h7 h8 h9 h10 h11 h12 h13 v_toldIsStale v_latestFinding v_wall_courses v_wall_columns v_wall_fault v_wall_jump v_wall_stones)) C0 hw (gRunS (As := [.ref h2, .int (0 : Int32), .int (((8 : Int32) * a0) + a1)]) (rest := []) C0 hw lkX8_123 (c_x_setterAt l g H.size h2 v_wall_stones 8 (0 : Int32) (((8 : Int32) * a0) + a1) o25 ho25) ⟨rfl, rfl⟩ ⟨Nat.le_of_ble_eq_true rfl, Nat.le_of_ble_eq_true rfl⟩ [2] (by decide) rfl rfl hl.1 rfl (Nat.le_of_ble_eq_true rfl) dX8_stone_25) [2] [0, 1] rfl rfl ⟨rfl, rfl, trivial⟩ [h0, h1, h2] rfl rfl 3 rfl (by decide +kernel) (fun H locs hw => ?_)
    have hm := Option.some.inj hm
    subst hm
    exact gRetI C0 hw dX8_stone_28
  · have hm := ipos hc hm
    refine lv_bipush (v := -2) hx hb dX8_stone_8 (by decide) ?_
    have hm := Option.some.inj hm
    subst hm
    exact gRetI C0 hw dX8_stone_10

-- WallHands.hand(II)I
abbrev W_x_hand (g : gG) (h0 h1 h2 h3 h4 h5 h6 h7 h8 h9 h10 h11 h12 h13 h14 : Nat) (v_toldIsStale : Int32) (v_latestFinding : Int32) (v_hands_told : Int32) (v_hands_fault : Int32) (v_hands_mood : Nat → Int32) (v_hands_strong : Nat → Int32) : va_W := [(h0, .inr (8, [.ref h4, .ref h5, .ref h6, .ref h1, .ref h7, .ref h8, .ref h9, .ref h10, .ref h11, .ref h12, .ref h13, .ref h14, .int v_toldIsStale, .int v_latestFinding])), (h1, .inr (2, [.ref h2, .ref h3, .int v_hands_told, .int v_hands_fault])), (h2, .inl (gI g, 8, .inl v_hands_mood)), (h3, .inl (gI g, 8, .inl v_hands_strong))]

abbrev rm_x_hand : Room := { frames := 2, cells := 0, slots := 0, locals := 43 }

set_option maxHeartbeats 1000000 in
set_option maxRecDepth 100000 in
theorem c_x_hand (l : Launch) (g : gG) (sz : Nat) (h0 h1 h2 h3 h4 h5 h6 h7 h8 h9 h10 h11 h12 h13 h14 : Nat) (v_toldIsStale : Int32) (v_latestFinding : Int32) (v_hands_told : Int32) (v_hands_fault : Int32) (v_hands_mood : Nat → Int32) (v_hands_strong : Nat → Int32) (a0 : Int32) (a1 : Int32) (r : Int32) (hm : f_x_hand v_hands_told v_hands_mood v_hands_strong a0 a1 = some r) : gMi l yX8_hand cX8_hand 3 (some .int) rm_x_hand g sz [.ref h0, .int a0, .int a1] (W_x_hand g h0 h1 h2 h3 h4 h5 h6 h7 h8 h9 h10 h11 h12 h13 h14 v_toldIsStale v_latestFinding v_hands_told v_hands_fault v_hands_mood v_hands_strong) r (W_x_hand g h0 h1 h2 h3 h4 h5 h6 h7 h8 h9 h10 h11 h12 h13 h14 v_toldIsStale v_latestFinding v_hands_told v_hands_fault v_hands_mood v_hands_strong) := by
  unfold f_x_hand at hm
  refine gEnterI (by decide) (Nat.le_of_ble_eq_true rfl) (fun p e s m below meth c A C0 H locs hw ls hl => ?_)
  obtain ⟨hx, hb, hr, hml, hown, hts, hlocks, hK, hA⟩ := id C0
  have C0 : gX p s m [.ref h0, .int a0, .int a1].toArray meth c cX8_hand 3 (some .int) RX8 g A := C0
  have hl : lv_has ls 3 [(0, .ref h0), (1, .int a0), (2, .int a1)] := hl
  refine lv_aload_n hx hb dX8_hand_0 rfl (lv_at hl 0 rfl) ?_
  refine gGet C0 hw flX8_31 0 rfl rfl dX8_hand_1 ?_
  refine lv_iload_n hx hb dX8_hand_4 rfl (lv_at hl 1 rfl) ?_
  obtain ⟨o5, ho5, hm⟩ := bindE hm
  refine gCalli (ws' := (W_x_hand g h0 h1 h2 h3 h4 h5 h6 h7 h8 h9 h10 h11 h12 h13 h14 v_toldIsStale v_latestFinding v_hands_told v_hands_fault v_hands_mood v_hands_strong)) C0 hw (gRunV (As := [.int a0]) (rest := []) C0 hw lkX8_127 (c_hs_has l g H.size h1 h2 h3 v_hands_told v_hands_fault a0 o5 ho5) ⟨rfl, rfl⟩ ⟨Nat.le_of_ble_eq_true rfl, Nat.le_of_ble_eq_true rfl⟩ [1] (by decide) rfl 1 rfl rfl rfl hl.1 rfl (Nat.le_of_ble_eq_true rfl) dX8_hand_5) [1] [0, 2, 3] rfl rfl ⟨rfl, rfl, rfl, trivial⟩ [h0, h1, h2, h3] rfl rfl 4 rfl (by decide +kernel) (fun H locs hw => ?_)
  refine lv_if_eq (tgt := 18) hx hb dX8_hand_8 (by decide) (fun hc => ?_) (fun hc => ?_)
  · have hm := ipos hc hm
    refine lv_bipush (v := -2) hx hb dX8_hand_18 (by decide) ?_
    have hm := Option.some.inj hm
    subst hm
    exact gRetI C0 hw dX8_hand_20
  · have hm := ineg hc hm
    refine lv_iload_n hx hb dX8_hand_11 rfl (lv_at hl 2 rfl) ?_
    obtain ⟨o12, ho12, hm⟩ := bindE hm
    refine gCalli (ws' := (W_x_hand g h0 h1 h2 h3 h4 h5 h6 h7 h8 h9 h10 h11 h12 h13 h14 v_toldIsStale v_latestFinding v_hands_told v_hands_fault v_hands_mood v_hands_strong)) C0 hw (gRunS (As := [.int a1]) (rest := []) C0 hw lkX8_90 (c_x_isEither l g H.size  a1 o12 ho12) ⟨rfl, rfl⟩ ⟨Nat.le_of_ble_eq_true rfl, Nat.le_of_ble_eq_true rfl⟩ [] (by decide) rfl rfl hl.1 rfl (Nat.le_of_ble_eq_true rfl) dX8_hand_12) [] [0, 1, 2, 3] rfl rfl ⟨rfl, rfl, rfl, rfl, trivial⟩ [h0, h1, h2, h3] rfl rfl 4 rfl (by decide +kernel) (fun H locs hw => ?_)
    refine lv_if_ne (tgt := 21) hx hb dX8_hand_15 (by decide) (fun hc => ?_) (fun hc => ?_)
    · have hm := ineg hc hm
      refine lv_iload_n hx hb dX8_hand_21 rfl (lv_at hl 2 rfl) ?_
      refine lv_if_ne (tgt := 37) hx hb dX8_hand_22 (by decide) (fun hc => ?_) (fun hc => ?_)
      · have hm := ineg hc hm
        refine lv_aload_n hx hb dX8_hand_37 rfl (lv_at hl 0 rfl) ?_
        refine gGet C0 hw flX8_31 0 rfl rfl dX8_hand_38 ?_
        refine gGet C0 hw flX8_133 1 rfl rfl dX8_hand_41 ?_
        refine lv_iload_n hx hb dX8_hand_44 rfl (lv_at hl 1 rfl) ?_
        obtain ⟨hin, hm⟩ := gdE hm
        have hin := inbE hin
        refine gAldI C0 hw 3 rfl hin dX8_hand_45 ?_
        have hm := Option.some.inj hm
        subst hm
        exact gRetI C0 hw dX8_hand_46
      · have hm := ipos hc hm
        refine lv_aload_n hx hb dX8_hand_25 rfl (lv_at hl 0 rfl) ?_
        refine gGet C0 hw flX8_31 0 rfl rfl dX8_hand_26 ?_
        refine gGet C0 hw flX8_130 1 rfl rfl dX8_hand_29 ?_
        refine lv_iload_n hx hb dX8_hand_32 rfl (lv_at hl 1 rfl) ?_
        obtain ⟨hin, hm⟩ := gdE hm
        have hin := inbE hin
        refine gAldI C0 hw 2 rfl hin dX8_hand_33 ?_
        refine lv_goto (tgt := 46) hx hb dX8_hand_34 (by decide) ?_
        have hm := Option.some.inj hm
        subst hm
        exact gRetI C0 hw dX8_hand_46
    · have hm := ipos hc hm
      refine lv_bipush (v := -2) hx hb dX8_hand_18 (by decide) ?_
      have hm := Option.some.inj hm
      subst hm
      exact gRetI C0 hw dX8_hand_20

-- WallHands.jump(I)I
abbrev W_x_jump (g : gG) (h0 h1 h2 h3 h4 h5 h6 h7 h8 h9 h10 h11 h12 h13 : Nat) (v_toldIsStale : Int32) (v_latestFinding : Int32) (v_wall_courses : Int32) (v_wall_columns : Int32) (v_wall_fault : Int32) (v_wall_jump : Int32) : va_W := [(h0, .inr (8, [.ref h2, .ref h3, .ref h1, .ref h4, .ref h5, .ref h6, .ref h7, .ref h8, .ref h9, .ref h10, .ref h11, .ref h12, .int v_toldIsStale, .int v_latestFinding])), (h1, .inr (6, [.ref h13, .int v_wall_courses, .int v_wall_columns, .int v_wall_fault, .int v_wall_jump]))]

abbrev rm_x_jump : Room := { frames := 1, cells := 0, slots := 0, locals := 22 }

set_option maxHeartbeats 1000000 in
set_option maxRecDepth 100000 in
theorem c_x_jump (l : Launch) (g : gG) (sz : Nat) (h0 h1 h2 h3 h4 h5 h6 h7 h8 h9 h10 h11 h12 h13 : Nat) (v_toldIsStale : Int32) (v_latestFinding : Int32) (v_wall_courses : Int32) (v_wall_columns : Int32) (v_wall_fault : Int32) (v_wall_jump : Int32) (a0 : Int32) (r : (Int32 × Int32 × Int32)) (hm : f_x_jump v_toldIsStale v_wall_jump a0 = some r) : gMi l yX8_jump cX8_jump 3 (some .int) rm_x_jump g sz [.ref h0, .int a0] (W_x_jump g h0 h1 h2 h3 h4 h5 h6 h7 h8 h9 h10 h11 h12 h13 v_toldIsStale v_latestFinding v_wall_courses v_wall_columns v_wall_fault v_wall_jump) r.1 (W_x_jump g h0 h1 h2 h3 h4 h5 h6 h7 h8 h9 h10 h11 h12 h13 r.2.1 v_latestFinding v_wall_courses v_wall_columns v_wall_fault r.2.2) := by
  unfold f_x_jump at hm
  refine gEnterI (by decide) (Nat.le_of_ble_eq_true rfl) (fun p e s m below meth c A C0 H locs hw ls hl => ?_)
  obtain ⟨hx, hb, hr, hml, hown, hts, hlocks, hK, hA⟩ := id C0
  have C0 : gX p s m [.ref h0, .int a0].toArray meth c cX8_jump 3 (some .int) RX8 g A := C0
  have hl : lv_has ls 3 [(0, .ref h0), (1, .int a0)] := hl
  refine lv_iload_n hx hb dX8_jump_0 rfl (lv_at hl 1 rfl) ?_
  refine lv_iconst (v := 1) hx hb dX8_jump_1 (by decide) ?_
  refine lv_iconst (v := 5) hx hb dX8_jump_2 (by decide) ?_
  obtain ⟨o3, ho3, hm⟩ := bindE hm
  refine gCalli (ws' := (W_x_jump g h0 h1 h2 h3 h4 h5 h6 h7 h8 h9 h10 h11 h12 h13 v_toldIsStale v_latestFinding v_wall_courses v_wall_columns v_wall_fault v_wall_jump)) C0 hw (gRunS (As := [.int a0, .int (1 : Int32), .int (5 : Int32)]) (rest := []) C0 hw lkX8_94 (c_x_within l g H.size  a0 (1 : Int32) (5 : Int32) o3 ho3) ⟨rfl, rfl⟩ ⟨Nat.le_of_ble_eq_true rfl, Nat.le_of_ble_eq_true rfl⟩ [] (by decide) rfl rfl hl.1 rfl (Nat.le_of_ble_eq_true rfl) dX8_jump_3) [] [0, 1] rfl rfl ⟨rfl, rfl, trivial⟩ [h0, h1] rfl rfl 2 rfl (by decide +kernel) (fun H locs hw => ?_)
  refine lv_if_ne (tgt := 12) hx hb dX8_jump_6 (by decide) (fun hc => ?_) (fun hc => ?_)
  · have hm := ineg hc hm
    refine lv_aload_n hx hb dX8_jump_12 rfl (lv_at hl 0 rfl) ?_
    refine gGet C0 hw flX8_24 0 rfl rfl dX8_jump_13 ?_
    refine gGet C0 hw flX8_136 1 rfl rfl dX8_jump_16 ?_
    refine lv_istore_n (lv' := [(2, .int v_wall_jump), (0, .ref h0), (1, .int a0)]) hx hb dX8_jump_19 rfl hl (by decide) rfl (fun ls hl => ?_)
    refine lv_aload_n hx hb dX8_jump_20 rfl (lv_at hl 1 rfl) ?_
    refine gGet C0 hw flX8_24 0 rfl rfl dX8_jump_21 ?_
    refine lv_iload_n hx hb dX8_jump_24 rfl (lv_at hl 2 rfl) ?_
    refine gPut (ws' := (W_x_jump g h0 h1 h2 h3 h4 h5 h6 h7 h8 h9 h10 h11 h12 h13 v_toldIsStale v_latestFinding v_wall_courses v_wall_columns v_wall_fault a0)) C0 hw fpX8_136 1 rfl rfl rfl (Nat.le_of_ble_eq_true rfl) rfl dX8_jump_25 (fun H locs hw => ?_)
    refine lv_aload_n hx hb dX8_jump_28 rfl (lv_at hl 1 rfl) ?_
    refine lv_iconst (v := 1) hx hb dX8_jump_29 (by decide) ?_
    refine gPut (ws' := (W_x_jump g h0 h1 h2 h3 h4 h5 h6 h7 h8 h9 h10 h11 h12 h13 (1 : Int32) v_latestFinding v_wall_courses v_wall_columns v_wall_fault a0)) C0 hw fpX8_81 0 rfl rfl rfl (Nat.le_of_ble_eq_true rfl) rfl dX8_jump_30 (fun H locs hw => ?_)
    refine lv_iload_n hx hb dX8_jump_33 rfl (lv_at hl 0 rfl) ?_
    have hm := Option.some.inj hm
    subst hm
    exact gRetI C0 hw dX8_jump_34
  · have hm := ipos hc hm
    refine lv_bipush (v := -2) hx hb dX8_jump_9 (by decide) ?_
    have hm := Option.some.inj hm
    subst hm
    exact gRetI C0 hw dX8_jump_11

-- WallHands.frost(II)I
abbrev W_x_frost (g : gG) (h0 h1 h2 h3 h4 h5 h6 h7 h8 h9 h10 h11 h12 h13 h14 : Nat) (v_toldIsStale : Int32) (v_latestFinding : Int32) (v_frosts_told : Int32) (v_frosts_year : Nat → Int32) (v_frosts_force : Nat → Int32) : va_W := [(h0, .inr (8, [.ref h4, .ref h5, .ref h6, .ref h7, .ref h1, .ref h8, .ref h9, .ref h10, .ref h11, .ref h12, .ref h13, .ref h14, .int v_toldIsStale, .int v_latestFinding])), (h1, .inr (0, [.ref h2, .ref h3, .int v_frosts_told])), (h2, .inl (gI g, 6, .inl v_frosts_year)), (h3, .inl (gI g, 6, .inl v_frosts_force))]

abbrev rm_x_frost : Room := { frames := 3, cells := 0, slots := 0, locals := 63 }

set_option maxHeartbeats 1000000 in
set_option maxRecDepth 100000 in
theorem c_x_frost (l : Launch) (g : gG) (sz : Nat) (h0 h1 h2 h3 h4 h5 h6 h7 h8 h9 h10 h11 h12 h13 h14 : Nat) (v_toldIsStale : Int32) (v_latestFinding : Int32) (v_frosts_told : Int32) (v_frosts_year : Nat → Int32) (v_frosts_force : Nat → Int32) (a0 : Int32) (a1 : Int32) (r : (Int32 × Int32 × Int32 × (Nat → Int32) × (Nat → Int32))) (hm : f_x_frost v_toldIsStale v_frosts_told v_frosts_year v_frosts_force a0 a1 = some r) : gMi l yX8_frost cX8_frost 3 (some .int) rm_x_frost g sz [.ref h0, .int a0, .int a1] (W_x_frost g h0 h1 h2 h3 h4 h5 h6 h7 h8 h9 h10 h11 h12 h13 h14 v_toldIsStale v_latestFinding v_frosts_told v_frosts_year v_frosts_force) r.1 (W_x_frost g h0 h1 h2 h3 h4 h5 h6 h7 h8 h9 h10 h11 h12 h13 h14 r.2.1 v_latestFinding r.2.2.1 r.2.2.2.1 r.2.2.2.2) := by
  unfold f_x_frost at hm
  refine gEnterI (by decide) (Nat.le_of_ble_eq_true rfl) (fun p e s m below meth c A C0 H locs hw ls hl => ?_)
  obtain ⟨hx, hb, hr, hml, hown, hts, hlocks, hK, hA⟩ := id C0
  have C0 : gX p s m [.ref h0, .int a0, .int a1].toArray meth c cX8_frost 3 (some .int) RX8 g A := C0
  have hl : lv_has ls 3 [(0, .ref h0), (1, .int a0), (2, .int a1)] := hl
  refine lv_iload_n hx hb dX8_frost_0 rfl (lv_at hl 1 rfl) ?_
  refine lv_iload_n hx hb dX8_frost_1 rfl (lv_at hl 2 rfl) ?_
  obtain ⟨o2, ho2, hm⟩ := bindE hm
  refine gCalli (ws' := (W_x_frost g h0 h1 h2 h3 h4 h5 h6 h7 h8 h9 h10 h11 h12 h13 h14 v_toldIsStale v_latestFinding v_frosts_told v_frosts_year v_frosts_force)) C0 hw (gRunS (As := [.int a0, .int a1]) (rest := []) C0 hw lkX8_139 (c_fr_mayBe l g H.size  a0 a1 o2 ho2) ⟨rfl, rfl⟩ ⟨Nat.le_of_ble_eq_true rfl, Nat.le_of_ble_eq_true rfl⟩ [] (by decide) rfl rfl hl.1 rfl (Nat.le_of_ble_eq_true rfl) dX8_frost_2) [] [0, 1, 2, 3] rfl rfl ⟨rfl, rfl, rfl, rfl, trivial⟩ [h0, h1, h2, h3] rfl rfl 4 rfl (by decide +kernel) (fun H locs hw => ?_)
  refine lv_if_ne (tgt := 11) hx hb dX8_frost_5 (by decide) (fun hc => ?_) (fun hc => ?_)
  · have hm := ineg hc hm
    refine lv_aload_n hx hb dX8_frost_11 rfl (lv_at hl 0 rfl) ?_
    refine gGet C0 hw flX8_38 0 rfl rfl dX8_frost_12 ?_
    refine gGet C0 hw flX8_142 1 rfl rfl dX8_frost_15 ?_
    refine lv_bipush (v := 6) hx hb dX8_frost_18 (by decide) ?_
    refine lv_icmp_lt (tgt := 26) hx hb dX8_frost_20 (by decide) (fun hc => ?_) (fun hc => ?_)
    · have hm := ipos hc hm
      refine lv_aload_n hx hb dX8_frost_26 rfl (lv_at hl 0 rfl) ?_
      refine gGet C0 hw flX8_38 0 rfl rfl dX8_frost_27 ?_
      refine lv_iload_n hx hb dX8_frost_30 rfl (lv_at hl 1 rfl) ?_
      refine lv_iload_n hx hb dX8_frost_31 rfl (lv_at hl 2 rfl) ?_
      obtain ⟨o32, ho32, hm⟩ := bindE hm
      refine gCallv (ws' := (W_x_frost g h0 h1 h2 h3 h4 h5 h6 h7 h8 h9 h10 h11 h12 h13 h14 v_toldIsStale v_latestFinding o32.1 o32.2.1 o32.2.2)) C0 hw (gRunV (As := [.int a0, .int a1]) (rest := []) C0 hw lkX8_144 (c_fr_add l g H.size h1 h2 h3 v_frosts_told v_frosts_year v_frosts_force a0 a1 o32 ho32) ⟨rfl, rfl⟩ ⟨Nat.le_of_ble_eq_true rfl, Nat.le_of_ble_eq_true rfl⟩ [1, 2, 3] (by decide) rfl 1 rfl rfl rfl hl.1 rfl (Nat.le_of_ble_eq_true rfl) dX8_frost_32) [1, 2, 3] [0] rfl rfl ⟨rfl, trivial⟩ [h0, h1, h2, h3] rfl rfl 4 rfl (by decide +kernel) (fun H locs hw => ?_)
      refine lv_aload_n hx hb dX8_frost_35 rfl (lv_at hl 0 rfl) ?_
      refine lv_iconst (v := 1) hx hb dX8_frost_36 (by decide) ?_
      refine gPut (ws' := (W_x_frost g h0 h1 h2 h3 h4 h5 h6 h7 h8 h9 h10 h11 h12 h13 h14 (1 : Int32) v_latestFinding o32.1 o32.2.1 o32.2.2)) C0 hw fpX8_81 0 rfl rfl rfl (Nat.le_of_ble_eq_true rfl) rfl dX8_frost_37 (fun H locs hw => ?_)
      refine lv_aload_n hx hb dX8_frost_40 rfl (lv_at hl 0 rfl) ?_
      refine gGet C0 hw flX8_38 0 rfl rfl dX8_frost_41 ?_
      refine gGet C0 hw flX8_142 1 rfl rfl dX8_frost_44 ?_
      have hm := Option.some.inj hm
      subst hm
      exact gRetI C0 hw dX8_frost_47
    · have hm := ineg hc hm
      refine lv_bipush (v := -4) hx hb dX8_frost_23 (by decide) ?_
      have hm := Option.some.inj hm
      subst hm
      exact gRetI C0 hw dX8_frost_25
  · have hm := ipos hc hm
    refine lv_bipush (v := -2) hx hb dX8_frost_8 (by decide) ?_
    have hm := Option.some.inj hm
    subst hm
    exact gRetI C0 hw dX8_frost_10

-- WallHands.gapping(III)I
abbrev W_x_gapping (g : gG) (h0 h1 h2 h3 h4 h5 h6 h7 h8 h9 h10 h11 h12 h13 h14 h15 : Nat) (v_toldIsStale : Int32) (v_latestFinding : Int32) (v_gappings_told : Int32) (v_gappings_year : Nat → Int32) (v_gappings_column : Nat → Int32) (v_gappings_hand : Nat → Int32) : va_W := [(h0, .inr (8, [.ref h5, .ref h6, .ref h7, .ref h8, .ref h9, .ref h10, .ref h1, .ref h11, .ref h12, .ref h13, .ref h14, .ref h15, .int v_toldIsStale, .int v_latestFinding])), (h1, .inr (1, [.ref h2, .ref h3, .ref h4, .int v_gappings_told])), (h2, .inl (gI g, 7, .inl v_gappings_year)), (h3, .inl (gI g, 7, .inl v_gappings_column)), (h4, .inl (gI g, 7, .inl v_gappings_hand))]

abbrev rm_x_gapping : Room := { frames := 2, cells := 0, slots := 0, locals := 42 }

set_option maxHeartbeats 1000000 in
set_option maxRecDepth 100000 in
theorem c_x_gapping (l : Launch) (g : gG) (sz : Nat) (h0 h1 h2 h3 h4 h5 h6 h7 h8 h9 h10 h11 h12 h13 h14 h15 : Nat) (v_toldIsStale : Int32) (v_latestFinding : Int32) (v_gappings_told : Int32) (v_gappings_year : Nat → Int32) (v_gappings_column : Nat → Int32) (v_gappings_hand : Nat → Int32) (a0 : Int32) (a1 : Int32) (a2 : Int32) (r : (Int32 × Int32 × Int32 × (Nat → Int32) × (Nat → Int32) × (Nat → Int32))) (hm : f_x_gapping v_toldIsStale v_gappings_told v_gappings_year v_gappings_column v_gappings_hand a0 a1 a2 = some r) : gMi l yX8_gapping cX8_gapping 4 (some .int) rm_x_gapping g sz [.ref h0, .int a0, .int a1, .int a2] (W_x_gapping g h0 h1 h2 h3 h4 h5 h6 h7 h8 h9 h10 h11 h12 h13 h14 h15 v_toldIsStale v_latestFinding v_gappings_told v_gappings_year v_gappings_column v_gappings_hand) r.1 (W_x_gapping g h0 h1 h2 h3 h4 h5 h6 h7 h8 h9 h10 h11 h12 h13 h14 h15 r.2.1 v_latestFinding r.2.2.1 r.2.2.2.1 r.2.2.2.2.1 r.2.2.2.2.2) := by
  unfold f_x_gapping at hm
  refine gEnterI (by decide) (Nat.le_of_ble_eq_true rfl) (fun p e s m below meth c A C0 H locs hw ls hl => ?_)
  obtain ⟨hx, hb, hr, hml, hown, hts, hlocks, hK, hA⟩ := id C0
  have C0 : gX p s m [.ref h0, .int a0, .int a1, .int a2].toArray meth c cX8_gapping 4 (some .int) RX8 g A := C0
  have hl : lv_has ls 4 [(0, .ref h0), (1, .int a0), (2, .int a1), (3, .int a2)] := hl
  refine lv_iload_n hx hb dX8_gapping_0 rfl (lv_at hl 1 rfl) ?_
  obtain ⟨o1, ho1, hm⟩ := bindE hm
  refine gCalli (ws' := (W_x_gapping g h0 h1 h2 h3 h4 h5 h6 h7 h8 h9 h10 h11 h12 h13 h14 h15 v_toldIsStale v_latestFinding v_gappings_told v_gappings_year v_gappings_column v_gappings_hand)) C0 hw (gRunS (As := [.int a0]) (rest := []) C0 hw lkX8_148 (c_x_isYear l g H.size  a0 o1 ho1) ⟨rfl, rfl⟩ ⟨Nat.le_of_ble_eq_true rfl, Nat.le_of_ble_eq_true rfl⟩ [] (by decide) rfl rfl hl.1 rfl (Nat.le_of_ble_eq_true rfl) dX8_gapping_1) [] [0, 1, 2, 3, 4] rfl rfl ⟨rfl, rfl, rfl, rfl, rfl, trivial⟩ [h0, h1, h2, h3, h4] rfl rfl 5 rfl (by decide +kernel) (fun H locs hw => ?_)
  refine lv_if_eq (tgt := 27) hx hb dX8_gapping_4 (by decide) (fun hc => ?_) (fun hc => ?_)
  · have hm := ipos hc hm
    refine lv_bipush (v := -2) hx hb dX8_gapping_27 (by decide) ?_
    have hm := Option.some.inj hm
    subst hm
    exact gRetI C0 hw dX8_gapping_29
  · have hm := ineg hc hm
    refine lv_iload_n hx hb dX8_gapping_7 rfl (lv_at hl 2 rfl) ?_
    refine lv_iconst (v := 0) hx hb dX8_gapping_8 (by decide) ?_
    refine lv_bipush (v := 7) hx hb dX8_gapping_9 (by decide) ?_
    obtain ⟨o11, ho11, hm⟩ := bindE hm
    refine gCalli (ws' := (W_x_gapping g h0 h1 h2 h3 h4 h5 h6 h7 h8 h9 h10 h11 h12 h13 h14 h15 v_toldIsStale v_latestFinding v_gappings_told v_gappings_year v_gappings_column v_gappings_hand)) C0 hw (gRunS (As := [.int a1, .int (0 : Int32), .int (7 : Int32)]) (rest := []) C0 hw lkX8_94 (c_x_within l g H.size  a1 (0 : Int32) (7 : Int32) o11 ho11) ⟨rfl, rfl⟩ ⟨Nat.le_of_ble_eq_true rfl, Nat.le_of_ble_eq_true rfl⟩ [] (by decide) rfl rfl hl.1 rfl (Nat.le_of_ble_eq_true rfl) dX8_gapping_11) [] [0, 1, 2, 3, 4] rfl rfl ⟨rfl, rfl, rfl, rfl, rfl, trivial⟩ [h0, h1, h2, h3, h4] rfl rfl 5 rfl (by decide +kernel) (fun H locs hw => ?_)
    refine lv_if_eq (tgt := 27) hx hb dX8_gapping_14 (by decide) (fun hc => ?_) (fun hc => ?_)
    · have hm := ipos hc hm
      refine lv_bipush (v := -2) hx hb dX8_gapping_27 (by decide) ?_
      have hm := Option.some.inj hm
      subst hm
      exact gRetI C0 hw dX8_gapping_29
    · have hm := ineg hc hm
      refine lv_iload_n hx hb dX8_gapping_17 rfl (lv_at hl 3 rfl) ?_
      refine lv_iconst (v := 0) hx hb dX8_gapping_18 (by decide) ?_
      refine lv_bipush (v := 7) hx hb dX8_gapping_19 (by decide) ?_
      obtain ⟨o21, ho21, hm⟩ := bindE hm
      refine gCalli (ws' := (W_x_gapping g h0 h1 h2 h3 h4 h5 h6 h7 h8 h9 h10 h11 h12 h13 h14 h15 v_toldIsStale v_latestFinding v_gappings_told v_gappings_year v_gappings_column v_gappings_hand)) C0 hw (gRunS (As := [.int a2, .int (0 : Int32), .int (7 : Int32)]) (rest := []) C0 hw lkX8_94 (c_x_within l g H.size  a2 (0 : Int32) (7 : Int32) o21 ho21) ⟨rfl, rfl⟩ ⟨Nat.le_of_ble_eq_true rfl, Nat.le_of_ble_eq_true rfl⟩ [] (by decide) rfl rfl hl.1 rfl (Nat.le_of_ble_eq_true rfl) dX8_gapping_21) [] [0, 1, 2, 3, 4] rfl rfl ⟨rfl, rfl, rfl, rfl, rfl, trivial⟩ [h0, h1, h2, h3, h4] rfl rfl 5 rfl (by decide +kernel) (fun H locs hw => ?_)
      refine lv_if_ne (tgt := 30) hx hb dX8_gapping_24 (by decide) (fun hc => ?_) (fun hc => ?_)
      · have hm := ineg hc hm
        refine lv_aload_n hx hb dX8_gapping_30 rfl (lv_at hl 0 rfl) ?_
        refine gGet C0 hw flX8_48 0 rfl rfl dX8_gapping_31 ?_
        refine gGet C0 hw flX8_151 1 rfl rfl dX8_gapping_34 ?_
        refine lv_bipush (v := 6) hx hb dX8_gapping_37 (by decide) ?_
        refine lv_icmp_lt (tgt := 45) hx hb dX8_gapping_39 (by decide) (fun hc => ?_) (fun hc => ?_)
        · have hm := ipos hc hm
          refine lv_aload_n hx hb dX8_gapping_45 rfl (lv_at hl 0 rfl) ?_
          refine gGet C0 hw flX8_48 0 rfl rfl dX8_gapping_46 ?_
          refine lv_iload_n hx hb dX8_gapping_49 rfl (lv_at hl 1 rfl) ?_
          refine lv_iload_n hx hb dX8_gapping_50 rfl (lv_at hl 2 rfl) ?_
          refine lv_iload_n hx hb dX8_gapping_51 rfl (lv_at hl 3 rfl) ?_
          obtain ⟨o52, ho52, hm⟩ := bindE hm
          refine gCallv (ws' := (W_x_gapping g h0 h1 h2 h3 h4 h5 h6 h7 h8 h9 h10 h11 h12 h13 h14 h15 v_toldIsStale v_latestFinding o52.1 o52.2.1 o52.2.2.1 o52.2.2.2)) C0 hw (gRunV (As := [.int a0, .int a1, .int a2]) (rest := []) C0 hw lkX8_152 (c_gp_add l g H.size h1 h2 h3 h4 v_gappings_told v_gappings_year v_gappings_column v_gappings_hand a0 a1 a2 o52 ho52) ⟨rfl, rfl⟩ ⟨Nat.le_of_ble_eq_true rfl, Nat.le_of_ble_eq_true rfl⟩ [1, 2, 3, 4] (by decide) rfl 1 rfl rfl rfl hl.1 rfl (Nat.le_of_ble_eq_true rfl) dX8_gapping_52) [1, 2, 3, 4] [0] rfl rfl ⟨rfl, trivial⟩ [h0, h1, h2, h3, h4] rfl rfl 5 rfl (by decide +kernel) (fun H locs hw => ?_)
          refine lv_aload_n hx hb dX8_gapping_55 rfl (lv_at hl 0 rfl) ?_
          refine lv_iconst (v := 1) hx hb dX8_gapping_56 (by decide) ?_
          refine gPut (ws' := (W_x_gapping g h0 h1 h2 h3 h4 h5 h6 h7 h8 h9 h10 h11 h12 h13 h14 h15 (1 : Int32) v_latestFinding o52.1 o52.2.1 o52.2.2.1 o52.2.2.2)) C0 hw fpX8_81 0 rfl rfl rfl (Nat.le_of_ble_eq_true rfl) rfl dX8_gapping_57 (fun H locs hw => ?_)
          refine lv_aload_n hx hb dX8_gapping_60 rfl (lv_at hl 0 rfl) ?_
          refine gGet C0 hw flX8_48 0 rfl rfl dX8_gapping_61 ?_
          refine gGet C0 hw flX8_151 1 rfl rfl dX8_gapping_64 ?_
          have hm := Option.some.inj hm
          subst hm
          exact gRetI C0 hw dX8_gapping_67
        · have hm := ineg hc hm
          refine lv_bipush (v := -4) hx hb dX8_gapping_42 (by decide) ?_
          have hm := Option.some.inj hm
          subst hm
          exact gRetI C0 hw dX8_gapping_44
      · have hm := ipos hc hm
        refine lv_bipush (v := -2) hx hb dX8_gapping_27 (by decide) ?_
        have hm := Option.some.inj hm
        subst hm
        exact gRetI C0 hw dX8_gapping_29

-- WallHands.back(I)I
abbrev W_x_back (g : gG) (h0 h1 h2 h3 h4 h5 h6 h7 h8 h9 h10 h11 h12 h13 h14 h15 h16 h17 : Nat) (v_toldIsStale : Int32) (v_latestFinding : Int32) (v_frosts_told : Int32) (v_gappings_told : Int32) : va_W := [(h0, .inr (8, [.ref h3, .ref h4, .ref h5, .ref h6, .ref h1, .ref h7, .ref h2, .ref h8, .ref h9, .ref h10, .ref h11, .ref h12, .int v_toldIsStale, .int v_latestFinding])), (h1, .inr (0, [.ref h13, .ref h14, .int v_frosts_told])), (h2, .inr (1, [.ref h15, .ref h16, .ref h17, .int v_gappings_told]))]

abbrev rm_x_back : Room := { frames := 1, cells := 0, slots := 0, locals := 20 }

set_option maxHeartbeats 1000000 in
set_option maxRecDepth 100000 in
theorem n_x_back_N72 {p : Program} {l : Launch} {e : Env} {s : State} {m : MethodId} {args : Array Value} {below : List Frame} {meth : Method} {c : Code} {A : Nat → Prop} {g : gG} {h0 h1 h2 h3 h4 h5 h6 h7 h8 h9 h10 h11 h12 h13 h14 h15 h16 h17 : Nat} {v_latestFinding : Int32} {r : (Int32 × Int32 × Int32 × Int32)} (C0 : gX p s m args meth c cX8_back 3 (some .int) RX8 g A) : ∀ (v_toldIsStale : Int32) (v_frosts_told : Int32) (v_gappings_told : Int32) (x2 : Int32), f_x_back_N72 v_toldIsStale v_frosts_told v_gappings_told x2 = some r → ∀ (H : Heap) (locs : List Loc) (ls : Array Slot), gW g A s (W_x_back g h0 h1 h2 h3 h4 h5 h6 h7 h8 h9 h10 h11 h12 h13 h14 h15 h16 h17 v_toldIsStale v_latestFinding v_frosts_told v_gappings_told) H locs → lv_has ls 3 [(0, .ref h0), (2, .int x2)] → W p l e rm_x_back s m args below meth c H locs 0 0 (gQi below args s A g r.1 (W_x_back g h0 h1 h2 h3 h4 h5 h6 h7 h8 h9 h10 h11 h12 h13 h14 h15 h16 h17 r.2.1 v_latestFinding r.2.2.1 r.2.2.2)) (F0 m 72 ls []) := by
  intro v_toldIsStale v_frosts_told v_gappings_told x2 hm H locs ls hw hl
  unfold f_x_back_N72 at hm
  obtain ⟨hx, hb, hr, hml, hown, hts, hlocks, hK, hA⟩ := id C0
  refine lv_aload_n hx hb dX8_back_72 rfl (lv_at hl 0 rfl) ?_
  refine lv_iconst (v := 1) hx hb dX8_back_73 (by decide) ?_
  refine gPut (ws' := (W_x_back g h0 h1 h2 h3 h4 h5 h6 h7 h8 h9 h10 h11 h12 h13 h14 h15 h16 h17 (1 : Int32) v_latestFinding v_frosts_told v_gappings_told)) C0 hw fpX8_81 0 rfl rfl rfl (Nat.le_of_ble_eq_true rfl) rfl dX8_back_74 (fun H locs hw => ?_)
  refine lv_iload_n hx hb dX8_back_77 rfl (lv_at hl 1 rfl) ?_
  refine lv_iconst (v := 1) hx hb dX8_back_78 (by decide) ?_
  refine lv_isub hx hb dX8_back_79 ?_
  have hm := Option.some.inj hm
  subst hm
  exact gRetI C0 hw dX8_back_80
set_option maxHeartbeats 1000000 in
set_option maxRecDepth 100000 in
theorem n_x_back_N31 {p : Program} {l : Launch} {e : Env} {s : State} {m : MethodId} {args : Array Value} {below : List Frame} {meth : Method} {c : Code} {A : Nat → Prop} {g : gG} {h0 h1 h2 h3 h4 h5 h6 h7 h8 h9 h10 h11 h12 h13 h14 h15 h16 h17 : Nat} {v_latestFinding : Int32} {r : (Int32 × Int32 × Int32 × Int32)} (C0 : gX p s m args meth c cX8_back 3 (some .int) RX8 g A) : ∀ (v_toldIsStale : Int32) (v_frosts_told : Int32) (v_gappings_told : Int32) (x1 : Int32) (y0 : Int32), f_x_back_N31 v_toldIsStale v_frosts_told v_gappings_told x1 y0 = some r → ∀ (H : Heap) (locs : List Loc) (ls : Array Slot), gW g A s (W_x_back g h0 h1 h2 h3 h4 h5 h6 h7 h8 h9 h10 h11 h12 h13 h14 h15 h16 h17 v_toldIsStale v_latestFinding v_frosts_told v_gappings_told) H locs → lv_has ls 3 [(0, .ref h0), (1, .int x1)] → W p l e rm_x_back s m args below meth c H locs 0 0 (gQi below args s A g r.1 (W_x_back g h0 h1 h2 h3 h4 h5 h6 h7 h8 h9 h10 h11 h12 h13 h14 h15 h16 h17 r.2.1 v_latestFinding r.2.2.1 r.2.2.2)) (F0 m 31 ls [.int y0]) := by
  intro v_toldIsStale v_frosts_told v_gappings_told x1 y0 hm H locs ls hw hl
  unfold f_x_back_N31 at hm
  obtain ⟨hx, hb, hr, hml, hown, hts, hlocks, hK, hA⟩ := id C0
  refine lv_istore_n (lv' := [(2, .int y0), (0, .ref h0), (1, .int x1)]) hx hb dX8_back_31 rfl hl (by decide) rfl (fun ls hl => ?_)
  refine lv_iload_n hx hb dX8_back_32 rfl (lv_at hl 0 rfl) ?_
  refine lv_if_ne (tgt := 39) hx hb dX8_back_33 (by decide) (fun hc => ?_) (fun hc => ?_)
  · have hm := ineg hc hm
    refine lv_iload_n hx hb dX8_back_39 rfl (lv_at hl 2 rfl) ?_
    refine lv_if_ne (tgt := 59) hx hb dX8_back_40 (by decide) (fun hc => ?_) (fun hc => ?_)
    · have hm := ineg hc hm
      refine lv_aload_n hx hb dX8_back_59 rfl (lv_at hl 1 rfl) ?_
      refine gGet C0 hw flX8_48 0 rfl rfl dX8_back_60 ?_
      refine lv_dup hx hb dX8_back_63 rfl ?_
      refine gGet C0 hw flX8_151 2 rfl rfl dX8_back_64 ?_
      refine lv_iconst (v := 1) hx hb dX8_back_67 (by decide) ?_
      refine lv_isub hx hb dX8_back_68 ?_
      refine gPut (ws' := (W_x_back g h0 h1 h2 h3 h4 h5 h6 h7 h8 h9 h10 h11 h12 h13 h14 h15 h16 h17 v_toldIsStale v_latestFinding v_frosts_told (v_gappings_told - (1 : Int32)))) C0 hw fpX8_151 2 rfl rfl rfl (Nat.le_of_ble_eq_true rfl) rfl dX8_back_69 (fun H locs hw => ?_)
      exact n_x_back_N72 C0  _ _ _ _ hm _ _ _ hw (lv_sub hl [1, 0] rfl)
    · have hm := ipos hc hm
      refine lv_aload_n hx hb dX8_back_43 rfl (lv_at hl 1 rfl) ?_
      refine gGet C0 hw flX8_38 0 rfl rfl dX8_back_44 ?_
      refine lv_dup hx hb dX8_back_47 rfl ?_
      refine gGet C0 hw flX8_142 1 rfl rfl dX8_back_48 ?_
      refine lv_iconst (v := 1) hx hb dX8_back_51 (by decide) ?_
      refine lv_isub hx hb dX8_back_52 ?_
      refine gPut (ws' := (W_x_back g h0 h1 h2 h3 h4 h5 h6 h7 h8 h9 h10 h11 h12 h13 h14 h15 h16 h17 v_toldIsStale v_latestFinding (v_frosts_told - (1 : Int32)) v_gappings_told)) C0 hw fpX8_142 1 rfl rfl rfl (Nat.le_of_ble_eq_true rfl) rfl dX8_back_53 (fun H locs hw => ?_)
      refine lv_goto (tgt := 72) hx hb dX8_back_56 (by decide) ?_
      exact n_x_back_N72 C0  _ _ _ _ hm _ _ _ hw (lv_sub hl [1, 0] rfl)
  · have hm := ipos hc hm
    refine lv_bipush (v := -3) hx hb dX8_back_36 (by decide) ?_
    have hm := Option.some.inj hm
    subst hm
    exact gRetI C0 hw dX8_back_38
set_option maxHeartbeats 1000000 in
set_option maxRecDepth 100000 in
theorem c_x_back (l : Launch) (g : gG) (sz : Nat) (h0 h1 h2 h3 h4 h5 h6 h7 h8 h9 h10 h11 h12 h13 h14 h15 h16 h17 : Nat) (v_toldIsStale : Int32) (v_latestFinding : Int32) (v_frosts_told : Int32) (v_gappings_told : Int32) (a0 : Int32) (r : (Int32 × Int32 × Int32 × Int32)) (hm : f_x_back v_toldIsStale v_frosts_told v_gappings_told a0 = some r) : gMi l yX8_back cX8_back 3 (some .int) rm_x_back g sz [.ref h0, .int a0] (W_x_back g h0 h1 h2 h3 h4 h5 h6 h7 h8 h9 h10 h11 h12 h13 h14 h15 h16 h17 v_toldIsStale v_latestFinding v_frosts_told v_gappings_told) r.1 (W_x_back g h0 h1 h2 h3 h4 h5 h6 h7 h8 h9 h10 h11 h12 h13 h14 h15 h16 h17 r.2.1 v_latestFinding r.2.2.1 r.2.2.2) := by
  unfold f_x_back at hm
  refine gEnterI (by decide) (Nat.le_of_ble_eq_true rfl) (fun p e s m below meth c A C0 H locs hw ls hl => ?_)
  obtain ⟨hx, hb, hr, hml, hown, hts, hlocks, hK, hA⟩ := id C0
  have C0 : gX p s m [.ref h0, .int a0].toArray meth c cX8_back 3 (some .int) RX8 g A := C0
  have hl : lv_has ls 3 [(0, .ref h0), (1, .int a0)] := hl
  refine lv_iload_n hx hb dX8_back_0 rfl (lv_at hl 1 rfl) ?_
  obtain ⟨o1, ho1, hm⟩ := bindE hm
  refine gCalli (ws' := (W_x_back g h0 h1 h2 h3 h4 h5 h6 h7 h8 h9 h10 h11 h12 h13 h14 h15 h16 h17 v_toldIsStale v_latestFinding v_frosts_told v_gappings_told)) C0 hw (gRunS (As := [.int a0]) (rest := []) C0 hw lkX8_90 (c_x_isEither l g H.size  a0 o1 ho1) ⟨rfl, rfl⟩ ⟨Nat.le_of_ble_eq_true rfl, Nat.le_of_ble_eq_true rfl⟩ [] (by decide) rfl rfl hl.1 rfl (Nat.le_of_ble_eq_true rfl) dX8_back_1) [] [0, 1, 2] rfl rfl ⟨rfl, rfl, rfl, trivial⟩ [h0, h1, h2] rfl rfl 3 rfl (by decide +kernel) (fun H locs hw => ?_)
  refine lv_if_ne (tgt := 10) hx hb dX8_back_4 (by decide) (fun hc => ?_) (fun hc => ?_)
  · have hm := ineg hc hm
    refine lv_iload_n hx hb dX8_back_10 rfl (lv_at hl 1 rfl) ?_
    refine lv_if_ne (tgt := 24) hx hb dX8_back_11 (by decide) (fun hc => ?_) (fun hc => ?_)
    · have hm := ineg hc hm
      refine lv_aload_n hx hb dX8_back_24 rfl (lv_at hl 0 rfl) ?_
      refine gGet C0 hw flX8_48 0 rfl rfl dX8_back_25 ?_
      refine gGet C0 hw flX8_151 2 rfl rfl dX8_back_28 ?_
      exact n_x_back_N31 C0  _ _ _ _ _ hm _ _ _ hw (lv_sub hl [0, 1] rfl)
    · have hm := ipos hc hm
      refine lv_aload_n hx hb dX8_back_14 rfl (lv_at hl 0 rfl) ?_
      refine gGet C0 hw flX8_38 0 rfl rfl dX8_back_15 ?_
      refine gGet C0 hw flX8_142 1 rfl rfl dX8_back_18 ?_
      refine lv_goto (tgt := 31) hx hb dX8_back_21 (by decide) ?_
      exact n_x_back_N31 C0  _ _ _ _ _ hm _ _ _ hw (lv_sub hl [0, 1] rfl)
  · have hm := ipos hc hm
    refine lv_bipush (v := -2) hx hb dX8_back_7 (by decide) ?_
    have hm := Option.some.inj hm
    subst hm
    exact gRetI C0 hw dX8_back_9

-- WallHands.isSheet(I)Z

abbrev rm_x_isSheet : Room := { frames := 1, cells := 0, slots := 0, locals := 22 }

set_option maxHeartbeats 1000000 in
set_option maxRecDepth 100000 in
theorem c_x_isSheet (l : Launch) (g : gG) (sz : Nat) (a0 : Int32) (r : Int32) (hm : f_x_isSheet a0 = some r) : gMi l yX8_isSheet cX8_isSheet 1 (some .boolean) rm_x_isSheet g sz [.int a0] [] r [] := by
  unfold f_x_isSheet at hm
  refine gEnterI (by decide) (Nat.le_of_ble_eq_true rfl) (fun p e s m below meth c A C0 H locs hw ls hl => ?_)
  obtain ⟨hx, hb, hr, hml, hown, hts, hlocks, hK, hA⟩ := id C0
  have C0 : gX p s m [.int a0].toArray meth c cX8_isSheet 1 (some .boolean) RX8 g A := C0
  have hl : lv_has ls 1 [(0, .int a0)] := hl
  refine lv_iload_n hx hb dX8_isSheet_0 rfl (lv_at hl 0 rfl) ?_
  refine lv_iconst (v := 0) hx hb dX8_isSheet_1 (by decide) ?_
  refine lv_iconst (v := 3) hx hb dX8_isSheet_2 (by decide) ?_
  obtain ⟨o3, ho3, hm⟩ := bindE hm
  refine gCalli (ws' := []) C0 hw (gRunS (As := [.int a0, .int (0 : Int32), .int (3 : Int32)]) (rest := []) C0 hw lkX8_94 (c_x_within l g H.size  a0 (0 : Int32) (3 : Int32) o3 ho3) ⟨rfl, rfl⟩ ⟨Nat.le_of_ble_eq_true rfl, Nat.le_of_ble_eq_true rfl⟩ [] (by decide) rfl rfl hl.1 rfl (Nat.le_of_ble_eq_true rfl) dX8_isSheet_3) [] [] rfl rfl trivial [] rfl rfl 0 rfl (by decide +kernel) (fun H locs hw => ?_)
  obtain ⟨hB0, hm⟩ := gdE hm
  have hB := of_decide_eq_true hB0
  have hm := Option.some.inj hm
  subst hm
  exact gRetZ C0 hw hB dX8_isSheet_6

-- WallHands.found(I)I
abbrev W_x_found (g : gG) (h0 h1 h2 h3 h4 h5 h6 h7 h8 h9 h10 h11 h12 : Nat) (v_toldIsStale : Int32) (v_latestFinding : Int32) : va_W := [(h0, .inr (8, [.ref h1, .ref h2, .ref h3, .ref h4, .ref h5, .ref h6, .ref h7, .ref h8, .ref h9, .ref h10, .ref h11, .ref h12, .int v_toldIsStale, .int v_latestFinding]))]

abbrev rm_x_found : Room := { frames := 0, cells := 0, slots := 0, locals := 0 }

set_option maxHeartbeats 1000000 in
set_option maxRecDepth 100000 in
theorem c_x_found (l : Launch) (g : gG) (sz : Nat) (h0 h1 h2 h3 h4 h5 h6 h7 h8 h9 h10 h11 h12 : Nat) (v_toldIsStale : Int32) (v_latestFinding : Int32) (a0 : Int32) (r : (Int32 × Int32)) (hm : f_x_found v_latestFinding a0 = some r) : gMi l yX8_found cX8_found 2 (some .int) rm_x_found g sz [.ref h0, .int a0] (W_x_found g h0 h1 h2 h3 h4 h5 h6 h7 h8 h9 h10 h11 h12 v_toldIsStale v_latestFinding) r.1 (W_x_found g h0 h1 h2 h3 h4 h5 h6 h7 h8 h9 h10 h11 h12 v_toldIsStale r.2) := by
  unfold f_x_found at hm
  refine gEnterI (by decide) (Nat.le_of_ble_eq_true rfl) (fun p e s m below meth c A C0 H locs hw ls hl => ?_)
  obtain ⟨hx, hb, hr, hml, hown, hts, hlocks, hK, hA⟩ := id C0
  have C0 : gX p s m [.ref h0, .int a0].toArray meth c cX8_found 2 (some .int) RX8 g A := C0
  have hl : lv_has ls 2 [(0, .ref h0), (1, .int a0)] := hl
  refine lv_aload_n hx hb dX8_found_0 rfl (lv_at hl 0 rfl) ?_
  refine lv_iload_n hx hb dX8_found_1 rfl (lv_at hl 1 rfl) ?_
  refine gPut (ws' := (W_x_found g h0 h1 h2 h3 h4 h5 h6 h7 h8 h9 h10 h11 h12 v_toldIsStale a0)) C0 hw fpX8_85 0 rfl rfl rfl (Nat.le_of_ble_eq_true rfl) rfl dX8_found_2 (fun H locs hw => ?_)
  refine lv_bipush (v := -10) hx hb dX8_found_5 (by decide) ?_
  refine lv_iload_n hx hb dX8_found_7 rfl (lv_at hl 1 rfl) ?_
  refine lv_isub hx hb dX8_found_8 ?_
  have hm := Option.some.inj hm
  subst hm
  exact gRetI C0 hw dX8_found_9

-- WallHands.read(I)I
abbrev W_x_read (g : gG) (h0 h1 h2 h3 h4 h5 h6 h7 h8 h9 h10 h11 h12 h13 h14 h15 h16 h17 h18 h19 h20 h21 h22 : Nat) (v_toldIsStale : Int32) (v_latestFinding : Int32) (v_frosts_told : Int32) (v_frosts_year : Nat → Int32) (v_frosts_force : Nat → Int32) (v_sheets0_form : Int32) (v_sheets0_size : Int32) (v_sheets0_items : Nat → Int32) (v_sheets1_form : Int32) (v_sheets1_size : Int32) (v_sheets1_items : Nat → Int32) (v_sheets2_form : Int32) (v_sheets2_size : Int32) (v_sheets2_items : Nat → Int32) (v_sheets3_form : Int32) (v_sheets3_size : Int32) (v_sheets3_items : Nat → Int32) : va_W := [(h0, .inr (8, [.ref h13, .ref h14, .ref h15, .ref h16, .ref h1, .ref h17, .ref h18, .ref h19, .ref h12, .ref h20, .ref h21, .ref h22, .int v_toldIsStale, .int v_latestFinding])), (h1, .inr (0, [.ref h2, .ref h3, .int v_frosts_told])), (h2, .inl (gI g, 6, .inl v_frosts_year)), (h3, .inl (gI g, 6, .inl v_frosts_force)), (h4, .inr (3, [.ref h5, .int v_sheets0_form, .int v_sheets0_size])), (h5, .inl (gI g, 60, .inl v_sheets0_items)), (h6, .inr (3, [.ref h7, .int v_sheets1_form, .int v_sheets1_size])), (h7, .inl (gI g, 60, .inl v_sheets1_items)), (h8, .inr (3, [.ref h9, .int v_sheets2_form, .int v_sheets2_size])), (h9, .inl (gI g, 60, .inl v_sheets2_items)), (h10, .inr (3, [.ref h11, .int v_sheets3_form, .int v_sheets3_size])), (h11, .inl (gI g, 60, .inl v_sheets3_items)), (h12, .inl (gL g, 4, .inr (.inr (.inr (.inr (g4 h4 h6 h8 h10))))))]

abbrev rm_x_read : Room := { frames := 3, cells := 0, slots := 0, locals := 63 }

set_option maxHeartbeats 1000000 in
set_option maxRecDepth 100000 in
theorem n_x_read_N119 {p : Program} {l : Launch} {e : Env} {s : State} {m : MethodId} {args : Array Value} {below : List Frame} {meth : Method} {c : Code} {A : Nat → Prop} {g : gG} {h0 h1 h2 h3 h4 h5 h6 h7 h8 h9 h10 h11 h12 h13 h14 h15 h16 h17 h18 h19 h20 h21 h22 : Nat} {v_sheets0_form : Int32} {v_sheets0_size : Int32} {v_sheets0_items : Nat → Int32} {v_sheets1_form : Int32} {v_sheets1_size : Int32} {v_sheets1_items : Nat → Int32} {v_sheets2_form : Int32} {v_sheets2_size : Int32} {v_sheets2_items : Nat → Int32} {v_sheets3_form : Int32} {v_sheets3_size : Int32} {v_sheets3_items : Nat → Int32} {r : (Int32 × Int32 × Int32 × Int32 × (Nat → Int32) × (Nat → Int32))} (C0 : gX p s m args meth c cX8_read 5 (some .int) RX8 g A) : ∀ (v_toldIsStale : Int32) (v_latestFinding : Int32) (v_frosts_told : Int32) (v_frosts_year : Nat → Int32) (v_frosts_force : Nat → Int32) (x3 : Int32), f_x_read_N119 v_sheets0_form v_sheets0_size v_sheets0_items v_sheets1_form v_sheets1_size v_sheets1_items v_sheets2_form v_sheets2_size v_sheets2_items v_sheets3_form v_sheets3_size v_sheets3_items v_toldIsStale v_latestFinding v_frosts_told v_frosts_year v_frosts_force x3 = some r → ∀ (H : Heap) (locs : List Loc) (ls : Array Slot), gW g A s (W_x_read g h0 h1 h2 h3 h4 h5 h6 h7 h8 h9 h10 h11 h12 h13 h14 h15 h16 h17 h18 h19 h20 h21 h22 v_toldIsStale v_latestFinding v_frosts_told v_frosts_year v_frosts_force v_sheets0_form v_sheets0_size v_sheets0_items v_sheets1_form v_sheets1_size v_sheets1_items v_sheets2_form v_sheets2_size v_sheets2_items v_sheets3_form v_sheets3_size v_sheets3_items) H locs → lv_has ls 5 [(0, .ref h0), (3, .int x3)] → W p l e rm_x_read s m args below meth c H locs 0 0 (gQi below args s A g r.1 (W_x_read g h0 h1 h2 h3 h4 h5 h6 h7 h8 h9 h10 h11 h12 h13 h14 h15 h16 h17 h18 h19 h20 h21 h22 r.2.1 r.2.2.1 r.2.2.2.1 r.2.2.2.2.1 r.2.2.2.2.2 v_sheets0_form v_sheets0_size v_sheets0_items v_sheets1_form v_sheets1_size v_sheets1_items v_sheets2_form v_sheets2_size v_sheets2_items v_sheets3_form v_sheets3_size v_sheets3_items)) (F0 m 119 ls []) := by
  intro v_toldIsStale v_latestFinding v_frosts_told v_frosts_year v_frosts_force x3 hm H locs ls hw hl
  unfold f_x_read_N119 at hm
  obtain ⟨hx, hb, hr, hml, hown, hts, hlocks, hK, hA⟩ := id C0
  refine lv_aload_n hx hb dX8_read_119 rfl (lv_at hl 0 rfl) ?_
  refine lv_iconst (v := 1) hx hb dX8_read_120 (by decide) ?_
  refine gPut (ws' := (W_x_read g h0 h1 h2 h3 h4 h5 h6 h7 h8 h9 h10 h11 h12 h13 h14 h15 h16 h17 h18 h19 h20 h21 h22 (1 : Int32) v_latestFinding v_frosts_told v_frosts_year v_frosts_force v_sheets0_form v_sheets0_size v_sheets0_items v_sheets1_form v_sheets1_size v_sheets1_items v_sheets2_form v_sheets2_size v_sheets2_items v_sheets3_form v_sheets3_size v_sheets3_items)) C0 hw fpX8_81 0 rfl rfl rfl (Nat.le_of_ble_eq_true rfl) rfl dX8_read_121 (fun H locs hw => ?_)
  refine lv_aload_n hx hb dX8_read_124 rfl (lv_at hl 0 rfl) ?_
  refine gGet C0 hw flX8_38 0 rfl rfl dX8_read_125 ?_
  refine gGet C0 hw flX8_142 1 rfl rfl dX8_read_128 ?_
  refine lv_iload_n hx hb dX8_read_131 rfl (lv_at hl 1 rfl) ?_
  refine lv_isub hx hb dX8_read_132 ?_
  have hm := Option.some.inj hm
  subst hm
  exact gRetI C0 hw dX8_read_133
set_option maxHeartbeats 1000000 in
set_option maxRecDepth 100000 in
theorem n_x_read_N42_0 {p : Program} {l : Launch} {e : Env} {s : State} {m : MethodId} {args : Array Value} {below : List Frame} {meth : Method} {c : Code} {A : Nat → Prop} {g : gG} {h0 h1 h2 h3 h4 h5 h6 h7 h8 h9 h10 h11 h12 h13 h14 h15 h16 h17 h18 h19 h20 h21 h22 : Nat} {v_sheets0_form : Int32} {v_sheets0_size : Int32} {v_sheets0_items : Nat → Int32} {v_sheets1_form : Int32} {v_sheets1_size : Int32} {v_sheets1_items : Nat → Int32} {v_sheets2_form : Int32} {v_sheets2_size : Int32} {v_sheets2_items : Nat → Int32} {v_sheets3_form : Int32} {v_sheets3_size : Int32} {v_sheets3_items : Nat → Int32} {k42 : Int32 → Int32 → Int32 → (Nat → Int32) → (Nat → Int32) → Int32 → Int32 → Option (Int32 × Int32 × Int32 × Int32 × (Nat → Int32) × (Nat → Int32))} {r : (Int32 × Int32 × Int32 × Int32 × (Nat → Int32) × (Nat → Int32))} (C0 : gX p s m args meth c cX8_read 5 (some .int) RX8 g A) (hk42 : ∀ (v_toldIsStale : Int32) (v_latestFinding : Int32) (v_frosts_told : Int32) (v_frosts_year : Nat → Int32) (v_frosts_force : Nat → Int32) (x3 : Int32) (x4 : Int32), k42 v_toldIsStale v_latestFinding v_frosts_told v_frosts_year v_frosts_force x3 x4 = some r → ∀ (H : Heap) (locs : List Loc) (ls : Array Slot), gW g A s (W_x_read g h0 h1 h2 h3 h4 h5 h6 h7 h8 h9 h10 h11 h12 h13 h14 h15 h16 h17 h18 h19 h20 h21 h22 v_toldIsStale v_latestFinding v_frosts_told v_frosts_year v_frosts_force v_sheets0_form v_sheets0_size v_sheets0_items v_sheets1_form v_sheets1_size v_sheets1_items v_sheets2_form v_sheets2_size v_sheets2_items v_sheets3_form v_sheets3_size v_sheets3_items) H locs → lv_has ls 5 [(0, .ref h0), (2, .ref h4), (3, .int x3), (4, .int x4)] → W p l e rm_x_read s m args below meth c H locs 0 0 (gQi below args s A g r.1 (W_x_read g h0 h1 h2 h3 h4 h5 h6 h7 h8 h9 h10 h11 h12 h13 h14 h15 h16 h17 h18 h19 h20 h21 h22 r.2.1 r.2.2.1 r.2.2.2.1 r.2.2.2.2.1 r.2.2.2.2.2 v_sheets0_form v_sheets0_size v_sheets0_items v_sheets1_form v_sheets1_size v_sheets1_items v_sheets2_form v_sheets2_size v_sheets2_items v_sheets3_form v_sheets3_size v_sheets3_items)) (F0 m 42 ls [])) : ∀ (v_toldIsStale : Int32) (v_latestFinding : Int32) (v_frosts_told : Int32) (v_frosts_year : Nat → Int32) (v_frosts_force : Nat → Int32) (x3 : Int32) (x4 : Int32), f_x_read_N42_0 v_sheets0_form v_sheets0_size v_sheets0_items v_sheets1_form v_sheets1_size v_sheets1_items v_sheets2_form v_sheets2_size v_sheets2_items v_sheets3_form v_sheets3_size v_sheets3_items k42 v_toldIsStale v_latestFinding v_frosts_told v_frosts_year v_frosts_force x3 x4 = some r → ∀ (H : Heap) (locs : List Loc) (ls : Array Slot), gW g A s (W_x_read g h0 h1 h2 h3 h4 h5 h6 h7 h8 h9 h10 h11 h12 h13 h14 h15 h16 h17 h18 h19 h20 h21 h22 v_toldIsStale v_latestFinding v_frosts_told v_frosts_year v_frosts_force v_sheets0_form v_sheets0_size v_sheets0_items v_sheets1_form v_sheets1_size v_sheets1_items v_sheets2_form v_sheets2_size v_sheets2_items v_sheets3_form v_sheets3_size v_sheets3_items) H locs → lv_has ls 5 [(0, .ref h0), (2, .ref h4), (3, .int x3), (4, .int x4)] → W p l e rm_x_read s m args below meth c H locs 0 0 (gQi below args s A g r.1 (W_x_read g h0 h1 h2 h3 h4 h5 h6 h7 h8 h9 h10 h11 h12 h13 h14 h15 h16 h17 h18 h19 h20 h21 h22 r.2.1 r.2.2.1 r.2.2.2.1 r.2.2.2.2.1 r.2.2.2.2.2 v_sheets0_form v_sheets0_size v_sheets0_items v_sheets1_form v_sheets1_size v_sheets1_items v_sheets2_form v_sheets2_size v_sheets2_items v_sheets3_form v_sheets3_size v_sheets3_items)) (F0 m 42 ls []) := by
  intro v_toldIsStale v_latestFinding v_frosts_told v_frosts_year v_frosts_force x3 x4 hm H locs ls hw hl
  unfold f_x_read_N42_0 at hm
  obtain ⟨hx, hb, hr, hml, hown, hts, hlocks, hK, hA⟩ := id C0
  refine lv_iload hx hb dX8_read_42 (lv_at hl 3 rfl) ?_
  refine lv_iconst (v := 1) hx hb dX8_read_44 (by decide) ?_
  refine lv_iadd hx hb dX8_read_45 ?_
  refine lv_aload_n hx hb dX8_read_46 rfl (lv_at hl 1 rfl) ?_
  refine gGet C0 hw flX8_165 4 rfl rfl dX8_read_47 ?_
  refine lv_icmp_ge (tgt := 119) hx hb dX8_read_50 (by decide) (fun hc => ?_) (fun hc => ?_)
  · have hm := ipos hc hm
    exact n_x_read_N119 C0  _ _ _ _ _ _ hm _ _ _ hw (lv_sub hl [0, 2] rfl)
  · have hm := ineg hc hm
    refine lv_aload_n hx hb dX8_read_53 rfl (lv_at hl 0 rfl) ?_
    refine gGet C0 hw flX8_38 0 rfl rfl dX8_read_54 ?_
    refine gGet C0 hw flX8_142 1 rfl rfl dX8_read_57 ?_
    refine lv_bipush (v := 6) hx hb dX8_read_60 (by decide) ?_
    refine lv_icmp_ge (tgt := 119) hx hb dX8_read_62 (by decide) (fun hc => ?_) (fun hc => ?_)
    · have hm := ipos hc hm
      exact n_x_read_N119 C0  _ _ _ _ _ _ hm _ _ _ hw (lv_sub hl [0, 2] rfl)
    · have hm := ineg hc hm
      refine lv_aload_n hx hb dX8_read_65 rfl (lv_at hl 1 rfl) ?_
      refine gGet C0 hw flX8_168 4 rfl rfl dX8_read_66 ?_
      refine lv_iload hx hb dX8_read_69 (lv_at hl 3 rfl) ?_
      obtain ⟨hin, hm⟩ := gdE hm
      have hin := inbE hin
      refine gAldI C0 hw 5 rfl hin dX8_read_71 ?_
      refine lv_aload_n hx hb dX8_read_72 rfl (lv_at hl 1 rfl) ?_
      refine gGet C0 hw flX8_168 4 rfl rfl dX8_read_73 ?_
      refine lv_iload hx hb dX8_read_76 (lv_at hl 3 rfl) ?_
      refine lv_iconst (v := 1) hx hb dX8_read_78 (by decide) ?_
      refine lv_iadd hx hb dX8_read_79 ?_
      obtain ⟨hin, hm⟩ := gdE hm
      have hin := inbE hin
      refine gAldI C0 hw 5 rfl hin dX8_read_80 ?_
      obtain ⟨o81, ho81, hm⟩ := bindE hm
      refine gCalli (ws' := (W_x_read g h0 h1 h2 h3 h4 h5 h6 h7 h8 h9 h10 h11 h12 h13 h14 h15 h16 h17 h18 h19 h20 h21 h22 v_toldIsStale v_latestFinding v_frosts_told v_frosts_year v_frosts_force v_sheets0_form v_sheets0_size v_sheets0_items v_sheets1_form v_sheets1_size v_sheets1_items v_sheets2_form v_sheets2_size v_sheets2_items v_sheets3_form v_sheets3_size v_sheets3_items)) C0 hw (gRunS (As := [.int (v_sheets0_items x4.toNatClampNeg), .int (v_sheets0_items (x4 + (1 : Int32)).toNatClampNeg)]) (rest := []) C0 hw lkX8_139 (c_fr_mayBe l g H.size  (v_sheets0_items x4.toNatClampNeg) (v_sheets0_items (x4 + (1 : Int32)).toNatClampNeg) o81 ho81) ⟨rfl, rfl⟩ ⟨Nat.le_of_ble_eq_true rfl, Nat.le_of_ble_eq_true rfl⟩ [] (by decide) rfl rfl hl.1 rfl (Nat.le_of_ble_eq_true rfl) dX8_read_81) [] [0, 1, 2, 3, 4, 5, 6, 7, 8, 9, 10, 11, 12] rfl rfl ⟨rfl, rfl, rfl, rfl, rfl, rfl, rfl, rfl, rfl, rfl, rfl, rfl, rfl, trivial⟩ [h0, h1, h2, h3, h4, h5, h6, h7, h8, h9, h10, h11, h12] rfl rfl 13 rfl (by decide +kernel) (fun H locs hw => ?_)
      refine lv_if_ne (tgt := 90) hx hb dX8_read_84 (by decide) (fun hc => ?_) (fun hc => ?_)
      · have hm := ineg hc hm
        refine lv_aload_n hx hb dX8_read_90 rfl (lv_at hl 0 rfl) ?_
        refine gGet C0 hw flX8_38 0 rfl rfl dX8_read_91 ?_
        refine lv_aload_n hx hb dX8_read_94 rfl (lv_at hl 1 rfl) ?_
        refine gGet C0 hw flX8_168 4 rfl rfl dX8_read_95 ?_
        refine lv_iload hx hb dX8_read_98 (lv_at hl 3 rfl) ?_
        obtain ⟨hin, hm⟩ := gdE hm
        have hin := inbE hin
        refine gAldI C0 hw 5 rfl hin dX8_read_100 ?_
        refine lv_aload_n hx hb dX8_read_101 rfl (lv_at hl 1 rfl) ?_
        refine gGet C0 hw flX8_168 4 rfl rfl dX8_read_102 ?_
        refine lv_iload hx hb dX8_read_105 (lv_at hl 3 rfl) ?_
        refine lv_iconst (v := 1) hx hb dX8_read_107 (by decide) ?_
        refine lv_iadd hx hb dX8_read_108 ?_
        obtain ⟨hin, hm⟩ := gdE hm
        have hin := inbE hin
        refine gAldI C0 hw 5 rfl hin dX8_read_109 ?_
        obtain ⟨o110, ho110, hm⟩ := bindE hm
        refine gCallv (ws' := (W_x_read g h0 h1 h2 h3 h4 h5 h6 h7 h8 h9 h10 h11 h12 h13 h14 h15 h16 h17 h18 h19 h20 h21 h22 v_toldIsStale v_latestFinding o110.1 o110.2.1 o110.2.2 v_sheets0_form v_sheets0_size v_sheets0_items v_sheets1_form v_sheets1_size v_sheets1_items v_sheets2_form v_sheets2_size v_sheets2_items v_sheets3_form v_sheets3_size v_sheets3_items)) C0 hw (gRunV (As := [.int (v_sheets0_items x4.toNatClampNeg), .int (v_sheets0_items (x4 + (1 : Int32)).toNatClampNeg)]) (rest := []) C0 hw lkX8_144 (c_fr_add l g H.size h1 h2 h3 v_frosts_told v_frosts_year v_frosts_force (v_sheets0_items x4.toNatClampNeg) (v_sheets0_items (x4 + (1 : Int32)).toNatClampNeg) o110 ho110) ⟨rfl, rfl⟩ ⟨Nat.le_of_ble_eq_true rfl, Nat.le_of_ble_eq_true rfl⟩ [1, 2, 3] (by decide) rfl 1 rfl rfl rfl hl.1 rfl (Nat.le_of_ble_eq_true rfl) dX8_read_110) [1, 2, 3] [0, 4, 5, 6, 7, 8, 9, 10, 11, 12] rfl rfl ⟨rfl, rfl, rfl, rfl, rfl, rfl, rfl, rfl, rfl, rfl, trivial⟩ [h0, h1, h2, h3, h4, h5, h6, h7, h8, h9, h10, h11, h12] rfl rfl 13 rfl (by decide +kernel) (fun H locs hw => ?_)
        refine lv_iinc (v := x4 + (2 : Int32)) (lv' := [(4, .int (x4 + (2 : Int32))), (0, .ref h0), (2, .ref h4), (3, .int x3)]) hx hb dX8_read_113 hl (k := 3) rfl rfl (by decide) rfl (fun ls hl => ?_)
        refine lv_goto (tgt := 42) hx hb dX8_read_116 (by decide) ?_
        exact hk42 _ _ _ _ _ _ _ hm _ _ _ hw (lv_sub hl [1, 2, 3, 0] rfl)
      · have hm := ipos hc hm
        refine lv_goto (tgt := 119) hx hb dX8_read_87 (by decide) ?_
        exact n_x_read_N119 C0  _ _ _ _ _ _ hm _ _ _ hw (lv_sub hl [0, 2] rfl)
set_option maxHeartbeats 1000000 in
set_option maxRecDepth 100000 in
theorem l_x_read_N42_0 {p : Program} {l : Launch} {e : Env} {s : State} {m : MethodId} {args : Array Value} {below : List Frame} {meth : Method} {c : Code} {A : Nat → Prop} {g : gG} {h0 h1 h2 h3 h4 h5 h6 h7 h8 h9 h10 h11 h12 h13 h14 h15 h16 h17 h18 h19 h20 h21 h22 : Nat} {v_sheets0_form : Int32} {v_sheets0_size : Int32} {v_sheets0_items : Nat → Int32} {v_sheets1_form : Int32} {v_sheets1_size : Int32} {v_sheets1_items : Nat → Int32} {v_sheets2_form : Int32} {v_sheets2_size : Int32} {v_sheets2_items : Nat → Int32} {v_sheets3_form : Int32} {v_sheets3_size : Int32} {v_sheets3_items : Nat → Int32} {r : (Int32 × Int32 × Int32 × Int32 × (Nat → Int32) × (Nat → Int32))} (C0 : gX p s m args meth c cX8_read 5 (some .int) RX8 g A) : ∀ n : Nat, ∀ (v_toldIsStale : Int32) (v_latestFinding : Int32) (v_frosts_told : Int32) (v_frosts_year : Nat → Int32) (v_frosts_force : Nat → Int32) (x3 : Int32) (x4 : Int32), iter (fun _ _ _ _ _ _ _ => none) (f_x_read_N42_0 v_sheets0_form v_sheets0_size v_sheets0_items v_sheets1_form v_sheets1_size v_sheets1_items v_sheets2_form v_sheets2_size v_sheets2_items v_sheets3_form v_sheets3_size v_sheets3_items) n v_toldIsStale v_latestFinding v_frosts_told v_frosts_year v_frosts_force x3 x4 = some r → ∀ (H : Heap) (locs : List Loc) (ls : Array Slot), gW g A s (W_x_read g h0 h1 h2 h3 h4 h5 h6 h7 h8 h9 h10 h11 h12 h13 h14 h15 h16 h17 h18 h19 h20 h21 h22 v_toldIsStale v_latestFinding v_frosts_told v_frosts_year v_frosts_force v_sheets0_form v_sheets0_size v_sheets0_items v_sheets1_form v_sheets1_size v_sheets1_items v_sheets2_form v_sheets2_size v_sheets2_items v_sheets3_form v_sheets3_size v_sheets3_items) H locs → lv_has ls 5 [(0, .ref h0), (2, .ref h4), (3, .int x3), (4, .int x4)] → W p l e rm_x_read s m args below meth c H locs 0 0 (gQi below args s A g r.1 (W_x_read g h0 h1 h2 h3 h4 h5 h6 h7 h8 h9 h10 h11 h12 h13 h14 h15 h16 h17 h18 h19 h20 h21 h22 r.2.1 r.2.2.1 r.2.2.2.1 r.2.2.2.2.1 r.2.2.2.2.2 v_sheets0_form v_sheets0_size v_sheets0_items v_sheets1_form v_sheets1_size v_sheets1_items v_sheets2_form v_sheets2_size v_sheets2_items v_sheets3_form v_sheets3_size v_sheets3_items)) (F0 m 42 ls []) := by
  intro n
  induction n with
  | zero =>
    intro v_toldIsStale v_latestFinding v_frosts_told v_frosts_year v_frosts_force x3 x4 hm
    cases hm
  | succ n ih =>
    exact n_x_read_N42_0 C0  ih
set_option maxHeartbeats 1000000 in
set_option maxRecDepth 100000 in
theorem n_x_read_N42_1 {p : Program} {l : Launch} {e : Env} {s : State} {m : MethodId} {args : Array Value} {below : List Frame} {meth : Method} {c : Code} {A : Nat → Prop} {g : gG} {h0 h1 h2 h3 h4 h5 h6 h7 h8 h9 h10 h11 h12 h13 h14 h15 h16 h17 h18 h19 h20 h21 h22 : Nat} {v_sheets0_form : Int32} {v_sheets0_size : Int32} {v_sheets0_items : Nat → Int32} {v_sheets1_form : Int32} {v_sheets1_size : Int32} {v_sheets1_items : Nat → Int32} {v_sheets2_form : Int32} {v_sheets2_size : Int32} {v_sheets2_items : Nat → Int32} {v_sheets3_form : Int32} {v_sheets3_size : Int32} {v_sheets3_items : Nat → Int32} {k42 : Int32 → Int32 → Int32 → (Nat → Int32) → (Nat → Int32) → Int32 → Int32 → Option (Int32 × Int32 × Int32 × Int32 × (Nat → Int32) × (Nat → Int32))} {r : (Int32 × Int32 × Int32 × Int32 × (Nat → Int32) × (Nat → Int32))} (C0 : gX p s m args meth c cX8_read 5 (some .int) RX8 g A) (hk42 : ∀ (v_toldIsStale : Int32) (v_latestFinding : Int32) (v_frosts_told : Int32) (v_frosts_year : Nat → Int32) (v_frosts_force : Nat → Int32) (x3 : Int32) (x4 : Int32), k42 v_toldIsStale v_latestFinding v_frosts_told v_frosts_year v_frosts_force x3 x4 = some r → ∀ (H : Heap) (locs : List Loc) (ls : Array Slot), gW g A s (W_x_read g h0 h1 h2 h3 h4 h5 h6 h7 h8 h9 h10 h11 h12 h13 h14 h15 h16 h17 h18 h19 h20 h21 h22 v_toldIsStale v_latestFinding v_frosts_told v_frosts_year v_frosts_force v_sheets0_form v_sheets0_size v_sheets0_items v_sheets1_form v_sheets1_size v_sheets1_items v_sheets2_form v_sheets2_size v_sheets2_items v_sheets3_form v_sheets3_size v_sheets3_items) H locs → lv_has ls 5 [(0, .ref h0), (2, .ref h6), (3, .int x3), (4, .int x4)] → W p l e rm_x_read s m args below meth c H locs 0 0 (gQi below args s A g r.1 (W_x_read g h0 h1 h2 h3 h4 h5 h6 h7 h8 h9 h10 h11 h12 h13 h14 h15 h16 h17 h18 h19 h20 h21 h22 r.2.1 r.2.2.1 r.2.2.2.1 r.2.2.2.2.1 r.2.2.2.2.2 v_sheets0_form v_sheets0_size v_sheets0_items v_sheets1_form v_sheets1_size v_sheets1_items v_sheets2_form v_sheets2_size v_sheets2_items v_sheets3_form v_sheets3_size v_sheets3_items)) (F0 m 42 ls [])) : ∀ (v_toldIsStale : Int32) (v_latestFinding : Int32) (v_frosts_told : Int32) (v_frosts_year : Nat → Int32) (v_frosts_force : Nat → Int32) (x3 : Int32) (x4 : Int32), f_x_read_N42_1 v_sheets0_form v_sheets0_size v_sheets0_items v_sheets1_form v_sheets1_size v_sheets1_items v_sheets2_form v_sheets2_size v_sheets2_items v_sheets3_form v_sheets3_size v_sheets3_items k42 v_toldIsStale v_latestFinding v_frosts_told v_frosts_year v_frosts_force x3 x4 = some r → ∀ (H : Heap) (locs : List Loc) (ls : Array Slot), gW g A s (W_x_read g h0 h1 h2 h3 h4 h5 h6 h7 h8 h9 h10 h11 h12 h13 h14 h15 h16 h17 h18 h19 h20 h21 h22 v_toldIsStale v_latestFinding v_frosts_told v_frosts_year v_frosts_force v_sheets0_form v_sheets0_size v_sheets0_items v_sheets1_form v_sheets1_size v_sheets1_items v_sheets2_form v_sheets2_size v_sheets2_items v_sheets3_form v_sheets3_size v_sheets3_items) H locs → lv_has ls 5 [(0, .ref h0), (2, .ref h6), (3, .int x3), (4, .int x4)] → W p l e rm_x_read s m args below meth c H locs 0 0 (gQi below args s A g r.1 (W_x_read g h0 h1 h2 h3 h4 h5 h6 h7 h8 h9 h10 h11 h12 h13 h14 h15 h16 h17 h18 h19 h20 h21 h22 r.2.1 r.2.2.1 r.2.2.2.1 r.2.2.2.2.1 r.2.2.2.2.2 v_sheets0_form v_sheets0_size v_sheets0_items v_sheets1_form v_sheets1_size v_sheets1_items v_sheets2_form v_sheets2_size v_sheets2_items v_sheets3_form v_sheets3_size v_sheets3_items)) (F0 m 42 ls []) := by
  intro v_toldIsStale v_latestFinding v_frosts_told v_frosts_year v_frosts_force x3 x4 hm H locs ls hw hl
  unfold f_x_read_N42_1 at hm
  obtain ⟨hx, hb, hr, hml, hown, hts, hlocks, hK, hA⟩ := id C0
  refine lv_iload hx hb dX8_read_42 (lv_at hl 3 rfl) ?_
  refine lv_iconst (v := 1) hx hb dX8_read_44 (by decide) ?_
  refine lv_iadd hx hb dX8_read_45 ?_
  refine lv_aload_n hx hb dX8_read_46 rfl (lv_at hl 1 rfl) ?_
  refine gGet C0 hw flX8_165 6 rfl rfl dX8_read_47 ?_
  refine lv_icmp_ge (tgt := 119) hx hb dX8_read_50 (by decide) (fun hc => ?_) (fun hc => ?_)
  · have hm := ipos hc hm
    exact n_x_read_N119 C0  _ _ _ _ _ _ hm _ _ _ hw (lv_sub hl [0, 2] rfl)
  · have hm := ineg hc hm
    refine lv_aload_n hx hb dX8_read_53 rfl (lv_at hl 0 rfl) ?_
    refine gGet C0 hw flX8_38 0 rfl rfl dX8_read_54 ?_
    refine gGet C0 hw flX8_142 1 rfl rfl dX8_read_57 ?_
    refine lv_bipush (v := 6) hx hb dX8_read_60 (by decide) ?_
    refine lv_icmp_ge (tgt := 119) hx hb dX8_read_62 (by decide) (fun hc => ?_) (fun hc => ?_)
    · have hm := ipos hc hm
      exact n_x_read_N119 C0  _ _ _ _ _ _ hm _ _ _ hw (lv_sub hl [0, 2] rfl)
    · have hm := ineg hc hm
      refine lv_aload_n hx hb dX8_read_65 rfl (lv_at hl 1 rfl) ?_
      refine gGet C0 hw flX8_168 6 rfl rfl dX8_read_66 ?_
      refine lv_iload hx hb dX8_read_69 (lv_at hl 3 rfl) ?_
      obtain ⟨hin, hm⟩ := gdE hm
      have hin := inbE hin
      refine gAldI C0 hw 7 rfl hin dX8_read_71 ?_
      refine lv_aload_n hx hb dX8_read_72 rfl (lv_at hl 1 rfl) ?_
      refine gGet C0 hw flX8_168 6 rfl rfl dX8_read_73 ?_
      refine lv_iload hx hb dX8_read_76 (lv_at hl 3 rfl) ?_
      refine lv_iconst (v := 1) hx hb dX8_read_78 (by decide) ?_
      refine lv_iadd hx hb dX8_read_79 ?_
      obtain ⟨hin, hm⟩ := gdE hm
      have hin := inbE hin
      refine gAldI C0 hw 7 rfl hin dX8_read_80 ?_
      obtain ⟨o81, ho81, hm⟩ := bindE hm
      refine gCalli (ws' := (W_x_read g h0 h1 h2 h3 h4 h5 h6 h7 h8 h9 h10 h11 h12 h13 h14 h15 h16 h17 h18 h19 h20 h21 h22 v_toldIsStale v_latestFinding v_frosts_told v_frosts_year v_frosts_force v_sheets0_form v_sheets0_size v_sheets0_items v_sheets1_form v_sheets1_size v_sheets1_items v_sheets2_form v_sheets2_size v_sheets2_items v_sheets3_form v_sheets3_size v_sheets3_items)) C0 hw (gRunS (As := [.int (v_sheets1_items x4.toNatClampNeg), .int (v_sheets1_items (x4 + (1 : Int32)).toNatClampNeg)]) (rest := []) C0 hw lkX8_139 (c_fr_mayBe l g H.size  (v_sheets1_items x4.toNatClampNeg) (v_sheets1_items (x4 + (1 : Int32)).toNatClampNeg) o81 ho81) ⟨rfl, rfl⟩ ⟨Nat.le_of_ble_eq_true rfl, Nat.le_of_ble_eq_true rfl⟩ [] (by decide) rfl rfl hl.1 rfl (Nat.le_of_ble_eq_true rfl) dX8_read_81) [] [0, 1, 2, 3, 4, 5, 6, 7, 8, 9, 10, 11, 12] rfl rfl ⟨rfl, rfl, rfl, rfl, rfl, rfl, rfl, rfl, rfl, rfl, rfl, rfl, rfl, trivial⟩ [h0, h1, h2, h3, h4, h5, h6, h7, h8, h9, h10, h11, h12] rfl rfl 13 rfl (by decide +kernel) (fun H locs hw => ?_)
      refine lv_if_ne (tgt := 90) hx hb dX8_read_84 (by decide) (fun hc => ?_) (fun hc => ?_)
      · have hm := ineg hc hm
        refine lv_aload_n hx hb dX8_read_90 rfl (lv_at hl 0 rfl) ?_
        refine gGet C0 hw flX8_38 0 rfl rfl dX8_read_91 ?_
        refine lv_aload_n hx hb dX8_read_94 rfl (lv_at hl 1 rfl) ?_
        refine gGet C0 hw flX8_168 6 rfl rfl dX8_read_95 ?_
        refine lv_iload hx hb dX8_read_98 (lv_at hl 3 rfl) ?_
        obtain ⟨hin, hm⟩ := gdE hm
        have hin := inbE hin
        refine gAldI C0 hw 7 rfl hin dX8_read_100 ?_
        refine lv_aload_n hx hb dX8_read_101 rfl (lv_at hl 1 rfl) ?_
        refine gGet C0 hw flX8_168 6 rfl rfl dX8_read_102 ?_
        refine lv_iload hx hb dX8_read_105 (lv_at hl 3 rfl) ?_
        refine lv_iconst (v := 1) hx hb dX8_read_107 (by decide) ?_
        refine lv_iadd hx hb dX8_read_108 ?_
        obtain ⟨hin, hm⟩ := gdE hm
        have hin := inbE hin
        refine gAldI C0 hw 7 rfl hin dX8_read_109 ?_
        obtain ⟨o110, ho110, hm⟩ := bindE hm
        refine gCallv (ws' := (W_x_read g h0 h1 h2 h3 h4 h5 h6 h7 h8 h9 h10 h11 h12 h13 h14 h15 h16 h17 h18 h19 h20 h21 h22 v_toldIsStale v_latestFinding o110.1 o110.2.1 o110.2.2 v_sheets0_form v_sheets0_size v_sheets0_items v_sheets1_form v_sheets1_size v_sheets1_items v_sheets2_form v_sheets2_size v_sheets2_items v_sheets3_form v_sheets3_size v_sheets3_items)) C0 hw (gRunV (As := [.int (v_sheets1_items x4.toNatClampNeg), .int (v_sheets1_items (x4 + (1 : Int32)).toNatClampNeg)]) (rest := []) C0 hw lkX8_144 (c_fr_add l g H.size h1 h2 h3 v_frosts_told v_frosts_year v_frosts_force (v_sheets1_items x4.toNatClampNeg) (v_sheets1_items (x4 + (1 : Int32)).toNatClampNeg) o110 ho110) ⟨rfl, rfl⟩ ⟨Nat.le_of_ble_eq_true rfl, Nat.le_of_ble_eq_true rfl⟩ [1, 2, 3] (by decide) rfl 1 rfl rfl rfl hl.1 rfl (Nat.le_of_ble_eq_true rfl) dX8_read_110) [1, 2, 3] [0, 4, 5, 6, 7, 8, 9, 10, 11, 12] rfl rfl ⟨rfl, rfl, rfl, rfl, rfl, rfl, rfl, rfl, rfl, rfl, trivial⟩ [h0, h1, h2, h3, h4, h5, h6, h7, h8, h9, h10, h11, h12] rfl rfl 13 rfl (by decide +kernel) (fun H locs hw => ?_)
        refine lv_iinc (v := x4 + (2 : Int32)) (lv' := [(4, .int (x4 + (2 : Int32))), (0, .ref h0), (2, .ref h6), (3, .int x3)]) hx hb dX8_read_113 hl (k := 3) rfl rfl (by decide) rfl (fun ls hl => ?_)
        refine lv_goto (tgt := 42) hx hb dX8_read_116 (by decide) ?_
        exact hk42 _ _ _ _ _ _ _ hm _ _ _ hw (lv_sub hl [1, 2, 3, 0] rfl)
      · have hm := ipos hc hm
        refine lv_goto (tgt := 119) hx hb dX8_read_87 (by decide) ?_
        exact n_x_read_N119 C0  _ _ _ _ _ _ hm _ _ _ hw (lv_sub hl [0, 2] rfl)
set_option maxHeartbeats 1000000 in
set_option maxRecDepth 100000 in
theorem l_x_read_N42_1 {p : Program} {l : Launch} {e : Env} {s : State} {m : MethodId} {args : Array Value} {below : List Frame} {meth : Method} {c : Code} {A : Nat → Prop} {g : gG} {h0 h1 h2 h3 h4 h5 h6 h7 h8 h9 h10 h11 h12 h13 h14 h15 h16 h17 h18 h19 h20 h21 h22 : Nat} {v_sheets0_form : Int32} {v_sheets0_size : Int32} {v_sheets0_items : Nat → Int32} {v_sheets1_form : Int32} {v_sheets1_size : Int32} {v_sheets1_items : Nat → Int32} {v_sheets2_form : Int32} {v_sheets2_size : Int32} {v_sheets2_items : Nat → Int32} {v_sheets3_form : Int32} {v_sheets3_size : Int32} {v_sheets3_items : Nat → Int32} {r : (Int32 × Int32 × Int32 × Int32 × (Nat → Int32) × (Nat → Int32))} (C0 : gX p s m args meth c cX8_read 5 (some .int) RX8 g A) : ∀ n : Nat, ∀ (v_toldIsStale : Int32) (v_latestFinding : Int32) (v_frosts_told : Int32) (v_frosts_year : Nat → Int32) (v_frosts_force : Nat → Int32) (x3 : Int32) (x4 : Int32), iter (fun _ _ _ _ _ _ _ => none) (f_x_read_N42_1 v_sheets0_form v_sheets0_size v_sheets0_items v_sheets1_form v_sheets1_size v_sheets1_items v_sheets2_form v_sheets2_size v_sheets2_items v_sheets3_form v_sheets3_size v_sheets3_items) n v_toldIsStale v_latestFinding v_frosts_told v_frosts_year v_frosts_force x3 x4 = some r → ∀ (H : Heap) (locs : List Loc) (ls : Array Slot), gW g A s (W_x_read g h0 h1 h2 h3 h4 h5 h6 h7 h8 h9 h10 h11 h12 h13 h14 h15 h16 h17 h18 h19 h20 h21 h22 v_toldIsStale v_latestFinding v_frosts_told v_frosts_year v_frosts_force v_sheets0_form v_sheets0_size v_sheets0_items v_sheets1_form v_sheets1_size v_sheets1_items v_sheets2_form v_sheets2_size v_sheets2_items v_sheets3_form v_sheets3_size v_sheets3_items) H locs → lv_has ls 5 [(0, .ref h0), (2, .ref h6), (3, .int x3), (4, .int x4)] → W p l e rm_x_read s m args below meth c H locs 0 0 (gQi below args s A g r.1 (W_x_read g h0 h1 h2 h3 h4 h5 h6 h7 h8 h9 h10 h11 h12 h13 h14 h15 h16 h17 h18 h19 h20 h21 h22 r.2.1 r.2.2.1 r.2.2.2.1 r.2.2.2.2.1 r.2.2.2.2.2 v_sheets0_form v_sheets0_size v_sheets0_items v_sheets1_form v_sheets1_size v_sheets1_items v_sheets2_form v_sheets2_size v_sheets2_items v_sheets3_form v_sheets3_size v_sheets3_items)) (F0 m 42 ls []) := by
  intro n
  induction n with
  | zero =>
    intro v_toldIsStale v_latestFinding v_frosts_told v_frosts_year v_frosts_force x3 x4 hm
    cases hm
  | succ n ih =>
    exact n_x_read_N42_1 C0  ih
set_option maxHeartbeats 1000000 in
set_option maxRecDepth 100000 in
theorem n_x_read_N42_2 {p : Program} {l : Launch} {e : Env} {s : State} {m : MethodId} {args : Array Value} {below : List Frame} {meth : Method} {c : Code} {A : Nat → Prop} {g : gG} {h0 h1 h2 h3 h4 h5 h6 h7 h8 h9 h10 h11 h12 h13 h14 h15 h16 h17 h18 h19 h20 h21 h22 : Nat} {v_sheets0_form : Int32} {v_sheets0_size : Int32} {v_sheets0_items : Nat → Int32} {v_sheets1_form : Int32} {v_sheets1_size : Int32} {v_sheets1_items : Nat → Int32} {v_sheets2_form : Int32} {v_sheets2_size : Int32} {v_sheets2_items : Nat → Int32} {v_sheets3_form : Int32} {v_sheets3_size : Int32} {v_sheets3_items : Nat → Int32} {k42 : Int32 → Int32 → Int32 → (Nat → Int32) → (Nat → Int32) → Int32 → Int32 → Option (Int32 × Int32 × Int32 × Int32 × (Nat → Int32) × (Nat → Int32))} {r : (Int32 × Int32 × Int32 × Int32 × (Nat → Int32) × (Nat → Int32))} (C0 : gX p s m args meth c cX8_read 5 (some .int) RX8 g A) (hk42 : ∀ (v_toldIsStale : Int32) (v_latestFinding : Int32) (v_frosts_told : Int32) (v_frosts_year : Nat → Int32) (v_frosts_force : Nat → Int32) (x3 : Int32) (x4 : Int32), k42 v_toldIsStale v_latestFinding v_frosts_told v_frosts_year v_frosts_force x3 x4 = some r → ∀ (H : Heap) (locs : List Loc) (ls : Array Slot), gW g A s (W_x_read g h0 h1 h2 h3 h4 h5 h6 h7 h8 h9 h10 h11 h12 h13 h14 h15 h16 h17 h18 h19 h20 h21 h22 v_toldIsStale v_latestFinding v_frosts_told v_frosts_year v_frosts_force v_sheets0_form v_sheets0_size v_sheets0_items v_sheets1_form v_sheets1_size v_sheets1_items v_sheets2_form v_sheets2_size v_sheets2_items v_sheets3_form v_sheets3_size v_sheets3_items) H locs → lv_has ls 5 [(0, .ref h0), (2, .ref h8), (3, .int x3), (4, .int x4)] → W p l e rm_x_read s m args below meth c H locs 0 0 (gQi below args s A g r.1 (W_x_read g h0 h1 h2 h3 h4 h5 h6 h7 h8 h9 h10 h11 h12 h13 h14 h15 h16 h17 h18 h19 h20 h21 h22 r.2.1 r.2.2.1 r.2.2.2.1 r.2.2.2.2.1 r.2.2.2.2.2 v_sheets0_form v_sheets0_size v_sheets0_items v_sheets1_form v_sheets1_size v_sheets1_items v_sheets2_form v_sheets2_size v_sheets2_items v_sheets3_form v_sheets3_size v_sheets3_items)) (F0 m 42 ls [])) : ∀ (v_toldIsStale : Int32) (v_latestFinding : Int32) (v_frosts_told : Int32) (v_frosts_year : Nat → Int32) (v_frosts_force : Nat → Int32) (x3 : Int32) (x4 : Int32), f_x_read_N42_2 v_sheets0_form v_sheets0_size v_sheets0_items v_sheets1_form v_sheets1_size v_sheets1_items v_sheets2_form v_sheets2_size v_sheets2_items v_sheets3_form v_sheets3_size v_sheets3_items k42 v_toldIsStale v_latestFinding v_frosts_told v_frosts_year v_frosts_force x3 x4 = some r → ∀ (H : Heap) (locs : List Loc) (ls : Array Slot), gW g A s (W_x_read g h0 h1 h2 h3 h4 h5 h6 h7 h8 h9 h10 h11 h12 h13 h14 h15 h16 h17 h18 h19 h20 h21 h22 v_toldIsStale v_latestFinding v_frosts_told v_frosts_year v_frosts_force v_sheets0_form v_sheets0_size v_sheets0_items v_sheets1_form v_sheets1_size v_sheets1_items v_sheets2_form v_sheets2_size v_sheets2_items v_sheets3_form v_sheets3_size v_sheets3_items) H locs → lv_has ls 5 [(0, .ref h0), (2, .ref h8), (3, .int x3), (4, .int x4)] → W p l e rm_x_read s m args below meth c H locs 0 0 (gQi below args s A g r.1 (W_x_read g h0 h1 h2 h3 h4 h5 h6 h7 h8 h9 h10 h11 h12 h13 h14 h15 h16 h17 h18 h19 h20 h21 h22 r.2.1 r.2.2.1 r.2.2.2.1 r.2.2.2.2.1 r.2.2.2.2.2 v_sheets0_form v_sheets0_size v_sheets0_items v_sheets1_form v_sheets1_size v_sheets1_items v_sheets2_form v_sheets2_size v_sheets2_items v_sheets3_form v_sheets3_size v_sheets3_items)) (F0 m 42 ls []) := by
  intro v_toldIsStale v_latestFinding v_frosts_told v_frosts_year v_frosts_force x3 x4 hm H locs ls hw hl
  unfold f_x_read_N42_2 at hm
  obtain ⟨hx, hb, hr, hml, hown, hts, hlocks, hK, hA⟩ := id C0
  refine lv_iload hx hb dX8_read_42 (lv_at hl 3 rfl) ?_
  refine lv_iconst (v := 1) hx hb dX8_read_44 (by decide) ?_
  refine lv_iadd hx hb dX8_read_45 ?_
  refine lv_aload_n hx hb dX8_read_46 rfl (lv_at hl 1 rfl) ?_
  refine gGet C0 hw flX8_165 8 rfl rfl dX8_read_47 ?_
  refine lv_icmp_ge (tgt := 119) hx hb dX8_read_50 (by decide) (fun hc => ?_) (fun hc => ?_)
  · have hm := ipos hc hm
    exact n_x_read_N119 C0  _ _ _ _ _ _ hm _ _ _ hw (lv_sub hl [0, 2] rfl)
  · have hm := ineg hc hm
    refine lv_aload_n hx hb dX8_read_53 rfl (lv_at hl 0 rfl) ?_
    refine gGet C0 hw flX8_38 0 rfl rfl dX8_read_54 ?_
    refine gGet C0 hw flX8_142 1 rfl rfl dX8_read_57 ?_
    refine lv_bipush (v := 6) hx hb dX8_read_60 (by decide) ?_
    refine lv_icmp_ge (tgt := 119) hx hb dX8_read_62 (by decide) (fun hc => ?_) (fun hc => ?_)
    · have hm := ipos hc hm
      exact n_x_read_N119 C0  _ _ _ _ _ _ hm _ _ _ hw (lv_sub hl [0, 2] rfl)
    · have hm := ineg hc hm
      refine lv_aload_n hx hb dX8_read_65 rfl (lv_at hl 1 rfl) ?_
      refine gGet C0 hw flX8_168 8 rfl rfl dX8_read_66 ?_
      refine lv_iload hx hb dX8_read_69 (lv_at hl 3 rfl) ?_
      obtain ⟨hin, hm⟩ := gdE hm
      have hin := inbE hin
      refine gAldI C0 hw 9 rfl hin dX8_read_71 ?_
      refine lv_aload_n hx hb dX8_read_72 rfl (lv_at hl 1 rfl) ?_
      refine gGet C0 hw flX8_168 8 rfl rfl dX8_read_73 ?_
      refine lv_iload hx hb dX8_read_76 (lv_at hl 3 rfl) ?_
      refine lv_iconst (v := 1) hx hb dX8_read_78 (by decide) ?_
      refine lv_iadd hx hb dX8_read_79 ?_
      obtain ⟨hin, hm⟩ := gdE hm
      have hin := inbE hin
      refine gAldI C0 hw 9 rfl hin dX8_read_80 ?_
      obtain ⟨o81, ho81, hm⟩ := bindE hm
      refine gCalli (ws' := (W_x_read g h0 h1 h2 h3 h4 h5 h6 h7 h8 h9 h10 h11 h12 h13 h14 h15 h16 h17 h18 h19 h20 h21 h22 v_toldIsStale v_latestFinding v_frosts_told v_frosts_year v_frosts_force v_sheets0_form v_sheets0_size v_sheets0_items v_sheets1_form v_sheets1_size v_sheets1_items v_sheets2_form v_sheets2_size v_sheets2_items v_sheets3_form v_sheets3_size v_sheets3_items)) C0 hw (gRunS (As := [.int (v_sheets2_items x4.toNatClampNeg), .int (v_sheets2_items (x4 + (1 : Int32)).toNatClampNeg)]) (rest := []) C0 hw lkX8_139 (c_fr_mayBe l g H.size  (v_sheets2_items x4.toNatClampNeg) (v_sheets2_items (x4 + (1 : Int32)).toNatClampNeg) o81 ho81) ⟨rfl, rfl⟩ ⟨Nat.le_of_ble_eq_true rfl, Nat.le_of_ble_eq_true rfl⟩ [] (by decide) rfl rfl hl.1 rfl (Nat.le_of_ble_eq_true rfl) dX8_read_81) [] [0, 1, 2, 3, 4, 5, 6, 7, 8, 9, 10, 11, 12] rfl rfl ⟨rfl, rfl, rfl, rfl, rfl, rfl, rfl, rfl, rfl, rfl, rfl, rfl, rfl, trivial⟩ [h0, h1, h2, h3, h4, h5, h6, h7, h8, h9, h10, h11, h12] rfl rfl 13 rfl (by decide +kernel) (fun H locs hw => ?_)
      refine lv_if_ne (tgt := 90) hx hb dX8_read_84 (by decide) (fun hc => ?_) (fun hc => ?_)
      · have hm := ineg hc hm
        refine lv_aload_n hx hb dX8_read_90 rfl (lv_at hl 0 rfl) ?_
        refine gGet C0 hw flX8_38 0 rfl rfl dX8_read_91 ?_
        refine lv_aload_n hx hb dX8_read_94 rfl (lv_at hl 1 rfl) ?_
        refine gGet C0 hw flX8_168 8 rfl rfl dX8_read_95 ?_
        refine lv_iload hx hb dX8_read_98 (lv_at hl 3 rfl) ?_
        obtain ⟨hin, hm⟩ := gdE hm
        have hin := inbE hin
        refine gAldI C0 hw 9 rfl hin dX8_read_100 ?_
        refine lv_aload_n hx hb dX8_read_101 rfl (lv_at hl 1 rfl) ?_
        refine gGet C0 hw flX8_168 8 rfl rfl dX8_read_102 ?_
        refine lv_iload hx hb dX8_read_105 (lv_at hl 3 rfl) ?_
        refine lv_iconst (v := 1) hx hb dX8_read_107 (by decide) ?_
        refine lv_iadd hx hb dX8_read_108 ?_
        obtain ⟨hin, hm⟩ := gdE hm
        have hin := inbE hin
        refine gAldI C0 hw 9 rfl hin dX8_read_109 ?_
        obtain ⟨o110, ho110, hm⟩ := bindE hm
        refine gCallv (ws' := (W_x_read g h0 h1 h2 h3 h4 h5 h6 h7 h8 h9 h10 h11 h12 h13 h14 h15 h16 h17 h18 h19 h20 h21 h22 v_toldIsStale v_latestFinding o110.1 o110.2.1 o110.2.2 v_sheets0_form v_sheets0_size v_sheets0_items v_sheets1_form v_sheets1_size v_sheets1_items v_sheets2_form v_sheets2_size v_sheets2_items v_sheets3_form v_sheets3_size v_sheets3_items)) C0 hw (gRunV (As := [.int (v_sheets2_items x4.toNatClampNeg), .int (v_sheets2_items (x4 + (1 : Int32)).toNatClampNeg)]) (rest := []) C0 hw lkX8_144 (c_fr_add l g H.size h1 h2 h3 v_frosts_told v_frosts_year v_frosts_force (v_sheets2_items x4.toNatClampNeg) (v_sheets2_items (x4 + (1 : Int32)).toNatClampNeg) o110 ho110) ⟨rfl, rfl⟩ ⟨Nat.le_of_ble_eq_true rfl, Nat.le_of_ble_eq_true rfl⟩ [1, 2, 3] (by decide) rfl 1 rfl rfl rfl hl.1 rfl (Nat.le_of_ble_eq_true rfl) dX8_read_110) [1, 2, 3] [0, 4, 5, 6, 7, 8, 9, 10, 11, 12] rfl rfl ⟨rfl, rfl, rfl, rfl, rfl, rfl, rfl, rfl, rfl, rfl, trivial⟩ [h0, h1, h2, h3, h4, h5, h6, h7, h8, h9, h10, h11, h12] rfl rfl 13 rfl (by decide +kernel) (fun H locs hw => ?_)
        refine lv_iinc (v := x4 + (2 : Int32)) (lv' := [(4, .int (x4 + (2 : Int32))), (0, .ref h0), (2, .ref h8), (3, .int x3)]) hx hb dX8_read_113 hl (k := 3) rfl rfl (by decide) rfl (fun ls hl => ?_)
        refine lv_goto (tgt := 42) hx hb dX8_read_116 (by decide) ?_
        exact hk42 _ _ _ _ _ _ _ hm _ _ _ hw (lv_sub hl [1, 2, 3, 0] rfl)
      · have hm := ipos hc hm
        refine lv_goto (tgt := 119) hx hb dX8_read_87 (by decide) ?_
        exact n_x_read_N119 C0  _ _ _ _ _ _ hm _ _ _ hw (lv_sub hl [0, 2] rfl)
set_option maxHeartbeats 1000000 in
set_option maxRecDepth 100000 in
theorem l_x_read_N42_2 {p : Program} {l : Launch} {e : Env} {s : State} {m : MethodId} {args : Array Value} {below : List Frame} {meth : Method} {c : Code} {A : Nat → Prop} {g : gG} {h0 h1 h2 h3 h4 h5 h6 h7 h8 h9 h10 h11 h12 h13 h14 h15 h16 h17 h18 h19 h20 h21 h22 : Nat} {v_sheets0_form : Int32} {v_sheets0_size : Int32} {v_sheets0_items : Nat → Int32} {v_sheets1_form : Int32} {v_sheets1_size : Int32} {v_sheets1_items : Nat → Int32} {v_sheets2_form : Int32} {v_sheets2_size : Int32} {v_sheets2_items : Nat → Int32} {v_sheets3_form : Int32} {v_sheets3_size : Int32} {v_sheets3_items : Nat → Int32} {r : (Int32 × Int32 × Int32 × Int32 × (Nat → Int32) × (Nat → Int32))} (C0 : gX p s m args meth c cX8_read 5 (some .int) RX8 g A) : ∀ n : Nat, ∀ (v_toldIsStale : Int32) (v_latestFinding : Int32) (v_frosts_told : Int32) (v_frosts_year : Nat → Int32) (v_frosts_force : Nat → Int32) (x3 : Int32) (x4 : Int32), iter (fun _ _ _ _ _ _ _ => none) (f_x_read_N42_2 v_sheets0_form v_sheets0_size v_sheets0_items v_sheets1_form v_sheets1_size v_sheets1_items v_sheets2_form v_sheets2_size v_sheets2_items v_sheets3_form v_sheets3_size v_sheets3_items) n v_toldIsStale v_latestFinding v_frosts_told v_frosts_year v_frosts_force x3 x4 = some r → ∀ (H : Heap) (locs : List Loc) (ls : Array Slot), gW g A s (W_x_read g h0 h1 h2 h3 h4 h5 h6 h7 h8 h9 h10 h11 h12 h13 h14 h15 h16 h17 h18 h19 h20 h21 h22 v_toldIsStale v_latestFinding v_frosts_told v_frosts_year v_frosts_force v_sheets0_form v_sheets0_size v_sheets0_items v_sheets1_form v_sheets1_size v_sheets1_items v_sheets2_form v_sheets2_size v_sheets2_items v_sheets3_form v_sheets3_size v_sheets3_items) H locs → lv_has ls 5 [(0, .ref h0), (2, .ref h8), (3, .int x3), (4, .int x4)] → W p l e rm_x_read s m args below meth c H locs 0 0 (gQi below args s A g r.1 (W_x_read g h0 h1 h2 h3 h4 h5 h6 h7 h8 h9 h10 h11 h12 h13 h14 h15 h16 h17 h18 h19 h20 h21 h22 r.2.1 r.2.2.1 r.2.2.2.1 r.2.2.2.2.1 r.2.2.2.2.2 v_sheets0_form v_sheets0_size v_sheets0_items v_sheets1_form v_sheets1_size v_sheets1_items v_sheets2_form v_sheets2_size v_sheets2_items v_sheets3_form v_sheets3_size v_sheets3_items)) (F0 m 42 ls []) := by
  intro n
  induction n with
  | zero =>
    intro v_toldIsStale v_latestFinding v_frosts_told v_frosts_year v_frosts_force x3 x4 hm
    cases hm
  | succ n ih =>
    exact n_x_read_N42_2 C0  ih
set_option maxHeartbeats 1000000 in
set_option maxRecDepth 100000 in
theorem n_x_read_N42_3 {p : Program} {l : Launch} {e : Env} {s : State} {m : MethodId} {args : Array Value} {below : List Frame} {meth : Method} {c : Code} {A : Nat → Prop} {g : gG} {h0 h1 h2 h3 h4 h5 h6 h7 h8 h9 h10 h11 h12 h13 h14 h15 h16 h17 h18 h19 h20 h21 h22 : Nat} {v_sheets0_form : Int32} {v_sheets0_size : Int32} {v_sheets0_items : Nat → Int32} {v_sheets1_form : Int32} {v_sheets1_size : Int32} {v_sheets1_items : Nat → Int32} {v_sheets2_form : Int32} {v_sheets2_size : Int32} {v_sheets2_items : Nat → Int32} {v_sheets3_form : Int32} {v_sheets3_size : Int32} {v_sheets3_items : Nat → Int32} {k42 : Int32 → Int32 → Int32 → (Nat → Int32) → (Nat → Int32) → Int32 → Int32 → Option (Int32 × Int32 × Int32 × Int32 × (Nat → Int32) × (Nat → Int32))} {r : (Int32 × Int32 × Int32 × Int32 × (Nat → Int32) × (Nat → Int32))} (C0 : gX p s m args meth c cX8_read 5 (some .int) RX8 g A) (hk42 : ∀ (v_toldIsStale : Int32) (v_latestFinding : Int32) (v_frosts_told : Int32) (v_frosts_year : Nat → Int32) (v_frosts_force : Nat → Int32) (x3 : Int32) (x4 : Int32), k42 v_toldIsStale v_latestFinding v_frosts_told v_frosts_year v_frosts_force x3 x4 = some r → ∀ (H : Heap) (locs : List Loc) (ls : Array Slot), gW g A s (W_x_read g h0 h1 h2 h3 h4 h5 h6 h7 h8 h9 h10 h11 h12 h13 h14 h15 h16 h17 h18 h19 h20 h21 h22 v_toldIsStale v_latestFinding v_frosts_told v_frosts_year v_frosts_force v_sheets0_form v_sheets0_size v_sheets0_items v_sheets1_form v_sheets1_size v_sheets1_items v_sheets2_form v_sheets2_size v_sheets2_items v_sheets3_form v_sheets3_size v_sheets3_items) H locs → lv_has ls 5 [(0, .ref h0), (2, .ref h10), (3, .int x3), (4, .int x4)] → W p l e rm_x_read s m args below meth c H locs 0 0 (gQi below args s A g r.1 (W_x_read g h0 h1 h2 h3 h4 h5 h6 h7 h8 h9 h10 h11 h12 h13 h14 h15 h16 h17 h18 h19 h20 h21 h22 r.2.1 r.2.2.1 r.2.2.2.1 r.2.2.2.2.1 r.2.2.2.2.2 v_sheets0_form v_sheets0_size v_sheets0_items v_sheets1_form v_sheets1_size v_sheets1_items v_sheets2_form v_sheets2_size v_sheets2_items v_sheets3_form v_sheets3_size v_sheets3_items)) (F0 m 42 ls [])) : ∀ (v_toldIsStale : Int32) (v_latestFinding : Int32) (v_frosts_told : Int32) (v_frosts_year : Nat → Int32) (v_frosts_force : Nat → Int32) (x3 : Int32) (x4 : Int32), f_x_read_N42_3 v_sheets0_form v_sheets0_size v_sheets0_items v_sheets1_form v_sheets1_size v_sheets1_items v_sheets2_form v_sheets2_size v_sheets2_items v_sheets3_form v_sheets3_size v_sheets3_items k42 v_toldIsStale v_latestFinding v_frosts_told v_frosts_year v_frosts_force x3 x4 = some r → ∀ (H : Heap) (locs : List Loc) (ls : Array Slot), gW g A s (W_x_read g h0 h1 h2 h3 h4 h5 h6 h7 h8 h9 h10 h11 h12 h13 h14 h15 h16 h17 h18 h19 h20 h21 h22 v_toldIsStale v_latestFinding v_frosts_told v_frosts_year v_frosts_force v_sheets0_form v_sheets0_size v_sheets0_items v_sheets1_form v_sheets1_size v_sheets1_items v_sheets2_form v_sheets2_size v_sheets2_items v_sheets3_form v_sheets3_size v_sheets3_items) H locs → lv_has ls 5 [(0, .ref h0), (2, .ref h10), (3, .int x3), (4, .int x4)] → W p l e rm_x_read s m args below meth c H locs 0 0 (gQi below args s A g r.1 (W_x_read g h0 h1 h2 h3 h4 h5 h6 h7 h8 h9 h10 h11 h12 h13 h14 h15 h16 h17 h18 h19 h20 h21 h22 r.2.1 r.2.2.1 r.2.2.2.1 r.2.2.2.2.1 r.2.2.2.2.2 v_sheets0_form v_sheets0_size v_sheets0_items v_sheets1_form v_sheets1_size v_sheets1_items v_sheets2_form v_sheets2_size v_sheets2_items v_sheets3_form v_sheets3_size v_sheets3_items)) (F0 m 42 ls []) := by
  intro v_toldIsStale v_latestFinding v_frosts_told v_frosts_year v_frosts_force x3 x4 hm H locs ls hw hl
  unfold f_x_read_N42_3 at hm
  obtain ⟨hx, hb, hr, hml, hown, hts, hlocks, hK, hA⟩ := id C0
  refine lv_iload hx hb dX8_read_42 (lv_at hl 3 rfl) ?_
  refine lv_iconst (v := 1) hx hb dX8_read_44 (by decide) ?_
  refine lv_iadd hx hb dX8_read_45 ?_
  refine lv_aload_n hx hb dX8_read_46 rfl (lv_at hl 1 rfl) ?_
  refine gGet C0 hw flX8_165 10 rfl rfl dX8_read_47 ?_
  refine lv_icmp_ge (tgt := 119) hx hb dX8_read_50 (by decide) (fun hc => ?_) (fun hc => ?_)
  · have hm := ipos hc hm
    exact n_x_read_N119 C0  _ _ _ _ _ _ hm _ _ _ hw (lv_sub hl [0, 2] rfl)
  · have hm := ineg hc hm
    refine lv_aload_n hx hb dX8_read_53 rfl (lv_at hl 0 rfl) ?_
    refine gGet C0 hw flX8_38 0 rfl rfl dX8_read_54 ?_
    refine gGet C0 hw flX8_142 1 rfl rfl dX8_read_57 ?_
    refine lv_bipush (v := 6) hx hb dX8_read_60 (by decide) ?_
    refine lv_icmp_ge (tgt := 119) hx hb dX8_read_62 (by decide) (fun hc => ?_) (fun hc => ?_)
    · have hm := ipos hc hm
      exact n_x_read_N119 C0  _ _ _ _ _ _ hm _ _ _ hw (lv_sub hl [0, 2] rfl)
    · have hm := ineg hc hm
      refine lv_aload_n hx hb dX8_read_65 rfl (lv_at hl 1 rfl) ?_
      refine gGet C0 hw flX8_168 10 rfl rfl dX8_read_66 ?_
      refine lv_iload hx hb dX8_read_69 (lv_at hl 3 rfl) ?_
      obtain ⟨hin, hm⟩ := gdE hm
      have hin := inbE hin
      refine gAldI C0 hw 11 rfl hin dX8_read_71 ?_
      refine lv_aload_n hx hb dX8_read_72 rfl (lv_at hl 1 rfl) ?_
      refine gGet C0 hw flX8_168 10 rfl rfl dX8_read_73 ?_
      refine lv_iload hx hb dX8_read_76 (lv_at hl 3 rfl) ?_
      refine lv_iconst (v := 1) hx hb dX8_read_78 (by decide) ?_
      refine lv_iadd hx hb dX8_read_79 ?_
      obtain ⟨hin, hm⟩ := gdE hm
      have hin := inbE hin
      refine gAldI C0 hw 11 rfl hin dX8_read_80 ?_
      obtain ⟨o81, ho81, hm⟩ := bindE hm
      refine gCalli (ws' := (W_x_read g h0 h1 h2 h3 h4 h5 h6 h7 h8 h9 h10 h11 h12 h13 h14 h15 h16 h17 h18 h19 h20 h21 h22 v_toldIsStale v_latestFinding v_frosts_told v_frosts_year v_frosts_force v_sheets0_form v_sheets0_size v_sheets0_items v_sheets1_form v_sheets1_size v_sheets1_items v_sheets2_form v_sheets2_size v_sheets2_items v_sheets3_form v_sheets3_size v_sheets3_items)) C0 hw (gRunS (As := [.int (v_sheets3_items x4.toNatClampNeg), .int (v_sheets3_items (x4 + (1 : Int32)).toNatClampNeg)]) (rest := []) C0 hw lkX8_139 (c_fr_mayBe l g H.size  (v_sheets3_items x4.toNatClampNeg) (v_sheets3_items (x4 + (1 : Int32)).toNatClampNeg) o81 ho81) ⟨rfl, rfl⟩ ⟨Nat.le_of_ble_eq_true rfl, Nat.le_of_ble_eq_true rfl⟩ [] (by decide) rfl rfl hl.1 rfl (Nat.le_of_ble_eq_true rfl) dX8_read_81) [] [0, 1, 2, 3, 4, 5, 6, 7, 8, 9, 10, 11, 12] rfl rfl ⟨rfl, rfl, rfl, rfl, rfl, rfl, rfl, rfl, rfl, rfl, rfl, rfl, rfl, trivial⟩ [h0, h1, h2, h3, h4, h5, h6, h7, h8, h9, h10, h11, h12] rfl rfl 13 rfl (by decide +kernel) (fun H locs hw => ?_)
      refine lv_if_ne (tgt := 90) hx hb dX8_read_84 (by decide) (fun hc => ?_) (fun hc => ?_)
      · have hm := ineg hc hm
        refine lv_aload_n hx hb dX8_read_90 rfl (lv_at hl 0 rfl) ?_
        refine gGet C0 hw flX8_38 0 rfl rfl dX8_read_91 ?_
        refine lv_aload_n hx hb dX8_read_94 rfl (lv_at hl 1 rfl) ?_
        refine gGet C0 hw flX8_168 10 rfl rfl dX8_read_95 ?_
        refine lv_iload hx hb dX8_read_98 (lv_at hl 3 rfl) ?_
        obtain ⟨hin, hm⟩ := gdE hm
        have hin := inbE hin
        refine gAldI C0 hw 11 rfl hin dX8_read_100 ?_
        refine lv_aload_n hx hb dX8_read_101 rfl (lv_at hl 1 rfl) ?_
        refine gGet C0 hw flX8_168 10 rfl rfl dX8_read_102 ?_
        refine lv_iload hx hb dX8_read_105 (lv_at hl 3 rfl) ?_
        refine lv_iconst (v := 1) hx hb dX8_read_107 (by decide) ?_
        refine lv_iadd hx hb dX8_read_108 ?_
        obtain ⟨hin, hm⟩ := gdE hm
        have hin := inbE hin
        refine gAldI C0 hw 11 rfl hin dX8_read_109 ?_
        obtain ⟨o110, ho110, hm⟩ := bindE hm
        refine gCallv (ws' := (W_x_read g h0 h1 h2 h3 h4 h5 h6 h7 h8 h9 h10 h11 h12 h13 h14 h15 h16 h17 h18 h19 h20 h21 h22 v_toldIsStale v_latestFinding o110.1 o110.2.1 o110.2.2 v_sheets0_form v_sheets0_size v_sheets0_items v_sheets1_form v_sheets1_size v_sheets1_items v_sheets2_form v_sheets2_size v_sheets2_items v_sheets3_form v_sheets3_size v_sheets3_items)) C0 hw (gRunV (As := [.int (v_sheets3_items x4.toNatClampNeg), .int (v_sheets3_items (x4 + (1 : Int32)).toNatClampNeg)]) (rest := []) C0 hw lkX8_144 (c_fr_add l g H.size h1 h2 h3 v_frosts_told v_frosts_year v_frosts_force (v_sheets3_items x4.toNatClampNeg) (v_sheets3_items (x4 + (1 : Int32)).toNatClampNeg) o110 ho110) ⟨rfl, rfl⟩ ⟨Nat.le_of_ble_eq_true rfl, Nat.le_of_ble_eq_true rfl⟩ [1, 2, 3] (by decide) rfl 1 rfl rfl rfl hl.1 rfl (Nat.le_of_ble_eq_true rfl) dX8_read_110) [1, 2, 3] [0, 4, 5, 6, 7, 8, 9, 10, 11, 12] rfl rfl ⟨rfl, rfl, rfl, rfl, rfl, rfl, rfl, rfl, rfl, rfl, trivial⟩ [h0, h1, h2, h3, h4, h5, h6, h7, h8, h9, h10, h11, h12] rfl rfl 13 rfl (by decide +kernel) (fun H locs hw => ?_)
        refine lv_iinc (v := x4 + (2 : Int32)) (lv' := [(4, .int (x4 + (2 : Int32))), (0, .ref h0), (2, .ref h10), (3, .int x3)]) hx hb dX8_read_113 hl (k := 3) rfl rfl (by decide) rfl (fun ls hl => ?_)
        refine lv_goto (tgt := 42) hx hb dX8_read_116 (by decide) ?_
        exact hk42 _ _ _ _ _ _ _ hm _ _ _ hw (lv_sub hl [1, 2, 3, 0] rfl)
      · have hm := ipos hc hm
        refine lv_goto (tgt := 119) hx hb dX8_read_87 (by decide) ?_
        exact n_x_read_N119 C0  _ _ _ _ _ _ hm _ _ _ hw (lv_sub hl [0, 2] rfl)
set_option maxHeartbeats 1000000 in
set_option maxRecDepth 100000 in
theorem l_x_read_N42_3 {p : Program} {l : Launch} {e : Env} {s : State} {m : MethodId} {args : Array Value} {below : List Frame} {meth : Method} {c : Code} {A : Nat → Prop} {g : gG} {h0 h1 h2 h3 h4 h5 h6 h7 h8 h9 h10 h11 h12 h13 h14 h15 h16 h17 h18 h19 h20 h21 h22 : Nat} {v_sheets0_form : Int32} {v_sheets0_size : Int32} {v_sheets0_items : Nat → Int32} {v_sheets1_form : Int32} {v_sheets1_size : Int32} {v_sheets1_items : Nat → Int32} {v_sheets2_form : Int32} {v_sheets2_size : Int32} {v_sheets2_items : Nat → Int32} {v_sheets3_form : Int32} {v_sheets3_size : Int32} {v_sheets3_items : Nat → Int32} {r : (Int32 × Int32 × Int32 × Int32 × (Nat → Int32) × (Nat → Int32))} (C0 : gX p s m args meth c cX8_read 5 (some .int) RX8 g A) : ∀ n : Nat, ∀ (v_toldIsStale : Int32) (v_latestFinding : Int32) (v_frosts_told : Int32) (v_frosts_year : Nat → Int32) (v_frosts_force : Nat → Int32) (x3 : Int32) (x4 : Int32), iter (fun _ _ _ _ _ _ _ => none) (f_x_read_N42_3 v_sheets0_form v_sheets0_size v_sheets0_items v_sheets1_form v_sheets1_size v_sheets1_items v_sheets2_form v_sheets2_size v_sheets2_items v_sheets3_form v_sheets3_size v_sheets3_items) n v_toldIsStale v_latestFinding v_frosts_told v_frosts_year v_frosts_force x3 x4 = some r → ∀ (H : Heap) (locs : List Loc) (ls : Array Slot), gW g A s (W_x_read g h0 h1 h2 h3 h4 h5 h6 h7 h8 h9 h10 h11 h12 h13 h14 h15 h16 h17 h18 h19 h20 h21 h22 v_toldIsStale v_latestFinding v_frosts_told v_frosts_year v_frosts_force v_sheets0_form v_sheets0_size v_sheets0_items v_sheets1_form v_sheets1_size v_sheets1_items v_sheets2_form v_sheets2_size v_sheets2_items v_sheets3_form v_sheets3_size v_sheets3_items) H locs → lv_has ls 5 [(0, .ref h0), (2, .ref h10), (3, .int x3), (4, .int x4)] → W p l e rm_x_read s m args below meth c H locs 0 0 (gQi below args s A g r.1 (W_x_read g h0 h1 h2 h3 h4 h5 h6 h7 h8 h9 h10 h11 h12 h13 h14 h15 h16 h17 h18 h19 h20 h21 h22 r.2.1 r.2.2.1 r.2.2.2.1 r.2.2.2.2.1 r.2.2.2.2.2 v_sheets0_form v_sheets0_size v_sheets0_items v_sheets1_form v_sheets1_size v_sheets1_items v_sheets2_form v_sheets2_size v_sheets2_items v_sheets3_form v_sheets3_size v_sheets3_items)) (F0 m 42 ls []) := by
  intro n
  induction n with
  | zero =>
    intro v_toldIsStale v_latestFinding v_frosts_told v_frosts_year v_frosts_force x3 x4 hm
    cases hm
  | succ n ih =>
    exact n_x_read_N42_3 C0  ih
set_option maxHeartbeats 1000000 in
set_option maxRecDepth 100000 in
theorem c_x_read (l : Launch) (g : gG) (sz : Nat) (h0 h1 h2 h3 h4 h5 h6 h7 h8 h9 h10 h11 h12 h13 h14 h15 h16 h17 h18 h19 h20 h21 h22 : Nat) (v_toldIsStale : Int32) (v_latestFinding : Int32) (v_frosts_told : Int32) (v_frosts_year : Nat → Int32) (v_frosts_force : Nat → Int32) (v_sheets0_form : Int32) (v_sheets0_size : Int32) (v_sheets0_items : Nat → Int32) (v_sheets1_form : Int32) (v_sheets1_size : Int32) (v_sheets1_items : Nat → Int32) (v_sheets2_form : Int32) (v_sheets2_size : Int32) (v_sheets2_items : Nat → Int32) (v_sheets3_form : Int32) (v_sheets3_size : Int32) (v_sheets3_items : Nat → Int32) (a0 : Int32) (r : (Int32 × Int32 × Int32 × Int32 × (Nat → Int32) × (Nat → Int32))) (hm : f_x_read v_toldIsStale v_latestFinding v_frosts_told v_frosts_year v_frosts_force v_sheets0_form v_sheets0_size v_sheets0_items v_sheets1_form v_sheets1_size v_sheets1_items v_sheets2_form v_sheets2_size v_sheets2_items v_sheets3_form v_sheets3_size v_sheets3_items a0 = some r) : gMi l yX8_read cX8_read 5 (some .int) rm_x_read g sz [.ref h0, .int a0] (W_x_read g h0 h1 h2 h3 h4 h5 h6 h7 h8 h9 h10 h11 h12 h13 h14 h15 h16 h17 h18 h19 h20 h21 h22 v_toldIsStale v_latestFinding v_frosts_told v_frosts_year v_frosts_force v_sheets0_form v_sheets0_size v_sheets0_items v_sheets1_form v_sheets1_size v_sheets1_items v_sheets2_form v_sheets2_size v_sheets2_items v_sheets3_form v_sheets3_size v_sheets3_items) r.1 (W_x_read g h0 h1 h2 h3 h4 h5 h6 h7 h8 h9 h10 h11 h12 h13 h14 h15 h16 h17 h18 h19 h20 h21 h22 r.2.1 r.2.2.1 r.2.2.2.1 r.2.2.2.2.1 r.2.2.2.2.2 v_sheets0_form v_sheets0_size v_sheets0_items v_sheets1_form v_sheets1_size v_sheets1_items v_sheets2_form v_sheets2_size v_sheets2_items v_sheets3_form v_sheets3_size v_sheets3_items) := by
  unfold f_x_read at hm
  refine gEnterI (by decide) (Nat.le_of_ble_eq_true rfl) (fun p e s m below meth c A C0 H locs hw ls hl => ?_)
  obtain ⟨hx, hb, hr, hml, hown, hts, hlocks, hK, hA⟩ := id C0
  have C0 : gX p s m [.ref h0, .int a0].toArray meth c cX8_read 5 (some .int) RX8 g A := C0
  have hl : lv_has ls 5 [(0, .ref h0), (1, .int a0)] := hl
  refine lv_iload_n hx hb dX8_read_0 rfl (lv_at hl 1 rfl) ?_
  obtain ⟨o1, ho1, hm⟩ := bindE hm
  refine gCalli (ws' := (W_x_read g h0 h1 h2 h3 h4 h5 h6 h7 h8 h9 h10 h11 h12 h13 h14 h15 h16 h17 h18 h19 h20 h21 h22 v_toldIsStale v_latestFinding v_frosts_told v_frosts_year v_frosts_force v_sheets0_form v_sheets0_size v_sheets0_items v_sheets1_form v_sheets1_size v_sheets1_items v_sheets2_form v_sheets2_size v_sheets2_items v_sheets3_form v_sheets3_size v_sheets3_items)) C0 hw (gRunS (As := [.int a0]) (rest := []) C0 hw lkX8_155 (c_x_isSheet l g H.size  a0 o1 ho1) ⟨rfl, rfl⟩ ⟨Nat.le_of_ble_eq_true rfl, Nat.le_of_ble_eq_true rfl⟩ [] (by decide) rfl rfl hl.1 rfl (Nat.le_of_ble_eq_true rfl) dX8_read_1) [] [0, 1, 2, 3, 4, 5, 6, 7, 8, 9, 10, 11, 12] rfl rfl ⟨rfl, rfl, rfl, rfl, rfl, rfl, rfl, rfl, rfl, rfl, rfl, rfl, rfl, trivial⟩ [h0, h1, h2, h3, h4, h5, h6, h7, h8, h9, h10, h11, h12] rfl rfl 13 rfl (by decide +kernel) (fun H locs hw => ?_)
  refine lv_if_ne (tgt := 10) hx hb dX8_read_4 (by decide) (fun hc => ?_) (fun hc => ?_)
  · have hm := ineg hc hm
    refine lv_aload_n hx hb dX8_read_10 rfl (lv_at hl 0 rfl) ?_
    refine gGet C0 hw flX8_61 0 rfl rfl dX8_read_11 ?_
    refine lv_iload_n hx hb dX8_read_14 rfl (lv_at hl 1 rfl) ?_
    by_cases hs0 : a0 = (0 : Int32)
    · have hm := ipos hs0 hm
      refine gAldL C0 hw 12 rfl hs0 (inbE (by decide)) rfl dX8_read_15 ?_
      refine lv_astore_n (lv' := [(2, .ref h4), (0, .ref h0), (1, .int a0)]) hx hb dX8_read_16 rfl hl (by decide) rfl (fun ls hl => ?_)
      refine lv_aload_n hx hb dX8_read_17 rfl (lv_at hl 0 rfl) ?_
      refine gGet C0 hw flX8_158 4 rfl rfl dX8_read_18 ?_
      refine lv_iconst (v := -1) hx hb dX8_read_21 (by decide) ?_
      refine lv_icmp_ne (tgt := 31) hx hb dX8_read_22 (by decide) (fun hc => ?_) (fun hc => ?_)
      · have hm := ineg hc hm
        refine lv_aload_n hx hb dX8_read_31 rfl (lv_at hl 1 rfl) ?_
        refine gGet C0 hw flX8_38 0 rfl rfl dX8_read_32 ?_
        refine gGet C0 hw flX8_142 1 rfl rfl dX8_read_35 ?_
        refine lv_istore_n (lv' := [(3, .int v_frosts_told), (2, .ref h4), (0, .ref h0), (1, .int a0)]) hx hb dX8_read_38 rfl hl (by decide) rfl (fun ls hl => ?_)
        refine lv_iconst (v := 0) hx hb dX8_read_39 (by decide) ?_
        refine lv_istore (lv' := [(4, .int (0 : Int32)), (3, .int v_frosts_told), (2, .ref h4), (0, .ref h0), (1, .int a0)]) hx hb dX8_read_40 hl (by decide) rfl (fun ls hl => ?_)
        exact l_x_read_N42_0 C0  1000 _ _ _ _ _ _ _ hm _ _ _ hw (lv_sub hl [3, 2, 1, 0] rfl)
      · have hm := ipos hc hm
        refine lv_aload_n hx hb dX8_read_25 rfl (lv_at hl 1 rfl) ?_
        refine lv_iconst (v := 1) hx hb dX8_read_26 (by decide) ?_
        obtain ⟨o27, ho27, hm⟩ := bindE hm
        refine gCalli (ws' := (W_x_read g h0 h1 h2 h3 h4 h5 h6 h7 h8 h9 h10 h11 h12 h13 h14 h15 h16 h17 h18 h19 h20 h21 h22 v_toldIsStale o27.2 v_frosts_told v_frosts_year v_frosts_force v_sheets0_form v_sheets0_size v_sheets0_items v_sheets1_form v_sheets1_size v_sheets1_items v_sheets2_form v_sheets2_size v_sheets2_items v_sheets3_form v_sheets3_size v_sheets3_items)) C0 hw (gRunV (As := [.int (1 : Int32)]) (rest := []) C0 hw lkX8_161 (c_x_found l g H.size h0 h13 h14 h15 h16 h1 h17 h18 h19 h12 h20 h21 h22 v_toldIsStale v_latestFinding (1 : Int32) o27 ho27) ⟨rfl, rfl⟩ ⟨Nat.le_of_ble_eq_true rfl, Nat.le_of_ble_eq_true rfl⟩ [0] (by decide) rfl 0 rfl rfl rfl hl.1 rfl (Nat.le_of_ble_eq_true rfl) dX8_read_27) [0] [1, 2, 3, 4, 5, 6, 7, 8, 9, 10, 11, 12] rfl rfl ⟨rfl, rfl, rfl, rfl, rfl, rfl, rfl, rfl, rfl, rfl, rfl, rfl, trivial⟩ [h0, h1, h2, h3, h4, h5, h6, h7, h8, h9, h10, h11, h12] rfl rfl 13 rfl (by decide +kernel) (fun H locs hw => ?_)
        have hm := Option.some.inj hm
        subst hm
        exact gRetI C0 hw dX8_read_30
    have hm := ineg hs0 hm
    by_cases hs1 : a0 = (1 : Int32)
    · have hm := ipos hs1 hm
      refine gAldL C0 hw 12 rfl hs1 (inbE (by decide)) rfl dX8_read_15 ?_
      refine lv_astore_n (lv' := [(2, .ref h6), (0, .ref h0), (1, .int a0)]) hx hb dX8_read_16 rfl hl (by decide) rfl (fun ls hl => ?_)
      refine lv_aload_n hx hb dX8_read_17 rfl (lv_at hl 0 rfl) ?_
      refine gGet C0 hw flX8_158 6 rfl rfl dX8_read_18 ?_
      refine lv_iconst (v := -1) hx hb dX8_read_21 (by decide) ?_
      refine lv_icmp_ne (tgt := 31) hx hb dX8_read_22 (by decide) (fun hc => ?_) (fun hc => ?_)
      · have hm := ineg hc hm
        refine lv_aload_n hx hb dX8_read_31 rfl (lv_at hl 1 rfl) ?_
        refine gGet C0 hw flX8_38 0 rfl rfl dX8_read_32 ?_
        refine gGet C0 hw flX8_142 1 rfl rfl dX8_read_35 ?_
        refine lv_istore_n (lv' := [(3, .int v_frosts_told), (2, .ref h6), (0, .ref h0), (1, .int a0)]) hx hb dX8_read_38 rfl hl (by decide) rfl (fun ls hl => ?_)
        refine lv_iconst (v := 0) hx hb dX8_read_39 (by decide) ?_
        refine lv_istore (lv' := [(4, .int (0 : Int32)), (3, .int v_frosts_told), (2, .ref h6), (0, .ref h0), (1, .int a0)]) hx hb dX8_read_40 hl (by decide) rfl (fun ls hl => ?_)
        exact l_x_read_N42_1 C0  1000 _ _ _ _ _ _ _ hm _ _ _ hw (lv_sub hl [3, 2, 1, 0] rfl)
      · have hm := ipos hc hm
        refine lv_aload_n hx hb dX8_read_25 rfl (lv_at hl 1 rfl) ?_
        refine lv_iconst (v := 1) hx hb dX8_read_26 (by decide) ?_
        obtain ⟨o27, ho27, hm⟩ := bindE hm
        refine gCalli (ws' := (W_x_read g h0 h1 h2 h3 h4 h5 h6 h7 h8 h9 h10 h11 h12 h13 h14 h15 h16 h17 h18 h19 h20 h21 h22 v_toldIsStale o27.2 v_frosts_told v_frosts_year v_frosts_force v_sheets0_form v_sheets0_size v_sheets0_items v_sheets1_form v_sheets1_size v_sheets1_items v_sheets2_form v_sheets2_size v_sheets2_items v_sheets3_form v_sheets3_size v_sheets3_items)) C0 hw (gRunV (As := [.int (1 : Int32)]) (rest := []) C0 hw lkX8_161 (c_x_found l g H.size h0 h13 h14 h15 h16 h1 h17 h18 h19 h12 h20 h21 h22 v_toldIsStale v_latestFinding (1 : Int32) o27 ho27) ⟨rfl, rfl⟩ ⟨Nat.le_of_ble_eq_true rfl, Nat.le_of_ble_eq_true rfl⟩ [0] (by decide) rfl 0 rfl rfl rfl hl.1 rfl (Nat.le_of_ble_eq_true rfl) dX8_read_27) [0] [1, 2, 3, 4, 5, 6, 7, 8, 9, 10, 11, 12] rfl rfl ⟨rfl, rfl, rfl, rfl, rfl, rfl, rfl, rfl, rfl, rfl, rfl, rfl, trivial⟩ [h0, h1, h2, h3, h4, h5, h6, h7, h8, h9, h10, h11, h12] rfl rfl 13 rfl (by decide +kernel) (fun H locs hw => ?_)
        have hm := Option.some.inj hm
        subst hm
        exact gRetI C0 hw dX8_read_30
    have hm := ineg hs1 hm
    by_cases hs2 : a0 = (2 : Int32)
    · have hm := ipos hs2 hm
      refine gAldL C0 hw 12 rfl hs2 (inbE (by decide)) rfl dX8_read_15 ?_
      refine lv_astore_n (lv' := [(2, .ref h8), (0, .ref h0), (1, .int a0)]) hx hb dX8_read_16 rfl hl (by decide) rfl (fun ls hl => ?_)
      refine lv_aload_n hx hb dX8_read_17 rfl (lv_at hl 0 rfl) ?_
      refine gGet C0 hw flX8_158 8 rfl rfl dX8_read_18 ?_
      refine lv_iconst (v := -1) hx hb dX8_read_21 (by decide) ?_
      refine lv_icmp_ne (tgt := 31) hx hb dX8_read_22 (by decide) (fun hc => ?_) (fun hc => ?_)
      · have hm := ineg hc hm
        refine lv_aload_n hx hb dX8_read_31 rfl (lv_at hl 1 rfl) ?_
        refine gGet C0 hw flX8_38 0 rfl rfl dX8_read_32 ?_
        refine gGet C0 hw flX8_142 1 rfl rfl dX8_read_35 ?_
        refine lv_istore_n (lv' := [(3, .int v_frosts_told), (2, .ref h8), (0, .ref h0), (1, .int a0)]) hx hb dX8_read_38 rfl hl (by decide) rfl (fun ls hl => ?_)
        refine lv_iconst (v := 0) hx hb dX8_read_39 (by decide) ?_
        refine lv_istore (lv' := [(4, .int (0 : Int32)), (3, .int v_frosts_told), (2, .ref h8), (0, .ref h0), (1, .int a0)]) hx hb dX8_read_40 hl (by decide) rfl (fun ls hl => ?_)
        exact l_x_read_N42_2 C0  1000 _ _ _ _ _ _ _ hm _ _ _ hw (lv_sub hl [3, 2, 1, 0] rfl)
      · have hm := ipos hc hm
        refine lv_aload_n hx hb dX8_read_25 rfl (lv_at hl 1 rfl) ?_
        refine lv_iconst (v := 1) hx hb dX8_read_26 (by decide) ?_
        obtain ⟨o27, ho27, hm⟩ := bindE hm
        refine gCalli (ws' := (W_x_read g h0 h1 h2 h3 h4 h5 h6 h7 h8 h9 h10 h11 h12 h13 h14 h15 h16 h17 h18 h19 h20 h21 h22 v_toldIsStale o27.2 v_frosts_told v_frosts_year v_frosts_force v_sheets0_form v_sheets0_size v_sheets0_items v_sheets1_form v_sheets1_size v_sheets1_items v_sheets2_form v_sheets2_size v_sheets2_items v_sheets3_form v_sheets3_size v_sheets3_items)) C0 hw (gRunV (As := [.int (1 : Int32)]) (rest := []) C0 hw lkX8_161 (c_x_found l g H.size h0 h13 h14 h15 h16 h1 h17 h18 h19 h12 h20 h21 h22 v_toldIsStale v_latestFinding (1 : Int32) o27 ho27) ⟨rfl, rfl⟩ ⟨Nat.le_of_ble_eq_true rfl, Nat.le_of_ble_eq_true rfl⟩ [0] (by decide) rfl 0 rfl rfl rfl hl.1 rfl (Nat.le_of_ble_eq_true rfl) dX8_read_27) [0] [1, 2, 3, 4, 5, 6, 7, 8, 9, 10, 11, 12] rfl rfl ⟨rfl, rfl, rfl, rfl, rfl, rfl, rfl, rfl, rfl, rfl, rfl, rfl, trivial⟩ [h0, h1, h2, h3, h4, h5, h6, h7, h8, h9, h10, h11, h12] rfl rfl 13 rfl (by decide +kernel) (fun H locs hw => ?_)
        have hm := Option.some.inj hm
        subst hm
        exact gRetI C0 hw dX8_read_30
    have hm := ineg hs2 hm
    by_cases hs3 : a0 = (3 : Int32)
    · have hm := ipos hs3 hm
      refine gAldL C0 hw 12 rfl hs3 (inbE (by decide)) rfl dX8_read_15 ?_
      refine lv_astore_n (lv' := [(2, .ref h10), (0, .ref h0), (1, .int a0)]) hx hb dX8_read_16 rfl hl (by decide) rfl (fun ls hl => ?_)
      refine lv_aload_n hx hb dX8_read_17 rfl (lv_at hl 0 rfl) ?_
      refine gGet C0 hw flX8_158 10 rfl rfl dX8_read_18 ?_
      refine lv_iconst (v := -1) hx hb dX8_read_21 (by decide) ?_
      refine lv_icmp_ne (tgt := 31) hx hb dX8_read_22 (by decide) (fun hc => ?_) (fun hc => ?_)
      · have hm := ineg hc hm
        refine lv_aload_n hx hb dX8_read_31 rfl (lv_at hl 1 rfl) ?_
        refine gGet C0 hw flX8_38 0 rfl rfl dX8_read_32 ?_
        refine gGet C0 hw flX8_142 1 rfl rfl dX8_read_35 ?_
        refine lv_istore_n (lv' := [(3, .int v_frosts_told), (2, .ref h10), (0, .ref h0), (1, .int a0)]) hx hb dX8_read_38 rfl hl (by decide) rfl (fun ls hl => ?_)
        refine lv_iconst (v := 0) hx hb dX8_read_39 (by decide) ?_
        refine lv_istore (lv' := [(4, .int (0 : Int32)), (3, .int v_frosts_told), (2, .ref h10), (0, .ref h0), (1, .int a0)]) hx hb dX8_read_40 hl (by decide) rfl (fun ls hl => ?_)
        exact l_x_read_N42_3 C0  1000 _ _ _ _ _ _ _ hm _ _ _ hw (lv_sub hl [3, 2, 1, 0] rfl)
      · have hm := ipos hc hm
        refine lv_aload_n hx hb dX8_read_25 rfl (lv_at hl 1 rfl) ?_
        refine lv_iconst (v := 1) hx hb dX8_read_26 (by decide) ?_
        obtain ⟨o27, ho27, hm⟩ := bindE hm
        refine gCalli (ws' := (W_x_read g h0 h1 h2 h3 h4 h5 h6 h7 h8 h9 h10 h11 h12 h13 h14 h15 h16 h17 h18 h19 h20 h21 h22 v_toldIsStale o27.2 v_frosts_told v_frosts_year v_frosts_force v_sheets0_form v_sheets0_size v_sheets0_items v_sheets1_form v_sheets1_size v_sheets1_items v_sheets2_form v_sheets2_size v_sheets2_items v_sheets3_form v_sheets3_size v_sheets3_items)) C0 hw (gRunV (As := [.int (1 : Int32)]) (rest := []) C0 hw lkX8_161 (c_x_found l g H.size h0 h13 h14 h15 h16 h1 h17 h18 h19 h12 h20 h21 h22 v_toldIsStale v_latestFinding (1 : Int32) o27 ho27) ⟨rfl, rfl⟩ ⟨Nat.le_of_ble_eq_true rfl, Nat.le_of_ble_eq_true rfl⟩ [0] (by decide) rfl 0 rfl rfl rfl hl.1 rfl (Nat.le_of_ble_eq_true rfl) dX8_read_27) [0] [1, 2, 3, 4, 5, 6, 7, 8, 9, 10, 11, 12] rfl rfl ⟨rfl, rfl, rfl, rfl, rfl, rfl, rfl, rfl, rfl, rfl, rfl, rfl, trivial⟩ [h0, h1, h2, h3, h4, h5, h6, h7, h8, h9, h10, h11, h12] rfl rfl 13 rfl (by decide +kernel) (fun H locs hw => ?_)
        have hm := Option.some.inj hm
        subst hm
        exact gRetI C0 hw dX8_read_30
    have hm := ineg hs3 hm
    cases hm
  · have hm := ipos hc hm
    refine lv_bipush (v := -2) hx hb dX8_read_7 (by decide) ?_
    have hm := Option.some.inj hm
    subst hm
    exact gRetI C0 hw dX8_read_9
