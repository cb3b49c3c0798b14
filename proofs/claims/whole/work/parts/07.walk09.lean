-- WallHandsModel.in(III)Z

abbrev rm_m_in : Room := { frames := 0, cells := 0, slots := 0, locals := 0 }

set_option maxHeartbeats 1000000 in
set_option maxRecDepth 100000 in
theorem c_m_in (l : Launch) (g : gG) (sz : Nat) (a0 : Int32) (a1 : Int32) (a2 : Int32) (r : Int32) (hm : f_m_in a0 a1 a2 = some r) : gMi l yX9_in cX9_in 3 (some .boolean) rm_m_in g sz [.int a0, .int a1, .int a2] [] r [] := by
  unfold f_m_in at hm
  refine gEnterI (by decide) (Nat.le_of_ble_eq_true rfl) (fun p e s m below meth c A C0 H locs hw ls hl => ?_)
  obtain ⟨hx, hb, hr, hml, hown, hts, hlocks, hK, hA⟩ := id C0
  have C0 : gX p s m [.int a0, .int a1, .int a2].toArray meth c cX9_in 3 (some .boolean) RX9 g A := C0
  have hl : lv_has ls 3 [(0, .int a0), (1, .int a1), (2, .int a2)] := hl
  refine lv_iload_n hx hb dX9_in_0 rfl (lv_at hl 0 rfl) ?_
  refine lv_iload_n hx hb dX9_in_1 rfl (lv_at hl 1 rfl) ?_
  refine lv_icmp_lt (tgt := 14) hx hb dX9_in_2 (by decide) (fun hc => ?_) (fun hc => ?_)
  · have hm := ipos hc hm
    refine lv_iconst (v := 0) hx hb dX9_in_14 (by decide) ?_
    have hm := Option.some.inj hm
    subst hm
    exact gRetZ (v := (0 : Int32)) C0 hw rfl dX9_in_15
  · have hm := ineg hc hm
    refine lv_iload_n hx hb dX9_in_5 rfl (lv_at hl 0 rfl) ?_
    refine lv_iload_n hx hb dX9_in_6 rfl (lv_at hl 2 rfl) ?_
    refine lv_icmp_gt (tgt := 14) hx hb dX9_in_7 (by decide) (fun hc => ?_) (fun hc => ?_)
    · have hm := ipos hc hm
      refine lv_iconst (v := 0) hx hb dX9_in_14 (by decide) ?_
      have hm := Option.some.inj hm
      subst hm
      exact gRetZ (v := (0 : Int32)) C0 hw rfl dX9_in_15
    · have hm := ineg hc hm
      refine lv_iconst (v := 1) hx hb dX9_in_10 (by decide) ?_
      refine lv_goto (tgt := 15) hx hb dX9_in_11 (by decide) ?_
      have hm := Option.some.inj hm
      subst hm
      exact gRetZ (v := (1 : Int32)) C0 hw rfl dX9_in_15

-- WallHandsModel.isIn(II)Z

abbrev rm_m_isIn : Room := { frames := 0, cells := 0, slots := 0, locals := 0 }

set_option maxHeartbeats 1000000 in
set_option maxRecDepth 100000 in
theorem c_m_isIn (l : Launch) (g : gG) (sz : Nat) (a0 : Int32) (a1 : Int32) (r : Int32) (hm : f_m_isIn a0 a1 = some r) : gMi l yX9_isIn cX9_isIn 2 (some .boolean) rm_m_isIn g sz [.int a0, .int a1] [] r [] := by
  unfold f_m_isIn at hm
  refine gEnterI (by decide) (Nat.le_of_ble_eq_true rfl) (fun p e s m below meth c A C0 H locs hw ls hl => ?_)
  obtain ⟨hx, hb, hr, hml, hown, hts, hlocks, hK, hA⟩ := id C0
  have C0 : gX p s m [.int a0, .int a1].toArray meth c cX9_isIn 2 (some .boolean) RX9 g A := C0
  have hl : lv_has ls 2 [(0, .int a0), (1, .int a1)] := hl
  refine lv_iload_n hx hb dX9_isIn_0 rfl (lv_at hl 0 rfl) ?_
  refine lv_iload_n hx hb dX9_isIn_1 rfl (lv_at hl 1 rfl) ?_
  refine lv_ishr hx hb dX9_isIn_2 ?_
  refine lv_iconst (v := 1) hx hb dX9_isIn_3 (by decide) ?_
  refine lv_iand hx hb dX9_isIn_4 ?_
  refine lv_iconst (v := 1) hx hb dX9_isIn_5 (by decide) ?_
  refine lv_icmp_ne (tgt := 13) hx hb dX9_isIn_6 (by decide) (fun hc => ?_) (fun hc => ?_)
  · have hm := ineg hc hm
    refine lv_iconst (v := 0) hx hb dX9_isIn_13 (by decide) ?_
    have hm := Option.some.inj hm
    subst hm
    exact gRetZ (v := (0 : Int32)) C0 hw rfl dX9_isIn_14
  · have hm := ipos hc hm
    refine lv_iconst (v := 1) hx hb dX9_isIn_9 (by decide) ?_
    refine lv_goto (tgt := 14) hx hb dX9_isIn_10 (by decide) ?_
    have hm := Option.some.inj hm
    subst hm
    exact gRetZ (v := (1 : Int32)) C0 hw rfl dX9_isIn_14

-- WallHandsModel.no(I)J

abbrev rm_m_no : Room := { frames := 0, cells := 0, slots := 0, locals := 0 }

set_option maxHeartbeats 1000000 in
set_option maxRecDepth 100000 in
theorem c_m_no (l : Launch) (g : gG) (sz : Nat) (a0 : Int32) (r : Int64) (hm : f_m_no a0 = some r) : gMl l yX9_no cX9_no 1 (some .long) rm_m_no g sz [.int a0] [] r [] := by
  unfold f_m_no at hm
  refine gEnterL (by decide) (Nat.le_of_ble_eq_true rfl) (fun p e s m below meth c A C0 H locs hw ls hl => ?_)
  obtain ⟨hx, hb, hr, hml, hown, hts, hlocks, hK, hA⟩ := id C0
  have C0 : gX p s m [.int a0].toArray meth c cX9_no 1 (some .long) RX9 g A := C0
  have hl : lv_has ls 1 [(0, .int a0)] := hl
  refine lv_ldc2 (v := -9223372036854775808) hx hb hown (hts _ kX9_105) dX9_no_0 ?_
  refine lv_iload_n hx hb dX9_no_3 rfl (lv_at hl 0 rfl) ?_
  refine lv_i2l (v := a0.toInt64) hx hb dX9_no_4 rfl ?_
  refine lv_lsub hx hb dX9_no_5 ?_
  have hm := Option.some.inj hm
  subst hm
  exact gRetL C0 hw dX9_no_6

-- WallHandsModel.lowest(JJI)J

abbrev rm_m_lowest : Room := { frames := 0, cells := 0, slots := 0, locals := 0 }

set_option maxHeartbeats 1000000 in
set_option maxRecDepth 100000 in
theorem n_m_lowest_N6 {p : Program} {l : Launch} {e : Env} {s : State} {m : MethodId} {args : Array Value} {below : List Frame} {meth : Method} {c : Code} {A : Nat → Prop} {g : gG} {k6 : Int64 → Int64 → Int32 → Int64 → Int64 → Option Int64} {r : Int64} (C0 : gX p s m args meth c cX9_lowest 11 (some .long) RX9 g A) (hk6 : ∀ (x0 : Int64) (x2 : Int64) (x4 : Int32) (x5 : Int64) (x7 : Int64), k6 x0 x2 x4 x5 x7 = some r → ∀ (H : Heap) (locs : List Loc) (ls : Array Slot), gW g A s [] H locs → lv_has ls 11 [(0, .long x0), (2, .long x2), (4, .int x4), (5, .long x5), (7, .long x7)] → W p l e rm_m_lowest s m args below meth c H locs 0 0 (gQl below args s A g r []) (F0 m 6 ls [])) : ∀ (x0 : Int64) (x2 : Int64) (x4 : Int32) (x5 : Int64) (x7 : Int64), f_m_lowest_N6 k6 x0 x2 x4 x5 x7 = some r → ∀ (H : Heap) (locs : List Loc) (ls : Array Slot), gW g A s [] H locs → lv_has ls 11 [(0, .long x0), (2, .long x2), (4, .int x4), (5, .long x5), (7, .long x7)] → W p l e rm_m_lowest s m args below meth c H locs 0 0 (gQl below args s A g r []) (F0 m 6 ls []) := by
  intro x0 x2 x4 x5 x7 hm H locs ls hw hl
  unfold f_m_lowest_N6 at hm
  obtain ⟨hx, hb, hr, hml, hown, hts, hlocks, hK, hA⟩ := id C0
  refine lv_lload hx hb dX9_lowest_6 (lv_at hl 4 rfl) ?_
  refine lv_lconst (v := 0) hx hb dX9_lowest_8 (by decide) ?_
  refine W.lcmp hx hb dX9_lowest_9 ?_
  refine lv_if_eq (tgt := 31) hx hb dX9_lowest_10 (by decide) (fun hc => ?_) (fun hc => ?_)
  · have hm := ipos hc hm
    refine lv_iload hx hb dX9_lowest_31 (lv_at hl 2 rfl) ?_
    refine lv_if_ne (tgt := 43) hx hb dX9_lowest_33 (by decide) (fun hc => ?_) (fun hc => ?_)
    · have hm := ineg hc hm
      refine lv_lload_n hx hb dX9_lowest_43 rfl (lv_at hl 1 rfl) ?_
      refine lv_lload hx hb dX9_lowest_44 (lv_at hl 3 rfl) ?_
      obtain ⟨hnz, hm⟩ := gdE hm
      refine lv_ldiv hx hb dX9_lowest_46 (of_decide_eq_true hnz) ?_
      have hm := Option.some.inj hm
      subst hm
      exact gRetL C0 hw dX9_lowest_47
    · have hm := ipos hc hm
      refine lv_lload_n hx hb dX9_lowest_36 rfl (lv_at hl 0 rfl) ?_
      refine lv_lload hx hb dX9_lowest_37 (lv_at hl 3 rfl) ?_
      obtain ⟨hnz, hm⟩ := gdE hm
      refine lv_ldiv hx hb dX9_lowest_39 (of_decide_eq_true hnz) ?_
      refine lv_goto (tgt := 47) hx hb dX9_lowest_40 (by decide) ?_
      have hm := Option.some.inj hm
      subst hm
      exact gRetL C0 hw dX9_lowest_47
  · have hm := ineg hc hm
    refine lv_lload hx hb dX9_lowest_13 (lv_at hl 3 rfl) ?_
    refine lv_lload hx hb dX9_lowest_15 (lv_at hl 4 rfl) ?_
    obtain ⟨hnz, hm⟩ := gdE hm
    refine lv_lrem hx hb dX9_lowest_17 (of_decide_eq_true hnz) ?_
    refine lv_lstore (lv' := [(9, .long (x5 - x5 / x7 * x7)), (0, .long x0), (2, .long x2), (4, .int x4), (5, .long x5), (7, .long x7)]) hx hb dX9_lowest_18 hl (by decide) rfl (fun ls hl => ?_)
    refine lv_lload hx hb dX9_lowest_20 (lv_at hl 5 rfl) ?_
    refine lv_lstore (lv' := [(5, .long x7), (9, .long (x5 - x5 / x7 * x7)), (0, .long x0), (2, .long x2), (4, .int x4), (7, .long x7)]) hx hb dX9_lowest_22 hl (by decide) rfl (fun ls hl => ?_)
    refine lv_lload hx hb dX9_lowest_24 (lv_at hl 1 rfl) ?_
    refine lv_lstore (lv' := [(7, .long (x5 - x5 / x7 * x7)), (5, .long x7), (9, .long (x5 - x5 / x7 * x7)), (0, .long x0), (2, .long x2), (4, .int x4)]) hx hb dX9_lowest_26 hl (by decide) rfl (fun ls hl => ?_)
    refine lv_goto (tgt := 6) hx hb dX9_lowest_28 (by decide) ?_
    exact hk6 _ _ _ _ _ hm _ _ _ hw (lv_sub hl [3, 4, 5, 1, 0] rfl)
set_option maxHeartbeats 1000000 in
set_option maxRecDepth 100000 in
theorem l_m_lowest_N6 {p : Program} {l : Launch} {e : Env} {s : State} {m : MethodId} {args : Array Value} {below : List Frame} {meth : Method} {c : Code} {A : Nat → Prop} {g : gG} {r : Int64} (C0 : gX p s m args meth c cX9_lowest 11 (some .long) RX9 g A) : ∀ n : Nat, ∀ (x0 : Int64) (x2 : Int64) (x4 : Int32) (x5 : Int64) (x7 : Int64), iter (fun _ _ _ _ _ => none) (f_m_lowest_N6) n x0 x2 x4 x5 x7 = some r → ∀ (H : Heap) (locs : List Loc) (ls : Array Slot), gW g A s [] H locs → lv_has ls 11 [(0, .long x0), (2, .long x2), (4, .int x4), (5, .long x5), (7, .long x7)] → W p l e rm_m_lowest s m args below meth c H locs 0 0 (gQl below args s A g r []) (F0 m 6 ls []) := by
  intro n
  induction n with
  | zero =>
    intro x0 x2 x4 x5 x7 hm
    cases hm
  | succ n ih =>
    exact n_m_lowest_N6 C0  ih
set_option maxHeartbeats 1000000 in
set_option maxRecDepth 100000 in
theorem c_m_lowest (l : Launch) (g : gG) (sz : Nat) (a0 : Int64) (a1 : Int64) (a2 : Int32) (r : Int64) (hm : f_m_lowest a0 a1 a2 = some r) : gMl l yX9_lowest cX9_lowest 11 (some .long) rm_m_lowest g sz [.long a0, .long a1, .int a2] [] r [] := by
  unfold f_m_lowest at hm
  refine gEnterL (by decide) (Nat.le_of_ble_eq_true rfl) (fun p e s m below meth c A C0 H locs hw ls hl => ?_)
  obtain ⟨hx, hb, hr, hml, hown, hts, hlocks, hK, hA⟩ := id C0
  have C0 : gX p s m [.long a0, .long a1, .int a2].toArray meth c cX9_lowest 11 (some .long) RX9 g A := C0
  have hl : lv_has ls 11 [(0, .long a0), (2, .long a1), (4, .int a2)] := hl
  refine lv_lload_n hx hb dX9_lowest_0 rfl (lv_at hl 0 rfl) ?_
  refine lv_lstore (lv' := [(5, .long a0), (0, .long a0), (2, .long a1), (4, .int a2)]) hx hb dX9_lowest_1 hl (by decide) rfl (fun ls hl => ?_)
  refine lv_lload_n hx hb dX9_lowest_3 rfl (lv_at hl 2 rfl) ?_
  refine lv_lstore (lv' := [(7, .long a1), (5, .long a0), (0, .long a0), (2, .long a1), (4, .int a2)]) hx hb dX9_lowest_4 hl (by decide) rfl (fun ls hl => ?_)
  exact l_m_lowest_N6 C0  1000 _ _ _ _ _ hm _ _ _ hw (lv_sub hl [2, 3, 4, 1, 0] rfl)

-- WallHandsModel.isText(I)Z

abbrev rm_m_isText : Room := { frames := 1, cells := 0, slots := 0, locals := 22 }

set_option maxHeartbeats 1000000 in
set_option maxRecDepth 100000 in
theorem c_m_isText (l : Launch) (g : gG) (sz : Nat) (a0 : Int32) (r : Int32) (hm : f_m_isText a0 = some r) : gMi l yX9_isText cX9_isText 1 (some .boolean) rm_m_isText g sz [.int a0] [] r [] := by
  unfold f_m_isText at hm
  refine gEnterI (by decide) (Nat.le_of_ble_eq_true rfl) (fun p e s m below meth c A C0 H locs hw ls hl => ?_)
  obtain ⟨hx, hb, hr, hml, hown, hts, hlocks, hK, hA⟩ := id C0
  have C0 : gX p s m [.int a0].toArray meth c cX9_isText 1 (some .boolean) RX9 g A := C0
  have hl : lv_has ls 1 [(0, .int a0)] := hl
  refine lv_iload_n hx hb dX9_isText_0 rfl (lv_at hl 0 rfl) ?_
  refine lv_iconst (v := 0) hx hb dX9_isText_1 (by decide) ?_
  refine lv_iconst (v := 1) hx hb dX9_isText_2 (by decide) ?_
  obtain ⟨o3, ho3, hm⟩ := bindE hm
  refine gCalli (ws' := []) C0 hw (gRunS (As := [.int a0, .int (0 : Int32), .int (1 : Int32)]) (rest := []) C0 hw lkX9_107 (c_m_in l g H.size  a0 (0 : Int32) (1 : Int32) o3 ho3) ⟨rfl, rfl⟩ ⟨Nat.le_of_ble_eq_true rfl, Nat.le_of_ble_eq_true rfl⟩ [] (by decide) rfl rfl hl.1 rfl (Nat.le_of_ble_eq_true rfl) dX9_isText_3) [] [] rfl rfl trivial [] rfl rfl 0 rfl (by decide +kernel) (fun H locs hw => ?_)
  obtain ⟨hB0, hm⟩ := gdE hm
  have hB := of_decide_eq_true hB0
  have hm := Option.some.inj hm
  subst hm
  exact gRetZ C0 hw hB dX9_isText_6

-- WallHandsModel.isYear(I)Z

abbrev rm_m_isYear : Room := { frames := 1, cells := 0, slots := 0, locals := 22 }

set_option maxHeartbeats 1000000 in
set_option maxRecDepth 100000 in
theorem c_m_isYear (l : Launch) (g : gG) (sz : Nat) (a0 : Int32) (r : Int32) (hm : f_m_isYear a0 = some r) : gMi l yX9_isYear cX9_isYear 1 (some .boolean) rm_m_isYear g sz [.int a0] [] r [] := by
  unfold f_m_isYear at hm
  refine gEnterI (by decide) (Nat.le_of_ble_eq_true rfl) (fun p e s m below meth c A C0 H locs hw ls hl => ?_)
  obtain ⟨hx, hb, hr, hml, hown, hts, hlocks, hK, hA⟩ := id C0
  have C0 : gX p s m [.int a0].toArray meth c cX9_isYear 1 (some .boolean) RX9 g A := C0
  have hl : lv_has ls 1 [(0, .int a0)] := hl
  refine lv_iload_n hx hb dX9_isYear_0 rfl (lv_at hl 0 rfl) ?_
  refine lv_iconst (v := 0) hx hb dX9_isYear_1 (by decide) ?_
  refine lv_bipush (v := 19) hx hb dX9_isYear_2 (by decide) ?_
  obtain ⟨o4, ho4, hm⟩ := bindE hm
  refine gCalli (ws' := []) C0 hw (gRunS (As := [.int a0, .int (0 : Int32), .int (19 : Int32)]) (rest := []) C0 hw lkX9_107 (c_m_in l g H.size  a0 (0 : Int32) (19 : Int32) o4 ho4) ⟨rfl, rfl⟩ ⟨Nat.le_of_ble_eq_true rfl, Nat.le_of_ble_eq_true rfl⟩ [] (by decide) rfl rfl hl.1 rfl (Nat.le_of_ble_eq_true rfl) dX9_isYear_4) [] [] rfl rfl trivial [] rfl rfl 0 rfl (by decide +kernel) (fun H locs hw => ?_)
  obtain ⟨hB0, hm⟩ := gdE hm
  have hB := of_decide_eq_true hB0
  have hm := Option.some.inj hm
  subst hm
  exact gRetZ C0 hw hB dX9_isYear_7

-- WallHandsModel.isEight(I)Z

abbrev rm_m_isEight : Room := { frames := 1, cells := 0, slots := 0, locals := 22 }

set_option maxHeartbeats 1000000 in
set_option maxRecDepth 100000 in
theorem c_m_isEight (l : Launch) (g : gG) (sz : Nat) (a0 : Int32) (r : Int32) (hm : f_m_isEight a0 = some r) : gMi l yX9_isEight cX9_isEight 1 (some .boolean) rm_m_isEight g sz [.int a0] [] r [] := by
  unfold f_m_isEight at hm
  refine gEnterI (by decide) (Nat.le_of_ble_eq_true rfl) (fun p e s m below meth c A C0 H locs hw ls hl => ?_)
  obtain ⟨hx, hb, hr, hml, hown, hts, hlocks, hK, hA⟩ := id C0
  have C0 : gX p s m [.int a0].toArray meth c cX9_isEight 1 (some .boolean) RX9 g A := C0
  have hl : lv_has ls 1 [(0, .int a0)] := hl
  refine lv_iload_n hx hb dX9_isEight_0 rfl (lv_at hl 0 rfl) ?_
  refine lv_iconst (v := 0) hx hb dX9_isEight_1 (by decide) ?_
  refine lv_bipush (v := 7) hx hb dX9_isEight_2 (by decide) ?_
  obtain ⟨o4, ho4, hm⟩ := bindE hm
  refine gCalli (ws' := []) C0 hw (gRunS (As := [.int a0, .int (0 : Int32), .int (7 : Int32)]) (rest := []) C0 hw lkX9_107 (c_m_in l g H.size  a0 (0 : Int32) (7 : Int32) o4 ho4) ⟨rfl, rfl⟩ ⟨Nat.le_of_ble_eq_true rfl, Nat.le_of_ble_eq_true rfl⟩ [] (by decide) rfl rfl hl.1 rfl (Nat.le_of_ble_eq_true rfl) dX9_isEight_4) [] [] rfl rfl trivial [] rfl rfl 0 rfl (by decide +kernel) (fun H locs hw => ?_)
  obtain ⟨hB0, hm⟩ := gdE hm
  have hB := of_decide_eq_true hB0
  have hm := Option.some.inj hm
  subst hm
  exact gRetZ C0 hw hB dX9_isEight_7

-- WallHandsModel.isPlace(II)Z

abbrev rm_m_isPlace : Room := { frames := 2, cells := 0, slots := 0, locals := 42 }

set_option maxHeartbeats 1000000 in
set_option maxRecDepth 100000 in
theorem c_m_isPlace (l : Launch) (g : gG) (sz : Nat) (a0 : Int32) (a1 : Int32) (r : Int32) (hm : f_m_isPlace a0 a1 = some r) : gMi l yX9_isPlace cX9_isPlace 2 (some .boolean) rm_m_isPlace g sz [.int a0, .int a1] [] r [] := by
  unfold f_m_isPlace at hm
  refine gEnterI (by decide) (Nat.le_of_ble_eq_true rfl) (fun p e s m below meth c A C0 H locs hw ls hl => ?_)
  obtain ⟨hx, hb, hr, hml, hown, hts, hlocks, hK, hA⟩ := id C0
  have C0 : gX p s m [.int a0, .int a1].toArray meth c cX9_isPlace 2 (some .boolean) RX9 g A := C0
  have hl : lv_has ls 2 [(0, .int a0), (1, .int a1)] := hl
  refine lv_iload_n hx hb dX9_isPlace_0 rfl (lv_at hl 0 rfl) ?_
  refine lv_iconst (v := 0) hx hb dX9_isPlace_1 (by decide) ?_
  refine lv_iconst (v := 4) hx hb dX9_isPlace_2 (by decide) ?_
  obtain ⟨o3, ho3, hm⟩ := bindE hm
  refine gCalli (ws' := []) C0 hw (gRunS (As := [.int a0, .int (0 : Int32), .int (4 : Int32)]) (rest := []) C0 hw lkX9_107 (c_m_in l g H.size  a0 (0 : Int32) (4 : Int32) o3 ho3) ⟨rfl, rfl⟩ ⟨Nat.le_of_ble_eq_true rfl, Nat.le_of_ble_eq_true rfl⟩ [] (by decide) rfl rfl hl.1 rfl (Nat.le_of_ble_eq_true rfl) dX9_isPlace_3) [] [] rfl rfl trivial [] rfl rfl 0 rfl (by decide +kernel) (fun H locs hw => ?_)
  refine lv_if_eq (tgt := 20) hx hb dX9_isPlace_6 (by decide) (fun hc => ?_) (fun hc => ?_)
  · have hm := ipos hc hm
    refine lv_iconst (v := 0) hx hb dX9_isPlace_20 (by decide) ?_
    have hm := Option.some.inj hm
    subst hm
    exact gRetZ (v := (0 : Int32)) C0 hw rfl dX9_isPlace_21
  · have hm := ineg hc hm
    refine lv_iload_n hx hb dX9_isPlace_9 rfl (lv_at hl 1 rfl) ?_
    obtain ⟨o10, ho10, hm⟩ := bindE hm
    refine gCalli (ws' := []) C0 hw (gRunS (As := [.int a1]) (rest := []) C0 hw lkX9_111 (c_m_isEight l g H.size  a1 o10 ho10) ⟨rfl, rfl⟩ ⟨Nat.le_of_ble_eq_true rfl, Nat.le_of_ble_eq_true rfl⟩ [] (by decide) rfl rfl hl.1 rfl (Nat.le_of_ble_eq_true rfl) dX9_isPlace_10) [] [] rfl rfl trivial [] rfl rfl 0 rfl (by decide +kernel) (fun H locs hw => ?_)
    refine lv_if_eq (tgt := 20) hx hb dX9_isPlace_13 (by decide) (fun hc => ?_) (fun hc => ?_)
    · have hm := ipos hc hm
      refine lv_iconst (v := 0) hx hb dX9_isPlace_20 (by decide) ?_
      have hm := Option.some.inj hm
      subst hm
      exact gRetZ (v := (0 : Int32)) C0 hw rfl dX9_isPlace_21
    · have hm := ineg hc hm
      refine lv_iconst (v := 1) hx hb dX9_isPlace_16 (by decide) ?_
      refine lv_goto (tgt := 21) hx hb dX9_isPlace_17 (by decide) ?_
      have hm := Option.some.inj hm
      subst hm
      exact gRetZ (v := (1 : Int32)) C0 hw rfl dX9_isPlace_21

-- WallHandsModel.type(II)I
abbrev W_m_type (g : gG) (h0 h1 h2 h3 h4 h5 h6 h7 h8 h9 h10 h11 h12 h13 h14 h15 h16 h17 h18 h19 h20 h21 h22 h23 h24 h25 h26 h27 h28 h29 h30 : Nat) (v_courses : Int32) (v_wide : Int32) (v_hands : Int32) (v_jumpTold : Int32) (v_frosts : Int32) (v_gaps : Int32) (v_frostsNow : Int32) (v_notFrosts : Int32) (v_gapsNow : Int32) (v_fell : Int32) (v_fellAll : Int32) (v_sheepFirst : Int32) (v_sheepMany : Int32) (v_seens : Int32) (v_finding : Int32) (v_typed : Nat → Int32) (v_texts : Nat → Int32) : va_W := [(h0, .inr (9, [.ref h1, .ref h2, .int v_courses, .int v_wide, .ref h3, .int v_hands, .ref h4, .ref h5, .int v_jumpTold, .int v_frosts, .ref h6, .ref h7, .int v_gaps, .ref h8, .ref h9, .ref h10, .ref h11, .int v_frostsNow, .ref h12, .ref h13, .int v_notFrosts, .int v_gapsNow, .ref h14, .int v_fell, .int v_fellAll, .ref h15, .ref h16, .ref h17, .ref h18, .ref h19, .ref h20, .ref h21, .int v_sheepFirst, .int v_sheepMany, .int v_seens, .ref h22, .ref h23, .ref h24, .ref h25, .ref h26, .ref h27, .ref h28, .ref h29, .ref h30, .int v_finding])), (h1, .inl (gI g, 2, .inl v_typed)), (h2, .inl (gI g, 88, .inl v_texts))]

abbrev rm_m_type : Room := { frames := 2, cells := 0, slots := 0, locals := 42 }

set_option maxHeartbeats 1000000 in
set_option maxRecDepth 100000 in
theorem n_m_type_N38 {p : Program} {l : Launch} {e : Env} {s : State} {m : MethodId} {args : Array Value} {below : List Frame} {meth : Method} {c : Code} {A : Nat → Prop} {g : gG} {h0 h1 h2 h3 h4 h5 h6 h7 h8 h9 h10 h11 h12 h13 h14 h15 h16 h17 h18 h19 h20 h21 h22 h23 h24 h25 h26 h27 h28 h29 h30 : Nat} {v_courses : Int32} {v_wide : Int32} {v_hands : Int32} {v_jumpTold : Int32} {v_frosts : Int32} {v_gaps : Int32} {v_frostsNow : Int32} {v_notFrosts : Int32} {v_gapsNow : Int32} {v_fell : Int32} {v_fellAll : Int32} {v_sheepFirst : Int32} {v_sheepMany : Int32} {v_seens : Int32} {v_finding : Int32} {r : (Int32 × (Nat → Int32) × (Nat → Int32))} (C0 : gX p s m args meth c cX9_type 3 (some .int) RX9 g A) : ∀ (v_typed : Nat → Int32) (v_texts : Nat → Int32) (x1 : Int32) (x2 : Int32) (y0 : Int32) (y1 : Int32), f_m_type_N38 v_typed v_texts x1 x2 y0 y1 = some r → ∀ (H : Heap) (locs : List Loc) (ls : Array Slot), gW g A s (W_m_type g h0 h1 h2 h3 h4 h5 h6 h7 h8 h9 h10 h11 h12 h13 h14 h15 h16 h17 h18 h19 h20 h21 h22 h23 h24 h25 h26 h27 h28 h29 h30 v_courses v_wide v_hands v_jumpTold v_frosts v_gaps v_frostsNow v_notFrosts v_gapsNow v_fell v_fellAll v_sheepFirst v_sheepMany v_seens v_finding v_typed v_texts) H locs → lv_has ls 3 [(0, .ref h0), (1, .int x1), (2, .int x2)] → W p l e rm_m_type s m args below meth c H locs 0 0 (gQi below args s A g r.1 (W_m_type g h0 h1 h2 h3 h4 h5 h6 h7 h8 h9 h10 h11 h12 h13 h14 h15 h16 h17 h18 h19 h20 h21 h22 h23 h24 h25 h26 h27 h28 h29 h30 v_courses v_wide v_hands v_jumpTold v_frosts v_gaps v_frostsNow v_notFrosts v_gapsNow v_fell v_fellAll v_sheepFirst v_sheepMany v_seens v_finding r.2.1 r.2.2)) (F0 m 38 ls [.int y1, .int y0]) := by
  intro v_typed v_texts x1 x2 y0 y1 hm H locs ls hw hl
  unfold f_m_type_N38 at hm
  obtain ⟨hx, hb, hr, hml, hown, hts, hlocks, hK, hA⟩ := id C0
  refine lv_icmp_ne (tgt := 44) hx hb dX9_type_38 (by decide) (fun hc => ?_) (fun hc => ?_)
  · have hm := ineg hc hm
    refine lv_aload_n hx hb dX9_type_44 rfl (lv_at hl 0 rfl) ?_
    refine gGet C0 hw flX9_13 0 rfl rfl dX9_type_45 ?_
    refine lv_bipush (v := 44) hx hb dX9_type_48 (by decide) ?_
    refine lv_iload_n hx hb dX9_type_50 rfl (lv_at hl 1 rfl) ?_
    refine lv_imul hx hb dX9_type_51 ?_
    refine lv_aload_n hx hb dX9_type_52 rfl (lv_at hl 0 rfl) ?_
    refine gGet C0 hw flX9_7 0 rfl rfl dX9_type_53 ?_
    refine lv_iload_n hx hb dX9_type_56 rfl (lv_at hl 1 rfl) ?_
    obtain ⟨hin, hm⟩ := gdE hm
    have hin := inbE hin
    refine gAldI C0 hw 1 rfl hin dX9_type_57 ?_
    refine lv_iadd hx hb dX9_type_58 ?_
    refine lv_iload_n hx hb dX9_type_59 rfl (lv_at hl 2 rfl) ?_
    obtain ⟨hin, hm⟩ := gdE hm
    have hin := inbE hin
    refine gAstI (ws' := (W_m_type g h0 h1 h2 h3 h4 h5 h6 h7 h8 h9 h10 h11 h12 h13 h14 h15 h16 h17 h18 h19 h20 h21 h22 h23 h24 h25 h26 h27 h28 h29 h30 v_courses v_wide v_hands v_jumpTold v_frosts v_gaps v_frostsNow v_notFrosts v_gapsNow v_fell v_fellAll v_sheepFirst v_sheepMany v_seens v_finding v_typed (upd v_texts (((44 : Int32) * x1) + (v_typed x1.toNatClampNeg)).toNatClampNeg x2))) C0 hw 2 rfl hin rfl dX9_type_60 (fun H locs hw => ?_)
    refine lv_aload_n hx hb dX9_type_61 rfl (lv_at hl 0 rfl) ?_
    refine gGet C0 hw flX9_7 0 rfl rfl dX9_type_62 ?_
    refine lv_iload_n hx hb dX9_type_65 rfl (lv_at hl 1 rfl) ?_
    refine lv_dup2_11 hx hb dX9_type_66 rfl rfl ?_
    obtain ⟨hin, hm⟩ := gdE hm
    have hin := inbE hin
    refine gAldI C0 hw 1 rfl hin dX9_type_67 ?_
    refine lv_iconst (v := 1) hx hb dX9_type_68 (by decide) ?_
    refine lv_iadd hx hb dX9_type_69 ?_
    obtain ⟨hin, hm⟩ := gdE hm
    have hin := inbE hin
    refine gAstI (ws' := (W_m_type g h0 h1 h2 h3 h4 h5 h6 h7 h8 h9 h10 h11 h12 h13 h14 h15 h16 h17 h18 h19 h20 h21 h22 h23 h24 h25 h26 h27 h28 h29 h30 v_courses v_wide v_hands v_jumpTold v_frosts v_gaps v_frostsNow v_notFrosts v_gapsNow v_fell v_fellAll v_sheepFirst v_sheepMany v_seens v_finding (upd v_typed x1.toNatClampNeg ((v_typed x1.toNatClampNeg) + (1 : Int32))) (upd v_texts (((44 : Int32) * x1) + (v_typed x1.toNatClampNeg)).toNatClampNeg x2))) C0 hw 1 rfl hin rfl dX9_type_70 (fun H locs hw => ?_)
    refine lv_aload_n hx hb dX9_type_71 rfl (lv_at hl 0 rfl) ?_
    refine gGet C0 hw flX9_7 0 rfl rfl dX9_type_72 ?_
    refine lv_iload_n hx hb dX9_type_75 rfl (lv_at hl 1 rfl) ?_
    obtain ⟨hin, hm⟩ := gdE hm
    have hin := inbE hin
    refine gAldI C0 hw 1 rfl hin dX9_type_76 ?_
    have hm := Option.some.inj hm
    subst hm
    exact gRetI C0 hw dX9_type_77
  · have hm := ipos hc hm
    refine lv_bipush (v := -4) hx hb dX9_type_41 (by decide) ?_
    have hm := Option.some.inj hm
    subst hm
    exact gRetI C0 hw dX9_type_43
set_option maxHeartbeats 1000000 in
set_option maxRecDepth 100000 in
theorem c_m_type (l : Launch) (g : gG) (sz : Nat) (h0 h1 h2 h3 h4 h5 h6 h7 h8 h9 h10 h11 h12 h13 h14 h15 h16 h17 h18 h19 h20 h21 h22 h23 h24 h25 h26 h27 h28 h29 h30 : Nat) (v_courses : Int32) (v_wide : Int32) (v_hands : Int32) (v_jumpTold : Int32) (v_frosts : Int32) (v_gaps : Int32) (v_frostsNow : Int32) (v_notFrosts : Int32) (v_gapsNow : Int32) (v_fell : Int32) (v_fellAll : Int32) (v_sheepFirst : Int32) (v_sheepMany : Int32) (v_seens : Int32) (v_finding : Int32) (v_typed : Nat → Int32) (v_texts : Nat → Int32) (a0 : Int32) (a1 : Int32) (r : (Int32 × (Nat → Int32) × (Nat → Int32))) (hm : f_m_type v_typed v_texts a0 a1 = some r) : gMi l yX9_type cX9_type 3 (some .int) rm_m_type g sz [.ref h0, .int a0, .int a1] (W_m_type g h0 h1 h2 h3 h4 h5 h6 h7 h8 h9 h10 h11 h12 h13 h14 h15 h16 h17 h18 h19 h20 h21 h22 h23 h24 h25 h26 h27 h28 h29 h30 v_courses v_wide v_hands v_jumpTold v_frosts v_gaps v_frostsNow v_notFrosts v_gapsNow v_fell v_fellAll v_sheepFirst v_sheepMany v_seens v_finding v_typed v_texts) r.1 (W_m_type g h0 h1 h2 h3 h4 h5 h6 h7 h8 h9 h10 h11 h12 h13 h14 h15 h16 h17 h18 h19 h20 h21 h22 h23 h24 h25 h26 h27 h28 h29 h30 v_courses v_wide v_hands v_jumpTold v_frosts v_gaps v_frostsNow v_notFrosts v_gapsNow v_fell v_fellAll v_sheepFirst v_sheepMany v_seens v_finding r.2.1 r.2.2) := by
  unfold f_m_type at hm
  refine gEnterI (by decide) (Nat.le_of_ble_eq_true rfl) (fun p e s m below meth c A C0 H locs hw ls hl => ?_)
  obtain ⟨hx, hb, hr, hml, hown, hts, hlocks, hK, hA⟩ := id C0
  have C0 : gX p s m [.ref h0, .int a0, .int a1].toArray meth c cX9_type 3 (some .int) RX9 g A := C0
  have hl : lv_has ls 3 [(0, .ref h0), (1, .int a0), (2, .int a1)] := hl
  refine lv_iload_n hx hb dX9_type_0 rfl (lv_at hl 1 rfl) ?_
  obtain ⟨o1, ho1, hm⟩ := bindE hm
  refine gCalli (ws' := (W_m_type g h0 h1 h2 h3 h4 h5 h6 h7 h8 h9 h10 h11 h12 h13 h14 h15 h16 h17 h18 h19 h20 h21 h22 h23 h24 h25 h26 h27 h28 h29 h30 v_courses v_wide v_hands v_jumpTold v_frosts v_gaps v_frostsNow v_notFrosts v_gapsNow v_fell v_fellAll v_sheepFirst v_sheepMany v_seens v_finding v_typed v_texts)) C0 hw (gRunS (As := [.int a0]) (rest := []) C0 hw lkX9_115 (c_m_isText l g H.size  a0 o1 ho1) ⟨rfl, rfl⟩ ⟨Nat.le_of_ble_eq_true rfl, Nat.le_of_ble_eq_true rfl⟩ [] (by decide) rfl rfl hl.1 rfl (Nat.le_of_ble_eq_true rfl) dX9_type_1) [] [0, 1, 2] rfl rfl ⟨rfl, rfl, rfl, trivial⟩ [h0, h1, h2] rfl rfl 3 rfl (by decide +kernel) (fun H locs hw => ?_)
  refine lv_if_eq (tgt := 18) hx hb dX9_type_4 (by decide) (fun hc => ?_) (fun hc => ?_)
  · have hm := ipos hc hm
    refine lv_bipush (v := -2) hx hb dX9_type_18 (by decide) ?_
    have hm := Option.some.inj hm
    subst hm
    exact gRetI C0 hw dX9_type_20
  · have hm := ineg hc hm
    refine lv_iload_n hx hb dX9_type_7 rfl (lv_at hl 2 rfl) ?_
    refine lv_iconst (v := 0) hx hb dX9_type_8 (by decide) ?_
    refine lv_sipush (v := 255) hx hb dX9_type_9 (by decide) ?_
    obtain ⟨o12, ho12, hm⟩ := bindE hm
    refine gCalli (ws' := (W_m_type g h0 h1 h2 h3 h4 h5 h6 h7 h8 h9 h10 h11 h12 h13 h14 h15 h16 h17 h18 h19 h20 h21 h22 h23 h24 h25 h26 h27 h28 h29 h30 v_courses v_wide v_hands v_jumpTold v_frosts v_gaps v_frostsNow v_notFrosts v_gapsNow v_fell v_fellAll v_sheepFirst v_sheepMany v_seens v_finding v_typed v_texts)) C0 hw (gRunS (As := [.int a1, .int (0 : Int32), .int (255 : Int32)]) (rest := []) C0 hw lkX9_107 (c_m_in l g H.size  a1 (0 : Int32) (255 : Int32) o12 ho12) ⟨rfl, rfl⟩ ⟨Nat.le_of_ble_eq_true rfl, Nat.le_of_ble_eq_true rfl⟩ [] (by decide) rfl rfl hl.1 rfl (Nat.le_of_ble_eq_true rfl) dX9_type_12) [] [0, 1, 2] rfl rfl ⟨rfl, rfl, rfl, trivial⟩ [h0, h1, h2] rfl rfl 3 rfl (by decide +kernel) (fun H locs hw => ?_)
    refine lv_if_ne (tgt := 21) hx hb dX9_type_15 (by decide) (fun hc => ?_) (fun hc => ?_)
    · have hm := ineg hc hm
      refine lv_aload_n hx hb dX9_type_21 rfl (lv_at hl 0 rfl) ?_
      refine gGet C0 hw flX9_7 0 rfl rfl dX9_type_22 ?_
      refine lv_iload_n hx hb dX9_type_25 rfl (lv_at hl 1 rfl) ?_
      obtain ⟨hin, hm⟩ := gdE hm
      have hin := inbE hin
      refine gAldI C0 hw 1 rfl hin dX9_type_26 ?_
      refine lv_iload_n hx hb dX9_type_27 rfl (lv_at hl 1 rfl) ?_
      refine lv_if_ne (tgt := 36) hx hb dX9_type_28 (by decide) (fun hc => ?_) (fun hc => ?_)
      · have hm := ineg hc hm
        refine lv_bipush (v := 23) hx hb dX9_type_36 (by decide) ?_
        exact n_m_type_N38 C0  _ _ _ _ _ _ hm _ _ _ hw (lv_sub hl [0, 1, 2] rfl)
      · have hm := ipos hc hm
        refine lv_bipush (v := 44) hx hb dX9_type_31 (by decide) ?_
        refine lv_goto (tgt := 38) hx hb dX9_type_33 (by decide) ?_
        exact n_m_type_N38 C0  _ _ _ _ _ _ hm _ _ _ hw (lv_sub hl [0, 1, 2] rfl)
    · have hm := ipos hc hm
      refine lv_bipush (v := -2) hx hb dX9_type_18 (by decide) ?_
      have hm := Option.some.inj hm
      subst hm
      exact gRetI C0 hw dX9_type_20

-- WallHandsModel.wipe(I)I
abbrev W_m_wipe (g : gG) (h0 h1 h2 h3 h4 h5 h6 h7 h8 h9 h10 h11 h12 h13 h14 h15 h16 h17 h18 h19 h20 h21 h22 h23 h24 h25 h26 h27 h28 h29 h30 : Nat) (v_courses : Int32) (v_wide : Int32) (v_hands : Int32) (v_jumpTold : Int32) (v_frosts : Int32) (v_gaps : Int32) (v_frostsNow : Int32) (v_notFrosts : Int32) (v_gapsNow : Int32) (v_fell : Int32) (v_fellAll : Int32) (v_sheepFirst : Int32) (v_sheepMany : Int32) (v_seens : Int32) (v_finding : Int32) (v_typed : Nat → Int32) : va_W := [(h0, .inr (9, [.ref h1, .ref h2, .int v_courses, .int v_wide, .ref h3, .int v_hands, .ref h4, .ref h5, .int v_jumpTold, .int v_frosts, .ref h6, .ref h7, .int v_gaps, .ref h8, .ref h9, .ref h10, .ref h11, .int v_frostsNow, .ref h12, .ref h13, .int v_notFrosts, .int v_gapsNow, .ref h14, .int v_fell, .int v_fellAll, .ref h15, .ref h16, .ref h17, .ref h18, .ref h19, .ref h20, .ref h21, .int v_sheepFirst, .int v_sheepMany, .int v_seens, .ref h22, .ref h23, .ref h24, .ref h25, .ref h26, .ref h27, .ref h28, .ref h29, .ref h30, .int v_finding])), (h1, .inl (gI g, 2, .inl v_typed))]

abbrev rm_m_wipe : Room := { frames := 2, cells := 0, slots := 0, locals := 42 }

set_option maxHeartbeats 1000000 in
set_option maxRecDepth 100000 in
theorem c_m_wipe (l : Launch) (g : gG) (sz : Nat) (h0 h1 h2 h3 h4 h5 h6 h7 h8 h9 h10 h11 h12 h13 h14 h15 h16 h17 h18 h19 h20 h21 h22 h23 h24 h25 h26 h27 h28 h29 h30 : Nat) (v_courses : Int32) (v_wide : Int32) (v_hands : Int32) (v_jumpTold : Int32) (v_frosts : Int32) (v_gaps : Int32) (v_frostsNow : Int32) (v_notFrosts : Int32) (v_gapsNow : Int32) (v_fell : Int32) (v_fellAll : Int32) (v_sheepFirst : Int32) (v_sheepMany : Int32) (v_seens : Int32) (v_finding : Int32) (v_typed : Nat → Int32) (a0 : Int32) (r : (Int32 × (Nat → Int32))) (hm : f_m_wipe v_typed a0 = some r) : gMi l yX9_wipe cX9_wipe 3 (some .int) rm_m_wipe g sz [.ref h0, .int a0] (W_m_wipe g h0 h1 h2 h3 h4 h5 h6 h7 h8 h9 h10 h11 h12 h13 h14 h15 h16 h17 h18 h19 h20 h21 h22 h23 h24 h25 h26 h27 h28 h29 h30 v_courses v_wide v_hands v_jumpTold v_frosts v_gaps v_frostsNow v_notFrosts v_gapsNow v_fell v_fellAll v_sheepFirst v_sheepMany v_seens v_finding v_typed) r.1 (W_m_wipe g h0 h1 h2 h3 h4 h5 h6 h7 h8 h9 h10 h11 h12 h13 h14 h15 h16 h17 h18 h19 h20 h21 h22 h23 h24 h25 h26 h27 h28 h29 h30 v_courses v_wide v_hands v_jumpTold v_frosts v_gaps v_frostsNow v_notFrosts v_gapsNow v_fell v_fellAll v_sheepFirst v_sheepMany v_seens v_finding r.2) := by
  unfold f_m_wipe at hm
  refine gEnterI (by decide) (Nat.le_of_ble_eq_true rfl) (fun p e s m below meth c A C0 H locs hw ls hl => ?_)
  obtain ⟨hx, hb, hr, hml, hown, hts, hlocks, hK, hA⟩ := id C0
  have C0 : gX p s m [.ref h0, .int a0].toArray meth c cX9_wipe 3 (some .int) RX9 g A := C0
  have hl : lv_has ls 3 [(0, .ref h0), (1, .int a0)] := hl
  refine lv_iload_n hx hb dX9_wipe_0 rfl (lv_at hl 1 rfl) ?_
  obtain ⟨o1, ho1, hm⟩ := bindE hm
  refine gCalli (ws' := (W_m_wipe g h0 h1 h2 h3 h4 h5 h6 h7 h8 h9 h10 h11 h12 h13 h14 h15 h16 h17 h18 h19 h20 h21 h22 h23 h24 h25 h26 h27 h28 h29 h30 v_courses v_wide v_hands v_jumpTold v_frosts v_gaps v_frostsNow v_notFrosts v_gapsNow v_fell v_fellAll v_sheepFirst v_sheepMany v_seens v_finding v_typed)) C0 hw (gRunS (As := [.int a0]) (rest := []) C0 hw lkX9_115 (c_m_isText l g H.size  a0 o1 ho1) ⟨rfl, rfl⟩ ⟨Nat.le_of_ble_eq_true rfl, Nat.le_of_ble_eq_true rfl⟩ [] (by decide) rfl rfl hl.1 rfl (Nat.le_of_ble_eq_true rfl) dX9_wipe_1) [] [0, 1] rfl rfl ⟨rfl, rfl, trivial⟩ [h0, h1] rfl rfl 2 rfl (by decide +kernel) (fun H locs hw => ?_)
  refine lv_if_ne (tgt := 10) hx hb dX9_wipe_4 (by decide) (fun hc => ?_) (fun hc => ?_)
  · have hm := ineg hc hm
    refine lv_aload_n hx hb dX9_wipe_10 rfl (lv_at hl 0 rfl) ?_
    refine gGet C0 hw flX9_7 0 rfl rfl dX9_wipe_11 ?_
    refine lv_iload_n hx hb dX9_wipe_14 rfl (lv_at hl 1 rfl) ?_
    obtain ⟨hin, hm⟩ := gdE hm
    have hin := inbE hin
    refine gAldI C0 hw 1 rfl hin dX9_wipe_15 ?_
    refine lv_istore_n (lv' := [(2, .int (v_typed a0.toNatClampNeg)), (0, .ref h0), (1, .int a0)]) hx hb dX9_wipe_16 rfl hl (by decide) rfl (fun ls hl => ?_)
    refine lv_aload_n hx hb dX9_wipe_17 rfl (lv_at hl 1 rfl) ?_
    refine gGet C0 hw flX9_7 0 rfl rfl dX9_wipe_18 ?_
    refine lv_iload_n hx hb dX9_wipe_21 rfl (lv_at hl 2 rfl) ?_
    refine lv_iconst (v := 0) hx hb dX9_wipe_22 (by decide) ?_
    obtain ⟨hin, hm⟩ := gdE hm
    have hin := inbE hin
    refine gAstI (ws' := (W_m_wipe g h0 h1 h2 h3 h4 h5 h6 h7 h8 h9 h10 h11 h12 h13 h14 h15 h16 h17 h18 h19 h20 h21 h22 h23 h24 h25 h26 h27 h28 h29 h30 v_courses v_wide v_hands v_jumpTold v_frosts v_gaps v_frostsNow v_notFrosts v_gapsNow v_fell v_fellAll v_sheepFirst v_sheepMany v_seens v_finding (upd v_typed a0.toNatClampNeg (0 : Int32)))) C0 hw 1 rfl hin rfl dX9_wipe_23 (fun H locs hw => ?_)
    refine lv_iload_n hx hb dX9_wipe_24 rfl (lv_at hl 0 rfl) ?_
    have hm := Option.some.inj hm
    subst hm
    exact gRetI C0 hw dX9_wipe_25
  · have hm := ipos hc hm
    refine lv_bipush (v := -2) hx hb dX9_wipe_7 (by decide) ?_
    have hm := Option.some.inj hm
    subst hm
    exact gRetI C0 hw dX9_wipe_9

-- WallHandsModel.undo(I)I
abbrev W_m_undo (g : gG) (h0 h1 h2 h3 h4 h5 h6 h7 h8 h9 h10 h11 h12 h13 h14 h15 h16 h17 h18 h19 h20 h21 h22 h23 h24 h25 h26 h27 h28 h29 h30 : Nat) (v_courses : Int32) (v_wide : Int32) (v_hands : Int32) (v_jumpTold : Int32) (v_frosts : Int32) (v_gaps : Int32) (v_frostsNow : Int32) (v_notFrosts : Int32) (v_gapsNow : Int32) (v_fell : Int32) (v_fellAll : Int32) (v_sheepFirst : Int32) (v_sheepMany : Int32) (v_seens : Int32) (v_finding : Int32) (v_typed : Nat → Int32) : va_W := [(h0, .inr (9, [.ref h1, .ref h2, .int v_courses, .int v_wide, .ref h3, .int v_hands, .ref h4, .ref h5, .int v_jumpTold, .int v_frosts, .ref h6, .ref h7, .int v_gaps, .ref h8, .ref h9, .ref h10, .ref h11, .int v_frostsNow, .ref h12, .ref h13, .int v_notFrosts, .int v_gapsNow, .ref h14, .int v_fell, .int v_fellAll, .ref h15, .ref h16, .ref h17, .ref h18, .ref h19, .ref h20, .ref h21, .int v_sheepFirst, .int v_sheepMany, .int v_seens, .ref h22, .ref h23, .ref h24, .ref h25, .ref h26, .ref h27, .ref h28, .ref h29, .ref h30, .int v_finding])), (h1, .inl (gI g, 2, .inl v_typed))]

abbrev rm_m_undo : Room := { frames := 2, cells := 0, slots := 0, locals := 42 }

set_option maxHeartbeats 1000000 in
set_option maxRecDepth 100000 in
theorem c_m_undo (l : Launch) (g : gG) (sz : Nat) (h0 h1 h2 h3 h4 h5 h6 h7 h8 h9 h10 h11 h12 h13 h14 h15 h16 h17 h18 h19 h20 h21 h22 h23 h24 h25 h26 h27 h28 h29 h30 : Nat) (v_courses : Int32) (v_wide : Int32) (v_hands : Int32) (v_jumpTold : Int32) (v_frosts : Int32) (v_gaps : Int32) (v_frostsNow : Int32) (v_notFrosts : Int32) (v_gapsNow : Int32) (v_fell : Int32) (v_fellAll : Int32) (v_sheepFirst : Int32) (v_sheepMany : Int32) (v_seens : Int32) (v_finding : Int32) (v_typed : Nat → Int32) (a0 : Int32) (r : (Int32 × (Nat → Int32))) (hm : f_m_undo v_typed a0 = some r) : gMi l yX9_undo cX9_undo 2 (some .int) rm_m_undo g sz [.ref h0, .int a0] (W_m_undo g h0 h1 h2 h3 h4 h5 h6 h7 h8 h9 h10 h11 h12 h13 h14 h15 h16 h17 h18 h19 h20 h21 h22 h23 h24 h25 h26 h27 h28 h29 h30 v_courses v_wide v_hands v_jumpTold v_frosts v_gaps v_frostsNow v_notFrosts v_gapsNow v_fell v_fellAll v_sheepFirst v_sheepMany v_seens v_finding v_typed) r.1 (W_m_undo g h0 h1 h2 h3 h4 h5 h6 h7 h8 h9 h10 h11 h12 h13 h14 h15 h16 h17 h18 h19 h20 h21 h22 h23 h24 h25 h26 h27 h28 h29 h30 v_courses v_wide v_hands v_jumpTold v_frosts v_gaps v_frostsNow v_notFrosts v_gapsNow v_fell v_fellAll v_sheepFirst v_sheepMany v_seens v_finding r.2) := by
  unfold f_m_undo at hm
  refine gEnterI (by decide) (Nat.le_of_ble_eq_true rfl) (fun p e s m below meth c A C0 H locs hw ls hl => ?_)
  obtain ⟨hx, hb, hr, hml, hown, hts, hlocks, hK, hA⟩ := id C0
  have C0 : gX p s m [.ref h0, .int a0].toArray meth c cX9_undo 2 (some .int) RX9 g A := C0
  have hl : lv_has ls 2 [(0, .ref h0), (1, .int a0)] := hl
  refine lv_iload_n hx hb dX9_undo_0 rfl (lv_at hl 1 rfl) ?_
  obtain ⟨o1, ho1, hm⟩ := bindE hm
  refine gCalli (ws' := (W_m_undo g h0 h1 h2 h3 h4 h5 h6 h7 h8 h9 h10 h11 h12 h13 h14 h15 h16 h17 h18 h19 h20 h21 h22 h23 h24 h25 h26 h27 h28 h29 h30 v_courses v_wide v_hands v_jumpTold v_frosts v_gaps v_frostsNow v_notFrosts v_gapsNow v_fell v_fellAll v_sheepFirst v_sheepMany v_seens v_finding v_typed)) C0 hw (gRunS (As := [.int a0]) (rest := []) C0 hw lkX9_115 (c_m_isText l g H.size  a0 o1 ho1) ⟨rfl, rfl⟩ ⟨Nat.le_of_ble_eq_true rfl, Nat.le_of_ble_eq_true rfl⟩ [] (by decide) rfl rfl hl.1 rfl (Nat.le_of_ble_eq_true rfl) dX9_undo_1) [] [0, 1] rfl rfl ⟨rfl, rfl, trivial⟩ [h0, h1] rfl rfl 2 rfl (by decide +kernel) (fun H locs hw => ?_)
  refine lv_if_ne (tgt := 10) hx hb dX9_undo_4 (by decide) (fun hc => ?_) (fun hc => ?_)
  · have hm := ineg hc hm
    refine lv_aload_n hx hb dX9_undo_10 rfl (lv_at hl 0 rfl) ?_
    refine gGet C0 hw flX9_7 0 rfl rfl dX9_undo_11 ?_
    refine lv_iload_n hx hb dX9_undo_14 rfl (lv_at hl 1 rfl) ?_
    obtain ⟨hin, hm⟩ := gdE hm
    have hin := inbE hin
    refine gAldI C0 hw 1 rfl hin dX9_undo_15 ?_
    refine lv_if_ne (tgt := 22) hx hb dX9_undo_16 (by decide) (fun hc => ?_) (fun hc => ?_)
    · have hm := ineg hc hm
      refine lv_aload_n hx hb dX9_undo_22 rfl (lv_at hl 0 rfl) ?_
      refine gGet C0 hw flX9_7 0 rfl rfl dX9_undo_23 ?_
      refine lv_iload_n hx hb dX9_undo_26 rfl (lv_at hl 1 rfl) ?_
      refine lv_dup2_11 hx hb dX9_undo_27 rfl rfl ?_
      obtain ⟨hin, hm⟩ := gdE hm
      have hin := inbE hin
      refine gAldI C0 hw 1 rfl hin dX9_undo_28 ?_
      refine lv_iconst (v := 1) hx hb dX9_undo_29 (by decide) ?_
      refine lv_isub hx hb dX9_undo_30 ?_
      obtain ⟨hin, hm⟩ := gdE hm
      have hin := inbE hin
      refine gAstI (ws' := (W_m_undo g h0 h1 h2 h3 h4 h5 h6 h7 h8 h9 h10 h11 h12 h13 h14 h15 h16 h17 h18 h19 h20 h21 h22 h23 h24 h25 h26 h27 h28 h29 h30 v_courses v_wide v_hands v_jumpTold v_frosts v_gaps v_frostsNow v_notFrosts v_gapsNow v_fell v_fellAll v_sheepFirst v_sheepMany v_seens v_finding (upd v_typed a0.toNatClampNeg ((v_typed a0.toNatClampNeg) - (1 : Int32))))) C0 hw 1 rfl hin rfl dX9_undo_31 (fun H locs hw => ?_)
      refine lv_aload_n hx hb dX9_undo_32 rfl (lv_at hl 0 rfl) ?_
      refine gGet C0 hw flX9_7 0 rfl rfl dX9_undo_33 ?_
      refine lv_iload_n hx hb dX9_undo_36 rfl (lv_at hl 1 rfl) ?_
      obtain ⟨hin, hm⟩ := gdE hm
      have hin := inbE hin
      refine gAldI C0 hw 1 rfl hin dX9_undo_37 ?_
      have hm := Option.some.inj hm
      subst hm
      exact gRetI C0 hw dX9_undo_38
    · have hm := ipos hc hm
      refine lv_bipush (v := -3) hx hb dX9_undo_19 (by decide) ?_
      have hm := Option.some.inj hm
      subst hm
      exact gRetI C0 hw dX9_undo_21
  · have hm := ipos hc hm
    refine lv_bipush (v := -2) hx hb dX9_undo_7 (by decide) ?_
    have hm := Option.some.inj hm
    subst hm
    exact gRetI C0 hw dX9_undo_9

-- WallHandsModel.noWall()V
abbrev W_m_noWall (g : gG) (h0 h1 h2 h3 h4 h5 h6 h7 h8 h9 h10 h11 h12 h13 h14 h15 h16 h17 h18 h19 h20 h21 h22 h23 h24 h25 h26 h27 h28 h29 h30 : Nat) (v_courses : Int32) (v_wide : Int32) (v_hands : Int32) (v_jumpTold : Int32) (v_frosts : Int32) (v_gaps : Int32) (v_frostsNow : Int32) (v_notFrosts : Int32) (v_gapsNow : Int32) (v_fell : Int32) (v_fellAll : Int32) (v_sheepFirst : Int32) (v_sheepMany : Int32) (v_seens : Int32) (v_finding : Int32) (v_told : Nat → Int32) : va_W := [(h0, .inr (9, [.ref h2, .ref h3, .int v_courses, .int v_wide, .ref h1, .int v_hands, .ref h4, .ref h5, .int v_jumpTold, .int v_frosts, .ref h6, .ref h7, .int v_gaps, .ref h8, .ref h9, .ref h10, .ref h11, .int v_frostsNow, .ref h12, .ref h13, .int v_notFrosts, .int v_gapsNow, .ref h14, .int v_fell, .int v_fellAll, .ref h15, .ref h16, .ref h17, .ref h18, .ref h19, .ref h20, .ref h21, .int v_sheepFirst, .int v_sheepMany, .int v_seens, .ref h22, .ref h23, .ref h24, .ref h25, .ref h26, .ref h27, .ref h28, .ref h29, .ref h30, .int v_finding])), (h1, .inl (gI g, 48, .inl v_told))]

abbrev rm_m_noWall : Room := { frames := 0, cells := 0, slots := 0, locals := 0 }

set_option maxHeartbeats 1000000 in
set_option maxRecDepth 100000 in
theorem n_m_noWall_N12 {p : Program} {l : Launch} {e : Env} {s : State} {m : MethodId} {args : Array Value} {below : List Frame} {meth : Method} {c : Code} {A : Nat → Prop} {g : gG} {h0 h1 h2 h3 h4 h5 h6 h7 h8 h9 h10 h11 h12 h13 h14 h15 h16 h17 h18 h19 h20 h21 h22 h23 h24 h25 h26 h27 h28 h29 h30 : Nat} {v_hands : Int32} {v_jumpTold : Int32} {v_frosts : Int32} {v_gaps : Int32} {v_frostsNow : Int32} {v_notFrosts : Int32} {v_gapsNow : Int32} {v_fell : Int32} {v_fellAll : Int32} {v_sheepFirst : Int32} {v_sheepMany : Int32} {v_seens : Int32} {v_finding : Int32} {k12 : Int32 → Int32 → (Nat → Int32) → Int32 → Option (Int32 × Int32 × (Nat → Int32))} {r : (Int32 × Int32 × (Nat → Int32))} (C0 : gX p s m args meth c cX9_noWall 2 none RX9 g A) (hk12 : ∀ (v_courses : Int32) (v_wide : Int32) (v_told : Nat → Int32) (x1 : Int32), k12 v_courses v_wide v_told x1 = some r → ∀ (H : Heap) (locs : List Loc) (ls : Array Slot), gW g A s (W_m_noWall g h0 h1 h2 h3 h4 h5 h6 h7 h8 h9 h10 h11 h12 h13 h14 h15 h16 h17 h18 h19 h20 h21 h22 h23 h24 h25 h26 h27 h28 h29 h30 v_courses v_wide v_hands v_jumpTold v_frosts v_gaps v_frostsNow v_notFrosts v_gapsNow v_fell v_fellAll v_sheepFirst v_sheepMany v_seens v_finding v_told) H locs → lv_has ls 2 [(0, .ref h0), (1, .int x1)] → W p l e rm_m_noWall s m args below meth c H locs 0 0 (gQv below args s A g (W_m_noWall g h0 h1 h2 h3 h4 h5 h6 h7 h8 h9 h10 h11 h12 h13 h14 h15 h16 h17 h18 h19 h20 h21 h22 h23 h24 h25 h26 h27 h28 h29 h30 r.1 r.2.1 v_hands v_jumpTold v_frosts v_gaps v_frostsNow v_notFrosts v_gapsNow v_fell v_fellAll v_sheepFirst v_sheepMany v_seens v_finding r.2.2)) (F0 m 12 ls [])) : ∀ (v_courses : Int32) (v_wide : Int32) (v_told : Nat → Int32) (x1 : Int32), f_m_noWall_N12 k12 v_courses v_wide v_told x1 = some r → ∀ (H : Heap) (locs : List Loc) (ls : Array Slot), gW g A s (W_m_noWall g h0 h1 h2 h3 h4 h5 h6 h7 h8 h9 h10 h11 h12 h13 h14 h15 h16 h17 h18 h19 h20 h21 h22 h23 h24 h25 h26 h27 h28 h29 h30 v_courses v_wide v_hands v_jumpTold v_frosts v_gaps v_frostsNow v_notFrosts v_gapsNow v_fell v_fellAll v_sheepFirst v_sheepMany v_seens v_finding v_told) H locs → lv_has ls 2 [(0, .ref h0), (1, .int x1)] → W p l e rm_m_noWall s m args below meth c H locs 0 0 (gQv below args s A g (W_m_noWall g h0 h1 h2 h3 h4 h5 h6 h7 h8 h9 h10 h11 h12 h13 h14 h15 h16 h17 h18 h19 h20 h21 h22 h23 h24 h25 h26 h27 h28 h29 h30 r.1 r.2.1 v_hands v_jumpTold v_frosts v_gaps v_frostsNow v_notFrosts v_gapsNow v_fell v_fellAll v_sheepFirst v_sheepMany v_seens v_finding r.2.2)) (F0 m 12 ls []) := by
  intro v_courses v_wide v_told x1 hm H locs ls hw hl
  unfold f_m_noWall_N12 at hm
  obtain ⟨hx, hb, hr, hml, hown, hts, hlocks, hK, hA⟩ := id C0
  refine lv_iload_n hx hb dX9_noWall_12 rfl (lv_at hl 1 rfl) ?_
  refine lv_bipush (v := 48) hx hb dX9_noWall_13 (by decide) ?_
  refine lv_icmp_ge (tgt := 31) hx hb dX9_noWall_15 (by decide) (fun hc => ?_) (fun hc => ?_)
  · have hm := ipos hc hm
    have hm := Option.some.inj hm
    subst hm
    exact gRetV C0 hw dX9_noWall_31
  · have hm := ineg hc hm
    refine lv_aload_n hx hb dX9_noWall_18 rfl (lv_at hl 0 rfl) ?_
    refine gGet C0 hw flX9_16 0 rfl rfl dX9_noWall_19 ?_
    refine lv_iload_n hx hb dX9_noWall_22 rfl (lv_at hl 1 rfl) ?_
    refine lv_iconst (v := -1) hx hb dX9_noWall_23 (by decide) ?_
    obtain ⟨hin, hm⟩ := gdE hm
    have hin := inbE hin
    refine gAstI (ws' := (W_m_noWall g h0 h1 h2 h3 h4 h5 h6 h7 h8 h9 h10 h11 h12 h13 h14 h15 h16 h17 h18 h19 h20 h21 h22 h23 h24 h25 h26 h27 h28 h29 h30 v_courses v_wide v_hands v_jumpTold v_frosts v_gaps v_frostsNow v_notFrosts v_gapsNow v_fell v_fellAll v_sheepFirst v_sheepMany v_seens v_finding (upd v_told x1.toNatClampNeg (-1 : Int32)))) C0 hw 1 rfl hin rfl dX9_noWall_24 (fun H locs hw => ?_)
    refine lv_iinc (v := x1 + (1 : Int32)) (lv' := [(1, .int (x1 + (1 : Int32))), (0, .ref h0)]) hx hb dX9_noWall_25 hl (k := 1) rfl rfl (by decide) rfl (fun ls hl => ?_)
    refine lv_goto (tgt := 12) hx hb dX9_noWall_28 (by decide) ?_
    exact hk12 _ _ _ _ hm _ _ _ hw (lv_sub hl [1, 0] rfl)
set_option maxHeartbeats 1000000 in
set_option maxRecDepth 100000 in
theorem l_m_noWall_N12 {p : Program} {l : Launch} {e : Env} {s : State} {m : MethodId} {args : Array Value} {below : List Frame} {meth : Method} {c : Code} {A : Nat → Prop} {g : gG} {h0 h1 h2 h3 h4 h5 h6 h7 h8 h9 h10 h11 h12 h13 h14 h15 h16 h17 h18 h19 h20 h21 h22 h23 h24 h25 h26 h27 h28 h29 h30 : Nat} {v_hands : Int32} {v_jumpTold : Int32} {v_frosts : Int32} {v_gaps : Int32} {v_frostsNow : Int32} {v_notFrosts : Int32} {v_gapsNow : Int32} {v_fell : Int32} {v_fellAll : Int32} {v_sheepFirst : Int32} {v_sheepMany : Int32} {v_seens : Int32} {v_finding : Int32} {r : (Int32 × Int32 × (Nat → Int32))} (C0 : gX p s m args meth c cX9_noWall 2 none RX9 g A) : ∀ n : Nat, ∀ (v_courses : Int32) (v_wide : Int32) (v_told : Nat → Int32) (x1 : Int32), iter (fun _ _ _ _ => none) (f_m_noWall_N12) n v_courses v_wide v_told x1 = some r → ∀ (H : Heap) (locs : List Loc) (ls : Array Slot), gW g A s (W_m_noWall g h0 h1 h2 h3 h4 h5 h6 h7 h8 h9 h10 h11 h12 h13 h14 h15 h16 h17 h18 h19 h20 h21 h22 h23 h24 h25 h26 h27 h28 h29 h30 v_courses v_wide v_hands v_jumpTold v_frosts v_gaps v_frostsNow v_notFrosts v_gapsNow v_fell v_fellAll v_sheepFirst v_sheepMany v_seens v_finding v_told) H locs → lv_has ls 2 [(0, .ref h0), (1, .int x1)] → W p l e rm_m_noWall s m args below meth c H locs 0 0 (gQv below args s A g (W_m_noWall g h0 h1 h2 h3 h4 h5 h6 h7 h8 h9 h10 h11 h12 h13 h14 h15 h16 h17 h18 h19 h20 h21 h22 h23 h24 h25 h26 h27 h28 h29 h30 r.1 r.2.1 v_hands v_jumpTold v_frosts v_gaps v_frostsNow v_notFrosts v_gapsNow v_fell v_fellAll v_sheepFirst v_sheepMany v_seens v_finding r.2.2)) (F0 m 12 ls []) := by
  intro n
  induction n with
  | zero =>
    intro v_courses v_wide v_told x1 hm
    cases hm
  | succ n ih =>
    exact n_m_noWall_N12 C0  ih
set_option maxHeartbeats 1000000 in
set_option maxRecDepth 100000 in
theorem c_m_noWall (l : Launch) (g : gG) (sz : Nat) (h0 h1 h2 h3 h4 h5 h6 h7 h8 h9 h10 h11 h12 h13 h14 h15 h16 h17 h18 h19 h20 h21 h22 h23 h24 h25 h26 h27 h28 h29 h30 : Nat) (v_courses : Int32) (v_wide : Int32) (v_hands : Int32) (v_jumpTold : Int32) (v_frosts : Int32) (v_gaps : Int32) (v_frostsNow : Int32) (v_notFrosts : Int32) (v_gapsNow : Int32) (v_fell : Int32) (v_fellAll : Int32) (v_sheepFirst : Int32) (v_sheepMany : Int32) (v_seens : Int32) (v_finding : Int32) (v_told : Nat → Int32) (r : (Int32 × Int32 × (Nat → Int32))) (hm : f_m_noWall v_courses v_wide v_told = some r) : gMv l yX9_noWall cX9_noWall 2 none rm_m_noWall g sz [.ref h0] (W_m_noWall g h0 h1 h2 h3 h4 h5 h6 h7 h8 h9 h10 h11 h12 h13 h14 h15 h16 h17 h18 h19 h20 h21 h22 h23 h24 h25 h26 h27 h28 h29 h30 v_courses v_wide v_hands v_jumpTold v_frosts v_gaps v_frostsNow v_notFrosts v_gapsNow v_fell v_fellAll v_sheepFirst v_sheepMany v_seens v_finding v_told) (W_m_noWall g h0 h1 h2 h3 h4 h5 h6 h7 h8 h9 h10 h11 h12 h13 h14 h15 h16 h17 h18 h19 h20 h21 h22 h23 h24 h25 h26 h27 h28 h29 h30 r.1 r.2.1 v_hands v_jumpTold v_frosts v_gaps v_frostsNow v_notFrosts v_gapsNow v_fell v_fellAll v_sheepFirst v_sheepMany v_seens v_finding r.2.2) := by
  unfold f_m_noWall at hm
  refine gEnterV (by decide) (Nat.le_of_ble_eq_true rfl) (fun p e s m below meth c A C0 H locs hw ls hl => ?_)
  obtain ⟨hx, hb, hr, hml, hown, hts, hlocks, hK, hA⟩ := id C0
  have C0 : gX p s m [.ref h0].toArray meth c cX9_noWall 2 none RX9 g A := C0
  have hl : lv_has ls 2 [(0, .ref h0)] := hl
  refine lv_aload_n hx hb dX9_noWall_0 rfl (lv_at hl 0 rfl) ?_
  refine lv_iconst (v := 0) hx hb dX9_noWall_1 (by decide) ?_
  refine gPut (ws' := (W_m_noWall g h0 h1 h2 h3 h4 h5 h6 h7 h8 h9 h10 h11 h12 h13 h14 h15 h16 h17 h18 h19 h20 h21 h22 h23 h24 h25 h26 h27 h28 h29 h30 (0 : Int32) v_wide v_hands v_jumpTold v_frosts v_gaps v_frostsNow v_notFrosts v_gapsNow v_fell v_fellAll v_sheepFirst v_sheepMany v_seens v_finding v_told)) C0 hw fpX9_118 0 rfl rfl rfl (Nat.le_of_ble_eq_true rfl) rfl dX9_noWall_2 (fun H locs hw => ?_)
  refine lv_aload_n hx hb dX9_noWall_5 rfl (lv_at hl 0 rfl) ?_
  refine lv_iconst (v := 0) hx hb dX9_noWall_6 (by decide) ?_
  refine gPut (ws' := (W_m_noWall g h0 h1 h2 h3 h4 h5 h6 h7 h8 h9 h10 h11 h12 h13 h14 h15 h16 h17 h18 h19 h20 h21 h22 h23 h24 h25 h26 h27 h28 h29 h30 (0 : Int32) (0 : Int32) v_hands v_jumpTold v_frosts v_gaps v_frostsNow v_notFrosts v_gapsNow v_fell v_fellAll v_sheepFirst v_sheepMany v_seens v_finding v_told)) C0 hw fpX9_121 0 rfl rfl rfl (Nat.le_of_ble_eq_true rfl) rfl dX9_noWall_7 (fun H locs hw => ?_)
  refine lv_iconst (v := 0) hx hb dX9_noWall_10 (by decide) ?_
  refine lv_istore_n (lv' := [(1, .int (0 : Int32)), (0, .ref h0)]) hx hb dX9_noWall_11 rfl hl (by decide) rfl (fun ls hl => ?_)
  exact l_m_noWall_N12 C0  1000 _ _ _ _ hm _ _ _ hw (lv_sub hl [1, 0] rfl)

-- WallHandsModel.faultOfWall()I
abbrev W_m_faultOfWall (g : gG) (h0 h1 h2 h3 h4 h5 h6 h7 h8 h9 h10 h11 h12 h13 h14 h15 h16 h17 h18 h19 h20 h21 h22 h23 h24 h25 h26 h27 h28 h29 h30 : Nat) (v_courses : Int32) (v_wide : Int32) (v_hands : Int32) (v_jumpTold : Int32) (v_frosts : Int32) (v_gaps : Int32) (v_frostsNow : Int32) (v_notFrosts : Int32) (v_gapsNow : Int32) (v_fell : Int32) (v_fellAll : Int32) (v_sheepFirst : Int32) (v_sheepMany : Int32) (v_seens : Int32) (v_finding : Int32) (v_typed : Nat → Int32) (v_texts : Nat → Int32) (v_told : Nat → Int32) : va_W := [(h0, .inr (9, [.ref h1, .ref h2, .int v_courses, .int v_wide, .ref h3, .int v_hands, .ref h4, .ref h5, .int v_jumpTold, .int v_frosts, .ref h6, .ref h7, .int v_gaps, .ref h8, .ref h9, .ref h10, .ref h11, .int v_frostsNow, .ref h12, .ref h13, .int v_notFrosts, .int v_gapsNow, .ref h14, .int v_fell, .int v_fellAll, .ref h15, .ref h16, .ref h17, .ref h18, .ref h19, .ref h20, .ref h21, .int v_sheepFirst, .int v_sheepMany, .int v_seens, .ref h22, .ref h23, .ref h24, .ref h25, .ref h26, .ref h27, .ref h28, .ref h29, .ref h30, .int v_finding])), (h1, .inl (gI g, 2, .inl v_typed)), (h2, .inl (gI g, 88, .inl v_texts)), (h3, .inl (gI g, 48, .inl v_told))]

abbrev rm_m_faultOfWall : Room := { frames := 1, cells := 0, slots := 0, locals := 22 }

set_option maxHeartbeats 1000000 in
set_option maxRecDepth 100000 in
theorem n_m_faultOfWall_N226 {p : Program} {l : Launch} {e : Env} {s : State} {m : MethodId} {args : Array Value} {below : List Frame} {meth : Method} {c : Code} {A : Nat → Prop} {g : gG} {h0 h1 h2 h3 h4 h5 h6 h7 h8 h9 h10 h11 h12 h13 h14 h15 h16 h17 h18 h19 h20 h21 h22 h23 h24 h25 h26 h27 h28 h29 h30 : Nat} {v_hands : Int32} {v_jumpTold : Int32} {v_frosts : Int32} {v_gaps : Int32} {v_frostsNow : Int32} {v_notFrosts : Int32} {v_gapsNow : Int32} {v_fell : Int32} {v_fellAll : Int32} {v_sheepFirst : Int32} {v_sheepMany : Int32} {v_seens : Int32} {v_finding : Int32} {v_typed : Nat → Int32} {v_texts : Nat → Int32} {r : (Int32 × Int32 × Int32 × (Nat → Int32))} (C0 : gX p s m args meth c cX9_faultOfWall 9 (some .int) RX9 g A) : ∀ (v_courses : Int32) (v_wide : Int32) (v_told : Nat → Int32) (x2 : Int32) (y1 : Int32), f_m_faultOfWall_N226 v_typed v_texts v_courses v_wide v_told x2 y1 = some r → ∀ (H : Heap) (locs : List Loc) (ls : Array Slot), gW g A s (W_m_faultOfWall g h0 h1 h2 h3 h4 h5 h6 h7 h8 h9 h10 h11 h12 h13 h14 h15 h16 h17 h18 h19 h20 h21 h22 h23 h24 h25 h26 h27 h28 h29 h30 v_courses v_wide v_hands v_jumpTold v_frosts v_gaps v_frostsNow v_notFrosts v_gapsNow v_fell v_fellAll v_sheepFirst v_sheepMany v_seens v_finding v_typed v_texts v_told) H locs → lv_has ls 9 [(0, .ref h0), (2, .int x2)] → W p l e rm_m_faultOfWall s m args below meth c H locs 0 0 (gQi below args s A g r.1 (W_m_faultOfWall g h0 h1 h2 h3 h4 h5 h6 h7 h8 h9 h10 h11 h12 h13 h14 h15 h16 h17 h18 h19 h20 h21 h22 h23 h24 h25 h26 h27 h28 h29 h30 r.2.1 r.2.2.1 v_hands v_jumpTold v_frosts v_gaps v_frostsNow v_notFrosts v_gapsNow v_fell v_fellAll v_sheepFirst v_sheepMany v_seens v_finding v_typed v_texts r.2.2.2)) (F0 m 226 ls [.int y1, .ref h0]) := by
  intro v_courses v_wide v_told x2 y1 hm H locs ls hw hl
  unfold f_m_faultOfWall_N226 at hm
  obtain ⟨hx, hb, hr, hml, hown, hts, hlocks, hK, hA⟩ := id C0
  refine gPut (ws' := (W_m_faultOfWall g h0 h1 h2 h3 h4 h5 h6 h7 h8 h9 h10 h11 h12 h13 h14 h15 h16 h17 h18 h19 h20 h21 h22 h23 h24 h25 h26 h27 h28 h29 h30 y1 v_wide v_hands v_jumpTold v_frosts v_gaps v_frostsNow v_notFrosts v_gapsNow v_fell v_fellAll v_sheepFirst v_sheepMany v_seens v_finding v_typed v_texts v_told)) C0 hw fpX9_118 0 rfl rfl rfl (Nat.le_of_ble_eq_true rfl) rfl dX9_faultOfWall_226 (fun H locs hw => ?_)
  refine lv_aload_n hx hb dX9_faultOfWall_229 rfl (lv_at hl 0 rfl) ?_
  refine lv_aload_n hx hb dX9_faultOfWall_230 rfl (lv_at hl 0 rfl) ?_
  refine gGet C0 hw flX9_7 0 rfl rfl dX9_faultOfWall_231 ?_
  refine lv_iconst (v := 0) hx hb dX9_faultOfWall_234 (by decide) ?_
  obtain ⟨hin, hm⟩ := gdE hm
  have hin := inbE hin
  refine gAldI C0 hw 1 rfl hin dX9_faultOfWall_235 ?_
  refine lv_if_ne (tgt := 243) hx hb dX9_faultOfWall_236 (by decide) (fun hc => ?_) (fun hc => ?_)
  · have hm := ineg hc hm
    refine lv_iload_n hx hb dX9_faultOfWall_243 rfl (lv_at hl 1 rfl) ?_
    refine gPut (ws' := (W_m_faultOfWall g h0 h1 h2 h3 h4 h5 h6 h7 h8 h9 h10 h11 h12 h13 h14 h15 h16 h17 h18 h19 h20 h21 h22 h23 h24 h25 h26 h27 h28 h29 h30 y1 x2 v_hands v_jumpTold v_frosts v_gaps v_frostsNow v_notFrosts v_gapsNow v_fell v_fellAll v_sheepFirst v_sheepMany v_seens v_finding v_typed v_texts v_told)) C0 hw fpX9_121 0 rfl rfl rfl (Nat.le_of_ble_eq_true rfl) rfl dX9_faultOfWall_244 (fun H locs hw => ?_)
    refine lv_iconst (v := -1) hx hb dX9_faultOfWall_247 (by decide) ?_
    have hm := Option.some.inj hm
    subst hm
    exact gRetI C0 hw dX9_faultOfWall_248
  · have hm := ipos hc hm
    refine lv_iconst (v := 0) hx hb dX9_faultOfWall_239 (by decide) ?_
    refine lv_goto (tgt := 244) hx hb dX9_faultOfWall_240 (by decide) ?_
    refine gPut (ws' := (W_m_faultOfWall g h0 h1 h2 h3 h4 h5 h6 h7 h8 h9 h10 h11 h12 h13 h14 h15 h16 h17 h18 h19 h20 h21 h22 h23 h24 h25 h26 h27 h28 h29 h30 y1 (0 : Int32) v_hands v_jumpTold v_frosts v_gaps v_frostsNow v_notFrosts v_gapsNow v_fell v_fellAll v_sheepFirst v_sheepMany v_seens v_finding v_typed v_texts v_told)) C0 hw fpX9_121 0 rfl rfl rfl (Nat.le_of_ble_eq_true rfl) rfl dX9_faultOfWall_244 (fun H locs hw => ?_)
    refine lv_iconst (v := -1) hx hb dX9_faultOfWall_247 (by decide) ?_
    have hm := Option.some.inj hm
    subst hm
    exact gRetI C0 hw dX9_faultOfWall_248
set_option maxHeartbeats 1000000 in
set_option maxRecDepth 100000 in
theorem n_m_faultOfWall_N209 {p : Program} {l : Launch} {e : Env} {s : State} {m : MethodId} {args : Array Value} {below : List Frame} {meth : Method} {c : Code} {A : Nat → Prop} {g : gG} {h0 h1 h2 h3 h4 h5 h6 h7 h8 h9 h10 h11 h12 h13 h14 h15 h16 h17 h18 h19 h20 h21 h22 h23 h24 h25 h26 h27 h28 h29 h30 : Nat} {v_hands : Int32} {v_jumpTold : Int32} {v_frosts : Int32} {v_gaps : Int32} {v_frostsNow : Int32} {v_notFrosts : Int32} {v_gapsNow : Int32} {v_fell : Int32} {v_fellAll : Int32} {v_sheepFirst : Int32} {v_sheepMany : Int32} {v_seens : Int32} {v_finding : Int32} {v_typed : Nat → Int32} {v_texts : Nat → Int32} {r : (Int32 × Int32 × Int32 × (Nat → Int32))} (C0 : gX p s m args meth c cX9_faultOfWall 9 (some .int) RX9 g A) : ∀ (v_courses : Int32) (v_wide : Int32) (v_told : Nat → Int32) (x1 : Int32) (x2 : Int32), f_m_faultOfWall_N209 v_typed v_texts v_courses v_wide v_told x1 x2 = some r → ∀ (H : Heap) (locs : List Loc) (ls : Array Slot), gW g A s (W_m_faultOfWall g h0 h1 h2 h3 h4 h5 h6 h7 h8 h9 h10 h11 h12 h13 h14 h15 h16 h17 h18 h19 h20 h21 h22 h23 h24 h25 h26 h27 h28 h29 h30 v_courses v_wide v_hands v_jumpTold v_frosts v_gaps v_frostsNow v_notFrosts v_gapsNow v_fell v_fellAll v_sheepFirst v_sheepMany v_seens v_finding v_typed v_texts v_told) H locs → lv_has ls 9 [(0, .ref h0), (1, .int x1), (2, .int x2)] → W p l e rm_m_faultOfWall s m args below meth c H locs 0 0 (gQi below args s A g r.1 (W_m_faultOfWall g h0 h1 h2 h3 h4 h5 h6 h7 h8 h9 h10 h11 h12 h13 h14 h15 h16 h17 h18 h19 h20 h21 h22 h23 h24 h25 h26 h27 h28 h29 h30 r.2.1 r.2.2.1 v_hands v_jumpTold v_frosts v_gaps v_frostsNow v_notFrosts v_gapsNow v_fell v_fellAll v_sheepFirst v_sheepMany v_seens v_finding v_typed v_texts r.2.2.2)) (F0 m 209 ls []) := by
  intro v_courses v_wide v_told x1 x2 hm H locs ls hw hl
  unfold f_m_faultOfWall_N209 at hm
  obtain ⟨hx, hb, hr, hml, hown, hts, hlocks, hK, hA⟩ := id C0
  refine lv_aload_n hx hb dX9_faultOfWall_209 rfl (lv_at hl 0 rfl) ?_
  refine lv_aload_n hx hb dX9_faultOfWall_210 rfl (lv_at hl 0 rfl) ?_
  refine gGet C0 hw flX9_7 0 rfl rfl dX9_faultOfWall_211 ?_
  refine lv_iconst (v := 0) hx hb dX9_faultOfWall_214 (by decide) ?_
  obtain ⟨hin, hm⟩ := gdE hm
  have hin := inbE hin
  refine gAldI C0 hw 1 rfl hin dX9_faultOfWall_215 ?_
  refine lv_if_ne (tgt := 223) hx hb dX9_faultOfWall_216 (by decide) (fun hc => ?_) (fun hc => ?_)
  · have hm := ineg hc hm
    refine lv_iload_n hx hb dX9_faultOfWall_223 rfl (lv_at hl 1 rfl) ?_
    refine lv_iconst (v := 1) hx hb dX9_faultOfWall_224 (by decide) ?_
    refine lv_iadd hx hb dX9_faultOfWall_225 ?_
    exact n_m_faultOfWall_N226 C0  _ _ _ _ _ hm _ _ _ hw (lv_sub hl [0, 2] rfl)
  · have hm := ipos hc hm
    refine lv_iconst (v := 0) hx hb dX9_faultOfWall_219 (by decide) ?_
    refine lv_goto (tgt := 226) hx hb dX9_faultOfWall_220 (by decide) ?_
    exact n_m_faultOfWall_N226 C0  _ _ _ _ _ hm _ _ _ hw (lv_sub hl [0, 2] rfl)
set_option maxHeartbeats 1000000 in
set_option maxRecDepth 100000 in
theorem n_m_faultOfWall_N170 {p : Program} {l : Launch} {e : Env} {s : State} {m : MethodId} {args : Array Value} {below : List Frame} {meth : Method} {c : Code} {A : Nat → Prop} {g : gG} {h0 h1 h2 h3 h4 h5 h6 h7 h8 h9 h10 h11 h12 h13 h14 h15 h16 h17 h18 h19 h20 h21 h22 h23 h24 h25 h26 h27 h28 h29 h30 : Nat} {v_hands : Int32} {v_jumpTold : Int32} {v_frosts : Int32} {v_gaps : Int32} {v_frostsNow : Int32} {v_notFrosts : Int32} {v_gapsNow : Int32} {v_fell : Int32} {v_fellAll : Int32} {v_sheepFirst : Int32} {v_sheepMany : Int32} {v_seens : Int32} {v_finding : Int32} {v_typed : Nat → Int32} {v_texts : Nat → Int32} {k10 : Int32 → Int32 → (Nat → Int32) → Int32 → Int32 → Int32 → Int32 → Option (Int32 × Int32 × Int32 × (Nat → Int32))} {r : (Int32 × Int32 × Int32 × (Nat → Int32))} (C0 : gX p s m args meth c cX9_faultOfWall 9 (some .int) RX9 g A) (hk10 : ∀ (v_courses : Int32) (v_wide : Int32) (v_told : Nat → Int32) (x1 : Int32) (x2 : Int32) (x3 : Int32) (x4 : Int32), k10 v_courses v_wide v_told x1 x2 x3 x4 = some r → ∀ (H : Heap) (locs : List Loc) (ls : Array Slot), gW g A s (W_m_faultOfWall g h0 h1 h2 h3 h4 h5 h6 h7 h8 h9 h10 h11 h12 h13 h14 h15 h16 h17 h18 h19 h20 h21 h22 h23 h24 h25 h26 h27 h28 h29 h30 v_courses v_wide v_hands v_jumpTold v_frosts v_gaps v_frostsNow v_notFrosts v_gapsNow v_fell v_fellAll v_sheepFirst v_sheepMany v_seens v_finding v_typed v_texts v_told) H locs → lv_has ls 9 [(0, .ref h0), (1, .int x1), (2, .int x2), (3, .int x3), (4, .int x4)] → W p l e rm_m_faultOfWall s m args below meth c H locs 0 0 (gQi below args s A g r.1 (W_m_faultOfWall g h0 h1 h2 h3 h4 h5 h6 h7 h8 h9 h10 h11 h12 h13 h14 h15 h16 h17 h18 h19 h20 h21 h22 h23 h24 h25 h26 h27 h28 h29 h30 r.2.1 r.2.2.1 v_hands v_jumpTold v_frosts v_gaps v_frostsNow v_notFrosts v_gapsNow v_fell v_fellAll v_sheepFirst v_sheepMany v_seens v_finding v_typed v_texts r.2.2.2)) (F0 m 10 ls [])) : ∀ (v_courses : Int32) (v_wide : Int32) (v_told : Nat → Int32) (x1 : Int32) (x2 : Int32) (x3 : Int32) (x4 : Int32) (y1 : Int32) (y2 : Int32), f_m_faultOfWall_N170 v_typed v_texts k10 v_courses v_wide v_told x1 x2 x3 x4 y1 y2 = some r → ∀ (H : Heap) (locs : List Loc) (ls : Array Slot), gW g A s (W_m_faultOfWall g h0 h1 h2 h3 h4 h5 h6 h7 h8 h9 h10 h11 h12 h13 h14 h15 h16 h17 h18 h19 h20 h21 h22 h23 h24 h25 h26 h27 h28 h29 h30 v_courses v_wide v_hands v_jumpTold v_frosts v_gaps v_frostsNow v_notFrosts v_gapsNow v_fell v_fellAll v_sheepFirst v_sheepMany v_seens v_finding v_typed v_texts v_told) H locs → lv_has ls 9 [(0, .ref h0), (1, .int x1), (2, .int x2), (3, .int x3), (4, .int x4)] → W p l e rm_m_faultOfWall s m args below meth c H locs 0 0 (gQi below args s A g r.1 (W_m_faultOfWall g h0 h1 h2 h3 h4 h5 h6 h7 h8 h9 h10 h11 h12 h13 h14 h15 h16 h17 h18 h19 h20 h21 h22 h23 h24 h25 h26 h27 h28 h29 h30 r.2.1 r.2.2.1 v_hands v_jumpTold v_frosts v_gaps v_frostsNow v_notFrosts v_gapsNow v_fell v_fellAll v_sheepFirst v_sheepMany v_seens v_finding v_typed v_texts r.2.2.2)) (F0 m 170 ls [.int y2, .int y1, .ref h3]) := by
  intro v_courses v_wide v_told x1 x2 x3 x4 y1 y2 hm H locs ls hw hl
  unfold f_m_faultOfWall_N170 at hm
  obtain ⟨hx, hb, hr, hml, hown, hts, hlocks, hK, hA⟩ := id C0
  obtain ⟨hin, hm⟩ := gdE hm
  have hin := inbE hin
  refine gAstI (ws' := (W_m_faultOfWall g h0 h1 h2 h3 h4 h5 h6 h7 h8 h9 h10 h11 h12 h13 h14 h15 h16 h17 h18 h19 h20 h21 h22 h23 h24 h25 h26 h27 h28 h29 h30 v_courses v_wide v_hands v_jumpTold v_frosts v_gaps v_frostsNow v_notFrosts v_gapsNow v_fell v_fellAll v_sheepFirst v_sheepMany v_seens v_finding v_typed v_texts (upd v_told y1.toNatClampNeg y2))) C0 hw 3 rfl hin rfl dX9_faultOfWall_170 (fun H locs hw => ?_)
  refine lv_iinc (v := x2 + (1 : Int32)) (lv' := [(2, .int (x2 + (1 : Int32))), (0, .ref h0), (1, .int x1), (3, .int x3), (4, .int x4)]) hx hb dX9_faultOfWall_171 hl (k := 2) rfl rfl (by decide) rfl (fun ls hl => ?_)
  refine lv_iinc (v := x4 + (1 : Int32)) (lv' := [(4, .int (x4 + (1 : Int32))), (2, .int (x2 + (1 : Int32))), (0, .ref h0), (1, .int x1), (3, .int x3)]) hx hb dX9_faultOfWall_174 hl (k := 4) rfl rfl (by decide) rfl (fun ls hl => ?_)
  refine lv_goto (tgt := 10) hx hb dX9_faultOfWall_177 (by decide) ?_
  exact hk10 _ _ _ _ _ _ _ hm _ _ _ hw (lv_sub hl [2, 3, 1, 4, 0] rfl)
set_option maxHeartbeats 1000000 in
set_option maxRecDepth 100000 in
theorem n_m_faultOfWall_N135 {p : Program} {l : Launch} {e : Env} {s : State} {m : MethodId} {args : Array Value} {below : List Frame} {meth : Method} {c : Code} {A : Nat → Prop} {g : gG} {h0 h1 h2 h3 h4 h5 h6 h7 h8 h9 h10 h11 h12 h13 h14 h15 h16 h17 h18 h19 h20 h21 h22 h23 h24 h25 h26 h27 h28 h29 h30 : Nat} {v_hands : Int32} {v_jumpTold : Int32} {v_frosts : Int32} {v_gaps : Int32} {v_frostsNow : Int32} {v_notFrosts : Int32} {v_gapsNow : Int32} {v_fell : Int32} {v_fellAll : Int32} {v_sheepFirst : Int32} {v_sheepMany : Int32} {v_seens : Int32} {v_finding : Int32} {v_typed : Nat → Int32} {v_texts : Nat → Int32} {k10 : Int32 → Int32 → (Nat → Int32) → Int32 → Int32 → Int32 → Int32 → Option (Int32 × Int32 × Int32 × (Nat → Int32))} {r : (Int32 × Int32 × Int32 × (Nat → Int32))} (C0 : gX p s m args meth c cX9_faultOfWall 9 (some .int) RX9 g A) (hk10 : ∀ (v_courses : Int32) (v_wide : Int32) (v_told : Nat → Int32) (x1 : Int32) (x2 : Int32) (x3 : Int32) (x4 : Int32), k10 v_courses v_wide v_told x1 x2 x3 x4 = some r → ∀ (H : Heap) (locs : List Loc) (ls : Array Slot), gW g A s (W_m_faultOfWall g h0 h1 h2 h3 h4 h5 h6 h7 h8 h9 h10 h11 h12 h13 h14 h15 h16 h17 h18 h19 h20 h21 h22 h23 h24 h25 h26 h27 h28 h29 h30 v_courses v_wide v_hands v_jumpTold v_frosts v_gaps v_frostsNow v_notFrosts v_gapsNow v_fell v_fellAll v_sheepFirst v_sheepMany v_seens v_finding v_typed v_texts v_told) H locs → lv_has ls 9 [(0, .ref h0), (1, .int x1), (2, .int x2), (3, .int x3), (4, .int x4)] → W p l e rm_m_faultOfWall s m args below meth c H locs 0 0 (gQi below args s A g r.1 (W_m_faultOfWall g h0 h1 h2 h3 h4 h5 h6 h7 h8 h9 h10 h11 h12 h13 h14 h15 h16 h17 h18 h19 h20 h21 h22 h23 h24 h25 h26 h27 h28 h29 h30 r.2.1 r.2.2.1 v_hands v_jumpTold v_frosts v_gaps v_frostsNow v_notFrosts v_gapsNow v_fell v_fellAll v_sheepFirst v_sheepMany v_seens v_finding v_typed v_texts r.2.2.2)) (F0 m 10 ls [])) : ∀ (v_courses : Int32) (v_wide : Int32) (v_told : Nat → Int32) (x1 : Int32) (x4 : Int32) (y0 : Int32), f_m_faultOfWall_N135 v_typed v_texts k10 v_courses v_wide v_told x1 x4 y0 = some r → ∀ (H : Heap) (locs : List Loc) (ls : Array Slot), gW g A s (W_m_faultOfWall g h0 h1 h2 h3 h4 h5 h6 h7 h8 h9 h10 h11 h12 h13 h14 h15 h16 h17 h18 h19 h20 h21 h22 h23 h24 h25 h26 h27 h28 h29 h30 v_courses v_wide v_hands v_jumpTold v_frosts v_gaps v_frostsNow v_notFrosts v_gapsNow v_fell v_fellAll v_sheepFirst v_sheepMany v_seens v_finding v_typed v_texts v_told) H locs → lv_has ls 9 [(0, .ref h0), (1, .int x1), (4, .int x4)] → W p l e rm_m_faultOfWall s m args below meth c H locs 0 0 (gQi below args s A g r.1 (W_m_faultOfWall g h0 h1 h2 h3 h4 h5 h6 h7 h8 h9 h10 h11 h12 h13 h14 h15 h16 h17 h18 h19 h20 h21 h22 h23 h24 h25 h26 h27 h28 h29 h30 r.2.1 r.2.2.1 v_hands v_jumpTold v_frosts v_gaps v_frostsNow v_notFrosts v_gapsNow v_fell v_fellAll v_sheepFirst v_sheepMany v_seens v_finding v_typed v_texts r.2.2.2)) (F0 m 135 ls [.int y0]) := by
  intro v_courses v_wide v_told x1 x4 y0 hm H locs ls hw hl
  unfold f_m_faultOfWall_N135 at hm
  obtain ⟨hx, hb, hr, hml, hown, hts, hlocks, hK, hA⟩ := id C0
  refine lv_istore_n (lv' := [(3, .int y0), (0, .ref h0), (1, .int x1), (4, .int x4)]) hx hb dX9_faultOfWall_135 rfl hl (by decide) rfl (fun ls hl => ?_)
  refine lv_iinc (v := x1 + (1 : Int32)) (lv' := [(1, .int (x1 + (1 : Int32))), (3, .int y0), (0, .ref h0), (4, .int x4)]) hx hb dX9_faultOfWall_136 hl (k := 2) rfl rfl (by decide) rfl (fun ls hl => ?_)
  refine lv_iconst (v := 0) hx hb dX9_faultOfWall_139 (by decide) ?_
  refine lv_istore_n (lv' := [(2, .int (0 : Int32)), (1, .int (x1 + (1 : Int32))), (3, .int y0), (0, .ref h0), (4, .int x4)]) hx hb dX9_faultOfWall_140 rfl hl (by decide) rfl (fun ls hl => ?_)
  refine lv_goto (tgt := 174) hx hb dX9_faultOfWall_141 (by decide) ?_
  refine lv_iinc (v := x4 + (1 : Int32)) (lv' := [(4, .int (x4 + (1 : Int32))), (2, .int (0 : Int32)), (1, .int (x1 + (1 : Int32))), (3, .int y0), (0, .ref h0)]) hx hb dX9_faultOfWall_174 hl (k := 4) rfl rfl (by decide) rfl (fun ls hl => ?_)
  refine lv_goto (tgt := 10) hx hb dX9_faultOfWall_177 (by decide) ?_
  exact hk10 _ _ _ _ _ _ _ hm _ _ _ hw (lv_sub hl [4, 2, 1, 3, 0] rfl)
set_option maxHeartbeats 1000000 in
set_option maxRecDepth 100000 in
theorem n_m_faultOfWall_N121 {p : Program} {l : Launch} {e : Env} {s : State} {m : MethodId} {args : Array Value} {below : List Frame} {meth : Method} {c : Code} {A : Nat → Prop} {g : gG} {h0 h1 h2 h3 h4 h5 h6 h7 h8 h9 h10 h11 h12 h13 h14 h15 h16 h17 h18 h19 h20 h21 h22 h23 h24 h25 h26 h27 h28 h29 h30 : Nat} {v_hands : Int32} {v_jumpTold : Int32} {v_frosts : Int32} {v_gaps : Int32} {v_frostsNow : Int32} {v_notFrosts : Int32} {v_gapsNow : Int32} {v_fell : Int32} {v_fellAll : Int32} {v_sheepFirst : Int32} {v_sheepMany : Int32} {v_seens : Int32} {v_finding : Int32} {v_typed : Nat → Int32} {v_texts : Nat → Int32} {k10 : Int32 → Int32 → (Nat → Int32) → Int32 → Int32 → Int32 → Int32 → Option (Int32 × Int32 × Int32 × (Nat → Int32))} {r : (Int32 × Int32 × Int32 × (Nat → Int32))} (C0 : gX p s m args meth c cX9_faultOfWall 9 (some .int) RX9 g A) (hk10 : ∀ (v_courses : Int32) (v_wide : Int32) (v_told : Nat → Int32) (x1 : Int32) (x2 : Int32) (x3 : Int32) (x4 : Int32), k10 v_courses v_wide v_told x1 x2 x3 x4 = some r → ∀ (H : Heap) (locs : List Loc) (ls : Array Slot), gW g A s (W_m_faultOfWall g h0 h1 h2 h3 h4 h5 h6 h7 h8 h9 h10 h11 h12 h13 h14 h15 h16 h17 h18 h19 h20 h21 h22 h23 h24 h25 h26 h27 h28 h29 h30 v_courses v_wide v_hands v_jumpTold v_frosts v_gaps v_frostsNow v_notFrosts v_gapsNow v_fell v_fellAll v_sheepFirst v_sheepMany v_seens v_finding v_typed v_texts v_told) H locs → lv_has ls 9 [(0, .ref h0), (1, .int x1), (2, .int x2), (3, .int x3), (4, .int x4)] → W p l e rm_m_faultOfWall s m args below meth c H locs 0 0 (gQi below args s A g r.1 (W_m_faultOfWall g h0 h1 h2 h3 h4 h5 h6 h7 h8 h9 h10 h11 h12 h13 h14 h15 h16 h17 h18 h19 h20 h21 h22 h23 h24 h25 h26 h27 h28 h29 h30 r.2.1 r.2.2.1 v_hands v_jumpTold v_frosts v_gaps v_frostsNow v_notFrosts v_gapsNow v_fell v_fellAll v_sheepFirst v_sheepMany v_seens v_finding v_typed v_texts r.2.2.2)) (F0 m 10 ls [])) : ∀ (v_courses : Int32) (v_wide : Int32) (v_told : Nat → Int32) (x1 : Int32) (x2 : Int32) (x3 : Int32) (x4 : Int32) (x5 : Int32) (x6 : Int32), f_m_faultOfWall_N121 v_typed v_texts k10 v_courses v_wide v_told x1 x2 x3 x4 x5 x6 = some r → ∀ (H : Heap) (locs : List Loc) (ls : Array Slot), gW g A s (W_m_faultOfWall g h0 h1 h2 h3 h4 h5 h6 h7 h8 h9 h10 h11 h12 h13 h14 h15 h16 h17 h18 h19 h20 h21 h22 h23 h24 h25 h26 h27 h28 h29 h30 v_courses v_wide v_hands v_jumpTold v_frosts v_gaps v_frostsNow v_notFrosts v_gapsNow v_fell v_fellAll v_sheepFirst v_sheepMany v_seens v_finding v_typed v_texts v_told) H locs → lv_has ls 9 [(0, .ref h0), (1, .int x1), (2, .int x2), (3, .int x3), (4, .int x4), (5, .int x5), (6, .int x6)] → W p l e rm_m_faultOfWall s m args below meth c H locs 0 0 (gQi below args s A g r.1 (W_m_faultOfWall g h0 h1 h2 h3 h4 h5 h6 h7 h8 h9 h10 h11 h12 h13 h14 h15 h16 h17 h18 h19 h20 h21 h22 h23 h24 h25 h26 h27 h28 h29 h30 r.2.1 r.2.2.1 v_hands v_jumpTold v_frosts v_gaps v_frostsNow v_notFrosts v_gapsNow v_fell v_fellAll v_sheepFirst v_sheepMany v_seens v_finding v_typed v_texts r.2.2.2)) (F0 m 121 ls []) := by
  intro v_courses v_wide v_told x1 x2 x3 x4 x5 x6 hm H locs ls hw hl
  unfold f_m_faultOfWall_N121 at hm
  obtain ⟨hx, hb, hr, hml, hown, hts, hlocks, hK, hA⟩ := id C0
  refine lv_iload hx hb dX9_faultOfWall_121 (lv_at hl 6 rfl) ?_
  refine lv_if_eq (tgt := 144) hx hb dX9_faultOfWall_123 (by decide) (fun hc => ?_) (fun hc => ?_)
  · have hm := ipos hc hm
    refine lv_aload_n hx hb dX9_faultOfWall_144 rfl (lv_at hl 0 rfl) ?_
    refine gGet C0 hw flX9_16 0 rfl rfl dX9_faultOfWall_145 ?_
    refine lv_bipush (v := 8) hx hb dX9_faultOfWall_148 (by decide) ?_
    refine lv_iload_n hx hb dX9_faultOfWall_150 rfl (lv_at hl 1 rfl) ?_
    refine lv_imul hx hb dX9_faultOfWall_151 ?_
    refine lv_iload_n hx hb dX9_faultOfWall_152 rfl (lv_at hl 2 rfl) ?_
    refine lv_iadd hx hb dX9_faultOfWall_153 ?_
    refine lv_iload hx hb dX9_faultOfWall_154 (lv_at hl 5 rfl) ?_
    refine lv_bipush (v := 46) hx hb dX9_faultOfWall_156 (by decide) ?_
    refine lv_icmp_ne (tgt := 165) hx hb dX9_faultOfWall_158 (by decide) (fun hc => ?_) (fun hc => ?_)
    · have hm := ineg hc hm
      refine lv_iload hx hb dX9_faultOfWall_165 (lv_at hl 5 rfl) ?_
      refine lv_bipush (v := 97) hx hb dX9_faultOfWall_167 (by decide) ?_
      refine lv_isub hx hb dX9_faultOfWall_169 ?_
      exact n_m_faultOfWall_N170 C0 hk10 _ _ _ _ _ _ _ _ _ hm _ _ _ hw (lv_sub hl [0, 1, 2, 3, 4] rfl)
    · have hm := ipos hc hm
      refine lv_iconst (v := -1) hx hb dX9_faultOfWall_161 (by decide) ?_
      refine lv_goto (tgt := 170) hx hb dX9_faultOfWall_162 (by decide) ?_
      exact n_m_faultOfWall_N170 C0 hk10 _ _ _ _ _ _ _ _ _ hm _ _ _ hw (lv_sub hl [0, 1, 2, 3, 4] rfl)
  · have hm := ineg hc hm
    refine lv_iload_n hx hb dX9_faultOfWall_126 rfl (lv_at hl 1 rfl) ?_
    refine lv_if_ne (tgt := 134) hx hb dX9_faultOfWall_127 (by decide) (fun hc => ?_) (fun hc => ?_)
    · have hm := ineg hc hm
      refine lv_iload_n hx hb dX9_faultOfWall_134 rfl (lv_at hl 3 rfl) ?_
      exact n_m_faultOfWall_N135 C0 hk10 _ _ _ _ _ _ hm _ _ _ hw (lv_sub hl [0, 1, 4] rfl)
    · have hm := ipos hc hm
      refine lv_iload_n hx hb dX9_faultOfWall_130 rfl (lv_at hl 2 rfl) ?_
      refine lv_goto (tgt := 135) hx hb dX9_faultOfWall_131 (by decide) ?_
      exact n_m_faultOfWall_N135 C0 hk10 _ _ _ _ _ _ hm _ _ _ hw (lv_sub hl [0, 1, 4] rfl)
set_option maxHeartbeats 1000000 in
set_option maxRecDepth 100000 in
theorem n_m_faultOfWall_N88 {p : Program} {l : Launch} {e : Env} {s : State} {m : MethodId} {args : Array Value} {below : List Frame} {meth : Method} {c : Code} {A : Nat → Prop} {g : gG} {h0 h1 h2 h3 h4 h5 h6 h7 h8 h9 h10 h11 h12 h13 h14 h15 h16 h17 h18 h19 h20 h21 h22 h23 h24 h25 h26 h27 h28 h29 h30 : Nat} {v_hands : Int32} {v_jumpTold : Int32} {v_frosts : Int32} {v_gaps : Int32} {v_frostsNow : Int32} {v_notFrosts : Int32} {v_gapsNow : Int32} {v_fell : Int32} {v_fellAll : Int32} {v_sheepFirst : Int32} {v_sheepMany : Int32} {v_seens : Int32} {v_finding : Int32} {v_typed : Nat → Int32} {v_texts : Nat → Int32} {k10 : Int32 → Int32 → (Nat → Int32) → Int32 → Int32 → Int32 → Int32 → Option (Int32 × Int32 × Int32 × (Nat → Int32))} {r : (Int32 × Int32 × Int32 × (Nat → Int32))} (C0 : gX p s m args meth c cX9_faultOfWall 9 (some .int) RX9 g A) (hk10 : ∀ (v_courses : Int32) (v_wide : Int32) (v_told : Nat → Int32) (x1 : Int32) (x2 : Int32) (x3 : Int32) (x4 : Int32), k10 v_courses v_wide v_told x1 x2 x3 x4 = some r → ∀ (H : Heap) (locs : List Loc) (ls : Array Slot), gW g A s (W_m_faultOfWall g h0 h1 h2 h3 h4 h5 h6 h7 h8 h9 h10 h11 h12 h13 h14 h15 h16 h17 h18 h19 h20 h21 h22 h23 h24 h25 h26 h27 h28 h29 h30 v_courses v_wide v_hands v_jumpTold v_frosts v_gaps v_frostsNow v_notFrosts v_gapsNow v_fell v_fellAll v_sheepFirst v_sheepMany v_seens v_finding v_typed v_texts v_told) H locs → lv_has ls 9 [(0, .ref h0), (1, .int x1), (2, .int x2), (3, .int x3), (4, .int x4)] → W p l e rm_m_faultOfWall s m args below meth c H locs 0 0 (gQi below args s A g r.1 (W_m_faultOfWall g h0 h1 h2 h3 h4 h5 h6 h7 h8 h9 h10 h11 h12 h13 h14 h15 h16 h17 h18 h19 h20 h21 h22 h23 h24 h25 h26 h27 h28 h29 h30 r.2.1 r.2.2.1 v_hands v_jumpTold v_frosts v_gaps v_frostsNow v_notFrosts v_gapsNow v_fell v_fellAll v_sheepFirst v_sheepMany v_seens v_finding v_typed v_texts r.2.2.2)) (F0 m 10 ls [])) : ∀ (v_courses : Int32) (v_wide : Int32) (v_told : Nat → Int32) (x1 : Int32) (x2 : Int32) (x3 : Int32) (x4 : Int32) (x5 : Int32) (x6 : Int32) (x7 : Int32) (y0 : Int32), f_m_faultOfWall_N88 v_typed v_texts k10 v_courses v_wide v_told x1 x2 x3 x4 x5 x6 x7 y0 = some r → ∀ (H : Heap) (locs : List Loc) (ls : Array Slot), gW g A s (W_m_faultOfWall g h0 h1 h2 h3 h4 h5 h6 h7 h8 h9 h10 h11 h12 h13 h14 h15 h16 h17 h18 h19 h20 h21 h22 h23 h24 h25 h26 h27 h28 h29 h30 v_courses v_wide v_hands v_jumpTold v_frosts v_gaps v_frostsNow v_notFrosts v_gapsNow v_fell v_fellAll v_sheepFirst v_sheepMany v_seens v_finding v_typed v_texts v_told) H locs → lv_has ls 9 [(0, .ref h0), (1, .int x1), (2, .int x2), (3, .int x3), (4, .int x4), (5, .int x5), (6, .int x6), (7, .int x7)] → W p l e rm_m_faultOfWall s m args below meth c H locs 0 0 (gQi below args s A g r.1 (W_m_faultOfWall g h0 h1 h2 h3 h4 h5 h6 h7 h8 h9 h10 h11 h12 h13 h14 h15 h16 h17 h18 h19 h20 h21 h22 h23 h24 h25 h26 h27 h28 h29 h30 r.2.1 r.2.2.1 v_hands v_jumpTold v_frosts v_gaps v_frostsNow v_notFrosts v_gapsNow v_fell v_fellAll v_sheepFirst v_sheepMany v_seens v_finding v_typed v_texts r.2.2.2)) (F0 m 88 ls [.int y0]) := by
  intro v_courses v_wide v_told x1 x2 x3 x4 x5 x6 x7 y0 hm H locs ls hw hl
  unfold f_m_faultOfWall_N88 at hm
  obtain ⟨hx, hb, hr, hml, hown, hts, hlocks, hK, hA⟩ := id C0
  refine lv_istore (lv' := [(8, .int y0), (0, .ref h0), (1, .int x1), (2, .int x2), (3, .int x3), (4, .int x4), (5, .int x5), (6, .int x6), (7, .int x7)]) hx hb dX9_faultOfWall_88 hl (by decide) rfl (fun ls hl => ?_)
  refine lv_iload_n hx hb dX9_faultOfWall_90 rfl (lv_at hl 2 rfl) ?_
  refine lv_iconst (v := 5) hx hb dX9_faultOfWall_91 (by decide) ?_
  refine lv_icmp_eq (tgt := 118) hx hb dX9_faultOfWall_92 (by decide) (fun hc => ?_) (fun hc => ?_)
  · have hm := ipos hc hm
    refine lv_iload hx hb dX9_faultOfWall_118 (lv_at hl 5 rfl) ?_
    have hm := Option.some.inj hm
    subst hm
    exact gRetI C0 hw dX9_faultOfWall_120
  · have hm := ineg hc hm
    refine lv_iload hx hb dX9_faultOfWall_95 (lv_at hl 7 rfl) ?_
    refine lv_if_eq (tgt := 108) hx hb dX9_faultOfWall_97 (by decide) (fun hc => ?_) (fun hc => ?_)
    · have hm := ipos hc hm
      refine lv_iload hx hb dX9_faultOfWall_108 (lv_at hl 0 rfl) ?_
      refine lv_if_eq (tgt := 118) hx hb dX9_faultOfWall_110 (by decide) (fun hc => ?_) (fun hc => ?_)
      · have hm := ipos hc hm
        refine lv_iload hx hb dX9_faultOfWall_118 (lv_at hl 5 rfl) ?_
        have hm := Option.some.inj hm
        subst hm
        exact gRetI C0 hw dX9_faultOfWall_120
      · have hm := ineg hc hm
        refine lv_iload_n hx hb dX9_faultOfWall_113 rfl (lv_at hl 3 rfl) ?_
        refine lv_iload_n hx hb dX9_faultOfWall_114 rfl (lv_at hl 4 rfl) ?_
        refine lv_icmp_ne (tgt := 121) hx hb dX9_faultOfWall_115 (by decide) (fun hc => ?_) (fun hc => ?_)
        · have hm := ineg hc hm
          exact n_m_faultOfWall_N121 C0 hk10 _ _ _ _ _ _ _ _ _ hm _ _ _ hw (lv_sub hl [1, 2, 3, 4, 5, 6, 7] rfl)
        · have hm := ipos hc hm
          refine lv_iload hx hb dX9_faultOfWall_118 (lv_at hl 5 rfl) ?_
          have hm := Option.some.inj hm
          subst hm
          exact gRetI C0 hw dX9_faultOfWall_120
    · have hm := ineg hc hm
      refine lv_iload hx hb dX9_faultOfWall_100 (lv_at hl 8 rfl) ?_
      refine lv_if_eq (tgt := 121) hx hb dX9_faultOfWall_102 (by decide) (fun hc => ?_) (fun hc => ?_)
      · have hm := ipos hc hm
        exact n_m_faultOfWall_N121 C0 hk10 _ _ _ _ _ _ _ _ _ hm _ _ _ hw (lv_sub hl [1, 2, 3, 4, 5, 6, 7] rfl)
      · have hm := ineg hc hm
        refine lv_goto (tgt := 118) hx hb dX9_faultOfWall_105 (by decide) ?_
        refine lv_iload hx hb dX9_faultOfWall_118 (lv_at hl 5 rfl) ?_
        have hm := Option.some.inj hm
        subst hm
        exact gRetI C0 hw dX9_faultOfWall_120
set_option maxHeartbeats 1000000 in
set_option maxRecDepth 100000 in
theorem n_m_faultOfWall_N83 {p : Program} {l : Launch} {e : Env} {s : State} {m : MethodId} {args : Array Value} {below : List Frame} {meth : Method} {c : Code} {A : Nat → Prop} {g : gG} {h0 h1 h2 h3 h4 h5 h6 h7 h8 h9 h10 h11 h12 h13 h14 h15 h16 h17 h18 h19 h20 h21 h22 h23 h24 h25 h26 h27 h28 h29 h30 : Nat} {v_hands : Int32} {v_jumpTold : Int32} {v_frosts : Int32} {v_gaps : Int32} {v_frostsNow : Int32} {v_notFrosts : Int32} {v_gapsNow : Int32} {v_fell : Int32} {v_fellAll : Int32} {v_sheepFirst : Int32} {v_sheepMany : Int32} {v_seens : Int32} {v_finding : Int32} {v_typed : Nat → Int32} {v_texts : Nat → Int32} {k10 : Int32 → Int32 → (Nat → Int32) → Int32 → Int32 → Int32 → Int32 → Option (Int32 × Int32 × Int32 × (Nat → Int32))} {r : (Int32 × Int32 × Int32 × (Nat → Int32))} (C0 : gX p s m args meth c cX9_faultOfWall 9 (some .int) RX9 g A) (hk10 : ∀ (v_courses : Int32) (v_wide : Int32) (v_told : Nat → Int32) (x1 : Int32) (x2 : Int32) (x3 : Int32) (x4 : Int32), k10 v_courses v_wide v_told x1 x2 x3 x4 = some r → ∀ (H : Heap) (locs : List Loc) (ls : Array Slot), gW g A s (W_m_faultOfWall g h0 h1 h2 h3 h4 h5 h6 h7 h8 h9 h10 h11 h12 h13 h14 h15 h16 h17 h18 h19 h20 h21 h22 h23 h24 h25 h26 h27 h28 h29 h30 v_courses v_wide v_hands v_jumpTold v_frosts v_gaps v_frostsNow v_notFrosts v_gapsNow v_fell v_fellAll v_sheepFirst v_sheepMany v_seens v_finding v_typed v_texts v_told) H locs → lv_has ls 9 [(0, .ref h0), (1, .int x1), (2, .int x2), (3, .int x3), (4, .int x4)] → W p l e rm_m_faultOfWall s m args below meth c H locs 0 0 (gQi below args s A g r.1 (W_m_faultOfWall g h0 h1 h2 h3 h4 h5 h6 h7 h8 h9 h10 h11 h12 h13 h14 h15 h16 h17 h18 h19 h20 h21 h22 h23 h24 h25 h26 h27 h28 h29 h30 r.2.1 r.2.2.1 v_hands v_jumpTold v_frosts v_gaps v_frostsNow v_notFrosts v_gapsNow v_fell v_fellAll v_sheepFirst v_sheepMany v_seens v_finding v_typed v_texts r.2.2.2)) (F0 m 10 ls [])) : ∀ (v_courses : Int32) (v_wide : Int32) (v_told : Nat → Int32) (x1 : Int32) (x2 : Int32) (x3 : Int32) (x4 : Int32) (x5 : Int32) (x6 : Int32) (x7 : Int32), f_m_faultOfWall_N83 v_typed v_texts k10 v_courses v_wide v_told x1 x2 x3 x4 x5 x6 x7 = some r → ∀ (H : Heap) (locs : List Loc) (ls : Array Slot), gW g A s (W_m_faultOfWall g h0 h1 h2 h3 h4 h5 h6 h7 h8 h9 h10 h11 h12 h13 h14 h15 h16 h17 h18 h19 h20 h21 h22 h23 h24 h25 h26 h27 h28 h29 h30 v_courses v_wide v_hands v_jumpTold v_frosts v_gaps v_frostsNow v_notFrosts v_gapsNow v_fell v_fellAll v_sheepFirst v_sheepMany v_seens v_finding v_typed v_texts v_told) H locs → lv_has ls 9 [(0, .ref h0), (1, .int x1), (2, .int x2), (3, .int x3), (4, .int x4), (5, .int x5), (6, .int x6), (7, .int x7)] → W p l e rm_m_faultOfWall s m args below meth c H locs 0 0 (gQi below args s A g r.1 (W_m_faultOfWall g h0 h1 h2 h3 h4 h5 h6 h7 h8 h9 h10 h11 h12 h13 h14 h15 h16 h17 h18 h19 h20 h21 h22 h23 h24 h25 h26 h27 h28 h29 h30 r.2.1 r.2.2.1 v_hands v_jumpTold v_frosts v_gaps v_frostsNow v_notFrosts v_gapsNow v_fell v_fellAll v_sheepFirst v_sheepMany v_seens v_finding v_typed v_texts r.2.2.2)) (F0 m 83 ls []) := by
  intro v_courses v_wide v_told x1 x2 x3 x4 x5 x6 x7 hm H locs ls hw hl
  unfold f_m_faultOfWall_N83 at hm
  obtain ⟨hx, hb, hr, hml, hown, hts, hlocks, hK, hA⟩ := id C0
  refine lv_iconst (v := 1) hx hb dX9_faultOfWall_83 (by decide) ?_
  refine lv_goto (tgt := 88) hx hb dX9_faultOfWall_84 (by decide) ?_
  exact n_m_faultOfWall_N88 C0 hk10 _ _ _ _ _ _ _ _ _ _ _ hm _ _ _ hw (lv_sub hl [0, 1, 2, 3, 4, 5, 6, 7] rfl)
set_option maxHeartbeats 1000000 in
set_option maxRecDepth 100000 in
theorem n_m_faultOfWall_N62 {p : Program} {l : Launch} {e : Env} {s : State} {m : MethodId} {args : Array Value} {below : List Frame} {meth : Method} {c : Code} {A : Nat → Prop} {g : gG} {h0 h1 h2 h3 h4 h5 h6 h7 h8 h9 h10 h11 h12 h13 h14 h15 h16 h17 h18 h19 h20 h21 h22 h23 h24 h25 h26 h27 h28 h29 h30 : Nat} {v_hands : Int32} {v_jumpTold : Int32} {v_frosts : Int32} {v_gaps : Int32} {v_frostsNow : Int32} {v_notFrosts : Int32} {v_gapsNow : Int32} {v_fell : Int32} {v_fellAll : Int32} {v_sheepFirst : Int32} {v_sheepMany : Int32} {v_seens : Int32} {v_finding : Int32} {v_typed : Nat → Int32} {v_texts : Nat → Int32} {k10 : Int32 → Int32 → (Nat → Int32) → Int32 → Int32 → Int32 → Int32 → Option (Int32 × Int32 × Int32 × (Nat → Int32))} {r : (Int32 × Int32 × Int32 × (Nat → Int32))} (C0 : gX p s m args meth c cX9_faultOfWall 9 (some .int) RX9 g A) (hk10 : ∀ (v_courses : Int32) (v_wide : Int32) (v_told : Nat → Int32) (x1 : Int32) (x2 : Int32) (x3 : Int32) (x4 : Int32), k10 v_courses v_wide v_told x1 x2 x3 x4 = some r → ∀ (H : Heap) (locs : List Loc) (ls : Array Slot), gW g A s (W_m_faultOfWall g h0 h1 h2 h3 h4 h5 h6 h7 h8 h9 h10 h11 h12 h13 h14 h15 h16 h17 h18 h19 h20 h21 h22 h23 h24 h25 h26 h27 h28 h29 h30 v_courses v_wide v_hands v_jumpTold v_frosts v_gaps v_frostsNow v_notFrosts v_gapsNow v_fell v_fellAll v_sheepFirst v_sheepMany v_seens v_finding v_typed v_texts v_told) H locs → lv_has ls 9 [(0, .ref h0), (1, .int x1), (2, .int x2), (3, .int x3), (4, .int x4)] → W p l e rm_m_faultOfWall s m args below meth c H locs 0 0 (gQi below args s A g r.1 (W_m_faultOfWall g h0 h1 h2 h3 h4 h5 h6 h7 h8 h9 h10 h11 h12 h13 h14 h15 h16 h17 h18 h19 h20 h21 h22 h23 h24 h25 h26 h27 h28 h29 h30 r.2.1 r.2.2.1 v_hands v_jumpTold v_frosts v_gaps v_frostsNow v_notFrosts v_gapsNow v_fell v_fellAll v_sheepFirst v_sheepMany v_seens v_finding v_typed v_texts r.2.2.2)) (F0 m 10 ls [])) : ∀ (v_courses : Int32) (v_wide : Int32) (v_told : Nat → Int32) (x1 : Int32) (x2 : Int32) (x3 : Int32) (x4 : Int32) (x5 : Int32) (x6 : Int32) (y0 : Int32), f_m_faultOfWall_N62 v_typed v_texts k10 v_courses v_wide v_told x1 x2 x3 x4 x5 x6 y0 = some r → ∀ (H : Heap) (locs : List Loc) (ls : Array Slot), gW g A s (W_m_faultOfWall g h0 h1 h2 h3 h4 h5 h6 h7 h8 h9 h10 h11 h12 h13 h14 h15 h16 h17 h18 h19 h20 h21 h22 h23 h24 h25 h26 h27 h28 h29 h30 v_courses v_wide v_hands v_jumpTold v_frosts v_gaps v_frostsNow v_notFrosts v_gapsNow v_fell v_fellAll v_sheepFirst v_sheepMany v_seens v_finding v_typed v_texts v_told) H locs → lv_has ls 9 [(0, .ref h0), (1, .int x1), (2, .int x2), (3, .int x3), (4, .int x4), (5, .int x5), (6, .int x6)] → W p l e rm_m_faultOfWall s m args below meth c H locs 0 0 (gQi below args s A g r.1 (W_m_faultOfWall g h0 h1 h2 h3 h4 h5 h6 h7 h8 h9 h10 h11 h12 h13 h14 h15 h16 h17 h18 h19 h20 h21 h22 h23 h24 h25 h26 h27 h28 h29 h30 r.2.1 r.2.2.1 v_hands v_jumpTold v_frosts v_gaps v_frostsNow v_notFrosts v_gapsNow v_fell v_fellAll v_sheepFirst v_sheepMany v_seens v_finding v_typed v_texts r.2.2.2)) (F0 m 62 ls [.int y0]) := by
  intro v_courses v_wide v_told x1 x2 x3 x4 x5 x6 y0 hm H locs ls hw hl
  unfold f_m_faultOfWall_N62 at hm
  obtain ⟨hx, hb, hr, hml, hown, hts, hlocks, hK, hA⟩ := id C0
  refine lv_istore (lv' := [(7, .int y0), (0, .ref h0), (1, .int x1), (2, .int x2), (3, .int x3), (4, .int x4), (5, .int x5), (6, .int x6)]) hx hb dX9_faultOfWall_62 hl (by decide) rfl (fun ls hl => ?_)
  refine lv_iload hx hb dX9_faultOfWall_64 (lv_at hl 6 rfl) ?_
  refine lv_bipush (v := 46) hx hb dX9_faultOfWall_66 (by decide) ?_
  refine lv_icmp_eq (tgt := 83) hx hb dX9_faultOfWall_68 (by decide) (fun hc => ?_) (fun hc => ?_)
  · have hm := ipos hc hm
    exact n_m_faultOfWall_N83 C0 hk10 _ _ _ _ _ _ _ _ _ _ hm _ _ _ hw (lv_sub hl [1, 2, 3, 4, 5, 6, 7, 0] rfl)
  · have hm := ineg hc hm
    refine lv_iload hx hb dX9_faultOfWall_71 (lv_at hl 6 rfl) ?_
    refine lv_bipush (v := 97) hx hb dX9_faultOfWall_73 (by decide) ?_
    refine lv_bipush (v := 104) hx hb dX9_faultOfWall_75 (by decide) ?_
    obtain ⟨o77, ho77, hm⟩ := bindE hm
    refine gCalli (ws' := (W_m_faultOfWall g h0 h1 h2 h3 h4 h5 h6 h7 h8 h9 h10 h11 h12 h13 h14 h15 h16 h17 h18 h19 h20 h21 h22 h23 h24 h25 h26 h27 h28 h29 h30 v_courses v_wide v_hands v_jumpTold v_frosts v_gaps v_frostsNow v_notFrosts v_gapsNow v_fell v_fellAll v_sheepFirst v_sheepMany v_seens v_finding v_typed v_texts v_told)) C0 hw (gRunS (As := [.int x5, .int (97 : Int32), .int (104 : Int32)]) (rest := []) C0 hw lkX9_107 (c_m_in l g H.size  x5 (97 : Int32) (104 : Int32) o77 ho77) ⟨rfl, rfl⟩ ⟨Nat.le_of_ble_eq_true rfl, Nat.le_of_ble_eq_true rfl⟩ [] (by decide) rfl rfl hl.1 rfl (Nat.le_of_ble_eq_true rfl) dX9_faultOfWall_77) [] [0, 1, 2, 3] rfl rfl ⟨rfl, rfl, rfl, rfl, trivial⟩ [h0, h1, h2, h3] rfl rfl 4 rfl (by decide +kernel) (fun H locs hw => ?_)
    refine lv_if_eq (tgt := 87) hx hb dX9_faultOfWall_80 (by decide) (fun hc => ?_) (fun hc => ?_)
    · have hm := ipos hc hm
      refine lv_iconst (v := 0) hx hb dX9_faultOfWall_87 (by decide) ?_
      exact n_m_faultOfWall_N88 C0 hk10 _ _ _ _ _ _ _ _ _ _ _ hm _ _ _ hw (lv_sub hl [1, 2, 3, 4, 5, 6, 7, 0] rfl)
    · have hm := ineg hc hm
      exact n_m_faultOfWall_N83 C0 hk10 _ _ _ _ _ _ _ _ _ _ hm _ _ _ hw (lv_sub hl [1, 2, 3, 4, 5, 6, 7, 0] rfl)
set_option maxHeartbeats 1000000 in
set_option maxRecDepth 100000 in
theorem n_m_faultOfWall_N57 {p : Program} {l : Launch} {e : Env} {s : State} {m : MethodId} {args : Array Value} {below : List Frame} {meth : Method} {c : Code} {A : Nat → Prop} {g : gG} {h0 h1 h2 h3 h4 h5 h6 h7 h8 h9 h10 h11 h12 h13 h14 h15 h16 h17 h18 h19 h20 h21 h22 h23 h24 h25 h26 h27 h28 h29 h30 : Nat} {v_hands : Int32} {v_jumpTold : Int32} {v_frosts : Int32} {v_gaps : Int32} {v_frostsNow : Int32} {v_notFrosts : Int32} {v_gapsNow : Int32} {v_fell : Int32} {v_fellAll : Int32} {v_sheepFirst : Int32} {v_sheepMany : Int32} {v_seens : Int32} {v_finding : Int32} {v_typed : Nat → Int32} {v_texts : Nat → Int32} {k10 : Int32 → Int32 → (Nat → Int32) → Int32 → Int32 → Int32 → Int32 → Option (Int32 × Int32 × Int32 × (Nat → Int32))} {r : (Int32 × Int32 × Int32 × (Nat → Int32))} (C0 : gX p s m args meth c cX9_faultOfWall 9 (some .int) RX9 g A) (hk10 : ∀ (v_courses : Int32) (v_wide : Int32) (v_told : Nat → Int32) (x1 : Int32) (x2 : Int32) (x3 : Int32) (x4 : Int32), k10 v_courses v_wide v_told x1 x2 x3 x4 = some r → ∀ (H : Heap) (locs : List Loc) (ls : Array Slot), gW g A s (W_m_faultOfWall g h0 h1 h2 h3 h4 h5 h6 h7 h8 h9 h10 h11 h12 h13 h14 h15 h16 h17 h18 h19 h20 h21 h22 h23 h24 h25 h26 h27 h28 h29 h30 v_courses v_wide v_hands v_jumpTold v_frosts v_gaps v_frostsNow v_notFrosts v_gapsNow v_fell v_fellAll v_sheepFirst v_sheepMany v_seens v_finding v_typed v_texts v_told) H locs → lv_has ls 9 [(0, .ref h0), (1, .int x1), (2, .int x2), (3, .int x3), (4, .int x4)] → W p l e rm_m_faultOfWall s m args below meth c H locs 0 0 (gQi below args s A g r.1 (W_m_faultOfWall g h0 h1 h2 h3 h4 h5 h6 h7 h8 h9 h10 h11 h12 h13 h14 h15 h16 h17 h18 h19 h20 h21 h22 h23 h24 h25 h26 h27 h28 h29 h30 r.2.1 r.2.2.1 v_hands v_jumpTold v_frosts v_gaps v_frostsNow v_notFrosts v_gapsNow v_fell v_fellAll v_sheepFirst v_sheepMany v_seens v_finding v_typed v_texts r.2.2.2)) (F0 m 10 ls [])) : ∀ (v_courses : Int32) (v_wide : Int32) (v_told : Nat → Int32) (x1 : Int32) (x2 : Int32) (x3 : Int32) (x4 : Int32) (x5 : Int32) (x6 : Int32), f_m_faultOfWall_N57 v_typed v_texts k10 v_courses v_wide v_told x1 x2 x3 x4 x5 x6 = some r → ∀ (H : Heap) (locs : List Loc) (ls : Array Slot), gW g A s (W_m_faultOfWall g h0 h1 h2 h3 h4 h5 h6 h7 h8 h9 h10 h11 h12 h13 h14 h15 h16 h17 h18 h19 h20 h21 h22 h23 h24 h25 h26 h27 h28 h29 h30 v_courses v_wide v_hands v_jumpTold v_frosts v_gaps v_frostsNow v_notFrosts v_gapsNow v_fell v_fellAll v_sheepFirst v_sheepMany v_seens v_finding v_typed v_texts v_told) H locs → lv_has ls 9 [(0, .ref h0), (1, .int x1), (2, .int x2), (3, .int x3), (4, .int x4), (5, .int x5), (6, .int x6)] → W p l e rm_m_faultOfWall s m args below meth c H locs 0 0 (gQi below args s A g r.1 (W_m_faultOfWall g h0 h1 h2 h3 h4 h5 h6 h7 h8 h9 h10 h11 h12 h13 h14 h15 h16 h17 h18 h19 h20 h21 h22 h23 h24 h25 h26 h27 h28 h29 h30 r.2.1 r.2.2.1 v_hands v_jumpTold v_frosts v_gaps v_frostsNow v_notFrosts v_gapsNow v_fell v_fellAll v_sheepFirst v_sheepMany v_seens v_finding v_typed v_texts r.2.2.2)) (F0 m 57 ls []) := by
  intro v_courses v_wide v_told x1 x2 x3 x4 x5 x6 hm H locs ls hw hl
  unfold f_m_faultOfWall_N57 at hm
  obtain ⟨hx, hb, hr, hml, hown, hts, hlocks, hK, hA⟩ := id C0
  refine lv_iconst (v := 1) hx hb dX9_faultOfWall_57 (by decide) ?_
  refine lv_goto (tgt := 62) hx hb dX9_faultOfWall_58 (by decide) ?_
  exact n_m_faultOfWall_N62 C0 hk10 _ _ _ _ _ _ _ _ _ _ hm _ _ _ hw (lv_sub hl [0, 1, 2, 3, 4, 5, 6] rfl)
set_option maxHeartbeats 1000000 in
set_option maxRecDepth 100000 in
theorem n_m_faultOfWall_N61 {p : Program} {l : Launch} {e : Env} {s : State} {m : MethodId} {args : Array Value} {below : List Frame} {meth : Method} {c : Code} {A : Nat → Prop} {g : gG} {h0 h1 h2 h3 h4 h5 h6 h7 h8 h9 h10 h11 h12 h13 h14 h15 h16 h17 h18 h19 h20 h21 h22 h23 h24 h25 h26 h27 h28 h29 h30 : Nat} {v_hands : Int32} {v_jumpTold : Int32} {v_frosts : Int32} {v_gaps : Int32} {v_frostsNow : Int32} {v_notFrosts : Int32} {v_gapsNow : Int32} {v_fell : Int32} {v_fellAll : Int32} {v_sheepFirst : Int32} {v_sheepMany : Int32} {v_seens : Int32} {v_finding : Int32} {v_typed : Nat → Int32} {v_texts : Nat → Int32} {k10 : Int32 → Int32 → (Nat → Int32) → Int32 → Int32 → Int32 → Int32 → Option (Int32 × Int32 × Int32 × (Nat → Int32))} {r : (Int32 × Int32 × Int32 × (Nat → Int32))} (C0 : gX p s m args meth c cX9_faultOfWall 9 (some .int) RX9 g A) (hk10 : ∀ (v_courses : Int32) (v_wide : Int32) (v_told : Nat → Int32) (x1 : Int32) (x2 : Int32) (x3 : Int32) (x4 : Int32), k10 v_courses v_wide v_told x1 x2 x3 x4 = some r → ∀ (H : Heap) (locs : List Loc) (ls : Array Slot), gW g A s (W_m_faultOfWall g h0 h1 h2 h3 h4 h5 h6 h7 h8 h9 h10 h11 h12 h13 h14 h15 h16 h17 h18 h19 h20 h21 h22 h23 h24 h25 h26 h27 h28 h29 h30 v_courses v_wide v_hands v_jumpTold v_frosts v_gaps v_frostsNow v_notFrosts v_gapsNow v_fell v_fellAll v_sheepFirst v_sheepMany v_seens v_finding v_typed v_texts v_told) H locs → lv_has ls 9 [(0, .ref h0), (1, .int x1), (2, .int x2), (3, .int x3), (4, .int x4)] → W p l e rm_m_faultOfWall s m args below meth c H locs 0 0 (gQi below args s A g r.1 (W_m_faultOfWall g h0 h1 h2 h3 h4 h5 h6 h7 h8 h9 h10 h11 h12 h13 h14 h15 h16 h17 h18 h19 h20 h21 h22 h23 h24 h25 h26 h27 h28 h29 h30 r.2.1 r.2.2.1 v_hands v_jumpTold v_frosts v_gaps v_frostsNow v_notFrosts v_gapsNow v_fell v_fellAll v_sheepFirst v_sheepMany v_seens v_finding v_typed v_texts r.2.2.2)) (F0 m 10 ls [])) : ∀ (v_courses : Int32) (v_wide : Int32) (v_told : Nat → Int32) (x1 : Int32) (x2 : Int32) (x3 : Int32) (x4 : Int32) (x5 : Int32) (x6 : Int32), f_m_faultOfWall_N61 v_typed v_texts k10 v_courses v_wide v_told x1 x2 x3 x4 x5 x6 = some r → ∀ (H : Heap) (locs : List Loc) (ls : Array Slot), gW g A s (W_m_faultOfWall g h0 h1 h2 h3 h4 h5 h6 h7 h8 h9 h10 h11 h12 h13 h14 h15 h16 h17 h18 h19 h20 h21 h22 h23 h24 h25 h26 h27 h28 h29 h30 v_courses v_wide v_hands v_jumpTold v_frosts v_gaps v_frostsNow v_notFrosts v_gapsNow v_fell v_fellAll v_sheepFirst v_sheepMany v_seens v_finding v_typed v_texts v_told) H locs → lv_has ls 9 [(0, .ref h0), (1, .int x1), (2, .int x2), (3, .int x3), (4, .int x4), (5, .int x5), (6, .int x6)] → W p l e rm_m_faultOfWall s m args below meth c H locs 0 0 (gQi below args s A g r.1 (W_m_faultOfWall g h0 h1 h2 h3 h4 h5 h6 h7 h8 h9 h10 h11 h12 h13 h14 h15 h16 h17 h18 h19 h20 h21 h22 h23 h24 h25 h26 h27 h28 h29 h30 r.2.1 r.2.2.1 v_hands v_jumpTold v_frosts v_gaps v_frostsNow v_notFrosts v_gapsNow v_fell v_fellAll v_sheepFirst v_sheepMany v_seens v_finding v_typed v_texts r.2.2.2)) (F0 m 61 ls []) := by
  intro v_courses v_wide v_told x1 x2 x3 x4 x5 x6 hm H locs ls hw hl
  unfold f_m_faultOfWall_N61 at hm
  obtain ⟨hx, hb, hr, hml, hown, hts, hlocks, hK, hA⟩ := id C0
  refine lv_iconst (v := 0) hx hb dX9_faultOfWall_61 (by decide) ?_
  exact n_m_faultOfWall_N62 C0 hk10 _ _ _ _ _ _ _ _ _ _ hm _ _ _ hw (lv_sub hl [0, 1, 2, 3, 4, 5, 6] rfl)
set_option maxHeartbeats 1000000 in
set_option maxRecDepth 100000 in
theorem n_m_faultOfWall_N42 {p : Program} {l : Launch} {e : Env} {s : State} {m : MethodId} {args : Array Value} {below : List Frame} {meth : Method} {c : Code} {A : Nat → Prop} {g : gG} {h0 h1 h2 h3 h4 h5 h6 h7 h8 h9 h10 h11 h12 h13 h14 h15 h16 h17 h18 h19 h20 h21 h22 h23 h24 h25 h26 h27 h28 h29 h30 : Nat} {v_hands : Int32} {v_jumpTold : Int32} {v_frosts : Int32} {v_gaps : Int32} {v_frostsNow : Int32} {v_notFrosts : Int32} {v_gapsNow : Int32} {v_fell : Int32} {v_fellAll : Int32} {v_sheepFirst : Int32} {v_sheepMany : Int32} {v_seens : Int32} {v_finding : Int32} {v_typed : Nat → Int32} {v_texts : Nat → Int32} {k10 : Int32 → Int32 → (Nat → Int32) → Int32 → Int32 → Int32 → Int32 → Option (Int32 × Int32 × Int32 × (Nat → Int32))} {r : (Int32 × Int32 × Int32 × (Nat → Int32))} (C0 : gX p s m args meth c cX9_faultOfWall 9 (some .int) RX9 g A) (hk10 : ∀ (v_courses : Int32) (v_wide : Int32) (v_told : Nat → Int32) (x1 : Int32) (x2 : Int32) (x3 : Int32) (x4 : Int32), k10 v_courses v_wide v_told x1 x2 x3 x4 = some r → ∀ (H : Heap) (locs : List Loc) (ls : Array Slot), gW g A s (W_m_faultOfWall g h0 h1 h2 h3 h4 h5 h6 h7 h8 h9 h10 h11 h12 h13 h14 h15 h16 h17 h18 h19 h20 h21 h22 h23 h24 h25 h26 h27 h28 h29 h30 v_courses v_wide v_hands v_jumpTold v_frosts v_gaps v_frostsNow v_notFrosts v_gapsNow v_fell v_fellAll v_sheepFirst v_sheepMany v_seens v_finding v_typed v_texts v_told) H locs → lv_has ls 9 [(0, .ref h0), (1, .int x1), (2, .int x2), (3, .int x3), (4, .int x4)] → W p l e rm_m_faultOfWall s m args below meth c H locs 0 0 (gQi below args s A g r.1 (W_m_faultOfWall g h0 h1 h2 h3 h4 h5 h6 h7 h8 h9 h10 h11 h12 h13 h14 h15 h16 h17 h18 h19 h20 h21 h22 h23 h24 h25 h26 h27 h28 h29 h30 r.2.1 r.2.2.1 v_hands v_jumpTold v_frosts v_gaps v_frostsNow v_notFrosts v_gapsNow v_fell v_fellAll v_sheepFirst v_sheepMany v_seens v_finding v_typed v_texts r.2.2.2)) (F0 m 10 ls [])) : ∀ (v_courses : Int32) (v_wide : Int32) (v_told : Nat → Int32) (x1 : Int32) (x2 : Int32) (x3 : Int32) (x4 : Int32) (x5 : Int32) (y0 : Int32), f_m_faultOfWall_N42 v_typed v_texts k10 v_courses v_wide v_told x1 x2 x3 x4 x5 y0 = some r → ∀ (H : Heap) (locs : List Loc) (ls : Array Slot), gW g A s (W_m_faultOfWall g h0 h1 h2 h3 h4 h5 h6 h7 h8 h9 h10 h11 h12 h13 h14 h15 h16 h17 h18 h19 h20 h21 h22 h23 h24 h25 h26 h27 h28 h29 h30 v_courses v_wide v_hands v_jumpTold v_frosts v_gaps v_frostsNow v_notFrosts v_gapsNow v_fell v_fellAll v_sheepFirst v_sheepMany v_seens v_finding v_typed v_texts v_told) H locs → lv_has ls 9 [(0, .ref h0), (1, .int x1), (2, .int x2), (3, .int x3), (4, .int x4), (5, .int x5)] → W p l e rm_m_faultOfWall s m args below meth c H locs 0 0 (gQi below args s A g r.1 (W_m_faultOfWall g h0 h1 h2 h3 h4 h5 h6 h7 h8 h9 h10 h11 h12 h13 h14 h15 h16 h17 h18 h19 h20 h21 h22 h23 h24 h25 h26 h27 h28 h29 h30 r.2.1 r.2.2.1 v_hands v_jumpTold v_frosts v_gaps v_frostsNow v_notFrosts v_gapsNow v_fell v_fellAll v_sheepFirst v_sheepMany v_seens v_finding v_typed v_texts r.2.2.2)) (F0 m 42 ls [.int y0]) := by
  intro v_courses v_wide v_told x1 x2 x3 x4 x5 y0 hm H locs ls hw hl
  unfold f_m_faultOfWall_N42 at hm
  obtain ⟨hx, hb, hr, hml, hown, hts, hlocks, hK, hA⟩ := id C0
  refine lv_istore (lv' := [(6, .int y0), (0, .ref h0), (1, .int x1), (2, .int x2), (3, .int x3), (4, .int x4), (5, .int x5)]) hx hb dX9_faultOfWall_42 hl (by decide) rfl (fun ls hl => ?_)
  refine lv_iload_n hx hb dX9_faultOfWall_44 rfl (lv_at hl 3 rfl) ?_
  refine lv_if_eq (tgt := 57) hx hb dX9_faultOfWall_45 (by decide) (fun hc => ?_) (fun hc => ?_)
  · have hm := ipos hc hm
    exact n_m_faultOfWall_N57 C0 hk10 _ _ _ _ _ _ _ _ _ hm _ _ _ hw (lv_sub hl [1, 2, 3, 4, 5, 6, 0] rfl)
  · have hm := ineg hc hm
    refine lv_iload_n hx hb dX9_faultOfWall_48 rfl (lv_at hl 2 rfl) ?_
    refine lv_if_le (tgt := 61) hx hb dX9_faultOfWall_49 (by decide) (fun hc => ?_) (fun hc => ?_)
    · have hm := ipos hc hm
      exact n_m_faultOfWall_N61 C0 hk10 _ _ _ _ _ _ _ _ _ hm _ _ _ hw (lv_sub hl [1, 2, 3, 4, 5, 6, 0] rfl)
    · have hm := ineg hc hm
      refine lv_iload_n hx hb dX9_faultOfWall_52 rfl (lv_at hl 3 rfl) ?_
      refine lv_iload_n hx hb dX9_faultOfWall_53 rfl (lv_at hl 4 rfl) ?_
      refine lv_icmp_ge (tgt := 61) hx hb dX9_faultOfWall_54 (by decide) (fun hc => ?_) (fun hc => ?_)
      · have hm := ipos hc hm
        exact n_m_faultOfWall_N61 C0 hk10 _ _ _ _ _ _ _ _ _ hm _ _ _ hw (lv_sub hl [1, 2, 3, 4, 5, 6, 0] rfl)
      · have hm := ineg hc hm
        exact n_m_faultOfWall_N57 C0 hk10 _ _ _ _ _ _ _ _ _ hm _ _ _ hw (lv_sub hl [1, 2, 3, 4, 5, 6, 0] rfl)
set_option maxHeartbeats 1000000 in
set_option maxRecDepth 100000 in
theorem n_m_faultOfWall_N10 {p : Program} {l : Launch} {e : Env} {s : State} {m : MethodId} {args : Array Value} {below : List Frame} {meth : Method} {c : Code} {A : Nat → Prop} {g : gG} {h0 h1 h2 h3 h4 h5 h6 h7 h8 h9 h10 h11 h12 h13 h14 h15 h16 h17 h18 h19 h20 h21 h22 h23 h24 h25 h26 h27 h28 h29 h30 : Nat} {v_hands : Int32} {v_jumpTold : Int32} {v_frosts : Int32} {v_gaps : Int32} {v_frostsNow : Int32} {v_notFrosts : Int32} {v_gapsNow : Int32} {v_fell : Int32} {v_fellAll : Int32} {v_sheepFirst : Int32} {v_sheepMany : Int32} {v_seens : Int32} {v_finding : Int32} {v_typed : Nat → Int32} {v_texts : Nat → Int32} {k10 : Int32 → Int32 → (Nat → Int32) → Int32 → Int32 → Int32 → Int32 → Option (Int32 × Int32 × Int32 × (Nat → Int32))} {r : (Int32 × Int32 × Int32 × (Nat → Int32))} (C0 : gX p s m args meth c cX9_faultOfWall 9 (some .int) RX9 g A) (hk10 : ∀ (v_courses : Int32) (v_wide : Int32) (v_told : Nat → Int32) (x1 : Int32) (x2 : Int32) (x3 : Int32) (x4 : Int32), k10 v_courses v_wide v_told x1 x2 x3 x4 = some r → ∀ (H : Heap) (locs : List Loc) (ls : Array Slot), gW g A s (W_m_faultOfWall g h0 h1 h2 h3 h4 h5 h6 h7 h8 h9 h10 h11 h12 h13 h14 h15 h16 h17 h18 h19 h20 h21 h22 h23 h24 h25 h26 h27 h28 h29 h30 v_courses v_wide v_hands v_jumpTold v_frosts v_gaps v_frostsNow v_notFrosts v_gapsNow v_fell v_fellAll v_sheepFirst v_sheepMany v_seens v_finding v_typed v_texts v_told) H locs → lv_has ls 9 [(0, .ref h0), (1, .int x1), (2, .int x2), (3, .int x3), (4, .int x4)] → W p l e rm_m_faultOfWall s m args below meth c H locs 0 0 (gQi below args s A g r.1 (W_m_faultOfWall g h0 h1 h2 h3 h4 h5 h6 h7 h8 h9 h10 h11 h12 h13 h14 h15 h16 h17 h18 h19 h20 h21 h22 h23 h24 h25 h26 h27 h28 h29 h30 r.2.1 r.2.2.1 v_hands v_jumpTold v_frosts v_gaps v_frostsNow v_notFrosts v_gapsNow v_fell v_fellAll v_sheepFirst v_sheepMany v_seens v_finding v_typed v_texts r.2.2.2)) (F0 m 10 ls [])) : ∀ (v_courses : Int32) (v_wide : Int32) (v_told : Nat → Int32) (x1 : Int32) (x2 : Int32) (x3 : Int32) (x4 : Int32), f_m_faultOfWall_N10 v_typed v_texts k10 v_courses v_wide v_told x1 x2 x3 x4 = some r → ∀ (H : Heap) (locs : List Loc) (ls : Array Slot), gW g A s (W_m_faultOfWall g h0 h1 h2 h3 h4 h5 h6 h7 h8 h9 h10 h11 h12 h13 h14 h15 h16 h17 h18 h19 h20 h21 h22 h23 h24 h25 h26 h27 h28 h29 h30 v_courses v_wide v_hands v_jumpTold v_frosts v_gaps v_frostsNow v_notFrosts v_gapsNow v_fell v_fellAll v_sheepFirst v_sheepMany v_seens v_finding v_typed v_texts v_told) H locs → lv_has ls 9 [(0, .ref h0), (1, .int x1), (2, .int x2), (3, .int x3), (4, .int x4)] → W p l e rm_m_faultOfWall s m args below meth c H locs 0 0 (gQi below args s A g r.1 (W_m_faultOfWall g h0 h1 h2 h3 h4 h5 h6 h7 h8 h9 h10 h11 h12 h13 h14 h15 h16 h17 h18 h19 h20 h21 h22 h23 h24 h25 h26 h27 h28 h29 h30 r.2.1 r.2.2.1 v_hands v_jumpTold v_frosts v_gaps v_frostsNow v_notFrosts v_gapsNow v_fell v_fellAll v_sheepFirst v_sheepMany v_seens v_finding v_typed v_texts r.2.2.2)) (F0 m 10 ls []) := by
  intro v_courses v_wide v_told x1 x2 x3 x4 hm H locs ls hw hl
  unfold f_m_faultOfWall_N10 at hm
  obtain ⟨hx, hb, hr, hml, hown, hts, hlocks, hK, hA⟩ := id C0
  refine lv_iload hx hb dX9_faultOfWall_10 (lv_at hl 4 rfl) ?_
  refine lv_aload_n hx hb dX9_faultOfWall_12 rfl (lv_at hl 0 rfl) ?_
  refine gGet C0 hw flX9_7 0 rfl rfl dX9_faultOfWall_13 ?_
  refine lv_iconst (v := 0) hx hb dX9_faultOfWall_16 (by decide) ?_
  obtain ⟨hin, hm⟩ := gdE hm
  have hin := inbE hin
  refine gAldI C0 hw 1 rfl hin dX9_faultOfWall_17 ?_
  refine lv_icmp_ge (tgt := 180) hx hb dX9_faultOfWall_18 (by decide) (fun hc => ?_) (fun hc => ?_)
  · have hm := ipos hc hm
    refine lv_aload_n hx hb dX9_faultOfWall_180 rfl (lv_at hl 0 rfl) ?_
    refine gGet C0 hw flX9_7 0 rfl rfl dX9_faultOfWall_181 ?_
    refine lv_iconst (v := 0) hx hb dX9_faultOfWall_184 (by decide) ?_
    obtain ⟨hin, hm⟩ := gdE hm
    have hin := inbE hin
    refine gAldI C0 hw 1 rfl hin dX9_faultOfWall_185 ?_
    refine lv_if_le (tgt := 209) hx hb dX9_faultOfWall_186 (by decide) (fun hc => ?_) (fun hc => ?_)
    · have hm := ipos hc hm
      exact n_m_faultOfWall_N209 C0  _ _ _ _ _ hm _ _ _ hw (lv_sub hl [0, 1, 2] rfl)
    · have hm := ineg hc hm
      refine lv_iload_n hx hb dX9_faultOfWall_189 rfl (lv_at hl 2 rfl) ?_
      refine lv_if_eq (tgt := 202) hx hb dX9_faultOfWall_190 (by decide) (fun hc => ?_) (fun hc => ?_)
      · have hm := ipos hc hm
        refine lv_aload_n hx hb dX9_faultOfWall_202 rfl (lv_at hl 0 rfl) ?_
        refine gGet C0 hw flX9_7 0 rfl rfl dX9_faultOfWall_203 ?_
        refine lv_iconst (v := 0) hx hb dX9_faultOfWall_206 (by decide) ?_
        obtain ⟨hin, hm⟩ := gdE hm
        have hin := inbE hin
        refine gAldI C0 hw 1 rfl hin dX9_faultOfWall_207 ?_
        have hm := Option.some.inj hm
        subst hm
        exact gRetI C0 hw dX9_faultOfWall_208
      · have hm := ineg hc hm
        refine lv_iload_n hx hb dX9_faultOfWall_193 rfl (lv_at hl 1 rfl) ?_
        refine lv_if_le (tgt := 209) hx hb dX9_faultOfWall_194 (by decide) (fun hc => ?_) (fun hc => ?_)
        · have hm := ipos hc hm
          exact n_m_faultOfWall_N209 C0  _ _ _ _ _ hm _ _ _ hw (lv_sub hl [0, 1, 2] rfl)
        · have hm := ineg hc hm
          refine lv_iload_n hx hb dX9_faultOfWall_197 rfl (lv_at hl 2 rfl) ?_
          refine lv_iload_n hx hb dX9_faultOfWall_198 rfl (lv_at hl 3 rfl) ?_
          refine lv_icmp_ge (tgt := 209) hx hb dX9_faultOfWall_199 (by decide) (fun hc => ?_) (fun hc => ?_)
          · have hm := ipos hc hm
            exact n_m_faultOfWall_N209 C0  _ _ _ _ _ hm _ _ _ hw (lv_sub hl [0, 1, 2] rfl)
          · have hm := ineg hc hm
            refine lv_aload_n hx hb dX9_faultOfWall_202 rfl (lv_at hl 0 rfl) ?_
            refine gGet C0 hw flX9_7 0 rfl rfl dX9_faultOfWall_203 ?_
            refine lv_iconst (v := 0) hx hb dX9_faultOfWall_206 (by decide) ?_
            obtain ⟨hin, hm⟩ := gdE hm
            have hin := inbE hin
            refine gAldI C0 hw 1 rfl hin dX9_faultOfWall_207 ?_
            have hm := Option.some.inj hm
            subst hm
            exact gRetI C0 hw dX9_faultOfWall_208
  · have hm := ineg hc hm
    refine lv_aload_n hx hb dX9_faultOfWall_21 rfl (lv_at hl 0 rfl) ?_
    refine gGet C0 hw flX9_13 0 rfl rfl dX9_faultOfWall_22 ?_
    refine lv_iload hx hb dX9_faultOfWall_25 (lv_at hl 4 rfl) ?_
    obtain ⟨hin, hm⟩ := gdE hm
    have hin := inbE hin
    refine gAldI C0 hw 2 rfl hin dX9_faultOfWall_27 ?_
    refine lv_istore (lv' := [(5, .int (v_texts x4.toNatClampNeg)), (0, .ref h0), (1, .int x1), (2, .int x2), (3, .int x3), (4, .int x4)]) hx hb dX9_faultOfWall_28 hl (by decide) rfl (fun ls hl => ?_)
    refine lv_iload hx hb dX9_faultOfWall_30 (lv_at hl 0 rfl) ?_
    refine lv_bipush (v := 59) hx hb dX9_faultOfWall_32 (by decide) ?_
    refine lv_icmp_ne (tgt := 41) hx hb dX9_faultOfWall_34 (by decide) (fun hc => ?_) (fun hc => ?_)
    · have hm := ineg hc hm
      refine lv_iconst (v := 0) hx hb dX9_faultOfWall_41 (by decide) ?_
      exact n_m_faultOfWall_N42 C0 hk10 _ _ _ _ _ _ _ _ _ hm _ _ _ hw (lv_sub hl [1, 2, 3, 4, 5, 0] rfl)
    · have hm := ipos hc hm
      refine lv_iconst (v := 1) hx hb dX9_faultOfWall_37 (by decide) ?_
      refine lv_goto (tgt := 42) hx hb dX9_faultOfWall_38 (by decide) ?_
      exact n_m_faultOfWall_N42 C0 hk10 _ _ _ _ _ _ _ _ _ hm _ _ _ hw (lv_sub hl [1, 2, 3, 4, 5, 0] rfl)
set_option maxHeartbeats 1000000 in
set_option maxRecDepth 100000 in
theorem l_m_faultOfWall_N10 {p : Program} {l : Launch} {e : Env} {s : State} {m : MethodId} {args : Array Value} {below : List Frame} {meth : Method} {c : Code} {A : Nat → Prop} {g : gG} {h0 h1 h2 h3 h4 h5 h6 h7 h8 h9 h10 h11 h12 h13 h14 h15 h16 h17 h18 h19 h20 h21 h22 h23 h24 h25 h26 h27 h28 h29 h30 : Nat} {v_hands : Int32} {v_jumpTold : Int32} {v_frosts : Int32} {v_gaps : Int32} {v_frostsNow : Int32} {v_notFrosts : Int32} {v_gapsNow : Int32} {v_fell : Int32} {v_fellAll : Int32} {v_sheepFirst : Int32} {v_sheepMany : Int32} {v_seens : Int32} {v_finding : Int32} {v_typed : Nat → Int32} {v_texts : Nat → Int32} {r : (Int32 × Int32 × Int32 × (Nat → Int32))} (C0 : gX p s m args meth c cX9_faultOfWall 9 (some .int) RX9 g A) : ∀ n : Nat, ∀ (v_courses : Int32) (v_wide : Int32) (v_told : Nat → Int32) (x1 : Int32) (x2 : Int32) (x3 : Int32) (x4 : Int32), iter (fun _ _ _ _ _ _ _ => none) (f_m_faultOfWall_N10 v_typed v_texts) n v_courses v_wide v_told x1 x2 x3 x4 = some r → ∀ (H : Heap) (locs : List Loc) (ls : Array Slot), gW g A s (W_m_faultOfWall g h0 h1 h2 h3 h4 h5 h6 h7 h8 h9 h10 h11 h12 h13 h14 h15 h16 h17 h18 h19 h20 h21 h22 h23 h24 h25 h26 h27 h28 h29 h30 v_courses v_wide v_hands v_jumpTold v_frosts v_gaps v_frostsNow v_notFrosts v_gapsNow v_fell v_fellAll v_sheepFirst v_sheepMany v_seens v_finding v_typed v_texts v_told) H locs → lv_has ls 9 [(0, .ref h0), (1, .int x1), (2, .int x2), (3, .int x3), (4, .int x4)] → W p l e rm_m_faultOfWall s m args below meth c H locs 0 0 (gQi below args s A g r.1 (W_m_faultOfWall g h0 h1 h2 h3 h4 h5 h6 h7 h8 h9 h10 h11 h12 h13 h14 h15 h16 h17 h18 h19 h20 h21 h22 h23 h24 h25 h26 h27 h28 h29 h30 r.2.1 r.2.2.1 v_hands v_jumpTold v_frosts v_gaps v_frostsNow v_notFrosts v_gapsNow v_fell v_fellAll v_sheepFirst v_sheepMany v_seens v_finding v_typed v_texts r.2.2.2)) (F0 m 10 ls []) := by
  intro n
  induction n with
  | zero =>
    intro v_courses v_wide v_told x1 x2 x3 x4 hm
    cases hm
  | succ n ih =>
    exact n_m_faultOfWall_N10 C0  ih
set_option maxHeartbeats 1000000 in
set_option maxRecDepth 100000 in
theorem c_m_faultOfWall (l : Launch) (g : gG) (sz : Nat) (h0 h1 h2 h3 h4 h5 h6 h7 h8 h9 h10 h11 h12 h13 h14 h15 h16 h17 h18 h19 h20 h21 h22 h23 h24 h25 h26 h27 h28 h29 h30 : Nat) (v_courses : Int32) (v_wide : Int32) (v_hands : Int32) (v_jumpTold : Int32) (v_frosts : Int32) (v_gaps : Int32) (v_frostsNow : Int32) (v_notFrosts : Int32) (v_gapsNow : Int32) (v_fell : Int32) (v_fellAll : Int32) (v_sheepFirst : Int32) (v_sheepMany : Int32) (v_seens : Int32) (v_finding : Int32) (v_typed : Nat → Int32) (v_texts : Nat → Int32) (v_told : Nat → Int32) (r : (Int32 × Int32 × Int32 × (Nat → Int32))) (hm : f_m_faultOfWall v_courses v_wide v_typed v_texts v_told = some r) : gMi l yX9_faultOfWall cX9_faultOfWall 9 (some .int) rm_m_faultOfWall g sz [.ref h0] (W_m_faultOfWall g h0 h1 h2 h3 h4 h5 h6 h7 h8 h9 h10 h11 h12 h13 h14 h15 h16 h17 h18 h19 h20 h21 h22 h23 h24 h25 h26 h27 h28 h29 h30 v_courses v_wide v_hands v_jumpTold v_frosts v_gaps v_frostsNow v_notFrosts v_gapsNow v_fell v_fellAll v_sheepFirst v_sheepMany v_seens v_finding v_typed v_texts v_told) r.1 (W_m_faultOfWall g h0 h1 h2 h3 h4 h5 h6 h7 h8 h9 h10 h11 h12 h13 h14 h15 h16 h17 h18 h19 h20 h21 h22 h23 h24 h25 h26 h27 h28 h29 h30 r.2.1 r.2.2.1 v_hands v_jumpTold v_frosts v_gaps v_frostsNow v_notFrosts v_gapsNow v_fell v_fellAll v_sheepFirst v_sheepMany v_seens v_finding v_typed v_texts r.2.2.2) := by
  unfold f_m_faultOfWall at hm
  refine gEnterI (by decide) (Nat.le_of_ble_eq_true rfl) (fun p e s m below meth c A C0 H locs hw ls hl => ?_)
  obtain ⟨hx, hb, hr, hml, hown, hts, hlocks, hK, hA⟩ := id C0
  have C0 : gX p s m [.ref h0].toArray meth c cX9_faultOfWall 9 (some .int) RX9 g A := C0
  have hl : lv_has ls 9 [(0, .ref h0)] := hl
  refine lv_iconst (v := 0) hx hb dX9_faultOfWall_0 (by decide) ?_
  refine lv_istore_n (lv' := [(1, .int (0 : Int32)), (0, .ref h0)]) hx hb dX9_faultOfWall_1 rfl hl (by decide) rfl (fun ls hl => ?_)
  refine lv_iconst (v := 0) hx hb dX9_faultOfWall_2 (by decide) ?_
  refine lv_istore_n (lv' := [(2, .int (0 : Int32)), (1, .int (0 : Int32)), (0, .ref h0)]) hx hb dX9_faultOfWall_3 rfl hl (by decide) rfl (fun ls hl => ?_)
  refine lv_bipush (v := 8) hx hb dX9_faultOfWall_4 (by decide) ?_
  refine lv_istore_n (lv' := [(3, .int (8 : Int32)), (2, .int (0 : Int32)), (1, .int (0 : Int32)), (0, .ref h0)]) hx hb dX9_faultOfWall_6 rfl hl (by decide) rfl (fun ls hl => ?_)
  refine lv_iconst (v := 0) hx hb dX9_faultOfWall_7 (by decide) ?_
  refine lv_istore (lv' := [(4, .int (0 : Int32)), (3, .int (8 : Int32)), (2, .int (0 : Int32)), (1, .int (0 : Int32)), (0, .ref h0)]) hx hb dX9_faultOfWall_8 hl (by decide) rfl (fun ls hl => ?_)
  exact l_m_faultOfWall_N10 C0  1000 _ _ _ _ _ _ _ hm _ _ _ hw (lv_sub hl [4, 3, 2, 1, 0] rfl)

-- WallHandsModel.readsWall()I
abbrev W_m_readsWall (g : gG) (h0 h1 h2 h3 h4 h5 h6 h7 h8 h9 h10 h11 h12 h13 h14 h15 h16 h17 h18 h19 h20 h21 h22 h23 h24 h25 h26 h27 h28 h29 h30 : Nat) (v_courses : Int32) (v_wide : Int32) (v_hands : Int32) (v_jumpTold : Int32) (v_frosts : Int32) (v_gaps : Int32) (v_frostsNow : Int32) (v_notFrosts : Int32) (v_gapsNow : Int32) (v_fell : Int32) (v_fellAll : Int32) (v_sheepFirst : Int32) (v_sheepMany : Int32) (v_seens : Int32) (v_finding : Int32) (v_typed : Nat → Int32) (v_texts : Nat → Int32) (v_told : Nat → Int32) : va_W := [(h0, .inr (9, [.ref h1, .ref h2, .int v_courses, .int v_wide, .ref h3, .int v_hands, .ref h4, .ref h5, .int v_jumpTold, .int v_frosts, .ref h6, .ref h7, .int v_gaps, .ref h8, .ref h9, .ref h10, .ref h11, .int v_frostsNow, .ref h12, .ref h13, .int v_notFrosts, .int v_gapsNow, .ref h14, .int v_fell, .int v_fellAll, .ref h15, .ref h16, .ref h17, .ref h18, .ref h19, .ref h20, .ref h21, .int v_sheepFirst, .int v_sheepMany, .int v_seens, .ref h22, .ref h23, .ref h24, .ref h25, .ref h26, .ref h27, .ref h28, .ref h29, .ref h30, .int v_finding])), (h1, .inl (gI g, 2, .inl v_typed)), (h2, .inl (gI g, 88, .inl v_texts)), (h3, .inl (gI g, 48, .inl v_told))]

abbrev rm_m_readsWall : Room := { frames := 2, cells := 0, slots := 0, locals := 50 }

set_option maxHeartbeats 1000000 in
set_option maxRecDepth 100000 in
theorem c_m_readsWall (l : Launch) (g : gG) (sz : Nat) (h0 h1 h2 h3 h4 h5 h6 h7 h8 h9 h10 h11 h12 h13 h14 h15 h16 h17 h18 h19 h20 h21 h22 h23 h24 h25 h26 h27 h28 h29 h30 : Nat) (v_courses : Int32) (v_wide : Int32) (v_hands : Int32) (v_jumpTold : Int32) (v_frosts : Int32) (v_gaps : Int32) (v_frostsNow : Int32) (v_notFrosts : Int32) (v_gapsNow : Int32) (v_fell : Int32) (v_fellAll : Int32) (v_sheepFirst : Int32) (v_sheepMany : Int32) (v_seens : Int32) (v_finding : Int32) (v_typed : Nat → Int32) (v_texts : Nat → Int32) (v_told : Nat → Int32) (r : (Int32 × Int32 × Int32 × (Nat → Int32))) (hm : f_m_readsWall v_courses v_wide v_typed v_texts v_told = some r) : gMi l yX9_readsWall cX9_readsWall 2 (some .int) rm_m_readsWall g sz [.ref h0] (W_m_readsWall g h0 h1 h2 h3 h4 h5 h6 h7 h8 h9 h10 h11 h12 h13 h14 h15 h16 h17 h18 h19 h20 h21 h22 h23 h24 h25 h26 h27 h28 h29 h30 v_courses v_wide v_hands v_jumpTold v_frosts v_gaps v_frostsNow v_notFrosts v_gapsNow v_fell v_fellAll v_sheepFirst v_sheepMany v_seens v_finding v_typed v_texts v_told) r.1 (W_m_readsWall g h0 h1 h2 h3 h4 h5 h6 h7 h8 h9 h10 h11 h12 h13 h14 h15 h16 h17 h18 h19 h20 h21 h22 h23 h24 h25 h26 h27 h28 h29 h30 r.2.1 r.2.2.1 v_hands v_jumpTold v_frosts v_gaps v_frostsNow v_notFrosts v_gapsNow v_fell v_fellAll v_sheepFirst v_sheepMany v_seens v_finding v_typed v_texts r.2.2.2) := by
  unfold f_m_readsWall at hm
  refine gEnterI (by decide) (Nat.le_of_ble_eq_true rfl) (fun p e s m below meth c A C0 H locs hw ls hl => ?_)
  obtain ⟨hx, hb, hr, hml, hown, hts, hlocks, hK, hA⟩ := id C0
  have C0 : gX p s m [.ref h0].toArray meth c cX9_readsWall 2 (some .int) RX9 g A := C0
  have hl : lv_has ls 2 [(0, .ref h0)] := hl
  refine lv_aload_n hx hb dX9_readsWall_0 rfl (lv_at hl 0 rfl) ?_
  obtain ⟨o1, ho1, hm⟩ := bindE hm
  refine gCallv (ws' := (W_m_readsWall g h0 h1 h2 h3 h4 h5 h6 h7 h8 h9 h10 h11 h12 h13 h14 h15 h16 h17 h18 h19 h20 h21 h22 h23 h24 h25 h26 h27 h28 h29 h30 o1.1 o1.2.1 v_hands v_jumpTold v_frosts v_gaps v_frostsNow v_notFrosts v_gapsNow v_fell v_fellAll v_sheepFirst v_sheepMany v_seens v_finding v_typed v_texts o1.2.2)) C0 hw (gRunV (As := []) (rest := []) C0 hw lkX9_124 (c_m_noWall l g H.size h0 h3 h1 h2 h4 h5 h6 h7 h8 h9 h10 h11 h12 h13 h14 h15 h16 h17 h18 h19 h20 h21 h22 h23 h24 h25 h26 h27 h28 h29 h30 v_courses v_wide v_hands v_jumpTold v_frosts v_gaps v_frostsNow v_notFrosts v_gapsNow v_fell v_fellAll v_sheepFirst v_sheepMany v_seens v_finding v_told o1 ho1) ⟨rfl, rfl⟩ ⟨Nat.le_of_ble_eq_true rfl, Nat.le_of_ble_eq_true rfl⟩ [0, 3] (by decide) rfl 0 rfl rfl rfl hl.1 rfl (Nat.le_of_ble_eq_true rfl) dX9_readsWall_1) [0, 3] [1, 2] rfl rfl ⟨rfl, rfl, trivial⟩ [h0, h1, h2, h3] rfl rfl 4 rfl (by decide +kernel) (fun H locs hw => ?_)
  refine lv_aload_n hx hb dX9_readsWall_4 rfl (lv_at hl 0 rfl) ?_
  obtain ⟨o5, ho5, hm⟩ := bindE hm
  refine gCalli (ws' := (W_m_readsWall g h0 h1 h2 h3 h4 h5 h6 h7 h8 h9 h10 h11 h12 h13 h14 h15 h16 h17 h18 h19 h20 h21 h22 h23 h24 h25 h26 h27 h28 h29 h30 o5.2.1 o5.2.2.1 v_hands v_jumpTold v_frosts v_gaps v_frostsNow v_notFrosts v_gapsNow v_fell v_fellAll v_sheepFirst v_sheepMany v_seens v_finding v_typed v_texts o5.2.2.2)) C0 hw (gRunV (As := []) (rest := []) C0 hw lkX9_127 (c_m_faultOfWall l g H.size h0 h1 h2 h3 h4 h5 h6 h7 h8 h9 h10 h11 h12 h13 h14 h15 h16 h17 h18 h19 h20 h21 h22 h23 h24 h25 h26 h27 h28 h29 h30 o1.1 o1.2.1 v_hands v_jumpTold v_frosts v_gaps v_frostsNow v_notFrosts v_gapsNow v_fell v_fellAll v_sheepFirst v_sheepMany v_seens v_finding v_typed v_texts o1.2.2 o5 ho5) ⟨rfl, rfl⟩ ⟨Nat.le_of_ble_eq_true rfl, Nat.le_of_ble_eq_true rfl⟩ [0, 1, 2, 3] (by decide) rfl 0 rfl rfl rfl hl.1 rfl (Nat.le_of_ble_eq_true rfl) dX9_readsWall_5) [0, 1, 2, 3] [] rfl rfl trivial [h0, h1, h2, h3] rfl rfl 4 rfl (by decide +kernel) (fun H locs hw => ?_)
  refine lv_istore_n (lv' := [(1, .int o5.1), (0, .ref h0)]) hx hb dX9_readsWall_8 rfl hl (by decide) rfl (fun ls hl => ?_)
  refine lv_iload_n hx hb dX9_readsWall_9 rfl (lv_at hl 0 rfl) ?_
  refine lv_iconst (v := -1) hx hb dX9_readsWall_10 (by decide) ?_
  refine lv_icmp_eq (tgt := 18) hx hb dX9_readsWall_11 (by decide) (fun hc => ?_) (fun hc => ?_)
  · have hm := ipos hc hm
    refine lv_iload_n hx hb dX9_readsWall_18 rfl (lv_at hl 0 rfl) ?_
    have hm := Option.some.inj hm
    subst hm
    exact gRetI C0 hw dX9_readsWall_19
  · have hm := ineg hc hm
    refine lv_aload_n hx hb dX9_readsWall_14 rfl (lv_at hl 1 rfl) ?_
    obtain ⟨o15, ho15, hm⟩ := bindE hm
    refine gCallv (ws' := (W_m_readsWall g h0 h1 h2 h3 h4 h5 h6 h7 h8 h9 h10 h11 h12 h13 h14 h15 h16 h17 h18 h19 h20 h21 h22 h23 h24 h25 h26 h27 h28 h29 h30 o15.1 o15.2.1 v_hands v_jumpTold v_frosts v_gaps v_frostsNow v_notFrosts v_gapsNow v_fell v_fellAll v_sheepFirst v_sheepMany v_seens v_finding v_typed v_texts o15.2.2)) C0 hw (gRunV (As := []) (rest := []) C0 hw lkX9_124 (c_m_noWall l g H.size h0 h3 h1 h2 h4 h5 h6 h7 h8 h9 h10 h11 h12 h13 h14 h15 h16 h17 h18 h19 h20 h21 h22 h23 h24 h25 h26 h27 h28 h29 h30 o5.2.1 o5.2.2.1 v_hands v_jumpTold v_frosts v_gaps v_frostsNow v_notFrosts v_gapsNow v_fell v_fellAll v_sheepFirst v_sheepMany v_seens v_finding o5.2.2.2 o15 ho15) ⟨rfl, rfl⟩ ⟨Nat.le_of_ble_eq_true rfl, Nat.le_of_ble_eq_true rfl⟩ [0, 3] (by decide) rfl 0 rfl rfl rfl hl.1 rfl (Nat.le_of_ble_eq_true rfl) dX9_readsWall_15) [0, 3] [1, 2] rfl rfl ⟨rfl, rfl, trivial⟩ [h0, h1, h2, h3] rfl rfl 4 rfl (by decide +kernel) (fun H locs hw => ?_)
    refine lv_iload_n hx hb dX9_readsWall_18 rfl (lv_at hl 0 rfl) ?_
    have hm := Option.some.inj hm
    subst hm
    exact gRetI C0 hw dX9_readsWall_19

-- WallHandsModel.handByte(I)I
abbrev W_m_handByte (g : gG) (h0 h1 h2 h3 h4 h5 h6 h7 h8 h9 h10 h11 h12 h13 h14 h15 h16 h17 h18 h19 h20 h21 h22 h23 h24 h25 h26 h27 h28 h29 h30 : Nat) (v_courses : Int32) (v_wide : Int32) (v_hands : Int32) (v_jumpTold : Int32) (v_frosts : Int32) (v_gaps : Int32) (v_frostsNow : Int32) (v_notFrosts : Int32) (v_gapsNow : Int32) (v_fell : Int32) (v_fellAll : Int32) (v_sheepFirst : Int32) (v_sheepMany : Int32) (v_seens : Int32) (v_finding : Int32) (v_typed : Nat → Int32) (v_texts : Nat → Int32) : va_W := [(h0, .inr (9, [.ref h1, .ref h2, .int v_courses, .int v_wide, .ref h3, .int v_hands, .ref h4, .ref h5, .int v_jumpTold, .int v_frosts, .ref h6, .ref h7, .int v_gaps, .ref h8, .ref h9, .ref h10, .ref h11, .int v_frostsNow, .ref h12, .ref h13, .int v_notFrosts, .int v_gapsNow, .ref h14, .int v_fell, .int v_fellAll, .ref h15, .ref h16, .ref h17, .ref h18, .ref h19, .ref h20, .ref h21, .int v_sheepFirst, .int v_sheepMany, .int v_seens, .ref h22, .ref h23, .ref h24, .ref h25, .ref h26, .ref h27, .ref h28, .ref h29, .ref h30, .int v_finding])), (h1, .inl (gI g, 2, .inl v_typed)), (h2, .inl (gI g, 88, .inl v_texts))]

abbrev rm_m_handByte : Room := { frames := 0, cells := 0, slots := 0, locals := 0 }

set_option maxHeartbeats 1000000 in
set_option maxRecDepth 100000 in
theorem c_m_handByte (l : Launch) (g : gG) (sz : Nat) (h0 h1 h2 h3 h4 h5 h6 h7 h8 h9 h10 h11 h12 h13 h14 h15 h16 h17 h18 h19 h20 h21 h22 h23 h24 h25 h26 h27 h28 h29 h30 : Nat) (v_courses : Int32) (v_wide : Int32) (v_hands : Int32) (v_jumpTold : Int32) (v_frosts : Int32) (v_gaps : Int32) (v_frostsNow : Int32) (v_notFrosts : Int32) (v_gapsNow : Int32) (v_fell : Int32) (v_fellAll : Int32) (v_sheepFirst : Int32) (v_sheepMany : Int32) (v_seens : Int32) (v_finding : Int32) (v_typed : Nat → Int32) (v_texts : Nat → Int32) (a0 : Int32) (r : Int32) (hm : f_m_handByte v_typed v_texts a0 = some r) : gMi l yX9_handByte cX9_handByte 2 (some .int) rm_m_handByte g sz [.ref h0, .int a0] (W_m_handByte g h0 h1 h2 h3 h4 h5 h6 h7 h8 h9 h10 h11 h12 h13 h14 h15 h16 h17 h18 h19 h20 h21 h22 h23 h24 h25 h26 h27 h28 h29 h30 v_courses v_wide v_hands v_jumpTold v_frosts v_gaps v_frostsNow v_notFrosts v_gapsNow v_fell v_fellAll v_sheepFirst v_sheepMany v_seens v_finding v_typed v_texts) r (W_m_handByte g h0 h1 h2 h3 h4 h5 h6 h7 h8 h9 h10 h11 h12 h13 h14 h15 h16 h17 h18 h19 h20 h21 h22 h23 h24 h25 h26 h27 h28 h29 h30 v_courses v_wide v_hands v_jumpTold v_frosts v_gaps v_frostsNow v_notFrosts v_gapsNow v_fell v_fellAll v_sheepFirst v_sheepMany v_seens v_finding v_typed v_texts) := by
  unfold f_m_handByte at hm
  refine gEnterI (by decide) (Nat.le_of_ble_eq_true rfl) (fun p e s m below meth c A C0 H locs hw ls hl => ?_)
  obtain ⟨hx, hb, hr, hml, hown, hts, hlocks, hK, hA⟩ := id C0
  have C0 : gX p s m [.ref h0, .int a0].toArray meth c cX9_handByte 2 (some .int) RX9 g A := C0
  have hl : lv_has ls 2 [(0, .ref h0), (1, .int a0)] := hl
  refine lv_iload_n hx hb dX9_handByte_0 rfl (lv_at hl 1 rfl) ?_
  refine lv_aload_n hx hb dX9_handByte_1 rfl (lv_at hl 0 rfl) ?_
  refine gGet C0 hw flX9_7 0 rfl rfl dX9_handByte_2 ?_
  refine lv_iconst (v := 1) hx hb dX9_handByte_5 (by decide) ?_
  obtain ⟨hin, hm⟩ := gdE hm
  have hin := inbE hin
  refine gAldI C0 hw 1 rfl hin dX9_handByte_6 ?_
  refine lv_icmp_ge (tgt := 22) hx hb dX9_handByte_7 (by decide) (fun hc => ?_) (fun hc => ?_)
  · have hm := ipos hc hm
    refine lv_iconst (v := -1) hx hb dX9_handByte_22 (by decide) ?_
    have hm := Option.some.inj hm
    subst hm
    exact gRetI C0 hw dX9_handByte_23
  · have hm := ineg hc hm
    refine lv_aload_n hx hb dX9_handByte_10 rfl (lv_at hl 0 rfl) ?_
    refine gGet C0 hw flX9_13 0 rfl rfl dX9_handByte_11 ?_
    refine lv_bipush (v := 44) hx hb dX9_handByte_14 (by decide) ?_
    refine lv_iload_n hx hb dX9_handByte_16 rfl (lv_at hl 1 rfl) ?_
    refine lv_iadd hx hb dX9_handByte_17 ?_
    obtain ⟨hin, hm⟩ := gdE hm
    have hin := inbE hin
    refine gAldI C0 hw 2 rfl hin dX9_handByte_18 ?_
    refine lv_goto (tgt := 23) hx hb dX9_handByte_19 (by decide) ?_
    have hm := Option.some.inj hm
    subst hm
    exact gRetI C0 hw dX9_handByte_23

-- WallHandsModel.readsHand(II)I
abbrev W_m_readsHand (g : gG) (h0 h1 h2 h3 h4 h5 h6 h7 h8 h9 h10 h11 h12 h13 h14 h15 h16 h17 h18 h19 h20 h21 h22 h23 h24 h25 h26 h27 h28 h29 h30 : Nat) (v_courses : Int32) (v_wide : Int32) (v_hands : Int32) (v_jumpTold : Int32) (v_frosts : Int32) (v_gaps : Int32) (v_frostsNow : Int32) (v_notFrosts : Int32) (v_gapsNow : Int32) (v_fell : Int32) (v_fellAll : Int32) (v_sheepFirst : Int32) (v_sheepMany : Int32) (v_seens : Int32) (v_finding : Int32) (v_typed : Nat → Int32) (v_texts : Nat → Int32) (v_moods : Nat → Int32) (v_strongs : Nat → Int32) : va_W := [(h0, .inr (9, [.ref h1, .ref h2, .int v_courses, .int v_wide, .ref h5, .int v_hands, .ref h3, .ref h4, .int v_jumpTold, .int v_frosts, .ref h6, .ref h7, .int v_gaps, .ref h8, .ref h9, .ref h10, .ref h11, .int v_frostsNow, .ref h12, .ref h13, .int v_notFrosts, .int v_gapsNow, .ref h14, .int v_fell, .int v_fellAll, .ref h15, .ref h16, .ref h17, .ref h18, .ref h19, .ref h20, .ref h21, .int v_sheepFirst, .int v_sheepMany, .int v_seens, .ref h22, .ref h23, .ref h24, .ref h25, .ref h26, .ref h27, .ref h28, .ref h29, .ref h30, .int v_finding])), (h1, .inl (gI g, 2, .inl v_typed)), (h2, .inl (gI g, 88, .inl v_texts)), (h3, .inl (gI g, 9, .inl v_moods)), (h4, .inl (gI g, 9, .inl v_strongs))]

abbrev rm_m_readsHand : Room := { frames := 1, cells := 0, slots := 0, locals := 22 }

set_option maxHeartbeats 1000000 in
set_option maxRecDepth 100000 in
theorem n_m_readsHand_N47 {p : Program} {l : Launch} {e : Env} {s : State} {m : MethodId} {args : Array Value} {below : List Frame} {meth : Method} {c : Code} {A : Nat → Prop} {g : gG} {h0 h1 h2 h3 h4 h5 h6 h7 h8 h9 h10 h11 h12 h13 h14 h15 h16 h17 h18 h19 h20 h21 h22 h23 h24 h25 h26 h27 h28 h29 h30 : Nat} {v_courses : Int32} {v_wide : Int32} {v_hands : Int32} {v_jumpTold : Int32} {v_frosts : Int32} {v_gaps : Int32} {v_frostsNow : Int32} {v_notFrosts : Int32} {v_gapsNow : Int32} {v_fell : Int32} {v_fellAll : Int32} {v_sheepFirst : Int32} {v_sheepMany : Int32} {v_seens : Int32} {v_finding : Int32} {v_typed : Nat → Int32} {v_texts : Nat → Int32} {r : (Int32 × (Nat → Int32) × (Nat → Int32))} (C0 : gX p s m args meth c cX9_readsHand 6 (some .int) RX9 g A) : ∀ (v_moods : Nat → Int32) (v_strongs : Nat → Int32) (x1 : Int32) (x2 : Int32) (y0 : Int32), f_m_readsHand_N47 v_typed v_texts v_moods v_strongs x1 x2 y0 = some r → ∀ (H : Heap) (locs : List Loc) (ls : Array Slot), gW g A s (W_m_readsHand g h0 h1 h2 h3 h4 h5 h6 h7 h8 h9 h10 h11 h12 h13 h14 h15 h16 h17 h18 h19 h20 h21 h22 h23 h24 h25 h26 h27 h28 h29 h30 v_courses v_wide v_hands v_jumpTold v_frosts v_gaps v_frostsNow v_notFrosts v_gapsNow v_fell v_fellAll v_sheepFirst v_sheepMany v_seens v_finding v_typed v_texts v_moods v_strongs) H locs → lv_has ls 6 [(0, .ref h0), (1, .int x1), (2, .int x2)] → W p l e rm_m_readsHand s m args below meth c H locs 0 0 (gQi below args s A g r.1 (W_m_readsHand g h0 h1 h2 h3 h4 h5 h6 h7 h8 h9 h10 h11 h12 h13 h14 h15 h16 h17 h18 h19 h20 h21 h22 h23 h24 h25 h26 h27 h28 h29 h30 v_courses v_wide v_hands v_jumpTold v_frosts v_gaps v_frostsNow v_notFrosts v_gapsNow v_fell v_fellAll v_sheepFirst v_sheepMany v_seens v_finding v_typed v_texts r.2.1 r.2.2)) (F0 m 47 ls [.int y0]) := by
  intro v_moods v_strongs x1 x2 y0 hm H locs ls hw hl
  unfold f_m_readsHand_N47 at hm
  obtain ⟨hx, hb, hr, hml, hown, hts, hlocks, hK, hA⟩ := id C0
  refine lv_istore (lv' := [(4, .int y0), (0, .ref h0), (1, .int x1), (2, .int x2)]) hx hb dX9_readsHand_47 hl (by decide) rfl (fun ls hl => ?_)
  refine lv_aload_n hx hb dX9_readsHand_49 rfl (lv_at hl 1 rfl) ?_
  refine lv_iload_n hx hb dX9_readsHand_50 rfl (lv_at hl 3 rfl) ?_
  refine lv_iconst (v := 1) hx hb dX9_readsHand_51 (by decide) ?_
  refine lv_iadd hx hb dX9_readsHand_52 ?_
  obtain ⟨o53, ho53, hm⟩ := bindE hm
  refine gCalli (ws' := (W_m_readsHand g h0 h1 h2 h3 h4 h5 h6 h7 h8 h9 h10 h11 h12 h13 h14 h15 h16 h17 h18 h19 h20 h21 h22 h23 h24 h25 h26 h27 h28 h29 h30 v_courses v_wide v_hands v_jumpTold v_frosts v_gaps v_frostsNow v_notFrosts v_gapsNow v_fell v_fellAll v_sheepFirst v_sheepMany v_seens v_finding v_typed v_texts v_moods v_strongs)) C0 hw (gRunV (As := [.int (x2 + (1 : Int32))]) (rest := []) C0 hw lkX9_131 (c_m_handByte l g H.size h0 h1 h2 h5 h3 h4 h6 h7 h8 h9 h10 h11 h12 h13 h14 h15 h16 h17 h18 h19 h20 h21 h22 h23 h24 h25 h26 h27 h28 h29 h30 v_courses v_wide v_hands v_jumpTold v_frosts v_gaps v_frostsNow v_notFrosts v_gapsNow v_fell v_fellAll v_sheepFirst v_sheepMany v_seens v_finding v_typed v_texts (x2 + (1 : Int32)) o53 ho53) ⟨rfl, rfl⟩ ⟨Nat.le_of_ble_eq_true rfl, Nat.le_of_ble_eq_true rfl⟩ [0, 1, 2] (by decide) rfl 0 rfl rfl rfl hl.1 rfl (Nat.le_of_ble_eq_true rfl) dX9_readsHand_53) [0, 1, 2] [3, 4] rfl rfl ⟨rfl, rfl, trivial⟩ [h0, h1, h2, h3, h4] rfl rfl 5 rfl (by decide +kernel) (fun H locs hw => ?_)
  refine lv_istore (lv' := [(5, .int o53), (4, .int y0), (0, .ref h0), (1, .int x1), (2, .int x2)]) hx hb dX9_readsHand_56 hl (by decide) rfl (fun ls hl => ?_)
  refine lv_iload_n hx hb dX9_readsHand_58 rfl (lv_at hl 3 rfl) ?_
  refine lv_bipush (v := 8) hx hb dX9_readsHand_59 (by decide) ?_
  refine lv_icmp_eq (tgt := 70) hx hb dX9_readsHand_61 (by decide) (fun hc => ?_) (fun hc => ?_)
  · have hm := ipos hc hm
    refine lv_iconst (v := 0) hx hb dX9_readsHand_70 (by decide) ?_
    have hm := Option.some.inj hm
    subst hm
    exact gRetI C0 hw dX9_readsHand_71
  · have hm := ineg hc hm
    refine lv_iload hx hb dX9_readsHand_64 (lv_at hl 1 rfl) ?_
    refine lv_iconst (v := -1) hx hb dX9_readsHand_66 (by decide) ?_
    refine lv_icmp_ne (tgt := 72) hx hb dX9_readsHand_67 (by decide) (fun hc => ?_) (fun hc => ?_)
    · have hm := ineg hc hm
      refine lv_iload hx hb dX9_readsHand_72 (lv_at hl 0 rfl) ?_
      refine lv_bipush (v := 49) hx hb dX9_readsHand_74 (by decide) ?_
      refine lv_bipush (v := 57) hx hb dX9_readsHand_76 (by decide) ?_
      obtain ⟨o78, ho78, hm⟩ := bindE hm
      refine gCalli (ws' := (W_m_readsHand g h0 h1 h2 h3 h4 h5 h6 h7 h8 h9 h10 h11 h12 h13 h14 h15 h16 h17 h18 h19 h20 h21 h22 h23 h24 h25 h26 h27 h28 h29 h30 v_courses v_wide v_hands v_jumpTold v_frosts v_gaps v_frostsNow v_notFrosts v_gapsNow v_fell v_fellAll v_sheepFirst v_sheepMany v_seens v_finding v_typed v_texts v_moods v_strongs)) C0 hw (gRunS (As := [.int o53, .int (49 : Int32), .int (57 : Int32)]) (rest := []) C0 hw lkX9_107 (c_m_in l g H.size  o53 (49 : Int32) (57 : Int32) o78 ho78) ⟨rfl, rfl⟩ ⟨Nat.le_of_ble_eq_true rfl, Nat.le_of_ble_eq_true rfl⟩ [] (by decide) rfl rfl hl.1 rfl (Nat.le_of_ble_eq_true rfl) dX9_readsHand_78) [] [0, 1, 2, 3, 4] rfl rfl ⟨rfl, rfl, rfl, rfl, rfl, trivial⟩ [h0, h1, h2, h3, h4] rfl rfl 5 rfl (by decide +kernel) (fun H locs hw => ?_)
      refine lv_if_ne (tgt := 86) hx hb dX9_readsHand_81 (by decide) (fun hc => ?_) (fun hc => ?_)
      · have hm := ineg hc hm
        refine lv_aload_n hx hb dX9_readsHand_86 rfl (lv_at hl 2 rfl) ?_
        refine gGet C0 hw flX9_19 0 rfl rfl dX9_readsHand_87 ?_
        refine lv_iload_n hx hb dX9_readsHand_90 rfl (lv_at hl 3 rfl) ?_
        refine lv_iload hx hb dX9_readsHand_91 (lv_at hl 1 rfl) ?_
        obtain ⟨hin, hm⟩ := gdE hm
        have hin := inbE hin
        refine gAstI (ws' := (W_m_readsHand g h0 h1 h2 h3 h4 h5 h6 h7 h8 h9 h10 h11 h12 h13 h14 h15 h16 h17 h18 h19 h20 h21 h22 h23 h24 h25 h26 h27 h28 h29 h30 v_courses v_wide v_hands v_jumpTold v_frosts v_gaps v_frostsNow v_notFrosts v_gapsNow v_fell v_fellAll v_sheepFirst v_sheepMany v_seens v_finding v_typed v_texts (upd v_moods x1.toNatClampNeg y0) v_strongs)) C0 hw 3 rfl hin rfl dX9_readsHand_93 (fun H locs hw => ?_)
        refine lv_aload_n hx hb dX9_readsHand_94 rfl (lv_at hl 2 rfl) ?_
        refine gGet C0 hw flX9_22 0 rfl rfl dX9_readsHand_95 ?_
        refine lv_iload_n hx hb dX9_readsHand_98 rfl (lv_at hl 3 rfl) ?_
        refine lv_iload hx hb dX9_readsHand_99 (lv_at hl 0 rfl) ?_
        refine lv_bipush (v := 48) hx hb dX9_readsHand_101 (by decide) ?_
        refine lv_isub hx hb dX9_readsHand_103 ?_
        obtain ⟨hin, hm⟩ := gdE hm
        have hin := inbE hin
        refine gAstI (ws' := (W_m_readsHand g h0 h1 h2 h3 h4 h5 h6 h7 h8 h9 h10 h11 h12 h13 h14 h15 h16 h17 h18 h19 h20 h21 h22 h23 h24 h25 h26 h27 h28 h29 h30 v_courses v_wide v_hands v_jumpTold v_frosts v_gaps v_frostsNow v_notFrosts v_gapsNow v_fell v_fellAll v_sheepFirst v_sheepMany v_seens v_finding v_typed v_texts (upd v_moods x1.toNatClampNeg y0) (upd v_strongs x1.toNatClampNeg (o53 - (48 : Int32))))) C0 hw 4 rfl hin rfl dX9_readsHand_104 (fun H locs hw => ?_)
        refine lv_iconst (v := 2) hx hb dX9_readsHand_105 (by decide) ?_
        have hm := Option.some.inj hm
        subst hm
        exact gRetI C0 hw dX9_readsHand_106
      · have hm := ipos hc hm
        refine lv_iconst (v := 1) hx hb dX9_readsHand_84 (by decide) ?_
        have hm := Option.some.inj hm
        subst hm
        exact gRetI C0 hw dX9_readsHand_85
    · have hm := ipos hc hm
      refine lv_iconst (v := 0) hx hb dX9_readsHand_70 (by decide) ?_
      have hm := Option.some.inj hm
      subst hm
      exact gRetI C0 hw dX9_readsHand_71
set_option maxHeartbeats 1000000 in
set_option maxRecDepth 100000 in
theorem c_m_readsHand (l : Launch) (g : gG) (sz : Nat) (h0 h1 h2 h3 h4 h5 h6 h7 h8 h9 h10 h11 h12 h13 h14 h15 h16 h17 h18 h19 h20 h21 h22 h23 h24 h25 h26 h27 h28 h29 h30 : Nat) (v_courses : Int32) (v_wide : Int32) (v_hands : Int32) (v_jumpTold : Int32) (v_frosts : Int32) (v_gaps : Int32) (v_frostsNow : Int32) (v_notFrosts : Int32) (v_gapsNow : Int32) (v_fell : Int32) (v_fellAll : Int32) (v_sheepFirst : Int32) (v_sheepMany : Int32) (v_seens : Int32) (v_finding : Int32) (v_typed : Nat → Int32) (v_texts : Nat → Int32) (v_moods : Nat → Int32) (v_strongs : Nat → Int32) (a0 : Int32) (a1 : Int32) (r : (Int32 × (Nat → Int32) × (Nat → Int32))) (hm : f_m_readsHand v_typed v_texts v_moods v_strongs a0 a1 = some r) : gMi l yX9_readsHand cX9_readsHand 6 (some .int) rm_m_readsHand g sz [.ref h0, .int a0, .int a1] (W_m_readsHand g h0 h1 h2 h3 h4 h5 h6 h7 h8 h9 h10 h11 h12 h13 h14 h15 h16 h17 h18 h19 h20 h21 h22 h23 h24 h25 h26 h27 h28 h29 h30 v_courses v_wide v_hands v_jumpTold v_frosts v_gaps v_frostsNow v_notFrosts v_gapsNow v_fell v_fellAll v_sheepFirst v_sheepMany v_seens v_finding v_typed v_texts v_moods v_strongs) r.1 (W_m_readsHand g h0 h1 h2 h3 h4 h5 h6 h7 h8 h9 h10 h11 h12 h13 h14 h15 h16 h17 h18 h19 h20 h21 h22 h23 h24 h25 h26 h27 h28 h29 h30 v_courses v_wide v_hands v_jumpTold v_frosts v_gaps v_frostsNow v_notFrosts v_gapsNow v_fell v_fellAll v_sheepFirst v_sheepMany v_seens v_finding v_typed v_texts r.2.1 r.2.2) := by
  unfold f_m_readsHand at hm
  refine gEnterI (by decide) (Nat.le_of_ble_eq_true rfl) (fun p e s m below meth c A C0 H locs hw ls hl => ?_)
  obtain ⟨hx, hb, hr, hml, hown, hts, hlocks, hK, hA⟩ := id C0
  have C0 : gX p s m [.ref h0, .int a0, .int a1].toArray meth c cX9_readsHand 6 (some .int) RX9 g A := C0
  have hl : lv_has ls 6 [(0, .ref h0), (1, .int a0), (2, .int a1)] := hl
  refine lv_aload_n hx hb dX9_readsHand_0 rfl (lv_at hl 0 rfl) ?_
  refine lv_iload_n hx hb dX9_readsHand_1 rfl (lv_at hl 2 rfl) ?_
  obtain ⟨o2, ho2, hm⟩ := bindE hm
  refine gCalli (ws' := (W_m_readsHand g h0 h1 h2 h3 h4 h5 h6 h7 h8 h9 h10 h11 h12 h13 h14 h15 h16 h17 h18 h19 h20 h21 h22 h23 h24 h25 h26 h27 h28 h29 h30 v_courses v_wide v_hands v_jumpTold v_frosts v_gaps v_frostsNow v_notFrosts v_gapsNow v_fell v_fellAll v_sheepFirst v_sheepMany v_seens v_finding v_typed v_texts v_moods v_strongs)) C0 hw (gRunV (As := [.int a1]) (rest := []) C0 hw lkX9_131 (c_m_handByte l g H.size h0 h1 h2 h5 h3 h4 h6 h7 h8 h9 h10 h11 h12 h13 h14 h15 h16 h17 h18 h19 h20 h21 h22 h23 h24 h25 h26 h27 h28 h29 h30 v_courses v_wide v_hands v_jumpTold v_frosts v_gaps v_frostsNow v_notFrosts v_gapsNow v_fell v_fellAll v_sheepFirst v_sheepMany v_seens v_finding v_typed v_texts a1 o2 ho2) ⟨rfl, rfl⟩ ⟨Nat.le_of_ble_eq_true rfl, Nat.le_of_ble_eq_true rfl⟩ [0, 1, 2] (by decide) rfl 0 rfl rfl rfl hl.1 rfl (Nat.le_of_ble_eq_true rfl) dX9_readsHand_2) [0, 1, 2] [3, 4] rfl rfl ⟨rfl, rfl, trivial⟩ [h0, h1, h2, h3, h4] rfl rfl 5 rfl (by decide +kernel) (fun H locs hw => ?_)
  refine lv_istore_n (lv' := [(3, .int o2), (0, .ref h0), (1, .int a0), (2, .int a1)]) hx hb dX9_readsHand_5 rfl hl (by decide) rfl (fun ls hl => ?_)
  refine lv_iload_n hx hb dX9_readsHand_6 rfl (lv_at hl 0 rfl) ?_
  refine lv_bipush (v := 112) hx hb dX9_readsHand_7 (by decide) ?_
  refine lv_icmp_ne (tgt := 16) hx hb dX9_readsHand_9 (by decide) (fun hc => ?_) (fun hc => ?_)
  · have hm := ineg hc hm
    refine lv_iload_n hx hb dX9_readsHand_16 rfl (lv_at hl 0 rfl) ?_
    refine lv_bipush (v := 116) hx hb dX9_readsHand_17 (by decide) ?_
    refine lv_icmp_ne (tgt := 26) hx hb dX9_readsHand_19 (by decide) (fun hc => ?_) (fun hc => ?_)
    · have hm := ineg hc hm
      refine lv_iload_n hx hb dX9_readsHand_26 rfl (lv_at hl 0 rfl) ?_
      refine lv_bipush (v := 108) hx hb dX9_readsHand_27 (by decide) ?_
      refine lv_icmp_ne (tgt := 36) hx hb dX9_readsHand_29 (by decide) (fun hc => ?_) (fun hc => ?_)
      · have hm := ineg hc hm
        refine lv_iload_n hx hb dX9_readsHand_36 rfl (lv_at hl 0 rfl) ?_
        refine lv_bipush (v := 115) hx hb dX9_readsHand_37 (by decide) ?_
        refine lv_icmp_ne (tgt := 46) hx hb dX9_readsHand_39 (by decide) (fun hc => ?_) (fun hc => ?_)
        · have hm := ineg hc hm
          refine lv_iconst (v := -1) hx hb dX9_readsHand_46 (by decide) ?_
          exact n_m_readsHand_N47 C0  _ _ _ _ _ hm _ _ _ hw (lv_sub hl [1, 2, 3] rfl)
        · have hm := ipos hc hm
          refine lv_iconst (v := 3) hx hb dX9_readsHand_42 (by decide) ?_
          refine lv_goto (tgt := 47) hx hb dX9_readsHand_43 (by decide) ?_
          exact n_m_readsHand_N47 C0  _ _ _ _ _ hm _ _ _ hw (lv_sub hl [1, 2, 3] rfl)
      · have hm := ipos hc hm
        refine lv_iconst (v := 2) hx hb dX9_readsHand_32 (by decide) ?_
        refine lv_goto (tgt := 47) hx hb dX9_readsHand_33 (by decide) ?_
        exact n_m_readsHand_N47 C0  _ _ _ _ _ hm _ _ _ hw (lv_sub hl [1, 2, 3] rfl)
    · have hm := ipos hc hm
      refine lv_iconst (v := 1) hx hb dX9_readsHand_22 (by decide) ?_
      refine lv_goto (tgt := 47) hx hb dX9_readsHand_23 (by decide) ?_
      exact n_m_readsHand_N47 C0  _ _ _ _ _ hm _ _ _ hw (lv_sub hl [1, 2, 3] rfl)
  · have hm := ipos hc hm
    refine lv_iconst (v := 0) hx hb dX9_readsHand_12 (by decide) ?_
    refine lv_goto (tgt := 47) hx hb dX9_readsHand_13 (by decide) ?_
    exact n_m_readsHand_N47 C0  _ _ _ _ _ hm _ _ _ hw (lv_sub hl [1, 2, 3] rfl)

-- WallHandsModel.readsHands()I
abbrev W_m_readsHands (g : gG) (h0 h1 h2 h3 h4 h5 h6 h7 h8 h9 h10 h11 h12 h13 h14 h15 h16 h17 h18 h19 h20 h21 h22 h23 h24 h25 h26 h27 h28 h29 h30 : Nat) (v_courses : Int32) (v_wide : Int32) (v_hands : Int32) (v_jumpTold : Int32) (v_frosts : Int32) (v_gaps : Int32) (v_frostsNow : Int32) (v_notFrosts : Int32) (v_gapsNow : Int32) (v_fell : Int32) (v_fellAll : Int32) (v_sheepFirst : Int32) (v_sheepMany : Int32) (v_seens : Int32) (v_finding : Int32) (v_typed : Nat → Int32) (v_texts : Nat → Int32) (v_moods : Nat → Int32) (v_strongs : Nat → Int32) : va_W := [(h0, .inr (9, [.ref h1, .ref h2, .int v_courses, .int v_wide, .ref h5, .int v_hands, .ref h3, .ref h4, .int v_jumpTold, .int v_frosts, .ref h6, .ref h7, .int v_gaps, .ref h8, .ref h9, .ref h10, .ref h11, .int v_frostsNow, .ref h12, .ref h13, .int v_notFrosts, .int v_gapsNow, .ref h14, .int v_fell, .int v_fellAll, .ref h15, .ref h16, .ref h17, .ref h18, .ref h19, .ref h20, .ref h21, .int v_sheepFirst, .int v_sheepMany, .int v_seens, .ref h22, .ref h23, .ref h24, .ref h25, .ref h26, .ref h27, .ref h28, .ref h29, .ref h30, .int v_finding])), (h1, .inl (gI g, 2, .inl v_typed)), (h2, .inl (gI g, 88, .inl v_texts)), (h3, .inl (gI g, 9, .inl v_moods)), (h4, .inl (gI g, 9, .inl v_strongs))]

abbrev rm_m_readsHands : Room := { frames := 2, cells := 0, slots := 0, locals := 47 }

set_option maxHeartbeats 1000000 in
set_option maxRecDepth 100000 in
theorem n_m_readsHands_N23 {p : Program} {l : Launch} {e : Env} {s : State} {m : MethodId} {args : Array Value} {below : List Frame} {meth : Method} {c : Code} {A : Nat → Prop} {g : gG} {h0 h1 h2 h3 h4 h5 h6 h7 h8 h9 h10 h11 h12 h13 h14 h15 h16 h17 h18 h19 h20 h21 h22 h23 h24 h25 h26 h27 h28 h29 h30 : Nat} {v_courses : Int32} {v_wide : Int32} {v_jumpTold : Int32} {v_frosts : Int32} {v_gaps : Int32} {v_frostsNow : Int32} {v_notFrosts : Int32} {v_gapsNow : Int32} {v_fell : Int32} {v_fellAll : Int32} {v_sheepFirst : Int32} {v_sheepMany : Int32} {v_seens : Int32} {v_finding : Int32} {v_typed : Nat → Int32} {v_texts : Nat → Int32} {k9 : Int32 → (Nat → Int32) → (Nat → Int32) → Int32 → Int32 → Option (Int32 × Int32 × (Nat → Int32) × (Nat → Int32))} {r : (Int32 × Int32 × (Nat → Int32) × (Nat → Int32))} (C0 : gX p s m args meth c cX9_readsHands 4 (some .int) RX9 g A) (hk9 : ∀ (v_hands : Int32) (v_moods : Nat → Int32) (v_strongs : Nat → Int32) (x1 : Int32) (x2 : Int32), k9 v_hands v_moods v_strongs x1 x2 = some r → ∀ (H : Heap) (locs : List Loc) (ls : Array Slot), gW g A s (W_m_readsHands g h0 h1 h2 h3 h4 h5 h6 h7 h8 h9 h10 h11 h12 h13 h14 h15 h16 h17 h18 h19 h20 h21 h22 h23 h24 h25 h26 h27 h28 h29 h30 v_courses v_wide v_hands v_jumpTold v_frosts v_gaps v_frostsNow v_notFrosts v_gapsNow v_fell v_fellAll v_sheepFirst v_sheepMany v_seens v_finding v_typed v_texts v_moods v_strongs) H locs → lv_has ls 4 [(0, .ref h0), (1, .int x1), (2, .int x2)] → W p l e rm_m_readsHands s m args below meth c H locs 0 0 (gQi below args s A g r.1 (W_m_readsHands g h0 h1 h2 h3 h4 h5 h6 h7 h8 h9 h10 h11 h12 h13 h14 h15 h16 h17 h18 h19 h20 h21 h22 h23 h24 h25 h26 h27 h28 h29 h30 v_courses v_wide r.2.1 v_jumpTold v_frosts v_gaps v_frostsNow v_notFrosts v_gapsNow v_fell v_fellAll v_sheepFirst v_sheepMany v_seens v_finding v_typed v_texts r.2.2.1 r.2.2.2)) (F0 m 9 ls [])) : ∀ (v_hands : Int32) (v_moods : Nat → Int32) (v_strongs : Nat → Int32) (x1 : Int32) (x2 : Int32), f_m_readsHands_N23 v_typed v_texts k9 v_hands v_moods v_strongs x1 x2 = some r → ∀ (H : Heap) (locs : List Loc) (ls : Array Slot), gW g A s (W_m_readsHands g h0 h1 h2 h3 h4 h5 h6 h7 h8 h9 h10 h11 h12 h13 h14 h15 h16 h17 h18 h19 h20 h21 h22 h23 h24 h25 h26 h27 h28 h29 h30 v_courses v_wide v_hands v_jumpTold v_frosts v_gaps v_frostsNow v_notFrosts v_gapsNow v_fell v_fellAll v_sheepFirst v_sheepMany v_seens v_finding v_typed v_texts v_moods v_strongs) H locs → lv_has ls 4 [(0, .ref h0), (1, .int x1), (2, .int x2)] → W p l e rm_m_readsHands s m args below meth c H locs 0 0 (gQi below args s A g r.1 (W_m_readsHands g h0 h1 h2 h3 h4 h5 h6 h7 h8 h9 h10 h11 h12 h13 h14 h15 h16 h17 h18 h19 h20 h21 h22 h23 h24 h25 h26 h27 h28 h29 h30 v_courses v_wide r.2.1 v_jumpTold v_frosts v_gaps v_frostsNow v_notFrosts v_gapsNow v_fell v_fellAll v_sheepFirst v_sheepMany v_seens v_finding v_typed v_texts r.2.2.1 r.2.2.2)) (F0 m 23 ls []) := by
  intro v_hands v_moods v_strongs x1 x2 hm H locs ls hw hl
  unfold f_m_readsHands_N23 at hm
  obtain ⟨hx, hb, hr, hml, hown, hts, hlocks, hK, hA⟩ := id C0
  refine lv_aload_n hx hb dX9_readsHands_23 rfl (lv_at hl 0 rfl) ?_
  refine lv_iload_n hx hb dX9_readsHands_24 rfl (lv_at hl 1 rfl) ?_
  refine lv_iload_n hx hb dX9_readsHands_25 rfl (lv_at hl 2 rfl) ?_
  obtain ⟨o26, ho26, hm⟩ := bindE hm
  refine gCalli (ws' := (W_m_readsHands g h0 h1 h2 h3 h4 h5 h6 h7 h8 h9 h10 h11 h12 h13 h14 h15 h16 h17 h18 h19 h20 h21 h22 h23 h24 h25 h26 h27 h28 h29 h30 v_courses v_wide v_hands v_jumpTold v_frosts v_gaps v_frostsNow v_notFrosts v_gapsNow v_fell v_fellAll v_sheepFirst v_sheepMany v_seens v_finding v_typed v_texts o26.2.1 o26.2.2)) C0 hw (gRunV (As := [.int x1, .int x2]) (rest := []) C0 hw lkX9_138 (c_m_readsHand l g H.size h0 h1 h2 h3 h4 h5 h6 h7 h8 h9 h10 h11 h12 h13 h14 h15 h16 h17 h18 h19 h20 h21 h22 h23 h24 h25 h26 h27 h28 h29 h30 v_courses v_wide v_hands v_jumpTold v_frosts v_gaps v_frostsNow v_notFrosts v_gapsNow v_fell v_fellAll v_sheepFirst v_sheepMany v_seens v_finding v_typed v_texts v_moods v_strongs x1 x2 o26 ho26) ⟨rfl, rfl⟩ ⟨Nat.le_of_ble_eq_true rfl, Nat.le_of_ble_eq_true rfl⟩ [0, 1, 2, 3, 4] (by decide) rfl 0 rfl rfl rfl hl.1 rfl (Nat.le_of_ble_eq_true rfl) dX9_readsHands_26) [0, 1, 2, 3, 4] [] rfl rfl trivial [h0, h1, h2, h3, h4] rfl rfl 5 rfl (by decide +kernel) (fun H locs hw => ?_)
  refine lv_istore_n (lv' := [(3, .int o26.1), (0, .ref h0), (1, .int x1), (2, .int x2)]) hx hb dX9_readsHands_29 rfl hl (by decide) rfl (fun ls hl => ?_)
  refine lv_iload_n hx hb dX9_readsHands_30 rfl (lv_at hl 0 rfl) ?_
  refine lv_iconst (v := 2) hx hb dX9_readsHands_31 (by decide) ?_
  refine lv_icmp_ge (tgt := 39) hx hb dX9_readsHands_32 (by decide) (fun hc => ?_) (fun hc => ?_)
  · have hm := ipos hc hm
    refine lv_iinc (v := x1 + (1 : Int32)) (lv' := [(1, .int (x1 + (1 : Int32))), (3, .int o26.1), (0, .ref h0), (2, .int x2)]) hx hb dX9_readsHands_39 hl (k := 2) rfl rfl (by decide) rfl (fun ls hl => ?_)
    refine lv_iinc (v := x2 + (2 : Int32)) (lv' := [(2, .int (x2 + (2 : Int32))), (1, .int (x1 + (1 : Int32))), (3, .int o26.1), (0, .ref h0)]) hx hb dX9_readsHands_42 hl (k := 3) rfl rfl (by decide) rfl (fun ls hl => ?_)
    refine lv_iload_n hx hb dX9_readsHands_45 rfl (lv_at hl 0 rfl) ?_
    refine lv_aload_n hx hb dX9_readsHands_46 rfl (lv_at hl 3 rfl) ?_
    refine gGet C0 hw flX9_7 0 rfl rfl dX9_readsHands_47 ?_
    refine lv_iconst (v := 1) hx hb dX9_readsHands_50 (by decide) ?_
    obtain ⟨hin, hm⟩ := gdE hm
    have hin := inbE hin
    refine gAldI C0 hw 1 rfl hin dX9_readsHands_51 ?_
    refine lv_icmp_ne (tgt := 62) hx hb dX9_readsHands_52 (by decide) (fun hc => ?_) (fun hc => ?_)
    · have hm := ineg hc hm
      refine lv_aload_n hx hb dX9_readsHands_62 rfl (lv_at hl 3 rfl) ?_
      refine lv_iload_n hx hb dX9_readsHands_63 rfl (lv_at hl 0 rfl) ?_
      obtain ⟨o64, ho64, hm⟩ := bindE hm
      refine gCalli (ws' := (W_m_readsHands g h0 h1 h2 h3 h4 h5 h6 h7 h8 h9 h10 h11 h12 h13 h14 h15 h16 h17 h18 h19 h20 h21 h22 h23 h24 h25 h26 h27 h28 h29 h30 v_courses v_wide v_hands v_jumpTold v_frosts v_gaps v_frostsNow v_notFrosts v_gapsNow v_fell v_fellAll v_sheepFirst v_sheepMany v_seens v_finding v_typed v_texts o26.2.1 o26.2.2)) C0 hw (gRunV (As := [.int (x2 + (2 : Int32))]) (rest := []) C0 hw lkX9_131 (c_m_handByte l g H.size h0 h1 h2 h5 h3 h4 h6 h7 h8 h9 h10 h11 h12 h13 h14 h15 h16 h17 h18 h19 h20 h21 h22 h23 h24 h25 h26 h27 h28 h29 h30 v_courses v_wide v_hands v_jumpTold v_frosts v_gaps v_frostsNow v_notFrosts v_gapsNow v_fell v_fellAll v_sheepFirst v_sheepMany v_seens v_finding v_typed v_texts (x2 + (2 : Int32)) o64 ho64) ⟨rfl, rfl⟩ ⟨Nat.le_of_ble_eq_true rfl, Nat.le_of_ble_eq_true rfl⟩ [0, 1, 2] (by decide) rfl 0 rfl rfl rfl hl.1 rfl (Nat.le_of_ble_eq_true rfl) dX9_readsHands_64) [0, 1, 2] [3, 4] rfl rfl ⟨rfl, rfl, trivial⟩ [h0, h1, h2, h3, h4] rfl rfl 5 rfl (by decide +kernel) (fun H locs hw => ?_)
      refine lv_bipush (v := 59) hx hb dX9_readsHands_67 (by decide) ?_
      refine lv_icmp_eq (tgt := 74) hx hb dX9_readsHands_69 (by decide) (fun hc => ?_) (fun hc => ?_)
      · have hm := ipos hc hm
        refine lv_iinc (v := (x2 + (2 : Int32)) + (1 : Int32)) (lv' := [(2, .int ((x2 + (2 : Int32)) + (1 : Int32))), (1, .int (x1 + (1 : Int32))), (3, .int o26.1), (0, .ref h0)]) hx hb dX9_readsHands_74 hl (k := 0) rfl rfl (by decide) rfl (fun ls hl => ?_)
        refine lv_goto (tgt := 9) hx hb dX9_readsHands_77 (by decide) ?_
        exact hk9 _ _ _ _ _ hm _ _ _ hw (lv_sub hl [3, 1, 0] rfl)
      · have hm := ineg hc hm
        refine lv_iload_n hx hb dX9_readsHands_72 rfl (lv_at hl 0 rfl) ?_
        have hm := Option.some.inj hm
        subst hm
        exact gRetI C0 hw dX9_readsHands_73
    · have hm := ipos hc hm
      refine lv_aload_n hx hb dX9_readsHands_55 rfl (lv_at hl 3 rfl) ?_
      refine lv_iload_n hx hb dX9_readsHands_56 rfl (lv_at hl 1 rfl) ?_
      refine gPut (ws' := (W_m_readsHands g h0 h1 h2 h3 h4 h5 h6 h7 h8 h9 h10 h11 h12 h13 h14 h15 h16 h17 h18 h19 h20 h21 h22 h23 h24 h25 h26 h27 h28 h29 h30 v_courses v_wide (x1 + (1 : Int32)) v_jumpTold v_frosts v_gaps v_frostsNow v_notFrosts v_gapsNow v_fell v_fellAll v_sheepFirst v_sheepMany v_seens v_finding v_typed v_texts o26.2.1 o26.2.2)) C0 hw fpX9_135 0 rfl rfl rfl (Nat.le_of_ble_eq_true rfl) rfl dX9_readsHands_57 (fun H locs hw => ?_)
      refine lv_iconst (v := -1) hx hb dX9_readsHands_60 (by decide) ?_
      have hm := Option.some.inj hm
      subst hm
      exact gRetI C0 hw dX9_readsHands_61
  · have hm := ineg hc hm
    refine lv_iload_n hx hb dX9_readsHands_35 rfl (lv_at hl 3 rfl) ?_
    refine lv_iload_n hx hb dX9_readsHands_36 rfl (lv_at hl 0 rfl) ?_
    refine lv_iadd hx hb dX9_readsHands_37 ?_
    have hm := Option.some.inj hm
    subst hm
    exact gRetI C0 hw dX9_readsHands_38
set_option maxHeartbeats 1000000 in
set_option maxRecDepth 100000 in
theorem n_m_readsHands_N9 {p : Program} {l : Launch} {e : Env} {s : State} {m : MethodId} {args : Array Value} {below : List Frame} {meth : Method} {c : Code} {A : Nat → Prop} {g : gG} {h0 h1 h2 h3 h4 h5 h6 h7 h8 h9 h10 h11 h12 h13 h14 h15 h16 h17 h18 h19 h20 h21 h22 h23 h24 h25 h26 h27 h28 h29 h30 : Nat} {v_courses : Int32} {v_wide : Int32} {v_jumpTold : Int32} {v_frosts : Int32} {v_gaps : Int32} {v_frostsNow : Int32} {v_notFrosts : Int32} {v_gapsNow : Int32} {v_fell : Int32} {v_fellAll : Int32} {v_sheepFirst : Int32} {v_sheepMany : Int32} {v_seens : Int32} {v_finding : Int32} {v_typed : Nat → Int32} {v_texts : Nat → Int32} {k9 : Int32 → (Nat → Int32) → (Nat → Int32) → Int32 → Int32 → Option (Int32 × Int32 × (Nat → Int32) × (Nat → Int32))} {r : (Int32 × Int32 × (Nat → Int32) × (Nat → Int32))} (C0 : gX p s m args meth c cX9_readsHands 4 (some .int) RX9 g A) (hk9 : ∀ (v_hands : Int32) (v_moods : Nat → Int32) (v_strongs : Nat → Int32) (x1 : Int32) (x2 : Int32), k9 v_hands v_moods v_strongs x1 x2 = some r → ∀ (H : Heap) (locs : List Loc) (ls : Array Slot), gW g A s (W_m_readsHands g h0 h1 h2 h3 h4 h5 h6 h7 h8 h9 h10 h11 h12 h13 h14 h15 h16 h17 h18 h19 h20 h21 h22 h23 h24 h25 h26 h27 h28 h29 h30 v_courses v_wide v_hands v_jumpTold v_frosts v_gaps v_frostsNow v_notFrosts v_gapsNow v_fell v_fellAll v_sheepFirst v_sheepMany v_seens v_finding v_typed v_texts v_moods v_strongs) H locs → lv_has ls 4 [(0, .ref h0), (1, .int x1), (2, .int x2)] → W p l e rm_m_readsHands s m args below meth c H locs 0 0 (gQi below args s A g r.1 (W_m_readsHands g h0 h1 h2 h3 h4 h5 h6 h7 h8 h9 h10 h11 h12 h13 h14 h15 h16 h17 h18 h19 h20 h21 h22 h23 h24 h25 h26 h27 h28 h29 h30 v_courses v_wide r.2.1 v_jumpTold v_frosts v_gaps v_frostsNow v_notFrosts v_gapsNow v_fell v_fellAll v_sheepFirst v_sheepMany v_seens v_finding v_typed v_texts r.2.2.1 r.2.2.2)) (F0 m 9 ls [])) : ∀ (v_hands : Int32) (v_moods : Nat → Int32) (v_strongs : Nat → Int32) (x1 : Int32) (x2 : Int32), f_m_readsHands_N9 v_typed v_texts k9 v_hands v_moods v_strongs x1 x2 = some r → ∀ (H : Heap) (locs : List Loc) (ls : Array Slot), gW g A s (W_m_readsHands g h0 h1 h2 h3 h4 h5 h6 h7 h8 h9 h10 h11 h12 h13 h14 h15 h16 h17 h18 h19 h20 h21 h22 h23 h24 h25 h26 h27 h28 h29 h30 v_courses v_wide v_hands v_jumpTold v_frosts v_gaps v_frostsNow v_notFrosts v_gapsNow v_fell v_fellAll v_sheepFirst v_sheepMany v_seens v_finding v_typed v_texts v_moods v_strongs) H locs → lv_has ls 4 [(0, .ref h0), (1, .int x1), (2, .int x2)] → W p l e rm_m_readsHands s m args below meth c H locs 0 0 (gQi below args s A g r.1 (W_m_readsHands g h0 h1 h2 h3 h4 h5 h6 h7 h8 h9 h10 h11 h12 h13 h14 h15 h16 h17 h18 h19 h20 h21 h22 h23 h24 h25 h26 h27 h28 h29 h30 v_courses v_wide r.2.1 v_jumpTold v_frosts v_gaps v_frostsNow v_notFrosts v_gapsNow v_fell v_fellAll v_sheepFirst v_sheepMany v_seens v_finding v_typed v_texts r.2.2.1 r.2.2.2)) (F0 m 9 ls []) := by
  intro v_hands v_moods v_strongs x1 x2 hm H locs ls hw hl
  unfold f_m_readsHands_N9 at hm
  obtain ⟨hx, hb, hr, hml, hown, hts, hlocks, hK, hA⟩ := id C0
  refine lv_iload_n hx hb dX9_readsHands_9 rfl (lv_at hl 2 rfl) ?_
  refine lv_aload_n hx hb dX9_readsHands_10 rfl (lv_at hl 0 rfl) ?_
  refine gGet C0 hw flX9_7 0 rfl rfl dX9_readsHands_11 ?_
  refine lv_iconst (v := 1) hx hb dX9_readsHands_14 (by decide) ?_
  obtain ⟨hin, hm⟩ := gdE hm
  have hin := inbE hin
  refine gAldI C0 hw 1 rfl hin dX9_readsHands_15 ?_
  refine lv_icmp_lt (tgt := 23) hx hb dX9_readsHands_16 (by decide) (fun hc => ?_) (fun hc => ?_)
  · have hm := ipos hc hm
    exact n_m_readsHands_N23 C0 hk9 _ _ _ _ _ hm _ _ _ hw (lv_sub hl [0, 1, 2] rfl)
  · have hm := ineg hc hm
    refine lv_iload_n hx hb dX9_readsHands_19 rfl (lv_at hl 2 rfl) ?_
    refine lv_if_le (tgt := 80) hx hb dX9_readsHands_20 (by decide) (fun hc => ?_) (fun hc => ?_)
    · have hm := ipos hc hm
      refine lv_iconst (v := -1) hx hb dX9_readsHands_80 (by decide) ?_
      have hm := Option.some.inj hm
      subst hm
      exact gRetI C0 hw dX9_readsHands_81
    · have hm := ineg hc hm
      exact n_m_readsHands_N23 C0 hk9 _ _ _ _ _ hm _ _ _ hw (lv_sub hl [0, 1, 2] rfl)
set_option maxHeartbeats 1000000 in
set_option maxRecDepth 100000 in
theorem l_m_readsHands_N9 {p : Program} {l : Launch} {e : Env} {s : State} {m : MethodId} {args : Array Value} {below : List Frame} {meth : Method} {c : Code} {A : Nat → Prop} {g : gG} {h0 h1 h2 h3 h4 h5 h6 h7 h8 h9 h10 h11 h12 h13 h14 h15 h16 h17 h18 h19 h20 h21 h22 h23 h24 h25 h26 h27 h28 h29 h30 : Nat} {v_courses : Int32} {v_wide : Int32} {v_jumpTold : Int32} {v_frosts : Int32} {v_gaps : Int32} {v_frostsNow : Int32} {v_notFrosts : Int32} {v_gapsNow : Int32} {v_fell : Int32} {v_fellAll : Int32} {v_sheepFirst : Int32} {v_sheepMany : Int32} {v_seens : Int32} {v_finding : Int32} {v_typed : Nat → Int32} {v_texts : Nat → Int32} {r : (Int32 × Int32 × (Nat → Int32) × (Nat → Int32))} (C0 : gX p s m args meth c cX9_readsHands 4 (some .int) RX9 g A) : ∀ n : Nat, ∀ (v_hands : Int32) (v_moods : Nat → Int32) (v_strongs : Nat → Int32) (x1 : Int32) (x2 : Int32), iter (fun _ _ _ _ _ => none) (f_m_readsHands_N9 v_typed v_texts) n v_hands v_moods v_strongs x1 x2 = some r → ∀ (H : Heap) (locs : List Loc) (ls : Array Slot), gW g A s (W_m_readsHands g h0 h1 h2 h3 h4 h5 h6 h7 h8 h9 h10 h11 h12 h13 h14 h15 h16 h17 h18 h19 h20 h21 h22 h23 h24 h25 h26 h27 h28 h29 h30 v_courses v_wide v_hands v_jumpTold v_frosts v_gaps v_frostsNow v_notFrosts v_gapsNow v_fell v_fellAll v_sheepFirst v_sheepMany v_seens v_finding v_typed v_texts v_moods v_strongs) H locs → lv_has ls 4 [(0, .ref h0), (1, .int x1), (2, .int x2)] → W p l e rm_m_readsHands s m args below meth c H locs 0 0 (gQi below args s A g r.1 (W_m_readsHands g h0 h1 h2 h3 h4 h5 h6 h7 h8 h9 h10 h11 h12 h13 h14 h15 h16 h17 h18 h19 h20 h21 h22 h23 h24 h25 h26 h27 h28 h29 h30 v_courses v_wide r.2.1 v_jumpTold v_frosts v_gaps v_frostsNow v_notFrosts v_gapsNow v_fell v_fellAll v_sheepFirst v_sheepMany v_seens v_finding v_typed v_texts r.2.2.1 r.2.2.2)) (F0 m 9 ls []) := by
  intro n
  induction n with
  | zero =>
    intro v_hands v_moods v_strongs x1 x2 hm
    cases hm
  | succ n ih =>
    exact n_m_readsHands_N9 C0  ih
set_option maxHeartbeats 1000000 in
set_option maxRecDepth 100000 in
theorem c_m_readsHands (l : Launch) (g : gG) (sz : Nat) (h0 h1 h2 h3 h4 h5 h6 h7 h8 h9 h10 h11 h12 h13 h14 h15 h16 h17 h18 h19 h20 h21 h22 h23 h24 h25 h26 h27 h28 h29 h30 : Nat) (v_courses : Int32) (v_wide : Int32) (v_hands : Int32) (v_jumpTold : Int32) (v_frosts : Int32) (v_gaps : Int32) (v_frostsNow : Int32) (v_notFrosts : Int32) (v_gapsNow : Int32) (v_fell : Int32) (v_fellAll : Int32) (v_sheepFirst : Int32) (v_sheepMany : Int32) (v_seens : Int32) (v_finding : Int32) (v_typed : Nat → Int32) (v_texts : Nat → Int32) (v_moods : Nat → Int32) (v_strongs : Nat → Int32) (r : (Int32 × Int32 × (Nat → Int32) × (Nat → Int32))) (hm : f_m_readsHands v_hands v_typed v_texts v_moods v_strongs = some r) : gMi l yX9_readsHands cX9_readsHands 4 (some .int) rm_m_readsHands g sz [.ref h0] (W_m_readsHands g h0 h1 h2 h3 h4 h5 h6 h7 h8 h9 h10 h11 h12 h13 h14 h15 h16 h17 h18 h19 h20 h21 h22 h23 h24 h25 h26 h27 h28 h29 h30 v_courses v_wide v_hands v_jumpTold v_frosts v_gaps v_frostsNow v_notFrosts v_gapsNow v_fell v_fellAll v_sheepFirst v_sheepMany v_seens v_finding v_typed v_texts v_moods v_strongs) r.1 (W_m_readsHands g h0 h1 h2 h3 h4 h5 h6 h7 h8 h9 h10 h11 h12 h13 h14 h15 h16 h17 h18 h19 h20 h21 h22 h23 h24 h25 h26 h27 h28 h29 h30 v_courses v_wide r.2.1 v_jumpTold v_frosts v_gaps v_frostsNow v_notFrosts v_gapsNow v_fell v_fellAll v_sheepFirst v_sheepMany v_seens v_finding v_typed v_texts r.2.2.1 r.2.2.2) := by
  unfold f_m_readsHands at hm
  refine gEnterI (by decide) (Nat.le_of_ble_eq_true rfl) (fun p e s m below meth c A C0 H locs hw ls hl => ?_)
  obtain ⟨hx, hb, hr, hml, hown, hts, hlocks, hK, hA⟩ := id C0
  have C0 : gX p s m [.ref h0].toArray meth c cX9_readsHands 4 (some .int) RX9 g A := C0
  have hl : lv_has ls 4 [(0, .ref h0)] := hl
  refine lv_iconst (v := 0) hx hb dX9_readsHands_0 (by decide) ?_
  refine lv_istore_n (lv' := [(1, .int (0 : Int32)), (0, .ref h0)]) hx hb dX9_readsHands_1 rfl hl (by decide) rfl (fun ls hl => ?_)
  refine lv_iconst (v := 0) hx hb dX9_readsHands_2 (by decide) ?_
  refine lv_istore_n (lv' := [(2, .int (0 : Int32)), (1, .int (0 : Int32)), (0, .ref h0)]) hx hb dX9_readsHands_3 rfl hl (by decide) rfl (fun ls hl => ?_)
  refine lv_aload_n hx hb dX9_readsHands_4 rfl (lv_at hl 2 rfl) ?_
  refine lv_iconst (v := 0) hx hb dX9_readsHands_5 (by decide) ?_
  refine gPut (ws' := (W_m_readsHands g h0 h1 h2 h3 h4 h5 h6 h7 h8 h9 h10 h11 h12 h13 h14 h15 h16 h17 h18 h19 h20 h21 h22 h23 h24 h25 h26 h27 h28 h29 h30 v_courses v_wide (0 : Int32) v_jumpTold v_frosts v_gaps v_frostsNow v_notFrosts v_gapsNow v_fell v_fellAll v_sheepFirst v_sheepMany v_seens v_finding v_typed v_texts v_moods v_strongs)) C0 hw fpX9_135 0 rfl rfl rfl (Nat.le_of_ble_eq_true rfl) rfl dX9_readsHands_6 (fun H locs hw => ?_)
  exact l_m_readsHands_N9 C0  1000 _ _ _ _ _ hm _ _ _ hw (lv_sub hl [2, 1, 0] rfl)

-- WallHandsModel.faultOf(I)I
abbrev W_m_faultOf (g : gG) (h0 h1 h2 h3 h4 h5 h6 h7 h8 h9 h10 h11 h12 h13 h14 h15 h16 h17 h18 h19 h20 h21 h22 h23 h24 h25 h26 h27 h28 h29 h30 : Nat) (v_courses : Int32) (v_wide : Int32) (v_hands : Int32) (v_jumpTold : Int32) (v_frosts : Int32) (v_gaps : Int32) (v_frostsNow : Int32) (v_notFrosts : Int32) (v_gapsNow : Int32) (v_fell : Int32) (v_fellAll : Int32) (v_sheepFirst : Int32) (v_sheepMany : Int32) (v_seens : Int32) (v_finding : Int32) (v_typed : Nat → Int32) (v_texts : Nat → Int32) (v_told : Nat → Int32) (v_moods : Nat → Int32) (v_strongs : Nat → Int32) : va_W := [(h0, .inr (9, [.ref h1, .ref h2, .int v_courses, .int v_wide, .ref h3, .int v_hands, .ref h4, .ref h5, .int v_jumpTold, .int v_frosts, .ref h6, .ref h7, .int v_gaps, .ref h8, .ref h9, .ref h10, .ref h11, .int v_frostsNow, .ref h12, .ref h13, .int v_notFrosts, .int v_gapsNow, .ref h14, .int v_fell, .int v_fellAll, .ref h15, .ref h16, .ref h17, .ref h18, .ref h19, .ref h20, .ref h21, .int v_sheepFirst, .int v_sheepMany, .int v_seens, .ref h22, .ref h23, .ref h24, .ref h25, .ref h26, .ref h27, .ref h28, .ref h29, .ref h30, .int v_finding])), (h1, .inl (gI g, 2, .inl v_typed)), (h2, .inl (gI g, 88, .inl v_texts)), (h3, .inl (gI g, 48, .inl v_told)), (h4, .inl (gI g, 9, .inl v_moods)), (h5, .inl (gI g, 9, .inl v_strongs))]

abbrev rm_m_faultOf : Room := { frames := 3, cells := 0, slots := 0, locals := 71 }

set_option maxHeartbeats 1000000 in
set_option maxRecDepth 100000 in
theorem c_m_faultOf (l : Launch) (g : gG) (sz : Nat) (h0 h1 h2 h3 h4 h5 h6 h7 h8 h9 h10 h11 h12 h13 h14 h15 h16 h17 h18 h19 h20 h21 h22 h23 h24 h25 h26 h27 h28 h29 h30 : Nat) (v_courses : Int32) (v_wide : Int32) (v_hands : Int32) (v_jumpTold : Int32) (v_frosts : Int32) (v_gaps : Int32) (v_frostsNow : Int32) (v_notFrosts : Int32) (v_gapsNow : Int32) (v_fell : Int32) (v_fellAll : Int32) (v_sheepFirst : Int32) (v_sheepMany : Int32) (v_seens : Int32) (v_finding : Int32) (v_typed : Nat → Int32) (v_texts : Nat → Int32) (v_told : Nat → Int32) (v_moods : Nat → Int32) (v_strongs : Nat → Int32) (a0 : Int32) (r : (Int32 × Int32 × Int32 × Int32 × (Nat → Int32) × (Nat → Int32) × (Nat → Int32))) (hm : f_m_faultOf v_courses v_wide v_hands v_typed v_texts v_told v_moods v_strongs a0 = some r) : gMi l yX9_faultOf cX9_faultOf 4 (some .int) rm_m_faultOf g sz [.ref h0, .int a0] (W_m_faultOf g h0 h1 h2 h3 h4 h5 h6 h7 h8 h9 h10 h11 h12 h13 h14 h15 h16 h17 h18 h19 h20 h21 h22 h23 h24 h25 h26 h27 h28 h29 h30 v_courses v_wide v_hands v_jumpTold v_frosts v_gaps v_frostsNow v_notFrosts v_gapsNow v_fell v_fellAll v_sheepFirst v_sheepMany v_seens v_finding v_typed v_texts v_told v_moods v_strongs) r.1 (W_m_faultOf g h0 h1 h2 h3 h4 h5 h6 h7 h8 h9 h10 h11 h12 h13 h14 h15 h16 h17 h18 h19 h20 h21 h22 h23 h24 h25 h26 h27 h28 h29 h30 r.2.1 r.2.2.1 r.2.2.2.1 v_jumpTold v_frosts v_gaps v_frostsNow v_notFrosts v_gapsNow v_fell v_fellAll v_sheepFirst v_sheepMany v_seens v_finding v_typed v_texts r.2.2.2.2.1 r.2.2.2.2.2.1 r.2.2.2.2.2.2) := by
  unfold f_m_faultOf at hm
  refine gEnterI (by decide) (Nat.le_of_ble_eq_true rfl) (fun p e s m below meth c A C0 H locs hw ls hl => ?_)
  obtain ⟨hx, hb, hr, hml, hown, hts, hlocks, hK, hA⟩ := id C0
  have C0 : gX p s m [.ref h0, .int a0].toArray meth c cX9_faultOf 4 (some .int) RX9 g A := C0
  have hl : lv_has ls 4 [(0, .ref h0), (1, .int a0)] := hl
  refine lv_aload_n hx hb dX9_faultOf_0 rfl (lv_at hl 0 rfl) ?_
  obtain ⟨o1, ho1, hm⟩ := bindE hm
  refine gCalli (ws' := (W_m_faultOf g h0 h1 h2 h3 h4 h5 h6 h7 h8 h9 h10 h11 h12 h13 h14 h15 h16 h17 h18 h19 h20 h21 h22 h23 h24 h25 h26 h27 h28 h29 h30 o1.2.1 o1.2.2.1 v_hands v_jumpTold v_frosts v_gaps v_frostsNow v_notFrosts v_gapsNow v_fell v_fellAll v_sheepFirst v_sheepMany v_seens v_finding v_typed v_texts o1.2.2.2 v_moods v_strongs)) C0 hw (gRunV (As := []) (rest := []) C0 hw lkX9_142 (c_m_readsWall l g H.size h0 h1 h2 h3 h4 h5 h6 h7 h8 h9 h10 h11 h12 h13 h14 h15 h16 h17 h18 h19 h20 h21 h22 h23 h24 h25 h26 h27 h28 h29 h30 v_courses v_wide v_hands v_jumpTold v_frosts v_gaps v_frostsNow v_notFrosts v_gapsNow v_fell v_fellAll v_sheepFirst v_sheepMany v_seens v_finding v_typed v_texts v_told o1 ho1) ⟨rfl, rfl⟩ ⟨Nat.le_of_ble_eq_true rfl, Nat.le_of_ble_eq_true rfl⟩ [0, 1, 2, 3] (by decide) rfl 0 rfl rfl rfl hl.1 rfl (Nat.le_of_ble_eq_true rfl) dX9_faultOf_1) [0, 1, 2, 3] [4, 5] rfl rfl ⟨rfl, rfl, trivial⟩ [h0, h1, h2, h3, h4, h5] rfl rfl 6 rfl (by decide +kernel) (fun H locs hw => ?_)
  refine lv_istore_n (lv' := [(2, .int o1.1), (0, .ref h0), (1, .int a0)]) hx hb dX9_faultOf_4 rfl hl (by decide) rfl (fun ls hl => ?_)
  refine lv_aload_n hx hb dX9_faultOf_5 rfl (lv_at hl 1 rfl) ?_
  obtain ⟨o6, ho6, hm⟩ := bindE hm
  refine gCalli (ws' := (W_m_faultOf g h0 h1 h2 h3 h4 h5 h6 h7 h8 h9 h10 h11 h12 h13 h14 h15 h16 h17 h18 h19 h20 h21 h22 h23 h24 h25 h26 h27 h28 h29 h30 o1.2.1 o1.2.2.1 o6.2.1 v_jumpTold v_frosts v_gaps v_frostsNow v_notFrosts v_gapsNow v_fell v_fellAll v_sheepFirst v_sheepMany v_seens v_finding v_typed v_texts o1.2.2.2 o6.2.2.1 o6.2.2.2)) C0 hw (gRunV (As := []) (rest := []) C0 hw lkX9_145 (c_m_readsHands l g H.size h0 h1 h2 h4 h5 h3 h6 h7 h8 h9 h10 h11 h12 h13 h14 h15 h16 h17 h18 h19 h20 h21 h22 h23 h24 h25 h26 h27 h28 h29 h30 o1.2.1 o1.2.2.1 v_hands v_jumpTold v_frosts v_gaps v_frostsNow v_notFrosts v_gapsNow v_fell v_fellAll v_sheepFirst v_sheepMany v_seens v_finding v_typed v_texts v_moods v_strongs o6 ho6) ⟨rfl, rfl⟩ ⟨Nat.le_of_ble_eq_true rfl, Nat.le_of_ble_eq_true rfl⟩ [0, 1, 2, 4, 5] (by decide) rfl 0 rfl rfl rfl hl.1 rfl (Nat.le_of_ble_eq_true rfl) dX9_faultOf_6) [0, 1, 2, 4, 5] [3] rfl rfl ⟨rfl, trivial⟩ [h0, h1, h2, h3, h4, h5] rfl rfl 6 rfl (by decide +kernel) (fun H locs hw => ?_)
  refine lv_istore_n (lv' := [(3, .int o6.1), (2, .int o1.1), (0, .ref h0), (1, .int a0)]) hx hb dX9_faultOf_9 rfl hl (by decide) rfl (fun ls hl => ?_)
  refine lv_iload_n hx hb dX9_faultOf_10 rfl (lv_at hl 3 rfl) ?_
  refine lv_if_ne (tgt := 18) hx hb dX9_faultOf_11 (by decide) (fun hc => ?_) (fun hc => ?_)
  · have hm := ineg hc hm
    refine lv_iload_n hx hb dX9_faultOf_18 rfl (lv_at hl 0 rfl) ?_
    have hm := Option.some.inj hm
    subst hm
    exact gRetI C0 hw dX9_faultOf_19
  · have hm := ipos hc hm
    refine lv_iload_n hx hb dX9_faultOf_14 rfl (lv_at hl 1 rfl) ?_
    refine lv_goto (tgt := 19) hx hb dX9_faultOf_15 (by decide) ?_
    have hm := Option.some.inj hm
    subst hm
    exact gRetI C0 hw dX9_faultOf_19
