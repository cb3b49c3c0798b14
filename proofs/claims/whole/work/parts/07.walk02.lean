-- WallHands$Years.nowOf(I)J
abbrev W_ys_nowOf (g : gG) (h0 h1 h2 h3 h4 h5 h6 h7 h8 h9 h10 : Nat) (v_all : Int64) (v_losers : Int32) (v_hands_told : Int32) (v_hands_fault : Int32) (v_hands_mood : Nat → Int32) (v_now : Nat → Int64) : va_W := [(h0, .inr (7, [.ref h4, .ref h1, .ref h5, .ref h3, .long v_all, .ref h6, .ref h7, .ref h8, .ref h9, .int v_losers])), (h1, .inr (2, [.ref h2, .ref h10, .int v_hands_told, .int v_hands_fault])), (h2, .inl (gI g, 8, .inl v_hands_mood)), (h3, .inl (gJ g, 8, .inr (.inl v_now)))]

abbrev rm_ys_nowOf : Room := { frames := 0, cells := 0, slots := 0, locals := 0 }

set_option maxHeartbeats 1000000 in
set_option maxRecDepth 100000 in
theorem n_ys_nowOf_N5 {p : Program} {l : Launch} {e : Env} {s : State} {m : MethodId} {args : Array Value} {below : List Frame} {meth : Method} {c : Code} {A : Nat → Prop} {g : gG} {h0 h1 h2 h3 h4 h5 h6 h7 h8 h9 h10 : Nat} {v_all : Int64} {v_losers : Int32} {v_hands_told : Int32} {v_hands_fault : Int32} {v_hands_mood : Nat → Int32} {v_now : Nat → Int64} {k5 : Int32 → Int64 → Int32 → Option Int64} {r : Int64} (C0 : gX p s m args meth c cX7_nowOf 5 (some .long) RX7 g A) (hk5 : ∀ (x1 : Int32) (x2 : Int64) (x4 : Int32), k5 x1 x2 x4 = some r → ∀ (H : Heap) (locs : List Loc) (ls : Array Slot), gW g A s (W_ys_nowOf g h0 h1 h2 h3 h4 h5 h6 h7 h8 h9 h10 v_all v_losers v_hands_told v_hands_fault v_hands_mood v_now) H locs → lv_has ls 5 [(0, .ref h0), (1, .int x1), (2, .long x2), (4, .int x4)] → W p l e rm_ys_nowOf s m args below meth c H locs 0 0 (gQl below args s A g r (W_ys_nowOf g h0 h1 h2 h3 h4 h5 h6 h7 h8 h9 h10 v_all v_losers v_hands_told v_hands_fault v_hands_mood v_now)) (F0 m 5 ls [])) : ∀ (x1 : Int32) (x2 : Int64) (x4 : Int32), f_ys_nowOf_N5 v_hands_told v_hands_mood v_now k5 x1 x2 x4 = some r → ∀ (H : Heap) (locs : List Loc) (ls : Array Slot), gW g A s (W_ys_nowOf g h0 h1 h2 h3 h4 h5 h6 h7 h8 h9 h10 v_all v_losers v_hands_told v_hands_fault v_hands_mood v_now) H locs → lv_has ls 5 [(0, .ref h0), (1, .int x1), (2, .long x2), (4, .int x4)] → W p l e rm_ys_nowOf s m args below meth c H locs 0 0 (gQl below args s A g r (W_ys_nowOf g h0 h1 h2 h3 h4 h5 h6 h7 h8 h9 h10 v_all v_losers v_hands_told v_hands_fault v_hands_mood v_now)) (F0 m 5 ls []) := by
  intro x1 x2 x4 hm H locs ls hw hl
  unfold f_ys_nowOf_N5 at hm
  obtain ⟨hx, hb, hr, hml, hown, hts, hlocks, hK, hA⟩ := id C0
  refine lv_iload hx hb dX7_nowOf_5 (lv_at hl 3 rfl) ?_
  refine lv_aload_n hx hb dX7_nowOf_7 rfl (lv_at hl 0 rfl) ?_
  refine gGet C0 hw flX7_32 0 rfl rfl dX7_nowOf_8 ?_
  refine gGet C0 hw flX7_81 1 rfl rfl dX7_nowOf_11 ?_
  refine lv_icmp_ge (tgt := 47) hx hb dX7_nowOf_14 (by decide) (fun hc => ?_) (fun hc => ?_)
  · have hm := ipos hc hm
    refine lv_lload_n hx hb dX7_nowOf_47 rfl (lv_at hl 2 rfl) ?_
    have hm := Option.some.inj hm
    subst hm
    exact gRetL C0 hw dX7_nowOf_48
  · have hm := ineg hc hm
    refine lv_aload_n hx hb dX7_nowOf_17 rfl (lv_at hl 0 rfl) ?_
    refine gGet C0 hw flX7_32 0 rfl rfl dX7_nowOf_18 ?_
    refine gGet C0 hw flX7_109 1 rfl rfl dX7_nowOf_21 ?_
    refine lv_iload hx hb dX7_nowOf_24 (lv_at hl 3 rfl) ?_
    obtain ⟨hin, hm⟩ := gdE hm
    have hin := inbE hin
    refine gAldI C0 hw 2 rfl hin dX7_nowOf_26 ?_
    refine lv_iload_n hx hb dX7_nowOf_27 rfl (lv_at hl 1 rfl) ?_
    refine lv_icmp_ne (tgt := 41) hx hb dX7_nowOf_28 (by decide) (fun hc => ?_) (fun hc => ?_)
    · have hm := ineg hc hm
      refine lv_iinc (v := x4 + (1 : Int32)) (lv' := [(4, .int (x4 + (1 : Int32))), (0, .ref h0), (1, .int x1), (2, .long x2)]) hx hb dX7_nowOf_41 hl (k := 3) rfl rfl (by decide) rfl (fun ls hl => ?_)
      refine lv_goto (tgt := 5) hx hb dX7_nowOf_44 (by decide) ?_
      exact hk5 _ _ _ hm _ _ _ hw (lv_sub hl [1, 2, 3, 0] rfl)
    · have hm := ipos hc hm
      refine lv_lload_n hx hb dX7_nowOf_31 rfl (lv_at hl 2 rfl) ?_
      refine lv_aload_n hx hb dX7_nowOf_32 rfl (lv_at hl 0 rfl) ?_
      refine gGet C0 hw flX7_9 0 rfl rfl dX7_nowOf_33 ?_
      refine lv_iload hx hb dX7_nowOf_36 (lv_at hl 3 rfl) ?_
      obtain ⟨hin, hm⟩ := gdE hm
      have hin := inbE hin
      refine gAldJ C0 hw 3 rfl hin dX7_nowOf_38 ?_
      refine lv_lor hx hb dX7_nowOf_39 ?_
      refine lv_lstore_n (lv' := [(2, .long (x2 ||| (v_now x4.toNatClampNeg))), (0, .ref h0), (1, .int x1), (4, .int x4)]) hx hb dX7_nowOf_40 rfl hl (by decide) rfl (fun ls hl => ?_)
      refine lv_iinc (v := x4 + (1 : Int32)) (lv' := [(4, .int (x4 + (1 : Int32))), (2, .long (x2 ||| (v_now x4.toNatClampNeg))), (0, .ref h0), (1, .int x1)]) hx hb dX7_nowOf_41 hl (k := 3) rfl rfl (by decide) rfl (fun ls hl => ?_)
      refine lv_goto (tgt := 5) hx hb dX7_nowOf_44 (by decide) ?_
      exact hk5 _ _ _ hm _ _ _ hw (lv_sub hl [2, 3, 1, 0] rfl)
set_option maxHeartbeats 1000000 in
set_option maxRecDepth 100000 in
theorem l_ys_nowOf_N5 {p : Program} {l : Launch} {e : Env} {s : State} {m : MethodId} {args : Array Value} {below : List Frame} {meth : Method} {c : Code} {A : Nat → Prop} {g : gG} {h0 h1 h2 h3 h4 h5 h6 h7 h8 h9 h10 : Nat} {v_all : Int64} {v_losers : Int32} {v_hands_told : Int32} {v_hands_fault : Int32} {v_hands_mood : Nat → Int32} {v_now : Nat → Int64} {r : Int64} (C0 : gX p s m args meth c cX7_nowOf 5 (some .long) RX7 g A) : ∀ n : Nat, ∀ (x1 : Int32) (x2 : Int64) (x4 : Int32), iter (fun _ _ _ => none) (f_ys_nowOf_N5 v_hands_told v_hands_mood v_now) n x1 x2 x4 = some r → ∀ (H : Heap) (locs : List Loc) (ls : Array Slot), gW g A s (W_ys_nowOf g h0 h1 h2 h3 h4 h5 h6 h7 h8 h9 h10 v_all v_losers v_hands_told v_hands_fault v_hands_mood v_now) H locs → lv_has ls 5 [(0, .ref h0), (1, .int x1), (2, .long x2), (4, .int x4)] → W p l e rm_ys_nowOf s m args below meth c H locs 0 0 (gQl below args s A g r (W_ys_nowOf g h0 h1 h2 h3 h4 h5 h6 h7 h8 h9 h10 v_all v_losers v_hands_told v_hands_fault v_hands_mood v_now)) (F0 m 5 ls []) := by
  intro n
  induction n with
  | zero =>
    intro x1 x2 x4 hm
    cases hm
  | succ n ih =>
    exact n_ys_nowOf_N5 C0  ih
set_option maxHeartbeats 1000000 in
set_option maxRecDepth 100000 in
theorem c_ys_nowOf (l : Launch) (g : gG) (sz : Nat) (h0 h1 h2 h3 h4 h5 h6 h7 h8 h9 h10 : Nat) (v_all : Int64) (v_losers : Int32) (v_hands_told : Int32) (v_hands_fault : Int32) (v_hands_mood : Nat → Int32) (v_now : Nat → Int64) (a0 : Int32) (r : Int64) (hm : f_ys_nowOf v_hands_told v_hands_mood v_now a0 = some r) : gMl l yX7_nowOf cX7_nowOf 5 (some .long) rm_ys_nowOf g sz [.ref h0, .int a0] (W_ys_nowOf g h0 h1 h2 h3 h4 h5 h6 h7 h8 h9 h10 v_all v_losers v_hands_told v_hands_fault v_hands_mood v_now) r (W_ys_nowOf g h0 h1 h2 h3 h4 h5 h6 h7 h8 h9 h10 v_all v_losers v_hands_told v_hands_fault v_hands_mood v_now) := by
  unfold f_ys_nowOf at hm
  refine gEnterL (by decide) (Nat.le_of_ble_eq_true rfl) (fun p e s m below meth c A C0 H locs hw ls hl => ?_)
  obtain ⟨hx, hb, hr, hml, hown, hts, hlocks, hK, hA⟩ := id C0
  have C0 : gX p s m [.ref h0, .int a0].toArray meth c cX7_nowOf 5 (some .long) RX7 g A := C0
  have hl : lv_has ls 5 [(0, .ref h0), (1, .int a0)] := hl
  refine lv_lconst (v := 0) hx hb dX7_nowOf_0 (by decide) ?_
  refine lv_lstore_n (lv' := [(2, .long (0 : Int64)), (0, .ref h0), (1, .int a0)]) hx hb dX7_nowOf_1 rfl hl (by decide) rfl (fun ls hl => ?_)
  refine lv_iconst (v := 0) hx hb dX7_nowOf_2 (by decide) ?_
  refine lv_istore (lv' := [(4, .int (0 : Int32)), (2, .long (0 : Int64)), (0, .ref h0), (1, .int a0)]) hx hb dX7_nowOf_3 hl (by decide) rfl (fun ls hl => ?_)
  exact l_ys_nowOf_N5 C0  1000 _ _ _ hm _ _ _ hw (lv_sub hl [2, 3, 1, 0] rfl)

-- WallHands$Years.holdingOf(II)J
abbrev W_ys_holdingOf (g : gG) (h0 h1 h2 h3 h4 h5 h6 h7 h8 h9 h10 : Nat) (v_all : Int64) (v_losers : Int32) (v_hands_told : Int32) (v_hands_fault : Int32) (v_hands_mood : Nat → Int32) (v_hands_strong : Nat → Int32) (v_now : Nat → Int64) : va_W := [(h0, .inr (7, [.ref h5, .ref h1, .ref h6, .ref h4, .long v_all, .ref h7, .ref h8, .ref h9, .ref h10, .int v_losers])), (h1, .inr (2, [.ref h2, .ref h3, .int v_hands_told, .int v_hands_fault])), (h2, .inl (gI g, 8, .inl v_hands_mood)), (h3, .inl (gI g, 8, .inl v_hands_strong)), (h4, .inl (gJ g, 8, .inr (.inl v_now)))]

abbrev rm_ys_holdingOf : Room := { frames := 1, cells := 0, slots := 0, locals := 30 }

set_option maxHeartbeats 1000000 in
set_option maxRecDepth 100000 in
theorem n_ys_holdingOf_N87 {p : Program} {l : Launch} {e : Env} {s : State} {m : MethodId} {args : Array Value} {below : List Frame} {meth : Method} {c : Code} {A : Nat → Prop} {g : gG} {h0 h1 h2 h3 h4 h5 h6 h7 h8 h9 h10 : Nat} {v_all : Int64} {v_losers : Int32} {v_hands_told : Int32} {v_hands_fault : Int32} {v_hands_mood : Nat → Int32} {v_hands_strong : Nat → Int32} {v_now : Nat → Int64} {k87 : Int64 → Int32 → Int64 → Int32 → Option Int64} {r : Int64} (C0 : gX p s m args meth c cX7_holdingOf 9 (some .long) RX7 g A) (hk87 : ∀ (x3 : Int64) (x5 : Int32) (x6 : Int64) (x8 : Int32), k87 x3 x5 x6 x8 = some r → ∀ (H : Heap) (locs : List Loc) (ls : Array Slot), gW g A s (W_ys_holdingOf g h0 h1 h2 h3 h4 h5 h6 h7 h8 h9 h10 v_all v_losers v_hands_told v_hands_fault v_hands_mood v_hands_strong v_now) H locs → lv_has ls 9 [(0, .ref h0), (3, .long x3), (5, .int x5), (6, .long x6), (8, .int x8)] → W p l e rm_ys_holdingOf s m args below meth c H locs 0 0 (gQl below args s A g r (W_ys_holdingOf g h0 h1 h2 h3 h4 h5 h6 h7 h8 h9 h10 v_all v_losers v_hands_told v_hands_fault v_hands_mood v_hands_strong v_now)) (F0 m 87 ls [])) : ∀ (x3 : Int64) (x5 : Int32) (x6 : Int64) (x8 : Int32), f_ys_holdingOf_N87 v_all v_hands_told v_hands_mood v_hands_strong v_now k87 x3 x5 x6 x8 = some r → ∀ (H : Heap) (locs : List Loc) (ls : Array Slot), gW g A s (W_ys_holdingOf g h0 h1 h2 h3 h4 h5 h6 h7 h8 h9 h10 v_all v_losers v_hands_told v_hands_fault v_hands_mood v_hands_strong v_now) H locs → lv_has ls 9 [(0, .ref h0), (3, .long x3), (5, .int x5), (6, .long x6), (8, .int x8)] → W p l e rm_ys_holdingOf s m args below meth c H locs 0 0 (gQl below args s A g r (W_ys_holdingOf g h0 h1 h2 h3 h4 h5 h6 h7 h8 h9 h10 v_all v_losers v_hands_told v_hands_fault v_hands_mood v_hands_strong v_now)) (F0 m 87 ls []) := by
  intro x3 x5 x6 x8 hm H locs ls hw hl
  unfold f_ys_holdingOf_N87 at hm
  obtain ⟨hx, hb, hr, hml, hown, hts, hlocks, hK, hA⟩ := id C0
  refine lv_iload hx hb dX7_holdingOf_87 (lv_at hl 4 rfl) ?_
  refine lv_iconst (v := 4) hx hb dX7_holdingOf_89 (by decide) ?_
  refine lv_icmp_gt (tgt := 135) hx hb dX7_holdingOf_90 (by decide) (fun hc => ?_) (fun hc => ?_)
  · have hm := ipos hc hm
    refine lv_goto (tgt := 224) hx hb dX7_holdingOf_135 (by decide) ?_
    refine lv_lload_n hx hb dX7_holdingOf_224 rfl (lv_at hl 1 rfl) ?_
    refine lv_lload hx hb dX7_holdingOf_225 (lv_at hl 3 rfl) ?_
    refine lv_land hx hb dX7_holdingOf_227 ?_
    have hm := Option.some.inj hm
    subst hm
    exact gRetL C0 hw dX7_holdingOf_228
  · have hm := ineg hc hm
    refine lv_lload hx hb dX7_holdingOf_93 (lv_at hl 3 rfl) ?_
    refine lv_lload_n hx hb dX7_holdingOf_95 rfl (lv_at hl 1 rfl) ?_
    refine lv_iload hx hb dX7_holdingOf_96 (lv_at hl 2 rfl) ?_
    refine lv_iload hx hb dX7_holdingOf_98 (lv_at hl 4 rfl) ?_
    refine lv_iadd hx hb dX7_holdingOf_100 ?_
    obtain ⟨o101, ho101, hm⟩ := bindE hm
    refine gCalll (ws' := (W_ys_holdingOf g h0 h1 h2 h3 h4 h5 h6 h7 h8 h9 h10 v_all v_losers v_hands_told v_hands_fault v_hands_mood v_hands_strong v_now)) C0 hw (gRunN (As := [.long x3, .int (x5 + x8)]) (rest := [.long x6]) C0 hw lkX7_112 (c_x_besideAtLeast l g H.size  x3 (x5 + x8) o101 ho101) ⟨rfl, rfl⟩ ⟨Nat.le_of_ble_eq_true rfl, Nat.le_of_ble_eq_true rfl⟩ [] (by decide) rfl rfl hl.1 rfl (Nat.le_of_ble_eq_true rfl) dX7_holdingOf_101) [] [0, 1, 2, 3, 4] rfl rfl ⟨rfl, rfl, rfl, rfl, rfl, trivial⟩ [h0, h1, h2, h3, h4] rfl rfl 5 rfl (by decide +kernel) (fun H locs hw => ?_)
    refine lv_aload_n hx hb dX7_holdingOf_104 rfl (lv_at hl 0 rfl) ?_
    refine gGet C0 hw flX7_53 0 rfl rfl dX7_holdingOf_105 ?_
    refine lv_lload_n hx hb dX7_holdingOf_108 rfl (lv_at hl 1 rfl) ?_
    refine lv_ldc2 (v := -1) hx hb hown (hts _ kX7_99) dX7_holdingOf_109 ?_
    refine lv_lxor hx hb dX7_holdingOf_112 ?_
    refine lv_land hx hb dX7_holdingOf_113 ?_
    refine lv_iload hx hb dX7_holdingOf_114 (lv_at hl 4 rfl) ?_
    refine lv_iconst (v := 1) hx hb dX7_holdingOf_116 (by decide) ?_
    refine lv_iadd hx hb dX7_holdingOf_117 ?_
    obtain ⟨o118, ho118, hm⟩ := bindE hm
    refine gCalll (ws' := (W_ys_holdingOf g h0 h1 h2 h3 h4 h5 h6 h7 h8 h9 h10 v_all v_losers v_hands_told v_hands_fault v_hands_mood v_hands_strong v_now)) C0 hw (gRunN (As := [.long (v_all &&& (x3 ^^^ (-1 : Int64))), .int (x8 + (1 : Int32))]) (rest := [.long o101, .long x6]) C0 hw lkX7_112 (c_x_besideAtLeast l g H.size  (v_all &&& (x3 ^^^ (-1 : Int64))) (x8 + (1 : Int32)) o118 ho118) ⟨rfl, rfl⟩ ⟨Nat.le_of_ble_eq_true rfl, Nat.le_of_ble_eq_true rfl⟩ [] (by decide) rfl rfl hl.1 rfl (Nat.le_of_ble_eq_true rfl) dX7_holdingOf_118) [] [0, 1, 2, 3, 4] rfl rfl ⟨rfl, rfl, rfl, rfl, rfl, trivial⟩ [h0, h1, h2, h3, h4] rfl rfl 5 rfl (by decide +kernel) (fun H locs hw => ?_)
    refine lv_ldc2 (v := -1) hx hb hown (hts _ kX7_99) dX7_holdingOf_121 ?_
    refine lv_lxor hx hb dX7_holdingOf_124 ?_
    refine lv_land hx hb dX7_holdingOf_125 ?_
    refine lv_lor hx hb dX7_holdingOf_126 ?_
    refine lv_lstore (lv' := [(6, .long (x6 ||| (o101 &&& (o118 ^^^ (-1 : Int64))))), (0, .ref h0), (3, .long x3), (5, .int x5), (8, .int x8)]) hx hb dX7_holdingOf_127 hl (by decide) rfl (fun ls hl => ?_)
    refine lv_iinc (v := x8 + (1 : Int32)) (lv' := [(8, .int (x8 + (1 : Int32))), (6, .long (x6 ||| (o101 &&& (o118 ^^^ (-1 : Int64))))), (0, .ref h0), (3, .long x3), (5, .int x5)]) hx hb dX7_holdingOf_129 hl (k := 4) rfl rfl (by decide) rfl (fun ls hl => ?_)
    refine lv_goto (tgt := 87) hx hb dX7_holdingOf_132 (by decide) ?_
    exact hk87 _ _ _ _ hm _ _ _ hw (lv_sub hl [2, 3, 4, 1, 0] rfl)
set_option maxHeartbeats 1000000 in
set_option maxRecDepth 100000 in
theorem l_ys_holdingOf_N87 {p : Program} {l : Launch} {e : Env} {s : State} {m : MethodId} {args : Array Value} {below : List Frame} {meth : Method} {c : Code} {A : Nat → Prop} {g : gG} {h0 h1 h2 h3 h4 h5 h6 h7 h8 h9 h10 : Nat} {v_all : Int64} {v_losers : Int32} {v_hands_told : Int32} {v_hands_fault : Int32} {v_hands_mood : Nat → Int32} {v_hands_strong : Nat → Int32} {v_now : Nat → Int64} {r : Int64} (C0 : gX p s m args meth c cX7_holdingOf 9 (some .long) RX7 g A) : ∀ n : Nat, ∀ (x3 : Int64) (x5 : Int32) (x6 : Int64) (x8 : Int32), iter (fun _ _ _ _ => none) (f_ys_holdingOf_N87 v_all v_hands_told v_hands_mood v_hands_strong v_now) n x3 x5 x6 x8 = some r → ∀ (H : Heap) (locs : List Loc) (ls : Array Slot), gW g A s (W_ys_holdingOf g h0 h1 h2 h3 h4 h5 h6 h7 h8 h9 h10 v_all v_losers v_hands_told v_hands_fault v_hands_mood v_hands_strong v_now) H locs → lv_has ls 9 [(0, .ref h0), (3, .long x3), (5, .int x5), (6, .long x6), (8, .int x8)] → W p l e rm_ys_holdingOf s m args below meth c H locs 0 0 (gQl below args s A g r (W_ys_holdingOf g h0 h1 h2 h3 h4 h5 h6 h7 h8 h9 h10 v_all v_losers v_hands_told v_hands_fault v_hands_mood v_hands_strong v_now)) (F0 m 87 ls []) := by
  intro n
  induction n with
  | zero =>
    intro x3 x5 x6 x8 hm
    cases hm
  | succ n ih =>
    exact n_ys_holdingOf_N87 C0  ih
set_option maxHeartbeats 1000000 in
set_option maxRecDepth 100000 in
theorem n_ys_holdingOf_N177 {p : Program} {l : Launch} {e : Env} {s : State} {m : MethodId} {args : Array Value} {below : List Frame} {meth : Method} {c : Code} {A : Nat → Prop} {g : gG} {h0 h1 h2 h3 h4 h5 h6 h7 h8 h9 h10 : Nat} {v_all : Int64} {v_losers : Int32} {v_hands_told : Int32} {v_hands_fault : Int32} {v_hands_mood : Nat → Int32} {v_hands_strong : Nat → Int32} {v_now : Nat → Int64} {k177 : Int64 → Int32 → Int64 → Int32 → Option Int64} {r : Int64} (C0 : gX p s m args meth c cX7_holdingOf 9 (some .long) RX7 g A) (hk177 : ∀ (x3 : Int64) (x5 : Int32) (x6 : Int64) (x8 : Int32), k177 x3 x5 x6 x8 = some r → ∀ (H : Heap) (locs : List Loc) (ls : Array Slot), gW g A s (W_ys_holdingOf g h0 h1 h2 h3 h4 h5 h6 h7 h8 h9 h10 v_all v_losers v_hands_told v_hands_fault v_hands_mood v_hands_strong v_now) H locs → lv_has ls 9 [(3, .long x3), (5, .int x5), (6, .long x6), (8, .int x8)] → W p l e rm_ys_holdingOf s m args below meth c H locs 0 0 (gQl below args s A g r (W_ys_holdingOf g h0 h1 h2 h3 h4 h5 h6 h7 h8 h9 h10 v_all v_losers v_hands_told v_hands_fault v_hands_mood v_hands_strong v_now)) (F0 m 177 ls [])) : ∀ (x3 : Int64) (x5 : Int32) (x6 : Int64) (x8 : Int32), f_ys_holdingOf_N177 v_all v_hands_told v_hands_mood v_hands_strong v_now k177 x3 x5 x6 x8 = some r → ∀ (H : Heap) (locs : List Loc) (ls : Array Slot), gW g A s (W_ys_holdingOf g h0 h1 h2 h3 h4 h5 h6 h7 h8 h9 h10 v_all v_losers v_hands_told v_hands_fault v_hands_mood v_hands_strong v_now) H locs → lv_has ls 9 [(3, .long x3), (5, .int x5), (6, .long x6), (8, .int x8)] → W p l e rm_ys_holdingOf s m args below meth c H locs 0 0 (gQl below args s A g r (W_ys_holdingOf g h0 h1 h2 h3 h4 h5 h6 h7 h8 h9 h10 v_all v_losers v_hands_told v_hands_fault v_hands_mood v_hands_strong v_now)) (F0 m 177 ls []) := by
  intro x3 x5 x6 x8 hm H locs ls hw hl
  unfold f_ys_holdingOf_N177 at hm
  obtain ⟨hx, hb, hr, hml, hown, hts, hlocks, hK, hA⟩ := id C0
  refine lv_iload hx hb dX7_holdingOf_177 (lv_at hl 3 rfl) ?_
  refine lv_iconst (v := 5) hx hb dX7_holdingOf_179 (by decide) ?_
  refine lv_icmp_ge (tgt := 213) hx hb dX7_holdingOf_180 (by decide) (fun hc => ?_) (fun hc => ?_)
  · have hm := ipos hc hm
    refine lv_goto (tgt := 224) hx hb dX7_holdingOf_213 (by decide) ?_
    refine lv_lload_n hx hb dX7_holdingOf_224 rfl (lv_at hl 0 rfl) ?_
    refine lv_lload hx hb dX7_holdingOf_225 (lv_at hl 2 rfl) ?_
    refine lv_land hx hb dX7_holdingOf_227 ?_
    have hm := Option.some.inj hm
    subst hm
    exact gRetL C0 hw dX7_holdingOf_228
  · have hm := ineg hc hm
    refine lv_lload hx hb dX7_holdingOf_183 (lv_at hl 2 rfl) ?_
    refine lv_lload_n hx hb dX7_holdingOf_185 rfl (lv_at hl 0 rfl) ?_
    refine lv_iload hx hb dX7_holdingOf_186 (lv_at hl 1 rfl) ?_
    refine lv_iload hx hb dX7_holdingOf_188 (lv_at hl 3 rfl) ?_
    refine lv_iadd hx hb dX7_holdingOf_190 ?_
    obtain ⟨o191, ho191, hm⟩ := bindE hm
    refine gCalll (ws' := (W_ys_holdingOf g h0 h1 h2 h3 h4 h5 h6 h7 h8 h9 h10 v_all v_losers v_hands_told v_hands_fault v_hands_mood v_hands_strong v_now)) C0 hw (gRunN (As := [.long x3, .int (x5 + x8)]) (rest := [.long x6]) C0 hw lkX7_112 (c_x_besideAtLeast l g H.size  x3 (x5 + x8) o191 ho191) ⟨rfl, rfl⟩ ⟨Nat.le_of_ble_eq_true rfl, Nat.le_of_ble_eq_true rfl⟩ [] (by decide) rfl rfl hl.1 rfl (Nat.le_of_ble_eq_true rfl) dX7_holdingOf_191) [] [0, 1, 2, 3, 4] rfl rfl ⟨rfl, rfl, rfl, rfl, rfl, trivial⟩ [h0, h1, h2, h3, h4] rfl rfl 5 rfl (by decide +kernel) (fun H locs hw => ?_)
    refine lv_ldc2 (v := 255) hx hb hown (hts _ kX7_120) dX7_holdingOf_194 ?_
    refine lv_bipush (v := 8) hx hb dX7_holdingOf_197 (by decide) ?_
    refine lv_iload hx hb dX7_holdingOf_199 (lv_at hl 3 rfl) ?_
    refine lv_imul hx hb dX7_holdingOf_201 ?_
    refine lv_lshl (v := lshl (255 : Int64) ((8 : Int32) * x8)) hx hb dX7_holdingOf_202 rfl ?_
    refine lv_land hx hb dX7_holdingOf_203 ?_
    refine lv_lor hx hb dX7_holdingOf_204 ?_
    refine lv_lstore (lv' := [(6, .long (x6 ||| (o191 &&& (lshl (255 : Int64) ((8 : Int32) * x8))))), (3, .long x3), (5, .int x5), (8, .int x8)]) hx hb dX7_holdingOf_205 hl (by decide) rfl (fun ls hl => ?_)
    refine lv_iinc (v := x8 + (1 : Int32)) (lv' := [(8, .int (x8 + (1 : Int32))), (6, .long (x6 ||| (o191 &&& (lshl (255 : Int64) ((8 : Int32) * x8))))), (3, .long x3), (5, .int x5)]) hx hb dX7_holdingOf_207 hl (k := 3) rfl rfl (by decide) rfl (fun ls hl => ?_)
    refine lv_goto (tgt := 177) hx hb dX7_holdingOf_210 (by decide) ?_
    exact hk177 _ _ _ _ hm _ _ _ hw (lv_sub hl [2, 3, 1, 0] rfl)
set_option maxHeartbeats 1000000 in
set_option maxRecDepth 100000 in
theorem l_ys_holdingOf_N177 {p : Program} {l : Launch} {e : Env} {s : State} {m : MethodId} {args : Array Value} {below : List Frame} {meth : Method} {c : Code} {A : Nat → Prop} {g : gG} {h0 h1 h2 h3 h4 h5 h6 h7 h8 h9 h10 : Nat} {v_all : Int64} {v_losers : Int32} {v_hands_told : Int32} {v_hands_fault : Int32} {v_hands_mood : Nat → Int32} {v_hands_strong : Nat → Int32} {v_now : Nat → Int64} {r : Int64} (C0 : gX p s m args meth c cX7_holdingOf 9 (some .long) RX7 g A) : ∀ n : Nat, ∀ (x3 : Int64) (x5 : Int32) (x6 : Int64) (x8 : Int32), iter (fun _ _ _ _ => none) (f_ys_holdingOf_N177 v_all v_hands_told v_hands_mood v_hands_strong v_now) n x3 x5 x6 x8 = some r → ∀ (H : Heap) (locs : List Loc) (ls : Array Slot), gW g A s (W_ys_holdingOf g h0 h1 h2 h3 h4 h5 h6 h7 h8 h9 h10 v_all v_losers v_hands_told v_hands_fault v_hands_mood v_hands_strong v_now) H locs → lv_has ls 9 [(3, .long x3), (5, .int x5), (6, .long x6), (8, .int x8)] → W p l e rm_ys_holdingOf s m args below meth c H locs 0 0 (gQl below args s A g r (W_ys_holdingOf g h0 h1 h2 h3 h4 h5 h6 h7 h8 h9 h10 v_all v_losers v_hands_told v_hands_fault v_hands_mood v_hands_strong v_now)) (F0 m 177 ls []) := by
  intro n
  induction n with
  | zero =>
    intro x3 x5 x6 x8 hm
    cases hm
  | succ n ih =>
    exact n_ys_holdingOf_N177 C0  ih
set_option maxHeartbeats 1000000 in
set_option maxRecDepth 100000 in
theorem c_ys_holdingOf (l : Launch) (g : gG) (sz : Nat) (h0 h1 h2 h3 h4 h5 h6 h7 h8 h9 h10 : Nat) (v_all : Int64) (v_losers : Int32) (v_hands_told : Int32) (v_hands_fault : Int32) (v_hands_mood : Nat → Int32) (v_hands_strong : Nat → Int32) (v_now : Nat → Int64) (a0 : Int32) (a1 : Int32) (r : Int64) (hm : f_ys_holdingOf v_all v_hands_told v_hands_mood v_hands_strong v_now a0 a1 = some r) : gMl l yX7_holdingOf cX7_holdingOf 9 (some .long) rm_ys_holdingOf g sz [.ref h0, .int a0, .int a1] (W_ys_holdingOf g h0 h1 h2 h3 h4 h5 h6 h7 h8 h9 h10 v_all v_losers v_hands_told v_hands_fault v_hands_mood v_hands_strong v_now) r (W_ys_holdingOf g h0 h1 h2 h3 h4 h5 h6 h7 h8 h9 h10 v_all v_losers v_hands_told v_hands_fault v_hands_mood v_hands_strong v_now) := by
  unfold f_ys_holdingOf at hm
  refine gEnterL (by decide) (Nat.le_of_ble_eq_true rfl) (fun p e s m below meth c A C0 H locs hw ls hl => ?_)
  obtain ⟨hx, hb, hr, hml, hown, hts, hlocks, hK, hA⟩ := id C0
  have C0 : gX p s m [.ref h0, .int a0, .int a1].toArray meth c cX7_holdingOf 9 (some .long) RX7 g A := C0
  have hl : lv_has ls 9 [(0, .ref h0), (1, .int a0), (2, .int a1)] := hl
  refine lv_iload_n hx hb dX7_holdingOf_0 rfl (lv_at hl 1 rfl) ?_
  refine lv_aload_n hx hb dX7_holdingOf_1 rfl (lv_at hl 0 rfl) ?_
  refine gGet C0 hw flX7_32 0 rfl rfl dX7_holdingOf_2 ?_
  refine gGet C0 hw flX7_81 1 rfl rfl dX7_holdingOf_5 ?_
  refine lv_icmp_ge (tgt := 22) hx hb dX7_holdingOf_8 (by decide) (fun hc => ?_) (fun hc => ?_)
  · have hm := ipos hc hm
    refine lv_lconst (v := 0) hx hb dX7_holdingOf_22 (by decide) ?_
    have hm := Option.some.inj hm
    subst hm
    exact gRetL C0 hw dX7_holdingOf_23
  · have hm := ineg hc hm
    refine lv_aload_n hx hb dX7_holdingOf_11 rfl (lv_at hl 0 rfl) ?_
    refine gGet C0 hw flX7_9 0 rfl rfl dX7_holdingOf_12 ?_
    refine lv_iload_n hx hb dX7_holdingOf_15 rfl (lv_at hl 1 rfl) ?_
    obtain ⟨hin, hm⟩ := gdE hm
    have hin := inbE hin
    refine gAldJ C0 hw 4 rfl hin dX7_holdingOf_16 ?_
    refine lv_lconst (v := 0) hx hb dX7_holdingOf_17 (by decide) ?_
    refine W.lcmp hx hb dX7_holdingOf_18 ?_
    refine lv_if_ne (tgt := 24) hx hb dX7_holdingOf_19 (by decide) (fun hc => ?_) (fun hc => ?_)
    · have hm := ineg hc hm
      refine lv_aload_n hx hb dX7_holdingOf_24 rfl (lv_at hl 0 rfl) ?_
      refine gGet C0 hw flX7_9 0 rfl rfl dX7_holdingOf_25 ?_
      refine lv_iload_n hx hb dX7_holdingOf_28 rfl (lv_at hl 1 rfl) ?_
      obtain ⟨hin, hm⟩ := gdE hm
      have hin := inbE hin
      refine gAldJ C0 hw 4 rfl hin dX7_holdingOf_29 ?_
      refine lv_lstore_n (lv' := [(3, .long (v_now a0.toNatClampNeg)), (0, .ref h0), (1, .int a0), (2, .int a1)]) hx hb dX7_holdingOf_30 rfl hl (by decide) rfl (fun ls hl => ?_)
      refine lv_iload_n hx hb dX7_holdingOf_31 rfl (lv_at hl 3 rfl) ?_
      refine lv_aload_n hx hb dX7_holdingOf_32 rfl (lv_at hl 1 rfl) ?_
      refine gGet C0 hw flX7_32 0 rfl rfl dX7_holdingOf_33 ?_
      refine gGet C0 hw flX7_106 1 rfl rfl dX7_holdingOf_36 ?_
      refine lv_iload_n hx hb dX7_holdingOf_39 rfl (lv_at hl 2 rfl) ?_
      obtain ⟨hin, hm⟩ := gdE hm
      have hin := inbE hin
      refine gAldI C0 hw 3 rfl hin dX7_holdingOf_40 ?_
      refine lv_isub hx hb dX7_holdingOf_41 ?_
      refine lv_istore (lv' := [(5, .int (a1 - (v_hands_strong a0.toNatClampNeg))), (3, .long (v_now a0.toNatClampNeg)), (0, .ref h0), (1, .int a0), (2, .int a1)]) hx hb dX7_holdingOf_42 hl (by decide) rfl (fun ls hl => ?_)
      refine lv_lconst (v := 0) hx hb dX7_holdingOf_44 (by decide) ?_
      refine lv_lstore (lv' := [(6, .long (0 : Int64)), (5, .int (a1 - (v_hands_strong a0.toNatClampNeg))), (3, .long (v_now a0.toNatClampNeg)), (0, .ref h0), (1, .int a0), (2, .int a1)]) hx hb dX7_holdingOf_45 hl (by decide) rfl (fun ls hl => ?_)
      refine lv_aload_n hx hb dX7_holdingOf_47 rfl (lv_at hl 3 rfl) ?_
      refine gGet C0 hw flX7_32 0 rfl rfl dX7_holdingOf_48 ?_
      refine gGet C0 hw flX7_109 1 rfl rfl dX7_holdingOf_51 ?_
      refine lv_iload_n hx hb dX7_holdingOf_54 rfl (lv_at hl 4 rfl) ?_
      obtain ⟨hin, hm⟩ := gdE hm
      have hin := inbE hin
      refine gAldI C0 hw 2 rfl hin dX7_holdingOf_55 ?_
      by_cases hc1 : v_hands_mood a0.toNatClampNeg = (1 : Int32)
      · have hm := ipos hc1 hm
        refine gSw (tgt := 84) (off := 28) C0 hc1 dX7_holdingOf_56 ⟨by decide, by decide, by decide⟩ ?_
        refine lv_iconst (v := 0) hx hb dX7_holdingOf_84 (by decide) ?_
        refine lv_istore (lv' := [(8, .int (0 : Int32)), (6, .long (0 : Int64)), (5, .int (a1 - (v_hands_strong a0.toNatClampNeg))), (3, .long (v_now a0.toNatClampNeg)), (0, .ref h0), (1, .int a0), (2, .int a1)]) hx hb dX7_holdingOf_85 hl (by decide) rfl (fun ls hl => ?_)
        exact l_ys_holdingOf_N87 C0  1000 _ _ _ _ hm _ _ _ hw (lv_sub hl [4, 3, 2, 1, 0] rfl)
      have hm := ineg hc1 hm
      by_cases hc2 : v_hands_mood a0.toNatClampNeg = (2 : Int32)
      · have hm := ipos hc2 hm
        refine gSw (tgt := 138) (off := 82) C0 hc2 dX7_holdingOf_56 ⟨by decide, by decide, by decide⟩ ?_
        refine lv_lload_n hx hb dX7_holdingOf_138 rfl (lv_at hl 2 rfl) ?_
        refine lv_iload hx hb dX7_holdingOf_139 (lv_at hl 1 rfl) ?_
        obtain ⟨o141, ho141, hm⟩ := bindE hm
        refine gCalll (ws' := (W_ys_holdingOf g h0 h1 h2 h3 h4 h5 h6 h7 h8 h9 h10 v_all v_losers v_hands_told v_hands_fault v_hands_mood v_hands_strong v_now)) C0 hw (gRunN (As := [.long (v_now a0.toNatClampNeg), .int (a1 - (v_hands_strong a0.toNatClampNeg))]) (rest := []) C0 hw lkX7_112 (c_x_besideAtLeast l g H.size  (v_now a0.toNatClampNeg) (a1 - (v_hands_strong a0.toNatClampNeg)) o141 ho141) ⟨rfl, rfl⟩ ⟨Nat.le_of_ble_eq_true rfl, Nat.le_of_ble_eq_true rfl⟩ [] (by decide) rfl rfl hl.1 rfl (Nat.le_of_ble_eq_true rfl) dX7_holdingOf_141) [] [0, 1, 2, 3, 4] rfl rfl ⟨rfl, rfl, rfl, rfl, rfl, trivial⟩ [h0, h1, h2, h3, h4] rfl rfl 5 rfl (by decide +kernel) (fun H locs hw => ?_)
        refine lv_lload_n hx hb dX7_holdingOf_144 rfl (lv_at hl 2 rfl) ?_
        refine lv_iload hx hb dX7_holdingOf_145 (lv_at hl 1 rfl) ?_
        refine lv_iconst (v := 2) hx hb dX7_holdingOf_147 (by decide) ?_
        refine lv_isub hx hb dX7_holdingOf_148 ?_
        obtain ⟨o149, ho149, hm⟩ := bindE hm
        refine gCalll (ws' := (W_ys_holdingOf g h0 h1 h2 h3 h4 h5 h6 h7 h8 h9 h10 v_all v_losers v_hands_told v_hands_fault v_hands_mood v_hands_strong v_now)) C0 hw (gRunN (As := [.long (v_now a0.toNatClampNeg), .int ((a1 - (v_hands_strong a0.toNatClampNeg)) - (2 : Int32))]) (rest := [.long o141]) C0 hw lkX7_112 (c_x_besideAtLeast l g H.size  (v_now a0.toNatClampNeg) ((a1 - (v_hands_strong a0.toNatClampNeg)) - (2 : Int32)) o149 ho149) ⟨rfl, rfl⟩ ⟨Nat.le_of_ble_eq_true rfl, Nat.le_of_ble_eq_true rfl⟩ [] (by decide) rfl rfl hl.1 rfl (Nat.le_of_ble_eq_true rfl) dX7_holdingOf_149) [] [0, 1, 2, 3, 4] rfl rfl ⟨rfl, rfl, rfl, rfl, rfl, trivial⟩ [h0, h1, h2, h3, h4] rfl rfl 5 rfl (by decide +kernel) (fun H locs hw => ?_)
        refine lv_aload_n hx hb dX7_holdingOf_152 rfl (lv_at hl 3 rfl) ?_
        refine lv_iconst (v := 2) hx hb dX7_holdingOf_153 (by decide) ?_
        obtain ⟨o154, ho154, hm⟩ := bindE hm
        refine gCalll (ws' := (W_ys_holdingOf g h0 h1 h2 h3 h4 h5 h6 h7 h8 h9 h10 v_all v_losers v_hands_told v_hands_fault v_hands_mood v_hands_strong v_now)) C0 hw (gRunV (As := [.int (2 : Int32)]) (rest := [.long o149, .long o141]) C0 hw lkX7_116 (c_ys_nowOf l g H.size h0 h1 h2 h4 h5 h6 h7 h8 h9 h10 h3 v_all v_losers v_hands_told v_hands_fault v_hands_mood v_now (2 : Int32) o154 ho154) ⟨rfl, rfl⟩ ⟨Nat.le_of_ble_eq_true rfl, Nat.le_of_ble_eq_true rfl⟩ [0, 1, 2, 4] (by decide) rfl 0 rfl rfl rfl hl.1 rfl (Nat.le_of_ble_eq_true rfl) dX7_holdingOf_154) [0, 1, 2, 4] [3] rfl rfl ⟨rfl, trivial⟩ [h0, h1, h2, h3, h4] rfl rfl 5 rfl (by decide +kernel) (fun H locs hw => ?_)
        refine lv_lload_n hx hb dX7_holdingOf_157 rfl (lv_at hl 2 rfl) ?_
        refine lv_ldc2 (v := -1) hx hb hown (hts _ kX7_99) dX7_holdingOf_158 ?_
        refine lv_lxor hx hb dX7_holdingOf_161 ?_
        refine lv_land hx hb dX7_holdingOf_162 ?_
        refine lv_iconst (v := 1) hx hb dX7_holdingOf_163 (by decide) ?_
        obtain ⟨o164, ho164, hm⟩ := bindE hm
        refine gCalll (ws' := (W_ys_holdingOf g h0 h1 h2 h3 h4 h5 h6 h7 h8 h9 h10 v_all v_losers v_hands_told v_hands_fault v_hands_mood v_hands_strong v_now)) C0 hw (gRunN (As := [.long (o154 &&& ((v_now a0.toNatClampNeg) ^^^ (-1 : Int64))), .int (1 : Int32)]) (rest := [.long o149, .long o141]) C0 hw lkX7_112 (c_x_besideAtLeast l g H.size  (o154 &&& ((v_now a0.toNatClampNeg) ^^^ (-1 : Int64))) (1 : Int32) o164 ho164) ⟨rfl, rfl⟩ ⟨Nat.le_of_ble_eq_true rfl, Nat.le_of_ble_eq_true rfl⟩ [] (by decide) rfl rfl hl.1 rfl (Nat.le_of_ble_eq_true rfl) dX7_holdingOf_164) [] [0, 1, 2, 3, 4] rfl rfl ⟨rfl, rfl, rfl, rfl, rfl, trivial⟩ [h0, h1, h2, h3, h4] rfl rfl 5 rfl (by decide +kernel) (fun H locs hw => ?_)
        refine lv_land hx hb dX7_holdingOf_167 ?_
        refine lv_lor hx hb dX7_holdingOf_168 ?_
        refine lv_lstore (lv' := [(6, .long (o141 ||| (o149 &&& o164))), (5, .int (a1 - (v_hands_strong a0.toNatClampNeg))), (3, .long (v_now a0.toNatClampNeg)), (0, .ref h0), (1, .int a0), (2, .int a1)]) hx hb dX7_holdingOf_169 hl (by decide) rfl (fun ls hl => ?_)
        refine lv_goto (tgt := 224) hx hb dX7_holdingOf_171 (by decide) ?_
        refine lv_lload_n hx hb dX7_holdingOf_224 rfl (lv_at hl 2 rfl) ?_
        refine lv_lload hx hb dX7_holdingOf_225 (lv_at hl 0 rfl) ?_
        refine lv_land hx hb dX7_holdingOf_227 ?_
        have hm := Option.some.inj hm
        subst hm
        exact gRetL C0 hw dX7_holdingOf_228
      have hm := ineg hc2 hm
      by_cases hc3 : v_hands_mood a0.toNatClampNeg = (3 : Int32)
      · have hm := ipos hc3 hm
        refine gSw (tgt := 174) (off := 118) C0 hc3 dX7_holdingOf_56 ⟨by decide, by decide, by decide⟩ ?_
        refine lv_iconst (v := 0) hx hb dX7_holdingOf_174 (by decide) ?_
        refine lv_istore (lv' := [(8, .int (0 : Int32)), (6, .long (0 : Int64)), (5, .int (a1 - (v_hands_strong a0.toNatClampNeg))), (3, .long (v_now a0.toNatClampNeg)), (0, .ref h0), (1, .int a0), (2, .int a1)]) hx hb dX7_holdingOf_175 hl (by decide) rfl (fun ls hl => ?_)
        exact l_ys_holdingOf_N177 C0  1000 _ _ _ _ hm _ _ _ hw (lv_sub hl [3, 2, 1, 0] rfl)
      have hm := ineg hc3 hm
      refine gSwD (tgt := 216) C0 dX7_holdingOf_56 ?_ (by decide) ?_
      · intro k hk h
        have hk : k < 3 := hk
        rcases (show k = 0 ∨ k = 1 ∨ k = 2 by omega) with rfl | rfl | rfl
        · exact hc1 (Int32.toInt_inj.mp (h.trans (by decide)))
        · exact hc2 (Int32.toInt_inj.mp (h.trans (by decide)))
        · exact hc3 (Int32.toInt_inj.mp (h.trans (by decide)))
      refine lv_lload_n hx hb dX7_holdingOf_216 rfl (lv_at hl 2 rfl) ?_
      refine lv_iload hx hb dX7_holdingOf_217 (lv_at hl 1 rfl) ?_
      obtain ⟨o219, ho219, hm⟩ := bindE hm
      refine gCalll (ws' := (W_ys_holdingOf g h0 h1 h2 h3 h4 h5 h6 h7 h8 h9 h10 v_all v_losers v_hands_told v_hands_fault v_hands_mood v_hands_strong v_now)) C0 hw (gRunN (As := [.long (v_now a0.toNatClampNeg), .int (a1 - (v_hands_strong a0.toNatClampNeg))]) (rest := []) C0 hw lkX7_112 (c_x_besideAtLeast l g H.size  (v_now a0.toNatClampNeg) (a1 - (v_hands_strong a0.toNatClampNeg)) o219 ho219) ⟨rfl, rfl⟩ ⟨Nat.le_of_ble_eq_true rfl, Nat.le_of_ble_eq_true rfl⟩ [] (by decide) rfl rfl hl.1 rfl (Nat.le_of_ble_eq_true rfl) dX7_holdingOf_219) [] [0, 1, 2, 3, 4] rfl rfl ⟨rfl, rfl, rfl, rfl, rfl, trivial⟩ [h0, h1, h2, h3, h4] rfl rfl 5 rfl (by decide +kernel) (fun H locs hw => ?_)
      refine lv_lstore (lv' := [(6, .long o219), (5, .int (a1 - (v_hands_strong a0.toNatClampNeg))), (3, .long (v_now a0.toNatClampNeg)), (0, .ref h0), (1, .int a0), (2, .int a1)]) hx hb dX7_holdingOf_222 hl (by decide) rfl (fun ls hl => ?_)
      refine lv_lload_n hx hb dX7_holdingOf_224 rfl (lv_at hl 2 rfl) ?_
      refine lv_lload hx hb dX7_holdingOf_225 (lv_at hl 0 rfl) ?_
      refine lv_land hx hb dX7_holdingOf_227 ?_
      have hm := Option.some.inj hm
      subst hm
      exact gRetL C0 hw dX7_holdingOf_228
    · have hm := ipos hc hm
      refine lv_lconst (v := 0) hx hb dX7_holdingOf_22 (by decide) ?_
      have hm := Option.some.inj hm
      subst hm
      exact gRetL C0 hw dX7_holdingOf_23

-- WallHands$Years.freeze(LWallHands$Frosts;II)I
abbrev W_ys_freeze (g : gG) (h0 h1 h2 h3 h4 h5 h6 h7 h8 h9 h10 h11 h12 h13 : Nat) (v_all : Int64) (v_losers : Int32) (v_hands_told : Int32) (v_hands_fault : Int32) (v_hands_mood : Nat → Int32) (v_hands_strong : Nat → Int32) (v_now : Nat → Int64) (p0_told : Int32) (p0_year : Nat → Int32) (p0_force : Nat → Int32) : va_W := [(h0, .inr (7, [.ref h8, .ref h1, .ref h9, .ref h4, .long v_all, .ref h10, .ref h11, .ref h12, .ref h13, .int v_losers])), (h1, .inr (2, [.ref h2, .ref h3, .int v_hands_told, .int v_hands_fault])), (h2, .inl (gI g, 8, .inl v_hands_mood)), (h3, .inl (gI g, 8, .inl v_hands_strong)), (h4, .inl (gJ g, 8, .inr (.inl v_now))), (h5, .inr (0, [.ref h6, .ref h7, .int p0_told])), (h6, .inl (gI g, 6, .inl p0_year)), (h7, .inl (gI g, 6, .inl p0_force))]

abbrev rm_ys_freeze : Room := { frames := 2, cells := 0, slots := 0, locals := 58 }

set_option maxHeartbeats 1000000 in
set_option maxRecDepth 100000 in
theorem n_ys_freeze_N44 {p : Program} {l : Launch} {e : Env} {s : State} {m : MethodId} {args : Array Value} {below : List Frame} {meth : Method} {c : Code} {A : Nat → Prop} {g : gG} {h0 h1 h2 h3 h4 h5 h6 h7 h8 h9 h10 h11 h12 h13 : Nat} {v_hands_told : Int32} {v_hands_fault : Int32} {v_hands_mood : Nat → Int32} {v_hands_strong : Nat → Int32} {p0_told : Int32} {p0_year : Nat → Int32} {p0_force : Nat → Int32} {k9 : Int64 → Int32 → (Nat → Int64) → Int32 → Int32 → Int32 → Int32 → Int32 → Option (Int32 × Int64 × Int32 × (Nat → Int64))} {k44 : Int64 → Int32 → (Nat → Int64) → Int32 → Int32 → Int32 → Int32 → Int64 → Int32 → Option (Int32 × Int64 × Int32 × (Nat → Int64))} {r : (Int32 × Int64 × Int32 × (Nat → Int64))} (C0 : gX p s m args meth c cX7_freeze 10 (some .int) RX7 g A) (hk9 : ∀ (v_all : Int64) (v_losers : Int32) (v_now : Nat → Int64) (x2 : Int32) (x3 : Int32) (x4 : Int32) (x5 : Int32) (x6 : Int32), k9 v_all v_losers v_now x2 x3 x4 x5 x6 = some r → ∀ (H : Heap) (locs : List Loc) (ls : Array Slot), gW g A s (W_ys_freeze g h0 h1 h2 h3 h4 h5 h6 h7 h8 h9 h10 h11 h12 h13 v_all v_losers v_hands_told v_hands_fault v_hands_mood v_hands_strong v_now p0_told p0_year p0_force) H locs → lv_has ls 10 [(0, .ref h0), (1, .ref h5), (2, .int x2), (3, .int x3), (4, .int x4), (5, .int x5), (6, .int x6)] → W p l e rm_ys_freeze s m args below meth c H locs 0 0 (gQi below args s A g r.1 (W_ys_freeze g h0 h1 h2 h3 h4 h5 h6 h7 h8 h9 h10 h11 h12 h13 r.2.1 r.2.2.1 v_hands_told v_hands_fault v_hands_mood v_hands_strong r.2.2.2 p0_told p0_year p0_force)) (F0 m 9 ls [])) (hk44 : ∀ (v_all : Int64) (v_losers : Int32) (v_now : Nat → Int64) (x2 : Int32) (x3 : Int32) (x4 : Int32) (x6 : Int32) (x7 : Int64) (x9 : Int32), k44 v_all v_losers v_now x2 x3 x4 x6 x7 x9 = some r → ∀ (H : Heap) (locs : List Loc) (ls : Array Slot), gW g A s (W_ys_freeze g h0 h1 h2 h3 h4 h5 h6 h7 h8 h9 h10 h11 h12 h13 v_all v_losers v_hands_told v_hands_fault v_hands_mood v_hands_strong v_now p0_told p0_year p0_force) H locs → lv_has ls 10 [(0, .ref h0), (1, .ref h5), (2, .int x2), (3, .int x3), (4, .int x4), (6, .int x6), (7, .long x7), (9, .int x9)] → W p l e rm_ys_freeze s m args below meth c H locs 0 0 (gQi below args s A g r.1 (W_ys_freeze g h0 h1 h2 h3 h4 h5 h6 h7 h8 h9 h10 h11 h12 h13 r.2.1 r.2.2.1 v_hands_told v_hands_fault v_hands_mood v_hands_strong r.2.2.2 p0_told p0_year p0_force)) (F0 m 44 ls [])) : ∀ (v_all : Int64) (v_losers : Int32) (v_now : Nat → Int64) (x2 : Int32) (x3 : Int32) (x4 : Int32) (x6 : Int32) (x7 : Int64) (x9 : Int32), f_ys_freeze_N44 v_hands_told v_hands_mood v_hands_strong p0_told p0_year p0_force k9 k44 v_all v_losers v_now x2 x3 x4 x6 x7 x9 = some r → ∀ (H : Heap) (locs : List Loc) (ls : Array Slot), gW g A s (W_ys_freeze g h0 h1 h2 h3 h4 h5 h6 h7 h8 h9 h10 h11 h12 h13 v_all v_losers v_hands_told v_hands_fault v_hands_mood v_hands_strong v_now p0_told p0_year p0_force) H locs → lv_has ls 10 [(0, .ref h0), (1, .ref h5), (2, .int x2), (3, .int x3), (4, .int x4), (6, .int x6), (7, .long x7), (9, .int x9)] → W p l e rm_ys_freeze s m args below meth c H locs 0 0 (gQi below args s A g r.1 (W_ys_freeze g h0 h1 h2 h3 h4 h5 h6 h7 h8 h9 h10 h11 h12 h13 r.2.1 r.2.2.1 v_hands_told v_hands_fault v_hands_mood v_hands_strong r.2.2.2 p0_told p0_year p0_force)) (F0 m 44 ls []) := by
  intro v_all v_losers v_now x2 x3 x4 x6 x7 x9 hm H locs ls hw hl
  unfold f_ys_freeze_N44 at hm
  obtain ⟨hx, hb, hr, hml, hown, hts, hlocks, hK, hA⟩ := id C0
  refine lv_iload hx hb dX7_freeze_44 (lv_at hl 7 rfl) ?_
  refine lv_aload_n hx hb dX7_freeze_46 rfl (lv_at hl 0 rfl) ?_
  refine gGet C0 hw flX7_32 0 rfl rfl dX7_freeze_47 ?_
  refine gGet C0 hw flX7_81 1 rfl rfl dX7_freeze_50 ?_
  refine lv_icmp_ge (tgt := 80) hx hb dX7_freeze_53 (by decide) (fun hc => ?_) (fun hc => ?_)
  · have hm := ipos hc hm
    refine lv_iconst (v := 1) hx hb dX7_freeze_80 (by decide) ?_
    refine lv_istore (lv' := [(5, .int (1 : Int32)), (0, .ref h0), (1, .ref h5), (2, .int x2), (3, .int x3), (4, .int x4), (6, .int x6), (7, .long x7), (9, .int x9)]) hx hb dX7_freeze_81 hl (by decide) rfl (fun ls hl => ?_)
    refine lv_iload hx hb dX7_freeze_83 (lv_at hl 5 rfl) ?_
    refine lv_aload_n hx hb dX7_freeze_85 rfl (lv_at hl 1 rfl) ?_
    refine lv_lload hx hb dX7_freeze_86 (lv_at hl 7 rfl) ?_
    obtain ⟨o88, ho88, hm⟩ := bindE hm
    refine gCalll (ws' := (W_ys_freeze g h0 h1 h2 h3 h4 h5 h6 h7 h8 h9 h10 h11 h12 h13 v_all v_losers v_hands_told v_hands_fault v_hands_mood v_hands_strong v_now p0_told p0_year p0_force)) C0 hw (gRunN (As := [.long x7]) (rest := [.ref h0, .int x4]) C0 hw lkX7_91 (c_x_borneOf l g H.size  x7 o88 ho88) ⟨rfl, rfl⟩ ⟨Nat.le_of_ble_eq_true rfl, Nat.le_of_ble_eq_true rfl⟩ [] (by decide) rfl rfl hl.1 rfl (Nat.le_of_ble_eq_true rfl) dX7_freeze_88) [] [0, 1, 2, 3, 4, 5, 6, 7] rfl rfl ⟨rfl, rfl, rfl, rfl, rfl, rfl, rfl, rfl, trivial⟩ [h0, h1, h2, h3, h4, h5, h6, h7] rfl rfl 8 rfl (by decide +kernel) (fun H locs hw => ?_)
    obtain ⟨o91, ho91, hm⟩ := bindE hm
    refine gCalli (ws' := (W_ys_freeze g h0 h1 h2 h3 h4 h5 h6 h7 h8 h9 h10 h11 h12 h13 o91.2.1 o91.2.2.1 v_hands_told v_hands_fault v_hands_mood v_hands_strong o91.2.2.2 p0_told p0_year p0_force)) C0 hw (gRunV (As := [.long o88]) (rest := [.int x4]) C0 hw lkX7_95 (c_ys_leave l g H.size h0 h4 h8 h1 h9 h10 h11 h12 h13 v_all v_losers v_now o88 o91 ho91) ⟨rfl, rfl⟩ ⟨Nat.le_of_ble_eq_true rfl, Nat.le_of_ble_eq_true rfl⟩ [0, 4] (by decide) rfl 0 rfl rfl rfl hl.1 rfl (Nat.le_of_ble_eq_true rfl) dX7_freeze_91) [0, 4] [1, 2, 3, 5, 6, 7] rfl rfl ⟨rfl, rfl, rfl, rfl, rfl, rfl, trivial⟩ [h0, h1, h2, h3, h4, h5, h6, h7] rfl rfl 8 rfl (by decide +kernel) (fun H locs hw => ?_)
    refine lv_iadd hx hb dX7_freeze_94 ?_
    refine lv_istore (lv' := [(4, .int (x4 + o91.1)), (5, .int (1 : Int32)), (0, .ref h0), (1, .ref h5), (2, .int x2), (3, .int x3), (6, .int x6), (7, .long x7), (9, .int x9)]) hx hb dX7_freeze_95 hl (by decide) rfl (fun ls hl => ?_)
    refine lv_iinc (v := x6 + (1 : Int32)) (lv' := [(6, .int (x6 + (1 : Int32))), (4, .int (x4 + o91.1)), (5, .int (1 : Int32)), (0, .ref h0), (1, .ref h5), (2, .int x2), (3, .int x3), (7, .long x7), (9, .int x9)]) hx hb dX7_freeze_97 hl (k := 6) rfl rfl (by decide) rfl (fun ls hl => ?_)
    refine lv_goto (tgt := 9) hx hb dX7_freeze_100 (by decide) ?_
    exact hk9 _ _ _ _ _ _ _ _ hm _ _ _ hw (lv_sub hl [3, 4, 5, 6, 1, 2, 0] rfl)
  · have hm := ineg hc hm
    refine lv_lload hx hb dX7_freeze_56 (lv_at hl 6 rfl) ?_
    refine lv_aload_n hx hb dX7_freeze_58 rfl (lv_at hl 0 rfl) ?_
    refine lv_iload hx hb dX7_freeze_59 (lv_at hl 7 rfl) ?_
    refine lv_aload_n hx hb dX7_freeze_61 rfl (lv_at hl 1 rfl) ?_
    refine gGet C0 hw flX7_84 5 rfl rfl dX7_freeze_62 ?_
    refine lv_iload hx hb dX7_freeze_65 (lv_at hl 5 rfl) ?_
    obtain ⟨hin, hm⟩ := gdE hm
    have hin := inbE hin
    refine gAldI C0 hw 7 rfl hin dX7_freeze_67 ?_
    obtain ⟨o68, ho68, hm⟩ := bindE hm
    refine gCalll (ws' := (W_ys_freeze g h0 h1 h2 h3 h4 h5 h6 h7 h8 h9 h10 h11 h12 h13 v_all v_losers v_hands_told v_hands_fault v_hands_mood v_hands_strong v_now p0_told p0_year p0_force)) C0 hw (gRunV (As := [.int x9, .int (p0_force x6.toNatClampNeg)]) (rest := [.long x7]) C0 hw lkX7_87 (c_ys_holdingOf l g H.size h0 h1 h2 h3 h4 h8 h9 h10 h11 h12 h13 v_all v_losers v_hands_told v_hands_fault v_hands_mood v_hands_strong v_now x9 (p0_force x6.toNatClampNeg) o68 ho68) ⟨rfl, rfl⟩ ⟨Nat.le_of_ble_eq_true rfl, Nat.le_of_ble_eq_true rfl⟩ [0, 1, 2, 3, 4] (by decide) rfl 0 rfl rfl rfl hl.1 rfl (Nat.le_of_ble_eq_true rfl) dX7_freeze_68) [0, 1, 2, 3, 4] [5, 6, 7] rfl rfl ⟨rfl, rfl, rfl, trivial⟩ [h0, h1, h2, h3, h4, h5, h6, h7] rfl rfl 8 rfl (by decide +kernel) (fun H locs hw => ?_)
    refine lv_lor hx hb dX7_freeze_71 ?_
    refine lv_lstore (lv' := [(7, .long (x7 ||| o68)), (0, .ref h0), (1, .ref h5), (2, .int x2), (3, .int x3), (4, .int x4), (6, .int x6), (9, .int x9)]) hx hb dX7_freeze_72 hl (by decide) rfl (fun ls hl => ?_)
    refine lv_iinc (v := x9 + (1 : Int32)) (lv' := [(9, .int (x9 + (1 : Int32))), (7, .long (x7 ||| o68)), (0, .ref h0), (1, .ref h5), (2, .int x2), (3, .int x3), (4, .int x4), (6, .int x6)]) hx hb dX7_freeze_74 hl (k := 7) rfl rfl (by decide) rfl (fun ls hl => ?_)
    refine lv_goto (tgt := 44) hx hb dX7_freeze_77 (by decide) ?_
    exact hk44 _ _ _ _ _ _ _ _ _ hm _ _ _ hw (lv_sub hl [2, 3, 4, 5, 6, 7, 1, 0] rfl)
set_option maxHeartbeats 1000000 in
set_option maxRecDepth 100000 in
theorem l_ys_freeze_N44 {p : Program} {l : Launch} {e : Env} {s : State} {m : MethodId} {args : Array Value} {below : List Frame} {meth : Method} {c : Code} {A : Nat → Prop} {g : gG} {h0 h1 h2 h3 h4 h5 h6 h7 h8 h9 h10 h11 h12 h13 : Nat} {v_hands_told : Int32} {v_hands_fault : Int32} {v_hands_mood : Nat → Int32} {v_hands_strong : Nat → Int32} {p0_told : Int32} {p0_year : Nat → Int32} {p0_force : Nat → Int32} {k9 : Int64 → Int32 → (Nat → Int64) → Int32 → Int32 → Int32 → Int32 → Int32 → Option (Int32 × Int64 × Int32 × (Nat → Int64))} {r : (Int32 × Int64 × Int32 × (Nat → Int64))} (C0 : gX p s m args meth c cX7_freeze 10 (some .int) RX7 g A) (hk9 : ∀ (v_all : Int64) (v_losers : Int32) (v_now : Nat → Int64) (x2 : Int32) (x3 : Int32) (x4 : Int32) (x5 : Int32) (x6 : Int32), k9 v_all v_losers v_now x2 x3 x4 x5 x6 = some r → ∀ (H : Heap) (locs : List Loc) (ls : Array Slot), gW g A s (W_ys_freeze g h0 h1 h2 h3 h4 h5 h6 h7 h8 h9 h10 h11 h12 h13 v_all v_losers v_hands_told v_hands_fault v_hands_mood v_hands_strong v_now p0_told p0_year p0_force) H locs → lv_has ls 10 [(0, .ref h0), (1, .ref h5), (2, .int x2), (3, .int x3), (4, .int x4), (5, .int x5), (6, .int x6)] → W p l e rm_ys_freeze s m args below meth c H locs 0 0 (gQi below args s A g r.1 (W_ys_freeze g h0 h1 h2 h3 h4 h5 h6 h7 h8 h9 h10 h11 h12 h13 r.2.1 r.2.2.1 v_hands_told v_hands_fault v_hands_mood v_hands_strong r.2.2.2 p0_told p0_year p0_force)) (F0 m 9 ls [])) : ∀ n : Nat, ∀ (v_all : Int64) (v_losers : Int32) (v_now : Nat → Int64) (x2 : Int32) (x3 : Int32) (x4 : Int32) (x6 : Int32) (x7 : Int64) (x9 : Int32), iter (fun _ _ _ _ _ _ _ _ _ => none) (f_ys_freeze_N44 v_hands_told v_hands_mood v_hands_strong p0_told p0_year p0_force k9) n v_all v_losers v_now x2 x3 x4 x6 x7 x9 = some r → ∀ (H : Heap) (locs : List Loc) (ls : Array Slot), gW g A s (W_ys_freeze g h0 h1 h2 h3 h4 h5 h6 h7 h8 h9 h10 h11 h12 h13 v_all v_losers v_hands_told v_hands_fault v_hands_mood v_hands_strong v_now p0_told p0_year p0_force) H locs → lv_has ls 10 [(0, .ref h0), (1, .ref h5), (2, .int x2), (3, .int x3), (4, .int x4), (6, .int x6), (7, .long x7), (9, .int x9)] → W p l e rm_ys_freeze s m args below meth c H locs 0 0 (gQi below args s A g r.1 (W_ys_freeze g h0 h1 h2 h3 h4 h5 h6 h7 h8 h9 h10 h11 h12 h13 r.2.1 r.2.2.1 v_hands_told v_hands_fault v_hands_mood v_hands_strong r.2.2.2 p0_told p0_year p0_force)) (F0 m 44 ls []) := by
  intro n
  induction n with
  | zero =>
    intro v_all v_losers v_now x2 x3 x4 x6 x7 x9 hm
    cases hm
  | succ n ih =>
    exact n_ys_freeze_N44 C0 hk9 ih
set_option maxHeartbeats 1000000 in
set_option maxRecDepth 100000 in
theorem n_ys_freeze_N9 {p : Program} {l : Launch} {e : Env} {s : State} {m : MethodId} {args : Array Value} {below : List Frame} {meth : Method} {c : Code} {A : Nat → Prop} {g : gG} {h0 h1 h2 h3 h4 h5 h6 h7 h8 h9 h10 h11 h12 h13 : Nat} {v_hands_told : Int32} {v_hands_fault : Int32} {v_hands_mood : Nat → Int32} {v_hands_strong : Nat → Int32} {p0_told : Int32} {p0_year : Nat → Int32} {p0_force : Nat → Int32} {k9 : Int64 → Int32 → (Nat → Int64) → Int32 → Int32 → Int32 → Int32 → Int32 → Option (Int32 × Int64 × Int32 × (Nat → Int64))} {r : (Int32 × Int64 × Int32 × (Nat → Int64))} (C0 : gX p s m args meth c cX7_freeze 10 (some .int) RX7 g A) (hk9 : ∀ (v_all : Int64) (v_losers : Int32) (v_now : Nat → Int64) (x2 : Int32) (x3 : Int32) (x4 : Int32) (x5 : Int32) (x6 : Int32), k9 v_all v_losers v_now x2 x3 x4 x5 x6 = some r → ∀ (H : Heap) (locs : List Loc) (ls : Array Slot), gW g A s (W_ys_freeze g h0 h1 h2 h3 h4 h5 h6 h7 h8 h9 h10 h11 h12 h13 v_all v_losers v_hands_told v_hands_fault v_hands_mood v_hands_strong v_now p0_told p0_year p0_force) H locs → lv_has ls 10 [(0, .ref h0), (1, .ref h5), (2, .int x2), (3, .int x3), (4, .int x4), (5, .int x5), (6, .int x6)] → W p l e rm_ys_freeze s m args below meth c H locs 0 0 (gQi below args s A g r.1 (W_ys_freeze g h0 h1 h2 h3 h4 h5 h6 h7 h8 h9 h10 h11 h12 h13 r.2.1 r.2.2.1 v_hands_told v_hands_fault v_hands_mood v_hands_strong r.2.2.2 p0_told p0_year p0_force)) (F0 m 9 ls [])) : ∀ (v_all : Int64) (v_losers : Int32) (v_now : Nat → Int64) (x2 : Int32) (x3 : Int32) (x4 : Int32) (x5 : Int32) (x6 : Int32), f_ys_freeze_N9 v_hands_told v_hands_mood v_hands_strong p0_told p0_year p0_force k9 v_all v_losers v_now x2 x3 x4 x5 x6 = some r → ∀ (H : Heap) (locs : List Loc) (ls : Array Slot), gW g A s (W_ys_freeze g h0 h1 h2 h3 h4 h5 h6 h7 h8 h9 h10 h11 h12 h13 v_all v_losers v_hands_told v_hands_fault v_hands_mood v_hands_strong v_now p0_told p0_year p0_force) H locs → lv_has ls 10 [(0, .ref h0), (1, .ref h5), (2, .int x2), (3, .int x3), (4, .int x4), (5, .int x5), (6, .int x6)] → W p l e rm_ys_freeze s m args below meth c H locs 0 0 (gQi below args s A g r.1 (W_ys_freeze g h0 h1 h2 h3 h4 h5 h6 h7 h8 h9 h10 h11 h12 h13 r.2.1 r.2.2.1 v_hands_told v_hands_fault v_hands_mood v_hands_strong r.2.2.2 p0_told p0_year p0_force)) (F0 m 9 ls []) := by
  intro v_all v_losers v_now x2 x3 x4 x5 x6 hm H locs ls hw hl
  unfold f_ys_freeze_N9 at hm
  obtain ⟨hx, hb, hr, hml, hown, hts, hlocks, hK, hA⟩ := id C0
  refine lv_iload hx hb dX7_freeze_9 (lv_at hl 6 rfl) ?_
  refine lv_aload_n hx hb dX7_freeze_11 rfl (lv_at hl 1 rfl) ?_
  refine gGet C0 hw flX7_73 5 rfl rfl dX7_freeze_12 ?_
  refine lv_icmp_ge (tgt := 103) hx hb dX7_freeze_15 (by decide) (fun hc => ?_) (fun hc => ?_)
  · have hm := ipos hc hm
    refine lv_iload hx hb dX7_freeze_103 (lv_at hl 5 rfl) ?_
    refine lv_if_eq (tgt := 113) hx hb dX7_freeze_105 (by decide) (fun hc => ?_) (fun hc => ?_)
    · have hm := ipos hc hm
      refine lv_aload_n hx hb dX7_freeze_113 rfl (lv_at hl 0 rfl) ?_
      refine lv_aload_n hx hb dX7_freeze_114 rfl (lv_at hl 0 rfl) ?_
      refine gGet C0 hw flX7_53 0 rfl rfl dX7_freeze_115 ?_
      obtain ⟨o118, ho118, hm⟩ := bindE hm
      refine gCalll (ws' := (W_ys_freeze g h0 h1 h2 h3 h4 h5 h6 h7 h8 h9 h10 h11 h12 h13 v_all v_losers v_hands_told v_hands_fault v_hands_mood v_hands_strong v_now p0_told p0_year p0_force)) C0 hw (gRunN (As := [.long v_all]) (rest := [.ref h0]) C0 hw lkX7_91 (c_x_borneOf l g H.size  v_all o118 ho118) ⟨rfl, rfl⟩ ⟨Nat.le_of_ble_eq_true rfl, Nat.le_of_ble_eq_true rfl⟩ [] (by decide) rfl rfl hl.1 rfl (Nat.le_of_ble_eq_true rfl) dX7_freeze_118) [] [0, 1, 2, 3, 4, 5, 6, 7] rfl rfl ⟨rfl, rfl, rfl, rfl, rfl, rfl, rfl, rfl, trivial⟩ [h0, h1, h2, h3, h4, h5, h6, h7] rfl rfl 8 rfl (by decide +kernel) (fun H locs hw => ?_)
      obtain ⟨o121, ho121, hm⟩ := bindE hm
      refine gCalli (ws' := (W_ys_freeze g h0 h1 h2 h3 h4 h5 h6 h7 h8 h9 h10 h11 h12 h13 o121.2.1 o121.2.2.1 v_hands_told v_hands_fault v_hands_mood v_hands_strong o121.2.2.2 p0_told p0_year p0_force)) C0 hw (gRunV (As := [.long o118]) (rest := []) C0 hw lkX7_95 (c_ys_leave l g H.size h0 h4 h8 h1 h9 h10 h11 h12 h13 v_all v_losers v_now o118 o121 ho121) ⟨rfl, rfl⟩ ⟨Nat.le_of_ble_eq_true rfl, Nat.le_of_ble_eq_true rfl⟩ [0, 4] (by decide) rfl 0 rfl rfl rfl hl.1 rfl (Nat.le_of_ble_eq_true rfl) dX7_freeze_121) [0, 4] [1, 2, 3, 5, 6, 7] rfl rfl ⟨rfl, rfl, rfl, rfl, rfl, rfl, trivial⟩ [h0, h1, h2, h3, h4, h5, h6, h7] rfl rfl 8 rfl (by decide +kernel) (fun H locs hw => ?_)
      have hm := Option.some.inj hm
      subst hm
      exact gRetI C0 hw dX7_freeze_124
    · have hm := ineg hc hm
      refine lv_iload hx hb dX7_freeze_108 (lv_at hl 4 rfl) ?_
      refine lv_goto (tgt := 124) hx hb dX7_freeze_110 (by decide) ?_
      have hm := Option.some.inj hm
      subst hm
      exact gRetI C0 hw dX7_freeze_124
  · have hm := ineg hc hm
    refine lv_aload_n hx hb dX7_freeze_18 rfl (lv_at hl 1 rfl) ?_
    refine gGet C0 hw flX7_78 5 rfl rfl dX7_freeze_19 ?_
    refine lv_iload hx hb dX7_freeze_22 (lv_at hl 6 rfl) ?_
    obtain ⟨hin, hm⟩ := gdE hm
    have hin := inbE hin
    refine gAldI C0 hw 6 rfl hin dX7_freeze_24 ?_
    refine lv_iload_n hx hb dX7_freeze_25 rfl (lv_at hl 3 rfl) ?_
    refine lv_icmp_ne (tgt := 97) hx hb dX7_freeze_26 (by decide) (fun hc => ?_) (fun hc => ?_)
    · have hm := ineg hc hm
      refine lv_iinc (v := x6 + (1 : Int32)) (lv' := [(6, .int (x6 + (1 : Int32))), (0, .ref h0), (1, .ref h5), (2, .int x2), (3, .int x3), (4, .int x4), (5, .int x5)]) hx hb dX7_freeze_97 hl (k := 6) rfl rfl (by decide) rfl (fun ls hl => ?_)
      refine lv_goto (tgt := 9) hx hb dX7_freeze_100 (by decide) ?_
      exact hk9 _ _ _ _ _ _ _ _ hm _ _ _ hw (lv_sub hl [1, 2, 3, 4, 5, 6, 0] rfl)
    · have hm := ipos hc hm
      refine lv_iload_n hx hb dX7_freeze_29 rfl (lv_at hl 2 rfl) ?_
      refine lv_iload hx hb dX7_freeze_30 (lv_at hl 6 rfl) ?_
      refine lv_iushr (v := ushr x2 x6) hx hb dX7_freeze_32 rfl ?_
      refine lv_iconst (v := 1) hx hb dX7_freeze_33 (by decide) ?_
      refine lv_iand hx hb dX7_freeze_34 ?_
      refine lv_if_ne (tgt := 97) hx hb dX7_freeze_35 (by decide) (fun hc => ?_) (fun hc => ?_)
      · have hm := ineg hc hm
        refine lv_iinc (v := x6 + (1 : Int32)) (lv' := [(6, .int (x6 + (1 : Int32))), (0, .ref h0), (1, .ref h5), (2, .int x2), (3, .int x3), (4, .int x4), (5, .int x5)]) hx hb dX7_freeze_97 hl (k := 6) rfl rfl (by decide) rfl (fun ls hl => ?_)
        refine lv_goto (tgt := 9) hx hb dX7_freeze_100 (by decide) ?_
        exact hk9 _ _ _ _ _ _ _ _ hm _ _ _ hw (lv_sub hl [1, 2, 3, 4, 5, 6, 0] rfl)
      · have hm := ipos hc hm
        refine lv_lconst (v := 0) hx hb dX7_freeze_38 (by decide) ?_
        refine lv_lstore (lv' := [(7, .long (0 : Int64)), (0, .ref h0), (1, .ref h5), (2, .int x2), (3, .int x3), (4, .int x4), (5, .int x5), (6, .int x6)]) hx hb dX7_freeze_39 hl (by decide) rfl (fun ls hl => ?_)
        refine lv_iconst (v := 0) hx hb dX7_freeze_41 (by decide) ?_
        refine lv_istore (lv' := [(9, .int (0 : Int32)), (7, .long (0 : Int64)), (0, .ref h0), (1, .ref h5), (2, .int x2), (3, .int x3), (4, .int x4), (5, .int x5), (6, .int x6)]) hx hb dX7_freeze_42 hl (by decide) rfl (fun ls hl => ?_)
        exact l_ys_freeze_N44 C0 hk9 1000 _ _ _ _ _ _ _ _ _ hm _ _ _ hw (lv_sub hl [2, 3, 4, 5, 6, 8, 1, 0] rfl)
set_option maxHeartbeats 1000000 in
set_option maxRecDepth 100000 in
theorem l_ys_freeze_N9 {p : Program} {l : Launch} {e : Env} {s : State} {m : MethodId} {args : Array Value} {below : List Frame} {meth : Method} {c : Code} {A : Nat → Prop} {g : gG} {h0 h1 h2 h3 h4 h5 h6 h7 h8 h9 h10 h11 h12 h13 : Nat} {v_hands_told : Int32} {v_hands_fault : Int32} {v_hands_mood : Nat → Int32} {v_hands_strong : Nat → Int32} {p0_told : Int32} {p0_year : Nat → Int32} {p0_force : Nat → Int32} {r : (Int32 × Int64 × Int32 × (Nat → Int64))} (C0 : gX p s m args meth c cX7_freeze 10 (some .int) RX7 g A) : ∀ n : Nat, ∀ (v_all : Int64) (v_losers : Int32) (v_now : Nat → Int64) (x2 : Int32) (x3 : Int32) (x4 : Int32) (x5 : Int32) (x6 : Int32), iter (fun _ _ _ _ _ _ _ _ => none) (f_ys_freeze_N9 v_hands_told v_hands_mood v_hands_strong p0_told p0_year p0_force) n v_all v_losers v_now x2 x3 x4 x5 x6 = some r → ∀ (H : Heap) (locs : List Loc) (ls : Array Slot), gW g A s (W_ys_freeze g h0 h1 h2 h3 h4 h5 h6 h7 h8 h9 h10 h11 h12 h13 v_all v_losers v_hands_told v_hands_fault v_hands_mood v_hands_strong v_now p0_told p0_year p0_force) H locs → lv_has ls 10 [(0, .ref h0), (1, .ref h5), (2, .int x2), (3, .int x3), (4, .int x4), (5, .int x5), (6, .int x6)] → W p l e rm_ys_freeze s m args below meth c H locs 0 0 (gQi below args s A g r.1 (W_ys_freeze g h0 h1 h2 h3 h4 h5 h6 h7 h8 h9 h10 h11 h12 h13 r.2.1 r.2.2.1 v_hands_told v_hands_fault v_hands_mood v_hands_strong r.2.2.2 p0_told p0_year p0_force)) (F0 m 9 ls []) := by
  intro n
  induction n with
  | zero =>
    intro v_all v_losers v_now x2 x3 x4 x5 x6 hm
    cases hm
  | succ n ih =>
    exact n_ys_freeze_N9 C0  ih
set_option maxHeartbeats 1000000 in
set_option maxRecDepth 100000 in
theorem c_ys_freeze (l : Launch) (g : gG) (sz : Nat) (h0 h1 h2 h3 h4 h5 h6 h7 h8 h9 h10 h11 h12 h13 : Nat) (v_all : Int64) (v_losers : Int32) (v_hands_told : Int32) (v_hands_fault : Int32) (v_hands_mood : Nat → Int32) (v_hands_strong : Nat → Int32) (v_now : Nat → Int64) (p0_told : Int32) (p0_year : Nat → Int32) (p0_force : Nat → Int32) (a1 : Int32) (a2 : Int32) (r : (Int32 × Int64 × Int32 × (Nat → Int64))) (hm : f_ys_freeze v_all v_losers v_hands_told v_hands_mood v_hands_strong v_now p0_told p0_year p0_force a1 a2 = some r) : gMi l yX7_freeze cX7_freeze 10 (some .int) rm_ys_freeze g sz [.ref h0, .ref h5, .int a1, .int a2] (W_ys_freeze g h0 h1 h2 h3 h4 h5 h6 h7 h8 h9 h10 h11 h12 h13 v_all v_losers v_hands_told v_hands_fault v_hands_mood v_hands_strong v_now p0_told p0_year p0_force) r.1 (W_ys_freeze g h0 h1 h2 h3 h4 h5 h6 h7 h8 h9 h10 h11 h12 h13 r.2.1 r.2.2.1 v_hands_told v_hands_fault v_hands_mood v_hands_strong r.2.2.2 p0_told p0_year p0_force) := by
  unfold f_ys_freeze at hm
  refine gEnterI (by decide) (Nat.le_of_ble_eq_true rfl) (fun p e s m below meth c A C0 H locs hw ls hl => ?_)
  obtain ⟨hx, hb, hr, hml, hown, hts, hlocks, hK, hA⟩ := id C0
  have C0 : gX p s m [.ref h0, .ref h5, .int a1, .int a2].toArray meth c cX7_freeze 10 (some .int) RX7 g A := C0
  have hl : lv_has ls 10 [(0, .ref h0), (1, .ref h5), (2, .int a1), (3, .int a2)] := hl
  refine lv_iconst (v := 0) hx hb dX7_freeze_0 (by decide) ?_
  refine lv_istore (lv' := [(4, .int (0 : Int32)), (0, .ref h0), (1, .ref h5), (2, .int a1), (3, .int a2)]) hx hb dX7_freeze_1 hl (by decide) rfl (fun ls hl => ?_)
  refine lv_iconst (v := 0) hx hb dX7_freeze_3 (by decide) ?_
  refine lv_istore (lv' := [(5, .int (0 : Int32)), (4, .int (0 : Int32)), (0, .ref h0), (1, .ref h5), (2, .int a1), (3, .int a2)]) hx hb dX7_freeze_4 hl (by decide) rfl (fun ls hl => ?_)
  refine lv_iconst (v := 0) hx hb dX7_freeze_6 (by decide) ?_
  refine lv_istore (lv' := [(6, .int (0 : Int32)), (5, .int (0 : Int32)), (4, .int (0 : Int32)), (0, .ref h0), (1, .ref h5), (2, .int a1), (3, .int a2)]) hx hb dX7_freeze_7 hl (by decide) rfl (fun ls hl => ?_)
  exact l_ys_freeze_N9 C0  1000 _ _ _ _ _ _ _ _ hm _ _ _ hw (lv_sub hl [3, 4, 5, 6, 2, 1, 0] rfl)

-- WallHands$Years.fillGap(II)Z
abbrev W_ys_fillGap (g : gG) (h0 h1 h2 h3 h4 h5 h6 h7 h8 h9 : Nat) (v_all : Int64) (v_losers : Int32) (v_wall_courses : Int32) (v_wall_columns : Int32) (v_wall_fault : Int32) (v_wall_jump : Int32) (v_now : Nat → Int64) : va_W := [(h0, .inr (7, [.ref h1, .ref h3, .ref h4, .ref h2, .long v_all, .ref h5, .ref h6, .ref h7, .ref h8, .int v_losers])), (h1, .inr (6, [.ref h9, .int v_wall_courses, .int v_wall_columns, .int v_wall_fault, .int v_wall_jump])), (h2, .inl (gJ g, 8, .inr (.inl v_now)))]

abbrev rm_ys_fillGap : Room := { frames := 0, cells := 0, slots := 0, locals := 0 }

set_option maxHeartbeats 1000000 in
set_option maxRecDepth 100000 in
theorem n_ys_fillGap_N2 {p : Program} {l : Launch} {e : Env} {s : State} {m : MethodId} {args : Array Value} {below : List Frame} {meth : Method} {c : Code} {A : Nat → Prop} {g : gG} {h0 h1 h2 h3 h4 h5 h6 h7 h8 h9 : Nat} {v_losers : Int32} {v_wall_courses : Int32} {v_wall_columns : Int32} {v_wall_fault : Int32} {v_wall_jump : Int32} {k2 : Int64 → (Nat → Int64) → Int32 → Int32 → Int32 → Option (Int32 × Int64 × (Nat → Int64))} {r : (Int32 × Int64 × (Nat → Int64))} (C0 : gX p s m args meth c cX7_fillGap 6 (some .boolean) RX7 g A) (hk2 : ∀ (v_all : Int64) (v_now : Nat → Int64) (x1 : Int32) (x2 : Int32) (x3 : Int32), k2 v_all v_now x1 x2 x3 = some r → ∀ (H : Heap) (locs : List Loc) (ls : Array Slot), gW g A s (W_ys_fillGap g h0 h1 h2 h3 h4 h5 h6 h7 h8 h9 v_all v_losers v_wall_courses v_wall_columns v_wall_fault v_wall_jump v_now) H locs → lv_has ls 6 [(0, .ref h0), (1, .int x1), (2, .int x2), (3, .int x3)] → W p l e rm_ys_fillGap s m args below meth c H locs 0 0 (gQi below args s A g r.1 (W_ys_fillGap g h0 h1 h2 h3 h4 h5 h6 h7 h8 h9 r.2.1 v_losers v_wall_courses v_wall_columns v_wall_fault v_wall_jump r.2.2)) (F0 m 2 ls [])) : ∀ (v_all : Int64) (v_now : Nat → Int64) (x1 : Int32) (x2 : Int32) (x3 : Int32), f_ys_fillGap_N2 v_wall_courses k2 v_all v_now x1 x2 x3 = some r → ∀ (H : Heap) (locs : List Loc) (ls : Array Slot), gW g A s (W_ys_fillGap g h0 h1 h2 h3 h4 h5 h6 h7 h8 h9 v_all v_losers v_wall_courses v_wall_columns v_wall_fault v_wall_jump v_now) H locs → lv_has ls 6 [(0, .ref h0), (1, .int x1), (2, .int x2), (3, .int x3)] → W p l e rm_ys_fillGap s m args below meth c H locs 0 0 (gQi below args s A g r.1 (W_ys_fillGap g h0 h1 h2 h3 h4 h5 h6 h7 h8 h9 r.2.1 v_losers v_wall_courses v_wall_columns v_wall_fault v_wall_jump r.2.2)) (F0 m 2 ls []) := by
  intro v_all v_now x1 x2 x3 hm H locs ls hw hl
  unfold f_ys_fillGap_N2 at hm
  obtain ⟨hx, hb, hr, hml, hown, hts, hlocks, hK, hA⟩ := id C0
  refine lv_iload_n hx hb dX7_fillGap_2 rfl (lv_at hl 3 rfl) ?_
  refine lv_aload_n hx hb dX7_fillGap_3 rfl (lv_at hl 0 rfl) ?_
  refine gGet C0 hw flX7_28 0 rfl rfl dX7_fillGap_4 ?_
  refine gGet C0 hw flX7_139 1 rfl rfl dX7_fillGap_7 ?_
  refine lv_icmp_ge (tgt := 65) hx hb dX7_fillGap_10 (by decide) (fun hc => ?_) (fun hc => ?_)
  · have hm := ipos hc hm
    refine lv_iconst (v := 0) hx hb dX7_fillGap_65 (by decide) ?_
    have hm := Option.some.inj hm
    subst hm
    exact gRetZ (v := (0 : Int32)) C0 hw rfl dX7_fillGap_66
  · have hm := ineg hc hm
    refine lv_lconst (v := 1) hx hb dX7_fillGap_13 (by decide) ?_
    refine lv_bipush (v := 8) hx hb dX7_fillGap_14 (by decide) ?_
    refine lv_iload_n hx hb dX7_fillGap_16 rfl (lv_at hl 3 rfl) ?_
    refine lv_imul hx hb dX7_fillGap_17 ?_
    refine lv_iload_n hx hb dX7_fillGap_18 rfl (lv_at hl 1 rfl) ?_
    refine lv_iadd hx hb dX7_fillGap_19 ?_
    refine lv_lshl (v := lshl (1 : Int64) (((8 : Int32) * x3) + x1)) hx hb dX7_fillGap_20 rfl ?_
    refine lv_lstore (lv' := [(4, .long (lshl (1 : Int64) (((8 : Int32) * x3) + x1))), (0, .ref h0), (1, .int x1), (2, .int x2), (3, .int x3)]) hx hb dX7_fillGap_21 hl (by decide) rfl (fun ls hl => ?_)
    refine lv_aload_n hx hb dX7_fillGap_23 rfl (lv_at hl 1 rfl) ?_
    refine gGet C0 hw flX7_53 0 rfl rfl dX7_fillGap_24 ?_
    refine lv_lload hx hb dX7_fillGap_27 (lv_at hl 0 rfl) ?_
    refine lv_land hx hb dX7_fillGap_29 ?_
    refine lv_lconst (v := 0) hx hb dX7_fillGap_30 (by decide) ?_
    refine W.lcmp hx hb dX7_fillGap_31 ?_
    refine lv_if_ne (tgt := 59) hx hb dX7_fillGap_32 (by decide) (fun hc => ?_) (fun hc => ?_)
    · have hm := ineg hc hm
      refine lv_iinc (v := x3 + (1 : Int32)) (lv' := [(3, .int (x3 + (1 : Int32))), (4, .long (lshl (1 : Int64) (((8 : Int32) * x3) + x1))), (0, .ref h0), (1, .int x1), (2, .int x2)]) hx hb dX7_fillGap_59 hl (k := 4) rfl rfl (by decide) rfl (fun ls hl => ?_)
      refine lv_goto (tgt := 2) hx hb dX7_fillGap_62 (by decide) ?_
      exact hk2 _ _ _ _ _ hm _ _ _ hw (lv_sub hl [2, 3, 4, 0] rfl)
    · have hm := ipos hc hm
      refine lv_aload_n hx hb dX7_fillGap_35 rfl (lv_at hl 1 rfl) ?_
      refine gGet C0 hw flX7_9 0 rfl rfl dX7_fillGap_36 ?_
      refine lv_iload_n hx hb dX7_fillGap_39 rfl (lv_at hl 3 rfl) ?_
      refine lv_dup2_11 hx hb dX7_fillGap_40 rfl rfl ?_
      obtain ⟨hin, hm⟩ := gdE hm
      have hin := inbE hin
      refine gAldJ C0 hw 2 rfl hin dX7_fillGap_41 ?_
      refine lv_lload hx hb dX7_fillGap_42 (lv_at hl 0 rfl) ?_
      refine lv_lor hx hb dX7_fillGap_44 ?_
      obtain ⟨hin, hm⟩ := gdE hm
      have hin := inbE hin
      refine gAstJ (ws' := (W_ys_fillGap g h0 h1 h2 h3 h4 h5 h6 h7 h8 h9 v_all v_losers v_wall_courses v_wall_columns v_wall_fault v_wall_jump (vp_updL v_now x2.toNatClampNeg ((v_now x2.toNatClampNeg) ||| (lshl (1 : Int64) (((8 : Int32) * x3) + x1)))))) C0 hw 2 rfl hin rfl dX7_fillGap_45 (fun H locs hw => ?_)
      refine lv_aload_n hx hb dX7_fillGap_46 rfl (lv_at hl 1 rfl) ?_
      refine lv_dup hx hb dX7_fillGap_47 rfl ?_
      refine gGet C0 hw flX7_53 0 rfl rfl dX7_fillGap_48 ?_
      refine lv_lload hx hb dX7_fillGap_51 (lv_at hl 0 rfl) ?_
      refine lv_lor hx hb dX7_fillGap_53 ?_
      refine gPut (ws' := (W_ys_fillGap g h0 h1 h2 h3 h4 h5 h6 h7 h8 h9 (v_all ||| (lshl (1 : Int64) (((8 : Int32) * x3) + x1))) v_losers v_wall_courses v_wall_columns v_wall_fault v_wall_jump (vp_updL v_now x2.toNatClampNeg ((v_now x2.toNatClampNeg) ||| (lshl (1 : Int64) (((8 : Int32) * x3) + x1)))))) C0 hw fpX7_53 0 rfl rfl rfl (Nat.le_of_ble_eq_true rfl) rfl dX7_fillGap_54 (fun H locs hw => ?_)
      refine lv_iconst (v := 1) hx hb dX7_fillGap_57 (by decide) ?_
      have hm := Option.some.inj hm
      subst hm
      exact gRetZ (v := (1 : Int32)) C0 hw rfl dX7_fillGap_58
set_option maxHeartbeats 1000000 in
set_option maxRecDepth 100000 in
theorem l_ys_fillGap_N2 {p : Program} {l : Launch} {e : Env} {s : State} {m : MethodId} {args : Array Value} {below : List Frame} {meth : Method} {c : Code} {A : Nat → Prop} {g : gG} {h0 h1 h2 h3 h4 h5 h6 h7 h8 h9 : Nat} {v_losers : Int32} {v_wall_courses : Int32} {v_wall_columns : Int32} {v_wall_fault : Int32} {v_wall_jump : Int32} {r : (Int32 × Int64 × (Nat → Int64))} (C0 : gX p s m args meth c cX7_fillGap 6 (some .boolean) RX7 g A) : ∀ n : Nat, ∀ (v_all : Int64) (v_now : Nat → Int64) (x1 : Int32) (x2 : Int32) (x3 : Int32), iter (fun _ _ _ _ _ => none) (f_ys_fillGap_N2 v_wall_courses) n v_all v_now x1 x2 x3 = some r → ∀ (H : Heap) (locs : List Loc) (ls : Array Slot), gW g A s (W_ys_fillGap g h0 h1 h2 h3 h4 h5 h6 h7 h8 h9 v_all v_losers v_wall_courses v_wall_columns v_wall_fault v_wall_jump v_now) H locs → lv_has ls 6 [(0, .ref h0), (1, .int x1), (2, .int x2), (3, .int x3)] → W p l e rm_ys_fillGap s m args below meth c H locs 0 0 (gQi below args s A g r.1 (W_ys_fillGap g h0 h1 h2 h3 h4 h5 h6 h7 h8 h9 r.2.1 v_losers v_wall_courses v_wall_columns v_wall_fault v_wall_jump r.2.2)) (F0 m 2 ls []) := by
  intro n
  induction n with
  | zero =>
    intro v_all v_now x1 x2 x3 hm
    cases hm
  | succ n ih =>
    exact n_ys_fillGap_N2 C0  ih
set_option maxHeartbeats 1000000 in
set_option maxRecDepth 100000 in
theorem c_ys_fillGap (l : Launch) (g : gG) (sz : Nat) (h0 h1 h2 h3 h4 h5 h6 h7 h8 h9 : Nat) (v_all : Int64) (v_losers : Int32) (v_wall_courses : Int32) (v_wall_columns : Int32) (v_wall_fault : Int32) (v_wall_jump : Int32) (v_now : Nat → Int64) (a0 : Int32) (a1 : Int32) (r : (Int32 × Int64 × (Nat → Int64))) (hm : f_ys_fillGap v_all v_wall_courses v_now a0 a1 = some r) : gMi l yX7_fillGap cX7_fillGap 6 (some .boolean) rm_ys_fillGap g sz [.ref h0, .int a0, .int a1] (W_ys_fillGap g h0 h1 h2 h3 h4 h5 h6 h7 h8 h9 v_all v_losers v_wall_courses v_wall_columns v_wall_fault v_wall_jump v_now) r.1 (W_ys_fillGap g h0 h1 h2 h3 h4 h5 h6 h7 h8 h9 r.2.1 v_losers v_wall_courses v_wall_columns v_wall_fault v_wall_jump r.2.2) := by
  unfold f_ys_fillGap at hm
  refine gEnterI (by decide) (Nat.le_of_ble_eq_true rfl) (fun p e s m below meth c A C0 H locs hw ls hl => ?_)
  obtain ⟨hx, hb, hr, hml, hown, hts, hlocks, hK, hA⟩ := id C0
  have C0 : gX p s m [.ref h0, .int a0, .int a1].toArray meth c cX7_fillGap 6 (some .boolean) RX7 g A := C0
  have hl : lv_has ls 6 [(0, .ref h0), (1, .int a0), (2, .int a1)] := hl
  refine lv_iconst (v := 0) hx hb dX7_fillGap_0 (by decide) ?_
  refine lv_istore_n (lv' := [(3, .int (0 : Int32)), (0, .ref h0), (1, .int a0), (2, .int a1)]) hx hb dX7_fillGap_1 rfl hl (by decide) rfl (fun ls hl => ?_)
  exact l_ys_fillGap_N2 C0  1000 _ _ _ _ _ hm _ _ _ hw (lv_sub hl [1, 2, 3, 0] rfl)

-- WallHands$Years.fillGaps(I)Z
abbrev W_ys_fillGaps (g : gG) (h0 h1 h2 h3 h4 h5 h6 h7 h8 h9 h10 h11 h12 : Nat) (v_all : Int64) (v_losers : Int32) (v_wall_courses : Int32) (v_wall_columns : Int32) (v_wall_fault : Int32) (v_wall_jump : Int32) (v_gappings_told : Int32) (v_gappings_year : Nat → Int32) (v_gappings_column : Nat → Int32) (v_gappings_hand : Nat → Int32) (v_now : Nat → Int64) : va_W := [(h0, .inr (7, [.ref h1, .ref h7, .ref h2, .ref h6, .long v_all, .ref h8, .ref h9, .ref h10, .ref h11, .int v_losers])), (h1, .inr (6, [.ref h12, .int v_wall_courses, .int v_wall_columns, .int v_wall_fault, .int v_wall_jump])), (h2, .inr (1, [.ref h3, .ref h4, .ref h5, .int v_gappings_told])), (h3, .inl (gI g, 7, .inl v_gappings_year)), (h4, .inl (gI g, 7, .inl v_gappings_column)), (h5, .inl (gI g, 7, .inl v_gappings_hand)), (h6, .inl (gJ g, 8, .inr (.inl v_now)))]

abbrev rm_ys_fillGaps : Room := { frames := 1, cells := 0, slots := 0, locals := 25 }

set_option maxHeartbeats 1000000 in
set_option maxRecDepth 100000 in
theorem n_ys_fillGaps_N4 {p : Program} {l : Launch} {e : Env} {s : State} {m : MethodId} {args : Array Value} {below : List Frame} {meth : Method} {c : Code} {A : Nat → Prop} {g : gG} {h0 h1 h2 h3 h4 h5 h6 h7 h8 h9 h10 h11 h12 : Nat} {v_losers : Int32} {v_wall_courses : Int32} {v_wall_columns : Int32} {v_wall_fault : Int32} {v_wall_jump : Int32} {v_gappings_told : Int32} {v_gappings_year : Nat → Int32} {v_gappings_column : Nat → Int32} {v_gappings_hand : Nat → Int32} {k4 : Int64 → (Nat → Int64) → Int32 → Int32 → Int32 → Option (Int32 × Int64 × (Nat → Int64))} {r : (Int32 × Int64 × (Nat → Int64))} (C0 : gX p s m args meth c cX7_fillGaps 4 (some .boolean) RX7 g A) (hk4 : ∀ (v_all : Int64) (v_now : Nat → Int64) (x1 : Int32) (x2 : Int32) (x3 : Int32), k4 v_all v_now x1 x2 x3 = some r → ∀ (H : Heap) (locs : List Loc) (ls : Array Slot), gW g A s (W_ys_fillGaps g h0 h1 h2 h3 h4 h5 h6 h7 h8 h9 h10 h11 h12 v_all v_losers v_wall_courses v_wall_columns v_wall_fault v_wall_jump v_gappings_told v_gappings_year v_gappings_column v_gappings_hand v_now) H locs → lv_has ls 4 [(0, .ref h0), (1, .int x1), (2, .int x2), (3, .int x3)] → W p l e rm_ys_fillGaps s m args below meth c H locs 0 0 (gQi below args s A g r.1 (W_ys_fillGaps g h0 h1 h2 h3 h4 h5 h6 h7 h8 h9 h10 h11 h12 r.2.1 v_losers v_wall_courses v_wall_columns v_wall_fault v_wall_jump v_gappings_told v_gappings_year v_gappings_column v_gappings_hand r.2.2)) (F0 m 4 ls [])) : ∀ (v_all : Int64) (v_now : Nat → Int64) (x1 : Int32) (x2 : Int32) (x3 : Int32), f_ys_fillGaps_N4 v_wall_courses v_wall_columns v_gappings_told v_gappings_year v_gappings_column v_gappings_hand k4 v_all v_now x1 x2 x3 = some r → ∀ (H : Heap) (locs : List Loc) (ls : Array Slot), gW g A s (W_ys_fillGaps g h0 h1 h2 h3 h4 h5 h6 h7 h8 h9 h10 h11 h12 v_all v_losers v_wall_courses v_wall_columns v_wall_fault v_wall_jump v_gappings_told v_gappings_year v_gappings_column v_gappings_hand v_now) H locs → lv_has ls 4 [(0, .ref h0), (1, .int x1), (2, .int x2), (3, .int x3)] → W p l e rm_ys_fillGaps s m args below meth c H locs 0 0 (gQi below args s A g r.1 (W_ys_fillGaps g h0 h1 h2 h3 h4 h5 h6 h7 h8 h9 h10 h11 h12 r.2.1 v_losers v_wall_courses v_wall_columns v_wall_fault v_wall_jump v_gappings_told v_gappings_year v_gappings_column v_gappings_hand r.2.2)) (F0 m 4 ls []) := by
  intro v_all v_now x1 x2 x3 hm H locs ls hw hl
  unfold f_ys_fillGaps_N4 at hm
  obtain ⟨hx, hb, hr, hml, hown, hts, hlocks, hK, hA⟩ := id C0
  refine lv_iload_n hx hb dX7_fillGaps_4 rfl (lv_at hl 3 rfl) ?_
  refine lv_aload_n hx hb dX7_fillGaps_5 rfl (lv_at hl 0 rfl) ?_
  refine gGet C0 hw flX7_36 0 rfl rfl dX7_fillGaps_6 ?_
  refine gGet C0 hw flX7_122 2 rfl rfl dX7_fillGaps_9 ?_
  refine lv_icmp_ge (tgt := 78) hx hb dX7_fillGaps_12 (by decide) (fun hc => ?_) (fun hc => ?_)
  · have hm := ipos hc hm
    refine lv_iload_n hx hb dX7_fillGaps_78 rfl (lv_at hl 2 rfl) ?_
    obtain ⟨hB0, hm⟩ := gdE hm
    have hB := of_decide_eq_true hB0
    have hm := Option.some.inj hm
    subst hm
    exact gRetZ C0 hw hB dX7_fillGaps_79
  · have hm := ineg hc hm
    refine lv_aload_n hx hb dX7_fillGaps_15 rfl (lv_at hl 0 rfl) ?_
    refine gGet C0 hw flX7_36 0 rfl rfl dX7_fillGaps_16 ?_
    refine gGet C0 hw flX7_125 2 rfl rfl dX7_fillGaps_19 ?_
    refine lv_iload_n hx hb dX7_fillGaps_22 rfl (lv_at hl 3 rfl) ?_
    obtain ⟨hin, hm⟩ := gdE hm
    have hin := inbE hin
    refine gAldI C0 hw 3 rfl hin dX7_fillGaps_23 ?_
    refine lv_iload_n hx hb dX7_fillGaps_24 rfl (lv_at hl 1 rfl) ?_
    refine lv_icmp_ne (tgt := 72) hx hb dX7_fillGaps_25 (by decide) (fun hc => ?_) (fun hc => ?_)
    · have hm := ineg hc hm
      refine lv_iinc (v := x3 + (1 : Int32)) (lv' := [(3, .int (x3 + (1 : Int32))), (0, .ref h0), (1, .int x1), (2, .int x2)]) hx hb dX7_fillGaps_72 hl (k := 3) rfl rfl (by decide) rfl (fun ls hl => ?_)
      refine lv_goto (tgt := 4) hx hb dX7_fillGaps_75 (by decide) ?_
      exact hk4 _ _ _ _ _ hm _ _ _ hw (lv_sub hl [1, 2, 3, 0] rfl)
    · have hm := ipos hc hm
      refine lv_aload_n hx hb dX7_fillGaps_28 rfl (lv_at hl 0 rfl) ?_
      refine gGet C0 hw flX7_36 0 rfl rfl dX7_fillGaps_29 ?_
      refine gGet C0 hw flX7_126 2 rfl rfl dX7_fillGaps_32 ?_
      refine lv_iload_n hx hb dX7_fillGaps_35 rfl (lv_at hl 3 rfl) ?_
      obtain ⟨hin, hm⟩ := gdE hm
      have hin := inbE hin
      refine gAldI C0 hw 4 rfl hin dX7_fillGaps_36 ?_
      refine lv_aload_n hx hb dX7_fillGaps_37 rfl (lv_at hl 0 rfl) ?_
      refine gGet C0 hw flX7_28 0 rfl rfl dX7_fillGaps_38 ?_
      refine gGet C0 hw flX7_129 1 rfl rfl dX7_fillGaps_41 ?_
      refine lv_icmp_ge (tgt := 72) hx hb dX7_fillGaps_44 (by decide) (fun hc => ?_) (fun hc => ?_)
      · have hm := ipos hc hm
        refine lv_iinc (v := x3 + (1 : Int32)) (lv' := [(3, .int (x3 + (1 : Int32))), (0, .ref h0), (1, .int x1), (2, .int x2)]) hx hb dX7_fillGaps_72 hl (k := 3) rfl rfl (by decide) rfl (fun ls hl => ?_)
        refine lv_goto (tgt := 4) hx hb dX7_fillGaps_75 (by decide) ?_
        exact hk4 _ _ _ _ _ hm _ _ _ hw (lv_sub hl [1, 2, 3, 0] rfl)
      · have hm := ineg hc hm
        refine lv_iload_n hx hb dX7_fillGaps_47 rfl (lv_at hl 2 rfl) ?_
        refine lv_aload_n hx hb dX7_fillGaps_48 rfl (lv_at hl 0 rfl) ?_
        refine lv_aload_n hx hb dX7_fillGaps_49 rfl (lv_at hl 0 rfl) ?_
        refine gGet C0 hw flX7_36 0 rfl rfl dX7_fillGaps_50 ?_
        refine gGet C0 hw flX7_126 2 rfl rfl dX7_fillGaps_53 ?_
        refine lv_iload_n hx hb dX7_fillGaps_56 rfl (lv_at hl 3 rfl) ?_
        obtain ⟨hin, hm⟩ := gdE hm
        have hin := inbE hin
        refine gAldI C0 hw 4 rfl hin dX7_fillGaps_57 ?_
        refine lv_aload_n hx hb dX7_fillGaps_58 rfl (lv_at hl 0 rfl) ?_
        refine gGet C0 hw flX7_36 0 rfl rfl dX7_fillGaps_59 ?_
        refine gGet C0 hw flX7_132 2 rfl rfl dX7_fillGaps_62 ?_
        refine lv_iload_n hx hb dX7_fillGaps_65 rfl (lv_at hl 3 rfl) ?_
        obtain ⟨hin, hm⟩ := gdE hm
        have hin := inbE hin
        refine gAldI C0 hw 5 rfl hin dX7_fillGaps_66 ?_
        obtain ⟨o67, ho67, hm⟩ := bindE hm
        refine gCalli (ws' := (W_ys_fillGaps g h0 h1 h2 h3 h4 h5 h6 h7 h8 h9 h10 h11 h12 o67.2.1 v_losers v_wall_courses v_wall_columns v_wall_fault v_wall_jump v_gappings_told v_gappings_year v_gappings_column v_gappings_hand o67.2.2)) C0 hw (gRunV (As := [.int (v_gappings_column x3.toNatClampNeg), .int (v_gappings_hand x3.toNatClampNeg)]) (rest := [.int x2]) C0 hw lkX7_135 (c_ys_fillGap l g H.size h0 h1 h6 h7 h2 h8 h9 h10 h11 h12 v_all v_losers v_wall_courses v_wall_columns v_wall_fault v_wall_jump v_now (v_gappings_column x3.toNatClampNeg) (v_gappings_hand x3.toNatClampNeg) o67 ho67) ⟨rfl, rfl⟩ ⟨Nat.le_of_ble_eq_true rfl, Nat.le_of_ble_eq_true rfl⟩ [0, 1, 6] (by decide) rfl 0 rfl rfl rfl hl.1 rfl (Nat.le_of_ble_eq_true rfl) dX7_fillGaps_67) [0, 1, 6] [2, 3, 4, 5] rfl rfl ⟨rfl, rfl, rfl, rfl, trivial⟩ [h0, h1, h2, h3, h4, h5, h6] rfl rfl 7 rfl (by decide +kernel) (fun H locs hw => ?_)
        refine lv_ior hx hb dX7_fillGaps_70 ?_
        refine lv_istore_n (lv' := [(2, .int (x2 ||| o67.1)), (0, .ref h0), (1, .int x1), (3, .int x3)]) hx hb dX7_fillGaps_71 rfl hl (by decide) rfl (fun ls hl => ?_)
        refine lv_iinc (v := x3 + (1 : Int32)) (lv' := [(3, .int (x3 + (1 : Int32))), (2, .int (x2 ||| o67.1)), (0, .ref h0), (1, .int x1)]) hx hb dX7_fillGaps_72 hl (k := 3) rfl rfl (by decide) rfl (fun ls hl => ?_)
        refine lv_goto (tgt := 4) hx hb dX7_fillGaps_75 (by decide) ?_
        exact hk4 _ _ _ _ _ hm _ _ _ hw (lv_sub hl [2, 3, 1, 0] rfl)
set_option maxHeartbeats 1000000 in
set_option maxRecDepth 100000 in
theorem l_ys_fillGaps_N4 {p : Program} {l : Launch} {e : Env} {s : State} {m : MethodId} {args : Array Value} {below : List Frame} {meth : Method} {c : Code} {A : Nat → Prop} {g : gG} {h0 h1 h2 h3 h4 h5 h6 h7 h8 h9 h10 h11 h12 : Nat} {v_losers : Int32} {v_wall_courses : Int32} {v_wall_columns : Int32} {v_wall_fault : Int32} {v_wall_jump : Int32} {v_gappings_told : Int32} {v_gappings_year : Nat → Int32} {v_gappings_column : Nat → Int32} {v_gappings_hand : Nat → Int32} {r : (Int32 × Int64 × (Nat → Int64))} (C0 : gX p s m args meth c cX7_fillGaps 4 (some .boolean) RX7 g A) : ∀ n : Nat, ∀ (v_all : Int64) (v_now : Nat → Int64) (x1 : Int32) (x2 : Int32) (x3 : Int32), iter (fun _ _ _ _ _ => none) (f_ys_fillGaps_N4 v_wall_courses v_wall_columns v_gappings_told v_gappings_year v_gappings_column v_gappings_hand) n v_all v_now x1 x2 x3 = some r → ∀ (H : Heap) (locs : List Loc) (ls : Array Slot), gW g A s (W_ys_fillGaps g h0 h1 h2 h3 h4 h5 h6 h7 h8 h9 h10 h11 h12 v_all v_losers v_wall_courses v_wall_columns v_wall_fault v_wall_jump v_gappings_told v_gappings_year v_gappings_column v_gappings_hand v_now) H locs → lv_has ls 4 [(0, .ref h0), (1, .int x1), (2, .int x2), (3, .int x3)] → W p l e rm_ys_fillGaps s m args below meth c H locs 0 0 (gQi below args s A g r.1 (W_ys_fillGaps g h0 h1 h2 h3 h4 h5 h6 h7 h8 h9 h10 h11 h12 r.2.1 v_losers v_wall_courses v_wall_columns v_wall_fault v_wall_jump v_gappings_told v_gappings_year v_gappings_column v_gappings_hand r.2.2)) (F0 m 4 ls []) := by
  intro n
  induction n with
  | zero =>
    intro v_all v_now x1 x2 x3 hm
    cases hm
  | succ n ih =>
    exact n_ys_fillGaps_N4 C0  ih
set_option maxHeartbeats 1000000 in
set_option maxRecDepth 100000 in
theorem c_ys_fillGaps (l : Launch) (g : gG) (sz : Nat) (h0 h1 h2 h3 h4 h5 h6 h7 h8 h9 h10 h11 h12 : Nat) (v_all : Int64) (v_losers : Int32) (v_wall_courses : Int32) (v_wall_columns : Int32) (v_wall_fault : Int32) (v_wall_jump : Int32) (v_gappings_told : Int32) (v_gappings_year : Nat → Int32) (v_gappings_column : Nat → Int32) (v_gappings_hand : Nat → Int32) (v_now : Nat → Int64) (a0 : Int32) (r : (Int32 × Int64 × (Nat → Int64))) (hm : f_ys_fillGaps v_all v_wall_courses v_wall_columns v_gappings_told v_gappings_year v_gappings_column v_gappings_hand v_now a0 = some r) : gMi l yX7_fillGaps cX7_fillGaps 4 (some .boolean) rm_ys_fillGaps g sz [.ref h0, .int a0] (W_ys_fillGaps g h0 h1 h2 h3 h4 h5 h6 h7 h8 h9 h10 h11 h12 v_all v_losers v_wall_courses v_wall_columns v_wall_fault v_wall_jump v_gappings_told v_gappings_year v_gappings_column v_gappings_hand v_now) r.1 (W_ys_fillGaps g h0 h1 h2 h3 h4 h5 h6 h7 h8 h9 h10 h11 h12 r.2.1 v_losers v_wall_courses v_wall_columns v_wall_fault v_wall_jump v_gappings_told v_gappings_year v_gappings_column v_gappings_hand r.2.2) := by
  unfold f_ys_fillGaps at hm
  refine gEnterI (by decide) (Nat.le_of_ble_eq_true rfl) (fun p e s m below meth c A C0 H locs hw ls hl => ?_)
  obtain ⟨hx, hb, hr, hml, hown, hts, hlocks, hK, hA⟩ := id C0
  have C0 : gX p s m [.ref h0, .int a0].toArray meth c cX7_fillGaps 4 (some .boolean) RX7 g A := C0
  have hl : lv_has ls 4 [(0, .ref h0), (1, .int a0)] := hl
  refine lv_iconst (v := 0) hx hb dX7_fillGaps_0 (by decide) ?_
  refine lv_istore_n (lv' := [(2, .int (0 : Int32)), (0, .ref h0), (1, .int a0)]) hx hb dX7_fillGaps_1 rfl hl (by decide) rfl (fun ls hl => ?_)
  refine lv_iconst (v := 0) hx hb dX7_fillGaps_2 (by decide) ?_
  refine lv_istore_n (lv' := [(3, .int (0 : Int32)), (2, .int (0 : Int32)), (0, .ref h0), (1, .int a0)]) hx hb dX7_fillGaps_3 rfl hl (by decide) rfl (fun ls hl => ?_)
  exact l_ys_fillGaps_N4 C0  1000 _ _ _ _ _ hm _ _ _ hw (lv_sub hl [2, 3, 1, 0] rfl)

-- WallHands$Years.openColumns()I
abbrev W_ys_openColumns (g : gG) (h0 h1 h2 h3 h4 h5 h6 h7 h8 h9 h10 h11 : Nat) (v_all : Int64) (v_losers : Int32) (v_wall_courses : Int32) (v_wall_columns : Int32) (v_wall_fault : Int32) (v_wall_jump : Int32) (v_hands_told : Int32) (v_hands_fault : Int32) (v_hands_mood : Nat → Int32) (v_now : Nat → Int64) : va_W := [(h0, .inr (7, [.ref h1, .ref h2, .ref h5, .ref h4, .long v_all, .ref h6, .ref h7, .ref h8, .ref h9, .int v_losers])), (h1, .inr (6, [.ref h10, .int v_wall_courses, .int v_wall_columns, .int v_wall_fault, .int v_wall_jump])), (h2, .inr (2, [.ref h3, .ref h11, .int v_hands_told, .int v_hands_fault])), (h3, .inl (gI g, 8, .inl v_hands_mood)), (h4, .inl (gJ g, 8, .inr (.inl v_now)))]

abbrev rm_ys_openColumns : Room := { frames := 1, cells := 0, slots := 0, locals := 24 }

set_option maxHeartbeats 1000000 in
set_option maxRecDepth 100000 in
theorem n_ys_openColumns_N66 {p : Program} {l : Launch} {e : Env} {s : State} {m : MethodId} {args : Array Value} {below : List Frame} {meth : Method} {c : Code} {A : Nat → Prop} {g : gG} {h0 h1 h2 h3 h4 h5 h6 h7 h8 h9 h10 h11 : Nat} {v_all : Int64} {v_losers : Int32} {v_wall_courses : Int32} {v_wall_columns : Int32} {v_wall_fault : Int32} {v_wall_jump : Int32} {v_hands_told : Int32} {v_hands_fault : Int32} {v_hands_mood : Nat → Int32} {v_now : Nat → Int64} {k18 : Int64 → Int64 → Int32 → Int32 → Option Int32} {r : Int32} (C0 : gX p s m args meth c cX7_openColumns 10 (some .int) RX7 g A) (hk18 : ∀ (x1 : Int64) (x3 : Int64) (x5 : Int32) (x6 : Int32), k18 x1 x3 x5 x6 = some r → ∀ (H : Heap) (locs : List Loc) (ls : Array Slot), gW g A s (W_ys_openColumns g h0 h1 h2 h3 h4 h5 h6 h7 h8 h9 h10 h11 v_all v_losers v_wall_courses v_wall_columns v_wall_fault v_wall_jump v_hands_told v_hands_fault v_hands_mood v_now) H locs → lv_has ls 10 [(0, .ref h0), (1, .long x1), (3, .long x3), (5, .int x5), (6, .int x6)] → W p l e rm_ys_openColumns s m args below meth c H locs 0 0 (gQi below args s A g r (W_ys_openColumns g h0 h1 h2 h3 h4 h5 h6 h7 h8 h9 h10 h11 v_all v_losers v_wall_courses v_wall_columns v_wall_fault v_wall_jump v_hands_told v_hands_fault v_hands_mood v_now)) (F0 m 18 ls [])) : ∀ (x1 : Int64) (x3 : Int64) (x5 : Int32) (x6 : Int32) (x7 : Int64) (y0 : Int32), f_ys_openColumns_N66 v_all v_wall_columns v_wall_jump v_hands_told v_hands_mood v_now k18 x1 x3 x5 x6 x7 y0 = some r → ∀ (H : Heap) (locs : List Loc) (ls : Array Slot), gW g A s (W_ys_openColumns g h0 h1 h2 h3 h4 h5 h6 h7 h8 h9 h10 h11 v_all v_losers v_wall_courses v_wall_columns v_wall_fault v_wall_jump v_hands_told v_hands_fault v_hands_mood v_now) H locs → lv_has ls 10 [(0, .ref h0), (1, .long x1), (3, .long x3), (5, .int x5), (6, .int x6), (7, .long x7)] → W p l e rm_ys_openColumns s m args below meth c H locs 0 0 (gQi below args s A g r (W_ys_openColumns g h0 h1 h2 h3 h4 h5 h6 h7 h8 h9 h10 h11 v_all v_losers v_wall_courses v_wall_columns v_wall_fault v_wall_jump v_hands_told v_hands_fault v_hands_mood v_now)) (F0 m 66 ls [.int y0]) := by
  intro x1 x3 x5 x6 x7 y0 hm H locs ls hw hl
  unfold f_ys_openColumns_N66 at hm
  obtain ⟨hx, hb, hr, hml, hown, hts, hlocks, hK, hA⟩ := id C0
  refine lv_istore (lv' := [(9, .int y0), (0, .ref h0), (1, .long x1), (3, .long x3), (5, .int x5), (6, .int x6), (7, .long x7)]) hx hb dX7_openColumns_66 hl (by decide) rfl (fun ls hl => ?_)
  refine lv_lload_n hx hb dX7_openColumns_68 rfl (lv_at hl 3 rfl) ?_
  refine lv_lload hx hb dX7_openColumns_69 (lv_at hl 6 rfl) ?_
  refine lv_land hx hb dX7_openColumns_71 ?_
  refine lv_lconst (v := 0) hx hb dX7_openColumns_72 (by decide) ?_
  refine W.lcmp hx hb dX7_openColumns_73 ?_
  refine lv_if_ne (tgt := 101) hx hb dX7_openColumns_74 (by decide) (fun hc => ?_) (fun hc => ?_)
  · have hm := ineg hc hm
    refine lv_iinc (v := x6 + (1 : Int32)) (lv' := [(6, .int (x6 + (1 : Int32))), (9, .int y0), (0, .ref h0), (1, .long x1), (3, .long x3), (5, .int x5), (7, .long x7)]) hx hb dX7_openColumns_101 hl (k := 5) rfl rfl (by decide) rfl (fun ls hl => ?_)
    refine lv_goto (tgt := 18) hx hb dX7_openColumns_104 (by decide) ?_
    exact hk18 _ _ _ _ hm _ _ _ hw (lv_sub hl [2, 3, 4, 5, 0] rfl)
  · have hm := ipos hc hm
    refine lv_aload_n hx hb dX7_openColumns_77 rfl (lv_at hl 1 rfl) ?_
    refine gGet C0 hw flX7_53 0 rfl rfl dX7_openColumns_78 ?_
    refine lv_lload hx hb dX7_openColumns_81 (lv_at hl 6 rfl) ?_
    refine lv_land hx hb dX7_openColumns_83 ?_
    obtain ⟨o84, ho84, hm⟩ := bindE hm
    refine gCalli (ws' := (W_ys_openColumns g h0 h1 h2 h3 h4 h5 h6 h7 h8 h9 h10 h11 v_all v_losers v_wall_courses v_wall_columns v_wall_fault v_wall_jump v_hands_told v_hands_fault v_hands_mood v_now)) C0 hw (gRunS (As := [.long (v_all &&& x7)]) (rest := []) C0 hw lkX7_101 (c_jl_bitCount l g H.size  (v_all &&& x7) o84 ho84) ⟨rfl, rfl⟩ ⟨Nat.le_of_ble_eq_true rfl, Nat.le_of_ble_eq_true rfl⟩ [] (by decide) rfl rfl hl.1 rfl (Nat.le_of_ble_eq_true rfl) dX7_openColumns_84) [] [0, 1, 2, 3, 4] rfl rfl ⟨rfl, rfl, rfl, rfl, rfl, trivial⟩ [h0, h1, h2, h3, h4] rfl rfl 5 rfl (by decide +kernel) (fun H locs hw => ?_)
    refine lv_iload hx hb dX7_openColumns_87 (lv_at hl 0 rfl) ?_
    refine lv_icmp_ge (tgt := 101) hx hb dX7_openColumns_89 (by decide) (fun hc => ?_) (fun hc => ?_)
    · have hm := ipos hc hm
      refine lv_iinc (v := x6 + (1 : Int32)) (lv' := [(6, .int (x6 + (1 : Int32))), (9, .int y0), (0, .ref h0), (1, .long x1), (3, .long x3), (5, .int x5), (7, .long x7)]) hx hb dX7_openColumns_101 hl (k := 5) rfl rfl (by decide) rfl (fun ls hl => ?_)
      refine lv_goto (tgt := 18) hx hb dX7_openColumns_104 (by decide) ?_
      exact hk18 _ _ _ _ hm _ _ _ hw (lv_sub hl [2, 3, 4, 5, 0] rfl)
    · have hm := ineg hc hm
      refine lv_iload hx hb dX7_openColumns_92 (lv_at hl 4 rfl) ?_
      refine lv_iconst (v := 1) hx hb dX7_openColumns_94 (by decide) ?_
      refine lv_iload hx hb dX7_openColumns_95 (lv_at hl 5 rfl) ?_
      refine lv_ishl hx hb dX7_openColumns_97 ?_
      refine lv_ior hx hb dX7_openColumns_98 ?_
      refine lv_istore (lv' := [(5, .int (x5 ||| ((1 : Int32) <<< (x6 &&& 31)))), (9, .int y0), (0, .ref h0), (1, .long x1), (3, .long x3), (6, .int x6), (7, .long x7)]) hx hb dX7_openColumns_99 hl (by decide) rfl (fun ls hl => ?_)
      refine lv_iinc (v := x6 + (1 : Int32)) (lv' := [(6, .int (x6 + (1 : Int32))), (5, .int (x5 ||| ((1 : Int32) <<< (x6 &&& 31)))), (9, .int y0), (0, .ref h0), (1, .long x1), (3, .long x3), (7, .long x7)]) hx hb dX7_openColumns_101 hl (k := 5) rfl rfl (by decide) rfl (fun ls hl => ?_)
      refine lv_goto (tgt := 18) hx hb dX7_openColumns_104 (by decide) ?_
      exact hk18 _ _ _ _ hm _ _ _ hw (lv_sub hl [3, 4, 5, 1, 0] rfl)
set_option maxHeartbeats 1000000 in
set_option maxRecDepth 100000 in
theorem n_ys_openColumns_N18 {p : Program} {l : Launch} {e : Env} {s : State} {m : MethodId} {args : Array Value} {below : List Frame} {meth : Method} {c : Code} {A : Nat → Prop} {g : gG} {h0 h1 h2 h3 h4 h5 h6 h7 h8 h9 h10 h11 : Nat} {v_all : Int64} {v_losers : Int32} {v_wall_courses : Int32} {v_wall_columns : Int32} {v_wall_fault : Int32} {v_wall_jump : Int32} {v_hands_told : Int32} {v_hands_fault : Int32} {v_hands_mood : Nat → Int32} {v_now : Nat → Int64} {k18 : Int64 → Int64 → Int32 → Int32 → Option Int32} {r : Int32} (C0 : gX p s m args meth c cX7_openColumns 10 (some .int) RX7 g A) (hk18 : ∀ (x1 : Int64) (x3 : Int64) (x5 : Int32) (x6 : Int32), k18 x1 x3 x5 x6 = some r → ∀ (H : Heap) (locs : List Loc) (ls : Array Slot), gW g A s (W_ys_openColumns g h0 h1 h2 h3 h4 h5 h6 h7 h8 h9 h10 h11 v_all v_losers v_wall_courses v_wall_columns v_wall_fault v_wall_jump v_hands_told v_hands_fault v_hands_mood v_now) H locs → lv_has ls 10 [(0, .ref h0), (1, .long x1), (3, .long x3), (5, .int x5), (6, .int x6)] → W p l e rm_ys_openColumns s m args below meth c H locs 0 0 (gQi below args s A g r (W_ys_openColumns g h0 h1 h2 h3 h4 h5 h6 h7 h8 h9 h10 h11 v_all v_losers v_wall_courses v_wall_columns v_wall_fault v_wall_jump v_hands_told v_hands_fault v_hands_mood v_now)) (F0 m 18 ls [])) : ∀ (x1 : Int64) (x3 : Int64) (x5 : Int32) (x6 : Int32), f_ys_openColumns_N18 v_all v_wall_columns v_wall_jump v_hands_told v_hands_mood v_now k18 x1 x3 x5 x6 = some r → ∀ (H : Heap) (locs : List Loc) (ls : Array Slot), gW g A s (W_ys_openColumns g h0 h1 h2 h3 h4 h5 h6 h7 h8 h9 h10 h11 v_all v_losers v_wall_courses v_wall_columns v_wall_fault v_wall_jump v_hands_told v_hands_fault v_hands_mood v_now) H locs → lv_has ls 10 [(0, .ref h0), (1, .long x1), (3, .long x3), (5, .int x5), (6, .int x6)] → W p l e rm_ys_openColumns s m args below meth c H locs 0 0 (gQi below args s A g r (W_ys_openColumns g h0 h1 h2 h3 h4 h5 h6 h7 h8 h9 h10 h11 v_all v_losers v_wall_courses v_wall_columns v_wall_fault v_wall_jump v_hands_told v_hands_fault v_hands_mood v_now)) (F0 m 18 ls []) := by
  intro x1 x3 x5 x6 hm H locs ls hw hl
  unfold f_ys_openColumns_N18 at hm
  obtain ⟨hx, hb, hr, hml, hown, hts, hlocks, hK, hA⟩ := id C0
  refine lv_iload hx hb dX7_openColumns_18 (lv_at hl 4 rfl) ?_
  refine lv_aload_n hx hb dX7_openColumns_20 rfl (lv_at hl 0 rfl) ?_
  refine gGet C0 hw flX7_28 0 rfl rfl dX7_openColumns_21 ?_
  refine gGet C0 hw flX7_129 1 rfl rfl dX7_openColumns_24 ?_
  refine lv_icmp_ge (tgt := 107) hx hb dX7_openColumns_27 (by decide) (fun hc => ?_) (fun hc => ?_)
  · have hm := ipos hc hm
    refine lv_iload hx hb dX7_openColumns_107 (lv_at hl 3 rfl) ?_
    have hm := Option.some.inj hm
    subst hm
    exact gRetI C0 hw dX7_openColumns_109
  · have hm := ineg hc hm
    refine lv_ldc2 (v := 4311810305) hx hb hown (hts _ kX7_142) dX7_openColumns_30 ?_
    refine lv_iload hx hb dX7_openColumns_33 (lv_at hl 4 rfl) ?_
    refine lv_lshl (v := lshl (4311810305 : Int64) x6) hx hb dX7_openColumns_35 rfl ?_
    refine lv_lstore (lv' := [(7, .long (lshl (4311810305 : Int64) x6)), (0, .ref h0), (1, .long x1), (3, .long x3), (5, .int x5), (6, .int x6)]) hx hb dX7_openColumns_36 hl (by decide) rfl (fun ls hl => ?_)
    refine lv_lload_n hx hb dX7_openColumns_38 rfl (lv_at hl 2 rfl) ?_
    refine lv_lload hx hb dX7_openColumns_39 (lv_at hl 0 rfl) ?_
    refine lv_land hx hb dX7_openColumns_41 ?_
    refine lv_lconst (v := 0) hx hb dX7_openColumns_42 (by decide) ?_
    refine W.lcmp hx hb dX7_openColumns_43 ?_
    refine lv_if_ne (tgt := 57) hx hb dX7_openColumns_44 (by decide) (fun hc => ?_) (fun hc => ?_)
    · have hm := ineg hc hm
      refine lv_aload_n hx hb dX7_openColumns_57 rfl (lv_at hl 1 rfl) ?_
      refine gGet C0 hw flX7_28 0 rfl rfl dX7_openColumns_58 ?_
      refine gGet C0 hw flX7_144 1 rfl rfl dX7_openColumns_61 ?_
      refine lv_iconst (v := 1) hx hb dX7_openColumns_64 (by decide) ?_
      refine lv_iadd hx hb dX7_openColumns_65 ?_
      exact n_ys_openColumns_N66 C0 hk18 _ _ _ _ _ _ hm _ _ _ hw (lv_sub hl [1, 2, 3, 4, 5, 0] rfl)
    · have hm := ipos hc hm
      refine lv_aload_n hx hb dX7_openColumns_47 rfl (lv_at hl 1 rfl) ?_
      refine gGet C0 hw flX7_28 0 rfl rfl dX7_openColumns_48 ?_
      refine gGet C0 hw flX7_144 1 rfl rfl dX7_openColumns_51 ?_
      refine lv_goto (tgt := 66) hx hb dX7_openColumns_54 (by decide) ?_
      exact n_ys_openColumns_N66 C0 hk18 _ _ _ _ _ _ hm _ _ _ hw (lv_sub hl [1, 2, 3, 4, 5, 0] rfl)
set_option maxHeartbeats 1000000 in
set_option maxRecDepth 100000 in
theorem l_ys_openColumns_N18 {p : Program} {l : Launch} {e : Env} {s : State} {m : MethodId} {args : Array Value} {below : List Frame} {meth : Method} {c : Code} {A : Nat → Prop} {g : gG} {h0 h1 h2 h3 h4 h5 h6 h7 h8 h9 h10 h11 : Nat} {v_all : Int64} {v_losers : Int32} {v_wall_courses : Int32} {v_wall_columns : Int32} {v_wall_fault : Int32} {v_wall_jump : Int32} {v_hands_told : Int32} {v_hands_fault : Int32} {v_hands_mood : Nat → Int32} {v_now : Nat → Int64} {r : Int32} (C0 : gX p s m args meth c cX7_openColumns 10 (some .int) RX7 g A) : ∀ n : Nat, ∀ (x1 : Int64) (x3 : Int64) (x5 : Int32) (x6 : Int32), iter (fun _ _ _ _ => none) (f_ys_openColumns_N18 v_all v_wall_columns v_wall_jump v_hands_told v_hands_mood v_now) n x1 x3 x5 x6 = some r → ∀ (H : Heap) (locs : List Loc) (ls : Array Slot), gW g A s (W_ys_openColumns g h0 h1 h2 h3 h4 h5 h6 h7 h8 h9 h10 h11 v_all v_losers v_wall_courses v_wall_columns v_wall_fault v_wall_jump v_hands_told v_hands_fault v_hands_mood v_now) H locs → lv_has ls 10 [(0, .ref h0), (1, .long x1), (3, .long x3), (5, .int x5), (6, .int x6)] → W p l e rm_ys_openColumns s m args below meth c H locs 0 0 (gQi below args s A g r (W_ys_openColumns g h0 h1 h2 h3 h4 h5 h6 h7 h8 h9 h10 h11 v_all v_losers v_wall_courses v_wall_columns v_wall_fault v_wall_jump v_hands_told v_hands_fault v_hands_mood v_now)) (F0 m 18 ls []) := by
  intro n
  induction n with
  | zero =>
    intro x1 x3 x5 x6 hm
    cases hm
  | succ n ih =>
    exact n_ys_openColumns_N18 C0  ih
set_option maxHeartbeats 1000000 in
set_option maxRecDepth 100000 in
theorem c_ys_openColumns (l : Launch) (g : gG) (sz : Nat) (h0 h1 h2 h3 h4 h5 h6 h7 h8 h9 h10 h11 : Nat) (v_all : Int64) (v_losers : Int32) (v_wall_courses : Int32) (v_wall_columns : Int32) (v_wall_fault : Int32) (v_wall_jump : Int32) (v_hands_told : Int32) (v_hands_fault : Int32) (v_hands_mood : Nat → Int32) (v_now : Nat → Int64) (r : Int32) (hm : f_ys_openColumns v_all v_wall_columns v_wall_jump v_hands_told v_hands_mood v_now = some r) : gMi l yX7_openColumns cX7_openColumns 10 (some .int) rm_ys_openColumns g sz [.ref h0] (W_ys_openColumns g h0 h1 h2 h3 h4 h5 h6 h7 h8 h9 h10 h11 v_all v_losers v_wall_courses v_wall_columns v_wall_fault v_wall_jump v_hands_told v_hands_fault v_hands_mood v_now) r (W_ys_openColumns g h0 h1 h2 h3 h4 h5 h6 h7 h8 h9 h10 h11 v_all v_losers v_wall_courses v_wall_columns v_wall_fault v_wall_jump v_hands_told v_hands_fault v_hands_mood v_now) := by
  unfold f_ys_openColumns at hm
  refine gEnterI (by decide) (Nat.le_of_ble_eq_true rfl) (fun p e s m below meth c A C0 H locs hw ls hl => ?_)
  obtain ⟨hx, hb, hr, hml, hown, hts, hlocks, hK, hA⟩ := id C0
  have C0 : gX p s m [.ref h0].toArray meth c cX7_openColumns 10 (some .int) RX7 g A := C0
  have hl : lv_has ls 10 [(0, .ref h0)] := hl
  refine lv_aload_n hx hb dX7_openColumns_0 rfl (lv_at hl 0 rfl) ?_
  refine lv_iconst (v := 2) hx hb dX7_openColumns_1 (by decide) ?_
  obtain ⟨o2, ho2, hm⟩ := bindE hm
  refine gCalll (ws' := (W_ys_openColumns g h0 h1 h2 h3 h4 h5 h6 h7 h8 h9 h10 h11 v_all v_losers v_wall_courses v_wall_columns v_wall_fault v_wall_jump v_hands_told v_hands_fault v_hands_mood v_now)) C0 hw (gRunV (As := [.int (2 : Int32)]) (rest := []) C0 hw lkX7_116 (c_ys_nowOf l g H.size h0 h2 h3 h4 h1 h5 h6 h7 h8 h9 h11 v_all v_losers v_hands_told v_hands_fault v_hands_mood v_now (2 : Int32) o2 ho2) ⟨rfl, rfl⟩ ⟨Nat.le_of_ble_eq_true rfl, Nat.le_of_ble_eq_true rfl⟩ [0, 2, 3, 4] (by decide) rfl 0 rfl rfl rfl hl.1 rfl (Nat.le_of_ble_eq_true rfl) dX7_openColumns_2) [0, 2, 3, 4] [1] rfl rfl ⟨rfl, trivial⟩ [h0, h1, h2, h3, h4] rfl rfl 5 rfl (by decide +kernel) (fun H locs hw => ?_)
  refine lv_lstore_n (lv' := [(1, .long o2), (0, .ref h0)]) hx hb dX7_openColumns_5 rfl hl (by decide) rfl (fun ls hl => ?_)
  refine lv_aload_n hx hb dX7_openColumns_6 rfl (lv_at hl 1 rfl) ?_
  refine lv_iconst (v := 1) hx hb dX7_openColumns_7 (by decide) ?_
  obtain ⟨o8, ho8, hm⟩ := bindE hm
  refine gCalll (ws' := (W_ys_openColumns g h0 h1 h2 h3 h4 h5 h6 h7 h8 h9 h10 h11 v_all v_losers v_wall_courses v_wall_columns v_wall_fault v_wall_jump v_hands_told v_hands_fault v_hands_mood v_now)) C0 hw (gRunV (As := [.int (1 : Int32)]) (rest := []) C0 hw lkX7_116 (c_ys_nowOf l g H.size h0 h2 h3 h4 h1 h5 h6 h7 h8 h9 h11 v_all v_losers v_hands_told v_hands_fault v_hands_mood v_now (1 : Int32) o8 ho8) ⟨rfl, rfl⟩ ⟨Nat.le_of_ble_eq_true rfl, Nat.le_of_ble_eq_true rfl⟩ [0, 2, 3, 4] (by decide) rfl 0 rfl rfl rfl hl.1 rfl (Nat.le_of_ble_eq_true rfl) dX7_openColumns_8) [0, 2, 3, 4] [1] rfl rfl ⟨rfl, trivial⟩ [h0, h1, h2, h3, h4] rfl rfl 5 rfl (by decide +kernel) (fun H locs hw => ?_)
  refine lv_lstore_n (lv' := [(3, .long o8), (1, .long o2), (0, .ref h0)]) hx hb dX7_openColumns_11 rfl hl (by decide) rfl (fun ls hl => ?_)
  refine lv_iconst (v := 0) hx hb dX7_openColumns_12 (by decide) ?_
  refine lv_istore (lv' := [(5, .int (0 : Int32)), (3, .long o8), (1, .long o2), (0, .ref h0)]) hx hb dX7_openColumns_13 hl (by decide) rfl (fun ls hl => ?_)
  refine lv_iconst (v := 0) hx hb dX7_openColumns_15 (by decide) ?_
  refine lv_istore (lv' := [(6, .int (0 : Int32)), (5, .int (0 : Int32)), (3, .long o8), (1, .long o2), (0, .ref h0)]) hx hb dX7_openColumns_16 hl (by decide) rfl (fun ls hl => ?_)
  exact l_ys_openColumns_N18 C0  1000 _ _ _ _ hm _ _ _ hw (lv_sub hl [4, 3, 2, 1, 0] rfl)

-- WallHands$Years.run(LWallHands$Frosts;I)V
abbrev W_ys_run (g : gG) (h0 h1 h2 h3 h4 h5 h6 h7 h8 h9 h10 h11 h12 h13 h14 h15 h16 h17 : Nat) (v_all : Int64) (v_losers : Int32) (v_wall_courses : Int32) (v_wall_columns : Int32) (v_wall_fault : Int32) (v_wall_jump : Int32) (v_wall_stones : Nat → Int64) (v_hands_told : Int32) (v_hands_fault : Int32) (v_hands_mood : Nat → Int32) (v_hands_strong : Nat → Int32) (v_gappings_told : Int32) (v_gappings_year : Nat → Int32) (v_gappings_column : Nat → Int32) (v_gappings_hand : Nat → Int32) (v_now : Nat → Int64) (v_stones : Nat → Int64) (v_standing : Nat → Int64) (v_open : Nat → Int32) (v_fallen : Nat → Int32) (p0_told : Int32) (p0_year : Nat → Int32) (p0_force : Nat → Int32) : va_W := [(h0, .inr (7, [.ref h1, .ref h3, .ref h6, .ref h10, .long v_all, .ref h11, .ref h12, .ref h13, .ref h14, .int v_losers])), (h1, .inr (6, [.ref h2, .int v_wall_courses, .int v_wall_columns, .int v_wall_fault, .int v_wall_jump])), (h2, .inl (gJ g, 8, .inr (.inl v_wall_stones))), (h3, .inr (2, [.ref h4, .ref h5, .int v_hands_told, .int v_hands_fault])), (h4, .inl (gI g, 8, .inl v_hands_mood)), (h5, .inl (gI g, 8, .inl v_hands_strong)), (h6, .inr (1, [.ref h7, .ref h8, .ref h9, .int v_gappings_told])), (h7, .inl (gI g, 7, .inl v_gappings_year)), (h8, .inl (gI g, 7, .inl v_gappings_column)), (h9, .inl (gI g, 7, .inl v_gappings_hand)), (h10, .inl (gJ g, 8, .inr (.inl v_now))), (h11, .inl (gJ g, 160, .inr (.inl v_stones))), (h12, .inl (gJ g, 20, .inr (.inl v_standing))), (h13, .inl (gI g, 20, .inl v_open)), (h14, .inl (gI g, 20, .inl v_fallen)), (h15, .inr (0, [.ref h16, .ref h17, .int p0_told])), (h16, .inl (gI g, 6, .inl p0_year)), (h17, .inl (gI g, 6, .inl p0_force))]

abbrev rm_ys_run : Room := { frames := 3, cells := 0, slots := 0, locals := 87 }

set_option maxHeartbeats 1000000 in
set_option maxRecDepth 100000 in
theorem n_ys_run_N113 {p : Program} {l : Launch} {e : Env} {s : State} {m : MethodId} {args : Array Value} {below : List Frame} {meth : Method} {c : Code} {A : Nat → Prop} {g : gG} {h0 h1 h2 h3 h4 h5 h6 h7 h8 h9 h10 h11 h12 h13 h14 h15 h16 h17 : Nat} {v_wall_courses : Int32} {v_wall_columns : Int32} {v_wall_fault : Int32} {v_wall_jump : Int32} {v_wall_stones : Nat → Int64} {v_hands_told : Int32} {v_hands_fault : Int32} {v_hands_mood : Nat → Int32} {v_hands_strong : Nat → Int32} {v_gappings_told : Int32} {v_gappings_year : Nat → Int32} {v_gappings_column : Nat → Int32} {v_gappings_hand : Nat → Int32} {p0_told : Int32} {p0_year : Nat → Int32} {p0_force : Nat → Int32} {k36 : Int64 → Int32 → (Nat → Int64) → (Nat → Int64) → (Nat → Int64) → (Nat → Int32) → (Nat → Int32) → Int32 → Int32 → Option (Int64 × Int32 × (Nat → Int64) × (Nat → Int64) × (Nat → Int64) × (Nat → Int32) × (Nat → Int32))} {r : (Int64 × Int32 × (Nat → Int64) × (Nat → Int64) × (Nat → Int64) × (Nat → Int32) × (Nat → Int32))} (C0 : gX p s m args meth c cX7_run 6 none RX7 g A) (hk36 : ∀ (v_all : Int64) (v_losers : Int32) (v_now : Nat → Int64) (v_stones : Nat → Int64) (v_standing : Nat → Int64) (v_open : Nat → Int32) (v_fallen : Nat → Int32) (x2 : Int32) (x3 : Int32), k36 v_all v_losers v_now v_stones v_standing v_open v_fallen x2 x3 = some r → ∀ (H : Heap) (locs : List Loc) (ls : Array Slot), gW g A s (W_ys_run g h0 h1 h2 h3 h4 h5 h6 h7 h8 h9 h10 h11 h12 h13 h14 h15 h16 h17 v_all v_losers v_wall_courses v_wall_columns v_wall_fault v_wall_jump v_wall_stones v_hands_told v_hands_fault v_hands_mood v_hands_strong v_gappings_told v_gappings_year v_gappings_column v_gappings_hand v_now v_stones v_standing v_open v_fallen p0_told p0_year p0_force) H locs → lv_has ls 6 [(0, .ref h0), (1, .ref h15), (2, .int x2), (3, .int x3)] → W p l e rm_ys_run s m args below meth c H locs 0 0 (gQv below args s A g (W_ys_run g h0 h1 h2 h3 h4 h5 h6 h7 h8 h9 h10 h11 h12 h13 h14 h15 h16 h17 r.1 r.2.1 v_wall_courses v_wall_columns v_wall_fault v_wall_jump v_wall_stones v_hands_told v_hands_fault v_hands_mood v_hands_strong v_gappings_told v_gappings_year v_gappings_column v_gappings_hand r.2.2.1 r.2.2.2.1 r.2.2.2.2.1 r.2.2.2.2.2.1 r.2.2.2.2.2.2 p0_told p0_year p0_force)) (F0 m 36 ls [])) : ∀ (v_all : Int64) (v_losers : Int32) (v_now : Nat → Int64) (v_stones : Nat → Int64) (v_standing : Nat → Int64) (v_open : Nat → Int32) (v_fallen : Nat → Int32) (x2 : Int32) (x3 : Int32) (y0 : Int32), f_ys_run_N113 v_wall_courses v_wall_columns v_wall_jump v_wall_stones v_hands_told v_hands_mood v_hands_strong v_gappings_told v_gappings_year v_gappings_column v_gappings_hand p0_told p0_year p0_force k36 v_all v_losers v_now v_stones v_standing v_open v_fallen x2 x3 y0 = some r → ∀ (H : Heap) (locs : List Loc) (ls : Array Slot), gW g A s (W_ys_run g h0 h1 h2 h3 h4 h5 h6 h7 h8 h9 h10 h11 h12 h13 h14 h15 h16 h17 v_all v_losers v_wall_courses v_wall_columns v_wall_fault v_wall_jump v_wall_stones v_hands_told v_hands_fault v_hands_mood v_hands_strong v_gappings_told v_gappings_year v_gappings_column v_gappings_hand v_now v_stones v_standing v_open v_fallen p0_told p0_year p0_force) H locs → lv_has ls 6 [(0, .ref h0), (1, .ref h15), (2, .int x2), (3, .int x3)] → W p l e rm_ys_run s m args below meth c H locs 0 0 (gQv below args s A g (W_ys_run g h0 h1 h2 h3 h4 h5 h6 h7 h8 h9 h10 h11 h12 h13 h14 h15 h16 h17 r.1 r.2.1 v_wall_courses v_wall_columns v_wall_fault v_wall_jump v_wall_stones v_hands_told v_hands_fault v_hands_mood v_hands_strong v_gappings_told v_gappings_year v_gappings_column v_gappings_hand r.2.2.1 r.2.2.2.1 r.2.2.2.2.1 r.2.2.2.2.2.1 r.2.2.2.2.2.2 p0_told p0_year p0_force)) (F0 m 113 ls [.int y0]) := by
  intro v_all v_losers v_now v_stones v_standing v_open v_fallen x2 x3 y0 hm H locs ls hw hl
  unfold f_ys_run_N113 at hm
  obtain ⟨hx, hb, hr, hml, hown, hts, hlocks, hK, hA⟩ := id C0
  refine lv_istore (lv' := [(5, .int y0), (0, .ref h0), (1, .ref h15), (2, .int x2), (3, .int x3)]) hx hb dX7_run_113 hl (by decide) rfl (fun ls hl => ?_)
  refine lv_aload_n hx hb dX7_run_115 rfl (lv_at hl 1 rfl) ?_
  refine gGet C0 hw flX7_21 0 rfl rfl dX7_run_116 ?_
  refine lv_iload_n hx hb dX7_run_119 rfl (lv_at hl 4 rfl) ?_
  refine lv_iload hx hb dX7_run_120 (lv_at hl 0 rfl) ?_
  refine lv_if_eq (tgt := 136) hx hb dX7_run_122 (by decide) (fun hc => ?_) (fun hc => ?_)
  · have hm := ipos hc hm
    refine lv_aload_n hx hb dX7_run_136 rfl (lv_at hl 1 rfl) ?_
    obtain ⟨o137, ho137, hm⟩ := bindE hm
    refine gCalli (ws' := (W_ys_run g h0 h1 h2 h3 h4 h5 h6 h7 h8 h9 h10 h11 h12 h13 h14 h15 h16 h17 v_all v_losers v_wall_courses v_wall_columns v_wall_fault v_wall_jump v_wall_stones v_hands_told v_hands_fault v_hands_mood v_hands_strong v_gappings_told v_gappings_year v_gappings_column v_gappings_hand v_now v_stones v_standing v_open v_fallen p0_told p0_year p0_force)) C0 hw (gRunV (As := []) (rest := [.int x3, .ref h13]) C0 hw lkX7_69 (c_ys_openColumns l g H.size h0 h1 h3 h4 h10 h6 h11 h12 h13 h14 h2 h5 v_all v_losers v_wall_courses v_wall_columns v_wall_fault v_wall_jump v_hands_told v_hands_fault v_hands_mood v_now o137 ho137) ⟨rfl, rfl⟩ ⟨Nat.le_of_ble_eq_true rfl, Nat.le_of_ble_eq_true rfl⟩ [0, 1, 3, 4, 10] (by decide) rfl 0 rfl rfl rfl hl.1 rfl (Nat.le_of_ble_eq_true rfl) dX7_run_137) [0, 1, 3, 4, 10] [2, 5, 6, 7, 8, 9, 11, 12, 13, 14, 15, 16, 17] rfl rfl ⟨rfl, rfl, rfl, rfl, rfl, rfl, rfl, rfl, rfl, rfl, rfl, rfl, rfl, trivial⟩ [h0, h1, h2, h3, h4, h5, h6, h7, h8, h9, h10, h11, h12, h13, h14, h15, h16, h17] rfl rfl 18 rfl (by decide +kernel) (fun H locs hw => ?_)
    obtain ⟨hin, hm⟩ := gdE hm
    have hin := inbE hin
    refine gAstI (ws' := (W_ys_run g h0 h1 h2 h3 h4 h5 h6 h7 h8 h9 h10 h11 h12 h13 h14 h15 h16 h17 v_all v_losers v_wall_courses v_wall_columns v_wall_fault v_wall_jump v_wall_stones v_hands_told v_hands_fault v_hands_mood v_hands_strong v_gappings_told v_gappings_year v_gappings_column v_gappings_hand v_now v_stones v_standing (upd v_open x3.toNatClampNeg o137) v_fallen p0_told p0_year p0_force)) C0 hw 13 rfl hin rfl dX7_run_140 (fun H locs hw => ?_)
    refine lv_iinc (v := x3 + (1 : Int32)) (lv' := [(3, .int (x3 + (1 : Int32))), (5, .int y0), (0, .ref h0), (1, .ref h15), (2, .int x2)]) hx hb dX7_run_141 hl (k := 4) rfl rfl (by decide) rfl (fun ls hl => ?_)
    refine lv_goto (tgt := 36) hx hb dX7_run_144 (by decide) ?_
    exact hk36 _ _ _ _ _ _ _ _ _ hm _ _ _ hw (lv_sub hl [2, 3, 4, 0] rfl)
  · have hm := ineg hc hm
    refine lv_aload_n hx hb dX7_run_125 rfl (lv_at hl 1 rfl) ?_
    refine gGet C0 hw flX7_21 0 rfl rfl dX7_run_126 ?_
    refine lv_iload_n hx hb dX7_run_129 rfl (lv_at hl 4 rfl) ?_
    refine lv_iconst (v := 1) hx hb dX7_run_130 (by decide) ?_
    refine lv_isub hx hb dX7_run_131 ?_
    obtain ⟨hin, hm⟩ := gdE hm
    have hin := inbE hin
    refine gAldI C0 hw 13 rfl hin dX7_run_132 ?_
    refine lv_goto (tgt := 140) hx hb dX7_run_133 (by decide) ?_
    obtain ⟨hin, hm⟩ := gdE hm
    have hin := inbE hin
    refine gAstI (ws' := (W_ys_run g h0 h1 h2 h3 h4 h5 h6 h7 h8 h9 h10 h11 h12 h13 h14 h15 h16 h17 v_all v_losers v_wall_courses v_wall_columns v_wall_fault v_wall_jump v_wall_stones v_hands_told v_hands_fault v_hands_mood v_hands_strong v_gappings_told v_gappings_year v_gappings_column v_gappings_hand v_now v_stones v_standing (upd v_open x3.toNatClampNeg (v_open (x3 - (1 : Int32)).toNatClampNeg)) v_fallen p0_told p0_year p0_force)) C0 hw 13 rfl hin rfl dX7_run_140 (fun H locs hw => ?_)
    refine lv_iinc (v := x3 + (1 : Int32)) (lv' := [(3, .int (x3 + (1 : Int32))), (5, .int y0), (0, .ref h0), (1, .ref h15), (2, .int x2)]) hx hb dX7_run_141 hl (k := 4) rfl rfl (by decide) rfl (fun ls hl => ?_)
    refine lv_goto (tgt := 36) hx hb dX7_run_144 (by decide) ?_
    exact hk36 _ _ _ _ _ _ _ _ _ hm _ _ _ hw (lv_sub hl [2, 3, 4, 0] rfl)
set_option maxHeartbeats 1000000 in
set_option maxRecDepth 100000 in
theorem n_ys_run_N112 {p : Program} {l : Launch} {e : Env} {s : State} {m : MethodId} {args : Array Value} {below : List Frame} {meth : Method} {c : Code} {A : Nat → Prop} {g : gG} {h0 h1 h2 h3 h4 h5 h6 h7 h8 h9 h10 h11 h12 h13 h14 h15 h16 h17 : Nat} {v_wall_courses : Int32} {v_wall_columns : Int32} {v_wall_fault : Int32} {v_wall_jump : Int32} {v_wall_stones : Nat → Int64} {v_hands_told : Int32} {v_hands_fault : Int32} {v_hands_mood : Nat → Int32} {v_hands_strong : Nat → Int32} {v_gappings_told : Int32} {v_gappings_year : Nat → Int32} {v_gappings_column : Nat → Int32} {v_gappings_hand : Nat → Int32} {p0_told : Int32} {p0_year : Nat → Int32} {p0_force : Nat → Int32} {k36 : Int64 → Int32 → (Nat → Int64) → (Nat → Int64) → (Nat → Int64) → (Nat → Int32) → (Nat → Int32) → Int32 → Int32 → Option (Int64 × Int32 × (Nat → Int64) × (Nat → Int64) × (Nat → Int64) × (Nat → Int32) × (Nat → Int32))} {r : (Int64 × Int32 × (Nat → Int64) × (Nat → Int64) × (Nat → Int64) × (Nat → Int32) × (Nat → Int32))} (C0 : gX p s m args meth c cX7_run 6 none RX7 g A) (hk36 : ∀ (v_all : Int64) (v_losers : Int32) (v_now : Nat → Int64) (v_stones : Nat → Int64) (v_standing : Nat → Int64) (v_open : Nat → Int32) (v_fallen : Nat → Int32) (x2 : Int32) (x3 : Int32), k36 v_all v_losers v_now v_stones v_standing v_open v_fallen x2 x3 = some r → ∀ (H : Heap) (locs : List Loc) (ls : Array Slot), gW g A s (W_ys_run g h0 h1 h2 h3 h4 h5 h6 h7 h8 h9 h10 h11 h12 h13 h14 h15 h16 h17 v_all v_losers v_wall_courses v_wall_columns v_wall_fault v_wall_jump v_wall_stones v_hands_told v_hands_fault v_hands_mood v_hands_strong v_gappings_told v_gappings_year v_gappings_column v_gappings_hand v_now v_stones v_standing v_open v_fallen p0_told p0_year p0_force) H locs → lv_has ls 6 [(0, .ref h0), (1, .ref h15), (2, .int x2), (3, .int x3)] → W p l e rm_ys_run s m args below meth c H locs 0 0 (gQv below args s A g (W_ys_run g h0 h1 h2 h3 h4 h5 h6 h7 h8 h9 h10 h11 h12 h13 h14 h15 h16 h17 r.1 r.2.1 v_wall_courses v_wall_columns v_wall_fault v_wall_jump v_wall_stones v_hands_told v_hands_fault v_hands_mood v_hands_strong v_gappings_told v_gappings_year v_gappings_column v_gappings_hand r.2.2.1 r.2.2.2.1 r.2.2.2.2.1 r.2.2.2.2.2.1 r.2.2.2.2.2.2 p0_told p0_year p0_force)) (F0 m 36 ls [])) : ∀ (v_all : Int64) (v_losers : Int32) (v_now : Nat → Int64) (v_stones : Nat → Int64) (v_standing : Nat → Int64) (v_open : Nat → Int32) (v_fallen : Nat → Int32) (x2 : Int32) (x3 : Int32), f_ys_run_N112 v_wall_courses v_wall_columns v_wall_jump v_wall_stones v_hands_told v_hands_mood v_hands_strong v_gappings_told v_gappings_year v_gappings_column v_gappings_hand p0_told p0_year p0_force k36 v_all v_losers v_now v_stones v_standing v_open v_fallen x2 x3 = some r → ∀ (H : Heap) (locs : List Loc) (ls : Array Slot), gW g A s (W_ys_run g h0 h1 h2 h3 h4 h5 h6 h7 h8 h9 h10 h11 h12 h13 h14 h15 h16 h17 v_all v_losers v_wall_courses v_wall_columns v_wall_fault v_wall_jump v_wall_stones v_hands_told v_hands_fault v_hands_mood v_hands_strong v_gappings_told v_gappings_year v_gappings_column v_gappings_hand v_now v_stones v_standing v_open v_fallen p0_told p0_year p0_force) H locs → lv_has ls 6 [(0, .ref h0), (1, .ref h15), (2, .int x2), (3, .int x3)] → W p l e rm_ys_run s m args below meth c H locs 0 0 (gQv below args s A g (W_ys_run g h0 h1 h2 h3 h4 h5 h6 h7 h8 h9 h10 h11 h12 h13 h14 h15 h16 h17 r.1 r.2.1 v_wall_courses v_wall_columns v_wall_fault v_wall_jump v_wall_stones v_hands_told v_hands_fault v_hands_mood v_hands_strong v_gappings_told v_gappings_year v_gappings_column v_gappings_hand r.2.2.1 r.2.2.2.1 r.2.2.2.2.1 r.2.2.2.2.2.1 r.2.2.2.2.2.2 p0_told p0_year p0_force)) (F0 m 112 ls []) := by
  intro v_all v_losers v_now v_stones v_standing v_open v_fallen x2 x3 hm H locs ls hw hl
  unfold f_ys_run_N112 at hm
  obtain ⟨hx, hb, hr, hml, hown, hts, hlocks, hK, hA⟩ := id C0
  refine lv_iconst (v := 0) hx hb dX7_run_112 (by decide) ?_
  exact n_ys_run_N113 C0 hk36 _ _ _ _ _ _ _ _ _ _ hm _ _ _ hw (lv_sub hl [0, 1, 2, 3] rfl)
set_option maxHeartbeats 1000000 in
set_option maxRecDepth 100000 in
theorem n_ys_run_N36 {p : Program} {l : Launch} {e : Env} {s : State} {m : MethodId} {args : Array Value} {below : List Frame} {meth : Method} {c : Code} {A : Nat → Prop} {g : gG} {h0 h1 h2 h3 h4 h5 h6 h7 h8 h9 h10 h11 h12 h13 h14 h15 h16 h17 : Nat} {v_wall_courses : Int32} {v_wall_columns : Int32} {v_wall_fault : Int32} {v_wall_jump : Int32} {v_wall_stones : Nat → Int64} {v_hands_told : Int32} {v_hands_fault : Int32} {v_hands_mood : Nat → Int32} {v_hands_strong : Nat → Int32} {v_gappings_told : Int32} {v_gappings_year : Nat → Int32} {v_gappings_column : Nat → Int32} {v_gappings_hand : Nat → Int32} {p0_told : Int32} {p0_year : Nat → Int32} {p0_force : Nat → Int32} {k36 : Int64 → Int32 → (Nat → Int64) → (Nat → Int64) → (Nat → Int64) → (Nat → Int32) → (Nat → Int32) → Int32 → Int32 → Option (Int64 × Int32 × (Nat → Int64) × (Nat → Int64) × (Nat → Int64) × (Nat → Int32) × (Nat → Int32))} {r : (Int64 × Int32 × (Nat → Int64) × (Nat → Int64) × (Nat → Int64) × (Nat → Int32) × (Nat → Int32))} (C0 : gX p s m args meth c cX7_run 6 none RX7 g A) (hk36 : ∀ (v_all : Int64) (v_losers : Int32) (v_now : Nat → Int64) (v_stones : Nat → Int64) (v_standing : Nat → Int64) (v_open : Nat → Int32) (v_fallen : Nat → Int32) (x2 : Int32) (x3 : Int32), k36 v_all v_losers v_now v_stones v_standing v_open v_fallen x2 x3 = some r → ∀ (H : Heap) (locs : List Loc) (ls : Array Slot), gW g A s (W_ys_run g h0 h1 h2 h3 h4 h5 h6 h7 h8 h9 h10 h11 h12 h13 h14 h15 h16 h17 v_all v_losers v_wall_courses v_wall_columns v_wall_fault v_wall_jump v_wall_stones v_hands_told v_hands_fault v_hands_mood v_hands_strong v_gappings_told v_gappings_year v_gappings_column v_gappings_hand v_now v_stones v_standing v_open v_fallen p0_told p0_year p0_force) H locs → lv_has ls 6 [(0, .ref h0), (1, .ref h15), (2, .int x2), (3, .int x3)] → W p l e rm_ys_run s m args below meth c H locs 0 0 (gQv below args s A g (W_ys_run g h0 h1 h2 h3 h4 h5 h6 h7 h8 h9 h10 h11 h12 h13 h14 h15 h16 h17 r.1 r.2.1 v_wall_courses v_wall_columns v_wall_fault v_wall_jump v_wall_stones v_hands_told v_hands_fault v_hands_mood v_hands_strong v_gappings_told v_gappings_year v_gappings_column v_gappings_hand r.2.2.1 r.2.2.2.1 r.2.2.2.2.1 r.2.2.2.2.2.1 r.2.2.2.2.2.2 p0_told p0_year p0_force)) (F0 m 36 ls [])) : ∀ (v_all : Int64) (v_losers : Int32) (v_now : Nat → Int64) (v_stones : Nat → Int64) (v_standing : Nat → Int64) (v_open : Nat → Int32) (v_fallen : Nat → Int32) (x2 : Int32) (x3 : Int32), f_ys_run_N36 v_wall_courses v_wall_columns v_wall_jump v_wall_stones v_hands_told v_hands_mood v_hands_strong v_gappings_told v_gappings_year v_gappings_column v_gappings_hand p0_told p0_year p0_force k36 v_all v_losers v_now v_stones v_standing v_open v_fallen x2 x3 = some r → ∀ (H : Heap) (locs : List Loc) (ls : Array Slot), gW g A s (W_ys_run g h0 h1 h2 h3 h4 h5 h6 h7 h8 h9 h10 h11 h12 h13 h14 h15 h16 h17 v_all v_losers v_wall_courses v_wall_columns v_wall_fault v_wall_jump v_wall_stones v_hands_told v_hands_fault v_hands_mood v_hands_strong v_gappings_told v_gappings_year v_gappings_column v_gappings_hand v_now v_stones v_standing v_open v_fallen p0_told p0_year p0_force) H locs → lv_has ls 6 [(0, .ref h0), (1, .ref h15), (2, .int x2), (3, .int x3)] → W p l e rm_ys_run s m args below meth c H locs 0 0 (gQv below args s A g (W_ys_run g h0 h1 h2 h3 h4 h5 h6 h7 h8 h9 h10 h11 h12 h13 h14 h15 h16 h17 r.1 r.2.1 v_wall_courses v_wall_columns v_wall_fault v_wall_jump v_wall_stones v_hands_told v_hands_fault v_hands_mood v_hands_strong v_gappings_told v_gappings_year v_gappings_column v_gappings_hand r.2.2.1 r.2.2.2.1 r.2.2.2.2.1 r.2.2.2.2.2.1 r.2.2.2.2.2.2 p0_told p0_year p0_force)) (F0 m 36 ls []) := by
  intro v_all v_losers v_now v_stones v_standing v_open v_fallen x2 x3 hm H locs ls hw hl
  unfold f_ys_run_N36 at hm
  obtain ⟨hx, hb, hr, hml, hown, hts, hlocks, hK, hA⟩ := id C0
  refine lv_iload_n hx hb dX7_run_36 rfl (lv_at hl 3 rfl) ?_
  refine lv_bipush (v := 20) hx hb dX7_run_37 (by decide) ?_
  refine lv_icmp_ge (tgt := 147) hx hb dX7_run_39 (by decide) (fun hc => ?_) (fun hc => ?_)
  · have hm := ipos hc hm
    have hm := Option.some.inj hm
    subst hm
    exact gRetV C0 hw dX7_run_147
  · have hm := ineg hc hm
    refine lv_aload_n hx hb dX7_run_42 rfl (lv_at hl 0 rfl) ?_
    refine gGet C0 hw flX7_25 0 rfl rfl dX7_run_43 ?_
    refine lv_iload_n hx hb dX7_run_46 rfl (lv_at hl 3 rfl) ?_
    refine lv_aload_n hx hb dX7_run_47 rfl (lv_at hl 0 rfl) ?_
    refine lv_aload_n hx hb dX7_run_48 rfl (lv_at hl 1 rfl) ?_
    refine lv_iload_n hx hb dX7_run_49 rfl (lv_at hl 2 rfl) ?_
    refine lv_iload_n hx hb dX7_run_50 rfl (lv_at hl 3 rfl) ?_
    obtain ⟨o51, ho51, hm⟩ := bindE hm
    refine gCalli (ws' := (W_ys_run g h0 h1 h2 h3 h4 h5 h6 h7 h8 h9 h10 h11 h12 h13 h14 h15 h16 h17 o51.2.1 o51.2.2.1 v_wall_courses v_wall_columns v_wall_fault v_wall_jump v_wall_stones v_hands_told v_hands_fault v_hands_mood v_hands_strong v_gappings_told v_gappings_year v_gappings_column v_gappings_hand o51.2.2.2 v_stones v_standing v_open v_fallen p0_told p0_year p0_force)) C0 hw (gRunV (As := [.ref h15, .int x2, .int x3]) (rest := [.int x3, .ref h14]) C0 hw lkX7_61 (c_ys_freeze l g H.size h0 h3 h4 h5 h10 h15 h16 h17 h1 h6 h11 h12 h13 h14 v_all v_losers v_hands_told v_hands_fault v_hands_mood v_hands_strong v_now p0_told p0_year p0_force x2 x3 o51 ho51) ⟨rfl, rfl⟩ ⟨Nat.le_of_ble_eq_true rfl, Nat.le_of_ble_eq_true rfl⟩ [0, 3, 4, 5, 10, 15, 16, 17] (by decide) rfl 0 rfl rfl rfl hl.1 rfl (Nat.le_of_ble_eq_true rfl) dX7_run_51) [0, 3, 4, 5, 10, 15, 16, 17] [1, 2, 6, 7, 8, 9, 11, 12, 13, 14] rfl rfl ⟨rfl, rfl, rfl, rfl, rfl, rfl, rfl, rfl, rfl, rfl, trivial⟩ [h0, h1, h2, h3, h4, h5, h6, h7, h8, h9, h10, h11, h12, h13, h14, h15, h16, h17] rfl rfl 18 rfl (by decide +kernel) (fun H locs hw => ?_)
    obtain ⟨hin, hm⟩ := gdE hm
    have hin := inbE hin
    refine gAstI (ws' := (W_ys_run g h0 h1 h2 h3 h4 h5 h6 h7 h8 h9 h10 h11 h12 h13 h14 h15 h16 h17 o51.2.1 o51.2.2.1 v_wall_courses v_wall_columns v_wall_fault v_wall_jump v_wall_stones v_hands_told v_hands_fault v_hands_mood v_hands_strong v_gappings_told v_gappings_year v_gappings_column v_gappings_hand o51.2.2.2 v_stones v_standing v_open (upd v_fallen x3.toNatClampNeg o51.1) p0_told p0_year p0_force)) C0 hw 14 rfl hin rfl dX7_run_54 (fun H locs hw => ?_)
    refine lv_aload_n hx hb dX7_run_55 rfl (lv_at hl 0 rfl) ?_
    refine lv_iload_n hx hb dX7_run_56 rfl (lv_at hl 3 rfl) ?_
    obtain ⟨o57, ho57, hm⟩ := bindE hm
    refine gCalli (ws' := (W_ys_run g h0 h1 h2 h3 h4 h5 h6 h7 h8 h9 h10 h11 h12 h13 h14 h15 h16 h17 o57.2.1 o51.2.2.1 v_wall_courses v_wall_columns v_wall_fault v_wall_jump v_wall_stones v_hands_told v_hands_fault v_hands_mood v_hands_strong v_gappings_told v_gappings_year v_gappings_column v_gappings_hand o57.2.2 v_stones v_standing v_open (upd v_fallen x3.toNatClampNeg o51.1) p0_told p0_year p0_force)) C0 hw (gRunV (As := [.int x3]) (rest := []) C0 hw lkX7_65 (c_ys_fillGaps l g H.size h0 h1 h6 h7 h8 h9 h10 h3 h11 h12 h13 h14 h2 o51.2.1 o51.2.2.1 v_wall_courses v_wall_columns v_wall_fault v_wall_jump v_gappings_told v_gappings_year v_gappings_column v_gappings_hand o51.2.2.2 x3 o57 ho57) ⟨rfl, rfl⟩ ⟨Nat.le_of_ble_eq_true rfl, Nat.le_of_ble_eq_true rfl⟩ [0, 1, 6, 7, 8, 9, 10] (by decide) rfl 0 rfl rfl rfl hl.1 rfl (Nat.le_of_ble_eq_true rfl) dX7_run_57) [0, 1, 6, 7, 8, 9, 10] [2, 3, 4, 5, 11, 12, 13, 14, 15, 16, 17] rfl rfl ⟨rfl, rfl, rfl, rfl, rfl, rfl, rfl, rfl, rfl, rfl, rfl, trivial⟩ [h0, h1, h2, h3, h4, h5, h6, h7, h8, h9, h10, h11, h12, h13, h14, h15, h16, h17] rfl rfl 18 rfl (by decide +kernel) (fun H locs hw => ?_)
    refine lv_istore (lv' := [(4, .int o57.1), (0, .ref h0), (1, .ref h15), (2, .int x2), (3, .int x3)]) hx hb dX7_run_60 hl (by decide) rfl (fun ls hl => ?_)
    refine lv_aload_n hx hb dX7_run_62 rfl (lv_at hl 1 rfl) ?_
    refine gGet C0 hw flX7_9 0 rfl rfl dX7_run_63 ?_
    refine lv_iconst (v := 0) hx hb dX7_run_66 (by decide) ?_
    refine lv_aload_n hx hb dX7_run_67 rfl (lv_at hl 1 rfl) ?_
    refine gGet C0 hw flX7_15 0 rfl rfl dX7_run_68 ?_
    refine lv_bipush (v := 8) hx hb dX7_run_71 (by decide) ?_
    refine lv_iload_n hx hb dX7_run_73 rfl (lv_at hl 4 rfl) ?_
    refine lv_imul hx hb dX7_run_74 ?_
    refine lv_bipush (v := 8) hx hb dX7_run_75 (by decide) ?_
    obtain ⟨hcp, hm⟩ := gdE hm
    refine gCpyJ (ws' := (W_ys_run g h0 h1 h2 h3 h4 h5 h6 h7 h8 h9 h10 h11 h12 h13 h14 h15 h16 h17 o57.2.1 o51.2.2.1 v_wall_courses v_wall_columns v_wall_fault v_wall_jump v_wall_stones v_hands_told v_hands_fault v_hands_mood v_hands_strong v_gappings_told v_gappings_year v_gappings_column v_gappings_hand o57.2.2 (va_cpy o57.2.2 v_stones (0 : Int32).toNatClampNeg ((8 : Int32) * x3).toNatClampNeg (8 : Int32).toNatClampNeg) v_standing v_open (upd v_fallen x3.toNatClampNeg o51.1) p0_told p0_year p0_force)) C0 hw hl.1 alX7_43 an_copy as_copy ai_copy 10 11 rfl rfl hcp (Nat.le_of_ble_eq_true rfl) (Nat.le_of_ble_eq_true rfl) rfl dX7_run_77 (fun H locs hw => ?_)
    refine lv_aload_n hx hb dX7_run_80 rfl (lv_at hl 1 rfl) ?_
    refine gGet C0 hw flX7_18 0 rfl rfl dX7_run_81 ?_
    refine lv_iload_n hx hb dX7_run_84 rfl (lv_at hl 4 rfl) ?_
    refine lv_aload_n hx hb dX7_run_85 rfl (lv_at hl 1 rfl) ?_
    refine gGet C0 hw flX7_53 0 rfl rfl dX7_run_86 ?_
    obtain ⟨hin, hm⟩ := gdE hm
    have hin := inbE hin
    refine gAstJ (ws' := (W_ys_run g h0 h1 h2 h3 h4 h5 h6 h7 h8 h9 h10 h11 h12 h13 h14 h15 h16 h17 o57.2.1 o51.2.2.1 v_wall_courses v_wall_columns v_wall_fault v_wall_jump v_wall_stones v_hands_told v_hands_fault v_hands_mood v_hands_strong v_gappings_told v_gappings_year v_gappings_column v_gappings_hand o57.2.2 (va_cpy o57.2.2 v_stones (0 : Int32).toNatClampNeg ((8 : Int32) * x3).toNatClampNeg (8 : Int32).toNatClampNeg) (vp_updL v_standing x3.toNatClampNeg o57.2.1) v_open (upd v_fallen x3.toNatClampNeg o51.1) p0_told p0_year p0_force)) C0 hw 12 rfl hin rfl dX7_run_89 (fun H locs hw => ?_)
    refine lv_iload_n hx hb dX7_run_90 rfl (lv_at hl 4 rfl) ?_
    refine lv_if_le (tgt := 112) hx hb dX7_run_91 (by decide) (fun hc => ?_) (fun hc => ?_)
    · have hm := ipos hc hm
      exact n_ys_run_N112 C0 hk36 _ _ _ _ _ _ _ _ _ hm _ _ _ hw (lv_sub hl [1, 2, 3, 4] rfl)
    · have hm := ineg hc hm
      refine lv_aload_n hx hb dX7_run_94 rfl (lv_at hl 1 rfl) ?_
      refine gGet C0 hw flX7_25 0 rfl rfl dX7_run_95 ?_
      refine lv_iload_n hx hb dX7_run_98 rfl (lv_at hl 4 rfl) ?_
      obtain ⟨hin, hm⟩ := gdE hm
      have hin := inbE hin
      refine gAldI C0 hw 14 rfl hin dX7_run_99 ?_
      refine lv_if_ne (tgt := 112) hx hb dX7_run_100 (by decide) (fun hc => ?_) (fun hc => ?_)
      · have hm := ineg hc hm
        exact n_ys_run_N112 C0 hk36 _ _ _ _ _ _ _ _ _ hm _ _ _ hw (lv_sub hl [1, 2, 3, 4] rfl)
      · have hm := ipos hc hm
        refine lv_iload hx hb dX7_run_103 (lv_at hl 0 rfl) ?_
        refine lv_if_ne (tgt := 112) hx hb dX7_run_105 (by decide) (fun hc => ?_) (fun hc => ?_)
        · have hm := ineg hc hm
          exact n_ys_run_N112 C0 hk36 _ _ _ _ _ _ _ _ _ hm _ _ _ hw (lv_sub hl [1, 2, 3, 4] rfl)
        · have hm := ipos hc hm
          refine lv_iconst (v := 1) hx hb dX7_run_108 (by decide) ?_
          refine lv_goto (tgt := 113) hx hb dX7_run_109 (by decide) ?_
          exact n_ys_run_N113 C0 hk36 _ _ _ _ _ _ _ _ _ _ hm _ _ _ hw (lv_sub hl [1, 2, 3, 4] rfl)
set_option maxHeartbeats 1000000 in
set_option maxRecDepth 100000 in
theorem l_ys_run_N36 {p : Program} {l : Launch} {e : Env} {s : State} {m : MethodId} {args : Array Value} {below : List Frame} {meth : Method} {c : Code} {A : Nat → Prop} {g : gG} {h0 h1 h2 h3 h4 h5 h6 h7 h8 h9 h10 h11 h12 h13 h14 h15 h16 h17 : Nat} {v_wall_courses : Int32} {v_wall_columns : Int32} {v_wall_fault : Int32} {v_wall_jump : Int32} {v_wall_stones : Nat → Int64} {v_hands_told : Int32} {v_hands_fault : Int32} {v_hands_mood : Nat → Int32} {v_hands_strong : Nat → Int32} {v_gappings_told : Int32} {v_gappings_year : Nat → Int32} {v_gappings_column : Nat → Int32} {v_gappings_hand : Nat → Int32} {p0_told : Int32} {p0_year : Nat → Int32} {p0_force : Nat → Int32} {r : (Int64 × Int32 × (Nat → Int64) × (Nat → Int64) × (Nat → Int64) × (Nat → Int32) × (Nat → Int32))} (C0 : gX p s m args meth c cX7_run 6 none RX7 g A) : ∀ n : Nat, ∀ (v_all : Int64) (v_losers : Int32) (v_now : Nat → Int64) (v_stones : Nat → Int64) (v_standing : Nat → Int64) (v_open : Nat → Int32) (v_fallen : Nat → Int32) (x2 : Int32) (x3 : Int32), iter (fun _ _ _ _ _ _ _ _ _ => none) (f_ys_run_N36 v_wall_courses v_wall_columns v_wall_jump v_wall_stones v_hands_told v_hands_mood v_hands_strong v_gappings_told v_gappings_year v_gappings_column v_gappings_hand p0_told p0_year p0_force) n v_all v_losers v_now v_stones v_standing v_open v_fallen x2 x3 = some r → ∀ (H : Heap) (locs : List Loc) (ls : Array Slot), gW g A s (W_ys_run g h0 h1 h2 h3 h4 h5 h6 h7 h8 h9 h10 h11 h12 h13 h14 h15 h16 h17 v_all v_losers v_wall_courses v_wall_columns v_wall_fault v_wall_jump v_wall_stones v_hands_told v_hands_fault v_hands_mood v_hands_strong v_gappings_told v_gappings_year v_gappings_column v_gappings_hand v_now v_stones v_standing v_open v_fallen p0_told p0_year p0_force) H locs → lv_has ls 6 [(0, .ref h0), (1, .ref h15), (2, .int x2), (3, .int x3)] → W p l e rm_ys_run s m args below meth c H locs 0 0 (gQv below args s A g (W_ys_run g h0 h1 h2 h3 h4 h5 h6 h7 h8 h9 h10 h11 h12 h13 h14 h15 h16 h17 r.1 r.2.1 v_wall_courses v_wall_columns v_wall_fault v_wall_jump v_wall_stones v_hands_told v_hands_fault v_hands_mood v_hands_strong v_gappings_told v_gappings_year v_gappings_column v_gappings_hand r.2.2.1 r.2.2.2.1 r.2.2.2.2.1 r.2.2.2.2.2.1 r.2.2.2.2.2.2 p0_told p0_year p0_force)) (F0 m 36 ls []) := by
  intro n
  induction n with
  | zero =>
    intro v_all v_losers v_now v_stones v_standing v_open v_fallen x2 x3 hm
    cases hm
  | succ n ih =>
    exact n_ys_run_N36 C0  ih
set_option maxHeartbeats 1000000 in
set_option maxRecDepth 100000 in
theorem c_ys_run (l : Launch) (g : gG) (sz : Nat) (h0 h1 h2 h3 h4 h5 h6 h7 h8 h9 h10 h11 h12 h13 h14 h15 h16 h17 : Nat) (v_all : Int64) (v_losers : Int32) (v_wall_courses : Int32) (v_wall_columns : Int32) (v_wall_fault : Int32) (v_wall_jump : Int32) (v_wall_stones : Nat → Int64) (v_hands_told : Int32) (v_hands_fault : Int32) (v_hands_mood : Nat → Int32) (v_hands_strong : Nat → Int32) (v_gappings_told : Int32) (v_gappings_year : Nat → Int32) (v_gappings_column : Nat → Int32) (v_gappings_hand : Nat → Int32) (v_now : Nat → Int64) (v_stones : Nat → Int64) (v_standing : Nat → Int64) (v_open : Nat → Int32) (v_fallen : Nat → Int32) (p0_told : Int32) (p0_year : Nat → Int32) (p0_force : Nat → Int32) (a1 : Int32) (r : (Int64 × Int32 × (Nat → Int64) × (Nat → Int64) × (Nat → Int64) × (Nat → Int32) × (Nat → Int32))) (hm : f_ys_run v_all v_losers v_wall_courses v_wall_columns v_wall_jump v_wall_stones v_hands_told v_hands_mood v_hands_strong v_gappings_told v_gappings_year v_gappings_column v_gappings_hand v_now v_stones v_standing v_open v_fallen p0_told p0_year p0_force a1 = some r) : gMv l yX7_run cX7_run 6 none rm_ys_run g sz [.ref h0, .ref h15, .int a1] (W_ys_run g h0 h1 h2 h3 h4 h5 h6 h7 h8 h9 h10 h11 h12 h13 h14 h15 h16 h17 v_all v_losers v_wall_courses v_wall_columns v_wall_fault v_wall_jump v_wall_stones v_hands_told v_hands_fault v_hands_mood v_hands_strong v_gappings_told v_gappings_year v_gappings_column v_gappings_hand v_now v_stones v_standing v_open v_fallen p0_told p0_year p0_force) (W_ys_run g h0 h1 h2 h3 h4 h5 h6 h7 h8 h9 h10 h11 h12 h13 h14 h15 h16 h17 r.1 r.2.1 v_wall_courses v_wall_columns v_wall_fault v_wall_jump v_wall_stones v_hands_told v_hands_fault v_hands_mood v_hands_strong v_gappings_told v_gappings_year v_gappings_column v_gappings_hand r.2.2.1 r.2.2.2.1 r.2.2.2.2.1 r.2.2.2.2.2.1 r.2.2.2.2.2.2 p0_told p0_year p0_force) := by
  unfold f_ys_run at hm
  refine gEnterV (by decide) (Nat.le_of_ble_eq_true rfl) (fun p e s m below meth c A C0 H locs hw ls hl => ?_)
  obtain ⟨hx, hb, hr, hml, hown, hts, hlocks, hK, hA⟩ := id C0
  have C0 : gX p s m [.ref h0, .ref h15, .int a1].toArray meth c cX7_run 6 none RX7 g A := C0
  have hl : lv_has ls 6 [(0, .ref h0), (1, .ref h15), (2, .int a1)] := hl
  refine lv_aload_n hx hb dX7_run_0 rfl (lv_at hl 0 rfl) ?_
  refine gGet C0 hw flX7_28 0 rfl rfl dX7_run_1 ?_
  refine gGet C0 hw flX7_40 1 rfl rfl dX7_run_4 ?_
  refine lv_iconst (v := 0) hx hb dX7_run_7 (by decide) ?_
  refine lv_aload_n hx hb dX7_run_8 rfl (lv_at hl 0 rfl) ?_
  refine gGet C0 hw flX7_9 0 rfl rfl dX7_run_9 ?_
  refine lv_iconst (v := 0) hx hb dX7_run_12 (by decide) ?_
  refine lv_bipush (v := 8) hx hb dX7_run_13 (by decide) ?_
  obtain ⟨hcp, hm⟩ := gdE hm
  refine gCpyJ (ws' := (W_ys_run g h0 h1 h2 h3 h4 h5 h6 h7 h8 h9 h10 h11 h12 h13 h14 h15 h16 h17 v_all v_losers v_wall_courses v_wall_columns v_wall_fault v_wall_jump v_wall_stones v_hands_told v_hands_fault v_hands_mood v_hands_strong v_gappings_told v_gappings_year v_gappings_column v_gappings_hand (va_cpy v_wall_stones v_now (0 : Int32).toNatClampNeg (0 : Int32).toNatClampNeg (8 : Int32).toNatClampNeg) v_stones v_standing v_open v_fallen p0_told p0_year p0_force)) C0 hw hl.1 alX7_43 an_copy as_copy ai_copy 2 10 rfl rfl hcp (Nat.le_of_ble_eq_true rfl) (Nat.le_of_ble_eq_true rfl) rfl dX7_run_15 (fun H locs hw => ?_)
  refine lv_aload_n hx hb dX7_run_18 rfl (lv_at hl 0 rfl) ?_
  refine lv_aload_n hx hb dX7_run_19 rfl (lv_at hl 0 rfl) ?_
  refine gGet C0 hw flX7_9 0 rfl rfl dX7_run_20 ?_
  obtain ⟨o23, ho23, hm⟩ := bindE hm
  refine gCalll (ws' := (W_ys_run g h0 h1 h2 h3 h4 h5 h6 h7 h8 h9 h10 h11 h12 h13 h14 h15 h16 h17 v_all v_losers v_wall_courses v_wall_columns v_wall_fault v_wall_jump v_wall_stones v_hands_told v_hands_fault v_hands_mood v_hands_strong v_gappings_told v_gappings_year v_gappings_column v_gappings_hand (va_cpy v_wall_stones v_now (0 : Int32).toNatClampNeg (0 : Int32).toNatClampNeg (8 : Int32).toNatClampNeg) v_stones v_standing v_open v_fallen p0_told p0_year p0_force)) C0 hw (gRunN (As := [.ref h10]) (rest := [.ref h0]) C0 hw lkX7_49 (c_x_union l g H.size h10 (va_cpy v_wall_stones v_now (0 : Int32).toNatClampNeg (0 : Int32).toNatClampNeg (8 : Int32).toNatClampNeg) 8 o23 ho23) ⟨rfl, rfl⟩ ⟨Nat.le_of_ble_eq_true rfl, Nat.le_of_ble_eq_true rfl⟩ [10] (by decide) rfl rfl hl.1 rfl (Nat.le_of_ble_eq_true rfl) dX7_run_23) [10] [0, 1, 2, 3, 4, 5, 6, 7, 8, 9, 11, 12, 13, 14, 15, 16, 17] rfl rfl ⟨rfl, rfl, rfl, rfl, rfl, rfl, rfl, rfl, rfl, rfl, rfl, rfl, rfl, rfl, rfl, rfl, rfl, trivial⟩ [h0, h1, h2, h3, h4, h5, h6, h7, h8, h9, h10, h11, h12, h13, h14, h15, h16, h17] rfl rfl 18 rfl (by decide +kernel) (fun H locs hw => ?_)
  refine gPut (ws' := (W_ys_run g h0 h1 h2 h3 h4 h5 h6 h7 h8 h9 h10 h11 h12 h13 h14 h15 h16 h17 o23 v_losers v_wall_courses v_wall_columns v_wall_fault v_wall_jump v_wall_stones v_hands_told v_hands_fault v_hands_mood v_hands_strong v_gappings_told v_gappings_year v_gappings_column v_gappings_hand (va_cpy v_wall_stones v_now (0 : Int32).toNatClampNeg (0 : Int32).toNatClampNeg (8 : Int32).toNatClampNeg) v_stones v_standing v_open v_fallen p0_told p0_year p0_force)) C0 hw fpX7_53 0 rfl rfl rfl (Nat.le_of_ble_eq_true rfl) rfl dX7_run_26 (fun H locs hw => ?_)
  refine lv_aload_n hx hb dX7_run_29 rfl (lv_at hl 0 rfl) ?_
  refine lv_iconst (v := 0) hx hb dX7_run_30 (by decide) ?_
  refine gPut (ws' := (W_ys_run g h0 h1 h2 h3 h4 h5 h6 h7 h8 h9 h10 h11 h12 h13 h14 h15 h16 h17 o23 (0 : Int32) v_wall_courses v_wall_columns v_wall_fault v_wall_jump v_wall_stones v_hands_told v_hands_fault v_hands_mood v_hands_strong v_gappings_told v_gappings_year v_gappings_column v_gappings_hand (va_cpy v_wall_stones v_now (0 : Int32).toNatClampNeg (0 : Int32).toNatClampNeg (8 : Int32).toNatClampNeg) v_stones v_standing v_open v_fallen p0_told p0_year p0_force)) C0 hw fpX7_57 0 rfl rfl rfl (Nat.le_of_ble_eq_true rfl) rfl dX7_run_31 (fun H locs hw => ?_)
  refine lv_iconst (v := 0) hx hb dX7_run_34 (by decide) ?_
  refine lv_istore_n (lv' := [(3, .int (0 : Int32)), (0, .ref h0), (1, .ref h15), (2, .int a1)]) hx hb dX7_run_35 rfl hl (by decide) rfl (fun ls hl => ?_)
  exact l_ys_run_N36 C0  1000 _ _ _ _ _ _ _ _ _ hm _ _ _ hw (lv_sub hl [1, 2, 3, 0] rfl)

-- WallHands$Years.holdBehind(II)I
abbrev W_ys_holdBehind (g : gG) (h0 h1 h2 h3 h4 h5 h6 h7 h8 h9 h10 : Nat) (v_all : Int64) (v_losers : Int32) (v_hands_told : Int32) (v_hands_fault : Int32) (v_hands_mood : Nat → Int32) (v_hands_strong : Nat → Int32) (v_now : Nat → Int64) (v_stones : Nat → Int64) (v_standing : Nat → Int64) : va_W := [(h0, .inr (7, [.ref h7, .ref h1, .ref h8, .ref h4, .long v_all, .ref h5, .ref h6, .ref h9, .ref h10, .int v_losers])), (h1, .inr (2, [.ref h2, .ref h3, .int v_hands_told, .int v_hands_fault])), (h2, .inl (gI g, 8, .inl v_hands_mood)), (h3, .inl (gI g, 8, .inl v_hands_strong)), (h4, .inl (gJ g, 8, .inr (.inl v_now))), (h5, .inl (gJ g, 160, .inr (.inl v_stones))), (h6, .inl (gJ g, 20, .inr (.inl v_standing)))]

abbrev rm_ys_holdBehind : Room := { frames := 3, cells := 0, slots := 0, locals := 67 }

set_option maxHeartbeats 1000000 in
set_option maxRecDepth 100000 in
theorem n_ys_holdBehind_N48 {p : Program} {l : Launch} {e : Env} {s : State} {m : MethodId} {args : Array Value} {below : List Frame} {meth : Method} {c : Code} {A : Nat → Prop} {g : gG} {h0 h1 h2 h3 h4 h5 h6 h7 h8 h9 h10 : Nat} {v_losers : Int32} {v_hands_told : Int32} {v_hands_fault : Int32} {v_hands_mood : Nat → Int32} {v_hands_strong : Nat → Int32} {v_stones : Nat → Int64} {v_standing : Nat → Int64} {k48 : Int64 → (Nat → Int64) → Int32 → Int32 → Int32 → Int32 → Option (Int32 × Int64 × (Nat → Int64))} {r : (Int32 × Int64 × (Nat → Int64))} (C0 : gX p s m args meth c cX7_holdBehind 6 (some .int) RX7 g A) (hk48 : ∀ (v_all : Int64) (v_now : Nat → Int64) (x2 : Int32) (x3 : Int32) (x4 : Int32) (x5 : Int32), k48 v_all v_now x2 x3 x4 x5 = some r → ∀ (H : Heap) (locs : List Loc) (ls : Array Slot), gW g A s (W_ys_holdBehind g h0 h1 h2 h3 h4 h5 h6 h7 h8 h9 h10 v_all v_losers v_hands_told v_hands_fault v_hands_mood v_hands_strong v_now v_stones v_standing) H locs → lv_has ls 6 [(0, .ref h0), (2, .int x2), (3, .int x3), (4, .int x4), (5, .int x5)] → W p l e rm_ys_holdBehind s m args below meth c H locs 0 0 (gQi below args s A g r.1 (W_ys_holdBehind g h0 h1 h2 h3 h4 h5 h6 h7 h8 h9 h10 r.2.1 v_losers v_hands_told v_hands_fault v_hands_mood v_hands_strong r.2.2 v_stones v_standing)) (F0 m 48 ls [])) : ∀ (v_all : Int64) (v_now : Nat → Int64) (x2 : Int32) (x3 : Int32) (x4 : Int32) (x5 : Int32), f_ys_holdBehind_N48 v_hands_told v_hands_mood v_hands_strong v_stones v_standing k48 v_all v_now x2 x3 x4 x5 = some r → ∀ (H : Heap) (locs : List Loc) (ls : Array Slot), gW g A s (W_ys_holdBehind g h0 h1 h2 h3 h4 h5 h6 h7 h8 h9 h10 v_all v_losers v_hands_told v_hands_fault v_hands_mood v_hands_strong v_now v_stones v_standing) H locs → lv_has ls 6 [(0, .ref h0), (2, .int x2), (3, .int x3), (4, .int x4), (5, .int x5)] → W p l e rm_ys_holdBehind s m args below meth c H locs 0 0 (gQi below args s A g r.1 (W_ys_holdBehind g h0 h1 h2 h3 h4 h5 h6 h7 h8 h9 h10 r.2.1 v_losers v_hands_told v_hands_fault v_hands_mood v_hands_strong r.2.2 v_stones v_standing)) (F0 m 48 ls []) := by
  intro v_all v_now x2 x3 x4 x5 hm H locs ls hw hl
  unfold f_ys_holdBehind_N48 at hm
  obtain ⟨hx, hb, hr, hml, hown, hts, hlocks, hK, hA⟩ := id C0
  refine lv_iload hx hb dX7_holdBehind_48 (lv_at hl 4 rfl) ?_
  refine lv_bipush (v := 15) hx hb dX7_holdBehind_50 (by decide) ?_
  refine lv_icmp_gt (tgt := 79) hx hb dX7_holdBehind_52 (by decide) (fun hc => ?_) (fun hc => ?_)
  · have hm := ipos hc hm
    refine lv_iload hx hb dX7_holdBehind_79 (lv_at hl 3 rfl) ?_
    have hm := Option.some.inj hm
    subst hm
    exact gRetI C0 hw dX7_holdBehind_81
  · have hm := ineg hc hm
    refine lv_aload_n hx hb dX7_holdBehind_55 rfl (lv_at hl 0 rfl) ?_
    refine lv_iload_n hx hb dX7_holdBehind_56 rfl (lv_at hl 2 rfl) ?_
    refine lv_iload hx hb dX7_holdBehind_57 (lv_at hl 4 rfl) ?_
    obtain ⟨o59, ho59, hm⟩ := bindE hm
    refine gCalll (ws' := (W_ys_holdBehind g h0 h1 h2 h3 h4 h5 h6 h7 h8 h9 h10 v_all v_losers v_hands_told v_hands_fault v_hands_mood v_hands_strong v_now v_stones v_standing)) C0 hw (gRunV (As := [.int x3, .int x5]) (rest := []) C0 hw lkX7_87 (c_ys_holdingOf l g H.size h0 h1 h2 h3 h4 h7 h8 h5 h6 h9 h10 v_all v_losers v_hands_told v_hands_fault v_hands_mood v_hands_strong v_now x3 x5 o59 ho59) ⟨rfl, rfl⟩ ⟨Nat.le_of_ble_eq_true rfl, Nat.le_of_ble_eq_true rfl⟩ [0, 1, 2, 3, 4] (by decide) rfl 0 rfl rfl rfl hl.1 rfl (Nat.le_of_ble_eq_true rfl) dX7_holdBehind_59) [0, 1, 2, 3, 4] [5, 6] rfl rfl ⟨rfl, rfl, trivial⟩ [h0, h1, h2, h3, h4, h5, h6] rfl rfl 7 rfl (by decide +kernel) (fun H locs hw => ?_)
    refine lv_iload_n hx hb dX7_holdBehind_62 rfl (lv_at hl 1 rfl) ?_
    obtain ⟨o63, ho63, hm⟩ := bindE hm
    refine gCalli (ws' := (W_ys_holdBehind g h0 h1 h2 h3 h4 h5 h6 h7 h8 h9 h10 v_all v_losers v_hands_told v_hands_fault v_hands_mood v_hands_strong v_now v_stones v_standing)) C0 hw (gRunN (As := [.long o59, .int x2]) (rest := []) C0 hw lkX7_155 (c_x_isAt l g H.size  o59 x2 o63 ho63) ⟨rfl, rfl⟩ ⟨Nat.le_of_ble_eq_true rfl, Nat.le_of_ble_eq_true rfl⟩ [] (by decide) rfl rfl hl.1 rfl (Nat.le_of_ble_eq_true rfl) dX7_holdBehind_63) [] [0, 1, 2, 3, 4, 5, 6] rfl rfl ⟨rfl, rfl, rfl, rfl, rfl, rfl, rfl, trivial⟩ [h0, h1, h2, h3, h4, h5, h6] rfl rfl 7 rfl (by decide +kernel) (fun H locs hw => ?_)
    refine lv_if_eq (tgt := 73) hx hb dX7_holdBehind_66 (by decide) (fun hc => ?_) (fun hc => ?_)
    · have hm := ipos hc hm
      refine lv_iinc (v := x5 + (1 : Int32)) (lv' := [(5, .int (x5 + (1 : Int32))), (0, .ref h0), (2, .int x2), (3, .int x3), (4, .int x4)]) hx hb dX7_holdBehind_73 hl (k := 4) rfl rfl (by decide) rfl (fun ls hl => ?_)
      refine lv_goto (tgt := 48) hx hb dX7_holdBehind_76 (by decide) ?_
      exact hk48 _ _ _ _ _ _ hm _ _ _ hw (lv_sub hl [1, 2, 3, 4, 0] rfl)
    · have hm := ineg hc hm
      refine lv_iload hx hb dX7_holdBehind_69 (lv_at hl 4 rfl) ?_
      refine lv_istore (lv' := [(4, .int x5), (0, .ref h0), (2, .int x2), (3, .int x3), (5, .int x5)]) hx hb dX7_holdBehind_71 hl (by decide) rfl (fun ls hl => ?_)
      refine lv_iinc (v := x5 + (1 : Int32)) (lv' := [(5, .int (x5 + (1 : Int32))), (4, .int x5), (0, .ref h0), (2, .int x2), (3, .int x3)]) hx hb dX7_holdBehind_73 hl (k := 4) rfl rfl (by decide) rfl (fun ls hl => ?_)
      refine lv_goto (tgt := 48) hx hb dX7_holdBehind_76 (by decide) ?_
      exact hk48 _ _ _ _ _ _ hm _ _ _ hw (lv_sub hl [2, 3, 4, 1, 0] rfl)
set_option maxHeartbeats 1000000 in
set_option maxRecDepth 100000 in
theorem l_ys_holdBehind_N48 {p : Program} {l : Launch} {e : Env} {s : State} {m : MethodId} {args : Array Value} {below : List Frame} {meth : Method} {c : Code} {A : Nat → Prop} {g : gG} {h0 h1 h2 h3 h4 h5 h6 h7 h8 h9 h10 : Nat} {v_losers : Int32} {v_hands_told : Int32} {v_hands_fault : Int32} {v_hands_mood : Nat → Int32} {v_hands_strong : Nat → Int32} {v_stones : Nat → Int64} {v_standing : Nat → Int64} {r : (Int32 × Int64 × (Nat → Int64))} (C0 : gX p s m args meth c cX7_holdBehind 6 (some .int) RX7 g A) : ∀ n : Nat, ∀ (v_all : Int64) (v_now : Nat → Int64) (x2 : Int32) (x3 : Int32) (x4 : Int32) (x5 : Int32), iter (fun _ _ _ _ _ _ => none) (f_ys_holdBehind_N48 v_hands_told v_hands_mood v_hands_strong v_stones v_standing) n v_all v_now x2 x3 x4 x5 = some r → ∀ (H : Heap) (locs : List Loc) (ls : Array Slot), gW g A s (W_ys_holdBehind g h0 h1 h2 h3 h4 h5 h6 h7 h8 h9 h10 v_all v_losers v_hands_told v_hands_fault v_hands_mood v_hands_strong v_now v_stones v_standing) H locs → lv_has ls 6 [(0, .ref h0), (2, .int x2), (3, .int x3), (4, .int x4), (5, .int x5)] → W p l e rm_ys_holdBehind s m args below meth c H locs 0 0 (gQi below args s A g r.1 (W_ys_holdBehind g h0 h1 h2 h3 h4 h5 h6 h7 h8 h9 h10 r.2.1 v_losers v_hands_told v_hands_fault v_hands_mood v_hands_strong r.2.2 v_stones v_standing)) (F0 m 48 ls []) := by
  intro n
  induction n with
  | zero =>
    intro v_all v_now x2 x3 x4 x5 hm
    cases hm
  | succ n ih =>
    exact n_ys_holdBehind_N48 C0  ih
set_option maxHeartbeats 1000000 in
set_option maxRecDepth 100000 in
theorem c_ys_holdBehind (l : Launch) (g : gG) (sz : Nat) (h0 h1 h2 h3 h4 h5 h6 h7 h8 h9 h10 : Nat) (v_all : Int64) (v_losers : Int32) (v_hands_told : Int32) (v_hands_fault : Int32) (v_hands_mood : Nat → Int32) (v_hands_strong : Nat → Int32) (v_now : Nat → Int64) (v_stones : Nat → Int64) (v_standing : Nat → Int64) (a0 : Int32) (a1 : Int32) (r : (Int32 × Int64 × (Nat → Int64))) (hm : f_ys_holdBehind v_all v_hands_told v_hands_mood v_hands_strong v_now v_stones v_standing a0 a1 = some r) : gMi l yX7_holdBehind cX7_holdBehind 6 (some .int) rm_ys_holdBehind g sz [.ref h0, .int a0, .int a1] (W_ys_holdBehind g h0 h1 h2 h3 h4 h5 h6 h7 h8 h9 h10 v_all v_losers v_hands_told v_hands_fault v_hands_mood v_hands_strong v_now v_stones v_standing) r.1 (W_ys_holdBehind g h0 h1 h2 h3 h4 h5 h6 h7 h8 h9 h10 r.2.1 v_losers v_hands_told v_hands_fault v_hands_mood v_hands_strong r.2.2 v_stones v_standing) := by
  unfold f_ys_holdBehind at hm
  refine gEnterI (by decide) (Nat.le_of_ble_eq_true rfl) (fun p e s m below meth c A C0 H locs hw ls hl => ?_)
  obtain ⟨hx, hb, hr, hml, hown, hts, hlocks, hK, hA⟩ := id C0
  have C0 : gX p s m [.ref h0, .int a0, .int a1].toArray meth c cX7_holdBehind 6 (some .int) RX7 g A := C0
  have hl : lv_has ls 6 [(0, .ref h0), (1, .int a0), (2, .int a1)] := hl
  refine lv_aload_n hx hb dX7_holdBehind_0 rfl (lv_at hl 0 rfl) ?_
  refine lv_iload_n hx hb dX7_holdBehind_1 rfl (lv_at hl 1 rfl) ?_
  refine lv_iload_n hx hb dX7_holdBehind_2 rfl (lv_at hl 2 rfl) ?_
  obtain ⟨o3, ho3, hm⟩ := bindE hm
  refine gCalli (ws' := (W_ys_holdBehind g h0 h1 h2 h3 h4 h5 h6 h7 h8 h9 h10 v_all v_losers v_hands_told v_hands_fault v_hands_mood v_hands_strong v_now v_stones v_standing)) C0 hw (gRunV (As := [.int a0, .int a1]) (rest := []) C0 hw lkX7_151 (c_ys_setterBehind l g H.size h0 h5 h7 h1 h8 h4 h6 h9 h10 v_all v_losers v_stones a0 a1 o3 ho3) ⟨rfl, rfl⟩ ⟨Nat.le_of_ble_eq_true rfl, Nat.le_of_ble_eq_true rfl⟩ [0, 5] (by decide) rfl 0 rfl rfl rfl hl.1 rfl (Nat.le_of_ble_eq_true rfl) dX7_holdBehind_3) [0, 5] [1, 2, 3, 4, 6] rfl rfl ⟨rfl, rfl, rfl, rfl, rfl, trivial⟩ [h0, h1, h2, h3, h4, h5, h6] rfl rfl 7 rfl (by decide +kernel) (fun H locs hw => ?_)
  refine lv_istore_n (lv' := [(3, .int o3), (0, .ref h0), (1, .int a0), (2, .int a1)]) hx hb dX7_holdBehind_6 rfl hl (by decide) rfl (fun ls hl => ?_)
  refine lv_iload_n hx hb dX7_holdBehind_7 rfl (lv_at hl 0 rfl) ?_
  refine lv_iconst (v := -1) hx hb dX7_holdBehind_8 (by decide) ?_
  refine lv_icmp_ne (tgt := 14) hx hb dX7_holdBehind_9 (by decide) (fun hc => ?_) (fun hc => ?_)
  · have hm := ineg hc hm
    refine lv_aload_n hx hb dX7_holdBehind_14 rfl (lv_at hl 1 rfl) ?_
    refine gGet C0 hw flX7_15 0 rfl rfl dX7_holdBehind_15 ?_
    refine lv_bipush (v := 8) hx hb dX7_holdBehind_18 (by decide) ?_
    refine lv_iload_n hx hb dX7_holdBehind_20 rfl (lv_at hl 2 rfl) ?_
    refine lv_imul hx hb dX7_holdBehind_21 ?_
    refine lv_aload_n hx hb dX7_holdBehind_22 rfl (lv_at hl 1 rfl) ?_
    refine gGet C0 hw flX7_9 0 rfl rfl dX7_holdBehind_23 ?_
    refine lv_iconst (v := 0) hx hb dX7_holdBehind_26 (by decide) ?_
    refine lv_bipush (v := 8) hx hb dX7_holdBehind_27 (by decide) ?_
    obtain ⟨hcp, hm⟩ := gdE hm
    refine gCpyJ (ws' := (W_ys_holdBehind g h0 h1 h2 h3 h4 h5 h6 h7 h8 h9 h10 v_all v_losers v_hands_told v_hands_fault v_hands_mood v_hands_strong (va_cpy v_stones v_now ((8 : Int32) * a0).toNatClampNeg (0 : Int32).toNatClampNeg (8 : Int32).toNatClampNeg) v_stones v_standing)) C0 hw hl.1 alX7_43 an_copy as_copy ai_copy 5 4 rfl rfl hcp (Nat.le_of_ble_eq_true rfl) (Nat.le_of_ble_eq_true rfl) rfl dX7_holdBehind_29 (fun H locs hw => ?_)
    refine lv_aload_n hx hb dX7_holdBehind_32 rfl (lv_at hl 1 rfl) ?_
    refine lv_aload_n hx hb dX7_holdBehind_33 rfl (lv_at hl 1 rfl) ?_
    refine gGet C0 hw flX7_18 0 rfl rfl dX7_holdBehind_34 ?_
    refine lv_iload_n hx hb dX7_holdBehind_37 rfl (lv_at hl 2 rfl) ?_
    obtain ⟨hin, hm⟩ := gdE hm
    have hin := inbE hin
    refine gAldJ C0 hw 6 rfl hin dX7_holdBehind_38 ?_
    refine gPut (ws' := (W_ys_holdBehind g h0 h1 h2 h3 h4 h5 h6 h7 h8 h9 h10 (v_standing a0.toNatClampNeg) v_losers v_hands_told v_hands_fault v_hands_mood v_hands_strong (va_cpy v_stones v_now ((8 : Int32) * a0).toNatClampNeg (0 : Int32).toNatClampNeg (8 : Int32).toNatClampNeg) v_stones v_standing)) C0 hw fpX7_53 0 rfl rfl rfl (Nat.le_of_ble_eq_true rfl) rfl dX7_holdBehind_39 (fun H locs hw => ?_)
    refine lv_iconst (v := 0) hx hb dX7_holdBehind_42 (by decide) ?_
    refine lv_istore (lv' := [(4, .int (0 : Int32)), (3, .int o3), (0, .ref h0), (1, .int a0), (2, .int a1)]) hx hb dX7_holdBehind_43 hl (by decide) rfl (fun ls hl => ?_)
    refine lv_iconst (v := 1) hx hb dX7_holdBehind_45 (by decide) ?_
    refine lv_istore (lv' := [(5, .int (1 : Int32)), (4, .int (0 : Int32)), (3, .int o3), (0, .ref h0), (1, .int a0), (2, .int a1)]) hx hb dX7_holdBehind_46 hl (by decide) rfl (fun ls hl => ?_)
    exact l_ys_holdBehind_N48 C0  1000 _ _ _ _ _ _ hm _ _ _ hw (lv_sub hl [3, 5, 2, 1, 0] rfl)
  · have hm := ipos hc hm
    refine lv_iconst (v := -1) hx hb dX7_holdBehind_12 (by decide) ?_
    have hm := Option.some.inj hm
    subst hm
    exact gRetI C0 hw dX7_holdBehind_13

-- WallHands$Years.highBehind(II)I
abbrev W_ys_highBehind (g : gG) (h0 h1 h2 h3 h4 h5 h6 h7 h8 : Nat) (v_all : Int64) (v_losers : Int32) (v_standing : Nat → Int64) : va_W := [(h0, .inr (7, [.ref h2, .ref h3, .ref h4, .ref h5, .long v_all, .ref h6, .ref h1, .ref h7, .ref h8, .int v_losers])), (h1, .inl (gJ g, 20, .inr (.inl v_standing)))]

abbrev rm_ys_highBehind : Room := { frames := 1, cells := 0, slots := 0, locals := 21 }

set_option maxHeartbeats 1000000 in
set_option maxRecDepth 100000 in
theorem c_ys_highBehind (l : Launch) (g : gG) (sz : Nat) (h0 h1 h2 h3 h4 h5 h6 h7 h8 : Nat) (v_all : Int64) (v_losers : Int32) (v_standing : Nat → Int64) (a0 : Int32) (a1 : Int32) (r : Int32) (hm : f_ys_highBehind v_standing a0 a1 = some r) : gMi l yX7_highBehind cX7_highBehind 3 (some .int) rm_ys_highBehind g sz [.ref h0, .int a0, .int a1] (W_ys_highBehind g h0 h1 h2 h3 h4 h5 h6 h7 h8 v_all v_losers v_standing) r (W_ys_highBehind g h0 h1 h2 h3 h4 h5 h6 h7 h8 v_all v_losers v_standing) := by
  unfold f_ys_highBehind at hm
  refine gEnterI (by decide) (Nat.le_of_ble_eq_true rfl) (fun p e s m below meth c A C0 H locs hw ls hl => ?_)
  obtain ⟨hx, hb, hr, hml, hown, hts, hlocks, hK, hA⟩ := id C0
  have C0 : gX p s m [.ref h0, .int a0, .int a1].toArray meth c cX7_highBehind 3 (some .int) RX7 g A := C0
  have hl : lv_has ls 3 [(0, .ref h0), (1, .int a0), (2, .int a1)] := hl
  refine lv_aload_n hx hb dX7_highBehind_0 rfl (lv_at hl 0 rfl) ?_
  refine gGet C0 hw flX7_18 0 rfl rfl dX7_highBehind_1 ?_
  refine lv_iload_n hx hb dX7_highBehind_4 rfl (lv_at hl 1 rfl) ?_
  obtain ⟨hin, hm⟩ := gdE hm
  have hin := inbE hin
  refine gAldJ C0 hw 1 rfl hin dX7_highBehind_5 ?_
  refine lv_ldc2 (v := 4311810305) hx hb hown (hts _ kX7_142) dX7_highBehind_6 ?_
  refine lv_iload_n hx hb dX7_highBehind_9 rfl (lv_at hl 2 rfl) ?_
  refine lv_lshl (v := lshl (4311810305 : Int64) a1) hx hb dX7_highBehind_10 rfl ?_
  refine lv_land hx hb dX7_highBehind_11 ?_
  obtain ⟨o12, ho12, hm⟩ := bindE hm
  refine gCalli (ws' := (W_ys_highBehind g h0 h1 h2 h3 h4 h5 h6 h7 h8 v_all v_losers v_standing)) C0 hw (gRunS (As := [.long ((v_standing a0.toNatClampNeg) &&& (lshl (4311810305 : Int64) a1))]) (rest := []) C0 hw lkX7_101 (c_jl_bitCount l g H.size  ((v_standing a0.toNatClampNeg) &&& (lshl (4311810305 : Int64) a1)) o12 ho12) ⟨rfl, rfl⟩ ⟨Nat.le_of_ble_eq_true rfl, Nat.le_of_ble_eq_true rfl⟩ [] (by decide) rfl rfl hl.1 rfl (Nat.le_of_ble_eq_true rfl) dX7_highBehind_12) [] [0, 1] rfl rfl ⟨rfl, rfl, trivial⟩ [h0, h1] rfl rfl 2 rfl (by decide +kernel) (fun H locs hw => ?_)
  have hm := Option.some.inj hm
  subst hm
  exact gRetI C0 hw dX7_highBehind_15

-- WallHands$Years.lastingOf(I)I
abbrev W_ys_lastingOf (g : gG) (h0 h1 h2 h3 h4 h5 h6 h7 h8 : Nat) (v_all : Int64) (v_losers : Int32) (v_stones : Nat → Int64) : va_W := [(h0, .inr (7, [.ref h2, .ref h3, .ref h4, .ref h5, .long v_all, .ref h1, .ref h6, .ref h7, .ref h8, .int v_losers])), (h1, .inl (gJ g, 160, .inr (.inl v_stones)))]

abbrev rm_ys_lastingOf : Room := { frames := 1, cells := 0, slots := 0, locals := 21 }

set_option maxHeartbeats 1000000 in
set_option maxRecDepth 100000 in
theorem c_ys_lastingOf (l : Launch) (g : gG) (sz : Nat) (h0 h1 h2 h3 h4 h5 h6 h7 h8 : Nat) (v_all : Int64) (v_losers : Int32) (v_stones : Nat → Int64) (a0 : Int32) (r : Int32) (hm : f_ys_lastingOf v_stones a0 = some r) : gMi l yX7_lastingOf cX7_lastingOf 2 (some .int) rm_ys_lastingOf g sz [.ref h0, .int a0] (W_ys_lastingOf g h0 h1 h2 h3 h4 h5 h6 h7 h8 v_all v_losers v_stones) r (W_ys_lastingOf g h0 h1 h2 h3 h4 h5 h6 h7 h8 v_all v_losers v_stones) := by
  unfold f_ys_lastingOf at hm
  refine gEnterI (by decide) (Nat.le_of_ble_eq_true rfl) (fun p e s m below meth c A C0 H locs hw ls hl => ?_)
  obtain ⟨hx, hb, hr, hml, hown, hts, hlocks, hK, hA⟩ := id C0
  have C0 : gX p s m [.ref h0, .int a0].toArray meth c cX7_lastingOf 2 (some .int) RX7 g A := C0
  have hl : lv_has ls 2 [(0, .ref h0), (1, .int a0)] := hl
  refine lv_aload_n hx hb dX7_lastingOf_0 rfl (lv_at hl 0 rfl) ?_
  refine gGet C0 hw flX7_15 0 rfl rfl dX7_lastingOf_1 ?_
  refine lv_sipush (v := 152) hx hb dX7_lastingOf_4 (by decide) ?_
  refine lv_iload_n hx hb dX7_lastingOf_7 rfl (lv_at hl 1 rfl) ?_
  refine lv_iadd hx hb dX7_lastingOf_8 ?_
  obtain ⟨hin, hm⟩ := gdE hm
  have hin := inbE hin
  refine gAldJ C0 hw 1 rfl hin dX7_lastingOf_9 ?_
  obtain ⟨o10, ho10, hm⟩ := bindE hm
  refine gCalli (ws' := (W_ys_lastingOf g h0 h1 h2 h3 h4 h5 h6 h7 h8 v_all v_losers v_stones)) C0 hw (gRunS (As := [.long (v_stones ((152 : Int32) + a0).toNatClampNeg)]) (rest := []) C0 hw lkX7_101 (c_jl_bitCount l g H.size  (v_stones ((152 : Int32) + a0).toNatClampNeg) o10 ho10) ⟨rfl, rfl⟩ ⟨Nat.le_of_ble_eq_true rfl, Nat.le_of_ble_eq_true rfl⟩ [] (by decide) rfl rfl hl.1 rfl (Nat.le_of_ble_eq_true rfl) dX7_lastingOf_10) [] [0, 1] rfl rfl ⟨rfl, rfl, trivial⟩ [h0, h1] rfl rfl 2 rfl (by decide +kernel) (fun H locs hw => ?_)
  have hm := Option.some.inj hm
  subst hm
  exact gRetI C0 hw dX7_lastingOf_13

-- WallHands$Years.firstOpenYear()I
abbrev W_ys_firstOpenYear (g : gG) (h0 h1 h2 h3 h4 h5 h6 h7 h8 : Nat) (v_all : Int64) (v_losers : Int32) (v_open : Nat → Int32) : va_W := [(h0, .inr (7, [.ref h2, .ref h3, .ref h4, .ref h5, .long v_all, .ref h6, .ref h7, .ref h1, .ref h8, .int v_losers])), (h1, .inl (gI g, 20, .inl v_open))]

abbrev rm_ys_firstOpenYear : Room := { frames := 0, cells := 0, slots := 0, locals := 0 }

set_option maxHeartbeats 1000000 in
set_option maxRecDepth 100000 in
theorem n_ys_firstOpenYear_N2 {p : Program} {l : Launch} {e : Env} {s : State} {m : MethodId} {args : Array Value} {below : List Frame} {meth : Method} {c : Code} {A : Nat → Prop} {g : gG} {h0 h1 h2 h3 h4 h5 h6 h7 h8 : Nat} {v_all : Int64} {v_losers : Int32} {v_open : Nat → Int32} {k2 : Int32 → Option Int32} {r : Int32} (C0 : gX p s m args meth c cX7_firstOpenYear 2 (some .int) RX7 g A) (hk2 : ∀ (x1 : Int32), k2 x1 = some r → ∀ (H : Heap) (locs : List Loc) (ls : Array Slot), gW g A s (W_ys_firstOpenYear g h0 h1 h2 h3 h4 h5 h6 h7 h8 v_all v_losers v_open) H locs → lv_has ls 2 [(0, .ref h0), (1, .int x1)] → W p l e rm_ys_firstOpenYear s m args below meth c H locs 0 0 (gQi below args s A g r (W_ys_firstOpenYear g h0 h1 h2 h3 h4 h5 h6 h7 h8 v_all v_losers v_open)) (F0 m 2 ls [])) : ∀ (x1 : Int32), f_ys_firstOpenYear_N2 v_open k2 x1 = some r → ∀ (H : Heap) (locs : List Loc) (ls : Array Slot), gW g A s (W_ys_firstOpenYear g h0 h1 h2 h3 h4 h5 h6 h7 h8 v_all v_losers v_open) H locs → lv_has ls 2 [(0, .ref h0), (1, .int x1)] → W p l e rm_ys_firstOpenYear s m args below meth c H locs 0 0 (gQi below args s A g r (W_ys_firstOpenYear g h0 h1 h2 h3 h4 h5 h6 h7 h8 v_all v_losers v_open)) (F0 m 2 ls []) := by
  intro x1 hm H locs ls hw hl
  unfold f_ys_firstOpenYear_N2 at hm
  obtain ⟨hx, hb, hr, hml, hown, hts, hlocks, hK, hA⟩ := id C0
  refine lv_iload_n hx hb dX7_firstOpenYear_2 rfl (lv_at hl 1 rfl) ?_
  refine lv_bipush (v := 20) hx hb dX7_firstOpenYear_3 (by decide) ?_
  refine lv_icmp_ge (tgt := 25) hx hb dX7_firstOpenYear_5 (by decide) (fun hc => ?_) (fun hc => ?_)
  · have hm := ipos hc hm
    refine lv_iconst (v := -1) hx hb dX7_firstOpenYear_25 (by decide) ?_
    have hm := Option.some.inj hm
    subst hm
    exact gRetI C0 hw dX7_firstOpenYear_26
  · have hm := ineg hc hm
    refine lv_aload_n hx hb dX7_firstOpenYear_8 rfl (lv_at hl 0 rfl) ?_
    refine gGet C0 hw flX7_21 0 rfl rfl dX7_firstOpenYear_9 ?_
    refine lv_iload_n hx hb dX7_firstOpenYear_12 rfl (lv_at hl 1 rfl) ?_
    obtain ⟨hin, hm⟩ := gdE hm
    have hin := inbE hin
    refine gAldI C0 hw 1 rfl hin dX7_firstOpenYear_13 ?_
    refine lv_if_eq (tgt := 19) hx hb dX7_firstOpenYear_14 (by decide) (fun hc => ?_) (fun hc => ?_)
    · have hm := ipos hc hm
      refine lv_iinc (v := x1 + (1 : Int32)) (lv' := [(1, .int (x1 + (1 : Int32))), (0, .ref h0)]) hx hb dX7_firstOpenYear_19 hl (k := 1) rfl rfl (by decide) rfl (fun ls hl => ?_)
      refine lv_goto (tgt := 2) hx hb dX7_firstOpenYear_22 (by decide) ?_
      exact hk2 _ hm _ _ _ hw (lv_sub hl [1, 0] rfl)
    · have hm := ineg hc hm
      refine lv_iload_n hx hb dX7_firstOpenYear_17 rfl (lv_at hl 1 rfl) ?_
      have hm := Option.some.inj hm
      subst hm
      exact gRetI C0 hw dX7_firstOpenYear_18
set_option maxHeartbeats 1000000 in
set_option maxRecDepth 100000 in
theorem l_ys_firstOpenYear_N2 {p : Program} {l : Launch} {e : Env} {s : State} {m : MethodId} {args : Array Value} {below : List Frame} {meth : Method} {c : Code} {A : Nat → Prop} {g : gG} {h0 h1 h2 h3 h4 h5 h6 h7 h8 : Nat} {v_all : Int64} {v_losers : Int32} {v_open : Nat → Int32} {r : Int32} (C0 : gX p s m args meth c cX7_firstOpenYear 2 (some .int) RX7 g A) : ∀ n : Nat, ∀ (x1 : Int32), iter (fun _ => none) (f_ys_firstOpenYear_N2 v_open) n x1 = some r → ∀ (H : Heap) (locs : List Loc) (ls : Array Slot), gW g A s (W_ys_firstOpenYear g h0 h1 h2 h3 h4 h5 h6 h7 h8 v_all v_losers v_open) H locs → lv_has ls 2 [(0, .ref h0), (1, .int x1)] → W p l e rm_ys_firstOpenYear s m args below meth c H locs 0 0 (gQi below args s A g r (W_ys_firstOpenYear g h0 h1 h2 h3 h4 h5 h6 h7 h8 v_all v_losers v_open)) (F0 m 2 ls []) := by
  intro n
  induction n with
  | zero =>
    intro x1 hm
    cases hm
  | succ n ih =>
    exact n_ys_firstOpenYear_N2 C0  ih
set_option maxHeartbeats 1000000 in
set_option maxRecDepth 100000 in
theorem c_ys_firstOpenYear (l : Launch) (g : gG) (sz : Nat) (h0 h1 h2 h3 h4 h5 h6 h7 h8 : Nat) (v_all : Int64) (v_losers : Int32) (v_open : Nat → Int32) (r : Int32) (hm : f_ys_firstOpenYear v_open = some r) : gMi l yX7_firstOpenYear cX7_firstOpenYear 2 (some .int) rm_ys_firstOpenYear g sz [.ref h0] (W_ys_firstOpenYear g h0 h1 h2 h3 h4 h5 h6 h7 h8 v_all v_losers v_open) r (W_ys_firstOpenYear g h0 h1 h2 h3 h4 h5 h6 h7 h8 v_all v_losers v_open) := by
  unfold f_ys_firstOpenYear at hm
  refine gEnterI (by decide) (Nat.le_of_ble_eq_true rfl) (fun p e s m below meth c A C0 H locs hw ls hl => ?_)
  obtain ⟨hx, hb, hr, hml, hown, hts, hlocks, hK, hA⟩ := id C0
  have C0 : gX p s m [.ref h0].toArray meth c cX7_firstOpenYear 2 (some .int) RX7 g A := C0
  have hl : lv_has ls 2 [(0, .ref h0)] := hl
  refine lv_iconst (v := 0) hx hb dX7_firstOpenYear_0 (by decide) ?_
  refine lv_istore_n (lv' := [(1, .int (0 : Int32)), (0, .ref h0)]) hx hb dX7_firstOpenYear_1 rfl hl (by decide) rfl (fun ls hl => ?_)
  exact l_ys_firstOpenYear_N2 C0  1000 _ hm _ _ _ hw (lv_sub hl [1, 0] rfl)

-- WallHands$Years.openYears()I
abbrev W_ys_openYears (g : gG) (h0 h1 h2 h3 h4 h5 h6 h7 h8 : Nat) (v_all : Int64) (v_losers : Int32) (v_open : Nat → Int32) : va_W := [(h0, .inr (7, [.ref h2, .ref h3, .ref h4, .ref h5, .long v_all, .ref h6, .ref h7, .ref h1, .ref h8, .int v_losers])), (h1, .inl (gI g, 20, .inl v_open))]

abbrev rm_ys_openYears : Room := { frames := 0, cells := 0, slots := 0, locals := 0 }

set_option maxHeartbeats 1000000 in
set_option maxRecDepth 100000 in
theorem n_ys_openYears_N4 {p : Program} {l : Launch} {e : Env} {s : State} {m : MethodId} {args : Array Value} {below : List Frame} {meth : Method} {c : Code} {A : Nat → Prop} {g : gG} {h0 h1 h2 h3 h4 h5 h6 h7 h8 : Nat} {v_all : Int64} {v_losers : Int32} {v_open : Nat → Int32} {k4 : Int32 → Int32 → Option Int32} {r : Int32} (C0 : gX p s m args meth c cX7_openYears 3 (some .int) RX7 g A) (hk4 : ∀ (x1 : Int32) (x2 : Int32), k4 x1 x2 = some r → ∀ (H : Heap) (locs : List Loc) (ls : Array Slot), gW g A s (W_ys_openYears g h0 h1 h2 h3 h4 h5 h6 h7 h8 v_all v_losers v_open) H locs → lv_has ls 3 [(0, .ref h0), (1, .int x1), (2, .int x2)] → W p l e rm_ys_openYears s m args below meth c H locs 0 0 (gQi below args s A g r (W_ys_openYears g h0 h1 h2 h3 h4 h5 h6 h7 h8 v_all v_losers v_open)) (F0 m 4 ls [])) : ∀ (x1 : Int32) (x2 : Int32), f_ys_openYears_N4 v_open k4 x1 x2 = some r → ∀ (H : Heap) (locs : List Loc) (ls : Array Slot), gW g A s (W_ys_openYears g h0 h1 h2 h3 h4 h5 h6 h7 h8 v_all v_losers v_open) H locs → lv_has ls 3 [(0, .ref h0), (1, .int x1), (2, .int x2)] → W p l e rm_ys_openYears s m args below meth c H locs 0 0 (gQi below args s A g r (W_ys_openYears g h0 h1 h2 h3 h4 h5 h6 h7 h8 v_all v_losers v_open)) (F0 m 4 ls []) := by
  intro x1 x2 hm H locs ls hw hl
  unfold f_ys_openYears_N4 at hm
  obtain ⟨hx, hb, hr, hml, hown, hts, hlocks, hK, hA⟩ := id C0
  refine lv_iload_n hx hb dX7_openYears_4 rfl (lv_at hl 2 rfl) ?_
  refine lv_bipush (v := 20) hx hb dX7_openYears_5 (by decide) ?_
  refine lv_icmp_ge (tgt := 28) hx hb dX7_openYears_7 (by decide) (fun hc => ?_) (fun hc => ?_)
  · have hm := ipos hc hm
    refine lv_iload_n hx hb dX7_openYears_28 rfl (lv_at hl 1 rfl) ?_
    have hm := Option.some.inj hm
    subst hm
    exact gRetI C0 hw dX7_openYears_29
  · have hm := ineg hc hm
    refine lv_aload_n hx hb dX7_openYears_10 rfl (lv_at hl 0 rfl) ?_
    refine gGet C0 hw flX7_21 0 rfl rfl dX7_openYears_11 ?_
    refine lv_iload_n hx hb dX7_openYears_14 rfl (lv_at hl 2 rfl) ?_
    obtain ⟨hin, hm⟩ := gdE hm
    have hin := inbE hin
    refine gAldI C0 hw 1 rfl hin dX7_openYears_15 ?_
    refine lv_if_eq (tgt := 22) hx hb dX7_openYears_16 (by decide) (fun hc => ?_) (fun hc => ?_)
    · have hm := ipos hc hm
      refine lv_iinc (v := x2 + (1 : Int32)) (lv' := [(2, .int (x2 + (1 : Int32))), (0, .ref h0), (1, .int x1)]) hx hb dX7_openYears_22 hl (k := 2) rfl rfl (by decide) rfl (fun ls hl => ?_)
      refine lv_goto (tgt := 4) hx hb dX7_openYears_25 (by decide) ?_
      exact hk4 _ _ hm _ _ _ hw (lv_sub hl [1, 2, 0] rfl)
    · have hm := ineg hc hm
      refine lv_iinc (v := x1 + (1 : Int32)) (lv' := [(1, .int (x1 + (1 : Int32))), (0, .ref h0), (2, .int x2)]) hx hb dX7_openYears_19 hl (k := 1) rfl rfl (by decide) rfl (fun ls hl => ?_)
      refine lv_iinc (v := x2 + (1 : Int32)) (lv' := [(2, .int (x2 + (1 : Int32))), (1, .int (x1 + (1 : Int32))), (0, .ref h0)]) hx hb dX7_openYears_22 hl (k := 2) rfl rfl (by decide) rfl (fun ls hl => ?_)
      refine lv_goto (tgt := 4) hx hb dX7_openYears_25 (by decide) ?_
      exact hk4 _ _ hm _ _ _ hw (lv_sub hl [2, 1, 0] rfl)
set_option maxHeartbeats 1000000 in
set_option maxRecDepth 100000 in
theorem l_ys_openYears_N4 {p : Program} {l : Launch} {e : Env} {s : State} {m : MethodId} {args : Array Value} {below : List Frame} {meth : Method} {c : Code} {A : Nat → Prop} {g : gG} {h0 h1 h2 h3 h4 h5 h6 h7 h8 : Nat} {v_all : Int64} {v_losers : Int32} {v_open : Nat → Int32} {r : Int32} (C0 : gX p s m args meth c cX7_openYears 3 (some .int) RX7 g A) : ∀ n : Nat, ∀ (x1 : Int32) (x2 : Int32), iter (fun _ _ => none) (f_ys_openYears_N4 v_open) n x1 x2 = some r → ∀ (H : Heap) (locs : List Loc) (ls : Array Slot), gW g A s (W_ys_openYears g h0 h1 h2 h3 h4 h5 h6 h7 h8 v_all v_losers v_open) H locs → lv_has ls 3 [(0, .ref h0), (1, .int x1), (2, .int x2)] → W p l e rm_ys_openYears s m args below meth c H locs 0 0 (gQi below args s A g r (W_ys_openYears g h0 h1 h2 h3 h4 h5 h6 h7 h8 v_all v_losers v_open)) (F0 m 4 ls []) := by
  intro n
  induction n with
  | zero =>
    intro x1 x2 hm
    cases hm
  | succ n ih =>
    exact n_ys_openYears_N4 C0  ih
set_option maxHeartbeats 1000000 in
set_option maxRecDepth 100000 in
theorem c_ys_openYears (l : Launch) (g : gG) (sz : Nat) (h0 h1 h2 h3 h4 h5 h6 h7 h8 : Nat) (v_all : Int64) (v_losers : Int32) (v_open : Nat → Int32) (r : Int32) (hm : f_ys_openYears v_open = some r) : gMi l yX7_openYears cX7_openYears 3 (some .int) rm_ys_openYears g sz [.ref h0] (W_ys_openYears g h0 h1 h2 h3 h4 h5 h6 h7 h8 v_all v_losers v_open) r (W_ys_openYears g h0 h1 h2 h3 h4 h5 h6 h7 h8 v_all v_losers v_open) := by
  unfold f_ys_openYears at hm
  refine gEnterI (by decide) (Nat.le_of_ble_eq_true rfl) (fun p e s m below meth c A C0 H locs hw ls hl => ?_)
  obtain ⟨hx, hb, hr, hml, hown, hts, hlocks, hK, hA⟩ := id C0
  have C0 : gX p s m [.ref h0].toArray meth c cX7_openYears 3 (some .int) RX7 g A := C0
  have hl : lv_has ls 3 [(0, .ref h0)] := hl
  refine lv_iconst (v := 0) hx hb dX7_openYears_0 (by decide) ?_
  refine lv_istore_n (lv' := [(1, .int (0 : Int32)), (0, .ref h0)]) hx hb dX7_openYears_1 rfl hl (by decide) rfl (fun ls hl => ?_)
  refine lv_iconst (v := 0) hx hb dX7_openYears_2 (by decide) ?_
  refine lv_istore_n (lv' := [(2, .int (0 : Int32)), (1, .int (0 : Int32)), (0, .ref h0)]) hx hb dX7_openYears_3 rfl hl (by decide) rfl (fun ls hl => ?_)
  exact l_ys_openYears_N4 C0  1000 _ _ hm _ _ _ hw (lv_sub hl [2, 1, 0] rfl)

-- WallHands$Years.allFallen()I
abbrev W_ys_allFallen (g : gG) (h0 h1 h2 h3 h4 h5 h6 h7 h8 : Nat) (v_all : Int64) (v_losers : Int32) (v_fallen : Nat → Int32) : va_W := [(h0, .inr (7, [.ref h2, .ref h3, .ref h4, .ref h5, .long v_all, .ref h6, .ref h7, .ref h8, .ref h1, .int v_losers])), (h1, .inl (gI g, 20, .inl v_fallen))]

abbrev rm_ys_allFallen : Room := { frames := 0, cells := 0, slots := 0, locals := 0 }

set_option maxHeartbeats 1000000 in
set_option maxRecDepth 100000 in
theorem n_ys_allFallen_N4 {p : Program} {l : Launch} {e : Env} {s : State} {m : MethodId} {args : Array Value} {below : List Frame} {meth : Method} {c : Code} {A : Nat → Prop} {g : gG} {h0 h1 h2 h3 h4 h5 h6 h7 h8 : Nat} {v_all : Int64} {v_losers : Int32} {v_fallen : Nat → Int32} {k4 : Int32 → Int32 → Option Int32} {r : Int32} (C0 : gX p s m args meth c cX7_allFallen 3 (some .int) RX7 g A) (hk4 : ∀ (x1 : Int32) (x2 : Int32), k4 x1 x2 = some r → ∀ (H : Heap) (locs : List Loc) (ls : Array Slot), gW g A s (W_ys_allFallen g h0 h1 h2 h3 h4 h5 h6 h7 h8 v_all v_losers v_fallen) H locs → lv_has ls 3 [(0, .ref h0), (1, .int x1), (2, .int x2)] → W p l e rm_ys_allFallen s m args below meth c H locs 0 0 (gQi below args s A g r (W_ys_allFallen g h0 h1 h2 h3 h4 h5 h6 h7 h8 v_all v_losers v_fallen)) (F0 m 4 ls [])) : ∀ (x1 : Int32) (x2 : Int32), f_ys_allFallen_N4 v_fallen k4 x1 x2 = some r → ∀ (H : Heap) (locs : List Loc) (ls : Array Slot), gW g A s (W_ys_allFallen g h0 h1 h2 h3 h4 h5 h6 h7 h8 v_all v_losers v_fallen) H locs → lv_has ls 3 [(0, .ref h0), (1, .int x1), (2, .int x2)] → W p l e rm_ys_allFallen s m args below meth c H locs 0 0 (gQi below args s A g r (W_ys_allFallen g h0 h1 h2 h3 h4 h5 h6 h7 h8 v_all v_losers v_fallen)) (F0 m 4 ls []) := by
  intro x1 x2 hm H locs ls hw hl
  unfold f_ys_allFallen_N4 at hm
  obtain ⟨hx, hb, hr, hml, hown, hts, hlocks, hK, hA⟩ := id C0
  refine lv_iload_n hx hb dX7_allFallen_4 rfl (lv_at hl 2 rfl) ?_
  refine lv_bipush (v := 20) hx hb dX7_allFallen_5 (by decide) ?_
  refine lv_icmp_ge (tgt := 25) hx hb dX7_allFallen_7 (by decide) (fun hc => ?_) (fun hc => ?_)
  · have hm := ipos hc hm
    refine lv_iload_n hx hb dX7_allFallen_25 rfl (lv_at hl 1 rfl) ?_
    have hm := Option.some.inj hm
    subst hm
    exact gRetI C0 hw dX7_allFallen_26
  · have hm := ineg hc hm
    refine lv_iload_n hx hb dX7_allFallen_10 rfl (lv_at hl 1 rfl) ?_
    refine lv_aload_n hx hb dX7_allFallen_11 rfl (lv_at hl 0 rfl) ?_
    refine gGet C0 hw flX7_25 0 rfl rfl dX7_allFallen_12 ?_
    refine lv_iload_n hx hb dX7_allFallen_15 rfl (lv_at hl 2 rfl) ?_
    obtain ⟨hin, hm⟩ := gdE hm
    have hin := inbE hin
    refine gAldI C0 hw 1 rfl hin dX7_allFallen_16 ?_
    refine lv_iadd hx hb dX7_allFallen_17 ?_
    refine lv_istore_n (lv' := [(1, .int (x1 + (v_fallen x2.toNatClampNeg))), (0, .ref h0), (2, .int x2)]) hx hb dX7_allFallen_18 rfl hl (by decide) rfl (fun ls hl => ?_)
    refine lv_iinc (v := x2 + (1 : Int32)) (lv' := [(2, .int (x2 + (1 : Int32))), (1, .int (x1 + (v_fallen x2.toNatClampNeg))), (0, .ref h0)]) hx hb dX7_allFallen_19 hl (k := 2) rfl rfl (by decide) rfl (fun ls hl => ?_)
    refine lv_goto (tgt := 4) hx hb dX7_allFallen_22 (by decide) ?_
    exact hk4 _ _ hm _ _ _ hw (lv_sub hl [2, 1, 0] rfl)
set_option maxHeartbeats 1000000 in
set_option maxRecDepth 100000 in
theorem l_ys_allFallen_N4 {p : Program} {l : Launch} {e : Env} {s : State} {m : MethodId} {args : Array Value} {below : List Frame} {meth : Method} {c : Code} {A : Nat → Prop} {g : gG} {h0 h1 h2 h3 h4 h5 h6 h7 h8 : Nat} {v_all : Int64} {v_losers : Int32} {v_fallen : Nat → Int32} {r : Int32} (C0 : gX p s m args meth c cX7_allFallen 3 (some .int) RX7 g A) : ∀ n : Nat, ∀ (x1 : Int32) (x2 : Int32), iter (fun _ _ => none) (f_ys_allFallen_N4 v_fallen) n x1 x2 = some r → ∀ (H : Heap) (locs : List Loc) (ls : Array Slot), gW g A s (W_ys_allFallen g h0 h1 h2 h3 h4 h5 h6 h7 h8 v_all v_losers v_fallen) H locs → lv_has ls 3 [(0, .ref h0), (1, .int x1), (2, .int x2)] → W p l e rm_ys_allFallen s m args below meth c H locs 0 0 (gQi below args s A g r (W_ys_allFallen g h0 h1 h2 h3 h4 h5 h6 h7 h8 v_all v_losers v_fallen)) (F0 m 4 ls []) := by
  intro n
  induction n with
  | zero =>
    intro x1 x2 hm
    cases hm
  | succ n ih =>
    exact n_ys_allFallen_N4 C0  ih
set_option maxHeartbeats 1000000 in
set_option maxRecDepth 100000 in
theorem c_ys_allFallen (l : Launch) (g : gG) (sz : Nat) (h0 h1 h2 h3 h4 h5 h6 h7 h8 : Nat) (v_all : Int64) (v_losers : Int32) (v_fallen : Nat → Int32) (r : Int32) (hm : f_ys_allFallen v_fallen = some r) : gMi l yX7_allFallen cX7_allFallen 3 (some .int) rm_ys_allFallen g sz [.ref h0] (W_ys_allFallen g h0 h1 h2 h3 h4 h5 h6 h7 h8 v_all v_losers v_fallen) r (W_ys_allFallen g h0 h1 h2 h3 h4 h5 h6 h7 h8 v_all v_losers v_fallen) := by
  unfold f_ys_allFallen at hm
  refine gEnterI (by decide) (Nat.le_of_ble_eq_true rfl) (fun p e s m below meth c A C0 H locs hw ls hl => ?_)
  obtain ⟨hx, hb, hr, hml, hown, hts, hlocks, hK, hA⟩ := id C0
  have C0 : gX p s m [.ref h0].toArray meth c cX7_allFallen 3 (some .int) RX7 g A := C0
  have hl : lv_has ls 3 [(0, .ref h0)] := hl
  refine lv_iconst (v := 0) hx hb dX7_allFallen_0 (by decide) ?_
  refine lv_istore_n (lv' := [(1, .int (0 : Int32)), (0, .ref h0)]) hx hb dX7_allFallen_1 rfl hl (by decide) rfl (fun ls hl => ?_)
  refine lv_iconst (v := 0) hx hb dX7_allFallen_2 (by decide) ?_
  refine lv_istore_n (lv' := [(2, .int (0 : Int32)), (1, .int (0 : Int32)), (0, .ref h0)]) hx hb dX7_allFallen_3 rfl hl (by decide) rfl (fun ls hl => ?_)
  exact l_ys_allFallen_N4 C0  1000 _ _ hm _ _ _ hw (lv_sub hl [2, 1, 0] rfl)
