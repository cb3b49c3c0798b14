/-! THE LAW'S LOOP (by program: wip/gen/law2.py) -/
theorem and63 (x : Int32) : ∃ k, k < 64 ∧ x &&& 63 = nI k := by
  refine ⟨(x.toBitVec &&& 63#32).toNat, ?_, ?_⟩
  · rw [BitVec.toNat_and]
    exact Nat.lt_of_le_of_lt Nat.and_le_right (by decide)
  · apply Int32.toBitVec_inj.mp
    rw [Int32.toBitVec_and]
    show x.toBitVec &&& 63#32 = BitVec.ofNat 32 (x.toBitVec &&& 63#32).toNat
    rw [BitVec.ofNat_toNat, BitVec.setWidth_eq]
theorem lt_6 {L k : Nat} (hL : L ≤ 3072) (hk : k ≤ 3072) : nI L - 6 < nI k ↔ L < k + 6 := by
  rw [Int32.lt_iff_toInt_lt, show (6 : Int32) = nI 6 from rfl, pk_sub_toInt (by omega) (by omega), nI_toInt (by omega)]
  omega
section Ll
variable {p : Program} {l : Launch} {e : Env} {s : State} {m : MethodId} {below : List Frame} {meth : Method} {c : Code} {g : gG} {A : Nat → Prop} {b L : Nat} {xs : Nat → Int32} {κ σ : Nat}
variable {x0 x1 x2 x3 x4 x5 x6 x7 x8 x9 x10 x11 x12 x13 x14 x15 x16 x17 x18 x19 x20 x21 x22 x23 x24 x25 x26 x27 x28 x29 x30 x31 x32 x33 x34 x35 x36 x37 x38 x39 x40 x41 x42 x43 x44 x45 y0 y1 y2 y3 y4 y5 y6 y7 y8 y9 y10 y11 y12 y13 y14 y15 y16 y17 y18 y19 y20 y21 y22 y23 y24 y25 y26 y27 y28 y29 y30 : Nat}
set_option maxHeartbeats 4000000 in
set_option maxRecDepth 100000 in
theorem law_loop (C0 : gX p s m #[Value.ref b] meth c code 4 ret RL g A) (hX : va_X b L xs s s.heap) (hbl : b < s.heap.size) (hbA : ¬ A b) (hAq : ∀ q, A q → s.heap.size ≤ q) (hL : L ≤ 3072) (hcs : κ ≤ room_1.cells ∧ σ ≤ room_1.slots) (hk1 : κ ≤ 600000) (hk2 : σ ≤ 7302250) : ∀ (n k : Nat), L < 6 * (k + n) → 6 * k ≤ L → ∀ {O : Om} {v_toldIsStale : Int32} {v_latestFinding : Int32} {v_wallText_length : Int32} {v_wallText_bytes : Nat → Int32} {v_handsText_length : Int32} {v_handsText_bytes : Nat → Int32} {v_wall_courses : Int32} {v_wall_columns : Int32} {v_wall_fault : Int32} {v_wall_jump : Int32} {v_wall_stones : Nat → Int64} {v_hands_told : Int32} {v_hands_fault : Int32} {v_hands_mood : Nat → Int32} {v_hands_strong : Nat → Int32} {v_frosts_told : Int32} {v_frosts_year : Nat → Int32} {v_frosts_force : Nat → Int32} {v_chanceFrosts_told : Int32} {v_chanceFrosts_year : Nat → Int32} {v_chanceFrosts_force : Nat → Int32} {v_gappings_told : Int32} {v_gappings_year : Nat → Int32} {v_gappings_column : Nat → Int32} {v_gappings_hand : Nat → Int32} {v_sights_told : Int32} {v_sights_year : Nat → Int32} {v_sights_place : Nat → Int32} {v_sights_setter : Nat → Int32} {v_sheets0_form : Int32} {v_sheets0_size : Int32} {v_sheets0_items : Nat → Int32} {v_sheets1_form : Int32} {v_sheets1_size : Int32} {v_sheets1_items : Nat → Int32} {v_sheets2_form : Int32} {v_sheets2_size : Int32} {v_sheets2_items : Nat → Int32} {v_sheets3_form : Int32} {v_sheets3_size : Int32} {v_sheets3_items : Nat → Int32} {v_told_all : Int64} {v_told_losers : Int32} {v_told_now : Nat → Int64} {v_told_stones : Nat → Int64} {v_told_standing : Nat → Int64} {v_told_open : Nat → Int32} {v_told_fallen : Nat → Int32} {v_trial_all : Int64} {v_trial_losers : Int32} {v_trial_now : Nat → Int64} {v_trial_stones : Nat → Int64} {v_trial_standing : Nat → Int64} {v_trial_open : Nat → Int32} {v_trial_fallen : Nat → Int32} {v_stood : Nat → Int32} {v_courses : Int32} {v_wide : Int32} {v_hands : Int32} {v_jumpTold : Int32} {v_frosts : Int32} {v_gaps : Int32} {v_frostsNow : Int32} {v_notFrosts : Int32} {v_gapsNow : Int32} {v_fell : Int32} {v_fellAll : Int32} {v_sheepFirst : Int32} {v_sheepMany : Int32} {v_seens : Int32} {v_finding : Int32} {v_typed : Nat → Int32} {v_texts : Nat → Int32} {v_told : Nat → Int32} {v_moods : Nat → Int32} {v_strongs : Nat → Int32} {v_frostYear : Nat → Int32} {v_frostForce : Nat → Int32} {v_gapYear : Nat → Int32} {v_gapColumn : Nat → Int32} {v_gapHand : Nat → Int32} {v_wall : Nat → Int32} {v_yearNow : Nat → Int32} {v_forceNow : Nat → Int32} {v_holdNow : Nat → Int32} {v_fellOf : Nat → Int32} {v_handAt : Nat → Int32} {v_holdAt : Nat → Int32} {v_fallsAt : Nat → Int32} {v_standAt : Nat → Int32} {v_highAt : Nat → Int32} {v_throughAt : Nat → Int32} {v_seenYear : Nat → Int32} {v_seenPlace : Nat → Int32} {v_seenHand : Nat → Int32} {v_standBy : Nat → Int32} {v_isThere : Nat → Int32} {v_forms : Nat → Int32} {v_sizes : Nat → Int32} {v_items : Nat → Int32} {v_moved : Nat → Int32} {H : Heap} {locs : List Loc} {ls : Array Slot}, CR O v_toldIsStale v_latestFinding v_wallText_length v_wallText_bytes v_handsText_length v_handsText_bytes v_wall_courses v_wall_columns v_wall_fault v_wall_jump v_wall_stones v_hands_told v_hands_fault v_hands_mood v_hands_strong v_frosts_told v_frosts_year v_frosts_force v_gappings_told v_gappings_year v_gappings_column v_gappings_hand v_sights_told v_sights_year v_sights_place v_sights_setter v_sheets0_form v_sheets0_size v_sheets0_items v_sheets1_form v_sheets1_size v_sheets1_items v_sheets2_form v_sheets2_size v_sheets2_items v_sheets3_form v_sheets3_size v_sheets3_items v_told_losers v_told_stones v_told_standing v_told_open v_told_fallen → MX O v_typed v_texts v_jumpTold v_frosts v_frostYear v_frostForce v_gaps v_gapYear v_gapColumn v_gapHand v_seens v_seenYear v_seenPlace v_seenHand v_finding v_isThere v_forms v_sizes v_items → gW g A s (W_L g x0 x1 x2 x3 x4 x5 x6 x7 x8 x9 x10 x11 x12 x13 x14 x15 x16 x17 x18 x19 x20 x21 x22 x23 x24 x25 x26 x27 x28 x29 x30 x31 x32 x33 x34 x35 x36 x37 x38 x39 x40 x41 x42 x43 x44 x45 y0 y1 y2 y3 y4 y5 y6 y7 y8 y9 y10 y11 y12 y13 y14 y15 y16 y17 y18 y19 y20 y21 y22 y23 y24 y25 y26 y27 y28 y29 y30 v_toldIsStale v_latestFinding v_wallText_length v_wallText_bytes v_handsText_length v_handsText_bytes v_wall_courses v_wall_columns v_wall_fault v_wall_jump v_wall_stones v_hands_told v_hands_fault v_hands_mood v_hands_strong v_frosts_told v_frosts_year v_frosts_force v_chanceFrosts_told v_chanceFrosts_year v_chanceFrosts_force v_gappings_told v_gappings_year v_gappings_column v_gappings_hand v_sights_told v_sights_year v_sights_place v_sights_setter v_sheets0_form v_sheets0_size v_sheets0_items v_sheets1_form v_sheets1_size v_sheets1_items v_sheets2_form v_sheets2_size v_sheets2_items v_sheets3_form v_sheets3_size v_sheets3_items v_told_all v_told_losers v_told_now v_told_stones v_told_standing v_told_open v_told_fallen v_trial_all v_trial_losers v_trial_now v_trial_stones v_trial_standing v_trial_open v_trial_fallen v_stood v_courses v_wide v_hands v_jumpTold v_frosts v_gaps v_frostsNow v_notFrosts v_gapsNow v_fell v_fellAll v_sheepFirst v_sheepMany v_seens v_finding v_typed v_texts v_told v_moods v_strongs v_frostYear v_frostForce v_gapYear v_gapColumn v_gapHand v_wall v_yearNow v_forceNow v_holdNow v_fellOf v_handAt v_holdAt v_fallsAt v_standAt v_highAt v_throughAt v_seenYear v_seenPlace v_seenHand v_standBy v_isThere v_forms v_sizes v_items v_moved) H locs → lv_has ls 4 [(0, .ref b), (1, .ref x0), (2, .ref y0), (3, .int (nI (6 * k)))] → W p l e room_1 s m #[Value.ref b] below meth c H locs κ σ (lw_Z below #[Value.ref b] s) (F0 m 18 ls []) := by
  obtain ⟨hx, hb, hr, hml, hown, hts, hlocks, hK, hA⟩ := id C0
  intro n
  induction n with
  | zero =>
    intro k h1 h2
    omega
  | succ n ih =>
    intro k h1 h2 O v_toldIsStale v_latestFinding v_wallText_length v_wallText_bytes v_handsText_length v_handsText_bytes v_wall_courses v_wall_columns v_wall_fault v_wall_jump v_wall_stones v_hands_told v_hands_fault v_hands_mood v_hands_strong v_frosts_told v_frosts_year v_frosts_force v_chanceFrosts_told v_chanceFrosts_year v_chanceFrosts_force v_gappings_told v_gappings_year v_gappings_column v_gappings_hand v_sights_told v_sights_year v_sights_place v_sights_setter v_sheets0_form v_sheets0_size v_sheets0_items v_sheets1_form v_sheets1_size v_sheets1_items v_sheets2_form v_sheets2_size v_sheets2_items v_sheets3_form v_sheets3_size v_sheets3_items v_told_all v_told_losers v_told_now v_told_stones v_told_standing v_told_open v_told_fallen v_trial_all v_trial_losers v_trial_now v_trial_stones v_trial_standing v_trial_open v_trial_fallen v_stood v_courses v_wide v_hands v_jumpTold v_frosts v_gaps v_frostsNow v_notFrosts v_gapsNow v_fell v_fellAll v_sheepFirst v_sheepMany v_seens v_finding v_typed v_texts v_told v_moods v_strongs v_frostYear v_frostForce v_gapYear v_gapColumn v_gapHand v_wall v_yearNow v_forceNow v_holdNow v_fellOf v_handAt v_holdAt v_fallsAt v_standAt v_highAt v_throughAt v_seenYear v_seenPlace v_seenHand v_standBy v_isThere v_forms v_sizes v_items v_moved H locs ls hcr hmx hw hl
    refine lv_iload_n hx hb dL_18 rfl (lv_at hl 3 rfl) ?_
    refine lv_aload_n hx hb dL_19 rfl (lv_at hl 0 rfl) ?_
    refine va_slen hx hb hX hbl hbA hw.2.2 dL_20 ?_
    refine lv_bipush (v := 6) hx hb dL_21 (by decide) ?_
    refine lv_isub hx hb dL_23 ?_
    refine lv_icmp_gt (tgt := 1318) hx hb dL_24 (by decide) (fun q => ?_) (fun q => ?_)
    · refine lv_iconst (v := 1) hx hb dL_1318 (by decide) ?_
      refine va_forget (fun z hz => hAq _ (hw.2.2.2.2 z hz)) ?_
      refine W.widen (k := 600000) (n := 7302250) hk1 hk2 ?_
      exact lw_ret hx hb hr hlocks dL_1319
    · have hle : 6 * k + 6 ≤ L := by
        have hq : ¬ L < 6 * k + 6 := fun z => q ((lt_6 hL (by omega)).mpr z)
        omega
      have hin : ∀ j, j < 6 → vp_in (nI (6 * k) + nI j) L := fun j hj => by
        rw [nI_addI]
        exact vp_in_nI (by omega) (by omega)
      have h0 : vp_in (nI (6 * k)) L := vp_in_nI (by omega) (by omega)
      refine lv_aload_n hx hb dL_27 rfl (lv_at hl 0 rfl) ?_
      refine lv_iload_n hx hb dL_28 rfl (lv_at hl 3 rfl) ?_
      refine va_sld hx hb hX hbl hbA hw.2.2 h0 dL_29 ?_
      refine lv_bipush (v := 63) hx hb dL_30 (by decide) ?_
      refine lv_iand hx hb dL_32 ?_
      have kk : LK p l e s m below meth c g A b ls κ σ (lw_Z below #[Value.ref b] s) x0 x1 x2 x3 x4 x5 x6 x7 x8 x9 x10 x11 x12 x13 x14 x15 x16 x17 x18 x19 x20 x21 x22 x23 x24 x25 x26 x27 x28 x29 x30 x31 x32 x33 x34 x35 x36 x37 x38 x39 x40 x41 x42 x43 x44 x45 y0 y1 y2 y3 y4 y5 y6 y7 y8 y9 y10 y11 y12 y13 y14 y15 y16 y17 y18 y19 y20 y21 y22 y23 y24 y25 y26 y27 y28 y29 y30 := by
        intro O v_toldIsStale v_latestFinding v_wallText_length v_wallText_bytes v_handsText_length v_handsText_bytes v_wall_courses v_wall_columns v_wall_fault v_wall_jump v_wall_stones v_hands_told v_hands_fault v_hands_mood v_hands_strong v_frosts_told v_frosts_year v_frosts_force v_chanceFrosts_told v_chanceFrosts_year v_chanceFrosts_force v_gappings_told v_gappings_year v_gappings_column v_gappings_hand v_sights_told v_sights_year v_sights_place v_sights_setter v_sheets0_form v_sheets0_size v_sheets0_items v_sheets1_form v_sheets1_size v_sheets1_items v_sheets2_form v_sheets2_size v_sheets2_items v_sheets3_form v_sheets3_size v_sheets3_items v_told_all v_told_losers v_told_now v_told_stones v_told_standing v_told_open v_told_fallen v_trial_all v_trial_losers v_trial_now v_trial_stones v_trial_standing v_trial_open v_trial_fallen v_stood v_courses v_wide v_hands v_jumpTold v_frosts v_gaps v_frostsNow v_notFrosts v_gapsNow v_fell v_fellAll v_sheepFirst v_sheepMany v_seens v_finding v_typed v_texts v_told v_moods v_strongs v_frostYear v_frostForce v_gapYear v_gapColumn v_gapHand v_wall v_yearNow v_forceNow v_holdNow v_fellOf v_handAt v_holdAt v_fallsAt v_standAt v_highAt v_throughAt v_seenYear v_seenPlace v_seenHand v_standBy v_isThere v_forms v_sizes v_items v_moved H locs hcr hmx hw
        refine lv_iinc (v := nI (6 * (k + 1))) (lv' := [(3, .int (nI (6 * (k + 1)))), (0, .ref b), (1, .ref x0), (2, .ref y0)]) hx hb dL_1312 hl (k := 3) rfl ?_ (by decide) rfl (fun ls hl => ?_)
        · exact nI_addI (6 * k) 6
        refine lv_goto (tgt := 18) hx hb dL_1315 (by decide) ?_
        exact ih (k + 1) (by omega) (by omega) hcr hmx hw (lv_sub hl [1, 2, 3, 0] rfl)
      obtain ⟨z, hz, ez⟩ := and63 (xs (nI (6 * k)).toNatClampNeg)
      rw [ez]
      by_cases hz2 : z < 36
      · rcases (show z = 0 ∨ z = 1 ∨ z = 2 ∨ z = 3 ∨ z = 4 ∨ z = 5 ∨ z = 6 ∨ z = 7 ∨ z = 8 ∨ z = 9 ∨ z = 10 ∨ z = 11 ∨ z = 12 ∨ z = 13 ∨ z = 14 ∨ z = 15 ∨ z = 16 ∨ z = 17 ∨ z = 18 ∨ z = 19 ∨ z = 20 ∨ z = 21 ∨ z = 22 ∨ z = 23 ∨ z = 24 ∨ z = 25 ∨ z = 26 ∨ z = 27 ∨ z = 28 ∨ z = 29 ∨ z = 30 ∨ z = 31 ∨ z = 32 ∨ z = 33 ∨ z = 34 ∨ z = 35 by omega) with rfl | rfl | rfl | rfl | rfl | rfl | rfl | rfl | rfl | rfl | rfl | rfl | rfl | rfl | rfl | rfl | rfl | rfl | rfl | rfl | rfl | rfl | rfl | rfl | rfl | rfl | rfl | rfl | rfl | rfl | rfl | rfl | rfl | rfl | rfl | rfl
        · exact lv_tableIn (tgt := 192) (off := 159) hx hb dL_33 (by decide) (by decide) rfl (by decide) (law_0 C0 hX hbl hbA (hin 1 (by decide)) (hin 2 (by decide)) hcs hl hcr hmx hw kk)
        · exact lv_tableIn (tgt := 225) (off := 192) hx hb dL_33 (by decide) (by decide) rfl (by decide) (law_1 C0 hX hbl hbA (hin 1 (by decide)) hcs hl hcr hmx hw kk)
        · exact lv_tableIn (tgt := 248) (off := 215) hx hb dL_33 (by decide) (by decide) rfl (by decide) (law_2 C0 hX hbl hbA (hin 1 (by decide)) hcs hl hcr hmx hw kk)
        · exact lv_tableIn (tgt := 271) (off := 238) hx hb dL_33 (by decide) (by decide) rfl (by decide) (law_3 C0 hX hbl hbA (hin 1 (by decide)) hcs hl hcr hmx hw kk)
        · exact lv_tableIn (tgt := 294) (off := 261) hx hb dL_33 (by decide) (by decide) rfl (by decide) (law_4 C0 hX hbl hbA (hin 1 (by decide)) (hin 2 (by decide)) hcs hl hcr hmx hw kk)
        · exact lv_tableIn (tgt := 327) (off := 294) hx hb dL_33 (by decide) (by decide) rfl (by decide) (law_5 C0 hX hbl hbA (hin 1 (by decide)) (hin 2 (by decide)) hcs hl hcr hmx hw kk)
        · exact lv_tableIn (tgt := 360) (off := 327) hx hb dL_33 (by decide) (by decide) rfl (by decide) (law_6 C0 hX hbl hbA (hin 1 (by decide)) hcs hl hcr hmx hw kk)
        · exact lv_tableIn (tgt := 383) (off := 350) hx hb dL_33 (by decide) (by decide) rfl (by decide) (law_7 C0 hX hbl hbA (hin 1 (by decide)) (hin 2 (by decide)) hcs hl hcr hmx hw kk)
        · exact lv_tableIn (tgt := 416) (off := 383) hx hb dL_33 (by decide) (by decide) rfl (by decide) (law_8 C0 hX hbl hbA (hin 1 (by decide)) (hin 2 (by decide)) (hin 3 (by decide)) hcs hl hcr hmx hw kk)
        · exact lv_tableIn (tgt := 459) (off := 426) hx hb dL_33 (by decide) (by decide) rfl (by decide) (law_9 C0 hX hbl hbA (hin 1 (by decide)) hcs hl hcr hmx hw kk)
        · exact lv_tableIn (tgt := 482) (off := 449) hx hb dL_33 (by decide) (by decide) rfl (by decide) (law_10 C0 hX hbl hbA (hin 1 (by decide)) hcs hl hcr hmx hw kk)
        · exact lv_tableIn (tgt := 505) (off := 472) hx hb dL_33 (by decide) (by decide) rfl (by decide) (law_11 C0 hX hbl hbA (hin 1 (by decide)) (hin 2 (by decide)) (hin 3 (by decide)) (hin 4 (by decide)) hcs hl hcr hmx hw kk)
        · exact lv_tableIn (tgt := 558) (off := 525) hx hb dL_33 (by decide) (by decide) rfl (by decide) (law_12 C0 hX hbl hbA (hin 1 (by decide)) (hin 2 (by decide)) (hin 3 (by decide)) hcs hl hcr hmx hw kk)
        · exact lv_tableIn (tgt := 601) (off := 568) hx hb dL_33 (by decide) (by decide) rfl (by decide) (law_13 C0 hX hbl hbA (hin 1 (by decide)) hcs hl hcr hmx hw kk)
        · exact lv_tableIn (tgt := 624) (off := 591) hx hb dL_33 (by decide) (by decide) rfl (by decide) (law_14 C0 hX hbl hbA (hin 1 (by decide)) hcs hl hcr hmx hw kk)
        · exact lv_tableIn (tgt := 647) (off := 614) hx hb dL_33 (by decide) (by decide) rfl (by decide) (law_15 C0 hX hbl hbA (hin 1 (by decide)) hcs hl hcr hmx hw kk)
        · exact lv_tableIn (tgt := 670) (off := 637) hx hb dL_33 (by decide) (by decide) rfl (by decide) (law_16 C0 hX hbl hbA hcs hl hcr hmx hw kk)
        · exact lv_tableIn (tgt := 683) (off := 650) hx hb dL_33 (by decide) (by decide) rfl (by decide) (law_17 C0 hX hbl hbA (hin 1 (by decide)) (hin 2 (by decide)) hcs hl hcr hmx hw kk)
        · exact lv_tableIn (tgt := 716) (off := 683) hx hb dL_33 (by decide) (by decide) rfl (by decide) (law_18 C0 hX hbl hbA (hin 1 (by decide)) hcs hl hcr hmx hw kk)
        · exact lv_tableIn (tgt := 739) (off := 706) hx hb dL_33 (by decide) (by decide) rfl (by decide) (law_19 C0 hX hbl hbA (hin 1 (by decide)) (hin 2 (by decide)) hcs hl hcr hmx hw kk)
        · exact lv_tableIn (tgt := 772) (off := 739) hx hb dL_33 (by decide) (by decide) rfl (by decide) (law_20 C0 hX hbl hbA (hin 1 (by decide)) (hin 2 (by decide)) hcs hl hcr hmx hw kk)
        · exact lv_tableIn (tgt := 805) (off := 772) hx hb dL_33 (by decide) (by decide) rfl (by decide) (law_21 C0 hX hbl hbA (hin 1 (by decide)) (hin 2 (by decide)) (hin 3 (by decide)) (hin 4 (by decide)) hcs hl hcr hmx hw kk)
        · exact lv_tableIn (tgt := 858) (off := 825) hx hb dL_33 (by decide) (by decide) rfl (by decide) (law_22 C0 hX hbl hbA hcs hl hcr hmx hw kk)
        · exact lv_tableIn (tgt := 871) (off := 838) hx hb dL_33 (by decide) (by decide) rfl (by decide) (law_23 C0 hX hbl hbA hcs hl hcr hmx hw kk)
        · exact lv_tableIn (tgt := 884) (off := 851) hx hb dL_33 (by decide) (by decide) rfl (by decide) (law_24 C0 hX hbl hbA (hin 1 (by decide)) (hin 2 (by decide)) hcs hl hcr hmx hw kk)
        · exact lv_tableIn (tgt := 917) (off := 884) hx hb dL_33 (by decide) (by decide) rfl (by decide) (law_25 C0 hX hbl hbA (hin 1 (by decide)) hcs hl hcr hmx hw kk)
        · exact lv_tableIn (tgt := 940) (off := 907) hx hb dL_33 (by decide) (by decide) rfl (by decide) (law_26 C0 hX hbl hbA (hin 1 (by decide)) (hin 2 (by decide)) hcs hl hcr hmx hw kk)
        · exact lv_tableIn (tgt := 974) (off := 941) hx hb dL_33 (by decide) (by decide) rfl (by decide) (law_27 C0 hX hbl hbA (hin 1 (by decide)) (hin 2 (by decide)) (hin 3 (by decide)) hcs hl hcr hmx hw kk)
        · exact lv_tableIn (tgt := 1017) (off := 984) hx hb dL_33 (by decide) (by decide) rfl (by decide) (law_28 C0 hX hbl hbA (hin 1 (by decide)) (hin 2 (by decide)) (hin 3 (by decide)) hcs hl hcr hmx hw kk)
        · exact lv_tableIn (tgt := 1060) (off := 1027) hx hb dL_33 (by decide) (by decide) rfl (by decide) (law_29 C0 hX hbl hbA (hin 1 (by decide)) hcs hl hcr hmx hw kk)
        · exact lv_tableIn (tgt := 1083) (off := 1050) hx hb dL_33 (by decide) (by decide) rfl (by decide) (law_30 C0 hX hbl hbA (hin 1 (by decide)) (hin 2 (by decide)) (hin 3 (by decide)) (hin 4 (by decide)) hcs hl hcr hmx hw kk)
        · exact lv_tableIn (tgt := 1136) (off := 1103) hx hb dL_33 (by decide) (by decide) rfl (by decide) (law_31 C0 hX hbl hbA (hin 1 (by decide)) (hin 2 (by decide)) (hin 3 (by decide)) hcs hl hcr hmx hw kk)
        · exact lv_tableIn (tgt := 1179) (off := 1146) hx hb dL_33 (by decide) (by decide) rfl (by decide) (law_32 C0 hX hbl hbA (hin 1 (by decide)) (hin 2 (by decide)) (hin 3 (by decide)) (hin 4 (by decide)) (hin 5 (by decide)) hcs hl hcr hmx hw kk)
        · exact lv_tableIn (tgt := 1242) (off := 1209) hx hb dL_33 (by decide) (by decide) rfl (by decide) (law_33 C0 hX hbl hbA (hin 1 (by decide)) (hin 2 (by decide)) hcs hl hcr hmx hw kk)
        · exact lv_tableIn (tgt := 1275) (off := 1242) hx hb dL_33 (by decide) (by decide) rfl (by decide) (law_34 C0 hX hbl hbA (hin 1 (by decide)) hcs hl hcr hmx hw kk)
        · exact lv_tableIn (tgt := 1298) (off := 1265) hx hb dL_33 (by decide) (by decide) rfl (by decide) (law_35 C0 hX hbl hbA hcs hl hcr hmx hw kk)
      · exact lv_tableOut (tgt := 1312) hx hb dL_33 (Or.inr (by rw [nI_toInt (by omega)]; omega)) (by decide) (kk hcr hmx hw)
end Ll
