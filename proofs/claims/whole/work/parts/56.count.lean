/-! COUNT, both sides -/
def A_count (K : Kt) (G : Gt) (f a0 : Int32) : Int32 := if a0 = 0 then nI (bct (isS (Sw (SK K))) 40) else if a0 = 1 then nI (Sn (SK K)) else if a0 = 2 then nI (kA K) else if a0 = 3 then nI (kB K) else if a0 = 4 then nI (kFn K) else if a0 = 5 then nI (kGn K) else if a0 = 6 then nI (feS (SK K) 20) else if a0 = 7 then nI G.1 else if a0 = 8 then f else -2
theorem k_x_count {K : Kt} (hK : Kok K) {G : Gt} {f : Int32} {v_toldIsStale : Int32} {v_latestFinding : Int32} {v_wallText_length : Int32} {v_handsText_length : Int32} {v_wall_courses : Int32} {v_wall_columns : Int32} {v_wall_jump : Int32} {v_wall_stones : Nat → Int64} {v_hands_told : Int32} {v_hands_mood : Nat → Int32} {v_hands_strong : Nat → Int32} {v_frosts_told : Int32} {v_frosts_year : Nat → Int32} {v_frosts_force : Nat → Int32} {v_gappings_told : Int32} {v_gappings_year : Nat → Int32} {v_gappings_column : Nat → Int32} {v_gappings_hand : Nat → Int32} {v_sights_told : Int32} {v_told_all : Int64} {v_told_losers : Int32} {v_told_now : Nat → Int64} {v_told_stones : Nat → Int64} {v_told_standing : Nat → Int64} {v_told_open : Nat → Int32} {v_told_fallen : Nat → Int32} {a0 : Int32} (hw : CIw (SK K) v_wall_courses v_wall_columns v_wall_jump v_wall_stones) (hh : CIh (SK K) v_hands_told v_hands_mood v_hands_strong) (hf : CIf (SK K) v_frosts_told v_frosts_year v_frosts_force) (hg : CIg (SK K) v_gappings_told v_gappings_year v_gappings_column v_gappings_hand) (ht : CT (SK K) v_toldIsStale v_told_losers v_told_stones v_told_standing v_told_open v_told_fallen) (hl1 : v_wallText_length = nI (kA K)) (hl2 : v_handsText_length = nI (kB K)) (hv : v_sights_told = nI G.1) (hfi : v_latestFinding = f) : wp (f_x_count v_toldIsStale v_latestFinding v_wallText_length v_handsText_length v_wall_courses v_wall_columns v_wall_jump v_wall_stones v_hands_told v_hands_mood v_hands_strong v_frosts_told v_frosts_year v_frosts_force v_gappings_told v_gappings_year v_gappings_column v_gappings_hand v_sights_told v_told_all v_told_losers v_told_now v_told_stones v_told_standing v_told_open v_told_fallen a0) (fun r => r.1 = A_count K G f a0 ∧ CT (SK K) r.2.1 r.2.2.2.1 r.2.2.2.2.2.1 r.2.2.2.2.2.2.1 r.2.2.2.2.2.2.2.1 r.2.2.2.2.2.2.2.2) := by
  have hS := (SK_ok hK).1
  unfold f_x_count A_count
  refine wp_ite (fun g => ?_) (fun g => ?_)
  · rw [if_pos g]
    refine wp_bindE (s_union _ (by decide) (by decide)) (wp_bindE (s_bitCount _) (wp_some ⟨?_, ht⟩))
    dsimp only
    have hA := rep_union hw.2.2.2 hS.2.2.2.2.2.2.2.2.2
    refine congrArg nI (bct_ext (n := 40) (m := 64) (by decide) (fun q hq => (hA q).symm) (fun q hq _ => ?_))
    rw [hA q]
    unfold isS
    rw [decide_eq_false (by omega), Bool.false_and]
  rw [if_neg g]
  refine wp_ite (fun g => ?_) (fun g => ?_)
  · rw [if_pos g]; exact wp_some ⟨hh.1, ht⟩
  rw [if_neg g]
  refine wp_ite (fun g => ?_) (fun g => ?_)
  · rw [if_pos g]; exact wp_some ⟨hl1, ht⟩
  rw [if_neg g]
  refine wp_ite (fun g => ?_) (fun g => ?_)
  · rw [if_pos g]; exact wp_some ⟨hl2, ht⟩
  rw [if_neg g]
  refine wp_ite (fun g => ?_) (fun g => ?_)
  · rw [if_pos g]; exact wp_some ⟨hf.1, ht⟩
  rw [if_neg g]
  refine wp_ite (fun g => ?_) (fun g => ?_)
  · rw [if_pos g]; exact wp_some ⟨hg.1, ht⟩
  rw [if_neg g]
  refine wp_ite (fun g => ?_) (fun g => ?_)
  · rw [if_pos g]
    refine wp_bind (k_x_asTold hS rfl hw hh hf hg ht) (fun o ho => ?_)
    refine wp_bindE (s_allFallen ho.2) (wp_some ⟨?_, Or.inl ho.1, fun _ => ho.2⟩)
    dsimp only
  rw [if_neg g]
  refine wp_ite (fun g => ?_) (fun g => ?_)
  · rw [if_pos g]; exact wp_some ⟨hv, ht⟩
  rw [if_neg g]
  refine wp_ite (fun g => ?_) (fun g => ?_)
  · rw [if_pos g]; exact wp_some ⟨hfi, ht⟩
  rw [if_neg g]
  exact wp_some ⟨by dsimp only <;> rfl, ht⟩
theorem k_m_sumOf {K : Kt} (hK : Kok K) {v_courses : Int32} {v_wide : Int32} {v_hands : Int32} {v_jumpTold : Int32} {v_frosts : Int32} {v_gaps : Int32} {v_frostsNow : Int32} {v_notFrosts : Int32} {v_gapsNow : Int32} {v_fell : Int32} {v_fellAll : Int32} {v_sheepFirst : Int32} {v_sheepMany : Int32} {v_typed : Nat → Int32} {v_texts : Nat → Int32} {v_told : Nat → Int32} {v_moods : Nat → Int32} {v_strongs : Nat → Int32} {v_frostYear : Nat → Int32} {v_frostForce : Nat → Int32} {v_gapYear : Nat → Int32} {v_gapColumn : Nat → Int32} {v_gapHand : Nat → Int32} {v_wall : Nat → Int32} {v_yearNow : Nat → Int32} {v_forceNow : Nat → Int32} {v_holdNow : Nat → Int32} {v_fellOf : Nat → Int32} {v_handAt : Nat → Int32} {v_holdAt : Nat → Int32} {v_fallsAt : Nat → Int32} {v_standAt : Nat → Int32} {v_highAt : Nat → Int32} {v_throughAt : Nat → Int32} {a0 : Int32} (hm : MP K v_typed v_texts v_jumpTold v_frosts v_frostYear v_frostForce v_gaps v_gapYear v_gapColumn v_gapHand) : wp (f_m_sumOf v_courses v_wide v_hands v_jumpTold v_frosts v_gaps v_frostsNow v_notFrosts v_gapsNow v_fell v_fellAll v_sheepFirst v_sheepMany v_typed v_texts v_told v_moods v_strongs v_frostYear v_frostForce v_gapYear v_gapColumn v_gapHand v_wall v_yearNow v_forceNow v_holdNow v_fellOf v_handAt v_holdAt v_fallsAt v_standAt v_highAt v_throughAt a0) (fun r => r.1 = if a0 = 0 then nI (bct (isS (Sw (SK K))) 40) else if a0 = 1 then nI (Sn (SK K)) else nI (feS (SK K) 20)) := by
  unfold f_m_sumOf
  refine wp_bind (k_m_runsTold hK hm) (fun o ho => ?_)
  refine wl_m_sumOf_N8 (fun m v_courses v_wide v_hands v_frostsNow v_notFrosts v_gapsNow v_fell v_fellAll v_sheepFirst v_sheepMany v_told v_moods v_strongs v_wall v_yearNow v_forceNow v_holdNow v_fellOf v_handAt v_holdAt v_fallsAt v_standAt v_highAt v_throughAt x1 x2 x3 => RK K v_courses v_wide v_hands v_told v_moods v_strongs ∧ v_fellAll = nI (feS (SK K) 20) ∧ a0 = x1 ∧ ∃ k, k ≤ 40 ∧ x3 = nI k ∧ m = 40 - k ∧ x2 = nI (bct (isS (Sw (SK K))) k)) ?_ 1000 40 _ _ _ _ _ _ _ _ _ _ _ _ _ _ _ _ _ _ _ _ _ _ _ _ _ _ _ (by decide) ⟨ho.1, ho.2.1, rfl, 0, by decide, rfl, rfl, rfl⟩
  clear ho
  rintro m k8 ih v_courses v_wide v_hands v_frostsNow v_notFrosts v_gapsNow v_fell v_fellAll v_sheepFirst v_sheepMany v_told v_moods v_strongs v_wall v_yearNow v_forceNow v_holdNow v_fellOf v_handAt v_holdAt v_fallsAt v_standAt v_highAt v_throughAt x1 x2 x3 ⟨hR, hfa, rfl, k, hk, rfl, rfl, hx2⟩
  unfold f_m_sumOf_N8 f_m_sumOf_N30
  refine wp_ite (fun g => ?_) (fun g => ?_)
  · have g' : 40 ≤ k := (nI_leX (a := 40) (by decide) (by omega)).mp g
    have e : k = 40 := by omega
    rw [e] at hx2
    refine wp_ite (fun g2 => ?_) (fun g2 => ?_)
    · rw [if_pos g2]; exact wp_some hx2
    · rw [if_neg g2]
      refine wp_ite (fun g3 => ?_) (fun g3 => ?_)
      · rw [if_pos g3]; exact wp_some hR.2.2.1
      · rw [if_neg g3]; exact wp_some hfa
  · have g' : ¬ 40 ≤ k := fun q => g ((nI_leX (a := 40) (b := k) (by decide) (by omega)).mpr q)
    rw [cl (show k < 2 ^ 31 by omega), show nI k + 1 = nI (k + 1) from (nI_succ k).symm, hx2, show v_told k = Sw (SK K) k from hR.2.2.2.1 k (by omega)]
    refine wp_gd (inbN (by omega) (by decide)) ?_
    have hb := bct_s (isS (Sw (SK K))) k
    refine wp_ite (fun g2 => ?_) (fun g2 => ?_)
    · rw [(isS_at (show k < 40 by omega)).mpr g2] at hb
      exact ih (40 - (k + 1)) _ _ _ _ _ _ _ _ _ _ _ _ _ _ _ _ _ _ _ _ _ _ _ _ _ _ _ (by omega) ⟨hR, hfa, rfl, k + 1, by omega, rfl, rfl, by rw [hb]; exact nI_addI _ 0⟩
    · have e : isS (Sw (SK K)) k = true := by
        cases q : isS (Sw (SK K)) k with
        | true => rfl
        | false => exact absurd ((isS_at (show k < 40 by omega)).mp q) g2
      rw [e] at hb
      exact ih (40 - (k + 1)) _ _ _ _ _ _ _ _ _ _ _ _ _ _ _ _ _ _ _ _ _ _ _ _ _ _ _ (by omega) ⟨hR, hfa, rfl, k + 1, by omega, rfl, rfl, by rw [hb]; exact nI_addI _ 1⟩
theorem k_m_count {K : Kt} (hK : Kok K) {G : Gt} {f : Int32} {v_courses : Int32} {v_wide : Int32} {v_hands : Int32} {v_jumpTold : Int32} {v_frosts : Int32} {v_gaps : Int32} {v_frostsNow : Int32} {v_notFrosts : Int32} {v_gapsNow : Int32} {v_fell : Int32} {v_fellAll : Int32} {v_sheepFirst : Int32} {v_sheepMany : Int32} {v_seens : Int32} {v_finding : Int32} {v_typed : Nat → Int32} {v_texts : Nat → Int32} {v_told : Nat → Int32} {v_moods : Nat → Int32} {v_strongs : Nat → Int32} {v_frostYear : Nat → Int32} {v_frostForce : Nat → Int32} {v_gapYear : Nat → Int32} {v_gapColumn : Nat → Int32} {v_gapHand : Nat → Int32} {v_wall : Nat → Int32} {v_yearNow : Nat → Int32} {v_forceNow : Nat → Int32} {v_holdNow : Nat → Int32} {v_fellOf : Nat → Int32} {v_handAt : Nat → Int32} {v_holdAt : Nat → Int32} {v_fallsAt : Nat → Int32} {v_standAt : Nat → Int32} {v_highAt : Nat → Int32} {v_throughAt : Nat → Int32} {a0 : Int32} (hm : MP K v_typed v_texts v_jumpTold v_frosts v_frostYear v_frostForce v_gaps v_gapYear v_gapColumn v_gapHand) (hv : v_seens = nI G.1) (hfi : v_finding = f) : wp (f_m_count v_courses v_wide v_hands v_jumpTold v_frosts v_gaps v_frostsNow v_notFrosts v_gapsNow v_fell v_fellAll v_sheepFirst v_sheepMany v_seens v_finding v_typed v_texts v_told v_moods v_strongs v_frostYear v_frostForce v_gapYear v_gapColumn v_gapHand v_wall v_yearNow v_forceNow v_holdNow v_fellOf v_handAt v_holdAt v_fallsAt v_standAt v_highAt v_throughAt a0) (fun r => r.1 = A_count K G f a0) := by
  unfold f_m_count A_count
  refine wp_ite (fun g => ?_) (fun g0 => ?_)
  · rw [if_pos g]
    refine wp_bind (k_m_sumOf hK hm) (fun o ho => wp_some ?_)
    rw [if_pos g] at ho
    exact ho
  rw [if_neg g0]
  refine wp_ite (fun g => ?_) (fun g1 => ?_)
  · rw [if_pos g]
    refine wp_bind (k_m_sumOf hK hm) (fun o ho => wp_some ?_)
    rw [if_neg g0, if_pos g] at ho
    exact ho
  rw [if_neg g1]
  refine wp_ite (fun g => ?_) (fun g2 => ?_)
  · rw [if_pos g, g]
    exact wp_gd (by decide) (wp_some hm.1.1.1)
  rw [if_neg g2]
  refine wp_ite (fun g => ?_) (fun g3 => ?_)
  · rw [if_pos g, g]
    exact wp_gd (by decide) (wp_some hm.1.2.1)
  rw [if_neg g3]
  refine wp_ite (fun g => ?_) (fun g4 => ?_)
  · rw [if_pos g]; exact wp_some hm.2.2.1.1
  rw [if_neg g4]
  refine wp_ite (fun g => ?_) (fun g5 => ?_)
  · rw [if_pos g]; exact wp_some hm.2.2.2.1
  rw [if_neg g5]
  refine wp_ite (fun g => ?_) (fun g6 => ?_)
  · rw [if_pos g]
    refine wp_bind (k_m_sumOf hK hm) (fun o ho => wp_some ?_)
    rw [if_neg g0, if_neg g1] at ho
    exact ho
  rw [if_neg g6]
  refine wp_ite (fun g => ?_) (fun g7 => ?_)
  · rw [if_pos g]; exact wp_some hv
  rw [if_neg g7]
  refine wp_ite (fun g => ?_) (fun g8 => ?_)
  · rw [if_pos g]; exact wp_some hfi
  rw [if_neg g8]
  exact wp_some (by dsimp only <;> rfl)
