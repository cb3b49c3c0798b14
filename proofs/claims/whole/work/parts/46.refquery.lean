/-! THE REFERENCE: what is asked of the years -/
theorem k_m_mineNow {S : Sit} {hA : Nat → Int32} (h1 : ∀ p, p < 40 → hA (760 + p) = wsY S 20 p) {h : Nat} (hh : h < 8) : f_m_mineNow hA (nI h) = some (nI (vMine S h)) := by
  apply wp_get
  unfold f_m_mineNow
  refine wl_m_mineNow_N4 (fun m x1 x2 x3 => x1 = nI h ∧ ∃ p, p ≤ 40 ∧ x3 = nI p ∧ m = 40 - p ∧ x2 = nI (bct (isH (wsY S 20) h) p)) ?_ 1000 40 _ _ _ (by decide) ⟨rfl, 0, by decide, rfl, rfl, rfl⟩
  rintro m k4 ih x1 x2 x3 ⟨rfl, p, hp, rfl, rfl, rfl⟩
  unfold f_m_mineNow_N4
  refine wp_ite (fun g => ?_) (fun g => ?_)
  · have g' := (nI_leX (a := 40) (b := p) (by decide) (by omega)).mp g
    have e : p = 40 := by omega
    subst e
    exact wp_some rfl
  · have g' : ¬ 40 ≤ p := fun q => g ((nI_leX (a := 40) (b := p) (by decide) (by omega)).mpr q)
    have e1 : nI p + 1 = nI (p + 1) := (nI_succ p).symm
    have e2 : (760 : Int32) + nI p = nI (760 + p) := nI_addI 760 p
    have hst : bct (isH (wsY S 20) h) (p + 1) = bct (isH (wsY S 20) h) p + (if isH (wsY S 20) h p then 1 else 0) := rfl
    rw [e2]
    refine wp_gd (inbN (by omega) (by decide)) ?_
    rw [cl (show 760 + p < 2 ^ 31 by omega), h1 p (by omega)]
    refine wp_ite (fun g1 => ?_) (fun g1 => ?_)
    · have hi : isH (wsY S 20) h p = true := by unfold isH; rw [decide_eq_true (show p < 40 by omega), decide_eq_true g1]; rfl
      unfold f_m_mineNow_N30
      rw [e1]
      refine ih (40 - (p + 1)) _ _ _ (by omega) ⟨rfl, p + 1, by omega, rfl, rfl, ?_⟩
      rw [hst, hi, if_pos rfl, nI_succ]
    · have hi : isH (wsY S 20) h p = false := by unfold isH; rw [decide_eq_false g1, Bool.and_false]
      unfold f_m_mineNow_N30
      rw [e1]
      refine ih (40 - (p + 1)) _ _ _ (by omega) ⟨rfl, p + 1, by omega, rfl, rfl, ?_⟩
      rw [hst, hi]
      exact Int32.add_zero _

theorem k_m_atOf {K : Kt} (hK : Kok K) {v_courses : Int32} {v_wide : Int32} {v_hands : Int32} {v_jumpTold : Int32} {v_frosts : Int32} {v_gaps : Int32} {v_frostsNow : Int32} {v_notFrosts : Int32} {v_gapsNow : Int32} {v_fell : Int32} {v_fellAll : Int32} {v_sheepFirst : Int32} {v_sheepMany : Int32} {v_typed : Nat → Int32} {v_texts : Nat → Int32} {v_told : Nat → Int32} {v_moods : Nat → Int32} {v_strongs : Nat → Int32} {v_frostYear : Nat → Int32} {v_frostForce : Nat → Int32} {v_gapYear : Nat → Int32} {v_gapColumn : Nat → Int32} {v_gapHand : Nat → Int32} {v_wall : Nat → Int32} {v_yearNow : Nat → Int32} {v_forceNow : Nat → Int32} {v_holdNow : Nat → Int32} {v_fellOf : Nat → Int32} {v_handAt : Nat → Int32} {v_holdAt : Nat → Int32} {v_fallsAt : Nat → Int32} {v_standAt : Nat → Int32} {v_highAt : Nat → Int32} {v_throughAt : Nat → Int32} {a2 : Int32} {y p : Nat} (hy : y < 20) (hp : p < 40) (hm : MP K v_typed v_texts v_jumpTold v_frosts v_frostYear v_frostForce v_gaps v_gapYear v_gapColumn v_gapHand) : wp (f_m_atOf v_courses v_wide v_hands v_jumpTold v_frosts v_gaps v_frostsNow v_notFrosts v_gapsNow v_fell v_fellAll v_sheepFirst v_sheepMany v_typed v_texts v_told v_moods v_strongs v_frostYear v_frostForce v_gapYear v_gapColumn v_gapHand v_wall v_yearNow v_forceNow v_holdNow v_fellOf v_handAt v_holdAt v_fallsAt v_standAt v_highAt v_throughAt (nI y) (nI p) a2) (fun r => r.1 = vAt (SK K) y p a2 ∧ RK K r.2.1 r.2.2.1 r.2.2.2.1 r.2.2.2.2.2.2.2.2.2.2.2.1 r.2.2.2.2.2.2.2.2.2.2.2.2.1 r.2.2.2.2.2.2.2.2.2.2.2.2.2.1) := by
  unfold f_m_atOf vAt
  refine wp_bind (k_m_runsTold hK hm) (fun o ho => ?_)
  have e : (40 : Int32) * nI y + nI p = nI (40 * y + p) := by rw [show (40 : Int32) * nI y = nI (40 * y) from nI_mulI 40 y, nI_addI]
  have hk := (ho.2.2.2.2.2.2 y hy).1 p hp
  rw [e]
  refine wp_ite (fun g => ?_) (fun g => ?_)
  · rw [if_pos g]
    refine wp_gd (inbN (by omega) (by decide)) (wp_some ⟨?_, ho.1⟩)
    rw [cl (show 40 * y + p < 2 ^ 31 by omega)]
    exact hk.1
  · rw [if_neg g]
    refine wp_gd (inbN (by omega) (by decide)) (wp_some ⟨?_, ho.1⟩)
    rw [cl (show 40 * y + p < 2 ^ 31 by omega)]
    exact of_toI hk.2
theorem k_m_at {K : Kt} (hK : Kok K) {v_courses : Int32} {v_wide : Int32} {v_hands : Int32} {v_jumpTold : Int32} {v_frosts : Int32} {v_gaps : Int32} {v_frostsNow : Int32} {v_notFrosts : Int32} {v_gapsNow : Int32} {v_fell : Int32} {v_fellAll : Int32} {v_sheepFirst : Int32} {v_sheepMany : Int32} {v_typed : Nat → Int32} {v_texts : Nat → Int32} {v_told : Nat → Int32} {v_moods : Nat → Int32} {v_strongs : Nat → Int32} {v_frostYear : Nat → Int32} {v_frostForce : Nat → Int32} {v_gapYear : Nat → Int32} {v_gapColumn : Nat → Int32} {v_gapHand : Nat → Int32} {v_wall : Nat → Int32} {v_yearNow : Nat → Int32} {v_forceNow : Nat → Int32} {v_holdNow : Nat → Int32} {v_fellOf : Nat → Int32} {v_handAt : Nat → Int32} {v_holdAt : Nat → Int32} {v_fallsAt : Nat → Int32} {v_standAt : Nat → Int32} {v_highAt : Nat → Int32} {v_throughAt : Nat → Int32} {a0 : Int32} {a1 : Int32} {a2 : Int32} {a3 : Int32} (hm : MP K v_typed v_texts v_jumpTold v_frosts v_frostYear v_frostForce v_gaps v_gapYear v_gapColumn v_gapHand) : wp (f_m_at v_courses v_wide v_hands v_jumpTold v_frosts v_gaps v_frostsNow v_notFrosts v_gapsNow v_fell v_fellAll v_sheepFirst v_sheepMany v_typed v_texts v_told v_moods v_strongs v_frostYear v_frostForce v_gapYear v_gapColumn v_gapHand v_wall v_yearNow v_forceNow v_holdNow v_fellOf v_handAt v_holdAt v_fallsAt v_standAt v_highAt v_throughAt a0 a1 a2 a3) (fun r => r.1 = A_at (SK K) a0 a1 a2 a3) := by
  unfold f_m_at A_at
  refine wp_bindE (q_m_isYear a0) (wp_ite (fun g => ?_) (fun g1 => ?_))
  · rw [if_pos g]; exact wp_some rfl
  rw [if_neg g1]
  refine wp_bindE (q_m_isPlace a1 a2) (wp_ite (fun g => ?_) (fun g2 => ?_))
  · rw [if_pos g]; exact wp_some rfl
  rw [if_neg g2]
  refine wp_bindE (s_in a3 0 1) (wp_ite (fun g => ?_) (fun g3 => ?_))
  · rw [if_pos g]; exact wp_some rfl
  rw [if_neg g3]
  obtain ⟨y, hy, rfl⟩ := wi_nat 19 (by decide) g1
  obtain ⟨c, k, hc, hk, rfl, rfl⟩ := pl_nat g2
  rw [cl (show y < 2 ^ 31 by omega), cl (show c < 2 ^ 31 by omega), cl (show k < 2 ^ 31 by omega), e8n]
  exact wp_bind (k_m_atOf hK (by omega) (by omega) hm) (fun o ho => wp_some ho.1)
theorem k_m_columnOf {K : Kt} (hK : Kok K) {v_courses : Int32} {v_wide : Int32} {v_hands : Int32} {v_jumpTold : Int32} {v_frosts : Int32} {v_gaps : Int32} {v_frostsNow : Int32} {v_notFrosts : Int32} {v_gapsNow : Int32} {v_fell : Int32} {v_fellAll : Int32} {v_sheepFirst : Int32} {v_sheepMany : Int32} {v_typed : Nat → Int32} {v_texts : Nat → Int32} {v_told : Nat → Int32} {v_moods : Nat → Int32} {v_strongs : Nat → Int32} {v_frostYear : Nat → Int32} {v_frostForce : Nat → Int32} {v_gapYear : Nat → Int32} {v_gapColumn : Nat → Int32} {v_gapHand : Nat → Int32} {v_wall : Nat → Int32} {v_yearNow : Nat → Int32} {v_forceNow : Nat → Int32} {v_holdNow : Nat → Int32} {v_fellOf : Nat → Int32} {v_handAt : Nat → Int32} {v_holdAt : Nat → Int32} {v_fallsAt : Nat → Int32} {v_standAt : Nat → Int32} {v_highAt : Nat → Int32} {v_throughAt : Nat → Int32} {a2 : Int32} {y c : Nat} (hy : y < 20) (hc : c < SW (SK K)) (hm : MP K v_typed v_texts v_jumpTold v_frosts v_frostYear v_frostForce v_gaps v_gapYear v_gapColumn v_gapHand) : wp (f_m_columnOf v_courses v_wide v_hands v_jumpTold v_frosts v_gaps v_frostsNow v_notFrosts v_gapsNow v_fell v_fellAll v_sheepFirst v_sheepMany v_typed v_texts v_told v_moods v_strongs v_frostYear v_frostForce v_gapYear v_gapColumn v_gapHand v_wall v_yearNow v_forceNow v_holdNow v_fellOf v_handAt v_holdAt v_fallsAt v_standAt v_highAt v_throughAt (nI y) (nI c) a2) (fun r => r.1 = vCol (SK K) y c a2 ∧ RK K r.2.1 r.2.2.1 r.2.2.2.1 r.2.2.2.2.2.2.2.2.2.2.2.1 r.2.2.2.2.2.2.2.2.2.2.2.2.1 r.2.2.2.2.2.2.2.2.2.2.2.2.2.1) := by
  have hW := (SK_ok hK).1.2.2.2.2.2.2.2.1
  unfold f_m_columnOf vCol
  refine wp_bind (k_m_runsTold hK hm) (fun o ho => ?_)
  have hk := (ho.2.2.2.2.2.2 y hy).2.2.2 c hc
  rw [e8n]
  refine wp_ite (fun g => ?_) (fun g => ?_)
  · rw [if_pos g]
    refine wp_gd (inbN (by omega) (by decide)) (wp_some ⟨?_, ho.1⟩)
    rw [cl (show 8 * y + c < 2 ^ 31 by omega)]
    exact hk.1
  · rw [if_neg g]
    refine wp_gd (inbN (by omega) (by decide)) ?_
    rw [cl (show 8 * y + c < 2 ^ 31 by omega), hk.2]
    cases thr (Sn (SK K)) (Smd (SK K)) (Sj (SK K)) (wsY (SK K) (y + 1)) c with
    | true => exact wp_neg (by decide) (wp_some ⟨rfl, ho.1⟩)
    | false => exact wp_pos rfl (wp_some ⟨rfl, ho.1⟩)
theorem k_m_column {K : Kt} (hK : Kok K) {v_courses : Int32} {v_wide : Int32} {v_hands : Int32} {v_jumpTold : Int32} {v_frosts : Int32} {v_gaps : Int32} {v_frostsNow : Int32} {v_notFrosts : Int32} {v_gapsNow : Int32} {v_fell : Int32} {v_fellAll : Int32} {v_sheepFirst : Int32} {v_sheepMany : Int32} {v_typed : Nat → Int32} {v_texts : Nat → Int32} {v_told : Nat → Int32} {v_moods : Nat → Int32} {v_strongs : Nat → Int32} {v_frostYear : Nat → Int32} {v_frostForce : Nat → Int32} {v_gapYear : Nat → Int32} {v_gapColumn : Nat → Int32} {v_gapHand : Nat → Int32} {v_wall : Nat → Int32} {v_yearNow : Nat → Int32} {v_forceNow : Nat → Int32} {v_holdNow : Nat → Int32} {v_fellOf : Nat → Int32} {v_handAt : Nat → Int32} {v_holdAt : Nat → Int32} {v_fallsAt : Nat → Int32} {v_standAt : Nat → Int32} {v_highAt : Nat → Int32} {v_throughAt : Nat → Int32} {a0 : Int32} {a1 : Int32} {a2 : Int32} (hm : MP K v_typed v_texts v_jumpTold v_frosts v_frostYear v_frostForce v_gaps v_gapYear v_gapColumn v_gapHand) : wp (f_m_column v_courses v_wide v_hands v_jumpTold v_frosts v_gaps v_frostsNow v_notFrosts v_gapsNow v_fell v_fellAll v_sheepFirst v_sheepMany v_typed v_texts v_told v_moods v_strongs v_frostYear v_frostForce v_gapYear v_gapColumn v_gapHand v_wall v_yearNow v_forceNow v_holdNow v_fellOf v_handAt v_holdAt v_fallsAt v_standAt v_highAt v_throughAt a0 a1 a2) (fun r => r.1 = A_column (SK K) a0 a1 a2) := by
  have hW := (SK_ok hK).1.2.2.2.2.2.2.2.1
  unfold f_m_column A_column
  refine wp_bindE (q_m_isYear a0) (wp_ite (fun g => ?_) (fun g1 => ?_))
  · rw [if_pos g]; exact wp_some rfl
  rw [if_neg g1]
  unfold f_m_isColumn
  refine wp_bind (wp_bind (Q := fun r => r.1 = wi a1 0 (nI (SW (SK K)) - 1)) (k_m_reads hK hm.1.1 hm.1.2) (fun o ho => ?_)) (fun o ho => ?_)
  · refine wp_bindE (s_in a1 0 _) (wp_gd (isB_wi _ _ _) (wp_some ?_))
    show wi a1 0 (_ - 1) = _
    rw [ho.2.1]
    rfl
  rw [ho]
  refine wp_ite (fun g => ?_) (fun g2 => ?_)
  · rw [if_pos g]; exact wp_some rfl
  rw [if_neg g2]
  refine wp_bindE (s_in a2 0 1) (wp_ite (fun g => ?_) (fun g3 => ?_))
  · rw [if_pos g]; exact wp_some rfl
  rw [if_neg g3]
  obtain ⟨y, hy, rfl⟩ := wi_nat 19 (by decide) g1
  obtain ⟨c, hc, rfl⟩ := wi_m1 (by omega) g2
  rw [cl (show y < 2 ^ 31 by omega), cl (show c < 2 ^ 31 by omega)]
  exact wp_bind (k_m_columnOf hK (by omega) hc hm) (fun o ho => wp_some ho.1)
theorem k_m_fallsOf {K : Kt} (hK : Kok K) {v_courses : Int32} {v_wide : Int32} {v_hands : Int32} {v_jumpTold : Int32} {v_frosts : Int32} {v_gaps : Int32} {v_frostsNow : Int32} {v_notFrosts : Int32} {v_gapsNow : Int32} {v_fell : Int32} {v_fellAll : Int32} {v_sheepFirst : Int32} {v_sheepMany : Int32} {v_typed : Nat → Int32} {v_texts : Nat → Int32} {v_told : Nat → Int32} {v_moods : Nat → Int32} {v_strongs : Nat → Int32} {v_frostYear : Nat → Int32} {v_frostForce : Nat → Int32} {v_gapYear : Nat → Int32} {v_gapColumn : Nat → Int32} {v_gapHand : Nat → Int32} {v_wall : Nat → Int32} {v_yearNow : Nat → Int32} {v_forceNow : Nat → Int32} {v_holdNow : Nat → Int32} {v_fellOf : Nat → Int32} {v_handAt : Nat → Int32} {v_holdAt : Nat → Int32} {v_fallsAt : Nat → Int32} {v_standAt : Nat → Int32} {v_highAt : Nat → Int32} {v_throughAt : Nat → Int32} {y : Nat} (hy : y < 20) (hm : MP K v_typed v_texts v_jumpTold v_frosts v_frostYear v_frostForce v_gaps v_gapYear v_gapColumn v_gapHand) : wp (f_m_fallsOf v_courses v_wide v_hands v_jumpTold v_frosts v_gaps v_frostsNow v_notFrosts v_gapsNow v_fell v_fellAll v_sheepFirst v_sheepMany v_typed v_texts v_told v_moods v_strongs v_frostYear v_frostForce v_gapYear v_gapColumn v_gapHand v_wall v_yearNow v_forceNow v_holdNow v_fellOf v_handAt v_holdAt v_fallsAt v_standAt v_highAt v_throughAt (nI y)) (fun r => r.1 = nI (feY (SK K) y) ∧ RK K r.2.1 r.2.2.1 r.2.2.2.1 r.2.2.2.2.2.2.2.2.2.2.2.1 r.2.2.2.2.2.2.2.2.2.2.2.2.1 r.2.2.2.2.2.2.2.2.2.2.2.2.2.1) := by
  unfold f_m_fallsOf
  refine wp_bind (k_m_runsTold hK hm) (fun o ho => ?_)
  refine wp_gd (inbN (by omega) (by decide)) (wp_some ⟨?_, ho.1⟩)
  rw [cl (show y < 2 ^ 31 by omega)]
  exact (ho.2.2.2.2.2.2 y hy).2.1
theorem k_m_falls {K : Kt} (hK : Kok K) {v_courses : Int32} {v_wide : Int32} {v_hands : Int32} {v_jumpTold : Int32} {v_frosts : Int32} {v_gaps : Int32} {v_frostsNow : Int32} {v_notFrosts : Int32} {v_gapsNow : Int32} {v_fell : Int32} {v_fellAll : Int32} {v_sheepFirst : Int32} {v_sheepMany : Int32} {v_typed : Nat → Int32} {v_texts : Nat → Int32} {v_told : Nat → Int32} {v_moods : Nat → Int32} {v_strongs : Nat → Int32} {v_frostYear : Nat → Int32} {v_frostForce : Nat → Int32} {v_gapYear : Nat → Int32} {v_gapColumn : Nat → Int32} {v_gapHand : Nat → Int32} {v_wall : Nat → Int32} {v_yearNow : Nat → Int32} {v_forceNow : Nat → Int32} {v_holdNow : Nat → Int32} {v_fellOf : Nat → Int32} {v_handAt : Nat → Int32} {v_holdAt : Nat → Int32} {v_fallsAt : Nat → Int32} {v_standAt : Nat → Int32} {v_highAt : Nat → Int32} {v_throughAt : Nat → Int32} {a0 : Int32} (hm : MP K v_typed v_texts v_jumpTold v_frosts v_frostYear v_frostForce v_gaps v_gapYear v_gapColumn v_gapHand) : wp (f_m_falls v_courses v_wide v_hands v_jumpTold v_frosts v_gaps v_frostsNow v_notFrosts v_gapsNow v_fell v_fellAll v_sheepFirst v_sheepMany v_typed v_texts v_told v_moods v_strongs v_frostYear v_frostForce v_gapYear v_gapColumn v_gapHand v_wall v_yearNow v_forceNow v_holdNow v_fellOf v_handAt v_holdAt v_fallsAt v_standAt v_highAt v_throughAt a0) (fun r => r.1 = A_falls (SK K) a0) := by
  unfold f_m_falls A_falls
  refine wp_bindE (q_m_isYear a0) (wp_ite (fun g => ?_) (fun g1 => ?_))
  · rw [if_pos g]; exact wp_some rfl
  rw [if_neg g1]
  obtain ⟨y, hy, rfl⟩ := wi_nat 19 (by decide) g1
  rw [cl (show y < 2 ^ 31 by omega)]
  exact wp_bind (k_m_fallsOf hK (by omega) hm) (fun o ho => wp_some ho.1)
theorem k_m_sheepOf {K : Kt} (hK : Kok K) {v_courses : Int32} {v_wide : Int32} {v_hands : Int32} {v_jumpTold : Int32} {v_frosts : Int32} {v_gaps : Int32} {v_frostsNow : Int32} {v_notFrosts : Int32} {v_gapsNow : Int32} {v_fell : Int32} {v_fellAll : Int32} {v_sheepFirst : Int32} {v_sheepMany : Int32} {v_typed : Nat → Int32} {v_texts : Nat → Int32} {v_told : Nat → Int32} {v_moods : Nat → Int32} {v_strongs : Nat → Int32} {v_frostYear : Nat → Int32} {v_frostForce : Nat → Int32} {v_gapYear : Nat → Int32} {v_gapColumn : Nat → Int32} {v_gapHand : Nat → Int32} {v_wall : Nat → Int32} {v_yearNow : Nat → Int32} {v_forceNow : Nat → Int32} {v_holdNow : Nat → Int32} {v_fellOf : Nat → Int32} {v_handAt : Nat → Int32} {v_holdAt : Nat → Int32} {v_fallsAt : Nat → Int32} {v_standAt : Nat → Int32} {v_highAt : Nat → Int32} {v_throughAt : Nat → Int32} {a0 : Int32} (hm : MP K v_typed v_texts v_jumpTold v_frosts v_frostYear v_frostForce v_gaps v_gapYear v_gapColumn v_gapHand) : wp (f_m_sheepOf v_courses v_wide v_hands v_jumpTold v_frosts v_gaps v_frostsNow v_notFrosts v_gapsNow v_fell v_fellAll v_sheepFirst v_sheepMany v_typed v_texts v_told v_moods v_strongs v_frostYear v_frostForce v_gapYear v_gapColumn v_gapHand v_wall v_yearNow v_forceNow v_holdNow v_fellOf v_handAt v_holdAt v_fallsAt v_standAt v_highAt v_throughAt a0) (fun r => r.1 = vSheep (SK K) a0 ∧ RK K r.2.1 r.2.2.1 r.2.2.2.1 r.2.2.2.2.2.2.2.2.2.2.2.1 r.2.2.2.2.2.2.2.2.2.2.2.2.1 r.2.2.2.2.2.2.2.2.2.2.2.2.2.1) := by
  unfold f_m_sheepOf vSheep
  refine wp_bind (k_m_runsTold hK hm) (fun o ho => ?_)
  refine wp_ite (fun g => ?_) (fun g => ?_)
  · rw [if_pos g]; exact wp_some ⟨ho.2.2.1, ho.1⟩
  · rw [if_neg g]; exact wp_some ⟨ho.2.2.2.1, ho.1⟩
theorem k_m_sheep {K : Kt} (hK : Kok K) {v_courses : Int32} {v_wide : Int32} {v_hands : Int32} {v_jumpTold : Int32} {v_frosts : Int32} {v_gaps : Int32} {v_frostsNow : Int32} {v_notFrosts : Int32} {v_gapsNow : Int32} {v_fell : Int32} {v_fellAll : Int32} {v_sheepFirst : Int32} {v_sheepMany : Int32} {v_typed : Nat → Int32} {v_texts : Nat → Int32} {v_told : Nat → Int32} {v_moods : Nat → Int32} {v_strongs : Nat → Int32} {v_frostYear : Nat → Int32} {v_frostForce : Nat → Int32} {v_gapYear : Nat → Int32} {v_gapColumn : Nat → Int32} {v_gapHand : Nat → Int32} {v_wall : Nat → Int32} {v_yearNow : Nat → Int32} {v_forceNow : Nat → Int32} {v_holdNow : Nat → Int32} {v_fellOf : Nat → Int32} {v_handAt : Nat → Int32} {v_holdAt : Nat → Int32} {v_fallsAt : Nat → Int32} {v_standAt : Nat → Int32} {v_highAt : Nat → Int32} {v_throughAt : Nat → Int32} {a0 : Int32} (hm : MP K v_typed v_texts v_jumpTold v_frosts v_frostYear v_frostForce v_gaps v_gapYear v_gapColumn v_gapHand) : wp (f_m_sheep v_courses v_wide v_hands v_jumpTold v_frosts v_gaps v_frostsNow v_notFrosts v_gapsNow v_fell v_fellAll v_sheepFirst v_sheepMany v_typed v_texts v_told v_moods v_strongs v_frostYear v_frostForce v_gapYear v_gapColumn v_gapHand v_wall v_yearNow v_forceNow v_holdNow v_fellOf v_handAt v_holdAt v_fallsAt v_standAt v_highAt v_throughAt a0) (fun r => r.1 = A_sheep (SK K) a0) := by
  unfold f_m_sheep A_sheep
  refine wp_bindE (s_in a0 0 1) (wp_ite (fun g => ?_) (fun g1 => ?_))
  · rw [if_pos g]; exact wp_some rfl
  rw [if_neg g1]
  exact wp_bind (k_m_sheepOf hK hm) (fun o ho => wp_some ho.1)
theorem k_m_mineOf {K : Kt} (hK : Kok K) {v_courses : Int32} {v_wide : Int32} {v_hands : Int32} {v_jumpTold : Int32} {v_frosts : Int32} {v_gaps : Int32} {v_frostsNow : Int32} {v_notFrosts : Int32} {v_gapsNow : Int32} {v_fell : Int32} {v_fellAll : Int32} {v_sheepFirst : Int32} {v_sheepMany : Int32} {v_typed : Nat → Int32} {v_texts : Nat → Int32} {v_told : Nat → Int32} {v_moods : Nat → Int32} {v_strongs : Nat → Int32} {v_frostYear : Nat → Int32} {v_frostForce : Nat → Int32} {v_gapYear : Nat → Int32} {v_gapColumn : Nat → Int32} {v_gapHand : Nat → Int32} {v_wall : Nat → Int32} {v_yearNow : Nat → Int32} {v_forceNow : Nat → Int32} {v_holdNow : Nat → Int32} {v_fellOf : Nat → Int32} {v_handAt : Nat → Int32} {v_holdAt : Nat → Int32} {v_fallsAt : Nat → Int32} {v_standAt : Nat → Int32} {v_highAt : Nat → Int32} {v_throughAt : Nat → Int32} {h : Nat} (hh : h < 8) (hm : MP K v_typed v_texts v_jumpTold v_frosts v_frostYear v_frostForce v_gaps v_gapYear v_gapColumn v_gapHand) : wp (f_m_mineOf v_courses v_wide v_hands v_jumpTold v_frosts v_gaps v_frostsNow v_notFrosts v_gapsNow v_fell v_fellAll v_sheepFirst v_sheepMany v_typed v_texts v_told v_moods v_strongs v_frostYear v_frostForce v_gapYear v_gapColumn v_gapHand v_wall v_yearNow v_forceNow v_holdNow v_fellOf v_handAt v_holdAt v_fallsAt v_standAt v_highAt v_throughAt (nI h)) (fun r => r.1 = nI (vMine (SK K) h) ∧ RK K r.2.1 r.2.2.1 r.2.2.2.1 r.2.2.2.2.2.2.2.2.2.2.2.1 r.2.2.2.2.2.2.2.2.2.2.2.2.1 r.2.2.2.2.2.2.2.2.2.2.2.2.2.1) := by
  unfold f_m_mineOf
  refine wp_bind (k_m_runsTold hK hm) (fun o ho => ?_)
  exact wp_bindE (k_m_mineNow (S := SK K) (fun p hp => ((ho.2.2.2.2.2.2 19 (by decide)).1 p hp).1) hh) (wp_some ⟨rfl, ho.1⟩)
theorem k_m_mine {K : Kt} (hK : Kok K) {v_courses : Int32} {v_wide : Int32} {v_hands : Int32} {v_jumpTold : Int32} {v_frosts : Int32} {v_gaps : Int32} {v_frostsNow : Int32} {v_notFrosts : Int32} {v_gapsNow : Int32} {v_fell : Int32} {v_fellAll : Int32} {v_sheepFirst : Int32} {v_sheepMany : Int32} {v_typed : Nat → Int32} {v_texts : Nat → Int32} {v_told : Nat → Int32} {v_moods : Nat → Int32} {v_strongs : Nat → Int32} {v_frostYear : Nat → Int32} {v_frostForce : Nat → Int32} {v_gapYear : Nat → Int32} {v_gapColumn : Nat → Int32} {v_gapHand : Nat → Int32} {v_wall : Nat → Int32} {v_yearNow : Nat → Int32} {v_forceNow : Nat → Int32} {v_holdNow : Nat → Int32} {v_fellOf : Nat → Int32} {v_handAt : Nat → Int32} {v_holdAt : Nat → Int32} {v_fallsAt : Nat → Int32} {v_standAt : Nat → Int32} {v_highAt : Nat → Int32} {v_throughAt : Nat → Int32} {a0 : Int32} (hm : MP K v_typed v_texts v_jumpTold v_frosts v_frostYear v_frostForce v_gaps v_gapYear v_gapColumn v_gapHand) : wp (f_m_mine v_courses v_wide v_hands v_jumpTold v_frosts v_gaps v_frostsNow v_notFrosts v_gapsNow v_fell v_fellAll v_sheepFirst v_sheepMany v_typed v_texts v_told v_moods v_strongs v_frostYear v_frostForce v_gapYear v_gapColumn v_gapHand v_wall v_yearNow v_forceNow v_holdNow v_fellOf v_handAt v_holdAt v_fallsAt v_standAt v_highAt v_throughAt a0) (fun r => r.1 = A_mine (SK K) a0) := by
  unfold f_m_mine A_mine
  refine wp_bindE (q_m_isEight a0) (wp_ite (fun g => ?_) (fun g1 => ?_))
  · rw [if_pos g]; exact wp_some rfl
  rw [if_neg g1]
  obtain ⟨h, hh, rfl⟩ := wi_nat 7 (by decide) g1
  rw [cl (show h < 2 ^ 31 by omega)]
  exact wp_bind (k_m_mineOf hK (by omega) hm) (fun o ho => wp_some ho.1)
theorem k_m_bestNow {K : Kt} (hK : Kok K) {v_courses : Int32} {v_wide : Int32} {v_hands : Int32} {v_jumpTold : Int32} {v_frosts : Int32} {v_gaps : Int32} {v_frostsNow : Int32} {v_notFrosts : Int32} {v_gapsNow : Int32} {v_fell : Int32} {v_fellAll : Int32} {v_sheepFirst : Int32} {v_sheepMany : Int32} {v_typed : Nat → Int32} {v_texts : Nat → Int32} {v_told : Nat → Int32} {v_moods : Nat → Int32} {v_strongs : Nat → Int32} {v_frostYear : Nat → Int32} {v_frostForce : Nat → Int32} {v_gapYear : Nat → Int32} {v_gapColumn : Nat → Int32} {v_gapHand : Nat → Int32} {v_wall : Nat → Int32} {v_yearNow : Nat → Int32} {v_forceNow : Nat → Int32} {v_holdNow : Nat → Int32} {v_fellOf : Nat → Int32} {v_handAt : Nat → Int32} {v_holdAt : Nat → Int32} {v_fallsAt : Nat → Int32} {v_standAt : Nat → Int32} {v_highAt : Nat → Int32} {v_throughAt : Nat → Int32} (hm : MP K v_typed v_texts v_jumpTold v_frosts v_frostYear v_frostForce v_gaps v_gapYear v_gapColumn v_gapHand) : wp (f_m_bestNow v_courses v_wide v_hands v_jumpTold v_frosts v_gaps v_frostsNow v_notFrosts v_gapsNow v_fell v_fellAll v_sheepFirst v_sheepMany v_typed v_texts v_told v_moods v_strongs v_frostYear v_frostForce v_gapYear v_gapColumn v_gapHand v_wall v_yearNow v_forceNow v_holdNow v_fellOf v_handAt v_holdAt v_fallsAt v_standAt v_highAt v_throughAt) (fun r => r.1 = (bst (vMine (SK K)) 8).1 ∧ RK K r.2.1 r.2.2.1 r.2.2.2.1 r.2.2.2.2.2.2.2.2.2.2.2.1 r.2.2.2.2.2.2.2.2.2.2.2.2.1 r.2.2.2.2.2.2.2.2.2.2.2.2.2.1) := by
  unfold f_m_bestNow
  refine wp_bind (k_m_runsTold hK hm) (fun o ho => ?_)
  refine wl_m_bestNow_N10 (fun m v_courses v_wide v_hands v_frostsNow v_notFrosts v_gapsNow v_fell v_fellAll v_sheepFirst v_sheepMany v_told v_moods v_strongs v_wall v_yearNow v_forceNow v_holdNow v_fellOf v_handAt v_holdAt v_fallsAt v_standAt v_highAt v_throughAt x1 x2 x3 => RK K v_courses v_wide v_hands v_told v_moods v_strongs ∧ (∀ p, p < 40 → v_handAt (760 + p) = wsY (SK K) 20 p) ∧ ∃ k, k ≤ 8 ∧ x3 = nI k ∧ m = 8 - k ∧ x1 = (bst (vMine (SK K)) k).1 ∧ x2 = nI (bst (vMine (SK K)) k).2) ?_ 1000 8 _ _ _ _ _ _ _ _ _ _ _ _ _ _ _ _ _ _ _ _ _ _ _ _ _ _ _ (by decide) ⟨ho.1, (fun p hp => ((ho.2.2.2.2.2.2 19 (by decide)).1 p hp).1), 0, by decide, rfl, rfl, rfl, rfl⟩
  rintro m k10 ih v_courses v_wide v_hands v_frostsNow v_notFrosts v_gapsNow v_fell v_fellAll v_sheepFirst v_sheepMany v_told v_moods v_strongs v_wall v_yearNow v_forceNow v_holdNow v_fellOf v_handAt v_holdAt v_fallsAt v_standAt v_highAt v_throughAt x1 x2 x3 ⟨hR, hA, k, hk, rfl, rfl, rfl, rfl⟩
  unfold f_m_bestNow_N10
  have hb := bst_le (vMine_le (SK K)) k
  have hm := vMine_le (SK K) k
  refine wp_ite (fun g => ?_) (fun g => ?_)
  · have g' := (nI_leX (a := 8) (b := k) (by decide) (by omega)).mp g
    have e : k = 8 := by omega
    subst e
    exact wp_some ⟨rfl, hR⟩
  · have g' : ¬ 8 ≤ k := fun q => g ((nI_leX (a := 8) (b := k) (by decide) (by omega)).mpr q)
    have e1 : nI k + 1 = nI (k + 1) := (nI_succ k).symm
    refine wp_bindE (k_m_mineNow hA (by omega)) ?_
    refine wp_ite (fun g1 => ?_) (fun g1 => ?_)
    · have g2 : vMine (SK K) k ≤ (bst (vMine (SK K)) k).2 := (nI_leX (by omega) (by omega)).mp g1
      unfold f_m_bestNow_N34
      rw [e1]
      refine wp_pos g1 ?_
      exact ih (8 - (k + 1)) _ _ _ _ _ _ _ _ _ _ _ _ _ _ _ _ _ _ _ _ _ _ _ _ _ _ _ (by omega) ⟨hR, hA, k + 1, by omega, rfl, rfl, by rw [bst_s, if_pos g2], by rw [bst_s, if_pos g2]⟩
    · have g2 : ¬ vMine (SK K) k ≤ (bst (vMine (SK K)) k).2 := fun q => g1 ((nI_leX (a := vMine (SK K) k) (by omega) (by omega)).mpr q)
      unfold f_m_bestNow_N34
      rw [e1]
      refine wp_neg g1 ?_
      exact ih (8 - (k + 1)) _ _ _ _ _ _ _ _ _ _ _ _ _ _ _ _ _ _ _ _ _ _ _ _ _ _ _ (by omega) ⟨hR, hA, k + 1, by omega, rfl, rfl, by rw [bst_s, if_neg g2], by rw [bst_s, if_neg g2]⟩
theorem k_m_best {K : Kt} (hK : Kok K) {v_courses : Int32} {v_wide : Int32} {v_hands : Int32} {v_jumpTold : Int32} {v_frosts : Int32} {v_gaps : Int32} {v_frostsNow : Int32} {v_notFrosts : Int32} {v_gapsNow : Int32} {v_fell : Int32} {v_fellAll : Int32} {v_sheepFirst : Int32} {v_sheepMany : Int32} {v_typed : Nat → Int32} {v_texts : Nat → Int32} {v_told : Nat → Int32} {v_moods : Nat → Int32} {v_strongs : Nat → Int32} {v_frostYear : Nat → Int32} {v_frostForce : Nat → Int32} {v_gapYear : Nat → Int32} {v_gapColumn : Nat → Int32} {v_gapHand : Nat → Int32} {v_wall : Nat → Int32} {v_yearNow : Nat → Int32} {v_forceNow : Nat → Int32} {v_holdNow : Nat → Int32} {v_fellOf : Nat → Int32} {v_handAt : Nat → Int32} {v_holdAt : Nat → Int32} {v_fallsAt : Nat → Int32} {v_standAt : Nat → Int32} {v_highAt : Nat → Int32} {v_throughAt : Nat → Int32} (hm : MP K v_typed v_texts v_jumpTold v_frosts v_frostYear v_frostForce v_gaps v_gapYear v_gapColumn v_gapHand) : wp (f_m_best v_courses v_wide v_hands v_jumpTold v_frosts v_gaps v_frostsNow v_notFrosts v_gapsNow v_fell v_fellAll v_sheepFirst v_sheepMany v_typed v_texts v_told v_moods v_strongs v_frostYear v_frostForce v_gapYear v_gapColumn v_gapHand v_wall v_yearNow v_forceNow v_holdNow v_fellOf v_handAt v_holdAt v_fallsAt v_standAt v_highAt v_throughAt) (fun r => r.1 = (bst (vMine (SK K)) 8).1) := by
  unfold f_m_best
  exact wp_bind (k_m_bestNow hK hm) (fun o ho => wp_some ho.1)
