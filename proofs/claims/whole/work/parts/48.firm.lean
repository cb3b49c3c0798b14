/-! HOW MANY CAN FALL; FIRM, both sides -/
theorem ad_le {a b c d : Nat} (h : a ≤ c + 40 * d) (hb : b ≤ 40) : a + b ≤ c + 40 * (d + 1) := by omega
theorem fall_b {t : Ys} {s : Nat → Bool} {a b k h : Nat} (h1 : t.2.1 ≤ a + 40 * k) (h2 : t.2.2.1 h ≤ b + 40 * k) (_ : True) : (fall t s).2.1 ≤ a + 40 * (k + 1) ∧ (fall t s).2.2.1 h ≤ b + 40 * (k + 1) := ⟨ad_le h1 (bct_le _ 40), ad_le h2 (bct_le _ 40)⟩
theorem frs_b (n : Nat) (mood strong fy ff : Nat → Int32) (ab y : Int32) (t0 : Ys) (h : Nat) : ∀ k, (frs n mood strong fy ff ab y t0 k).2.1 ≤ t0.2.1 + 40 * k ∧ (frs n mood strong fy ff ab y t0 k).2.2.1 h ≤ t0.2.2.1 h + 40 * k
  | 0 => ⟨Nat.le_refl _, Nat.le_refl _⟩
  | k + 1 => by
    have ih := frs_b n mood strong fy ff ab y t0 h k
    show (if fy k = y ∧ bt ab k = false then fall (frs n mood strong fy ff ab y t0 k) (borne (okF n mood strong (frs n mood strong fy ff ab y t0 k).1 (ff k))) else frs n mood strong fy ff ab y t0 k).2.1 ≤ _ ∧ (if fy k = y ∧ bt ab k = false then fall (frs n mood strong fy ff ab y t0 k) (borne (okF n mood strong (frs n mood strong fy ff ab y t0 k).1 (ff k))) else frs n mood strong fy ff ab y t0 k).2.2.1 h ≤ _
    revert ih
    generalize frs n mood strong fy ff ab y t0 k = t
    intro ih
    by_cases e : fy k = y ∧ bt ab k = false
    · rw [if_pos e]
      exact fall_b ih.1 ih.2 trivial
    · rw [if_neg e]
      exact ⟨Nat.le_trans ih.1 (by omega), Nat.le_trans ih.2 (by omega)⟩
theorem frY_b (n : Nat) (mood strong : Nat → Int32) (fn : Nat) (fy ff : Nat → Int32) (ab y : Int32) (t0 : Ys) (h : Nat) : (frY n mood strong fn fy ff ab y t0).2.1 ≤ t0.2.1 + 40 * (fn + 1) ∧ (frY n mood strong fn fy ff ab y t0).2.2.1 h ≤ t0.2.2.1 h + 40 * (fn + 1) := by
  unfold frY
  have ih := frs_b n mood strong fy ff ab y t0 h fn
  revert ih
  generalize frs n mood strong fy ff ab y t0 fn = t
  intro ih
  by_cases e : t.2.2.2 = true
  · rw [if_pos e]; exact ⟨Nat.le_trans ih.1 (by omega), Nat.le_trans ih.2 (by omega)⟩
  · rw [if_neg e]
    exact fall_b ih.1 ih.2 trivial
theorem rs_ar {a y f : Nat} (h : a ≤ 280 * y) (hf : f ≤ 6) : a + 40 * (f + 1) ≤ 280 * (y + 1) := by omega
theorem rs_b {S : Sit} (hf : Sfn S ≤ 6) (h : Nat) : ∀ y, (rs S y).2 h ≤ 280 * y
  | 0 => Nat.le_refl _
  | y + 1 => by
    have ih := rs_b hf h y
    have := (frY_b (Sn S) (Smd S) (Sst S) (Sfn S) (Sfy S) (Sff S) (Sab S) (nI y) ((rs S y).1, 0, (rs S y).2, false) h).2
    show (frY (Sn S) (Smd S) (Sst S) (Sfn S) (Sfy S) (Sff S) (Sab S) (nI y) ((rs S y).1, 0, (rs S y).2, false)).2.2.1 h ≤ _
    exact Nat.le_trans this (rs_ar ih hf)
theorem feY_b {S : Sit} (hf : Sfn S ≤ 6) (y : Nat) : feY S y ≤ 280 := by
  have := (frY_b (Sn S) (Smd S) (Sst S) (Sfn S) (Sfy S) (Sff S) (Sab S) (nI y) ((rs S y).1, 0, (rs S y).2, false) 0).1
  have h2 : 0 + 40 * (Sfn S + 1) ≤ 280 := by omega
  exact Nat.le_trans this h2
theorem feS_b {S : Sit} (hf : Sfn S ≤ 6) : ∀ y, feS S y ≤ 280 * y
  | 0 => Nat.le_refl _
  | y + 1 => by
    have ih := feS_b hf y
    exact Nat.le_trans (Nat.add_le_add ih (feY_b hf y)) (by omega)
theorem rs_lt {S : Sit} (hS : Sok S) (h : Nat) : (rs S 20).2 h < 2 ^ 31 := by
  exact Nat.lt_of_le_of_lt (rs_b hS.2.2.1 h 20) (by decide)
def frm (f : Nat → Bool) : Nat → Int32
  | 0 => -1
  | k + 1 => if frm f k = -1 then (if f (k + 1) then nI (k + 1) else -1) else frm f k
theorem frm_s (f : Nat → Bool) (k : Nat) : frm f (k + 1) = if frm f k = -1 then (if f (k + 1) then nI (k + 1) else -1) else frm f k := rfl
theorem frm_keep {f : Nat → Bool} {k : Nat} (h : ¬ frm f k = -1) : ∀ d, frm f (k + d) = frm f k
  | 0 => rfl
  | d + 1 => by
    have ih := frm_keep h d
    show (if frm f (k + d) = -1 then _ else frm f (k + d)) = _
    rw [ih, if_neg h]
def fFirm (S : Sit) (h v : Nat) : Bool := decide ((rs (wSt S (upd (Sst S) h (nI v))) 20).2 h = 0)
def vFirm (S : Sit) (h : Nat) : Int32 := frm (fFirm S h) 9
def A_firm (S : Sit) (a0 : Int32) : Int32 := if wi a0 0 (nI (Sn S) - 1) = 0 then -2 else vFirm S a0.toNatClampNeg
theorem CIh_own {S : Sit} {n : Int32} {mood strong : Nat → Int32} (hh : CIh S n mood strong) (h : Nat) (hlt : h < Sn S) : CIh S n mood (upd strong h (Sst S h)) := ⟨hh.1, fun k hk => ⟨(hh.2 k hk).1, by
  rw [upd_at]
  by_cases e : k = h
  · rw [if_pos e, e]
  · rw [if_neg e]; exact (hh.2 k hk).2⟩⟩
theorem CIh_st {S : Sit} {n : Int32} {mood strong : Nat → Int32} {h : Nat} {c : Int32} (hh : CIh S n mood (upd strong h c)) (v : Int32) : CIh (wSt S (upd (Sst S) h v)) n mood (upd strong h v) := ⟨hh.1, fun k hk => ⟨(hh.2 k hk).1, by
  show upd strong h v k = upd (Sst S) h v k
  have e2 : upd strong h c k = Sst S k := (hh.2 k hk).2
  rw [upd_at] at e2
  rw [upd_at, upd_at]
  by_cases e : k = h
  · rw [if_pos e, if_pos e]
  · rw [if_neg e] at e2; rw [if_neg e, if_neg e]; exact e2⟩⟩
theorem CIh_re {S : Sit} {n : Int32} {mood strong : Nat → Int32} {h : Nat} {c : Int32} (hh : CIh S n mood (upd strong h c)) (v : Int32) : CIh S n mood (upd (upd strong h v) h c) := ⟨hh.1, fun k hk => ⟨(hh.2 k hk).1, by
  have e2 : upd strong h c k = Sst S k := (hh.2 k hk).2
  rw [upd_at] at e2
  rw [upd_at, upd_at]
  by_cases e : k = h
  · rw [if_pos e] at e2; rw [if_pos e]; exact e2
  · rw [if_neg e] at e2; rw [if_neg e, if_neg e]; exact e2⟩⟩
theorem wSt_okv {S : Sit} (hS : Sok S) (h : Nat) {v : Nat} (hv : v ≤ 9) : Sok (wSt S (upd (Sst S) h (nI v))) := by
  refine wSt_ok hS (fun k hk => ?_)
  rw [upd_at]
  by_cases e : k = h
  · rw [if_pos e, nI_toInt (by omega)]; omega
  · rw [if_neg e]; exact hS.2.1 k hk
theorem k_runw {S : Sit} (hS : Sok S) (hA : Sab S = 0) {courses columns jump : Int32} {st : Nat → Int64} (hw : CIw S courses columns jump st) {hn : Int32} {mood strong : Nat → Int32} (hh : CIh S hn mood strong) {fn : Int32} {fy ff : Nat → Int32} (hf : CIf S fn fy ff) {gn : Int32} {gy gc gh : Nat → Int32} (hg : CIg S gn gy gc gh) (all0 : Int64) (losers0 : Int32) (now0 stones0 standing0 : Nat → Int64) (open0 fallen0 : Nat → Int32) : wp (f_ys_run all0 losers0 courses columns jump st hn mood strong gn gy gc gh now0 stones0 standing0 open0 fallen0 fn fy ff 0) (fun r => RunC S r.2.1 r.2.2.2.1 r.2.2.2.2.1 r.2.2.2.2.2.1 r.2.2.2.2.2.2) := by
  have h := k_run hS hw hh hf hg 0 all0 losers0 now0 stones0 standing0 open0 fallen0
  rw [wAb_id hA] at h
  exact h
theorem los_0 {S : Sit} {losers : Int32} {stones standing : Nat → Int64} {opn fallen : Nat → Int32} (hR : RunC S losers stones standing opn fallen) {h : Nat} (hh : h < 8) : (ushr losers (nI h)) &&& (1 : Int32) = 0 ↔ (rs S 20).2 h = 0 := by
  rw [bt1 (by omega), hR.2 h (by omega), b2i_0, decide_eq_true hh, Bool.true_and, decide_eq_false_iff_not]
  omega
theorem k_x_firm {S : Sit} (hS : Sok S) (hI : Sin S) (hA : Sab S = 0) {v_wall_courses : Int32} {v_wall_columns : Int32} {v_wall_jump : Int32} {v_wall_stones : Nat → Int64} {v_hands_told : Int32} {v_hands_mood : Nat → Int32} {v_hands_strong : Nat → Int32} {v_frosts_told : Int32} {v_frosts_year : Nat → Int32} {v_frosts_force : Nat → Int32} {v_gappings_told : Int32} {v_gappings_year : Nat → Int32} {v_gappings_column : Nat → Int32} {v_gappings_hand : Nat → Int32} {v_trial_all : Int64} {v_trial_losers : Int32} {v_trial_now : Nat → Int64} {v_trial_stones : Nat → Int64} {v_trial_standing : Nat → Int64} {v_trial_open : Nat → Int32} {v_trial_fallen : Nat → Int32} {a0 : Int32} (hw : CIw S v_wall_courses v_wall_columns v_wall_jump v_wall_stones) (hh : CIh S v_hands_told v_hands_mood v_hands_strong) (hf : CIf S v_frosts_told v_frosts_year v_frosts_force) (hg : CIg S v_gappings_told v_gappings_year v_gappings_column v_gappings_hand) : wp (f_x_firm v_wall_courses v_wall_columns v_wall_jump v_wall_stones v_hands_told v_hands_mood v_hands_strong v_frosts_told v_frosts_year v_frosts_force v_gappings_told v_gappings_year v_gappings_column v_gappings_hand v_trial_all v_trial_losers v_trial_now v_trial_stones v_trial_standing v_trial_open v_trial_fallen a0) (fun r => r.1 = A_firm S a0 ∧ CIh S v_hands_told v_hands_mood r.2.1) := by
  have hn := hS.1
  have hh0 := hh
  obtain ⟨rfl, hh⟩ := hh
  unfold f_x_firm A_firm
  refine wp_bindE (q_hs_has _ a0) (wp_ite (fun g => ?_) (fun g1 => ?_))
  · rw [if_pos g]; exact wp_some ⟨by dsimp only <;> rfl, hh0⟩
  rw [if_neg g1]
  obtain ⟨h, hlt, rfl⟩ := wi_m1 (by omega) g1
  rw [cl (show h < 2 ^ 31 by omega)]
  refine wp_gd (inbN (by omega) (by decide)) ?_
  refine wl_x_firm_N29 (fun m v_hands_strong v_trial_all v_trial_losers v_trial_now v_trial_stones v_trial_standing v_trial_open v_trial_fallen x1 x2 x3 x4 => CIh S (nI (Sn S)) v_hands_mood (upd v_hands_strong h (Sst S h)) ∧ x1 = nI h ∧ x2 = Sst S h ∧ ∃ k, k ≤ 9 ∧ x4 = nI (k + 1) ∧ m = 9 - k ∧ x3 = frm (fFirm S h) k) ?_ 1000 9 _ _ _ _ _ _ _ _ _ _ _ _ (by decide) ⟨CIh_own hh0 h hlt, rfl, (hh h hlt).2, 0, by decide, rfl, rfl, rfl⟩
  rintro m k29 ih v_hands_strong v_trial_all v_trial_losers v_trial_now v_trial_stones v_trial_standing v_trial_open v_trial_fallen x1 x2 x3 x4 ⟨hc, rfl, rfl, k, hk, rfl, rfl, rfl⟩
  unfold f_x_firm_N29 f_x_firm_N87
  rw [cl (show h < 2 ^ 31 by omega)]
  refine wp_ite (fun g => ?_) (fun g => ?_)
  · have g' : 9 < k + 1 := (nI_ltX (a := 9) (by decide) (by omega)).mp g
    have e : k = 9 := by omega
    subst e
    exact wp_gd (inbN (by omega) (by decide)) (wp_some ⟨by dsimp only <;> rfl, hc⟩)
  · have g' : ¬ 9 < k + 1 := fun q => g ((nI_ltX (a := 9) (b := k + 1) (by decide) (by omega)).mpr q)
    refine wp_ite (fun g2 => ?_) (fun g2 => ?_)
    · refine wp_gd (inbN (by omega) (by decide)) ?_
      refine wp_bind (k_runw (S := wSt S (upd (Sst S) h (nI (k + 1)))) (wSt_okv hS h (by omega)) hA hw (CIh_st hc _) hf hg _ _ _ _ _ _ _) (fun o ho => ?_)
      have hl := los_0 ho (h := h) (by omega)
      have e1 : nI (k + 1) + 1 = nI (k + 1 + 1) := (nI_succ (k + 1)).symm
      rw [e1]
      refine wp_ite (fun g3 => ?_) (fun g3 => ?_)
      · have e3 : fFirm S h (k + 1) = true := decide_eq_true (hl.mp g3)
        exact ih (9 - (k + 1)) _ _ _ _ _ _ _ _ _ _ _ _ (by omega) ⟨CIh_re hc _, rfl, rfl, k + 1, by omega, rfl, rfl, by rw [frm_s, if_pos g2, if_pos e3]⟩
      · have e3 : fFirm S h (k + 1) = false := decide_eq_false (fun q => g3 (hl.mpr q))
        exact ih (9 - (k + 1)) _ _ _ _ _ _ _ _ _ _ _ _ (by omega) ⟨CIh_re hc _, rfl, rfl, k + 1, by omega, rfl, rfl, by rw [frm_s, if_pos g2, e3]; exact g2⟩
    · refine wp_gd (inbN (by omega) (by decide)) (wp_some ⟨?_, hc⟩)
      dsimp only
      have := frm_keep g2 (9 - k)
      rw [show k + (9 - k) = 9 by omega] at this
      exact this.symm
/-! reference: what stands while plans are tried -/
def RKw (K : Kt) (courses wide : Int32) (told : Nat → Int32) : Prop := courses = nI (SC (SK K)) ∧ wide = nI (SW (SK K)) ∧ ∀ p, p < 48 → told p = Sw (SK K) p
theorem RK_1 {K : Kt} {courses wide hands : Int32} {told moods strongs : Nat → Int32} (h : RK K courses wide hands told moods strongs) : RKw K courses wide told := ⟨h.1, h.2.1, h.2.2.2.1⟩
theorem RK_2 {K : Kt} {courses wide hands : Int32} {told moods strongs : Nat → Int32} (h : RKw K courses wide told) (h2 : CIh (SK K) hands moods strongs) : RK K courses wide hands told moods strongs := ⟨h.1, h.2.1, h2.1, h.2.2, h2.2⟩
theorem RKw_w {K : Kt} {courses wide jump : Int32} {told : Nat → Int32} (h : RKw K courses wide told) (hj : jump = nI (kJ K)) : MIw (SK K) courses wide jump told := ⟨h.1, h.2.1, hj, fun p hp => h.2.2 p (by omega)⟩

theorem k_m_asT {K : Kt} (hK : Kok K) {v_courses : Int32} {v_wide : Int32} {v_hands : Int32} {v_frosts : Int32} {v_gaps : Int32} {v_frostsNow : Int32} {v_notFrosts : Int32} {v_gapsNow : Int32} {v_typed : Nat → Int32} {v_texts : Nat → Int32} {v_told : Nat → Int32} {v_moods : Nat → Int32} {v_strongs : Nat → Int32} {v_frostYear : Nat → Int32} {v_frostForce : Nat → Int32} {v_yearNow : Nat → Int32} {v_forceNow : Nat → Int32} {v_jumpTold : Int32} {v_gapYear v_gapColumn v_gapHand : Nat → Int32} (hm : MP K v_typed v_texts v_jumpTold v_frosts v_frostYear v_frostForce v_gaps v_gapYear v_gapColumn v_gapHand) : wp (f_m_asTold v_courses v_wide v_hands v_frosts v_gaps v_frostsNow v_notFrosts v_gapsNow v_typed v_texts v_told v_moods v_strongs v_frostYear v_frostForce v_yearNow v_forceNow) (fun r => RKw K r.1 r.2.1 r.2.2.2.2.2.2.1 ∧ CIh (SK K) r.2.2.1 r.2.2.2.2.2.2.2.1 r.2.2.2.2.2.2.2.2.1 ∧ MIf (SK K) r.2.2.2.1 r.2.2.2.2.1 r.2.2.2.2.2.2.2.2.2.1 r.2.2.2.2.2.2.2.2.2.2 ∧ CIg (SK K) r.2.2.2.2.2.1 v_gapYear v_gapColumn v_gapHand) := wp_mono (k_m_asTold hK hm) (fun r h => ⟨RK_1 h.1, RK_h h.1, ⟨h.2.1, h.2.2.1, h.2.2.2.2⟩, h.2.2.2.1, hm.2.2.2.2⟩)
theorem k_m_firmOf {K : Kt} (hK : Kok K) {v_courses : Int32} {v_wide : Int32} {v_hands : Int32} {v_jumpTold : Int32} {v_frosts : Int32} {v_gaps : Int32} {v_frostsNow : Int32} {v_notFrosts : Int32} {v_gapsNow : Int32} {v_fell : Int32} {v_fellAll : Int32} {v_sheepFirst : Int32} {v_sheepMany : Int32} {v_typed : Nat → Int32} {v_texts : Nat → Int32} {v_told : Nat → Int32} {v_moods : Nat → Int32} {v_strongs : Nat → Int32} {v_frostYear : Nat → Int32} {v_frostForce : Nat → Int32} {v_gapYear : Nat → Int32} {v_gapColumn : Nat → Int32} {v_gapHand : Nat → Int32} {v_wall : Nat → Int32} {v_yearNow : Nat → Int32} {v_forceNow : Nat → Int32} {v_holdNow : Nat → Int32} {v_fellOf : Nat → Int32} {v_handAt : Nat → Int32} {v_holdAt : Nat → Int32} {v_fallsAt : Nat → Int32} {v_standAt : Nat → Int32} {v_highAt : Nat → Int32} {v_throughAt : Nat → Int32} {h : Nat} (hlt : h < Sn (SK K)) (hm : MP K v_typed v_texts v_jumpTold v_frosts v_frostYear v_frostForce v_gaps v_gapYear v_gapColumn v_gapHand) : wp (f_m_firmOf v_courses v_wide v_hands v_jumpTold v_frosts v_gaps v_frostsNow v_notFrosts v_gapsNow v_fell v_fellAll v_sheepFirst v_sheepMany v_typed v_texts v_told v_moods v_strongs v_frostYear v_frostForce v_gapYear v_gapColumn v_gapHand v_wall v_yearNow v_forceNow v_holdNow v_fellOf v_handAt v_holdAt v_fallsAt v_standAt v_highAt v_throughAt (nI h)) (fun r => r.1 = vFirm (SK K) h ∧ RK K r.2.1 r.2.2.1 r.2.2.2.1 r.2.2.2.2.2.2.2.2.2.2.2.1 r.2.2.2.2.2.2.2.2.2.2.2.2.1 r.2.2.2.2.2.2.2.2.2.2.2.2.2.1) := by
  have hn := (SK_ok hK).1.1
  have hj := hm.2.1
  unfold f_m_firmOf
  refine wp_bind (k_m_asT hK hm) (fun o ho => ?_)
  obtain ⟨hR, hh, hf, hg⟩ := ho
  refine wp_gd (inbN (by omega) (by decide)) ?_
  rw [cl (show h < 2 ^ 31 by omega)]
  refine wl_m_firmOf_N16 (fun m v_courses v_wide v_hands v_frostsNow v_notFrosts v_gapsNow v_fell v_fellAll v_sheepFirst v_sheepMany v_told v_moods v_strongs v_wall v_yearNow v_forceNow v_holdNow v_fellOf v_handAt v_holdAt v_fallsAt v_standAt v_highAt v_throughAt x1 x2 x3 x4 => RKw K v_courses v_wide v_told ∧ CIh (SK K) v_hands v_moods (upd v_strongs h (Sst (SK K) h)) ∧ MIf (SK K) v_frostsNow v_notFrosts v_yearNow v_forceNow ∧ CIg (SK K) v_gapsNow v_gapYear v_gapColumn v_gapHand ∧ x1 = nI h ∧ x2 = Sst (SK K) h ∧ ∃ k, k ≤ 9 ∧ x4 = nI (k + 1) ∧ m = 9 - k ∧ x3 = frm (fFirm (SK K) h) k) ?_ 1000 9 _ _ _ _ _ _ _ _ _ _ _ _ _ _ _ _ _ _ _ _ _ _ _ _ _ _ _ _ (by decide) ⟨hR, CIh_own hh h hlt, hf, hg, rfl, (hh.2 h hlt).2, 0, by decide, rfl, rfl, rfl⟩
  clear hR hh hf hg
  rintro m k16 ih v_courses v_wide v_hands v_frostsNow v_notFrosts v_gapsNow v_fell v_fellAll v_sheepFirst v_sheepMany v_told v_moods v_strongs v_wall v_yearNow v_forceNow v_holdNow v_fellOf v_handAt v_holdAt v_fallsAt v_standAt v_highAt v_throughAt x1 x2 x3 x4 ⟨hR, hc, hf, hg, rfl, rfl, k, hk, rfl, rfl, rfl⟩
  unfold f_m_firmOf_N16 f_m_firmOf_N62
  rw [cl (show h < 2 ^ 31 by omega)]
  refine wp_ite (fun g => ?_) (fun g => ?_)
  · have g' : 10 ≤ k + 1 := (nI_leX (a := 10) (by decide) (by omega)).mp g
    have e : k = 9 := by omega
    subst e
    exact wp_gd (inbN (by omega) (by decide)) (wp_some ⟨by dsimp only <;> rfl, RK_2 hR hc⟩)
  · have g' : ¬ 10 ≤ k + 1 := fun q => g ((nI_leX (a := 10) (b := k + 1) (by decide) (by omega)).mpr q)
    refine wp_ite (fun g2 => ?_) (fun g2 => ?_)
    · refine wp_gd (inbN (by omega) (by decide)) ?_
      refine wp_bind (k_runs (S := wSt (SK K) (upd (Sst (SK K)) h (nI (k + 1)))) (wSt_okv (SK_ok hK).1 h (by omega)) (SK_ok hK).2 (RKw_w hR hj) (CIh_st hc _) hf hg _ _ _ _ _ _ _ _ _ _ _ _ _) (fun o ho => ?_)
      refine wp_gd (inbN (by omega) (by decide)) ?_
      have e1 : nI (k + 1) + 1 = nI (k + 1 + 1) := (nI_succ (k + 1)).symm
      have hl := ho.2.2.2.2.1 h (by omega)
      have hb : (rs (wSt (SK K) (upd (Sst (SK K)) h (nI (k + 1)))) 20).2 h < 2 ^ 31 := rs_lt (wSt_okv (SK_ok hK).1 h (by omega)) h
      rw [e1, hl]
      refine wp_ite (fun g3 => ?_) (fun g3 => ?_)
      · have e3 : fFirm (SK K) h (k + 1) = true := decide_eq_true ((nI_eqI hb (by decide)).mp g3)
        exact ih (9 - (k + 1)) _ _ _ _ _ _ _ _ _ _ _ _ _ _ _ _ _ _ _ _ _ _ _ _ _ _ _ _ (by omega) ⟨hR, CIh_re hc _, hf, hg, rfl, rfl, k + 1, by omega, rfl, rfl, by rw [frm_s, if_pos g2, if_pos e3]⟩
      · have e3 : fFirm (SK K) h (k + 1) = false := decide_eq_false (fun q => g3 ((nI_eqI hb (by decide)).mpr q))
        exact ih (9 - (k + 1)) _ _ _ _ _ _ _ _ _ _ _ _ _ _ _ _ _ _ _ _ _ _ _ _ _ _ _ _ (by omega) ⟨hR, CIh_re hc _, hf, hg, rfl, rfl, k + 1, by omega, rfl, rfl, by rw [frm_s, if_pos g2, e3]; rfl⟩
    · refine wp_gd (inbN (by omega) (by decide)) (wp_some ⟨?_, RK_2 hR hc⟩)
      dsimp only
      have := frm_keep g2 (9 - k)
      rw [show k + (9 - k) = 9 by omega] at this
      exact this.symm
theorem k_m_firm {K : Kt} (hK : Kok K) {v_courses : Int32} {v_wide : Int32} {v_hands : Int32} {v_jumpTold : Int32} {v_frosts : Int32} {v_gaps : Int32} {v_frostsNow : Int32} {v_notFrosts : Int32} {v_gapsNow : Int32} {v_fell : Int32} {v_fellAll : Int32} {v_sheepFirst : Int32} {v_sheepMany : Int32} {v_typed : Nat → Int32} {v_texts : Nat → Int32} {v_told : Nat → Int32} {v_moods : Nat → Int32} {v_strongs : Nat → Int32} {v_frostYear : Nat → Int32} {v_frostForce : Nat → Int32} {v_gapYear : Nat → Int32} {v_gapColumn : Nat → Int32} {v_gapHand : Nat → Int32} {v_wall : Nat → Int32} {v_yearNow : Nat → Int32} {v_forceNow : Nat → Int32} {v_holdNow : Nat → Int32} {v_fellOf : Nat → Int32} {v_handAt : Nat → Int32} {v_holdAt : Nat → Int32} {v_fallsAt : Nat → Int32} {v_standAt : Nat → Int32} {v_highAt : Nat → Int32} {v_throughAt : Nat → Int32} {a0 : Int32} (hm : MP K v_typed v_texts v_jumpTold v_frosts v_frostYear v_frostForce v_gaps v_gapYear v_gapColumn v_gapHand) : wp (f_m_firm v_courses v_wide v_hands v_jumpTold v_frosts v_gaps v_frostsNow v_notFrosts v_gapsNow v_fell v_fellAll v_sheepFirst v_sheepMany v_typed v_texts v_told v_moods v_strongs v_frostYear v_frostForce v_gapYear v_gapColumn v_gapHand v_wall v_yearNow v_forceNow v_holdNow v_fellOf v_handAt v_holdAt v_fallsAt v_standAt v_highAt v_throughAt a0) (fun r => r.1 = A_firm (SK K) a0) := by
  have hn := (SK_ok hK).1.1
  unfold f_m_firm A_firm
  refine wp_bind (k_m_isHand hK hm.1.1 hm.1.2) (fun o ho => ?_)
  rw [ho.1]
  refine wp_ite (fun g => ?_) (fun g1 => ?_)
  · rw [if_pos g]; exact wp_some (by dsimp only <;> rfl)
  rw [if_neg g1]
  obtain ⟨h, hlt, rfl⟩ := wi_m1 (by omega) g1
  rw [cl (show h < 2 ^ 31 by omega)]
  exact wp_bind (k_m_firmOf hK hlt hm) (fun o ho => wp_some ho.1)
