/-! WAS, both sides -/
def fStr (S : Sit) (G : Gt) (h v : Nat) : Bool := seenG (wSt S (upd (Sst S) h (nI v))) G
def fMod (S : Sit) (G : Gt) (h v : Nat) : Bool := seenG (wMd S (upd (Smd S) h (nI v))) G
def bStr (S : Sit) (G : Gt) (h : Nat) : Int32 := bts (fStr S G h) 1 9
def bMod (S : Sit) (G : Gt) (h : Nat) : Int32 := bts (fMod S G h) 0 4
def vWas (S : Sit) (G : Gt) (h : Nat) (a1 : Int32) : Int32 := if a1 = 0 then bStr S G h else bMod S G h
def A_was (S : Sit) (G : Gt) (a0 a1 : Int32) : Int32 := if wi a0 0 (nI (Sn S) - 1) = 0 then -2 else if wi a1 0 1 = 0 then -2 else vWas S G a0.toNatClampNeg a1
theorem CIh_ownM {S : Sit} {n : Int32} {mood strong : Nat → Int32} (hh : CIh S n mood strong) (h : Nat) (hlt : h < Sn S) : CIh S n (upd mood h (Smd S h)) strong := ⟨hh.1, fun k hk => ⟨by
  rw [upd_at]
  by_cases e : k = h
  · rw [if_pos e, e]
  · rw [if_neg e]; exact (hh.2 k hk).1, (hh.2 k hk).2⟩⟩
theorem CIh_md {S : Sit} {n : Int32} {mood strong : Nat → Int32} {h : Nat} {c : Int32} (hh : CIh S n (upd mood h c) strong) (v : Int32) : CIh (wMd S (upd (Smd S) h v)) n (upd mood h v) strong := ⟨hh.1, fun k hk => ⟨by
  show upd mood h v k = upd (Smd S) h v k
  have e2 : upd mood h c k = Smd S k := (hh.2 k hk).1
  rw [upd_at] at e2
  rw [upd_at, upd_at]
  by_cases e : k = h
  · rw [if_pos e, if_pos e]
  · rw [if_neg e] at e2; rw [if_neg e, if_neg e]; exact e2, (hh.2 k hk).2⟩⟩
theorem CIh_reM {S : Sit} {n : Int32} {mood strong : Nat → Int32} {h : Nat} {c : Int32} (hh : CIh S n (upd mood h c) strong) (v : Int32) : CIh S n (upd (upd mood h v) h c) strong := ⟨hh.1, fun k hk => ⟨by
  have e2 : upd mood h c k = Smd S k := (hh.2 k hk).1
  rw [upd_at] at e2
  rw [upd_at, upd_at]
  by_cases e : k = h
  · rw [if_pos e] at e2; rw [if_pos e]; exact e2
  · rw [if_neg e] at e2; rw [if_neg e, if_neg e]; exact e2, (hh.2 k hk).2⟩⟩
theorem k_x_was {S : Sit} (hS : Sok S) (hI : Sin S) (hA : Sab S = 0) {G : Gt} (hG : Gok G) {v_wall_courses : Int32} {v_wall_columns : Int32} {v_wall_jump : Int32} {v_wall_stones : Nat → Int64} {v_hands_told : Int32} {v_hands_mood : Nat → Int32} {v_hands_strong : Nat → Int32} {v_frosts_told : Int32} {v_frosts_year : Nat → Int32} {v_frosts_force : Nat → Int32} {v_gappings_told : Int32} {v_gappings_year : Nat → Int32} {v_gappings_column : Nat → Int32} {v_gappings_hand : Nat → Int32} {v_sights_told : Int32} {v_sights_year : Nat → Int32} {v_sights_place : Nat → Int32} {v_sights_setter : Nat → Int32} {v_trial_all : Int64} {v_trial_losers : Int32} {v_trial_now : Nat → Int64} {v_trial_stones : Nat → Int64} {v_trial_standing : Nat → Int64} {v_trial_open : Nat → Int32} {v_trial_fallen : Nat → Int32} {a0 : Int32} {a1 : Int32} (hw : CIw S v_wall_courses v_wall_columns v_wall_jump v_wall_stones) (hh : CIh S v_hands_told v_hands_mood v_hands_strong) (hf : CIf S v_frosts_told v_frosts_year v_frosts_force) (hg : CIg S v_gappings_told v_gappings_year v_gappings_column v_gappings_hand) (hv : CIv G v_sights_told v_sights_year v_sights_place v_sights_setter) : wp (f_x_was v_wall_courses v_wall_columns v_wall_jump v_wall_stones v_hands_told v_hands_mood v_hands_strong v_frosts_told v_frosts_year v_frosts_force v_gappings_told v_gappings_year v_gappings_column v_gappings_hand v_sights_told v_sights_year v_sights_place v_sights_setter v_trial_all v_trial_losers v_trial_now v_trial_stones v_trial_standing v_trial_open v_trial_fallen a0 a1) (fun r => r.1 = A_was S G a0 a1 ∧ CIh S v_hands_told r.2.1 r.2.2.1) := by
  have hn := hS.1
  have hh0 := hh
  obtain ⟨rfl, hh⟩ := hh
  unfold f_x_was A_was
  refine wp_bindE (q_hs_has _ a0) (wp_ite (fun g => ?_) (fun g1 => ?_))
  · rw [if_pos g]; exact wp_some ⟨by dsimp only <;> rfl, hh0⟩
  rw [if_neg g1]
  refine wp_bindE (q_x_isEither a1) (wp_ite (fun g => ?_) (fun g2 => ?_))
  · rw [if_pos g]; exact wp_some ⟨by dsimp only <;> rfl, hh0⟩
  rw [if_neg g2]
  obtain ⟨h, hlt, rfl⟩ := wi_m1 (by omega) g1
  rw [cl (show h < 2 ^ 31 by omega)]
  unfold vWas
  refine wp_ite (fun g3 => ?_) (fun g3 => ?_)
  · rw [if_pos g3]
    unfold f_x_was_N42_1 f_x_was_N52_1 f_x_was_N64_1
    refine wp_pos g3 (wp_pos g3 ?_)
    rw [cl (show h < 2 ^ 31 by omega)]
    refine wp_gd (inbN (by omega) (by decide)) ?_
    refine wl_x_was_N78_1 (fun m v_hands_mood v_hands_strong v_trial_all v_trial_losers v_trial_now v_trial_stones v_trial_standing v_trial_open v_trial_fallen x1 x5 x6 x7 x8 => CIh S (nI (Sn S)) v_hands_mood (upd v_hands_strong h (Sst S h)) ∧ x1 = nI h ∧ x5 = 9 ∧ x6 = Sst S h ∧ ∃ k, k ≤ 9 ∧ x8 = nI (1 + k) ∧ m = 9 - k ∧ x7 = bts (fStr S G h) 1 k) ?_ 1000 9 _ _ _ _ _ _ _ _ _ _ _ _ _ _ (by decide) ⟨CIh_own hh0 h hlt, rfl, rfl, (hh h hlt).2, 0, by decide, rfl, rfl, rfl⟩
    rintro m k78 ih v_hands_mood v_hands_strong v_trial_all v_trial_losers v_trial_now v_trial_stones v_trial_standing v_trial_open v_trial_fallen x1 x5 x6 x7 x8 ⟨hc, rfl, rfl, rfl, k, hk, rfl, rfl, rfl⟩
    unfold f_x_was_N78_1
    rw [cl (show h < 2 ^ 31 by omega)]
    refine wp_ite (fun g => ?_) (fun g => ?_)
    · have g' : 9 < 1 + k := (nI_ltX (a := 9) (by decide) (by omega)).mp g
      have e : k = 9 := by omega
      subst e
      exact wp_gd (inbN (by omega) (by decide)) (wp_some ⟨by dsimp only <;> rfl, hc⟩)
    · have g' : ¬ 9 < 1 + k := fun q => g ((nI_ltX (a := 9) (b := 1 + k) (by decide) (by omega)).mpr q)
      refine wp_gd (inbN (by omega) (by decide)) ?_
      refine wp_bind (k_runw (S := wSt S (upd (Sst S) h (nI (1 + k)))) (wSt_okv hS h (by omega)) hA hw (CIh_st hc _) hf hg _ _ _ _ _ _ _) (fun o ho => ?_)
      refine wp_bindE (k_comeOut (wSt_okv hS h (by omega)) hI ho hG hv) ?_
      rw [show nI (1 + k) + 1 = nI (1 + (k + 1)) from (nI_succ (1 + k)).symm]
      refine wp_ite (fun g4 => ?_) (fun g4 => ?_)
      · have e2 : fStr S G h (1 + k) = false := (b2i_0 _).mp g4
        exact ih (9 - (k + 1)) _ _ _ _ _ _ _ _ _ _ _ _ _ _ (by omega) ⟨CIh_re hc _, rfl, rfl, rfl, k + 1, by omega, rfl, rfl, (bts_0 e2).symm⟩
      · have e2 : fStr S G h (1 + k) = true := b2i_1 g4
        exact ih (9 - (k + 1)) _ _ _ _ _ _ _ _ _ _ _ _ _ _ (by omega) ⟨CIh_re hc _, rfl, rfl, rfl, k + 1, by omega, rfl, rfl, (bts_1 e2).symm⟩
  · rw [if_neg g3]
    unfold f_x_was_N42_0 f_x_was_N52_0 f_x_was_N64_0
    refine wp_neg g3 (wp_neg g3 ?_)
    rw [cl (show h < 2 ^ 31 by omega)]
    refine wp_gd (inbN (by omega) (by decide)) ?_
    refine wl_x_was_N78_0 (fun m v_hands_mood v_hands_strong v_trial_all v_trial_losers v_trial_now v_trial_stones v_trial_standing v_trial_open v_trial_fallen x1 x5 x6 x7 x8 => CIh S (nI (Sn S)) (upd v_hands_mood h (Smd S h)) v_hands_strong ∧ x1 = nI h ∧ x5 = 3 ∧ x6 = Smd S h ∧ ∃ k, k ≤ 4 ∧ x8 = nI (0 + k) ∧ m = 4 - k ∧ x7 = bts (fMod S G h) 0 k) ?_ 1000 4 _ _ _ _ _ _ _ _ _ _ _ _ _ _ (by decide) ⟨CIh_ownM hh0 h hlt, rfl, rfl, (hh h hlt).1, 0, by decide, rfl, rfl, rfl⟩
    rintro m k78 ih v_hands_mood v_hands_strong v_trial_all v_trial_losers v_trial_now v_trial_stones v_trial_standing v_trial_open v_trial_fallen x1 x5 x6 x7 x8 ⟨hc, rfl, rfl, rfl, k, hk, rfl, rfl, rfl⟩
    unfold f_x_was_N78_0
    rw [cl (show h < 2 ^ 31 by omega)]
    refine wp_ite (fun g => ?_) (fun g => ?_)
    · have g' : 3 < 0 + k := (nI_ltX (a := 3) (by decide) (by omega)).mp g
      have e : k = 4 := by omega
      subst e
      exact wp_gd (inbN (by omega) (by decide)) (wp_some ⟨by dsimp only <;> rfl, hc⟩)
    · have g' : ¬ 3 < 0 + k := fun q => g ((nI_ltX (a := 3) (b := 0 + k) (by decide) (by omega)).mpr q)
      refine wp_gd (inbN (by omega) (by decide)) ?_
      refine wp_bind (k_runw (S := wMd S (upd (Smd S) h (nI (0 + k)))) (wMd_ok hS _) hA hw (CIh_md hc _) hf hg _ _ _ _ _ _ _) (fun o ho => ?_)
      refine wp_bindE (k_comeOut (S := wMd S (upd (Smd S) h (nI (0 + k)))) (wMd_ok hS _) hI ho hG hv) ?_
      rw [show nI (0 + k) + 1 = nI (0 + (k + 1)) from (nI_succ (0 + k)).symm]
      refine wp_ite (fun g4 => ?_) (fun g4 => ?_)
      · have e2 : fMod S G h (0 + k) = false := (b2i_0 _).mp g4
        exact ih (4 - (k + 1)) _ _ _ _ _ _ _ _ _ _ _ _ _ _ (by omega) ⟨CIh_reM hc _, rfl, rfl, rfl, k + 1, by omega, rfl, rfl, (bts_0 e2).symm⟩
      · have e2 : fMod S G h (0 + k) = true := b2i_1 g4
        exact ih (4 - (k + 1)) _ _ _ _ _ _ _ _ _ _ _ _ _ _ (by omega) ⟨CIh_reM hc _, rfl, rfl, rfl, k + 1, by omega, rfl, rfl, (bts_1 e2).symm⟩
def stA (S : Sit) (h v y : Nat) : Nat := bct (isS (wsY (wSt S (upd (Sst S) h (nI v))) (y + 1))) 40
theorem k_m_strongBy {K : Kt} (hK : Kok K) {G : Gt} (hG : Gok G) {v_courses : Int32} {v_wide : Int32} {v_hands : Int32} {v_jumpTold : Int32} {v_frosts : Int32} {v_gaps : Int32} {v_frostsNow : Int32} {v_notFrosts : Int32} {v_gapsNow : Int32} {v_fell : Int32} {v_fellAll : Int32} {v_sheepFirst : Int32} {v_sheepMany : Int32} {v_seens : Int32} {v_typed : Nat → Int32} {v_texts : Nat → Int32} {v_told : Nat → Int32} {v_moods : Nat → Int32} {v_strongs : Nat → Int32} {v_frostYear : Nat → Int32} {v_frostForce : Nat → Int32} {v_gapYear : Nat → Int32} {v_gapColumn : Nat → Int32} {v_gapHand : Nat → Int32} {v_wall : Nat → Int32} {v_yearNow : Nat → Int32} {v_forceNow : Nat → Int32} {v_holdNow : Nat → Int32} {v_fellOf : Nat → Int32} {v_handAt : Nat → Int32} {v_holdAt : Nat → Int32} {v_fallsAt : Nat → Int32} {v_standAt : Nat → Int32} {v_highAt : Nat → Int32} {v_throughAt : Nat → Int32} {v_seenYear : Nat → Int32} {v_seenPlace : Nat → Int32} {v_seenHand : Nat → Int32} {v_standBy : Nat → Int32} {h : Nat} (hlt : h < Sn (SK K)) (hm : MP K v_typed v_texts v_jumpTold v_frosts v_frostYear v_frostForce v_gaps v_gapYear v_gapColumn v_gapHand) (hv : MIv G v_seens v_seenYear v_seenPlace v_seenHand) : wp (f_m_strongBy v_courses v_wide v_hands v_jumpTold v_frosts v_gaps v_frostsNow v_notFrosts v_gapsNow v_fell v_fellAll v_sheepFirst v_sheepMany v_seens v_typed v_texts v_told v_moods v_strongs v_frostYear v_frostForce v_gapYear v_gapColumn v_gapHand v_wall v_yearNow v_forceNow v_holdNow v_fellOf v_handAt v_holdAt v_fallsAt v_standAt v_highAt v_throughAt v_seenYear v_seenPlace v_seenHand v_standBy (nI h)) (fun r => r.1 = bStr (SK K) G h ∧ RK K r.2.1 r.2.2.1 r.2.2.2.1 r.2.2.2.2.2.2.2.2.2.2.2.1 r.2.2.2.2.2.2.2.2.2.2.2.2.1 r.2.2.2.2.2.2.2.2.2.2.2.2.2.1 ∧ ∀ v, 1 ≤ v → v ≤ 9 → ∀ y, y < 20 → r.2.2.2.2.2.2.2.2.2.2.2.2.2.2.2.2.2.2.2.2.2.2.2.2.2 (20 * v + y) = nI (stA (SK K) h v y)) := by
  have hS := (SK_ok hK).1
  have hn := (SK_ok hK).1.1
  have hj := hm.2.1
  unfold f_m_strongBy
  refine wp_bind (k_m_asT hK hm) (fun o ho => ?_)
  obtain ⟨hR, hh, hf, hg⟩ := ho
  refine wp_gd (inbN (by omega) (by decide)) ?_
  rw [cl (show h < 2 ^ 31 by omega)]
  refine wl_m_strongBy_N16 (fun m v_courses v_wide v_hands v_frostsNow v_notFrosts v_gapsNow v_fell v_fellAll v_sheepFirst v_sheepMany v_told v_moods v_strongs v_wall v_yearNow v_forceNow v_holdNow v_fellOf v_handAt v_holdAt v_fallsAt v_standAt v_highAt v_throughAt v_standBy x1 x2 x3 x4 => RKw K v_courses v_wide v_told ∧ CIh (SK K) v_hands v_moods (upd v_strongs h (Sst (SK K) h)) ∧ MIf (SK K) v_frostsNow v_notFrosts v_yearNow v_forceNow ∧ CIg (SK K) v_gapsNow v_gapYear v_gapColumn v_gapHand ∧ x1 = nI h ∧ x2 = Sst (SK K) h ∧ ∃ k, k ≤ 9 ∧ x4 = nI (1 + k) ∧ m = 9 - k ∧ x3 = bts (fStr (SK K) G h) 1 k ∧ ∀ v, 1 ≤ v → v ≤ k → ∀ y, y < 20 → v_standBy (20 * v + y) = nI (stA (SK K) h v y)) ?_ 1000 9 _ _ _ _ _ _ _ _ _ _ _ _ _ _ _ _ _ _ _ _ _ _ _ _ _ _ _ _ _ (by decide) ⟨hR, CIh_own hh h hlt, hf, hg, rfl, (hh.2 h hlt).2, 0, by decide, rfl, rfl, rfl, fun v h1 h2 => absurd h2 (by omega)⟩
  clear hR hh hf hg
  rintro m k16 ih v_courses v_wide v_hands v_frostsNow v_notFrosts v_gapsNow v_fell v_fellAll v_sheepFirst v_sheepMany v_told v_moods v_strongs v_wall v_yearNow v_forceNow v_holdNow v_fellOf v_handAt v_holdAt v_fallsAt v_standAt v_highAt v_throughAt v_standBy x1 x2 x3 x4 ⟨hR, hc, hf, hg, rfl, rfl, k, hk, rfl, rfl, rfl, hs⟩
  unfold f_m_strongBy_N16
  rw [cl (show h < 2 ^ 31 by omega)]
  refine wp_ite (fun g => ?_) (fun g => ?_)
  · have g' : 10 ≤ 1 + k := (nI_leX (a := 10) (by decide) (by omega)).mp g
    have e : k = 9 := by omega
    subst e
    exact wp_gd (inbN (by omega) (by decide)) (wp_some ⟨by dsimp only <;> rfl, RK_2 hR hc, hs⟩)
  · have g' : ¬ 10 ≤ 1 + k := fun q => g ((nI_leX (a := 10) (b := 1 + k) (by decide) (by omega)).mpr q)
    refine wp_gd (inbN (by omega) (by decide)) ?_
    refine wp_bind (k_m_isSeen (S := wSt (SK K) (upd (Sst (SK K)) h (nI (1 + k)))) (wSt_okv hS h (by omega)) (SK_ok hK).2 hG (RKw_w hR hj) (CIh_st hc _) hf hg hv) (fun o ho => ?_)
    have hst : ∀ y, y < 20 → o.2.2.2.2.2.2.2.2.2.2.2.1 y = nI (stA (SK K) h (1 + k) y) := fun y hy => (ho.2.2.2.2.2.2 y hy).2.2.1
    have go : ∀ z : Int32, z = bts (fStr (SK K) G h) 1 (k + 1) → wp (iter (fun _ _ _ _ _ _ _ _ _ _ _ _ _ _ _ _ _ _ _ _ _ _ _ _ _ _ _ _ _ _ => none) (f_m_strongBy_N52 v_jumpTold v_frosts v_gaps v_seens v_typed v_texts v_frostYear v_frostForce v_gapYear v_gapColumn v_gapHand v_seenYear v_seenPlace v_seenHand k16) 1000 v_courses v_wide v_hands v_frostsNow v_notFrosts v_gapsNow o.2.1 o.2.2.1 o.2.2.2.1 o.2.2.2.2.1 v_told v_moods (upd v_strongs h (nI (1 + k))) o.2.2.2.2.2.1 v_yearNow v_forceNow o.2.2.2.2.2.2.1 o.2.2.2.2.2.2.2.1 o.2.2.2.2.2.2.2.2.1 o.2.2.2.2.2.2.2.2.2.1 o.2.2.2.2.2.2.2.2.2.2.1 o.2.2.2.2.2.2.2.2.2.2.2.1 o.2.2.2.2.2.2.2.2.2.2.2.2.1 o.2.2.2.2.2.2.2.2.2.2.2.2.2 v_standBy (nI h) (Sst (SK K) h) z (nI (1 + k)) 0) (fun r => r.1 = bStr (SK K) G h ∧ RK K r.2.1 r.2.2.1 r.2.2.2.1 r.2.2.2.2.2.2.2.2.2.2.2.1 r.2.2.2.2.2.2.2.2.2.2.2.2.1 r.2.2.2.2.2.2.2.2.2.2.2.2.2.1 ∧ ∀ v, 1 ≤ v → v ≤ 9 → ∀ y, y < 20 → r.2.2.2.2.2.2.2.2.2.2.2.2.2.2.2.2.2.2.2.2.2.2.2.2.2 (20 * v + y) = nI (stA (SK K) h v y)) := by
      rintro z rfl
      refine wl_m_strongBy_N52 (fun m v_courses v_wide v_hands v_frostsNow v_notFrosts v_gapsNow v_fell v_fellAll v_sheepFirst v_sheepMany v_told v_moods v_strongs v_wall v_yearNow v_forceNow v_holdNow v_fellOf v_handAt v_holdAt v_fallsAt v_standAt v_highAt v_throughAt v_standBy x1 x2 x3 x4 x5 => RKw K v_courses v_wide v_told ∧ CIh (SK K) v_hands v_moods (upd v_strongs h (Sst (SK K) h)) ∧ MIf (SK K) v_frostsNow v_notFrosts v_yearNow v_forceNow ∧ CIg (SK K) v_gapsNow v_gapYear v_gapColumn v_gapHand ∧ (∀ y, y < 20 → v_standAt y = nI (stA (SK K) h (1 + k) y)) ∧ x1 = nI h ∧ x2 = Sst (SK K) h ∧ x3 = bts (fStr (SK K) G h) 1 (k + 1) ∧ x4 = nI (1 + k) ∧ ∃ y, y ≤ 20 ∧ x5 = nI y ∧ m = 20 - y ∧ (∀ v, 1 ≤ v → v ≤ k → ∀ y, y < 20 → v_standBy (20 * v + y) = nI (stA (SK K) h v y)) ∧ ∀ z, z < y → v_standBy (20 * (1 + k) + z) = nI (stA (SK K) h (1 + k) z)) ?_ 1000 20 _ _ _ _ _ _ _ _ _ _ _ _ _ _ _ _ _ _ _ _ _ _ _ _ _ _ _ _ _ _ (by decide) ⟨hR, CIh_re hc _, hf, hg, hst, rfl, rfl, rfl, rfl, 0, by decide, rfl, rfl, hs, fun z hz => absurd hz (by omega)⟩
      clear hR hc hf hg hst hs ho
      rintro m k52 ih2 v_courses v_wide v_hands v_frostsNow v_notFrosts v_gapsNow v_fell v_fellAll v_sheepFirst v_sheepMany v_told v_moods v_strongs v_wall v_yearNow v_forceNow v_holdNow v_fellOf v_handAt v_holdAt v_fallsAt v_standAt v_highAt v_throughAt v_standBy x1 x2 x3 x4 x5 ⟨hR, hc, hf, hg, hst, rfl, rfl, rfl, rfl, y, hy, rfl, rfl, hs, hs2⟩
      unfold f_m_strongBy_N52
      refine wp_ite (fun g => ?_) (fun g => ?_)
      · have g2 : 20 ≤ y := (nI_leX (a := 20) (by decide) (by omega)).mp g
        have e : y = 20 := by omega
        subst e
        rw [show nI (1 + k) + 1 = nI (1 + (k + 1)) from (nI_succ (1 + k)).symm]
        refine ih (9 - (k + 1)) _ _ _ _ _ _ _ _ _ _ _ _ _ _ _ _ _ _ _ _ _ _ _ _ _ _ _ _ _ (by omega) ⟨hR, hc, hf, hg, rfl, rfl, k + 1, by omega, rfl, rfl, rfl, fun v h1 h2 y hy => ?_⟩
        by_cases e : v ≤ k
        · exact hs v h1 e y hy
        · rw [show v = 1 + k by omega]; exact hs2 y hy
      · have g2 : ¬ 20 ≤ y := fun q => g ((nI_leX (a := 20) (b := y) (by decide) (by omega)).mpr q)
        rw [show nI y + 1 = nI (y + 1) from (nI_succ y).symm, show (20 : Int32) = nI 20 from rfl, nI_mulI, nI_addI, cl (show y < 2 ^ 31 by omega), cl (show 20 * (1 + k) + y < 2 ^ 31 by omega)]
        refine wp_gd (inbN (by omega) (by decide)) (wp_gd (inbN (by omega) (by decide)) ?_)
        refine ih2 (20 - (y + 1)) _ _ _ _ _ _ _ _ _ _ _ _ _ _ _ _ _ _ _ _ _ _ _ _ _ _ _ _ _ _ (by omega) ⟨hR, hc, hf, hg, hst, rfl, rfl, rfl, rfl, y + 1, by omega, rfl, rfl, fun v h1 h2 z hz => ?_, fun z hz => ?_⟩
        · rw [upd_at, if_neg (by omega)]; exact hs v h1 h2 z hz
        · rw [upd_at]
          by_cases e : z = y
          · rw [if_pos (by omega), e]; exact hst y (by omega)
          · rw [if_neg (by omega)]; exact hs2 z (by omega)
    unfold f_m_strongBy_N47
    refine wp_ite (fun g2 => ?_) (fun g2 => ?_)
    · have e2 : fStr (SK K) G h (1 + k) = false := by rw [ho.1] at g2; exact (b2i_0 _).mp g2
      rw [or_z]
      exact go _ (bts_0 e2).symm
    · have e2 : fStr (SK K) G h (1 + k) = true := by rw [ho.1] at g2; exact b2i_1 g2
      exact go _ (bts_1 e2).symm
theorem k_m_moodBy {K : Kt} (hK : Kok K) {G : Gt} (hG : Gok G) {v_courses : Int32} {v_wide : Int32} {v_hands : Int32} {v_jumpTold : Int32} {v_frosts : Int32} {v_gaps : Int32} {v_frostsNow : Int32} {v_notFrosts : Int32} {v_gapsNow : Int32} {v_fell : Int32} {v_fellAll : Int32} {v_sheepFirst : Int32} {v_sheepMany : Int32} {v_seens : Int32} {v_typed : Nat → Int32} {v_texts : Nat → Int32} {v_told : Nat → Int32} {v_moods : Nat → Int32} {v_strongs : Nat → Int32} {v_frostYear : Nat → Int32} {v_frostForce : Nat → Int32} {v_gapYear : Nat → Int32} {v_gapColumn : Nat → Int32} {v_gapHand : Nat → Int32} {v_wall : Nat → Int32} {v_yearNow : Nat → Int32} {v_forceNow : Nat → Int32} {v_holdNow : Nat → Int32} {v_fellOf : Nat → Int32} {v_handAt : Nat → Int32} {v_holdAt : Nat → Int32} {v_fallsAt : Nat → Int32} {v_standAt : Nat → Int32} {v_highAt : Nat → Int32} {v_throughAt : Nat → Int32} {v_seenYear : Nat → Int32} {v_seenPlace : Nat → Int32} {v_seenHand : Nat → Int32} {h : Nat} (hlt : h < Sn (SK K)) (hm : MP K v_typed v_texts v_jumpTold v_frosts v_frostYear v_frostForce v_gaps v_gapYear v_gapColumn v_gapHand) (hv : MIv G v_seens v_seenYear v_seenPlace v_seenHand) : wp (f_m_moodBy v_courses v_wide v_hands v_jumpTold v_frosts v_gaps v_frostsNow v_notFrosts v_gapsNow v_fell v_fellAll v_sheepFirst v_sheepMany v_seens v_typed v_texts v_told v_moods v_strongs v_frostYear v_frostForce v_gapYear v_gapColumn v_gapHand v_wall v_yearNow v_forceNow v_holdNow v_fellOf v_handAt v_holdAt v_fallsAt v_standAt v_highAt v_throughAt v_seenYear v_seenPlace v_seenHand (nI h)) (fun r => r.1 = bMod (SK K) G h ∧ RK K r.2.1 r.2.2.1 r.2.2.2.1 r.2.2.2.2.2.2.2.2.2.2.2.1 r.2.2.2.2.2.2.2.2.2.2.2.2.1 r.2.2.2.2.2.2.2.2.2.2.2.2.2.1) := by
  have hS := (SK_ok hK).1
  have hn := (SK_ok hK).1.1
  have hj := hm.2.1
  unfold f_m_moodBy
  refine wp_bind (k_m_asT hK hm) (fun o ho => ?_)
  obtain ⟨hR, hh, hf, hg⟩ := ho
  refine wp_gd (inbN (by omega) (by decide)) ?_
  rw [cl (show h < 2 ^ 31 by omega)]
  refine wl_m_moodBy_N16 (fun m v_courses v_wide v_hands v_frostsNow v_notFrosts v_gapsNow v_fell v_fellAll v_sheepFirst v_sheepMany v_told v_moods v_strongs v_wall v_yearNow v_forceNow v_holdNow v_fellOf v_handAt v_holdAt v_fallsAt v_standAt v_highAt v_throughAt x1 x2 x3 x4 => RKw K v_courses v_wide v_told ∧ CIh (SK K) v_hands (upd v_moods h (Smd (SK K) h)) v_strongs ∧ MIf (SK K) v_frostsNow v_notFrosts v_yearNow v_forceNow ∧ CIg (SK K) v_gapsNow v_gapYear v_gapColumn v_gapHand ∧ x1 = nI h ∧ x2 = Smd (SK K) h ∧ ∃ k, k ≤ 4 ∧ x4 = nI (0 + k) ∧ m = 4 - k ∧ x3 = bts (fMod (SK K) G h) 0 k) ?_ 1000 4 _ _ _ _ _ _ _ _ _ _ _ _ _ _ _ _ _ _ _ _ _ _ _ _ _ _ _ _ (by decide) ⟨hR, CIh_ownM hh h hlt, hf, hg, rfl, (hh.2 h hlt).1, 0, by decide, rfl, rfl, rfl⟩
  clear hR hh hf hg
  rintro m k16 ih v_courses v_wide v_hands v_frostsNow v_notFrosts v_gapsNow v_fell v_fellAll v_sheepFirst v_sheepMany v_told v_moods v_strongs v_wall v_yearNow v_forceNow v_holdNow v_fellOf v_handAt v_holdAt v_fallsAt v_standAt v_highAt v_throughAt x1 x2 x3 x4 ⟨hR, hc, hf, hg, rfl, rfl, k, hk, rfl, rfl, rfl⟩
  unfold f_m_moodBy_N16 f_m_moodBy_N46
  rw [cl (show h < 2 ^ 31 by omega)]
  refine wp_ite (fun g => ?_) (fun g => ?_)
  · have g' : 4 ≤ 0 + k := (nI_leX (a := 4) (by decide) (by omega)).mp g
    have e : k = 4 := by omega
    subst e
    exact wp_gd (inbN (by omega) (by decide)) (wp_some ⟨by dsimp only <;> rfl, RK_2 hR hc⟩)
  · have g' : ¬ 4 ≤ 0 + k := fun q => g ((nI_leX (a := 4) (b := 0 + k) (by decide) (by omega)).mpr q)
    refine wp_gd (inbN (by omega) (by decide)) ?_
    refine wp_bind (k_m_isSeen (S := wMd (SK K) (upd (Smd (SK K)) h (nI (0 + k)))) (wMd_ok hS _) (SK_ok hK).2 hG (RKw_w hR hj) (CIh_md hc _) hf hg hv) (fun o ho => ?_)
    rw [show nI (0 + k) + 1 = nI (0 + (k + 1)) from (nI_succ (0 + k)).symm]
    refine wp_ite (fun g2 => ?_) (fun g2 => ?_)
    · have e2 : fMod (SK K) G h (0 + k) = false := by rw [ho.1] at g2; exact (b2i_0 _).mp g2
      rw [or_z]
      exact ih (4 - (k + 1)) _ _ _ _ _ _ _ _ _ _ _ _ _ _ _ _ _ _ _ _ _ _ _ _ _ _ _ _ (by omega) ⟨hR, CIh_reM hc _, hf, hg, rfl, rfl, k + 1, by omega, rfl, rfl, (bts_0 e2).symm⟩
    · have e2 : fMod (SK K) G h (0 + k) = true := by rw [ho.1] at g2; exact b2i_1 g2
      exact ih (4 - (k + 1)) _ _ _ _ _ _ _ _ _ _ _ _ _ _ _ _ _ _ _ _ _ _ _ _ _ _ _ _ (by omega) ⟨hR, CIh_reM hc _, hf, hg, rfl, rfl, k + 1, by omega, rfl, rfl, (bts_1 e2).symm⟩
theorem k_m_was {K : Kt} (hK : Kok K) {G : Gt} (hG : Gok G) {v_courses : Int32} {v_wide : Int32} {v_hands : Int32} {v_jumpTold : Int32} {v_frosts : Int32} {v_gaps : Int32} {v_frostsNow : Int32} {v_notFrosts : Int32} {v_gapsNow : Int32} {v_fell : Int32} {v_fellAll : Int32} {v_sheepFirst : Int32} {v_sheepMany : Int32} {v_seens : Int32} {v_typed : Nat → Int32} {v_texts : Nat → Int32} {v_told : Nat → Int32} {v_moods : Nat → Int32} {v_strongs : Nat → Int32} {v_frostYear : Nat → Int32} {v_frostForce : Nat → Int32} {v_gapYear : Nat → Int32} {v_gapColumn : Nat → Int32} {v_gapHand : Nat → Int32} {v_wall : Nat → Int32} {v_yearNow : Nat → Int32} {v_forceNow : Nat → Int32} {v_holdNow : Nat → Int32} {v_fellOf : Nat → Int32} {v_handAt : Nat → Int32} {v_holdAt : Nat → Int32} {v_fallsAt : Nat → Int32} {v_standAt : Nat → Int32} {v_highAt : Nat → Int32} {v_throughAt : Nat → Int32} {v_seenYear : Nat → Int32} {v_seenPlace : Nat → Int32} {v_seenHand : Nat → Int32} {v_standBy : Nat → Int32} {a0 : Int32} {a1 : Int32} (hm : MP K v_typed v_texts v_jumpTold v_frosts v_frostYear v_frostForce v_gaps v_gapYear v_gapColumn v_gapHand) (hv : MIv G v_seens v_seenYear v_seenPlace v_seenHand) : wp (f_m_was v_courses v_wide v_hands v_jumpTold v_frosts v_gaps v_frostsNow v_notFrosts v_gapsNow v_fell v_fellAll v_sheepFirst v_sheepMany v_seens v_typed v_texts v_told v_moods v_strongs v_frostYear v_frostForce v_gapYear v_gapColumn v_gapHand v_wall v_yearNow v_forceNow v_holdNow v_fellOf v_handAt v_holdAt v_fallsAt v_standAt v_highAt v_throughAt v_seenYear v_seenPlace v_seenHand v_standBy a0 a1) (fun r => r.1 = A_was (SK K) G a0 a1) := by
  have hn := (SK_ok hK).1.1
  unfold f_m_was A_was
  refine wp_bind (k_m_isHand hK hm.1.1 hm.1.2) (fun o ho => ?_)
  rw [ho.1]
  refine wp_ite (fun g => ?_) (fun g1 => ?_)
  · rw [if_pos g]; exact wp_some (by dsimp only <;> rfl)
  rw [if_neg g1]
  refine wp_bindE (s_in a1 0 1) (wp_ite (fun g => ?_) (fun g2 => ?_))
  · rw [if_pos g]; exact wp_some (by dsimp only <;> rfl)
  rw [if_neg g2]
  obtain ⟨h, hlt, rfl⟩ := wi_m1 (by omega) g1
  rw [cl (show h < 2 ^ 31 by omega)]
  unfold vWas
  refine wp_ite (fun g3 => ?_) (fun g3 => ?_)
  · rw [if_pos g3]
    exact wp_bind (k_m_strongBy hK hG hlt hm hv) (fun o ho => wp_some ho.1)
  · rw [if_neg g3]
    exact wp_bind (k_m_moodBy hK hG hlt hm hv) (fun o ho => wp_some ho.1)
