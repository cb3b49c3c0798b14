/-! RELAY, both sides -/
def lst (M : Nat) (ok : Nat → Bool) (f : Nat → Nat) : Nat → Nat × Nat
  | 0 => (0, M)
  | k + 1 => if ok k = true ∧ f k < (lst M ok f k).2 then (k + 1, f k) else lst M ok f k
theorem lst_s (M : Nat) (ok : Nat → Bool) (f : Nat → Nat) (k : Nat) : lst M ok f (k + 1) = if ok k = true ∧ f k < (lst M ok f k).2 then (k + 1, f k) else lst M ok f k := rfl
theorem lst_b {M : Nat} {ok : Nat → Bool} {f : Nat → Nat} : ∀ k, (lst M ok f k).1 ≤ k ∧ (lst M ok f k).2 ≤ M ∧ ((lst M ok f k).1 = 0 → (lst M ok f k).2 = M)
  | 0 => ⟨Nat.le_refl _, Nat.le_refl _, fun _ => rfl⟩
  | k + 1 => by
    have ih := lst_b (M := M) (ok := ok) (f := f) k
    rw [lst_s]
    by_cases e : ok k = true ∧ f k < (lst M ok f k).2
    · rw [if_pos e]
      refine ⟨Nat.le_refl _, ?_, fun h => absurd h (Nat.succ_ne_zero k)⟩
      show f k ≤ M
      omega
    · rw [if_neg e]
      exact ⟨by omega, ih.2.1, ih.2.2⟩
def enc (b t : Nat) : Int32 := if b = 0 then -1 else nI t
theorem enc_1 {b t : Nat} (ht : t < 2 ^ 31) : enc b t = -1 ↔ b = 0 := by
  unfold enc
  by_cases e : b = 0
  · rw [if_pos e]; exact ⟨fun _ => e, fun _ => rfl⟩
  · rw [if_neg e]; exact ⟨fun h => absurd h (nI_ne1 ht), fun h => absurd h e⟩
theorem enc_0 {b t : Nat} (h : ¬ b = 0) : enc b t = nI t := if_neg h
def fRelay (S : Sit) (h p : Nat) : Nat := feS (wWl S (upd (Sw S) p (nI h))) 20
def okW (S : Sit) (p : Nat) : Bool := !decide (Sw S p = -1)
def rRelay (S : Sit) (h : Nat) : Nat → Nat × Nat := lst 9999 (okW S) (fRelay S h)
def vRelay (S : Sit) (h : Nat) (a1 : Int32) : Int32 := if a1 = 0 then enc (rRelay S h 40).1 ((rRelay S h 40).1 - 1) else enc (rRelay S h 40).1 (rRelay S h 40).2
def A_relay (S : Sit) (a0 a1 : Int32) : Int32 := if wi a0 0 (nI (Sn S) - 1) = 0 then -2 else if wi a1 0 1 = 0 then -2 else vRelay S a0.toNatClampNeg a1
theorem wWl_okv {S : Sit} (hS : Sok S) {p h : Nat} (hh : h < 8) : Sok (wWl S (upd (Sw S) p (nI h))) := wWl_ok hS (wok_upd hS.2.2.2.2.2.2.2.2.2 hh)
theorem wWl_in {S : Sit} (hI : Sin S) {p h : Nat} (hp : ¬ Sw S p = -1) : Sin (wWl S (upd (Sw S) p (nI h))) := by
  intro q hq hne
  by_cases e : q = p
  · rw [e]; exact hI p (by omega) hp
  · refine hI q hq (fun h2 => hne ?_)
    show upd (Sw S) p (nI h) q = -1
    rw [upd_at, if_neg e]; exact h2
theorem fRelay_lt {S : Sit} (hS : Sok S) (h p : Nat) : fRelay S h p < 9999 := by
  exact Nat.lt_of_le_of_lt (feS_b (S := wWl S (upd (Sw S) p (nI h))) hS.2.2.1 20) (by decide)
theorem isH_set {w : Wl} {p h k : Nat} (hp : p < 40) (hh : h < 8) (hk : k < 8) (q : Nat) : isH (upd w p (nI h)) k q = if q = p then decide (k = h) else isH w k q := by
  unfold isH
  rw [upd_at]
  by_cases e : q = p
  · rw [if_pos e, if_pos e, e, decide_eq_true hp, Bool.true_and]
    by_cases e2 : k = h
    · rw [e2, decide_eq_true rfl, decide_eq_true rfl]
    · rw [decide_eq_false e2, decide_eq_false (fun q => e2 ((nI_eqI (by omega) (by omega)).mp q).symm)]
  · rw [if_neg e, if_neg e]
theorem updL_at (f : Nat → Int64) (i : Nat) (x : Int64) (j : Nat) : vp_updL f i x j = if j = i then x else f j := rfl
theorem s_passOn {st : Nat → Int64} {w : Wl} (hr : rep st w) {p a b : Nat} (hp : p < 40) (ha : a < 8) (hb : b < 8) (hw : w p = nI a) : wp (f_wl_passOn st (nI p) (nI a) (nI b)) (fun r => rep r (upd w p (nI b))) := by
  unfold f_wl_passOn
  rw [cl (show a < 2 ^ 31 by omega), cl (show b < 2 ^ 31 by omega)]
  refine wp_gd (inbN (by omega) (by decide)) (wp_gd (inbN (by omega) (by decide)) (wp_gd (inbN (by omega) (by decide)) (wp_gd (inbN (by omega) (by decide)) (wp_some (fun k hk q => ?_)))))
  rw [isH_set hp hb hk]
  have hq : isH w k p = decide (k = a) := by
    unfold isH
    rw [decide_eq_true hp, Bool.true_and, hw]
    by_cases e : k = a
    · rw [e, decide_eq_true rfl, decide_eq_true rfl]
    · rw [decide_eq_false e, decide_eq_false (fun q => e ((nI_eqI (by omega) (by omega)).mp q).symm)]
  have h1 : ∀ j, j < 8 → bl (vp_updL st a (st a &&& (lshl (1 : Int64) (nI p) ^^^ (-1 : Int64))) j) q = (isH w j q && !decide (q = p)) := by
    intro j hj
    rw [updL_at]
    by_cases e : j = a
    · rw [if_pos e, bl_nl (by omega), e, hr a ha q]
    · rw [if_neg e, hr j hj q]
      by_cases e2 : q = p
      · rw [decide_eq_true e2, Bool.not_true, Bool.and_false, e2]
        cases h3 : isH w j p with
        | false => rfl
        | true =>
          have h4 : isH w a p = true := by
            unfold isH
            rw [decide_eq_true hp, Bool.true_and, hw, decide_eq_true rfl]
          exact absurd (isH_one hj ha h3 h4) e
      · rw [decide_eq_false e2, Bool.not_false, Bool.and_true]
  rw [updL_at]
  by_cases e : k = b
  · rw [if_pos e, bl_or, bl_one (by omega), h1 b hb, ← e]
    by_cases e2 : q = p
    · rw [if_pos e2, decide_eq_true e2, decide_eq_true rfl, Bool.or_true]
    · rw [if_neg e2, decide_eq_false e2, Bool.not_false, Bool.and_true, Bool.or_false]
  · rw [if_neg e, h1 k hk]
    by_cases e2 : q = p
    · rw [if_pos e2, decide_eq_true e2, decide_eq_false e, Bool.not_true, Bool.and_false]
    · rw [if_neg e2, decide_eq_false e2, Bool.not_false, Bool.and_true]
theorem rep_back {st : Nat → Int64} {w : Wl} {p a b : Nat} (h : rep st (upd (upd w p (nI b)) p (nI a))) (hw : w p = nI a) : rep st w := by
  intro k hk q
  rw [h k hk q]
  unfold isH
  rw [upd_at, upd_at]
  by_cases e : q = p
  · rw [if_pos e, e, hw]
  · rw [if_neg e, if_neg e]
theorem k_x_relay {S : Sit} (hS : Sok S) (hI : Sin S) (hA : Sab S = 0) {v_wall_courses : Int32} {v_wall_columns : Int32} {v_wall_jump : Int32} {v_wall_stones : Nat → Int64} {v_hands_told : Int32} {v_hands_mood : Nat → Int32} {v_hands_strong : Nat → Int32} {v_frosts_told : Int32} {v_frosts_year : Nat → Int32} {v_frosts_force : Nat → Int32} {v_gappings_told : Int32} {v_gappings_year : Nat → Int32} {v_gappings_column : Nat → Int32} {v_gappings_hand : Nat → Int32} {v_trial_all : Int64} {v_trial_losers : Int32} {v_trial_now : Nat → Int64} {v_trial_stones : Nat → Int64} {v_trial_standing : Nat → Int64} {v_trial_open : Nat → Int32} {v_trial_fallen : Nat → Int32} {a0 : Int32} {a1 : Int32} (hw : CIw S v_wall_courses v_wall_columns v_wall_jump v_wall_stones) (hh : CIh S v_hands_told v_hands_mood v_hands_strong) (hf : CIf S v_frosts_told v_frosts_year v_frosts_force) (hg : CIg S v_gappings_told v_gappings_year v_gappings_column v_gappings_hand) : wp (f_x_relay v_wall_courses v_wall_columns v_wall_jump v_wall_stones v_hands_told v_hands_mood v_hands_strong v_frosts_told v_frosts_year v_frosts_force v_gappings_told v_gappings_year v_gappings_column v_gappings_hand v_trial_all v_trial_losers v_trial_now v_trial_stones v_trial_standing v_trial_open v_trial_fallen a0 a1) (fun r => r.1 = A_relay S a0 a1 ∧ CIw S v_wall_courses v_wall_columns v_wall_jump r.2.1) := by
  have hn := hS.1
  have hh0 := hh
  obtain ⟨rfl, hh⟩ := hh
  unfold f_x_relay A_relay
  refine wp_bindE (q_hs_has _ a0) (wp_ite (fun g => ?_) (fun g1 => ?_))
  · rw [if_pos g]; exact wp_some ⟨by dsimp only <;> rfl, hw⟩
  rw [if_neg g1]
  refine wp_bindE (q_x_isEither a1) (wp_ite (fun g => ?_) (fun g2 => ?_))
  · rw [if_pos g]; exact wp_some ⟨by dsimp only <;> rfl, hw⟩
  rw [if_neg g2]
  obtain ⟨h, hlt, rfl⟩ := wi_m1 (by omega) g1
  rw [cl (show h < 2 ^ 31 by omega)]
  obtain ⟨hw1, hw2, hw3, hr⟩ := hw
  refine wl_x_relay_N29 (fun m v_wall_stones v_trial_all v_trial_losers v_trial_now v_trial_stones v_trial_standing v_trial_open v_trial_fallen x1 x2 x3 x4 x5 => rep v_wall_stones (Sw S) ∧ x1 = nI h ∧ x2 = a1 ∧ ∃ k, k ≤ 40 ∧ x5 = nI k ∧ m = 40 - k ∧ x3 = enc (rRelay S h k).1 (rRelay S h k).2 ∧ x4 = enc (rRelay S h k).1 ((rRelay S h k).1 - 1)) ?_ 1000 40 _ _ _ _ _ _ _ _ _ _ _ _ _ (by decide) ⟨hr, rfl, rfl, 0, by decide, rfl, rfl, rfl, rfl⟩
  clear hr
  rintro m k29 ih v_wall_stones v_trial_all v_trial_losers v_trial_now v_trial_stones v_trial_standing v_trial_open v_trial_fallen x1 x2 x3 x4 x5 ⟨hr, rfl, rfl, k, hk, rfl, rfl, rfl, rfl⟩
  have hb := lst_b (M := 9999) (ok := okW S) (f := fRelay S h) k
  have hb1 : (rRelay S h k).1 ≤ k := hb.1
  have hb2 : (rRelay S h k).2 ≤ 9999 := hb.2.1
  have hb3 : (rRelay S h k).1 = 0 → (rRelay S h k).2 = 9999 := hb.2.2
  have hst : rRelay S h (k + 1) = if okW S k = true ∧ fRelay S h k < (rRelay S h k).2 then (k + 1, fRelay S h k) else rRelay S h k := rfl
  clear hb
  unfold f_x_relay_N29 f_x_relay_N116
  refine wp_ite (fun g => ?_) (fun g => ?_)
  · have g' : 40 ≤ k := (nI_leX (a := 40) (by decide) (by omega)).mp g
    have e : k = 40 := by omega
    subst e
    unfold vRelay
    refine wp_ite (fun g3 => ?_) (fun g3 => ?_)
    · rw [if_pos g3]; exact wp_some ⟨by dsimp only <;> rfl, hw1, hw2, hw3, hr⟩
    · rw [if_neg g3]; exact wp_some ⟨by dsimp only <;> rfl, hw1, hw2, hw3, hr⟩
  · have g' : ¬ 40 ≤ k := fun q => g ((nI_leX (a := 40) (b := k) (by decide) (by omega)).mpr q)
    have e1 : nI k + 1 = nI (k + 1) := (nI_succ k).symm
    rw [e1]
    refine wp_bindE (s_setterAt (f := 0) (n := 8) (w := Sw S) (by decide) (by decide) (fun j hj => by show ∀ p, bl (v_wall_stones (0 + j)) p = _; rw [Nat.zero_add]; exact hr j hj) hS.2.2.2.2.2.2.2.2.2 (by omega)) ?_
    refine wp_ite (fun g3 => ?_) (fun g3 => ?_)
    · have e3 : okW S k = false := by unfold okW; rw [decide_eq_true g3]; rfl
      rw [e3, if_neg (fun q => absurd q.1 (by decide))] at hst
      exact ih (40 - (k + 1)) _ _ _ _ _ _ _ _ _ _ _ _ _ (by omega) ⟨hr, rfl, rfl, k + 1, by omega, rfl, rfl, by rw [hst], by rw [hst]⟩
    · have e3 : okW S k = true := by unfold okW; rw [decide_eq_false g3]; rfl
      obtain ⟨a, ha, ea⟩ := (hS.2.2.2.2.2.2.2.2.2 k (by omega)).resolve_left g3
      have ea' : Sw S k = nI a := ea
      rw [e3] at hst
      rw [ea']
      refine wp_bind (s_passOn hr (by omega) ha (show h < 8 by omega) ea) (fun r1 hr1 => ?_)
      refine wp_bind (k_runw (S := wWl S (upd (Sw S) k (nI h))) (wWl_okv hS (by omega)) hA ⟨hw1, hw2, hw3, hr1⟩ hh0 hf hg _ _ _ _ _ _ _) (fun o ho => ?_)
      refine wp_bind (s_passOn hr1 (by omega) (show h < 8 by omega) ha (by rw [upd_at, if_pos rfl])) (fun r2 hr2 => ?_)
      have hr3 := rep_back hr2 ea
      refine wp_bindE (s_allFallen ho) ?_
      have hlt2 : fRelay S h k < 9999 := fRelay_lt hS h k
      refine wp_ite (fun g4 => ?_) (fun g4 => ?_)
      · have e4 := (enc_1 (show (rRelay S h k).2 < 2 ^ 31 by omega)).mp g4
        rw [if_pos ⟨rfl, by rw [hb3 e4]; exact hlt2⟩] at hst
        exact ih (40 - (k + 1)) _ _ _ _ _ _ _ _ _ _ _ _ _ (by omega) ⟨hr3, rfl, rfl, k + 1, by omega, rfl, rfl, by rw [hst]; rfl, by rw [hst]; rfl⟩
      · have e4 : ¬ (rRelay S h k).1 = 0 := fun q => g4 ((enc_1 (show (rRelay S h k).2 < 2 ^ 31 by omega)).mpr q)
        have e5 : enc (rRelay S h k).1 (rRelay S h k).2 ≤ nI (fRelay S h k) ↔ (rRelay S h k).2 ≤ fRelay S h k := by
          rw [enc_0 e4]; exact nI_leX (by omega) (by omega)
        refine wp_ite (fun g5 => ?_) (fun g5 => ?_)
        · rw [if_neg (fun q => absurd (e5.mp g5) (by omega))] at hst
          exact ih (40 - (k + 1)) _ _ _ _ _ _ _ _ _ _ _ _ _ (by omega) ⟨hr3, rfl, rfl, k + 1, by omega, rfl, rfl, by rw [hst], by rw [hst]⟩
        · rw [if_pos ⟨rfl, Nat.lt_of_not_le (fun q => g5 (e5.mpr q))⟩] at hst
          exact ih (40 - (k + 1)) _ _ _ _ _ _ _ _ _ _ _ _ _ (by omega) ⟨hr3, rfl, rfl, k + 1, by omega, rfl, rfl, by rw [hst]; rfl, by rw [hst]; rfl⟩
theorem RKw_p {K : Kt} {c w : Int32} {t : Nat → Int32} (h : RKw K c w t) {p : Nat} (hp : p < 48) (v : Int32) : RKw K c w (upd (upd t p v) p (t p)) := ⟨h.1, h.2.1, fun q hq => by
  rw [upd_at, upd_at]
  by_cases e : q = p
  · rw [if_pos e, e]; exact h.2.2 p hp
  · rw [if_neg e, if_neg e]; exact h.2.2 q hq⟩
theorem k_m_relayOf {K : Kt} (hK : Kok K) {v_courses : Int32} {v_wide : Int32} {v_hands : Int32} {v_jumpTold : Int32} {v_frosts : Int32} {v_gaps : Int32} {v_frostsNow : Int32} {v_notFrosts : Int32} {v_gapsNow : Int32} {v_fell : Int32} {v_fellAll : Int32} {v_sheepFirst : Int32} {v_sheepMany : Int32} {v_typed : Nat → Int32} {v_texts : Nat → Int32} {v_told : Nat → Int32} {v_moods : Nat → Int32} {v_strongs : Nat → Int32} {v_frostYear : Nat → Int32} {v_frostForce : Nat → Int32} {v_gapYear : Nat → Int32} {v_gapColumn : Nat → Int32} {v_gapHand : Nat → Int32} {v_wall : Nat → Int32} {v_yearNow : Nat → Int32} {v_forceNow : Nat → Int32} {v_holdNow : Nat → Int32} {v_fellOf : Nat → Int32} {v_handAt : Nat → Int32} {v_holdAt : Nat → Int32} {v_fallsAt : Nat → Int32} {v_standAt : Nat → Int32} {v_highAt : Nat → Int32} {v_throughAt : Nat → Int32} {a1 : Int32} {h : Nat} (hlt : h < Sn (SK K)) (hm : MP K v_typed v_texts v_jumpTold v_frosts v_frostYear v_frostForce v_gaps v_gapYear v_gapColumn v_gapHand) : wp (f_m_relayOf v_courses v_wide v_hands v_jumpTold v_frosts v_gaps v_frostsNow v_notFrosts v_gapsNow v_fell v_fellAll v_sheepFirst v_sheepMany v_typed v_texts v_told v_moods v_strongs v_frostYear v_frostForce v_gapYear v_gapColumn v_gapHand v_wall v_yearNow v_forceNow v_holdNow v_fellOf v_handAt v_holdAt v_fallsAt v_standAt v_highAt v_throughAt (nI h) a1) (fun r => r.1 = vRelay (SK K) h a1 ∧ RK K r.2.1 r.2.2.1 r.2.2.2.1 r.2.2.2.2.2.2.2.2.2.2.2.1 r.2.2.2.2.2.2.2.2.2.2.2.2.1 r.2.2.2.2.2.2.2.2.2.2.2.2.2.1) := by
  have hS := (SK_ok hK).1
  have hn := (SK_ok hK).1.1
  have hj := hm.2.1
  unfold f_m_relayOf
  refine wp_bind (k_m_asT hK hm) (fun o ho => ?_)
  obtain ⟨hR, hh, hf, hg⟩ := ho
  refine wl_m_relayOf_N14 (fun m v_courses v_wide v_hands v_frostsNow v_notFrosts v_gapsNow v_fell v_fellAll v_sheepFirst v_sheepMany v_told v_moods v_strongs v_wall v_yearNow v_forceNow v_holdNow v_fellOf v_handAt v_holdAt v_fallsAt v_standAt v_highAt v_throughAt x1 x2 x3 x4 x5 => RKw K v_courses v_wide v_told ∧ CIh (SK K) v_hands v_moods v_strongs ∧ MIf (SK K) v_frostsNow v_notFrosts v_yearNow v_forceNow ∧ CIg (SK K) v_gapsNow v_gapYear v_gapColumn v_gapHand ∧ x1 = nI h ∧ x2 = a1 ∧ ∃ k, k ≤ 40 ∧ x5 = nI k ∧ m = 40 - k ∧ x4 = nI (rRelay (SK K) h k).2 ∧ x3 = enc (rRelay (SK K) h k).1 ((rRelay (SK K) h k).1 - 1)) ?_ 1000 40 _ _ _ _ _ _ _ _ _ _ _ _ _ _ _ _ _ _ _ _ _ _ _ _ _ _ _ _ _ (by decide) ⟨hR, hh, hf, hg, rfl, rfl, 0, by decide, rfl, rfl, rfl, rfl⟩
  clear hR hh hf hg
  rintro m k14 ih v_courses v_wide v_hands v_frostsNow v_notFrosts v_gapsNow v_fell v_fellAll v_sheepFirst v_sheepMany v_told v_moods v_strongs v_wall v_yearNow v_forceNow v_holdNow v_fellOf v_handAt v_holdAt v_fallsAt v_standAt v_highAt v_throughAt x1 x2 x3 x4 x5 ⟨hR, hh, hf, hg, rfl, rfl, k, hk, rfl, rfl, rfl, rfl⟩
  have hb := lst_b (M := 9999) (ok := okW (SK K)) (f := fRelay (SK K) h) k
  have hb1 : (rRelay (SK K) h k).1 ≤ k := hb.1
  have hb2 : (rRelay (SK K) h k).2 ≤ 9999 := hb.2.1
  have hst : rRelay (SK K) h (k + 1) = if okW (SK K) k = true ∧ fRelay (SK K) h k < (rRelay (SK K) h k).2 then (k + 1, fRelay (SK K) h k) else rRelay (SK K) h k := rfl
  clear hb
  unfold f_m_relayOf_N14 f_m_relayOf_N72
  refine wp_ite (fun g => ?_) (fun g => ?_)
  · have g' : 40 ≤ k := (nI_leX (a := 40) (by decide) (by omega)).mp g
    have e : k = 40 := by omega
    subst e
    unfold vRelay
    refine wp_ite (fun g3 => ?_) (fun g3 => ?_)
    · have e4 := (enc_1 (show (rRelay (SK K) h 40).1 - 1 < 2 ^ 31 by omega)).mp g3
      refine wp_some ⟨?_, RK_2 hR hh⟩
      show enc (rRelay (SK K) h 40).1 ((rRelay (SK K) h 40).1 - 1) = _
      rw [e4]
      by_cases e5 : x2 = 0
      · rw [if_pos e5]
      · rw [if_neg e5]; rfl
    · have e4 : ¬ (rRelay (SK K) h 40).1 = 0 := fun q => g3 ((enc_1 (show (rRelay (SK K) h 40).1 - 1 < 2 ^ 31 by omega)).mpr q)
      refine wp_ite (fun g4 => ?_) (fun g4 => ?_)
      · rw [if_pos g4]; exact wp_some ⟨by dsimp only <;> rfl, RK_2 hR hh⟩
      · rw [if_neg g4]; exact wp_some ⟨(enc_0 e4).symm, RK_2 hR hh⟩
  · have g' : ¬ 40 ≤ k := fun q => g ((nI_leX (a := 40) (b := k) (by decide) (by omega)).mpr q)
    have e1 : nI k + 1 = nI (k + 1) := (nI_succ k).symm
    rw [e1, cl (show k < 2 ^ 31 by omega)]
    refine wp_gd (inbN (by omega) (by decide)) ?_
    have ht : v_told k = Sw (SK K) k := hR.2.2 k (by omega)
    refine wp_ite (fun g3 => ?_) (fun g3 => ?_)
    · have e3 : okW (SK K) k = false := by unfold okW; rw [← ht, decide_eq_true g3]; rfl
      rw [e3, if_neg (fun q => absurd q.1 (by decide))] at hst
      exact ih (40 - (k + 1)) _ _ _ _ _ _ _ _ _ _ _ _ _ _ _ _ _ _ _ _ _ _ _ _ _ _ _ _ _ (by omega) ⟨hR, hh, hf, hg, rfl, rfl, k + 1, by omega, rfl, rfl, by rw [hst], by rw [hst]⟩
    · have g3' : ¬ Sw (SK K) k = -1 := fun q => g3 (ht.trans q)
      have e3 : okW (SK K) k = true := by unfold okW; rw [decide_eq_false g3']; rfl
      rw [e3] at hst
      refine wp_gd (inbN (by omega) (by decide)) ?_
      refine wp_bind (k_runs (S := wWl (SK K) (upd (Sw (SK K)) k (nI h))) (wWl_okv hS (by omega)) (wWl_in (SK_ok hK).2 g3') ⟨hR.1, hR.2.1, hj, fun p hp => ?_⟩ hh hf hg _ _ _ _ _ _ _ _ _ _ _ _ _) (fun o ho => ?_)
      · show upd v_told k (nI h) p = upd (Sw (SK K)) k (nI h) p
        rw [upd_at, upd_at, hR.2.2 p (by omega)]
      refine wp_gd (inbN (by omega) (by decide)) ?_
      have hR' := RKw_p hR (show k < 48 by omega) (nI h)
      have hlt2 : fRelay (SK K) h k < 9999 := fRelay_lt hS h k
      have ef : o.2.1 = nI (fRelay (SK K) h k) := ho.1
      have e5 : nI (rRelay (SK K) h k).2 ≤ nI (fRelay (SK K) h k) ↔ (rRelay (SK K) h k).2 ≤ fRelay (SK K) h k := nI_leX (by omega) (by omega)
      rw [ef]
      refine wp_ite (fun g5 => wp_pos g5 ?_) (fun g5 => wp_neg g5 ?_)
      · rw [if_neg (fun q => absurd (e5.mp g5) (by omega))] at hst
        exact ih (40 - (k + 1)) _ _ _ _ _ _ _ _ _ _ _ _ _ _ _ _ _ _ _ _ _ _ _ _ _ _ _ _ _ (by omega) ⟨hR', hh, hf, hg, rfl, rfl, k + 1, by omega, rfl, rfl, by rw [hst], by rw [hst]⟩
      · rw [if_pos ⟨rfl, Nat.lt_of_not_le (fun q => g5 (e5.mpr q))⟩] at hst
        exact ih (40 - (k + 1)) _ _ _ _ _ _ _ _ _ _ _ _ _ _ _ _ _ _ _ _ _ _ _ _ _ _ _ _ _ (by omega) ⟨hR', hh, hf, hg, rfl, rfl, k + 1, by omega, rfl, rfl, by rw [hst], by rw [hst]; rfl⟩
theorem k_m_relay {K : Kt} (hK : Kok K) {v_courses : Int32} {v_wide : Int32} {v_hands : Int32} {v_jumpTold : Int32} {v_frosts : Int32} {v_gaps : Int32} {v_frostsNow : Int32} {v_notFrosts : Int32} {v_gapsNow : Int32} {v_fell : Int32} {v_fellAll : Int32} {v_sheepFirst : Int32} {v_sheepMany : Int32} {v_typed : Nat → Int32} {v_texts : Nat → Int32} {v_told : Nat → Int32} {v_moods : Nat → Int32} {v_strongs : Nat → Int32} {v_frostYear : Nat → Int32} {v_frostForce : Nat → Int32} {v_gapYear : Nat → Int32} {v_gapColumn : Nat → Int32} {v_gapHand : Nat → Int32} {v_wall : Nat → Int32} {v_yearNow : Nat → Int32} {v_forceNow : Nat → Int32} {v_holdNow : Nat → Int32} {v_fellOf : Nat → Int32} {v_handAt : Nat → Int32} {v_holdAt : Nat → Int32} {v_fallsAt : Nat → Int32} {v_standAt : Nat → Int32} {v_highAt : Nat → Int32} {v_throughAt : Nat → Int32} {a0 : Int32} {a1 : Int32} (hm : MP K v_typed v_texts v_jumpTold v_frosts v_frostYear v_frostForce v_gaps v_gapYear v_gapColumn v_gapHand) : wp (f_m_relay v_courses v_wide v_hands v_jumpTold v_frosts v_gaps v_frostsNow v_notFrosts v_gapsNow v_fell v_fellAll v_sheepFirst v_sheepMany v_typed v_texts v_told v_moods v_strongs v_frostYear v_frostForce v_gapYear v_gapColumn v_gapHand v_wall v_yearNow v_forceNow v_holdNow v_fellOf v_handAt v_holdAt v_fallsAt v_standAt v_highAt v_throughAt a0 a1) (fun r => r.1 = A_relay (SK K) a0 a1) := by
  have hn := (SK_ok hK).1.1
  unfold f_m_relay A_relay
  refine wp_bind (k_m_isHand hK hm.1.1 hm.1.2) (fun o ho => ?_)
  rw [ho.1]
  refine wp_ite (fun g => ?_) (fun g1 => ?_)
  · rw [if_pos g]; exact wp_some (by dsimp only <;> rfl)
  rw [if_neg g1]
  refine wp_bindE (s_in a1 0 1) (wp_ite (fun g => ?_) (fun g2 => ?_))
  · rw [if_pos g]; exact wp_some (by dsimp only <;> rfl)
  rw [if_neg g2]
  obtain ⟨h, hlt, rfl⟩ := wi_m1 (by omega) g1
  rw [cl (show h < 2 ^ 31 by omega)]
  exact wp_bind (k_m_relayOf hK hlt hm) (fun o ho => wp_some ho.1)
