/-! MEND, both sides -/
def gMend (S : Sit) (y : Int32) (k : Nat) : Sit := wGp S (Sgn S + 1) (upd (Sgy S) (Sgn S) y) (upd (Sgc S) (Sgn S) (nI (k / Sn S))) (upd (Sgh S) (Sgn S) (nI (k % Sn S)))
def fMend (S : Sit) (y : Int32) (k : Nat) : Nat := shM (gMend S y k) 20
def rMend (S : Sit) (y : Int32) : Nat → Nat × Nat := lst 99 (fun _ => true) (fMend S y)
def eMend (r : Nat × Nat) (n : Nat) (a1 : Int32) : Int32 := if a1 = 0 then enc r.1 ((r.1 - 1) / n) else if a1 = 1 then enc r.1 ((r.1 - 1) % n) else enc r.1 r.2
def vMend (S : Sit) (y a1 : Int32) : Int32 := eMend (rMend S y (SW S * Sn S)) (Sn S) a1
def A_mend (S : Sit) (a0 a1 : Int32) : Int32 := if wi a0 0 19 = 0 then -2 else if wi a1 0 2 = 0 then -2 else vMend S a0 a1
theorem CIg_set {S : Sit} {n : Int32} {gy gc gh gy' gc' gh' : Nat → Int32} (hg : CIg S n gy gc gh) (hy : ∀ k, k < Sgn S → gy' k = gy k) (hc : ∀ k, k < Sgn S → gc' k = gc k) (hh : ∀ k, k < Sgn S → gh' k = gh k) : CIg S (nI (Sgn S)) gy' gc' gh' := ⟨rfl, fun k hk => ⟨(hy k hk).trans (hg.2 k hk).1, (hc k hk).trans (hg.2 k hk).2.1, (hh k hk).trans (hg.2 k hk).2.2⟩⟩
theorem upd_ne {f : Nat → Int32} {i : Nat} {x : Int32} (k : Nat) (hk : k < i) : upd f i x k = f k := by
  rw [upd_at, if_neg (by omega)]
theorem upd_eq (f : Nat → Int32) (i : Nat) (x : Int32) : upd f i x i = x := by rw [upd_at, if_pos rfl]
theorem CIg_add {S : Sit} {n : Int32} {gy gc gh : Nat → Int32} (hg : CIg S n gy gc gh) {y : Int32} {k : Nat} (ey : gy (Sgn S) = y) (ec : gc (Sgn S) = nI (k / Sn S)) (eh : gh (Sgn S) = nI (k % Sn S)) : CIg (gMend S y k) (nI (Sgn S + 1)) gy gc gh := ⟨rfl, fun j hj => by
  have hj' : j < Sgn S + 1 := hj
  show gy j = upd (Sgy S) (Sgn S) y j ∧ gc j = upd (Sgc S) (Sgn S) (nI (k / Sn S)) j ∧ gh j = upd (Sgh S) (Sgn S) (nI (k % Sn S)) j
  rw [upd_at, upd_at, upd_at]
  by_cases e : j = Sgn S
  · rw [if_pos e, if_pos e, if_pos e, e]; exact ⟨ey, ec, eh⟩
  · rw [if_neg e, if_neg e, if_neg e]; exact hg.2 j (by omega)⟩
theorem dvm {c n h : Nat} (hh : h < n) : (c * n + h) / n = c ∧ (c * n + h) % n = h := by
  have hp : 0 < n := by omega
  rw [Nat.add_comm (c * n) h, Nat.add_mul_div_right _ _ hp, Nat.add_mul_mod_self_right, Nat.div_eq_of_lt hh, Nat.mod_eq_of_lt hh]
  exact ⟨Nat.zero_add c, rfl⟩
theorem gMend_ok {S : Sit} (hS : Sok S) (hG : Sgn S ≤ 6) (y : Int32) {k : Nat} (hk : k < SW S * Sn S) : Sok (gMend S y k) := by
  have hn := hS.1
  have hW := hS.2.2.2.2.2.2.2.1
  have hp : 0 < Sn S := by
    rcases Nat.eq_zero_or_pos (Sn S) with e | e
    · rw [e, Nat.mul_zero] at hk; omega
    · exact e
  have h1 : k / Sn S < SW S := Nat.div_lt_of_lt_mul (by rw [Nat.mul_comm]; exact hk)
  have h2 : k % Sn S < Sn S := Nat.mod_lt _ hp
  refine wGp_ok hS (by omega) (fun j hj => ?_)
  rw [upd_at, upd_at]
  by_cases e : j = Sgn S
  · rw [if_pos e, if_pos e]; exact ⟨⟨_, by omega, rfl⟩, _, by omega, rfl⟩
  · rw [if_neg e, if_neg e]; exact hS.2.2.2.2.2.1 j (by omega)
theorem fMend_lt (S : Sit) (y : Int32) (k : Nat) : fMend S y k < 99 := by
  have := bct_le (anY (gMend S y k)) 20
  have h2 : fMend S y k ≤ 20 := this
  omega
theorem rMend_s (S : Sit) (y : Int32) (k : Nat) : rMend S y (k + 1) = if fMend S y k < (rMend S y k).2 then (k + 1, fMend S y k) else rMend S y k := by
  show (if true = true ∧ fMend S y k < (rMend S y k).2 then (k + 1, fMend S y k) else rMend S y k) = _
  by_cases e : fMend S y k < (rMend S y k).2
  · rw [if_pos e, if_pos ⟨rfl, e⟩]
  · rw [if_neg e, if_neg (fun q => e q.2)]
theorem k_x_mend {S : Sit} (hS : Sok S) (hI : Sin S) (hA : Sab S = 0) (hG : Sgn S ≤ 6) {v_wall_courses : Int32} {v_wall_columns : Int32} {v_wall_jump : Int32} {v_wall_stones : Nat → Int64} {v_hands_told : Int32} {v_hands_mood : Nat → Int32} {v_hands_strong : Nat → Int32} {v_frosts_told : Int32} {v_frosts_year : Nat → Int32} {v_frosts_force : Nat → Int32} {v_gappings_told : Int32} {v_gappings_year : Nat → Int32} {v_gappings_column : Nat → Int32} {v_gappings_hand : Nat → Int32} {v_trial_all : Int64} {v_trial_losers : Int32} {v_trial_now : Nat → Int64} {v_trial_stones : Nat → Int64} {v_trial_standing : Nat → Int64} {v_trial_open : Nat → Int32} {v_trial_fallen : Nat → Int32} {a0 : Int32} {a1 : Int32} (hw : CIw S v_wall_courses v_wall_columns v_wall_jump v_wall_stones) (hh : CIh S v_hands_told v_hands_mood v_hands_strong) (hf : CIf S v_frosts_told v_frosts_year v_frosts_force) (hg : CIg S v_gappings_told v_gappings_year v_gappings_column v_gappings_hand) : wp (f_x_mend v_wall_courses v_wall_columns v_wall_jump v_wall_stones v_hands_told v_hands_mood v_hands_strong v_frosts_told v_frosts_year v_frosts_force v_gappings_told v_gappings_year v_gappings_column v_gappings_hand v_trial_all v_trial_losers v_trial_now v_trial_stones v_trial_standing v_trial_open v_trial_fallen a0 a1) (fun r => r.1 = A_mend S a0 a1 ∧ CIg S r.2.1 r.2.2.1 r.2.2.2.1 r.2.2.2.2.1) := by
  have hn := hS.1
  have hW := hS.2.2.2.2.2.2.2.1
  have hh0 := hh
  have hw0 := hw
  obtain ⟨rfl, hh⟩ := hh
  obtain ⟨-, hw2, -, -⟩ := hw
  unfold f_x_mend A_mend
  refine wp_bindE (q_x_isYear a0) (wp_ite (fun g => ?_) (fun g1 => ?_))
  · rw [if_pos g]; exact wp_some ⟨by dsimp only <;> rfl, hg⟩
  rw [if_neg g1]
  refine wp_bindE (s_within a1 0 2) (wp_ite (fun g => ?_) (fun g2 => ?_))
  · rw [if_pos g]; exact wp_some ⟨by dsimp only <;> rfl, hg⟩
  rw [if_neg g2]
  refine wl_x_mend_N30 (fun m v_gappings_told v_gappings_year v_gappings_column v_gappings_hand v_trial_all v_trial_losers v_trial_now v_trial_stones v_trial_standing v_trial_open v_trial_fallen x1 x2 x3 x4 x5 x6 => CIg S v_gappings_told v_gappings_year v_gappings_column v_gappings_hand ∧ a0 = x1 ∧ a1 = x2 ∧ ∃ c, c ≤ SW S ∧ x6 = nI c ∧ m = SW S - c ∧ x3 = enc (rMend S a0 (c * Sn S)).1 (rMend S a0 (c * Sn S)).2 ∧ x4 = enc (rMend S a0 (c * Sn S)).1 (((rMend S a0 (c * Sn S)).1 - 1) / Sn S) ∧ x5 = enc (rMend S a0 (c * Sn S)).1 (((rMend S a0 (c * Sn S)).1 - 1) % Sn S)) ?_ 1000 (SW S) _ _ _ _ _ _ _ _ _ _ _ _ _ _ _ _ _ (by omega) ⟨hg, rfl, rfl, 0, by omega, rfl, by omega, by rw [Nat.zero_mul]; rfl, by rw [Nat.zero_mul]; rfl, by rw [Nat.zero_mul]; rfl⟩
  clear hg
  rintro m k30 ih v_gappings_told v_gappings_year v_gappings_column v_gappings_hand v_trial_all v_trial_losers v_trial_now v_trial_stones v_trial_standing v_trial_open v_trial_fallen x1 x2 x3 x4 x5 x6 ⟨hg, rfl, rfl, c, hc, rfl, rfl, rfl, rfl, rfl⟩
  unfold f_x_mend_N30
  rw [hw2]
  refine wp_ite (fun g => ?_) (fun g => ?_)
  · have g' : SW S ≤ c := (nI_leX (by omega) (by omega)).mp g
    have e : c = SW S := by omega
    subst e
    unfold vMend eMend
    refine wp_ite (fun g3 => ?_) (fun g3 => ?_)
    · rw [if_pos g3]; exact wp_some ⟨by dsimp only <;> rfl, hg⟩
    · rw [if_neg g3]
      refine wp_ite (fun g4 => ?_) (fun g4 => ?_)
      · rw [if_pos g4]; exact wp_some ⟨by dsimp only <;> rfl, hg⟩
      · rw [if_neg g4]; exact wp_some ⟨by dsimp only <;> rfl, hg⟩
  · have g' : ¬ SW S ≤ c := fun q => g ((nI_leX (by omega) (by omega)).mpr q)
    rw [← hw2]
    refine wl_x_mend_N45 (fun m v_gappings_told v_gappings_year v_gappings_column v_gappings_hand v_trial_all v_trial_losers v_trial_now v_trial_stones v_trial_standing v_trial_open v_trial_fallen x1 x2 x3 x4 x5 x6 x7 => CIg S v_gappings_told v_gappings_year v_gappings_column v_gappings_hand ∧ a0 = x1 ∧ a1 = x2 ∧ x6 = nI c ∧ ∃ h, h ≤ Sn S ∧ x7 = nI h ∧ m = Sn S - h ∧ x3 = enc (rMend S a0 (c * Sn S + h)).1 (rMend S a0 (c * Sn S + h)).2 ∧ x4 = enc (rMend S a0 (c * Sn S + h)).1 (((rMend S a0 (c * Sn S + h)).1 - 1) / Sn S) ∧ x5 = enc (rMend S a0 (c * Sn S + h)).1 (((rMend S a0 (c * Sn S + h)).1 - 1) % Sn S)) ?_ 1000 (Sn S) _ _ _ _ _ _ _ _ _ _ _ _ _ _ _ _ _ _ (by omega) ⟨hg, rfl, rfl, rfl, 0, by omega, rfl, by omega, rfl, rfl, rfl⟩
    clear hg
    rintro m k45 ih2 v_gappings_told v_gappings_year v_gappings_column v_gappings_hand v_trial_all v_trial_losers v_trial_now v_trial_stones v_trial_standing v_trial_open v_trial_fallen x1 x2 x3 x4 x5 x6 x7 ⟨hg, rfl, rfl, rfl, h, hle, rfl, rfl, rfl, rfl, rfl⟩
    have hb := lst_b (M := 99) (ok := fun _ => true) (f := fMend S a0) (c * Sn S + h)
    have hb2 : (rMend S a0 (c * Sn S + h)).2 ≤ 99 := hb.2.1
    have hb3 : (rMend S a0 (c * Sn S + h)).1 = 0 → (rMend S a0 (c * Sn S + h)).2 = 99 := hb.2.2
    clear hb
    unfold f_x_mend_N45 f_x_mend_N114
    refine wp_ite (fun g3 => ?_) (fun g3 => ?_)
    · have g4 : Sn S ≤ h := (nI_leX (by omega) (by omega)).mp g3
      have e : h = Sn S := by omega
      have e2 : c * Sn S + h = (c + 1) * Sn S := by rw [e, Nat.succ_mul]
      rw [show nI c + 1 = nI (c + 1) from (nI_succ c).symm, e2]
      exact ih (SW S - (c + 1)) _ _ _ _ _ _ _ _ _ _ _ _ _ _ _ _ _ (by omega) ⟨hg, rfl, rfl, c + 1, by omega, rfl, rfl, rfl, rfl, rfl⟩
    · have g4 : h < Sn S := Nat.lt_of_not_le (fun q => g3 ((nI_leX (by omega) (by omega)).mpr q))
      have hd := dvm (c := c) g4
      have hst := rMend_s S a0 (c * Sn S + h)
      have hkk : c * Sn S + h < SW S * Sn S := by
        have : (c + 1) * Sn S ≤ SW S * Sn S := Nat.mul_le_mul_right _ (by omega)
        rw [Nat.succ_mul] at this
        omega
      have hlt := fMend_lt S a0 (c * Sn S + h)
      have hadd : wp (f_gp_add v_gappings_told v_gappings_year v_gappings_column v_gappings_hand a0 (nI c) (nI h)) (fun r => CIg (gMend S a0 (c * Sn S + h)) r.1 r.2.1 r.2.2.1 r.2.2.2 ∧ CIg S (r.1 - 1) r.2.1 r.2.2.1 r.2.2.2) := by
        unfold f_gp_add
        rw [hg.1]
        refine wp_neg (fun q => ?_) ?_
        · have := (nI_ltX (a := 6) (b := Sgn S) (by decide) (by omega)).mp q
          omega
        · rw [cl (show Sgn S < 2 ^ 31 by omega)]
          refine wp_gd (inbN (by omega) (by decide)) (wp_gd (inbN (by omega) (by decide)) (wp_gd (inbN (by omega) (by decide)) (wp_some ?_)))
          have h0 : CIg S (nI (Sgn S)) (upd v_gappings_year (Sgn S) a0) (upd v_gappings_column (Sgn S) (nI c)) (upd v_gappings_hand (Sgn S) (nI h)) := CIg_set hg upd_ne upd_ne upd_ne
          have e1 : nI (Sgn S) + 1 = nI (Sgn S + 1) := (nI_succ _).symm
          refine ⟨?_, ?_⟩
          · show CIg _ (nI (Sgn S) + 1) _ _ _
            rw [e1]
            exact CIg_add h0 (upd_eq _ _ _) (by rw [upd_eq, hd.1]) (by rw [upd_eq, hd.2])
          · show CIg _ (nI (Sgn S) + 1 - 1) _ _ _
            rw [e1, show (1 : Int32) = nI 1 from rfl, nI_subI (by omega)]
            exact h0
      refine wp_bind hadd (fun r1 hr1 => ?_)
      refine wp_bind (k_runw (S := gMend S a0 (c * Sn S + h)) (gMend_ok hS hG a0 hkk) hA hw0 hh0 hf hr1.1 _ _ _ _ _ _ _) (fun o ho => ?_)
      refine wp_bindE (s_openYears (gMend_ok hS hG a0 hkk) ho) ?_
      have e1 : nI h + 1 = nI (h + 1) := (nI_succ h).symm
      rw [e1]
      have eE : (c * Sn S + h + 1 - 1) / Sn S = c ∧ (c * Sn S + h + 1 - 1) % Sn S = h := hd
      have take : fMend S a0 (c * Sn S + h) < (rMend S a0 (c * Sn S + h)).2 → wp (k45 (r1.1 - 1) r1.2.1 r1.2.2.1 r1.2.2.2 o.1 o.2.1 o.2.2.1 o.2.2.2.1 o.2.2.2.2.1 o.2.2.2.2.2.1 o.2.2.2.2.2.2 a0 a1 (nI (fMend S a0 (c * Sn S + h))) (nI c) (nI h) (nI c) (nI (h + 1))) (fun r => r.1 = vMend S a0 a1 ∧ CIg S r.2.1 r.2.2.1 r.2.2.2.1 r.2.2.2.2.1) := by
        intro ht
        rw [if_pos ht] at hst
        refine ih2 (Sn S - (h + 1)) _ _ _ _ _ _ _ _ _ _ _ _ _ _ _ _ _ _ (by omega) ⟨hr1.2, rfl, rfl, rfl, h + 1, by omega, rfl, rfl, ?_, ?_, ?_⟩
        · rw [← Nat.add_assoc, hst]; rfl
        · rw [← Nat.add_assoc, hst]
          show nI c = enc (c * Sn S + h + 1) ((c * Sn S + h + 1 - 1) / Sn S)
          rw [eE.1]; rfl
        · rw [← Nat.add_assoc, hst]
          show nI h = enc (c * Sn S + h + 1) ((c * Sn S + h + 1 - 1) % Sn S)
          rw [eE.2]; rfl
      refine wp_ite (fun g5 => ?_) (fun g5 => ?_)
      · have e4 := (enc_1 (show (rMend S a0 (c * Sn S + h)).2 < 2 ^ 31 by omega)).mp g5
        exact take (by rw [hb3 e4]; exact hlt)
      · have e4 : ¬ (rMend S a0 (c * Sn S + h)).1 = 0 := fun q => g5 ((enc_1 (show (rMend S a0 (c * Sn S + h)).2 < 2 ^ 31 by omega)).mpr q)
        have e5 : enc (rMend S a0 (c * Sn S + h)).1 (rMend S a0 (c * Sn S + h)).2 ≤ nI (fMend S a0 (c * Sn S + h)) ↔ (rMend S a0 (c * Sn S + h)).2 ≤ fMend S a0 (c * Sn S + h) := by
          rw [enc_0 e4]; exact nI_leX (by omega) (by omega)
        refine wp_ite (fun g6 => ?_) (fun g6 => ?_)
        · rw [if_neg (fun q => absurd (e5.mp g6) (by omega))] at hst
          exact ih2 (Sn S - (h + 1)) _ _ _ _ _ _ _ _ _ _ _ _ _ _ _ _ _ _ (by omega) ⟨hr1.2, rfl, rfl, rfl, h + 1, by omega, rfl, rfl, by rw [← Nat.add_assoc, hst], by rw [← Nat.add_assoc, hst], by rw [← Nat.add_assoc, hst]⟩
        · exact take (Nat.lt_of_not_le (fun q => g6 (e5.mpr q)))
theorem k_m_mendOf {K : Kt} (hK : Kok K) {v_courses : Int32} {v_wide : Int32} {v_hands : Int32} {v_jumpTold : Int32} {v_frosts : Int32} {v_gaps : Int32} {v_frostsNow : Int32} {v_notFrosts : Int32} {v_gapsNow : Int32} {v_fell : Int32} {v_fellAll : Int32} {v_sheepFirst : Int32} {v_sheepMany : Int32} {v_typed : Nat → Int32} {v_texts : Nat → Int32} {v_told : Nat → Int32} {v_moods : Nat → Int32} {v_strongs : Nat → Int32} {v_frostYear : Nat → Int32} {v_frostForce : Nat → Int32} {v_gapYear : Nat → Int32} {v_gapColumn : Nat → Int32} {v_gapHand : Nat → Int32} {v_wall : Nat → Int32} {v_yearNow : Nat → Int32} {v_forceNow : Nat → Int32} {v_holdNow : Nat → Int32} {v_fellOf : Nat → Int32} {v_handAt : Nat → Int32} {v_holdAt : Nat → Int32} {v_fallsAt : Nat → Int32} {v_standAt : Nat → Int32} {v_highAt : Nat → Int32} {v_throughAt : Nat → Int32} {a0 : Int32} {a1 : Int32} (hm : MP K v_typed v_texts v_jumpTold v_frosts v_frostYear v_frostForce v_gaps v_gapYear v_gapColumn v_gapHand) : wp (f_m_mendOf v_courses v_wide v_hands v_jumpTold v_frosts v_gaps v_frostsNow v_notFrosts v_gapsNow v_fell v_fellAll v_sheepFirst v_sheepMany v_typed v_texts v_told v_moods v_strongs v_frostYear v_frostForce v_gapYear v_gapColumn v_gapHand v_wall v_yearNow v_forceNow v_holdNow v_fellOf v_handAt v_holdAt v_fallsAt v_standAt v_highAt v_throughAt a0 a1) (fun r => r.1 = vMend (SK K) a0 a1 ∧ RK K r.2.1 r.2.2.1 r.2.2.2.1 r.2.2.2.2.2.2.2.2.2.2.2.1 r.2.2.2.2.2.2.2.2.2.2.2.2.1 r.2.2.2.2.2.2.2.2.2.2.2.2.2.1 ∧ MP K v_typed v_texts v_jumpTold v_frosts v_frostYear v_frostForce v_gaps r.2.2.2.2.2.2.2.2.2.2.2.2.2.2.1 r.2.2.2.2.2.2.2.2.2.2.2.2.2.2.2.1 r.2.2.2.2.2.2.2.2.2.2.2.2.2.2.2.2.1) := by
  have hS := (SK_ok hK).1
  have hn := hS.1
  have hW := hS.2.2.2.2.2.2.2.1
  have hG : Sgn (SK K) ≤ 6 := hK.2.2.2.2.1
  have hj := hm.2.1
  have hmp : ∀ gy gc gh, CIg (SK K) (nI (Sgn (SK K))) gy gc gh → MP K v_typed v_texts v_jumpTold v_frosts v_frostYear v_frostForce v_gaps gy gc gh := fun gy gc gh h => ⟨hm.1, hm.2.1, hm.2.2.1, hm.2.2.2.1, h.2⟩
  have eg : v_gaps = nI (Sgn (SK K)) := hm.2.2.2.1
  have h64 : SW (SK K) * Sn (SK K) ≤ 64 := Nat.mul_le_mul hW hn
  unfold f_m_mendOf
  refine wp_bind (k_m_asT hK hm) (fun o ho => ?_)
  obtain ⟨hR, hh, hf, hg⟩ := ho
  have e1 : nI (Sgn (SK K)) + 1 = nI (Sgn (SK K) + 1) := (nI_succ _).symm
  clear hm
  subst eg
  rw [cl (show Sgn (SK K) < 2 ^ 31 by omega), e1]
  refine wp_gd (inbN (by omega) (by decide)) ?_
  refine wl_m_mendOf_N33 (fun m v_courses v_wide v_hands v_frostsNow v_notFrosts v_gapsNow v_fell v_fellAll v_sheepFirst v_sheepMany v_told v_moods v_strongs v_gapYear v_gapColumn v_gapHand v_wall v_yearNow v_forceNow v_holdNow v_fellOf v_handAt v_holdAt v_fallsAt v_standAt v_highAt v_throughAt x2 x3 x4 x5 => RKw K v_courses v_wide v_told ∧ CIh (SK K) v_hands v_moods v_strongs ∧ MIf (SK K) v_frostsNow v_notFrosts v_yearNow v_forceNow ∧ (v_gapsNow = nI (Sgn (SK K) + 1) ∧ CIg (SK K) (nI (Sgn (SK K))) v_gapYear v_gapColumn v_gapHand ∧ v_gapYear (Sgn (SK K)) = a0) ∧ a1 = x2 ∧ ∃ k, k ≤ SW (SK K) * Sn (SK K) ∧ x5 = nI k ∧ m = SW (SK K) * Sn (SK K) - k ∧ x4 = nI (rMend (SK K) a0 k).2 ∧ x3 = enc (rMend (SK K) a0 k).1 ((rMend (SK K) a0 k).1 - 1)) ?_ 1000 (SW (SK K) * Sn (SK K)) _ _ _ _ _ _ _ _ _ _ _ _ _ _ _ _ _ _ _ _ _ _ _ _ _ _ _ _ _ _ _ (by omega) ⟨hR, hh, hf, ⟨rfl, CIg_set hg upd_ne (fun _ _ => rfl) (fun _ _ => rfl), upd_eq _ _ _⟩, rfl, 0, by omega, rfl, by omega, rfl, rfl⟩
  clear hR hh hf hg
  rintro m k33 ih v_courses v_wide v_hands v_frostsNow v_notFrosts v_gapsNow v_fell v_fellAll v_sheepFirst v_sheepMany v_told v_moods v_strongs v_gapYear v_gapColumn v_gapHand v_wall v_yearNow v_forceNow v_holdNow v_fellOf v_handAt v_holdAt v_fallsAt v_standAt v_highAt v_throughAt x2 x3 x4 x5 ⟨hR, hh, hf, ⟨rfl, hg, hgy⟩, rfl, k, hk, rfl, rfl, rfl, rfl⟩
  have hb := lst_b (M := 99) (ok := fun _ => true) (f := fMend (SK K) a0) k
  have hb1 : (rMend (SK K) a0 k).1 ≤ k := hb.1
  have hb2 : (rMend (SK K) a0 k).2 ≤ 99 := hb.2.1
  have hst := rMend_s (SK K) a0 k
  clear hb
  have ew : v_wide * v_hands = nI (SW (SK K) * Sn (SK K)) := by rw [hR.2.1, hh.1, nI_mulI]
  unfold f_m_mendOf_N33 f_m_mendOf_N98
  rw [ew, cl (show Sgn (SK K) < 2 ^ 31 by omega)]
  refine wp_ite (fun g => ?_) (fun g => ?_)
  · have g' : SW (SK K) * Sn (SK K) ≤ k := (nI_leX (by omega) (by omega)).mp g
    have e : k = SW (SK K) * Sn (SK K) := by omega
    subst e
    unfold vMend
    revert hb1 hb2
    generalize rMend (SK K) a0 (SW (SK K) * Sn (SK K)) = r
    intro hb1 hb2
    unfold eMend
    refine wp_ite (fun g3 => ?_) (fun g3 => ?_)
    · have e4 := (enc_1 (show r.1 - 1 < 2 ^ 31 by omega)).mp g3
      refine wp_some ⟨?_, RK_2 hR hh, hmp _ _ _ hg⟩
      show (-1 : Int32) = _
      rw [e4]
      by_cases e5 : a1 = 0
      · rw [if_pos e5]; rfl
      · rw [if_neg e5]
        by_cases e6 : a1 = 1
        · rw [if_pos e6]; rfl
        · rw [if_neg e6]; rfl
    · have e4 : ¬ r.1 = 0 := fun q => g3 ((enc_1 (show r.1 - 1 < 2 ^ 31 by omega)).mpr q)
      have hp : 0 < Sn (SK K) := by
        rcases Nat.eq_zero_or_pos (Sn (SK K)) with e | e
        · rw [e, Nat.mul_zero] at hb1; omega
        · exact e
      have ez : nz v_hands = true := by
        rw [hh.1]
        exact decide_eq_true (fun q => absurd ((nI_eqI (a := Sn (SK K)) (b := 0) (by omega) (by decide)).mp q) (by omega))
      have ed : nI (r.1 - 1) / v_hands = nI ((r.1 - 1) / Sn (SK K)) := by
        rw [hh.1]; exact pk_div (by omega) (by omega) (by omega)
      have em : nI (r.1 - 1) - nI (r.1 - 1) / v_hands * v_hands = nI ((r.1 - 1) % Sn (SK K)) := by
        have hx := Nat.div_add_mod (r.1 - 1) (Sn (SK K))
        rw [ed, hh.1, nI_mulI, nI_subI (by rw [Nat.mul_comm]; omega)]
        rw [Nat.mul_comm]
        exact congrArg nI (by omega)
      rw [enc_0 e4]
      have en : ∀ t, enc r.1 t = nI t := fun t => enc_0 e4
      rw [en, en, en]
      refine wp_ite (fun g4 => ?_) (fun g4 => ?_)
      · rw [if_pos g4]; exact wp_gd ez (wp_some ⟨ed, RK_2 hR hh, hmp _ _ _ hg⟩)
      · rw [if_neg g4]
        refine wp_ite (fun g5 => ?_) (fun g5 => ?_)
        · rw [if_pos g5]; exact wp_gd ez (wp_some ⟨em, RK_2 hR hh, hmp _ _ _ hg⟩)
        · rw [if_neg g5]; exact wp_some ⟨by dsimp only <;> rfl, RK_2 hR hh, hmp _ _ _ hg⟩
  · have g' : k < SW (SK K) * Sn (SK K) := Nat.lt_of_not_le (fun q => g ((nI_leX (by omega) (by omega)).mpr q))
    have hp : 0 < Sn (SK K) := by
      rcases Nat.eq_zero_or_pos (Sn (SK K)) with e | e
      · rw [e, Nat.mul_zero] at g'; omega
      · exact e
    have ez : nz v_hands = true := by
      rw [hh.1]
      exact decide_eq_true (fun q => absurd ((nI_eqI (a := Sn (SK K)) (b := 0) (by omega) (by decide)).mp q) (by omega))
    have ed : nI k / v_hands = nI (k / Sn (SK K)) := by
      rw [hh.1]; exact pk_div (by omega) (by omega) (by omega)
    have em : nI k - nI (k / Sn (SK K)) * v_hands = nI (k % Sn (SK K)) := by
      have hx := Nat.div_add_mod k (Sn (SK K))
      rw [hh.1, nI_mulI, nI_subI (by rw [Nat.mul_comm]; omega)]
      rw [Nat.mul_comm]
      exact congrArg nI (by omega)
    have e2 : nI k + 1 = nI (k + 1) := (nI_succ k).symm
    rw [ed, em, e2]
    refine wp_gd ez (wp_gd (inbN (by omega) (by decide)) (wp_gd ez (wp_gd (inbN (by omega) (by decide)) ?_)))
    have hg' : CIg (SK K) (nI (Sgn (SK K))) v_gapYear (upd v_gapColumn (Sgn (SK K)) (nI (k / Sn (SK K)))) (upd v_gapHand (Sgn (SK K)) (nI (k % Sn (SK K)))) := CIg_set hg (fun _ _ => rfl) upd_ne upd_ne
    refine wp_bind (k_runs (S := gMend (SK K) a0 k) (gMend_ok hS hG a0 g') (SK_ok hK).2 (RKw_w hR hj) hh hf (CIg_add hg' hgy (upd_eq _ _ _) (upd_eq _ _ _)) _ _ _ _ _ _ _ _ _ _ _ _ _) (fun o ho => ?_)
    have ef : o.2.2.2.1 = nI (fMend (SK K) a0 k) := ho.2.2.1
    have hlt := fMend_lt (SK K) a0 k
    have e5 : nI (rMend (SK K) a0 k).2 ≤ nI (fMend (SK K) a0 k) ↔ (rMend (SK K) a0 k).2 ≤ fMend (SK K) a0 k := nI_leX (by omega) (by omega)
    rw [ef]
    refine wp_ite (fun g5 => wp_pos g5 ?_) (fun g5 => wp_neg g5 ?_)
    · rw [if_neg (fun q => absurd (e5.mp g5) (by omega))] at hst
      exact ih (SW (SK K) * Sn (SK K) - (k + 1)) _ _ _ _ _ _ _ _ _ _ _ _ _ _ _ _ _ _ _ _ _ _ _ _ _ _ _ _ _ _ _ (by omega) ⟨hR, hh, hf, ⟨rfl, hg', hgy⟩, rfl, k + 1, by omega, rfl, rfl, by rw [hst], by rw [hst]⟩
    · rw [if_pos (Nat.lt_of_not_le (fun q => g5 (e5.mpr q)))] at hst
      exact ih (SW (SK K) * Sn (SK K) - (k + 1)) _ _ _ _ _ _ _ _ _ _ _ _ _ _ _ _ _ _ _ _ _ _ _ _ _ _ _ _ _ _ _ (by omega) ⟨hR, hh, hf, ⟨rfl, hg', hgy⟩, rfl, k + 1, by omega, rfl, rfl, by rw [hst], by rw [hst]; rfl⟩
theorem k_m_mend {K : Kt} (hK : Kok K) {v_courses : Int32} {v_wide : Int32} {v_hands : Int32} {v_jumpTold : Int32} {v_frosts : Int32} {v_gaps : Int32} {v_frostsNow : Int32} {v_notFrosts : Int32} {v_gapsNow : Int32} {v_fell : Int32} {v_fellAll : Int32} {v_sheepFirst : Int32} {v_sheepMany : Int32} {v_typed : Nat → Int32} {v_texts : Nat → Int32} {v_told : Nat → Int32} {v_moods : Nat → Int32} {v_strongs : Nat → Int32} {v_frostYear : Nat → Int32} {v_frostForce : Nat → Int32} {v_gapYear : Nat → Int32} {v_gapColumn : Nat → Int32} {v_gapHand : Nat → Int32} {v_wall : Nat → Int32} {v_yearNow : Nat → Int32} {v_forceNow : Nat → Int32} {v_holdNow : Nat → Int32} {v_fellOf : Nat → Int32} {v_handAt : Nat → Int32} {v_holdAt : Nat → Int32} {v_fallsAt : Nat → Int32} {v_standAt : Nat → Int32} {v_highAt : Nat → Int32} {v_throughAt : Nat → Int32} {a0 : Int32} {a1 : Int32} (hm : MP K v_typed v_texts v_jumpTold v_frosts v_frostYear v_frostForce v_gaps v_gapYear v_gapColumn v_gapHand) : wp (f_m_mend v_courses v_wide v_hands v_jumpTold v_frosts v_gaps v_frostsNow v_notFrosts v_gapsNow v_fell v_fellAll v_sheepFirst v_sheepMany v_typed v_texts v_told v_moods v_strongs v_frostYear v_frostForce v_gapYear v_gapColumn v_gapHand v_wall v_yearNow v_forceNow v_holdNow v_fellOf v_handAt v_holdAt v_fallsAt v_standAt v_highAt v_throughAt a0 a1) (fun r => r.1 = A_mend (SK K) a0 a1 ∧ MP K v_typed v_texts v_jumpTold v_frosts v_frostYear v_frostForce v_gaps r.2.2.2.2.2.2.2.2.2.2.2.2.2.2.1 r.2.2.2.2.2.2.2.2.2.2.2.2.2.2.2.1 r.2.2.2.2.2.2.2.2.2.2.2.2.2.2.2.2.1) := by
  unfold f_m_mend A_mend
  refine wp_bindE (q_m_isYear a0) (wp_ite (fun g => ?_) (fun g1 => ?_))
  · rw [if_pos g]; exact wp_some ⟨by dsimp only <;> rfl, hm⟩
  rw [if_neg g1]
  refine wp_bindE (s_in a1 0 2) (wp_ite (fun g => ?_) (fun g2 => ?_))
  · rw [if_pos g]; exact wp_some ⟨by dsimp only <;> rfl, hm⟩
  rw [if_neg g2]
  exact wp_bind (k_m_mendOf hK hm) (fun o ho => wp_some ⟨ho.1, ho.2.2⟩)
