/-! AGES, both sides -/
theorem u16 (b : Int32) : ∃ m, m < 65536 ∧ ushr b (16 : Int32) = nI m := by
  refine ⟨(b.toUInt32 >>> (16 : UInt32)).toNat, ?_, ?_⟩
  · rw [UInt32.toNat_shiftRight, Nat.shiftRight_eq_div_pow]
    have := b.toUInt32.toNat_lt
    rw [show (16 : UInt32).toNat % 32 = 16 from rfl]
    omega
  · unfold ushr
    rw [show Int32.toUInt32 16 &&& Int32.toUInt32 31 = (16 : UInt32) from by decide]
    show (b.toUInt32 >>> (16 : UInt32)).toInt32 = Int32.ofNat (b.toUInt32 >>> (16 : UInt32)).toNat
    generalize b.toUInt32 >>> (16 : UInt32) = x
    have : Int32.ofNat x.toNat = (UInt32.ofNat x.toNat).toInt32 := rfl
    rw [this, UInt32.ofNat_toNat]
def lcg (s : Int32) : Int32 := ((1103515245 : Int32) * s) + (12345 : Int32)
def lot (s : Int32) : Nat → Int32
  | 0 => s
  | k + 1 => lcg (lcg (lot s k))
def m20 (a : Int32) : Int32 := (ushr a (16 : Int32)) - (ushr a (16 : Int32)) / (20 : Int32) * (20 : Int32)
def m15 (a : Int32) : Int32 := ((ushr a (16 : Int32)) - (ushr a (16 : Int32)) / (15 : Int32) * (15 : Int32)) + (1 : Int32)
def agY (s : Int32) (k : Nat) : Int32 := m20 (lcg (lot s k))
def agF (s : Int32) (k : Nat) : Int32 := m15 (lcg (lcg (lot s k)))
def sAges (S : Sit) (s : Int32) (n : Nat) : Sit := wFr S n (agY s) (agF s)
def vAges (S : Sit) (s : Int32) (n : Nat) (a2 : Int32) : Int32 := if a2 = 0 then nI (bct (isS (wsY (sAges S s n) 20)) 40) else nI (shM (sAges S s n) 20)
def A_ages (S : Sit) (a0 a1 a2 : Int32) : Int32 := if wi a1 0 6 = 0 then -2 else if wi a2 0 1 = 0 then -2 else vAges S a0 a1.toNatClampNeg a2
theorem m15_ok (a : Int32) : 1 ≤ (m15 a).toInt ∧ (m15 a).toInt ≤ 15 := by
  obtain ⟨m, hm, e⟩ := u16 a
  unfold m15
  have hd : nI m / (15 : Int32) = nI (m / 15) := pk_div (by omega) (by decide) (by decide)
  have hx := Nat.div_add_mod m 15
  have hl := Nat.mod_lt m (show 0 < 15 by decide)
  rw [e, hd, show (15 : Int32) = nI 15 from rfl, nI_mulI, nI_subI (by omega), show (1 : Int32) = nI 1 from rfl, nI_addI, nI_toInt (by omega)]
  omega
theorem sAges_ok {S : Sit} (hS : Sok S) (s : Int32) {n : Nat} (hn : n ≤ 6) : Sok (sAges S s n) := wFr_ok hS hn (fun k _ => m15_ok _)
theorem k_x_ages {S : Sit} (hS : Sok S) (hI : Sin S) (hA : Sab S = 0) {v_wall_courses : Int32} {v_wall_columns : Int32} {v_wall_jump : Int32} {v_wall_stones : Nat → Int64} {v_hands_told : Int32} {v_hands_mood : Nat → Int32} {v_hands_strong : Nat → Int32} {v_chanceFrosts_told : Int32} {v_chanceFrosts_year : Nat → Int32} {v_chanceFrosts_force : Nat → Int32} {v_gappings_told : Int32} {v_gappings_year : Nat → Int32} {v_gappings_column : Nat → Int32} {v_gappings_hand : Nat → Int32} {v_trial_all : Int64} {v_trial_losers : Int32} {v_trial_now : Nat → Int64} {v_trial_stones : Nat → Int64} {v_trial_standing : Nat → Int64} {v_trial_open : Nat → Int32} {v_trial_fallen : Nat → Int32} {a0 : Int32} {a1 : Int32} {a2 : Int32} (hw : CIw S v_wall_courses v_wall_columns v_wall_jump v_wall_stones) (hh : CIh S v_hands_told v_hands_mood v_hands_strong) (hg : CIg S v_gappings_told v_gappings_year v_gappings_column v_gappings_hand) : wp (f_x_ages v_wall_courses v_wall_columns v_wall_jump v_wall_stones v_hands_told v_hands_mood v_hands_strong v_chanceFrosts_told v_chanceFrosts_year v_chanceFrosts_force v_gappings_told v_gappings_year v_gappings_column v_gappings_hand v_trial_all v_trial_losers v_trial_now v_trial_stones v_trial_standing v_trial_open v_trial_fallen a0 a1 a2) (fun r => r.1 = A_ages S a0 a1 a2) := by
  unfold f_x_ages A_ages
  refine wp_bindE (s_within a1 0 6) (wp_ite (fun g => ?_) (fun g1 => ?_))
  · rw [if_pos g]; exact wp_some (by dsimp only <;> rfl)
  rw [if_neg g1]
  refine wp_bindE (q_x_isEither a2) (wp_ite (fun g => ?_) (fun g2 => ?_))
  · rw [if_pos g]; exact wp_some (by dsimp only <;> rfl)
  rw [if_neg g2]
  obtain ⟨n, hn, rfl⟩ := wi_nat 6 (by decide) g1
  rw [cl (show n < 2 ^ 31 by omega)]
  refine wl_x_ages_N34 (fun m v_chanceFrosts_told v_chanceFrosts_year v_chanceFrosts_force v_trial_all v_trial_losers v_trial_now v_trial_stones v_trial_standing v_trial_open v_trial_fallen x2 x3 x4 x5 => x2 = nI n ∧ x3 = a2 ∧ ∃ k, k ≤ n ∧ x5 = nI k ∧ m = n - k ∧ x4 = lot a0 k ∧ v_chanceFrosts_told = nI k ∧ ∀ j, j < k → v_chanceFrosts_year j = agY a0 j ∧ v_chanceFrosts_force j = agF a0 j) ?_ 1000 n _ _ _ _ _ _ _ _ _ _ _ _ _ _ (by omega) ⟨rfl, rfl, 0, by omega, rfl, by omega, rfl, rfl, fun j hj => absurd hj (by omega)⟩
  rintro m k34 ih v_chanceFrosts_told v_chanceFrosts_year v_chanceFrosts_force v_trial_all v_trial_losers v_trial_now v_trial_stones v_trial_standing v_trial_open v_trial_fallen x2 x3 x4 x5 ⟨rfl, rfl, k, hk, rfl, rfl, rfl, rfl, hf⟩
  unfold f_x_ages_N34
  refine wp_ite (fun g => ?_) (fun g => ?_)
  · have g' : n ≤ k := (nI_leX (by omega) (by omega)).mp g
    have e : k = n := by omega
    subst e
    refine wp_bind (k_runw (S := sAges S a0 k) (sAges_ok hS a0 hn) rfl hw hh ⟨rfl, hf⟩ hg _ _ _ _ _ _ _) (fun o ho => ?_)
    unfold vAges
    refine wp_ite (fun g3 => ?_) (fun g3 => ?_)
    · rw [if_pos g3]
      refine wp_gd (by decide) (wp_bindE (s_bitCount _) (wp_some ?_))
      refine congrArg nI (bct_ext (n := 40) (m := 64) (by decide) (fun q hq => ?_) (fun q hq _ => ?_))
      · exact ((ho.1 19 (by decide)).2.1 q).symm
      · rw [show (19 : Int32).toNatClampNeg = 19 from rfl, (ho.1 19 (by decide)).2.1 q]
        unfold isS
        rw [decide_eq_false (by omega), Bool.false_and]
    · rw [if_neg g3]
      exact wp_bindE (s_openYears (sAges_ok hS a0 hn) ho) (wp_some (by dsimp only <;> rfl))
  · have g' : k < n := Nat.lt_of_not_le (fun q => g ((nI_leX (by omega) (by omega)).mpr q))
    refine wp_bindE (show f_x_nextSeed (lot a0 k) = some (lcg (lot a0 k)) from rfl) ?_
    refine wp_bindE (show f_x_nextSeed (lcg (lot a0 k)) = some (lcg (lcg (lot a0 k))) from rfl) ?_
    have hadd : wp (f_fr_add (nI k) v_chanceFrosts_year v_chanceFrosts_force (m20 (lcg (lot a0 k))) (m15 (lcg (lcg (lot a0 k))))) (fun r => r.1 = nI (k + 1) ∧ ∀ j, j < k + 1 → r.2.1 j = agY a0 j ∧ r.2.2 j = agF a0 j) := by
      unfold f_fr_add
      refine wp_neg (fun q => ?_) ?_
      · have := (nI_leX (a := 6) (b := k) (by decide) (by omega)).mp q
        omega
      · rw [cl (show k < 2 ^ 31 by omega)]
        refine wp_gd (inbN (by omega) (by decide)) (wp_gd (inbN (by omega) (by decide)) (wp_some ⟨(nI_succ k).symm, fun j hj => ?_⟩))
        show upd v_chanceFrosts_year k (m20 (lcg (lot a0 k))) j = _ ∧ upd v_chanceFrosts_force k (m15 (lcg (lcg (lot a0 k)))) j = _
        rw [upd_at, upd_at]
        by_cases e : j = k
        · rw [if_pos e, if_pos e, e]; exact ⟨rfl, rfl⟩
        · rw [if_neg e, if_neg e]; exact hf j (by omega)
    refine wp_bind hadd (fun r hr => ?_)
    rw [show nI k + 1 = nI (k + 1) from (nI_succ k).symm]
    exact ih (n - (k + 1)) _ _ _ _ _ _ _ _ _ _ _ _ _ _ (by omega) ⟨rfl, rfl, k + 1, by omega, rfl, rfl, rfl, hr.1, hr.2⟩
theorem k_m_agesOf {K : Kt} (hK : Kok K) {v_courses : Int32} {v_wide : Int32} {v_hands : Int32} {v_jumpTold : Int32} {v_frosts : Int32} {v_gaps : Int32} {v_frostsNow : Int32} {v_notFrosts : Int32} {v_gapsNow : Int32} {v_fell : Int32} {v_fellAll : Int32} {v_sheepFirst : Int32} {v_sheepMany : Int32} {v_typed : Nat → Int32} {v_texts : Nat → Int32} {v_told : Nat → Int32} {v_moods : Nat → Int32} {v_strongs : Nat → Int32} {v_frostYear : Nat → Int32} {v_frostForce : Nat → Int32} {v_gapYear : Nat → Int32} {v_gapColumn : Nat → Int32} {v_gapHand : Nat → Int32} {v_wall : Nat → Int32} {v_yearNow : Nat → Int32} {v_forceNow : Nat → Int32} {v_holdNow : Nat → Int32} {v_fellOf : Nat → Int32} {v_handAt : Nat → Int32} {v_holdAt : Nat → Int32} {v_fallsAt : Nat → Int32} {v_standAt : Nat → Int32} {v_highAt : Nat → Int32} {v_throughAt : Nat → Int32} {a0 : Int32} {a2 : Int32} {n : Nat} (hn : n ≤ 6) (hm : MP K v_typed v_texts v_jumpTold v_frosts v_frostYear v_frostForce v_gaps v_gapYear v_gapColumn v_gapHand) : wp (f_m_agesOf v_courses v_wide v_hands v_jumpTold v_frosts v_gaps v_frostsNow v_notFrosts v_gapsNow v_fell v_fellAll v_sheepFirst v_sheepMany v_typed v_texts v_told v_moods v_strongs v_frostYear v_frostForce v_gapYear v_gapColumn v_gapHand v_wall v_yearNow v_forceNow v_holdNow v_fellOf v_handAt v_holdAt v_fallsAt v_standAt v_highAt v_throughAt a0 (nI n) a2) (fun r => r.1 = vAges (SK K) a0 n a2 ∧ RK K r.2.1 r.2.2.1 r.2.2.2.1 r.2.2.2.2.2.2.2.2.2.2.2.1 r.2.2.2.2.2.2.2.2.2.2.2.2.1 r.2.2.2.2.2.2.2.2.2.2.2.2.2.1) := by
  have hS := (SK_ok hK).1
  have hj := hm.2.1
  unfold f_m_agesOf
  refine wp_bind (k_m_asT hK hm) (fun o ho => ?_)
  obtain ⟨hR, hh, hf, hg⟩ := ho
  refine wl_m_agesOf_N15 (fun m v_courses v_wide v_hands v_frostsNow v_notFrosts v_gapsNow v_fell v_fellAll v_sheepFirst v_sheepMany v_told v_moods v_strongs v_wall v_yearNow v_forceNow v_holdNow v_fellOf v_handAt v_holdAt v_fallsAt v_standAt v_highAt v_throughAt x2 x3 x4 x5 => RKw K v_courses v_wide v_told ∧ CIh (SK K) v_hands v_moods v_strongs ∧ CIg (SK K) v_gapsNow v_gapYear v_gapColumn v_gapHand ∧ v_frostsNow = nI n ∧ v_notFrosts = 0 ∧ x2 = nI n ∧ x3 = a2 ∧ ∃ k, k ≤ n ∧ x5 = nI k ∧ m = n - k ∧ x4 = lot a0 k ∧ ∀ j, j < k → v_yearNow j = agY a0 j ∧ v_forceNow j = agF a0 j) ?_ 1000 n _ _ _ _ _ _ _ _ _ _ _ _ _ _ _ _ _ _ _ _ _ _ _ _ _ _ _ _ (by omega) ⟨hR, hh, hg, rfl, hf.2.1, rfl, rfl, 0, by omega, rfl, by omega, rfl, fun j hj => absurd hj (by omega)⟩
  clear hR hh hf hg
  rintro m k15 ih v_courses v_wide v_hands v_frostsNow v_notFrosts v_gapsNow v_fell v_fellAll v_sheepFirst v_sheepMany v_told v_moods v_strongs v_wall v_yearNow v_forceNow v_holdNow v_fellOf v_handAt v_holdAt v_fallsAt v_standAt v_highAt v_throughAt x2 x3 x4 x5 ⟨hR, hh, hg, rfl, rfl, rfl, rfl, k, hk, rfl, rfl, rfl, hf⟩
  unfold f_m_agesOf_N15
  refine wp_ite (fun g => ?_) (fun g => ?_)
  · have g' : n ≤ k := (nI_leX (by omega) (by omega)).mp g
    have e : k = n := by omega
    subst e
    refine wp_bind (k_runs (S := sAges (SK K) a0 k) (sAges_ok hS a0 hn) (SK_ok hK).2 (RKw_w hR hj) hh ⟨rfl, rfl, hf⟩ hg _ _ _ _ _ _ _ _ _ _ _ _ _) (fun o ho => ?_)
    unfold vAges
    refine wp_ite (fun g3 => ?_) (fun g3 => ?_)
    · rw [if_pos g3]
      exact wp_gd (by decide) (wp_some ⟨(ho.2.2.2.2.2 19 (by decide)).2.2.1, RK_2 hR hh⟩)
    · rw [if_neg g3]
      exact wp_some ⟨ho.2.2.1, RK_2 hR hh⟩
  · have g' : k < n := Nat.lt_of_not_le (fun q => g ((nI_leX (by omega) (by omega)).mpr q))
    rw [show nI k + 1 = nI (k + 1) from (nI_succ k).symm, cl (show k < 2 ^ 31 by omega)]
    refine wp_gd (inbN (by omega) (by decide)) (wp_gd (inbN (by omega) (by decide)) ?_)
    refine ih (n - (k + 1)) _ _ _ _ _ _ _ _ _ _ _ _ _ _ _ _ _ _ _ _ _ _ _ _ _ _ _ _ (by omega) ⟨hR, hh, hg, rfl, rfl, rfl, rfl, k + 1, by omega, rfl, rfl, rfl, fun j hj => ?_⟩
    show upd v_yearNow k (m20 (lcg (lot a0 k))) j = _ ∧ upd v_forceNow k (m15 (lcg (lcg (lot a0 k)))) j = _
    rw [upd_at, upd_at]
    by_cases e : j = k
    · rw [if_pos e, if_pos e, e]; exact ⟨rfl, rfl⟩
    · rw [if_neg e, if_neg e]; exact hf j (by omega)
theorem k_m_ages {K : Kt} (hK : Kok K) {v_courses : Int32} {v_wide : Int32} {v_hands : Int32} {v_jumpTold : Int32} {v_frosts : Int32} {v_gaps : Int32} {v_frostsNow : Int32} {v_notFrosts : Int32} {v_gapsNow : Int32} {v_fell : Int32} {v_fellAll : Int32} {v_sheepFirst : Int32} {v_sheepMany : Int32} {v_typed : Nat → Int32} {v_texts : Nat → Int32} {v_told : Nat → Int32} {v_moods : Nat → Int32} {v_strongs : Nat → Int32} {v_frostYear : Nat → Int32} {v_frostForce : Nat → Int32} {v_gapYear : Nat → Int32} {v_gapColumn : Nat → Int32} {v_gapHand : Nat → Int32} {v_wall : Nat → Int32} {v_yearNow : Nat → Int32} {v_forceNow : Nat → Int32} {v_holdNow : Nat → Int32} {v_fellOf : Nat → Int32} {v_handAt : Nat → Int32} {v_holdAt : Nat → Int32} {v_fallsAt : Nat → Int32} {v_standAt : Nat → Int32} {v_highAt : Nat → Int32} {v_throughAt : Nat → Int32} {a0 : Int32} {a1 : Int32} {a2 : Int32} (hm : MP K v_typed v_texts v_jumpTold v_frosts v_frostYear v_frostForce v_gaps v_gapYear v_gapColumn v_gapHand) : wp (f_m_ages v_courses v_wide v_hands v_jumpTold v_frosts v_gaps v_frostsNow v_notFrosts v_gapsNow v_fell v_fellAll v_sheepFirst v_sheepMany v_typed v_texts v_told v_moods v_strongs v_frostYear v_frostForce v_gapYear v_gapColumn v_gapHand v_wall v_yearNow v_forceNow v_holdNow v_fellOf v_handAt v_holdAt v_fallsAt v_standAt v_highAt v_throughAt a0 a1 a2) (fun r => r.1 = A_ages (SK K) a0 a1 a2) := by
  unfold f_m_ages A_ages
  refine wp_bindE (s_in a1 0 6) (wp_ite (fun g => ?_) (fun g1 => ?_))
  · rw [if_pos g]; exact wp_some (by dsimp only <;> rfl)
  rw [if_neg g1]
  refine wp_bindE (s_in a2 0 1) (wp_ite (fun g => ?_) (fun g2 => ?_))
  · rw [if_pos g]; exact wp_some (by dsimp only <;> rfl)
  rw [if_neg g2]
  obtain ⟨n, hn, rfl⟩ := wi_nat 6 (by decide) g1
  rw [cl (show n < 2 ^ 31 by omega)]
  exact wp_bind (k_m_agesOf hK hn hm) (fun o ho => wp_some ho.1)
