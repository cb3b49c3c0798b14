/-! WHAT WAS SEEN: never, was, both sides -/
abbrev Gt : Type := Nat × (Nat → Int32) × (Nat → Int32) × (Nat → Int32)
def Gok (G : Gt) : Prop := G.1 ≤ 8 ∧ sOk G.1 G.2.1 G.2.2.1 ∧ ∀ k, k < G.1 → G.2.2.2 k = -1 ∨ ∃ h, h < 8 ∧ G.2.2.2 k = nI h
def seenG (S : Sit) (G : Gt) : Bool := seenB S G.1 G.2.1 G.2.2.1 G.2.2.2
def CIv (G : Gt) (n : Int32) (sy sp sh : Nat → Int32) : Prop := n = nI G.1 ∧ ∀ k, k < G.1 → sy k = G.2.1 k ∧ sp k = G.2.2.1 k ∧ sh k = G.2.2.2 k
def h8 (x : Int32) : Int32 := if x = -1 then 8 else x
def MIv (G : Gt) (n : Int32) (sy sp sh : Nat → Int32) : Prop := n = nI G.1 ∧ ∀ k, k < G.1 → sy k = G.2.1 k ∧ sp k = G.2.2.1 k ∧ sh k = h8 (G.2.2.2 k)


theorem k_comeOut {S : Sit} {losers : Int32} {stones standing : Nat → Int64} {opn fallen : Nat → Int32} (hS : Sok S) (hI : Sin S) (hR : RunC S losers stones standing opn fallen) {G : Gt} (hG : Gok G) {n : Int32} {sy sp sh : Nat → Int32} (hv : CIv G n sy sp sh) : f_sg_comeOutIn n sy sp sh stones = some (b2i (seenG S G)) := by
  obtain ⟨rfl, hv⟩ := hv
  rw [s_comeOutIn hS hI hR hG.1 (fun k hk => by rw [(hv k hk).1, (hv k hk).2.1]; exact hG.2.1 k hk)]
  refine congrArg some (congrArg b2i ?_)
  unfold seenG seenB
  exact congrArg Bool.not (anyB_cong (fun k hk => by rw [(hv k hk).1, (hv k hk).2.1, (hv k hk).2.2]))
theorem h8_iff {a b : Int32} (ha : a = -1 ∨ ∃ h, h < 8 ∧ a = nI h) (hb : b = -1 ∨ ∃ h, h < 8 ∧ b = nI h) : h8 a = h8 b ↔ a = b := by
  have key : ∀ x : Int32, (x = -1 ∨ ∃ h, h < 8 ∧ x = nI h) → ¬ x = 8 := by
    rintro x (rfl | ⟨h, hh, rfl⟩)
    · decide
    · exact fun q => absurd ((nI_eqI (a := h) (b := 8) (by omega) (by decide)).mp q) (by omega)
  unfold h8
  by_cases e1 : a = -1
  · by_cases e2 : b = -1
    · rw [if_pos e1, if_pos e2, e1, e2]; exact ⟨fun _ => rfl, fun _ => rfl⟩
    · rw [if_pos e1, if_neg e2]
      exact ⟨fun q => absurd q.symm (key b hb), fun q => absurd (q.symm.trans e1) e2⟩
  · by_cases e2 : b = -1
    · rw [if_neg e1, if_pos e2]
      exact ⟨fun q => absurd q (key a ha), fun q => absurd (q.trans e2) e1⟩
    · rw [if_neg e1, if_neg e2]
theorem anyB_s (f : Nat → Bool) (n : Nat) : anyB f (n + 1) = (anyB f n || f n) := by
  cases e : anyB f (n + 1) with
  | true =>
    obtain ⟨k, hk, q⟩ := (anyB_iff _ _).mp e
    by_cases e2 : k = n
    · rw [← e2, q, Bool.or_true]
    · rw [(anyB_iff _ _).mpr ⟨k, by omega, q⟩, Bool.true_or]
  | false =>
    cases e2 : anyB f n with
    | true =>
      obtain ⟨k, hk, q⟩ := (anyB_iff _ _).mp e2
      rw [(anyB_iff _ _).mpr ⟨k, by omega, q⟩] at e
      exact absurd e (by decide)
    | false =>
      cases e3 : f n with
      | false => rfl
      | true =>
        rw [(anyB_iff _ _).mpr ⟨n, by omega, e3⟩] at e
        exact absurd e (by decide)
theorem anyB_up {f : Nat → Bool} {a b : Nat} (h : a ≤ b) (e : anyB f a = true) : anyB f b = true := by
  obtain ⟨k, hk, q⟩ := (anyB_iff _ _).mp e
  exact (anyB_iff _ _).mpr ⟨k, by omega, q⟩

theorem k_m_isSeen {S : Sit} (hS : Sok S) (hI : Sin S) {G : Gt} (hG : Gok G) {v_courses : Int32} {v_wide : Int32} {v_hands : Int32} {v_jumpTold : Int32} {v_frostsNow : Int32} {v_notFrosts : Int32} {v_gapsNow : Int32} {v_fell : Int32} {v_fellAll : Int32} {v_sheepFirst : Int32} {v_sheepMany : Int32} {v_seens : Int32} {v_told : Nat → Int32} {v_moods : Nat → Int32} {v_strongs : Nat → Int32} {v_gapYear : Nat → Int32} {v_gapColumn : Nat → Int32} {v_gapHand : Nat → Int32} {v_wall : Nat → Int32} {v_yearNow : Nat → Int32} {v_forceNow : Nat → Int32} {v_holdNow : Nat → Int32} {v_fellOf : Nat → Int32} {v_handAt : Nat → Int32} {v_holdAt : Nat → Int32} {v_fallsAt : Nat → Int32} {v_standAt : Nat → Int32} {v_highAt : Nat → Int32} {v_throughAt : Nat → Int32} {v_seenYear : Nat → Int32} {v_seenPlace : Nat → Int32} {v_seenHand : Nat → Int32} (hw : MIw S v_courses v_wide v_jumpTold v_told) (hh : CIh S v_hands v_moods v_strongs) (hf : MIf S v_frostsNow v_notFrosts v_yearNow v_forceNow) (hg : CIg S v_gapsNow v_gapYear v_gapColumn v_gapHand) (hv : MIv G v_seens v_seenYear v_seenPlace v_seenHand) : wp (f_m_isSeen v_courses v_wide v_hands v_jumpTold v_frostsNow v_notFrosts v_gapsNow v_fell v_fellAll v_sheepFirst v_sheepMany v_seens v_told v_moods v_strongs v_gapYear v_gapColumn v_gapHand v_wall v_yearNow v_forceNow v_holdNow v_fellOf v_handAt v_holdAt v_fallsAt v_standAt v_highAt v_throughAt v_seenYear v_seenPlace v_seenHand) (fun r => r.1 = b2i (seenG S G) ∧ RunM S 20 r.2) := by
  obtain ⟨rfl, hv⟩ := hv
  have hG8 := hG.1
  unfold f_m_isSeen
  refine wp_bind (k_runs hS hI hw hh hf hg _ _ _ _ _ _ _ _ _ _ _ _ _) (fun o ho => ?_)
  refine wl_m_isSeen_N8 (fun m v_fell v_fellAll v_sheepFirst v_sheepMany v_wall v_holdNow v_fellOf v_handAt v_holdAt v_fallsAt v_standAt v_highAt v_throughAt x1 x2 => RunM S 20 (v_fell, v_fellAll, v_sheepFirst, v_sheepMany, v_wall, v_holdNow, v_fellOf, v_handAt, v_holdAt, v_fallsAt, v_standAt, v_highAt, v_throughAt) ∧ ∃ k, k ≤ G.1 ∧ x2 = nI k ∧ m = G.1 - k ∧ x1 = b2i (!anyB (fun k => !decide (wsY S ((G.2.1 k).toNatClampNeg + 1) (G.2.2.1 k).toNatClampNeg = G.2.2.2 k)) k)) ?_ 1000 G.1 _ _ _ _ _ _ _ _ _ _ _ _ _ _ _ (by omega) ⟨ho, 0, by omega, rfl, by omega, rfl⟩
  clear ho
  rintro m k8 ih v_fell v_fellAll v_sheepFirst v_sheepMany v_wall v_holdNow v_fellOf v_handAt v_holdAt v_fallsAt v_standAt v_highAt v_throughAt x1 x2 ⟨ho, k, hk, rfl, rfl, rfl⟩
  have hi : ∀ b : Bool, isB (b2i b) = true := fun b => by cases b <;> decide
  unfold f_m_isSeen_N8 f_m_isSeen_N53
  refine wp_ite (fun g => ?_) (fun g => ?_)
  · have g' : G.1 ≤ k := (nI_leX (by omega) (by omega)).mp g
    have e : k = G.1 := by omega
    subst e
    exact wp_gd (hi _) (wp_some ⟨by dsimp only <;> rfl, ho⟩)
  · have g' : k < G.1 := Nat.lt_of_not_le (fun q => g ((nI_leX (by omega) (by omega)).mpr q))
    refine wp_ite (fun g2 => ?_) (fun g2 => ?_)
    · have e2 := (b2i_0 _).mp g2
      refine wp_gd (hi _) (wp_some ⟨?_, ho⟩)
      refine congrArg b2i ?_
      rw [e2]
      have e3 : anyB (fun k => !decide (wsY S ((G.2.1 k).toNatClampNeg + 1) (G.2.2.1 k).toNatClampNeg = G.2.2.2 k)) k = true := by
        cases q : anyB (fun k => !decide (wsY S ((G.2.1 k).toNatClampNeg + 1) (G.2.2.1 k).toNatClampNeg = G.2.2.2 k)) k with
        | true => rfl
        | false => rw [q] at e2; exact absurd e2 (by decide)
      show false = !_
      rw [anyB_up hk e3]
      rfl
    · have e2 : anyB (fun k => !decide (wsY S ((G.2.1 k).toNatClampNeg + 1) (G.2.2.1 k).toNatClampNeg = G.2.2.2 k)) k = false := by
        cases q : anyB (fun k => !decide (wsY S ((G.2.1 k).toNatClampNeg + 1) (G.2.2.1 k).toNatClampNeg = G.2.2.2 k)) k with
        | false => rfl
        | true => rw [q] at g2; exact absurd rfl g2
      obtain ⟨⟨y, hy, ey⟩, p, hp, ep⟩ := hG.2.1 k g'
      rw [cl (show k < 2 ^ 31 by omega), (hv k g').1, (hv k g').2.1, (hv k g').2.2, ey, ep, show (40 : Int32) = nI 40 from rfl, nI_mulI, nI_addI, cl (show 40 * y + p < 2 ^ 31 by omega)]
      refine wp_gd (inbN (by omega) (by decide)) (wp_gd (inbN (by omega) (by decide)) (wp_gd (inbN (by omega) (by decide)) ?_))
      have hA : v_handAt (40 * y + p) = wsY S (y + 1) p := ((ho.2.2.2.2.2 y hy).1 p hp).1
      have hok := (rs_ok hS hI (y + 1)).1 p hp
      have e1 : nI k + 1 = nI (k + 1) := (nI_succ k).symm
      have hi8 := h8_iff hok (hG.2.2 k g')
      have hs := anyB_s (fun k => !decide (wsY S ((G.2.1 k).toNatClampNeg + 1) (G.2.2.1 k).toNatClampNeg = G.2.2.2 k)) k
      have hs2 : anyB (fun k => !decide (wsY S ((G.2.1 k).toNatClampNeg + 1) (G.2.2.1 k).toNatClampNeg = G.2.2.2 k)) (k + 1) = !decide (wsY S (y + 1) p = G.2.2.2 k) := by
        rw [hs, e2, Bool.false_or, ey, ep, cl (show y < 2 ^ 31 by omega), cl (show p < 2 ^ 31 by omega)]
      have go : ∀ z : Int32, z = h8 (wsY S (y + 1) p) → wp (if z = h8 (G.2.2.2 k) then k8 v_fell v_fellAll v_sheepFirst v_sheepMany v_wall v_holdNow v_fellOf v_handAt v_holdAt v_fallsAt v_standAt v_highAt v_throughAt 1 (nI (k + 1)) else k8 v_fell v_fellAll v_sheepFirst v_sheepMany v_wall v_holdNow v_fellOf v_handAt v_holdAt v_fallsAt v_standAt v_highAt v_throughAt 0 (nI (k + 1))) (fun r => r.1 = b2i (seenG S G) ∧ RunM S 20 r.2) := by
        intro z hz
        rw [hz]
        refine wp_ite (fun g3 => ?_) (fun g3 => ?_)
        · refine ih (G.1 - (k + 1)) _ _ _ _ _ _ _ _ _ _ _ _ _ _ _ (by omega) ⟨ho, k + 1, by omega, rfl, rfl, ?_⟩
          rw [hs2]
          have e5 : wsY S (y + 1) p = G.2.2.2 k := hi8.mp g3
          rw [decide_eq_true e5]; rfl
        · refine ih (G.1 - (k + 1)) _ _ _ _ _ _ _ _ _ _ _ _ _ _ _ (by omega) ⟨ho, k + 1, by omega, rfl, rfl, ?_⟩
          rw [hs2]
          have e5 : ¬ wsY S (y + 1) p = G.2.2.2 k := fun q => g3 (hi8.mpr q)
          rw [decide_eq_false e5]; rfl
      rw [hA, e1]
      refine wp_ite (fun g3 => ?_) (fun g3 => ?_)
      · exact wp_gd (inbN (by omega) (by decide)) (go 8 (if_pos g3).symm)
      · exact wp_gd (inbN (by omega) (by decide)) (go _ (if_neg g3).symm)
def bts (f : Nat → Bool) (o : Nat) : Nat → Int32
  | 0 => 0
  | j + 1 => if f (o + j) then bts f o j ||| ((1 : Int32) <<< (nI (o + j) &&& 31)) else bts f o j
theorem bts_s (f : Nat → Bool) (o j : Nat) : bts f o (j + 1) = if f (o + j) then bts f o j ||| ((1 : Int32) <<< (nI (o + j) &&& 31)) else bts f o j := rfl
theorem bts_1 {f : Nat → Bool} {o j : Nat} (h : f (o + j) = true) : bts f o (j + 1) = bts f o j ||| ((1 : Int32) <<< (nI (o + j) &&& 31)) := by rw [bts_s, if_pos h]
theorem bts_0 {f : Nat → Bool} {o j : Nat} (h : f (o + j) = false) : bts f o (j + 1) = bts f o j := by rw [bts_s, h]; rfl
theorem b2i_1 {b : Bool} (h : ¬ b2i b = 0) : b = true := by
  cases b with
  | true => rfl
  | false => exact absurd rfl h
def fNever (S : Sit) (G : Gt) (k : Nat) : Bool := seenG (wAb S ((1 : Int32) <<< (nI k &&& 31))) G
def vNever (S : Sit) (G : Gt) : Int32 := bts (fNever S G) 0 (Sfn S)
theorem k_x_never {S : Sit} (hS : Sok S) (hI : Sin S) (hA : Sab S = 0) {G : Gt} (hG : Gok G) {v_wall_courses : Int32} {v_wall_columns : Int32} {v_wall_jump : Int32} {v_wall_stones : Nat → Int64} {v_hands_told : Int32} {v_hands_mood : Nat → Int32} {v_hands_strong : Nat → Int32} {v_frosts_told : Int32} {v_frosts_year : Nat → Int32} {v_frosts_force : Nat → Int32} {v_gappings_told : Int32} {v_gappings_year : Nat → Int32} {v_gappings_column : Nat → Int32} {v_gappings_hand : Nat → Int32} {v_sights_told : Int32} {v_sights_year : Nat → Int32} {v_sights_place : Nat → Int32} {v_sights_setter : Nat → Int32} {v_trial_all : Int64} {v_trial_losers : Int32} {v_trial_now : Nat → Int64} {v_trial_stones : Nat → Int64} {v_trial_standing : Nat → Int64} {v_trial_open : Nat → Int32} {v_trial_fallen : Nat → Int32} (hw : CIw S v_wall_courses v_wall_columns v_wall_jump v_wall_stones) (hh : CIh S v_hands_told v_hands_mood v_hands_strong) (hf : CIf S v_frosts_told v_frosts_year v_frosts_force) (hg : CIg S v_gappings_told v_gappings_year v_gappings_column v_gappings_hand) (hv : CIv G v_sights_told v_sights_year v_sights_place v_sights_setter) : wp (f_x_never v_wall_courses v_wall_columns v_wall_jump v_wall_stones v_hands_told v_hands_mood v_hands_strong v_frosts_told v_frosts_year v_frosts_force v_gappings_told v_gappings_year v_gappings_column v_gappings_hand v_sights_told v_sights_year v_sights_place v_sights_setter v_trial_all v_trial_losers v_trial_now v_trial_stones v_trial_standing v_trial_open v_trial_fallen) (fun r => r.1 = vNever S G) := by
  have hn := hS.2.2.1
  unfold f_x_never
  refine wl_x_never_N4 (fun m v_trial_all v_trial_losers v_trial_now v_trial_stones v_trial_standing v_trial_open v_trial_fallen x1 x2 => ∃ k, k ≤ Sfn S ∧ x2 = nI k ∧ m = Sfn S - k ∧ x1 = bts (fNever S G) 0 k) ?_ 1000 (Sfn S) _ _ _ _ _ _ _ _ _ (by omega) ⟨0, by omega, rfl, by omega, rfl⟩
  rintro m k4 ih v_trial_all v_trial_losers v_trial_now v_trial_stones v_trial_standing v_trial_open v_trial_fallen x1 x2 ⟨k, hk, rfl, rfl, rfl⟩
  unfold f_x_never_N4
  rw [hf.1]
  refine wp_ite (fun g => ?_) (fun g => ?_)
  · have g' : Sfn S ≤ k := (nI_leX (by omega) (by omega)).mp g
    have e : k = Sfn S := by omega
    subst e
    exact wp_some (by dsimp only <;> rfl)
  · have g' : k < Sfn S := Nat.lt_of_not_le (fun q => g ((nI_leX (by omega) (by omega)).mpr q))
    rw [← hf.1, show nI k + 1 = nI (k + 1) from (nI_succ k).symm]
    refine wp_bind (k_run hS hw hh hf hg _ _ _ _ _ _ _ _) (fun o ho => ?_)
    refine wp_bindE (k_comeOut (wAb_ok hS _) (wAb_in hI _) ho hG hv) ?_
    refine wp_ite (fun g2 => ?_) (fun g2 => ?_)
    · have e2 : fNever S G (0 + k) = false := by rw [Nat.zero_add]; exact (b2i_0 _).mp g2
      exact ih (Sfn S - (k + 1)) _ _ _ _ _ _ _ _ _ (by omega) ⟨k + 1, by omega, rfl, rfl, (bts_0 e2).symm⟩
    · have e2 : fNever S G (0 + k) = true := by rw [Nat.zero_add]; exact b2i_1 g2
      exact ih (Sfn S - (k + 1)) _ _ _ _ _ _ _ _ _ (by omega) ⟨k + 1, by omega, rfl, rfl, by rw [bts_1 e2, Nat.zero_add]⟩
theorem MIf_ab {S : Sit} {n nt : Int32} {fy ff : Nat → Int32} (h : MIf S n nt fy ff) (ab : Int32) : MIf (wAb S ab) n ab fy ff := ⟨h.1, rfl, h.2.2⟩
theorem MIf_ab0 {S : Sit} {n nt : Int32} {fy ff : Nat → Int32} (h : MIf S n nt fy ff) : MIf (wAb S nt) n nt fy ff := MIf_ab h nt
theorem or_z (x : Int32) : x ||| 0 = x := by
  apply Int32.toBitVec_inj.mp
  rw [Int32.toBitVec_or]
  exact BitVec.or_zero
theorem k_m_neverNow {K : Kt} (hK : Kok K) {G : Gt} (hG : Gok G) {v_courses : Int32} {v_wide : Int32} {v_hands : Int32} {v_jumpTold : Int32} {v_frosts : Int32} {v_gaps : Int32} {v_frostsNow : Int32} {v_notFrosts : Int32} {v_gapsNow : Int32} {v_fell : Int32} {v_fellAll : Int32} {v_sheepFirst : Int32} {v_sheepMany : Int32} {v_seens : Int32} {v_typed : Nat → Int32} {v_texts : Nat → Int32} {v_told : Nat → Int32} {v_moods : Nat → Int32} {v_strongs : Nat → Int32} {v_frostYear : Nat → Int32} {v_frostForce : Nat → Int32} {v_gapYear : Nat → Int32} {v_gapColumn : Nat → Int32} {v_gapHand : Nat → Int32} {v_wall : Nat → Int32} {v_yearNow : Nat → Int32} {v_forceNow : Nat → Int32} {v_holdNow : Nat → Int32} {v_fellOf : Nat → Int32} {v_handAt : Nat → Int32} {v_holdAt : Nat → Int32} {v_fallsAt : Nat → Int32} {v_standAt : Nat → Int32} {v_highAt : Nat → Int32} {v_throughAt : Nat → Int32} {v_seenYear : Nat → Int32} {v_seenPlace : Nat → Int32} {v_seenHand : Nat → Int32} (hm : MP K v_typed v_texts v_jumpTold v_frosts v_frostYear v_frostForce v_gaps v_gapYear v_gapColumn v_gapHand) (hv : MIv G v_seens v_seenYear v_seenPlace v_seenHand) : wp (f_m_neverNow v_courses v_wide v_hands v_jumpTold v_frosts v_gaps v_frostsNow v_notFrosts v_gapsNow v_fell v_fellAll v_sheepFirst v_sheepMany v_seens v_typed v_texts v_told v_moods v_strongs v_frostYear v_frostForce v_gapYear v_gapColumn v_gapHand v_wall v_yearNow v_forceNow v_holdNow v_fellOf v_handAt v_holdAt v_fallsAt v_standAt v_highAt v_throughAt v_seenYear v_seenPlace v_seenHand) (fun r => r.1 = vNever (SK K) G ∧ RK K r.2.1 r.2.2.1 r.2.2.2.1 r.2.2.2.2.2.2.2.2.2.2.2.1 r.2.2.2.2.2.2.2.2.2.2.2.2.1 r.2.2.2.2.2.2.2.2.2.2.2.2.2.1) := by
  have hS := (SK_ok hK).1
  have hn := hS.2.2.1
  have hj := hm.2.1
  have hfn : v_frosts = nI (Sfn (SK K)) := hm.2.2.1.1
  unfold f_m_neverNow
  refine wp_bind (k_m_asT hK hm) (fun o ho => ?_)
  obtain ⟨hR, hh, hf, hg⟩ := ho
  refine wl_m_neverNow_N8 (fun m v_courses v_wide v_hands v_frostsNow v_notFrosts v_gapsNow v_fell v_fellAll v_sheepFirst v_sheepMany v_told v_moods v_strongs v_wall v_yearNow v_forceNow v_holdNow v_fellOf v_handAt v_holdAt v_fallsAt v_standAt v_highAt v_throughAt x1 x2 => RKw K v_courses v_wide v_told ∧ CIh (SK K) v_hands v_moods v_strongs ∧ MIf (wAb (SK K) v_notFrosts) v_frostsNow v_notFrosts v_yearNow v_forceNow ∧ CIg (SK K) v_gapsNow v_gapYear v_gapColumn v_gapHand ∧ ∃ k, k ≤ Sfn (SK K) ∧ x2 = nI k ∧ m = Sfn (SK K) - k ∧ x1 = bts (fNever (SK K) G) 0 k) ?_ 1000 (Sfn (SK K)) _ _ _ _ _ _ _ _ _ _ _ _ _ _ _ _ _ _ _ _ _ _ _ _ _ _ (by omega) ⟨hR, hh, MIf_ab0 hf, hg, 0, by omega, rfl, by omega, rfl⟩
  clear hR hh hf hg
  rintro m k8 ih v_courses v_wide v_hands v_frostsNow v_notFrosts v_gapsNow v_fell v_fellAll v_sheepFirst v_sheepMany v_told v_moods v_strongs v_wall v_yearNow v_forceNow v_holdNow v_fellOf v_handAt v_holdAt v_fallsAt v_standAt v_highAt v_throughAt x1 x2 ⟨hR, hh, hf, hg, k, hk, rfl, rfl, rfl⟩
  unfold f_m_neverNow_N8 f_m_neverNow_N38
  rw [hfn]
  refine wp_ite (fun g => ?_) (fun g => ?_)
  · have g' : Sfn (SK K) ≤ k := (nI_leX (by omega) (by omega)).mp g
    have e : k = Sfn (SK K) := by omega
    subst e
    exact wp_some ⟨by dsimp only <;> rfl, RK_2 hR hh⟩
  · have g' : k < Sfn (SK K) := Nat.lt_of_not_le (fun q => g ((nI_leX (by omega) (by omega)).mpr q))
    rw [show nI k + 1 = nI (k + 1) from (nI_succ k).symm]
    refine wp_bind (k_m_isSeen (S := wAb (SK K) ((1 : Int32) <<< (nI k &&& 31))) (wAb_ok hS _) (wAb_in (SK_ok hK).2 _) hG (RKw_w hR hj) hh (MIf_ab hf _) hg hv) (fun o ho => ?_)
    refine wp_ite (fun g2 => ?_) (fun g2 => ?_)
    · have e2 : fNever (SK K) G (0 + k) = false := by rw [Nat.zero_add]; rw [ho.1] at g2; exact (b2i_0 _).mp g2
      rw [or_z]
      exact ih (Sfn (SK K) - (k + 1)) _ _ _ _ _ _ _ _ _ _ _ _ _ _ _ _ _ _ _ _ _ _ _ _ _ _ (by omega) ⟨hR, hh, MIf_ab hf _, hg, k + 1, by omega, rfl, rfl, (bts_0 e2).symm⟩
    · have e2 : fNever (SK K) G (0 + k) = true := by rw [Nat.zero_add]; rw [ho.1] at g2; exact b2i_1 g2
      exact ih (Sfn (SK K) - (k + 1)) _ _ _ _ _ _ _ _ _ _ _ _ _ _ _ _ _ _ _ _ _ _ _ _ _ _ (by omega) ⟨hR, hh, MIf_ab hf _, hg, k + 1, by omega, rfl, rfl, by rw [bts_1 e2, Nat.zero_add]⟩
theorem k_m_never {K : Kt} (hK : Kok K) {G : Gt} (hG : Gok G) {v_courses : Int32} {v_wide : Int32} {v_hands : Int32} {v_jumpTold : Int32} {v_frosts : Int32} {v_gaps : Int32} {v_frostsNow : Int32} {v_notFrosts : Int32} {v_gapsNow : Int32} {v_fell : Int32} {v_fellAll : Int32} {v_sheepFirst : Int32} {v_sheepMany : Int32} {v_seens : Int32} {v_typed : Nat → Int32} {v_texts : Nat → Int32} {v_told : Nat → Int32} {v_moods : Nat → Int32} {v_strongs : Nat → Int32} {v_frostYear : Nat → Int32} {v_frostForce : Nat → Int32} {v_gapYear : Nat → Int32} {v_gapColumn : Nat → Int32} {v_gapHand : Nat → Int32} {v_wall : Nat → Int32} {v_yearNow : Nat → Int32} {v_forceNow : Nat → Int32} {v_holdNow : Nat → Int32} {v_fellOf : Nat → Int32} {v_handAt : Nat → Int32} {v_holdAt : Nat → Int32} {v_fallsAt : Nat → Int32} {v_standAt : Nat → Int32} {v_highAt : Nat → Int32} {v_throughAt : Nat → Int32} {v_seenYear : Nat → Int32} {v_seenPlace : Nat → Int32} {v_seenHand : Nat → Int32} (hm : MP K v_typed v_texts v_jumpTold v_frosts v_frostYear v_frostForce v_gaps v_gapYear v_gapColumn v_gapHand) (hv : MIv G v_seens v_seenYear v_seenPlace v_seenHand) : wp (f_m_never v_courses v_wide v_hands v_jumpTold v_frosts v_gaps v_frostsNow v_notFrosts v_gapsNow v_fell v_fellAll v_sheepFirst v_sheepMany v_seens v_typed v_texts v_told v_moods v_strongs v_frostYear v_frostForce v_gapYear v_gapColumn v_gapHand v_wall v_yearNow v_forceNow v_holdNow v_fellOf v_handAt v_holdAt v_fallsAt v_standAt v_highAt v_throughAt v_seenYear v_seenPlace v_seenHand) (fun r => r.1 = vNever (SK K) G) := by
  unfold f_m_never
  exact wp_bind (k_m_neverNow hK hG hm hv) (fun o ho => wp_some ho.1)
