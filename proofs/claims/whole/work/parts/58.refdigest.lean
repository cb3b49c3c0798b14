/-! DIGEST: the reference -/
theorem k_m_placeDigest {K : Kt} (hK : Kok K) {v_courses : Int32} {v_wide : Int32} {v_hands : Int32} {v_jumpTold : Int32} {v_frosts : Int32} {v_gaps : Int32} {v_frostsNow : Int32} {v_notFrosts : Int32} {v_gapsNow : Int32} {v_fell : Int32} {v_fellAll : Int32} {v_sheepFirst : Int32} {v_sheepMany : Int32} {v_typed : Nat → Int32} {v_texts : Nat → Int32} {v_told : Nat → Int32} {v_moods : Nat → Int32} {v_strongs : Nat → Int32} {v_frostYear : Nat → Int32} {v_frostForce : Nat → Int32} {v_gapYear : Nat → Int32} {v_gapColumn : Nat → Int32} {v_gapHand : Nat → Int32} {v_wall : Nat → Int32} {v_yearNow : Nat → Int32} {v_forceNow : Nat → Int32} {v_holdNow : Nat → Int32} {v_fellOf : Nat → Int32} {v_handAt : Nat → Int32} {v_holdAt : Nat → Int32} {v_fallsAt : Nat → Int32} {v_standAt : Nat → Int32} {v_highAt : Nat → Int32} {v_throughAt : Nat → Int32} {a0 : Int64} {p : Nat} (hp : p < 40) (hm : MP K v_typed v_texts v_jumpTold v_frosts v_frostYear v_frostForce v_gaps v_gapYear v_gapColumn v_gapHand) : wp (f_m_placeDigest v_courses v_wide v_hands v_jumpTold v_frosts v_gaps v_frostsNow v_notFrosts v_gapsNow v_fell v_fellAll v_sheepFirst v_sheepMany v_typed v_texts v_told v_moods v_strongs v_frostYear v_frostForce v_gapYear v_gapColumn v_gapHand v_wall v_yearNow v_forceNow v_holdNow v_fellOf v_handAt v_holdAt v_fallsAt v_standAt v_highAt v_throughAt a0 (nI p)) (fun r => r.1 = dg (dg (dg (dg (dg (dg a0 (Sw (SK K) p)) (vAt (SK K) 0 p 0)) (vAt (SK K) 0 p 1)) (vAt (SK K) 19 p 0)) (vAt (SK K) 19 p 1)) (vLift (Sw (SK K)) p) ∧ RK K r.2.1 r.2.2.1 r.2.2.2.1 r.2.2.2.2.2.2.2.2.2.2.2.1 r.2.2.2.2.2.2.2.2.2.2.2.2.1 r.2.2.2.2.2.2.2.2.2.2.2.2.2.1) := by
  unfold f_m_placeDigest
  refine wp_bind (k_m_stoneOf hK hp hm.1.1 hm.1.2) (fun o1 h1 => ?_)
  refine wp_bind (k_m_atOf hK (y := 0) (by decide) hp hm) (fun o2 h2 => ?_)
  refine wp_bind (k_m_atOf hK (y := 0) (by decide) hp hm) (fun o3 h3 => ?_)
  refine wp_bind (k_m_atOf hK (y := 19) (by decide) hp hm) (fun o4 h4 => ?_)
  refine wp_bind (k_m_atOf hK (y := 19) (by decide) hp hm) (fun o5 h5 => ?_)
  refine wp_bind (k_m_liftOf hK hp hm.1.1 hm.1.2) (fun o6 h6 => ?_)
  refine wp_some ⟨?_, h6.2⟩
  dsimp only
  rw [h1.1, h2.1, h3.1, h4.1, h5.1, h6.1]
  rfl
theorem k_m_handDigest {K : Kt} (hK : Kok K) {G : Gt} (hG : Gok G) {v_courses : Int32} {v_wide : Int32} {v_hands : Int32} {v_jumpTold : Int32} {v_frosts : Int32} {v_gaps : Int32} {v_frostsNow : Int32} {v_notFrosts : Int32} {v_gapsNow : Int32} {v_fell : Int32} {v_fellAll : Int32} {v_sheepFirst : Int32} {v_sheepMany : Int32} {v_seens : Int32} {v_typed : Nat → Int32} {v_texts : Nat → Int32} {v_told : Nat → Int32} {v_moods : Nat → Int32} {v_strongs : Nat → Int32} {v_frostYear : Nat → Int32} {v_frostForce : Nat → Int32} {v_gapYear : Nat → Int32} {v_gapColumn : Nat → Int32} {v_gapHand : Nat → Int32} {v_wall : Nat → Int32} {v_yearNow : Nat → Int32} {v_forceNow : Nat → Int32} {v_holdNow : Nat → Int32} {v_fellOf : Nat → Int32} {v_handAt : Nat → Int32} {v_holdAt : Nat → Int32} {v_fallsAt : Nat → Int32} {v_standAt : Nat → Int32} {v_highAt : Nat → Int32} {v_throughAt : Nat → Int32} {v_seenYear : Nat → Int32} {v_seenPlace : Nat → Int32} {v_seenHand : Nat → Int32} {v_standBy : Nat → Int32} {a0 : Int64} {h : Nat} (hlt : h < Sn (SK K)) (hm : MP K v_typed v_texts v_jumpTold v_frosts v_frostYear v_frostForce v_gaps v_gapYear v_gapColumn v_gapHand) (hR : RK K v_courses v_wide v_hands v_told v_moods v_strongs) (hv : MIv G v_seens v_seenYear v_seenPlace v_seenHand) : wp (f_m_handDigest v_courses v_wide v_hands v_jumpTold v_frosts v_gaps v_frostsNow v_notFrosts v_gapsNow v_fell v_fellAll v_sheepFirst v_sheepMany v_seens v_typed v_texts v_told v_moods v_strongs v_frostYear v_frostForce v_gapYear v_gapColumn v_gapHand v_wall v_yearNow v_forceNow v_holdNow v_fellOf v_handAt v_holdAt v_fallsAt v_standAt v_highAt v_throughAt v_seenYear v_seenPlace v_seenHand v_standBy a0 (nI h)) (fun r => r.1 = dg (dg (dg (dg (dg (dg (dg (dg (dg a0 (Smd (SK K) h)) (Sst (SK K) h)) (nI (vMine (SK K) h))) (vFirm (SK K) h)) (vRelay (SK K) h 0)) (vRelay (SK K) h 1)) (bStr (SK K) G h)) (bMod (SK K) G h)) (vAsk (SK K) G h) ∧ RK K r.2.1 r.2.2.1 r.2.2.2.1 r.2.2.2.2.2.2.2.2.2.2.2.1 r.2.2.2.2.2.2.2.2.2.2.2.2.1 r.2.2.2.2.2.2.2.2.2.2.2.2.2.1) := by
  have hn := (SK_ok hK).1.1
  unfold f_m_handDigest
  refine wp_bindE (k_m_handOf hR hlt hn 0) (wp_bindE (k_m_handOf hR hlt hn 1) ?_)
  refine wp_bind (k_m_mineOf hK (by omega) hm) (fun o1 h1 => ?_)
  refine wp_bind (k_m_firmOf hK hlt hm) (fun o2 h2 => ?_)
  refine wp_bind (k_m_relayOf hK hlt hm) (fun o3 h3 => ?_)
  refine wp_bind (k_m_relayOf hK hlt hm) (fun o4 h4 => ?_)
  refine wp_bind (k_m_strongBy hK hG hlt hm hv) (fun o5 h5 => ?_)
  refine wp_bind (k_m_moodBy hK hG hlt hm hv) (fun o6 h6 => ?_)
  refine wp_bind (k_m_askOf hK hG hlt hm hv) (fun o7 h7 => ?_)
  refine wp_some ⟨?_, h7.2⟩
  dsimp only
  rw [if_pos rfl, if_neg nz1, h1.1, h2.1, h3.1, h4.1, h5.1, h6.1, h7.1]
  rfl
section Dr
set_option maxHeartbeats 2000000
theorem k_m_digest {K : Kt} (hK : Kok K) {G : Gt} (hG : Gok G) {f : Int32} {v_courses : Int32} {v_wide : Int32} {v_hands : Int32} {v_jumpTold : Int32} {v_frosts : Int32} {v_gaps : Int32} {v_frostsNow : Int32} {v_notFrosts : Int32} {v_gapsNow : Int32} {v_fell : Int32} {v_fellAll : Int32} {v_sheepFirst : Int32} {v_sheepMany : Int32} {v_seens : Int32} {v_finding : Int32} {v_typed : Nat → Int32} {v_texts : Nat → Int32} {v_told : Nat → Int32} {v_moods : Nat → Int32} {v_strongs : Nat → Int32} {v_frostYear : Nat → Int32} {v_frostForce : Nat → Int32} {v_gapYear : Nat → Int32} {v_gapColumn : Nat → Int32} {v_gapHand : Nat → Int32} {v_wall : Nat → Int32} {v_yearNow : Nat → Int32} {v_forceNow : Nat → Int32} {v_holdNow : Nat → Int32} {v_fellOf : Nat → Int32} {v_handAt : Nat → Int32} {v_holdAt : Nat → Int32} {v_fallsAt : Nat → Int32} {v_standAt : Nat → Int32} {v_highAt : Nat → Int32} {v_throughAt : Nat → Int32} {v_seenYear : Nat → Int32} {v_seenPlace : Nat → Int32} {v_seenHand : Nat → Int32} {v_standBy : Nat → Int32} (hm : MP K v_typed v_texts v_jumpTold v_frosts v_frostYear v_frostForce v_gaps v_gapYear v_gapColumn v_gapHand) (hv : MIv G v_seens v_seenYear v_seenPlace v_seenHand) (hfi : v_finding = f) : wp (f_m_digest v_courses v_wide v_hands v_jumpTold v_frosts v_gaps v_frostsNow v_notFrosts v_gapsNow v_fell v_fellAll v_sheepFirst v_sheepMany v_seens v_finding v_typed v_texts v_told v_moods v_strongs v_frostYear v_frostForce v_gapYear v_gapColumn v_gapHand v_wall v_yearNow v_forceNow v_holdNow v_fellOf v_handAt v_holdAt v_fallsAt v_standAt v_highAt v_throughAt v_seenYear v_seenPlace v_seenHand v_standBy) (fun r => r.1 = dAll K G f ∧ MP K v_typed v_texts v_jumpTold v_frosts v_frostYear v_frostForce v_gaps r.2.2.2.2.2.2.2.2.2.2.2.2.2.2.1 r.2.2.2.2.2.2.2.2.2.2.2.2.2.2.2.1 r.2.2.2.2.2.2.2.2.2.2.2.2.2.2.2.2.1) := by
  have hS := (SK_ok hK).1
  have hn := hS.1
  have hW := hS.2.2.2.2.2.2.2.1
  unfold f_m_digest
  refine wl_m_digest_N6 (fun m v_courses v_wide v_hands v_frostsNow v_notFrosts v_gapsNow v_fell v_fellAll v_sheepFirst v_sheepMany v_told v_moods v_strongs v_gapYear v_gapColumn v_gapHand v_wall v_yearNow v_forceNow v_holdNow v_fellOf v_handAt v_holdAt v_fallsAt v_standAt v_highAt v_throughAt v_standBy x1 x3 => MP K v_typed v_texts v_jumpTold v_frosts v_frostYear v_frostForce v_gaps v_gapYear v_gapColumn v_gapHand ∧ ∃ k, k ≤ 8 ∧ x3 = nI k ∧ m = 8 - k ∧ x1 = dC K G f k) ?_ 1000 8 _ _ _ _ _ _ _ _ _ _ _ _ _ _ _ _ _ _ _ _ _ _ _ _ _ _ _ _ _ _ (by decide) ⟨hm, 0, by decide, rfl, rfl, rfl⟩
  clear hm
  rintro m k6 ih v_courses v_wide v_hands v_frostsNow v_notFrosts v_gapsNow v_fell v_fellAll v_sheepFirst v_sheepMany v_told v_moods v_strongs v_gapYear v_gapColumn v_gapHand v_wall v_yearNow v_forceNow v_holdNow v_fellOf v_handAt v_holdAt v_fallsAt v_standAt v_highAt v_throughAt v_standBy x1 x3 ⟨hm, k, hk, rfl, rfl, hx⟩
  unfold f_m_digest_N6
  refine wp_ite (fun g => ?_) (fun g => ?_)
  rotate_left
  · have g' : ¬ 8 ≤ k := fun q => g ((nI_leX (a := 8) (b := k) (by decide) (by omega)).mpr q)
    refine wp_bind (k_m_count hK (G := G) (f := f) hm hv.1 hfi) (fun o ho => ?_)
    refine ih (8 - (k + 1)) _ _ _ _ _ _ _ _ _ _ _ _ _ _ _ _ _ _ _ _ _ _ _ _ _ _ _ _ _ _ (by omega) ⟨hm, k + 1, by omega, (nI_succ k).symm, rfl, ?_⟩
    rw [hx, ho]
    rfl
  have g' : 8 ≤ k := (nI_leX (a := 8) (by decide) (by omega)).mp g
  have e8 : k = 8 := by omega
  rw [e8] at hx
  clear g g' ih hk e8
  refine wp_bind (k_m_faultOf hK hm.1.1 hm.1.2) (fun o1 h1 => ?_)
  refine wp_bind (k_m_faultOf hK hm.1.1 hm.1.2) (fun o2 h2 => ?_)
  have hx1 : ((31 : Int64) * (((31 : Int64) * x1) + o1.1.toInt64)) + o2.1.toInt64 = dT K G f := by
    rw [hx, h1.1, h2.1, if_pos rfl, if_neg nz1]
    rfl
  rw [hx1]
  refine wl_m_digest_N59 (fun m v_courses v_wide v_hands v_frostsNow v_notFrosts v_gapsNow v_fell v_fellAll v_sheepFirst v_sheepMany v_told v_moods v_strongs v_gapYear v_gapColumn v_gapHand v_wall v_yearNow v_forceNow v_holdNow v_fellOf v_handAt v_holdAt v_fallsAt v_standAt v_highAt v_throughAt v_standBy x1 x3 => MP K v_typed v_texts v_jumpTold v_frosts v_frostYear v_frostForce v_gaps v_gapYear v_gapColumn v_gapHand ∧ RK K v_courses v_wide v_hands v_told v_moods v_strongs ∧ ∃ p, p ≤ 40 ∧ x3 = nI p ∧ m = 40 - p ∧ x1 = dP (SK K) (dT K G f) p) ?_ 1000 40 _ _ _ _ _ _ _ _ _ _ _ _ _ _ _ _ _ _ _ _ _ _ _ _ _ _ _ _ _ _ (by decide) ⟨hm, h2.2, 0, by decide, rfl, rfl, rfl⟩
  clear hm hx hx1 h1 h2
  rintro m k59 ih v_courses v_wide v_hands v_frostsNow v_notFrosts v_gapsNow v_fell v_fellAll v_sheepFirst v_sheepMany v_told v_moods v_strongs v_gapYear v_gapColumn v_gapHand v_wall v_yearNow v_forceNow v_holdNow v_fellOf v_handAt v_holdAt v_fallsAt v_standAt v_highAt v_throughAt v_standBy x1 x3 ⟨hm, hR, p, hp, rfl, rfl, hx⟩
  unfold f_m_digest_N59
  refine wp_ite (fun g => ?_) (fun g => ?_)
  rotate_left
  · have g' : ¬ 40 ≤ p := fun q => g ((nI_leX (a := 40) (b := p) (by decide) (by omega)).mpr q)
    refine wp_bind (k_m_placeDigest hK (by omega) hm) (fun o ho => ?_)
    refine ih (40 - (p + 1)) _ _ _ _ _ _ _ _ _ _ _ _ _ _ _ _ _ _ _ _ _ _ _ _ _ _ _ _ _ _ (by omega) ⟨hm, ho.2, p + 1, by omega, (nI_succ p).symm, rfl, ?_⟩
    rw [ho.1, hx]
    rfl
  have g' : 40 ≤ p := (nI_leX (a := 40) (by decide) (by omega)).mp g
  have e8 : p = 40 := by omega
  rw [e8] at hx
  clear g g' ih hp e8
  generalize hz : dP (SK K) (dT K G f) 40 = z at hx
  refine wl_m_digest_N80 (fun m v_courses v_wide v_hands v_frostsNow v_notFrosts v_gapsNow v_fell v_fellAll v_sheepFirst v_sheepMany v_told v_moods v_strongs v_gapYear v_gapColumn v_gapHand v_wall v_yearNow v_forceNow v_holdNow v_fellOf v_handAt v_holdAt v_fallsAt v_standAt v_highAt v_throughAt v_standBy x1 x3 => MP K v_typed v_texts v_jumpTold v_frosts v_frostYear v_frostForce v_gaps v_gapYear v_gapColumn v_gapHand ∧ RK K v_courses v_wide v_hands v_told v_moods v_strongs ∧ ∃ c, c ≤ SW (SK K) ∧ x3 = nI c ∧ m = SW (SK K) - c ∧ x1 = dW (SK K) z c) ?_ 1000 (SW (SK K)) _ _ _ _ _ _ _ _ _ _ _ _ _ _ _ _ _ _ _ _ _ _ _ _ _ _ _ _ _ _ (by omega) ⟨hm, hR, 0, by omega, rfl, by omega, hx⟩
  clear hm hx hR
  rintro m k80 ih v_courses v_wide v_hands v_frostsNow v_notFrosts v_gapsNow v_fell v_fellAll v_sheepFirst v_sheepMany v_told v_moods v_strongs v_gapYear v_gapColumn v_gapHand v_wall v_yearNow v_forceNow v_holdNow v_fellOf v_handAt v_holdAt v_fallsAt v_standAt v_highAt v_throughAt v_standBy x1 x3 ⟨hm, hR, c, hc, rfl, rfl, hx⟩
  unfold f_m_digest_N80
  have hwd : v_wide = nI (SW (SK K)) := hR.2.1
  refine wp_ite (fun g => ?_) (fun g => ?_)
  rotate_left
  · have g' : c < SW (SK K) := Nat.lt_of_not_le (fun q => g (by rw [hwd]; exact (nI_leX (by omega) (by omega)).mpr q))
    refine wp_bind (k_m_columnOf hK (y := 9) (by decide) g' hm) (fun o1 h1 => ?_)
    refine wp_bind (k_m_columnOf hK (y := 9) (by decide) g' hm) (fun o2 h2 => ?_)
    refine wp_bind (k_m_columnOf hK (y := 19) (by decide) g' hm) (fun o3 h3 => ?_)
    refine wp_bind (k_m_columnOf hK (y := 19) (by decide) g' hm) (fun o4 h4 => ?_)
    refine ih (SW (SK K) - (c + 1)) _ _ _ _ _ _ _ _ _ _ _ _ _ _ _ _ _ _ _ _ _ _ _ _ _ _ _ _ _ _ (by omega) ⟨hm, h4.2, c + 1, by omega, (nI_succ c).symm, rfl, ?_⟩
    rw [h1.1, h2.1, h3.1, h4.1, hx]
    rfl
  have g' : SW (SK K) ≤ c := by rw [hwd] at g; exact (nI_leX (by omega) (by omega)).mp g
  have e5 : c = SW (SK K) := by omega
  rw [e5] at hx
  clear g g' ih hc e5 hwd
  generalize hz2 : dW (SK K) z (SW (SK K)) = z2 at hx
  refine wl_m_digest_N160 (fun m v_courses v_wide v_hands v_frostsNow v_notFrosts v_gapsNow v_fell v_fellAll v_sheepFirst v_sheepMany v_told v_moods v_strongs v_gapYear v_gapColumn v_gapHand v_wall v_yearNow v_forceNow v_holdNow v_fellOf v_handAt v_holdAt v_fallsAt v_standAt v_highAt v_throughAt v_standBy x1 x3 => MP K v_typed v_texts v_jumpTold v_frosts v_frostYear v_frostForce v_gaps v_gapYear v_gapColumn v_gapHand ∧ RK K v_courses v_wide v_hands v_told v_moods v_strongs ∧ ∃ y, y ≤ 20 ∧ x3 = nI y ∧ m = 20 - y ∧ x1 = dF (SK K) z2 y) ?_ 1000 20 _ _ _ _ _ _ _ _ _ _ _ _ _ _ _ _ _ _ _ _ _ _ _ _ _ _ _ _ _ _ (by omega) ⟨hm, hR, 0, by omega, rfl, by omega, hx⟩
  clear hm hx hR
  rintro m k160 ih v_courses v_wide v_hands v_frostsNow v_notFrosts v_gapsNow v_fell v_fellAll v_sheepFirst v_sheepMany v_told v_moods v_strongs v_gapYear v_gapColumn v_gapHand v_wall v_yearNow v_forceNow v_holdNow v_fellOf v_handAt v_holdAt v_fallsAt v_standAt v_highAt v_throughAt v_standBy x1 x3 ⟨hm, hR, y, hy, rfl, rfl, hx⟩
  unfold f_m_digest_N160
  refine wp_ite (fun g => ?_) (fun g => ?_)
  rotate_left
  · have g' : ¬ 20 ≤ y := fun q => g ((nI_leX (a := 20) (b := y) (by decide) (by omega)).mpr q)
    refine wp_bind (k_m_fallsOf hK (show y < 20 by omega) hm) (fun o1 h1 => ?_)
    refine ih (20 - (y + 1)) _ _ _ _ _ _ _ _ _ _ _ _ _ _ _ _ _ _ _ _ _ _ _ _ _ _ _ _ _ _ (by omega) ⟨hm, h1.2, y + 1, by omega, (nI_succ y).symm, rfl, ?_⟩
    rw [h1.1, hx]
    rfl
  have g' : 20 ≤ y := (nI_leX (a := 20) (by decide) (by omega)).mp g
  have e5 : y = 20 := by omega
  rw [e5] at hx
  clear g g' ih hy e5
  generalize hz3 : dF (SK K) z2 20 = z3 at hx
  refine wl_m_digest_N187 (fun m v_courses v_wide v_hands v_frostsNow v_notFrosts v_gapsNow v_fell v_fellAll v_sheepFirst v_sheepMany v_told v_moods v_strongs v_gapYear v_gapColumn v_gapHand v_wall v_yearNow v_forceNow v_holdNow v_fellOf v_handAt v_holdAt v_fallsAt v_standAt v_highAt v_throughAt v_standBy x1 x3 => MP K v_typed v_texts v_jumpTold v_frosts v_frostYear v_frostForce v_gaps v_gapYear v_gapColumn v_gapHand ∧ RK K v_courses v_wide v_hands v_told v_moods v_strongs ∧ ∃ h, h ≤ Sn (SK K) ∧ x3 = nI h ∧ m = Sn (SK K) - h ∧ x1 = dH (SK K) G z3 h) ?_ 1000 (Sn (SK K)) _ _ _ _ _ _ _ _ _ _ _ _ _ _ _ _ _ _ _ _ _ _ _ _ _ _ _ _ _ _ (by omega) ⟨hm, hR, 0, by omega, rfl, by omega, hx⟩
  clear hm hx hR
  rintro m k187 ih v_courses v_wide v_hands v_frostsNow v_notFrosts v_gapsNow v_fell v_fellAll v_sheepFirst v_sheepMany v_told v_moods v_strongs v_gapYear v_gapColumn v_gapHand v_wall v_yearNow v_forceNow v_holdNow v_fellOf v_handAt v_holdAt v_fallsAt v_standAt v_highAt v_throughAt v_standBy x1 x3 ⟨hm, hR, h, hle, rfl, rfl, hx⟩
  unfold f_m_digest_N187
  have htold : v_hands = nI (Sn (SK K)) := hR.2.2.1
  refine wp_ite (fun g => ?_) (fun g => ?_)
  rotate_left
  · have g' : h < Sn (SK K) := Nat.lt_of_not_le (fun q => g (by rw [htold]; exact (nI_leX (by omega) (by omega)).mpr q))
    refine wp_bind (k_m_handDigest hK hG g' hm hR hv) (fun o ho => ?_)
    refine ih (Sn (SK K) - (h + 1)) _ _ _ _ _ _ _ _ _ _ _ _ _ _ _ _ _ _ _ _ _ _ _ _ _ _ _ _ _ _ (by omega) ⟨hm, ho.2, h + 1, by omega, (nI_succ h).symm, rfl, ?_⟩
    rw [ho.1, hx]
    rfl
  have g' : Sn (SK K) ≤ h := by rw [htold] at g; exact (nI_leX (by omega) (by omega)).mp g
  have e5 : h = Sn (SK K) := by omega
  rw [e5] at hx
  clear g g' ih hle e5 htold
  refine wp_bind (k_m_sheepOf hK hm) (fun o1 h1 => ?_)
  refine wp_bind (k_m_sheepOf hK hm) (fun o2 h2 => ?_)
  refine wp_bind (k_m_bestNow hK hm) (fun o3 h3 => ?_)
  generalize hz4 : dH (SK K) G z3 (Sn (SK K)) = z4 at hx
  have hx1 : ((31 : Int64) * (((31 : Int64) * (((31 : Int64) * x1) + o1.1.toInt64)) + o2.1.toInt64)) + o3.1.toInt64 = dS (SK K) z4 := by
    rw [hx, h1.1, h2.1, h3.1]
    rfl
  rw [hx1]
  generalize hz5 : dS (SK K) z4 = z5
  refine wl_m_digest_N248 (fun m v_courses v_wide v_hands v_frostsNow v_notFrosts v_gapsNow v_fell v_fellAll v_sheepFirst v_sheepMany v_told v_moods v_strongs v_gapYear v_gapColumn v_gapHand v_wall v_yearNow v_forceNow v_holdNow v_fellOf v_handAt v_holdAt v_fallsAt v_standAt v_highAt v_throughAt v_standBy x1 x3 => MP K v_typed v_texts v_jumpTold v_frosts v_frostYear v_frostForce v_gaps v_gapYear v_gapColumn v_gapHand ∧ ∃ k, k ≤ 3 ∧ x3 = nI k ∧ m = 3 - k ∧ x1 = dM (SK K) z5 k) ?_ 1000 3 _ _ _ _ _ _ _ _ _ _ _ _ _ _ _ _ _ _ _ _ _ _ _ _ _ _ _ _ _ _ (by decide) ⟨hm, 0, by decide, rfl, rfl, rfl⟩
  clear hm hx hR hx1 h1 h2 h3
  rintro m k248 ih v_courses v_wide v_hands v_frostsNow v_notFrosts v_gapsNow v_fell v_fellAll v_sheepFirst v_sheepMany v_told v_moods v_strongs v_gapYear v_gapColumn v_gapHand v_wall v_yearNow v_forceNow v_holdNow v_fellOf v_handAt v_holdAt v_fallsAt v_standAt v_highAt v_throughAt v_standBy x1 x3 ⟨hm, k, hk, rfl, rfl, hx⟩
  unfold f_m_digest_N248
  refine wp_ite (fun g => ?_) (fun g => ?_)
  rotate_left
  · have g' : ¬ 3 ≤ k := fun q => g ((nI_leX (a := 3) (b := k) (by decide) (by omega)).mpr q)
    refine wp_bind (k_m_mendOf hK hm) (fun o ho => ?_)
    refine ih (3 - (k + 1)) _ _ _ _ _ _ _ _ _ _ _ _ _ _ _ _ _ _ _ _ _ _ _ _ _ _ _ _ _ _ (by omega) ⟨ho.2.2, k + 1, by omega, (nI_succ k).symm, rfl, ?_⟩
    rw [ho.1, hx]
    rfl
  have g' : 3 ≤ k := (nI_leX (a := 3) (by decide) (by omega)).mp g
  have e5 : k = 3 := by omega
  rw [e5] at hx
  clear g g' ih hk e5
  refine wp_bind (k_m_neverNow hK hG hm hv) (fun o1 h1 => ?_)
  refine wp_bind (k_m_luckOf hK (c := 5) (by decide) hm) (fun o2 h2 => ?_)
  refine wp_bind (k_m_luckOf hK (c := 5) (by decide) hm) (fun o3 h3 => ?_)
  refine wp_bind (k_m_agesOf hK (n := 5) (by decide) hm) (fun o4 h4 => ?_)
  refine wp_bind (k_m_agesOf hK (n := 5) (by decide) hm) (fun o5 h5 => ?_)
  refine wp_some ⟨?_, hm⟩
  dsimp only
  unfold dAll
  rw [hz, hz2, hz3, hz4, hz5, ← hx, h1.1, h2.1, h3.1, h4.1, h5.1]
  rfl
end Dr
