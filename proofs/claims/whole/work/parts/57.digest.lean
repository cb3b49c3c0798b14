/-! DIGEST: what it is made of; the class -/
def dg (h : Int64) (v : Int32) : Int64 := ((31 : Int64) * h) + v.toInt64
def dl (h v : Int64) : Int64 := ((31 : Int64) * h) + v
theorem nz1 : ¬ (1 : Int32) = 0 := by decide
theorem A_at_n (S : Sit) {y c k : Nat} (hy : y < 20) (hc : c < 5) (hk : k < 8) {w : Int32} (hw : wi w 0 1 = 1) : A_at S (nI y) (nI c) (nI k) w = vAt S y (8 * c + k) w := by
  unfold A_at
  rw [show (19 : Int32) = nI 19 from rfl, wi_n (by omega) (by decide), if_neg nz1, pl_n hc hk, if_neg nz1, hw, if_neg nz1, cl (show y < 2 ^ 31 by omega), cl (show c < 2 ^ 31 by omega), cl (show k < 2 ^ 31 by omega)]
theorem A_column_n (S : Sit) (hW : SW S ≤ 8) {y c : Nat} (hy : y < 20) (hc : c < SW S) {w : Int32} (hw : wi w 0 1 = 1) : A_column S (nI y) (nI c) w = vCol S y c w := by
  unfold A_column
  rw [show (19 : Int32) = nI 19 from rfl, wi_n (by omega) (by decide), if_neg nz1, wi_lt hc (by omega), if_neg nz1, hw, if_neg nz1, cl (show y < 2 ^ 31 by omega), cl (show c < 2 ^ 31 by omega)]
theorem A_falls_n (S : Sit) {y : Nat} (hy : y < 20) : A_falls S (nI y) = nI (feY S y) := by
  unfold A_falls
  rw [show (19 : Int32) = nI 19 from rfl, wi_n (by omega) (by decide), if_neg nz1, cl (show y < 2 ^ 31 by omega)]
theorem A_mine_n (S : Sit) {h : Nat} (hh : h < 8) : A_mine S (nI h) = nI (vMine S h) := by
  unfold A_mine
  rw [show (7 : Int32) = nI 7 from rfl, wi_n (by omega) (by decide), if_neg nz1, cl (show h < 2 ^ 31 by omega)]
theorem A_hand_n (S : Sit) (hn : Sn S ≤ 8) {h : Nat} (hh : h < Sn S) {w : Int32} (hw : wi w 0 1 = 1) : A_hand S (nI h) w = if w = 0 then Smd S h else Sst S h := by
  unfold A_hand
  rw [wi_lt hh (by omega), if_neg nz1, hw, if_neg nz1, cl (show h < 2 ^ 31 by omega)]
theorem A_firm_n (S : Sit) (hn : Sn S ≤ 8) {h : Nat} (hh : h < Sn S) : A_firm S (nI h) = vFirm S h := by
  unfold A_firm
  rw [wi_lt hh (by omega), if_neg nz1, cl (show h < 2 ^ 31 by omega)]
theorem A_relay_n (S : Sit) (hn : Sn S ≤ 8) {h : Nat} (hh : h < Sn S) {w : Int32} (hw : wi w 0 1 = 1) : A_relay S (nI h) w = vRelay S h w := by
  unfold A_relay
  rw [wi_lt hh (by omega), if_neg nz1, hw, if_neg nz1, cl (show h < 2 ^ 31 by omega)]
theorem A_was_n (S : Sit) (G : Gt) (hn : Sn S ≤ 8) {h : Nat} (hh : h < Sn S) {w : Int32} (hw : wi w 0 1 = 1) : A_was S G (nI h) w = vWas S G h w := by
  unfold A_was
  rw [wi_lt hh (by omega), if_neg nz1, hw, if_neg nz1, cl (show h < 2 ^ 31 by omega)]
theorem A_ask_n (S : Sit) (G : Gt) (hn : Sn S ≤ 8) {h : Nat} (hh : h < Sn S) : A_ask S G (nI h) = vAsk S G h := by
  unfold A_ask
  rw [wi_lt hh (by omega), if_neg nz1, cl (show h < 2 ^ 31 by omega)]
theorem A_sheep_n (S : Sit) {w : Int32} (hw : wi w 0 1 = 1) : A_sheep S w = vSheep S w := by
  unfold A_sheep
  rw [hw, if_neg nz1]
theorem A_mend_n (S : Sit) {w : Int32} (hw : wi w 0 2 = 1) : A_mend S 5 w = vMend S 5 w := by
  unfold A_mend
  rw [show wi 5 0 19 = 1 from by decide, if_neg nz1, hw, if_neg nz1]
theorem A_luck_n (S : Sit) {w : Int32} (hw : wi w 0 1 = 1) : A_luck S 5 w = vLuck S 5 w := by
  unfold A_luck
  rw [show wi 5 0 16 = 1 from by decide, if_neg nz1, hw, if_neg nz1]
  rfl
theorem A_ages_n (S : Sit) {w : Int32} (hw : wi w 0 1 = 1) : A_ages S 7 5 w = vAges S 7 5 w := by
  unfold A_ages
  rw [show wi 5 0 6 = 1 from by decide, if_neg nz1, hw, if_neg nz1]
  rfl
theorem A_stone_n (S : Sit) {c k : Nat} (hc : c < 5) (hk : k < 8) : A_stone S (nI c) (nI k) = Sw S (8 * c + k) := by
  unfold A_stone
  rw [pl_n hc hk, if_neg nz1, cl (show c < 2 ^ 31 by omega), cl (show k < 2 ^ 31 by omega)]
theorem A_lift_n (S : Sit) {c k : Nat} (hc : c < 5) (hk : k < 8) : A_lift S (nI c) (nI k) = vLift (Sw S) (8 * c + k) := by
  unfold A_lift
  rw [pl_n hc hk, if_neg nz1, cl (show c < 2 ^ 31 by omega), cl (show k < 2 ^ 31 by omega)]
theorem w0 : wi 0 0 1 = 1 := by decide
theorem w1 : wi 1 0 1 = 1 := by decide
def dC (K : Kt) (G : Gt) (f : Int32) : Nat → Int64
  | 0 => 17
  | k + 1 => dg (dC K G f k) (A_count K G f (nI k))
def dT (K : Kt) (G : Gt) (f : Int32) : Int64 := dg (dg (dC K G f 8) (wFault (kWb K) (kA K))) (hFault (kHb K) (kB K))
def dP (S : Sit) (z : Int64) : Nat → Int64
  | 0 => z
  | p + 1 => dg (dg (dg (dg (dg (dg (dP S z p) (Sw S p)) (vAt S 0 p 0)) (vAt S 0 p 1)) (vAt S 19 p 0)) (vAt S 19 p 1)) (vLift (Sw S) p)
def dW (S : Sit) (z : Int64) : Nat → Int64
  | 0 => z
  | c + 1 => dg (dg (dg (dg (dW S z c) (vCol S 9 c 0)) (vCol S 9 c 1)) (vCol S 19 c 0)) (vCol S 19 c 1)
def dF (S : Sit) (z : Int64) : Nat → Int64
  | 0 => z
  | y + 1 => dg (dF S z y) (nI (feY S y))
def dH (S : Sit) (G : Gt) (z : Int64) : Nat → Int64
  | 0 => z
  | h + 1 => dg (dg (dg (dg (dg (dg (dg (dg (dg (dH S G z h) (Smd S h)) (Sst S h)) (nI (vMine S h))) (vFirm S h)) (vRelay S h 0)) (vRelay S h 1)) (bStr S G h)) (bMod S G h)) (vAsk S G h)
def dM (S : Sit) (z : Int64) : Nat → Int64
  | 0 => z
  | k + 1 => dg (dM S z k) (vMend S 5 (nI k))
def dS (S : Sit) (z : Int64) : Int64 := dg (dg (dg z (vSheep S 0)) (vSheep S 1)) (bst (vMine S) 8).1
def dE (S : Sit) (G : Gt) (z : Int64) : Int64 := dg (dg (dl (dl (dg z (vNever S G)) (vLuck S 5 0)) (vLuck S 5 1)) (vAges S 7 5 0)) (vAges S 7 5 1)
def dAll (K : Kt) (G : Gt) (f : Int32) : Int64 := dE (SK K) G (dM (SK K) (dS (SK K) (dH (SK K) G (dF (SK K) (dW (SK K) (dP (SK K) (dT K G f) 40) (SW (SK K))) 20) (Sn (SK K)))) 3)

def CXI (K : Kt) (a b c : Int32) (st : Nat → Int64) (n : Int32) (md sr : Nat → Int32) (gn : Int32) (gy gc gh : Nat → Int32) (stale losers : Int32) (stones standing : Nat → Int64) (opn fallen : Nat → Int32) : Prop := CIw (SK K) a b c st ∧ CIh (SK K) n md sr ∧ CIg (SK K) gn gy gc gh ∧ CT (SK K) stale losers stones standing opn fallen
section Dg
set_option maxHeartbeats 2000000
theorem k_x_digest {K : Kt} (hK : Kok K) {G : Gt} (hG : Gok G) {f : Int32} {v_toldIsStale : Int32} {v_latestFinding : Int32} {v_wallText_length : Int32} {v_handsText_length : Int32} {v_wall_courses : Int32} {v_wall_columns : Int32} {v_wall_fault : Int32} {v_wall_jump : Int32} {v_wall_stones : Nat → Int64} {v_hands_told : Int32} {v_hands_fault : Int32} {v_hands_mood : Nat → Int32} {v_hands_strong : Nat → Int32} {v_frosts_told : Int32} {v_frosts_year : Nat → Int32} {v_frosts_force : Nat → Int32} {v_chanceFrosts_told : Int32} {v_chanceFrosts_year : Nat → Int32} {v_chanceFrosts_force : Nat → Int32} {v_gappings_told : Int32} {v_gappings_year : Nat → Int32} {v_gappings_column : Nat → Int32} {v_gappings_hand : Nat → Int32} {v_sights_told : Int32} {v_sights_year : Nat → Int32} {v_sights_place : Nat → Int32} {v_sights_setter : Nat → Int32} {v_told_all : Int64} {v_told_losers : Int32} {v_told_now : Nat → Int64} {v_told_stones : Nat → Int64} {v_told_standing : Nat → Int64} {v_told_open : Nat → Int32} {v_told_fallen : Nat → Int32} {v_trial_all : Int64} {v_trial_losers : Int32} {v_trial_now : Nat → Int64} {v_trial_stones : Nat → Int64} {v_trial_standing : Nat → Int64} {v_trial_open : Nat → Int32} {v_trial_fallen : Nat → Int32} {v_stood : Nat → Int32} (hf : CIf (SK K) v_frosts_told v_frosts_year v_frosts_force) (hi : CXI K v_wall_courses v_wall_columns v_wall_jump v_wall_stones v_hands_told v_hands_mood v_hands_strong v_gappings_told v_gappings_year v_gappings_column v_gappings_hand v_toldIsStale v_told_losers v_told_stones v_told_standing v_told_open v_told_fallen) (hl1 : v_wallText_length = nI (kA K)) (hl2 : v_handsText_length = nI (kB K)) (hwf : v_wall_fault = wFault (kWb K) (kA K)) (hhf : v_hands_fault = hFault (kHb K) (kB K)) (hv : CIv G v_sights_told v_sights_year v_sights_place v_sights_setter) (hfi : v_latestFinding = f) : wp (f_x_digest v_toldIsStale v_latestFinding v_wallText_length v_handsText_length v_wall_courses v_wall_columns v_wall_fault v_wall_jump v_wall_stones v_hands_told v_hands_fault v_hands_mood v_hands_strong v_frosts_told v_frosts_year v_frosts_force v_chanceFrosts_told v_chanceFrosts_year v_chanceFrosts_force v_gappings_told v_gappings_year v_gappings_column v_gappings_hand v_sights_told v_sights_year v_sights_place v_sights_setter v_told_all v_told_losers v_told_now v_told_stones v_told_standing v_told_open v_told_fallen v_trial_all v_trial_losers v_trial_now v_trial_stones v_trial_standing v_trial_open v_trial_fallen v_stood) (fun r => r.1 = dAll K G f ∧ CXI K v_wall_courses v_wall_columns v_wall_jump r.2.2.1 v_hands_told r.2.2.2.1 r.2.2.2.2.1 r.2.2.2.2.2.2.2.2.1 r.2.2.2.2.2.2.2.2.2.1 r.2.2.2.2.2.2.2.2.2.2.1 r.2.2.2.2.2.2.2.2.2.2.2.1 r.2.1 r.2.2.2.2.2.2.2.2.2.2.2.2.2.1 r.2.2.2.2.2.2.2.2.2.2.2.2.2.2.2.1 r.2.2.2.2.2.2.2.2.2.2.2.2.2.2.2.2.1 r.2.2.2.2.2.2.2.2.2.2.2.2.2.2.2.2.2.1 r.2.2.2.2.2.2.2.2.2.2.2.2.2.2.2.2.2.2.1) := by
  have hS := (SK_ok hK).1
  have hI := (SK_ok hK).2
  have hA : Sab (SK K) = 0 := rfl
  have hGn : Sgn (SK K) ≤ 6 := hK.2.2.2.2.1
  have hn := hS.1
  have hW := hS.2.2.2.2.2.2.2.1
  unfold f_x_digest
  refine wl_x_digest_N6 (fun m v_toldIsStale v_wall_stones v_hands_mood v_hands_strong v_chanceFrosts_told v_chanceFrosts_year v_chanceFrosts_force v_gappings_told v_gappings_year v_gappings_column v_gappings_hand v_told_all v_told_losers v_told_now v_told_stones v_told_standing v_told_open v_told_fallen v_trial_all v_trial_losers v_trial_now v_trial_stones v_trial_standing v_trial_open v_trial_fallen v_stood x1 x3 => CXI K v_wall_courses v_wall_columns v_wall_jump v_wall_stones v_hands_told v_hands_mood v_hands_strong v_gappings_told v_gappings_year v_gappings_column v_gappings_hand v_toldIsStale v_told_losers v_told_stones v_told_standing v_told_open v_told_fallen ∧ ∃ k, k ≤ 8 ∧ x3 = nI k ∧ m = 8 - k ∧ x1 = dC K G f k) ?_ 1000 8 _ _ _ _ _ _ _ _ _ _ _ _ _ _ _ _ _ _ _ _ _ _ _ _ _ _ _ _ (by decide) ⟨hi, 0, by decide, rfl, rfl, rfl⟩
  clear hi
  rintro m k6 ih v_toldIsStale v_wall_stones v_hands_mood v_hands_strong v_chanceFrosts_told v_chanceFrosts_year v_chanceFrosts_force v_gappings_told v_gappings_year v_gappings_column v_gappings_hand v_told_all v_told_losers v_told_now v_told_stones v_told_standing v_told_open v_told_fallen v_trial_all v_trial_losers v_trial_now v_trial_stones v_trial_standing v_trial_open v_trial_fallen v_stood x1 x3 ⟨hi, k, hk, rfl, rfl, hx⟩
  unfold f_x_digest_N6
  refine wp_ite (fun g => ?_) (fun g => ?_)
  rotate_left
  · have g' : ¬ 7 < k := fun q => g ((nI_ltX (a := 7) (b := k) (by decide) (by omega)).mpr q)
    refine wp_bind (k_x_count hK hi.1 hi.2.1 hf hi.2.2.1 hi.2.2.2 hl1 hl2 hv.1 hfi) (fun o ho => ?_)
    refine ih (8 - (k + 1)) _ _ _ _ _ _ _ _ _ _ _ _ _ _ _ _ _ _ _ _ _ _ _ _ _ _ _ _ (by omega) ⟨⟨hi.1, hi.2.1, hi.2.2.1, ho.2⟩, k + 1, by omega, (nI_succ k).symm, rfl, ?_⟩
    rw [hx, ho.1]
    rfl
  have g' : 7 < k := (nI_ltX (a := 7) (by decide) (by omega)).mp g
  have e8 : k = 8 := by omega
  rw [e8] at hx
  clear g g' ih hk e8
  refine wp_bindE (k_x_fault (K := K) hwf hhf 0) (wp_bindE (k_x_fault (K := K) hwf hhf 1) ?_)
  have hx1 : ((31 : Int64) * (((31 : Int64) * x1) + (A_fault K 0).toInt64)) + (A_fault K 1).toInt64 = dT K G f := by
    rw [hx]
    rfl
  rw [hx1]
  refine wl_x_digest_N59 (fun m v_toldIsStale v_wall_stones v_hands_mood v_hands_strong v_chanceFrosts_told v_chanceFrosts_year v_chanceFrosts_force v_gappings_told v_gappings_year v_gappings_column v_gappings_hand v_told_all v_told_losers v_told_now v_told_stones v_told_standing v_told_open v_told_fallen v_trial_all v_trial_losers v_trial_now v_trial_stones v_trial_standing v_trial_open v_trial_fallen v_stood x1 x3 => CXI K v_wall_courses v_wall_columns v_wall_jump v_wall_stones v_hands_told v_hands_mood v_hands_strong v_gappings_told v_gappings_year v_gappings_column v_gappings_hand v_toldIsStale v_told_losers v_told_stones v_told_standing v_told_open v_told_fallen ∧ ∃ c, c ≤ 5 ∧ x3 = nI c ∧ m = 5 - c ∧ x1 = dP (SK K) (dT K G f) (8 * c)) ?_ 1000 5 _ _ _ _ _ _ _ _ _ _ _ _ _ _ _ _ _ _ _ _ _ _ _ _ _ _ _ _ (by decide) ⟨hi, 0, by decide, rfl, rfl, rfl⟩
  clear hi hx hx1
  rintro m k59 ih v_toldIsStale v_wall_stones v_hands_mood v_hands_strong v_chanceFrosts_told v_chanceFrosts_year v_chanceFrosts_force v_gappings_told v_gappings_year v_gappings_column v_gappings_hand v_told_all v_told_losers v_told_now v_told_stones v_told_standing v_told_open v_told_fallen v_trial_all v_trial_losers v_trial_now v_trial_stones v_trial_standing v_trial_open v_trial_fallen v_stood x1 x3 ⟨hi, c, hc, rfl, rfl, hx⟩
  unfold f_x_digest_N59
  refine wp_ite (fun g => ?_) (fun g => ?_)
  rotate_left
  · have g' : ¬ 5 ≤ c := fun q => g ((nI_leX (a := 5) (b := c) (by decide) (by omega)).mpr q)
    refine wl_x_digest_N67 (fun m v_toldIsStale v_wall_stones v_hands_mood v_hands_strong v_chanceFrosts_told v_chanceFrosts_year v_chanceFrosts_force v_gappings_told v_gappings_year v_gappings_column v_gappings_hand v_told_all v_told_losers v_told_now v_told_stones v_told_standing v_told_open v_told_fallen v_trial_all v_trial_losers v_trial_now v_trial_stones v_trial_standing v_trial_open v_trial_fallen v_stood x1 x3 x4 => CXI K v_wall_courses v_wall_columns v_wall_jump v_wall_stones v_hands_told v_hands_mood v_hands_strong v_gappings_told v_gappings_year v_gappings_column v_gappings_hand v_toldIsStale v_told_losers v_told_stones v_told_standing v_told_open v_told_fallen ∧ x3 = nI c ∧ ∃ k, k ≤ 8 ∧ x4 = nI k ∧ m = 8 - k ∧ x1 = dP (SK K) (dT K G f) (8 * c + k)) ?_ 1000 8 _ _ _ _ _ _ _ _ _ _ _ _ _ _ _ _ _ _ _ _ _ _ _ _ _ _ _ _ _ (by decide) ⟨hi, rfl, 0, by decide, rfl, rfl, hx⟩
    clear hi hx
    rintro m k67 ih2 v_toldIsStale v_wall_stones v_hands_mood v_hands_strong v_chanceFrosts_told v_chanceFrosts_year v_chanceFrosts_force v_gappings_told v_gappings_year v_gappings_column v_gappings_hand v_told_all v_told_losers v_told_now v_told_stones v_told_standing v_told_open v_told_fallen v_trial_all v_trial_losers v_trial_now v_trial_stones v_trial_standing v_trial_open v_trial_fallen v_stood x1 x3 x4 ⟨hi, rfl, k, hk, rfl, rfl, hx⟩
    unfold f_x_digest_N67
    refine wp_ite (fun g2 => ?_) (fun g2 => ?_)
    · have g3 : 8 ≤ k := (nI_leX (a := 8) (by decide) (by omega)).mp g2
      have e : 8 * c + k = 8 * (c + 1) := by omega
      rw [e] at hx
      exact ih (5 - (c + 1)) _ _ _ _ _ _ _ _ _ _ _ _ _ _ _ _ _ _ _ _ _ _ _ _ _ _ _ _ (by omega) ⟨hi, c + 1, by omega, (nI_succ c).symm, rfl, hx⟩
    · have g3 : k < 8 := Nat.lt_of_not_le (fun q => g2 ((nI_leX (a := 8) (b := k) (by decide) (by omega)).mpr q))
      have hc5 : c < 5 := by omega
      refine wp_bindE (k_x_stone hS hi.1.2.2.2 _ _) ?_
      refine wp_bind (k_x_at hS hI hA hi.1 hi.2.1 hf hi.2.2.1 hi.2.2.2) (fun o1 h1 => ?_)
      refine wp_bind (k_x_at hS hI hA hi.1 hi.2.1 hf hi.2.2.1 h1.2) (fun o2 h2 => ?_)
      refine wp_bind (k_x_at hS hI hA hi.1 hi.2.1 hf hi.2.2.1 h2.2) (fun o3 h3 => ?_)
      refine wp_bind (k_x_at hS hI hA hi.1 hi.2.1 hf hi.2.2.1 h3.2) (fun o4 h4 => ?_)
      refine wp_bindE (k_x_lift hS hi.1.2.2.2 _ _) ?_
      have e1 : o1.1 = vAt (SK K) 0 (8 * c + k) 0 := h1.1.trans (A_at_n (SK K) (y := 0) (by decide) hc5 g3 w0)
      have e2 : o2.1 = vAt (SK K) 0 (8 * c + k) 1 := h2.1.trans (A_at_n (SK K) (y := 0) (by decide) hc5 g3 w1)
      have e3 : o3.1 = vAt (SK K) 19 (8 * c + k) 0 := h3.1.trans (A_at_n (SK K) (y := 19) (by decide) hc5 g3 w0)
      have e4 : o4.1 = vAt (SK K) 19 (8 * c + k) 1 := h4.1.trans (A_at_n (SK K) (y := 19) (by decide) hc5 g3 w1)
      refine ih2 (8 - (k + 1)) _ _ _ _ _ _ _ _ _ _ _ _ _ _ _ _ _ _ _ _ _ _ _ _ _ _ _ _ _ (by omega) ⟨⟨hi.1, hi.2.1, hi.2.2.1, h4.2⟩, rfl, k + 1, by omega, (nI_succ k).symm, rfl, ?_⟩
      rw [A_stone_n (SK K) hc5 g3, A_lift_n (SK K) hc5 g3, e1, e2, e3, e4, hx]
      rfl
  have g' : 5 ≤ c := (nI_leX (a := 5) (by decide) (by omega)).mp g
  have e5 : 8 * c = 40 := by omega
  rw [e5] at hx
  clear g g' ih hc e5
  generalize hz : dP (SK K) (dT K G f) 40 = z at hx
  refine wl_x_digest_N188 (fun m v_toldIsStale v_wall_stones v_hands_mood v_hands_strong v_chanceFrosts_told v_chanceFrosts_year v_chanceFrosts_force v_gappings_told v_gappings_year v_gappings_column v_gappings_hand v_told_all v_told_losers v_told_now v_told_stones v_told_standing v_told_open v_told_fallen v_trial_all v_trial_losers v_trial_now v_trial_stones v_trial_standing v_trial_open v_trial_fallen v_stood x1 x3 => CXI K v_wall_courses v_wall_columns v_wall_jump v_wall_stones v_hands_told v_hands_mood v_hands_strong v_gappings_told v_gappings_year v_gappings_column v_gappings_hand v_toldIsStale v_told_losers v_told_stones v_told_standing v_told_open v_told_fallen ∧ ∃ c, c ≤ SW (SK K) ∧ x3 = nI c ∧ m = SW (SK K) - c ∧ x1 = dW (SK K) z c) ?_ 1000 (SW (SK K)) _ _ _ _ _ _ _ _ _ _ _ _ _ _ _ _ _ _ _ _ _ _ _ _ _ _ _ _ (by omega) ⟨hi, 0, by omega, rfl, by omega, hx⟩
  clear hi hx
  rintro m k188 ih v_toldIsStale v_wall_stones v_hands_mood v_hands_strong v_chanceFrosts_told v_chanceFrosts_year v_chanceFrosts_force v_gappings_told v_gappings_year v_gappings_column v_gappings_hand v_told_all v_told_losers v_told_now v_told_stones v_told_standing v_told_open v_told_fallen v_trial_all v_trial_losers v_trial_now v_trial_stones v_trial_standing v_trial_open v_trial_fallen v_stood x1 x3 ⟨hi, c, hc, rfl, rfl, hx⟩
  unfold f_x_digest_N188
  have hcol := hi.1.2.1
  refine wp_ite (fun g => ?_) (fun g => ?_)
  rotate_left
  · have g' : c < SW (SK K) := Nat.lt_of_not_le (fun q => g (by rw [hcol]; exact (nI_leX (by omega) (by omega)).mpr q))
    refine wp_bind (k_x_column hS hI hA hi.1 hi.2.1 hf hi.2.2.1 hi.2.2.2) (fun o1 h1 => ?_)
    refine wp_bind (k_x_column hS hI hA hi.1 hi.2.1 hf hi.2.2.1 h1.2) (fun o2 h2 => ?_)
    refine wp_bind (k_x_column hS hI hA hi.1 hi.2.1 hf hi.2.2.1 h2.2) (fun o3 h3 => ?_)
    refine wp_bind (k_x_column hS hI hA hi.1 hi.2.1 hf hi.2.2.1 h3.2) (fun o4 h4 => ?_)
    have e1 : o1.1 = vCol (SK K) 9 c 0 := h1.1.trans (A_column_n (SK K) hW (y := 9) (by decide) g' w0)
    have e2 : o2.1 = vCol (SK K) 9 c 1 := h2.1.trans (A_column_n (SK K) hW (y := 9) (by decide) g' w1)
    have e3 : o3.1 = vCol (SK K) 19 c 0 := h3.1.trans (A_column_n (SK K) hW (y := 19) (by decide) g' w0)
    have e4 : o4.1 = vCol (SK K) 19 c 1 := h4.1.trans (A_column_n (SK K) hW (y := 19) (by decide) g' w1)
    refine ih (SW (SK K) - (c + 1)) _ _ _ _ _ _ _ _ _ _ _ _ _ _ _ _ _ _ _ _ _ _ _ _ _ _ _ _ (by omega) ⟨⟨hi.1, hi.2.1, hi.2.2.1, h4.2⟩, c + 1, by omega, (nI_succ c).symm, rfl, ?_⟩
    rw [e1, e2, e3, e4, hx]
    rfl
  have g' : SW (SK K) ≤ c := by rw [hcol] at g; exact (nI_leX (by omega) (by omega)).mp g
  have e5 : c = SW (SK K) := by omega
  rw [e5] at hx
  clear g g' ih hc e5 hcol
  generalize hz2 : dW (SK K) z (SW (SK K)) = z2 at hx
  refine wl_x_digest_N271 (fun m v_toldIsStale v_wall_stones v_hands_mood v_hands_strong v_chanceFrosts_told v_chanceFrosts_year v_chanceFrosts_force v_gappings_told v_gappings_year v_gappings_column v_gappings_hand v_told_all v_told_losers v_told_now v_told_stones v_told_standing v_told_open v_told_fallen v_trial_all v_trial_losers v_trial_now v_trial_stones v_trial_standing v_trial_open v_trial_fallen v_stood x1 x3 => CXI K v_wall_courses v_wall_columns v_wall_jump v_wall_stones v_hands_told v_hands_mood v_hands_strong v_gappings_told v_gappings_year v_gappings_column v_gappings_hand v_toldIsStale v_told_losers v_told_stones v_told_standing v_told_open v_told_fallen ∧ ∃ y, y ≤ 20 ∧ x3 = nI y ∧ m = 20 - y ∧ x1 = dF (SK K) z2 y) ?_ 1000 20 _ _ _ _ _ _ _ _ _ _ _ _ _ _ _ _ _ _ _ _ _ _ _ _ _ _ _ _ (by omega) ⟨hi, 0, by omega, rfl, by omega, hx⟩
  clear hi hx
  rintro m k271 ih v_toldIsStale v_wall_stones v_hands_mood v_hands_strong v_chanceFrosts_told v_chanceFrosts_year v_chanceFrosts_force v_gappings_told v_gappings_year v_gappings_column v_gappings_hand v_told_all v_told_losers v_told_now v_told_stones v_told_standing v_told_open v_told_fallen v_trial_all v_trial_losers v_trial_now v_trial_stones v_trial_standing v_trial_open v_trial_fallen v_stood x1 x3 ⟨hi, y, hy, rfl, rfl, hx⟩
  unfold f_x_digest_N271
  refine wp_ite (fun g => ?_) (fun g => ?_)
  rotate_left
  · have g' : ¬ 20 ≤ y := fun q => g ((nI_leX (a := 20) (b := y) (by decide) (by omega)).mpr q)
    refine wp_bind (k_x_falls hS hI hA hi.1 hi.2.1 hf hi.2.2.1 hi.2.2.2) (fun o1 h1 => ?_)
    have e1 : o1.1 = nI (feY (SK K) y) := h1.1.trans (A_falls_n (SK K) (by omega))
    refine ih (20 - (y + 1)) _ _ _ _ _ _ _ _ _ _ _ _ _ _ _ _ _ _ _ _ _ _ _ _ _ _ _ _ (by omega) ⟨⟨hi.1, hi.2.1, hi.2.2.1, h1.2⟩, y + 1, by omega, (nI_succ y).symm, rfl, ?_⟩
    rw [e1, hx]
    rfl
  have g' : 20 ≤ y := (nI_leX (a := 20) (by decide) (by omega)).mp g
  have e5 : y = 20 := by omega
  rw [e5] at hx
  clear g g' ih hy e5
  generalize hz3 : dF (SK K) z2 20 = z3 at hx
  refine wl_x_digest_N298 (fun m v_toldIsStale v_wall_stones v_hands_mood v_hands_strong v_chanceFrosts_told v_chanceFrosts_year v_chanceFrosts_force v_gappings_told v_gappings_year v_gappings_column v_gappings_hand v_told_all v_told_losers v_told_now v_told_stones v_told_standing v_told_open v_told_fallen v_trial_all v_trial_losers v_trial_now v_trial_stones v_trial_standing v_trial_open v_trial_fallen v_stood x1 x3 => CXI K v_wall_courses v_wall_columns v_wall_jump v_wall_stones v_hands_told v_hands_mood v_hands_strong v_gappings_told v_gappings_year v_gappings_column v_gappings_hand v_toldIsStale v_told_losers v_told_stones v_told_standing v_told_open v_told_fallen ∧ ∃ h, h ≤ Sn (SK K) ∧ x3 = nI h ∧ m = Sn (SK K) - h ∧ x1 = dH (SK K) G z3 h) ?_ 1000 (Sn (SK K)) _ _ _ _ _ _ _ _ _ _ _ _ _ _ _ _ _ _ _ _ _ _ _ _ _ _ _ _ (by omega) ⟨hi, 0, by omega, rfl, by omega, hx⟩
  clear hi hx
  rintro m k298 ih v_toldIsStale v_wall_stones v_hands_mood v_hands_strong v_chanceFrosts_told v_chanceFrosts_year v_chanceFrosts_force v_gappings_told v_gappings_year v_gappings_column v_gappings_hand v_told_all v_told_losers v_told_now v_told_stones v_told_standing v_told_open v_told_fallen v_trial_all v_trial_losers v_trial_now v_trial_stones v_trial_standing v_trial_open v_trial_fallen v_stood x1 x3 ⟨hi, h, hle, rfl, rfl, hx⟩
  unfold f_x_digest_N298
  have htold := hi.2.1.1
  refine wp_ite (fun g => ?_) (fun g => ?_)
  rotate_left
  · have g' : h < Sn (SK K) := Nat.lt_of_not_le (fun q => g (by rw [htold]; exact (nI_leX (by omega) (by omega)).mpr q))
    refine wp_bindE (k_x_hand hS hi.2.1 _ _) (wp_bindE (k_x_hand hS hi.2.1 _ _) ?_)
    refine wp_bind (k_x_mine hS hI hA hi.1 hi.2.1 hf hi.2.2.1 hi.2.2.2) (fun o1 h1 => ?_)
    refine wp_bind (k_x_firm hS hI hA hi.1 hi.2.1 hf hi.2.2.1) (fun o2 h2 => ?_)
    refine wp_bind (k_x_relay hS hI hA hi.1 h2.2 hf hi.2.2.1) (fun o3 h3 => ?_)
    refine wp_bind (k_x_relay hS hI hA h3.2 h2.2 hf hi.2.2.1) (fun o4 h4 => ?_)
    refine wp_bind (k_x_was hS hI hA hG h4.2 h2.2 hf hi.2.2.1 hv) (fun o5 h5 => ?_)
    refine wp_bind (k_x_was hS hI hA hG h4.2 h5.2 hf hi.2.2.1 hv) (fun o6 h6 => ?_)
    refine wp_bind (k_x_ask hS hI hA hG h4.2 h6.2 hf hi.2.2.1 hv) (fun o7 h7 => ?_)
    have e1 : o1.1 = nI (vMine (SK K) h) := h1.1.trans (A_mine_n (SK K) (by omega))
    have e2 : o2.1 = vFirm (SK K) h := h2.1.trans (A_firm_n (SK K) hn g')
    have e3 : o3.1 = vRelay (SK K) h 0 := h3.1.trans (A_relay_n (SK K) hn g' w0)
    have e4 : o4.1 = vRelay (SK K) h 1 := h4.1.trans (A_relay_n (SK K) hn g' w1)
    have e5 : o5.1 = bStr (SK K) G h := (h5.1.trans (A_was_n (SK K) G hn g' w0)).trans (if_pos rfl)
    have e6 : o6.1 = bMod (SK K) G h := (h6.1.trans (A_was_n (SK K) G hn g' w1)).trans (if_neg nz1)
    have e7 : o7.1 = vAsk (SK K) G h := h7.1.trans (A_ask_n (SK K) G hn g')
    have e8 : A_hand (SK K) (nI h) 0 = Smd (SK K) h := (A_hand_n (SK K) hn g' w0).trans (if_pos rfl)
    have e9 : A_hand (SK K) (nI h) 1 = Sst (SK K) h := (A_hand_n (SK K) hn g' w1).trans (if_neg nz1)
    refine ih (Sn (SK K) - (h + 1)) _ _ _ _ _ _ _ _ _ _ _ _ _ _ _ _ _ _ _ _ _ _ _ _ _ _ _ _ (by omega) ⟨⟨h4.2, h7.2, hi.2.2.1, h1.2⟩, h + 1, by omega, (nI_succ h).symm, rfl, ?_⟩
    rw [e8, e9, e1, e2, e3, e4, e5, e6, e7, hx]
    rfl
  have g' : Sn (SK K) ≤ h := by rw [htold] at g; exact (nI_leX (by omega) (by omega)).mp g
  have e5 : h = Sn (SK K) := by omega
  rw [e5] at hx
  clear g g' ih hle e5 htold
  refine wp_bind (k_x_sheep hS hI hA hi.1 hi.2.1 hf hi.2.2.1 hi.2.2.2) (fun o1 h1 => ?_)
  refine wp_bind (k_x_sheep hS hI hA hi.1 hi.2.1 hf hi.2.2.1 h1.2) (fun o2 h2 => ?_)
  refine wp_bind (k_x_best hS hI hA hi.1 hi.2.1 hf hi.2.2.1 h2.2) (fun o3 h3 => ?_)
  refine wp_bind (k_x_mend hS hI hA hGn hi.1 hi.2.1 hf hi.2.2.1) (fun o4 h4 => ?_)
  refine wp_bind (k_x_mend hS hI hA hGn hi.1 hi.2.1 hf h4.2) (fun o5 h5 => ?_)
  refine wp_bind (k_x_mend hS hI hA hGn hi.1 hi.2.1 hf h5.2) (fun o6 h6 => ?_)
  refine wp_bind (k_x_never hS hI hA hG hi.1 hi.2.1 hf h6.2 hv) (fun o7 h7 => ?_)
  refine wp_bind (k_x_luck hS hI hA hi.1 hi.2.1 hf h6.2) (fun o8 h8 => ?_)
  refine wp_bind (k_x_luck hS hI hA hi.1 hi.2.1 hf h6.2) (fun o9 h9 => ?_)
  refine wp_bind (k_x_ages hS hI hA hi.1 hi.2.1 h6.2) (fun o10 h10 => ?_)
  refine wp_bind (k_x_ages hS hI hA hi.1 hi.2.1 h6.2) (fun o11 h11 => ?_)
  have e1 : o1.1 = vSheep (SK K) 0 := h1.1.trans (A_sheep_n (SK K) w0)
  have e2 : o2.1 = vSheep (SK K) 1 := h2.1.trans (A_sheep_n (SK K) w1)
  have e4 : o4.1 = vMend (SK K) 5 0 := h4.1.trans (A_mend_n (SK K) (by decide))
  have e5 : o5.1 = vMend (SK K) 5 1 := h5.1.trans (A_mend_n (SK K) (by decide))
  have e6 : o6.1 = vMend (SK K) 5 2 := h6.1.trans (A_mend_n (SK K) (by decide))
  have e8 : o8.1 = vLuck (SK K) 5 0 := h8.trans (A_luck_n (SK K) w0)
  have e9 : o9.1 = vLuck (SK K) 5 1 := h9.trans (A_luck_n (SK K) w1)
  have e10 : o10.1 = vAges (SK K) 7 5 0 := h10.trans (A_ages_n (SK K) w0)
  have e11 : o11.1 = vAges (SK K) 7 5 1 := h11.trans (A_ages_n (SK K) w1)
  refine wp_some ⟨?_, hi.1, hi.2.1, h6.2, h3.2⟩
  dsimp only
  unfold dAll
  rw [hz, hz2, hz3, ← hx, e1, e2, h3.1, e4, e5, e6, h7, e8, e9, e10, e11]
  rfl
end Dg
