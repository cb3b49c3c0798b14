/-! SITUATIONS THAT AGREE WHERE IT MATTERS -/
def SitEq (S T : Sit) : Prop := Sn S = Sn T ∧ (∀ h, h < Sn S → Smd S h = Smd T h ∧ Sst S h = Sst T h) ∧ Sfn S = Sfn T ∧ (∀ k, k < Sfn S → Sfy S k = Sfy T k ∧ Sff S k = Sff T k ∧ bt (Sab S) k = bt (Sab T) k) ∧ Sgn S = Sgn T ∧ (∀ k, k < Sgn S → Sgy S k = Sgy T k ∧ Sgc S k = Sgc T k ∧ Sgh S k = Sgh T k) ∧ SC S = SC T ∧ SW S = SW T ∧ Sj S = Sj T ∧ Sw S = Sw T
theorem ofM_sit {n : Nat} {mood mood' : Nat → Int32} (h : ∀ k, k < n → mood k = mood' k) (m : Int32) (w : Wl) : ofM n mood m w = ofM n mood' m w := by
  funext q
  unfold ofM
  exact anyB_cong (fun k hk => by rw [h k hk])
theorem thr_sit {n : Nat} {mood mood' : Nat → Int32} (h : ∀ k, k < n → mood k = mood' k) (j : Nat) (w : Wl) : thr n mood j w = thr n mood' j w := by
  funext c
  unfold thr
  rw [ofM_sit h, ofM_sit h]
theorem hby_sit {n : Nat} {mood mood' strong strong' : Nat → Int32} (h : ∀ k, k < n → mood k = mood' k ∧ strong k = strong' k) (w : Wl) {k : Nat} (hk : k < n) (p : Nat) : hby n mood strong w k p = hby n mood' strong' w k p := by
  unfold hby
  rw [(h k hk).1, (h k hk).2, ofM_sit (fun j hj => (h j hj).1)]
theorem hldV_sit {n : Nat} {mood mood' strong strong' : Nat → Int32} (h : ∀ k, k < n → mood k = mood' k ∧ strong k = strong' k) (w : Wl) (p : Nat) : hldV n mood strong w p = hldV n mood' strong' w p := by
  unfold hldV
  by_cases e : w p = -1
  · rw [if_pos e, if_pos e]
  · rw [if_neg e, if_neg e]
    by_cases g : (w p).toNatClampNeg < n
    · rw [if_pos g, if_pos g, hby_sit h w g]
    · rw [if_neg g, if_neg g]
theorem okF_sit {n : Nat} {mood mood' strong strong' : Nat → Int32} (h : ∀ k, k < n → mood k = mood' k ∧ strong k = strong' k) (w : Wl) (F : Int32) : okF n mood strong w F = okF n mood' strong' w F := by
  funext p
  unfold okF
  exact anyB_cong (fun k hk => by rw [hby_sit h w hk])
theorem frs_sit {n : Nat} {mood mood' strong strong' : Nat → Int32} (h : ∀ k, k < n → mood k = mood' k ∧ strong k = strong' k) {fn : Nat} {fy fy' ff ff' : Nat → Int32} {ab ab' : Int32} (hf : ∀ k, k < fn → fy k = fy' k ∧ ff k = ff' k ∧ bt ab k = bt ab' k) (y : Int32) (t0 : Ys) : ∀ k, k ≤ fn → frs n mood strong fy ff ab y t0 k = frs n mood' strong' fy' ff' ab' y t0 k
  | 0, _ => rfl
  | k + 1, hk => by
    obtain ⟨h1, h2, h3⟩ := hf k (by omega)
    unfold frs
    rw [frs_sit h hf y t0 k (by omega), h1, h2, h3, okF_sit h]
theorem frY_sit {n : Nat} {mood mood' strong strong' : Nat → Int32} (h : ∀ k, k < n → mood k = mood' k ∧ strong k = strong' k) {fn : Nat} {fy fy' ff ff' : Nat → Int32} {ab ab' : Int32} (hf : ∀ k, k < fn → fy k = fy' k ∧ ff k = ff' k ∧ bt ab k = bt ab' k) (y : Int32) (t0 : Ys) : frY n mood strong fn fy ff ab y t0 = frY n mood' strong' fn fy' ff' ab' y t0 := by
  unfold frY
  rw [frs_sit h hf y t0 fn (Nat.le_refl _)]
theorem gps_sit {C W gn : Nat} {gy gy' gc gc' gh gh' : Nat → Int32} (h : ∀ k, k < gn → gy k = gy' k ∧ gc k = gc' k ∧ gh k = gh' k) (y : Int32) (t0 : Wl × Bool) : ∀ k, k ≤ gn → gps C W gy gc gh y t0 k = gps C W gy' gc' gh' y t0 k
  | 0, _ => rfl
  | k + 1, hk => by
    obtain ⟨h1, h2, h3⟩ := h k (by omega)
    unfold gps
    rw [gps_sit h y t0 k (by omega), h1, h2, h3]
theorem sq_yrF {S T : Sit} (h : SitEq S T) (y : Nat) (w : Wl) (fo : Nat → Nat) : yrF S y w fo = yrF T y w fo := by
  obtain ⟨h1, h2, h3, h4, h5, h6, h7, h8, h9, h10⟩ := h
  unfold yrF
  rw [← h1, ← h3]
  exact frY_sit h2 h4 _ _
theorem sq_yrG {S T : Sit} (h : SitEq S T) (y : Nat) (w : Wl) : yrG S y w = yrG T y w := by
  obtain ⟨h1, h2, h3, h4, h5, h6, h7, h8, h9, h10⟩ := h
  unfold yrG
  rw [← h5, ← h7, ← h8]
  exact gps_sit h6 _ _ _ (Nat.le_refl _)
theorem sq_rs {S T : Sit} (h : SitEq S T) : ∀ y, rs S y = rs T y
  | 0 => by
    unfold rs
    rw [h.2.2.2.2.2.2.2.2.2]
  | y + 1 => by
    unfold rs
    rw [sq_rs h y, sq_yrF h, sq_yrG h]
theorem sq_ws {S T : Sit} (h : SitEq S T) (y : Nat) : wsY S y = wsY T y := by
  unfold wsY
  rw [sq_rs h]
theorem sq_fe {S T : Sit} (h : SitEq S T) (y : Nat) : feY S y = feY T y := by
  unfold feY
  rw [sq_rs h, sq_yrF h]
theorem sq_thr {S T : Sit} (h : SitEq S T) (w : Wl) : thr (Sn S) (Smd S) (Sj S) w = thr (Sn T) (Smd T) (Sj T) w := by
  rw [thr_sit (fun k hk => (h.2.1 k hk).1), h.1, h.2.2.2.2.2.2.2.2.1]
theorem sq_hld {S T : Sit} (h : SitEq S T) (w : Wl) (p : Nat) : hldV (Sn S) (Smd S) (Sst S) w p = hldV (Sn T) (Smd T) (Sst T) w p := by
  rw [hldV_sit h.2.1, h.1]
theorem sq_an {S T : Sit} (h : SitEq S T) (y : Nat) : anY S y = anY T y := by
  unfold anY
  rw [sq_ws h, sq_thr h, h.2.2.2.2.2.2.2.1]
theorem sq_shF {S T : Sit} (h : SitEq S T) : ∀ y, shF S y = shF T y
  | 0 => rfl
  | y + 1 => by
    unfold shF
    rw [sq_shF h y, sq_an h]
theorem sq_shM {S T : Sit} (h : SitEq S T) (y : Nat) : shM S y = shM T y := bct_cong (fun k _ => sq_an h k)
theorem sq_feS {S T : Sit} (h : SitEq S T) : ∀ y, feS S y = feS T y
  | 0 => rfl
  | y + 1 => by
    unfold feS
    rw [sq_feS h y, sq_fe h]
theorem sq_RunC {S T : Sit} (h : SitEq S T) {losers : Int32} {stones standing : Nat → Int64} {opn fallen : Nat → Int32} (hR : RunC S losers stones standing opn fallen) : RunC T losers stones standing opn fallen := by
  refine ⟨fun y hy => ?_, ?_⟩
  · have := hR.1 y hy
    rw [sq_ws h, sq_thr h, sq_fe h, h.2.2.2.2.2.2.2.1] at this
    exact this
  · have := hR.2
    rw [sq_rs h] at this
    exact this
theorem sq_RunM {S T : Sit} (h : SitEq S T) {Y : Nat} {r : MR} (hR : RunM S Y r) : RunM T Y r := by
  obtain ⟨a1, a2, a3, a4, a5, a6⟩ := hR
  rw [sq_feS h] at a1
  rw [sq_shF h] at a2
  rw [sq_shM h] at a3
  rw [sq_ws h] at a4
  rw [sq_rs h] at a5
  refine ⟨a1, a2, a3, a4, a5, fun y hy => ?_⟩
  obtain ⟨b1, b2, b3, b4⟩ := a6 y hy
  rw [sq_ws h] at b1 b3 b4
  rw [sq_fe h] at b2
  rw [sq_thr h, h.2.2.2.2.2.2.2.1] at b4
  exact ⟨fun p hp => ⟨(b1 p hp).1, by rw [(b1 p hp).2, sq_hld h]⟩, b2, b3, b4⟩
