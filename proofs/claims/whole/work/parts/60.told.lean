/-! JUMP, FROST, GAPPING, BACK, SEEN, FORGET: the class -/
def sp_jump (O : Om) (a0 : Int32) : Int32 × Om := if wi a0 1 5 = 0 then (-2, O) else (nI (kJ O.1), oK O (tJ O.1 a0.toNatClampNeg))
def mfr (a0 a1 : Int32) : Int32 := if wi a0 0 19 = 0 then 0 else if wi a1 1 15 = 0 then 0 else 1
def sp_frost (O : Om) (a0 a1 : Int32) : Int32 × Om := if mfr a0 a1 = 0 then (-2, O) else if kFn O.1 < 6 then (nI (kFn O.1 + 1), oK O (tF O.1 (kFn O.1 + 1) (upd (kFy O.1) (kFn O.1) a0) (upd (kFf O.1) (kFn O.1) a1))) else (-4, O)
def sp_gapping (O : Om) (a0 a1 a2 : Int32) : Int32 × Om := if wi a0 0 19 = 0 then (-2, O) else if wi a1 0 7 = 0 then (-2, O) else if wi a2 0 7 = 0 then (-2, O) else if kGn O.1 < 6 then (nI (kGn O.1 + 1), oK O (tG O.1 (kGn O.1 + 1) (upd (kGy O.1) (kGn O.1) a0) (upd (kGc O.1) (kGn O.1) a1) (upd (kGh O.1) (kGn O.1) a2))) else (-4, O)
def sp_back (O : Om) (a0 : Int32) : Int32 × Om := if wi a0 0 1 = 0 then (-2, O) else if a0 = 0 then (if kFn O.1 = 0 then (-3, O) else (nI (kFn O.1 - 1), oK O (tF O.1 (kFn O.1 - 1) (kFy O.1) (kFf O.1)))) else (if kGn O.1 = 0 then (-3, O) else (nI (kGn O.1 - 1), oK O (tG O.1 (kGn O.1 - 1) (kGy O.1) (kGc O.1) (kGh O.1))))
def sp_seen (O : Om) (a0 a1 a2 a3 : Int32) : Int32 × Om := if wi a0 0 19 = 0 then (-2, O) else if pl a1 a2 = 0 then (-2, O) else if wi a3 0 8 = 0 then (-2, O) else if O.2.1.1 < 8 then (nI (O.2.1.1 + 1), oG O (O.2.1.1 + 1, upd O.2.1.2.1 O.2.1.1 a0, upd O.2.1.2.2.1 O.2.1.1 (((8 : Int32) * a1) + a2), upd O.2.1.2.2.2 O.2.1.1 (if a3 = 8 then -1 else a3))) else (-4, O)
def sp_forget (O : Om) : Int32 × Om := (nI O.2.1.1, oG O (0, O.2.1.2))
theorem wi_15 {v : Int32} {m : Nat} (hm : m < 2 ^ 31) (h : ¬ wi v 1 (nI m) = 0) : ∃ i, 1 ≤ i ∧ i ≤ m ∧ v = nI i := by
  obtain ⟨h1, h2⟩ := wi_yes h
  have h0 : (0 : Int32) ≤ v := Int32.le_trans (by decide) h1
  obtain ⟨i, hi, rfl⟩ := nI_ofX h0 h2 hm
  exact ⟨i, (nI_leX (a := 1) (by decide) (by omega)).mp h1, hi, rfl⟩
theorem CK_J {O : Om} (h : CK O) {j : Nat} (h1 : 1 ≤ j) (h5 : j ≤ 5) : CK (oK O (tJ O.1 j)) := ⟨⟨h.1.1, h.1.2.1, ⟨h1, h5⟩, h.1.2.2.2⟩, h.2⟩
theorem CK_F {O : Om} (h : CK O) {n : Nat} {fy ff : Nat → Int32} (hn : n ≤ 6) (hf : ∀ k, k < n → 1 ≤ (ff k).toInt ∧ (ff k).toInt ≤ 15) : CK (oK O (tF O.1 n fy ff)) := ⟨⟨h.1.1, h.1.2.1, h.1.2.2.1, ⟨hn, hf⟩, h.1.2.2.2.2⟩, h.2⟩
theorem CK_G {O : Om} (h : CK O) {n : Nat} {gy gc gh : Nat → Int32} (hn : n ≤ 6) (hg : gOk n gc gh) : CK (oK O (tG O.1 n gy gc gh)) := ⟨⟨h.1.1, h.1.2.1, h.1.2.2.1, h.1.2.2.2.1, ⟨hn, hg⟩⟩, h.2⟩
theorem x_jump {O : Om} {v_toldIsStale v_latestFinding v_wallText_length : Int32} {v_wallText_bytes : Nat → Int32} {v_handsText_length : Int32} {v_handsText_bytes : Nat → Int32} {v_wall_courses v_wall_columns v_wall_fault v_wall_jump : Int32} {v_wall_stones : Nat → Int64} {v_hands_told v_hands_fault : Int32} {v_hands_mood v_hands_strong : Nat → Int32} {v_frosts_told : Int32} {v_frosts_year v_frosts_force : Nat → Int32} {v_gappings_told : Int32} {v_gappings_year v_gappings_column v_gappings_hand : Nat → Int32} {v_sights_told : Int32} {v_sights_year v_sights_place v_sights_setter : Nat → Int32} {v_sheets0_form v_sheets0_size : Int32} {v_sheets0_items : Nat → Int32} {v_sheets1_form v_sheets1_size : Int32} {v_sheets1_items : Nat → Int32} {v_sheets2_form v_sheets2_size : Int32} {v_sheets2_items : Nat → Int32} {v_sheets3_form v_sheets3_size : Int32} {v_sheets3_items : Nat → Int32} {v_told_losers : Int32} {v_told_stones v_told_standing : Nat → Int64} {v_told_open v_told_fallen : Nat → Int32} {a0 : Int32} (h : CR O v_toldIsStale v_latestFinding v_wallText_length v_wallText_bytes v_handsText_length v_handsText_bytes v_wall_courses v_wall_columns v_wall_fault v_wall_jump v_wall_stones v_hands_told v_hands_fault v_hands_mood v_hands_strong v_frosts_told v_frosts_year v_frosts_force v_gappings_told v_gappings_year v_gappings_column v_gappings_hand v_sights_told v_sights_year v_sights_place v_sights_setter v_sheets0_form v_sheets0_size v_sheets0_items v_sheets1_form v_sheets1_size v_sheets1_items v_sheets2_form v_sheets2_size v_sheets2_items v_sheets3_form v_sheets3_size v_sheets3_items v_told_losers v_told_stones v_told_standing v_told_open v_told_fallen) : wp (f_x_jump v_toldIsStale v_wall_jump a0) (fun r => r.1 = (sp_jump O a0).1 ∧ CR ((sp_jump O a0).2) r.2.1 v_latestFinding v_wallText_length v_wallText_bytes v_handsText_length v_handsText_bytes v_wall_courses v_wall_columns v_wall_fault r.2.2 v_wall_stones v_hands_told v_hands_fault v_hands_mood v_hands_strong v_frosts_told v_frosts_year v_frosts_force v_gappings_told v_gappings_year v_gappings_column v_gappings_hand v_sights_told v_sights_year v_sights_place v_sights_setter v_sheets0_form v_sheets0_size v_sheets0_items v_sheets1_form v_sheets1_size v_sheets1_items v_sheets2_form v_sheets2_size v_sheets2_items v_sheets3_form v_sheets3_size v_sheets3_items v_told_losers v_told_stones v_told_standing v_told_open v_told_fallen) := by
  unfold f_x_jump sp_jump
  refine wp_bindE (s_within a0 1 5) (wp_ite (fun g => ?_) (fun g1 => ?_))
  · rw [if_pos g]; exact wp_some ⟨rfl, h⟩
  rw [if_neg g1]
  obtain ⟨j, h1, h5, rfl⟩ := wi_15 (m := 5) (by decide) g1
  rw [cl (show j < 2 ^ 31 by omega)]
  exact wp_some ⟨h.2.1.2.2.1, CK_J h.1 h1 h5, ⟨h.2.1.1, h.2.1.2.1, rfl, h.2.1.2.2.2⟩, h.2.2.1, h.2.2.2.1, h.2.2.2.2.1, CT_1 _ _ _ _ _ _, h.2.2.2.2.2.2⟩
theorem q_mayBe (a0 a1 : Int32) : f_fr_mayBe a0 a1 = some (mfr a0 a1) := by
  apply wp_get
  unfold f_fr_mayBe mfr
  refine wp_bindE (q_x_isYear a0) (wp_ite (fun g => ?_) (fun g1 => ?_))
  · rw [if_pos g]; exact wp_some rfl
  rw [if_neg g1]
  refine wp_bindE (s_within a1 1 15) (wp_ite (fun g => ?_) (fun g1 => ?_))
  · rw [if_pos g]; exact wp_some rfl
  rw [if_neg g1]
  exact wp_some rfl
theorem mfr_ok {a0 a1 : Int32} (h : ¬ mfr a0 a1 = 0) : (¬ wi a0 0 19 = 0) ∧ ¬ wi a1 1 15 = 0 := by
  unfold mfr at h
  by_cases e : wi a0 0 19 = 0
  · rw [if_pos e] at h; exact absurd rfl h
  · rw [if_neg e] at h
    refine ⟨e, fun q => ?_⟩
    rw [if_pos q] at h
    exact h rfl
theorem ff_ok {a1 : Int32} (h : ¬ wi a1 1 15 = 0) : 1 ≤ a1.toInt ∧ a1.toInt ≤ 15 := by
  obtain ⟨j, h1, h5, rfl⟩ := wi_15 (m := 15) (by decide) h
  rw [nI_toInt (by omega)]
  omega
theorem ff_up {ff : Nat → Int32} {n : Nat} (hf : ∀ k, k < n → 1 ≤ (ff k).toInt ∧ (ff k).toInt ≤ 15) {a1 : Int32} (h : 1 ≤ a1.toInt ∧ a1.toInt ≤ 15) : ∀ k, k < n + 1 → 1 ≤ (upd ff n a1 k).toInt ∧ (upd ff n a1 k).toInt ≤ 15 := by
  intro k hk
  rw [upd_at]
  by_cases e : k = n
  · rw [if_pos e]; exact h
  · rw [if_neg e]; exact hf k (by omega)
theorem CIf_up {K : Kt} {n : Int32} {fy ff : Nat → Int32} (h : CIf (SK K) n fy ff) (a0 a1 : Int32) : CIf (SK (tF K (kFn K + 1) (upd (kFy K) (kFn K) a0) (upd (kFf K) (kFn K) a1))) (nI (kFn K + 1)) (upd fy (kFn K) a0) (upd ff (kFn K) a1) := ⟨rfl, fun k hk => by
  have hk' : k < kFn K + 1 := hk
  show upd fy (kFn K) a0 k = upd (kFy K) (kFn K) a0 k ∧ upd ff (kFn K) a1 k = upd (kFf K) (kFn K) a1 k
  rw [upd_at, upd_at, upd_at, upd_at]
  by_cases e : k = kFn K
  · rw [if_pos e, if_pos e, if_pos e, if_pos e]; exact ⟨rfl, rfl⟩
  · rw [if_neg e, if_neg e, if_neg e, if_neg e]; exact h.2 k (show k < kFn K by omega)⟩
theorem s_frAdd {K : Kt} (h6 : kFn K < 6) {n : Int32} {fy ff : Nat → Int32} (h : CIf (SK K) n fy ff) (a0 a1 : Int32) : wp (f_fr_add n fy ff a0 a1) (fun r => r.1 = nI (kFn K + 1) ∧ CIf (SK (tF K (kFn K + 1) (upd (kFy K) (kFn K) a0) (upd (kFf K) (kFn K) a1))) r.1 r.2.1 r.2.2) := by
  have e0 : n = nI (kFn K) := h.1
  subst e0
  unfold f_fr_add
  refine wp_neg (fun q => ?_) ?_
  · have := (nI_leX (a := 6) (b := kFn K) (by decide) (by omega)).mp q
    omega
  · rw [cl (show kFn K < 2 ^ 31 by omega), show nI (kFn K) + 1 = nI (kFn K + 1) from (nI_succ _).symm]
    exact wp_gd (inbN h6 (by decide)) (wp_gd (inbN h6 (by decide)) (wp_some ⟨rfl, CIf_up h a0 a1⟩))
theorem x_frost {O : Om} {v_toldIsStale v_latestFinding v_wallText_length : Int32} {v_wallText_bytes : Nat → Int32} {v_handsText_length : Int32} {v_handsText_bytes : Nat → Int32} {v_wall_courses v_wall_columns v_wall_fault v_wall_jump : Int32} {v_wall_stones : Nat → Int64} {v_hands_told v_hands_fault : Int32} {v_hands_mood v_hands_strong : Nat → Int32} {v_frosts_told : Int32} {v_frosts_year v_frosts_force : Nat → Int32} {v_gappings_told : Int32} {v_gappings_year v_gappings_column v_gappings_hand : Nat → Int32} {v_sights_told : Int32} {v_sights_year v_sights_place v_sights_setter : Nat → Int32} {v_sheets0_form v_sheets0_size : Int32} {v_sheets0_items : Nat → Int32} {v_sheets1_form v_sheets1_size : Int32} {v_sheets1_items : Nat → Int32} {v_sheets2_form v_sheets2_size : Int32} {v_sheets2_items : Nat → Int32} {v_sheets3_form v_sheets3_size : Int32} {v_sheets3_items : Nat → Int32} {v_told_losers : Int32} {v_told_stones v_told_standing : Nat → Int64} {v_told_open v_told_fallen : Nat → Int32} {a0 a1 : Int32} (h : CR O v_toldIsStale v_latestFinding v_wallText_length v_wallText_bytes v_handsText_length v_handsText_bytes v_wall_courses v_wall_columns v_wall_fault v_wall_jump v_wall_stones v_hands_told v_hands_fault v_hands_mood v_hands_strong v_frosts_told v_frosts_year v_frosts_force v_gappings_told v_gappings_year v_gappings_column v_gappings_hand v_sights_told v_sights_year v_sights_place v_sights_setter v_sheets0_form v_sheets0_size v_sheets0_items v_sheets1_form v_sheets1_size v_sheets1_items v_sheets2_form v_sheets2_size v_sheets2_items v_sheets3_form v_sheets3_size v_sheets3_items v_told_losers v_told_stones v_told_standing v_told_open v_told_fallen) : wp (f_x_frost v_toldIsStale v_frosts_told v_frosts_year v_frosts_force a0 a1) (fun r => r.1 = (sp_frost O a0 a1).1 ∧ CR ((sp_frost O a0 a1).2) r.2.1 v_latestFinding v_wallText_length v_wallText_bytes v_handsText_length v_handsText_bytes v_wall_courses v_wall_columns v_wall_fault v_wall_jump v_wall_stones v_hands_told v_hands_fault v_hands_mood v_hands_strong r.2.2.1 r.2.2.2.1 r.2.2.2.2 v_gappings_told v_gappings_year v_gappings_column v_gappings_hand v_sights_told v_sights_year v_sights_place v_sights_setter v_sheets0_form v_sheets0_size v_sheets0_items v_sheets1_form v_sheets1_size v_sheets1_items v_sheets2_form v_sheets2_size v_sheets2_items v_sheets3_form v_sheets3_size v_sheets3_items v_told_losers v_told_stones v_told_standing v_told_open v_told_fallen) := by
  unfold f_x_frost sp_frost
  refine wp_bindE (q_mayBe a0 a1) (wp_ite (fun g => ?_) (fun g1 => ?_))
  · rw [if_pos g]; exact wp_some ⟨rfl, h⟩
  rw [if_neg g1]
  have hf := h.2.2.2.1
  have hn := h.1.1.2.2.2.1
  have e0 : v_frosts_told = nI (kFn O.1) := hf.1
  subst e0
  have h6 := hn.1
  refine wp_ite (fun g2 => ?_) (fun g2 => ?_)
  · have g3 : kFn O.1 < 6 := (nI_ltX (b := 6) (by omega) (by decide)).mp g2
    rw [if_pos g3]
    refine wp_bind (s_frAdd g3 hf a0 a1) (fun o ho => wp_some ⟨ho.1, ?_⟩)
    exact ⟨CK_F h.1 (by omega) (ff_up hn.2 (ff_ok (mfr_ok g1).2)), h.2.1, h.2.2.1, ho.2, h.2.2.2.2.1, CT_1 _ _ _ _ _ _, h.2.2.2.2.2.2⟩
  · have g3 : ¬ kFn O.1 < 6 := fun q => g2 ((nI_ltX (b := 6) (by omega) (by decide)).mpr q)
    rw [if_neg g3]; exact wp_some ⟨rfl, h⟩
theorem gOk_up {n : Nat} {gc gh : Nat → Int32} (h : gOk n gc gh) {a1 a2 : Int32} (h1 : ∃ c, c < 8 ∧ a1 = nI c) (h2 : ∃ c, c < 8 ∧ a2 = nI c) : gOk (n + 1) (upd gc n a1) (upd gh n a2) := by
  intro k hk
  rw [upd_at, upd_at]
  by_cases e : k = n
  · rw [if_pos e, if_pos e]; exact ⟨h1, h2⟩
  · rw [if_neg e, if_neg e]; exact h k (by omega)
theorem wi_8 {v : Int32} (h : ¬ wi v 0 7 = 0) : ∃ c, c < 8 ∧ v = nI c := by
  obtain ⟨c, hc, e⟩ := wi_nat 7 (by decide) h
  exact ⟨c, by omega, e⟩
theorem CIg_up {K : Kt} {n : Int32} {gy gc gh : Nat → Int32} (h : CIg (SK K) n gy gc gh) (a0 a1 a2 : Int32) : CIg (SK (tG K (kGn K + 1) (upd (kGy K) (kGn K) a0) (upd (kGc K) (kGn K) a1) (upd (kGh K) (kGn K) a2))) (nI (kGn K + 1)) (upd gy (kGn K) a0) (upd gc (kGn K) a1) (upd gh (kGn K) a2) := ⟨rfl, fun k hk => by
  have hk' : k < kGn K + 1 := hk
  show upd gy (kGn K) a0 k = upd (kGy K) (kGn K) a0 k ∧ upd gc (kGn K) a1 k = upd (kGc K) (kGn K) a1 k ∧ upd gh (kGn K) a2 k = upd (kGh K) (kGn K) a2 k
  rw [upd_at, upd_at, upd_at, upd_at, upd_at, upd_at]
  by_cases e : k = kGn K
  · rw [if_pos e, if_pos e, if_pos e, if_pos e, if_pos e, if_pos e]; exact ⟨rfl, rfl, rfl⟩
  · rw [if_neg e, if_neg e, if_neg e, if_neg e, if_neg e, if_neg e]; exact h.2 k (show k < kGn K by omega)⟩
theorem x_gapping {O : Om} {v_toldIsStale v_latestFinding v_wallText_length : Int32} {v_wallText_bytes : Nat → Int32} {v_handsText_length : Int32} {v_handsText_bytes : Nat → Int32} {v_wall_courses v_wall_columns v_wall_fault v_wall_jump : Int32} {v_wall_stones : Nat → Int64} {v_hands_told v_hands_fault : Int32} {v_hands_mood v_hands_strong : Nat → Int32} {v_frosts_told : Int32} {v_frosts_year v_frosts_force : Nat → Int32} {v_gappings_told : Int32} {v_gappings_year v_gappings_column v_gappings_hand : Nat → Int32} {v_sights_told : Int32} {v_sights_year v_sights_place v_sights_setter : Nat → Int32} {v_sheets0_form v_sheets0_size : Int32} {v_sheets0_items : Nat → Int32} {v_sheets1_form v_sheets1_size : Int32} {v_sheets1_items : Nat → Int32} {v_sheets2_form v_sheets2_size : Int32} {v_sheets2_items : Nat → Int32} {v_sheets3_form v_sheets3_size : Int32} {v_sheets3_items : Nat → Int32} {v_told_losers : Int32} {v_told_stones v_told_standing : Nat → Int64} {v_told_open v_told_fallen : Nat → Int32} {a0 a1 a2 : Int32} (h : CR O v_toldIsStale v_latestFinding v_wallText_length v_wallText_bytes v_handsText_length v_handsText_bytes v_wall_courses v_wall_columns v_wall_fault v_wall_jump v_wall_stones v_hands_told v_hands_fault v_hands_mood v_hands_strong v_frosts_told v_frosts_year v_frosts_force v_gappings_told v_gappings_year v_gappings_column v_gappings_hand v_sights_told v_sights_year v_sights_place v_sights_setter v_sheets0_form v_sheets0_size v_sheets0_items v_sheets1_form v_sheets1_size v_sheets1_items v_sheets2_form v_sheets2_size v_sheets2_items v_sheets3_form v_sheets3_size v_sheets3_items v_told_losers v_told_stones v_told_standing v_told_open v_told_fallen) : wp (f_x_gapping v_toldIsStale v_gappings_told v_gappings_year v_gappings_column v_gappings_hand a0 a1 a2) (fun r => r.1 = (sp_gapping O a0 a1 a2).1 ∧ CR ((sp_gapping O a0 a1 a2).2) r.2.1 v_latestFinding v_wallText_length v_wallText_bytes v_handsText_length v_handsText_bytes v_wall_courses v_wall_columns v_wall_fault v_wall_jump v_wall_stones v_hands_told v_hands_fault v_hands_mood v_hands_strong v_frosts_told v_frosts_year v_frosts_force r.2.2.1 r.2.2.2.1 r.2.2.2.2.1 r.2.2.2.2.2 v_sights_told v_sights_year v_sights_place v_sights_setter v_sheets0_form v_sheets0_size v_sheets0_items v_sheets1_form v_sheets1_size v_sheets1_items v_sheets2_form v_sheets2_size v_sheets2_items v_sheets3_form v_sheets3_size v_sheets3_items v_told_losers v_told_stones v_told_standing v_told_open v_told_fallen) := by
  unfold f_x_gapping sp_gapping
  refine wp_bindE (q_x_isYear a0) (wp_ite (fun g => ?_) (fun g1 => ?_))
  · rw [if_pos g]; exact wp_some ⟨rfl, h⟩
  rw [if_neg g1]
  refine wp_bindE (s_within a1 0 7) (wp_ite (fun g => ?_) (fun g2 => ?_))
  · rw [if_pos g]; exact wp_some ⟨rfl, h⟩
  rw [if_neg g2]
  refine wp_bindE (s_within a2 0 7) (wp_ite (fun g => ?_) (fun g3 => ?_))
  · rw [if_pos g]; exact wp_some ⟨rfl, h⟩
  rw [if_neg g3]
  have hg := h.2.2.2.2.1
  have hn := h.1.1.2.2.2.2
  have e0 : v_gappings_told = nI (kGn O.1) := hg.1
  subst e0
  have h6 := hn.1
  refine wp_ite (fun g4 => ?_) (fun g4 => ?_)
  · have g5 : kGn O.1 < 6 := (nI_ltX (b := 6) (by omega) (by decide)).mp g4
    rw [if_pos g5]
    unfold f_gp_add
    refine wp_bind (Q1 := fun r => r = (nI (kGn O.1 + 1), upd v_gappings_year (kGn O.1) a0, upd v_gappings_column (kGn O.1) a1, upd v_gappings_hand (kGn O.1) a2)) ?_ (fun o ho => wp_some ?_)
    · refine wp_neg (fun q => ?_) ?_
      · have := (nI_ltX (a := 6) (b := kGn O.1) (by decide) (by omega)).mp q
        omega
      · rw [cl (show kGn O.1 < 2 ^ 31 by omega), show nI (kGn O.1) + 1 = nI (kGn O.1 + 1) from (nI_succ _).symm]
        exact wp_gd (inbN (by omega) (by decide)) (wp_gd (inbN (by omega) (by decide)) (wp_gd (inbN (by omega) (by decide)) (wp_some rfl)))
    · subst ho
      exact ⟨rfl, CK_G h.1 (by omega) (gOk_up hn.2 (wi_8 g2) (wi_8 g3)), h.2.1, h.2.2.1, h.2.2.2.1, CIg_up hg a0 a1 a2, CT_1 _ _ _ _ _ _, h.2.2.2.2.2.2⟩
  · have g5 : ¬ kGn O.1 < 6 := fun q => g4 ((nI_ltX (b := 6) (by omega) (by decide)).mpr q)
    rw [if_neg g5]; exact wp_some ⟨rfl, h⟩
theorem x_back {O : Om} {v_toldIsStale v_latestFinding v_wallText_length : Int32} {v_wallText_bytes : Nat → Int32} {v_handsText_length : Int32} {v_handsText_bytes : Nat → Int32} {v_wall_courses v_wall_columns v_wall_fault v_wall_jump : Int32} {v_wall_stones : Nat → Int64} {v_hands_told v_hands_fault : Int32} {v_hands_mood v_hands_strong : Nat → Int32} {v_frosts_told : Int32} {v_frosts_year v_frosts_force : Nat → Int32} {v_gappings_told : Int32} {v_gappings_year v_gappings_column v_gappings_hand : Nat → Int32} {v_sights_told : Int32} {v_sights_year v_sights_place v_sights_setter : Nat → Int32} {v_sheets0_form v_sheets0_size : Int32} {v_sheets0_items : Nat → Int32} {v_sheets1_form v_sheets1_size : Int32} {v_sheets1_items : Nat → Int32} {v_sheets2_form v_sheets2_size : Int32} {v_sheets2_items : Nat → Int32} {v_sheets3_form v_sheets3_size : Int32} {v_sheets3_items : Nat → Int32} {v_told_losers : Int32} {v_told_stones v_told_standing : Nat → Int64} {v_told_open v_told_fallen : Nat → Int32} {a0 : Int32} (h : CR O v_toldIsStale v_latestFinding v_wallText_length v_wallText_bytes v_handsText_length v_handsText_bytes v_wall_courses v_wall_columns v_wall_fault v_wall_jump v_wall_stones v_hands_told v_hands_fault v_hands_mood v_hands_strong v_frosts_told v_frosts_year v_frosts_force v_gappings_told v_gappings_year v_gappings_column v_gappings_hand v_sights_told v_sights_year v_sights_place v_sights_setter v_sheets0_form v_sheets0_size v_sheets0_items v_sheets1_form v_sheets1_size v_sheets1_items v_sheets2_form v_sheets2_size v_sheets2_items v_sheets3_form v_sheets3_size v_sheets3_items v_told_losers v_told_stones v_told_standing v_told_open v_told_fallen) : wp (f_x_back v_toldIsStale v_frosts_told v_gappings_told a0) (fun r => r.1 = (sp_back O a0).1 ∧ CR ((sp_back O a0).2) r.2.1 v_latestFinding v_wallText_length v_wallText_bytes v_handsText_length v_handsText_bytes v_wall_courses v_wall_columns v_wall_fault v_wall_jump v_wall_stones v_hands_told v_hands_fault v_hands_mood v_hands_strong r.2.2.1 v_frosts_year v_frosts_force r.2.2.2 v_gappings_year v_gappings_column v_gappings_hand v_sights_told v_sights_year v_sights_place v_sights_setter v_sheets0_form v_sheets0_size v_sheets0_items v_sheets1_form v_sheets1_size v_sheets1_items v_sheets2_form v_sheets2_size v_sheets2_items v_sheets3_form v_sheets3_size v_sheets3_items v_told_losers v_told_stones v_told_standing v_told_open v_told_fallen) := by
  unfold f_x_back f_x_back_N31 f_x_back_N72
  refine wp_bindE (q_x_isEither a0) (wp_ite (fun g => ?_) (fun g1 => ?_))
  · rw [show sp_back O a0 = (-2, O) from if_pos g]; exact wp_some ⟨rfl, h⟩
  have hf := h.2.2.2.1
  have hg := h.2.2.2.2.1
  have e0 : v_frosts_told = nI (kFn O.1) := hf.1
  have e1 : v_gappings_told = nI (kGn O.1) := hg.1
  subst e0 e1
  have h6 := h.1.1.2.2.2.1.1
  have h7 := h.1.1.2.2.2.2.1
  refine wp_ite (fun g2 => ?_) (fun g2 => ?_)
  · refine wp_ite (fun g3 => ?_) (fun g3 => ?_)
    · have g4 : kFn O.1 = 0 := (nI_eqI (b := 0) (by omega) (by decide)).mp g3
      rw [show sp_back O a0 = (-3, O) from by unfold sp_back; rw [if_neg g1, if_pos g2, if_pos g4]]; exact wp_some ⟨rfl, h⟩
    · have g4 : ¬ kFn O.1 = 0 := fun q => g3 ((nI_eqI (b := 0) (by omega) (by decide)).mpr q)
      rw [show sp_back O a0 = _ from by unfold sp_back; rw [if_neg g1, if_pos g2, if_neg g4], show (1 : Int32) = nI 1 from rfl, nI_subI (by omega)]
      refine wp_pos g2 (wp_some ⟨rfl, CK_F h.1 (by omega) (fun k hk => h.1.1.2.2.2.1.2 k (by omega)), h.2.1, h.2.2.1, ⟨rfl, fun k hk => hf.2 k (show k < kFn O.1 by have hk' : k < kFn O.1 - 1 := hk; omega)⟩, h.2.2.2.2.1, CT_1 _ _ _ _ _ _, h.2.2.2.2.2.2⟩)
  · refine wp_ite (fun g3 => ?_) (fun g3 => ?_)
    · have g4 : kGn O.1 = 0 := (nI_eqI (b := 0) (by omega) (by decide)).mp g3
      rw [show sp_back O a0 = (-3, O) from by unfold sp_back; rw [if_neg g1, if_neg g2, if_pos g4]]; exact wp_some ⟨rfl, h⟩
    · have g4 : ¬ kGn O.1 = 0 := fun q => g3 ((nI_eqI (b := 0) (by omega) (by decide)).mpr q)
      rw [show sp_back O a0 = _ from by unfold sp_back; rw [if_neg g1, if_neg g2, if_neg g4], show (1 : Int32) = nI 1 from rfl, nI_subI (by omega)]
      refine wp_neg g2 (wp_some ⟨rfl, CK_G h.1 (by omega) (fun k hk => h.1.1.2.2.2.2.2 k (by omega)), h.2.1, h.2.2.1, h.2.2.2.1, ⟨rfl, fun k hk => hg.2 k (show k < kGn O.1 by have hk' : k < kGn O.1 - 1 := hk; omega)⟩, CT_1 _ _ _ _ _ _, h.2.2.2.2.2.2⟩)
def uG (G : Gt) (y p s : Int32) : Gt := (G.1 + 1, upd G.2.1 G.1 y, upd G.2.2.1 G.1 p, upd G.2.2.2 G.1 s)
theorem uG_ok {G : Gt} (hG : Gok G) (h8 : G.1 < 8) {y p s : Int32} (hy : ∃ k, k < 20 ∧ y = nI k) (hp : ∃ k, k < 40 ∧ p = nI k) (hs : s = -1 ∨ ∃ k, k < 8 ∧ s = nI k) : Gok (uG G y p s) := by
  refine ⟨h8, fun k hk => ?_, fun k hk => ?_⟩
  · have hk' : k < G.1 + 1 := hk
    show (∃ z, z < 20 ∧ upd G.2.1 G.1 y k = nI z) ∧ ∃ z, z < 40 ∧ upd G.2.2.1 G.1 p k = nI z
    rw [upd_at, upd_at]
    by_cases e : k = G.1
    · rw [if_pos e, if_pos e]; exact ⟨hy, hp⟩
    · rw [if_neg e, if_neg e]; exact hG.2.1 k (by omega)
  · have hk' : k < G.1 + 1 := hk
    show upd G.2.2.2 G.1 s k = -1 ∨ ∃ z, z < 8 ∧ upd G.2.2.2 G.1 s k = nI z
    rw [upd_at]
    by_cases e : k = G.1
    · rw [if_pos e]; exact hs
    · rw [if_neg e]; exact hG.2.2 k (by omega)
theorem CIv_up {G : Gt} {n : Int32} {sy sp sh : Nat → Int32} (h : CIv G n sy sp sh) (y p s : Int32) : CIv (uG G y p s) (nI (G.1 + 1)) (upd sy G.1 y) (upd sp G.1 p) (upd sh G.1 s) := ⟨rfl, fun k hk => by
  have hk' : k < G.1 + 1 := hk
  show upd sy G.1 y k = upd G.2.1 G.1 y k ∧ upd sp G.1 p k = upd G.2.2.1 G.1 p k ∧ upd sh G.1 s k = upd G.2.2.2 G.1 s k
  rw [upd_at, upd_at, upd_at, upd_at, upd_at, upd_at]
  by_cases e : k = G.1
  · rw [if_pos e, if_pos e, if_pos e, if_pos e, if_pos e, if_pos e]; exact ⟨rfl, rfl, rfl⟩
  · rw [if_neg e, if_neg e, if_neg e, if_neg e, if_neg e, if_neg e]; exact h.2 k (by omega)⟩
theorem seen_s {a3 : Int32} (h : ¬ wi a3 0 8 = 0) : (if a3 = 8 then (-1 : Int32) else a3) = -1 ∨ ∃ k, k < 8 ∧ (if a3 = 8 then (-1 : Int32) else a3) = nI k := by
  obtain ⟨c, hc, rfl⟩ := wi_nat 8 (by decide) h
  by_cases e : nI c = 8
  · rw [if_pos e]; exact Or.inl rfl
  · rw [if_neg e]
    refine Or.inr ⟨c, ?_, rfl⟩
    have : ¬ c = 8 := fun q => e (by rw [q]; rfl)
    omega
theorem x_seen {O : Om} {v_toldIsStale v_latestFinding v_wallText_length : Int32} {v_wallText_bytes : Nat → Int32} {v_handsText_length : Int32} {v_handsText_bytes : Nat → Int32} {v_wall_courses v_wall_columns v_wall_fault v_wall_jump : Int32} {v_wall_stones : Nat → Int64} {v_hands_told v_hands_fault : Int32} {v_hands_mood v_hands_strong : Nat → Int32} {v_frosts_told : Int32} {v_frosts_year v_frosts_force : Nat → Int32} {v_gappings_told : Int32} {v_gappings_year v_gappings_column v_gappings_hand : Nat → Int32} {v_sights_told : Int32} {v_sights_year v_sights_place v_sights_setter : Nat → Int32} {v_sheets0_form v_sheets0_size : Int32} {v_sheets0_items : Nat → Int32} {v_sheets1_form v_sheets1_size : Int32} {v_sheets1_items : Nat → Int32} {v_sheets2_form v_sheets2_size : Int32} {v_sheets2_items : Nat → Int32} {v_sheets3_form v_sheets3_size : Int32} {v_sheets3_items : Nat → Int32} {v_told_losers : Int32} {v_told_stones v_told_standing : Nat → Int64} {v_told_open v_told_fallen : Nat → Int32} {a0 a1 a2 a3 : Int32} (h : CR O v_toldIsStale v_latestFinding v_wallText_length v_wallText_bytes v_handsText_length v_handsText_bytes v_wall_courses v_wall_columns v_wall_fault v_wall_jump v_wall_stones v_hands_told v_hands_fault v_hands_mood v_hands_strong v_frosts_told v_frosts_year v_frosts_force v_gappings_told v_gappings_year v_gappings_column v_gappings_hand v_sights_told v_sights_year v_sights_place v_sights_setter v_sheets0_form v_sheets0_size v_sheets0_items v_sheets1_form v_sheets1_size v_sheets1_items v_sheets2_form v_sheets2_size v_sheets2_items v_sheets3_form v_sheets3_size v_sheets3_items v_told_losers v_told_stones v_told_standing v_told_open v_told_fallen) : wp (f_x_seen v_sights_told v_sights_year v_sights_place v_sights_setter a0 a1 a2 a3) (fun r => r.1 = (sp_seen O a0 a1 a2 a3).1 ∧ CR ((sp_seen O a0 a1 a2 a3).2) v_toldIsStale v_latestFinding v_wallText_length v_wallText_bytes v_handsText_length v_handsText_bytes v_wall_courses v_wall_columns v_wall_fault v_wall_jump v_wall_stones v_hands_told v_hands_fault v_hands_mood v_hands_strong v_frosts_told v_frosts_year v_frosts_force v_gappings_told v_gappings_year v_gappings_column v_gappings_hand r.2.1 r.2.2.1 r.2.2.2.1 r.2.2.2.2 v_sheets0_form v_sheets0_size v_sheets0_items v_sheets1_form v_sheets1_size v_sheets1_items v_sheets2_form v_sheets2_size v_sheets2_items v_sheets3_form v_sheets3_size v_sheets3_items v_told_losers v_told_stones v_told_standing v_told_open v_told_fallen) := by
  unfold f_x_seen f_x_seen_N68 sp_seen
  refine wp_bindE (q_x_isYear a0) (wp_ite (fun g => ?_) (fun g1 => ?_))
  · rw [if_pos g]; exact wp_some ⟨rfl, h⟩
  rw [if_neg g1]
  refine wp_bindE (q_x_isPlace a1 a2) (wp_ite (fun g => ?_) (fun g2 => ?_))
  · rw [if_pos g]; exact wp_some ⟨rfl, h⟩
  rw [if_neg g2]
  refine wp_bindE (s_within a3 0 8) (wp_ite (fun g => ?_) (fun g3 => ?_))
  · rw [if_pos g]; exact wp_some ⟨rfl, h⟩
  rw [if_neg g3]
  have hv := h.2.2.2.2.2.2.2.1
  have hG := h.1.2.1
  have e0 : v_sights_told = nI O.2.1.1 := hv.1
  subst e0
  have h8 := hG.1
  refine wp_ite (fun g4 => ?_) (fun g4 => ?_)
  · have g5 : O.2.1.1 < 8 := (nI_ltX (b := 8) (by omega) (by decide)).mp g4
    rw [if_pos g5]
    have hadd : ∀ z : Int32, z = (if a3 = 8 then (-1 : Int32) else a3) → wp (f_sg_add (nI O.2.1.1) v_sights_year v_sights_place v_sights_setter a0 (((8 : Int32) * a1) + a2) z) (fun r => r.1 = nI (O.2.1.1 + 1) ∧ CIv (uG O.2.1 a0 (((8 : Int32) * a1) + a2) (if a3 = 8 then (-1 : Int32) else a3)) r.1 r.2.1 r.2.2.1 r.2.2.2) := by
      rintro z rfl
      unfold f_sg_add
      refine wp_neg (fun q => ?_) ?_
      · have := (nI_leX (a := 8) (b := O.2.1.1) (by decide) (by omega)).mp q
        omega
      · rw [cl (show O.2.1.1 < 2 ^ 31 by omega), show nI O.2.1.1 + 1 = nI (O.2.1.1 + 1) from (nI_succ _).symm]
        exact wp_gd (inbN g5 (by decide)) (wp_gd (inbN g5 (by decide)) (wp_gd (inbN g5 (by decide)) (wp_some ⟨rfl, CIv_up hv _ _ _⟩)))
    have hok : Gok (uG O.2.1 a0 (((8 : Int32) * a1) + a2) (if a3 = 8 then (-1 : Int32) else a3)) := by
      refine uG_ok hG g5 ?_ ?_ (seen_s g3)
      · obtain ⟨y, hy, e⟩ := wi_nat 19 (by decide) g1
        exact ⟨y, by omega, e⟩
      · obtain ⟨c, k, hc, hk, rfl, rfl⟩ := pl_nat g2
        exact ⟨8 * c + k, by omega, e8n c k⟩
    refine wp_ite (fun g6 => ?_) (fun g6 => ?_)
    · exact wp_bind (hadd (-1) (if_pos g6).symm) (fun o ho => wp_some ⟨ho.1, ⟨h.1.1, hok, h.1.2.2⟩, h.2.1, h.2.2.1, h.2.2.2.1, h.2.2.2.2.1, h.2.2.2.2.2.1, h.2.2.2.2.2.2.1, ho.2, h.2.2.2.2.2.2.2.2⟩)
    · exact wp_bind (hadd a3 (if_neg g6).symm) (fun o ho => wp_some ⟨ho.1, ⟨h.1.1, hok, h.1.2.2⟩, h.2.1, h.2.2.1, h.2.2.2.1, h.2.2.2.2.1, h.2.2.2.2.2.1, h.2.2.2.2.2.2.1, ho.2, h.2.2.2.2.2.2.2.2⟩)
  · have g5 : ¬ O.2.1.1 < 8 := fun q => g4 ((nI_ltX (b := 8) (by omega) (by decide)).mpr q)
    rw [if_neg g5]; exact wp_some ⟨rfl, h⟩
theorem Gok_0 {G : Gt} (h : Gok G) : Gok (0, G.2) := ⟨Nat.zero_le _, fun k hk => absurd hk (Nat.not_lt_zero k), fun k hk => absurd hk (Nat.not_lt_zero k)⟩
theorem x_forget {O : Om} {v_toldIsStale v_latestFinding v_wallText_length : Int32} {v_wallText_bytes : Nat → Int32} {v_handsText_length : Int32} {v_handsText_bytes : Nat → Int32} {v_wall_courses v_wall_columns v_wall_fault v_wall_jump : Int32} {v_wall_stones : Nat → Int64} {v_hands_told v_hands_fault : Int32} {v_hands_mood v_hands_strong : Nat → Int32} {v_frosts_told : Int32} {v_frosts_year v_frosts_force : Nat → Int32} {v_gappings_told : Int32} {v_gappings_year v_gappings_column v_gappings_hand : Nat → Int32} {v_sights_told : Int32} {v_sights_year v_sights_place v_sights_setter : Nat → Int32} {v_sheets0_form v_sheets0_size : Int32} {v_sheets0_items : Nat → Int32} {v_sheets1_form v_sheets1_size : Int32} {v_sheets1_items : Nat → Int32} {v_sheets2_form v_sheets2_size : Int32} {v_sheets2_items : Nat → Int32} {v_sheets3_form v_sheets3_size : Int32} {v_sheets3_items : Nat → Int32} {v_told_losers : Int32} {v_told_stones v_told_standing : Nat → Int64} {v_told_open v_told_fallen : Nat → Int32} (h : CR O v_toldIsStale v_latestFinding v_wallText_length v_wallText_bytes v_handsText_length v_handsText_bytes v_wall_courses v_wall_columns v_wall_fault v_wall_jump v_wall_stones v_hands_told v_hands_fault v_hands_mood v_hands_strong v_frosts_told v_frosts_year v_frosts_force v_gappings_told v_gappings_year v_gappings_column v_gappings_hand v_sights_told v_sights_year v_sights_place v_sights_setter v_sheets0_form v_sheets0_size v_sheets0_items v_sheets1_form v_sheets1_size v_sheets1_items v_sheets2_form v_sheets2_size v_sheets2_items v_sheets3_form v_sheets3_size v_sheets3_items v_told_losers v_told_stones v_told_standing v_told_open v_told_fallen) : wp (f_x_forget v_sights_told) (fun r => r.1 = (sp_forget O).1 ∧ CR ((sp_forget O).2) v_toldIsStale v_latestFinding v_wallText_length v_wallText_bytes v_handsText_length v_handsText_bytes v_wall_courses v_wall_columns v_wall_fault v_wall_jump v_wall_stones v_hands_told v_hands_fault v_hands_mood v_hands_strong v_frosts_told v_frosts_year v_frosts_force v_gappings_told v_gappings_year v_gappings_column v_gappings_hand r.2 v_sights_year v_sights_place v_sights_setter v_sheets0_form v_sheets0_size v_sheets0_items v_sheets1_form v_sheets1_size v_sheets1_items v_sheets2_form v_sheets2_size v_sheets2_items v_sheets3_form v_sheets3_size v_sheets3_items v_told_losers v_told_stones v_told_standing v_told_open v_told_fallen) := by
  unfold f_x_forget sp_forget
  exact wp_some ⟨h.2.2.2.2.2.2.2.1.1, ⟨h.1.1, Gok_0 h.1.2.1, h.1.2.2⟩, h.2.1, h.2.2.1, h.2.2.2.1, h.2.2.2.2.1, h.2.2.2.2.2.1, h.2.2.2.2.2.2.1, ⟨rfl, fun k hk => absurd hk (Nat.not_lt_zero k)⟩, h.2.2.2.2.2.2.2.2⟩
