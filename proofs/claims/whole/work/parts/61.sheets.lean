/-! SHEETS: the class (by program: wip/gen/sheets.py) -/
def hUp (H : Ht) (s : Nat) (x : Int32 × Nat × (Nat → Int32)) : Ht := fun k => if k = s then x else H k
theorem Hok_up {H : Ht} (h : Hok H) {x : Int32 × Nat × (Nat → Int32)} (h1 : x.2.1 ≤ 60) (h2 : x.1 = -1 ∨ ∃ t, t < 3 ∧ x.1 = nI t) (s : Nat) : Hok (hUp H s x) := by
  intro k hk
  unfold hUp
  by_cases e : k = s
  · rw [if_pos e]; exact ⟨h1, h2⟩
  · rw [if_neg e]; exact h k hk
def fnd (x : Int32 × Nat × (Nat → Int32)) (a1 a2 : Int32) : Int32 := if x.1 = -1 then 1 else if x.1 = a1 then (if wi a2 0 (nI x.2.1 - 1) = 0 then 2 else 0) else 3
def cst (a1 v : Int32) : Int32 := if a1 = 0 then v.toInt8.toInt32 else if a1 = 1 then v.toInt16.toInt32 else v
def hasV (z i n : Int32) : Int32 := if wi i 0 z = 0 then 0 else if wi n 0 (z - i) = 0 then 0 else 1
def sp_sheet (O : Om) (a0 a1 a2 : Int32) : Int32 × Om := if wi a0 0 3 = 0 then (-2, O) else if wi a1 0 2 = 0 then (-2, O) else if a2 ≤ 60 then (if 0 ≤ a2 then (a2, oH O (hUp O.2.2.2 a0.toNatClampNeg (a1, a2.toNatClampNeg, fun _ => 0))) else (-15, oN O 5)) else (-2, O)
def sp_lose (O : Om) (a0 : Int32) : Int32 × Om := if wi a0 0 3 = 0 then (-2, O) else if (O.2.2.2 a0.toNatClampNeg).1 = -1 then (-11, oN O 1) else (nI (O.2.2.2 a0.toNatClampNeg).2.1, oH O (hUp O.2.2.2 a0.toNatClampNeg (-1, (O.2.2.2 a0.toNatClampNeg).2)))
def sp_put (O : Om) (a0 a1 a2 a3 : Int32) : Int32 × Om := if wi a0 0 3 = 0 then (-2, O) else if wi a1 0 2 = 0 then (-2, O) else if fnd (O.2.2.2 a0.toNatClampNeg) a1 a2 = 0 then (1, oH O (hUp O.2.2.2 a0.toNatClampNeg ((O.2.2.2 a0.toNatClampNeg).1, (O.2.2.2 a0.toNatClampNeg).2.1, upd (O.2.2.2 a0.toNatClampNeg).2.2 a2.toNatClampNeg (cst a1 a3)))) else (-10 - fnd (O.2.2.2 a0.toNatClampNeg) a1 a2, oN O (fnd (O.2.2.2 a0.toNatClampNeg) a1 a2))
def sp_get (O : Om) (a0 a1 a2 : Int32) : Int32 × Om := if wi a0 0 3 = 0 then (-2147483648, O) else if wi a1 0 2 = 0 then (-2147483648, O) else if fnd (O.2.2.2 a0.toNatClampNeg) a1 a2 = 0 then ((O.2.2.2 a0.toNatClampNeg).2.2 a2.toNatClampNeg, O) else (-2147483648, oN O (fnd (O.2.2.2 a0.toNatClampNeg) a1 a2))
def cpH (H : Ht) (s t i j n : Nat) : Ht := hUp H t ((H t).1, (H t).2.1, va_cpy (H s).2.2 (H t).2.2 i j n)
def cpS (O : Om) (s t : Nat) (a1 a3 a4 : Int32) : Int32 × Om := if (O.2.2.2 s).1 = -1 then (-11, oN O 1) else if (O.2.2.2 t).1 = -1 then (-11, oN O 1) else if (O.2.2.2 s).1 = (O.2.2.2 t).1 then (if hasV (nI (O.2.2.2 s).2.1) a1 a4 = 0 then (-12, oN O 2) else if hasV (nI (O.2.2.2 t).2.1) a3 a4 = 0 then (-12, oN O 2) else (1, oH O (cpH O.2.2.2 s t a1.toNatClampNeg a3.toNatClampNeg a4.toNatClampNeg))) else (-14, oN O 4)
def sp_copy (O : Om) (a0 a1 a2 a3 a4 : Int32) : Int32 × Om := if wi a0 0 3 = 0 then (-2, O) else if wi a2 0 3 = 0 then (-2, O) else cpS O a0.toNatClampNeg a2.toNatClampNeg a1 a3 a4
def rdS (z : Nat) (it : Nat → Int32) : Nat → Nat → Kt → Nat × Kt
  | 0, n, K => (n, K)
  | m + 1, n, K => if z ≤ 2 * n + 1 then (n, K) else if kFn K < 6 then (if mfr (it (2 * n)) (it (2 * n + 1)) = 0 then (n, K) else rdS z it m (n + 1) (tF K (kFn K + 1) (upd (kFy K) (kFn K) (it (2 * n))) (upd (kFf K) (kFn K) (it (2 * n + 1))))) else (n, K)
def rdO (O : Om) (s : Nat) : Nat × Kt := rdS (O.2.2.2 s).2.1 (O.2.2.2 s).2.2 7 0 O.1
def sp_read (O : Om) (a0 : Int32) : Int32 × Om := if wi a0 0 3 = 0 then (-2, O) else if (O.2.2.2 a0.toNatClampNeg).1 = -1 then (-11, oN O 1) else (nI (rdO O a0.toNatClampNeg).1, oK O (rdO O a0.toNatClampNeg).2)
def wrN (O : Om) (s : Nat) : Nat := if SW (SK O.1) < (O.2.2.2 s).2.1 then SW (SK O.1) else (O.2.2.2 s).2.1
def wrI (O : Om) (y s : Nat) : Nat → Int32 := fun i => if i < wrN O s then nI (colCnt (isS (wsY (SK O.1) (y + 1))) i) else (O.2.2.2 s).2.2 i
def sp_write (O : Om) (a0 a1 : Int32) : Int32 × Om := if wi a0 0 19 = 0 then (-2, O) else if wi a1 0 3 = 0 then (-2, O) else if (O.2.2.2 a1.toNatClampNeg).1 = -1 then (-11, oN O 1) else (nI (wrN O a1.toNatClampNeg), oH O (hUp O.2.2.2 a1.toNatClampNeg ((O.2.2.2 a1.toNatClampNeg).1, (O.2.2.2 a1.toNatClampNeg).2.1, wrI O a0.toNatClampNeg a1.toNatClampNeg)))
theorem CR_N {O : Om} {v_toldIsStale v_latestFinding v_wallText_length : Int32} {v_wallText_bytes : Nat → Int32} {v_handsText_length : Int32} {v_handsText_bytes : Nat → Int32} {v_wall_courses v_wall_columns v_wall_fault v_wall_jump : Int32} {v_wall_stones : Nat → Int64} {v_hands_told v_hands_fault : Int32} {v_hands_mood v_hands_strong : Nat → Int32} {v_frosts_told : Int32} {v_frosts_year v_frosts_force : Nat → Int32} {v_gappings_told : Int32} {v_gappings_year v_gappings_column v_gappings_hand : Nat → Int32} {v_sights_told : Int32} {v_sights_year v_sights_place v_sights_setter : Nat → Int32} {v_sheets0_form v_sheets0_size : Int32} {v_sheets0_items : Nat → Int32} {v_sheets1_form v_sheets1_size : Int32} {v_sheets1_items : Nat → Int32} {v_sheets2_form v_sheets2_size : Int32} {v_sheets2_items : Nat → Int32} {v_sheets3_form v_sheets3_size : Int32} {v_sheets3_items : Nat → Int32} {v_told_losers : Int32} {v_told_stones v_told_standing : Nat → Int64} {v_told_open v_told_fallen : Nat → Int32} (h : CR O v_toldIsStale v_latestFinding v_wallText_length v_wallText_bytes v_handsText_length v_handsText_bytes v_wall_courses v_wall_columns v_wall_fault v_wall_jump v_wall_stones v_hands_told v_hands_fault v_hands_mood v_hands_strong v_frosts_told v_frosts_year v_frosts_force v_gappings_told v_gappings_year v_gappings_column v_gappings_hand v_sights_told v_sights_year v_sights_place v_sights_setter v_sheets0_form v_sheets0_size v_sheets0_items v_sheets1_form v_sheets1_size v_sheets1_items v_sheets2_form v_sheets2_size v_sheets2_items v_sheets3_form v_sheets3_size v_sheets3_items v_told_losers v_told_stones v_told_standing v_told_open v_told_fallen) (f : Int32) : CR (oN O f) v_toldIsStale f v_wallText_length v_wallText_bytes v_handsText_length v_handsText_bytes v_wall_courses v_wall_columns v_wall_fault v_wall_jump v_wall_stones v_hands_told v_hands_fault v_hands_mood v_hands_strong v_frosts_told v_frosts_year v_frosts_force v_gappings_told v_gappings_year v_gappings_column v_gappings_hand v_sights_told v_sights_year v_sights_place v_sights_setter v_sheets0_form v_sheets0_size v_sheets0_items v_sheets1_form v_sheets1_size v_sheets1_items v_sheets2_form v_sheets2_size v_sheets2_items v_sheets3_form v_sheets3_size v_sheets3_items v_told_losers v_told_stones v_told_standing v_told_open v_told_fallen := ⟨h.1, h.2.1, h.2.2.1, h.2.2.2.1, h.2.2.2.2.1, h.2.2.2.2.2.1, h.2.2.2.2.2.2.1, h.2.2.2.2.2.2.2.1, rfl, h.2.2.2.2.2.2.2.2.2⟩
theorem s_4 {s : Nat} (h : s ≤ 3) : s = 0 ∨ s = 1 ∨ s = 2 ∨ s = 3 := by omega
theorem s_findingAt {x : Int32 × Nat × (Nat → Int32)} {f z : Int32} {it : Nat → Int32} (h : SH1 x f z it) (a1 a2 : Int32) : f_sh_findingAt f z a1 a2 = some (fnd x a1 a2) := by
  obtain ⟨rfl, rfl, -⟩ := h
  apply wp_get
  unfold f_sh_findingAt fnd
  refine wp_ite (fun g => ?_) (fun g => ?_)
  · rw [if_pos g]; exact wp_some rfl
  rw [if_neg g]
  refine wp_ite (fun g => ?_) (fun g => ?_)
  · rw [if_pos g]
    refine wp_bindE (s_within _ _ _) (wp_ite (fun g => ?_) (fun g => ?_))
    · rw [if_pos g]; exact wp_some rfl
    · rw [if_neg g]; exact wp_some rfl
  rw [if_neg g]; exact wp_some rfl
theorem s_hasItems (z i n : Int32) : f_sh_hasItems z i n = some (hasV z i n) := by
  apply wp_get
  unfold f_sh_hasItems hasV
  refine wp_bindE (s_within _ _ _) (wp_ite (fun g => ?_) (fun g => ?_))
  · rw [if_pos g]; exact wp_some rfl
  rw [if_neg g]
  refine wp_bindE (s_within _ _ _) (wp_ite (fun g => ?_) (fun g => ?_))
  · rw [if_pos g]; exact wp_some rfl
  · rw [if_neg g]; exact wp_some rfl
theorem s_fill_i {n : Nat} (hn : n < 900) (st : Nat → Int32) (v : Int32) : wp (f_ja_fill_i st n v) (fun r => ∀ k, k < n → r k = v) := by
  unfold f_ja_fill_i
  refine wl_ja_fill_i_N5 (fun m a0 x1 x3 x4 => x1 = v ∧ x4 = nI n ∧ ∃ k, x3 = nI k ∧ k ≤ n ∧ m = n - k ∧ ∀ j, j < k → a0 j = v) ?_ 1000 n _ _ _ _ (by omega) ⟨rfl, rfl, 0, rfl, by omega, rfl, fun j hj => absurd hj (Nat.not_lt_zero j)⟩
  rintro m k6 ih a0 x1 x3 x4 ⟨rfl, rfl, k, rfl, hk, rfl, hj⟩
  unfold f_ja_fill_i_N5
  refine wp_ite (fun g => ?_) (fun g => ?_)
  · have g' := (nI_leX (a := n) (b := k) (by omega) (by omega)).mp g
    have e : k = n := by omega
    subst e
    exact wp_some hj
  · have g' : ¬ n ≤ k := fun q => g ((nI_leX (by omega) (by omega)).mpr q)
    refine wp_gd (inbN (by omega) (by omega)) ?_
    rw [nI_clamp (by omega), show nI k + 1 = nI (k + 1) from (nI_succ k).symm]
    refine ih (n - (k + 1)) _ _ _ _ (by omega) ⟨rfl, rfl, k + 1, rfl, by omega, rfl, fun j hjk => ?_⟩
    rw [upd_at]
    by_cases e : j = k
    · rw [if_pos e]
    · rw [if_neg e]; exact hj j (by omega)
theorem fm_3 {a1 : Int32} (h : ¬ wi a1 0 2 = 0) : ∃ t, t < 3 ∧ a1 = nI t := by
  obtain ⟨t, ht, e⟩ := wi_nat 2 (by decide) h
  exact ⟨t, by omega, e⟩
theorem SH1_up {x : Int32 × Nat × (Nat → Int32)} {f z : Int32} {it : Nat → Int32} (h : SH1 x f z it) (i : Nat) (v : Int32) : SH1 (x.1, x.2.1, upd x.2.2 i v) f z (upd it i v) := ⟨h.1, h.2.1, fun k hk => by
  show upd it i v k = upd x.2.2 i v k
  rw [upd_at, upd_at]
  by_cases e : k = i
  · rw [if_pos e, if_pos e]
  · rw [if_neg e, if_neg e]; exact h.2.2 k hk⟩
theorem fnd_0 {x : Int32 × Nat × (Nat → Int32)} (hx : x.2.1 ≤ 60) {a1 a2 : Int32} (h : fnd x a1 a2 = 0) : x.1 = a1 ∧ (¬ x.1 = -1) ∧ ∃ i, i < x.2.1 ∧ a2 = nI i := by
  unfold fnd at h
  by_cases e : x.1 = -1
  · rw [if_pos e] at h; exact absurd h (by decide)
  rw [if_neg e] at h
  by_cases e2 : x.1 = a1
  · rw [if_pos e2] at h
    by_cases e3 : wi a2 0 (nI x.2.1 - 1) = 0
    · rw [if_pos e3] at h; exact absurd h (by decide)
    · exact ⟨e2, e, wi_m1 (by omega) e3⟩
  · rw [if_neg e2] at h; exact absurd h (by decide)
theorem x_sheet {O : Om} {v_toldIsStale v_latestFinding v_wallText_length : Int32} {v_wallText_bytes : Nat → Int32} {v_handsText_length : Int32} {v_handsText_bytes : Nat → Int32} {v_wall_courses v_wall_columns v_wall_fault v_wall_jump : Int32} {v_wall_stones : Nat → Int64} {v_hands_told v_hands_fault : Int32} {v_hands_mood v_hands_strong : Nat → Int32} {v_frosts_told : Int32} {v_frosts_year v_frosts_force : Nat → Int32} {v_gappings_told : Int32} {v_gappings_year v_gappings_column v_gappings_hand : Nat → Int32} {v_sights_told : Int32} {v_sights_year v_sights_place v_sights_setter : Nat → Int32} {v_sheets0_form v_sheets0_size : Int32} {v_sheets0_items : Nat → Int32} {v_sheets1_form v_sheets1_size : Int32} {v_sheets1_items : Nat → Int32} {v_sheets2_form v_sheets2_size : Int32} {v_sheets2_items : Nat → Int32} {v_sheets3_form v_sheets3_size : Int32} {v_sheets3_items : Nat → Int32} {v_told_losers : Int32} {v_told_stones v_told_standing : Nat → Int64} {v_told_open v_told_fallen : Nat → Int32} {a0 a1 a2 : Int32} (h : CR O v_toldIsStale v_latestFinding v_wallText_length v_wallText_bytes v_handsText_length v_handsText_bytes v_wall_courses v_wall_columns v_wall_fault v_wall_jump v_wall_stones v_hands_told v_hands_fault v_hands_mood v_hands_strong v_frosts_told v_frosts_year v_frosts_force v_gappings_told v_gappings_year v_gappings_column v_gappings_hand v_sights_told v_sights_year v_sights_place v_sights_setter v_sheets0_form v_sheets0_size v_sheets0_items v_sheets1_form v_sheets1_size v_sheets1_items v_sheets2_form v_sheets2_size v_sheets2_items v_sheets3_form v_sheets3_size v_sheets3_items v_told_losers v_told_stones v_told_standing v_told_open v_told_fallen) : wp (f_x_sheet v_latestFinding v_sheets0_form v_sheets0_size v_sheets0_items v_sheets1_form v_sheets1_size v_sheets1_items v_sheets2_form v_sheets2_size v_sheets2_items v_sheets3_form v_sheets3_size v_sheets3_items a0 a1 a2) (fun r => r.1 = (sp_sheet O a0 a1 a2).1 ∧ CR ((sp_sheet O a0 a1 a2).2) v_toldIsStale r.2.1 v_wallText_length v_wallText_bytes v_handsText_length v_handsText_bytes v_wall_courses v_wall_columns v_wall_fault v_wall_jump v_wall_stones v_hands_told v_hands_fault v_hands_mood v_hands_strong v_frosts_told v_frosts_year v_frosts_force v_gappings_told v_gappings_year v_gappings_column v_gappings_hand v_sights_told v_sights_year v_sights_place v_sights_setter r.2.2.1 r.2.2.2.1 r.2.2.2.2.1 r.2.2.2.2.2.1 r.2.2.2.2.2.2.1 r.2.2.2.2.2.2.2.1 r.2.2.2.2.2.2.2.2.1 r.2.2.2.2.2.2.2.2.2.1 r.2.2.2.2.2.2.2.2.2.2.1 r.2.2.2.2.2.2.2.2.2.2.2.1 r.2.2.2.2.2.2.2.2.2.2.2.2.1 r.2.2.2.2.2.2.2.2.2.2.2.2.2 v_told_losers v_told_stones v_told_standing v_told_open v_told_fallen) := by
  have hH := h.1.2.2
  have c := h.2.2.2.2.2.2.2.2.2
  unfold f_x_sheet sp_sheet
  refine wp_bindE (q_x_isSheet a0) (wp_ite (fun g => ?_) (fun g1 => ?_))
  · rw [if_pos g]; exact wp_some ⟨rfl, h⟩
  rw [if_neg g1]
  refine wp_bindE (q_x_isForm a1) (wp_ite (fun g => ?_) (fun g2 => ?_))
  · rw [if_pos g]; exact wp_some ⟨rfl, h⟩
  rw [if_neg g2]
  refine wp_ite (fun g3 => ?_) (fun g3 => ?_)
  · rw [if_pos g3]
    refine wp_ite (fun g4 => ?_) (fun g4 => ?_)
    · rw [if_pos g4]
      obtain ⟨n, hn, rfl⟩ := nI_ofX (m := 60) g4 g3 (by decide)
      obtain ⟨s, hs, rfl⟩ := wi_nat 3 (by decide) g1
      rw [cl (show n < 2 ^ 31 by omega), cl (show s < 2 ^ 31 by omega)]
      have hk : CK (oH O (hUp O.2.2.2 s (a1, n, fun _ => 0))) := ⟨h.1.1, h.1.2.1, Hok_up (x := (a1, n, fun _ => 0)) hH hn (Or.inr (fm_3 g2)) s⟩
      rcases s_4 hs with rfl | rfl | rfl | rfl
      · refine wp_pos rfl (?_)
        exact wp_bind (s_fill_i (by decide) _ _) (fun o ho => wp_some ⟨rfl, hk, h.2.1, h.2.2.1, h.2.2.2.1, h.2.2.2.2.1, h.2.2.2.2.2.1, h.2.2.2.2.2.2.1, h.2.2.2.2.2.2.2.1, h.2.2.2.2.2.2.2.2.1, ⟨⟨rfl, rfl, ho⟩, c.2.1, c.2.2.1, c.2.2.2⟩⟩)
      · refine wp_neg (by decide) (wp_pos rfl (?_))
        exact wp_bind (s_fill_i (by decide) _ _) (fun o ho => wp_some ⟨rfl, hk, h.2.1, h.2.2.1, h.2.2.2.1, h.2.2.2.2.1, h.2.2.2.2.2.1, h.2.2.2.2.2.2.1, h.2.2.2.2.2.2.2.1, h.2.2.2.2.2.2.2.2.1, ⟨c.1, ⟨rfl, rfl, ho⟩, c.2.2.1, c.2.2.2⟩⟩)
      · refine wp_neg (by decide) (wp_neg (by decide) (wp_pos rfl (?_)))
        exact wp_bind (s_fill_i (by decide) _ _) (fun o ho => wp_some ⟨rfl, hk, h.2.1, h.2.2.1, h.2.2.2.1, h.2.2.2.2.1, h.2.2.2.2.2.1, h.2.2.2.2.2.2.1, h.2.2.2.2.2.2.2.1, h.2.2.2.2.2.2.2.2.1, ⟨c.1, c.2.1, ⟨rfl, rfl, ho⟩, c.2.2.2⟩⟩)
      · refine wp_neg (by decide) (wp_neg (by decide) (wp_neg (by decide) (wp_pos rfl (?_))))
        exact wp_bind (s_fill_i (by decide) _ _) (fun o ho => wp_some ⟨rfl, hk, h.2.1, h.2.2.1, h.2.2.2.1, h.2.2.2.2.1, h.2.2.2.2.2.1, h.2.2.2.2.2.2.1, h.2.2.2.2.2.2.2.1, h.2.2.2.2.2.2.2.2.1, ⟨c.1, c.2.1, c.2.2.1, ⟨rfl, rfl, ho⟩⟩⟩)
    · rw [if_neg g4]
      exact wp_bindE (show f_x_found v_latestFinding 5 = some (-15, 5) from rfl) (wp_some ⟨rfl, CR_N h 5⟩)
  · rw [if_neg g3]; exact wp_some ⟨rfl, h⟩
theorem x_lose {O : Om} {v_toldIsStale v_latestFinding v_wallText_length : Int32} {v_wallText_bytes : Nat → Int32} {v_handsText_length : Int32} {v_handsText_bytes : Nat → Int32} {v_wall_courses v_wall_columns v_wall_fault v_wall_jump : Int32} {v_wall_stones : Nat → Int64} {v_hands_told v_hands_fault : Int32} {v_hands_mood v_hands_strong : Nat → Int32} {v_frosts_told : Int32} {v_frosts_year v_frosts_force : Nat → Int32} {v_gappings_told : Int32} {v_gappings_year v_gappings_column v_gappings_hand : Nat → Int32} {v_sights_told : Int32} {v_sights_year v_sights_place v_sights_setter : Nat → Int32} {v_sheets0_form v_sheets0_size : Int32} {v_sheets0_items : Nat → Int32} {v_sheets1_form v_sheets1_size : Int32} {v_sheets1_items : Nat → Int32} {v_sheets2_form v_sheets2_size : Int32} {v_sheets2_items : Nat → Int32} {v_sheets3_form v_sheets3_size : Int32} {v_sheets3_items : Nat → Int32} {v_told_losers : Int32} {v_told_stones v_told_standing : Nat → Int64} {v_told_open v_told_fallen : Nat → Int32} {a0 : Int32} (h : CR O v_toldIsStale v_latestFinding v_wallText_length v_wallText_bytes v_handsText_length v_handsText_bytes v_wall_courses v_wall_columns v_wall_fault v_wall_jump v_wall_stones v_hands_told v_hands_fault v_hands_mood v_hands_strong v_frosts_told v_frosts_year v_frosts_force v_gappings_told v_gappings_year v_gappings_column v_gappings_hand v_sights_told v_sights_year v_sights_place v_sights_setter v_sheets0_form v_sheets0_size v_sheets0_items v_sheets1_form v_sheets1_size v_sheets1_items v_sheets2_form v_sheets2_size v_sheets2_items v_sheets3_form v_sheets3_size v_sheets3_items v_told_losers v_told_stones v_told_standing v_told_open v_told_fallen) : wp (f_x_lose v_latestFinding v_sheets0_form v_sheets0_size v_sheets1_form v_sheets1_size v_sheets2_form v_sheets2_size v_sheets3_form v_sheets3_size a0) (fun r => r.1 = (sp_lose O a0).1 ∧ CR ((sp_lose O a0).2) v_toldIsStale r.2.1 v_wallText_length v_wallText_bytes v_handsText_length v_handsText_bytes v_wall_courses v_wall_columns v_wall_fault v_wall_jump v_wall_stones v_hands_told v_hands_fault v_hands_mood v_hands_strong v_frosts_told v_frosts_year v_frosts_force v_gappings_told v_gappings_year v_gappings_column v_gappings_hand v_sights_told v_sights_year v_sights_place v_sights_setter r.2.2.1 v_sheets0_size v_sheets0_items r.2.2.2.1 v_sheets1_size v_sheets1_items r.2.2.2.2.1 v_sheets2_size v_sheets2_items r.2.2.2.2.2 v_sheets3_size v_sheets3_items v_told_losers v_told_stones v_told_standing v_told_open v_told_fallen) := by
  have hH := h.1.2.2
  have c := h.2.2.2.2.2.2.2.2.2
  unfold f_x_lose sp_lose
  refine wp_bindE (q_x_isSheet a0) (wp_ite (fun g => ?_) (fun g1 => ?_))
  · rw [if_pos g]; exact wp_some ⟨rfl, h⟩
  rw [if_neg g1]
  obtain ⟨s, hs, rfl⟩ := wi_nat 3 (by decide) g1
  rw [cl (show s < 2 ^ 31 by omega)]
  have hk : CK (oH O (hUp O.2.2.2 s (-1, (O.2.2.2 s).2))) := ⟨h.1.1, h.1.2.1, Hok_up (x := (-1, (O.2.2.2 s).2)) hH (hH s (by omega)).1 (Or.inl rfl) s⟩
  rcases s_4 hs with rfl | rfl | rfl | rfl
  · refine wp_pos rfl (wp_ite (fun g => ?_) (fun g => ?_))
    · rw [c.1.1] at g
      rw [if_pos g]
      exact wp_bindE (show f_x_found v_latestFinding 1 = some (-11, 1) from rfl) (wp_some ⟨rfl, CR_N h 1⟩)
    · rw [c.1.1] at g
      rw [if_neg g]
      exact wp_some ⟨c.1.2.1, hk, h.2.1, h.2.2.1, h.2.2.2.1, h.2.2.2.2.1, h.2.2.2.2.2.1, h.2.2.2.2.2.2.1, h.2.2.2.2.2.2.2.1, h.2.2.2.2.2.2.2.2.1, ⟨⟨rfl, c.1.2.1, c.1.2.2⟩, c.2.1, c.2.2.1, c.2.2.2⟩⟩
  · refine wp_neg (by decide) (wp_pos rfl (wp_ite (fun g => ?_) (fun g => ?_)))
    · rw [c.2.1.1] at g
      rw [if_pos g]
      exact wp_bindE (show f_x_found v_latestFinding 1 = some (-11, 1) from rfl) (wp_some ⟨rfl, CR_N h 1⟩)
    · rw [c.2.1.1] at g
      rw [if_neg g]
      exact wp_some ⟨c.2.1.2.1, hk, h.2.1, h.2.2.1, h.2.2.2.1, h.2.2.2.2.1, h.2.2.2.2.2.1, h.2.2.2.2.2.2.1, h.2.2.2.2.2.2.2.1, h.2.2.2.2.2.2.2.2.1, ⟨c.1, ⟨rfl, c.2.1.2.1, c.2.1.2.2⟩, c.2.2.1, c.2.2.2⟩⟩
  · refine wp_neg (by decide) (wp_neg (by decide) (wp_pos rfl (wp_ite (fun g => ?_) (fun g => ?_))))
    · rw [c.2.2.1.1] at g
      rw [if_pos g]
      exact wp_bindE (show f_x_found v_latestFinding 1 = some (-11, 1) from rfl) (wp_some ⟨rfl, CR_N h 1⟩)
    · rw [c.2.2.1.1] at g
      rw [if_neg g]
      exact wp_some ⟨c.2.2.1.2.1, hk, h.2.1, h.2.2.1, h.2.2.2.1, h.2.2.2.2.1, h.2.2.2.2.2.1, h.2.2.2.2.2.2.1, h.2.2.2.2.2.2.2.1, h.2.2.2.2.2.2.2.2.1, ⟨c.1, c.2.1, ⟨rfl, c.2.2.1.2.1, c.2.2.1.2.2⟩, c.2.2.2⟩⟩
  · refine wp_neg (by decide) (wp_neg (by decide) (wp_neg (by decide) (wp_pos rfl (wp_ite (fun g => ?_) (fun g => ?_)))))
    · rw [c.2.2.2.1] at g
      rw [if_pos g]
      exact wp_bindE (show f_x_found v_latestFinding 1 = some (-11, 1) from rfl) (wp_some ⟨rfl, CR_N h 1⟩)
    · rw [c.2.2.2.1] at g
      rw [if_neg g]
      exact wp_some ⟨c.2.2.2.2.1, hk, h.2.1, h.2.2.1, h.2.2.2.1, h.2.2.2.2.1, h.2.2.2.2.2.1, h.2.2.2.2.2.2.1, h.2.2.2.2.2.2.2.1, h.2.2.2.2.2.2.2.2.1, ⟨c.1, c.2.1, c.2.2.1, ⟨rfl, c.2.2.2.2.1, c.2.2.2.2.2⟩⟩⟩
theorem x_put {O : Om} {v_toldIsStale v_latestFinding v_wallText_length : Int32} {v_wallText_bytes : Nat → Int32} {v_handsText_length : Int32} {v_handsText_bytes : Nat → Int32} {v_wall_courses v_wall_columns v_wall_fault v_wall_jump : Int32} {v_wall_stones : Nat → Int64} {v_hands_told v_hands_fault : Int32} {v_hands_mood v_hands_strong : Nat → Int32} {v_frosts_told : Int32} {v_frosts_year v_frosts_force : Nat → Int32} {v_gappings_told : Int32} {v_gappings_year v_gappings_column v_gappings_hand : Nat → Int32} {v_sights_told : Int32} {v_sights_year v_sights_place v_sights_setter : Nat → Int32} {v_sheets0_form v_sheets0_size : Int32} {v_sheets0_items : Nat → Int32} {v_sheets1_form v_sheets1_size : Int32} {v_sheets1_items : Nat → Int32} {v_sheets2_form v_sheets2_size : Int32} {v_sheets2_items : Nat → Int32} {v_sheets3_form v_sheets3_size : Int32} {v_sheets3_items : Nat → Int32} {v_told_losers : Int32} {v_told_stones v_told_standing : Nat → Int64} {v_told_open v_told_fallen : Nat → Int32} {a0 a1 a2 a3 : Int32} (h : CR O v_toldIsStale v_latestFinding v_wallText_length v_wallText_bytes v_handsText_length v_handsText_bytes v_wall_courses v_wall_columns v_wall_fault v_wall_jump v_wall_stones v_hands_told v_hands_fault v_hands_mood v_hands_strong v_frosts_told v_frosts_year v_frosts_force v_gappings_told v_gappings_year v_gappings_column v_gappings_hand v_sights_told v_sights_year v_sights_place v_sights_setter v_sheets0_form v_sheets0_size v_sheets0_items v_sheets1_form v_sheets1_size v_sheets1_items v_sheets2_form v_sheets2_size v_sheets2_items v_sheets3_form v_sheets3_size v_sheets3_items v_told_losers v_told_stones v_told_standing v_told_open v_told_fallen) : wp (f_x_put v_latestFinding v_sheets0_form v_sheets0_size v_sheets0_items v_sheets1_form v_sheets1_size v_sheets1_items v_sheets2_form v_sheets2_size v_sheets2_items v_sheets3_form v_sheets3_size v_sheets3_items a0 a1 a2 a3) (fun r => r.1 = (sp_put O a0 a1 a2 a3).1 ∧ CR ((sp_put O a0 a1 a2 a3).2) v_toldIsStale r.2.1 v_wallText_length v_wallText_bytes v_handsText_length v_handsText_bytes v_wall_courses v_wall_columns v_wall_fault v_wall_jump v_wall_stones v_hands_told v_hands_fault v_hands_mood v_hands_strong v_frosts_told v_frosts_year v_frosts_force v_gappings_told v_gappings_year v_gappings_column v_gappings_hand v_sights_told v_sights_year v_sights_place v_sights_setter v_sheets0_form v_sheets0_size r.2.2.1 v_sheets1_form v_sheets1_size r.2.2.2.1 v_sheets2_form v_sheets2_size r.2.2.2.2.1 v_sheets3_form v_sheets3_size r.2.2.2.2.2 v_told_losers v_told_stones v_told_standing v_told_open v_told_fallen) := by
  have hH := h.1.2.2
  have c := h.2.2.2.2.2.2.2.2.2
  unfold f_x_put sp_put
  refine wp_bindE (q_x_isSheet a0) (wp_ite (fun g => ?_) (fun g1 => ?_))
  · rw [if_pos g]; exact wp_some ⟨rfl, h⟩
  rw [if_neg g1]
  refine wp_bindE (q_x_isForm a1) (wp_ite (fun g => ?_) (fun g2 => ?_))
  · rw [if_pos g]; exact wp_some ⟨rfl, h⟩
  rw [if_neg g2]
  obtain ⟨s, hs, rfl⟩ := wi_nat 3 (by decide) g1
  rw [cl (show s < 2 ^ 31 by omega)]
  have hz := (hH s (by omega)).1
  have hk : ∀ it, CK (oH O (hUp O.2.2.2 s ((O.2.2.2 s).1, (O.2.2.2 s).2.1, it))) := fun it => ⟨h.1.1, h.1.2.1, Hok_up (x := ((O.2.2.2 s).1, (O.2.2.2 s).2.1, it)) hH hz (hH s (by omega)).2 s⟩
  rcases s_4 hs with rfl | rfl | rfl | rfl
  · refine wp_pos rfl (wp_bindE (s_findingAt c.1 a1 a2) (wp_ite (fun g => ?_) (fun g => ?_)))
    · obtain ⟨e1, -, i, hi, rfl⟩ := fnd_0 hz g
      rw [if_pos g]
      unfold cst
      rw [cl (show i < 2 ^ 31 by omega)]
      refine wp_pos rfl (?_)
      refine wp_ite (fun g3 => ?_) (fun g3 => ?_)
      · rw [if_pos g3]; exact wp_gd (inbN (by omega) (by decide)) (wp_some ⟨rfl, hk _, h.2.1, h.2.2.1, h.2.2.2.1, h.2.2.2.2.1, h.2.2.2.2.2.1, h.2.2.2.2.2.2.1, h.2.2.2.2.2.2.2.1, h.2.2.2.2.2.2.2.2.1, ⟨SH1_up c.1 i _, c.2.1, c.2.2.1, c.2.2.2⟩⟩)
      · rw [if_neg g3]
        refine wp_ite (fun g4 => ?_) (fun g4 => ?_)
        · rw [if_pos g4]; exact wp_gd (inbN (by omega) (by decide)) (wp_some ⟨rfl, hk _, h.2.1, h.2.2.1, h.2.2.2.1, h.2.2.2.2.1, h.2.2.2.2.2.1, h.2.2.2.2.2.2.1, h.2.2.2.2.2.2.2.1, h.2.2.2.2.2.2.2.2.1, ⟨SH1_up c.1 i _, c.2.1, c.2.2.1, c.2.2.2⟩⟩)
        · rw [if_neg g4]; exact wp_gd (inbN (by omega) (by decide)) (wp_some ⟨rfl, hk _, h.2.1, h.2.2.1, h.2.2.2.1, h.2.2.2.2.1, h.2.2.2.2.2.1, h.2.2.2.2.2.2.1, h.2.2.2.2.2.2.2.1, h.2.2.2.2.2.2.2.2.1, ⟨SH1_up c.1 i _, c.2.1, c.2.2.1, c.2.2.2⟩⟩)
    · rw [if_neg g]
      exact wp_bindE (show f_x_found v_latestFinding _ = some (_, _) from rfl) (wp_some ⟨rfl, CR_N h _⟩)
  · refine wp_neg (by decide) (wp_pos rfl (wp_bindE (s_findingAt c.2.1 a1 a2) (wp_ite (fun g => ?_) (fun g => ?_))))
    · obtain ⟨e1, -, i, hi, rfl⟩ := fnd_0 hz g
      rw [if_pos g]
      unfold cst
      rw [cl (show i < 2 ^ 31 by omega)]
      refine wp_neg (by decide) (wp_pos rfl (?_))
      refine wp_ite (fun g3 => ?_) (fun g3 => ?_)
      · rw [if_pos g3]; exact wp_gd (inbN (by omega) (by decide)) (wp_some ⟨rfl, hk _, h.2.1, h.2.2.1, h.2.2.2.1, h.2.2.2.2.1, h.2.2.2.2.2.1, h.2.2.2.2.2.2.1, h.2.2.2.2.2.2.2.1, h.2.2.2.2.2.2.2.2.1, ⟨c.1, SH1_up c.2.1 i _, c.2.2.1, c.2.2.2⟩⟩)
      · rw [if_neg g3]
        refine wp_ite (fun g4 => ?_) (fun g4 => ?_)
        · rw [if_pos g4]; exact wp_gd (inbN (by omega) (by decide)) (wp_some ⟨rfl, hk _, h.2.1, h.2.2.1, h.2.2.2.1, h.2.2.2.2.1, h.2.2.2.2.2.1, h.2.2.2.2.2.2.1, h.2.2.2.2.2.2.2.1, h.2.2.2.2.2.2.2.2.1, ⟨c.1, SH1_up c.2.1 i _, c.2.2.1, c.2.2.2⟩⟩)
        · rw [if_neg g4]; exact wp_gd (inbN (by omega) (by decide)) (wp_some ⟨rfl, hk _, h.2.1, h.2.2.1, h.2.2.2.1, h.2.2.2.2.1, h.2.2.2.2.2.1, h.2.2.2.2.2.2.1, h.2.2.2.2.2.2.2.1, h.2.2.2.2.2.2.2.2.1, ⟨c.1, SH1_up c.2.1 i _, c.2.2.1, c.2.2.2⟩⟩)
    · rw [if_neg g]
      exact wp_bindE (show f_x_found v_latestFinding _ = some (_, _) from rfl) (wp_some ⟨rfl, CR_N h _⟩)
  · refine wp_neg (by decide) (wp_neg (by decide) (wp_pos rfl (wp_bindE (s_findingAt c.2.2.1 a1 a2) (wp_ite (fun g => ?_) (fun g => ?_)))))
    · obtain ⟨e1, -, i, hi, rfl⟩ := fnd_0 hz g
      rw [if_pos g]
      unfold cst
      rw [cl (show i < 2 ^ 31 by omega)]
      refine wp_neg (by decide) (wp_neg (by decide) (wp_pos rfl (?_)))
      refine wp_ite (fun g3 => ?_) (fun g3 => ?_)
      · rw [if_pos g3]; exact wp_gd (inbN (by omega) (by decide)) (wp_some ⟨rfl, hk _, h.2.1, h.2.2.1, h.2.2.2.1, h.2.2.2.2.1, h.2.2.2.2.2.1, h.2.2.2.2.2.2.1, h.2.2.2.2.2.2.2.1, h.2.2.2.2.2.2.2.2.1, ⟨c.1, c.2.1, SH1_up c.2.2.1 i _, c.2.2.2⟩⟩)
      · rw [if_neg g3]
        refine wp_ite (fun g4 => ?_) (fun g4 => ?_)
        · rw [if_pos g4]; exact wp_gd (inbN (by omega) (by decide)) (wp_some ⟨rfl, hk _, h.2.1, h.2.2.1, h.2.2.2.1, h.2.2.2.2.1, h.2.2.2.2.2.1, h.2.2.2.2.2.2.1, h.2.2.2.2.2.2.2.1, h.2.2.2.2.2.2.2.2.1, ⟨c.1, c.2.1, SH1_up c.2.2.1 i _, c.2.2.2⟩⟩)
        · rw [if_neg g4]; exact wp_gd (inbN (by omega) (by decide)) (wp_some ⟨rfl, hk _, h.2.1, h.2.2.1, h.2.2.2.1, h.2.2.2.2.1, h.2.2.2.2.2.1, h.2.2.2.2.2.2.1, h.2.2.2.2.2.2.2.1, h.2.2.2.2.2.2.2.2.1, ⟨c.1, c.2.1, SH1_up c.2.2.1 i _, c.2.2.2⟩⟩)
    · rw [if_neg g]
      exact wp_bindE (show f_x_found v_latestFinding _ = some (_, _) from rfl) (wp_some ⟨rfl, CR_N h _⟩)
  · refine wp_neg (by decide) (wp_neg (by decide) (wp_neg (by decide) (wp_pos rfl (wp_bindE (s_findingAt c.2.2.2 a1 a2) (wp_ite (fun g => ?_) (fun g => ?_))))))
    · obtain ⟨e1, -, i, hi, rfl⟩ := fnd_0 hz g
      rw [if_pos g]
      unfold cst
      rw [cl (show i < 2 ^ 31 by omega)]
      refine wp_neg (by decide) (wp_neg (by decide) (wp_neg (by decide) (wp_pos rfl (?_))))
      refine wp_ite (fun g3 => ?_) (fun g3 => ?_)
      · rw [if_pos g3]; exact wp_gd (inbN (by omega) (by decide)) (wp_some ⟨rfl, hk _, h.2.1, h.2.2.1, h.2.2.2.1, h.2.2.2.2.1, h.2.2.2.2.2.1, h.2.2.2.2.2.2.1, h.2.2.2.2.2.2.2.1, h.2.2.2.2.2.2.2.2.1, ⟨c.1, c.2.1, c.2.2.1, SH1_up c.2.2.2 i _⟩⟩)
      · rw [if_neg g3]
        refine wp_ite (fun g4 => ?_) (fun g4 => ?_)
        · rw [if_pos g4]; exact wp_gd (inbN (by omega) (by decide)) (wp_some ⟨rfl, hk _, h.2.1, h.2.2.1, h.2.2.2.1, h.2.2.2.2.1, h.2.2.2.2.2.1, h.2.2.2.2.2.2.1, h.2.2.2.2.2.2.2.1, h.2.2.2.2.2.2.2.2.1, ⟨c.1, c.2.1, c.2.2.1, SH1_up c.2.2.2 i _⟩⟩)
        · rw [if_neg g4]; exact wp_gd (inbN (by omega) (by decide)) (wp_some ⟨rfl, hk _, h.2.1, h.2.2.1, h.2.2.2.1, h.2.2.2.2.1, h.2.2.2.2.2.1, h.2.2.2.2.2.2.1, h.2.2.2.2.2.2.2.1, h.2.2.2.2.2.2.2.2.1, ⟨c.1, c.2.1, c.2.2.1, SH1_up c.2.2.2 i _⟩⟩)
    · rw [if_neg g]
      exact wp_bindE (show f_x_found v_latestFinding _ = some (_, _) from rfl) (wp_some ⟨rfl, CR_N h _⟩)
theorem x_get {O : Om} {v_toldIsStale v_latestFinding v_wallText_length : Int32} {v_wallText_bytes : Nat → Int32} {v_handsText_length : Int32} {v_handsText_bytes : Nat → Int32} {v_wall_courses v_wall_columns v_wall_fault v_wall_jump : Int32} {v_wall_stones : Nat → Int64} {v_hands_told v_hands_fault : Int32} {v_hands_mood v_hands_strong : Nat → Int32} {v_frosts_told : Int32} {v_frosts_year v_frosts_force : Nat → Int32} {v_gappings_told : Int32} {v_gappings_year v_gappings_column v_gappings_hand : Nat → Int32} {v_sights_told : Int32} {v_sights_year v_sights_place v_sights_setter : Nat → Int32} {v_sheets0_form v_sheets0_size : Int32} {v_sheets0_items : Nat → Int32} {v_sheets1_form v_sheets1_size : Int32} {v_sheets1_items : Nat → Int32} {v_sheets2_form v_sheets2_size : Int32} {v_sheets2_items : Nat → Int32} {v_sheets3_form v_sheets3_size : Int32} {v_sheets3_items : Nat → Int32} {v_told_losers : Int32} {v_told_stones v_told_standing : Nat → Int64} {v_told_open v_told_fallen : Nat → Int32} {a0 a1 a2 : Int32} (h : CR O v_toldIsStale v_latestFinding v_wallText_length v_wallText_bytes v_handsText_length v_handsText_bytes v_wall_courses v_wall_columns v_wall_fault v_wall_jump v_wall_stones v_hands_told v_hands_fault v_hands_mood v_hands_strong v_frosts_told v_frosts_year v_frosts_force v_gappings_told v_gappings_year v_gappings_column v_gappings_hand v_sights_told v_sights_year v_sights_place v_sights_setter v_sheets0_form v_sheets0_size v_sheets0_items v_sheets1_form v_sheets1_size v_sheets1_items v_sheets2_form v_sheets2_size v_sheets2_items v_sheets3_form v_sheets3_size v_sheets3_items v_told_losers v_told_stones v_told_standing v_told_open v_told_fallen) : wp (f_x_get v_latestFinding v_sheets0_form v_sheets0_size v_sheets0_items v_sheets1_form v_sheets1_size v_sheets1_items v_sheets2_form v_sheets2_size v_sheets2_items v_sheets3_form v_sheets3_size v_sheets3_items a0 a1 a2) (fun r => r.1 = (sp_get O a0 a1 a2).1 ∧ CR ((sp_get O a0 a1 a2).2) v_toldIsStale r.2 v_wallText_length v_wallText_bytes v_handsText_length v_handsText_bytes v_wall_courses v_wall_columns v_wall_fault v_wall_jump v_wall_stones v_hands_told v_hands_fault v_hands_mood v_hands_strong v_frosts_told v_frosts_year v_frosts_force v_gappings_told v_gappings_year v_gappings_column v_gappings_hand v_sights_told v_sights_year v_sights_place v_sights_setter v_sheets0_form v_sheets0_size v_sheets0_items v_sheets1_form v_sheets1_size v_sheets1_items v_sheets2_form v_sheets2_size v_sheets2_items v_sheets3_form v_sheets3_size v_sheets3_items v_told_losers v_told_stones v_told_standing v_told_open v_told_fallen) := by
  have hH := h.1.2.2
  have c := h.2.2.2.2.2.2.2.2.2
  unfold f_x_get sp_get
  refine wp_bindE (q_x_isSheet a0) (wp_ite (fun g => ?_) (fun g1 => ?_))
  · rw [if_pos g]; exact wp_some ⟨rfl, h⟩
  rw [if_neg g1]
  refine wp_bindE (q_x_isForm a1) (wp_ite (fun g => ?_) (fun g2 => ?_))
  · rw [if_pos g]; exact wp_some ⟨rfl, h⟩
  rw [if_neg g2]
  obtain ⟨s, hs, rfl⟩ := wi_nat 3 (by decide) g1
  rw [cl (show s < 2 ^ 31 by omega)]
  have hz := (hH s (by omega)).1
  rcases s_4 hs with rfl | rfl | rfl | rfl
  · refine wp_pos rfl (wp_bindE (s_findingAt c.1 a1 a2) (wp_ite (fun g => ?_) (fun g => ?_)))
    · obtain ⟨e1, -, i, hi, rfl⟩ := fnd_0 hz g
      rw [if_pos g, cl (show i < 2 ^ 31 by omega)]
      refine wp_pos rfl (?_)
      exact wp_gd (inbN (by omega) (by decide)) (wp_some ⟨c.1.2.2 i (by omega), h⟩)
    · rw [if_neg g]
      exact wp_bindE (show f_x_found v_latestFinding _ = some (_, _) from rfl) (wp_some ⟨rfl, CR_N h _⟩)
  · refine wp_neg (by decide) (wp_pos rfl (wp_bindE (s_findingAt c.2.1 a1 a2) (wp_ite (fun g => ?_) (fun g => ?_))))
    · obtain ⟨e1, -, i, hi, rfl⟩ := fnd_0 hz g
      rw [if_pos g, cl (show i < 2 ^ 31 by omega)]
      refine wp_neg (by decide) (wp_pos rfl (?_))
      exact wp_gd (inbN (by omega) (by decide)) (wp_some ⟨c.2.1.2.2 i (by omega), h⟩)
    · rw [if_neg g]
      exact wp_bindE (show f_x_found v_latestFinding _ = some (_, _) from rfl) (wp_some ⟨rfl, CR_N h _⟩)
  · refine wp_neg (by decide) (wp_neg (by decide) (wp_pos rfl (wp_bindE (s_findingAt c.2.2.1 a1 a2) (wp_ite (fun g => ?_) (fun g => ?_)))))
    · obtain ⟨e1, -, i, hi, rfl⟩ := fnd_0 hz g
      rw [if_pos g, cl (show i < 2 ^ 31 by omega)]
      refine wp_neg (by decide) (wp_neg (by decide) (wp_pos rfl (?_)))
      exact wp_gd (inbN (by omega) (by decide)) (wp_some ⟨c.2.2.1.2.2 i (by omega), h⟩)
    · rw [if_neg g]
      exact wp_bindE (show f_x_found v_latestFinding _ = some (_, _) from rfl) (wp_some ⟨rfl, CR_N h _⟩)
  · refine wp_neg (by decide) (wp_neg (by decide) (wp_neg (by decide) (wp_pos rfl (wp_bindE (s_findingAt c.2.2.2 a1 a2) (wp_ite (fun g => ?_) (fun g => ?_))))))
    · obtain ⟨e1, -, i, hi, rfl⟩ := fnd_0 hz g
      rw [if_pos g, cl (show i < 2 ^ 31 by omega)]
      refine wp_neg (by decide) (wp_neg (by decide) (wp_neg (by decide) (wp_pos rfl (?_))))
      exact wp_gd (inbN (by omega) (by decide)) (wp_some ⟨c.2.2.2.2.2 i (by omega), h⟩)
    · rw [if_neg g]
      exact wp_bindE (show f_x_found v_latestFinding _ = some (_, _) from rfl) (wp_some ⟨rfl, CR_N h _⟩)
theorem hasV_ok {z : Nat} (hz : z ≤ 60) {i n : Int32} (h : ¬ hasV (nI z) i n = 0) : ∃ a b, i = nI a ∧ n = nI b ∧ a + b ≤ z := by
  unfold hasV at h
  by_cases e : wi i 0 (nI z) = 0
  · rw [if_pos e] at h; exact absurd rfl h
  rw [if_neg e] at h
  by_cases e2 : wi n 0 (nI z - i) = 0
  · rw [if_pos e2] at h; exact absurd rfl h
  obtain ⟨a, ha, rfl⟩ := wi_nat z (by omega) e
  rw [nI_subI ha] at e2
  obtain ⟨b, hb, rfl⟩ := wi_nat (z - a) (by omega) e2
  exact ⟨a, b, rfl, rfl, by omega⟩
theorem SH1_cp {x y : Int32 × Nat × (Nat → Int32)} {f z g v : Int32} {it jt : Nat → Int32} (hx : SH1 x f z it) (hy : SH1 y g v jt) {a b n : Nat} (h : a + n ≤ 60) : SH1 (y.1, y.2.1, va_cpy x.2.2 y.2.2 a b n) g v (va_cpy it jt a b n) := ⟨hy.1, hy.2.1, fun k hk => by
  show va_cpy it jt a b n k = va_cpy x.2.2 y.2.2 a b n k
  rw [cpy_at, cpy_at]
  by_cases e : b ≤ k ∧ k < b + n
  · rw [if_pos e, if_pos e]; exact hx.2.2 _ (by omega)
  · rw [if_neg e, if_neg e]; exact hy.2.2 k hk⟩
theorem cpyok_n {a b n p q : Nat} (h1 : a + n ≤ p) (h2 : b + n ≤ q) (hp : p < 2 ^ 31) (hq : q < 2 ^ 31) : cpyok (nI a) (nI b) (nI n) p q = true := by
  unfold cpyok
  have hz : ∀ m : Nat, m < 2 ^ 31 → ¬ nI m < 0 := fun m hm q => absurd ((nI_ltX (a := m) (b := 0) hm (by decide)).mp q) (by omega)
  rw [cl (show a < 2 ^ 31 by omega), cl (show b < 2 ^ 31 by omega), cl (show n < 2 ^ 31 by omega)]
  exact decide_eq_true ⟨hz a (by omega), hz b (by omega), hz n (by omega), h1, h2⟩
theorem x_copy {O : Om} {v_toldIsStale v_latestFinding v_wallText_length : Int32} {v_wallText_bytes : Nat → Int32} {v_handsText_length : Int32} {v_handsText_bytes : Nat → Int32} {v_wall_courses v_wall_columns v_wall_fault v_wall_jump : Int32} {v_wall_stones : Nat → Int64} {v_hands_told v_hands_fault : Int32} {v_hands_mood v_hands_strong : Nat → Int32} {v_frosts_told : Int32} {v_frosts_year v_frosts_force : Nat → Int32} {v_gappings_told : Int32} {v_gappings_year v_gappings_column v_gappings_hand : Nat → Int32} {v_sights_told : Int32} {v_sights_year v_sights_place v_sights_setter : Nat → Int32} {v_sheets0_form v_sheets0_size : Int32} {v_sheets0_items : Nat → Int32} {v_sheets1_form v_sheets1_size : Int32} {v_sheets1_items : Nat → Int32} {v_sheets2_form v_sheets2_size : Int32} {v_sheets2_items : Nat → Int32} {v_sheets3_form v_sheets3_size : Int32} {v_sheets3_items : Nat → Int32} {v_told_losers : Int32} {v_told_stones v_told_standing : Nat → Int64} {v_told_open v_told_fallen : Nat → Int32} {a0 a1 a2 a3 a4 : Int32} (h : CR O v_toldIsStale v_latestFinding v_wallText_length v_wallText_bytes v_handsText_length v_handsText_bytes v_wall_courses v_wall_columns v_wall_fault v_wall_jump v_wall_stones v_hands_told v_hands_fault v_hands_mood v_hands_strong v_frosts_told v_frosts_year v_frosts_force v_gappings_told v_gappings_year v_gappings_column v_gappings_hand v_sights_told v_sights_year v_sights_place v_sights_setter v_sheets0_form v_sheets0_size v_sheets0_items v_sheets1_form v_sheets1_size v_sheets1_items v_sheets2_form v_sheets2_size v_sheets2_items v_sheets3_form v_sheets3_size v_sheets3_items v_told_losers v_told_stones v_told_standing v_told_open v_told_fallen) : wp (f_x_copy v_latestFinding v_sheets0_form v_sheets0_size v_sheets0_items v_sheets1_form v_sheets1_size v_sheets1_items v_sheets2_form v_sheets2_size v_sheets2_items v_sheets3_form v_sheets3_size v_sheets3_items a0 a1 a2 a3 a4) (fun r => r.1 = (sp_copy O a0 a1 a2 a3 a4).1 ∧ CR ((sp_copy O a0 a1 a2 a3 a4).2) v_toldIsStale r.2.1 v_wallText_length v_wallText_bytes v_handsText_length v_handsText_bytes v_wall_courses v_wall_columns v_wall_fault v_wall_jump v_wall_stones v_hands_told v_hands_fault v_hands_mood v_hands_strong v_frosts_told v_frosts_year v_frosts_force v_gappings_told v_gappings_year v_gappings_column v_gappings_hand v_sights_told v_sights_year v_sights_place v_sights_setter v_sheets0_form v_sheets0_size r.2.2.1 v_sheets1_form v_sheets1_size r.2.2.2.1 v_sheets2_form v_sheets2_size r.2.2.2.2.1 v_sheets3_form v_sheets3_size r.2.2.2.2.2 v_told_losers v_told_stones v_told_standing v_told_open v_told_fallen) := by
  have hH := h.1.2.2
  have c := h.2.2.2.2.2.2.2.2.2
  unfold f_x_copy f_x_copy_N51 f_x_copy_N99 sp_copy
  refine wp_bindE (q_x_isSheet a0) (wp_ite (fun g => ?_) (fun g1 => ?_))
  · rw [if_pos g]; exact wp_some ⟨rfl, h⟩
  rw [if_neg g1]
  refine wp_bindE (q_x_isSheet a2) (wp_ite (fun g => ?_) (fun g2 => ?_))
  · rw [if_pos g]; exact wp_some ⟨rfl, h⟩
  rw [if_neg g2]
  obtain ⟨s, hs, rfl⟩ := wi_nat 3 (by decide) g1
  obtain ⟨t, ht, rfl⟩ := wi_nat 3 (by decide) g2
  rw [cl (show s < 2 ^ 31 by omega), cl (show t < 2 ^ 31 by omega)]
  have hzs := (hH s (by omega)).1
  have hzt := (hH t (by omega)).1
  have hk : ∀ it, CK (oH O (hUp O.2.2.2 t ((O.2.2.2 t).1, (O.2.2.2 t).2.1, it))) := fun it => ⟨h.1.1, h.1.2.1, Hok_up (x := ((O.2.2.2 t).1, (O.2.2.2 t).2.1, it)) hH hzt (hH t (by omega)).2 t⟩
  rcases s_4 hs with rfl | rfl | rfl | rfl
  · refine wp_pos rfl (?_)
    rcases s_4 ht with rfl | rfl | rfl | rfl
    · refine wp_pos rfl (?_)
      refine wp_ite (fun q => ?_) (fun q => ?_)
      · have g : (O.2.2.2 0).1 = -1 := c.1.1.symm.trans q
        rw [show cpS O 0 0 a1 a3 a4 = (-11, oN O 1) from if_pos g]; exact wp_bindE (show f_x_found v_latestFinding 1 = some (-11, 1) from rfl) (wp_some ⟨rfl, CR_N h 1⟩)
      have n1 : ¬ (O.2.2.2 0).1 = -1 := fun e => q (c.1.1.trans e)
      refine wp_ite (fun q => ?_) (fun q => ?_)
      · have g : (O.2.2.2 0).1 = -1 := c.1.1.symm.trans q
        rw [show cpS O 0 0 a1 a3 a4 = (-11, oN O 1) from by unfold cpS; rw [if_neg n1, if_pos g]]; exact wp_bindE (show f_x_found v_latestFinding 1 = some (-11, 1) from rfl) (wp_some ⟨rfl, CR_N h 1⟩)
      have n2 : ¬ (O.2.2.2 0).1 = -1 := fun e => q (c.1.1.trans e)
      refine wp_ite (fun q => ?_) (fun q => ?_)
      rotate_left
      · have g : ¬ (O.2.2.2 0).1 = (O.2.2.2 0).1 := fun e => q ((c.1.1.trans e).trans c.1.1.symm)
        rw [show cpS O 0 0 a1 a3 a4 = (-14, oN O 4) from by unfold cpS; rw [if_neg n1, if_neg n2, if_neg g]]; exact wp_bindE (show f_x_found v_latestFinding 4 = some (-14, 4) from rfl) (wp_some ⟨rfl, CR_N h 4⟩)
      have n3 : (O.2.2.2 0).1 = (O.2.2.2 0).1 := (c.1.1.symm.trans q).trans c.1.1
      refine wp_bindE (s_hasItems _ _ _) (wp_ite (fun g => ?_) (fun g3 => ?_))
      · rw [c.1.2.1] at g
        rw [show cpS O 0 0 a1 a3 a4 = (-12, oN O 2) from by unfold cpS; rw [if_neg n1, if_neg n2, if_pos n3, if_pos g]]; exact wp_bindE (show f_x_found v_latestFinding 2 = some (-12, 2) from rfl) (wp_some ⟨rfl, CR_N h 2⟩)
      rw [c.1.2.1] at g3
      refine wp_bindE (s_hasItems _ _ _) (wp_ite (fun g => ?_) (fun g4 => ?_))
      · rw [c.1.2.1] at g
        rw [show cpS O 0 0 a1 a3 a4 = (-12, oN O 2) from by unfold cpS; rw [if_neg n1, if_neg n2, if_pos n3, if_neg g3, if_pos g]]; exact wp_bindE (show f_x_found v_latestFinding 2 = some (-12, 2) from rfl) (wp_some ⟨rfl, CR_N h 2⟩)
      rw [c.1.2.1] at g4
      rw [show cpS O 0 0 a1 a3 a4 = (1, oH O (cpH O.2.2.2 0 0 a1.toNatClampNeg a3.toNatClampNeg a4.toNatClampNeg)) from by unfold cpS; rw [if_neg n1, if_neg n2, if_pos n3, if_neg g3, if_neg g4]]
      obtain ⟨i, n, rfl, rfl, hin⟩ := hasV_ok hzs g3
      obtain ⟨j, n', rfl, en, hjn⟩ := hasV_ok hzt g4
      have e := (nI_eqI (by omega) (by omega)).mp en
      subst e
      rw [cl (show i < 2 ^ 31 by omega), cl (show j < 2 ^ 31 by omega), cl (show n < 2 ^ 31 by omega)]
      exact wp_gd (cpyok_n (by omega) (by omega) (by decide) (by decide)) (wp_some ⟨rfl, hk _, h.2.1, h.2.2.1, h.2.2.2.1, h.2.2.2.2.1, h.2.2.2.2.2.1, h.2.2.2.2.2.2.1, h.2.2.2.2.2.2.2.1, h.2.2.2.2.2.2.2.2.1, ⟨SH1_cp c.1 c.1 (by omega), c.2.1, c.2.2.1, c.2.2.2⟩⟩)
    · refine wp_neg (by decide) (wp_pos rfl (?_))
      refine wp_ite (fun q => ?_) (fun q => ?_)
      · have g : (O.2.2.2 0).1 = -1 := c.1.1.symm.trans q
        rw [show cpS O 0 1 a1 a3 a4 = (-11, oN O 1) from if_pos g]; exact wp_bindE (show f_x_found v_latestFinding 1 = some (-11, 1) from rfl) (wp_some ⟨rfl, CR_N h 1⟩)
      have n1 : ¬ (O.2.2.2 0).1 = -1 := fun e => q (c.1.1.trans e)
      refine wp_ite (fun q => ?_) (fun q => ?_)
      · have g : (O.2.2.2 1).1 = -1 := c.2.1.1.symm.trans q
        rw [show cpS O 0 1 a1 a3 a4 = (-11, oN O 1) from by unfold cpS; rw [if_neg n1, if_pos g]]; exact wp_bindE (show f_x_found v_latestFinding 1 = some (-11, 1) from rfl) (wp_some ⟨rfl, CR_N h 1⟩)
      have n2 : ¬ (O.2.2.2 1).1 = -1 := fun e => q (c.2.1.1.trans e)
      refine wp_ite (fun q => ?_) (fun q => ?_)
      rotate_left
      · have g : ¬ (O.2.2.2 0).1 = (O.2.2.2 1).1 := fun e => q ((c.1.1.trans e).trans c.2.1.1.symm)
        rw [show cpS O 0 1 a1 a3 a4 = (-14, oN O 4) from by unfold cpS; rw [if_neg n1, if_neg n2, if_neg g]]; exact wp_bindE (show f_x_found v_latestFinding 4 = some (-14, 4) from rfl) (wp_some ⟨rfl, CR_N h 4⟩)
      have n3 : (O.2.2.2 0).1 = (O.2.2.2 1).1 := (c.1.1.symm.trans q).trans c.2.1.1
      refine wp_bindE (s_hasItems _ _ _) (wp_ite (fun g => ?_) (fun g3 => ?_))
      · rw [c.1.2.1] at g
        rw [show cpS O 0 1 a1 a3 a4 = (-12, oN O 2) from by unfold cpS; rw [if_neg n1, if_neg n2, if_pos n3, if_pos g]]; exact wp_bindE (show f_x_found v_latestFinding 2 = some (-12, 2) from rfl) (wp_some ⟨rfl, CR_N h 2⟩)
      rw [c.1.2.1] at g3
      refine wp_bindE (s_hasItems _ _ _) (wp_ite (fun g => ?_) (fun g4 => ?_))
      · rw [c.2.1.2.1] at g
        rw [show cpS O 0 1 a1 a3 a4 = (-12, oN O 2) from by unfold cpS; rw [if_neg n1, if_neg n2, if_pos n3, if_neg g3, if_pos g]]; exact wp_bindE (show f_x_found v_latestFinding 2 = some (-12, 2) from rfl) (wp_some ⟨rfl, CR_N h 2⟩)
      rw [c.2.1.2.1] at g4
      rw [show cpS O 0 1 a1 a3 a4 = (1, oH O (cpH O.2.2.2 0 1 a1.toNatClampNeg a3.toNatClampNeg a4.toNatClampNeg)) from by unfold cpS; rw [if_neg n1, if_neg n2, if_pos n3, if_neg g3, if_neg g4]]
      obtain ⟨i, n, rfl, rfl, hin⟩ := hasV_ok hzs g3
      obtain ⟨j, n', rfl, en, hjn⟩ := hasV_ok hzt g4
      have e := (nI_eqI (by omega) (by omega)).mp en
      subst e
      rw [cl (show i < 2 ^ 31 by omega), cl (show j < 2 ^ 31 by omega), cl (show n < 2 ^ 31 by omega)]
      exact wp_gd (cpyok_n (by omega) (by omega) (by decide) (by decide)) (wp_some ⟨rfl, hk _, h.2.1, h.2.2.1, h.2.2.2.1, h.2.2.2.2.1, h.2.2.2.2.2.1, h.2.2.2.2.2.2.1, h.2.2.2.2.2.2.2.1, h.2.2.2.2.2.2.2.2.1, ⟨c.1, SH1_cp c.1 c.2.1 (by omega), c.2.2.1, c.2.2.2⟩⟩)
    · refine wp_neg (by decide) (wp_neg (by decide) (wp_pos rfl (?_)))
      refine wp_ite (fun q => ?_) (fun q => ?_)
      · have g : (O.2.2.2 0).1 = -1 := c.1.1.symm.trans q
        rw [show cpS O 0 2 a1 a3 a4 = (-11, oN O 1) from if_pos g]; exact wp_bindE (show f_x_found v_latestFinding 1 = some (-11, 1) from rfl) (wp_some ⟨rfl, CR_N h 1⟩)
      have n1 : ¬ (O.2.2.2 0).1 = -1 := fun e => q (c.1.1.trans e)
      refine wp_ite (fun q => ?_) (fun q => ?_)
      · have g : (O.2.2.2 2).1 = -1 := c.2.2.1.1.symm.trans q
        rw [show cpS O 0 2 a1 a3 a4 = (-11, oN O 1) from by unfold cpS; rw [if_neg n1, if_pos g]]; exact wp_bindE (show f_x_found v_latestFinding 1 = some (-11, 1) from rfl) (wp_some ⟨rfl, CR_N h 1⟩)
      have n2 : ¬ (O.2.2.2 2).1 = -1 := fun e => q (c.2.2.1.1.trans e)
      refine wp_ite (fun q => ?_) (fun q => ?_)
      rotate_left
      · have g : ¬ (O.2.2.2 0).1 = (O.2.2.2 2).1 := fun e => q ((c.1.1.trans e).trans c.2.2.1.1.symm)
        rw [show cpS O 0 2 a1 a3 a4 = (-14, oN O 4) from by unfold cpS; rw [if_neg n1, if_neg n2, if_neg g]]; exact wp_bindE (show f_x_found v_latestFinding 4 = some (-14, 4) from rfl) (wp_some ⟨rfl, CR_N h 4⟩)
      have n3 : (O.2.2.2 0).1 = (O.2.2.2 2).1 := (c.1.1.symm.trans q).trans c.2.2.1.1
      refine wp_bindE (s_hasItems _ _ _) (wp_ite (fun g => ?_) (fun g3 => ?_))
      · rw [c.1.2.1] at g
        rw [show cpS O 0 2 a1 a3 a4 = (-12, oN O 2) from by unfold cpS; rw [if_neg n1, if_neg n2, if_pos n3, if_pos g]]; exact wp_bindE (show f_x_found v_latestFinding 2 = some (-12, 2) from rfl) (wp_some ⟨rfl, CR_N h 2⟩)
      rw [c.1.2.1] at g3
      refine wp_bindE (s_hasItems _ _ _) (wp_ite (fun g => ?_) (fun g4 => ?_))
      · rw [c.2.2.1.2.1] at g
        rw [show cpS O 0 2 a1 a3 a4 = (-12, oN O 2) from by unfold cpS; rw [if_neg n1, if_neg n2, if_pos n3, if_neg g3, if_pos g]]; exact wp_bindE (show f_x_found v_latestFinding 2 = some (-12, 2) from rfl) (wp_some ⟨rfl, CR_N h 2⟩)
      rw [c.2.2.1.2.1] at g4
      rw [show cpS O 0 2 a1 a3 a4 = (1, oH O (cpH O.2.2.2 0 2 a1.toNatClampNeg a3.toNatClampNeg a4.toNatClampNeg)) from by unfold cpS; rw [if_neg n1, if_neg n2, if_pos n3, if_neg g3, if_neg g4]]
      obtain ⟨i, n, rfl, rfl, hin⟩ := hasV_ok hzs g3
      obtain ⟨j, n', rfl, en, hjn⟩ := hasV_ok hzt g4
      have e := (nI_eqI (by omega) (by omega)).mp en
      subst e
      rw [cl (show i < 2 ^ 31 by omega), cl (show j < 2 ^ 31 by omega), cl (show n < 2 ^ 31 by omega)]
      exact wp_gd (cpyok_n (by omega) (by omega) (by decide) (by decide)) (wp_some ⟨rfl, hk _, h.2.1, h.2.2.1, h.2.2.2.1, h.2.2.2.2.1, h.2.2.2.2.2.1, h.2.2.2.2.2.2.1, h.2.2.2.2.2.2.2.1, h.2.2.2.2.2.2.2.2.1, ⟨c.1, c.2.1, SH1_cp c.1 c.2.2.1 (by omega), c.2.2.2⟩⟩)
    · refine wp_neg (by decide) (wp_neg (by decide) (wp_neg (by decide) (wp_pos rfl (?_))))
      refine wp_ite (fun q => ?_) (fun q => ?_)
      · have g : (O.2.2.2 0).1 = -1 := c.1.1.symm.trans q
        rw [show cpS O 0 3 a1 a3 a4 = (-11, oN O 1) from if_pos g]; exact wp_bindE (show f_x_found v_latestFinding 1 = some (-11, 1) from rfl) (wp_some ⟨rfl, CR_N h 1⟩)
      have n1 : ¬ (O.2.2.2 0).1 = -1 := fun e => q (c.1.1.trans e)
      refine wp_ite (fun q => ?_) (fun q => ?_)
      · have g : (O.2.2.2 3).1 = -1 := c.2.2.2.1.symm.trans q
        rw [show cpS O 0 3 a1 a3 a4 = (-11, oN O 1) from by unfold cpS; rw [if_neg n1, if_pos g]]; exact wp_bindE (show f_x_found v_latestFinding 1 = some (-11, 1) from rfl) (wp_some ⟨rfl, CR_N h 1⟩)
      have n2 : ¬ (O.2.2.2 3).1 = -1 := fun e => q (c.2.2.2.1.trans e)
      refine wp_ite (fun q => ?_) (fun q => ?_)
      rotate_left
      · have g : ¬ (O.2.2.2 0).1 = (O.2.2.2 3).1 := fun e => q ((c.1.1.trans e).trans c.2.2.2.1.symm)
        rw [show cpS O 0 3 a1 a3 a4 = (-14, oN O 4) from by unfold cpS; rw [if_neg n1, if_neg n2, if_neg g]]; exact wp_bindE (show f_x_found v_latestFinding 4 = some (-14, 4) from rfl) (wp_some ⟨rfl, CR_N h 4⟩)
      have n3 : (O.2.2.2 0).1 = (O.2.2.2 3).1 := (c.1.1.symm.trans q).trans c.2.2.2.1
      refine wp_bindE (s_hasItems _ _ _) (wp_ite (fun g => ?_) (fun g3 => ?_))
      · rw [c.1.2.1] at g
        rw [show cpS O 0 3 a1 a3 a4 = (-12, oN O 2) from by unfold cpS; rw [if_neg n1, if_neg n2, if_pos n3, if_pos g]]; exact wp_bindE (show f_x_found v_latestFinding 2 = some (-12, 2) from rfl) (wp_some ⟨rfl, CR_N h 2⟩)
      rw [c.1.2.1] at g3
      refine wp_bindE (s_hasItems _ _ _) (wp_ite (fun g => ?_) (fun g4 => ?_))
      · rw [c.2.2.2.2.1] at g
        rw [show cpS O 0 3 a1 a3 a4 = (-12, oN O 2) from by unfold cpS; rw [if_neg n1, if_neg n2, if_pos n3, if_neg g3, if_pos g]]; exact wp_bindE (show f_x_found v_latestFinding 2 = some (-12, 2) from rfl) (wp_some ⟨rfl, CR_N h 2⟩)
      rw [c.2.2.2.2.1] at g4
      rw [show cpS O 0 3 a1 a3 a4 = (1, oH O (cpH O.2.2.2 0 3 a1.toNatClampNeg a3.toNatClampNeg a4.toNatClampNeg)) from by unfold cpS; rw [if_neg n1, if_neg n2, if_pos n3, if_neg g3, if_neg g4]]
      obtain ⟨i, n, rfl, rfl, hin⟩ := hasV_ok hzs g3
      obtain ⟨j, n', rfl, en, hjn⟩ := hasV_ok hzt g4
      have e := (nI_eqI (by omega) (by omega)).mp en
      subst e
      rw [cl (show i < 2 ^ 31 by omega), cl (show j < 2 ^ 31 by omega), cl (show n < 2 ^ 31 by omega)]
      exact wp_gd (cpyok_n (by omega) (by omega) (by decide) (by decide)) (wp_some ⟨rfl, hk _, h.2.1, h.2.2.1, h.2.2.2.1, h.2.2.2.2.1, h.2.2.2.2.2.1, h.2.2.2.2.2.2.1, h.2.2.2.2.2.2.2.1, h.2.2.2.2.2.2.2.2.1, ⟨c.1, c.2.1, c.2.2.1, SH1_cp c.1 c.2.2.2 (by omega)⟩⟩)
  · refine wp_neg (by decide) (wp_pos rfl (?_))
    rcases s_4 ht with rfl | rfl | rfl | rfl
    · refine wp_pos rfl (?_)
      refine wp_ite (fun q => ?_) (fun q => ?_)
      · have g : (O.2.2.2 1).1 = -1 := c.2.1.1.symm.trans q
        rw [show cpS O 1 0 a1 a3 a4 = (-11, oN O 1) from if_pos g]; exact wp_bindE (show f_x_found v_latestFinding 1 = some (-11, 1) from rfl) (wp_some ⟨rfl, CR_N h 1⟩)
      have n1 : ¬ (O.2.2.2 1).1 = -1 := fun e => q (c.2.1.1.trans e)
      refine wp_ite (fun q => ?_) (fun q => ?_)
      · have g : (O.2.2.2 0).1 = -1 := c.1.1.symm.trans q
        rw [show cpS O 1 0 a1 a3 a4 = (-11, oN O 1) from by unfold cpS; rw [if_neg n1, if_pos g]]; exact wp_bindE (show f_x_found v_latestFinding 1 = some (-11, 1) from rfl) (wp_some ⟨rfl, CR_N h 1⟩)
      have n2 : ¬ (O.2.2.2 0).1 = -1 := fun e => q (c.1.1.trans e)
      refine wp_ite (fun q => ?_) (fun q => ?_)
      rotate_left
      · have g : ¬ (O.2.2.2 1).1 = (O.2.2.2 0).1 := fun e => q ((c.2.1.1.trans e).trans c.1.1.symm)
        rw [show cpS O 1 0 a1 a3 a4 = (-14, oN O 4) from by unfold cpS; rw [if_neg n1, if_neg n2, if_neg g]]; exact wp_bindE (show f_x_found v_latestFinding 4 = some (-14, 4) from rfl) (wp_some ⟨rfl, CR_N h 4⟩)
      have n3 : (O.2.2.2 1).1 = (O.2.2.2 0).1 := (c.2.1.1.symm.trans q).trans c.1.1
      refine wp_bindE (s_hasItems _ _ _) (wp_ite (fun g => ?_) (fun g3 => ?_))
      · rw [c.2.1.2.1] at g
        rw [show cpS O 1 0 a1 a3 a4 = (-12, oN O 2) from by unfold cpS; rw [if_neg n1, if_neg n2, if_pos n3, if_pos g]]; exact wp_bindE (show f_x_found v_latestFinding 2 = some (-12, 2) from rfl) (wp_some ⟨rfl, CR_N h 2⟩)
      rw [c.2.1.2.1] at g3
      refine wp_bindE (s_hasItems _ _ _) (wp_ite (fun g => ?_) (fun g4 => ?_))
      · rw [c.1.2.1] at g
        rw [show cpS O 1 0 a1 a3 a4 = (-12, oN O 2) from by unfold cpS; rw [if_neg n1, if_neg n2, if_pos n3, if_neg g3, if_pos g]]; exact wp_bindE (show f_x_found v_latestFinding 2 = some (-12, 2) from rfl) (wp_some ⟨rfl, CR_N h 2⟩)
      rw [c.1.2.1] at g4
      rw [show cpS O 1 0 a1 a3 a4 = (1, oH O (cpH O.2.2.2 1 0 a1.toNatClampNeg a3.toNatClampNeg a4.toNatClampNeg)) from by unfold cpS; rw [if_neg n1, if_neg n2, if_pos n3, if_neg g3, if_neg g4]]
      obtain ⟨i, n, rfl, rfl, hin⟩ := hasV_ok hzs g3
      obtain ⟨j, n', rfl, en, hjn⟩ := hasV_ok hzt g4
      have e := (nI_eqI (by omega) (by omega)).mp en
      subst e
      rw [cl (show i < 2 ^ 31 by omega), cl (show j < 2 ^ 31 by omega), cl (show n < 2 ^ 31 by omega)]
      exact wp_gd (cpyok_n (by omega) (by omega) (by decide) (by decide)) (wp_some ⟨rfl, hk _, h.2.1, h.2.2.1, h.2.2.2.1, h.2.2.2.2.1, h.2.2.2.2.2.1, h.2.2.2.2.2.2.1, h.2.2.2.2.2.2.2.1, h.2.2.2.2.2.2.2.2.1, ⟨SH1_cp c.2.1 c.1 (by omega), c.2.1, c.2.2.1, c.2.2.2⟩⟩)
    · refine wp_neg (by decide) (wp_pos rfl (?_))
      refine wp_ite (fun q => ?_) (fun q => ?_)
      · have g : (O.2.2.2 1).1 = -1 := c.2.1.1.symm.trans q
        rw [show cpS O 1 1 a1 a3 a4 = (-11, oN O 1) from if_pos g]; exact wp_bindE (show f_x_found v_latestFinding 1 = some (-11, 1) from rfl) (wp_some ⟨rfl, CR_N h 1⟩)
      have n1 : ¬ (O.2.2.2 1).1 = -1 := fun e => q (c.2.1.1.trans e)
      refine wp_ite (fun q => ?_) (fun q => ?_)
      · have g : (O.2.2.2 1).1 = -1 := c.2.1.1.symm.trans q
        rw [show cpS O 1 1 a1 a3 a4 = (-11, oN O 1) from by unfold cpS; rw [if_neg n1, if_pos g]]; exact wp_bindE (show f_x_found v_latestFinding 1 = some (-11, 1) from rfl) (wp_some ⟨rfl, CR_N h 1⟩)
      have n2 : ¬ (O.2.2.2 1).1 = -1 := fun e => q (c.2.1.1.trans e)
      refine wp_ite (fun q => ?_) (fun q => ?_)
      rotate_left
      · have g : ¬ (O.2.2.2 1).1 = (O.2.2.2 1).1 := fun e => q ((c.2.1.1.trans e).trans c.2.1.1.symm)
        rw [show cpS O 1 1 a1 a3 a4 = (-14, oN O 4) from by unfold cpS; rw [if_neg n1, if_neg n2, if_neg g]]; exact wp_bindE (show f_x_found v_latestFinding 4 = some (-14, 4) from rfl) (wp_some ⟨rfl, CR_N h 4⟩)
      have n3 : (O.2.2.2 1).1 = (O.2.2.2 1).1 := (c.2.1.1.symm.trans q).trans c.2.1.1
      refine wp_bindE (s_hasItems _ _ _) (wp_ite (fun g => ?_) (fun g3 => ?_))
      · rw [c.2.1.2.1] at g
        rw [show cpS O 1 1 a1 a3 a4 = (-12, oN O 2) from by unfold cpS; rw [if_neg n1, if_neg n2, if_pos n3, if_pos g]]; exact wp_bindE (show f_x_found v_latestFinding 2 = some (-12, 2) from rfl) (wp_some ⟨rfl, CR_N h 2⟩)
      rw [c.2.1.2.1] at g3
      refine wp_bindE (s_hasItems _ _ _) (wp_ite (fun g => ?_) (fun g4 => ?_))
      · rw [c.2.1.2.1] at g
        rw [show cpS O 1 1 a1 a3 a4 = (-12, oN O 2) from by unfold cpS; rw [if_neg n1, if_neg n2, if_pos n3, if_neg g3, if_pos g]]; exact wp_bindE (show f_x_found v_latestFinding 2 = some (-12, 2) from rfl) (wp_some ⟨rfl, CR_N h 2⟩)
      rw [c.2.1.2.1] at g4
      rw [show cpS O 1 1 a1 a3 a4 = (1, oH O (cpH O.2.2.2 1 1 a1.toNatClampNeg a3.toNatClampNeg a4.toNatClampNeg)) from by unfold cpS; rw [if_neg n1, if_neg n2, if_pos n3, if_neg g3, if_neg g4]]
      obtain ⟨i, n, rfl, rfl, hin⟩ := hasV_ok hzs g3
      obtain ⟨j, n', rfl, en, hjn⟩ := hasV_ok hzt g4
      have e := (nI_eqI (by omega) (by omega)).mp en
      subst e
      rw [cl (show i < 2 ^ 31 by omega), cl (show j < 2 ^ 31 by omega), cl (show n < 2 ^ 31 by omega)]
      exact wp_gd (cpyok_n (by omega) (by omega) (by decide) (by decide)) (wp_some ⟨rfl, hk _, h.2.1, h.2.2.1, h.2.2.2.1, h.2.2.2.2.1, h.2.2.2.2.2.1, h.2.2.2.2.2.2.1, h.2.2.2.2.2.2.2.1, h.2.2.2.2.2.2.2.2.1, ⟨c.1, SH1_cp c.2.1 c.2.1 (by omega), c.2.2.1, c.2.2.2⟩⟩)
    · refine wp_neg (by decide) (wp_neg (by decide) (wp_pos rfl (?_)))
      refine wp_ite (fun q => ?_) (fun q => ?_)
      · have g : (O.2.2.2 1).1 = -1 := c.2.1.1.symm.trans q
        rw [show cpS O 1 2 a1 a3 a4 = (-11, oN O 1) from if_pos g]; exact wp_bindE (show f_x_found v_latestFinding 1 = some (-11, 1) from rfl) (wp_some ⟨rfl, CR_N h 1⟩)
      have n1 : ¬ (O.2.2.2 1).1 = -1 := fun e => q (c.2.1.1.trans e)
      refine wp_ite (fun q => ?_) (fun q => ?_)
      · have g : (O.2.2.2 2).1 = -1 := c.2.2.1.1.symm.trans q
        rw [show cpS O 1 2 a1 a3 a4 = (-11, oN O 1) from by unfold cpS; rw [if_neg n1, if_pos g]]; exact wp_bindE (show f_x_found v_latestFinding 1 = some (-11, 1) from rfl) (wp_some ⟨rfl, CR_N h 1⟩)
      have n2 : ¬ (O.2.2.2 2).1 = -1 := fun e => q (c.2.2.1.1.trans e)
      refine wp_ite (fun q => ?_) (fun q => ?_)
      rotate_left
      · have g : ¬ (O.2.2.2 1).1 = (O.2.2.2 2).1 := fun e => q ((c.2.1.1.trans e).trans c.2.2.1.1.symm)
        rw [show cpS O 1 2 a1 a3 a4 = (-14, oN O 4) from by unfold cpS; rw [if_neg n1, if_neg n2, if_neg g]]; exact wp_bindE (show f_x_found v_latestFinding 4 = some (-14, 4) from rfl) (wp_some ⟨rfl, CR_N h 4⟩)
      have n3 : (O.2.2.2 1).1 = (O.2.2.2 2).1 := (c.2.1.1.symm.trans q).trans c.2.2.1.1
      refine wp_bindE (s_hasItems _ _ _) (wp_ite (fun g => ?_) (fun g3 => ?_))
      · rw [c.2.1.2.1] at g
        rw [show cpS O 1 2 a1 a3 a4 = (-12, oN O 2) from by unfold cpS; rw [if_neg n1, if_neg n2, if_pos n3, if_pos g]]; exact wp_bindE (show f_x_found v_latestFinding 2 = some (-12, 2) from rfl) (wp_some ⟨rfl, CR_N h 2⟩)
      rw [c.2.1.2.1] at g3
      refine wp_bindE (s_hasItems _ _ _) (wp_ite (fun g => ?_) (fun g4 => ?_))
      · rw [c.2.2.1.2.1] at g
        rw [show cpS O 1 2 a1 a3 a4 = (-12, oN O 2) from by unfold cpS; rw [if_neg n1, if_neg n2, if_pos n3, if_neg g3, if_pos g]]; exact wp_bindE (show f_x_found v_latestFinding 2 = some (-12, 2) from rfl) (wp_some ⟨rfl, CR_N h 2⟩)
      rw [c.2.2.1.2.1] at g4
      rw [show cpS O 1 2 a1 a3 a4 = (1, oH O (cpH O.2.2.2 1 2 a1.toNatClampNeg a3.toNatClampNeg a4.toNatClampNeg)) from by unfold cpS; rw [if_neg n1, if_neg n2, if_pos n3, if_neg g3, if_neg g4]]
      obtain ⟨i, n, rfl, rfl, hin⟩ := hasV_ok hzs g3
      obtain ⟨j, n', rfl, en, hjn⟩ := hasV_ok hzt g4
      have e := (nI_eqI (by omega) (by omega)).mp en
      subst e
      rw [cl (show i < 2 ^ 31 by omega), cl (show j < 2 ^ 31 by omega), cl (show n < 2 ^ 31 by omega)]
      exact wp_gd (cpyok_n (by omega) (by omega) (by decide) (by decide)) (wp_some ⟨rfl, hk _, h.2.1, h.2.2.1, h.2.2.2.1, h.2.2.2.2.1, h.2.2.2.2.2.1, h.2.2.2.2.2.2.1, h.2.2.2.2.2.2.2.1, h.2.2.2.2.2.2.2.2.1, ⟨c.1, c.2.1, SH1_cp c.2.1 c.2.2.1 (by omega), c.2.2.2⟩⟩)
    · refine wp_neg (by decide) (wp_neg (by decide) (wp_neg (by decide) (wp_pos rfl (?_))))
      refine wp_ite (fun q => ?_) (fun q => ?_)
      · have g : (O.2.2.2 1).1 = -1 := c.2.1.1.symm.trans q
        rw [show cpS O 1 3 a1 a3 a4 = (-11, oN O 1) from if_pos g]; exact wp_bindE (show f_x_found v_latestFinding 1 = some (-11, 1) from rfl) (wp_some ⟨rfl, CR_N h 1⟩)
      have n1 : ¬ (O.2.2.2 1).1 = -1 := fun e => q (c.2.1.1.trans e)
      refine wp_ite (fun q => ?_) (fun q => ?_)
      · have g : (O.2.2.2 3).1 = -1 := c.2.2.2.1.symm.trans q
        rw [show cpS O 1 3 a1 a3 a4 = (-11, oN O 1) from by unfold cpS; rw [if_neg n1, if_pos g]]; exact wp_bindE (show f_x_found v_latestFinding 1 = some (-11, 1) from rfl) (wp_some ⟨rfl, CR_N h 1⟩)
      have n2 : ¬ (O.2.2.2 3).1 = -1 := fun e => q (c.2.2.2.1.trans e)
      refine wp_ite (fun q => ?_) (fun q => ?_)
      rotate_left
      · have g : ¬ (O.2.2.2 1).1 = (O.2.2.2 3).1 := fun e => q ((c.2.1.1.trans e).trans c.2.2.2.1.symm)
        rw [show cpS O 1 3 a1 a3 a4 = (-14, oN O 4) from by unfold cpS; rw [if_neg n1, if_neg n2, if_neg g]]; exact wp_bindE (show f_x_found v_latestFinding 4 = some (-14, 4) from rfl) (wp_some ⟨rfl, CR_N h 4⟩)
      have n3 : (O.2.2.2 1).1 = (O.2.2.2 3).1 := (c.2.1.1.symm.trans q).trans c.2.2.2.1
      refine wp_bindE (s_hasItems _ _ _) (wp_ite (fun g => ?_) (fun g3 => ?_))
      · rw [c.2.1.2.1] at g
        rw [show cpS O 1 3 a1 a3 a4 = (-12, oN O 2) from by unfold cpS; rw [if_neg n1, if_neg n2, if_pos n3, if_pos g]]; exact wp_bindE (show f_x_found v_latestFinding 2 = some (-12, 2) from rfl) (wp_some ⟨rfl, CR_N h 2⟩)
      rw [c.2.1.2.1] at g3
      refine wp_bindE (s_hasItems _ _ _) (wp_ite (fun g => ?_) (fun g4 => ?_))
      · rw [c.2.2.2.2.1] at g
        rw [show cpS O 1 3 a1 a3 a4 = (-12, oN O 2) from by unfold cpS; rw [if_neg n1, if_neg n2, if_pos n3, if_neg g3, if_pos g]]; exact wp_bindE (show f_x_found v_latestFinding 2 = some (-12, 2) from rfl) (wp_some ⟨rfl, CR_N h 2⟩)
      rw [c.2.2.2.2.1] at g4
      rw [show cpS O 1 3 a1 a3 a4 = (1, oH O (cpH O.2.2.2 1 3 a1.toNatClampNeg a3.toNatClampNeg a4.toNatClampNeg)) from by unfold cpS; rw [if_neg n1, if_neg n2, if_pos n3, if_neg g3, if_neg g4]]
      obtain ⟨i, n, rfl, rfl, hin⟩ := hasV_ok hzs g3
      obtain ⟨j, n', rfl, en, hjn⟩ := hasV_ok hzt g4
      have e := (nI_eqI (by omega) (by omega)).mp en
      subst e
      rw [cl (show i < 2 ^ 31 by omega), cl (show j < 2 ^ 31 by omega), cl (show n < 2 ^ 31 by omega)]
      exact wp_gd (cpyok_n (by omega) (by omega) (by decide) (by decide)) (wp_some ⟨rfl, hk _, h.2.1, h.2.2.1, h.2.2.2.1, h.2.2.2.2.1, h.2.2.2.2.2.1, h.2.2.2.2.2.2.1, h.2.2.2.2.2.2.2.1, h.2.2.2.2.2.2.2.2.1, ⟨c.1, c.2.1, c.2.2.1, SH1_cp c.2.1 c.2.2.2 (by omega)⟩⟩)
  · refine wp_neg (by decide) (wp_neg (by decide) (wp_pos rfl (?_)))
    rcases s_4 ht with rfl | rfl | rfl | rfl
    · refine wp_pos rfl (?_)
      refine wp_ite (fun q => ?_) (fun q => ?_)
      · have g : (O.2.2.2 2).1 = -1 := c.2.2.1.1.symm.trans q
        rw [show cpS O 2 0 a1 a3 a4 = (-11, oN O 1) from if_pos g]; exact wp_bindE (show f_x_found v_latestFinding 1 = some (-11, 1) from rfl) (wp_some ⟨rfl, CR_N h 1⟩)
      have n1 : ¬ (O.2.2.2 2).1 = -1 := fun e => q (c.2.2.1.1.trans e)
      refine wp_ite (fun q => ?_) (fun q => ?_)
      · have g : (O.2.2.2 0).1 = -1 := c.1.1.symm.trans q
        rw [show cpS O 2 0 a1 a3 a4 = (-11, oN O 1) from by unfold cpS; rw [if_neg n1, if_pos g]]; exact wp_bindE (show f_x_found v_latestFinding 1 = some (-11, 1) from rfl) (wp_some ⟨rfl, CR_N h 1⟩)
      have n2 : ¬ (O.2.2.2 0).1 = -1 := fun e => q (c.1.1.trans e)
      refine wp_ite (fun q => ?_) (fun q => ?_)
      rotate_left
      · have g : ¬ (O.2.2.2 2).1 = (O.2.2.2 0).1 := fun e => q ((c.2.2.1.1.trans e).trans c.1.1.symm)
        rw [show cpS O 2 0 a1 a3 a4 = (-14, oN O 4) from by unfold cpS; rw [if_neg n1, if_neg n2, if_neg g]]; exact wp_bindE (show f_x_found v_latestFinding 4 = some (-14, 4) from rfl) (wp_some ⟨rfl, CR_N h 4⟩)
      have n3 : (O.2.2.2 2).1 = (O.2.2.2 0).1 := (c.2.2.1.1.symm.trans q).trans c.1.1
      refine wp_bindE (s_hasItems _ _ _) (wp_ite (fun g => ?_) (fun g3 => ?_))
      · rw [c.2.2.1.2.1] at g
        rw [show cpS O 2 0 a1 a3 a4 = (-12, oN O 2) from by unfold cpS; rw [if_neg n1, if_neg n2, if_pos n3, if_pos g]]; exact wp_bindE (show f_x_found v_latestFinding 2 = some (-12, 2) from rfl) (wp_some ⟨rfl, CR_N h 2⟩)
      rw [c.2.2.1.2.1] at g3
      refine wp_bindE (s_hasItems _ _ _) (wp_ite (fun g => ?_) (fun g4 => ?_))
      · rw [c.1.2.1] at g
        rw [show cpS O 2 0 a1 a3 a4 = (-12, oN O 2) from by unfold cpS; rw [if_neg n1, if_neg n2, if_pos n3, if_neg g3, if_pos g]]; exact wp_bindE (show f_x_found v_latestFinding 2 = some (-12, 2) from rfl) (wp_some ⟨rfl, CR_N h 2⟩)
      rw [c.1.2.1] at g4
      rw [show cpS O 2 0 a1 a3 a4 = (1, oH O (cpH O.2.2.2 2 0 a1.toNatClampNeg a3.toNatClampNeg a4.toNatClampNeg)) from by unfold cpS; rw [if_neg n1, if_neg n2, if_pos n3, if_neg g3, if_neg g4]]
      obtain ⟨i, n, rfl, rfl, hin⟩ := hasV_ok hzs g3
      obtain ⟨j, n', rfl, en, hjn⟩ := hasV_ok hzt g4
      have e := (nI_eqI (by omega) (by omega)).mp en
      subst e
      rw [cl (show i < 2 ^ 31 by omega), cl (show j < 2 ^ 31 by omega), cl (show n < 2 ^ 31 by omega)]
      exact wp_gd (cpyok_n (by omega) (by omega) (by decide) (by decide)) (wp_some ⟨rfl, hk _, h.2.1, h.2.2.1, h.2.2.2.1, h.2.2.2.2.1, h.2.2.2.2.2.1, h.2.2.2.2.2.2.1, h.2.2.2.2.2.2.2.1, h.2.2.2.2.2.2.2.2.1, ⟨SH1_cp c.2.2.1 c.1 (by omega), c.2.1, c.2.2.1, c.2.2.2⟩⟩)
    · refine wp_neg (by decide) (wp_pos rfl (?_))
      refine wp_ite (fun q => ?_) (fun q => ?_)
      · have g : (O.2.2.2 2).1 = -1 := c.2.2.1.1.symm.trans q
        rw [show cpS O 2 1 a1 a3 a4 = (-11, oN O 1) from if_pos g]; exact wp_bindE (show f_x_found v_latestFinding 1 = some (-11, 1) from rfl) (wp_some ⟨rfl, CR_N h 1⟩)
      have n1 : ¬ (O.2.2.2 2).1 = -1 := fun e => q (c.2.2.1.1.trans e)
      refine wp_ite (fun q => ?_) (fun q => ?_)
      · have g : (O.2.2.2 1).1 = -1 := c.2.1.1.symm.trans q
        rw [show cpS O 2 1 a1 a3 a4 = (-11, oN O 1) from by unfold cpS; rw [if_neg n1, if_pos g]]; exact wp_bindE (show f_x_found v_latestFinding 1 = some (-11, 1) from rfl) (wp_some ⟨rfl, CR_N h 1⟩)
      have n2 : ¬ (O.2.2.2 1).1 = -1 := fun e => q (c.2.1.1.trans e)
      refine wp_ite (fun q => ?_) (fun q => ?_)
      rotate_left
      · have g : ¬ (O.2.2.2 2).1 = (O.2.2.2 1).1 := fun e => q ((c.2.2.1.1.trans e).trans c.2.1.1.symm)
        rw [show cpS O 2 1 a1 a3 a4 = (-14, oN O 4) from by unfold cpS; rw [if_neg n1, if_neg n2, if_neg g]]; exact wp_bindE (show f_x_found v_latestFinding 4 = some (-14, 4) from rfl) (wp_some ⟨rfl, CR_N h 4⟩)
      have n3 : (O.2.2.2 2).1 = (O.2.2.2 1).1 := (c.2.2.1.1.symm.trans q).trans c.2.1.1
      refine wp_bindE (s_hasItems _ _ _) (wp_ite (fun g => ?_) (fun g3 => ?_))
      · rw [c.2.2.1.2.1] at g
        rw [show cpS O 2 1 a1 a3 a4 = (-12, oN O 2) from by unfold cpS; rw [if_neg n1, if_neg n2, if_pos n3, if_pos g]]; exact wp_bindE (show f_x_found v_latestFinding 2 = some (-12, 2) from rfl) (wp_some ⟨rfl, CR_N h 2⟩)
      rw [c.2.2.1.2.1] at g3
      refine wp_bindE (s_hasItems _ _ _) (wp_ite (fun g => ?_) (fun g4 => ?_))
      · rw [c.2.1.2.1] at g
        rw [show cpS O 2 1 a1 a3 a4 = (-12, oN O 2) from by unfold cpS; rw [if_neg n1, if_neg n2, if_pos n3, if_neg g3, if_pos g]]; exact wp_bindE (show f_x_found v_latestFinding 2 = some (-12, 2) from rfl) (wp_some ⟨rfl, CR_N h 2⟩)
      rw [c.2.1.2.1] at g4
      rw [show cpS O 2 1 a1 a3 a4 = (1, oH O (cpH O.2.2.2 2 1 a1.toNatClampNeg a3.toNatClampNeg a4.toNatClampNeg)) from by unfold cpS; rw [if_neg n1, if_neg n2, if_pos n3, if_neg g3, if_neg g4]]
      obtain ⟨i, n, rfl, rfl, hin⟩ := hasV_ok hzs g3
      obtain ⟨j, n', rfl, en, hjn⟩ := hasV_ok hzt g4
      have e := (nI_eqI (by omega) (by omega)).mp en
      subst e
      rw [cl (show i < 2 ^ 31 by omega), cl (show j < 2 ^ 31 by omega), cl (show n < 2 ^ 31 by omega)]
      exact wp_gd (cpyok_n (by omega) (by omega) (by decide) (by decide)) (wp_some ⟨rfl, hk _, h.2.1, h.2.2.1, h.2.2.2.1, h.2.2.2.2.1, h.2.2.2.2.2.1, h.2.2.2.2.2.2.1, h.2.2.2.2.2.2.2.1, h.2.2.2.2.2.2.2.2.1, ⟨c.1, SH1_cp c.2.2.1 c.2.1 (by omega), c.2.2.1, c.2.2.2⟩⟩)
    · refine wp_neg (by decide) (wp_neg (by decide) (wp_pos rfl (?_)))
      refine wp_ite (fun q => ?_) (fun q => ?_)
      · have g : (O.2.2.2 2).1 = -1 := c.2.2.1.1.symm.trans q
        rw [show cpS O 2 2 a1 a3 a4 = (-11, oN O 1) from if_pos g]; exact wp_bindE (show f_x_found v_latestFinding 1 = some (-11, 1) from rfl) (wp_some ⟨rfl, CR_N h 1⟩)
      have n1 : ¬ (O.2.2.2 2).1 = -1 := fun e => q (c.2.2.1.1.trans e)
      refine wp_ite (fun q => ?_) (fun q => ?_)
      · have g : (O.2.2.2 2).1 = -1 := c.2.2.1.1.symm.trans q
        rw [show cpS O 2 2 a1 a3 a4 = (-11, oN O 1) from by unfold cpS; rw [if_neg n1, if_pos g]]; exact wp_bindE (show f_x_found v_latestFinding 1 = some (-11, 1) from rfl) (wp_some ⟨rfl, CR_N h 1⟩)
      have n2 : ¬ (O.2.2.2 2).1 = -1 := fun e => q (c.2.2.1.1.trans e)
      refine wp_ite (fun q => ?_) (fun q => ?_)
      rotate_left
      · have g : ¬ (O.2.2.2 2).1 = (O.2.2.2 2).1 := fun e => q ((c.2.2.1.1.trans e).trans c.2.2.1.1.symm)
        rw [show cpS O 2 2 a1 a3 a4 = (-14, oN O 4) from by unfold cpS; rw [if_neg n1, if_neg n2, if_neg g]]; exact wp_bindE (show f_x_found v_latestFinding 4 = some (-14, 4) from rfl) (wp_some ⟨rfl, CR_N h 4⟩)
      have n3 : (O.2.2.2 2).1 = (O.2.2.2 2).1 := (c.2.2.1.1.symm.trans q).trans c.2.2.1.1
      refine wp_bindE (s_hasItems _ _ _) (wp_ite (fun g => ?_) (fun g3 => ?_))
      · rw [c.2.2.1.2.1] at g
        rw [show cpS O 2 2 a1 a3 a4 = (-12, oN O 2) from by unfold cpS; rw [if_neg n1, if_neg n2, if_pos n3, if_pos g]]; exact wp_bindE (show f_x_found v_latestFinding 2 = some (-12, 2) from rfl) (wp_some ⟨rfl, CR_N h 2⟩)
      rw [c.2.2.1.2.1] at g3
      refine wp_bindE (s_hasItems _ _ _) (wp_ite (fun g => ?_) (fun g4 => ?_))
      · rw [c.2.2.1.2.1] at g
        rw [show cpS O 2 2 a1 a3 a4 = (-12, oN O 2) from by unfold cpS; rw [if_neg n1, if_neg n2, if_pos n3, if_neg g3, if_pos g]]; exact wp_bindE (show f_x_found v_latestFinding 2 = some (-12, 2) from rfl) (wp_some ⟨rfl, CR_N h 2⟩)
      rw [c.2.2.1.2.1] at g4
      rw [show cpS O 2 2 a1 a3 a4 = (1, oH O (cpH O.2.2.2 2 2 a1.toNatClampNeg a3.toNatClampNeg a4.toNatClampNeg)) from by unfold cpS; rw [if_neg n1, if_neg n2, if_pos n3, if_neg g3, if_neg g4]]
      obtain ⟨i, n, rfl, rfl, hin⟩ := hasV_ok hzs g3
      obtain ⟨j, n', rfl, en, hjn⟩ := hasV_ok hzt g4
      have e := (nI_eqI (by omega) (by omega)).mp en
      subst e
      rw [cl (show i < 2 ^ 31 by omega), cl (show j < 2 ^ 31 by omega), cl (show n < 2 ^ 31 by omega)]
      exact wp_gd (cpyok_n (by omega) (by omega) (by decide) (by decide)) (wp_some ⟨rfl, hk _, h.2.1, h.2.2.1, h.2.2.2.1, h.2.2.2.2.1, h.2.2.2.2.2.1, h.2.2.2.2.2.2.1, h.2.2.2.2.2.2.2.1, h.2.2.2.2.2.2.2.2.1, ⟨c.1, c.2.1, SH1_cp c.2.2.1 c.2.2.1 (by omega), c.2.2.2⟩⟩)
    · refine wp_neg (by decide) (wp_neg (by decide) (wp_neg (by decide) (wp_pos rfl (?_))))
      refine wp_ite (fun q => ?_) (fun q => ?_)
      · have g : (O.2.2.2 2).1 = -1 := c.2.2.1.1.symm.trans q
        rw [show cpS O 2 3 a1 a3 a4 = (-11, oN O 1) from if_pos g]; exact wp_bindE (show f_x_found v_latestFinding 1 = some (-11, 1) from rfl) (wp_some ⟨rfl, CR_N h 1⟩)
      have n1 : ¬ (O.2.2.2 2).1 = -1 := fun e => q (c.2.2.1.1.trans e)
      refine wp_ite (fun q => ?_) (fun q => ?_)
      · have g : (O.2.2.2 3).1 = -1 := c.2.2.2.1.symm.trans q
        rw [show cpS O 2 3 a1 a3 a4 = (-11, oN O 1) from by unfold cpS; rw [if_neg n1, if_pos g]]; exact wp_bindE (show f_x_found v_latestFinding 1 = some (-11, 1) from rfl) (wp_some ⟨rfl, CR_N h 1⟩)
      have n2 : ¬ (O.2.2.2 3).1 = -1 := fun e => q (c.2.2.2.1.trans e)
      refine wp_ite (fun q => ?_) (fun q => ?_)
      rotate_left
      · have g : ¬ (O.2.2.2 2).1 = (O.2.2.2 3).1 := fun e => q ((c.2.2.1.1.trans e).trans c.2.2.2.1.symm)
        rw [show cpS O 2 3 a1 a3 a4 = (-14, oN O 4) from by unfold cpS; rw [if_neg n1, if_neg n2, if_neg g]]; exact wp_bindE (show f_x_found v_latestFinding 4 = some (-14, 4) from rfl) (wp_some ⟨rfl, CR_N h 4⟩)
      have n3 : (O.2.2.2 2).1 = (O.2.2.2 3).1 := (c.2.2.1.1.symm.trans q).trans c.2.2.2.1
      refine wp_bindE (s_hasItems _ _ _) (wp_ite (fun g => ?_) (fun g3 => ?_))
      · rw [c.2.2.1.2.1] at g
        rw [show cpS O 2 3 a1 a3 a4 = (-12, oN O 2) from by unfold cpS; rw [if_neg n1, if_neg n2, if_pos n3, if_pos g]]; exact wp_bindE (show f_x_found v_latestFinding 2 = some (-12, 2) from rfl) (wp_some ⟨rfl, CR_N h 2⟩)
      rw [c.2.2.1.2.1] at g3
      refine wp_bindE (s_hasItems _ _ _) (wp_ite (fun g => ?_) (fun g4 => ?_))
      · rw [c.2.2.2.2.1] at g
        rw [show cpS O 2 3 a1 a3 a4 = (-12, oN O 2) from by unfold cpS; rw [if_neg n1, if_neg n2, if_pos n3, if_neg g3, if_pos g]]; exact wp_bindE (show f_x_found v_latestFinding 2 = some (-12, 2) from rfl) (wp_some ⟨rfl, CR_N h 2⟩)
      rw [c.2.2.2.2.1] at g4
      rw [show cpS O 2 3 a1 a3 a4 = (1, oH O (cpH O.2.2.2 2 3 a1.toNatClampNeg a3.toNatClampNeg a4.toNatClampNeg)) from by unfold cpS; rw [if_neg n1, if_neg n2, if_pos n3, if_neg g3, if_neg g4]]
      obtain ⟨i, n, rfl, rfl, hin⟩ := hasV_ok hzs g3
      obtain ⟨j, n', rfl, en, hjn⟩ := hasV_ok hzt g4
      have e := (nI_eqI (by omega) (by omega)).mp en
      subst e
      rw [cl (show i < 2 ^ 31 by omega), cl (show j < 2 ^ 31 by omega), cl (show n < 2 ^ 31 by omega)]
      exact wp_gd (cpyok_n (by omega) (by omega) (by decide) (by decide)) (wp_some ⟨rfl, hk _, h.2.1, h.2.2.1, h.2.2.2.1, h.2.2.2.2.1, h.2.2.2.2.2.1, h.2.2.2.2.2.2.1, h.2.2.2.2.2.2.2.1, h.2.2.2.2.2.2.2.2.1, ⟨c.1, c.2.1, c.2.2.1, SH1_cp c.2.2.1 c.2.2.2 (by omega)⟩⟩)
  · refine wp_neg (by decide) (wp_neg (by decide) (wp_neg (by decide) (wp_pos rfl (?_))))
    rcases s_4 ht with rfl | rfl | rfl | rfl
    · refine wp_pos rfl (?_)
      refine wp_ite (fun q => ?_) (fun q => ?_)
      · have g : (O.2.2.2 3).1 = -1 := c.2.2.2.1.symm.trans q
        rw [show cpS O 3 0 a1 a3 a4 = (-11, oN O 1) from if_pos g]; exact wp_bindE (show f_x_found v_latestFinding 1 = some (-11, 1) from rfl) (wp_some ⟨rfl, CR_N h 1⟩)
      have n1 : ¬ (O.2.2.2 3).1 = -1 := fun e => q (c.2.2.2.1.trans e)
      refine wp_ite (fun q => ?_) (fun q => ?_)
      · have g : (O.2.2.2 0).1 = -1 := c.1.1.symm.trans q
        rw [show cpS O 3 0 a1 a3 a4 = (-11, oN O 1) from by unfold cpS; rw [if_neg n1, if_pos g]]; exact wp_bindE (show f_x_found v_latestFinding 1 = some (-11, 1) from rfl) (wp_some ⟨rfl, CR_N h 1⟩)
      have n2 : ¬ (O.2.2.2 0).1 = -1 := fun e => q (c.1.1.trans e)
      refine wp_ite (fun q => ?_) (fun q => ?_)
      rotate_left
      · have g : ¬ (O.2.2.2 3).1 = (O.2.2.2 0).1 := fun e => q ((c.2.2.2.1.trans e).trans c.1.1.symm)
        rw [show cpS O 3 0 a1 a3 a4 = (-14, oN O 4) from by unfold cpS; rw [if_neg n1, if_neg n2, if_neg g]]; exact wp_bindE (show f_x_found v_latestFinding 4 = some (-14, 4) from rfl) (wp_some ⟨rfl, CR_N h 4⟩)
      have n3 : (O.2.2.2 3).1 = (O.2.2.2 0).1 := (c.2.2.2.1.symm.trans q).trans c.1.1
      refine wp_bindE (s_hasItems _ _ _) (wp_ite (fun g => ?_) (fun g3 => ?_))
      · rw [c.2.2.2.2.1] at g
        rw [show cpS O 3 0 a1 a3 a4 = (-12, oN O 2) from by unfold cpS; rw [if_neg n1, if_neg n2, if_pos n3, if_pos g]]; exact wp_bindE (show f_x_found v_latestFinding 2 = some (-12, 2) from rfl) (wp_some ⟨rfl, CR_N h 2⟩)
      rw [c.2.2.2.2.1] at g3
      refine wp_bindE (s_hasItems _ _ _) (wp_ite (fun g => ?_) (fun g4 => ?_))
      · rw [c.1.2.1] at g
        rw [show cpS O 3 0 a1 a3 a4 = (-12, oN O 2) from by unfold cpS; rw [if_neg n1, if_neg n2, if_pos n3, if_neg g3, if_pos g]]; exact wp_bindE (show f_x_found v_latestFinding 2 = some (-12, 2) from rfl) (wp_some ⟨rfl, CR_N h 2⟩)
      rw [c.1.2.1] at g4
      rw [show cpS O 3 0 a1 a3 a4 = (1, oH O (cpH O.2.2.2 3 0 a1.toNatClampNeg a3.toNatClampNeg a4.toNatClampNeg)) from by unfold cpS; rw [if_neg n1, if_neg n2, if_pos n3, if_neg g3, if_neg g4]]
      obtain ⟨i, n, rfl, rfl, hin⟩ := hasV_ok hzs g3
      obtain ⟨j, n', rfl, en, hjn⟩ := hasV_ok hzt g4
      have e := (nI_eqI (by omega) (by omega)).mp en
      subst e
      rw [cl (show i < 2 ^ 31 by omega), cl (show j < 2 ^ 31 by omega), cl (show n < 2 ^ 31 by omega)]
      exact wp_gd (cpyok_n (by omega) (by omega) (by decide) (by decide)) (wp_some ⟨rfl, hk _, h.2.1, h.2.2.1, h.2.2.2.1, h.2.2.2.2.1, h.2.2.2.2.2.1, h.2.2.2.2.2.2.1, h.2.2.2.2.2.2.2.1, h.2.2.2.2.2.2.2.2.1, ⟨SH1_cp c.2.2.2 c.1 (by omega), c.2.1, c.2.2.1, c.2.2.2⟩⟩)
    · refine wp_neg (by decide) (wp_pos rfl (?_))
      refine wp_ite (fun q => ?_) (fun q => ?_)
      · have g : (O.2.2.2 3).1 = -1 := c.2.2.2.1.symm.trans q
        rw [show cpS O 3 1 a1 a3 a4 = (-11, oN O 1) from if_pos g]; exact wp_bindE (show f_x_found v_latestFinding 1 = some (-11, 1) from rfl) (wp_some ⟨rfl, CR_N h 1⟩)
      have n1 : ¬ (O.2.2.2 3).1 = -1 := fun e => q (c.2.2.2.1.trans e)
      refine wp_ite (fun q => ?_) (fun q => ?_)
      · have g : (O.2.2.2 1).1 = -1 := c.2.1.1.symm.trans q
        rw [show cpS O 3 1 a1 a3 a4 = (-11, oN O 1) from by unfold cpS; rw [if_neg n1, if_pos g]]; exact wp_bindE (show f_x_found v_latestFinding 1 = some (-11, 1) from rfl) (wp_some ⟨rfl, CR_N h 1⟩)
      have n2 : ¬ (O.2.2.2 1).1 = -1 := fun e => q (c.2.1.1.trans e)
      refine wp_ite (fun q => ?_) (fun q => ?_)
      rotate_left
      · have g : ¬ (O.2.2.2 3).1 = (O.2.2.2 1).1 := fun e => q ((c.2.2.2.1.trans e).trans c.2.1.1.symm)
        rw [show cpS O 3 1 a1 a3 a4 = (-14, oN O 4) from by unfold cpS; rw [if_neg n1, if_neg n2, if_neg g]]; exact wp_bindE (show f_x_found v_latestFinding 4 = some (-14, 4) from rfl) (wp_some ⟨rfl, CR_N h 4⟩)
      have n3 : (O.2.2.2 3).1 = (O.2.2.2 1).1 := (c.2.2.2.1.symm.trans q).trans c.2.1.1
      refine wp_bindE (s_hasItems _ _ _) (wp_ite (fun g => ?_) (fun g3 => ?_))
      · rw [c.2.2.2.2.1] at g
        rw [show cpS O 3 1 a1 a3 a4 = (-12, oN O 2) from by unfold cpS; rw [if_neg n1, if_neg n2, if_pos n3, if_pos g]]; exact wp_bindE (show f_x_found v_latestFinding 2 = some (-12, 2) from rfl) (wp_some ⟨rfl, CR_N h 2⟩)
      rw [c.2.2.2.2.1] at g3
      refine wp_bindE (s_hasItems _ _ _) (wp_ite (fun g => ?_) (fun g4 => ?_))
      · rw [c.2.1.2.1] at g
        rw [show cpS O 3 1 a1 a3 a4 = (-12, oN O 2) from by unfold cpS; rw [if_neg n1, if_neg n2, if_pos n3, if_neg g3, if_pos g]]; exact wp_bindE (show f_x_found v_latestFinding 2 = some (-12, 2) from rfl) (wp_some ⟨rfl, CR_N h 2⟩)
      rw [c.2.1.2.1] at g4
      rw [show cpS O 3 1 a1 a3 a4 = (1, oH O (cpH O.2.2.2 3 1 a1.toNatClampNeg a3.toNatClampNeg a4.toNatClampNeg)) from by unfold cpS; rw [if_neg n1, if_neg n2, if_pos n3, if_neg g3, if_neg g4]]
      obtain ⟨i, n, rfl, rfl, hin⟩ := hasV_ok hzs g3
      obtain ⟨j, n', rfl, en, hjn⟩ := hasV_ok hzt g4
      have e := (nI_eqI (by omega) (by omega)).mp en
      subst e
      rw [cl (show i < 2 ^ 31 by omega), cl (show j < 2 ^ 31 by omega), cl (show n < 2 ^ 31 by omega)]
      exact wp_gd (cpyok_n (by omega) (by omega) (by decide) (by decide)) (wp_some ⟨rfl, hk _, h.2.1, h.2.2.1, h.2.2.2.1, h.2.2.2.2.1, h.2.2.2.2.2.1, h.2.2.2.2.2.2.1, h.2.2.2.2.2.2.2.1, h.2.2.2.2.2.2.2.2.1, ⟨c.1, SH1_cp c.2.2.2 c.2.1 (by omega), c.2.2.1, c.2.2.2⟩⟩)
    · refine wp_neg (by decide) (wp_neg (by decide) (wp_pos rfl (?_)))
      refine wp_ite (fun q => ?_) (fun q => ?_)
      · have g : (O.2.2.2 3).1 = -1 := c.2.2.2.1.symm.trans q
        rw [show cpS O 3 2 a1 a3 a4 = (-11, oN O 1) from if_pos g]; exact wp_bindE (show f_x_found v_latestFinding 1 = some (-11, 1) from rfl) (wp_some ⟨rfl, CR_N h 1⟩)
      have n1 : ¬ (O.2.2.2 3).1 = -1 := fun e => q (c.2.2.2.1.trans e)
      refine wp_ite (fun q => ?_) (fun q => ?_)
      · have g : (O.2.2.2 2).1 = -1 := c.2.2.1.1.symm.trans q
        rw [show cpS O 3 2 a1 a3 a4 = (-11, oN O 1) from by unfold cpS; rw [if_neg n1, if_pos g]]; exact wp_bindE (show f_x_found v_latestFinding 1 = some (-11, 1) from rfl) (wp_some ⟨rfl, CR_N h 1⟩)
      have n2 : ¬ (O.2.2.2 2).1 = -1 := fun e => q (c.2.2.1.1.trans e)
      refine wp_ite (fun q => ?_) (fun q => ?_)
      rotate_left
      · have g : ¬ (O.2.2.2 3).1 = (O.2.2.2 2).1 := fun e => q ((c.2.2.2.1.trans e).trans c.2.2.1.1.symm)
        rw [show cpS O 3 2 a1 a3 a4 = (-14, oN O 4) from by unfold cpS; rw [if_neg n1, if_neg n2, if_neg g]]; exact wp_bindE (show f_x_found v_latestFinding 4 = some (-14, 4) from rfl) (wp_some ⟨rfl, CR_N h 4⟩)
      have n3 : (O.2.2.2 3).1 = (O.2.2.2 2).1 := (c.2.2.2.1.symm.trans q).trans c.2.2.1.1
      refine wp_bindE (s_hasItems _ _ _) (wp_ite (fun g => ?_) (fun g3 => ?_))
      · rw [c.2.2.2.2.1] at g
        rw [show cpS O 3 2 a1 a3 a4 = (-12, oN O 2) from by unfold cpS; rw [if_neg n1, if_neg n2, if_pos n3, if_pos g]]; exact wp_bindE (show f_x_found v_latestFinding 2 = some (-12, 2) from rfl) (wp_some ⟨rfl, CR_N h 2⟩)
      rw [c.2.2.2.2.1] at g3
      refine wp_bindE (s_hasItems _ _ _) (wp_ite (fun g => ?_) (fun g4 => ?_))
      · rw [c.2.2.1.2.1] at g
        rw [show cpS O 3 2 a1 a3 a4 = (-12, oN O 2) from by unfold cpS; rw [if_neg n1, if_neg n2, if_pos n3, if_neg g3, if_pos g]]; exact wp_bindE (show f_x_found v_latestFinding 2 = some (-12, 2) from rfl) (wp_some ⟨rfl, CR_N h 2⟩)
      rw [c.2.2.1.2.1] at g4
      rw [show cpS O 3 2 a1 a3 a4 = (1, oH O (cpH O.2.2.2 3 2 a1.toNatClampNeg a3.toNatClampNeg a4.toNatClampNeg)) from by unfold cpS; rw [if_neg n1, if_neg n2, if_pos n3, if_neg g3, if_neg g4]]
      obtain ⟨i, n, rfl, rfl, hin⟩ := hasV_ok hzs g3
      obtain ⟨j, n', rfl, en, hjn⟩ := hasV_ok hzt g4
      have e := (nI_eqI (by omega) (by omega)).mp en
      subst e
      rw [cl (show i < 2 ^ 31 by omega), cl (show j < 2 ^ 31 by omega), cl (show n < 2 ^ 31 by omega)]
      exact wp_gd (cpyok_n (by omega) (by omega) (by decide) (by decide)) (wp_some ⟨rfl, hk _, h.2.1, h.2.2.1, h.2.2.2.1, h.2.2.2.2.1, h.2.2.2.2.2.1, h.2.2.2.2.2.2.1, h.2.2.2.2.2.2.2.1, h.2.2.2.2.2.2.2.2.1, ⟨c.1, c.2.1, SH1_cp c.2.2.2 c.2.2.1 (by omega), c.2.2.2⟩⟩)
    · refine wp_neg (by decide) (wp_neg (by decide) (wp_neg (by decide) (wp_pos rfl (?_))))
      refine wp_ite (fun q => ?_) (fun q => ?_)
      · have g : (O.2.2.2 3).1 = -1 := c.2.2.2.1.symm.trans q
        rw [show cpS O 3 3 a1 a3 a4 = (-11, oN O 1) from if_pos g]; exact wp_bindE (show f_x_found v_latestFinding 1 = some (-11, 1) from rfl) (wp_some ⟨rfl, CR_N h 1⟩)
      have n1 : ¬ (O.2.2.2 3).1 = -1 := fun e => q (c.2.2.2.1.trans e)
      refine wp_ite (fun q => ?_) (fun q => ?_)
      · have g : (O.2.2.2 3).1 = -1 := c.2.2.2.1.symm.trans q
        rw [show cpS O 3 3 a1 a3 a4 = (-11, oN O 1) from by unfold cpS; rw [if_neg n1, if_pos g]]; exact wp_bindE (show f_x_found v_latestFinding 1 = some (-11, 1) from rfl) (wp_some ⟨rfl, CR_N h 1⟩)
      have n2 : ¬ (O.2.2.2 3).1 = -1 := fun e => q (c.2.2.2.1.trans e)
      refine wp_ite (fun q => ?_) (fun q => ?_)
      rotate_left
      · have g : ¬ (O.2.2.2 3).1 = (O.2.2.2 3).1 := fun e => q ((c.2.2.2.1.trans e).trans c.2.2.2.1.symm)
        rw [show cpS O 3 3 a1 a3 a4 = (-14, oN O 4) from by unfold cpS; rw [if_neg n1, if_neg n2, if_neg g]]; exact wp_bindE (show f_x_found v_latestFinding 4 = some (-14, 4) from rfl) (wp_some ⟨rfl, CR_N h 4⟩)
      have n3 : (O.2.2.2 3).1 = (O.2.2.2 3).1 := (c.2.2.2.1.symm.trans q).trans c.2.2.2.1
      refine wp_bindE (s_hasItems _ _ _) (wp_ite (fun g => ?_) (fun g3 => ?_))
      · rw [c.2.2.2.2.1] at g
        rw [show cpS O 3 3 a1 a3 a4 = (-12, oN O 2) from by unfold cpS; rw [if_neg n1, if_neg n2, if_pos n3, if_pos g]]; exact wp_bindE (show f_x_found v_latestFinding 2 = some (-12, 2) from rfl) (wp_some ⟨rfl, CR_N h 2⟩)
      rw [c.2.2.2.2.1] at g3
      refine wp_bindE (s_hasItems _ _ _) (wp_ite (fun g => ?_) (fun g4 => ?_))
      · rw [c.2.2.2.2.1] at g
        rw [show cpS O 3 3 a1 a3 a4 = (-12, oN O 2) from by unfold cpS; rw [if_neg n1, if_neg n2, if_pos n3, if_neg g3, if_pos g]]; exact wp_bindE (show f_x_found v_latestFinding 2 = some (-12, 2) from rfl) (wp_some ⟨rfl, CR_N h 2⟩)
      rw [c.2.2.2.2.1] at g4
      rw [show cpS O 3 3 a1 a3 a4 = (1, oH O (cpH O.2.2.2 3 3 a1.toNatClampNeg a3.toNatClampNeg a4.toNatClampNeg)) from by unfold cpS; rw [if_neg n1, if_neg n2, if_pos n3, if_neg g3, if_neg g4]]
      obtain ⟨i, n, rfl, rfl, hin⟩ := hasV_ok hzs g3
      obtain ⟨j, n', rfl, en, hjn⟩ := hasV_ok hzt g4
      have e := (nI_eqI (by omega) (by omega)).mp en
      subst e
      rw [cl (show i < 2 ^ 31 by omega), cl (show j < 2 ^ 31 by omega), cl (show n < 2 ^ 31 by omega)]
      exact wp_gd (cpyok_n (by omega) (by omega) (by decide) (by decide)) (wp_some ⟨rfl, hk _, h.2.1, h.2.2.1, h.2.2.2.1, h.2.2.2.2.1, h.2.2.2.2.2.1, h.2.2.2.2.2.2.1, h.2.2.2.2.2.2.2.1, h.2.2.2.2.2.2.2.2.1, ⟨c.1, c.2.1, c.2.2.1, SH1_cp c.2.2.2 c.2.2.2 (by omega)⟩⟩)
theorem rdS_s (z : Nat) (it : Nat → Int32) (m n : Nat) (K : Kt) : rdS z it (m + 1) n K = if z ≤ 2 * n + 1 then (n, K) else if kFn K < 6 then (if mfr (it (2 * n)) (it (2 * n + 1)) = 0 then (n, K) else rdS z it m (n + 1) (tF K (kFn K + 1) (upd (kFy K) (kFn K) (it (2 * n))) (upd (kFf K) (kFn K) (it (2 * n + 1))))) else (n, K) := rfl
theorem x_read {O : Om} {v_toldIsStale v_latestFinding v_wallText_length : Int32} {v_wallText_bytes : Nat → Int32} {v_handsText_length : Int32} {v_handsText_bytes : Nat → Int32} {v_wall_courses v_wall_columns v_wall_fault v_wall_jump : Int32} {v_wall_stones : Nat → Int64} {v_hands_told v_hands_fault : Int32} {v_hands_mood v_hands_strong : Nat → Int32} {v_frosts_told : Int32} {v_frosts_year v_frosts_force : Nat → Int32} {v_gappings_told : Int32} {v_gappings_year v_gappings_column v_gappings_hand : Nat → Int32} {v_sights_told : Int32} {v_sights_year v_sights_place v_sights_setter : Nat → Int32} {v_sheets0_form v_sheets0_size : Int32} {v_sheets0_items : Nat → Int32} {v_sheets1_form v_sheets1_size : Int32} {v_sheets1_items : Nat → Int32} {v_sheets2_form v_sheets2_size : Int32} {v_sheets2_items : Nat → Int32} {v_sheets3_form v_sheets3_size : Int32} {v_sheets3_items : Nat → Int32} {v_told_losers : Int32} {v_told_stones v_told_standing : Nat → Int64} {v_told_open v_told_fallen : Nat → Int32} {a0 : Int32} (h : CR O v_toldIsStale v_latestFinding v_wallText_length v_wallText_bytes v_handsText_length v_handsText_bytes v_wall_courses v_wall_columns v_wall_fault v_wall_jump v_wall_stones v_hands_told v_hands_fault v_hands_mood v_hands_strong v_frosts_told v_frosts_year v_frosts_force v_gappings_told v_gappings_year v_gappings_column v_gappings_hand v_sights_told v_sights_year v_sights_place v_sights_setter v_sheets0_form v_sheets0_size v_sheets0_items v_sheets1_form v_sheets1_size v_sheets1_items v_sheets2_form v_sheets2_size v_sheets2_items v_sheets3_form v_sheets3_size v_sheets3_items v_told_losers v_told_stones v_told_standing v_told_open v_told_fallen) : wp (f_x_read v_toldIsStale v_latestFinding v_frosts_told v_frosts_year v_frosts_force v_sheets0_form v_sheets0_size v_sheets0_items v_sheets1_form v_sheets1_size v_sheets1_items v_sheets2_form v_sheets2_size v_sheets2_items v_sheets3_form v_sheets3_size v_sheets3_items a0) (fun r => r.1 = (sp_read O a0).1 ∧ CR ((sp_read O a0).2) r.2.1 r.2.2.1 v_wallText_length v_wallText_bytes v_handsText_length v_handsText_bytes v_wall_courses v_wall_columns v_wall_fault v_wall_jump v_wall_stones v_hands_told v_hands_fault v_hands_mood v_hands_strong r.2.2.2.1 r.2.2.2.2.1 r.2.2.2.2.2 v_gappings_told v_gappings_year v_gappings_column v_gappings_hand v_sights_told v_sights_year v_sights_place v_sights_setter v_sheets0_form v_sheets0_size v_sheets0_items v_sheets1_form v_sheets1_size v_sheets1_items v_sheets2_form v_sheets2_size v_sheets2_items v_sheets3_form v_sheets3_size v_sheets3_items v_told_losers v_told_stones v_told_standing v_told_open v_told_fallen) := by
  have hH := h.1.2.2
  have c := h.2.2.2.2.2.2.2.2.2
  unfold f_x_read sp_read
  refine wp_bindE (q_x_isSheet a0) (wp_ite (fun g => ?_) (fun g1 => ?_))
  · rw [if_pos g]; exact wp_some ⟨rfl, h⟩
  rw [if_neg g1]
  obtain ⟨s, hs, rfl⟩ := wi_nat 3 (by decide) g1
  rw [cl (show s < 2 ^ 31 by omega)]
  have hz := (hH s (by omega)).1
  have h6 := h.1.1.2.2.2.1.1
  rcases s_4 hs with rfl | rfl | rfl | rfl
  · refine wp_pos rfl (wp_ite (fun g => ?_) (fun g => ?_))
    · rw [c.1.1] at g
      rw [if_pos g]
      exact wp_bindE (show f_x_found v_latestFinding 1 = some (-11, 1) from rfl) (wp_some ⟨rfl, CR_N h 1⟩)
    · rw [c.1.1] at g
      rw [if_neg g]
      refine wl_x_read_N42_0 (fun m v_toldIsStale v_latestFinding v_frosts_told v_frosts_year v_frosts_force x3 x4 => v_latestFinding = O.2.2.1 ∧ x3 = nI (kFn O.1) ∧ ∃ n fy ff, n + m = 7 ∧ x4 = nI (2 * n) ∧ CK (oK O (tF O.1 (kFn O.1 + n) fy ff)) ∧ CIf (SK (tF O.1 (kFn O.1 + n) fy ff)) v_frosts_told v_frosts_year v_frosts_force ∧ rdS (O.2.2.2 0).2.1 (O.2.2.2 0).2.2 m n (tF O.1 (kFn O.1 + n) fy ff) = rdO O 0) ?_ 1000 7 _ _ _ _ _ _ _ (by decide) ⟨h.2.2.2.2.2.2.2.2.1, h.2.2.2.1.1, 0, kFy O.1, kFf O.1, rfl, rfl, h.1, h.2.2.2.1, rfl⟩
      rintro m k42 ih v_toldIsStale v_latestFinding v_frosts_told v_frosts_year v_frosts_force x3 x4 ⟨hfi, rfl, n, fy, ff, hnm, rfl, hck, hf, hrd⟩
      have hl : kFn O.1 + n ≤ 6 := hck.1.2.2.2.1.1
      have ht : v_frosts_told = nI (kFn O.1 + n) := hf.1
      subst ht
      cases m with
      | zero => omega
      | succ m =>
      have fin : rdO O 0 = (n, tF O.1 (kFn O.1 + n) fy ff) → wp (some (nI (kFn O.1 + n) - nI (kFn O.1), (1 : Int32), v_latestFinding, nI (kFn O.1 + n), v_frosts_year, v_frosts_force)) (fun r => r.1 = (nI (rdO O 0).1, oK O (rdO O 0).2).1 ∧ CR ((nI (rdO O 0).1, oK O (rdO O 0).2).2) r.2.1 r.2.2.1 v_wallText_length v_wallText_bytes v_handsText_length v_handsText_bytes v_wall_courses v_wall_columns v_wall_fault v_wall_jump v_wall_stones v_hands_told v_hands_fault v_hands_mood v_hands_strong r.2.2.2.1 r.2.2.2.2.1 r.2.2.2.2.2 v_gappings_told v_gappings_year v_gappings_column v_gappings_hand v_sights_told v_sights_year v_sights_place v_sights_setter v_sheets0_form v_sheets0_size v_sheets0_items v_sheets1_form v_sheets1_size v_sheets1_items v_sheets2_form v_sheets2_size v_sheets2_items v_sheets3_form v_sheets3_size v_sheets3_items v_told_losers v_told_stones v_told_standing v_told_open v_told_fallen) := by
        intro e
        rw [e, nI_subI (by omega)]
        refine wp_some ⟨congrArg nI (by omega), hck, h.2.1, h.2.2.1, hf, h.2.2.2.2.1, CT_1 _ _ _ _ _ _, h.2.2.2.2.2.2.1, h.2.2.2.2.2.2.2.1, hfi, c⟩
      rw [rdS_s] at hrd
      unfold f_x_read_N42_0 f_x_read_N119
      rw [show nI (2 * n) + 1 = nI (2 * n + 1) from (nI_succ _).symm]
      refine wp_ite (fun g3 => ?_) (fun g3 => ?_)
      · rw [c.1.2.1] at g3
        rw [if_pos ((nI_leX (by omega) (by omega)).mp g3)] at hrd
        exact fin hrd.symm
      rw [c.1.2.1] at g3
      have g4 : ¬ (O.2.2.2 0).2.1 ≤ 2 * n + 1 := fun q => g3 ((nI_leX (by omega) (by omega)).mpr q)
      rw [if_neg g4] at hrd
      refine wp_ite (fun g5 => ?_) (fun g5 => ?_)
      · have g6 : 6 ≤ kFn O.1 + n := (nI_leX (a := 6) (by decide) (by omega)).mp g5
        rw [if_neg (show ¬ kFn (tF O.1 (kFn O.1 + n) fy ff) < 6 from (by show ¬ kFn O.1 + n < 6; omega))] at hrd
        exact fin hrd.symm
      have g6 : ¬ 6 ≤ kFn O.1 + n := fun q => g5 ((nI_leX (a := 6) (by decide) (by omega)).mpr q)
      have g7 : kFn (tF O.1 (kFn O.1 + n) fy ff) < 6 := by show kFn O.1 + n < 6; omega
      rw [if_pos g7] at hrd
      rw [cl (show 2 * n < 2 ^ 31 by omega), cl (show 2 * n + 1 < 2 ^ 31 by omega), c.1.2.2 (2 * n) (by omega), c.1.2.2 (2 * n + 1) (by omega)]
      refine wp_gd (inbN (by omega) (by decide)) (wp_gd (inbN (by omega) (by decide)) (wp_bindE (q_mayBe _ _) (wp_ite (fun g8 => ?_) (fun g8 => ?_))))
      · rw [if_pos g8] at hrd
        exact fin hrd.symm
      rw [if_neg g8] at hrd
      refine wp_gd (inbN (by omega) (by decide)) (wp_gd (inbN (by omega) (by decide)) ?_)
      refine wp_bind (s_frAdd g7 hf _ _) (fun o ho => ?_)
      rw [show (2 : Int32) = nI 2 from rfl, nI_addI]
      exact ih m _ _ _ _ _ _ _ (by omega) ⟨hfi, rfl, n + 1, _, _, by omega, rfl, CK_F h.1 (by omega) (ff_up hck.1.2.2.2.1.2 (ff_ok (mfr_ok g8).2)), ho.2, hrd⟩
  · refine wp_neg (by decide) (wp_pos rfl (wp_ite (fun g => ?_) (fun g => ?_)))
    · rw [c.2.1.1] at g
      rw [if_pos g]
      exact wp_bindE (show f_x_found v_latestFinding 1 = some (-11, 1) from rfl) (wp_some ⟨rfl, CR_N h 1⟩)
    · rw [c.2.1.1] at g
      rw [if_neg g]
      refine wl_x_read_N42_1 (fun m v_toldIsStale v_latestFinding v_frosts_told v_frosts_year v_frosts_force x3 x4 => v_latestFinding = O.2.2.1 ∧ x3 = nI (kFn O.1) ∧ ∃ n fy ff, n + m = 7 ∧ x4 = nI (2 * n) ∧ CK (oK O (tF O.1 (kFn O.1 + n) fy ff)) ∧ CIf (SK (tF O.1 (kFn O.1 + n) fy ff)) v_frosts_told v_frosts_year v_frosts_force ∧ rdS (O.2.2.2 1).2.1 (O.2.2.2 1).2.2 m n (tF O.1 (kFn O.1 + n) fy ff) = rdO O 1) ?_ 1000 7 _ _ _ _ _ _ _ (by decide) ⟨h.2.2.2.2.2.2.2.2.1, h.2.2.2.1.1, 0, kFy O.1, kFf O.1, rfl, rfl, h.1, h.2.2.2.1, rfl⟩
      rintro m k42 ih v_toldIsStale v_latestFinding v_frosts_told v_frosts_year v_frosts_force x3 x4 ⟨hfi, rfl, n, fy, ff, hnm, rfl, hck, hf, hrd⟩
      have hl : kFn O.1 + n ≤ 6 := hck.1.2.2.2.1.1
      have ht : v_frosts_told = nI (kFn O.1 + n) := hf.1
      subst ht
      cases m with
      | zero => omega
      | succ m =>
      have fin : rdO O 1 = (n, tF O.1 (kFn O.1 + n) fy ff) → wp (some (nI (kFn O.1 + n) - nI (kFn O.1), (1 : Int32), v_latestFinding, nI (kFn O.1 + n), v_frosts_year, v_frosts_force)) (fun r => r.1 = (nI (rdO O 1).1, oK O (rdO O 1).2).1 ∧ CR ((nI (rdO O 1).1, oK O (rdO O 1).2).2) r.2.1 r.2.2.1 v_wallText_length v_wallText_bytes v_handsText_length v_handsText_bytes v_wall_courses v_wall_columns v_wall_fault v_wall_jump v_wall_stones v_hands_told v_hands_fault v_hands_mood v_hands_strong r.2.2.2.1 r.2.2.2.2.1 r.2.2.2.2.2 v_gappings_told v_gappings_year v_gappings_column v_gappings_hand v_sights_told v_sights_year v_sights_place v_sights_setter v_sheets0_form v_sheets0_size v_sheets0_items v_sheets1_form v_sheets1_size v_sheets1_items v_sheets2_form v_sheets2_size v_sheets2_items v_sheets3_form v_sheets3_size v_sheets3_items v_told_losers v_told_stones v_told_standing v_told_open v_told_fallen) := by
        intro e
        rw [e, nI_subI (by omega)]
        refine wp_some ⟨congrArg nI (by omega), hck, h.2.1, h.2.2.1, hf, h.2.2.2.2.1, CT_1 _ _ _ _ _ _, h.2.2.2.2.2.2.1, h.2.2.2.2.2.2.2.1, hfi, c⟩
      rw [rdS_s] at hrd
      unfold f_x_read_N42_1 f_x_read_N119
      rw [show nI (2 * n) + 1 = nI (2 * n + 1) from (nI_succ _).symm]
      refine wp_ite (fun g3 => ?_) (fun g3 => ?_)
      · rw [c.2.1.2.1] at g3
        rw [if_pos ((nI_leX (by omega) (by omega)).mp g3)] at hrd
        exact fin hrd.symm
      rw [c.2.1.2.1] at g3
      have g4 : ¬ (O.2.2.2 1).2.1 ≤ 2 * n + 1 := fun q => g3 ((nI_leX (by omega) (by omega)).mpr q)
      rw [if_neg g4] at hrd
      refine wp_ite (fun g5 => ?_) (fun g5 => ?_)
      · have g6 : 6 ≤ kFn O.1 + n := (nI_leX (a := 6) (by decide) (by omega)).mp g5
        rw [if_neg (show ¬ kFn (tF O.1 (kFn O.1 + n) fy ff) < 6 from (by show ¬ kFn O.1 + n < 6; omega))] at hrd
        exact fin hrd.symm
      have g6 : ¬ 6 ≤ kFn O.1 + n := fun q => g5 ((nI_leX (a := 6) (by decide) (by omega)).mpr q)
      have g7 : kFn (tF O.1 (kFn O.1 + n) fy ff) < 6 := by show kFn O.1 + n < 6; omega
      rw [if_pos g7] at hrd
      rw [cl (show 2 * n < 2 ^ 31 by omega), cl (show 2 * n + 1 < 2 ^ 31 by omega), c.2.1.2.2 (2 * n) (by omega), c.2.1.2.2 (2 * n + 1) (by omega)]
      refine wp_gd (inbN (by omega) (by decide)) (wp_gd (inbN (by omega) (by decide)) (wp_bindE (q_mayBe _ _) (wp_ite (fun g8 => ?_) (fun g8 => ?_))))
      · rw [if_pos g8] at hrd
        exact fin hrd.symm
      rw [if_neg g8] at hrd
      refine wp_gd (inbN (by omega) (by decide)) (wp_gd (inbN (by omega) (by decide)) ?_)
      refine wp_bind (s_frAdd g7 hf _ _) (fun o ho => ?_)
      rw [show (2 : Int32) = nI 2 from rfl, nI_addI]
      exact ih m _ _ _ _ _ _ _ (by omega) ⟨hfi, rfl, n + 1, _, _, by omega, rfl, CK_F h.1 (by omega) (ff_up hck.1.2.2.2.1.2 (ff_ok (mfr_ok g8).2)), ho.2, hrd⟩
  · refine wp_neg (by decide) (wp_neg (by decide) (wp_pos rfl (wp_ite (fun g => ?_) (fun g => ?_))))
    · rw [c.2.2.1.1] at g
      rw [if_pos g]
      exact wp_bindE (show f_x_found v_latestFinding 1 = some (-11, 1) from rfl) (wp_some ⟨rfl, CR_N h 1⟩)
    · rw [c.2.2.1.1] at g
      rw [if_neg g]
      refine wl_x_read_N42_2 (fun m v_toldIsStale v_latestFinding v_frosts_told v_frosts_year v_frosts_force x3 x4 => v_latestFinding = O.2.2.1 ∧ x3 = nI (kFn O.1) ∧ ∃ n fy ff, n + m = 7 ∧ x4 = nI (2 * n) ∧ CK (oK O (tF O.1 (kFn O.1 + n) fy ff)) ∧ CIf (SK (tF O.1 (kFn O.1 + n) fy ff)) v_frosts_told v_frosts_year v_frosts_force ∧ rdS (O.2.2.2 2).2.1 (O.2.2.2 2).2.2 m n (tF O.1 (kFn O.1 + n) fy ff) = rdO O 2) ?_ 1000 7 _ _ _ _ _ _ _ (by decide) ⟨h.2.2.2.2.2.2.2.2.1, h.2.2.2.1.1, 0, kFy O.1, kFf O.1, rfl, rfl, h.1, h.2.2.2.1, rfl⟩
      rintro m k42 ih v_toldIsStale v_latestFinding v_frosts_told v_frosts_year v_frosts_force x3 x4 ⟨hfi, rfl, n, fy, ff, hnm, rfl, hck, hf, hrd⟩
      have hl : kFn O.1 + n ≤ 6 := hck.1.2.2.2.1.1
      have ht : v_frosts_told = nI (kFn O.1 + n) := hf.1
      subst ht
      cases m with
      | zero => omega
      | succ m =>
      have fin : rdO O 2 = (n, tF O.1 (kFn O.1 + n) fy ff) → wp (some (nI (kFn O.1 + n) - nI (kFn O.1), (1 : Int32), v_latestFinding, nI (kFn O.1 + n), v_frosts_year, v_frosts_force)) (fun r => r.1 = (nI (rdO O 2).1, oK O (rdO O 2).2).1 ∧ CR ((nI (rdO O 2).1, oK O (rdO O 2).2).2) r.2.1 r.2.2.1 v_wallText_length v_wallText_bytes v_handsText_length v_handsText_bytes v_wall_courses v_wall_columns v_wall_fault v_wall_jump v_wall_stones v_hands_told v_hands_fault v_hands_mood v_hands_strong r.2.2.2.1 r.2.2.2.2.1 r.2.2.2.2.2 v_gappings_told v_gappings_year v_gappings_column v_gappings_hand v_sights_told v_sights_year v_sights_place v_sights_setter v_sheets0_form v_sheets0_size v_sheets0_items v_sheets1_form v_sheets1_size v_sheets1_items v_sheets2_form v_sheets2_size v_sheets2_items v_sheets3_form v_sheets3_size v_sheets3_items v_told_losers v_told_stones v_told_standing v_told_open v_told_fallen) := by
        intro e
        rw [e, nI_subI (by omega)]
        refine wp_some ⟨congrArg nI (by omega), hck, h.2.1, h.2.2.1, hf, h.2.2.2.2.1, CT_1 _ _ _ _ _ _, h.2.2.2.2.2.2.1, h.2.2.2.2.2.2.2.1, hfi, c⟩
      rw [rdS_s] at hrd
      unfold f_x_read_N42_2 f_x_read_N119
      rw [show nI (2 * n) + 1 = nI (2 * n + 1) from (nI_succ _).symm]
      refine wp_ite (fun g3 => ?_) (fun g3 => ?_)
      · rw [c.2.2.1.2.1] at g3
        rw [if_pos ((nI_leX (by omega) (by omega)).mp g3)] at hrd
        exact fin hrd.symm
      rw [c.2.2.1.2.1] at g3
      have g4 : ¬ (O.2.2.2 2).2.1 ≤ 2 * n + 1 := fun q => g3 ((nI_leX (by omega) (by omega)).mpr q)
      rw [if_neg g4] at hrd
      refine wp_ite (fun g5 => ?_) (fun g5 => ?_)
      · have g6 : 6 ≤ kFn O.1 + n := (nI_leX (a := 6) (by decide) (by omega)).mp g5
        rw [if_neg (show ¬ kFn (tF O.1 (kFn O.1 + n) fy ff) < 6 from (by show ¬ kFn O.1 + n < 6; omega))] at hrd
        exact fin hrd.symm
      have g6 : ¬ 6 ≤ kFn O.1 + n := fun q => g5 ((nI_leX (a := 6) (by decide) (by omega)).mpr q)
      have g7 : kFn (tF O.1 (kFn O.1 + n) fy ff) < 6 := by show kFn O.1 + n < 6; omega
      rw [if_pos g7] at hrd
      rw [cl (show 2 * n < 2 ^ 31 by omega), cl (show 2 * n + 1 < 2 ^ 31 by omega), c.2.2.1.2.2 (2 * n) (by omega), c.2.2.1.2.2 (2 * n + 1) (by omega)]
      refine wp_gd (inbN (by omega) (by decide)) (wp_gd (inbN (by omega) (by decide)) (wp_bindE (q_mayBe _ _) (wp_ite (fun g8 => ?_) (fun g8 => ?_))))
      · rw [if_pos g8] at hrd
        exact fin hrd.symm
      rw [if_neg g8] at hrd
      refine wp_gd (inbN (by omega) (by decide)) (wp_gd (inbN (by omega) (by decide)) ?_)
      refine wp_bind (s_frAdd g7 hf _ _) (fun o ho => ?_)
      rw [show (2 : Int32) = nI 2 from rfl, nI_addI]
      exact ih m _ _ _ _ _ _ _ (by omega) ⟨hfi, rfl, n + 1, _, _, by omega, rfl, CK_F h.1 (by omega) (ff_up hck.1.2.2.2.1.2 (ff_ok (mfr_ok g8).2)), ho.2, hrd⟩
  · refine wp_neg (by decide) (wp_neg (by decide) (wp_neg (by decide) (wp_pos rfl (wp_ite (fun g => ?_) (fun g => ?_)))))
    · rw [c.2.2.2.1] at g
      rw [if_pos g]
      exact wp_bindE (show f_x_found v_latestFinding 1 = some (-11, 1) from rfl) (wp_some ⟨rfl, CR_N h 1⟩)
    · rw [c.2.2.2.1] at g
      rw [if_neg g]
      refine wl_x_read_N42_3 (fun m v_toldIsStale v_latestFinding v_frosts_told v_frosts_year v_frosts_force x3 x4 => v_latestFinding = O.2.2.1 ∧ x3 = nI (kFn O.1) ∧ ∃ n fy ff, n + m = 7 ∧ x4 = nI (2 * n) ∧ CK (oK O (tF O.1 (kFn O.1 + n) fy ff)) ∧ CIf (SK (tF O.1 (kFn O.1 + n) fy ff)) v_frosts_told v_frosts_year v_frosts_force ∧ rdS (O.2.2.2 3).2.1 (O.2.2.2 3).2.2 m n (tF O.1 (kFn O.1 + n) fy ff) = rdO O 3) ?_ 1000 7 _ _ _ _ _ _ _ (by decide) ⟨h.2.2.2.2.2.2.2.2.1, h.2.2.2.1.1, 0, kFy O.1, kFf O.1, rfl, rfl, h.1, h.2.2.2.1, rfl⟩
      rintro m k42 ih v_toldIsStale v_latestFinding v_frosts_told v_frosts_year v_frosts_force x3 x4 ⟨hfi, rfl, n, fy, ff, hnm, rfl, hck, hf, hrd⟩
      have hl : kFn O.1 + n ≤ 6 := hck.1.2.2.2.1.1
      have ht : v_frosts_told = nI (kFn O.1 + n) := hf.1
      subst ht
      cases m with
      | zero => omega
      | succ m =>
      have fin : rdO O 3 = (n, tF O.1 (kFn O.1 + n) fy ff) → wp (some (nI (kFn O.1 + n) - nI (kFn O.1), (1 : Int32), v_latestFinding, nI (kFn O.1 + n), v_frosts_year, v_frosts_force)) (fun r => r.1 = (nI (rdO O 3).1, oK O (rdO O 3).2).1 ∧ CR ((nI (rdO O 3).1, oK O (rdO O 3).2).2) r.2.1 r.2.2.1 v_wallText_length v_wallText_bytes v_handsText_length v_handsText_bytes v_wall_courses v_wall_columns v_wall_fault v_wall_jump v_wall_stones v_hands_told v_hands_fault v_hands_mood v_hands_strong r.2.2.2.1 r.2.2.2.2.1 r.2.2.2.2.2 v_gappings_told v_gappings_year v_gappings_column v_gappings_hand v_sights_told v_sights_year v_sights_place v_sights_setter v_sheets0_form v_sheets0_size v_sheets0_items v_sheets1_form v_sheets1_size v_sheets1_items v_sheets2_form v_sheets2_size v_sheets2_items v_sheets3_form v_sheets3_size v_sheets3_items v_told_losers v_told_stones v_told_standing v_told_open v_told_fallen) := by
        intro e
        rw [e, nI_subI (by omega)]
        refine wp_some ⟨congrArg nI (by omega), hck, h.2.1, h.2.2.1, hf, h.2.2.2.2.1, CT_1 _ _ _ _ _ _, h.2.2.2.2.2.2.1, h.2.2.2.2.2.2.2.1, hfi, c⟩
      rw [rdS_s] at hrd
      unfold f_x_read_N42_3 f_x_read_N119
      rw [show nI (2 * n) + 1 = nI (2 * n + 1) from (nI_succ _).symm]
      refine wp_ite (fun g3 => ?_) (fun g3 => ?_)
      · rw [c.2.2.2.2.1] at g3
        rw [if_pos ((nI_leX (by omega) (by omega)).mp g3)] at hrd
        exact fin hrd.symm
      rw [c.2.2.2.2.1] at g3
      have g4 : ¬ (O.2.2.2 3).2.1 ≤ 2 * n + 1 := fun q => g3 ((nI_leX (by omega) (by omega)).mpr q)
      rw [if_neg g4] at hrd
      refine wp_ite (fun g5 => ?_) (fun g5 => ?_)
      · have g6 : 6 ≤ kFn O.1 + n := (nI_leX (a := 6) (by decide) (by omega)).mp g5
        rw [if_neg (show ¬ kFn (tF O.1 (kFn O.1 + n) fy ff) < 6 from (by show ¬ kFn O.1 + n < 6; omega))] at hrd
        exact fin hrd.symm
      have g6 : ¬ 6 ≤ kFn O.1 + n := fun q => g5 ((nI_leX (a := 6) (by decide) (by omega)).mpr q)
      have g7 : kFn (tF O.1 (kFn O.1 + n) fy ff) < 6 := by show kFn O.1 + n < 6; omega
      rw [if_pos g7] at hrd
      rw [cl (show 2 * n < 2 ^ 31 by omega), cl (show 2 * n + 1 < 2 ^ 31 by omega), c.2.2.2.2.2 (2 * n) (by omega), c.2.2.2.2.2 (2 * n + 1) (by omega)]
      refine wp_gd (inbN (by omega) (by decide)) (wp_gd (inbN (by omega) (by decide)) (wp_bindE (q_mayBe _ _) (wp_ite (fun g8 => ?_) (fun g8 => ?_))))
      · rw [if_pos g8] at hrd
        exact fin hrd.symm
      rw [if_neg g8] at hrd
      refine wp_gd (inbN (by omega) (by decide)) (wp_gd (inbN (by omega) (by decide)) ?_)
      refine wp_bind (s_frAdd g7 hf _ _) (fun o ho => ?_)
      rw [show (2 : Int32) = nI 2 from rfl, nI_addI]
      exact ih m _ _ _ _ _ _ _ (by omega) ⟨hfi, rfl, n + 1, _, _, by omega, rfl, CK_F h.1 (by omega) (ff_up hck.1.2.2.2.1.2 (ff_ok (mfr_ok g8).2)), ho.2, hrd⟩
theorem x_write {O : Om} {v_toldIsStale v_latestFinding v_wallText_length : Int32} {v_wallText_bytes : Nat → Int32} {v_handsText_length : Int32} {v_handsText_bytes : Nat → Int32} {v_wall_courses v_wall_columns v_wall_fault v_wall_jump : Int32} {v_wall_stones : Nat → Int64} {v_hands_told v_hands_fault : Int32} {v_hands_mood v_hands_strong : Nat → Int32} {v_frosts_told : Int32} {v_frosts_year v_frosts_force : Nat → Int32} {v_gappings_told : Int32} {v_gappings_year v_gappings_column v_gappings_hand : Nat → Int32} {v_sights_told : Int32} {v_sights_year v_sights_place v_sights_setter : Nat → Int32} {v_sheets0_form v_sheets0_size : Int32} {v_sheets0_items : Nat → Int32} {v_sheets1_form v_sheets1_size : Int32} {v_sheets1_items : Nat → Int32} {v_sheets2_form v_sheets2_size : Int32} {v_sheets2_items : Nat → Int32} {v_sheets3_form v_sheets3_size : Int32} {v_sheets3_items : Nat → Int32} {v_told_losers : Int32} {v_told_stones v_told_standing : Nat → Int64} {v_told_open v_told_fallen : Nat → Int32} {v_told_all : Int64} {v_told_now : Nat → Int64} {a0 a1 : Int32} (h : CR O v_toldIsStale v_latestFinding v_wallText_length v_wallText_bytes v_handsText_length v_handsText_bytes v_wall_courses v_wall_columns v_wall_fault v_wall_jump v_wall_stones v_hands_told v_hands_fault v_hands_mood v_hands_strong v_frosts_told v_frosts_year v_frosts_force v_gappings_told v_gappings_year v_gappings_column v_gappings_hand v_sights_told v_sights_year v_sights_place v_sights_setter v_sheets0_form v_sheets0_size v_sheets0_items v_sheets1_form v_sheets1_size v_sheets1_items v_sheets2_form v_sheets2_size v_sheets2_items v_sheets3_form v_sheets3_size v_sheets3_items v_told_losers v_told_stones v_told_standing v_told_open v_told_fallen) : wp (f_x_write v_toldIsStale v_latestFinding v_wall_courses v_wall_columns v_wall_jump v_wall_stones v_hands_told v_hands_mood v_hands_strong v_frosts_told v_frosts_year v_frosts_force v_gappings_told v_gappings_year v_gappings_column v_gappings_hand v_sheets0_form v_sheets0_size v_sheets0_items v_sheets1_form v_sheets1_size v_sheets1_items v_sheets2_form v_sheets2_size v_sheets2_items v_sheets3_form v_sheets3_size v_sheets3_items v_told_all v_told_losers v_told_now v_told_stones v_told_standing v_told_open v_told_fallen a0 a1) (fun r => r.1 = (sp_write O a0 a1).1 ∧ CR ((sp_write O a0 a1).2) r.2.1 r.2.2.1 v_wallText_length v_wallText_bytes v_handsText_length v_handsText_bytes v_wall_courses v_wall_columns v_wall_fault v_wall_jump v_wall_stones v_hands_told v_hands_fault v_hands_mood v_hands_strong v_frosts_told v_frosts_year v_frosts_force v_gappings_told v_gappings_year v_gappings_column v_gappings_hand v_sights_told v_sights_year v_sights_place v_sights_setter v_sheets0_form v_sheets0_size r.2.2.2.1 v_sheets1_form v_sheets1_size r.2.2.2.2.1 v_sheets2_form v_sheets2_size r.2.2.2.2.2.1 v_sheets3_form v_sheets3_size r.2.2.2.2.2.2.1 r.2.2.2.2.2.2.2.2.1 r.2.2.2.2.2.2.2.2.2.2.1 r.2.2.2.2.2.2.2.2.2.2.2.1 r.2.2.2.2.2.2.2.2.2.2.2.2.1 r.2.2.2.2.2.2.2.2.2.2.2.2.2) := by
  have hH := h.1.2.2
  have c := h.2.2.2.2.2.2.2.2.2
  have hS := (SK_ok h.1.1).1
  have hW := hS.2.2.2.2.2.2.2.1
  unfold f_x_write sp_write
  refine wp_bindE (q_x_isYear a0) (wp_ite (fun g => ?_) (fun g1 => ?_))
  · rw [if_pos g]; exact wp_some ⟨rfl, h⟩
  rw [if_neg g1]
  refine wp_bindE (q_x_isSheet a1) (wp_ite (fun g => ?_) (fun g2 => ?_))
  · rw [if_pos g]; exact wp_some ⟨rfl, h⟩
  rw [if_neg g2]
  obtain ⟨y, hy, rfl⟩ := wi_nat 19 (by decide) g1
  obtain ⟨s, hs, rfl⟩ := wi_nat 3 (by decide) g2
  rw [cl (show y < 2 ^ 31 by omega), cl (show s < 2 ^ 31 by omega)]
  have hz := (hH s (by omega)).1
  have hk : ∀ it, CK (oH O (hUp O.2.2.2 s ((O.2.2.2 s).1, (O.2.2.2 s).2.1, it))) := fun it => ⟨h.1.1, h.1.2.1, Hok_up (x := ((O.2.2.2 s).1, (O.2.2.2 s).2.1, it)) hH hz (hH s (by omega)).2 s⟩
  have hnl : wrN O s ≤ (O.2.2.2 s).2.1 ∧ wrN O s ≤ SW (SK O.1) := by
    unfold wrN
    by_cases e : SW (SK O.1) < (O.2.2.2 s).2.1
    · rw [if_pos e]; omega
    · rw [if_neg e]; omega
  have hmin : mmin (nI (O.2.2.2 s).2.1) v_wall_columns = nI (wrN O s) := by
    rw [h.2.1.2.1]
    unfold mmin wrN
    by_cases e : SW (SK O.1) < (O.2.2.2 s).2.1
    · rw [if_pos e, if_pos ((nI_ltX (by omega) (by omega)).mpr e)]
    · rw [if_neg e, if_neg (fun q => e ((nI_ltX (by omega) (by omega)).mp q))]
  rcases s_4 hs with rfl | rfl | rfl | rfl
  · refine wp_pos rfl (wp_ite (fun g => ?_) (fun g => ?_))
    · rw [c.1.1] at g
      rw [if_pos g]
      exact wp_bindE (show f_x_found v_latestFinding 1 = some (-11, 1) from rfl) (wp_some ⟨rfl, CR_N h 1⟩)
    · rw [c.1.1] at g
      have hmin2 : mmin v_sheets0_size v_wall_columns = nI (wrN O 0) := by rw [c.1.2.1]; exact hmin
      rw [if_neg g, hmin2]
      refine wp_bind (k_x_asTold hS rfl h.2.1 h.2.2.1 h.2.2.2.1 h.2.2.2.2.1 h.2.2.2.2.2.1) (fun o ho => ?_)
      refine wl_x_write_N63_0 (fun m v_toldIsStale v_latestFinding v_sheets0_items v_sheets1_items v_sheets2_items v_sheets3_items v_told_all v_told_losers v_told_now v_told_stones v_told_standing v_told_open v_told_fallen x1 x4 x6 => v_latestFinding = O.2.2.1 ∧ (v_toldIsStale = 0 ∧ RunC (SK O.1) v_told_losers v_told_stones v_told_standing v_told_open v_told_fallen) ∧ (SH1 (O.2.2.2 1) v_sheets1_form v_sheets1_size v_sheets1_items ∧ SH1 (O.2.2.2 2) v_sheets2_form v_sheets2_size v_sheets2_items ∧ SH1 (O.2.2.2 3) v_sheets3_form v_sheets3_size v_sheets3_items) ∧ x1 = nI y ∧ x4 = nI (wrN O 0) ∧ ∃ k, k ≤ wrN O 0 ∧ x6 = nI k ∧ m = wrN O 0 - k ∧ (∀ i, i < k → v_sheets0_items i = nI (colCnt (isS (wsY (SK O.1) (y + 1))) i)) ∧ ∀ i, k ≤ i → i < 60 → v_sheets0_items i = (O.2.2.2 0).2.2 i) ?_ 1000 (wrN O 0) _ _ _ _ _ _ _ _ _ _ _ _ _ _ _ _ (by omega) ⟨h.2.2.2.2.2.2.2.2.1, ho, ⟨c.2.1, c.2.2.1, c.2.2.2⟩, rfl, rfl, 0, by omega, rfl, by omega, fun i hi => absurd hi (by omega), fun i _ hi => c.1.2.2 i hi⟩
      clear ho
      rintro m k63 ih v_toldIsStale v_latestFinding v_sheets0_items v_sheets1_items v_sheets2_items v_sheets3_items v_told_all v_told_losers v_told_now v_told_stones v_told_standing v_told_open v_told_fallen x1 x4 x6 ⟨hfi, ho, ⟨d0, d1, d2⟩, rfl, rfl, k, hkl, rfl, rfl, h1, h2⟩
      unfold f_x_write_N63_0
      refine wp_ite (fun g3 => ?_) (fun g3 => ?_)
      · have g4 : wrN O 0 ≤ k := (nI_leX (by omega) (by omega)).mp g3
        have e : k = wrN O 0 := by omega
        subst e
        refine wp_some ⟨rfl, hk _, h.2.1, h.2.2.1, h.2.2.2.1, h.2.2.2.2.1, ⟨Or.inl ho.1, fun _ => ho.2⟩, h.2.2.2.2.2.2.1, h.2.2.2.2.2.2.2.1, hfi, ⟨⟨c.1.1, c.1.2.1, fun i hi => ?_⟩, d0, d1, d2⟩⟩
        show v_sheets0_items i = wrI O y 0 i
        unfold wrI
        by_cases e : i < wrN O 0
        · rw [if_pos e]; exact h1 i e
        · rw [if_neg e]; exact h2 i (by omega) hi
      · have g4 : k < wrN O 0 := Nat.lt_of_not_le (fun q => g3 ((nI_leX (by omega) (by omega)).mpr q))
        refine wp_bindE (s_highBehind ho.2 (by omega) (by omega)) ?_
        rw [cl (show k < 2 ^ 31 by omega), show nI k + 1 = nI (k + 1) from (nI_succ k).symm]
        refine wp_gd (inbN (by omega) (by decide)) ?_
        refine ih (wrN O 0 - (k + 1)) _ _ _ _ _ _ _ _ _ _ _ _ _ _ _ _ (by omega) ⟨hfi, ho, ⟨d0, d1, d2⟩, rfl, rfl, k + 1, by omega, rfl, rfl, fun i hi => ?_, fun i hi hi2 => ?_⟩
        · rw [upd_at]
          by_cases e : i = k
          · rw [if_pos e, e]
          · rw [if_neg e]; exact h1 i (by omega)
        · rw [upd_at, if_neg (by omega)]; exact h2 i (by omega) hi2
  · refine wp_neg (by decide) (wp_pos rfl (wp_ite (fun g => ?_) (fun g => ?_)))
    · rw [c.2.1.1] at g
      rw [if_pos g]
      exact wp_bindE (show f_x_found v_latestFinding 1 = some (-11, 1) from rfl) (wp_some ⟨rfl, CR_N h 1⟩)
    · rw [c.2.1.1] at g
      have hmin2 : mmin v_sheets1_size v_wall_columns = nI (wrN O 1) := by rw [c.2.1.2.1]; exact hmin
      rw [if_neg g, hmin2]
      refine wp_bind (k_x_asTold hS rfl h.2.1 h.2.2.1 h.2.2.2.1 h.2.2.2.2.1 h.2.2.2.2.2.1) (fun o ho => ?_)
      refine wl_x_write_N63_1 (fun m v_toldIsStale v_latestFinding v_sheets0_items v_sheets1_items v_sheets2_items v_sheets3_items v_told_all v_told_losers v_told_now v_told_stones v_told_standing v_told_open v_told_fallen x1 x4 x6 => v_latestFinding = O.2.2.1 ∧ (v_toldIsStale = 0 ∧ RunC (SK O.1) v_told_losers v_told_stones v_told_standing v_told_open v_told_fallen) ∧ (SH1 (O.2.2.2 0) v_sheets0_form v_sheets0_size v_sheets0_items ∧ SH1 (O.2.2.2 2) v_sheets2_form v_sheets2_size v_sheets2_items ∧ SH1 (O.2.2.2 3) v_sheets3_form v_sheets3_size v_sheets3_items) ∧ x1 = nI y ∧ x4 = nI (wrN O 1) ∧ ∃ k, k ≤ wrN O 1 ∧ x6 = nI k ∧ m = wrN O 1 - k ∧ (∀ i, i < k → v_sheets1_items i = nI (colCnt (isS (wsY (SK O.1) (y + 1))) i)) ∧ ∀ i, k ≤ i → i < 60 → v_sheets1_items i = (O.2.2.2 1).2.2 i) ?_ 1000 (wrN O 1) _ _ _ _ _ _ _ _ _ _ _ _ _ _ _ _ (by omega) ⟨h.2.2.2.2.2.2.2.2.1, ho, ⟨c.1, c.2.2.1, c.2.2.2⟩, rfl, rfl, 0, by omega, rfl, by omega, fun i hi => absurd hi (by omega), fun i _ hi => c.2.1.2.2 i hi⟩
      clear ho
      rintro m k63 ih v_toldIsStale v_latestFinding v_sheets0_items v_sheets1_items v_sheets2_items v_sheets3_items v_told_all v_told_losers v_told_now v_told_stones v_told_standing v_told_open v_told_fallen x1 x4 x6 ⟨hfi, ho, ⟨d0, d1, d2⟩, rfl, rfl, k, hkl, rfl, rfl, h1, h2⟩
      unfold f_x_write_N63_1
      refine wp_ite (fun g3 => ?_) (fun g3 => ?_)
      · have g4 : wrN O 1 ≤ k := (nI_leX (by omega) (by omega)).mp g3
        have e : k = wrN O 1 := by omega
        subst e
        refine wp_some ⟨rfl, hk _, h.2.1, h.2.2.1, h.2.2.2.1, h.2.2.2.2.1, ⟨Or.inl ho.1, fun _ => ho.2⟩, h.2.2.2.2.2.2.1, h.2.2.2.2.2.2.2.1, hfi, ⟨d0, ⟨c.2.1.1, c.2.1.2.1, fun i hi => ?_⟩, d1, d2⟩⟩
        show v_sheets1_items i = wrI O y 1 i
        unfold wrI
        by_cases e : i < wrN O 1
        · rw [if_pos e]; exact h1 i e
        · rw [if_neg e]; exact h2 i (by omega) hi
      · have g4 : k < wrN O 1 := Nat.lt_of_not_le (fun q => g3 ((nI_leX (by omega) (by omega)).mpr q))
        refine wp_bindE (s_highBehind ho.2 (by omega) (by omega)) ?_
        rw [cl (show k < 2 ^ 31 by omega), show nI k + 1 = nI (k + 1) from (nI_succ k).symm]
        refine wp_gd (inbN (by omega) (by decide)) ?_
        refine ih (wrN O 1 - (k + 1)) _ _ _ _ _ _ _ _ _ _ _ _ _ _ _ _ (by omega) ⟨hfi, ho, ⟨d0, d1, d2⟩, rfl, rfl, k + 1, by omega, rfl, rfl, fun i hi => ?_, fun i hi hi2 => ?_⟩
        · rw [upd_at]
          by_cases e : i = k
          · rw [if_pos e, e]
          · rw [if_neg e]; exact h1 i (by omega)
        · rw [upd_at, if_neg (by omega)]; exact h2 i (by omega) hi2
  · refine wp_neg (by decide) (wp_neg (by decide) (wp_pos rfl (wp_ite (fun g => ?_) (fun g => ?_))))
    · rw [c.2.2.1.1] at g
      rw [if_pos g]
      exact wp_bindE (show f_x_found v_latestFinding 1 = some (-11, 1) from rfl) (wp_some ⟨rfl, CR_N h 1⟩)
    · rw [c.2.2.1.1] at g
      have hmin2 : mmin v_sheets2_size v_wall_columns = nI (wrN O 2) := by rw [c.2.2.1.2.1]; exact hmin
      rw [if_neg g, hmin2]
      refine wp_bind (k_x_asTold hS rfl h.2.1 h.2.2.1 h.2.2.2.1 h.2.2.2.2.1 h.2.2.2.2.2.1) (fun o ho => ?_)
      refine wl_x_write_N63_2 (fun m v_toldIsStale v_latestFinding v_sheets0_items v_sheets1_items v_sheets2_items v_sheets3_items v_told_all v_told_losers v_told_now v_told_stones v_told_standing v_told_open v_told_fallen x1 x4 x6 => v_latestFinding = O.2.2.1 ∧ (v_toldIsStale = 0 ∧ RunC (SK O.1) v_told_losers v_told_stones v_told_standing v_told_open v_told_fallen) ∧ (SH1 (O.2.2.2 0) v_sheets0_form v_sheets0_size v_sheets0_items ∧ SH1 (O.2.2.2 1) v_sheets1_form v_sheets1_size v_sheets1_items ∧ SH1 (O.2.2.2 3) v_sheets3_form v_sheets3_size v_sheets3_items) ∧ x1 = nI y ∧ x4 = nI (wrN O 2) ∧ ∃ k, k ≤ wrN O 2 ∧ x6 = nI k ∧ m = wrN O 2 - k ∧ (∀ i, i < k → v_sheets2_items i = nI (colCnt (isS (wsY (SK O.1) (y + 1))) i)) ∧ ∀ i, k ≤ i → i < 60 → v_sheets2_items i = (O.2.2.2 2).2.2 i) ?_ 1000 (wrN O 2) _ _ _ _ _ _ _ _ _ _ _ _ _ _ _ _ (by omega) ⟨h.2.2.2.2.2.2.2.2.1, ho, ⟨c.1, c.2.1, c.2.2.2⟩, rfl, rfl, 0, by omega, rfl, by omega, fun i hi => absurd hi (by omega), fun i _ hi => c.2.2.1.2.2 i hi⟩
      clear ho
      rintro m k63 ih v_toldIsStale v_latestFinding v_sheets0_items v_sheets1_items v_sheets2_items v_sheets3_items v_told_all v_told_losers v_told_now v_told_stones v_told_standing v_told_open v_told_fallen x1 x4 x6 ⟨hfi, ho, ⟨d0, d1, d2⟩, rfl, rfl, k, hkl, rfl, rfl, h1, h2⟩
      unfold f_x_write_N63_2
      refine wp_ite (fun g3 => ?_) (fun g3 => ?_)
      · have g4 : wrN O 2 ≤ k := (nI_leX (by omega) (by omega)).mp g3
        have e : k = wrN O 2 := by omega
        subst e
        refine wp_some ⟨rfl, hk _, h.2.1, h.2.2.1, h.2.2.2.1, h.2.2.2.2.1, ⟨Or.inl ho.1, fun _ => ho.2⟩, h.2.2.2.2.2.2.1, h.2.2.2.2.2.2.2.1, hfi, ⟨d0, d1, ⟨c.2.2.1.1, c.2.2.1.2.1, fun i hi => ?_⟩, d2⟩⟩
        show v_sheets2_items i = wrI O y 2 i
        unfold wrI
        by_cases e : i < wrN O 2
        · rw [if_pos e]; exact h1 i e
        · rw [if_neg e]; exact h2 i (by omega) hi
      · have g4 : k < wrN O 2 := Nat.lt_of_not_le (fun q => g3 ((nI_leX (by omega) (by omega)).mpr q))
        refine wp_bindE (s_highBehind ho.2 (by omega) (by omega)) ?_
        rw [cl (show k < 2 ^ 31 by omega), show nI k + 1 = nI (k + 1) from (nI_succ k).symm]
        refine wp_gd (inbN (by omega) (by decide)) ?_
        refine ih (wrN O 2 - (k + 1)) _ _ _ _ _ _ _ _ _ _ _ _ _ _ _ _ (by omega) ⟨hfi, ho, ⟨d0, d1, d2⟩, rfl, rfl, k + 1, by omega, rfl, rfl, fun i hi => ?_, fun i hi hi2 => ?_⟩
        · rw [upd_at]
          by_cases e : i = k
          · rw [if_pos e, e]
          · rw [if_neg e]; exact h1 i (by omega)
        · rw [upd_at, if_neg (by omega)]; exact h2 i (by omega) hi2
  · refine wp_neg (by decide) (wp_neg (by decide) (wp_neg (by decide) (wp_pos rfl (wp_ite (fun g => ?_) (fun g => ?_)))))
    · rw [c.2.2.2.1] at g
      rw [if_pos g]
      exact wp_bindE (show f_x_found v_latestFinding 1 = some (-11, 1) from rfl) (wp_some ⟨rfl, CR_N h 1⟩)
    · rw [c.2.2.2.1] at g
      have hmin2 : mmin v_sheets3_size v_wall_columns = nI (wrN O 3) := by rw [c.2.2.2.2.1]; exact hmin
      rw [if_neg g, hmin2]
      refine wp_bind (k_x_asTold hS rfl h.2.1 h.2.2.1 h.2.2.2.1 h.2.2.2.2.1 h.2.2.2.2.2.1) (fun o ho => ?_)
      refine wl_x_write_N63_3 (fun m v_toldIsStale v_latestFinding v_sheets0_items v_sheets1_items v_sheets2_items v_sheets3_items v_told_all v_told_losers v_told_now v_told_stones v_told_standing v_told_open v_told_fallen x1 x4 x6 => v_latestFinding = O.2.2.1 ∧ (v_toldIsStale = 0 ∧ RunC (SK O.1) v_told_losers v_told_stones v_told_standing v_told_open v_told_fallen) ∧ (SH1 (O.2.2.2 0) v_sheets0_form v_sheets0_size v_sheets0_items ∧ SH1 (O.2.2.2 1) v_sheets1_form v_sheets1_size v_sheets1_items ∧ SH1 (O.2.2.2 2) v_sheets2_form v_sheets2_size v_sheets2_items) ∧ x1 = nI y ∧ x4 = nI (wrN O 3) ∧ ∃ k, k ≤ wrN O 3 ∧ x6 = nI k ∧ m = wrN O 3 - k ∧ (∀ i, i < k → v_sheets3_items i = nI (colCnt (isS (wsY (SK O.1) (y + 1))) i)) ∧ ∀ i, k ≤ i → i < 60 → v_sheets3_items i = (O.2.2.2 3).2.2 i) ?_ 1000 (wrN O 3) _ _ _ _ _ _ _ _ _ _ _ _ _ _ _ _ (by omega) ⟨h.2.2.2.2.2.2.2.2.1, ho, ⟨c.1, c.2.1, c.2.2.1⟩, rfl, rfl, 0, by omega, rfl, by omega, fun i hi => absurd hi (by omega), fun i _ hi => c.2.2.2.2.2 i hi⟩
      clear ho
      rintro m k63 ih v_toldIsStale v_latestFinding v_sheets0_items v_sheets1_items v_sheets2_items v_sheets3_items v_told_all v_told_losers v_told_now v_told_stones v_told_standing v_told_open v_told_fallen x1 x4 x6 ⟨hfi, ho, ⟨d0, d1, d2⟩, rfl, rfl, k, hkl, rfl, rfl, h1, h2⟩
      unfold f_x_write_N63_3
      refine wp_ite (fun g3 => ?_) (fun g3 => ?_)
      · have g4 : wrN O 3 ≤ k := (nI_leX (by omega) (by omega)).mp g3
        have e : k = wrN O 3 := by omega
        subst e
        refine wp_some ⟨rfl, hk _, h.2.1, h.2.2.1, h.2.2.2.1, h.2.2.2.2.1, ⟨Or.inl ho.1, fun _ => ho.2⟩, h.2.2.2.2.2.2.1, h.2.2.2.2.2.2.2.1, hfi, ⟨d0, d1, d2, ⟨c.2.2.2.1, c.2.2.2.2.1, fun i hi => ?_⟩⟩⟩
        show v_sheets3_items i = wrI O y 3 i
        unfold wrI
        by_cases e : i < wrN O 3
        · rw [if_pos e]; exact h1 i e
        · rw [if_neg e]; exact h2 i (by omega) hi
      · have g4 : k < wrN O 3 := Nat.lt_of_not_le (fun q => g3 ((nI_leX (by omega) (by omega)).mpr q))
        refine wp_bindE (s_highBehind ho.2 (by omega) (by omega)) ?_
        rw [cl (show k < 2 ^ 31 by omega), show nI k + 1 = nI (k + 1) from (nI_succ k).symm]
        refine wp_gd (inbN (by omega) (by decide)) ?_
        refine ih (wrN O 3 - (k + 1)) _ _ _ _ _ _ _ _ _ _ _ _ _ _ _ _ (by omega) ⟨hfi, ho, ⟨d0, d1, d2⟩, rfl, rfl, k + 1, by omega, rfl, rfl, fun i hi => ?_, fun i hi hi2 => ?_⟩
        · rw [upd_at]
          by_cases e : i = k
          · rw [if_pos e, e]
          · rw [if_neg e]; exact h1 i (by omega)
        · rw [upd_at, if_neg (by omega)]; exact h2 i (by omega) hi2
