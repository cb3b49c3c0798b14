/-! THE WHOLE STATE: what is told, seen, found, the sheets; the class's relation to it, the reference's -/
abbrev Ht : Type := Nat → Int32 × Nat × (Nat → Int32)
abbrev Om : Type := Kt × Gt × Int32 × Ht
def Hok (H : Ht) : Prop := ∀ s, s < 4 → (H s).2.1 ≤ 60 ∧ ((H s).1 = -1 ∨ ∃ t, t < 3 ∧ (H s).1 = nI t)
def SH1 (x : Int32 × Nat × (Nat → Int32)) (f z : Int32) (it : Nat → Int32) : Prop := f = x.1 ∧ z = nI x.2.1 ∧ ∀ i, i < 60 → it i = x.2.2 i
def CIs (H : Ht) (f0 z0 : Int32) (i0 : Nat → Int32) (f1 z1 : Int32) (i1 : Nat → Int32) (f2 z2 : Int32) (i2 : Nat → Int32) (f3 z3 : Int32) (i3 : Nat → Int32) : Prop := SH1 (H 0) f0 z0 i0 ∧ SH1 (H 1) f1 z1 i1 ∧ SH1 (H 2) f2 z2 i2 ∧ SH1 (H 3) f3 z3 i3
def MIs (H : Ht) (th fo si it : Nat → Int32) : Prop := ∀ s, s < 4 → si s = nI (H s).2.1 ∧ (∀ i, i < 60 → it (60 * s + i) = (H s).2.2 i) ∧ (((H s).1 = -1 ∧ th s = 0) ∨ (¬ (H s).1 = -1 ∧ th s = 1 ∧ fo s = (H s).1))
def CTx (K : Kt) (lw : Int32) (bw : Nat → Int32) (lh : Int32) (bh : Nat → Int32) (wf hf : Int32) : Prop := lw = nI (kA K) ∧ bw = kWb K ∧ lh = nI (kB K) ∧ bh = kHb K ∧ wf = wFault (kWb K) (kA K) ∧ hf = hFault (kHb K) (kB K)
def CK (O : Om) : Prop := Kok O.1 ∧ Gok O.2.1 ∧ Hok O.2.2.2
def CR (O : Om) (stale fin lw : Int32) (bw : Nat → Int32) (lh : Int32) (bh : Nat → Int32) (co cm wf ju : Int32) (st : Nat → Int64) (hn hf : Int32) (md sr : Nat → Int32) (fn : Int32) (fy ff : Nat → Int32) (gn : Int32) (gy gc gh : Nat → Int32) (sn : Int32) (sy sp sh : Nat → Int32) (f0 z0 : Int32) (i0 : Nat → Int32) (f1 z1 : Int32) (i1 : Nat → Int32) (f2 z2 : Int32) (i2 : Nat → Int32) (f3 z3 : Int32) (i3 : Nat → Int32) (losers : Int32) (stones standing : Nat → Int64) (opn fallen : Nat → Int32) : Prop := CK O ∧ CIw (SK O.1) co cm ju st ∧ CIh (SK O.1) hn md sr ∧ CIf (SK O.1) fn fy ff ∧ CIg (SK O.1) gn gy gc gh ∧ CT (SK O.1) stale losers stones standing opn fallen ∧ CTx O.1 lw bw lh bh wf hf ∧ CIv O.2.1 sn sy sp sh ∧ fin = O.2.2.1 ∧ CIs O.2.2.2 f0 z0 i0 f1 z1 i1 f2 z2 i2 f3 z3 i3



def MX (O : Om) (typed texts : Nat → Int32) (jump fn : Int32) (fy ff : Nat → Int32) (gn : Int32) (gy gc gh : Nat → Int32) (sn : Int32) (sy sp sh : Nat → Int32) (fin : Int32) (th fo si it : Nat → Int32) : Prop := CK O ∧ MP O.1 typed texts jump fn fy ff gn gy gc gh ∧ MIv O.2.1 sn sy sp sh ∧ fin = O.2.2.1 ∧ MIs O.2.2.2 th fo si it


def tW (K : Kt) (wb : Nat → Int32) (a : Nat) : Kt := (((wb, a), K.1.2), K.2)
def tH (K : Kt) (hb : Nat → Int32) (b : Nat) : Kt := ((K.1.1, (hb, b)), K.2)
def tJ (K : Kt) (j : Nat) : Kt := (K.1, j, K.2.2)
def tF (K : Kt) (n : Nat) (fy ff : Nat → Int32) : Kt := (K.1, K.2.1, (n, fy, ff), K.2.2.2)
def tG (K : Kt) (n : Nat) (gy gc gh : Nat → Int32) : Kt := (K.1, K.2.1, K.2.2.1, (n, gy, gc, gh))
def oK (O : Om) (K : Kt) : Om := (K, O.2)
def oG (O : Om) (G : Gt) : Om := (O.1, G, O.2.2)
def oN (O : Om) (f : Int32) : Om := (O.1, O.2.1, f, O.2.2.2)
def oH (O : Om) (H : Ht) : Om := (O.1, O.2.1, O.2.2.1, H)
theorem CT_1 (S : Sit) (losers : Int32) (stones standing : Nat → Int64) (opn fallen : Nat → Int32) : CT S 1 losers stones standing opn fallen := ⟨Or.inr rfl, fun q => absurd q (by decide)⟩
/-! texts -/
def sp_type (O : Om) (a0 a1 : Int32) : Int32 × Om := if wi a0 0 1 = 0 then (-2, O) else if wi a1 0 255 = 0 then (-2, O) else if a0 = 0 then (if kA O.1 < 44 then (nI (kA O.1 + 1), oK O (tW O.1 (upd (kWb O.1) (kA O.1) a1) (kA O.1 + 1))) else (-4, O)) else (if kB O.1 < 23 then (nI (kB O.1 + 1), oK O (tH O.1 (upd (kHb O.1) (kB O.1) a1) (kB O.1 + 1))) else (-4, O))
def sp_wipe (O : Om) (a0 : Int32) : Int32 × Om := if wi a0 0 1 = 0 then (-2, O) else if a0 = 0 then (nI (kA O.1), oK O (tW O.1 (kWb O.1) 0)) else (nI (kB O.1), oK O (tH O.1 (kHb O.1) 0))
def sp_undo (O : Om) (a0 : Int32) : Int32 × Om := if wi a0 0 1 = 0 then (-2, O) else if a0 = 0 then (if kA O.1 = 0 then (-3, O) else (nI (kA O.1 - 1), oK O (tW O.1 (kWb O.1) (kA O.1 - 1)))) else (if kB O.1 = 0 then (-3, O) else (nI (kB O.1 - 1), oK O (tH O.1 (kHb O.1) (kB O.1 - 1))))
theorem CK_W {O : Om} (h : CK O) {wb : Nat → Int32} {a : Nat} (ha : a ≤ 44) (hb : byt wb a) : CK (oK O (tW O.1 wb a)) := ⟨⟨⟨ha, hb⟩, h.1.2⟩, h.2⟩
theorem CK_H {O : Om} (h : CK O) {hb : Nat → Int32} {b : Nat} (hl : b ≤ 23) (hy : byt hb b) : CK (oK O (tH O.1 hb b)) := ⟨⟨h.1.1, ⟨hl, hy⟩, h.1.2.2⟩, h.2⟩
theorem byt_up {wb : Nat → Int32} {a : Nat} (h : byt wb a) {v : Int32} (hv : ¬ wi v 0 255 = 0) : byt (upd wb a v) (a + 1) := by
  intro k hk
  rw [upd_at]
  by_cases e : k = a
  · rw [if_pos e]
    obtain ⟨u, hu, eu⟩ := wi_nat 255 (by decide) hv
    exact ⟨u, by omega, eu⟩
  · rw [if_neg e]; exact h k (by omega)
theorem byt_dn {wb : Nat → Int32} {a b : Nat} (h : byt wb a) (hb : b ≤ a) : byt wb b := fun k hk => h k (by omega)
theorem x_rW {O : Om} {v_toldIsStale v_latestFinding v_wallText_length : Int32} {v_wallText_bytes : Nat → Int32} {v_handsText_length : Int32} {v_handsText_bytes : Nat → Int32} {v_wall_courses v_wall_columns v_wall_fault v_wall_jump : Int32} {v_wall_stones : Nat → Int64} {v_hands_told v_hands_fault : Int32} {v_hands_mood v_hands_strong : Nat → Int32} {v_frosts_told : Int32} {v_frosts_year v_frosts_force : Nat → Int32} {v_gappings_told : Int32} {v_gappings_year v_gappings_column v_gappings_hand : Nat → Int32} {v_sights_told : Int32} {v_sights_year v_sights_place v_sights_setter : Nat → Int32} {v_sheets0_form v_sheets0_size : Int32} {v_sheets0_items : Nat → Int32} {v_sheets1_form v_sheets1_size : Int32} {v_sheets1_items : Nat → Int32} {v_sheets2_form v_sheets2_size : Int32} {v_sheets2_items : Nat → Int32} {v_sheets3_form v_sheets3_size : Int32} {v_sheets3_items : Nat → Int32} {v_told_losers : Int32} {v_told_stones v_told_standing : Nat → Int64} {v_told_open v_told_fallen : Nat → Int32} (h : CR O v_toldIsStale v_latestFinding v_wallText_length v_wallText_bytes v_handsText_length v_handsText_bytes v_wall_courses v_wall_columns v_wall_fault v_wall_jump v_wall_stones v_hands_told v_hands_fault v_hands_mood v_hands_strong v_frosts_told v_frosts_year v_frosts_force v_gappings_told v_gappings_year v_gappings_column v_gappings_hand v_sights_told v_sights_year v_sights_place v_sights_setter v_sheets0_form v_sheets0_size v_sheets0_items v_sheets1_form v_sheets1_size v_sheets1_items v_sheets2_form v_sheets2_size v_sheets2_items v_sheets3_form v_sheets3_size v_sheets3_items v_told_losers v_told_stones v_told_standing v_told_open v_told_fallen) {wb : Nat → Int32} {a : Nat} (hk : CK (oK O (tW O.1 wb a))) : wp (f_x_retell v_toldIsStale (nI a) wb v_handsText_length v_handsText_bytes v_wall_courses v_wall_columns v_wall_fault v_wall_stones v_hands_told v_hands_fault v_hands_mood v_hands_strong (0 : Int32)) (fun r => CR (oK O (tW O.1 wb a)) r.1 v_latestFinding (nI a) wb v_handsText_length v_handsText_bytes r.2.1 r.2.2.1 r.2.2.2.1 v_wall_jump r.2.2.2.2.1 r.2.2.2.2.2.1 r.2.2.2.2.2.2.1 r.2.2.2.2.2.2.2.1 r.2.2.2.2.2.2.2.2 v_frosts_told v_frosts_year v_frosts_force v_gappings_told v_gappings_year v_gappings_column v_gappings_hand v_sights_told v_sights_year v_sights_place v_sights_setter v_sheets0_form v_sheets0_size v_sheets0_items v_sheets1_form v_sheets1_size v_sheets1_items v_sheets2_form v_sheets2_size v_sheets2_items v_sheets3_form v_sheets3_size v_sheets3_items v_told_losers v_told_stones v_told_standing v_told_open v_told_fallen) := by
  unfold f_x_retell
  refine wp_pos rfl (wp_bind (s_wTell hk.1.1.1 _ _ _ _) (fun o ho => wp_some ?_))
  exact ⟨hk, ⟨ho.1, ho.2.1, h.2.1.2.2.1, ho.2.2.2⟩, h.2.2.1, h.2.2.2.1, h.2.2.2.2.1, CT_1 _ _ _ _ _ _, ⟨rfl, rfl, h.2.2.2.2.2.2.1.2.2.1, h.2.2.2.2.2.2.1.2.2.2.1, ho.2.2.1, h.2.2.2.2.2.2.1.2.2.2.2.2⟩, h.2.2.2.2.2.2.2⟩
theorem x_rH {O : Om} {v_toldIsStale v_latestFinding v_wallText_length : Int32} {v_wallText_bytes : Nat → Int32} {v_handsText_length : Int32} {v_handsText_bytes : Nat → Int32} {v_wall_courses v_wall_columns v_wall_fault v_wall_jump : Int32} {v_wall_stones : Nat → Int64} {v_hands_told v_hands_fault : Int32} {v_hands_mood v_hands_strong : Nat → Int32} {v_frosts_told : Int32} {v_frosts_year v_frosts_force : Nat → Int32} {v_gappings_told : Int32} {v_gappings_year v_gappings_column v_gappings_hand : Nat → Int32} {v_sights_told : Int32} {v_sights_year v_sights_place v_sights_setter : Nat → Int32} {v_sheets0_form v_sheets0_size : Int32} {v_sheets0_items : Nat → Int32} {v_sheets1_form v_sheets1_size : Int32} {v_sheets1_items : Nat → Int32} {v_sheets2_form v_sheets2_size : Int32} {v_sheets2_items : Nat → Int32} {v_sheets3_form v_sheets3_size : Int32} {v_sheets3_items : Nat → Int32} {v_told_losers : Int32} {v_told_stones v_told_standing : Nat → Int64} {v_told_open v_told_fallen : Nat → Int32} (h : CR O v_toldIsStale v_latestFinding v_wallText_length v_wallText_bytes v_handsText_length v_handsText_bytes v_wall_courses v_wall_columns v_wall_fault v_wall_jump v_wall_stones v_hands_told v_hands_fault v_hands_mood v_hands_strong v_frosts_told v_frosts_year v_frosts_force v_gappings_told v_gappings_year v_gappings_column v_gappings_hand v_sights_told v_sights_year v_sights_place v_sights_setter v_sheets0_form v_sheets0_size v_sheets0_items v_sheets1_form v_sheets1_size v_sheets1_items v_sheets2_form v_sheets2_size v_sheets2_items v_sheets3_form v_sheets3_size v_sheets3_items v_told_losers v_told_stones v_told_standing v_told_open v_told_fallen) {hb : Nat → Int32} {b : Nat} (hk : CK (oK O (tH O.1 hb b))) {a0 : Int32} (ha : ¬ a0 = 0) : wp (f_x_retell v_toldIsStale v_wallText_length v_wallText_bytes (nI b) hb v_wall_courses v_wall_columns v_wall_fault v_wall_stones v_hands_told v_hands_fault v_hands_mood v_hands_strong a0) (fun r => CR (oK O (tH O.1 hb b)) r.1 v_latestFinding v_wallText_length v_wallText_bytes (nI b) hb r.2.1 r.2.2.1 r.2.2.2.1 v_wall_jump r.2.2.2.2.1 r.2.2.2.2.2.1 r.2.2.2.2.2.2.1 r.2.2.2.2.2.2.2.1 r.2.2.2.2.2.2.2.2 v_frosts_told v_frosts_year v_frosts_force v_gappings_told v_gappings_year v_gappings_column v_gappings_hand v_sights_told v_sights_year v_sights_place v_sights_setter v_sheets0_form v_sheets0_size v_sheets0_items v_sheets1_form v_sheets1_size v_sheets1_items v_sheets2_form v_sheets2_size v_sheets2_items v_sheets3_form v_sheets3_size v_sheets3_items v_told_losers v_told_stones v_told_standing v_told_open v_told_fallen) := by
  unfold f_x_retell
  refine wp_neg ha (wp_bind (s_hTell hk.1.2.1.1 hk.1.2.1.2 _ _ _ _) (fun o ho => wp_some ?_))
  exact ⟨hk, h.2.1, ⟨ho.1, ho.2.2⟩, h.2.2.2.1, h.2.2.2.2.1, CT_1 _ _ _ _ _ _, ⟨h.2.2.2.2.2.2.1.1, h.2.2.2.2.2.2.1.2.1, rfl, rfl, h.2.2.2.2.2.2.1.2.2.2.2.1, ho.2.1⟩, h.2.2.2.2.2.2.2⟩
theorem t_of (a0 : Int32) : f_x_textOf a0 = some (if a0 = 0 then 0 else 1) := by
  unfold f_x_textOf
  by_cases e : a0 = 0
  · rw [if_pos e, if_pos e]
  · rw [if_neg e, if_neg e]
theorem x_type {O : Om} {v_toldIsStale v_latestFinding v_wallText_length : Int32} {v_wallText_bytes : Nat → Int32} {v_handsText_length : Int32} {v_handsText_bytes : Nat → Int32} {v_wall_courses v_wall_columns v_wall_fault v_wall_jump : Int32} {v_wall_stones : Nat → Int64} {v_hands_told v_hands_fault : Int32} {v_hands_mood v_hands_strong : Nat → Int32} {v_frosts_told : Int32} {v_frosts_year v_frosts_force : Nat → Int32} {v_gappings_told : Int32} {v_gappings_year v_gappings_column v_gappings_hand : Nat → Int32} {v_sights_told : Int32} {v_sights_year v_sights_place v_sights_setter : Nat → Int32} {v_sheets0_form v_sheets0_size : Int32} {v_sheets0_items : Nat → Int32} {v_sheets1_form v_sheets1_size : Int32} {v_sheets1_items : Nat → Int32} {v_sheets2_form v_sheets2_size : Int32} {v_sheets2_items : Nat → Int32} {v_sheets3_form v_sheets3_size : Int32} {v_sheets3_items : Nat → Int32} {v_told_losers : Int32} {v_told_stones v_told_standing : Nat → Int64} {v_told_open v_told_fallen : Nat → Int32} {a0 a1 : Int32} (h : CR O v_toldIsStale v_latestFinding v_wallText_length v_wallText_bytes v_handsText_length v_handsText_bytes v_wall_courses v_wall_columns v_wall_fault v_wall_jump v_wall_stones v_hands_told v_hands_fault v_hands_mood v_hands_strong v_frosts_told v_frosts_year v_frosts_force v_gappings_told v_gappings_year v_gappings_column v_gappings_hand v_sights_told v_sights_year v_sights_place v_sights_setter v_sheets0_form v_sheets0_size v_sheets0_items v_sheets1_form v_sheets1_size v_sheets1_items v_sheets2_form v_sheets2_size v_sheets2_items v_sheets3_form v_sheets3_size v_sheets3_items v_told_losers v_told_stones v_told_standing v_told_open v_told_fallen) : wp (f_x_type v_toldIsStale v_wallText_length v_wallText_bytes v_handsText_length v_handsText_bytes v_wall_courses v_wall_columns v_wall_fault v_wall_stones v_hands_told v_hands_fault v_hands_mood v_hands_strong a0 a1) (fun r => r.1 = (sp_type O a0 a1).1 ∧ CR ((sp_type O a0 a1).2) r.2.1 v_latestFinding r.2.2.1 r.2.2.2.1 r.2.2.2.2.1 r.2.2.2.2.2.1 r.2.2.2.2.2.2.1 r.2.2.2.2.2.2.2.1 r.2.2.2.2.2.2.2.2.1 v_wall_jump r.2.2.2.2.2.2.2.2.2.1 r.2.2.2.2.2.2.2.2.2.2.1 r.2.2.2.2.2.2.2.2.2.2.2.1 r.2.2.2.2.2.2.2.2.2.2.2.2.1 r.2.2.2.2.2.2.2.2.2.2.2.2.2 v_frosts_told v_frosts_year v_frosts_force v_gappings_told v_gappings_year v_gappings_column v_gappings_hand v_sights_told v_sights_year v_sights_place v_sights_setter v_sheets0_form v_sheets0_size v_sheets0_items v_sheets1_form v_sheets1_size v_sheets1_items v_sheets2_form v_sheets2_size v_sheets2_items v_sheets3_form v_sheets3_size v_sheets3_items v_told_losers v_told_stones v_told_standing v_told_open v_told_fallen) := by
  have ht := h.2.2.2.2.2.2.1
  unfold f_x_type sp_type
  refine wp_bindE (q_x_isEither a0) (wp_ite (fun g => ?_) (fun g1 => ?_))
  · rw [if_pos g]; exact wp_some ⟨rfl, h⟩
  rw [if_neg g1]
  refine wp_bindE (s_within a1 0 255) (wp_ite (fun g => ?_) (fun g2 => ?_))
  · rw [if_pos g]; exact wp_some ⟨rfl, h⟩
  rw [if_neg g2]
  refine wp_bindE (t_of a0) ?_
  have h44 := h.1.1.1.1
  have h23 := h.1.1.2.1.1
  by_cases g3 : a0 = 0
  · rw [if_pos g3, if_pos g3]
    refine wp_pos rfl ?_
    have e0 := ht.1
    have e1 := ht.2.1
    subst e0 e1 g3
    refine wp_ite (fun g4 => ?_) (fun g4 => ?_)
    · have g5 : kA O.1 < 44 := (nI_ltX (b := 44) (by omega) (by decide)).mp g4
      rw [if_pos g5, cl (show kA O.1 < 2 ^ 31 by omega), show nI (kA O.1) + 1 = nI (kA O.1 + 1) from (nI_succ _).symm]
      refine wp_gd (inbN g5 (by decide)) ?_
      exact wp_bind (x_rW h (CK_W h.1 (by omega) (byt_up h.1.1.1.2 g2))) (fun o ho => wp_some ⟨rfl, ho⟩)
    · have g5 : ¬ kA O.1 < 44 := fun q => g4 ((nI_ltX (b := 44) (by omega) (by decide)).mpr q)
      rw [if_neg g5]; exact wp_some ⟨rfl, h⟩
  · rw [if_neg g3, if_neg g3]
    refine wp_neg (by decide) ?_
    have e0 := ht.2.2.1
    have e1 := ht.2.2.2.1
    subst e0 e1
    refine wp_ite (fun g4 => ?_) (fun g4 => ?_)
    · have g5 : kB O.1 < 23 := (nI_ltX (b := 23) (by omega) (by decide)).mp g4
      rw [if_pos g5, cl (show kB O.1 < 2 ^ 31 by omega), show nI (kB O.1) + 1 = nI (kB O.1 + 1) from (nI_succ _).symm]
      refine wp_gd (inbN g5 (by decide)) ?_
      exact wp_bind (x_rH h (CK_H h.1 (by omega) (byt_up h.1.1.2.1.2 g2)) g3) (fun o ho => wp_some ⟨rfl, ho⟩)
    · have g5 : ¬ kB O.1 < 23 := fun q => g4 ((nI_ltX (b := 23) (by omega) (by decide)).mpr q)
      rw [if_neg g5]; exact wp_some ⟨rfl, h⟩
theorem x_wipe {O : Om} {v_toldIsStale v_latestFinding v_wallText_length : Int32} {v_wallText_bytes : Nat → Int32} {v_handsText_length : Int32} {v_handsText_bytes : Nat → Int32} {v_wall_courses v_wall_columns v_wall_fault v_wall_jump : Int32} {v_wall_stones : Nat → Int64} {v_hands_told v_hands_fault : Int32} {v_hands_mood v_hands_strong : Nat → Int32} {v_frosts_told : Int32} {v_frosts_year v_frosts_force : Nat → Int32} {v_gappings_told : Int32} {v_gappings_year v_gappings_column v_gappings_hand : Nat → Int32} {v_sights_told : Int32} {v_sights_year v_sights_place v_sights_setter : Nat → Int32} {v_sheets0_form v_sheets0_size : Int32} {v_sheets0_items : Nat → Int32} {v_sheets1_form v_sheets1_size : Int32} {v_sheets1_items : Nat → Int32} {v_sheets2_form v_sheets2_size : Int32} {v_sheets2_items : Nat → Int32} {v_sheets3_form v_sheets3_size : Int32} {v_sheets3_items : Nat → Int32} {v_told_losers : Int32} {v_told_stones v_told_standing : Nat → Int64} {v_told_open v_told_fallen : Nat → Int32} {a0 : Int32} (h : CR O v_toldIsStale v_latestFinding v_wallText_length v_wallText_bytes v_handsText_length v_handsText_bytes v_wall_courses v_wall_columns v_wall_fault v_wall_jump v_wall_stones v_hands_told v_hands_fault v_hands_mood v_hands_strong v_frosts_told v_frosts_year v_frosts_force v_gappings_told v_gappings_year v_gappings_column v_gappings_hand v_sights_told v_sights_year v_sights_place v_sights_setter v_sheets0_form v_sheets0_size v_sheets0_items v_sheets1_form v_sheets1_size v_sheets1_items v_sheets2_form v_sheets2_size v_sheets2_items v_sheets3_form v_sheets3_size v_sheets3_items v_told_losers v_told_stones v_told_standing v_told_open v_told_fallen) : wp (f_x_wipe v_toldIsStale v_wallText_length v_wallText_bytes v_handsText_length v_handsText_bytes v_wall_courses v_wall_columns v_wall_fault v_wall_stones v_hands_told v_hands_fault v_hands_mood v_hands_strong a0) (fun r => r.1 = (sp_wipe O a0).1 ∧ CR ((sp_wipe O a0).2) r.2.1 v_latestFinding r.2.2.1 v_wallText_bytes r.2.2.2.1 v_handsText_bytes r.2.2.2.2.1 r.2.2.2.2.2.1 r.2.2.2.2.2.2.1 v_wall_jump r.2.2.2.2.2.2.2.1 r.2.2.2.2.2.2.2.2.1 r.2.2.2.2.2.2.2.2.2.1 r.2.2.2.2.2.2.2.2.2.2.1 r.2.2.2.2.2.2.2.2.2.2.2 v_frosts_told v_frosts_year v_frosts_force v_gappings_told v_gappings_year v_gappings_column v_gappings_hand v_sights_told v_sights_year v_sights_place v_sights_setter v_sheets0_form v_sheets0_size v_sheets0_items v_sheets1_form v_sheets1_size v_sheets1_items v_sheets2_form v_sheets2_size v_sheets2_items v_sheets3_form v_sheets3_size v_sheets3_items v_told_losers v_told_stones v_told_standing v_told_open v_told_fallen) := by
  have ht := h.2.2.2.2.2.2.1
  unfold f_x_wipe sp_wipe
  refine wp_bindE (q_x_isEither a0) (wp_ite (fun g => ?_) (fun g1 => ?_))
  · rw [if_pos g]; exact wp_some ⟨rfl, h⟩
  rw [if_neg g1]
  refine wp_bindE (t_of a0) ?_
  by_cases g3 : a0 = 0
  · rw [if_pos g3, if_pos g3]
    refine wp_pos rfl ?_
    have e0 := ht.1
    have e1 := ht.2.1
    subst e0 e1 g3
    exact wp_bind (x_rW h (wb := kWb O.1) (a := 0) (CK_W h.1 (by omega) (byt_dn h.1.1.1.2 (by omega)))) (fun o ho => wp_some ⟨rfl, ho⟩)
  · rw [if_neg g3, if_neg g3]
    refine wp_neg (by decide) ?_
    have e0 := ht.2.2.1
    have e1 := ht.2.2.2.1
    subst e0 e1
    exact wp_bind (x_rH h (hb := kHb O.1) (b := 0) (CK_H h.1 (by omega) (byt_dn h.1.1.2.1.2 (by omega))) g3) (fun o ho => wp_some ⟨rfl, ho⟩)
theorem x_undo {O : Om} {v_toldIsStale v_latestFinding v_wallText_length : Int32} {v_wallText_bytes : Nat → Int32} {v_handsText_length : Int32} {v_handsText_bytes : Nat → Int32} {v_wall_courses v_wall_columns v_wall_fault v_wall_jump : Int32} {v_wall_stones : Nat → Int64} {v_hands_told v_hands_fault : Int32} {v_hands_mood v_hands_strong : Nat → Int32} {v_frosts_told : Int32} {v_frosts_year v_frosts_force : Nat → Int32} {v_gappings_told : Int32} {v_gappings_year v_gappings_column v_gappings_hand : Nat → Int32} {v_sights_told : Int32} {v_sights_year v_sights_place v_sights_setter : Nat → Int32} {v_sheets0_form v_sheets0_size : Int32} {v_sheets0_items : Nat → Int32} {v_sheets1_form v_sheets1_size : Int32} {v_sheets1_items : Nat → Int32} {v_sheets2_form v_sheets2_size : Int32} {v_sheets2_items : Nat → Int32} {v_sheets3_form v_sheets3_size : Int32} {v_sheets3_items : Nat → Int32} {v_told_losers : Int32} {v_told_stones v_told_standing : Nat → Int64} {v_told_open v_told_fallen : Nat → Int32} {a0 : Int32} (h : CR O v_toldIsStale v_latestFinding v_wallText_length v_wallText_bytes v_handsText_length v_handsText_bytes v_wall_courses v_wall_columns v_wall_fault v_wall_jump v_wall_stones v_hands_told v_hands_fault v_hands_mood v_hands_strong v_frosts_told v_frosts_year v_frosts_force v_gappings_told v_gappings_year v_gappings_column v_gappings_hand v_sights_told v_sights_year v_sights_place v_sights_setter v_sheets0_form v_sheets0_size v_sheets0_items v_sheets1_form v_sheets1_size v_sheets1_items v_sheets2_form v_sheets2_size v_sheets2_items v_sheets3_form v_sheets3_size v_sheets3_items v_told_losers v_told_stones v_told_standing v_told_open v_told_fallen) : wp (f_x_undo v_toldIsStale v_wallText_length v_wallText_bytes v_handsText_length v_handsText_bytes v_wall_courses v_wall_columns v_wall_fault v_wall_stones v_hands_told v_hands_fault v_hands_mood v_hands_strong a0) (fun r => r.1 = (sp_undo O a0).1 ∧ CR ((sp_undo O a0).2) r.2.1 v_latestFinding r.2.2.1 v_wallText_bytes r.2.2.2.1 v_handsText_bytes r.2.2.2.2.1 r.2.2.2.2.2.1 r.2.2.2.2.2.2.1 v_wall_jump r.2.2.2.2.2.2.2.1 r.2.2.2.2.2.2.2.2.1 r.2.2.2.2.2.2.2.2.2.1 r.2.2.2.2.2.2.2.2.2.2.1 r.2.2.2.2.2.2.2.2.2.2.2 v_frosts_told v_frosts_year v_frosts_force v_gappings_told v_gappings_year v_gappings_column v_gappings_hand v_sights_told v_sights_year v_sights_place v_sights_setter v_sheets0_form v_sheets0_size v_sheets0_items v_sheets1_form v_sheets1_size v_sheets1_items v_sheets2_form v_sheets2_size v_sheets2_items v_sheets3_form v_sheets3_size v_sheets3_items v_told_losers v_told_stones v_told_standing v_told_open v_told_fallen) := by
  have ht := h.2.2.2.2.2.2.1
  have h44 := h.1.1.1.1
  have h23 := h.1.1.2.1.1
  unfold f_x_undo sp_undo
  refine wp_bindE (q_x_isEither a0) (wp_ite (fun g => ?_) (fun g1 => ?_))
  · rw [if_pos g]; exact wp_some ⟨rfl, h⟩
  rw [if_neg g1]
  refine wp_bindE (t_of a0) ?_
  by_cases g3 : a0 = 0
  · rw [if_pos g3, if_pos g3]
    refine wp_pos rfl ?_
    have e0 := ht.1
    have e1 := ht.2.1
    subst e0 e1 g3
    refine wp_ite (fun g4 => ?_) (fun g4 => ?_)
    · have g5 : kA O.1 = 0 := (nI_eqI (b := 0) (by omega) (by decide)).mp g4
      rw [if_pos g5]; exact wp_some ⟨rfl, h⟩
    · have g5 : ¬ kA O.1 = 0 := fun q => g4 ((nI_eqI (b := 0) (by omega) (by decide)).mpr q)
      rw [if_neg g5, show (1 : Int32) = nI 1 from rfl, nI_subI (by omega)]
      exact wp_bind (x_rW h (wb := kWb O.1) (a := kA O.1 - 1) (CK_W h.1 (by omega) (byt_dn h.1.1.1.2 (by omega)))) (fun o ho => wp_some ⟨rfl, ho⟩)
  · rw [if_neg g3, if_neg g3]
    refine wp_neg (by decide) ?_
    have e0 := ht.2.2.1
    have e1 := ht.2.2.2.1
    subst e0 e1
    refine wp_ite (fun g4 => ?_) (fun g4 => ?_)
    · have g5 : kB O.1 = 0 := (nI_eqI (b := 0) (by omega) (by decide)).mp g4
      rw [if_pos g5]; exact wp_some ⟨rfl, h⟩
    · have g5 : ¬ kB O.1 = 0 := fun q => g4 ((nI_eqI (b := 0) (by omega) (by decide)).mpr q)
      rw [if_neg g5, show (1 : Int32) = nI 1 from rfl, nI_subI (by omega)]
      exact wp_bind (x_rH h (hb := kHb O.1) (b := kB O.1 - 1) (CK_H h.1 (by omega) (byt_dn h.1.1.2.1.2 (by omega))) g3) (fun o ho => wp_some ⟨rfl, ho⟩)
