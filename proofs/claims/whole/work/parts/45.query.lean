/-! WHAT IS ASKED OF THE YEARS: both sides answer by the situation -/
theorem isB_wi (v a b : Int32) : isB (wi v a b) = true := by
  rcases wi_01 v a b with h | h <;> rw [h] <;> decide
theorem q_x_isYear (v : Int32) : f_x_isYear v = some (wi v 0 19) := by
  unfold f_x_isYear; rw [s_within]; show gd (isB (wi v 0 19)) _ = _; rw [isB_wi]; rfl
theorem q_x_isSheet (v : Int32) : f_x_isSheet v = some (wi v 0 3) := by
  unfold f_x_isSheet; rw [s_within]; show gd (isB (wi v 0 3)) _ = _; rw [isB_wi]; rfl
theorem q_x_isForm (v : Int32) : f_x_isForm v = some (wi v 0 2) := by
  unfold f_x_isForm; rw [s_within]; show gd (isB (wi v 0 2)) _ = _; rw [isB_wi]; rfl
theorem q_hs_has (n v : Int32) : f_hs_has n v = some (wi v 0 (n - 1)) := by
  unfold f_hs_has; rw [s_within]; show gd (isB (wi v 0 (n - 1))) _ = _; rw [isB_wi]; rfl
theorem q_m_isText (v : Int32) : f_m_isText v = some (wi v 0 1) := by
  unfold f_m_isText; rw [s_in]; show gd (isB (wi v 0 1)) _ = _; rw [isB_wi]; rfl
theorem q_m_isYear (v : Int32) : f_m_isYear v = some (wi v 0 19) := by
  unfold f_m_isYear; rw [s_in]; show gd (isB (wi v 0 19)) _ = _; rw [isB_wi]; rfl
theorem q_m_isEight (v : Int32) : f_m_isEight v = some (wi v 0 7) := by
  unfold f_m_isEight; rw [s_in]; show gd (isB (wi v 0 7)) _ = _; rw [isB_wi]; rfl
theorem q_m_isSheet (v : Int32) : f_m_isSheet v = some (wi v 0 3) := by
  unfold f_m_isSheet; rw [s_in]; show gd (isB (wi v 0 3)) _ = _; rw [isB_wi]; rfl
theorem wi_nat {v : Int32} (m : Nat) (hm : m < 2 ^ 31) (h : ¬ wi v 0 (nI m) = 0) : ∃ i, i ≤ m ∧ v = nI i := nI_ofX (wi_yes h).1 (wi_yes h).2 hm
theorem q_x_isEither (v : Int32) : f_x_isEither v = some (wi v 0 1) := by
  unfold f_x_isEither
  by_cases h0 : v = 0
  · rw [if_pos h0, h0]; rfl
  · rw [if_neg h0]
    by_cases h1 : v = 1
    · rw [if_pos h1, h1]; rfl
    · rw [if_neg h1]
      rcases wi_01 v 0 1 with e | e
      · rw [e]
      · exfalso
        obtain ⟨i, hi, rfl⟩ := wi_nat (v := v) 1 (by decide) (by rw [show nI 1 = 1 from rfl, e]; decide)
        rcases (show i = 0 ∨ i = 1 by omega) with z | z
        · exact h0 (by rw [z]; rfl)
        · exact h1 (by rw [z]; rfl)
def pl (a b : Int32) : Int32 := if wi a 0 4 = 0 then 0 else if wi b 0 7 = 0 then 0 else 1
theorem q_x_isPlace (a b : Int32) : f_x_isPlace a b = some (pl a b) := by
  unfold f_x_isPlace pl
  rw [s_within]
  show (if wi a 0 4 = 0 then _ else (f_x_within b 0 7).bind _) = _
  rw [s_within]
  by_cases h1 : wi a 0 4 = 0
  · rw [if_pos h1, if_pos h1]
  · rw [if_neg h1, if_neg h1]
    show (if wi b 0 7 = 0 then _ else _) = _
    by_cases h2 : wi b 0 7 = 0
    · rw [if_pos h2, if_pos h2]
    · rw [if_neg h2, if_neg h2]
theorem q_m_isPlace (a b : Int32) : f_m_isPlace a b = some (pl a b) := by
  unfold f_m_isPlace pl
  rw [s_in]
  show (if wi a 0 4 = 0 then _ else (f_m_isEight b).bind _) = _
  rw [q_m_isEight]
  by_cases h1 : wi a 0 4 = 0
  · rw [if_pos h1, if_pos h1]
  · rw [if_neg h1, if_neg h1]
    show (if wi b 0 7 = 0 then _ else _) = _
    by_cases h2 : wi b 0 7 = 0
    · rw [if_pos h2, if_pos h2]
    · rw [if_neg h2, if_neg h2]
theorem pl_nat {a b : Int32} (h : ¬ pl a b = 0) : ∃ c k, c < 5 ∧ k < 8 ∧ a = nI c ∧ b = nI k := by
  unfold pl at h
  by_cases h1 : wi a 0 4 = 0
  · rw [if_pos h1] at h; exact absurd rfl h
  · rw [if_neg h1] at h
    by_cases h2 : wi b 0 7 = 0
    · rw [if_pos h2] at h; exact absurd rfl h
    · obtain ⟨c, hc, e⟩ := wi_nat 4 (by decide) h1
      obtain ⟨k, hk, e'⟩ := wi_nat 7 (by decide) h2
      exact ⟨c, k, by omega, by omega, e, e'⟩
theorem wi_n {i m : Nat} (h : i ≤ m) (hm : m < 2 ^ 31) : wi (nI i) 0 (nI m) = 1 := wi_in ((nI_leX (a := 0) (by decide) (by omega)).mpr (Nat.zero_le _)) ((nI_leX (by omega) hm).mpr h)
theorem pl_n {c k : Nat} (hc : c < 5) (hk : k < 8) : pl (nI c) (nI k) = 1 := by
  unfold pl
  rw [show wi (nI c) 0 4 = 1 from wi_n (m := 4) (by omega) (by decide), show wi (nI k) 0 7 = 1 from wi_n (m := 7) (by omega) (by decide)]
  rfl
theorem e8n (c k : Nat) : (8 : Int32) * nI c + nI k = nI (8 * c + k) := by
  rw [show (8 : Int32) * nI c = nI (8 * c) from nI_mulI 8 c, nI_addI]
theorem cl {n : Nat} (h : n < 2 ^ 31) : (nI n).toNatClampNeg = n := nI_clamp h
/-! what is answered -/
def vAt (S : Sit) (y p : Nat) (w : Int32) : Int32 := if w = 0 then wsY S (y + 1) p else Int32.ofInt (hldV (Sn S) (Smd S) (Sst S) (wsY S (y + 1)) p)
def vCol (S : Sit) (y c : Nat) (w : Int32) : Int32 := if w = 0 then nI (colCnt (isS (wsY S (y + 1))) c) else b2i (thr (Sn S) (Smd S) (Sj S) (wsY S (y + 1)) c)
def vSheep (S : Sit) (w : Int32) : Int32 := if w = 0 then shF S 20 else nI (shM S 20)
def vMine (S : Sit) (h : Nat) : Nat := bct (isH (wsY S 20) h) 40
def bst (f : Nat → Nat) : Nat → Int32 × Nat
  | 0 => (-1, 0)
  | k + 1 => if f k ≤ (bst f k).2 then bst f k else (nI k, f k)
def A_at (S : Sit) (a0 a1 a2 a3 : Int32) : Int32 := if wi a0 0 19 = 0 then -2 else if pl a1 a2 = 0 then -2 else if wi a3 0 1 = 0 then -2 else vAt S a0.toNatClampNeg (8 * a1.toNatClampNeg + a2.toNatClampNeg) a3
def A_column (S : Sit) (a0 a1 a2 : Int32) : Int32 := if wi a0 0 19 = 0 then -2 else if wi a1 0 (nI (SW S) - 1) = 0 then -2 else if wi a2 0 1 = 0 then -2 else vCol S a0.toNatClampNeg a1.toNatClampNeg a2
def A_falls (S : Sit) (a0 : Int32) : Int32 := if wi a0 0 19 = 0 then -2 else nI (feY S a0.toNatClampNeg)
def A_sheep (S : Sit) (a0 : Int32) : Int32 := if wi a0 0 1 = 0 then -2 else vSheep S a0
def A_mine (S : Sit) (a0 : Int32) : Int32 := if wi a0 0 7 = 0 then -2 else nI (vMine S a0.toNatClampNeg)
theorem of_toI {x : Int32} {v : Int} (h : x.toInt = v) : x = Int32.ofInt v := by rw [← h, Int32.ofInt_toInt]
/-- an index below n as it is tested against n - 1 -/
theorem wi_m1 {v : Int32} {n : Nat} (hn : n < 2 ^ 31) (h : ¬ wi v 0 (nI n - 1) = 0) : ∃ i, i < n ∧ v = nI i := by
  cases n with
  | zero =>
    exfalso
    obtain ⟨h1, h2⟩ := wi_yes h
    have := Int32.le_trans h1 h2
    exact absurd this (by decide)
  | succ n =>
    have e : nI (n + 1) - 1 = nI n := by rw [nI_succ]; exact Int32.add_sub_cancel _ _
    rw [e] at h
    obtain ⟨i, hi, e'⟩ := wi_nat n (by omega) h
    exact ⟨i, by omega, e'⟩
theorem wi_lt {i n : Nat} (h : i < n) (hn : n < 2 ^ 31) : wi (nI i) 0 (nI n - 1) = 1 := by
  cases n with
  | zero => omega
  | succ n =>
    have e : nI (n + 1) - 1 = nI n := by rw [nI_succ]; exact Int32.add_sub_cancel _ _
    rw [e]
    exact wi_n (by omega) (by omega)
theorem bt1 {x : Int32} {k : Nat} (hk : k < 32) : (ushr x (nI k)) &&& (1 : Int32) = b2i (bt x k) := by
  have h1 : ∀ i, i < 32 → bt (1 : Int32) i = decide (i = 0) := by decide +kernel
  apply b_ext
  intro i hi
  rw [b_and, h1 i hi]
  unfold ushr
  rw [b_ushr k hk]
  by_cases e : i = 0
  · subst e
    rw [decide_eq_true rfl, Bool.and_true, Nat.add_zero]
    unfold b2i
    cases bt x k with
    | true => exact (h1 0 (by decide)).symm
    | false => exact (b_0 0).symm
  · rw [decide_eq_false e, Bool.and_false]
    unfold b2i
    cases bt x k with
    | true => rw [if_pos rfl, h1 i hi, decide_eq_false e]
    | false => exact (b_0 i).symm
/-! the class -/
theorem k_holdBehind {S : Sit} {losers : Int32} {stones standing : Nat → Int64} {opn fallen : Nat → Int32} (hS : Sok S) (hI : Sin S) (hR : RunC S losers stones standing opn fallen) {n : Int32} {mood strong : Nat → Int32} (hh : CIh S n mood strong) (all0 : Int64) (now0 : Nat → Int64) {y p : Nat} (hy : y < 20) (hp : p < 40) : wp (f_ys_holdBehind all0 n mood strong now0 stones standing (nI y) (nI p)) (fun r => r.1 = Int32.ofInt (hldV (Sn S) (Smd S) (Sst S) (wsY S (y + 1)) p)) := by
  obtain ⟨rfl, hh⟩ := hh
  have hE : SitEq S ((Sn S, mood, strong), S.2) := ⟨rfl, fun k hk => ⟨(hh k hk).1.symm, (hh k hk).2.symm⟩, rfl, fun k hk => ⟨rfl, rfl, rfl⟩, rfl, fun k hk => ⟨rfl, rfl, rfl⟩, rfl, rfl, rfl, rfl⟩
  have hE' : SitEq ((Sn S, mood, strong), S.2) S := ⟨rfl, hh, rfl, fun k hk => ⟨rfl, rfl, rfl⟩, rfl, fun k hk => ⟨rfl, rfl, rfl⟩, rfl, rfl, rfl, rfl⟩
  refine wp_mono (s_holdBehind (S := ((Sn S, mood, strong), S.2)) (Sok_sq hE' hS) (Sin_sq hE' hI) (sq_RunC hE hR) all0 now0 hy hp) (fun r h => ?_)
  rw [sq_hld hE, sq_ws hE]
  exact of_toI h
theorem k_x_at {S : Sit} (hS : Sok S) (hI : Sin S) (hA : Sab S = 0) {v_toldIsStale : Int32} {v_wall_courses : Int32} {v_wall_columns : Int32} {v_wall_jump : Int32} {v_wall_stones : Nat → Int64} {v_hands_told : Int32} {v_hands_mood : Nat → Int32} {v_hands_strong : Nat → Int32} {v_frosts_told : Int32} {v_frosts_year : Nat → Int32} {v_frosts_force : Nat → Int32} {v_gappings_told : Int32} {v_gappings_year : Nat → Int32} {v_gappings_column : Nat → Int32} {v_gappings_hand : Nat → Int32} {v_told_all : Int64} {v_told_losers : Int32} {v_told_now : Nat → Int64} {v_told_stones : Nat → Int64} {v_told_standing : Nat → Int64} {v_told_open : Nat → Int32} {v_told_fallen : Nat → Int32} {a0 : Int32} {a1 : Int32} {a2 : Int32} {a3 : Int32} (hw : CIw S v_wall_courses v_wall_columns v_wall_jump v_wall_stones) (hh : CIh S v_hands_told v_hands_mood v_hands_strong) (hf : CIf S v_frosts_told v_frosts_year v_frosts_force) (hg : CIg S v_gappings_told v_gappings_year v_gappings_column v_gappings_hand) (ht : CT S v_toldIsStale v_told_losers v_told_stones v_told_standing v_told_open v_told_fallen) : wp (f_x_at v_toldIsStale v_wall_courses v_wall_columns v_wall_jump v_wall_stones v_hands_told v_hands_mood v_hands_strong v_frosts_told v_frosts_year v_frosts_force v_gappings_told v_gappings_year v_gappings_column v_gappings_hand v_told_all v_told_losers v_told_now v_told_stones v_told_standing v_told_open v_told_fallen a0 a1 a2 a3) (fun r => r.1 = A_at S a0 a1 a2 a3 ∧ CT S r.2.1 r.2.2.2.1 r.2.2.2.2.2.1 r.2.2.2.2.2.2.1 r.2.2.2.2.2.2.2.1 r.2.2.2.2.2.2.2.2) := by
  unfold f_x_at A_at
  refine wp_bindE (q_x_isYear a0) (wp_ite (fun g => ?_) (fun g1 => ?_))
  · rw [if_pos g]; exact wp_some ⟨rfl, ht⟩
  rw [if_neg g1]
  refine wp_bindE (q_x_isPlace a1 a2) (wp_ite (fun g => ?_) (fun g2 => ?_))
  · rw [if_pos g]; exact wp_some ⟨rfl, ht⟩
  rw [if_neg g2]
  refine wp_bindE (q_x_isEither a3) (wp_ite (fun g => ?_) (fun g3 => ?_))
  · rw [if_pos g]; exact wp_some ⟨rfl, ht⟩
  rw [if_neg g3]
  obtain ⟨y, hy, rfl⟩ := wi_nat 19 (by decide) g1
  obtain ⟨c, k, hc, hk, rfl, rfl⟩ := pl_nat g2
  rw [cl (show y < 2 ^ 31 by omega), cl (show c < 2 ^ 31 by omega), cl (show k < 2 ^ 31 by omega), e8n]
  refine wp_bind (k_x_asTold hS hA hw hh hf hg ht) (fun o ho => ?_)
  unfold vAt
  refine wp_ite (fun g => ?_) (fun g => ?_)
  · rw [if_pos g]
    exact wp_bindE (s_setterBehind hS hI ho.2 (by omega) (by omega)) (wp_some ⟨rfl, Or.inl ho.1, fun _ => ho.2⟩)
  · rw [if_neg g]
    exact wp_bind (k_holdBehind hS hI ho.2 hh _ _ (by omega) (by omega)) (fun z hz => wp_some ⟨hz, Or.inl ho.1, fun _ => ho.2⟩)
theorem k_x_column {S : Sit} (hS : Sok S) (hI : Sin S) (hA : Sab S = 0) {v_toldIsStale : Int32} {v_wall_courses : Int32} {v_wall_columns : Int32} {v_wall_jump : Int32} {v_wall_stones : Nat → Int64} {v_hands_told : Int32} {v_hands_mood : Nat → Int32} {v_hands_strong : Nat → Int32} {v_frosts_told : Int32} {v_frosts_year : Nat → Int32} {v_frosts_force : Nat → Int32} {v_gappings_told : Int32} {v_gappings_year : Nat → Int32} {v_gappings_column : Nat → Int32} {v_gappings_hand : Nat → Int32} {v_told_all : Int64} {v_told_losers : Int32} {v_told_now : Nat → Int64} {v_told_stones : Nat → Int64} {v_told_standing : Nat → Int64} {v_told_open : Nat → Int32} {v_told_fallen : Nat → Int32} {a0 : Int32} {a1 : Int32} {a2 : Int32} (hw : CIw S v_wall_courses v_wall_columns v_wall_jump v_wall_stones) (hh : CIh S v_hands_told v_hands_mood v_hands_strong) (hf : CIf S v_frosts_told v_frosts_year v_frosts_force) (hg : CIg S v_gappings_told v_gappings_year v_gappings_column v_gappings_hand) (ht : CT S v_toldIsStale v_told_losers v_told_stones v_told_standing v_told_open v_told_fallen) : wp (f_x_column v_toldIsStale v_wall_courses v_wall_columns v_wall_jump v_wall_stones v_hands_told v_hands_mood v_hands_strong v_frosts_told v_frosts_year v_frosts_force v_gappings_told v_gappings_year v_gappings_column v_gappings_hand v_told_all v_told_losers v_told_now v_told_stones v_told_standing v_told_open v_told_fallen a0 a1 a2) (fun r => r.1 = A_column S a0 a1 a2 ∧ CT S r.2.1 r.2.2.2.1 r.2.2.2.2.2.1 r.2.2.2.2.2.2.1 r.2.2.2.2.2.2.2.1 r.2.2.2.2.2.2.2.2) := by
  have hW := hS.2.2.2.2.2.2.2.1
  unfold f_x_column A_column
  refine wp_bindE (q_x_isYear a0) (wp_ite (fun g => ?_) (fun g1 => ?_))
  · rw [if_pos g]; exact wp_some ⟨rfl, ht⟩
  rw [if_neg g1]
  refine wp_bindE (s_within _ _ _) ?_
  rw [hw.2.1]
  refine wp_ite (fun g => ?_) (fun g2 => ?_)
  · rw [if_pos g]; exact wp_some ⟨rfl, ht⟩
  rw [if_neg g2]
  refine wp_bindE (q_x_isEither a2) (wp_ite (fun g => ?_) (fun g3 => ?_))
  · rw [if_pos g]; exact wp_some ⟨rfl, ht⟩
  rw [if_neg g3]
  obtain ⟨y, hy, rfl⟩ := wi_nat 19 (by decide) g1
  obtain ⟨c, hc, rfl⟩ := wi_m1 (by omega) g2
  rw [cl (show y < 2 ^ 31 by omega), cl (show c < 2 ^ 31 by omega), ← hw.2.1]
  refine wp_bind (k_x_asTold hS hA hw hh hf hg ht) (fun o ho => ?_)
  unfold vCol
  refine wp_ite (fun g => ?_) (fun g => ?_)
  · rw [if_pos g]
    exact wp_bindE (s_highBehind ho.2 (by omega) (by omega)) (wp_some ⟨rfl, Or.inl ho.1, fun _ => ho.2⟩)
  · rw [if_neg g]
    refine wp_gd (inbN (by omega) (by decide)) (wp_some ⟨?_, Or.inl ho.1, fun _ => ho.2⟩)
    show (ushr _ _) &&& (1 : Int32) = _
    rw [bt1 (by omega), (ho.2.1 y (by omega)).2.2.1 c (by omega), decide_eq_true hc, Bool.true_and]
theorem k_x_falls {S : Sit} (hS : Sok S) (hI : Sin S) (hA : Sab S = 0) {v_toldIsStale : Int32} {v_wall_courses : Int32} {v_wall_columns : Int32} {v_wall_jump : Int32} {v_wall_stones : Nat → Int64} {v_hands_told : Int32} {v_hands_mood : Nat → Int32} {v_hands_strong : Nat → Int32} {v_frosts_told : Int32} {v_frosts_year : Nat → Int32} {v_frosts_force : Nat → Int32} {v_gappings_told : Int32} {v_gappings_year : Nat → Int32} {v_gappings_column : Nat → Int32} {v_gappings_hand : Nat → Int32} {v_told_all : Int64} {v_told_losers : Int32} {v_told_now : Nat → Int64} {v_told_stones : Nat → Int64} {v_told_standing : Nat → Int64} {v_told_open : Nat → Int32} {v_told_fallen : Nat → Int32} {a0 : Int32} (hw : CIw S v_wall_courses v_wall_columns v_wall_jump v_wall_stones) (hh : CIh S v_hands_told v_hands_mood v_hands_strong) (hf : CIf S v_frosts_told v_frosts_year v_frosts_force) (hg : CIg S v_gappings_told v_gappings_year v_gappings_column v_gappings_hand) (ht : CT S v_toldIsStale v_told_losers v_told_stones v_told_standing v_told_open v_told_fallen) : wp (f_x_falls v_toldIsStale v_wall_courses v_wall_columns v_wall_jump v_wall_stones v_hands_told v_hands_mood v_hands_strong v_frosts_told v_frosts_year v_frosts_force v_gappings_told v_gappings_year v_gappings_column v_gappings_hand v_told_all v_told_losers v_told_now v_told_stones v_told_standing v_told_open v_told_fallen a0) (fun r => r.1 = A_falls S a0 ∧ CT S r.2.1 r.2.2.2.1 r.2.2.2.2.2.1 r.2.2.2.2.2.2.1 r.2.2.2.2.2.2.2.1 r.2.2.2.2.2.2.2.2) := by
  unfold f_x_falls A_falls
  refine wp_bindE (q_x_isYear a0) (wp_ite (fun g => ?_) (fun g1 => ?_))
  · rw [if_pos g]; exact wp_some ⟨rfl, ht⟩
  rw [if_neg g1]
  obtain ⟨y, hy, rfl⟩ := wi_nat 19 (by decide) g1
  rw [cl (show y < 2 ^ 31 by omega)]
  refine wp_bind (k_x_asTold hS hA hw hh hf hg ht) (fun o ho => ?_)
  exact wp_gd (inbN (by omega) (by decide)) (wp_some ⟨(ho.2.1 y (by omega)).2.2.2, Or.inl ho.1, fun _ => ho.2⟩)
theorem k_x_sheep {S : Sit} (hS : Sok S) (hI : Sin S) (hA : Sab S = 0) {v_toldIsStale : Int32} {v_wall_courses : Int32} {v_wall_columns : Int32} {v_wall_jump : Int32} {v_wall_stones : Nat → Int64} {v_hands_told : Int32} {v_hands_mood : Nat → Int32} {v_hands_strong : Nat → Int32} {v_frosts_told : Int32} {v_frosts_year : Nat → Int32} {v_frosts_force : Nat → Int32} {v_gappings_told : Int32} {v_gappings_year : Nat → Int32} {v_gappings_column : Nat → Int32} {v_gappings_hand : Nat → Int32} {v_told_all : Int64} {v_told_losers : Int32} {v_told_now : Nat → Int64} {v_told_stones : Nat → Int64} {v_told_standing : Nat → Int64} {v_told_open : Nat → Int32} {v_told_fallen : Nat → Int32} {a0 : Int32} (hw : CIw S v_wall_courses v_wall_columns v_wall_jump v_wall_stones) (hh : CIh S v_hands_told v_hands_mood v_hands_strong) (hf : CIf S v_frosts_told v_frosts_year v_frosts_force) (hg : CIg S v_gappings_told v_gappings_year v_gappings_column v_gappings_hand) (ht : CT S v_toldIsStale v_told_losers v_told_stones v_told_standing v_told_open v_told_fallen) : wp (f_x_sheep v_toldIsStale v_wall_courses v_wall_columns v_wall_jump v_wall_stones v_hands_told v_hands_mood v_hands_strong v_frosts_told v_frosts_year v_frosts_force v_gappings_told v_gappings_year v_gappings_column v_gappings_hand v_told_all v_told_losers v_told_now v_told_stones v_told_standing v_told_open v_told_fallen a0) (fun r => r.1 = A_sheep S a0 ∧ CT S r.2.1 r.2.2.2.1 r.2.2.2.2.2.1 r.2.2.2.2.2.2.1 r.2.2.2.2.2.2.2.1 r.2.2.2.2.2.2.2.2) := by
  unfold f_x_sheep A_sheep
  refine wp_bindE (q_x_isEither a0) (wp_ite (fun g => ?_) (fun g1 => ?_))
  · rw [if_pos g]; exact wp_some ⟨rfl, ht⟩
  rw [if_neg g1]
  refine wp_bind (k_x_asTold hS hA hw hh hf hg ht) (fun o ho => ?_)
  unfold vSheep
  refine wp_ite (fun g => ?_) (fun g => ?_)
  · rw [if_pos g]
    exact wp_bindE (s_firstOpenYear hS ho.2) (wp_some ⟨rfl, Or.inl ho.1, fun _ => ho.2⟩)
  · rw [if_neg g]
    exact wp_bindE (s_openYears hS ho.2) (wp_some ⟨rfl, Or.inl ho.1, fun _ => ho.2⟩)
theorem k_x_mine {S : Sit} (hS : Sok S) (hI : Sin S) (hA : Sab S = 0) {v_toldIsStale : Int32} {v_wall_courses : Int32} {v_wall_columns : Int32} {v_wall_jump : Int32} {v_wall_stones : Nat → Int64} {v_hands_told : Int32} {v_hands_mood : Nat → Int32} {v_hands_strong : Nat → Int32} {v_frosts_told : Int32} {v_frosts_year : Nat → Int32} {v_frosts_force : Nat → Int32} {v_gappings_told : Int32} {v_gappings_year : Nat → Int32} {v_gappings_column : Nat → Int32} {v_gappings_hand : Nat → Int32} {v_told_all : Int64} {v_told_losers : Int32} {v_told_now : Nat → Int64} {v_told_stones : Nat → Int64} {v_told_standing : Nat → Int64} {v_told_open : Nat → Int32} {v_told_fallen : Nat → Int32} {a0 : Int32} (hw : CIw S v_wall_courses v_wall_columns v_wall_jump v_wall_stones) (hh : CIh S v_hands_told v_hands_mood v_hands_strong) (hf : CIf S v_frosts_told v_frosts_year v_frosts_force) (hg : CIg S v_gappings_told v_gappings_year v_gappings_column v_gappings_hand) (ht : CT S v_toldIsStale v_told_losers v_told_stones v_told_standing v_told_open v_told_fallen) : wp (f_x_mine v_toldIsStale v_wall_courses v_wall_columns v_wall_jump v_wall_stones v_hands_told v_hands_mood v_hands_strong v_frosts_told v_frosts_year v_frosts_force v_gappings_told v_gappings_year v_gappings_column v_gappings_hand v_told_all v_told_losers v_told_now v_told_stones v_told_standing v_told_open v_told_fallen a0) (fun r => r.1 = A_mine S a0 ∧ CT S r.2.1 r.2.2.2.1 r.2.2.2.2.2.1 r.2.2.2.2.2.2.1 r.2.2.2.2.2.2.2.1 r.2.2.2.2.2.2.2.2) := by
  unfold f_x_mine A_mine
  refine wp_bindE (s_within _ _ _) (wp_ite (fun g => ?_) (fun g1 => ?_))
  · rw [if_pos g]; exact wp_some ⟨rfl, ht⟩
  rw [if_neg g1]
  obtain ⟨h, hh8, rfl⟩ := wi_nat 7 (by decide) g1
  rw [cl (show h < 2 ^ 31 by omega)]
  refine wp_bind (k_x_asTold hS hA hw hh hf hg ht) (fun o ho => ?_)
  exact wp_bindE (s_lastingOf ho.2 (by omega)) (wp_some ⟨rfl, Or.inl ho.1, fun _ => ho.2⟩)
theorem vMine_le (S : Sit) (h : Nat) : vMine S h ≤ 40 := bct_le _ 40
theorem bst_le {f : Nat → Nat} {m : Nat} (h : ∀ k, f k ≤ m) : ∀ k, (bst f k).2 ≤ m
  | 0 => Nat.zero_le _
  | k + 1 => by
    show (if f k ≤ (bst f k).2 then bst f k else (nI k, f k)).2 ≤ m
    by_cases e : f k ≤ (bst f k).2
    · rw [if_pos e]; exact bst_le h k
    · rw [if_neg e]; exact h k
theorem bst_s (f : Nat → Nat) (k : Nat) : bst f (k + 1) = if f k ≤ (bst f k).2 then bst f k else (nI k, f k) := rfl
theorem k_x_best {S : Sit} (hS : Sok S) (hI : Sin S) (hA : Sab S = 0) {v_toldIsStale : Int32} {v_wall_courses : Int32} {v_wall_columns : Int32} {v_wall_jump : Int32} {v_wall_stones : Nat → Int64} {v_hands_told : Int32} {v_hands_mood : Nat → Int32} {v_hands_strong : Nat → Int32} {v_frosts_told : Int32} {v_frosts_year : Nat → Int32} {v_frosts_force : Nat → Int32} {v_gappings_told : Int32} {v_gappings_year : Nat → Int32} {v_gappings_column : Nat → Int32} {v_gappings_hand : Nat → Int32} {v_told_all : Int64} {v_told_losers : Int32} {v_told_now : Nat → Int64} {v_told_stones : Nat → Int64} {v_told_standing : Nat → Int64} {v_told_open : Nat → Int32} {v_told_fallen : Nat → Int32} (hw : CIw S v_wall_courses v_wall_columns v_wall_jump v_wall_stones) (hh : CIh S v_hands_told v_hands_mood v_hands_strong) (hf : CIf S v_frosts_told v_frosts_year v_frosts_force) (hg : CIg S v_gappings_told v_gappings_year v_gappings_column v_gappings_hand) (ht : CT S v_toldIsStale v_told_losers v_told_stones v_told_standing v_told_open v_told_fallen) : wp (f_x_best v_toldIsStale v_wall_courses v_wall_columns v_wall_jump v_wall_stones v_hands_told v_hands_mood v_hands_strong v_frosts_told v_frosts_year v_frosts_force v_gappings_told v_gappings_year v_gappings_column v_gappings_hand v_told_all v_told_losers v_told_now v_told_stones v_told_standing v_told_open v_told_fallen) (fun r => r.1 = (bst (vMine S) 8).1 ∧ CT S r.2.1 r.2.2.2.1 r.2.2.2.2.2.1 r.2.2.2.2.2.2.1 r.2.2.2.2.2.2.2.1 r.2.2.2.2.2.2.2.2) := by
  unfold f_x_best
  refine wp_bind (k_x_asTold hS hA hw hh hf hg ht) (fun o ho => ?_)
  refine wl_x_best_N12 (fun m v_toldIsStale v_told_all v_told_losers v_told_now v_told_stones v_told_standing v_told_open v_told_fallen x2 x3 x4 => (v_toldIsStale = 0 ∧ RunC S v_told_losers v_told_stones v_told_standing v_told_open v_told_fallen) ∧ ∃ k, k ≤ 8 ∧ x4 = nI k ∧ m = 8 - k ∧ x2 = (bst (vMine S) k).1 ∧ x3 = nI (bst (vMine S) k).2) ?_ 1000 8 _ _ _ _ _ _ _ _ _ _ _ (by decide) ⟨ho, 0, by decide, rfl, rfl, rfl, rfl⟩
  rintro m k12 ih v_toldIsStale v_told_all v_told_losers v_told_now v_told_stones v_told_standing v_told_open v_told_fallen x2 x3 x4 ⟨ho, k, hk, rfl, rfl, rfl, rfl⟩
  unfold f_x_best_N12
  have hb := bst_le (vMine_le S) k
  have hm := vMine_le S k
  refine wp_ite (fun g => ?_) (fun g => ?_)
  · have g' := (nI_leX (a := 8) (b := k) (by decide) (by omega)).mp g
    have e : k = 8 := by omega
    subst e
    exact wp_some ⟨rfl, Or.inl ho.1, fun _ => ho.2⟩
  · have g' : ¬ 8 ≤ k := fun q => g ((nI_leX (a := 8) (b := k) (by decide) (by omega)).mpr q)
    have e1 : nI k + 1 = nI (k + 1) := (nI_succ k).symm
    refine wp_bindE (s_lastingOf ho.2 (by omega)) ?_
    rw [e1]
    refine wp_ite (fun g1 => ?_) (fun g1 => ?_)
    · have g2 : vMine S k ≤ (bst (vMine S) k).2 := (nI_leX (by omega) (by omega)).mp g1
      exact ih (8 - (k + 1)) _ _ _ _ _ _ _ _ _ _ _ (by omega) ⟨ho, k + 1, by omega, rfl, rfl, by rw [bst_s, if_pos g2], by rw [bst_s, if_pos g2]⟩
    · have g2 : ¬ vMine S k ≤ (bst (vMine S) k).2 := fun q => g1 ((nI_leX (a := vMine S k) (by omega) (by omega)).mpr q)
      exact ih (8 - (k + 1)) _ _ _ _ _ _ _ _ _ _ _ (by omega) ⟨ho, k + 1, by omega, rfl, rfl, by rw [bst_s, if_neg g2], by rw [bst_s, if_neg g2]; rfl⟩
