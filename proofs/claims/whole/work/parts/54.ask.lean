/-! ASK, both sides -/
def mxx (g : Nat → Nat) : Nat → Nat
  | 0 => 0
  | k + 1 => if mxx g k < g k then g k else mxx g k
theorem mxx_s (g : Nat → Nat) (k : Nat) : mxx g (k + 1) = if mxx g k < g k then g k else mxx g k := rfl
theorem mxx_cong {g g' : Nat → Nat} : ∀ {n : Nat}, (∀ k, k < n → g k = g' k) → mxx g n = mxx g' n
  | 0, _ => rfl
  | n + 1, h => by rw [mxx_s, mxx_s, mxx_cong (fun k hk => h k (by omega)), h n (by omega)]
theorem mxx_le {g : Nat → Nat} {m : Nat} (h : ∀ k, g k ≤ m) : ∀ n, mxx g n ≤ m
  | 0 => Nat.zero_le _
  | n + 1 => by
    rw [mxx_s]
    by_cases e : mxx g n < g n
    · rw [if_pos e]; exact h n
    · rw [if_neg e]; exact mxx_le h n
theorem bct_s (p : Nat → Bool) (n : Nat) : bct p (n + 1) = bct p n + (if p n then 1 else 0) := rfl
def alk (f : Nat → Bool) (t : Nat → Nat) (a : Nat) : Nat := bct (fun i => f (1 + i) && decide (t a = t (1 + i))) 9
def mos (f : Nat → Bool) (t : Nat → Nat) : Nat := mxx (fun j => if f (1 + j) then alk f t (1 + j) else 0) 9
def vAlk (S : Sit) (G : Gt) (h y : Nat) : Nat := mos (fStr S G h) (fun v => stA S h v y)
def askB (m : Nat → Nat) : Nat → Nat × Nat
  | 0 => (0, m 0)
  | y + 1 => if m (y + 1) < (askB m y).2 then (y + 1, m (y + 1)) else askB m y
theorem askB_s (m : Nat → Nat) (y : Nat) : askB m (y + 1) = if m (y + 1) < (askB m y).2 then (y + 1, m (y + 1)) else askB m y := rfl
theorem askB_b {m : Nat → Nat} (h : ∀ y, m y ≤ 9) : ∀ y, (askB m y).1 ≤ y ∧ (askB m y).2 ≤ 9
  | 0 => ⟨Nat.le_refl _, h 0⟩
  | y + 1 => by
    have ih := askB_b h y
    rw [askB_s]
    by_cases e : m (y + 1) < (askB m y).2
    · rw [if_pos e]; exact ⟨Nat.le_refl _, h (y + 1)⟩
    · rw [if_neg e]; exact ⟨by omega, ih.2⟩
theorem mos_le (f : Nat → Bool) (t : Nat → Nat) : mos f t ≤ 9 := mxx_le (fun j => by
  show (if f (1 + j) then alk f t (1 + j) else 0) ≤ 9
  by_cases e : f (1 + j) = true
  · rw [if_pos e]; exact bct_le _ 9
  · rw [if_neg e]; exact Nat.zero_le _) 9
def vAsk (S : Sit) (G : Gt) (h : Nat) : Int32 := nI (askB (vAlk S G h) 19).1
def A_ask (S : Sit) (G : Gt) (a0 : Int32) : Int32 := if wi a0 0 (nI (Sn S) - 1) = 0 then -2 else vAsk S G a0.toNatClampNeg
/-- rows that were kept, of the first k strengths: r of them, the i-th of strength e i -/
def Rows (f : Nat → Bool) (k r : Nat) (e : Nat → Nat) : Prop := r ≤ k ∧ (∀ q : Nat → Bool, bct (fun j => f (1 + j) && q (1 + j)) k = bct (fun i => q (e i)) r) ∧ ∀ g : Nat → Nat, mxx (fun j => if f (1 + j) then g (1 + j) else 0) k = mxx (fun i => g (e i)) r
theorem Rows_0 (f : Nat → Bool) (e : Nat → Nat) : Rows f 0 0 e := ⟨Nat.le_refl _, fun _ => rfl, fun _ => rfl⟩
theorem Rows_n {f : Nat → Bool} {k r : Nat} {e : Nat → Nat} (h : Rows f k r e) (hf : f (1 + k) = false) : Rows f (k + 1) r e := by
  refine ⟨by have := h.1; omega, fun q => ?_, fun g => ?_⟩
  · rw [bct_s, hf, Bool.false_and, h.2.1 q]; rfl
  · rw [mxx_s, h.2.2 g, hf]
    exact if_neg (Nat.not_lt_zero _)
def eUp (e : Nat → Nat) (r v : Nat) (i : Nat) : Nat := if i = r then v else e i
theorem Rows_y {f : Nat → Bool} {k r : Nat} {e : Nat → Nat} (h : Rows f k r e) (hf : f (1 + k) = true) : Rows f (k + 1) (r + 1) (eUp e r (1 + k)) := by
  have e1 : ∀ i, i < r → eUp e r (1 + k) i = e i := fun i hi => if_neg (by omega)
  have e2 : eUp e r (1 + k) r = 1 + k := if_pos rfl
  refine ⟨by have := h.1; omega, fun q => ?_, fun g => ?_⟩
  · rw [bct_s, bct_s, e2, hf, Bool.true_and, h.2.1 q]
    rw [bct_cong (n := r) (p := fun i => q (e i)) (q := fun i => q (eUp e r (1 + k) i)) (fun i hi => by rw [e1 i hi])]
  · rw [mxx_s, mxx_s, e2, h.2.2 g, hf, if_pos rfl]
    rw [mxx_cong (n := r) (g := fun i => g (e i)) (g' := fun i => g (eUp e r (1 + k) i)) (fun i hi => by rw [e1 i hi])]
theorem Rows_mos {f : Nat → Bool} {r : Nat} {e : Nat → Nat} (h : Rows f 9 r e) (t : Nat → Nat) : mxx (fun i => bct (fun j => decide (t (e i) = t (e j))) r) r = mos f t := by
  unfold mos alk
  rw [h.2.2 (fun a => bct (fun i => f (1 + i) && decide (t a = t (1 + i))) 9)]
  exact mxx_cong (fun i _ => (h.2.1 (fun b => decide (t (e i) = t b))).symm)
theorem mmax_n {a b : Nat} (ha : a < 2 ^ 31) (hb : b < 2 ^ 31) : mmax (nI a) (nI b) = nI (if a < b then b else a) := by
  unfold mmax
  by_cases e : a < b
  · rw [if_pos e, if_pos ((nI_ltX ha hb).mpr e)]
  · rw [if_neg e, if_neg (fun q => e ((nI_ltX ha hb).mp q))]
theorem s_mostAlike {stood : Nat → Int32} {r y : Nat} (hr : r ≤ 9) (hy : y < 20) {t : Nat → Nat} (ht : ∀ i, t i ≤ 40) (hs : ∀ i, i < r → stood (20 * i + y) = nI (t i)) : f_x_mostAlike stood (nI r) (nI y) = some (nI (mxx (fun i => bct (fun j => decide (t i = t j)) r) r)) := by
  apply wp_get
  unfold f_x_mostAlike
  refine wl_x_mostAlike_N5 (fun m x1 x2 x3 x4 => x1 = nI r ∧ x2 = nI y ∧ ∃ i, i ≤ r ∧ x4 = nI i ∧ m = r - i ∧ x3 = nI (mxx (fun i => bct (fun j => decide (t i = t j)) r) i)) ?_ 1000 r _ _ _ _ (by omega) ⟨rfl, rfl, 0, by omega, rfl, by omega, rfl⟩
  rintro m k5 ih x1 x2 x3 x4 ⟨rfl, rfl, i, hi, rfl, rfl, rfl⟩
  unfold f_x_mostAlike_N5
  refine wp_ite (fun g => ?_) (fun g => ?_)
  · have g' : r ≤ i := (nI_leX (by omega) (by omega)).mp g
    have e : i = r := by omega
    subst e
    exact wp_some (by dsimp only <;> rfl)
  · have g' : i < r := Nat.lt_of_not_le (fun q => g ((nI_leX (by omega) (by omega)).mpr q))
    refine wl_x_mostAlike_N17 (fun m x1 x2 x3 x4 x5 x6 => x1 = nI r ∧ x2 = nI y ∧ x3 = nI (mxx (fun i => bct (fun j => decide (t i = t j)) r) i) ∧ x4 = nI i ∧ ∃ j, j ≤ r ∧ x6 = nI j ∧ m = r - j ∧ x5 = nI (bct (fun j => decide (t i = t j)) j)) ?_ 1000 r _ _ _ _ _ _ (by omega) ⟨rfl, rfl, rfl, rfl, 0, by omega, rfl, by omega, rfl⟩
    rintro m k17 ih2 x1 x2 x3 x4 x5 x6 ⟨rfl, rfl, rfl, rfl, j, hj, rfl, rfl, rfl⟩
    have hb := bct_le (fun j => decide (t i = t j)) j
    have hm := mxx_le (g := fun i => bct (fun j => decide (t i = t j)) r) (m := r) (fun k => bct_le _ r) i
    unfold f_x_mostAlike_N17
    refine wp_ite (fun g2 => ?_) (fun g2 => ?_)
    · have g3 : r ≤ j := (nI_leX (by omega) (by omega)).mp g2
      have e : j = r := by omega
      subst e
      rw [mmax_n (by omega) (by omega), show nI i + 1 = nI (i + 1) from (nI_succ i).symm]
      exact ih (j - (i + 1)) _ _ _ _ (by omega) ⟨rfl, rfl, i + 1, by omega, rfl, rfl, rfl⟩
    · have g3 : j < r := Nat.lt_of_not_le (fun q => g2 ((nI_leX (by omega) (by omega)).mpr q))
      rw [show (20 : Int32) = nI 20 from rfl, nI_mulI, nI_mulI, nI_addI, nI_addI, Nat.mul_comm i 20, Nat.mul_comm j 20, cl (show 20 * i + y < 2 ^ 31 by omega), cl (show 20 * j + y < 2 ^ 31 by omega), hs i g', hs j g3, show nI j + 1 = nI (j + 1) from (nI_succ j).symm]
      refine wp_gd (inbN (by omega) (by decide)) (wp_gd (inbN (by omega) (by decide)) ?_)
      have hq : nI (t i) = nI (t j) ↔ t i = t j := nI_eqI (by have := ht i; omega) (by have := ht j; omega)
      refine wp_ite (fun g4 => ?_) (fun g4 => ?_)
      · refine ih2 (r - (j + 1)) _ _ _ _ _ _ (by omega) ⟨rfl, rfl, rfl, rfl, j + 1, by omega, rfl, rfl, ?_⟩
        rw [bct_s, decide_eq_true (hq.mp g4), if_pos rfl]
        exact (nI_succ _).symm
      · refine ih2 (r - (j + 1)) _ _ _ _ _ _ (by omega) ⟨rfl, rfl, rfl, rfl, j + 1, by omega, rfl, rfl, ?_⟩
        rw [bct_s, decide_eq_false (fun q => g4 (hq.mpr q))]
        rfl
theorem s_tallyInto {S : Sit} {losers : Int32} {stones standing : Nat → Int64} {opn fallen : Nat → Int32} (hR : RunC S losers stones standing opn fallen) (row : Nat → Int32) {r : Nat} (hr : r < 9) : wp (f_ys_tallyInto standing row 180 (nI r * (20 : Int32))) (fun q => (∀ y, y < 20 → q (20 * r + y) = nI (bct (isS (wsY S (y + 1))) 40)) ∧ ∀ i, i < 20 * r → q i = row i) := by
  unfold f_ys_tallyInto
  rw [show (20 : Int32) = nI 20 from rfl, nI_mulI, Nat.mul_comm r 20]
  refine wl_ys_tallyInto_N2 (fun m p0 x2 x3 => x2 = nI (20 * r) ∧ ∃ y, y ≤ 20 ∧ x3 = nI y ∧ m = 20 - y ∧ (∀ z, z < y → p0 (20 * r + z) = nI (bct (isS (wsY S (z + 1))) 40)) ∧ ∀ i, i < 20 * r → p0 i = row i) ?_ 1000 20 _ _ _ (by decide) ⟨rfl, 0, by decide, rfl, rfl, fun z hz => absurd hz (by omega), fun _ _ => rfl⟩
  rintro m k2 ih p0 x2 x3 ⟨rfl, y, hy, rfl, rfl, h1, h2⟩
  unfold f_ys_tallyInto_N2
  refine wp_ite (fun g => ?_) (fun g => ?_)
  · have g' : 20 ≤ y := (nI_leX (a := 20) (by decide) (by omega)).mp g
    have e : y = 20 := by omega
    subst e
    exact wp_some ⟨h1, h2⟩
  · have g' : ¬ 20 ≤ y := fun q => g ((nI_leX (a := 20) (b := y) (by decide) (by omega)).mpr q)
    rw [nI_addI]
    refine wp_neg (fun q => ?_) ?_
    · have := (nI_leX (a := 180) (b := 20 * r + y) (by decide) (by omega)).mp q
      omega
    · rw [cl (show y < 2 ^ 31 by omega), cl (show 20 * r + y < 2 ^ 31 by omega), show nI y + 1 = nI (y + 1) from (nI_succ y).symm]
      refine wp_gd (inbN (by omega) (by decide)) (wp_bindE (s_bitCount _) (wp_gd (inbN (by omega) (by decide)) ?_))
      have e0 : bct (bl (standing y)) 64 = bct (isS (wsY S (y + 1))) 40 := by
        refine bct_ext (n := 40) (m := 64) (by decide) (fun q hq => ?_) (fun q hq _ => ?_)
        · exact ((hR.1 y (by omega)).2.1 q).symm
        · rw [(hR.1 y (by omega)).2.1 q]
          unfold isS
          rw [decide_eq_false (by omega), Bool.false_and]
      refine ih (20 - (y + 1)) _ _ _ (by omega) ⟨rfl, y + 1, by omega, rfl, rfl, fun z hz => ?_, fun i hi => ?_⟩
      · rw [upd_at]
        by_cases e : z = y
        · rw [if_pos (by omega), e, ← e0]
        · rw [if_neg (by omega)]; exact h1 z (by omega)
      · rw [upd_at, if_neg (by omega)]; exact h2 i hi
theorem stA_le (S : Sit) (h v y : Nat) : stA S h v y ≤ 40 := bct_le _ 40
theorem k_x_ask {S : Sit} (hS : Sok S) (hI : Sin S) (hA : Sab S = 0) {G : Gt} (hG : Gok G) {v_wall_courses : Int32} {v_wall_columns : Int32} {v_wall_jump : Int32} {v_wall_stones : Nat → Int64} {v_hands_told : Int32} {v_hands_mood : Nat → Int32} {v_hands_strong : Nat → Int32} {v_frosts_told : Int32} {v_frosts_year : Nat → Int32} {v_frosts_force : Nat → Int32} {v_gappings_told : Int32} {v_gappings_year : Nat → Int32} {v_gappings_column : Nat → Int32} {v_gappings_hand : Nat → Int32} {v_sights_told : Int32} {v_sights_year : Nat → Int32} {v_sights_place : Nat → Int32} {v_sights_setter : Nat → Int32} {v_trial_all : Int64} {v_trial_losers : Int32} {v_trial_now : Nat → Int64} {v_trial_stones : Nat → Int64} {v_trial_standing : Nat → Int64} {v_trial_open : Nat → Int32} {v_trial_fallen : Nat → Int32} {v_stood : Nat → Int32} {a0 : Int32} (hw : CIw S v_wall_courses v_wall_columns v_wall_jump v_wall_stones) (hh : CIh S v_hands_told v_hands_mood v_hands_strong) (hf : CIf S v_frosts_told v_frosts_year v_frosts_force) (hg : CIg S v_gappings_told v_gappings_year v_gappings_column v_gappings_hand) (hv : CIv G v_sights_told v_sights_year v_sights_place v_sights_setter) : wp (f_x_ask v_wall_courses v_wall_columns v_wall_jump v_wall_stones v_hands_told v_hands_mood v_hands_strong v_frosts_told v_frosts_year v_frosts_force v_gappings_told v_gappings_year v_gappings_column v_gappings_hand v_sights_told v_sights_year v_sights_place v_sights_setter v_trial_all v_trial_losers v_trial_now v_trial_stones v_trial_standing v_trial_open v_trial_fallen v_stood a0) (fun r => r.1 = A_ask S G a0 ∧ CIh S v_hands_told v_hands_mood r.2.1) := by
  have hn := hS.1
  have hh0 := hh
  obtain ⟨rfl, hh⟩ := hh
  unfold f_x_ask A_ask
  refine wp_bindE (q_hs_has _ a0) (wp_ite (fun g => ?_) (fun g1 => ?_))
  · rw [if_pos g]; exact wp_some ⟨by dsimp only <;> rfl, hh0⟩
  rw [if_neg g1]
  obtain ⟨h, hlt, rfl⟩ := wi_m1 (by omega) g1
  rw [cl (show h < 2 ^ 31 by omega)]
  refine wp_gd (inbN (by omega) (by decide)) ?_
  refine wl_x_ask_N29 (fun m v_hands_strong v_trial_all v_trial_losers v_trial_now v_trial_stones v_trial_standing v_trial_open v_trial_fallen v_stood x1 x2 x3 x4 => CIh S (nI (Sn S)) v_hands_mood (upd v_hands_strong h (Sst S h)) ∧ x1 = nI h ∧ x2 = Sst S h ∧ ∃ k r e, k ≤ 9 ∧ x4 = nI (1 + k) ∧ m = 9 - k ∧ x3 = nI r ∧ Rows (fStr S G h) k r e ∧ ∀ i, i < r → ∀ y, y < 20 → v_stood (20 * i + y) = nI (stA S h (e i) y)) ?_ 1000 9 _ _ _ _ _ _ _ _ _ _ _ _ _ (by decide) ⟨CIh_own hh0 h hlt, rfl, (hh h hlt).2, 0, 0, fun _ => 0, by decide, rfl, rfl, rfl, Rows_0 _ _, fun i hi => absurd hi (by omega)⟩
  rintro m k29 ih v_hands_strong v_trial_all v_trial_losers v_trial_now v_trial_stones v_trial_standing v_trial_open v_trial_fallen v_stood x1 x2 x3 x4 ⟨hc, rfl, rfl, k, r, e, hk, rfl, rfl, rfl, hRo, hs⟩
  have hrk := hRo.1
  unfold f_x_ask_N29
  rw [cl (show h < 2 ^ 31 by omega)]
  refine wp_ite (fun g => ?_) (fun g => ?_)
  · have g' : 9 < 1 + k := (nI_ltX (a := 9) (by decide) (by omega)).mp g
    have e9 : k = 9 := by omega
    subst e9
    refine wp_gd (inbN (by omega) (by decide)) ?_
    have hal : ∀ y, y < 20 → f_x_mostAlike v_stood (nI r) (nI y) = some (nI (vAlk S G h y)) := fun y hy => by
      rw [s_mostAlike (t := fun i => stA S h (e i) y) hrk hy (fun i => stA_le S h (e i) y) (fun i hi => hs i hi y hy)]
      exact congrArg some (congrArg nI (Rows_mos hRo (fun v => stA S h v y)))
    refine wp_bindE (hal 0 (by decide)) ?_
    refine wl_x_ask_N121 (fun m v_hands_strong v_trial_all v_trial_losers v_trial_now v_trial_stones v_trial_standing v_trial_open v_trial_fallen v_stood x3 x4 x5 x6 => CIh S (nI (Sn S)) v_hands_mood v_hands_strong ∧ (∀ y, y < 20 → f_x_mostAlike v_stood (nI r) (nI y) = some (nI (vAlk S G h y))) ∧ x3 = nI r ∧ ∃ y, y < 20 ∧ x6 = nI (y + 1) ∧ m = 20 - y ∧ x4 = nI (askB (vAlk S G h) y).1 ∧ x5 = nI (askB (vAlk S G h) y).2) ?_ 1000 20 _ _ _ _ _ _ _ _ _ _ _ _ _ (by decide) ⟨hc, hal, rfl, 0, by decide, rfl, rfl, rfl, rfl⟩
    clear hal hc hs
    rintro m k121 ih2 v_hands_strong v_trial_all v_trial_losers v_trial_now v_trial_stones v_trial_standing v_trial_open v_trial_fallen v_stood x3 x4 x5 x6 ⟨hc, hal, rfl, y, hy, rfl, rfl, rfl, rfl⟩
    have hb := askB_b (m := vAlk S G h) (fun y => mos_le _ _) y
    have hb2 := mos_le (fStr S G h) (fun v => stA S h v (y + 1))
    unfold f_x_ask_N121
    refine wp_ite (fun g2 => ?_) (fun g2 => ?_)
    · have g3 : 20 ≤ y + 1 := (nI_leX (a := 20) (by decide) (by omega)).mp g2
      have e : y = 19 := by omega
      subst e
      exact wp_some ⟨by dsimp only <;> rfl, hc⟩
    · have g3 : ¬ 20 ≤ y + 1 := fun q => g2 ((nI_leX (a := 20) (b := y + 1) (by decide) (by omega)).mpr q)
      refine wp_bindE (hal (y + 1) (by omega)) ?_
      rw [show nI (y + 1) + 1 = nI (y + 1 + 1) from (nI_succ (y + 1)).symm]
      have hq : nI (askB (vAlk S G h) y).2 ≤ nI (vAlk S G h (y + 1)) ↔ (askB (vAlk S G h) y).2 ≤ vAlk S G h (y + 1) := nI_leX (by omega) (by show mos _ _ < _; omega)
      refine wp_ite (fun g4 => ?_) (fun g4 => ?_)
      · have e5 : ¬ vAlk S G h (y + 1) < (askB (vAlk S G h) y).2 := Nat.not_lt.mpr (hq.mp g4)
        exact ih2 (20 - (y + 1)) _ _ _ _ _ _ _ _ _ _ _ _ _ (by omega) ⟨hc, hal, rfl, y + 1, by omega, rfl, rfl, by rw [askB_s, if_neg e5], by rw [askB_s, if_neg e5]⟩
      · have e5 : vAlk S G h (y + 1) < (askB (vAlk S G h) y).2 := Nat.lt_of_not_le (fun q => g4 (hq.mpr q))
        exact ih2 (20 - (y + 1)) _ _ _ _ _ _ _ _ _ _ _ _ _ (by omega) ⟨hc, hal, rfl, y + 1, by omega, rfl, rfl, by rw [askB_s, if_pos e5], by rw [askB_s, if_pos e5]⟩
  · have g' : ¬ 9 < 1 + k := fun q => g ((nI_ltX (a := 9) (b := 1 + k) (by decide) (by omega)).mpr q)
    refine wp_gd (inbN (by omega) (by decide)) ?_
    refine wp_bind (k_runw (S := wSt S (upd (Sst S) h (nI (1 + k)))) (wSt_okv hS h (by omega)) hA hw (CIh_st hc _) hf hg _ _ _ _ _ _ _) (fun o ho => ?_)
    refine wp_bindE (k_comeOut (wSt_okv hS h (by omega)) hI ho hG hv) ?_
    rw [show nI (1 + k) + 1 = nI (1 + (k + 1)) from (nI_succ (1 + k)).symm]
    refine wp_ite (fun g4 => ?_) (fun g4 => ?_)
    · have e2 : fStr S G h (1 + k) = false := (b2i_0 _).mp g4
      exact ih (9 - (k + 1)) _ _ _ _ _ _ _ _ _ _ _ _ _ (by omega) ⟨CIh_re hc _, rfl, rfl, k + 1, r, e, by omega, rfl, rfl, rfl, Rows_n hRo e2, hs⟩
    · have e2 : fStr S G h (1 + k) = true := b2i_1 g4
      refine wp_bind (s_tallyInto ho v_stood (show r < 9 by omega)) (fun q hq => ?_)
      rw [show nI r + 1 = nI (r + 1) from (nI_succ r).symm]
      refine ih (9 - (k + 1)) _ _ _ _ _ _ _ _ _ _ _ _ _ (by omega) ⟨CIh_re hc _, rfl, rfl, k + 1, r + 1, eUp e r (1 + k), by omega, rfl, rfl, rfl, Rows_y hRo e2, fun i hi y hy => ?_⟩
      by_cases e5 : i = r
      · rw [e5, show eUp e r (1 + k) r = 1 + k from if_pos rfl]; exact hq.1 y hy
      · rw [hq.2 (20 * i + y) (by omega), show eUp e r (1 + k) i = e i from if_neg e5]; exact hs i (by omega) y hy
theorem bt_bts (f : Nat → Bool) {o : Nat} : ∀ {j : Nat}, o + j ≤ 32 → ∀ i, i < 32 → bt (bts f o j) i = (decide (o ≤ i) && decide (i < o + j) && f i)
  | 0, _, i, hi => by
    show bt 0 i = _
    rw [b_0]
    by_cases e : o ≤ i
    · rw [decide_eq_true e, decide_eq_false (show ¬ i < o + 0 by omega)]; rfl
    · rw [decide_eq_false e]; rfl
  | j + 1, h, i, hi => by
    have ih := bt_bts f (o := o) (j := j) (by omega) i hi
    by_cases e : i = o + j
    · have e2 : decide (i < o + (j + 1)) = true := decide_eq_true (by omega)
      have e3 : decide (o ≤ i) = true := decide_eq_true (by omega)
      have e4 : decide (i < o + j) = false := decide_eq_false (by omega)
      rw [e2, e3, Bool.true_and, Bool.true_and]
      rw [e3, e4, Bool.true_and, Bool.false_and] at ih
      cases q : f (o + j) with
      | true => rw [bts_1 q, bt_or1 (by omega) i hi, decide_eq_true e, Bool.or_true, e, q]
      | false => rw [bts_0 q, ih, e, q]
    · have e2 : decide (i < o + (j + 1)) = decide (i < o + j) := by
        by_cases e3 : i < o + j
        · rw [decide_eq_true e3, decide_eq_true (by omega)]
        · rw [decide_eq_false e3, decide_eq_false (by omega)]
      rw [e2, ← ih]
      cases q : f (o + j) with
      | true => rw [bts_1 q, bt_or1 (by omega) i hi, decide_eq_false e, Bool.or_false]
      | false => rw [bts_0 q]
theorem bct_if (c : Bool) (p : Nat → Bool) (n : Nat) : bct (fun i => c && p i) n = if c then bct p n else 0 := by
  cases c with
  | true => rw [if_pos rfl]; exact bct_cong (fun k _ => Bool.true_and _)
  | false => rw [if_neg (by decide)]; exact bct_zero.mpr (fun k _ => rfl)
def AS (m : Nat → Nat) (y : Nat) (b l : Int32) : Prop := (y = 0 ∧ b = -1 ∧ l = 0) ∨ ∃ z, y = z + 1 ∧ b = nI (askB m z).1 ∧ l = nI (askB m z).2
theorem k_m_askOf {K : Kt} (hK : Kok K) {G : Gt} (hG : Gok G) {v_courses : Int32} {v_wide : Int32} {v_hands : Int32} {v_jumpTold : Int32} {v_frosts : Int32} {v_gaps : Int32} {v_frostsNow : Int32} {v_notFrosts : Int32} {v_gapsNow : Int32} {v_fell : Int32} {v_fellAll : Int32} {v_sheepFirst : Int32} {v_sheepMany : Int32} {v_seens : Int32} {v_typed : Nat → Int32} {v_texts : Nat → Int32} {v_told : Nat → Int32} {v_moods : Nat → Int32} {v_strongs : Nat → Int32} {v_frostYear : Nat → Int32} {v_frostForce : Nat → Int32} {v_gapYear : Nat → Int32} {v_gapColumn : Nat → Int32} {v_gapHand : Nat → Int32} {v_wall : Nat → Int32} {v_yearNow : Nat → Int32} {v_forceNow : Nat → Int32} {v_holdNow : Nat → Int32} {v_fellOf : Nat → Int32} {v_handAt : Nat → Int32} {v_holdAt : Nat → Int32} {v_fallsAt : Nat → Int32} {v_standAt : Nat → Int32} {v_highAt : Nat → Int32} {v_throughAt : Nat → Int32} {v_seenYear : Nat → Int32} {v_seenPlace : Nat → Int32} {v_seenHand : Nat → Int32} {v_standBy : Nat → Int32} {h : Nat} (hlt : h < Sn (SK K)) (hm : MP K v_typed v_texts v_jumpTold v_frosts v_frostYear v_frostForce v_gaps v_gapYear v_gapColumn v_gapHand) (hv : MIv G v_seens v_seenYear v_seenPlace v_seenHand) : wp (f_m_askOf v_courses v_wide v_hands v_jumpTold v_frosts v_gaps v_frostsNow v_notFrosts v_gapsNow v_fell v_fellAll v_sheepFirst v_sheepMany v_seens v_typed v_texts v_told v_moods v_strongs v_frostYear v_frostForce v_gapYear v_gapColumn v_gapHand v_wall v_yearNow v_forceNow v_holdNow v_fellOf v_handAt v_holdAt v_fallsAt v_standAt v_highAt v_throughAt v_seenYear v_seenPlace v_seenHand v_standBy (nI h)) (fun r => r.1 = vAsk (SK K) G h ∧ RK K r.2.1 r.2.2.1 r.2.2.2.1 r.2.2.2.2.2.2.2.2.2.2.2.1 r.2.2.2.2.2.2.2.2.2.2.2.2.1 r.2.2.2.2.2.2.2.2.2.2.2.2.2.1) := by
  unfold f_m_askOf
  refine wp_bind (k_m_strongBy hK hG hlt hm hv) (fun o ho => ?_)
  obtain ⟨h1, h2, h3⟩ := ho
  refine wl_m_askOf_N14 (fun m v_courses v_wide v_hands v_frostsNow v_notFrosts v_gapsNow v_fell v_fellAll v_sheepFirst v_sheepMany v_told v_moods v_strongs v_wall v_yearNow v_forceNow v_holdNow v_fellOf v_handAt v_holdAt v_fallsAt v_standAt v_highAt v_throughAt v_standBy x2 x3 x4 x5 => RK K v_courses v_wide v_hands v_told v_moods v_strongs ∧ x2 = bStr (SK K) G h ∧ (∀ v, 1 ≤ v → v ≤ 9 → ∀ y, y < 20 → v_standBy (20 * v + y) = nI (stA (SK K) h v y)) ∧ ∃ y, y ≤ 20 ∧ x5 = nI y ∧ m = 20 - y ∧ AS (vAlk (SK K) G h) y x3 x4) ?_ 1000 20 _ _ _ _ _ _ _ _ _ _ _ _ _ _ _ _ _ _ _ _ _ _ _ _ _ _ _ _ _ (by decide) ⟨h2, h1, h3, 0, by decide, rfl, rfl, Or.inl ⟨rfl, rfl, rfl⟩⟩
  clear h1 h2 h3
  rintro m k14 ih v_courses v_wide v_hands v_frostsNow v_notFrosts v_gapsNow v_fell v_fellAll v_sheepFirst v_sheepMany v_told v_moods v_strongs v_wall v_yearNow v_forceNow v_holdNow v_fellOf v_handAt v_holdAt v_fallsAt v_standAt v_highAt v_throughAt v_standBy x2 x3 x4 x5 ⟨h2, rfl, h3, y, hy, rfl, rfl, hAS⟩
  unfold f_m_askOf_N14
  refine wp_ite (fun g => ?_) (fun g => ?_)
  · have g' : 20 ≤ y := (nI_leX (a := 20) (by decide) (by omega)).mp g
    rcases hAS with ⟨q, -, -⟩ | ⟨z, q, e1, -⟩
    · omega
    · have ez : z = 19 := by omega
      subst ez
      exact wp_some ⟨e1, h2⟩
  · have g' : ¬ 20 ≤ y := fun q => g ((nI_leX (a := 20) (b := y) (by decide) (by omega)).mpr q)
    refine wl_m_askOf_N27 (fun m v_courses v_wide v_hands v_frostsNow v_notFrosts v_gapsNow v_fell v_fellAll v_sheepFirst v_sheepMany v_told v_moods v_strongs v_wall v_yearNow v_forceNow v_holdNow v_fellOf v_handAt v_holdAt v_fallsAt v_standAt v_highAt v_throughAt v_standBy x2 x3 x4 x5 x6 x7 => RK K v_courses v_wide v_hands v_told v_moods v_strongs ∧ x2 = bStr (SK K) G h ∧ (∀ v, 1 ≤ v → v ≤ 9 → ∀ y, y < 20 → v_standBy (20 * v + y) = nI (stA (SK K) h v y)) ∧ x5 = nI y ∧ AS (vAlk (SK K) G h) y x3 x4 ∧ ∃ i, i ≤ 9 ∧ x7 = nI (1 + i) ∧ m = 9 - i ∧ x6 = nI (mxx (fun j => if fStr (SK K) G h (1 + j) then alk (fStr (SK K) G h) (fun v => stA (SK K) h v y) (1 + j) else 0) i)) ?_ 1000 9 _ _ _ _ _ _ _ _ _ _ _ _ _ _ _ _ _ _ _ _ _ _ _ _ _ _ _ _ _ _ _ (by decide) ⟨h2, rfl, h3, rfl, hAS, 0, by decide, rfl, rfl, rfl⟩
    clear h2 h3 hAS
    rintro m k27 ih2 v_courses v_wide v_hands v_frostsNow v_notFrosts v_gapsNow v_fell v_fellAll v_sheepFirst v_sheepMany v_told v_moods v_strongs v_wall v_yearNow v_forceNow v_holdNow v_fellOf v_handAt v_holdAt v_fallsAt v_standAt v_highAt v_throughAt v_standBy x2 x3 x4 x5 x6 x7 ⟨h2, rfl, h3, rfl, hAS, i, hi, rfl, rfl, rfl⟩
    have hgl : ∀ j, (if fStr (SK K) G h (1 + j) then alk (fStr (SK K) G h) (fun v => stA (SK K) h v y) (1 + j) else 0) ≤ 9 := fun j => by
      by_cases e : fStr (SK K) G h (1 + j) = true
      · rw [if_pos e]; exact bct_le _ 9
      · rw [if_neg e]; exact Nat.zero_le _
    have hml := mxx_le hgl i
    unfold f_m_askOf_N27
    refine wp_ite (fun g2 => ?_) (fun g2 => ?_)
    · have g3 : 10 ≤ 1 + i := (nI_leX (a := 10) (by decide) (by omega)).mp g2
      have e9 : i = 9 := by omega
      subst e9
      unfold f_m_askOf_N144 f_m_askOf_N149 f_m_askOf_N162
      have e0 : ¬ (1 : Int32) = 0 := by decide
      have hmo : mxx (fun j => if fStr (SK K) G h (1 + j) then alk (fStr (SK K) G h) (fun v => stA (SK K) h v y) (1 + j) else 0) 9 = vAlk (SK K) G h y := rfl
      rw [hmo] at hml
      rw [hmo, show nI y + 1 = nI (y + 1) from (nI_succ y).symm]
      rcases hAS with ⟨q, e1, e2⟩ | ⟨z, q, e1, e2⟩
      · refine wp_pos e1 (wp_neg e0 (wp_neg e0 ?_))
        refine ih (20 - (y + 1)) _ _ _ _ _ _ _ _ _ _ _ _ _ _ _ _ _ _ _ _ _ _ _ _ _ _ _ _ _ (by omega) ⟨h2, rfl, h3, y + 1, by omega, rfl, rfl, Or.inr ⟨y, rfl, ?_, ?_⟩⟩
        · rw [q]; rfl
        · rw [q]; rfl
      · have hb := askB_b (m := vAlk (SK K) G h) (fun y => mos_le _ _) z
        have hq : nI (askB (vAlk (SK K) G h) z).2 ≤ nI (vAlk (SK K) G h y) ↔ (askB (vAlk (SK K) G h) z).2 ≤ vAlk (SK K) G h y := nI_leX (by omega) (by omega)
        have hst := askB_s (vAlk (SK K) G h) z
        rw [← q] at hst
        refine wp_neg (by rw [e1]; exact nI_ne1 (by omega)) ?_
        rw [e2]
        refine wp_ite (fun g4 => ?_) (fun g4 => ?_)
        · have e5 : ¬ vAlk (SK K) G h y < (askB (vAlk (SK K) G h) z).2 := Nat.not_lt.mpr (hq.mp g4)
          rw [if_neg e5] at hst
          refine wp_pos rfl (wp_pos rfl ?_)
          exact ih (20 - (y + 1)) _ _ _ _ _ _ _ _ _ _ _ _ _ _ _ _ _ _ _ _ _ _ _ _ _ _ _ _ _ (by omega) ⟨h2, rfl, h3, y + 1, by omega, rfl, rfl, Or.inr ⟨y, rfl, by rw [hst]; exact e1, by rw [hst]⟩⟩
        · have e5 : vAlk (SK K) G h y < (askB (vAlk (SK K) G h) z).2 := Nat.lt_of_not_le (fun q => g4 (hq.mpr q))
          rw [if_pos e5] at hst
          refine wp_neg e0 (wp_neg e0 ?_)
          exact ih (20 - (y + 1)) _ _ _ _ _ _ _ _ _ _ _ _ _ _ _ _ _ _ _ _ _ _ _ _ _ _ _ _ _ (by omega) ⟨h2, rfl, h3, y + 1, by omega, rfl, rfl, Or.inr ⟨y, rfl, by rw [hst], by rw [hst]⟩⟩
    · have g3 : ¬ 10 ≤ 1 + i := fun q => g2 ((nI_leX (a := 10) (b := 1 + i) (by decide) (by omega)).mpr q)
      refine wl_m_askOf_N40 (fun m v_courses v_wide v_hands v_frostsNow v_notFrosts v_gapsNow v_fell v_fellAll v_sheepFirst v_sheepMany v_told v_moods v_strongs v_wall v_yearNow v_forceNow v_holdNow v_fellOf v_handAt v_holdAt v_fallsAt v_standAt v_highAt v_throughAt v_standBy x2 x3 x4 x5 x6 x7 x8 x9 => RK K v_courses v_wide v_hands v_told v_moods v_strongs ∧ x2 = bStr (SK K) G h ∧ (∀ v, 1 ≤ v → v ≤ 9 → ∀ y, y < 20 → v_standBy (20 * v + y) = nI (stA (SK K) h v y)) ∧ x5 = nI y ∧ AS (vAlk (SK K) G h) y x3 x4 ∧ x7 = nI (1 + i) ∧ x6 = nI (mxx (fun j => if fStr (SK K) G h (1 + j) then alk (fStr (SK K) G h) (fun v => stA (SK K) h v y) (1 + j) else 0) i) ∧ ∃ j, j ≤ 9 ∧ x9 = nI (1 + j) ∧ m = 9 - j ∧ x8 = nI (bct (fun k => fStr (SK K) G h (1 + i) && (fStr (SK K) G h (1 + k) && decide (stA (SK K) h (1 + i) y = stA (SK K) h (1 + k) y))) j)) ?_ 1000 9 _ _ _ _ _ _ _ _ _ _ _ _ _ _ _ _ _ _ _ _ _ _ _ _ _ _ _ _ _ _ _ _ _ (by decide) ⟨h2, rfl, h3, rfl, hAS, rfl, rfl, 0, by decide, rfl, rfl, rfl⟩
      clear h2 h3 hAS
      rintro m k40 ih3 v_courses v_wide v_hands v_frostsNow v_notFrosts v_gapsNow v_fell v_fellAll v_sheepFirst v_sheepMany v_told v_moods v_strongs v_wall v_yearNow v_forceNow v_holdNow v_fellOf v_handAt v_holdAt v_fallsAt v_standAt v_highAt v_throughAt v_standBy x2 x3 x4 x5 x6 x7 x8 x9 ⟨h2, rfl, h3, rfl, hAS, rfl, rfl, j, hj, rfl, rfl, rfl⟩
      have hbl := bct_le (fun k => fStr (SK K) G h (1 + i) && (fStr (SK K) G h (1 + k) && decide (stA (SK K) h (1 + i) y = stA (SK K) h (1 + k) y))) j
      unfold f_m_askOf_N40
      refine wp_ite (fun g4 => ?_) (fun g4 => ?_)
      · have g5 : 10 ≤ 1 + j := (nI_leX (a := 10) (by decide) (by omega)).mp g4
        have e9 : j = 9 := by omega
        subst e9
        have hx : bct (fun k => fStr (SK K) G h (1 + i) && (fStr (SK K) G h (1 + k) && decide (stA (SK K) h (1 + i) y = stA (SK K) h (1 + k) y))) 9 = (if fStr (SK K) G h (1 + i) then alk (fStr (SK K) G h) (fun v => stA (SK K) h v y) (1 + i) else 0) := bct_if _ _ 9
        rw [hx] at hbl
        rw [hx, show nI (1 + i) + 1 = nI (1 + (i + 1)) from (nI_succ (1 + i)).symm]
        have hst := mxx_s (fun j => if fStr (SK K) G h (1 + j) then alk (fStr (SK K) G h) (fun v => stA (SK K) h v y) (1 + j) else 0) i
        have hq : nI (if fStr (SK K) G h (1 + i) then alk (fStr (SK K) G h) (fun v => stA (SK K) h v y) (1 + i) else 0) ≤ nI (mxx (fun j => if fStr (SK K) G h (1 + j) then alk (fStr (SK K) G h) (fun v => stA (SK K) h v y) (1 + j) else 0) i) ↔ (if fStr (SK K) G h (1 + i) then alk (fStr (SK K) G h) (fun v => stA (SK K) h v y) (1 + i) else 0) ≤ mxx (fun j => if fStr (SK K) G h (1 + j) then alk (fStr (SK K) G h) (fun v => stA (SK K) h v y) (1 + j) else 0) i := nI_leX (by omega) (by omega)
        refine wp_ite (fun g6 => ?_) (fun g6 => ?_)
        · rw [if_neg (Nat.not_lt.mpr (hq.mp g6))] at hst
          exact ih2 (9 - (i + 1)) _ _ _ _ _ _ _ _ _ _ _ _ _ _ _ _ _ _ _ _ _ _ _ _ _ _ _ _ _ _ _ (by omega) ⟨h2, rfl, h3, rfl, hAS, i + 1, by omega, rfl, rfl, by rw [hst]⟩
        · rw [if_pos (Nat.lt_of_not_le (fun q => g6 (hq.mpr q)))] at hst
          exact ih2 (9 - (i + 1)) _ _ _ _ _ _ _ _ _ _ _ _ _ _ _ _ _ _ _ _ _ _ _ _ _ _ _ _ _ _ _ (by omega) ⟨h2, rfl, h3, rfl, hAS, i + 1, by omega, rfl, rfl, by rw [hst]⟩
      · have g5 : ¬ 10 ≤ 1 + j := fun q => g4 ((nI_leX (a := 10) (b := 1 + j) (by decide) (by omega)).mpr q)
        have ba : ∀ a, a ≤ 8 → bt (bStr (SK K) G h) (1 + a) = fStr (SK K) G h (1 + a) := fun a ha => by
          have := bt_bts (fStr (SK K) G h) (o := 1) (j := 9) (by decide) (1 + a) (by omega)
          rw [decide_eq_true (show 1 ≤ 1 + a by omega), decide_eq_true (show 1 + a < 1 + 9 by omega), Bool.true_and, Bool.true_and] at this
          exact this
        unfold f_m_askOf_N100 f_m_askOf_N101
        rw [show nI (1 + j) + 1 = nI (1 + (j + 1)) from (nI_succ (1 + j)).symm]
        have hst := bct_s (fun k => fStr (SK K) G h (1 + i) && (fStr (SK K) G h (1 + k) && decide (stA (SK K) h (1 + i) y = stA (SK K) h (1 + k) y))) j
        have h0 : ∀ n : Nat, nI n + 0 = nI n := fun n => nI_addI n 0
        refine wp_bindE (s_isIn (show 1 + i < 31 by omega)) ?_
        rw [ba i (by omega)]
        refine wp_ite (fun g6 => ?_) (fun g6 => ?_)
        · rw [(b2i_0 _).mp g6] at hst
          rw [h0]
          refine ih3 (9 - (j + 1)) _ _ _ _ _ _ _ _ _ _ _ _ _ _ _ _ _ _ _ _ _ _ _ _ _ _ _ _ _ _ _ _ _ (by omega) ⟨h2, rfl, h3, rfl, hAS, rfl, rfl, j + 1, by omega, rfl, rfl, ?_⟩
          rw [(b2i_0 _).mp g6]
          exact congrArg nI hst.symm
        · rw [b2i_1 g6] at hst
          refine wp_bindE (s_isIn (show 1 + j < 31 by omega)) ?_
          rw [ba j (by omega)]
          refine wp_ite (fun g7 => ?_) (fun g7 => ?_)
          · rw [(b2i_0 _).mp g7] at hst
            rw [h0]
            refine ih3 (9 - (j + 1)) _ _ _ _ _ _ _ _ _ _ _ _ _ _ _ _ _ _ _ _ _ _ _ _ _ _ _ _ _ _ _ _ _ (by omega) ⟨h2, rfl, h3, rfl, hAS, rfl, rfl, j + 1, by omega, rfl, rfl, ?_⟩
            rw [b2i_1 g6]
            exact congrArg nI hst.symm
          · rw [b2i_1 g7] at hst
            rw [show (20 : Int32) = nI 20 from rfl, nI_mulI, nI_mulI, nI_addI, nI_addI, cl (show 20 * (1 + i) + y < 2 ^ 31 by omega), cl (show 20 * (1 + j) + y < 2 ^ 31 by omega), h3 (1 + i) (by omega) (by omega) y (by omega), h3 (1 + j) (by omega) (by omega) y (by omega)]
            refine wp_gd (inbN (by omega) (by decide)) (wp_gd (inbN (by omega) (by decide)) ?_)
            have hq : nI (stA (SK K) h (1 + i) y) = nI (stA (SK K) h (1 + j) y) ↔ stA (SK K) h (1 + i) y = stA (SK K) h (1 + j) y := nI_eqI (by have := stA_le (SK K) h (1 + i) y; omega) (by have := stA_le (SK K) h (1 + j) y; omega)
            refine wp_ite (fun g8 => ?_) (fun g8 => ?_)
            · rw [decide_eq_true (hq.mp g8)] at hst
              refine ih3 (9 - (j + 1)) _ _ _ _ _ _ _ _ _ _ _ _ _ _ _ _ _ _ _ _ _ _ _ _ _ _ _ _ _ _ _ _ _ (by omega) ⟨h2, rfl, h3, rfl, hAS, rfl, rfl, j + 1, by omega, rfl, rfl, ?_⟩
              rw [b2i_1 g6]
              exact (nI_succ _).symm.trans (congrArg nI hst.symm)
            · rw [decide_eq_false (fun q => g8 (hq.mpr q))] at hst
              rw [h0]
              refine ih3 (9 - (j + 1)) _ _ _ _ _ _ _ _ _ _ _ _ _ _ _ _ _ _ _ _ _ _ _ _ _ _ _ _ _ _ _ _ _ (by omega) ⟨h2, rfl, h3, rfl, hAS, rfl, rfl, j + 1, by omega, rfl, rfl, ?_⟩
              rw [b2i_1 g6]
              exact congrArg nI hst.symm
theorem k_m_ask {K : Kt} (hK : Kok K) {G : Gt} (hG : Gok G) {v_courses : Int32} {v_wide : Int32} {v_hands : Int32} {v_jumpTold : Int32} {v_frosts : Int32} {v_gaps : Int32} {v_frostsNow : Int32} {v_notFrosts : Int32} {v_gapsNow : Int32} {v_fell : Int32} {v_fellAll : Int32} {v_sheepFirst : Int32} {v_sheepMany : Int32} {v_seens : Int32} {v_typed : Nat → Int32} {v_texts : Nat → Int32} {v_told : Nat → Int32} {v_moods : Nat → Int32} {v_strongs : Nat → Int32} {v_frostYear : Nat → Int32} {v_frostForce : Nat → Int32} {v_gapYear : Nat → Int32} {v_gapColumn : Nat → Int32} {v_gapHand : Nat → Int32} {v_wall : Nat → Int32} {v_yearNow : Nat → Int32} {v_forceNow : Nat → Int32} {v_holdNow : Nat → Int32} {v_fellOf : Nat → Int32} {v_handAt : Nat → Int32} {v_holdAt : Nat → Int32} {v_fallsAt : Nat → Int32} {v_standAt : Nat → Int32} {v_highAt : Nat → Int32} {v_throughAt : Nat → Int32} {v_seenYear : Nat → Int32} {v_seenPlace : Nat → Int32} {v_seenHand : Nat → Int32} {v_standBy : Nat → Int32} {a0 : Int32} (hm : MP K v_typed v_texts v_jumpTold v_frosts v_frostYear v_frostForce v_gaps v_gapYear v_gapColumn v_gapHand) (hv : MIv G v_seens v_seenYear v_seenPlace v_seenHand) : wp (f_m_ask v_courses v_wide v_hands v_jumpTold v_frosts v_gaps v_frostsNow v_notFrosts v_gapsNow v_fell v_fellAll v_sheepFirst v_sheepMany v_seens v_typed v_texts v_told v_moods v_strongs v_frostYear v_frostForce v_gapYear v_gapColumn v_gapHand v_wall v_yearNow v_forceNow v_holdNow v_fellOf v_handAt v_holdAt v_fallsAt v_standAt v_highAt v_throughAt v_seenYear v_seenPlace v_seenHand v_standBy a0) (fun r => r.1 = A_ask (SK K) G a0) := by
  have hn := (SK_ok hK).1.1
  unfold f_m_ask A_ask
  refine wp_bind (k_m_isHand hK hm.1.1 hm.1.2) (fun o ho => ?_)
  rw [ho.1]
  refine wp_ite (fun g => ?_) (fun g1 => ?_)
  · rw [if_pos g]; exact wp_some (by dsimp only <;> rfl)
  rw [if_neg g1]
  obtain ⟨h, hlt, rfl⟩ := wi_m1 (by omega) g1
  rw [cl (show h < 2 ^ 31 by omega)]
  exact wp_bind (k_m_askOf hK hG hlt hm hv) (fun o ho => wp_some ho.1)
