/-! LUCK, both sides -/
theorem sar1 (x : Int64) : (x >>> (1 : Int64)).toInt = x.toInt / 2 := by
  rw [← Int64.toInt_toBitVec, Int64.toBitVec_shiftRight, show ((1 : Int64).toBitVec.smod 64) = 1#64 from by decide, BitVec.sshiftRight_eq', BitVec.toInt_sshiftRight, Int64.toInt_toBitVec, Int.shiftRight_eq_div_pow]
  rfl
theorem lN_divx {a d : Nat} (ha : a < 2 ^ 31) (h0 : 0 < d) (hd : d < 2 ^ 31) : lN a / lN d = lN (a / d) := by
  apply Int64.toInt_inj.mp
  rw [lg_ldiv_nonneg (by rw [lN_toInt ha]; omega) (by rw [lN_toInt hd]; omega), lN_toInt ha, lN_toInt hd, lN_toInt (Nat.lt_of_le_of_lt (Nat.div_le_self a d) ha)]
  first | rfl | exact (Int.natCast_ediv _ _).symm
theorem lN_rem {a d : Nat} (ha : a < 2 ^ 31) (h0 : 0 < d) (hd : d < 2 ^ 31) : lN a - lN a / lN d * lN d = lN (a % d) := by
  rw [lN_divx ha h0 hd, lN_mul, lN_subx (Nat.div_mul_le_self a d)]
  exact congrArg lN (by have := Nat.div_add_mod' a d; omega)
def wt (c : Nat) (set : Int32) : Nat → Nat
  | 0 => 1
  | k + 1 => wt c set k * (if bt set k then 16 - c else c)
theorem wt_s (c : Nat) (set : Int32) (k : Nat) : wt c set (k + 1) = wt c set k * (if bt set k then 16 - c else c) := rfl
theorem wt_le {c : Nat} (hc : c ≤ 16) (set : Int32) : ∀ k, wt c set k ≤ 16 ^ k
  | 0 => Nat.le_refl _
  | k + 1 => by
    rw [wt_s, Nat.pow_succ]
    refine Nat.mul_le_mul (wt_le hc set k) ?_
    by_cases e : bt set k = true
    · rw [if_pos e]; omega
    · rw [if_neg e]; omega
def lkZ (S : Sit) (set : Nat) : Bool := decide (shM (wAb S (nI set)) 20 = 0)
def lkS (S : Sit) (c : Nat) : Nat → Nat
  | 0 => 0
  | k + 1 => lkS S c k + (if lkZ S k then wt c (nI k) (Sfn S) else 0)
theorem lkS_s (S : Sit) (c k : Nat) : lkS S c (k + 1) = lkS S c k + (if lkZ S k then wt c (nI k) (Sfn S) else 0) := rfl
theorem p16 {k : Nat} (h : k ≤ 6) : 16 ^ k ≤ 16777216 := Nat.le_trans (Nat.pow_le_pow_right (by decide) h) (by decide)
theorem lkS_le {S : Sit} (hf : Sfn S ≤ 6) {c : Nat} (hc : c ≤ 16) : ∀ k, lkS S c k ≤ 16777216 * k
  | 0 => Nat.le_refl _
  | k + 1 => by
    have ih := lkS_le hf hc k
    have h1 := wt_le hc (nI k) (Sfn S)
    have h2 := p16 hf
    rw [lkS_s]
    by_cases e : lkZ S k = true
    · rw [if_pos e]; omega
    · rw [if_neg e]; omega
def lkA (S : Sit) (c : Nat) : Nat := lkS S c (2 ^ Sfn S)
def lkB (S : Sit) : Nat := 2 ^ (4 * Sfn S)
def vLuck (S : Sit) (c : Nat) (a1 : Int32) : Int64 := if a1 = 0 then lN (lkA S c / Nat.gcd (lkA S c) (lkB S)) else lN (lkB S / Nat.gcd (lkA S c) (lkB S))
def A_luck (S : Sit) (a0 a1 : Int32) : Int64 := if wi a0 0 16 = 0 then -9223372036854775806 else if wi a1 0 1 = 0 then -9223372036854775806 else vLuck S a0.toNatClampNeg a1
theorem p2_le {n : Nat} (h : n ≤ 6) : 2 ^ n ≤ 64 := Nat.le_trans (Nat.pow_le_pow_right (by decide) h) (by decide)
theorem sh_p2 {n : Nat} (h : n ≤ 6) : (1 : Int32) <<< (nI n &&& 31) = nI (2 ^ n) := by
  have : n = 0 ∨ n = 1 ∨ n = 2 ∨ n = 3 ∨ n = 4 ∨ n = 5 ∨ n = 6 := by omega
  rcases this with rfl | rfl | rfl | rfl | rfl | rfl | rfl <;> decide
theorem shl_p2 {n : Nat} (h : n ≤ 6) : lshl (1 : Int64) ((4 : Int32) * nI n) = lN (2 ^ (4 * n)) := by
  have : n = 0 ∨ n = 1 ∨ n = 2 ∨ n = 3 ∨ n = 4 ∨ n = 5 ∨ n = 6 := by omega
  rcases this with rfl | rfl | rfl | rfl | rfl | rfl | rfl <;> decide
theorem lkA_lt {S : Sit} (hf : Sfn S ≤ 6) {c : Nat} (hc : c ≤ 16) : lkA S c < 2 ^ 31 := by
  have h1 := lkS_le hf hc (2 ^ Sfn S)
  have h2 := p2_le hf
  unfold lkA
  omega
theorem lkB_lt {S : Sit} (hf : Sfn S ≤ 6) : lkB S < 2 ^ 31 := Nat.lt_of_le_of_lt (Nat.pow_le_pow_right (by decide) (show 4 * Sfn S ≤ 24 by omega)) (by decide)
theorem lshr1 {n : Nat} (h : n < 2 ^ 31) : lshr (lN n) (1 : Int32) = lN (n / 2) := by
  unfold lshr
  rw [show (1 : Int32).toInt64 &&& 63 = (1 : Int64) from by decide]
  apply Int64.toInt_inj.mp
  rw [sar1]
  rw [lN_toInt h, lN_toInt (by omega)]
  omega
theorem odd_l {n : Nat} (h : n < 2 ^ 31) : lg_cmp (lN n &&& (1 : Int64)) (0 : Int64) = 0 ↔ n % 2 = 0 := by
  rw [cmp0, show (1 : Int64) = lN 1 from rfl, lN_and, show (0 : Int64) = lN 0 from rfl, Nat.and_one_is_mod, lN_eq (by omega) (by decide)]
theorem gcd_end {a b x y i m : Nat} (hx : x * 2 ^ i = a) (hy : y = 2 ^ (m - i)) (hb : b = 2 ^ m) (hi : i ≤ m) (h : i = m ∨ x % 2 = 1) : Nat.gcd a b = 2 ^ i := by
  have e : b = y * 2 ^ i := by
    rw [hb, hy, ← Nat.pow_add]
    exact congrArg (2 ^ ·) (by omega)
  rw [← hx, e, Nat.gcd_mul_right]
  have hg : Nat.gcd x y = 1 := by
    rcases h with h | h
    · rw [hy, h, Nat.sub_self]; exact Nat.gcd_one_right x
    · rw [hy]
      have hc : Nat.Coprime x 2 := by
        have h2 := Nat.gcd_rec 2 x
        rw [h] at h2
        show Nat.gcd x 2 = 1
        rw [Nat.gcd_comm, h2]
        rfl
      exact Nat.Coprime.pow_right (m - i) hc
  rw [hg, Nat.one_mul]
theorem k_x_luck {S : Sit} (hS : Sok S) (hI : Sin S) (hA : Sab S = 0) {v_wall_courses : Int32} {v_wall_columns : Int32} {v_wall_jump : Int32} {v_wall_stones : Nat → Int64} {v_hands_told : Int32} {v_hands_mood : Nat → Int32} {v_hands_strong : Nat → Int32} {v_frosts_told : Int32} {v_frosts_year : Nat → Int32} {v_frosts_force : Nat → Int32} {v_gappings_told : Int32} {v_gappings_year : Nat → Int32} {v_gappings_column : Nat → Int32} {v_gappings_hand : Nat → Int32} {v_trial_all : Int64} {v_trial_losers : Int32} {v_trial_now : Nat → Int64} {v_trial_stones : Nat → Int64} {v_trial_standing : Nat → Int64} {v_trial_open : Nat → Int32} {v_trial_fallen : Nat → Int32} {a0 : Int32} {a1 : Int32} (hw : CIw S v_wall_courses v_wall_columns v_wall_jump v_wall_stones) (hh : CIh S v_hands_told v_hands_mood v_hands_strong) (hf : CIf S v_frosts_told v_frosts_year v_frosts_force) (hg : CIg S v_gappings_told v_gappings_year v_gappings_column v_gappings_hand) : wp (f_x_luck v_wall_courses v_wall_columns v_wall_jump v_wall_stones v_hands_told v_hands_mood v_hands_strong v_frosts_told v_frosts_year v_frosts_force v_gappings_told v_gappings_year v_gappings_column v_gappings_hand v_trial_all v_trial_losers v_trial_now v_trial_stones v_trial_standing v_trial_open v_trial_fallen a0 a1) (fun r => r.1 = A_luck S a0 a1) := by
  have hn := hS.2.2.1
  unfold f_x_luck A_luck
  refine wp_bindE (s_within a0 0 16) (wp_ite (fun g => ?_) (fun g1 => ?_))
  · rw [if_pos g]; exact wp_some (by dsimp only <;> rfl)
  rw [if_neg g1]
  refine wp_bindE (q_x_isEither a1) (wp_ite (fun g => ?_) (fun g2 => ?_))
  · rw [if_pos g]; exact wp_some (by dsimp only <;> rfl)
  rw [if_neg g2]
  obtain ⟨c, hc, rfl⟩ := wi_nat 16 (by decide) g1
  rw [cl (show c < 2 ^ 31 by omega)]
  have hAl := lkA_lt hn hc
  have hBl := lkB_lt hn
  have h64 := p2_le hn
  refine wl_x_luck_N26 (fun m v_trial_all v_trial_losers v_trial_now v_trial_stones v_trial_standing v_trial_open v_trial_fallen x1 x2 x3 x5 => x1 = nI c ∧ a1 = x2 ∧ ∃ k, k ≤ 2 ^ Sfn S ∧ x5 = nI k ∧ m = 2 ^ Sfn S - k ∧ x3 = lN (lkS S c k)) ?_ 1000 (2 ^ Sfn S) _ _ _ _ _ _ _ _ _ _ _ (by omega) ⟨rfl, rfl, 0, Nat.zero_le _, rfl, (Nat.sub_zero _).symm, rfl⟩
  rintro m k26 ih v_trial_all v_trial_losers v_trial_now v_trial_stones v_trial_standing v_trial_open v_trial_fallen x1 x2 x3 x5 ⟨rfl, rfl, k, hk, rfl, rfl, rfl⟩
  unfold f_x_luck_N26
  have hfn := hf.1
  rw [hfn, sh_p2 hn, shl_p2 hn, show (4 : Int32) = nI 4 from rfl, nI_mulI]
  refine wp_ite (fun g => ?_) (fun g => ?_)
  · have g' : 2 ^ Sfn S ≤ k := (nI_leX (by omega) (by omega)).mp g
    have e : k = 2 ^ Sfn S := by omega
    subst e
    refine wl_x_luck_N99 (fun m v_trial_all v_trial_losers v_trial_now v_trial_stones v_trial_standing v_trial_open v_trial_fallen x2 x3 x5 x6 x8 => a1 = x2 ∧ x5 = nI (4 * Sfn S) ∧ ∃ i x y, i ≤ 4 * Sfn S ∧ x8 = nI i ∧ m = 4 * Sfn S - i ∧ x3 = lN x ∧ x6 = lN y ∧ x * 2 ^ i = lkA S c ∧ y = 2 ^ (4 * Sfn S - i) ∧ x < 2 ^ 31 ∧ y < 2 ^ 31) ?_ 1000 (4 * Sfn S) _ _ _ _ _ _ _ _ _ _ _ _ (by omega) ⟨rfl, rfl, 0, lkA S c, lkB S, by omega, rfl, by omega, rfl, rfl, by rw [Nat.pow_zero, Nat.mul_one], rfl, hAl, hBl⟩
    rintro m k99 ih2 v_trial_all v_trial_losers v_trial_now v_trial_stones v_trial_standing v_trial_open v_trial_fallen x2 x3 x5 x6 x8 ⟨rfl, rfl, i, x, y, hi, rfl, rfl, rfl, rfl, hx, hy, hxl, hyl⟩
    have fin : i = 4 * Sfn S ∨ x % 2 = 1 → x = lkA S c / Nat.gcd (lkA S c) (lkB S) ∧ y = lkB S / Nat.gcd (lkA S c) (lkB S) := by
      intro h
      have hgc := gcd_end (b := lkB S) hx hy rfl hi h
      have hp : 0 < 2 ^ i := Nat.pow_pos (by decide)
      rw [hgc]
      refine ⟨?_, ?_⟩
      · rw [← hx, Nat.mul_div_cancel _ hp]
      · unfold lkB
        rw [hy, Nat.pow_div hi (by decide)]
    unfold f_x_luck_N99 f_x_luck_N130
    unfold vLuck
    refine wp_ite (fun g3 => ?_) (fun g3 => ?_)
    · have g4 : 4 * Sfn S ≤ i := (nI_leX (by omega) (by omega)).mp g3
      obtain ⟨f1, f2⟩ := fin (Or.inl (by omega))
      refine wp_ite (fun g5 => ?_) (fun g5 => ?_)
      · rw [if_pos g5, ← f1]; exact wp_some (by dsimp only <;> rfl)
      · rw [if_neg g5, ← f2]; exact wp_some (by dsimp only <;> rfl)
    · have g4 : ¬ 4 * Sfn S ≤ i := fun q => g3 ((nI_leX (by omega) (by omega)).mpr q)
      refine wp_ite (fun g5 => ?_) (fun g5 => ?_)
      · have g6 := (odd_l hxl).mp g5
        have hye : y = 2 * 2 ^ (4 * Sfn S - (i + 1)) := by
          rw [hy, show 4 * Sfn S - i = (4 * Sfn S - (i + 1)) + 1 by omega, Nat.pow_succ, Nat.mul_comm]
        have hy2 : y / 2 = 2 ^ (4 * Sfn S - (i + 1)) := by
          rw [hye]; exact Nat.mul_div_cancel_left _ (by decide)
        have hx2 : x / 2 * 2 ^ (i + 1) = lkA S c := by
          rw [Nat.pow_succ, Nat.mul_comm (2 ^ i) 2, ← Nat.mul_assoc, show x / 2 * 2 = x by omega]
          exact hx
        rw [lshr1 hxl, lshr1 hyl, show nI i + 1 = nI (i + 1) from (nI_succ i).symm]
        exact ih2 (4 * Sfn S - (i + 1)) _ _ _ _ _ _ _ _ _ _ _ _ (by omega) ⟨rfl, rfl, i + 1, x / 2, y / 2, by omega, rfl, rfl, rfl, rfl, hx2, hy2, by omega, by omega⟩
      · have g6 : x % 2 = 1 := by
          have : ¬ x % 2 = 0 := fun q => g5 ((odd_l hxl).mpr q)
          omega
        obtain ⟨f1, f2⟩ := fin (Or.inr g6)
        refine wp_ite (fun g7 => ?_) (fun g7 => ?_)
        · rw [if_pos g7, ← f1]; exact wp_some (by dsimp only <;> rfl)
        · rw [if_neg g7, ← f2]; exact wp_some (by dsimp only <;> rfl)
  · have g' : k < 2 ^ Sfn S := Nat.lt_of_not_le (fun q => g ((nI_leX (by omega) (by omega)).mpr q))
    rw [← hfn]
    refine wp_bind (k_run hS hw hh hf hg (nI k) _ _ _ _ _ _ _) (fun o ho => ?_)
    refine wp_bindE (s_openYears (wAb_ok hS _) ho) ?_
    have hsb : shM (wAb S (nI k)) 20 ≤ 20 := bct_le _ 20
    have hz : nI (shM (wAb S (nI k)) 20) = 0 ↔ shM (wAb S (nI k)) 20 = 0 := nI_eqI (a := shM (wAb S (nI k)) 20) (b := 0) (by omega) (by decide)
    rw [show nI k + 1 = nI (k + 1) from (nI_succ k).symm]
    refine wp_ite (fun g3 => ?_) (fun g3 => ?_)
    · have hwy : f_x_waysOf v_frosts_told (nI k) (nI c) = some (lN (wt c (nI k) (Sfn S))) := by
        apply wp_get
        rw [hfn]
        unfold f_x_waysOf
        refine wl_x_waysOf_N5 (fun m x1 x2 x3 x5 => x1 = nI k ∧ x2 = nI c ∧ ∃ i, i ≤ Sfn S ∧ x5 = nI i ∧ m = Sfn S - i ∧ x3 = lN (wt c (nI k) i)) ?_ 1000 (Sfn S) _ _ _ _ (by omega) ⟨rfl, rfl, 0, by omega, rfl, by omega, rfl⟩
        rintro m k5 ih2 x1 x2 x3 x5 ⟨rfl, rfl, i, hi, rfl, rfl, rfl⟩
        unfold f_x_waysOf_N5 f_x_waysOf_N37
        refine wp_ite (fun g4 => ?_) (fun g4 => ?_)
        · have g5 : Sfn S ≤ i := (nI_leX (by omega) (by omega)).mp g4
          have e : i = Sfn S := by omega
          subst e
          exact wp_some (by dsimp only <;> rfl)
        · have g5 : i < Sfn S := Nat.lt_of_not_le (fun q => g4 ((nI_leX (by omega) (by omega)).mpr q))
          rw [show nI i + 1 = nI (i + 1) from (nI_succ i).symm]
          refine wp_ite (fun g6 => ?_) (fun g6 => ?_)
          · have e := (ush1 (by omega)).mp g6
            rw [nI_l (by omega), lN_mul]
            exact ih2 (Sfn S - (i + 1)) _ _ _ _ (by omega) ⟨rfl, rfl, i + 1, by omega, rfl, rfl, by rw [wt_s, e]; rfl⟩
          · have e : bt (nI k) i = true := by
              cases q : bt (nI k) i with
              | true => rfl
              | false => exact absurd ((ush1 (by omega)).mpr q) g6
            rw [show (16 : Int32) = nI 16 from rfl, nI_subI hc, nI_l (by omega), lN_mul]
            exact ih2 (Sfn S - (i + 1)) _ _ _ _ (by omega) ⟨rfl, rfl, i + 1, by omega, rfl, rfl, by rw [wt_s, e]; rfl⟩
      refine wp_bindE hwy ?_
      rw [lN_addx]
      have e : lkZ S k = true := decide_eq_true (hz.mp g3)
      exact ih (2 ^ Sfn S - (k + 1)) _ _ _ _ _ _ _ _ _ _ _ (by omega) ⟨rfl, rfl, k + 1, by omega, rfl, rfl, by rw [lkS_s, e]; rfl⟩
    · have e : lkZ S k = false := decide_eq_false (fun q => g3 (hz.mpr q))
      exact ih (2 ^ Sfn S - (k + 1)) _ _ _ _ _ _ _ _ _ _ _ (by omega) ⟨rfl, rfl, k + 1, by omega, rfl, rfl, by rw [lkS_s, e]; rfl⟩
theorem half_le {x y : Nat} (h0 : 0 < y) (h : y < x) : 2 * (x % y) ≤ x := by
  have h1 := Nat.div_add_mod x y
  have h2 := Nat.mod_lt x h0
  have h3 : 0 < x / y := Nat.div_pos (by omega) h0
  have h4 : y * 1 ≤ y * (x / y) := Nat.mul_le_mul_left y h3
  omega
theorem s_lowest {a b : Nat} (ha : a < 2 ^ 31) (hb0 : 0 < b) (hb : b < 2 ^ 31) (what : Int32) : f_m_lowest (lN a) (lN b) what = some (if what = 0 then lN (a / Nat.gcd a b) else lN (b / Nat.gcd a b)) := by
  apply wp_get
  unfold f_m_lowest
  refine wl_m_lowest_N6 (fun m x0 x2 x4 x5 x7 => x0 = lN a ∧ x2 = lN b ∧ x4 = what ∧ ∃ x y, x5 = lN x ∧ x7 = lN y ∧ x < 2 ^ 31 ∧ y < 2 ^ 31 ∧ Nat.gcd x y = Nat.gcd a b ∧ ((m = 100 ∧ y = b) ∨ (y < x ∧ m ≤ 99 ∧ x * y < 2 ^ m))) ?_ 1000 100 _ _ _ _ _ (by decide) ⟨rfl, rfl, rfl, a, b, rfl, rfl, ha, hb, rfl, Or.inl ⟨rfl, rfl⟩⟩
  rintro m k6 ih x0 x2 x4 x5 x7 ⟨rfl, rfl, rfl, x, y, rfl, rfl, hx, hy, hg, hc⟩
  unfold f_m_lowest_N6
  have hz : lg_cmp (lN y) 0 = 0 ↔ y = 0 := by rw [cmp0, show (0 : Int64) = lN 0 from rfl, lN_eq hy (by decide)]
  refine wp_ite (fun g => ?_) (fun g => ?_)
  · have e := hz.mp g
    have hx0 : 0 < x := by
      rcases hc with ⟨-, q⟩ | ⟨q, -⟩
      · omega
      · omega
    rw [e, Nat.gcd_zero_right] at hg
    have hnz : nzL (lN x) = true := decide_eq_true (fun q => absurd ((lN_eq (a := x) (b := 0) hx (by decide)).mp q) (by omega))
    refine wp_ite (fun g2 => ?_) (fun g2 => ?_)
    · rw [if_pos g2]; exact wp_gd hnz (wp_some (by rw [lN_divx ha hx0 hx, hg]))
    · rw [if_neg g2]; exact wp_gd hnz (wp_some (by rw [lN_divx hb hx0 hx, hg]))
  · have e : 0 < y := Nat.pos_of_ne_zero (fun q => g (hz.mpr q))
    have hnz : nzL (lN y) = true := decide_eq_true (fun q => absurd ((lN_eq (a := y) (b := 0) hy (by decide)).mp q) (by omega))
    refine wp_gd hnz ?_
    rw [lN_rem hx e hy]
    have hml := Nat.mod_lt x e
    have hg2 : Nat.gcd y (x % y) = Nat.gcd a b := by
      rw [← hg, Nat.gcd_comm x y, Nat.gcd_rec y x, Nat.gcd_comm]
    rcases hc with ⟨q, -⟩ | ⟨q1, q2, q3⟩
    · refine ih 99 _ _ _ _ _ (by omega) ⟨rfl, rfl, rfl, y, x % y, rfl, rfl, hy, by omega, hg2, Or.inr ⟨hml, by omega, ?_⟩⟩
      have h1 : y * (x % y) ≤ 2 ^ 31 * 2 ^ 31 := Nat.mul_le_mul (by omega) (by omega)
      exact Nat.lt_of_le_of_lt h1 (by decide)
    · cases m with
      | zero =>
        have : 1 * 1 ≤ x * y := Nat.mul_le_mul (by omega) e
        omega
      | succ m =>
        refine ih m _ _ _ _ _ (by omega) ⟨rfl, rfl, rfl, y, x % y, rfl, rfl, hy, by omega, hg2, Or.inr ⟨hml, by omega, ?_⟩⟩
        have h1 := half_le e q1
        have h2 : y * (2 * (x % y)) ≤ y * x := Nat.mul_le_mul_left y h1
        rw [Nat.mul_comm y x, Nat.mul_left_comm] at h2
        rw [Nat.pow_succ] at q3
        omega
theorem lkB_pos (S : Sit) : 0 < lkB S := Nat.pow_pos (by decide)
theorem k_m_luckOf {K : Kt} (hK : Kok K) {v_courses : Int32} {v_wide : Int32} {v_hands : Int32} {v_jumpTold : Int32} {v_frosts : Int32} {v_gaps : Int32} {v_frostsNow : Int32} {v_notFrosts : Int32} {v_gapsNow : Int32} {v_fell : Int32} {v_fellAll : Int32} {v_sheepFirst : Int32} {v_sheepMany : Int32} {v_typed : Nat → Int32} {v_texts : Nat → Int32} {v_told : Nat → Int32} {v_moods : Nat → Int32} {v_strongs : Nat → Int32} {v_frostYear : Nat → Int32} {v_frostForce : Nat → Int32} {v_gapYear : Nat → Int32} {v_gapColumn : Nat → Int32} {v_gapHand : Nat → Int32} {v_wall : Nat → Int32} {v_yearNow : Nat → Int32} {v_forceNow : Nat → Int32} {v_holdNow : Nat → Int32} {v_fellOf : Nat → Int32} {v_handAt : Nat → Int32} {v_holdAt : Nat → Int32} {v_fallsAt : Nat → Int32} {v_standAt : Nat → Int32} {v_highAt : Nat → Int32} {v_throughAt : Nat → Int32} {a1 : Int32} {c : Nat} (hc : c ≤ 16) (hm : MP K v_typed v_texts v_jumpTold v_frosts v_frostYear v_frostForce v_gaps v_gapYear v_gapColumn v_gapHand) : wp (f_m_luckOf v_courses v_wide v_hands v_jumpTold v_frosts v_gaps v_frostsNow v_notFrosts v_gapsNow v_fell v_fellAll v_sheepFirst v_sheepMany v_typed v_texts v_told v_moods v_strongs v_frostYear v_frostForce v_gapYear v_gapColumn v_gapHand v_wall v_yearNow v_forceNow v_holdNow v_fellOf v_handAt v_holdAt v_fallsAt v_standAt v_highAt v_throughAt (nI c) a1) (fun r => r.1 = vLuck (SK K) c a1 ∧ RK K r.2.1 r.2.2.1 r.2.2.2.1 r.2.2.2.2.2.2.2.2.2.2.2.1 r.2.2.2.2.2.2.2.2.2.2.2.2.1 r.2.2.2.2.2.2.2.2.2.2.2.2.2.1) := by
  have hS := (SK_ok hK).1
  have hn := hS.2.2.1
  have hj := hm.2.1
  have hfn : v_frosts = nI (Sfn (SK K)) := hm.2.2.1.1
  have hAl := lkA_lt hn hc
  have hBl := lkB_lt hn
  have h64 := p2_le hn
  unfold f_m_luckOf
  refine wp_bind (k_m_asT hK hm) (fun o ho => ?_)
  obtain ⟨hR, hh, hf, hg⟩ := ho
  clear hm
  subst hfn
  refine wl_m_luckOf_N9 (fun m v_courses v_wide v_hands v_frostsNow v_notFrosts v_gapsNow v_fell v_fellAll v_sheepFirst v_sheepMany v_told v_moods v_strongs v_wall v_yearNow v_forceNow v_holdNow v_fellOf v_handAt v_holdAt v_fallsAt v_standAt v_highAt v_throughAt x1 x2 x3 x5 => RKw K v_courses v_wide v_told ∧ CIh (SK K) v_hands v_moods v_strongs ∧ MIf (wAb (SK K) v_notFrosts) v_frostsNow v_notFrosts v_yearNow v_forceNow ∧ CIg (SK K) v_gapsNow v_gapYear v_gapColumn v_gapHand ∧ x1 = nI c ∧ a1 = x2 ∧ ∃ k, k ≤ 2 ^ Sfn (SK K) ∧ x5 = nI k ∧ m = 2 ^ Sfn (SK K) - k ∧ x3 = lN (lkS (SK K) c k)) ?_ 1000 (2 ^ Sfn (SK K)) _ _ _ _ _ _ _ _ _ _ _ _ _ _ _ _ _ _ _ _ _ _ _ _ _ _ _ _ (by omega) ⟨hR, hh, MIf_ab0 hf, hg, rfl, rfl, 0, Nat.zero_le _, rfl, (Nat.sub_zero _).symm, rfl⟩
  clear hR hh hf hg
  rintro m k9 ih v_courses v_wide v_hands v_frostsNow v_notFrosts v_gapsNow v_fell v_fellAll v_sheepFirst v_sheepMany v_told v_moods v_strongs v_wall v_yearNow v_forceNow v_holdNow v_fellOf v_handAt v_holdAt v_fallsAt v_standAt v_highAt v_throughAt x1 x2 x3 x5 ⟨hR, hh, hf, hg, rfl, rfl, k, hk, rfl, rfl, rfl⟩
  unfold f_m_luckOf_N9
  rw [sh_p2 hn, shl_p2 hn]
  refine wp_ite (fun g => ?_) (fun g => ?_)
  · have g' : 2 ^ Sfn (SK K) ≤ k := (nI_leX (by omega) (by omega)).mp g
    have e : k = 2 ^ Sfn (SK K) := by omega
    subst e
    exact wp_bindE (s_lowest hAl (lkB_pos (SK K)) hBl _) (wp_some ⟨by dsimp only <;> rfl, RK_2 hR hh⟩)
  · have g' : k < 2 ^ Sfn (SK K) := Nat.lt_of_not_le (fun q => g ((nI_leX (by omega) (by omega)).mpr q))
    refine wl_m_luckOf_N26 (fun m v_courses v_wide v_hands v_frostsNow v_notFrosts v_gapsNow v_fell v_fellAll v_sheepFirst v_sheepMany v_told v_moods v_strongs v_wall v_yearNow v_forceNow v_holdNow v_fellOf v_handAt v_holdAt v_fallsAt v_standAt v_highAt v_throughAt x1 x2 x3 x5 x6 x8 => RKw K v_courses v_wide v_told ∧ CIh (SK K) v_hands v_moods v_strongs ∧ MIf (wAb (SK K) v_notFrosts) v_frostsNow v_notFrosts v_yearNow v_forceNow ∧ CIg (SK K) v_gapsNow v_gapYear v_gapColumn v_gapHand ∧ x1 = nI c ∧ a1 = x2 ∧ x5 = nI k ∧ x3 = lN (lkS (SK K) c k) ∧ ∃ i, i ≤ Sfn (SK K) ∧ x8 = nI i ∧ m = Sfn (SK K) - i ∧ x6 = lN (wt c (nI k) i)) ?_ 1000 (Sfn (SK K)) _ _ _ _ _ _ _ _ _ _ _ _ _ _ _ _ _ _ _ _ _ _ _ _ _ _ _ _ _ _ (by omega) ⟨hR, hh, hf, hg, rfl, rfl, rfl, rfl, 0, by omega, rfl, by omega, rfl⟩
    clear hR hh hf hg
    rintro m k26 ih2 v_courses v_wide v_hands v_frostsNow v_notFrosts v_gapsNow v_fell v_fellAll v_sheepFirst v_sheepMany v_told v_moods v_strongs v_wall v_yearNow v_forceNow v_holdNow v_fellOf v_handAt v_holdAt v_fallsAt v_standAt v_highAt v_throughAt x1 x2 x3 x5 x6 x8 ⟨hR, hh, hf, hg, rfl, rfl, rfl, rfl, i, hi, rfl, rfl, rfl⟩
    unfold f_m_luckOf_N26 f_m_luckOf_N57 f_m_luckOf_N90
    refine wp_ite (fun g2 => ?_) (fun g2 => ?_)
    · have g3 : Sfn (SK K) ≤ i := (nI_leX (by omega) (by omega)).mp g2
      have e : i = Sfn (SK K) := by omega
      subst e
      refine wp_bind (k_runs (S := wAb (SK K) (nI k)) (wAb_ok hS _) (wAb_in (SK_ok hK).2 _) (RKw_w hR hj) hh (MIf_ab hf _) hg _ _ _ _ _ _ _ _ _ _ _ _ _) (fun o ho => ?_)
      have hsb : shM (wAb (SK K) (nI k)) 20 ≤ 20 := bct_le _ 20
      have hz : nI (shM (wAb (SK K) (nI k)) 20) = 0 ↔ shM (wAb (SK K) (nI k)) 20 = 0 := nI_eqI (a := shM (wAb (SK K) (nI k)) 20) (b := 0) (by omega) (by decide)
      have eo : o.2.2.2.1 = nI (shM (wAb (SK K) (nI k)) 20) := ho.2.2.1
      rw [show nI k + 1 = nI (k + 1) from (nI_succ k).symm, lN_addx, show (0 : Int64) = lN 0 from rfl, lN_addx]
      refine wp_ite (fun g4 => ?_) (fun g4 => ?_)
      · rw [eo] at g4
        have e : lkZ (SK K) k = true := decide_eq_true (hz.mp g4)
        exact ih (2 ^ Sfn (SK K) - (k + 1)) _ _ _ _ _ _ _ _ _ _ _ _ _ _ _ _ _ _ _ _ _ _ _ _ _ _ _ _ (by omega) ⟨hR, hh, MIf_ab hf _, hg, rfl, rfl, k + 1, by omega, rfl, rfl, by rw [lkS_s, e]; rfl⟩
      · rw [eo] at g4
        have e : lkZ (SK K) k = false := decide_eq_false (fun q => g4 (hz.mpr q))
        exact ih (2 ^ Sfn (SK K) - (k + 1)) _ _ _ _ _ _ _ _ _ _ _ _ _ _ _ _ _ _ _ _ _ _ _ _ _ _ _ _ (by omega) ⟨hR, hh, MIf_ab hf _, hg, rfl, rfl, k + 1, by omega, rfl, rfl, by rw [lkS_s, e]; rfl⟩
    · have g3 : i < Sfn (SK K) := Nat.lt_of_not_le (fun q => g2 ((nI_leX (by omega) (by omega)).mpr q))
      rw [show nI i + 1 = nI (i + 1) from (nI_succ i).symm]
      refine wp_bindE (s_isIn (by omega)) ?_
      refine wp_ite (fun g4 => ?_) (fun g4 => ?_)
      · have e := (b2i_0 _).mp g4
        rw [nI_l (by omega), lN_mul]
        exact ih2 (Sfn (SK K) - (i + 1)) _ _ _ _ _ _ _ _ _ _ _ _ _ _ _ _ _ _ _ _ _ _ _ _ _ _ _ _ _ _ (by omega) ⟨hR, hh, hf, hg, rfl, rfl, rfl, rfl, i + 1, by omega, rfl, rfl, by rw [wt_s, e]; rfl⟩
      · have e := b2i_1 g4
        rw [show (16 : Int32) = nI 16 from rfl, nI_subI hc, nI_l (by omega), lN_mul]
        exact ih2 (Sfn (SK K) - (i + 1)) _ _ _ _ _ _ _ _ _ _ _ _ _ _ _ _ _ _ _ _ _ _ _ _ _ _ _ _ _ _ (by omega) ⟨hR, hh, hf, hg, rfl, rfl, rfl, rfl, i + 1, by omega, rfl, rfl, by rw [wt_s, e]; rfl⟩
theorem k_m_luck {K : Kt} (hK : Kok K) {v_courses : Int32} {v_wide : Int32} {v_hands : Int32} {v_jumpTold : Int32} {v_frosts : Int32} {v_gaps : Int32} {v_frostsNow : Int32} {v_notFrosts : Int32} {v_gapsNow : Int32} {v_fell : Int32} {v_fellAll : Int32} {v_sheepFirst : Int32} {v_sheepMany : Int32} {v_typed : Nat → Int32} {v_texts : Nat → Int32} {v_told : Nat → Int32} {v_moods : Nat → Int32} {v_strongs : Nat → Int32} {v_frostYear : Nat → Int32} {v_frostForce : Nat → Int32} {v_gapYear : Nat → Int32} {v_gapColumn : Nat → Int32} {v_gapHand : Nat → Int32} {v_wall : Nat → Int32} {v_yearNow : Nat → Int32} {v_forceNow : Nat → Int32} {v_holdNow : Nat → Int32} {v_fellOf : Nat → Int32} {v_handAt : Nat → Int32} {v_holdAt : Nat → Int32} {v_fallsAt : Nat → Int32} {v_standAt : Nat → Int32} {v_highAt : Nat → Int32} {v_throughAt : Nat → Int32} {a0 : Int32} {a1 : Int32} (hm : MP K v_typed v_texts v_jumpTold v_frosts v_frostYear v_frostForce v_gaps v_gapYear v_gapColumn v_gapHand) : wp (f_m_luck v_courses v_wide v_hands v_jumpTold v_frosts v_gaps v_frostsNow v_notFrosts v_gapsNow v_fell v_fellAll v_sheepFirst v_sheepMany v_typed v_texts v_told v_moods v_strongs v_frostYear v_frostForce v_gapYear v_gapColumn v_gapHand v_wall v_yearNow v_forceNow v_holdNow v_fellOf v_handAt v_holdAt v_fallsAt v_standAt v_highAt v_throughAt a0 a1) (fun r => r.1 = A_luck (SK K) a0 a1) := by
  unfold f_m_luck f_m_luck_N28 A_luck
  refine wp_bindE (s_in a0 0 16) (wp_ite (fun g => ?_) (fun g1 => ?_))
  · rw [if_pos g]; exact wp_bindE (show f_m_no (-2) = some (-9223372036854775806) from by decide) (wp_some (by dsimp only <;> rfl))
  rw [if_neg g1]
  refine wp_bindE (s_in a1 0 1) (wp_ite (fun g => ?_) (fun g2 => ?_))
  · rw [if_pos g]; exact wp_bindE (show f_m_no (-2) = some (-9223372036854775806) from by decide) (wp_some (by dsimp only <;> rfl))
  rw [if_neg g2]
  obtain ⟨c, hc, rfl⟩ := wi_nat 16 (by decide) g1
  rw [cl (show c < 2 ^ 31 by omega)]
  exact wp_bind (k_m_luckOf hK hc hm) (fun o ho => wp_some ho.1)
