/-! THE CLASS: what is read off twenty years -/
theorem open_0 {o : Int32} {W : Nat} {f : Nat → Bool} (hW : W ≤ 8) (h : ∀ i, i < 32 → bt o i = (decide (i < W) && f i)) : o = 0 ↔ anyB f W = false := by
  constructor
  · intro e
    cases hq : anyB f W with
    | false => rfl
    | true =>
      obtain ⟨k, hk, hf⟩ := (anyB_iff _ _).mp hq
      have := h k (by omega)
      rw [e, b_0, decide_eq_true hk, hf] at this
      cases this
  · intro e
    apply b_ext
    intro i hi
    rw [h i hi, b_0]
    by_cases hk : i < W
    · cases hf : f i with
      | false => rw [Bool.and_false]
      | true =>
        have := (anyB_iff f W).mpr ⟨i, hk, hf⟩
        rw [e] at this
        cases this
    · rw [decide_eq_false hk, Bool.false_and]
section RD
variable {S : Sit} {losers : Int32} {stones standing : Nat → Int64} {opn fallen : Nat → Int32}
theorem s_setterBehind (hS : Sok S) (hI : Sin S) (hR : RunC S losers stones standing opn fallen) {y p : Nat} (hy : y < 20) (hp : p < 40) : f_ys_setterBehind stones (nI y) (nI p) = some (wsY S (y + 1) p) := by
  unfold f_ys_setterBehind
  rw [show (8 : Int32) * nI y = nI (8 * y) from nI_mulI 8 y, s_setterAt (by omega) (by decide) (hR.1 y hy).1 (rs_ok hS hI (y + 1)).1 hp]
  rfl
theorem s_highBehind (hR : RunC S losers stones standing opn fallen) {y c : Nat} (hy : y < 20) (hc : c < 8) : f_ys_highBehind standing (nI y) (nI c) = some (nI (colCnt (isS (wsY S (y + 1))) c)) := by
  unfold f_ys_highBehind
  rw [inbN hy (by decide), nI_clamp (by omega), s_bitCount, col_cnt (hR.1 y hy).2.1 (fun p hp => isS_big hp) hc]
  rfl
theorem s_lastingOf (hR : RunC S losers stones standing opn fallen) {h : Nat} (hh : h < 8) : f_ys_lastingOf stones (nI h) = some (nI (bct (isH (wsY S 20) h) 40)) := by
  have e : (152 : Int32) + nI h = nI (8 * 19 + h) := nI_addI 152 h
  have hb : bct (bl (stones (8 * 19 + h))) 64 = bct (isH (wsY S 20) h) 40 := bct_ext (n := 40) (m := 64) (by decide) (fun k _ => ((hR.1 19 (by decide)).1 h hh k).symm) (fun k hk _ => by rw [(hR.1 19 (by decide)).1 h hh k]; exact isH_big hk)
  unfold f_ys_lastingOf
  rw [e, inbN (by omega) (by decide), nI_clamp (by omega), s_bitCount, hb]
  rfl
theorem opn_0 (hS : Sok S) (hR : RunC S losers stones standing opn fallen) {y : Nat} (hy : y < 20) : opn y = 0 ↔ anY S y = false := open_0 hS.2.2.2.2.2.2.2.1 (hR.1 y hy).2.2.1
theorem shF_keep {y : Nat} (h : ¬ shF S y = -1) : ∀ d, shF S (y + d) = shF S y
  | 0 => rfl
  | d + 1 => by
    have ih := shF_keep h d
    show (if anY S (y + d) = true ∧ shF S (y + d) = -1 then _ else shF S (y + d)) = _
    rw [ih, if_neg (fun z => h z.2)]
theorem s_firstOpenYear (hS : Sok S) (hR : RunC S losers stones standing opn fallen) : f_ys_firstOpenYear opn = some (shF S 20) := by
  apply wp_get
  unfold f_ys_firstOpenYear
  refine wl_ys_firstOpenYear_N2 (fun m x1 => ∃ y, x1 = nI y ∧ y ≤ 20 ∧ m = 20 - y ∧ shF S y = -1) ?_ 1000 20 _ (by decide) ⟨0, rfl, by decide, rfl, rfl⟩
  rintro m k2 ih x1 ⟨y, rfl, hy, rfl, hF⟩
  unfold f_ys_firstOpenYear_N2
  refine wp_ite (fun g => ?_) (fun g => ?_)
  · have g' := (nI_leX (a := 20) (b := y) (by decide) (by omega)).mp g
    have e : y = 20 := by omega
    subst e
    exact wp_some hF.symm
  · have g' : ¬ 20 ≤ y := fun q => g ((nI_leX (a := 20) (b := y) (by decide) (by omega)).mpr q)
    have e1 : nI y + 1 = nI (y + 1) := (nI_succ y).symm
    refine wp_gd (inbN (by omega) (by decide)) ?_
    rw [nI_clamp (by omega), e1]
    have hst : shF S (y + 1) = if anY S y = true ∧ shF S y = -1 then nI y else shF S y := rfl
    refine wp_ite (fun g1 => ?_) (fun g1 => ?_)
    · rw [opn_0 hS hR (by omega)] at g1
      rw [g1, if_neg (fun z => by cases z.1)] at hst
      exact ih (20 - (y + 1)) _ (by omega) ⟨y + 1, rfl, by omega, rfl, hst.trans hF⟩
    · rw [opn_0 hS hR (by omega)] at g1
      have g1' : anY S y = true := by
        cases hz : anY S y with
        | false => exact absurd hz g1
        | true => rfl
      rw [if_pos ⟨g1', hF⟩] at hst
      have hne : ¬ shF S (y + 1) = -1 := by rw [hst]; exact nI_ne1 (by omega)
      have := shF_keep hne (20 - (y + 1))
      rw [show y + 1 + (20 - (y + 1)) = 20 by omega] at this
      exact wp_some (by rw [this, hst])
theorem s_openYears (hS : Sok S) (hR : RunC S losers stones standing opn fallen) : f_ys_openYears opn = some (nI (shM S 20)) := by
  apply wp_get
  unfold f_ys_openYears
  refine wl_ys_openYears_N4 (fun m x1 x2 => ∃ y, x2 = nI y ∧ y ≤ 20 ∧ m = 20 - y ∧ x1 = nI (shM S y)) ?_ 1000 20 _ _ (by decide) ⟨0, rfl, by decide, rfl, rfl⟩
  rintro m k4 ih x1 x2 ⟨y, rfl, hy, rfl, rfl⟩
  unfold f_ys_openYears_N4
  refine wp_ite (fun g => ?_) (fun g => ?_)
  · have g' := (nI_leX (a := 20) (b := y) (by decide) (by omega)).mp g
    have e : y = 20 := by omega
    subst e
    exact wp_some rfl
  · have g' : ¬ 20 ≤ y := fun q => g ((nI_leX (a := 20) (b := y) (by decide) (by omega)).mpr q)
    have e1 : nI y + 1 = nI (y + 1) := (nI_succ y).symm
    have hst : shM S (y + 1) = shM S y + (if anY S y then 1 else 0) := rfl
    refine wp_gd (inbN (by omega) (by decide)) ?_
    rw [nI_clamp (by omega), e1]
    refine wp_ite (fun g1 => ?_) (fun g1 => ?_)
    · rw [opn_0 hS hR (by omega)] at g1
      refine ih (20 - (y + 1)) _ _ (by omega) ⟨y + 1, rfl, by omega, rfl, ?_⟩
      rw [hst, g1]; rfl
    · rw [opn_0 hS hR (by omega)] at g1
      have g1' : anY S y = true := by
        cases hz : anY S y with
        | false => exact absurd hz g1
        | true => rfl
      refine ih (20 - (y + 1)) _ _ (by omega) ⟨y + 1, rfl, by omega, rfl, ?_⟩
      rw [hst, g1']; exact (nI_succ _).symm
theorem s_allFallen (hR : RunC S losers stones standing opn fallen) : f_ys_allFallen fallen = some (nI (feS S 20)) := by
  apply wp_get
  unfold f_ys_allFallen
  refine wl_ys_allFallen_N4 (fun m x1 x2 => ∃ y, x2 = nI y ∧ y ≤ 20 ∧ m = 20 - y ∧ x1 = nI (feS S y)) ?_ 1000 20 _ _ (by decide) ⟨0, rfl, by decide, rfl, rfl⟩
  rintro m k4 ih x1 x2 ⟨y, rfl, hy, rfl, rfl⟩
  unfold f_ys_allFallen_N4
  refine wp_ite (fun g => ?_) (fun g => ?_)
  · have g' := (nI_leX (a := 20) (b := y) (by decide) (by omega)).mp g
    have e : y = 20 := by omega
    subst e
    exact wp_some rfl
  · have g' : ¬ 20 ≤ y := fun q => g ((nI_leX (a := 20) (b := y) (by decide) (by omega)).mpr q)
    have e1 : nI y + 1 = nI (y + 1) := (nI_succ y).symm
    refine wp_gd (inbN (by omega) (by decide)) ?_
    rw [nI_clamp (by omega), e1, (hR.1 y (by omega)).2.2.2, nI_addI]
    exact ih (20 - (y + 1)) _ _ (by omega) ⟨y + 1, rfl, by omega, rfl, rfl⟩
end RD
theorem hby_le {n : Nat} {mood strong : Nat → Int32} {w : Wl} {h p : Nat} (hs : (strong h).toInt ≤ 9) : hby n mood strong w h p ≤ 15 := by
  unfold hby
  have h1 := nb_le (isH w h) p
  have h2 := nb_le (fun q => isS w q && !isH w h q) p
  by_cases m1 : mood h = 1
  · rw [if_pos m1]; omega
  · rw [if_neg m1]
    by_cases m2 : mood h = 2
    · rw [if_pos m2]; split <;> omega
    · rw [if_neg m2]
      by_cases m3 : mood h = 3
      · rw [if_pos m3]; omega
      · rw [if_neg m3]; omega
theorem s_holdBehind {S : Sit} {losers : Int32} {stones standing : Nat → Int64} {opn fallen : Nat → Int32} (hS : Sok S) (hI : Sin S) (hR : RunC S losers stones standing opn fallen) (all0 : Int64) (now0 : Nat → Int64) {y p : Nat} (hy : y < 20) (hp : p < 40) : wp (f_ys_holdBehind all0 (nI (Sn S)) (Smd S) (Sst S) now0 stones standing (nI y) (nI p)) (fun r => r.1.toInt = hldV (Sn S) (Smd S) (Sst S) (wsY S (y + 1)) p) := by
  obtain ⟨hw, -⟩ := rs_ok hS hI (y + 1)
  have hset := s_setterBehind hS hI hR hy hp
  obtain ⟨hn, hs, -⟩ := hS
  have e8 : (8 : Int32) * nI y = nI (8 * y) := nI_mulI 8 y
  have c0 : (0 : Int32).toNatClampNeg = 0 := by decide
  have c8 : (8 : Int32).toNatClampNeg = 8 := by decide
  have hcl8 : (nI (8 * y)).toNatClampNeg = 8 * y := nI_clamp (by omega)
  unfold f_ys_holdBehind
  refine wp_bindE hset ?_
  rcases hw p hp with e | ⟨h, hh, e⟩
  · have e' : wsY S (y + 1) p = -1 := e
    have hv : hldV (Sn S) (Smd S) (Sst S) (wsY S (y + 1)) p = -1 := by unfold hldV; rw [if_pos e']
    rw [hv, e']
    exact wp_pos rfl (wp_some (show (-1 : Int32).toInt = -1 by decide))
  · have e' : wsY S (y + 1) p = nI h := e
    have hne : ¬ nI h = -1 := nI_ne1 (by omega)
    have hv : hldV (Sn S) (Smd S) (Sst S) (wsY S (y + 1)) p = if h < Sn S then max 0 (hby (Sn S) (Smd S) (Sst S) (wsY S (y + 1)) h p) else 0 := by
      unfold hldV
      rw [if_neg (by rw [e']; exact hne), e', nI_clamp (show h < 2 ^ 31 by omega)]
    rw [hv, e', e8]
    have hH : isH (wsY S (y + 1)) h p = true := by unfold isH; rw [decide_eq_true hp, e', decide_eq_true rfl]; rfl
    refine wp_neg hne (wp_gd (decide_eq_true ?_) (wp_gd (inbN hy (by decide)) ?_))
    · rw [c0, c8, hcl8]
      exact ⟨Int32.not_lt.mpr ((nI_leX (a := 0) (b := 8 * y) (by decide) (by omega)).mpr (by omega)), by decide, by decide, by omega, by decide⟩
    rw [c0, c8, hcl8, nI_clamp (show y < 2 ^ 31 by omega)]
    have hnow : rep (va_cpy stones now0 (8 * y) 0 8) (wsY S (y + 1)) := by
      intro k hk q
      rw [cpy_at, if_pos (by omega), Nat.sub_zero]
      exact (hR.1 y hy).1 k hk q
    obtain ⟨H, hHd⟩ : ∃ H : Int, H = if h < Sn S then max 0 (hby (Sn S) (Smd S) (Sst S) (wsY S (y + 1)) h p) else 0 := ⟨_, rfl⟩
    have hH0 : 0 ≤ H ∧ H ≤ 15 := by
      rw [hHd]
      by_cases hlt : h < Sn S
      · rw [if_pos hlt]
        have := hby_le (n := Sn S) (mood := Smd S) (strong := Sst S) (w := wsY S (y + 1)) (h := h) (p := p) (hs h hlt).2
        omega
      · rw [if_neg hlt]; omega
    rw [← hHd]
    have hst0 : (0 : Int32).toInt = min (((1 : Nat) : Int) - 1) H := by
      have : (0 : Int32).toInt = 0 := by decide
      omega
    refine wl_ys_holdBehind_N48 (fun m a0 a1 x2 x3 x4 x5 => a0 = standing y ∧ a1 = va_cpy stones now0 (8 * y) 0 8 ∧ x2 = nI p ∧ x3 = nI h ∧ ∃ f, x5 = nI f ∧ 1 ≤ f ∧ f ≤ 16 ∧ m = 16 - f ∧ x4.toInt = min ((f : Int) - 1) H) ?_ 1000 15 _ _ _ _ _ _ (by decide) ⟨rfl, rfl, rfl, rfl, 1, rfl, by decide, by decide, rfl, hst0⟩
    rintro m k48 ih a0 a1 x2 x3 x4 x5 ⟨rfl, rfl, rfl, rfl, f, rfl, hf1, hf2, rfl, h4⟩
    unfold f_ys_holdBehind_N48
    refine wp_ite (fun g => ?_) (fun g => ?_)
    · have g' := (nI_ltX (a := 15) (b := f) (by decide) (by omega)).mp g
      exact wp_some (by show x4.toInt = H; omega)
    · have g' : ¬ 15 < f := fun q => g ((nI_ltX (a := 15) (b := f) (by decide) (by omega)).mpr q)
      have e1 : nI f + 1 = nI (f + 1) := (nI_succ f).symm
      have ef : (nI f).toInt = (f : Int) := nI_toInt (by omega)
      refine wp_bind (s_holdingOf hn hnow (hR.1 y hy).2.1 hs hh (by rw [ef]; omega) (by rw [ef]; omega)) (fun z hz => ?_)
      refine wp_bindE (s_isAt z (by omega)) ?_
      have hbit : bl z p = decide ((f : Int) ≤ H) := by
        rw [hz p, hH, Bool.true_and, ef, hHd]
        by_cases hlt : h < Sn S
        · rw [if_pos hlt, decide_eq_true hlt, Bool.true_and, decide_eq_decide]
          omega
        · rw [if_neg hlt, decide_eq_false hlt, Bool.false_and, eq_comm, decide_eq_false_iff_not]
          omega
      rw [hbit, e1]
      by_cases hle : (f : Int) ≤ H
      · rw [decide_eq_true hle, if_pos rfl]
        refine wp_neg (by decide) ?_
        exact ih (16 - (f + 1)) _ _ _ _ _ _ (by omega) ⟨rfl, rfl, rfl, rfl, f + 1, rfl, by omega, by omega, rfl, by rw [ef]; omega⟩
      · rw [decide_eq_false hle]
        refine wp_pos (by decide) ?_
        exact ih (16 - (f + 1)) _ _ _ _ _ _ (by omega) ⟨rfl, rfl, rfl, rfl, f + 1, rfl, by omega, by omega, rfl, by rw [h4]; omega⟩
/-- does all that was seen come out -/
def seenB (S : Sit) (sn : Nat) (sy sp sh : Nat → Int32) : Bool := !anyB (fun k => !decide (wsY S ((sy k).toNatClampNeg + 1) (sp k).toNatClampNeg = sh k)) sn
def sOk (sn : Nat) (sy sp : Nat → Int32) : Prop := ∀ k, k < sn → (∃ y, y < 20 ∧ sy k = nI y) ∧ ∃ p, p < 40 ∧ sp k = nI p
theorem s_comeOutIn {S : Sit} {losers : Int32} {stones standing : Nat → Int64} {opn fallen : Nat → Int32} (hS : Sok S) (hI : Sin S) (hR : RunC S losers stones standing opn fallen) {sn : Nat} (hsn : sn ≤ 8) {sy sp sh : Nat → Int32} (hs : sOk sn sy sp) : f_sg_comeOutIn (nI sn) sy sp sh stones = some (b2i (seenB S sn sy sp sh)) := by
  apply wp_get
  unfold f_sg_comeOutIn
  refine wl_sg_comeOutIn_N2 (fun m x2 => ∃ k, x2 = nI k ∧ k ≤ sn ∧ m = sn - k ∧ anyB (fun k => !decide (wsY S ((sy k).toNatClampNeg + 1) (sp k).toNatClampNeg = sh k)) k = false) ?_ 1000 sn _ (by omega) ⟨0, rfl, by omega, rfl, rfl⟩
  rintro m k2 ih x2 ⟨k, rfl, hk, rfl, hA⟩
  unfold f_sg_comeOutIn_N2
  refine wp_ite (fun g => ?_) (fun g => ?_)
  · have g' := (nI_leX (a := sn) (b := k) (by omega) (by omega)).mp g
    have e : k = sn := by omega
    subst e
    refine wp_some ?_
    unfold seenB
    rw [hA]; rfl
  · have g' : ¬ sn ≤ k := fun q => g ((nI_leX (by omega) (by omega)).mpr q)
    have e1 : nI k + 1 = nI (k + 1) := (nI_succ k).symm
    have hin : inb (nI k) 8 = true := inbN (by omega) (by decide)
    obtain ⟨⟨y, hy, ey⟩, p, hp, ep⟩ := hs k (by omega)
    refine wp_gd hin (wp_gd hin ?_)
    rw [nI_clamp (show k < 2 ^ 31 by omega), ey, ep, e1]
    refine wp_bindE (s_setterBehind hS hI hR hy hp) (wp_gd hin ?_)
    have hval : wsY S ((sy k).toNatClampNeg + 1) (sp k).toNatClampNeg = wsY S (y + 1) p := by
      rw [ey, ep, nI_clamp (show y < 2 ^ 31 by omega), nI_clamp (show p < 2 ^ 31 by omega)]
    refine wp_ite (fun g1 => ?_) (fun g1 => ?_)
    · refine ih (sn - (k + 1)) _ (by omega) ⟨k + 1, rfl, by omega, rfl, ?_⟩
      show (anyB _ k || !decide (wsY S ((sy k).toNatClampNeg + 1) (sp k).toNatClampNeg = sh k)) = false
      rw [hA, hval, decide_eq_true g1]; rfl
    · refine wp_some ?_
      unfold seenB
      have : anyB (fun k => !decide (wsY S ((sy k).toNatClampNeg + 1) (sp k).toNatClampNeg = sh k)) sn = true := (anyB_iff _ _).mpr ⟨k, by omega, by rw [hval, decide_eq_false g1]; rfl⟩
      rw [this]; rfl
