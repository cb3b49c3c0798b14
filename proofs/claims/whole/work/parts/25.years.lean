/-! WHAT FALLS, GAPS, SHEEP: one year of the class -/
def drp (w : Wl) (s : Nat → Bool) : Nat := bct (fun p => isS w p && !s p) 40
def lost (w : Wl) (s : Nat → Bool) (h : Nat) : Nat := bct (fun p => isH w h p && !s p) 40
theorem bct_zero {p : Nat → Bool} : ∀ {n : Nat}, bct p n = 0 ↔ ∀ k, k < n → p k = false
  | 0 => ⟨fun _ k hk => absurd hk (Nat.not_lt_zero k), fun _ => rfl⟩
  | n + 1 => by
    show bct p n + (if p n then 1 else 0) = 0 ↔ _
    have ih := bct_zero (p := p) (n := n)
    constructor
    · intro h k hk
      have h1 : bct p n = 0 := by omega
      rcases Nat.lt_or_ge k n with q | q
      · exact ih.mp h1 k q
      · have : k = n := by omega
        subst this
        cases hp : p k with
        | false => rfl
        | true => rw [hp] at h; simp at h
    · intro h
      rw [ih.mpr (fun k hk => h k (by omega)), h n (by omega)]
      rfl
theorem bct_ext {p q : Nat → Bool} {n m : Nat} (hnm : n ≤ m) (h : ∀ k, k < n → p k = q k) (h2 : ∀ k, n ≤ k → k < m → q k = false) : bct q m = bct p n := by
  obtain ⟨d, rfl⟩ : ∃ d, m = n + d := ⟨m - n, by omega⟩
  rw [bct_split, bct_cong (fun k hk => (h k hk).symm), (bct_zero (p := fun k => q (n + k))).mpr (fun k hk => h2 (n + k) (by omega) (by omega)), Nat.add_zero]
theorem isS_keep (w : Wl) (s : Nat → Bool) (p : Nat) : isS (keep s w) p = (isS w p && s p) := by
  unfold isS keep
  cases s p <;> simp
theorem isH_keep {w : Wl} (s : Nat → Bool) {h : Nat} (hh : h < 8) (p : Nat) : isH (keep s w) h p = (isH w h p && s p) := by
  unfold isH keep
  cases hs : s p with
  | true => simp
  | false =>
    have : ¬ ((-1 : Int32) = nI h) := fun e => nI_ne1 (show h < 2 ^ 31 by omega) e.symm
    simp [this]
theorem bt_or1 {x : Int32} {j : Nat} (hj : j < 32) (i : Nat) (hi : i < 32) : bt (x ||| ((1 : Int32) <<< (nI j &&& 31))) i = (bt x i || decide (i = j)) := by
  rw [b_or, b_shl j hj _ hi]
  congr 1
  have : bt 1 (i - j) = decide (i - j = 0) := (by decide +kernel : ∀ k, k < 32 → bt 1 k = decide (k = 0)) (i - j) (by omega)
  rw [this, Bool.eq_iff_iff, Bool.and_eq_true_iff, decide_eq_true_eq, decide_eq_true_eq, decide_eq_true_eq]
  omega
/-- lets all stones fall but those that stay -/
theorem s_leave {all : Int64} {losers : Int32} {now : Nat → Int64} {w : Wl} (hr : rep now w) (ha : repA all w) {s : Nat → Bool} {st : Int64} (hst : ∀ p, bl st p = (isS w p && s p)) : wp (f_ys_leave all losers now st) (fun r => r.1 = nI (drp w s) ∧ repA r.2.1 (keep s w) ∧ (∀ i, i < 32 → bt r.2.2.1 i = (bt losers i || (decide (i < 8) && decide (0 < lost w s i)))) ∧ rep r.2.2.2 (keep s w)) := by
  have hfall : ∀ p, bl (all &&& (st ^^^ (-1 : Int64))) p = (isS w p && !s p) := by
    intro p
    rw [bl_and, bl_not, ha, hst]
    by_cases h64 : p < 64
    · rw [decide_eq_true h64]
      cases isS w p <;> cases s p <;> rfl
    · rw [isS_big (by omega)]; simp
  have hcnt : bct (bl (all &&& (st ^^^ (-1 : Int64)))) 64 = drp w s := bct_ext (n := 40) (m := 64) (by decide) (fun k _ => (hfall k).symm) (fun k hk _ => by rw [hfall, isS_big hk, Bool.false_and])
  have hstA : repA st (keep s w) := fun p => by rw [hst, isS_keep]
  have hlost : ∀ h, h < 8 → (0 < lost w s h ↔ ∃ p, p < 40 ∧ (isH w h p && !s p) = true) := by
    intro h hh
    rw [Nat.pos_iff_ne_zero]
    constructor
    · intro hne
      refine Classical.byContradiction fun hx => hne (bct_zero.mpr (fun k hk => ?_))
      cases hq : (isH w h k && !s k) with
      | false => rfl
      | true => exact absurd ⟨k, hk, hq⟩ hx
    · rintro ⟨p, hp, e⟩ h0
      have := bct_zero.mp h0 p hp
      rw [this] at e
      cases e
  have hnf : ∀ h, h < 8 → ((now h &&& (all &&& (st ^^^ (-1 : Int64)))) = 0 ↔ lost w s h = 0) := by
    intro h hh
    rw [bl_eq0]
    constructor
    · intro e
      refine bct_zero.mpr (fun k hk => ?_)
      have := e k (by omega)
      rw [bl_and, hfall, hr h hh] at this
      cases hq : isH w h k with
      | false => rfl
      | true =>
        rw [hq, isH_S hh hq] at this
        simpa using this
    · intro e i hi
      rw [bl_and, hfall, hr h hh]
      by_cases h40 : i < 40
      · have := bct_zero.mp e i h40
        cases hq : isH w h i with
        | false => rfl
        | true =>
          rw [hq] at this
          simp at this
          simp [this]
      · rw [isH_big (by omega), Bool.false_and]
  unfold f_ys_leave
  refine wp_ite (fun h0 => ?_) (fun h0 => ?_)
  · rw [cmp0] at h0
    have hno : ∀ p, (isS w p && !s p) = false := fun p => by rw [← hfall, h0, bl_0]
    have hk : ∀ p, p < 40 → keep s w p = w p := by
      intro p hp
      unfold keep
      cases hs : s p with
      | true => simp
      | false =>
        have := hno p
        rw [hs] at this
        unfold isS at this
        simp [hp] at this
        simp [this]
    have hlz : ∀ h, h < 8 → lost w s h = 0 := fun h hh => (hnf h hh).mp (by rw [h0]; apply bl_ext; intro i _; rw [bl_and, bl_0, Bool.and_false])
    refine wp_some ⟨?_, ?_, ?_, ?_⟩
    · show (0 : Int32) = nI (drp w s)
      rw [← hcnt, h0, bct_zero.mpr (fun k _ => bl_0 k)]
      rfl
    · intro p
      show bl all p = _
      rw [ha, isS_keep]
      have := hno p
      cases hq : isS w p with
      | false => rfl
      | true =>
        rw [hq] at this
        simp at this
        simp [this]
    · intro i hi
      show bt losers i = _
      by_cases h8 : i < 8
      · rw [hlz i h8]; simp
      · simp [h8]
    · intro h hh p
      show bl (now h) p = _
      rw [hr h hh, isH_keep s hh]
      cases hq : isH w h p with
      | false => rfl
      | true =>
        have h1 := isH_S hh hq
        have := hno p
        rw [h1] at this
        simp at this
        simp [this]
  · refine wl_ys_leave_N22 (fun k a0 a1 a2 a3 a4 a5 => a3 = st ∧ a4 = all &&& (st ^^^ (-1 : Int64)) ∧ ∃ j, a5 = nI j ∧ j ≤ 8 ∧ k = 8 - j ∧ (∀ i, i < 32 → bt a1 i = (bt losers i || (decide (i < j) && decide (0 < lost w s i)))) ∧ (∀ h, h < 8 → ∀ p, bl (a2 h) p = if h < j then isH (keep s w) h p else isH w h p)) ?_ 1000 8 _ _ _ _ _ _ (by decide) ⟨rfl, rfl, 0, rfl, by decide, rfl, fun i _ => by simp, fun h hh p => by rw [if_neg (Nat.not_lt_zero h)]; exact hr h hh p⟩
    rintro k k22 ih a0 a1 a2 a3 a4 a5 ⟨rfl, rfl, j, rfl, hj, rfl, hl, hn⟩
    unfold f_ys_leave_N22
    refine wp_ite (fun g => ?_) (fun g => ?_)
    · have g' := (nI_leX (a := 8) (b := j) (by decide) (by omega)).mp g
      have : j = 8 := by omega
      subst this
      refine wp_bindE (s_bitCount _) (wp_some ⟨?_, hstA, hl, ?_⟩)
      · show nI _ = _
        rw [hcnt]
      · intro h hh p
        have := hn h hh p
        rw [if_pos hh] at this
        exact this
    · have g' : ¬ 8 ≤ j := fun q => g ((nI_leX (a := 8) (b := j) (by decide) (by omega)).mpr q)
      have hj8 : j < 8 := by omega
      have e1 : nI j + 1 = nI (j + 1) := (nI_succ j).symm
      have hin : inb (nI j) 8 = true := inbN hj8 (by decide)
      have hcur : ∀ p, bl (a2 j) p = isH w j p := fun p => by rw [hn j hj8 p, if_neg (Nat.lt_irrefl j)]
      have hcur2 : a2 j = now j := bl_ext (fun i _ => by rw [hcur, hr j hj8])
      refine wp_gd hin ?_
      rw [nI_clamp (show j < 2 ^ 31 by omega), e1]
      refine wp_ite (fun g1 => ?_) (fun g1 => ?_)
      · rw [cmp0, hcur2, hnf j hj8] at g1
        refine ih (8 - (j + 1)) _ _ _ _ _ _ (by omega) ⟨rfl, rfl, j + 1, rfl, by omega, rfl, fun i hi => ?_, fun h hh p => ?_⟩
        · rw [hl i hi]
          by_cases q : i = j
          · subst q
            simp [g1]
          · have : decide (i < j + 1) = decide (i < j) := by rw [decide_eq_decide]; omega
            rw [this]
        · rw [hn h hh p]
          by_cases q : h = j
          · subst q
            rw [if_neg (Nat.lt_irrefl h), if_pos (Nat.lt_succ_self h), isH_keep s hh]
            cases hq : isH w h p with
            | false => rfl
            | true =>
              have hp40 : p < 40 := by
                rcases Nat.lt_or_ge p 40 with z | z
                · exact z
                · rw [isH_big z] at hq; cases hq
              have := bct_zero.mp g1 p hp40
              rw [hq] at this
              simp at this
              simp [this]
          · by_cases z : h < j
            · rw [if_pos z, if_pos (by omega)]
            · rw [if_neg z, if_neg (by omega)]
      · refine wp_gd hin (wp_gd hin ?_)
        rw [cmp0, hcur2, hnf j hj8] at g1
        refine ih (8 - (j + 1)) _ _ _ _ _ _ (by omega) ⟨rfl, rfl, j + 1, rfl, by omega, rfl, fun i hi => ?_, fun h hh p => ?_⟩
        · rw [bt_or1 (by omega) i hi, hl i hi]
          by_cases q : i = j
          · subst q
            have : 0 < lost w s i := Nat.pos_of_ne_zero g1
            simp [this]
          · have : decide (i < j + 1) = decide (i < j) := by rw [decide_eq_decide]; omega
            rw [this, decide_eq_false q, Bool.or_false]
        · show bl (if h = j then _ else a2 h) p = _
          by_cases q : h = j
          · subst q
            rw [if_pos rfl, if_pos (Nat.lt_succ_self h), bl_and, hcur, hst, isH_keep s hh]
            cases hq : isH w h p with
            | false => rfl
            | true => rw [isH_S hh hq]; rfl
          · rw [if_neg q, hn h hh p]
            by_cases z : h < j
            · rw [if_pos z, if_pos (by omega)]
            · rw [if_neg z, if_neg (by omega)]
/-- whose stone is at a place -/
theorem s_setterAt {st : Nat → Int64} {n f : Nat} {w : Wl} (hf : f + 8 ≤ n) (hn : n < 2 ^ 31) (hr : rep (fun h => st (f + h)) w) (hw : wok w) {p : Nat} (hp : p < 40) : f_x_setterAt st n (nI f) (nI p) = some (w p) := by
  apply wp_get
  unfold f_x_setterAt
  refine wl_x_setterAt_N2 (fun k x1 x2 x3 => x1 = nI f ∧ x2 = nI p ∧ ∃ j, x3 = nI j ∧ j ≤ 8 ∧ k = 8 - j ∧ ∀ h, h < j → ¬ w p = nI h) ?_ 1000 8 _ _ _ (by decide) ⟨rfl, rfl, 0, rfl, by decide, rfl, fun h hh => absurd hh (Nat.not_lt_zero h)⟩
  rintro k k2 ih x1 x2 x3 ⟨rfl, rfl, j, rfl, hj, rfl, hno⟩
  unfold f_x_setterAt_N2
  refine wp_ite (fun g => ?_) (fun g => ?_)
  · have g' := (nI_leX (a := 8) (b := j) (by decide) (by omega)).mp g
    have : j = 8 := by omega
    subst this
    refine wp_some ?_
    rcases hw p hp with e | ⟨h, hh, e⟩
    · exact e.symm
    · exact absurd e (hno h hh)
  · have g' : ¬ 8 ≤ j := fun q => g ((nI_leX (a := 8) (b := j) (by decide) (by omega)).mpr q)
    have e1 : nI j + 1 = nI (j + 1) := (nI_succ j).symm
    rw [nI_addI]
    refine wp_gd (inbN (by omega) hn) ?_
    rw [nI_clamp (show f + j < 2 ^ 31 by omega)]
    refine wp_bindE (s_isAt _ (by omega)) ?_
    have hb : bl (st (f + j)) p = decide (w p = nI j) := by
      rw [hr j (by omega)]
      unfold isH
      rw [decide_eq_true hp, Bool.true_and]
    by_cases hq : w p = nI j
    · rw [hb, decide_eq_true hq, if_pos rfl]
      refine wp_neg (by decide) (wp_some hq.symm)
    · rw [hb, decide_eq_false hq]
      refine wp_pos (by decide) ?_
      rw [e1]
      refine ih (8 - (j + 1)) _ _ _ (by omega) ⟨rfl, rfl, j + 1, rfl, by omega, rfl, fun h hh => ?_⟩
      rcases Nat.lt_or_ge h j with z | z
      · exact hno h z
      · have : h = j := by omega
        subst this
        exact hq
