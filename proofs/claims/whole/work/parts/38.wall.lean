/-! THE WALL AS A TEXT -/
/-- before byte k: course, column, how many columns a course may have -/
def wpS (wb : Nat → Int32) : Nat → Nat × Nat × Nat
  | 0 => (0, 0, 8)
  | k + 1 => if wb k = 59 then ((wpS wb k).1 + 1, 0, if (wpS wb k).1 = 0 then (wpS wb k).2.1 else (wpS wb k).2.2) else ((wpS wb k).1, (wpS wb k).2.1 + 1, (wpS wb k).2.2)
theorem wpS_s (wb : Nat → Int32) (k : Nat) : wpS wb (k + 1) = if wb k = 59 then ((wpS wb k).1 + 1, 0, if (wpS wb k).1 = 0 then (wpS wb k).2.1 else (wpS wb k).2.2) else ((wpS wb k).1, (wpS wb k).2.1 + 1, (wpS wb k).2.2) := rfl
def wShort (t : Nat × Nat × Nat) : Bool := decide (t.2.1 = 0) || (decide (0 < t.1) && decide (t.2.1 < t.2.2))
def wStone (x : Int32) : Bool := decide (x = 46) || !decide (wi x 97 104 = 0)
def wbad (wb : Nat → Int32) (k : Nat) : Bool := decide ((wpS wb k).1 = 5) || (if wb k = 59 then wShort (wpS wb k) else (!wStone (wb k) || decide ((wpS wb k).2.1 = (wpS wb k).2.2)))
def wsc (wb : Nat → Int32) (n : Nat) : Nat → Nat → Int32
  | 0, _ => if 0 < n ∧ wShort (wpS wb n) = true then nI n else -1
  | m + 1, k => if wbad wb k then nI k else wsc wb n m (k + 1)
theorem wsc_s (wb : Nat → Int32) (n m k : Nat) : wsc wb n (m + 1) k = if wbad wb k then nI k else wsc wb n m (k + 1) := rfl
def wFault (wb : Nat → Int32) (n : Nat) : Int32 := wsc wb n n 0
/-- the stones of the first k bytes -/
def wTd (wb : Nat → Int32) : Nat → Wl
  | 0 => fun _ => -1
  | k + 1 => if wb k = 59 then wTd wb k else upd (wTd wb k) (8 * (wpS wb k).1 + (wpS wb k).2.1) (if wb k = 46 then -1 else wb k - 97)
def wWell (wb : Nat → Int32) (n : Nat) : Prop := wFault wb n = -1 ∧ 0 < n
def wC (wb : Nat → Int32) (n : Nat) : Nat := if wFault wb n = -1 ∧ 0 < n then (wpS wb n).1 + 1 else 0
def wW (wb : Nat → Int32) (n : Nat) : Nat := if wFault wb n = -1 ∧ 0 < n then (wpS wb n).2.1 else 0
def wTold (wb : Nat → Int32) (n : Nat) : Wl := if wFault wb n = -1 then wTd wb n else fun _ => -1
/-- what holds of the scan while no byte was bad -/
def wInv (t : Nat × Nat × Nat) : Prop := t.1 ≤ 5 ∧ t.2.1 ≤ t.2.2 ∧ t.2.2 ≤ 8 ∧ (0 < t.1 → 1 ≤ t.2.2) ∧ (t.1 = 5 → t.2.1 = 0)
theorem wS_step {wb : Nat → Int32} {k : Nat} (h : wInv (wpS wb k)) (hb : wbad wb k = false) : wInv (wpS wb (k + 1)) ∧ (wpS wb k).1 < 5 ∧ (¬ wb k = 59 → (wpS wb k).2.1 < (wpS wb k).2.2) := by
  obtain ⟨h1, h2, h3, h4, h5⟩ := h
  unfold wbad at hb
  obtain ⟨b1, b2⟩ := Bool.or_eq_false_iff.mp hb
  rw [decide_eq_false_iff_not] at b1
  have hlt : (wpS wb k).1 < 5 := by omega
  rw [wpS_s]
  by_cases e : wb k = 59
  · rw [if_pos e] at b2 ⊢
    unfold wShort at b2
    obtain ⟨c1, c2⟩ := Bool.or_eq_false_iff.mp b2
    rw [decide_eq_false_iff_not] at c1
    refine ⟨⟨by show (wpS wb k).1 + 1 ≤ 5; omega, Nat.zero_le _, ?_, ?_, fun _ => rfl⟩, hlt, fun z => absurd e z⟩
    · show (if (wpS wb k).1 = 0 then (wpS wb k).2.1 else (wpS wb k).2.2) ≤ 8
      split <;> omega
    · intro _
      show 1 ≤ (if (wpS wb k).1 = 0 then (wpS wb k).2.1 else (wpS wb k).2.2)
      split
      · omega
      · exact h4 (by omega)
  · rw [if_neg e] at b2 ⊢
    obtain ⟨c1, c2⟩ := Bool.or_eq_false_iff.mp b2
    rw [decide_eq_false_iff_not] at c2
    exact ⟨⟨h1, by show (wpS wb k).2.1 + 1 ≤ (wpS wb k).2.2; omega, h3, h4, fun z => by have : (wpS wb k).1 = 5 := z; omega⟩, hlt, fun _ => by omega⟩
theorem wS_inv {wb : Nat → Int32} : ∀ k, (∀ j, j < k → wbad wb j = false) → wInv (wpS wb k)
  | 0, _ => show wInv (0, 0, 8) from ⟨by decide, by decide, by decide, by decide, by decide⟩
  | k + 1, h => (wS_step (wS_inv k (fun j hj => h j (by omega))) (h k (by omega))).1
/-- the class's fault -/
theorem s_wFault {wb : Nat → Int32} {n N : Nat} (hnN : n ≤ N) (hN : N < 90) : f_wl_firstFault (nI n) wb N = some (wFault wb n) := by
  apply wp_get
  unfold f_wl_firstFault
  refine wl_wl_firstFault_N13 (fun m x1 x2 x3 x4 x5 => ∃ k, x5 = nI k ∧ k ≤ n ∧ m = n - k ∧ x1 = nI (wpS wb k).1 ∧ x2 = nI (wpS wb k).2.1 ∧ (x3 = nI (if (wpS wb k).1 = 0 then 1 else (wpS wb k).2.2)) ∧ x4 = nI (wpS wb k).2.2 ∧ (∀ j, j < k → wbad wb j = false) ∧ wsc wb n (n - k) k = wFault wb n) ?_ 1000 n _ _ _ _ _ (by omega) ⟨0, rfl, by omega, rfl, rfl, rfl, rfl, rfl, fun j hj => absurd hj (Nat.not_lt_zero j), rfl⟩
  rintro m k13 ih x1 x2 x3 x4 x5 ⟨k, rfl, hk, rfl, rfl, rfl, rfl, rfl, hno, hh⟩
  obtain ⟨i1, i2, i3, i4, i5⟩ := wS_inv k hno
  have hsh : (nI (if (wpS wb k).1 = 0 then 1 else (wpS wb k).2.2) ≤ nI (wpS wb k).2.1) ↔ wShort (wpS wb k) = false := by
    rw [nI_leX (by split <;> omega) (by omega)]
    unfold wShort
    rw [Bool.or_eq_false_iff, decide_eq_false_iff_not, Bool.and_eq_false_iff, decide_eq_false_iff_not, decide_eq_false_iff_not]
    by_cases e : (wpS wb k).1 = 0
    · rw [if_pos e]; omega
    · rw [if_neg e]
      have := i4 (by omega)
      omega
  unfold f_wl_firstFault_N13
  refine wp_ite (fun g => ?_) (fun g => ?_)
  · have g' := (nI_leX (a := n) (b := k) (by omega) (by omega)).mp g
    have e : k = n := by omega
    subst e
    rw [Nat.sub_self] at hh
    unfold wsc at hh
    refine wp_ite (fun g1 => ?_) (fun g1 => ?_)
    · have g1' := (nI_leX (a := k) (b := 0) (by omega) (by decide)).mp g1
      rw [if_neg (by omega)] at hh
      exact wp_some hh
    · have g1' : ¬ k ≤ 0 := fun q => g1 ((nI_leX (a := k) (b := 0) (by omega) (by decide)).mpr q)
      refine wp_ite (fun g2 => ?_) (fun g2 => ?_)
      · rw [if_neg (fun z => by rw [hsh.mp g2] at z; cases z.2)] at hh
        exact wp_some hh
      · rw [if_pos ⟨by omega, by cases hz : wShort (wpS wb k) with
          | false => exact absurd (hsh.mpr hz) g2
          | true => rfl⟩] at hh
        exact wp_some hh
  · have g' : ¬ n ≤ k := fun q => g ((nI_leX (by omega) (by omega)).mpr q)
    have e1 : nI k + 1 = nI (k + 1) := (nI_succ k).symm
    rw [show n - k = (n - (k + 1)) + 1 by omega, wsc_s] at hh
    refine wp_gd (inbN (by omega) (by omega)) ?_
    rw [nI_clamp (show k < 2 ^ 31 by omega), e1]
    have m5 : nI (wpS wb k).1 = 5 ↔ (wpS wb k).1 = 5 := nI_eqI (b := 5) (by omega) (by decide)
    have bad : wbad wb k = true → wp (some (nI k)) (fun r => r = wFault wb n) := by
      intro hb
      rw [if_pos hb] at hh
      exact wp_some hh
    have nxt : wbad wb k = false → ∀ x1 x2 x3 x4 : Int32, x1 = nI (wpS wb (k + 1)).1 → x2 = nI (wpS wb (k + 1)).2.1 → x3 = nI (if (wpS wb (k + 1)).1 = 0 then 1 else (wpS wb (k + 1)).2.2) → x4 = nI (wpS wb (k + 1)).2.2 → wp (k13 x1 x2 x3 x4 (nI (k + 1))) (fun r => r = wFault wb n) := by
      intro hb x1 x2 x3 x4 h1 h2 h3 h4
      rw [if_neg (by rw [hb]; decide)] at hh
      exact ih (n - (k + 1)) _ _ _ _ _ (by omega) ⟨k + 1, rfl, by omega, rfl, h1, h2, h3, h4, fun j hj => by
        rcases Nat.lt_or_ge j k with z | z
        · exact hno j z
        · have : j = k := by omega
          rw [this]; exact hb, hh⟩
    have hbd : wbad wb k = (decide ((wpS wb k).1 = 5) || (if wb k = 59 then wShort (wpS wb k) else (!wStone (wb k) || decide ((wpS wb k).2.1 = (wpS wb k).2.2)))) := rfl
    refine wp_ite (fun g1 => ?_) (fun g1 => ?_)
    · rw [if_pos g1] at hbd
      have hst : wpS wb (k + 1) = ((wpS wb k).1 + 1, 0, if (wpS wb k).1 = 0 then (wpS wb k).2.1 else (wpS wb k).2.2) := by
        show (if wb k = 59 then _ else _) = _
        rw [if_pos g1]
      refine wp_ite (fun g2 => ?_) (fun g2 => ?_)
      · have hs0 := hsh.mp g2
        have n5 : ¬ (wpS wb k).1 = 5 := by
          intro z
          have h0 := i5 z
          unfold wShort at hs0
          rw [h0] at hs0
          cases hs0
        refine nxt (by rw [hbd, hs0, decide_eq_false n5]; rfl) _ _ _ _ (by rw [hst]; exact (nI_succ _).symm) (by rw [hst]; rfl) ?_ ?_
        · rw [hst]
          show nI _ = nI (if (wpS wb k).1 + 1 = 0 then 1 else if (wpS wb k).1 = 0 then (wpS wb k).2.1 else (wpS wb k).2.2)
          rw [if_neg (by omega)]
          congr 1
          by_cases e : (wpS wb k).1 = 0
          · rw [if_pos e]
          · rw [if_neg e]
            unfold wShort at hs0
            rw [Bool.or_eq_false_iff, decide_eq_false_iff_not, Bool.and_eq_false_iff, decide_eq_false_iff_not, decide_eq_false_iff_not] at hs0
            omega
        · rw [hst]
          show nI _ = nI (if (wpS wb k).1 = 0 then (wpS wb k).2.1 else (wpS wb k).2.2)
          congr 1
          by_cases e : (wpS wb k).1 = 0
          · rw [if_pos e]
          · rw [if_neg e]
            unfold wShort at hs0
            rw [Bool.or_eq_false_iff, decide_eq_false_iff_not, Bool.and_eq_false_iff, decide_eq_false_iff_not, decide_eq_false_iff_not] at hs0
            omega
      · refine bad ?_
        rw [hbd]
        cases hz : wShort (wpS wb k) with
        | false => exact absurd (hsh.mpr hz) g2
        | true => rw [Bool.or_true]
    · rw [if_neg g1] at hbd
      have hst : wpS wb (k + 1) = ((wpS wb k).1, (wpS wb k).2.1 + 1, (wpS wb k).2.2) := by
        show (if wb k = 59 then _ else _) = _
        rw [if_neg g1]
      have go : wStone (wb k) = true → ¬ (wpS wb k).1 = 5 → ¬ (wpS wb k).2.1 = (wpS wb k).2.2 → wp (k13 (nI (wpS wb k).1) (nI (wpS wb k).2.1 + 1) (nI (if (wpS wb k).1 = 0 then 1 else (wpS wb k).2.2)) (nI (wpS wb k).2.2) (nI (k + 1))) (fun r => r = wFault wb n) := by
        intro h1 h2 h3
        refine nxt (by rw [hbd, h1, decide_eq_false h2, decide_eq_false h3]; rfl) _ _ _ _ (by rw [hst]) (by rw [hst]; exact (nI_succ _).symm) (by rw [hst]) (by rw [hst])
      refine wp_ite (fun g2 => bad (by rw [hbd, decide_eq_true (m5.mp g2), Bool.true_or])) (fun g2 => ?_)
      refine wp_ite (fun g3 => ?_) (fun g3 => ?_)
      · have g3' := (nI_eqI (by omega) (by omega)).mp g3
        exact bad (by rw [hbd, decide_eq_true g3', Bool.or_true, Bool.or_true])
      · have g3' : ¬ (wpS wb k).2.1 = (wpS wb k).2.2 := fun q => g3 (by rw [q])
        have g2' : ¬ (wpS wb k).1 = 5 := fun q => g2 (m5.mpr q)
        refine wp_ite (fun g4 => ?_) (fun g4 => ?_)
        · exact go (by unfold wStone; rw [decide_eq_true g4]; rfl) g2' g3'
        · refine wp_bindE (s_within _ _ _) (wp_ite (fun g5 => ?_) (fun g5 => ?_))
          · refine bad ?_
            rw [hbd]
            unfold wStone
            rw [decide_eq_false g4, decide_eq_true g5]
            simp
          · exact go (by unfold wStone; rw [decide_eq_false g5, Bool.not_false, Bool.or_true]) g2' g3'
