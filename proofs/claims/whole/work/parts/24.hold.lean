/-! HOW EACH STONE HOLDS; WHAT FALLS -/
def anyB (f : Nat → Bool) : Nat → Bool
  | 0 => false
  | n + 1 => anyB f n || f n
theorem anyB_iff (f : Nat → Bool) : ∀ n, anyB f n = true ↔ ∃ h, h < n ∧ f h = true
  | 0 => ⟨fun h => (by cases h), fun ⟨h, hh, _⟩ => absurd hh (Nat.not_lt_zero h)⟩
  | n + 1 => by
    show (anyB f n || f n) = true ↔ _
    rw [Bool.or_eq_true_iff, anyB_iff f n]
    constructor
    · rintro (⟨h, hh, e⟩ | e)
      · exact ⟨h, by omega, e⟩
      · exact ⟨n, by omega, e⟩
    · rintro ⟨h, hh, e⟩
      rcases Nat.lt_or_ge h n with q | q
      · exact Or.inl ⟨h, q, e⟩
      · have : h = n := by omega
        subst this
        exact Or.inr e
theorem anyB_cong {f g : Nat → Bool} : ∀ {n : Nat}, (∀ k, k < n → f k = g k) → anyB f n = anyB g n
  | 0, _ => rfl
  | n + 1, h => by
    show (anyB f n || f n) = (anyB g n || g n)
    rw [anyB_cong (fun k hk => h k (by omega)), h n (by omega)]
/-- the stones of all hands of a mood -/
def ofM (n : Nat) (mood : Nat → Int32) (m : Int32) (w : Wl) (q : Nat) : Bool := anyB (fun h => decide (mood h = m) && isH w h q) n
theorem ofM_S {n : Nat} (hn : n ≤ 8) {mood : Nat → Int32} {m : Int32} {w : Wl} {q : Nat} (h : ofM n mood m w q = true) : isS w q = true := by
  obtain ⟨k, hk, e⟩ := (anyB_iff _ _).mp h
  exact isH_S (show k < 8 by omega) (Bool.and_eq_true_iff.mp e).2
theorem isS_big {w : Wl} {p : Nat} (h : 40 ≤ p) : isS w p = false := by
  unfold isS
  rw [decide_eq_false (by omega), Bool.false_and]
theorem isH_big {w : Wl} {k p : Nat} (h : 40 ≤ p) : isH w k p = false := by
  unfold isH
  rw [decide_eq_false (by omega), Bool.false_and]
def hby (n : Nat) (mood strong : Nat → Int32) (w : Wl) (h p : Nat) : Int :=
  (strong h).toInt + (nb (isH w h) p : Int) + (if mood h = 1 then -(nb (fun q => isS w q && !isH w h q) p : Int) else if mood h = 2 then (if 1 ≤ nb (fun q => ofM n mood 2 w q && !isH w h q) p then 2 else 0) else if mood h = 3 then -((p / 8 : Nat) : Int) else 0)
theorem s_nowOf {n : Nat} (hn : n ≤ 8) {mood : Nat → Int32} {now : Nat → Int64} {w : Wl} (hr : rep now w) (m : Int32) : wp (f_ys_nowOf (nI n) mood now m) (fun y => ∀ p, bl y p = ofM n mood m w p) := by
  unfold f_ys_nowOf
  refine wl_ys_nowOf_N5 (fun k x1 x2 x4 => x1 = m ∧ ∃ j, x4 = nI j ∧ j ≤ n ∧ k = n - j ∧ ∀ p, bl x2 p = anyB (fun h => decide (mood h = m) && isH w h p) j) ?_ 1000 n _ _ _ (by omega) ⟨rfl, 0, rfl, by omega, rfl, fun p => bl_0 p⟩
  rintro k k5 ih x1 x2 x4 ⟨rfl, j, rfl, hj, rfl, hx⟩
  unfold f_ys_nowOf_N5
  refine wp_ite (fun h => ?_) (fun h => ?_)
  · have h' := (nI_leX (a := n) (b := j) (by omega) (by omega)).mp h
    have : j = n := by omega
    subst this
    exact wp_some hx
  · have h' : ¬ n ≤ j := fun q => h ((nI_leX (a := n) (b := j) (by omega) (by omega)).mpr q)
    have e1 : nI j + 1 = nI (j + 1) := (nI_succ j).symm
    refine wp_gd (inbN (by omega) (by omega)) ?_
    rw [nI_clamp (show j < 2 ^ 31 by omega), e1]
    refine wp_ite (fun h1 => ?_) (fun h1 => ?_)
    · refine wp_gd (inbN (by omega) (by omega)) ?_
      refine ih (n - (j + 1)) _ _ _ (by omega) ⟨rfl, j + 1, rfl, by omega, rfl, fun p => ?_⟩
      show _ = (anyB _ j || (decide (mood j = x1) && isH w j p))
      rw [bl_or, hx, hr j (by omega), decide_eq_true h1, Bool.true_and]
    · refine ih (n - (j + 1)) _ _ _ (by omega) ⟨rfl, j + 1, rfl, by omega, rfl, fun p => ?_⟩
      show _ = (anyB _ j || (decide (mood j = x1) && isH w j p))
      rw [hx, decide_eq_false h1, Bool.false_and, Bool.or_false]
theorem toI_sub {a b : Int32} (h1 : -1000 ≤ a.toInt) (h2 : a.toInt ≤ 1000) (h3 : -1000 ≤ b.toInt) (h4 : b.toInt ≤ 1000) : (a - b).toInt = a.toInt - b.toInt := by
  rw [Int32.toInt_sub]
  have e : (2 : Nat) ^ 32 = 4294967296 := by decide
  rw [e]
  unfold Int.bmod
  simp only
  split <;> omega
theorem toI_add {a b : Int32} (h1 : -1000000 ≤ a.toInt) (h2 : a.toInt ≤ 1000000) (h3 : -1000000 ≤ b.toInt) (h4 : b.toInt ≤ 1000000) : (a + b).toInt = a.toInt + b.toInt := by
  rw [Int32.toInt_add]
  have e : (2 : Nat) ^ 32 = 4294967296 := by decide
  rw [e]
  unfold Int.bmod
  simp only
  split <;> omega
theorem hold_temper {need : Int} {a b : Nat} (hb : b ≤ 4) : anyB (fun t => decide (need + (t : Int) ≤ (a : Int)) && !decide ((t : Int) + 1 ≤ (b : Int))) 5 = decide (need + (b : Int) ≤ (a : Int)) := by
  rw [Bool.eq_iff_iff, anyB_iff, decide_eq_true_eq]
  constructor
  · rintro ⟨t, ht, e⟩
    simp only [Bool.and_eq_true, decide_eq_true_eq, Bool.not_eq_true', decide_eq_false_iff_not] at e
    omega
  · intro h
    refine ⟨b, by omega, ?_⟩
    simp only [Bool.and_eq_true, decide_eq_true_eq, Bool.not_eq_true', decide_eq_false_iff_not]
    omega
theorem s_holdingOf {n : Nat} (hn : n ≤ 8) {mood strong : Nat → Int32} {now : Nat → Int64} {all : Int64} {w : Wl} (hr : rep now w) (ha : repA all w) (hs : ∀ h, h < n → 0 ≤ (strong h).toInt ∧ (strong h).toInt ≤ 9) {h : Nat} (hh : h < 8) {force : Int32} (hf1 : 0 ≤ force.toInt) (hf2 : force.toInt ≤ 100) : wp (f_ys_holdingOf all (nI n) mood strong now (nI h) force) (fun y => ∀ p, bl y p = (isH w h p && (decide (h < n) && decide (force.toInt ≤ hby n mood strong w h p)))) := by
  unfold f_ys_holdingOf
  refine wp_ite (fun h0 => ?_) (fun h0 => ?_)
  · have h' := (nI_leX (a := n) (b := h) (by omega) (by omega)).mp h0
    refine wp_some (fun p => ?_)
    rw [bl_0, decide_eq_false (by omega)]
    simp
  · have hlt : h < n := by
      rcases Nat.lt_or_ge h n with q | q
      · exact q
      · exact absurd ((nI_leX (a := n) (b := h) (by omega) (by omega)).mpr q) h0
    have hin : inb (nI h) 8 = true := inbN hh (by decide)
    have hown : bl (now h) = isH w h := funext (hr h hh)
    have hown40 : ∀ p, 40 ≤ p → bl (now h) p = false := fun p hp => by rw [hown]; exact isH_big hp
    have hoth : bl (all &&& (now h ^^^ (-1 : Int64))) = fun q => isS w q && !isH w h q := by
      funext q
      rw [bl_and, bl_not, ha, hr h hh]
      by_cases h64 : q < 64
      · simp [h64]
      · rw [isS_big (by omega)]; simp
    obtain ⟨hs1, hs2⟩ := hs h hlt
    have eneed : (force - strong h).toInt = force.toInt - (strong h).toInt := toI_sub (by omega) (by omega) (by omega) (by omega)
    refine wp_gd hin ?_
    rw [nI_clamp (show h < 2 ^ 31 by omega)]
    refine wp_ite (fun h1 => ?_) (fun h1 => ?_)
    · rw [cmp0] at h1
      refine wp_some (fun p => ?_)
      have e : isH w h p = false := by rw [← hr h hh p, h1, bl_0]
      rw [bl_0, e, Bool.false_and]
    refine wp_gd hin (wp_gd hin (wp_gd hin ?_))
    rw [decide_eq_true hlt]
    refine wp_ite (fun m1 => ?_) (fun m1 => wp_ite (fun m2 => ?_) (fun m2 => wp_ite (fun m3 => ?_) (fun m3 => ?_)))
    · refine wl_ys_holdingOf_N87 (fun k x3 x5 x6 x8 => x3 = now h ∧ x5 = force - strong h ∧ ∃ o, x8 = nI o ∧ o ≤ 5 ∧ k = 5 - o ∧ ∀ p, p < 40 → bl x6 p = anyB (fun t => decide ((force - strong h).toInt + (t : Int) ≤ (nb (isH w h) p : Int)) && !decide ((t : Int) + 1 ≤ (nb (fun q => isS w q && !isH w h q) p : Int))) o) ?_ 1000 5 _ _ _ _ (by decide) ⟨rfl, rfl, 0, rfl, by decide, rfl, fun p _ => bl_0 p⟩
      rintro k k87 ih x3 x5 x6 x8 ⟨rfl, rfl, o, rfl, ho, rfl, hx⟩
      unfold f_ys_holdingOf_N87
      refine wp_ite (fun g => ?_) (fun g => ?_)
      · have g' := (nI_ltX (a := 4) (b := o) (by decide) (by omega)).mp g
        have : o = 5 := by omega
        subst this
        refine wp_some (fun p => ?_)
        rw [bl_and, hr h hh]
        by_cases hp : p < 40
        · rw [hx p hp, hold_temper (nb_le _ _), eneed]
          unfold hby
          rw [if_pos m1]
          congr 1
          rw [Bool.true_and, decide_eq_decide]
          omega
        · rw [isH_big (by omega)]; simp
      · have g' : ¬ 4 < o := fun q => g ((nI_ltX (a := 4) (b := o) (by decide) (by omega)).mpr q)
        have et : (nI o).toInt = (o : Int) := nI_toInt (by omega)
        have e1 : nI o + 1 = nI (o + 1) := (nI_succ o).symm
        have et1 : (nI (o + 1)).toInt = (o : Int) + 1 := by rw [nI_toInt (by omega)]; omega
        refine wp_bind (s_beside hown40 (force - strong h + nI o)) (fun y1 hy1 => ?_)
        rw [e1]
        refine wp_bind (s_beside (x := all &&& (now h ^^^ (-1 : Int64))) (fun p hp => by rw [hoth]; simp [isS_big hp]) (nI (o + 1))) (fun y2 hy2 => ?_)
        refine ih (5 - (o + 1)) _ _ _ _ (by omega) ⟨rfl, rfl, o + 1, rfl, by omega, rfl, fun p hp => ?_⟩
        rw [bl_or, hx p hp, bl_and, bl_not, hy1 p hp, hy2 p hp, hown, hoth, et1, toI_add (by omega) (by omega) (by omega) (by omega), et, decide_eq_true (show p < 64 by omega), Bool.true_and]
        rfl
    · refine wp_bind (s_beside hown40 (force - strong h)) (fun y1 hy1 => ?_)
      refine wp_bind (s_beside hown40 (force - strong h - 2)) (fun y2 hy2 => ?_)
      refine wp_bind (s_nowOf hn hr 2) (fun y3 hy3 => ?_)
      have hlo : bl (y3 &&& (now h ^^^ (-1 : Int64))) = fun q => ofM n mood 2 w q && !isH w h q := by
        funext q
        rw [bl_and, bl_not, hy3, hr h hh]
        by_cases h64 : q < 64
        · simp [h64]
        · have : ofM n mood 2 w q = false := by
            cases hq : ofM n mood 2 w q with
            | false => rfl
            | true =>
              have := ofM_S hn hq
              rw [isS_big (by omega)] at this
              cases this
          rw [this]; simp
      refine wp_bind (s_beside (x := y3 &&& (now h ^^^ (-1 : Int64))) (fun p hp => by
        rw [hlo]
        cases hq : ofM n mood 2 w p with
        | false => simp [hq]
        | true =>
          have := ofM_S hn hq
          rw [isS_big hp] at this
          cases this) 1) (fun y4 hy4 => ?_)
      refine wp_some (fun p => ?_)
      have e2 : (force - strong h - 2).toInt = force.toInt - (strong h).toInt - 2 := by
        rw [toI_sub (by omega) (by omega) (by decide) (by decide), eneed]
        rfl
      rw [bl_and, bl_or, bl_and, hr h hh]
      by_cases hp : p < 40
      · rw [hy1 p hp, hy2 p hp, hy4 p hp, hown, hlo, eneed, e2]
        unfold hby
        rw [if_neg m1, if_pos m2]
        congr 1
        have e1 : (1 : Int32).toInt = 1 := by decide
        rw [e1, Bool.true_and]
        generalize nb (isH w h) p = a
        generalize nb (fun q => ofM n mood 2 w q && !isH w h q) p = b
        by_cases hb : 1 ≤ b
        · rw [if_pos hb, decide_eq_true (show (1 : Int) ≤ (b : Int) by omega), Bool.and_true, Bool.eq_iff_iff, Bool.or_eq_true_iff, decide_eq_true_eq, decide_eq_true_eq, decide_eq_true_eq]
          omega
        · rw [if_neg hb, decide_eq_false (show ¬ (1 : Int) ≤ (b : Int) by omega), Bool.and_false, Bool.or_false, decide_eq_decide]
          omega
      · rw [isH_big (by omega)]; simp
    · refine wl_ys_holdingOf_N177 (fun k x3 x5 x6 x8 => x3 = now h ∧ x5 = force - strong h ∧ ∃ o, x8 = nI o ∧ o ≤ 5 ∧ k = 5 - o ∧ ∀ p, p < 40 → bl x6 p = (decide (p / 8 < o) && decide ((force - strong h).toInt + ((p / 8 : Nat) : Int) ≤ (nb (isH w h) p : Int)))) ?_ 1000 5 _ _ _ _ (by decide) ⟨rfl, rfl, 0, rfl, by decide, rfl, fun p _ => by rw [bl_0, decide_eq_false (by omega), Bool.false_and]⟩
      rintro k k177 ih x3 x5 x6 x8 ⟨rfl, rfl, o, rfl, ho, rfl, hx⟩
      unfold f_ys_holdingOf_N177
      refine wp_ite (fun g => ?_) (fun g => ?_)
      · have g' := (nI_leX (a := 5) (b := o) (by decide) (by omega)).mp g
        have : o = 5 := by omega
        subst this
        refine wp_some (fun p => ?_)
        rw [bl_and, hr h hh]
        by_cases hp : p < 40
        · rw [hx p hp, decide_eq_true (show p / 8 < 5 by omega), Bool.true_and, Bool.true_and, eneed]
          unfold hby
          rw [if_neg m1, if_neg m2, if_pos m3]
          congr 1
          rw [decide_eq_decide]
          omega
        · rw [isH_big (by omega)]; simp
      · have g' : ¬ 5 ≤ o := fun q => g ((nI_leX (a := 5) (b := o) (by decide) (by omega)).mpr q)
        have et : (nI o).toInt = (o : Int) := nI_toInt (by omega)
        have e1 : nI o + 1 = nI (o + 1) := (nI_succ o).symm
        have e8 : (8 : Int32) * nI o = nI (8 * o) := nI_mulI 8 o
        refine wp_bind (s_beside hown40 (force - strong h + nI o)) (fun y1 hy1 => ?_)
        rw [e1, e8]
        refine ih (5 - (o + 1)) _ _ _ _ (by omega) ⟨rfl, rfl, o + 1, rfl, by omega, rfl, fun p hp => ?_⟩
        rw [bl_or, hx p hp, bl_and, hy1 p hp, hown, bl_shl (show 8 * o < 64 by omega), bl_255, toI_add (by omega) (by omega) (by omega) (by omega), et]
        by_cases q1 : p / 8 < o
        · rw [decide_eq_true q1, decide_eq_true (show p / 8 < o + 1 by omega), decide_eq_false (show ¬ 8 * o ≤ p by omega)]
          simp
        · by_cases q2 : p / 8 = o
          · rw [decide_eq_false q1, decide_eq_true (show p / 8 < o + 1 by omega), decide_eq_true (show 8 * o ≤ p by omega), decide_eq_true (show p < 64 by omega), decide_eq_true (show p - 8 * o < 8 by omega), q2]
            simp
          · rw [decide_eq_false q1, decide_eq_false (show ¬ p / 8 < o + 1 by omega), decide_eq_false (show ¬ p - 8 * o < 8 by omega)]
            simp
    · refine wp_bind (s_beside hown40 (force - strong h)) (fun y1 hy1 => ?_)
      refine wp_some (fun p => ?_)
      rw [bl_and, hr h hh]
      by_cases hp : p < 40
      · rw [hy1 p hp, hown, eneed]
        unfold hby
        rw [if_neg m1, if_neg m2, if_neg m3]
        congr 1
        rw [Bool.true_and, decide_eq_decide]
        omega
      · rw [isH_big (by omega)]; simp
