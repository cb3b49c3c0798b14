/-! FROSTS OF ONE YEAR -/
theorem bo_s {s : Nat → Bool} : ∀ {c j : Nat}, bo s c j = true → s (8 * c + j) = true
  | 0, j, h => by
    rw [Nat.mul_zero, Nat.zero_add]
    exact h
  | c + 1, j, h => (Bool.and_eq_true_iff.mp h).1
theorem borne_s {s : Nat → Bool} {p : Nat} (h : borne s p = true) : s p = true := by
  have := bo_s h
  rwa [show 8 * (p / 8) + p % 8 = p by omega] at this
theorem bo_cong {s t : Nat → Bool} : ∀ {c j : Nat}, c < 5 → j < 8 → (∀ p, p < 40 → s p = t p) → bo s c j = bo t c j
  | 0, j, _, hj, h => h j (by omega)
  | c + 1, j, hc, hj, h => by
    show (s (8 * (c + 1) + j) && (bo s c j || (decide (1 ≤ j) && bo s c (j - 1) && (decide (j ≤ 6) && bo s c (j + 1))))) = _
    rw [h (8 * (c + 1) + j) (by omega), bo_cong (by omega) hj h, bo_cong (by omega) (show j - 1 < 8 by omega) h]
    by_cases h6 : j ≤ 6
    · rw [bo_cong (by omega) (show j + 1 < 8 by omega) h]
      rfl
    · show _ = (t (8 * (c + 1) + j) && (bo t c j || (decide (1 ≤ j) && bo t c (j - 1) && (decide (j ≤ 6) && bo t c (j + 1)))))
      rw [decide_eq_false h6]
      simp
theorem borne_cong {s t : Nat → Bool} {p : Nat} (hp : p < 40) (h : ∀ p, p < 40 → s p = t p) : borne s p = borne t p := bo_cong (by omega) (by omega) h
/-- the stones that hold by a force -/
def okF (n : Nat) (mood strong : Nat → Int32) (w : Wl) (F : Int32) (p : Nat) : Bool := anyB (fun h => isH w h p && decide (F.toInt ≤ hby n mood strong w h p)) n
theorem okF_S {n : Nat} (hn : n ≤ 8) {mood strong : Nat → Int32} {w : Wl} {F : Int32} {p : Nat} (h : okF n mood strong w F p = true) : isS w p = true := by
  obtain ⟨k, hk, e⟩ := (anyB_iff _ _).mp h
  exact isH_S (show k < 8 by omega) (Bool.and_eq_true_iff.mp e).1
abbrev Ys : Type := Wl × Nat × (Nat → Nat) × Bool
/-- what a fall makes of the wall, of how many fell, of whose -/
def fall (t : Ys) (s : Nat → Bool) : Ys := (keep s t.1, t.2.1 + drp t.1 s, (fun h => t.2.2.1 h + lost t.1 s h), true)
def frs (n : Nat) (mood strong fy ff : Nat → Int32) (ab y : Int32) (t0 : Ys) : Nat → Ys
  | 0 => t0
  | k + 1 => if fy k = y ∧ bt ab k = false then fall (frs n mood strong fy ff ab y t0 k) (borne (okF n mood strong (frs n mood strong fy ff ab y t0 k).1 (ff k))) else frs n mood strong fy ff ab y t0 k
/-- a year's frosts; none: what isn't borne falls -/
def frY (n : Nat) (mood strong : Nat → Int32) (fn : Nat) (fy ff : Nat → Int32) (ab y : Int32) (t0 : Ys) : Ys := if (frs n mood strong fy ff ab y t0 fn).2.2.2 then frs n mood strong fy ff ab y t0 fn else fall (frs n mood strong fy ff ab y t0 fn) (borne (isS (frs n mood strong fy ff ab y t0 fn).1))
def YR (all : Int64) (losers : Int32) (now : Nat → Int64) (w : Wl) (fo : Nat → Nat) : Prop := rep now w ∧ repA all w ∧ wok w ∧ ∀ i, i < 32 → bt losers i = (decide (i < 8) && decide (0 < fo i))
theorem s_leaveY {all : Int64} {losers : Int32} {now : Nat → Int64} {w : Wl} {fo : Nat → Nat} (hY : YR all losers now w fo) {s : Nat → Bool} {st : Int64} (hst : ∀ p, bl st p = (isS w p && s p)) : wp (f_ys_leave all losers now st) (fun r => r.1 = nI (drp w s) ∧ YR r.2.1 r.2.2.1 r.2.2.2 (keep s w) (fun h => fo h + lost w s h)) := by
  obtain ⟨h1, h2, h3, h4⟩ := hY
  refine wp_mono (s_leave h1 h2 hst) ?_
  rintro r ⟨e1, e2, e3, e4⟩
  refine ⟨e1, e4, e2, wok_keep h3 s, fun i hi => ?_⟩
  rw [e3 i hi, h4 i hi, Bool.eq_iff_iff]
  simp only [Bool.or_eq_true_iff, Bool.and_eq_true_iff, decide_eq_true_eq]
  omega
theorem ush1 {x : Int32} {k : Nat} (hk : k < 32) : (ushr x (nI k)) &&& (1 : Int32) = 0 ↔ bt x k = false := by
  constructor
  · intro h
    have := congrArg (fun z => bt z 0) h
    simp only [b_and, b_0] at this
    unfold ushr at this
    rw [b_ushr k hk] at this
    simpa [show bt 1 0 = true from by decide] using this
  · intro h
    apply b_ext
    intro i hi
    rw [b_and, b_0]
    unfold ushr
    rw [b_ushr k hk]
    by_cases e : i = 0
    · subst e; simp [h]
    · have : bt 1 i = false := (by decide +kernel : ∀ k, k < 32 → bt 1 k = decide (k = 0)) i hi ▸ decide_eq_false e
      rw [this, Bool.and_false]
theorem s_freeze {n : Nat} (hn : n ≤ 8) {mood strong : Nat → Int32} (hs : ∀ h, h < n → 0 ≤ (strong h).toInt ∧ (strong h).toInt ≤ 9) {fn : Nat} (hfn : fn ≤ 6) {fy ff : Nat → Int32} (hff : ∀ k, k < fn → 1 ≤ (ff k).toInt ∧ (ff k).toInt ≤ 15) {ab y : Int32} {all : Int64} {losers : Int32} {now : Nat → Int64} {w : Wl} {fo : Nat → Nat} (hY : YR all losers now w fo) : wp (f_ys_freeze all losers (nI n) mood strong now (nI fn) fy ff ab y) (fun r => r.1 = nI (frY n mood strong fn fy ff ab y (w, 0, fo, false)).2.1 ∧ YR r.2.1 r.2.2.1 r.2.2.2 (frY n mood strong fn fy ff ab y (w, 0, fo, false)).1 (frY n mood strong fn fy ff ab y (w, 0, fo, false)).2.2.1) := by
  unfold f_ys_freeze
  refine wl_ys_freeze_N9 (fun m a0 a1 a2 x2 x3 x4 x5 x6 => x2 = ab ∧ x3 = y ∧ ∃ k, x6 = nI k ∧ k ≤ fn ∧ m = fn - k ∧ x4 = nI (frs n mood strong fy ff ab y (w, 0, fo, false) k).2.1 ∧ (x5 = if (frs n mood strong fy ff ab y (w, 0, fo, false) k).2.2.2 then 1 else 0) ∧ YR a0 a1 a2 (frs n mood strong fy ff ab y (w, 0, fo, false) k).1 (frs n mood strong fy ff ab y (w, 0, fo, false) k).2.2.1 ∧ ((frs n mood strong fy ff ab y (w, 0, fo, false) k).2.2.2 = false → (frs n mood strong fy ff ab y (w, 0, fo, false) k).2.1 = 0)) ?_ 1000 fn _ _ _ _ _ _ _ _ (by omega) ⟨rfl, rfl, 0, rfl, by omega, rfl, rfl, rfl, hY, fun _ => rfl⟩
  rintro m k9 ih a0 a1 a2 x2 x3 x4 x5 x6 ⟨rfl, rfl, k, rfl, hk, rfl, rfl, h5, hYk, hz⟩
  unfold f_ys_freeze_N9
  refine wp_ite (fun g => ?_) (fun g => ?_)
  · have g' := (nI_leX (a := fn) (b := k) (by omega) (by omega)).mp g
    have : k = fn := by omega
    subst this
    unfold frY
    generalize hT : frs n mood strong fy ff x2 x3 (w, 0, fo, false) k = T at *
    cases hb : T.2.2.2 with
    | true =>
      rw [hb] at h5
      refine wp_neg (by rw [h5]; decide) (wp_some ⟨?_, ?_⟩)
      · rw [if_pos rfl]
      · rw [if_pos rfl]; exact hYk
    | false =>
      rw [hb] at h5
      refine wp_pos (by rw [h5]; decide) ?_
      refine wp_bind (s_borneOf a0) (fun y1 hy1 => ?_)
      have hst : ∀ p, bl y1 p = (isS T.1 p && borne (isS T.1) p) := by
        intro p
        rw [hy1]
        have e : bl a0 = isS T.1 := funext hYk.2.1
        rw [e]
        cases hq : borne (isS T.1) p with
        | false => simp
        | true =>
          have h2 := borne_s hq
          rw [h2, Bool.and_true, Bool.true_and, decide_eq_true_eq]
          rcases Nat.lt_or_ge p 40 with z | z
          · exact z
          · rw [isS_big z] at h2; cases h2
      refine wp_bind (s_leaveY hYk hst) (fun r hr => wp_some ⟨?_, ?_⟩)
      · rw [if_neg (by decide)]
        show r.1 = nI (T.2.1 + _)
        rw [hr.1, hz hb, Nat.zero_add]
      · rw [if_neg (by decide)]
        exact hr.2
  · have g' : ¬ fn ≤ k := fun q => g ((nI_leX (a := fn) (b := k) (by omega) (by omega)).mpr q)
    have e1 : nI k + 1 = nI (k + 1) := (nI_succ k).symm
    have hin : inb (nI k) 6 = true := inbN (by omega) (by decide)
    refine wp_gd hin ?_
    rw [nI_clamp (show k < 2 ^ 31 by omega), e1]
    have hstep : frs n mood strong fy ff x2 x3 (w, 0, fo, false) (k + 1) = if fy k = x3 ∧ bt x2 k = false then fall (frs n mood strong fy ff x2 x3 (w, 0, fo, false) k) (borne (okF n mood strong (frs n mood strong fy ff x2 x3 (w, 0, fo, false) k).1 (ff k))) else frs n mood strong fy ff x2 x3 (w, 0, fo, false) k := rfl
    have hskip : ¬ (fy k = x3 ∧ bt x2 k = false) → wp (k9 a0 a1 a2 x2 x3 (nI (frs n mood strong fy ff x2 x3 (w, 0, fo, false) k).2.1) x5 (nI (k + 1))) _ := fun hc => ih (fn - (k + 1)) _ _ _ _ _ _ _ _ (by omega) ⟨rfl, rfl, k + 1, rfl, by omega, rfl, by rw [hstep, if_neg hc], by rw [hstep, if_neg hc]; exact h5, by rw [hstep, if_neg hc]; exact hYk, by rw [hstep, if_neg hc]; exact hz⟩
    refine wp_ite (fun g1 => ?_) (fun g1 => hskip (fun hc => g1 hc.1))
    refine wp_ite (fun g2 => ?_) (fun g2 => hskip (fun hc => g2 ((ush1 (by omega)).mpr hc.2)))
    have hc : fy k = x3 ∧ bt x2 k = false := ⟨g1, (ush1 (by omega)).mp g2⟩
    rw [if_pos hc] at hstep
    obtain ⟨f1, f2⟩ := hff k (by omega)
    generalize hT : frs n mood strong fy ff x2 x3 (w, 0, fo, false) k = T at *
    refine wl_ys_freeze_N44 (fun m b0 b1 b2 z2 z3 z4 z6 z7 z9 => b0 = a0 ∧ b1 = a1 ∧ b2 = a2 ∧ z2 = x2 ∧ z3 = x3 ∧ z4 = nI T.2.1 ∧ z6 = nI k ∧ ∃ j, z9 = nI j ∧ j ≤ n ∧ m = n - j ∧ ∀ p, bl z7 p = anyB (fun h => isH T.1 h p && decide ((ff k).toInt ≤ hby n mood strong T.1 h p)) j) ?_ 1000 n _ _ _ _ _ _ _ _ _ (by omega) ⟨rfl, rfl, rfl, rfl, rfl, rfl, rfl, 0, rfl, by omega, rfl, fun p => bl_0 p⟩
    rintro m k44 ih2 b0 b1 b2 z2 z3 z4 z6 z7 z9 ⟨rfl, rfl, rfl, rfl, rfl, rfl, rfl, j, rfl, hj, rfl, hz7⟩
    unfold f_ys_freeze_N44
    refine wp_ite (fun g3 => ?_) (fun g3 => ?_)
    · have g3' := (nI_leX (a := n) (b := j) (by omega) (by omega)).mp g3
      have : j = n := by omega
      subst this
      have hbz : bl z7 = okF j mood strong T.1 (ff k) := funext hz7
      refine wp_bind (s_borneOf z7) (fun y1 hy1 => ?_)
      have hst : ∀ p, bl y1 p = (isS T.1 p && borne (okF j mood strong T.1 (ff k)) p) := by
        intro p
        rw [hy1, hbz]
        cases hq : borne (okF j mood strong T.1 (ff k)) p with
        | false => simp
        | true =>
          have h2 := okF_S hn (borne_s hq)
          rw [h2, Bool.and_true, Bool.true_and, decide_eq_true_eq]
          rcases Nat.lt_or_ge p 40 with z | z
          · exact z
          · rw [isS_big z] at h2; cases h2
      refine wp_bind (s_leaveY hYk hst) (fun r hr => ?_)
      rw [e1, hr.1, nI_addI]
      exact ih (fn - (k + 1)) _ _ _ _ _ _ _ _ (by omega) ⟨rfl, rfl, k + 1, rfl, by omega, rfl, by rw [hstep]; rfl, by rw [hstep]; rfl, by rw [hstep]; exact hr.2, by rw [hstep]; intro h; cases h⟩
    · have g3' : ¬ n ≤ j := fun q => g3 ((nI_leX (a := n) (b := j) (by omega) (by omega)).mpr q)
      have e2 : nI j + 1 = nI (j + 1) := (nI_succ j).symm
      refine wp_gd hin ?_
      rw [nI_clamp (show k < 2 ^ 31 by omega), e2]
      refine wp_bind (s_holdingOf hn hYk.1 hYk.2.1 hs (show j < 8 by omega) (by omega) (by omega)) (fun y1 hy1 => ?_)
      refine ih2 (n - (j + 1)) _ _ _ _ _ _ _ _ _ (by omega) ⟨rfl, rfl, rfl, rfl, rfl, rfl, rfl, j + 1, rfl, by omega, rfl, fun p => ?_⟩
      show _ = (anyB _ j || _)
      rw [bl_or, hz7, hy1, decide_eq_true (show j < n by omega), Bool.true_and]
