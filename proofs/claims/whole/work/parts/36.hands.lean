/-! HANDS AS A TEXT -/
def pm (x : Int32) : Int32 := if x = 112 then 0 else if x = 116 then 1 else if x = 108 then 2 else if x = 115 then 3 else -1
theorem s_indexOf : ∀ u, u < 256 → f_js_indexOf (((nI u).toUInt32 % 65536).toInt32) = some (pm (nI u)) := by decide +kernel
theorem pm_rng (x : Int32) : pm x = -1 ∨ pm x = 0 ∨ pm x = 1 ∨ pm x = 2 ∨ pm x = 3 := by
  unfold pm
  split
  · exact Or.inr (Or.inl rfl)
  · split
    · exact Or.inr (Or.inr (Or.inl rfl))
    · split
      · exact Or.inr (Or.inr (Or.inr (Or.inl rfl)))
      · split
        · exact Or.inr (Or.inr (Or.inr (Or.inr rfl)))
        · exact Or.inl rfl
def hbad (hb : Nat → Int32) (i : Nat) : Bool := if i % 3 = 0 then decide (pm (hb i) = -1) else if i % 3 = 1 then decide (wi (hb i) 49 57 = 0) else !decide (hb i = 59)
/-- the first fault from i on, m bytes before the text's end at b -/
def hsc (hb : Nat → Int32) (b : Nat) : Nat → Nat → Int32
  | 0, _ => if b = 0 ∨ b % 3 = 2 then -1 else nI b
  | m + 1, i => if hbad hb i then nI i else hsc hb b m (i + 1)
theorem hsc_s (hb : Nat → Int32) (b m i : Nat) : hsc hb b (m + 1) i = if hbad hb i then nI i else hsc hb b m (i + 1) := rfl
def hFault (hb : Nat → Int32) (b : Nat) : Int32 := hsc hb b b 0
def hN (hb : Nat → Int32) (b : Nat) : Nat := if hFault hb b = -1 then (b + 1) / 3 else 0
/-- bytes of a text, each 0 to 255 -/
def byt (hb : Nat → Int32) (b : Nat) : Prop := ∀ k, k < b → ∃ u, u < 256 ∧ hb k = nI u
theorem hsc_end {hb : Nat → Int32} {b : Nat} (hb31 : b < 2 ^ 31) : ∀ m i, i + m = b → hsc hb b m i = -1 → b = 0 ∨ b % 3 = 2
  | 0, i, e, h => by
    unfold hsc at h
    by_cases hc : b = 0 ∨ b % 3 = 2
    · exact hc
    · rw [if_neg hc] at h
      exact absurd h (nI_ne1 hb31)
  | m + 1, i, e, h => by
    rw [hsc_s] at h
    by_cases hc : hbad hb i = true
    · rw [if_pos hc] at h
      exact absurd h (nI_ne1 (by omega))
    · rw [if_neg hc] at h
      exact hsc_end hb31 m (i + 1) (by omega) h
theorem r3 {p : Nat} (hp : p < 100) : nI p - nI p / (3 : Int32) * (3 : Int32) = nI (p % 3) := pk_rem (d := 3) (by omega) (by decide) (by decide)
theorem d3 {p : Nat} (hp : p < 100) : nI p / (3 : Int32) = nI (p / 3) := pk_div (by omega) (by decide) (by decide)
theorem i3 (k : Nat) : (3 : Int32) * nI k = nI (3 * k) := nI_mulI 3 k
theorem s_hFault {hb : Nat → Int32} {b N : Nat} (hbN : b ≤ N) (hN : N < 90) (hby : byt hb b) : f_hs_firstFault (nI b) hb N = some (hFault hb b) := by
  apply wp_get
  unfold f_hs_firstFault
  refine wl_hs_firstFault_N2 (fun m x1 => ∃ i, x1 = nI i ∧ i ≤ b ∧ m = b - i ∧ hsc hb b (b - i) i = hFault hb b) ?_ 1000 b _ (by omega) ⟨0, rfl, by omega, rfl, rfl⟩
  rintro m k2 ih x1 ⟨i, rfl, hi, rfl, hh⟩
  unfold f_hs_firstFault_N2
  refine wp_ite (fun g => ?_) (fun g => ?_)
  · have g' := (nI_leX (a := b) (b := i) (by omega) (by omega)).mp g
    have e : i = b := by omega
    subst e
    rw [Nat.sub_self] at hh
    unfold hsc at hh
    rw [r3 (by omega)]
    refine wp_ite (fun g1 => ?_) (fun g1 => ?_)
    · have g1' : i = 0 := (nI_eqI (a := i) (b := 0) (by omega) (by decide)).mp g1
      rw [if_pos (Or.inl g1')] at hh
      exact wp_some hh
    · have g1' : ¬ i = 0 := fun q => g1 (by rw [q]; rfl)
      refine wp_ite (fun g2 => ?_) (fun g2 => ?_)
      · have g2' : i % 3 = 2 := (nI_eqI (a := i % 3) (b := 2) (by omega) (by decide)).mp g2
        rw [if_pos (Or.inr g2')] at hh
        exact wp_some hh
      · have g2' : ¬ i % 3 = 2 := fun q => g2 (by rw [q]; rfl)
        rw [if_neg (by omega)] at hh
        exact wp_some hh
  · have g' : ¬ b ≤ i := fun q => g ((nI_leX (a := b) (b := i) (by omega) (by omega)).mpr q)
    have e1 : nI i + 1 = nI (i + 1) := (nI_succ i).symm
    rw [show b - i = (b - (i + 1)) + 1 by omega, hsc_s] at hh
    obtain ⟨u, hu, eu⟩ := hby i (by omega)
    refine wp_gd (inbN (by omega) (by omega)) ?_
    rw [nI_clamp (show i < 2 ^ 31 by omega), r3 (by omega)]
    have fin : ∀ v : Int32, (v = 0 ↔ hbad hb i = true) → wp (f_hs_firstFault_N70 (nI b) hb N k2 (nI i) v) (fun r => r = hFault hb b) := by
      intro v hv
      unfold f_hs_firstFault_N70
      refine wp_ite (fun q => ?_) (fun q => ?_)
      · rw [if_pos (hv.mp q)] at hh
        exact wp_some hh
      · rw [if_neg (fun z => q (hv.mpr z))] at hh
        rw [e1]
        exact ih (b - (i + 1)) _ (by omega) ⟨i + 1, rfl, by omega, rfl, hh⟩
    have m0 : nI (i % 3) = 0 ↔ i % 3 = 0 := nI_eqI (a := i % 3) (b := 0) (by omega) (by decide)
    have m1 : nI (i % 3) = 1 ↔ i % 3 = 1 := nI_eqI (a := i % 3) (b := 1) (by omega) (by decide)
    refine wp_ite (fun g1 => ?_) (fun g1 => ?_)
    · have g1' := m0.mp g1
      rw [eu]
      refine wp_bindE (s_indexOf u hu) ?_
      have hbd : hbad hb i = decide (pm (nI u) = -1) := by unfold hbad; rw [if_pos g1', eu]
      rcases pm_rng (nI u) with q | q | q | q | q
      · rw [q]; exact wp_pos (by decide) (fin 0 (by rw [hbd, q]; decide))
      · rw [q]; exact wp_neg (by decide) (fin 1 (by rw [hbd, q]; decide))
      · rw [q]; exact wp_neg (by decide) (fin 1 (by rw [hbd, q]; decide))
      · rw [q]; exact wp_neg (by decide) (fin 1 (by rw [hbd, q]; decide))
      · rw [q]; exact wp_neg (by decide) (fin 1 (by rw [hbd, q]; decide))
    · have g1' : ¬ i % 3 = 0 := fun q => g1 (m0.mpr q)
      refine wp_ite (fun g2 => ?_) (fun g2 => ?_)
      · have g2' := m1.mp g2
        refine wp_bindE (s_within _ _ _) (fin _ ?_)
        unfold hbad
        rw [if_neg g1', if_pos g2', decide_eq_true_eq]
      · have g2' : ¬ i % 3 = 1 := fun q => g2 (m1.mpr q)
        have hbd : hbad hb i = !decide (hb i = 59) := by unfold hbad; rw [if_neg g1', if_neg g2']
        refine wp_ite (fun g3 => fin 1 ?_) (fun g3 => fin 0 ?_)
        · rw [hbd, decide_eq_true g3]; decide
        · rw [hbd, decide_eq_false g3]; decide
/-- what the hands' arrays hold: mood and strength of each hand that is told -/
def hTold (hb : Nat → Int32) (n : Nat) (mood strong : Nat → Int32) : Prop := ∀ k, k < n → mood k = pm (hb (3 * k)) ∧ strong k = hb (3 * k + 1) - 48
theorem hN_le {hb : Nat → Int32} {b : Nat} (h : b ≤ 23) : hN hb b ≤ 8 := by
  unfold hN
  split <;> omega
theorem hN_in {hb : Nat → Int32} {b k : Nat} (hb31 : b < 2 ^ 31) (hk : k < hN hb b) : 3 * k + 1 < b := by
  unfold hN at hk
  by_cases hc : hFault hb b = -1
  · rw [if_pos hc] at hk
    rcases hsc_end hb31 b 0 (by omega) hc with e | e <;> omega
  · rw [if_neg hc] at hk
    omega
theorem s_hTell {hb : Nat → Int32} {b : Nat} (hb23 : b ≤ 23) (hby : byt hb b) (t0 f0 : Int32) (mo0 st0 : Nat → Int32) : wp (f_hs_tell t0 f0 mo0 st0 (nI b) hb 23) (fun r => r.1 = nI (hN hb b) ∧ r.2.1 = hFault hb b ∧ hTold hb (hN hb b) r.2.2.1 r.2.2.2) := by
  have hle := hN_le (hb := hb) hb23
  have loop : ∀ (n : Nat), n = hN hb b → wp (iter (fun _ _ _ _ _ => none) (f_hs_tell_N34 (nI b) hb 23) 1000 (nI n) (hFault hb b) mo0 st0 (0 : Int32)) (fun r => r.1 = nI (hN hb b) ∧ r.2.1 = hFault hb b ∧ hTold hb (hN hb b) r.2.2.1 r.2.2.2) := by
    rintro n rfl
    refine wl_hs_tell_N34 (fun m a0 a1 a2 a3 x2 => a0 = nI (hN hb b) ∧ a1 = hFault hb b ∧ ∃ k, x2 = nI k ∧ k ≤ hN hb b ∧ m = hN hb b - k ∧ hTold hb k a2 a3) ?_ 1000 (hN hb b) _ _ _ _ _ (by omega) ⟨rfl, rfl, 0, rfl, by omega, rfl, fun k hk => absurd hk (Nat.not_lt_zero k)⟩
    rintro m k34 ih a0 a1 a2 a3 x2 ⟨rfl, rfl, k, rfl, hk, rfl, hT⟩
    unfold f_hs_tell_N34
    refine wp_ite (fun g => ?_) (fun g => ?_)
    · have g' := (nI_leX (a := hN hb b) (b := k) (by omega) (by omega)).mp g
      have e : k = hN hb b := by omega
      rw [e] at hT
      exact wp_some ⟨rfl, rfl, hT⟩
    · have g' : ¬ hN hb b ≤ k := fun q => g ((nI_leX (by omega) (by omega)).mpr q)
      have hin := hN_in (hb := hb) (b := b) (k := k) (by omega) (by omega)
      have e1 : nI k + 1 = nI (k + 1) := (nI_succ k).symm
      have e31 : nI (3 * k) + 1 = nI (3 * k + 1) := (nI_succ (3 * k)).symm
      obtain ⟨u, hu, eu⟩ := hby (3 * k) (by omega)
      rw [i3, e31, e1, nI_clamp (show 3 * k < 2 ^ 31 by omega), nI_clamp (show 3 * k + 1 < 2 ^ 31 by omega), nI_clamp (show k < 2 ^ 31 by omega)]
      refine wp_gd (inbN (by omega) (by decide)) ?_
      rw [eu]
      refine wp_bindE (s_indexOf u hu) (wp_gd (inbN (by omega) (by decide)) (wp_gd (inbN (by omega) (by decide)) (wp_gd (inbN (by omega) (by decide)) ?_)))
      refine ih (hN hb b - (k + 1)) _ _ _ _ _ (by omega) ⟨rfl, rfl, k + 1, rfl, by omega, rfl, fun j hj => ?_⟩
      rw [upd_at, upd_at]
      by_cases e : j = k
      · subst e
        rw [if_pos rfl, if_pos rfl, eu]
        exact ⟨rfl, rfl⟩
      · rw [if_neg e, if_neg e]
        exact hT j (by omega)
  unfold f_hs_tell
  refine wp_bindE (s_hFault hb23 (by decide) hby) ?_
  have eN : nI b + 1 = nI (b + 1) := (nI_succ b).symm
  refine wp_ite (fun g => ?_) (fun g => ?_)
  · rw [eN, d3 (by omega)]
    exact loop _ (by unfold hN; rw [if_pos g])
  · exact loop 0 (by unfold hN; rw [if_neg g])
