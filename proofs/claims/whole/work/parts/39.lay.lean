/-! THE WALL AS A TEXT: its stones -/
theorem wsc_m1 {wb : Nat → Int32} {n : Nat} (hn : n < 2 ^ 31) : ∀ m k, k + m = n → wsc wb n m k = -1 → (∀ j, k ≤ j → j < n → wbad wb j = false) ∧ ¬ (0 < n ∧ wShort (wpS wb n) = true)
  | 0, k, e, h => by
    unfold wsc at h
    refine ⟨fun j h1 h2 => by omega, fun hc => ?_⟩
    rw [if_pos hc] at h
    exact absurd h (nI_ne1 hn)
  | m + 1, k, e, h => by
    rw [wsc_s] at h
    cases hb : wbad wb k with
    | true =>
      rw [hb, if_pos rfl] at h
      exact absurd h (nI_ne1 (by omega))
    | false =>
      rw [hb, if_neg (by decide)] at h
      obtain ⟨h1, h2⟩ := wsc_m1 hn m (k + 1) (by omega) h
      refine ⟨fun j hj1 hj2 => ?_, h2⟩
      rcases Nat.lt_or_ge k j with z | z
      · exact h1 j (by omega) hj2
      · have : j = k := by omega
        rw [this]; exact hb
def wTdI (t : Nat × Nat × Nat) (w : Wl) : Prop := (∀ p, 8 * t.1 + t.2.1 ≤ p → w p = -1) ∧ (∀ p, vok (w p)) ∧ ∀ p, ¬ w p = -1 → (p / 8 < t.1 ∧ p % 8 < t.2.2) ∨ (p / 8 = t.1 ∧ p % 8 < t.2.1)
theorem wTd_s (wb : Nat → Int32) (k : Nat) : wTd wb (k + 1) = if wb k = 59 then wTd wb k else upd (wTd wb k) (8 * (wpS wb k).1 + (wpS wb k).2.1) (if wb k = 46 then -1 else wb k - 97) := rfl
theorem stone_val {x : Int32} (h : wStone x = true) : x = 46 ∨ (¬ x = 46 ∧ ¬ wi x 97 104 = 0 ∧ ∃ u, u < 8 ∧ x - 97 = nI u) := by
  unfold wStone at h
  by_cases e : x = 46
  · exact Or.inl e
  · rw [decide_eq_false e, Bool.false_or] at h
    have hw : ¬ wi x 97 104 = 0 := by
      intro z
      rw [decide_eq_true z] at h
      cases h
    obtain ⟨h1, h2⟩ := wi_yes hw
    rw [Int32.le_iff_toInt_le] at h1 h2
    have e97 : (97 : Int32).toInt = 97 := by decide
    have e104 : (104 : Int32).toInt = 104 := by decide
    rw [e97] at h1
    rw [e104] at h2
    refine Or.inr ⟨e, hw, (x.toInt - 97).toNat, by omega, Int32.toInt_inj.mp ?_⟩
    rw [sub_I (by omega) (by omega) (by decide) (by decide), e97, nI_toInt (by omega)]
    omega
theorem wTd_inv {wb : Nat → Int32} : ∀ k, (∀ j, j < k → wbad wb j = false) → wTdI (wpS wb k) (wTd wb k)
  | 0, _ => ⟨fun _ _ => rfl, fun _ => Or.inl rfl, fun _ h => absurd rfl h⟩
  | k + 1, h => by
    have hno : ∀ j, j < k → wbad wb j = false := fun j hj => h j (by omega)
    obtain ⟨a1, a2, a3⟩ := wTd_inv k hno
    have hI := wS_inv k hno
    obtain ⟨-, hlt, hcm⟩ := wS_step hI (h k (by omega))
    obtain ⟨i1, i2, i3, i4, i5⟩ := hI
    rw [wpS_s, wTd_s]
    by_cases e : wb k = 59
    · rw [if_pos e, if_pos e]
      refine ⟨fun p hp => a1 p (by have : 8 * ((wpS wb k).1 + 1) + 0 ≤ p := hp; omega), a2, fun p hp => ?_⟩
      show (p / 8 < (wpS wb k).1 + 1 ∧ p % 8 < (if (wpS wb k).1 = 0 then (wpS wb k).2.1 else (wpS wb k).2.2)) ∨ _
      rcases a3 p hp with z | z
      · rw [if_neg (by omega)]; exact Or.inl ⟨by omega, z.2⟩
      · refine Or.inl ⟨by omega, ?_⟩
        split <;> omega
    · rw [if_neg e, if_neg e]
      have hc := hcm e
      have hst : wStone (wb k) = true := by
        have hb := h k (by omega)
        unfold wbad at hb
        rw [if_neg e] at hb
        obtain ⟨-, b2⟩ := Bool.or_eq_false_iff.mp hb
        obtain ⟨b3, -⟩ := Bool.or_eq_false_iff.mp b2
        cases hz : wStone (wb k) with
        | true => rfl
        | false => rw [hz] at b3; cases b3
      refine ⟨fun p hp => ?_, fun p => ?_, fun p hp => ?_⟩
      · have hp' : 8 * (wpS wb k).1 + ((wpS wb k).2.1 + 1) ≤ p := hp
        rw [upd_at, if_neg (by omega)]
        exact a1 p (by omega)
      · rw [upd_at]
        by_cases z : p = 8 * (wpS wb k).1 + (wpS wb k).2.1
        · rw [if_pos z]
          rcases stone_val hst with q | ⟨q, -, u, hu, eu⟩
          · rw [if_pos q]; exact Or.inl rfl
          · rw [if_neg q, eu]; exact Or.inr ⟨u, hu, rfl⟩
        · rw [if_neg z]; exact a2 p
      · rw [upd_at] at hp
        show (p / 8 < (wpS wb k).1 ∧ p % 8 < (wpS wb k).2.2) ∨ (p / 8 = (wpS wb k).1 ∧ p % 8 < (wpS wb k).2.1 + 1)
        by_cases z : p = 8 * (wpS wb k).1 + (wpS wb k).2.1
        · exact Or.inr ⟨by omega, by omega⟩
        · rw [if_neg z] at hp
          rcases a3 p hp with q | q
          · exact Or.inl q
          · exact Or.inr ⟨q.1, by omega⟩
/-- the wall that is told: within its courses and columns -/
theorem wTold_ok {wb : Nat → Int32} {n : Nat} (hn : n < 2 ^ 31) : wok (wTold wb n) ∧ inCW (wC wb n) (wW wb n) (wTold wb n) ∧ wC wb n ≤ 5 ∧ wW wb n ≤ 8 := by
  unfold wTold wC wW
  by_cases hf : wFault wb n = -1
  · obtain ⟨h1, h2⟩ := wsc_m1 hn n 0 (by omega) hf
    have hno : ∀ j, j < n → wbad wb j = false := fun j hj => h1 j (by omega) hj
    obtain ⟨a1, a2, a3⟩ := wTd_inv n hno
    obtain ⟨i1, i2, i3, i4, i5⟩ := wS_inv n hno
    rw [if_pos hf]
    by_cases hn0 : 0 < n
    · rw [if_pos ⟨hf, hn0⟩, if_pos ⟨hf, hn0⟩]
      have hsh : wShort (wpS wb n) = false := by
        cases hz : wShort (wpS wb n) with
        | false => rfl
        | true => exact absurd ⟨hn0, hz⟩ h2
      unfold wShort at hsh
      rw [Bool.or_eq_false_iff, decide_eq_false_iff_not, Bool.and_eq_false_iff, decide_eq_false_iff_not, decide_eq_false_iff_not] at hsh
      have hr : (wpS wb n).1 < 5 := by
        rcases Nat.lt_or_ge (wpS wb n).1 5 with z | z
        · exact z
        · exact absurd (i5 (by omega)) hsh.1
      refine ⟨fun p _ => a2 p, fun p _ hne => ?_, by omega, by omega⟩
      rcases a3 p hne with z | z <;> omega
    · have : n = 0 := by omega
      subst this
      rw [if_neg (fun z => hn0 z.2), if_neg (fun z => hn0 z.2)]
      exact ⟨fun p _ => Or.inl rfl, fun p _ hne => absurd rfl hne, by omega, by omega⟩
  · rw [if_neg hf, if_neg (fun z => hf z.1), if_neg (fun z => hf z.1)]
    exact ⟨fun p _ => Or.inl rfl, fun p _ hne => absurd rfl hne, by omega, by omega⟩
theorem s_fill_j {n : Nat} (hn : n < 900) (st : Nat → Int64) (v : Int64) : wp (f_ja_fill_j st n v) (fun r => ∀ k, k < n → r k = v) := by
  unfold f_ja_fill_j
  refine wl_ja_fill_j_N6 (fun m a0 x1 x3 x4 => x1 = v ∧ x4 = nI n ∧ ∃ k, x3 = nI k ∧ k ≤ n ∧ m = n - k ∧ ∀ j, j < k → a0 j = v) ?_ 1000 n _ _ _ _ (by omega) ⟨rfl, rfl, 0, rfl, by omega, rfl, fun j hj => absurd hj (Nat.not_lt_zero j)⟩
  rintro m k6 ih a0 x1 x3 x4 ⟨rfl, rfl, k, rfl, hk, rfl, hj⟩
  unfold f_ja_fill_j_N6
  refine wp_ite (fun g => ?_) (fun g => ?_)
  · have g' := (nI_leX (a := n) (b := k) (by omega) (by omega)).mp g
    have e : k = n := by omega
    subst e
    exact wp_some hj
  · have g' : ¬ n ≤ k := fun q => g ((nI_leX (by omega) (by omega)).mpr q)
    have e1 : nI k + 1 = nI (k + 1) := (nI_succ k).symm
    refine wp_gd (inbN (by omega) (by omega)) ?_
    rw [nI_clamp (by omega), e1]
    refine ih (n - (k + 1)) _ _ _ _ (by omega) ⟨rfl, rfl, k + 1, rfl, by omega, rfl, fun j hjk => ?_⟩
    show (if j = k then x1 else a0 j) = x1
    by_cases e : j = k
    · rw [if_pos e]
    · rw [if_neg e]; exact hj j (by omega)
theorem s_lay {wb : Nat → Int32} {n : Nat} (hn : n ≤ 44) (hno : ∀ j, j < n → wbad wb j = false) (c0 w0 : Int32) {st : Nat → Int64} (hst : rep st (fun _ => -1)) : wp (f_wl_lay c0 w0 st (nI n) wb 44) (fun r => r.1 = nI ((wpS wb n).1 + 1) ∧ r.2.1 = nI (wpS wb n).2.1 ∧ rep r.2.2 (wTd wb n)) := by
  unfold f_wl_lay
  refine wl_wl_lay_N7 (fun m a0 a1 a2 x2 x3 x4 => ∃ k, x4 = nI k ∧ k ≤ n ∧ m = n - k ∧ x2 = nI (wpS wb k).1 ∧ x3 = nI (wpS wb k).2.1 ∧ rep a2 (wTd wb k)) ?_ 1000 n _ _ _ _ _ _ (by omega) ⟨0, rfl, by omega, rfl, rfl, rfl, hst⟩
  rintro m k7 ih a0 a1 a2 x2 x3 x4 ⟨k, rfl, hk, rfl, rfl, rfl, hr⟩
  unfold f_wl_lay_N7
  refine wp_ite (fun g => ?_) (fun g => ?_)
  · have g' := (nI_leX (a := n) (b := k) (by omega) (by omega)).mp g
    have e : k = n := by omega
    subst e
    exact wp_some ⟨(nI_succ _).symm, rfl, hr⟩
  · have g' : ¬ n ≤ k := fun q => g ((nI_leX (by omega) (by omega)).mpr q)
    have e1 : nI k + 1 = nI (k + 1) := (nI_succ k).symm
    have hnk : ∀ j, j < k → wbad wb j = false := fun j hj => hno j (by omega)
    have hI := wS_inv k hnk
    obtain ⟨-, hlt, hcm⟩ := wS_step hI (hno k (by omega))
    obtain ⟨a1', a2', a3'⟩ := wTd_inv k hnk
    obtain ⟨i1, i2, i3, i4, i5⟩ := hI
    refine wp_gd (inbN (by omega) (by decide)) ?_
    rw [nI_clamp (show k < 2 ^ 31 by omega), e1]
    refine wp_ite (fun g1 => ?_) (fun g1 => ?_)
    · refine ih (n - (k + 1)) _ _ _ _ _ _ (by omega) ⟨k + 1, rfl, by omega, rfl, ?_, ?_, ?_⟩
      · rw [wpS_s, if_pos g1]; exact (nI_succ _).symm
      · rw [wpS_s, if_pos g1]; rfl
      · rw [wTd_s, if_pos g1]; exact hr
    · have hc := hcm g1
      have hq : 8 * (wpS wb k).1 + (wpS wb k).2.1 < 40 := by omega
      have hcur : wTd wb k (8 * (wpS wb k).1 + (wpS wb k).2.1) = -1 := a1' _ (Nat.le_refl _)
      have hst : wStone (wb k) = true := by
        have hb := hno k (by omega)
        unfold wbad at hb
        rw [if_neg g1] at hb
        obtain ⟨-, b2⟩ := Bool.or_eq_false_iff.mp hb
        obtain ⟨b3, -⟩ := Bool.or_eq_false_iff.mp b2
        cases hz : wStone (wb k) with
        | true => rfl
        | false => rw [hz] at b3; cases b3
      have fin : ∀ s : Nat → Int64, rep s (wTd wb (k + 1)) → wp (k7 a0 a1 s (nI (wpS wb k).1) (nI (wpS wb k).2.1 + 1) (nI (k + 1))) (fun r => r.1 = nI ((wpS wb n).1 + 1) ∧ r.2.1 = nI (wpS wb n).2.1 ∧ rep r.2.2 (wTd wb n)) := by
        intro s hs
        refine ih (n - (k + 1)) _ _ _ _ _ _ (by omega) ⟨k + 1, rfl, by omega, rfl, ?_, ?_, hs⟩
        · rw [wpS_s, if_neg g1]
        · rw [wpS_s, if_neg g1]; exact (nI_succ _).symm
      refine wp_bindE (s_within _ _ _) ?_
      rcases stone_val hst with q | ⟨q, hw, u, hu, eu⟩
      · have : wi (wb k) 97 104 = 0 := by rw [q]; decide
        refine wp_pos this (fin a2 ?_)
        rw [wTd_s, if_neg g1, if_pos q]
        intro h hh p
        rw [hr h hh p]
        have : ∀ p, p < 40 → wTd wb k p = upd (wTd wb k) (8 * (wpS wb k).1 + (wpS wb k).2.1) (-1) p := by
          intro p _
          rw [upd_at]
          by_cases z : p = 8 * (wpS wb k).1 + (wpS wb k).2.1
          · rw [if_pos z, z]; exact hcur
          · rw [if_neg z]
        rw [isH_eq this]
      · refine wp_neg hw ?_
        rw [eu, i8, nI_clamp (show u < 2 ^ 31 by omega)]
        refine wp_gd (inbN hu (by decide)) (wp_gd (inbN hu (by decide)) (fin _ ?_))
        rw [wTd_s, if_neg g1, if_neg q, eu]
        intro h hh p
        rw [isH_upd hu hh hq hcur]
        show bl (if h = u then _ else a2 h) p = _
        by_cases z : h = u
        · subst z
          rw [if_pos rfl, bl_or, bl_one (by omega), hr h hh, decide_eq_true rfl, Bool.and_true]
        · rw [if_neg z, hr h hh, decide_eq_false z, Bool.and_false, Bool.or_false]
theorem s_wTell {wb : Nat → Int32} {n : Nat} (hn : n ≤ 44) (c0 w0 f0 : Int32) (st : Nat → Int64) : wp (f_wl_tell c0 w0 f0 st (nI n) wb 44) (fun r => r.1 = nI (wC wb n) ∧ r.2.1 = nI (wW wb n) ∧ r.2.2.1 = wFault wb n ∧ rep r.2.2.2 (wTold wb n)) := by
  unfold f_wl_tell
  refine wp_bind (s_fill_j (by decide) st 0) (fun s hs => ?_)
  have h0 : rep s (fun _ => -1) := by
    intro h hh p
    rw [hs h hh, bl_0]
    have hne : ¬ (-1 : Int32) = nI h := fun z => nI_ne1 (show h < 2 ^ 31 by omega) z.symm
    show false = (decide (p < 40) && decide ((-1 : Int32) = nI h))
    rw [decide_eq_false hne, Bool.and_false]
  refine wp_bindE (s_wFault hn (by decide)) ?_
  refine wp_ite (fun g => ?_) (fun g => ?_)
  · refine wp_ite (fun g1 => ?_) (fun g1 => ?_)
    · have g1' := (nI_leX (a := n) (b := 0) (by omega) (by decide)).mp g1
      have : n = 0 := by omega
      subst this
      refine wp_some ⟨?_, ?_, rfl, ?_⟩
      · unfold wC; rw [if_neg (fun z => Nat.lt_irrefl 0 z.2)]; rfl
      · unfold wW; rw [if_neg (fun z => Nat.lt_irrefl 0 z.2)]; rfl
      · unfold wTold; rw [if_pos g]; exact h0
    · have g1' : ¬ n ≤ 0 := fun q => g1 ((nI_leX (a := n) (b := 0) (by omega) (by decide)).mpr q)
      obtain ⟨h1, h2⟩ := wsc_m1 (by omega) n 0 (by omega) g
      refine wp_bind (s_lay hn (fun j hj => h1 j (by omega) hj) 0 0 h0) (fun r hr => wp_some ⟨?_, ?_, rfl, ?_⟩)
      · unfold wC; rw [if_pos ⟨g, by omega⟩]; exact hr.1
      · unfold wW; rw [if_pos ⟨g, by omega⟩]; exact hr.2.1
      · unfold wTold; rw [if_pos g]; exact hr.2.2
  · refine wp_some ⟨?_, ?_, rfl, ?_⟩
    · unfold wC; rw [if_neg (fun z => g z.1)]; rfl
    · unfold wW; rw [if_neg (fun z => g z.1)]; rfl
    · unfold wTold; rw [if_neg g]; exact h0
