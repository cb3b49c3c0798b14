/-! THE REFERENCE: texts read, years run as told -/
def RD (wb : Nat → Int32) (a : Nat) (hb : Nat → Int32) (b : Nat) (courses wide hands : Int32) (told moods strongs : Nat → Int32) : Prop := courses = nI (wC wb a) ∧ wide = nI (wW wb a) ∧ hands = nI (hN hb b) ∧ (∀ p, p < 48 → told p = wTold wb a p) ∧ hTold hb (hN hb b) moods strongs
theorem s_faultOf {typed texts wb hb : Nat → Int32} {a b : Nat} (ha : a ≤ 44) (hb23 : b ≤ 23) (hw : wtx typed texts wb a) (hh : htx typed texts hb b) (c0 w0 h0 : Int32) (t0 mo0 st0 : Nat → Int32) (x : Int32) : wp (f_m_faultOf c0 w0 h0 typed texts t0 mo0 st0 x) (fun r => (r.1 = if x = 0 then wFault wb a else hFault hb b) ∧ RD wb a hb b r.2.1 r.2.2.1 r.2.2.2.1 r.2.2.2.2.1 r.2.2.2.2.2.1 r.2.2.2.2.2.2) := by
  unfold f_m_faultOf
  refine wp_bind (s_readsWall ha hw c0 w0 t0) (fun r1 h1 => wp_bind (s_readsHands hb23 hh h0 mo0 st0) (fun r2 h2 => ?_))
  obtain ⟨a1, a2, a3, a4⟩ := h1
  obtain ⟨b1, b2, b3⟩ := h2
  refine wp_ite (fun g => wp_some ⟨?_, a2, a3, b2, a4, b3⟩) (fun g => wp_some ⟨?_, a2, a3, b2, a4, b3⟩)
  · rw [if_pos g]; exact a1
  · rw [if_neg g]; exact b1
theorem s_reads {typed texts wb hb : Nat → Int32} {a b : Nat} (ha : a ≤ 44) (hb23 : b ≤ 23) (hw : wtx typed texts wb a) (hh : htx typed texts hb b) (c0 w0 h0 : Int32) (t0 mo0 st0 : Nat → Int32) : wp (f_m_reads c0 w0 h0 typed texts t0 mo0 st0) (fun r => RD wb a hb b r.1 r.2.1 r.2.2.1 r.2.2.2.1 r.2.2.2.2.1 r.2.2.2.2.2) := by
  unfold f_m_reads
  exact wp_bind (s_faultOf ha hb23 hw hh c0 w0 h0 t0 mo0 st0 0) (fun r h => wp_some h.2)
/-- frosts as they are run -/
def FN (fn : Nat) (fy ff yearNow forceNow : Nat → Int32) : Prop := ∀ k, k < fn → yearNow k = fy k ∧ forceNow k = ff k
theorem s_asTold {typed texts wb hb : Nat → Int32} {a b : Nat} (ha : a ≤ 44) (hb23 : b ≤ 23) (hw : wtx typed texts wb a) (hh : htx typed texts hb b) {fn : Nat} (hfn : fn ≤ 6) (gn : Nat) (fy ff : Nat → Int32) (c0 w0 h0 f0 n0 g0 : Int32) (t0 mo0 st0 y0 o0 : Nat → Int32) : wp (f_m_asTold c0 w0 h0 (nI fn) (nI gn) f0 n0 g0 typed texts t0 mo0 st0 fy ff y0 o0) (fun r => RD wb a hb b r.1 r.2.1 r.2.2.1 r.2.2.2.2.2.2.1 r.2.2.2.2.2.2.2.1 r.2.2.2.2.2.2.2.2.1 ∧ r.2.2.2.1 = nI fn ∧ r.2.2.2.2.1 = 0 ∧ r.2.2.2.2.2.1 = nI gn ∧ FN fn fy ff r.2.2.2.2.2.2.2.2.2.1 r.2.2.2.2.2.2.2.2.2.2) := by
  unfold f_m_asTold
  refine wp_bind (s_reads ha hb23 hw hh c0 w0 h0 t0 mo0 st0) (fun r1 h1 => ?_)
  refine wl_m_asTold_N14 (fun m a0 a1 a2 a3 a4 a5 a6 a7 a8 a9 a10 x1 => RD wb a hb b a0 a1 a2 a6 a7 a8 ∧ a3 = nI fn ∧ ∃ k, x1 = nI k ∧ k ≤ fn ∧ m = fn - k ∧ FN k fy ff a9 a10) ?_ 1000 fn _ _ _ _ _ _ _ _ _ _ _ _ (by omega) ⟨h1, rfl, 0, rfl, by omega, rfl, fun k hk => absurd hk (Nat.not_lt_zero k)⟩
  rintro m k14 ih a0 a1 a2 a3 a4 a5 a6 a7 a8 a9 a10 x1 ⟨hR, rfl, k, rfl, hk, rfl, hF⟩
  unfold f_m_asTold_N14
  refine wp_ite (fun g => ?_) (fun g => ?_)
  · have g' := (nI_leX (a := fn) (b := k) (by omega) (by omega)).mp g
    have e : k = fn := by omega
    subst e
    exact wp_some ⟨hR, rfl, rfl, rfl, hF⟩
  · have g' : ¬ fn ≤ k := fun q => g ((nI_leX (by omega) (by omega)).mpr q)
    have e1 : nI k + 1 = nI (k + 1) := (nI_succ k).symm
    have hin : inb (nI k) 6 = true := inbN (by omega) (by decide)
    refine wp_gd hin (wp_gd hin (wp_gd hin (wp_gd hin ?_)))
    rw [nI_clamp (show k < 2 ^ 31 by omega), e1]
    refine ih (fn - (k + 1)) _ _ _ _ _ _ _ _ _ _ _ _ (by omega) ⟨hR, rfl, k + 1, rfl, by omega, rfl, fun j hj => ?_⟩
    rw [upd_at, upd_at]
    by_cases e : j = k
    · subst e; rw [if_pos rfl, if_pos rfl]; exact ⟨rfl, rfl⟩
    · rw [if_neg e, if_neg e]; exact hF j (by omega)
/-! strengths that are told are 1 to 9 -/
theorem hsc_no {hb : Nat → Int32} {b : Nat} (hb31 : b < 2 ^ 31) : ∀ m i, i + m = b → hsc hb b m i = -1 → ∀ j, i ≤ j → j < b → hbad hb j = false
  | 0, i, e, h, j, h1, h2 => by omega
  | m + 1, i, e, h, j, h1, h2 => by
    rw [hsc_s] at h
    cases hc : hbad hb i with
    | true =>
      rw [hc, if_pos rfl] at h
      exact absurd h (nI_ne1 (by omega))
    | false =>
      rw [hc, if_neg (by decide)] at h
      rcases Nat.lt_or_ge i j with z | z
      · exact hsc_no hb31 m (i + 1) (by omega) h j (by omega) h2
      · have : j = i := by omega
        rw [this]; exact hc
theorem hTold_rng {hb : Nat → Int32} {b : Nat} (hb31 : b < 2 ^ 31) {mood strong : Nat → Int32} (hT : hTold hb (hN hb b) mood strong) : ∀ k, k < hN hb b → (1 ≤ (strong k).toInt ∧ (strong k).toInt ≤ 9) ∧ (mood k = 0 ∨ mood k = 1 ∨ mood k = 2 ∨ mood k = 3) := by
  intro k hk
  have hin := hN_in hb31 hk
  have hf : hFault hb b = -1 := by
    refine Classical.byContradiction fun hx => ?_
    unfold hN at hk
    rw [if_neg hx] at hk
    exact Nat.not_lt_zero k hk
  have hno := hsc_no hb31 b 0 (by omega) hf
  have b0 := hno (3 * k) (by omega) (by omega)
  have b1 := hno (3 * k + 1) (by omega) (by omega)
  unfold hbad at b0 b1
  rw [if_pos (by omega), decide_eq_false_iff_not] at b0
  rw [if_neg (by omega), if_pos (by omega), decide_eq_false_iff_not] at b1
  obtain ⟨t1, t2⟩ := hT k hk
  refine ⟨?_, ?_⟩
  · obtain ⟨q1, q2⟩ := wi_yes b1
    rw [Int32.le_iff_toInt_le] at q1 q2
    have e49 : (49 : Int32).toInt = 49 := by decide
    have e57 : (57 : Int32).toInt = 57 := by decide
    have e48 : (48 : Int32).toInt = 48 := by decide
    rw [e49] at q1
    rw [e57] at q2
    rw [t2, sub_I (by omega) (by omega) (by decide) (by decide), e48]
    omega
  · rw [t1]
    rcases pm_rng (hb (3 * k)) with q | q
    · exact absurd q b0
    · exact q
