/-! THE REFERENCE: the wall as a text -/
theorem s_noWall (c0 w0 : Int32) (t0 : Nat → Int32) : wp (f_m_noWall c0 w0 t0) (fun r => r.1 = 0 ∧ r.2.1 = 0 ∧ ∀ p, p < 48 → r.2.2 p = -1) := by
  unfold f_m_noWall
  refine wl_m_noWall_N12 (fun m a0 a1 a2 x1 => a0 = 0 ∧ a1 = 0 ∧ ∃ k, x1 = nI k ∧ k ≤ 48 ∧ m = 48 - k ∧ ∀ p, p < k → a2 p = -1) ?_ 1000 48 _ _ _ _ (by decide) ⟨rfl, rfl, 0, rfl, by decide, rfl, fun p hp => absurd hp (Nat.not_lt_zero p)⟩
  rintro m k12 ih a0 a1 a2 x1 ⟨rfl, rfl, k, rfl, hk, rfl, hp⟩
  unfold f_m_noWall_N12
  refine wp_ite (fun g => ?_) (fun g => ?_)
  · have g' := (nI_leX (a := 48) (b := k) (by decide) (by omega)).mp g
    have e : k = 48 := by omega
    subst e
    exact wp_some ⟨rfl, rfl, hp⟩
  · have g' : ¬ 48 ≤ k := fun q => g ((nI_leX (a := 48) (b := k) (by decide) (by omega)).mpr q)
    have e1 : nI k + 1 = nI (k + 1) := (nI_succ k).symm
    refine wp_gd (inbN (by omega) (by decide)) ?_
    rw [nI_clamp (by omega), e1]
    refine ih (48 - (k + 1)) _ _ _ _ (by omega) ⟨rfl, rfl, k + 1, rfl, by omega, rfl, fun p hpk => ?_⟩
    rw [upd_at]
    by_cases e : p = k
    · rw [if_pos e]
    · rw [if_neg e]; exact hp p (by omega)
/-- the reference's text of the wall -/
def wtx (typed texts wb : Nat → Int32) (n : Nat) : Prop := typed 0 = nI n ∧ ∀ k, k < n → texts k = wb k
theorem s_faultOfWall {typed texts wb : Nat → Int32} {n : Nat} (hn : n ≤ 44) (ht : wtx typed texts wb n) {t0 : Nat → Int32} (h0 : ∀ p, p < 48 → t0 p = -1) : wp (f_m_faultOfWall 0 0 typed texts t0) (fun r => r.1 = wFault wb n ∧ (wFault wb n = -1 → r.2.1 = nI (wC wb n) ∧ r.2.2.1 = nI (wW wb n) ∧ ∀ p, p < 48 → r.2.2.2 p = wTold wb n p)) := by
  have c0 : (0 : Int32).toNatClampNeg = 0 := by decide
  unfold f_m_faultOfWall
  refine wl_m_faultOfWall_N10 (fun m a0 a1 a2 x1 x2 x3 x4 => a0 = 0 ∧ a1 = 0 ∧ ∃ k, x4 = nI k ∧ k ≤ n ∧ m = n - k ∧ x1 = nI (wpS wb k).1 ∧ x2 = nI (wpS wb k).2.1 ∧ x3 = nI (wpS wb k).2.2 ∧ (∀ j, j < k → wbad wb j = false) ∧ wsc wb n (n - k) k = wFault wb n ∧ ∀ p, p < 48 → a2 p = wTd wb k p) ?_ 1000 n _ _ _ _ _ _ _ (by omega) ⟨rfl, rfl, 0, rfl, by omega, rfl, rfl, rfl, rfl, fun j hj => absurd hj (Nat.not_lt_zero j), rfl, h0⟩
  rintro m k10 ih a0 a1 a2 x1 x2 x3 x4 ⟨rfl, rfl, k, rfl, hk, rfl, rfl, rfl, rfl, hno, hh, htd⟩
  have hI := wS_inv k hno
  obtain ⟨i1, i2, i3, i4, i5⟩ := id hI
  have z0 : nI (wpS wb k).2.1 = 0 ↔ (wpS wb k).2.1 = 0 := nI_eqI (b := 0) (by omega) (by decide)
  have r0 : nI (wpS wb k).1 ≤ 0 ↔ (wpS wb k).1 ≤ 0 := nI_leX (b := 0) (by omega) (by decide)
  have m0 : nI (wpS wb k).2.2 ≤ nI (wpS wb k).2.1 ↔ (wpS wb k).2.2 ≤ (wpS wb k).2.1 := nI_leX (by omega) (by omega)
  have q0 : nI (wpS wb k).1 = 0 ↔ (wpS wb k).1 = 0 := nI_eqI (b := 0) (by omega) (by decide)
  have m5 : nI (wpS wb k).1 = 5 ↔ (wpS wb k).1 = 5 := nI_eqI (b := 5) (by omega) (by decide)
  have cm : nI (wpS wb k).2.1 = nI (wpS wb k).2.2 ↔ (wpS wb k).2.1 = (wpS wb k).2.2 := nI_eqI (by omega) (by omega)
  unfold f_m_faultOfWall_N10
  refine wp_gd (by decide) ?_
  rw [c0, ht.1]
  refine wp_ite (fun g => ?_) (fun g => ?_)
  · have g' := (nI_leX (a := n) (b := k) (by omega) (by omega)).mp g
    have e : k = n := by omega
    subst e
    rw [Nat.sub_self] at hh
    unfold wsc at hh
    have good : ¬ (0 < k ∧ wShort (wpS wb k) = true) → wp (f_m_faultOfWall_N209 typed texts 0 0 a2 (nI (wpS wb k).1) (nI (wpS wb k).2.1)) (fun r => r.1 = wFault wb k ∧ (wFault wb k = -1 → r.2.1 = nI (wC wb k) ∧ r.2.2.1 = nI (wW wb k) ∧ ∀ p, p < 48 → r.2.2.2 p = wTold wb k p)) := by
      intro hg
      rw [if_neg hg] at hh
      have hT : ∀ p, p < 48 → a2 p = wTold wb k p := fun p hp => by unfold wTold; rw [if_pos hh.symm]; exact htd p hp
      have n0 : nI k = 0 ↔ k = 0 := nI_eqI (b := 0) (by omega) (by decide)
      unfold f_m_faultOfWall_N209 f_m_faultOfWall_N226
      refine wp_gd (by decide) ?_
      rw [c0, ht.1]
      refine wp_ite (fun g1 => wp_gd (by decide) (wp_pos g1 (wp_some ⟨hh, fun _ => ⟨?_, ?_, hT⟩⟩))) (fun g1 => wp_gd (by decide) (wp_neg g1 (wp_some ⟨hh, fun _ => ⟨?_, ?_, hT⟩⟩)))
      · have := n0.mp g1
        unfold wC; rw [if_neg (by omega)]; rfl
      · have := n0.mp g1
        unfold wW; rw [if_neg (by omega)]; rfl
      · have : ¬ k = 0 := fun q => g1 (n0.mpr q)
        unfold wC; rw [if_pos ⟨hh.symm, by omega⟩]; exact (nI_succ _).symm
      · have : ¬ k = 0 := fun q => g1 (n0.mpr q)
        unfold wW; rw [if_pos ⟨hh.symm, by omega⟩]
    have shortly : 0 < k → wShort (wpS wb k) = true → wp (gd (inb (0 : Int32) 2) (some (nI k, (0 : Int32), (0 : Int32), a2))) (fun r => r.1 = wFault wb k ∧ (wFault wb k = -1 → r.2.1 = nI (wC wb k) ∧ r.2.2.1 = nI (wW wb k) ∧ ∀ p, p < 48 → r.2.2.2 p = wTold wb k p)) := by
      intro h1 h2
      rw [if_pos ⟨h1, h2⟩] at hh
      refine wp_gd (by decide) (wp_some ⟨hh, fun z => ?_⟩)
      rw [← hh] at z
      exact absurd z (nI_ne1 (by omega))
    refine wp_gd (by decide) (wp_ite (fun g1 => ?_) (fun g1 => ?_))
    · have g1' := (nI_leX (a := k) (b := 0) (by omega) (by decide)).mp g1
      exact good (by omega)
    · have g1' : ¬ k ≤ 0 := fun q => g1 ((nI_leX (a := k) (b := 0) (by omega) (by decide)).mpr q)
      refine wp_ite (fun g2 => ?_) (fun g2 => ?_)
      · exact shortly (by omega) (by unfold wShort; rw [decide_eq_true (z0.mp g2), Bool.true_or])
      · have g2' : ¬ (wpS wb k).2.1 = 0 := fun q => g2 (z0.mpr q)
        refine wp_ite (fun g3 => ?_) (fun g3 => ?_)
        · have g3' := r0.mp g3
          refine good (fun z => ?_)
          have := z.2
          unfold wShort at this
          rw [decide_eq_false g2', decide_eq_false (by omega)] at this
          cases this
        · have g3' : ¬ (wpS wb k).1 ≤ 0 := fun q => g3 (r0.mpr q)
          refine wp_ite (fun g4 => ?_) (fun g4 => ?_)
          · have g4' := m0.mp g4
            refine good (fun z => ?_)
            have := z.2
            unfold wShort at this
            rw [decide_eq_false g2', decide_eq_false (show ¬ (wpS wb k).2.1 < (wpS wb k).2.2 by omega), Bool.and_false] at this
            cases this
          · have g4' : ¬ (wpS wb k).2.2 ≤ (wpS wb k).2.1 := fun q => g4 (m0.mpr q)
            exact shortly (by omega) (by unfold wShort; rw [decide_eq_true (show 0 < (wpS wb k).1 by omega), decide_eq_true (show (wpS wb k).2.1 < (wpS wb k).2.2 by omega), Bool.and_true, Bool.or_true])
  · have g' : ¬ n ≤ k := fun q => g ((nI_leX (by omega) (by omega)).mpr q)
    have e1 : nI k + 1 = nI (k + 1) := (nI_succ k).symm
    rw [show n - k = (n - (k + 1)) + 1 by omega, wsc_s] at hh
    refine wp_gd (inbN (by omega) (by decide)) ?_
    rw [nI_clamp (show k < 2 ^ 31 by omega), ht.2 k (by omega)]
    have bad : wbad wb k = true → wp (some (nI k, (0 : Int32), (0 : Int32), a2)) (fun r => r.1 = wFault wb n ∧ (wFault wb n = -1 → r.2.1 = nI (wC wb n) ∧ r.2.2.1 = nI (wW wb n) ∧ ∀ p, p < 48 → r.2.2.2 p = wTold wb n p)) := by
      intro hb
      rw [if_pos hb] at hh
      refine wp_some ⟨hh, fun z => ?_⟩
      rw [← hh] at z
      exact absurd z (nI_ne1 (by omega))
    have nxt : wbad wb k = false → ∀ (a : Nat → Int32) (x1 x2 x3 : Int32), x1 = nI (wpS wb (k + 1)).1 → x2 = nI (wpS wb (k + 1)).2.1 → x3 = nI (wpS wb (k + 1)).2.2 → (∀ p, p < 48 → a p = wTd wb (k + 1) p) → wp (k10 0 0 a x1 x2 x3 (nI (k + 1))) (fun r => r.1 = wFault wb n ∧ (wFault wb n = -1 → r.2.1 = nI (wC wb n) ∧ r.2.2.1 = nI (wW wb n) ∧ ∀ p, p < 48 → r.2.2.2 p = wTold wb n p)) := by
      intro hb a x1 x2 x3 h1 h2 h3 h4
      rw [if_neg (by rw [hb]; decide)] at hh
      exact ih (n - (k + 1)) _ _ _ _ _ _ _ (by omega) ⟨rfl, rfl, k + 1, rfl, by omega, rfl, h1, h2, h3, fun j hj => by
        rcases Nat.lt_or_ge j k with z | z
        · exact hno j z
        · have : j = k := by omega
          rw [this]; exact hb, hh, h4⟩
    have hbd : wbad wb k = (decide ((wpS wb k).1 = 5) || (if wb k = 59 then wShort (wpS wb k) else (!wStone (wb k) || decide ((wpS wb k).2.1 = (wpS wb k).2.2)))) := rfl
    -- the three flags: ends, short, stone
    have n88 : ∀ E s t : Bool, E = decide (wb k = 59) → s = wShort (wpS wb k) → t = wStone (wb k) → wp (f_m_faultOfWall_N88 typed texts k10 0 0 a2 (nI (wpS wb k).1) (nI (wpS wb k).2.1) (nI (wpS wb k).2.2) (nI k) (wb k) (b2i E) (b2i s) (b2i t)) (fun r => r.1 = wFault wb n ∧ (wFault wb n = -1 → r.2.1 = nI (wC wb n) ∧ r.2.2.1 = nI (wW wb n) ∧ ∀ p, p < 48 → r.2.2.2 p = wTold wb n p)) := by
      rintro E s t hE hs ht2
      unfold f_m_faultOfWall_N88 f_m_faultOfWall_N121 f_m_faultOfWall_N170 f_m_faultOfWall_N135
      rw [e1]
      refine wp_ite (fun g5 => bad (by rw [hbd, decide_eq_true (m5.mp g5), Bool.true_or])) (fun g5 => ?_)
      have g5' : ¬ (wpS wb k).1 = 5 := fun q => g5 (m5.mpr q)
      rw [decide_eq_false g5', Bool.false_or] at hbd
      cases E with
      | false =>
        have hne : ¬ wb k = 59 := fun z => by rw [decide_eq_true z] at hE; cases hE
        rw [if_neg hne, ← ht2] at hbd
        refine wp_pos (by decide) ?_
        cases t with
        | false => exact wp_pos (by decide) (bad (by rw [hbd]; rfl))
        | true =>
          refine wp_neg (by decide) (wp_ite (fun g6 => bad (by rw [hbd, decide_eq_true (cm.mp g6), Bool.or_true])) (fun g6 => wp_pos (by decide) ?_))
          have g6' : ¬ (wpS wb k).2.1 = (wpS wb k).2.2 := fun q => g6 (cm.mpr q)
          have hb : wbad wb k = false := by rw [hbd, decide_eq_false g6']; rfl
          obtain ⟨-, hlt, hcm⟩ := wS_step hI hb
          have hc := hcm hne
          have hq : 8 * (wpS wb k).1 + (wpS wb k).2.1 < 48 := by omega
          rw [i8]
          have fin : ∀ v : Int32, v = (if wb k = 46 then -1 else wb k - 97) → wp (gd (inb (nI (8 * (wpS wb k).1 + (wpS wb k).2.1)) 48) (k10 0 0 (upd a2 (nI (8 * (wpS wb k).1 + (wpS wb k).2.1)).toNatClampNeg v) (nI (wpS wb k).1) (nI (wpS wb k).2.1 + 1) (nI (wpS wb k).2.2) (nI (k + 1)))) (fun r => r.1 = wFault wb n ∧ (wFault wb n = -1 → r.2.1 = nI (wC wb n) ∧ r.2.2.1 = nI (wW wb n) ∧ ∀ p, p < 48 → r.2.2.2 p = wTold wb n p)) := by
            intro v hv
            refine wp_gd (inbN hq (by decide)) ?_
            rw [nI_clamp (by omega)]
            refine nxt hb _ _ _ _ ?_ ?_ ?_ (fun p hp => ?_)
            · rw [wpS_s, if_neg hne]
            · rw [wpS_s, if_neg hne]; exact (nI_succ _).symm
            · rw [wpS_s, if_neg hne]
            · rw [wTd_s, if_neg hne, upd_at, upd_at, htd p hp, hv]
          exact wp_ite (fun g7 => fin _ (by rw [if_pos g7])) (fun g7 => fin _ (by rw [if_neg g7]))
      | true =>
        have he : wb k = 59 := by
          by_cases z : wb k = 59
          · exact z
          · rw [decide_eq_false z] at hE; cases hE
        rw [if_pos he, ← hs] at hbd
        refine wp_neg (by decide) ?_
        cases s with
        | true => exact wp_neg (by decide) (bad hbd)
        | false =>
          refine wp_pos (by decide) (wp_neg (by decide) ?_)
          refine wp_ite (fun g7 => ?_) (fun g7 => ?_)
          · refine nxt hbd _ _ _ _ ?_ ?_ ?_ (fun p hp => ?_)
            · rw [wpS_s, if_pos he]; exact (nI_succ _).symm
            · rw [wpS_s, if_pos he]; rfl
            · rw [wpS_s, if_pos he]
              show _ = nI (if (wpS wb k).1 = 0 then (wpS wb k).2.1 else (wpS wb k).2.2)
              rw [if_pos (q0.mp g7)]
            · rw [wTd_s, if_pos he]; exact htd p hp
          · refine nxt hbd _ _ _ _ ?_ ?_ ?_ (fun p hp => ?_)
            · rw [wpS_s, if_pos he]; exact (nI_succ _).symm
            · rw [wpS_s, if_pos he]; rfl
            · rw [wpS_s, if_pos he]
              show _ = nI (if (wpS wb k).1 = 0 then (wpS wb k).2.1 else (wpS wb k).2.2)
              rw [if_neg (fun q => g7 (q0.mpr q))]
            · rw [wTd_s, if_pos he]; exact htd p hp
    have n62 : ∀ E s : Bool, E = decide (wb k = 59) → s = wShort (wpS wb k) → wp (f_m_faultOfWall_N62 typed texts k10 0 0 a2 (nI (wpS wb k).1) (nI (wpS wb k).2.1) (nI (wpS wb k).2.2) (nI k) (wb k) (b2i E) (b2i s)) (fun r => r.1 = wFault wb n ∧ (wFault wb n = -1 → r.2.1 = nI (wC wb n) ∧ r.2.2.1 = nI (wW wb n) ∧ ∀ p, p < 48 → r.2.2.2 p = wTold wb n p)) := by
      intro E s hE hs
      unfold f_m_faultOfWall_N62 f_m_faultOfWall_N83
      refine wp_ite (fun g6 => n88 E s true hE hs (by unfold wStone; rw [decide_eq_true g6, Bool.true_or])) (fun g6 => ?_)
      refine wp_bindE (s_in _ _ _) (wp_ite (fun g7 => n88 E s false hE hs ?_) (fun g7 => n88 E s true hE hs ?_))
      · unfold wStone; rw [decide_eq_false g6, decide_eq_true g7]; rfl
      · unfold wStone; rw [decide_eq_false g6, decide_eq_false g7]; rfl
    have n42 : ∀ E : Bool, E = decide (wb k = 59) → wp (f_m_faultOfWall_N42 typed texts k10 0 0 a2 (nI (wpS wb k).1) (nI (wpS wb k).2.1) (nI (wpS wb k).2.2) (nI k) (wb k) (b2i E)) (fun r => r.1 = wFault wb n ∧ (wFault wb n = -1 → r.2.1 = nI (wC wb n) ∧ r.2.2.1 = nI (wW wb n) ∧ ∀ p, p < 48 → r.2.2.2 p = wTold wb n p)) := by
      intro E hE
      unfold f_m_faultOfWall_N42 f_m_faultOfWall_N57 f_m_faultOfWall_N61
      refine wp_ite (fun g2 => n62 E true hE ?_) (fun g2 => ?_)
      · unfold wShort; rw [decide_eq_true (z0.mp g2), Bool.true_or]
      · have g2' : ¬ (wpS wb k).2.1 = 0 := fun q => g2 (z0.mpr q)
        refine wp_ite (fun g3 => n62 E false hE ?_) (fun g3 => ?_)
        · have g3' := r0.mp g3
          unfold wShort; rw [decide_eq_false g2', decide_eq_false (by omega)]; rfl
        · have g3' : ¬ (wpS wb k).1 ≤ 0 := fun q => g3 (r0.mpr q)
          refine wp_ite (fun g4 => n62 E false hE ?_) (fun g4 => n62 E true hE ?_)
          · have g4' := m0.mp g4
            unfold wShort; rw [decide_eq_false g2', decide_eq_false (show ¬ (wpS wb k).2.1 < (wpS wb k).2.2 by omega), Bool.and_false]; rfl
          · have g4' : ¬ (wpS wb k).2.2 ≤ (wpS wb k).2.1 := fun q => g4 (m0.mpr q)
            unfold wShort; rw [decide_eq_true (show 0 < (wpS wb k).1 by omega), decide_eq_true (show (wpS wb k).2.1 < (wpS wb k).2.2 by omega), Bool.and_true, Bool.or_true]
    exact wp_ite (fun g1 => n42 true (by rw [decide_eq_true g1])) (fun g1 => n42 false (by rw [decide_eq_false g1]))
theorem s_readsWall {typed texts wb : Nat → Int32} {n : Nat} (hn : n ≤ 44) (ht : wtx typed texts wb n) (c0 w0 : Int32) (t0 : Nat → Int32) : wp (f_m_readsWall c0 w0 typed texts t0) (fun r => r.1 = wFault wb n ∧ r.2.1 = nI (wC wb n) ∧ r.2.2.1 = nI (wW wb n) ∧ ∀ p, p < 48 → r.2.2.2 p = wTold wb n p) := by
  unfold f_m_readsWall
  refine wp_bind (s_noWall c0 w0 t0) (fun r1 h1 => ?_)
  rw [h1.1, h1.2.1]
  refine wp_bind (s_faultOfWall hn ht h1.2.2) (fun r2 h2 => ?_)
  refine wp_ite (fun g => ?_) (fun g => ?_)
  · obtain ⟨a1, a2, a3⟩ := h2.2 (by rw [← h2.1]; exact g)
    exact wp_some ⟨h2.1, a1, a2, a3⟩
  · have hf : ¬ wFault wb n = -1 := by rw [← h2.1]; exact g
    refine wp_bind (s_noWall _ _ _) (fun r3 h3 => wp_some ⟨h2.1, ?_, ?_, fun p hp => ?_⟩)
    · unfold wC; rw [if_neg (fun z => hf z.1)]; exact h3.1
    · unfold wW; rw [if_neg (fun z => hf z.1)]; exact h3.2.1
    · unfold wTold; rw [if_neg hf]; exact h3.2.2 p hp
