/-! THE REFERENCE: hands as a text -/
/-- the reference's text of hands -/
def htx (typed texts hb : Nat → Int32) (b : Nat) : Prop := typed 1 = nI b ∧ ∀ k, k < b → texts (44 + k) = hb k
theorem s_handByte {typed texts hb : Nat → Int32} {b : Nat} (hb23 : b ≤ 23) (ht : htx typed texts hb b) {k : Nat} (hk : k < 44) : f_m_handByte typed texts (nI k) = some (if k < b then hb k else -1) := by
  have c1 : (1 : Int32).toNatClampNeg = 1 := by decide
  have e44 : (44 : Int32) + nI k = nI (44 + k) := by rw [show (44 : Int32) = nI 44 from rfl, nI_addI]
  apply wp_get
  unfold f_m_handByte
  refine wp_gd (by decide) ?_
  rw [c1, ht.1]
  refine wp_ite (fun g => ?_) (fun g => ?_)
  · have g' := (nI_leX (a := b) (b := k) (by omega) (by omega)).mp g
    exact wp_some (by rw [if_neg (by omega)])
  · have g' : ¬ b ≤ k := fun q => g ((nI_leX (by omega) (by omega)).mpr q)
    rw [e44]
    refine wp_gd (inbN (by omega) (by decide)) (wp_some ?_)
    rw [nI_clamp (by omega), if_pos (by omega), ht.2 k (by omega)]
/-- readsHand: 0 (no mood), 1 (no strength), 2 (well) -/
theorem s_readsHand {typed texts hb : Nat → Int32} {b : Nat} (hb23 : b ≤ 23) (ht : htx typed texts hb b) {j i : Nat} (hj : j < 8) (hi : i < 30) (mo st : Nat → Int32) : f_m_readsHand typed texts mo st (nI j) (nI i) = some (if pm (if i < b then hb i else -1) = -1 then (0, mo, st) else if wi (if i + 1 < b then hb (i + 1) else -1) 49 57 = 0 then (1, mo, st) else (2, upd mo j (pm (if i < b then hb i else -1)), upd st j ((if i + 1 < b then hb (i + 1) else -1) - 48))) := by
  have e1 : nI i + 1 = nI (i + 1) := (nI_succ i).symm
  have n47 : ∀ v : Int32, f_m_readsHand_N47 typed texts mo st (nI j) (nI i) v = some (if v = -1 then (0, mo, st) else if wi (if i + 1 < b then hb (i + 1) else -1) 49 57 = 0 then (1, mo, st) else (2, upd mo j v, upd st j ((if i + 1 < b then hb (i + 1) else -1) - 48))) := by
    intro v
    apply wp_get
    unfold f_m_readsHand_N47
    rw [e1]
    refine wp_bindE (s_handByte hb23 ht (by omega)) ?_
    refine wp_neg (fun z => by
      have := (nI_eqI (a := j) (b := 8) (by omega) (by decide)).mp z
      omega) ?_
    refine wp_ite (fun g => ?_) (fun g => ?_)
    · exact wp_some (by rw [if_pos g])
    · rw [if_neg g]
      refine wp_bindE (s_in _ _ _) (wp_ite (fun g1 => ?_) (fun g1 => ?_))
      · exact wp_some (by rw [if_pos g1])
      · rw [if_neg g1]
        refine wp_gd (inbN (by omega) (by decide)) (wp_gd (inbN (by omega) (by decide)) (wp_some ?_))
        rw [nI_clamp (by omega)]
  unfold f_m_readsHand
  rw [s_handByte hb23 ht (by omega)]
  show (if (if i < b then hb i else -1) = 112 then _ else _) = _
  generalize (if i < b then hb i else -1) = x
  unfold pm
  by_cases q1 : x = 112
  · rw [if_pos q1, if_pos q1, n47]
  · rw [if_neg q1, if_neg q1]
    by_cases q2 : x = 116
    · rw [if_pos q2, if_pos q2, n47]
    · rw [if_neg q2, if_neg q2]
      by_cases q3 : x = 108
      · rw [if_pos q3, if_pos q3, n47]
      · rw [if_neg q3, if_neg q3]
        by_cases q4 : x = 115
        · rw [if_pos q4, if_pos q4, n47]
        · rw [if_neg q4, if_neg q4, n47]
theorem s_readsHands {typed texts hb : Nat → Int32} {b : Nat} (hb23 : b ≤ 23) (ht : htx typed texts hb b) (h0 : Int32) (mo0 st0 : Nat → Int32) : wp (f_m_readsHands h0 typed texts mo0 st0) (fun r => r.1 = hFault hb b ∧ r.2.1 = nI (hN hb b) ∧ hTold hb (hN hb b) r.2.2.1 r.2.2.2) := by
  have c1 : (1 : Int32).toNatClampNeg = 1 := by decide
  have bad : ∀ (v : Int32) (mo st : Nat → Int32), ¬ v = -1 → hFault hb b = v → v = hFault hb b ∧ (0 : Int32) = nI (hN hb b) ∧ hTold hb (hN hb b) mo st := by
    intro v mo st hv hf
    have hz : hN hb b = 0 := by unfold hN; rw [if_neg (by rw [hf]; exact hv)]
    refine ⟨hf.symm, by rw [hz]; rfl, fun k hk => ?_⟩
    rw [hz] at hk
    exact absurd hk (Nat.not_lt_zero k)
  unfold f_m_readsHands
  refine wl_m_readsHands_N9 (fun m a0 a1 a2 x1 x2 => a0 = 0 ∧ ∃ j, x1 = nI j ∧ x2 = nI (3 * j) ∧ 3 * j ≤ b ∧ m = 9 - j ∧ hTold hb j a1 a2 ∧ hsc hb b (b - 3 * j) (3 * j) = hFault hb b) ?_ 1000 9 _ _ _ _ _ (by decide) ⟨rfl, 0, rfl, rfl, by omega, rfl, fun k hk => absurd hk (Nat.not_lt_zero k), rfl⟩
  rintro m k9 ih a0 a1 a2 x1 x2 ⟨rfl, j, rfl, rfl, hj, rfl, hT, hh⟩
  have hj8 : j < 8 := by omega
  have n23 : 0 < b → wp (f_m_readsHands_N23 typed texts k9 0 a1 a2 (nI j) (nI (3 * j))) (fun r => r.1 = hFault hb b ∧ r.2.1 = nI (hN hb b) ∧ hTold hb (hN hb b) r.2.2.1 r.2.2.2) := by
    intro hb0
    unfold f_m_readsHands_N23
    refine wp_bindE (s_readsHand hb23 ht hj8 (by omega) a1 a2) ?_
    have m0 : 3 * j % 3 = 0 := by omega
    have m1 : (3 * j + 1) % 3 = 1 := by omega
    have m2 : (3 * j + 2) % 3 = 2 := by omega
    by_cases l0 : 3 * j < b
    · rw [if_pos l0]
      rw [show b - 3 * j = (b - (3 * j + 1)) + 1 by omega, hsc_s] at hh
      have b0 : hbad hb (3 * j) = decide (pm (hb (3 * j)) = -1) := by unfold hbad; rw [if_pos m0]
      by_cases p0 : pm (hb (3 * j)) = -1
      · rw [if_pos p0]
        rw [b0, decide_eq_true p0, if_pos rfl] at hh
        refine wp_neg (show ¬ (2 : Int32) ≤ 0 by decide) (wp_some ?_)
        show nI (3 * j) + 0 = _ ∧ _
        rw [Int32.add_zero]
        exact bad _ _ _ (nI_ne1 (by omega)) hh.symm
      · rw [if_neg p0]
        rw [b0, decide_eq_false p0, if_neg (by decide)] at hh
        have e31 : nI (3 * j) + 1 = nI (3 * j + 1) := (nI_succ (3 * j)).symm
        by_cases l1 : 3 * j + 1 < b
        · rw [if_pos l1]
          rw [show b - (3 * j + 1) = (b - (3 * j + 1 + 1)) + 1 by omega, hsc_s] at hh
          have b1 : hbad hb (3 * j + 1) = decide (wi (hb (3 * j + 1)) 49 57 = 0) := by unfold hbad; rw [if_neg (by omega), if_pos m1]
          by_cases p1 : wi (hb (3 * j + 1)) 49 57 = 0
          · rw [if_pos p1]
            rw [b1, decide_eq_true p1, if_pos rfl] at hh
            refine wp_neg (show ¬ (2 : Int32) ≤ 1 by decide) (wp_some ?_)
            show nI (3 * j) + 1 = _ ∧ _
            rw [e31]
            exact bad _ _ _ (nI_ne1 (by omega)) hh.symm
          · rw [if_neg p1]
            rw [b1, decide_eq_false p1, if_neg (by decide)] at hh
            have e32 : nI (3 * j) + 2 = nI (3 * j + 2) := nI_addI (3 * j) 2
            have e33 : nI (3 * j + 2) + 1 = nI (3 * (j + 1)) := by rw [show nI (3 * j + 2) + 1 = nI (3 * j + 2 + 1) from (nI_succ _).symm]; congr 1
            have ej : nI j + 1 = nI (j + 1) := (nI_succ j).symm
            have hT' : hTold hb (j + 1) (upd a1 j (pm (hb (3 * j)))) (upd a2 j (hb (3 * j + 1) - 48)) := by
              intro k hk
              rw [upd_at, upd_at]
              by_cases e : k = j
              · subst e; rw [if_pos rfl, if_pos rfl]; exact ⟨rfl, rfl⟩
              · rw [if_neg e, if_neg e]; exact hT k (by omega)
            refine wp_pos (show (2 : Int32) ≤ 2 by decide) (wp_gd (by decide) ?_)
            rw [c1, ht.1, e32]
            refine wp_ite (fun g => ?_) (fun g => ?_)
            · have g' : 3 * j + 2 = b := (nI_eqI (by omega) (by omega)).mp g
              rw [show b - (3 * j + 1 + 1) = 0 by omega] at hh
              unfold hsc at hh
              rw [if_pos (Or.inr (by omega))] at hh
              have hn : hN hb b = j + 1 := by unfold hN; rw [if_pos hh.symm]; omega
              refine wp_some ⟨hh, ?_, ?_⟩
              · show nI j + 1 = _
                rw [hn, ej]
              · rw [hn]; exact hT'
            · have g' : ¬ 3 * j + 2 = b := fun q => g (by rw [q])
              rw [show b - (3 * j + 1 + 1) = (b - (3 * j + 1 + 1 + 1)) + 1 by omega, hsc_s] at hh
              have b2 : hbad hb (3 * j + 2) = !decide (hb (3 * j + 2) = 59) := by unfold hbad; rw [if_neg (by omega), if_neg (by omega)]
              refine wp_bindE (s_handByte hb23 ht (by omega)) ?_
              rw [if_pos (show 3 * j + 2 < b by omega)]
              refine wp_ite (fun g2 => ?_) (fun g2 => ?_)
              · have b2' : hbad hb (3 * j + 1 + 1) = false := by
                  show hbad hb (3 * j + 2) = false
                  rw [b2, decide_eq_true g2]; rfl
                rw [b2', if_neg (by decide)] at hh
                rw [e33, ej]
                refine ih (9 - (j + 1)) _ _ _ _ _ (by omega) ⟨rfl, j + 1, rfl, rfl, by omega, rfl, hT', ?_⟩
                rw [← hh]
                congr 1
              · have b2' : hbad hb (3 * j + 1 + 1) = true := by
                  show hbad hb (3 * j + 2) = true
                  rw [b2, decide_eq_false g2]; rfl
                rw [b2', if_pos rfl] at hh
                exact wp_some (bad _ _ _ (nI_ne1 (by omega)) hh.symm)
        · rw [if_neg l1]
          have : wi (-1 : Int32) 49 57 = 0 := by decide
          rw [if_pos this]
          rw [show b - (3 * j + 1) = 0 by omega] at hh
          unfold hsc at hh
          rw [if_neg (by omega)] at hh
          refine wp_neg (show ¬ (2 : Int32) ≤ 1 by decide) (wp_some ?_)
          show nI (3 * j) + 1 = _ ∧ _
          rw [e31, show 3 * j + 1 = b by omega]
          exact bad _ _ _ (nI_ne1 (by omega)) hh.symm
    · rw [if_neg l0]
      have : pm (-1 : Int32) = -1 := by decide
      rw [if_pos this]
      rw [show b - 3 * j = 0 by omega] at hh
      unfold hsc at hh
      rw [if_neg (by omega)] at hh
      refine wp_neg (show ¬ (2 : Int32) ≤ 0 by decide) (wp_some ?_)
      show nI (3 * j) + 0 = _ ∧ _
      rw [Int32.add_zero, show 3 * j = b by omega]
      exact bad _ _ _ (nI_ne1 (by omega)) hh.symm
  unfold f_m_readsHands_N9
  refine wp_gd (by decide) ?_
  rw [c1, ht.1]
  refine wp_ite (fun g => ?_) (fun g => ?_)
  · have g' := (nI_ltX (by omega) (by omega)).mp g
    exact n23 (by omega)
  · have g' : ¬ 3 * j < b := fun q => g ((nI_ltX (by omega) (by omega)).mpr q)
    refine wp_ite (fun g1 => ?_) (fun g1 => ?_)
    · have g1' := (nI_leX (a := 3 * j) (b := 0) (by omega) (by decide)).mp g1
      have hbz : b = 0 := by omega
      have hf : hFault hb b = -1 := by
        rw [← hh, hbz, show 3 * j = 0 by omega]
        rfl
      have hn : hN hb b = 0 := by unfold hN; rw [if_pos hf, hbz]
      refine wp_some ⟨hf.symm, by rw [hn]; rfl, fun k hk => ?_⟩
      rw [hn] at hk
      exact absurd hk (Nat.not_lt_zero k)
    · have g1' : ¬ 3 * j ≤ 0 := fun q => g1 ((nI_leX (a := 3 * j) (b := 0) (by omega) (by decide)).mpr q)
      exact n23 (by omega)
