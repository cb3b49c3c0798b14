/-! WHAT CHANGES THE STATE: the reference -/
theorem e_01 {a0 : Int32} (h : ¬ wi a0 0 1 = 0) : a0 = nI 0 ∨ a0 = nI 1 := by
  obtain ⟨i, hi, rfl⟩ := wi_nat 1 (by decide) h
  have : i = 0 ∨ i = 1 := by omega
  rcases this with rfl | rfl
  · exact Or.inl rfl
  · exact Or.inr rfl
theorem cl0 : (nI 0).toNatClampNeg = 0 := rfl
theorem cl1 : (nI 1).toNatClampNeg = 1 := rfl
theorem n10 : ¬ nI 1 = 0 := by decide
theorem n00 : nI 0 = 0 := rfl
theorem MP_W {K : Kt} {ty tx : Nat → Int32} {ju fn : Int32} {fy ff : Nat → Int32} {gn : Int32} {gy gc gh : Nat → Int32} (h : MP K ty tx ju fn fy ff gn gy gc gh) {ty' tx' wb : Nat → Int32} {a : Nat} (h1 : wtx ty' tx' wb a) (h2 : htx ty' tx' (kHb K) (kB K)) : MP (tW K wb a) ty' tx' ju fn fy ff gn gy gc gh := ⟨⟨h1, h2⟩, h.2⟩
theorem MP_H {K : Kt} {ty tx : Nat → Int32} {ju fn : Int32} {fy ff : Nat → Int32} {gn : Int32} {gy gc gh : Nat → Int32} (h : MP K ty tx ju fn fy ff gn gy gc gh) {ty' tx' hb : Nat → Int32} {b : Nat} (h1 : wtx ty' tx' (kWb K) (kA K)) (h2 : htx ty' tx' hb b) : MP (tH K hb b) ty' tx' ju fn fy ff gn gy gc gh := ⟨⟨h1, h2⟩, h.2⟩
theorem m_type {O : Om} {v_typed v_texts : Nat → Int32} {v_jumpTold v_frosts : Int32} {v_frostYear v_frostForce : Nat → Int32} {v_gaps : Int32} {v_gapYear v_gapColumn v_gapHand : Nat → Int32} {v_seens : Int32} {v_seenYear v_seenPlace v_seenHand : Nat → Int32} {v_finding : Int32} {v_isThere v_forms v_sizes v_items : Nat → Int32} {a0 a1 : Int32} (h : MX O v_typed v_texts v_jumpTold v_frosts v_frostYear v_frostForce v_gaps v_gapYear v_gapColumn v_gapHand v_seens v_seenYear v_seenPlace v_seenHand v_finding v_isThere v_forms v_sizes v_items) : wp (f_m_type v_typed v_texts a0 a1) (fun r => r.1 = (sp_type O a0 a1).1 ∧ MX ((sp_type O a0 a1).2) r.2.1 r.2.2 v_jumpTold v_frosts v_frostYear v_frostForce v_gaps v_gapYear v_gapColumn v_gapHand v_seens v_seenYear v_seenPlace v_seenHand v_finding v_isThere v_forms v_sizes v_items) := by
  have hm := h.2.1
  have hw := hm.1.1
  have hh := hm.1.2
  have h44 := h.1.1.1.1
  have h23 := h.1.1.2.1.1
  unfold f_m_type f_m_type_N38
  refine wp_bindE (q_m_isText a0) (wp_ite (fun g => ?_) (fun g1 => ?_))
  · rw [show sp_type O a0 a1 = (-2, O) from if_pos g]; exact wp_some ⟨rfl, h⟩
  refine wp_bindE (s_in a1 0 255) (wp_ite (fun g => ?_) (fun g2 => ?_))
  · rw [show sp_type O a0 a1 = (-2, O) from by unfold sp_type; rw [if_neg g1, if_pos g]]; exact wp_some ⟨rfl, h⟩
  rcases e_01 g1 with rfl | rfl
  · refine wp_gd (by decide) (wp_pos rfl ?_)
    rw [cl0, hw.1]
    refine wp_ite (fun g3 => ?_) (fun g3 => ?_)
    · have g4 : kA O.1 = 44 := (nI_eqI (b := 44) (by omega) (by decide)).mp g3
      rw [show sp_type O (nI 0) a1 = (-4, O) from by unfold sp_type; rw [if_neg g1, if_neg g2, if_pos n00, if_neg (by omega)]]
      exact wp_some ⟨rfl, h⟩
    · have g4 : ¬ kA O.1 = 44 := fun q => g3 ((nI_eqI (b := 44) (by omega) (by decide)).mpr q)
      rw [show sp_type O (nI 0) a1 = _ from by unfold sp_type; rw [if_neg g1, if_neg g2, if_pos n00, if_pos (by omega)]]
      have e1 : (44 : Int32) * nI 0 + nI (kA O.1) = nI (kA O.1) := by
        rw [show (44 : Int32) * nI 0 = nI 0 from rfl, nI_addI, Nat.zero_add]
      rw [e1, cl (show kA O.1 < 2 ^ 31 by omega), show nI (kA O.1) + 1 = nI (kA O.1 + 1) from (nI_succ _).symm]
      refine wp_gd (by decide) (wp_gd (inbN (by omega) (by decide)) (wp_gd (by decide) (wp_gd (by decide) (wp_gd (by decide) (wp_some ⟨upd_eq v_typed 0 (nI (kA O.1 + 1)), ?_⟩)))))
      refine ⟨CK_W h.1 (by omega) (byt_up h.1.1.1.2 g2), MP_W hm ⟨upd_eq v_typed 0 (nI (kA O.1 + 1)), fun k hk => ?_⟩ ⟨?_, fun k hk => ?_⟩, h.2.2⟩
      · show upd v_texts (kA O.1) a1 k = upd (kWb O.1) (kA O.1) a1 k
        rw [upd_at, upd_at]
        by_cases e : k = kA O.1
        · rw [if_pos e, if_pos e]
        · rw [if_neg e, if_neg e]; exact hw.2 k (by omega)
      · exact hh.1
      · show upd v_texts (kA O.1) a1 (44 + k) = _
        rw [upd_at, if_neg (by omega)]; exact hh.2 k hk
  · refine wp_gd (by decide) (wp_neg n10 ?_)
    rw [cl1, hh.1]
    refine wp_ite (fun g3 => ?_) (fun g3 => ?_)
    · have g4 : kB O.1 = 23 := (nI_eqI (b := 23) (by omega) (by decide)).mp g3
      rw [show sp_type O (nI 1) a1 = (-4, O) from by unfold sp_type; rw [if_neg g1, if_neg g2, if_neg n10, if_neg (by omega)]]
      exact wp_some ⟨rfl, h⟩
    · have g4 : ¬ kB O.1 = 23 := fun q => g3 ((nI_eqI (b := 23) (by omega) (by decide)).mpr q)
      rw [show sp_type O (nI 1) a1 = _ from by unfold sp_type; rw [if_neg g1, if_neg g2, if_neg n10, if_pos (by omega)]]
      have e1 : (44 : Int32) * nI 1 + nI (kB O.1) = nI (44 + kB O.1) := by
        rw [show (44 : Int32) * nI 1 = nI 44 from rfl, nI_addI]
      rw [e1, cl (show 44 + kB O.1 < 2 ^ 31 by omega), show nI (kB O.1) + 1 = nI (kB O.1 + 1) from (nI_succ _).symm]
      refine wp_gd (by decide) (wp_gd (inbN (by omega) (by decide)) (wp_gd (by decide) (wp_gd (by decide) (wp_gd (by decide) (wp_some ⟨upd_eq v_typed 1 (nI (kB O.1 + 1)), ?_⟩)))))
      refine ⟨CK_H h.1 (by omega) (byt_up h.1.1.2.1.2 g2), MP_H hm ⟨?_, fun k hk => ?_⟩ ⟨upd_eq v_typed 1 (nI (kB O.1 + 1)), fun k hk => ?_⟩, h.2.2⟩
      · exact hw.1
      · show upd v_texts (44 + kB O.1) a1 k = _
        rw [upd_at, if_neg (by omega)]; exact hw.2 k hk
      · show upd v_texts (44 + kB O.1) a1 (44 + k) = upd (kHb O.1) (kB O.1) a1 k
        rw [upd_at, upd_at]
        by_cases e : k = kB O.1
        · rw [if_pos e, if_pos (by omega)]
        · rw [if_neg e, if_neg (by omega)]; exact hh.2 k (by omega)
theorem m_wipe {O : Om} {v_typed v_texts : Nat → Int32} {v_jumpTold v_frosts : Int32} {v_frostYear v_frostForce : Nat → Int32} {v_gaps : Int32} {v_gapYear v_gapColumn v_gapHand : Nat → Int32} {v_seens : Int32} {v_seenYear v_seenPlace v_seenHand : Nat → Int32} {v_finding : Int32} {v_isThere v_forms v_sizes v_items : Nat → Int32} {a0 : Int32} (h : MX O v_typed v_texts v_jumpTold v_frosts v_frostYear v_frostForce v_gaps v_gapYear v_gapColumn v_gapHand v_seens v_seenYear v_seenPlace v_seenHand v_finding v_isThere v_forms v_sizes v_items) : wp (f_m_wipe v_typed a0) (fun r => r.1 = (sp_wipe O a0).1 ∧ MX ((sp_wipe O a0).2) r.2 v_texts v_jumpTold v_frosts v_frostYear v_frostForce v_gaps v_gapYear v_gapColumn v_gapHand v_seens v_seenYear v_seenPlace v_seenHand v_finding v_isThere v_forms v_sizes v_items) := by
  have hm := h.2.1
  have hw := hm.1.1
  have hh := hm.1.2
  unfold f_m_wipe
  refine wp_bindE (q_m_isText a0) (wp_ite (fun g => ?_) (fun g1 => ?_))
  · rw [show sp_wipe O a0 = (-2, O) from if_pos g]; exact wp_some ⟨rfl, h⟩
  rcases e_01 g1 with rfl | rfl
  · rw [show sp_wipe O (nI 0) = _ from by unfold sp_wipe; rw [if_neg g1, if_pos n00], cl0]
    refine wp_gd (by decide) (wp_gd (by decide) (wp_some ⟨hw.1, CK_W h.1 (by omega) (byt_dn h.1.1.1.2 (by omega)), MP_W hm ⟨upd_eq v_typed 0 0, fun k hk => absurd hk (Nat.not_lt_zero k)⟩ ⟨?_, hh.2⟩, h.2.2⟩))
    exact hh.1
  · rw [show sp_wipe O (nI 1) = _ from by unfold sp_wipe; rw [if_neg g1, if_neg n10], cl1]
    refine wp_gd (by decide) (wp_gd (by decide) (wp_some ⟨hh.1, CK_H h.1 (by omega) (byt_dn h.1.1.2.1.2 (by omega)), MP_H hm ⟨?_, hw.2⟩ ⟨upd_eq v_typed 1 0, fun k hk => absurd hk (Nat.not_lt_zero k)⟩, h.2.2⟩))
    exact hw.1
theorem m_undo {O : Om} {v_typed v_texts : Nat → Int32} {v_jumpTold v_frosts : Int32} {v_frostYear v_frostForce : Nat → Int32} {v_gaps : Int32} {v_gapYear v_gapColumn v_gapHand : Nat → Int32} {v_seens : Int32} {v_seenYear v_seenPlace v_seenHand : Nat → Int32} {v_finding : Int32} {v_isThere v_forms v_sizes v_items : Nat → Int32} {a0 : Int32} (h : MX O v_typed v_texts v_jumpTold v_frosts v_frostYear v_frostForce v_gaps v_gapYear v_gapColumn v_gapHand v_seens v_seenYear v_seenPlace v_seenHand v_finding v_isThere v_forms v_sizes v_items) : wp (f_m_undo v_typed a0) (fun r => r.1 = (sp_undo O a0).1 ∧ MX ((sp_undo O a0).2) r.2 v_texts v_jumpTold v_frosts v_frostYear v_frostForce v_gaps v_gapYear v_gapColumn v_gapHand v_seens v_seenYear v_seenPlace v_seenHand v_finding v_isThere v_forms v_sizes v_items) := by
  have hm := h.2.1
  have hw := hm.1.1
  have hh := hm.1.2
  have h44 := h.1.1.1.1
  have h23 := h.1.1.2.1.1
  unfold f_m_undo
  refine wp_bindE (q_m_isText a0) (wp_ite (fun g => ?_) (fun g1 => ?_))
  · rw [show sp_undo O a0 = (-2, O) from if_pos g]; exact wp_some ⟨rfl, h⟩
  rcases e_01 g1 with rfl | rfl
  · rw [cl0, hw.1]
    refine wp_gd (by decide) (wp_ite (fun g3 => ?_) (fun g3 => ?_))
    · have g4 : kA O.1 = 0 := (nI_eqI (b := 0) (by omega) (by decide)).mp g3
      rw [show sp_undo O (nI 0) = (-3, O) from by unfold sp_undo; rw [if_neg g1, if_pos n00, if_pos g4]]
      exact wp_some ⟨rfl, h⟩
    · have g4 : ¬ kA O.1 = 0 := fun q => g3 ((nI_eqI (b := 0) (by omega) (by decide)).mpr q)
      rw [show sp_undo O (nI 0) = _ from by unfold sp_undo; rw [if_neg g1, if_pos n00, if_neg g4], show (1 : Int32) = nI 1 from rfl, nI_subI (by omega)]
      refine wp_gd (by decide) (wp_gd (by decide) (wp_gd (by decide) (wp_some ⟨upd_eq v_typed 0 (nI (kA O.1 - 1)), CK_W h.1 (by omega) (byt_dn h.1.1.1.2 (by omega)), MP_W hm ⟨upd_eq v_typed 0 (nI (kA O.1 - 1)), fun k hk => hw.2 k (by omega)⟩ ⟨?_, hh.2⟩, h.2.2⟩)))
      exact hh.1
  · rw [cl1, hh.1]
    refine wp_gd (by decide) (wp_ite (fun g3 => ?_) (fun g3 => ?_))
    · have g4 : kB O.1 = 0 := (nI_eqI (b := 0) (by omega) (by decide)).mp g3
      rw [show sp_undo O (nI 1) = (-3, O) from by unfold sp_undo; rw [if_neg g1, if_neg n10, if_pos g4]]
      exact wp_some ⟨rfl, h⟩
    · have g4 : ¬ kB O.1 = 0 := fun q => g3 ((nI_eqI (b := 0) (by omega) (by decide)).mpr q)
      rw [show sp_undo O (nI 1) = _ from by unfold sp_undo; rw [if_neg g1, if_neg n10, if_neg g4], show (1 : Int32) = nI 1 from rfl, nI_subI (by omega)]
      refine wp_gd (by decide) (wp_gd (by decide) (wp_gd (by decide) (wp_some ⟨upd_eq v_typed 1 (nI (kB O.1 - 1)), CK_H h.1 (by omega) (byt_dn h.1.1.2.1.2 (by omega)), MP_H hm ⟨?_, hw.2⟩ ⟨upd_eq v_typed 1 (nI (kB O.1 - 1)), fun k hk => hh.2 k (by omega)⟩, h.2.2⟩)))
      exact hw.1
theorem m_jump {O : Om} {v_typed v_texts : Nat → Int32} {v_jumpTold v_frosts : Int32} {v_frostYear v_frostForce : Nat → Int32} {v_gaps : Int32} {v_gapYear v_gapColumn v_gapHand : Nat → Int32} {v_seens : Int32} {v_seenYear v_seenPlace v_seenHand : Nat → Int32} {v_finding : Int32} {v_isThere v_forms v_sizes v_items : Nat → Int32} {a0 : Int32} (h : MX O v_typed v_texts v_jumpTold v_frosts v_frostYear v_frostForce v_gaps v_gapYear v_gapColumn v_gapHand v_seens v_seenYear v_seenPlace v_seenHand v_finding v_isThere v_forms v_sizes v_items) : wp (f_m_jump v_jumpTold a0) (fun r => r.1 = (sp_jump O a0).1 ∧ MX ((sp_jump O a0).2) v_typed v_texts r.2 v_frosts v_frostYear v_frostForce v_gaps v_gapYear v_gapColumn v_gapHand v_seens v_seenYear v_seenPlace v_seenHand v_finding v_isThere v_forms v_sizes v_items) := by
  unfold f_m_jump sp_jump
  refine wp_bindE (s_in a0 1 5) (wp_ite (fun g => ?_) (fun g1 => ?_))
  · rw [if_pos g]; exact wp_some ⟨rfl, h⟩
  rw [if_neg g1]
  obtain ⟨j, h1, h5, rfl⟩ := wi_15 (m := 5) (by decide) g1
  rw [cl (show j < 2 ^ 31 by omega)]
  exact wp_some ⟨h.2.1.2.1, CK_J h.1 h1 h5, ⟨h.2.1.1, rfl, h.2.1.2.2⟩, h.2.2⟩
theorem MPf_up {K : Kt} {fy ff : Nat → Int32} (h : ∀ k, k < kFn K → fy k = kFy K k ∧ ff k = kFf K k) (a0 a1 : Int32) : ∀ k, k < kFn K + 1 → upd fy (kFn K) a0 k = upd (kFy K) (kFn K) a0 k ∧ upd ff (kFn K) a1 k = upd (kFf K) (kFn K) a1 k := by
  intro k hk
  rw [upd_at, upd_at, upd_at, upd_at]
  by_cases e : k = kFn K
  · rw [if_pos e, if_pos e, if_pos e, if_pos e]; exact ⟨rfl, rfl⟩
  · rw [if_neg e, if_neg e, if_neg e, if_neg e]; exact h k (by omega)
theorem s_mfrost {K : Kt} (h6 : kFn K ≤ 6) {fn : Int32} {fy ff : Nat → Int32} (hf : fn = nI (kFn K) ∧ ∀ k, k < kFn K → fy k = kFy K k ∧ ff k = kFf K k) (a0 a1 : Int32) : wp (f_m_frost fn fy ff a0 a1) (fun r => (¬ mfr a0 a1 = 0 ∧ kFn K < 6 → r.1 = nI (kFn K + 1) ∧ r.2.1 = nI (kFn K + 1) ∧ ∀ k, k < kFn K + 1 → r.2.2.1 k = upd (kFy K) (kFn K) a0 k ∧ r.2.2.2 k = upd (kFf K) (kFn K) a1 k) ∧ (¬ (¬ mfr a0 a1 = 0 ∧ kFn K < 6) → r.1 = (if mfr a0 a1 = 0 then (-2 : Int32) else -4) ∧ r.2 = (fn, fy, ff))) := by
  obtain ⟨rfl, hf⟩ := hf
  unfold f_m_frost
  refine wp_bindE (q_m_isYear a0) (wp_ite (fun g => ?_) (fun g1 => ?_))
  · have e : mfr a0 a1 = 0 := if_pos g
    exact wp_some ⟨fun q => absurd e q.1, fun _ => ⟨by rw [if_pos e], rfl⟩⟩
  refine wp_bindE (s_in a1 1 15) (wp_ite (fun g => ?_) (fun g2 => ?_))
  · have e : mfr a0 a1 = 0 := by unfold mfr; rw [if_neg g1, if_pos g]
    exact wp_some ⟨fun q => absurd e q.1, fun _ => ⟨by rw [if_pos e], rfl⟩⟩
  have e : ¬ mfr a0 a1 = 0 := by unfold mfr; rw [if_neg g1, if_neg g2]; decide
  refine wp_ite (fun g3 => ?_) (fun g3 => ?_)
  · have g4 : kFn K = 6 := (nI_eqI (b := 6) (by omega) (by decide)).mp g3
    exact wp_some ⟨fun q => absurd q.2 (by omega), fun _ => ⟨by rw [if_neg e], rfl⟩⟩
  · have g4 : ¬ kFn K = 6 := fun q => g3 ((nI_eqI (b := 6) (by omega) (by decide)).mpr q)
    rw [cl (show kFn K < 2 ^ 31 by omega), show nI (kFn K) + 1 = nI (kFn K + 1) from (nI_succ _).symm]
    exact wp_gd (inbN (by omega) (by decide)) (wp_gd (inbN (by omega) (by decide)) (wp_some ⟨fun _ => ⟨rfl, rfl, MPf_up hf a0 a1⟩, fun q => absurd ⟨e, by omega⟩ q⟩))
theorem m_frost {O : Om} {v_typed v_texts : Nat → Int32} {v_jumpTold v_frosts : Int32} {v_frostYear v_frostForce : Nat → Int32} {v_gaps : Int32} {v_gapYear v_gapColumn v_gapHand : Nat → Int32} {v_seens : Int32} {v_seenYear v_seenPlace v_seenHand : Nat → Int32} {v_finding : Int32} {v_isThere v_forms v_sizes v_items : Nat → Int32} {a0 a1 : Int32} (h : MX O v_typed v_texts v_jumpTold v_frosts v_frostYear v_frostForce v_gaps v_gapYear v_gapColumn v_gapHand v_seens v_seenYear v_seenPlace v_seenHand v_finding v_isThere v_forms v_sizes v_items) : wp (f_m_frost v_frosts v_frostYear v_frostForce a0 a1) (fun r => r.1 = (sp_frost O a0 a1).1 ∧ MX ((sp_frost O a0 a1).2) v_typed v_texts v_jumpTold r.2.1 r.2.2.1 r.2.2.2 v_gaps v_gapYear v_gapColumn v_gapHand v_seens v_seenYear v_seenPlace v_seenHand v_finding v_isThere v_forms v_sizes v_items) := by
  have hm := h.2.1
  refine wp_mono (s_mfrost h.1.1.2.2.2.1.1 hm.2.2.1 a0 a1) (fun r hr => ?_)
  by_cases e : ¬ mfr a0 a1 = 0 ∧ kFn O.1 < 6
  · rw [show sp_frost O a0 a1 = _ from by unfold sp_frost; rw [if_neg e.1, if_pos e.2]]
    obtain ⟨r1, r2, r3⟩ := hr.1 e
    exact ⟨r1, CK_F h.1 (by omega) (ff_up h.1.1.2.2.2.1.2 (ff_ok (mfr_ok e.1).2)), ⟨hm.1, hm.2.1, ⟨r2, r3⟩, hm.2.2.2⟩, h.2.2⟩
  · obtain ⟨r1, r2⟩ := hr.2 e
    rw [r2]
    by_cases e1 : mfr a0 a1 = 0
    · rw [if_pos e1] at r1
      rw [show sp_frost O a0 a1 = (-2, O) from if_pos e1]
      exact ⟨r1, h⟩
    · rw [if_neg e1] at r1
      rw [show sp_frost O a0 a1 = (-4, O) from by unfold sp_frost; rw [if_neg e1, if_neg (fun q => e ⟨e1, q⟩)]]
      exact ⟨r1, h⟩
theorem m_gapping {O : Om} {v_typed v_texts : Nat → Int32} {v_jumpTold v_frosts : Int32} {v_frostYear v_frostForce : Nat → Int32} {v_gaps : Int32} {v_gapYear v_gapColumn v_gapHand : Nat → Int32} {v_seens : Int32} {v_seenYear v_seenPlace v_seenHand : Nat → Int32} {v_finding : Int32} {v_isThere v_forms v_sizes v_items : Nat → Int32} {a0 a1 a2 : Int32} (h : MX O v_typed v_texts v_jumpTold v_frosts v_frostYear v_frostForce v_gaps v_gapYear v_gapColumn v_gapHand v_seens v_seenYear v_seenPlace v_seenHand v_finding v_isThere v_forms v_sizes v_items) : wp (f_m_gapping v_gaps v_gapYear v_gapColumn v_gapHand a0 a1 a2) (fun r => r.1 = (sp_gapping O a0 a1 a2).1 ∧ MX ((sp_gapping O a0 a1 a2).2) v_typed v_texts v_jumpTold v_frosts v_frostYear v_frostForce r.2.1 r.2.2.1 r.2.2.2.1 r.2.2.2.2 v_seens v_seenYear v_seenPlace v_seenHand v_finding v_isThere v_forms v_sizes v_items) := by
  have hm := h.2.1
  unfold f_m_gapping sp_gapping
  refine wp_bindE (q_m_isYear a0) (wp_ite (fun g => ?_) (fun g1 => ?_))
  · rw [if_pos g]; exact wp_some ⟨rfl, h⟩
  rw [if_neg g1]
  refine wp_bindE (q_m_isEight a1) (wp_ite (fun g => ?_) (fun g2 => ?_))
  · rw [if_pos g]; exact wp_some ⟨rfl, h⟩
  rw [if_neg g2]
  refine wp_bindE (q_m_isEight a2) (wp_ite (fun g => ?_) (fun g3 => ?_))
  · rw [if_pos g]; exact wp_some ⟨rfl, h⟩
  rw [if_neg g3]
  have hn := h.1.1.2.2.2.2
  have h6 := hn.1
  have e0 : v_gaps = nI (kGn O.1) := hm.2.2.2.1
  have hg := hm.2.2.2.2
  subst e0
  refine wp_ite (fun g4 => ?_) (fun g4 => ?_)
  · have g5 : kGn O.1 = 6 := (nI_eqI (b := 6) (by omega) (by decide)).mp g4
    rw [if_neg (by omega)]; exact wp_some ⟨rfl, h⟩
  · have g5 : ¬ kGn O.1 = 6 := fun q => g4 ((nI_eqI (b := 6) (by omega) (by decide)).mpr q)
    rw [if_pos (by omega), cl (show kGn O.1 < 2 ^ 31 by omega), show nI (kGn O.1) + 1 = nI (kGn O.1 + 1) from (nI_succ _).symm]
    have hu := (CIg_up (K := O.1) ⟨rfl, hg⟩ a0 a1 a2).2
    exact wp_gd (inbN (by omega) (by decide)) (wp_gd (inbN (by omega) (by decide)) (wp_gd (inbN (by omega) (by decide)) (wp_some ⟨rfl, CK_G h.1 (by omega) (gOk_up hn.2 (wi_8 g2) (wi_8 g3)), ⟨hm.1, hm.2.1, hm.2.2.1, rfl, hu⟩, h.2.2⟩)))
theorem m_back {O : Om} {v_typed v_texts : Nat → Int32} {v_jumpTold v_frosts : Int32} {v_frostYear v_frostForce : Nat → Int32} {v_gaps : Int32} {v_gapYear v_gapColumn v_gapHand : Nat → Int32} {v_seens : Int32} {v_seenYear v_seenPlace v_seenHand : Nat → Int32} {v_finding : Int32} {v_isThere v_forms v_sizes v_items : Nat → Int32} {a0 : Int32} (h : MX O v_typed v_texts v_jumpTold v_frosts v_frostYear v_frostForce v_gaps v_gapYear v_gapColumn v_gapHand v_seens v_seenYear v_seenPlace v_seenHand v_finding v_isThere v_forms v_sizes v_items) : wp (f_m_back v_frosts v_gaps a0) (fun r => r.1 = (sp_back O a0).1 ∧ MX ((sp_back O a0).2) v_typed v_texts v_jumpTold r.2.1 v_frostYear v_frostForce r.2.2 v_gapYear v_gapColumn v_gapHand v_seens v_seenYear v_seenPlace v_seenHand v_finding v_isThere v_forms v_sizes v_items) := by
  have hm := h.2.1
  unfold f_m_back f_m_back_N27 f_m_back_N49
  refine wp_bindE (s_in a0 0 1) (wp_ite (fun g => ?_) (fun g1 => ?_))
  · rw [show sp_back O a0 = (-2, O) from if_pos g]; exact wp_some ⟨rfl, h⟩
  have hf := hm.2.2.1.2
  have hg := hm.2.2.2.2
  have e0 : v_frosts = nI (kFn O.1) := hm.2.2.1.1
  have e1 : v_gaps = nI (kGn O.1) := hm.2.2.2.1
  subst e0 e1
  have h6 := h.1.1.2.2.2.1.1
  have h7 := h.1.1.2.2.2.2.1
  rcases e_01 g1 with rfl | rfl
  · refine wp_pos rfl (wp_ite (fun g3 => ?_) (fun g3 => ?_))
    · have g4 : kFn O.1 = 0 := (nI_eqI (b := 0) (by omega) (by decide)).mp g3
      rw [show sp_back O (nI 0) = (-3, O) from by unfold sp_back; rw [if_neg g1, if_pos n00, if_pos g4]]; exact wp_some ⟨rfl, h⟩
    · have g4 : ¬ kFn O.1 = 0 := fun q => g3 ((nI_eqI (b := 0) (by omega) (by decide)).mpr q)
      rw [show sp_back O (nI 0) = _ from by unfold sp_back; rw [if_neg g1, if_pos n00, if_neg g4], show (1 : Int32) = nI 1 from rfl, nI_subI (by omega), show nI (kGn O.1) - 0 = nI (kGn O.1) from nI_subI (b := 0) (Nat.zero_le _)]
      refine wp_pos rfl (wp_neg (by decide) (wp_some ⟨rfl, CK_F h.1 (by omega) (fun k hk => h.1.1.2.2.2.1.2 k (by omega)), ⟨hm.1, hm.2.1, ⟨rfl, fun k hk => hf k (show k < kFn O.1 by have hk' : k < kFn O.1 - 1 := hk; omega)⟩, hm.2.2.2⟩, h.2.2⟩))
  · refine wp_neg n10 (wp_ite (fun g3 => ?_) (fun g3 => ?_))
    · have g4 : kGn O.1 = 0 := (nI_eqI (b := 0) (by omega) (by decide)).mp g3
      rw [show sp_back O (nI 1) = (-3, O) from by unfold sp_back; rw [if_neg g1, if_neg n10, if_pos g4]]; exact wp_some ⟨rfl, h⟩
    · have g4 : ¬ kGn O.1 = 0 := fun q => g3 ((nI_eqI (b := 0) (by omega) (by decide)).mpr q)
      rw [show sp_back O (nI 1) = _ from by unfold sp_back; rw [if_neg g1, if_neg n10, if_neg g4], show nI (kFn O.1) - 0 = nI (kFn O.1) from nI_subI (b := 0) (Nat.zero_le _)]
      refine wp_neg n10 (wp_pos rfl ?_)
      rw [show (1 : Int32) = nI 1 from rfl, nI_subI (by omega)]
      exact wp_some ⟨rfl, CK_G h.1 (by omega) (fun k hk => h.1.1.2.2.2.2.2 k (by omega)), ⟨hm.1, hm.2.1, hm.2.2.1, rfl, fun k hk => hg k (show k < kGn O.1 by have hk' : k < kGn O.1 - 1 := hk; omega)⟩, h.2.2⟩
theorem h8_8 {a3 : Int32} (h : ¬ wi a3 0 8 = 0) : a3 = h8 (if a3 = 8 then (-1 : Int32) else a3) := by
  obtain ⟨c, hc, rfl⟩ := wi_nat 8 (by decide) h
  unfold h8
  by_cases e : nI c = 8
  · rw [if_pos e, if_pos rfl, e]
  · rw [if_neg e, if_neg (nI_ne1 (by omega))]
theorem m_seen {O : Om} {v_typed v_texts : Nat → Int32} {v_jumpTold v_frosts : Int32} {v_frostYear v_frostForce : Nat → Int32} {v_gaps : Int32} {v_gapYear v_gapColumn v_gapHand : Nat → Int32} {v_seens : Int32} {v_seenYear v_seenPlace v_seenHand : Nat → Int32} {v_finding : Int32} {v_isThere v_forms v_sizes v_items : Nat → Int32} {a0 a1 a2 a3 : Int32} (h : MX O v_typed v_texts v_jumpTold v_frosts v_frostYear v_frostForce v_gaps v_gapYear v_gapColumn v_gapHand v_seens v_seenYear v_seenPlace v_seenHand v_finding v_isThere v_forms v_sizes v_items) : wp (f_m_seen v_seens v_seenYear v_seenPlace v_seenHand a0 a1 a2 a3) (fun r => r.1 = (sp_seen O a0 a1 a2 a3).1 ∧ MX ((sp_seen O a0 a1 a2 a3).2) v_typed v_texts v_jumpTold v_frosts v_frostYear v_frostForce v_gaps v_gapYear v_gapColumn v_gapHand r.2.1 r.2.2.1 r.2.2.2.1 r.2.2.2.2 v_finding v_isThere v_forms v_sizes v_items) := by
  unfold f_m_seen sp_seen
  refine wp_bindE (q_m_isYear a0) (wp_ite (fun g => ?_) (fun g1 => ?_))
  · rw [if_pos g]; exact wp_some ⟨rfl, h⟩
  rw [if_neg g1]
  refine wp_bindE (q_m_isPlace a1 a2) (wp_ite (fun g => ?_) (fun g2 => ?_))
  · rw [if_pos g]; exact wp_some ⟨rfl, h⟩
  rw [if_neg g2]
  refine wp_bindE (s_in a3 0 8) (wp_ite (fun g => ?_) (fun g3 => ?_))
  · rw [if_pos g]; exact wp_some ⟨rfl, h⟩
  rw [if_neg g3]
  have hv := h.2.2.1
  have hG := h.1.2.1
  have h8' := hG.1
  have e0 : v_seens = nI O.2.1.1 := hv.1
  subst e0
  refine wp_ite (fun g4 => ?_) (fun g4 => ?_)
  · have g5 : O.2.1.1 = 8 := (nI_eqI (b := 8) (by omega) (by decide)).mp g4
    rw [if_neg (by omega)]; exact wp_some ⟨rfl, h⟩
  · have g5 : ¬ O.2.1.1 = 8 := fun q => g4 ((nI_eqI (b := 8) (by omega) (by decide)).mpr q)
    rw [if_pos (by omega), cl (show O.2.1.1 < 2 ^ 31 by omega), show nI O.2.1.1 + 1 = nI (O.2.1.1 + 1) from (nI_succ _).symm]
    have hok : Gok (uG O.2.1 a0 (((8 : Int32) * a1) + a2) (if a3 = 8 then (-1 : Int32) else a3)) := by
      refine uG_ok hG (by omega) ?_ ?_ (seen_s g3)
      · obtain ⟨y, hy, e⟩ := wi_nat 19 (by decide) g1
        exact ⟨y, by omega, e⟩
      · obtain ⟨c, k, hc, hk, rfl, rfl⟩ := pl_nat g2
        exact ⟨8 * c + k, by omega, e8n c k⟩
    refine wp_gd (inbN (by omega) (by decide)) (wp_gd (inbN (by omega) (by decide)) (wp_gd (inbN (by omega) (by decide)) (wp_some ⟨rfl, ⟨h.1.1, hok, h.1.2.2⟩, h.2.1, ⟨rfl, fun k hk => ?_⟩, h.2.2.2⟩)))
    have hk' : k < O.2.1.1 + 1 := hk
    show upd v_seenYear O.2.1.1 a0 k = upd O.2.1.2.1 O.2.1.1 a0 k ∧ upd v_seenPlace O.2.1.1 (8 * a1 + a2) k = upd O.2.1.2.2.1 O.2.1.1 (8 * a1 + a2) k ∧ upd v_seenHand O.2.1.1 a3 k = h8 (upd O.2.1.2.2.2 O.2.1.1 (if a3 = 8 then (-1 : Int32) else a3) k)
    rw [upd_at, upd_at, upd_at, upd_at, upd_at, upd_at]
    by_cases e : k = O.2.1.1
    · rw [if_pos e, if_pos e, if_pos e, if_pos e, if_pos e, if_pos e]; exact ⟨rfl, rfl, h8_8 g3⟩
    · rw [if_neg e, if_neg e, if_neg e, if_neg e, if_neg e, if_neg e]; exact hv.2 k (by omega)
theorem m_forget {O : Om} {v_typed v_texts : Nat → Int32} {v_jumpTold v_frosts : Int32} {v_frostYear v_frostForce : Nat → Int32} {v_gaps : Int32} {v_gapYear v_gapColumn v_gapHand : Nat → Int32} {v_seens : Int32} {v_seenYear v_seenPlace v_seenHand : Nat → Int32} {v_finding : Int32} {v_isThere v_forms v_sizes v_items : Nat → Int32} (h : MX O v_typed v_texts v_jumpTold v_frosts v_frostYear v_frostForce v_gaps v_gapYear v_gapColumn v_gapHand v_seens v_seenYear v_seenPlace v_seenHand v_finding v_isThere v_forms v_sizes v_items) : wp (f_m_forget v_seens) (fun r => r.1 = (sp_forget O).1 ∧ MX ((sp_forget O).2) v_typed v_texts v_jumpTold v_frosts v_frostYear v_frostForce v_gaps v_gapYear v_gapColumn v_gapHand r.2 v_seenYear v_seenPlace v_seenHand v_finding v_isThere v_forms v_sizes v_items) := by
  unfold f_m_forget sp_forget
  exact wp_some ⟨h.2.2.1.1, ⟨h.1.1, Gok_0 h.1.2.1, h.1.2.2⟩, h.2.1, ⟨rfl, fun k hk => absurd hk (Nat.not_lt_zero k)⟩, h.2.2.2⟩
