/-! SHEETS: the reference -/
def MK (x : Int32 × Nat × (Nat → Int32)) (k : Nat) (th fo si it : Nat → Int32) : Prop := si k = nI x.2.1 ∧ (∀ i, i < 60 → it (60 * k + i) = x.2.2 i) ∧ ((x.1 = -1 ∧ th k = 0) ∨ (¬ x.1 = -1 ∧ th k = 1 ∧ fo k = x.1))
theorem MK_it {x : Int32 × Nat × (Nat → Int32)} {k : Nat} {th fo si it it' : Nat → Int32} (h : MK x k th fo si it) (e : ∀ i, i < 60 → it' (60 * k + i) = it (60 * k + i)) : MK x k th fo si it' := ⟨h.1, fun i hi => (e i hi).trans (h.2.1 i hi), h.2.2⟩
theorem MIs_up {H : Ht} {th fo si it : Nat → Int32} {s : Nat} (x : Int32 × Nat × (Nat → Int32)) (h : ∀ k, k < 4 → ¬ k = s → MK (H k) k th fo si it) (hn : MK x s th fo si it) : MIs (hUp H s x) th fo si it := by
  intro k hk
  unfold hUp
  by_cases e : k = s
  · rw [if_pos e, e]; exact hn
  · rw [if_neg e]; exact h k hk e
theorem e60 (s i : Nat) : ((60 : Int32) * nI s) + nI i = nI (60 * s + i) := by
  rw [show (60 : Int32) = nI 60 from rfl, nI_mulI, nI_addI]
theorem upd_ne2 {f : Nat → Int32} {i : Nat} {x : Int32} (k : Nat) (hk : ¬ k = i) : upd f i x k = f k := by
  rw [upd_at, if_neg hk]
theorem th_0 {H : Ht} {th fo si it : Nat → Int32} (h : MIs H th fo si it) {s : Nat} (hs : s < 4) : th s = 0 ↔ (H s).1 = -1 := by
  rcases (h s hs).2.2 with ⟨p, q⟩ | ⟨p, q, -⟩
  · exact ⟨fun _ => p, fun _ => q⟩
  · exact ⟨fun e => absurd (q.symm.trans e) (by decide), fun e => absurd e p⟩
theorem th_1 {H : Ht} {th fo si it : Nat → Int32} (h : MIs H th fo si it) {s : Nat} (hs : s < 4) (hp : ¬ (H s).1 = -1) : th s = 1 ∧ fo s = (H s).1 := by
  rcases (h s hs).2.2 with ⟨p, -⟩ | ⟨-, q⟩
  · exact absurd p hp
  · exact q
theorem MX_N {O : Om} {v_typed v_texts : Nat → Int32} {v_jumpTold v_frosts : Int32} {v_frostYear v_frostForce : Nat → Int32} {v_gaps : Int32} {v_gapYear v_gapColumn v_gapHand : Nat → Int32} {v_seens : Int32} {v_seenYear v_seenPlace v_seenHand : Nat → Int32} {v_finding : Int32} {v_isThere v_forms v_sizes v_items : Nat → Int32} (h : MX O v_typed v_texts v_jumpTold v_frosts v_frostYear v_frostForce v_gaps v_gapYear v_gapColumn v_gapHand v_seens v_seenYear v_seenPlace v_seenHand v_finding v_isThere v_forms v_sizes v_items) (f : Int32) : MX (oN O f) v_typed v_texts v_jumpTold v_frosts v_frostYear v_frostForce v_gaps v_gapYear v_gapColumn v_gapHand v_seens v_seenYear v_seenPlace v_seenHand f v_isThere v_forms v_sizes v_items := ⟨h.1, h.2.1, h.2.2.1, rfl, h.2.2.2.2⟩
theorem m_sheet {O : Om} {v_typed v_texts : Nat → Int32} {v_jumpTold v_frosts : Int32} {v_frostYear v_frostForce : Nat → Int32} {v_gaps : Int32} {v_gapYear v_gapColumn v_gapHand : Nat → Int32} {v_seens : Int32} {v_seenYear v_seenPlace v_seenHand : Nat → Int32} {v_finding : Int32} {v_isThere v_forms v_sizes v_items : Nat → Int32} {a0 a1 a2 : Int32} (h : MX O v_typed v_texts v_jumpTold v_frosts v_frostYear v_frostForce v_gaps v_gapYear v_gapColumn v_gapHand v_seens v_seenYear v_seenPlace v_seenHand v_finding v_isThere v_forms v_sizes v_items) : wp (f_m_sheet v_finding v_isThere v_forms v_sizes v_items a0 a1 a2) (fun r => r.1 = (sp_sheet O a0 a1 a2).1 ∧ MX ((sp_sheet O a0 a1 a2).2) v_typed v_texts v_jumpTold v_frosts v_frostYear v_frostForce v_gaps v_gapYear v_gapColumn v_gapHand v_seens v_seenYear v_seenPlace v_seenHand r.2.1 r.2.2.1 r.2.2.2.1 r.2.2.2.2.1 r.2.2.2.2.2) := by
  have hH := h.1.2.2
  have c := h.2.2.2.2
  unfold f_m_sheet sp_sheet
  refine wp_bindE (q_m_isSheet a0) (wp_ite (fun g => ?_) (fun g1 => ?_))
  · rw [if_pos g]; exact wp_some ⟨rfl, h⟩
  rw [if_neg g1]
  refine wp_bindE (s_in a1 0 2) (wp_ite (fun g => ?_) (fun g2 => ?_))
  · rw [if_pos g]; exact wp_some ⟨rfl, h⟩
  rw [if_neg g2]
  refine wp_ite (fun g3 => ?_) (fun g3 => ?_)
  · rw [if_pos g3]
    refine wp_ite (fun g4 => ?_) (fun g4 => ?_)
    · rw [if_pos g4]
      obtain ⟨n, hn, rfl⟩ := nI_ofX (m := 60) g4 g3 (by decide)
      obtain ⟨s, hs, rfl⟩ := wi_nat 3 (by decide) g1
      rw [cl (show n < 2 ^ 31 by omega), cl (show s < 2 ^ 31 by omega)]
      have hk : CK (oH O (hUp O.2.2.2 s (a1, n, fun _ => 0))) := ⟨h.1.1, h.1.2.1, Hok_up (x := (a1, n, fun _ => 0)) hH hn (Or.inr (fm_3 g2)) s⟩
      refine wp_gd (inbN (by omega) (by decide)) (wp_gd (inbN (by omega) (by decide)) (wp_gd (inbN (by omega) (by decide)) ?_))
      refine wl_m_sheet_N59 (fun m v_finding v_isThere v_forms v_sizes v_items x1 x3 x4 => v_finding = O.2.2.1 ∧ x1 = nI s ∧ x3 = nI n ∧ (∀ k, k < 4 → ¬ k = s → MK (O.2.2.2 k) k v_isThere v_forms v_sizes v_items) ∧ v_isThere s = 1 ∧ v_forms s = a1 ∧ v_sizes s = nI n ∧ ∃ i, i ≤ 60 ∧ x4 = nI i ∧ m = 60 - i ∧ ∀ j, j < i → v_items (60 * s + j) = 0) ?_ 1000 60 _ _ _ _ _ _ _ _ (by decide) ⟨h.2.2.2.1, rfl, rfl, fun k hk hne => ?_, upd_eq _ _ _, upd_eq _ _ _, upd_eq _ _ _, 0, by decide, rfl, rfl, fun j hj => absurd hj (Nat.not_lt_zero j)⟩
      rotate_left
      · have hc := c k hk
        refine ⟨?_, hc.2.1, ?_⟩
        · rw [upd_ne2 k hne]; exact hc.1
        · rw [upd_ne2 k hne, upd_ne2 k hne]; exact hc.2.2
      rintro m k59 ih v_finding v_isThere v_forms v_sizes v_items x1 x3 x4 ⟨hfi, rfl, rfl, p1, p2, p4, p6, i, hi, rfl, rfl, p8⟩
      unfold f_m_sheet_N59
      refine wp_ite (fun g5 => ?_) (fun g5 => ?_)
      · have g6 : 60 ≤ i := (nI_leX (a := 60) (by decide) (by omega)).mp g5
        exact wp_some ⟨rfl, hk, h.2.1, h.2.2.1, hfi, MIs_up (a1, n, fun _ => 0) p1 ⟨p6, fun j hj => p8 j (by omega), Or.inr ⟨by obtain ⟨t, ht, e⟩ := fm_3 g2; show ¬ a1 = -1; rw [e]; exact nI_ne1 (by omega), p2, p4⟩⟩⟩
      · have g6 : ¬ 60 ≤ i := fun q => g5 ((nI_leX (a := 60) (b := i) (by decide) (by omega)).mpr q)
        rw [e60, cl (show 60 * s + i < 2 ^ 31 by omega), show nI i + 1 = nI (i + 1) from (nI_succ i).symm]
        refine wp_gd (inbN (by omega) (by decide)) ?_
        refine ih (60 - (i + 1)) _ _ _ _ _ _ _ _ (by omega) ⟨hfi, rfl, rfl, fun k hk hne => MK_it (p1 k hk hne) (fun j hj => ?_), p2, p4, p6, i + 1, by omega, rfl, rfl, fun j hj => ?_⟩
        · rw [upd_at, if_neg (by omega)]
        · rw [upd_at]
          by_cases e : j = i
          · rw [if_pos (by omega)]
          · rw [if_neg (by omega)]; exact p8 j (by omega)
    · rw [if_neg g4]
      exact wp_bindE (show f_m_meets v_finding 5 = some (-15, 5) from rfl) (wp_some ⟨rfl, MX_N h 5⟩)
  · rw [if_neg g3]; exact wp_some ⟨rfl, h⟩
theorem m_lose {O : Om} {v_typed v_texts : Nat → Int32} {v_jumpTold v_frosts : Int32} {v_frostYear v_frostForce : Nat → Int32} {v_gaps : Int32} {v_gapYear v_gapColumn v_gapHand : Nat → Int32} {v_seens : Int32} {v_seenYear v_seenPlace v_seenHand : Nat → Int32} {v_finding : Int32} {v_isThere v_forms v_sizes v_items : Nat → Int32} {a0 : Int32} (h : MX O v_typed v_texts v_jumpTold v_frosts v_frostYear v_frostForce v_gaps v_gapYear v_gapColumn v_gapHand v_seens v_seenYear v_seenPlace v_seenHand v_finding v_isThere v_forms v_sizes v_items) : wp (f_m_lose v_finding v_isThere v_sizes a0) (fun r => r.1 = (sp_lose O a0).1 ∧ MX ((sp_lose O a0).2) v_typed v_texts v_jumpTold v_frosts v_frostYear v_frostForce v_gaps v_gapYear v_gapColumn v_gapHand v_seens v_seenYear v_seenPlace v_seenHand r.2.1 r.2.2 v_forms v_sizes v_items) := by
  have hH := h.1.2.2
  have c := h.2.2.2.2
  unfold f_m_lose sp_lose
  refine wp_bindE (q_m_isSheet a0) (wp_ite (fun g => ?_) (fun g1 => ?_))
  · rw [if_pos g]; exact wp_some ⟨rfl, h⟩
  rw [if_neg g1]
  obtain ⟨s, hs, rfl⟩ := wi_nat 3 (by decide) g1
  rw [cl (show s < 2 ^ 31 by omega)]
  have hk : CK (oH O (hUp O.2.2.2 s (-1, (O.2.2.2 s).2))) := ⟨h.1.1, h.1.2.1, Hok_up (x := (-1, (O.2.2.2 s).2)) hH (hH s (by omega)).1 (Or.inl rfl) s⟩
  obtain ⟨c1, c2, -⟩ := c s (by omega)
  refine wp_gd (inbN (by omega) (by decide)) (wp_ite (fun g => ?_) (fun g => ?_))
  · rw [if_pos ((th_0 c (by omega)).mp g)]
    exact wp_bindE (show f_m_meets v_finding 1 = some (-11, 1) from rfl) (wp_some ⟨rfl, MX_N h 1⟩)
  · rw [if_neg (fun q => g ((th_0 c (by omega)).mpr q))]
    exact wp_gd (inbN (by omega) (by decide)) (wp_gd (inbN (by omega) (by decide)) (wp_some ⟨c1, hk, h.2.1, h.2.2.1, h.2.2.2.1, MIs_up (-1, (O.2.2.2 s).2) (fun k hk hne => ⟨(c k hk).1, (c k hk).2.1, by dsimp only; rw [upd_ne2 k hne]; exact (c k hk).2.2⟩) ⟨c1, c2, Or.inl ⟨rfl, upd_eq v_isThere s 0⟩⟩⟩))
theorem s_lacks {H : Ht} {th fo si it : Nat → Int32} (c : MIs H th fo si it) {s : Nat} (hs : s < 4) (a1 a2 : Int32) : f_m_lacks th fo si (nI s) a1 a2 = some (fnd (H s) a1 a2) := by
  apply wp_get
  unfold f_m_lacks fnd
  rw [cl (show s < 2 ^ 31 by omega)]
  refine wp_gd (inbN (by omega) (by decide)) (wp_ite (fun g => ?_) (fun g => ?_))
  · rw [if_pos ((th_0 c hs).mp g)]; exact wp_some rfl
  have n1 : ¬ (H s).1 = -1 := fun q => g ((th_0 c hs).mpr q)
  rw [if_neg n1, (th_1 c hs n1).2, (c s hs).1]
  refine wp_gd (inbN (by omega) (by decide)) (wp_ite (fun g => ?_) (fun g => ?_))
  · rw [if_pos g]
    refine wp_gd (inbN (by omega) (by decide)) (wp_bindE (s_in _ _ _) (wp_ite (fun g => ?_) (fun g => ?_)))
    · rw [if_pos g]; exact wp_some rfl
    · rw [if_neg g]; exact wp_some rfl
  · rw [if_neg g]; exact wp_some rfl
theorem s_keep (fo it : Nat → Int32) {s i : Nat} (hs : s < 4) (hi : i < 60) (v : Int32) : f_m_keep fo it (nI s) (nI i) v = some (upd it (60 * s + i) (cst (fo s) v)) := by
  apply wp_get
  unfold f_m_keep cst
  rw [cl (show s < 2 ^ 31 by omega), e60, cl (show 60 * s + i < 2 ^ 31 by omega)]
  refine wp_gd (inbN (by omega) (by decide)) (wp_ite (fun g => ?_) (fun g => ?_))
  · rw [if_pos g]; exact wp_gd (inbN (by omega) (by decide)) (wp_some rfl)
  rw [if_neg g]
  refine wp_gd (inbN (by omega) (by decide)) (wp_ite (fun g => ?_) (fun g => ?_))
  · rw [if_pos g]; exact wp_gd (inbN (by omega) (by decide)) (wp_some rfl)
  · rw [if_neg g]; exact wp_gd (inbN (by omega) (by decide)) (wp_some rfl)
theorem fnd_le (x : Int32 × Nat × (Nat → Int32)) (a1 a2 : Int32) : fnd x a1 a2 ≤ 0 ↔ fnd x a1 a2 = 0 := by
  unfold fnd
  by_cases e1 : x.1 = -1
  · rw [if_pos e1]; decide
  rw [if_neg e1]
  by_cases e2 : x.1 = a1
  · rw [if_pos e2]
    by_cases e3 : wi a2 0 (nI x.2.1 - 1) = 0
    · rw [if_pos e3]; decide
    · rw [if_neg e3]; decide
  · rw [if_neg e2]; decide
theorem m_put {O : Om} {v_typed v_texts : Nat → Int32} {v_jumpTold v_frosts : Int32} {v_frostYear v_frostForce : Nat → Int32} {v_gaps : Int32} {v_gapYear v_gapColumn v_gapHand : Nat → Int32} {v_seens : Int32} {v_seenYear v_seenPlace v_seenHand : Nat → Int32} {v_finding : Int32} {v_isThere v_forms v_sizes v_items : Nat → Int32} {a0 a1 a2 a3 : Int32} (h : MX O v_typed v_texts v_jumpTold v_frosts v_frostYear v_frostForce v_gaps v_gapYear v_gapColumn v_gapHand v_seens v_seenYear v_seenPlace v_seenHand v_finding v_isThere v_forms v_sizes v_items) : wp (f_m_put v_finding v_isThere v_forms v_sizes v_items a0 a1 a2 a3) (fun r => r.1 = (sp_put O a0 a1 a2 a3).1 ∧ MX ((sp_put O a0 a1 a2 a3).2) v_typed v_texts v_jumpTold v_frosts v_frostYear v_frostForce v_gaps v_gapYear v_gapColumn v_gapHand v_seens v_seenYear v_seenPlace v_seenHand r.2.1 v_isThere v_forms v_sizes r.2.2) := by
  have hH := h.1.2.2
  have c := h.2.2.2.2
  unfold f_m_put sp_put
  refine wp_bindE (q_m_isSheet a0) (wp_ite (fun g => ?_) (fun g1 => ?_))
  · rw [if_pos g]; exact wp_some ⟨rfl, h⟩
  rw [if_neg g1]
  refine wp_bindE (s_in a1 0 2) (wp_ite (fun g => ?_) (fun g2 => ?_))
  · rw [if_pos g]; exact wp_some ⟨rfl, h⟩
  rw [if_neg g2]
  obtain ⟨s, hs, rfl⟩ := wi_nat 3 (by decide) g1
  rw [cl (show s < 2 ^ 31 by omega)]
  have hs4 : s < 4 := by omega
  have hz := (hH s hs4).1
  refine wp_bindE (s_lacks c hs4 a1 a2) (wp_ite (fun g => ?_) (fun g => ?_))
  · have g3 := (fnd_le _ _ _).mp g
    rw [if_pos g3]
    obtain ⟨e1, e2, i, hi, rfl⟩ := fnd_0 hz g3
    have f1 := th_1 c hs4 e2
    obtain ⟨c1, c2, -⟩ := c s hs4
    refine wp_bindE (s_keep _ _ hs4 (show i < 60 by omega) _) ?_
    rw [f1.2, e1, cl (show i < 2 ^ 31 by omega)]
    refine wp_some ⟨rfl, ⟨h.1.1, h.1.2.1, Hok_up (x := (a1, (O.2.2.2 s).2.1, upd (O.2.2.2 s).2.2 i (cst a1 a3))) hH hz (Or.inr (fm_3 g2)) s⟩, h.2.1, h.2.2.1, h.2.2.2.1, MIs_up (a1, (O.2.2.2 s).2.1, upd (O.2.2.2 s).2.2 i (cst a1 a3)) (fun k hk hne => MK_it (c k hk) (fun j hj => ?_)) ⟨c1, fun j hj => ?_, Or.inr ⟨by rw [← e1]; exact e2, f1.1, by rw [← e1]; exact f1.2⟩⟩⟩
    · show upd v_items (60 * s + i) (cst a1 a3) (60 * k + j) = _
      rw [upd_at, if_neg (by omega)]
    · show upd v_items (60 * s + i) (cst a1 a3) (60 * s + j) = upd (O.2.2.2 s).2.2 i (cst a1 a3) j
      rw [upd_at, upd_at]
      by_cases e : j = i
      · rw [if_pos e, if_pos (by omega)]
      · rw [if_neg e, if_neg (by omega)]; exact c2 j hj
  · have g3 : ¬ fnd (O.2.2.2 s) a1 a2 = 0 := fun q => g ((fnd_le _ _ _).mpr q)
    rw [if_neg g3]
    exact wp_bindE (show f_m_meets v_finding _ = some (_, _) from rfl) (wp_some ⟨rfl, MX_N h _⟩)
theorem m_get {O : Om} {v_typed v_texts : Nat → Int32} {v_jumpTold v_frosts : Int32} {v_frostYear v_frostForce : Nat → Int32} {v_gaps : Int32} {v_gapYear v_gapColumn v_gapHand : Nat → Int32} {v_seens : Int32} {v_seenYear v_seenPlace v_seenHand : Nat → Int32} {v_finding : Int32} {v_isThere v_forms v_sizes v_items : Nat → Int32} {a0 a1 a2 : Int32} (h : MX O v_typed v_texts v_jumpTold v_frosts v_frostYear v_frostForce v_gaps v_gapYear v_gapColumn v_gapHand v_seens v_seenYear v_seenPlace v_seenHand v_finding v_isThere v_forms v_sizes v_items) : wp (f_m_get v_finding v_isThere v_forms v_sizes v_items a0 a1 a2) (fun r => r.1 = (sp_get O a0 a1 a2).1 ∧ MX ((sp_get O a0 a1 a2).2) v_typed v_texts v_jumpTold v_frosts v_frostYear v_frostForce v_gaps v_gapYear v_gapColumn v_gapHand v_seens v_seenYear v_seenPlace v_seenHand r.2 v_isThere v_forms v_sizes v_items) := by
  have hH := h.1.2.2
  have c := h.2.2.2.2
  unfold f_m_get sp_get
  refine wp_bindE (q_m_isSheet a0) (wp_ite (fun g => ?_) (fun g1 => ?_))
  · rw [if_pos g]; exact wp_some ⟨rfl, h⟩
  rw [if_neg g1]
  refine wp_bindE (s_in a1 0 2) (wp_ite (fun g => ?_) (fun g2 => ?_))
  · rw [if_pos g]; exact wp_some ⟨rfl, h⟩
  rw [if_neg g2]
  obtain ⟨s, hs, rfl⟩ := wi_nat 3 (by decide) g1
  rw [cl (show s < 2 ^ 31 by omega)]
  have hs4 : s < 4 := by omega
  have hz := (hH s hs4).1
  refine wp_bindE (s_lacks c hs4 a1 a2) (wp_ite (fun g => ?_) (fun g => ?_))
  · have g3 := (fnd_le _ _ _).mp g
    rw [if_pos g3]
    obtain ⟨e1, e2, i, hi, rfl⟩ := fnd_0 hz g3
    rw [e60, cl (show 60 * s + i < 2 ^ 31 by omega), cl (show i < 2 ^ 31 by omega)]
    exact wp_gd (inbN (by omega) (by decide)) (wp_some ⟨(c s hs4).2.1 i (by omega), h⟩)
  · have g3 : ¬ fnd (O.2.2.2 s) a1 a2 = 0 := fun q => g ((fnd_le _ _ _).mpr q)
    rw [if_neg g3]
    exact wp_some ⟨rfl, MX_N h _⟩
theorem hasV_0 {z : Nat} (hz : z ≤ 60) {i n : Int32} : hasV (nI z) i n = 0 ↔ ¬ (0 ≤ i.toInt ∧ 0 ≤ n.toInt ∧ i.toInt + n.toInt ≤ z) := by
  have e0 : (0 : Int32).toInt = 0 := by decide
  unfold hasV
  by_cases e : wi i 0 (nI z) = 0
  · rw [if_pos e]
    rw [wi_iff, e0, nI_toInt (by omega)] at e
    exact ⟨fun _ => by omega, fun _ => rfl⟩
  · rw [if_neg e]
    have e1 := e
    rw [wi_iff, e0, nI_toInt (by omega)] at e1
    have h0 : 0 ≤ i.toInt ∧ i.toInt ≤ z := Decidable.not_not.mp e1
    have hs : (nI z - i).toInt = z - i.toInt := by
      rw [toI_sub (by rw [nI_toInt (by omega)]; omega) (by rw [nI_toInt (by omega)]; omega) (by omega) (by omega), nI_toInt (by omega)]
    by_cases e2 : wi n 0 (nI z - i) = 0
    · rw [if_pos e2]
      rw [wi_iff, e0, hs] at e2
      exact ⟨fun _ => by omega, fun _ => rfl⟩
    · rw [if_neg e2]
      rw [wi_iff, e0, hs] at e2
      exact ⟨fun q => absurd q (by decide), fun q => absurd (Decidable.not_not.mp e2) (by omega)⟩
theorem cmp_gt {a b : Int32} {z : Nat} (hz : z ≤ 60) : 0 < lg_cmp (a.toInt64 + b.toInt64) ((nI z).toInt64) ↔ (z : Int) < a.toInt + b.toInt := by
  rw [lg_cmp_gt, Int64.lt_iff_toInt_lt, lg_i2l_add, Int32.toInt_toInt64, nI_toInt (by omega)]
theorem cmp_le {a b : Int32} {z : Nat} (hz : z ≤ 60) : lg_cmp (a.toInt64 + b.toInt64) ((nI z).toInt64) ≤ 0 ↔ a.toInt + b.toInt ≤ (z : Int) := by
  rw [lg_cmp_le, Int64.le_iff_toInt_le, lg_i2l_add, Int32.toInt_toInt64, nI_toInt (by omega)]
theorem lt0 {a : Int32} : a < 0 ↔ a.toInt < 0 := by
  rw [Int32.lt_iff_toInt_lt]
  rfl
theorem m_copy {O : Om} {v_typed v_texts : Nat → Int32} {v_jumpTold v_frosts : Int32} {v_frostYear v_frostForce : Nat → Int32} {v_gaps : Int32} {v_gapYear v_gapColumn v_gapHand : Nat → Int32} {v_seens : Int32} {v_seenYear v_seenPlace v_seenHand : Nat → Int32} {v_finding : Int32} {v_isThere v_forms v_sizes v_items : Nat → Int32} {v_moved : Nat → Int32} {a0 a1 a2 a3 a4 : Int32} (h : MX O v_typed v_texts v_jumpTold v_frosts v_frostYear v_frostForce v_gaps v_gapYear v_gapColumn v_gapHand v_seens v_seenYear v_seenPlace v_seenHand v_finding v_isThere v_forms v_sizes v_items) : wp (f_m_copy v_finding v_isThere v_forms v_sizes v_items v_moved a0 a1 a2 a3 a4) (fun r => r.1 = (sp_copy O a0 a1 a2 a3 a4).1 ∧ MX ((sp_copy O a0 a1 a2 a3 a4).2) v_typed v_texts v_jumpTold v_frosts v_frostYear v_frostForce v_gaps v_gapYear v_gapColumn v_gapHand v_seens v_seenYear v_seenPlace v_seenHand r.2.1 v_isThere v_forms v_sizes r.2.2.1) := by
  have hH := h.1.2.2
  have c := h.2.2.2.2
  unfold f_m_copy f_m_copy_N35 f_m_copy_N111 sp_copy
  refine wp_bindE (q_m_isSheet a0) (wp_ite (fun g => ?_) (fun g1 => ?_))
  · rw [if_pos g]; exact wp_some ⟨rfl, h⟩
  rw [if_neg g1]
  refine wp_bindE (q_m_isSheet a2) (wp_ite (fun g => ?_) (fun g2 => ?_))
  · rw [if_pos g]; exact wp_some ⟨rfl, h⟩
  rw [if_neg g2]
  obtain ⟨s, hs, rfl⟩ := wi_nat 3 (by decide) g1
  obtain ⟨t, ht, rfl⟩ := wi_nat 3 (by decide) g2
  rw [cl (show s < 2 ^ 31 by omega), cl (show t < 2 ^ 31 by omega)]
  have hs4 : s < 4 := by omega
  have ht4 : t < 4 := by omega
  have hzs := (hH s hs4).1
  have hzt := (hH t ht4).1
  obtain ⟨c1, c2, -⟩ := c s hs4
  obtain ⟨d1, d2, -⟩ := c t ht4
  have NU : ∀ (o : Prop), wp ((f_m_meets v_finding (1 : Int32)).bind (fun o37 => some (o37.1, o37.2, v_items, v_moved))) (fun r => r.1 = ((-11, oN O 1) : Int32 × Om).1 ∧ MX (((-11, oN O 1) : Int32 × Om).2) v_typed v_texts v_jumpTold v_frosts v_frostYear v_frostForce v_gaps v_gapYear v_gapColumn v_gapHand v_seens v_seenYear v_seenPlace v_seenHand r.2.1 v_isThere v_forms v_sizes r.2.2.1) := fun _ => wp_bindE (show f_m_meets v_finding 1 = some (-11, 1) from rfl) (wp_some ⟨rfl, MX_N h 1⟩)
  refine wp_gd (inbN (by omega) (by decide)) (wp_ite (fun g => ?_) (fun g => ?_))
  · rw [show cpS O s t a1 a3 a4 = (-11, oN O 1) from if_pos ((th_0 c hs4).mp g)]; exact NU True
  have n1 : ¬ (O.2.2.2 s).1 = -1 := fun q => g ((th_0 c hs4).mpr q)
  refine wp_gd (inbN (by omega) (by decide)) (wp_ite (fun g => ?_) (fun g => ?_))
  · rw [show cpS O s t a1 a3 a4 = (-11, oN O 1) from by unfold cpS; rw [if_neg n1, if_pos ((th_0 c ht4).mp g)]]; exact NU True
  have n2 : ¬ (O.2.2.2 t).1 = -1 := fun q => g ((th_0 c ht4).mpr q)
  have f1 := th_1 c hs4 n1
  have f2 := th_1 c ht4 n2
  refine wp_gd (inbN (by omega) (by decide)) (wp_gd (inbN (by omega) (by decide)) (wp_ite (fun g => ?_) (fun g => ?_)))
  rotate_left
  · have n3 : ¬ (O.2.2.2 s).1 = (O.2.2.2 t).1 := fun q => g ((f1.2.trans q).trans f2.2.symm)
    rw [show cpS O s t a1 a3 a4 = (-14, oN O 4) from by unfold cpS; rw [if_neg n1, if_neg n2, if_neg n3]]
    exact wp_bindE (show f_m_meets v_finding 4 = some (-14, 4) from rfl) (wp_some ⟨rfl, MX_N h 4⟩)
  have n3 : (O.2.2.2 s).1 = (O.2.2.2 t).1 := (f1.2.symm.trans g).trans f2.2
  have IX : ¬ ((0 ≤ a1.toInt ∧ 0 ≤ a4.toInt ∧ a1.toInt + a4.toInt ≤ (O.2.2.2 s).2.1) ∧ (0 ≤ a3.toInt ∧ 0 ≤ a4.toInt ∧ a3.toInt + a4.toInt ≤ (O.2.2.2 t).2.1)) → wp ((f_m_meets v_finding (2 : Int32)).bind (fun o113 => some (o113.1, o113.2, v_items, v_moved))) (fun r => r.1 = (cpS O s t a1 a3 a4).1 ∧ MX ((cpS O s t a1 a3 a4).2) v_typed v_texts v_jumpTold v_frosts v_frostYear v_frostForce v_gaps v_gapYear v_gapColumn v_gapHand v_seens v_seenYear v_seenPlace v_seenHand r.2.1 v_isThere v_forms v_sizes r.2.2.1) := by
    intro hno
    have hsp : cpS O s t a1 a3 a4 = (-12, oN O 2) := by
      unfold cpS
      rw [if_neg n1, if_neg n2, if_pos n3]
      by_cases e : hasV (nI (O.2.2.2 s).2.1) a1 a4 = 0
      · rw [if_pos e]
      · rw [if_neg e]
        have e2 := Decidable.not_not.mp (fun q => e ((hasV_0 hzs).mpr q))
        rw [if_pos ((hasV_0 hzt).mpr (fun q => hno ⟨e2, q⟩))]
    rw [hsp]
    exact wp_bindE (show f_m_meets v_finding 2 = some (-12, 2) from rfl) (wp_some ⟨rfl, MX_N h 2⟩)
  refine wp_ite (fun q => IX (fun w => absurd (lt0.mp q) (by omega))) (fun q1 => ?_)
  refine wp_ite (fun q => IX (fun w => absurd (lt0.mp q) (by omega))) (fun q2 => ?_)
  refine wp_ite (fun q => IX (fun w => absurd (lt0.mp q) (by omega))) (fun q3 => ?_)
  rw [c1, d1]
  refine wp_gd (inbN (by omega) (by decide)) (wp_ite (fun q => IX (fun w => absurd ((cmp_gt hzs).mp q) (by omega))) (fun q4 => ?_))
  refine wp_gd (inbN (by omega) (by decide)) (wp_ite (fun q5 => ?_) (fun q => IX (fun w => q ((cmp_le hzt).mpr w.2.2.2))))
  have p1 : ¬ a1.toInt < 0 := fun q => q1 (lt0.mpr q)
  have p2 : ¬ a3.toInt < 0 := fun q => q2 (lt0.mpr q)
  have p3 : ¬ a4.toInt < 0 := fun q => q3 (lt0.mpr q)
  have p4 : ¬ (((O.2.2.2 s).2.1 : Int) < a1.toInt + a4.toInt) := fun q => q4 ((cmp_gt hzs).mpr q)
  have p5 := (cmp_le hzt).mp q5
  have v1 : ¬ hasV (nI (O.2.2.2 s).2.1) a1 a4 = 0 := fun q => (hasV_0 hzs).mp q ⟨by omega, by omega, by omega⟩
  have v2 : ¬ hasV (nI (O.2.2.2 t).2.1) a3 a4 = 0 := fun q => (hasV_0 hzt).mp q ⟨by omega, by omega, by omega⟩
  rw [show cpS O s t a1 a3 a4 = (1, oH O (cpH O.2.2.2 s t a1.toNatClampNeg a3.toNatClampNeg a4.toNatClampNeg)) from by unfold cpS; rw [if_neg n1, if_neg n2, if_pos n3, if_neg v1, if_neg v2]]
  clear IX NU q1 q2 q3 q4 q5 p1 p2 p3 p4 p5
  obtain ⟨i, n, rfl, rfl, hin⟩ := hasV_ok hzs v1
  obtain ⟨j, n', rfl, en, hjn⟩ := hasV_ok hzt v2
  have e := (nI_eqI (by omega) (by omega)).mp en
  subst e
  clear en v1 v2
  rw [cl (show i < 2 ^ 31 by omega), cl (show j < 2 ^ 31 by omega), cl (show n < 2 ^ 31 by omega)]
  refine wl_m_copy_N120 (fun m v_finding v_items v_moved x1 x2 x3 x4 x5 x6 => v_finding = O.2.2.1 ∧ (∀ k, k < 4 → MK (O.2.2.2 k) k v_isThere v_forms v_sizes v_items) ∧ x1 = nI s ∧ x2 = nI i ∧ x3 = nI t ∧ x4 = nI j ∧ x5 = nI n ∧ ∃ k, k ≤ n ∧ x6 = nI k ∧ m = n - k ∧ ∀ q, q < k → v_moved q = (O.2.2.2 s).2.2 (i + q)) ?_ 1000 n _ _ _ _ _ _ _ _ _ (by omega) ⟨h.2.2.2.1, c, rfl, rfl, rfl, rfl, rfl, 0, by omega, rfl, by omega, fun q hq => absurd hq (Nat.not_lt_zero q)⟩
  rintro m k120 ih v_finding v_items v_moved x1 x2 x3 x4 x5 x6 ⟨hfi, cc, rfl, rfl, rfl, rfl, rfl, k, hk, rfl, rfl, hmv⟩
  unfold f_m_copy_N120
  refine wp_ite (fun g3 => ?_) (fun g3 => ?_)
  · have g4 : n ≤ k := (nI_leX (by omega) (by omega)).mp g3
    have ek : k = n := by omega
    rw [ek] at hmv
    clear ih g3 g4
    refine wl_m_copy_N157 (fun m v_finding v_items v_moved x3 x4 x5 x6 => v_finding = O.2.2.1 ∧ x3 = nI t ∧ x4 = nI j ∧ x5 = nI n ∧ (∀ q, q < n → v_moved q = (O.2.2.2 s).2.2 (i + q)) ∧ ∃ k, k ≤ n ∧ x6 = nI k ∧ m = n - k ∧ (∀ u, u < 4 → ¬ u = t → MK (O.2.2.2 u) u v_isThere v_forms v_sizes v_items) ∧ ∀ q, q < 60 → v_items (60 * t + q) = if j ≤ q ∧ q < j + k then (O.2.2.2 s).2.2 (i + (q - j)) else (O.2.2.2 t).2.2 q) ?_ 1000 n _ _ _ _ _ _ _ (by omega) ⟨hfi, rfl, rfl, rfl, hmv, 0, by omega, rfl, by omega, fun u hu _ => cc u hu, fun q hq => by rw [if_neg (by omega)]; exact (cc t ht4).2.1 q hq⟩
    clear hmv hk ek
    rintro m k157 ih v_finding v_items v_moved x3 x4 x5 x6 ⟨hfi, rfl, rfl, rfl, hmv, k, hk, rfl, rfl, w1, w2⟩
    unfold f_m_copy_N157
    refine wp_ite (fun g3 => ?_) (fun g3 => ?_)
    · have g4 : n ≤ k := (nI_leX (by omega) (by omega)).mp g3
      have ek : k = n := by omega
      rw [ek] at w2
      refine wp_some ⟨rfl, ⟨h.1.1, h.1.2.1, Hok_up (x := ((O.2.2.2 t).1, (O.2.2.2 t).2.1, va_cpy (O.2.2.2 s).2.2 (O.2.2.2 t).2.2 i j n)) hH hzt (hH t ht4).2 t⟩, h.2.1, h.2.2.1, hfi, MIs_up ((O.2.2.2 t).1, (O.2.2.2 t).2.1, va_cpy (O.2.2.2 s).2.2 (O.2.2.2 t).2.2 i j n) w1 ⟨d1, fun q hq => ?_, Or.inr ⟨n2, f2⟩⟩⟩
      dsimp only
      rw [cpy_at]
      exact w2 q hq
    · have g4 : k < n := Nat.lt_of_not_le (fun q => g3 ((nI_leX (by omega) (by omega)).mpr q))
      rw [show (((60 : Int32) * nI t) + nI j) + nI k = nI (60 * t + j + k) from by rw [e60, nI_addI], cl (show 60 * t + j + k < 2 ^ 31 by omega), cl (show k < 2 ^ 31 by omega), show nI k + 1 = nI (k + 1) from (nI_succ k).symm]
      refine wp_gd (inbN (by omega) (by decide)) (wp_gd (inbN (by omega) (by decide)) ?_)
      refine ih (n - (k + 1)) _ _ _ _ _ _ _ (by omega) ⟨hfi, rfl, rfl, rfl, hmv, k + 1, by omega, rfl, rfl, fun u hu hne => MK_it (w1 u hu hne) (fun q hq => ?_), fun q hq => ?_⟩
      · rw [upd_at, if_neg (by omega)]
      · rw [upd_at]
        by_cases e : q = j + k
        · rw [if_pos (by omega), if_pos (by omega), hmv k g4]
          exact congrArg _ (by omega)
        · rw [if_neg (by omega), w2 q hq]
          by_cases e2 : j ≤ q ∧ q < j + k
          · rw [if_pos e2, if_pos (by omega)]
          · rw [if_neg e2, if_neg (by omega)]
  · have g4 : k < n := Nat.lt_of_not_le (fun q => g3 ((nI_leX (by omega) (by omega)).mpr q))
    rw [show (((60 : Int32) * nI s) + nI i) + nI k = nI (60 * s + (i + k)) from by rw [e60, nI_addI, Nat.add_assoc], cl (show 60 * s + (i + k) < 2 ^ 31 by omega), cl (show k < 2 ^ 31 by omega), show nI k + 1 = nI (k + 1) from (nI_succ k).symm, (cc s hs4).2.1 (i + k) (by omega)]
    refine wp_gd (inbN (by omega) (by decide)) (wp_gd (inbN (by omega) (by decide)) ?_)
    refine ih (n - (k + 1)) _ _ _ _ _ _ _ _ _ (by omega) ⟨hfi, cc, rfl, rfl, rfl, rfl, rfl, k + 1, by omega, rfl, rfl, fun q hq => ?_⟩
    rw [upd_at]
    by_cases e : q = k
    · rw [if_pos e, e]
    · rw [if_neg e]; exact hmv q (by omega)
theorem m_read {O : Om} {v_typed v_texts : Nat → Int32} {v_jumpTold v_frosts : Int32} {v_frostYear v_frostForce : Nat → Int32} {v_gaps : Int32} {v_gapYear v_gapColumn v_gapHand : Nat → Int32} {v_seens : Int32} {v_seenYear v_seenPlace v_seenHand : Nat → Int32} {v_finding : Int32} {v_isThere v_forms v_sizes v_items : Nat → Int32} {a0 : Int32} (h : MX O v_typed v_texts v_jumpTold v_frosts v_frostYear v_frostForce v_gaps v_gapYear v_gapColumn v_gapHand v_seens v_seenYear v_seenPlace v_seenHand v_finding v_isThere v_forms v_sizes v_items) : wp (f_m_read v_frosts v_finding v_frostYear v_frostForce v_isThere v_sizes v_items a0) (fun r => r.1 = (sp_read O a0).1 ∧ MX ((sp_read O a0).2) v_typed v_texts v_jumpTold r.2.1 r.2.2.2.1 r.2.2.2.2 v_gaps v_gapYear v_gapColumn v_gapHand v_seens v_seenYear v_seenPlace v_seenHand r.2.2.1 v_isThere v_forms v_sizes v_items) := by
  have hH := h.1.2.2
  have c := h.2.2.2.2
  have hm := h.2.1
  unfold f_m_read sp_read
  refine wp_bindE (q_m_isSheet a0) (wp_ite (fun g => ?_) (fun g1 => ?_))
  · rw [if_pos g]; exact wp_some ⟨rfl, h⟩
  rw [if_neg g1]
  obtain ⟨s, hs, rfl⟩ := wi_nat 3 (by decide) g1
  rw [cl (show s < 2 ^ 31 by omega)]
  have hs4 : s < 4 := by omega
  have hz := (hH s hs4).1
  obtain ⟨c1, c2, -⟩ := c s hs4
  refine wp_gd (inbN (by omega) (by decide)) (wp_ite (fun g => ?_) (fun g => ?_))
  · rw [if_pos ((th_0 c hs4).mp g)]
    exact wp_bindE (show f_m_meets v_finding 1 = some (-11, 1) from rfl) (wp_some ⟨rfl, MX_N h 1⟩)
  rw [if_neg (fun q => g ((th_0 c hs4).mpr q))]
  refine wl_m_read_N27 (fun m v_frosts v_finding v_frostYear v_frostForce x1 x2 => v_finding = O.2.2.1 ∧ x1 = nI s ∧ ∃ n fy ff, n + m = 7 ∧ x2 = nI n ∧ CK (oK O (tF O.1 (kFn O.1 + n) fy ff)) ∧ (v_frosts = nI (kFn O.1 + n) ∧ ∀ k, k < kFn O.1 + n → v_frostYear k = fy k ∧ v_frostForce k = ff k) ∧ rdS (O.2.2.2 s).2.1 (O.2.2.2 s).2.2 m n (tF O.1 (kFn O.1 + n) fy ff) = rdO O s) ?_ 1000 7 _ _ _ _ _ _ (by decide) ⟨h.2.2.2.1, rfl, 0, kFy O.1, kFf O.1, rfl, rfl, h.1, hm.2.2.1, rfl⟩
  rintro m k27 ih v_frosts v_finding v_frostYear v_frostForce x1 x2 ⟨hfi, rfl, n, fy, ff, hnm, rfl, hck, hf, hrd⟩
  have hl : kFn O.1 + n ≤ 6 := hck.1.2.2.2.1.1
  cases m with
  | zero => omega
  | succ m =>
  have fin : ∀ (vf : Int32) (vy vo : Nat → Int32), (vf = nI (kFn O.1 + n) ∧ ∀ k, k < kFn O.1 + n → vy k = fy k ∧ vo k = ff k) → rdO O s = (n, tF O.1 (kFn O.1 + n) fy ff) → wp (some (nI n, vf, v_finding, vy, vo)) (fun r => r.1 = (nI (rdO O s).1, oK O (rdO O s).2).1 ∧ MX ((nI (rdO O s).1, oK O (rdO O s).2).2) v_typed v_texts v_jumpTold r.2.1 r.2.2.2.1 r.2.2.2.2 v_gaps v_gapYear v_gapColumn v_gapHand v_seens v_seenYear v_seenPlace v_seenHand r.2.2.1 v_isThere v_forms v_sizes v_items) := by
    intro vf vy vo hv e
    rw [e]
    exact wp_some ⟨rfl, hck, ⟨hm.1, hm.2.1, hv, hm.2.2.2⟩, h.2.2.1, hfi, c⟩
  rw [rdS_s] at hrd
  unfold f_m_read_N27
  have e2 : (2 : Int32) * nI n = nI (2 * n) := nI_mulI 2 n
  rw [cl (show s < 2 ^ 31 by omega), c1, e2, show nI (2 * n) + 1 = nI (2 * n + 1) from (nI_succ _).symm, e60, show nI (60 * s + 2 * n) + 1 = nI (60 * s + (2 * n + 1)) from (nI_succ _).symm]
  refine wp_gd (inbN (by omega) (by decide)) (wp_ite (fun g3 => ?_) (fun g3 => ?_))
  · rw [if_pos ((nI_leX (by omega) (by omega)).mp g3)] at hrd
    exact fin _ _ _ hf hrd.symm
  have g4 : ¬ (O.2.2.2 s).2.1 ≤ 2 * n + 1 := fun q => g3 ((nI_leX (by omega) (by omega)).mpr q)
  rw [if_neg g4] at hrd
  rw [cl (show 60 * s + 2 * n < 2 ^ 31 by omega), cl (show 60 * s + (2 * n + 1) < 2 ^ 31 by omega), c2 (2 * n) (by omega), c2 (2 * n + 1) (by omega)]
  refine wp_gd (inbN (by omega) (by decide)) (wp_gd (inbN (by omega) (by decide)) ?_)
  refine wp_bind (s_mfrost (K := tF O.1 (kFn O.1 + n) fy ff) hl hf _ _) (fun o ho => ?_)
  by_cases e : ¬ mfr ((O.2.2.2 s).2.2 (2 * n)) ((O.2.2.2 s).2.2 (2 * n + 1)) = 0 ∧ kFn (tF O.1 (kFn O.1 + n) fy ff) < 6
  · obtain ⟨r1, r2, r3⟩ := ho.1 e
    rw [if_pos e.2, if_neg e.1] at hrd
    have hl2 : kFn O.1 + n < 6 := e.2
    rw [r1]
    refine wp_neg (fun q => ?_) ?_
    · have q1 : kFn O.1 + n + 1 ≤ 0 := (nI_leX (b := 0) (by omega) (by decide)).mp q
      omega
    rw [show nI n + 1 = nI (n + 1) from (nI_succ _).symm]
    exact ih m _ _ _ _ _ _ (by omega) ⟨hfi, rfl, n + 1, _, _, by omega, rfl, CK_F h.1 (by omega) (ff_up hck.1.2.2.2.1.2 (ff_ok (mfr_ok e.1).2)), ⟨r2, r3⟩, hrd⟩
  · obtain ⟨r1, r2⟩ := ho.2 e
    have hle : o.1 ≤ 0 := by
      rw [r1]
      by_cases q : mfr ((O.2.2.2 s).2.2 (2 * n)) ((O.2.2.2 s).2.2 (2 * n + 1)) = 0
      · rw [if_pos q]; decide
      · rw [if_neg q]; decide
    refine wp_pos hle ?_
    have hrd2 : rdO O s = (n, tF O.1 (kFn O.1 + n) fy ff) := by
      rw [← hrd]
      by_cases q : kFn (tF O.1 (kFn O.1 + n) fy ff) < 6
      · rw [if_pos q]
        by_cases q2 : mfr ((O.2.2.2 s).2.2 (2 * n)) ((O.2.2.2 s).2.2 (2 * n + 1)) = 0
        · rw [if_pos q2]
        · exact absurd ⟨q2, q⟩ e
      · rw [if_neg q]
    rw [r2]
    exact fin _ _ _ hf hrd2
theorem cst_s (f : Int32) {v : Nat} (hv : v ≤ 40) : cst f (nI v) = nI v := by
  have e := nI_toInt (n := v) (by omega)
  unfold cst
  by_cases e1 : f = 0
  · rw [if_pos e1]; exact lg_i2b_small (by rw [e]; omega) (by rw [e]; omega)
  rw [if_neg e1]
  by_cases e2 : f = 1
  · rw [if_pos e2]; exact lg_i2s_small (by rw [e]; omega) (by rw [e]; omega)
  · rw [if_neg e2]
theorem m_write {O : Om} {v_courses : Int32} {v_wide : Int32} {v_hands : Int32} {v_jumpTold : Int32} {v_frosts : Int32} {v_gaps : Int32} {v_frostsNow : Int32} {v_notFrosts : Int32} {v_gapsNow : Int32} {v_fell : Int32} {v_fellAll : Int32} {v_sheepFirst : Int32} {v_sheepMany : Int32} {v_finding : Int32} {v_typed : Nat → Int32} {v_texts : Nat → Int32} {v_told : Nat → Int32} {v_moods : Nat → Int32} {v_strongs : Nat → Int32} {v_frostYear : Nat → Int32} {v_frostForce : Nat → Int32} {v_gapYear : Nat → Int32} {v_gapColumn : Nat → Int32} {v_gapHand : Nat → Int32} {v_wall : Nat → Int32} {v_yearNow : Nat → Int32} {v_forceNow : Nat → Int32} {v_holdNow : Nat → Int32} {v_fellOf : Nat → Int32} {v_handAt : Nat → Int32} {v_holdAt : Nat → Int32} {v_fallsAt : Nat → Int32} {v_standAt : Nat → Int32} {v_highAt : Nat → Int32} {v_throughAt : Nat → Int32} {v_isThere : Nat → Int32} {v_forms : Nat → Int32} {v_sizes : Nat → Int32} {v_items : Nat → Int32} {a0 : Int32} {a1 : Int32} {v_seens : Int32} {v_seenYear v_seenPlace v_seenHand : Nat → Int32} (h : MX O v_typed v_texts v_jumpTold v_frosts v_frostYear v_frostForce v_gaps v_gapYear v_gapColumn v_gapHand v_seens v_seenYear v_seenPlace v_seenHand v_finding v_isThere v_forms v_sizes v_items) : wp (f_m_write v_courses v_wide v_hands v_jumpTold v_frosts v_gaps v_frostsNow v_notFrosts v_gapsNow v_fell v_fellAll v_sheepFirst v_sheepMany v_finding v_typed v_texts v_told v_moods v_strongs v_frostYear v_frostForce v_gapYear v_gapColumn v_gapHand v_wall v_yearNow v_forceNow v_holdNow v_fellOf v_handAt v_holdAt v_fallsAt v_standAt v_highAt v_throughAt v_isThere v_forms v_sizes v_items a0 a1) (fun r => r.1 = (sp_write O a0 a1).1 ∧ MX ((sp_write O a0 a1).2) v_typed v_texts v_jumpTold v_frosts v_frostYear v_frostForce v_gaps v_gapYear v_gapColumn v_gapHand v_seens v_seenYear v_seenPlace v_seenHand r.2.2.2.2.2.2.2.2.2.2.2.1 v_isThere v_forms v_sizes r.2.2.2.2.2.2.2.2.2.2.2.2.2.2.2.2.2.2.2.2.2.2.2.2.2.2) := by
  have hH := h.1.2.2
  have c := h.2.2.2.2
  have hm := h.2.1
  have hK := h.1.1
  have hS := (SK_ok hK).1
  have hW := hS.2.2.2.2.2.2.2.1
  unfold f_m_write sp_write
  refine wp_bindE (q_m_isYear a0) (wp_ite (fun g => ?_) (fun g1 => ?_))
  · rw [if_pos g]; exact wp_some ⟨rfl, h⟩
  rw [if_neg g1]
  refine wp_bindE (q_m_isSheet a1) (wp_ite (fun g => ?_) (fun g2 => ?_))
  · rw [if_pos g]; exact wp_some ⟨rfl, h⟩
  rw [if_neg g2]
  obtain ⟨y, hy, rfl⟩ := wi_nat 19 (by decide) g1
  obtain ⟨s, hs, rfl⟩ := wi_nat 3 (by decide) g2
  rw [cl (show y < 2 ^ 31 by omega), cl (show s < 2 ^ 31 by omega)]
  have hs4 : s < 4 := by omega
  have hz := (hH s hs4).1
  obtain ⟨c1, c2, -⟩ := c s hs4
  have hnl : wrN O s ≤ (O.2.2.2 s).2.1 ∧ wrN O s ≤ SW (SK O.1) ∧ ((O.2.2.2 s).2.1 ≤ wrN O s ∨ SW (SK O.1) ≤ wrN O s) := by
    unfold wrN
    by_cases e : SW (SK O.1) < (O.2.2.2 s).2.1
    · rw [if_pos e]; omega
    · rw [if_neg e]; omega
  refine wp_gd (inbN (by omega) (by decide)) (wp_ite (fun g => ?_) (fun g => ?_))
  · rw [if_pos ((th_0 c hs4).mp g)]
    exact wp_bindE (show f_m_meets v_finding 1 = some (-11, 1) from rfl) (wp_some ⟨rfl, MX_N h 1⟩)
  have n1 : ¬ (O.2.2.2 s).1 = -1 := fun q => g ((th_0 c hs4).mpr q)
  have f1 := th_1 c hs4 n1
  rw [if_neg n1]
  refine wp_bind (k_m_runsTold hK hm) (fun o ho => ?_)
  have hhi : ∀ q, q < SW (SK O.1) → o.2.2.2.2.2.2.2.2.2.2.2.2.2.2.2.2.2.2.2.2.2.2.1 (8 * y + q) = nI (colCnt (isS (wsY (SK O.1) (y + 1))) q) := fun q hq => ((ho.2.2.2.2.2.2 y (by omega)).2.2.2 q hq).1
  refine wl_m_write_N38 (fun m v_courses v_wide v_hands v_frostsNow v_notFrosts v_gapsNow v_fell v_fellAll v_sheepFirst v_sheepMany v_finding v_told v_moods v_strongs v_wall v_yearNow v_forceNow v_holdNow v_fellOf v_handAt v_holdAt v_fallsAt v_standAt v_highAt v_throughAt v_items x1 x2 x3 => v_finding = O.2.2.1 ∧ v_wide = nI (SW (SK O.1)) ∧ (∀ q, q < SW (SK O.1) → v_highAt (8 * y + q) = nI (colCnt (isS (wsY (SK O.1) (y + 1))) q)) ∧ x1 = nI y ∧ x2 = nI s ∧ ∃ k, k ≤ wrN O s ∧ x3 = nI k ∧ m = wrN O s - k ∧ (∀ u, u < 4 → ¬ u = s → MK (O.2.2.2 u) u v_isThere v_forms v_sizes v_items) ∧ ∀ q, q < 60 → v_items (60 * s + q) = if q < k then nI (colCnt (isS (wsY (SK O.1) (y + 1))) q) else (O.2.2.2 s).2.2 q) ?_ 1000 (wrN O s) _ _ _ _ _ _ _ _ _ _ _ _ _ _ _ _ _ _ _ _ _ _ _ _ _ _ _ _ _ (by omega) ⟨h.2.2.2.1, ho.1.2.1, hhi, rfl, rfl, 0, by omega, rfl, by omega, fun u hu _ => c u hu, fun q hq => by rw [if_neg (Nat.not_lt_zero q)]; exact c2 q hq⟩
  clear ho hhi
  rintro m k38 ih v_courses v_wide v_hands v_frostsNow v_notFrosts v_gapsNow v_fell v_fellAll v_sheepFirst v_sheepMany v_finding v_told v_moods v_strongs v_wall v_yearNow v_forceNow v_holdNow v_fellOf v_handAt v_holdAt v_fallsAt v_standAt v_highAt v_throughAt v_items x1 x2 x3 ⟨hfi, hwd, hhi, rfl, rfl, k, hk, rfl, rfl, w1, w2⟩
  have fin : k = wrN O s → MX (oH O (hUp O.2.2.2 s ((O.2.2.2 s).1, (O.2.2.2 s).2.1, wrI O y s))) v_typed v_texts v_jumpTold v_frosts v_frostYear v_frostForce v_gaps v_gapYear v_gapColumn v_gapHand v_seens v_seenYear v_seenPlace v_seenHand v_finding v_isThere v_forms v_sizes v_items := by
    intro e
    refine ⟨⟨h.1.1, h.1.2.1, Hok_up (x := ((O.2.2.2 s).1, (O.2.2.2 s).2.1, wrI O y s)) hH hz (hH s hs4).2 s⟩, hm, h.2.2.1, hfi, MIs_up ((O.2.2.2 s).1, (O.2.2.2 s).2.1, wrI O y s) w1 ⟨c1, fun q hq => ?_, Or.inr ⟨n1, f1⟩⟩⟩
    rw [w2 q hq, e]
    rfl
  unfold f_m_write_N38
  rw [cl (show s < 2 ^ 31 by omega), c1]
  refine wp_gd (inbN (by omega) (by decide)) (wp_ite (fun g3 => ?_) (fun g3 => ?_))
  · have g4 : (O.2.2.2 s).2.1 ≤ k := (nI_leX (by omega) (by omega)).mp g3
    exact wp_some ⟨congrArg nI (show k = wrN O s by omega), fin (by omega)⟩
  have g4 : ¬ (O.2.2.2 s).2.1 ≤ k := fun q => g3 ((nI_leX (by omega) (by omega)).mpr q)
  rw [hwd]
  refine wp_ite (fun g5 => ?_) (fun g5 => ?_)
  · have g6 : SW (SK O.1) ≤ k := (nI_leX (by omega) (by omega)).mp g5
    exact wp_some ⟨congrArg nI (show k = wrN O s by omega), fin (by omega)⟩
  have g6 : ¬ SW (SK O.1) ≤ k := fun q => g5 ((nI_leX (by omega) (by omega)).mpr q)
  rw [← hwd, show ((8 : Int32) * nI y) + nI k = nI (8 * y + k) from by rw [show (8 : Int32) = nI 8 from rfl, nI_mulI, nI_addI], cl (show 8 * y + k < 2 ^ 31 by omega), hhi k (by omega)]
  refine wp_gd (inbN (by omega) (by decide)) (wp_bindE (s_keep _ _ hs4 (show k < 60 by omega) _) ?_)
  rw [cst_s _ (show colCnt (isS (wsY (SK O.1) (y + 1))) k ≤ 40 from Nat.le_trans (bct_le _ 5) (by decide)), show nI k + 1 = nI (k + 1) from (nI_succ k).symm]
  have hkw : k < wrN O s := by omega
  refine ih (wrN O s - (k + 1)) _ _ _ _ _ _ _ _ _ _ _ _ _ _ _ _ _ _ _ _ _ _ _ _ _ _ _ _ _ (by omega) ⟨hfi, hwd, hhi, rfl, rfl, k + 1, by omega, rfl, rfl, fun u hu hne => MK_it (w1 u hu hne) (fun q hq => ?_), fun q hq => ?_⟩
  · rw [upd_at, if_neg (by omega)]
  · rw [upd_at]
    by_cases e : q = k
    · rw [if_pos (by omega), if_pos (by omega), e]
    · rw [if_neg (by omega), w2 q hq]
      by_cases e2 : q < k
      · rw [if_pos e2, if_pos (by omega)]
      · rw [if_neg e2, if_neg (by omega)]
