/-! STONES, HANDS, FAULTS, LIFT, COUNTS -/
def A_stone (S : Sit) (a0 a1 : Int32) : Int32 := if pl a0 a1 = 0 then -2 else Sw S (8 * a0.toNatClampNeg + a1.toNatClampNeg)
def A_hand (S : Sit) (a0 a1 : Int32) : Int32 := if wi a0 0 (nI (Sn S) - 1) = 0 then -2 else if wi a1 0 1 = 0 then -2 else if a1 = 0 then Smd S a0.toNatClampNeg else Sst S a0.toNatClampNeg
def A_fault (K : Kt) (a0 : Int32) : Int32 := if wi a0 0 1 = 0 then -2 else if a0 = 0 then wFault (kWb K) (kA K) else hFault (kHb K) (kB K)
theorem k_x_stone {S : Sit} (hS : Sok S) {st : Nat → Int64} (hr : rep st (Sw S)) (a0 a1 : Int32) : f_x_stone st a0 a1 = some (A_stone S a0 a1) := by
  apply wp_get
  unfold f_x_stone A_stone
  refine wp_bindE (q_x_isPlace a0 a1) (wp_ite (fun g => ?_) (fun g1 => ?_))
  · rw [if_pos g]; exact wp_some rfl
  rw [if_neg g1]
  obtain ⟨c, k, hc, hk, rfl, rfl⟩ := pl_nat g1
  rw [cl (show c < 2 ^ 31 by omega), cl (show k < 2 ^ 31 by omega), e8n]
  refine wp_bindE (s_setterAt (f := 0) (n := 8) (w := Sw S) (by decide) (by decide) (fun h hh => by show ∀ p, bl (st (0 + h)) p = _; rw [Nat.zero_add]; exact hr h hh) hS.2.2.2.2.2.2.2.2.2 (by omega)) (wp_some rfl)
theorem k_x_hand {S : Sit} (hS : Sok S) {n : Int32} {mood strong : Nat → Int32} (hh : CIh S n mood strong) (a0 a1 : Int32) : f_x_hand n mood strong a0 a1 = some (A_hand S a0 a1) := by
  apply wp_get
  obtain ⟨rfl, hh⟩ := hh
  have hn := hS.1
  unfold f_x_hand A_hand
  refine wp_bindE (q_hs_has _ a0) (wp_ite (fun g => ?_) (fun g1 => ?_))
  · rw [if_pos g]; exact wp_some rfl
  rw [if_neg g1]
  refine wp_bindE (q_x_isEither a1) (wp_ite (fun g => ?_) (fun g2 => ?_))
  · rw [if_pos g]; exact wp_some rfl
  rw [if_neg g2]
  obtain ⟨h, hlt, rfl⟩ := wi_m1 (by omega) g1
  rw [cl (show h < 2 ^ 31 by omega)]
  refine wp_ite (fun g => ?_) (fun g => ?_)
  · rw [if_pos g]; exact wp_gd (inbN (by omega) (by decide)) (wp_some (hh h hlt).1)
  · rw [if_neg g]; exact wp_gd (inbN (by omega) (by decide)) (wp_some (hh h hlt).2)
theorem k_x_fault {K : Kt} {wf hf : Int32} (h1 : wf = wFault (kWb K) (kA K)) (h2 : hf = hFault (kHb K) (kB K)) (a0 : Int32) : f_x_fault wf hf a0 = some (A_fault K a0) := by
  apply wp_get
  unfold f_x_fault A_fault
  refine wp_bindE (q_x_isEither a0) (wp_ite (fun g => ?_) (fun g1 => ?_))
  · rw [if_pos g]; exact wp_some rfl
  rw [if_neg g1]
  refine wp_ite (fun g => ?_) (fun g => ?_)
  · rw [if_pos g]; exact wp_some h1
  · rw [if_neg g]; exact wp_some h2
theorem k_m_stoneOf {K : Kt} (hK : Kok K) {v_courses : Int32} {v_wide : Int32} {v_hands : Int32} {v_typed : Nat → Int32} {v_texts : Nat → Int32} {v_told : Nat → Int32} {v_moods : Nat → Int32} {v_strongs : Nat → Int32} {p : Nat} (hp : p < 40) (hw : wtx v_typed v_texts (kWb K) (kA K)) (hh : htx v_typed v_texts (kHb K) (kB K)) : wp (f_m_stoneOf v_courses v_wide v_hands v_typed v_texts v_told v_moods v_strongs (nI p)) (fun r => r.1 = Sw (SK K) p ∧ RK K r.2.1 r.2.2.1 r.2.2.2.1 r.2.2.2.2.1 r.2.2.2.2.2.1 r.2.2.2.2.2.2) := by
  unfold f_m_stoneOf
  refine wp_bind (k_m_reads hK hw hh) (fun o ho => ?_)
  refine wp_gd (inbN (by omega) (by decide)) (wp_some ⟨?_, ho⟩)
  rw [cl (show p < 2 ^ 31 by omega)]
  exact ho.2.2.2.1 p (by omega)
theorem k_m_stone {K : Kt} (hK : Kok K) {v_courses : Int32} {v_wide : Int32} {v_hands : Int32} {v_typed : Nat → Int32} {v_texts : Nat → Int32} {v_told : Nat → Int32} {v_moods : Nat → Int32} {v_strongs : Nat → Int32} {a0 : Int32} {a1 : Int32} (hw : wtx v_typed v_texts (kWb K) (kA K)) (hh : htx v_typed v_texts (kHb K) (kB K)) : wp (f_m_stone v_courses v_wide v_hands v_typed v_texts v_told v_moods v_strongs a0 a1) (fun r => r.1 = A_stone (SK K) a0 a1) := by
  unfold f_m_stone A_stone
  refine wp_bindE (q_m_isPlace a0 a1) (wp_ite (fun g => ?_) (fun g1 => ?_))
  · rw [if_pos g]; exact wp_some rfl
  rw [if_neg g1]
  obtain ⟨c, k, hc, hk, rfl, rfl⟩ := pl_nat g1
  rw [cl (show c < 2 ^ 31 by omega), cl (show k < 2 ^ 31 by omega), e8n]
  exact wp_bind (k_m_stoneOf hK (by omega) hw hh) (fun o ho => wp_some ho.1)
theorem k_m_isHand {K : Kt} (hK : Kok K) {v_courses : Int32} {v_wide : Int32} {v_hands : Int32} {v_typed : Nat → Int32} {v_texts : Nat → Int32} {v_told : Nat → Int32} {v_moods : Nat → Int32} {v_strongs : Nat → Int32} {a0 : Int32} (hw : wtx v_typed v_texts (kWb K) (kA K)) (hh : htx v_typed v_texts (kHb K) (kB K)) : wp (f_m_isHand v_courses v_wide v_hands v_typed v_texts v_told v_moods v_strongs a0) (fun r => r.1 = wi a0 0 (nI (Sn (SK K)) - 1) ∧ RK K r.2.1 r.2.2.1 r.2.2.2.1 r.2.2.2.2.1 r.2.2.2.2.2.1 r.2.2.2.2.2.2) := by
  unfold f_m_isHand
  refine wp_bind (k_m_reads hK hw hh) (fun o ho => ?_)
  refine wp_bindE (s_in a0 0 _) (wp_gd (isB_wi _ _ _) (wp_some ⟨?_, ho⟩))
  show wi a0 0 (_ - 1) = _
  rw [ho.2.2.1]
  rfl
theorem k_m_handOf {K : Kt} {c w n : Int32} {t mood strong : Nat → Int32} (hR : RK K c w n t mood strong) {h : Nat} (hh : h < Sn (SK K)) (h8 : Sn (SK K) ≤ 8) (a1 : Int32) : f_m_handOf mood strong (nI h) a1 = some (if a1 = 0 then Smd (SK K) h else Sst (SK K) h) := by
  apply wp_get
  unfold f_m_handOf
  refine wp_ite (fun g => ?_) (fun g => ?_)
  · refine wp_gd (inbN (by omega) (by decide)) (wp_some ?_)
    rw [if_pos g, cl (show h < 2 ^ 31 by omega)]; exact ((RK_h hR).2 h hh).1
  · refine wp_gd (inbN (by omega) (by decide)) (wp_some ?_)
    rw [if_neg g, cl (show h < 2 ^ 31 by omega)]; exact ((RK_h hR).2 h hh).2
theorem k_m_hand {K : Kt} (hK : Kok K) {v_courses : Int32} {v_wide : Int32} {v_hands : Int32} {v_typed : Nat → Int32} {v_texts : Nat → Int32} {v_told : Nat → Int32} {v_moods : Nat → Int32} {v_strongs : Nat → Int32} {a0 : Int32} {a1 : Int32} (hw : wtx v_typed v_texts (kWb K) (kA K)) (hh : htx v_typed v_texts (kHb K) (kB K)) : wp (f_m_hand v_courses v_wide v_hands v_typed v_texts v_told v_moods v_strongs a0 a1) (fun r => r.1 = A_hand (SK K) a0 a1) := by
  have hn := (SK_ok hK).1.1
  unfold f_m_hand A_hand
  refine wp_bind (k_m_isHand hK hw hh) (fun o ho => ?_)
  rw [ho.1]
  refine wp_ite (fun g => ?_) (fun g1 => ?_)
  · rw [if_pos g]; exact wp_some rfl
  rw [if_neg g1]
  refine wp_bindE (s_in a1 0 1) (wp_ite (fun g => ?_) (fun g2 => ?_))
  · rw [if_pos g]; exact wp_some rfl
  rw [if_neg g2]
  obtain ⟨h, hlt, rfl⟩ := wi_m1 (by omega) g1
  rw [cl (show h < 2 ^ 31 by omega)]
  exact wp_bindE (k_m_handOf ho.2 hlt hn a1) (wp_some rfl)
theorem k_m_faultOf {K : Kt} (hK : Kok K) {v_courses : Int32} {v_wide : Int32} {v_hands : Int32} {v_typed : Nat → Int32} {v_texts : Nat → Int32} {v_told : Nat → Int32} {v_moods : Nat → Int32} {v_strongs : Nat → Int32} {a0 : Int32} (hw : wtx v_typed v_texts (kWb K) (kA K)) (hh : htx v_typed v_texts (kHb K) (kB K)) : wp (f_m_faultOf v_courses v_wide v_hands v_typed v_texts v_told v_moods v_strongs a0) (fun r => (r.1 = if a0 = 0 then wFault (kWb K) (kA K) else hFault (kHb K) (kB K)) ∧ RK K r.2.1 r.2.2.1 r.2.2.2.1 r.2.2.2.2.1 r.2.2.2.2.2.1 r.2.2.2.2.2.2) := s_faultOf hK.1.1 hK.2.1.1 hw hh _ _ _ _ _ _ _
theorem k_m_fault {K : Kt} (hK : Kok K) {v_courses : Int32} {v_wide : Int32} {v_hands : Int32} {v_typed : Nat → Int32} {v_texts : Nat → Int32} {v_told : Nat → Int32} {v_moods : Nat → Int32} {v_strongs : Nat → Int32} {a0 : Int32} (hw : wtx v_typed v_texts (kWb K) (kA K)) (hh : htx v_typed v_texts (kHb K) (kB K)) : wp (f_m_fault v_courses v_wide v_hands v_typed v_texts v_told v_moods v_strongs a0) (fun r => r.1 = A_fault K a0) := by
  unfold f_m_fault A_fault
  refine wp_bindE (q_m_isText a0) (wp_ite (fun g => ?_) (fun g1 => ?_))
  · rw [if_pos g]; exact wp_some rfl
  rw [if_neg g1]
  exact wp_bind (k_m_faultOf hK hw hh) (fun o ho => wp_some ho.1)
/-! lift -/
def liX (w : Wl) (p q : Nat) : Bool := borne (isS w) q && !decide (q = p) && !borne (fun r => isS w r && !decide (r = p)) q
def vLift (w : Wl) (p : Nat) : Int32 := if w p = -1 then -1 else nI (bct (liX w p) 40)
def A_lift (S : Sit) (a0 a1 : Int32) : Int32 := if pl a0 a1 = 0 then -2 else vLift (Sw S) (8 * a0.toNatClampNeg + a1.toNatClampNeg)
theorem bl_nl {p : Nat} (hp : p < 64) (x : Int64) (q : Nat) : bl (x &&& (lshl (1 : Int64) (nI p) ^^^ (-1 : Int64))) q = (bl x q && !decide (q = p)) := by
  rw [bl_and, bl_not, bl_one hp]
  by_cases h : q < 64
  · rw [decide_eq_true h, Bool.true_and]
  · rw [bl_big (by omega), Bool.false_and, Bool.false_and]
theorem k_x_lift {S : Sit} (hS : Sok S) {st : Nat → Int64} (hr : rep st (Sw S)) (a0 a1 : Int32) : f_x_lift st a0 a1 = some (A_lift S a0 a1) := by
  apply wp_get
  have hwk := hS.2.2.2.2.2.2.2.2.2
  have hA := rep_union hr hwk
  unfold f_x_lift A_lift
  refine wp_bindE (q_x_isPlace a0 a1) (wp_ite (fun g => ?_) (fun g1 => ?_))
  · rw [if_pos g]; exact wp_some rfl
  rw [if_neg g1]
  obtain ⟨c, k, hc, hk, rfl, rfl⟩ := pl_nat g1
  rw [cl (show c < 2 ^ 31 by omega), cl (show k < 2 ^ 31 by omega), e8n]
  have hp : 8 * c + k < 40 := by omega
  revert hp
  generalize 8 * c + k = p
  intro hp
  refine wp_bindE (s_union st (by decide) (by decide)) ?_
  unfold vLift
  have hz : lg_cmp (unj st 8 &&& lshl (1 : Int64) (nI p)) 0 = 0 ↔ Sw S p = -1 := by
    rw [cmp0, bl_eq0]
    constructor
    · intro h
      have := h p (by omega)
      rw [bl_and, bl_one (by omega), decide_eq_true rfl, Bool.and_true, hA p] at this
      exact (isS_at hp).mp this
    · intro h i hi
      rw [bl_and, bl_one (by omega)]
      by_cases e : i = p
      · rw [e, hA p, (isS_at hp).mpr h, Bool.false_and]
      · rw [decide_eq_false e, Bool.and_false]
  refine wp_ite (fun g => ?_) (fun g => ?_)
  · rw [if_pos (hz.mp g)]; exact wp_some rfl
  · rw [if_neg (fun e => g (hz.mpr e))]
    refine wp_bind (s_borneOf _) (fun b1 hb1 => wp_bind (s_borneOf _) (fun b2 hb2 => ?_))
    refine wp_bindE (s_bitCount _) (wp_some ?_)
    have e1 : bl (unj st 8) = isS (Sw S) := funext hA
    have e2 : bl (unj st 8 &&& (lshl (1 : Int64) (nI p) ^^^ (-1 : Int64))) = fun r => isS (Sw S) r && !decide (r = p) := funext (fun r => by rw [bl_nl (by omega), hA r])
    rw [e1] at hb1
    rw [e2] at hb2
    refine congrArg nI (bct_ext (n := 40) (m := 64) (by decide) (fun q hq => ?_) (fun q hq _ => ?_))
    · rw [bl_and, bl_nl (by omega), bl_not, hb1, hb2, decide_eq_true hq, decide_eq_true (show q < 64 by omega), Bool.true_and, Bool.true_and, Bool.true_and]
      rfl
    · rw [bl_and, bl_nl (by omega), hb1, decide_eq_false (by omega), Bool.false_and, Bool.false_and, Bool.false_and]
theorem bo_mono {s t : Nat → Bool} (h : ∀ p, s p = true → t p = true) : ∀ c j, bo s c j = true → bo t c j = true
  | 0, j, e => h j e
  | c + 1, j, e => by
    have e' : (s (8 * (c + 1) + j) && (bo s c j || (decide (1 ≤ j) && bo s c (j - 1) && (decide (j ≤ 6) && bo s c (j + 1))))) = true := e
    show (t (8 * (c + 1) + j) && (bo t c j || (decide (1 ≤ j) && bo t c (j - 1) && (decide (j ≤ 6) && bo t c (j + 1))))) = true
    rw [Bool.and_eq_true, Bool.or_eq_true, Bool.and_eq_true, Bool.and_eq_true, Bool.and_eq_true] at e' ⊢
    obtain ⟨e1, e2⟩ := e'
    refine ⟨h _ e1, ?_⟩
    rcases e2 with e3 | ⟨⟨e3, e4⟩, e5, e6⟩
    · exact Or.inl (bo_mono h c j e3)
    · exact Or.inr ⟨⟨e3, bo_mono h c (j - 1) e4⟩, e5, bo_mono h c (j + 1) e6⟩
theorem lift_cnt {w wx : Wl} {p : Nat} (hp : p < 40) (hx : ∀ q, isS wx q = (isS w q && !decide (q = p))) (hw : isS w p = true) : bct (fun q => isS wx q && !borne (isS wx) q) 40 + (if borne (isS w) p then 0 else 1) = bct (fun q => isS w q && !borne (isS w) q) 40 + bct (liX w p) 40 := by
  have hS : isS wx = fun q => isS w q && !decide (q = p) := funext hx
  have h1 : bct (fun q => (fun q => !borne (isS w) q) q && decide (q = p)) 40 = if borne (isS w) p then 0 else 1 := by
    rw [bct_one, if_pos hp]
    cases borne (isS w) p <;> rfl
  rw [← h1, ← bct_sum (r := fun q => (isS w q && !borne (isS wx) q && !decide (q = p)) || (!borne (isS w) q && decide (q = p))) (fun q hq => ?_), ← bct_sum (r := fun q => (isS w q && !borne (isS wx) q && !decide (q = p)) || (!borne (isS w) q && decide (q = p))) (fun q hq => ?_)]
  all_goals
    have hm : borne (isS wx) q = true → borne (isS w) q = true := bo_mono (fun r hr => by rw [hx r, Bool.and_eq_true] at hr; exact hr.1) _ _
    have hb : borne (isS w) q = true → isS w q = true := borne_s
    have hb' : borne (isS wx) q = true → isS wx q = true := borne_s
  · show b2n ((isS w q && !borne (isS wx) q && !decide (q = p)) || (!borne (isS w) q && decide (q = p))) = b2n (isS w q && !borne (isS w) q) + b2n (borne (isS w) q && !decide (q = p) && !borne (fun r => isS w r && !decide (r = p)) q)
    rw [← hS]
    rw [hx q] at hb'
    by_cases e : q = p
    · subst e
      cases h2 : borne (isS wx) q with
      | true => rw [h2, decide_eq_true rfl] at hb'; have := hb' rfl; simp at this
      | false =>
        rw [decide_eq_true rfl, hw]
        cases borne (isS w) q <;> rfl
    · rw [decide_eq_false e]
      cases h2 : borne (isS wx) q with
      | true =>
        rw [hm h2]
        cases isS w q <;> rfl
      | false =>
        cases h3 : borne (isS w) q with
        | true => rw [hb h3]; rfl
        | false => cases isS w q <;> rfl
  · show b2n ((isS w q && !borne (isS wx) q && !decide (q = p)) || (!borne (isS w) q && decide (q = p))) = b2n (isS wx q && !borne (isS wx) q) + b2n (!borne (isS w) q && decide (q = p))
    rw [hx q] at hb' ⊢
    by_cases e : q = p
    · subst e
      cases h2 : borne (isS wx) q with
      | true => rw [h2, decide_eq_true rfl] at hb'; have := hb' rfl; simp at this
      | false =>
        rw [decide_eq_true rfl, hw]
        cases borne (isS w) q <;> rfl
    · rw [decide_eq_false e]
      cases isS w q <;> cases borne (isS wx) q <;> cases borne (isS w) q <;> rfl
theorem keep_at (w : Wl) (x : Int32) (q : Nat) : keep (fun q => !decide (nI q = x)) w q = if nI q = x then -1 else w q := by
  show (if (!decide (nI q = x)) = true then w q else -1) = _
  by_cases h : nI q = x
  · rw [if_pos h, decide_eq_true h]; rfl
  · rw [if_neg h, decide_eq_false h]; rfl
theorem k_m_loose {S : Sit} (hS : Sok S) (hI : Sin S) {told : Nat → Int32} (ht : ∀ p, p < 40 → told p = Sw S p) (f0 : Int32) (w0 o0 : Nat → Int32) (x : Int32) : wp (f_m_loose (nI (SC S)) (nI (SW S)) f0 told w0 o0 x) (fun r => r.1 = nI (drp (keep (fun q => !decide (nI q = x)) (Sw S)) (borne (isS (keep (fun q => !decide (nI q = x)) (Sw S))))) ∧ ∀ q, q < 40 → r.2.2.1 q = keep (borne (isS (keep (fun q => !decide (nI q = x)) (Sw S)))) (keep (fun q => !decide (nI q = x)) (Sw S)) q) := by
  unfold f_m_loose
  refine wl_m_loose_N2 (fun m v_fell v_wall v_fellOf x1 x2 => x1 = x ∧ ∃ p, p ≤ 40 ∧ x2 = nI p ∧ m = 40 - p ∧ ∀ q, q < p → v_wall q = keep (fun q => !decide (nI q = x)) (Sw S) q) ?_ 1000 40 _ _ _ _ _ (by decide) ⟨rfl, 0, by decide, rfl, rfl, fun q hq => absurd hq (Nat.not_lt_zero q)⟩
  rintro m k2 ih v_fell v_wall v_fellOf x1 x2 ⟨rfl, p, hp, rfl, rfl, hw⟩
  unfold f_m_loose_N2
  refine wp_ite (fun g => ?_) (fun g => ?_)
  · have g' := (nI_leX (a := 40) (b := p) (by decide) (by omega)).mp g
    have e : p = 40 := by omega
    subst e
    refine wp_bind (s_settles hS.2.2.2.2.2.2.1 hS.2.2.2.2.2.2.2.1 (wok_keep hS.2.2.2.2.2.2.2.2.2 _) (inCW_keep hI _) hw 0 v_fellOf) (fun r h => wp_some ⟨?_, fun q hq => ?_⟩)
    · show r.1 = _
      rw [h.1]
      exact Int32.zero_add _
    · show r.2.1 q = _
      rw [h.2.1 q hq]
      unfold mix
      rw [if_pos hq]
  · have g' : ¬ 40 ≤ p := fun q => g ((nI_leX (a := 40) (b := p) (by decide) (by omega)).mpr q)
    have e1 : nI p + 1 = nI (p + 1) := (nI_succ p).symm
    rw [e1, cl (show p < 2 ^ 31 by omega)]
    refine wp_ite (fun g1 => ?_) (fun g1 => ?_)
    · refine wp_gd (inbN (by omega) (by decide)) ?_
      refine ih (40 - (p + 1)) _ _ _ _ _ (by omega) ⟨rfl, p + 1, by omega, rfl, rfl, fun q hq => ?_⟩
      rw [upd_at]
      by_cases e : q = p
      · rw [if_pos e, e, keep_at, if_pos g1]
      · rw [if_neg e]; exact hw q (by omega)
    · refine wp_gd (inbN (by omega) (by decide)) (wp_gd (inbN (by omega) (by decide)) ?_)
      refine ih (40 - (p + 1)) _ _ _ _ _ (by omega) ⟨rfl, p + 1, by omega, rfl, rfl, fun q hq => ?_⟩
      rw [upd_at]
      by_cases e : q = p
      · rw [if_pos e, e, keep_at, if_neg g1]; exact ht p (by omega)
      · rw [if_neg e]; exact hw q (by omega)
theorem isS_no1 (w : Wl) : isS (keep (fun q => !decide (nI q = (-1 : Int32))) w) = isS w := isS_eq (fun q hq => by rw [keep_at, if_neg (nI_ne1 (by omega))])
theorem isS_nop {p : Nat} (hp : p < 40) (w : Wl) (q : Nat) : isS (keep (fun q => !decide (nI q = nI p)) w) q = (isS w q && !decide (q = p)) := by
  rw [isS_keep]
  by_cases hq : q < 40
  · rw [decide_eq_decide.mpr (nI_eqI (show q < 2 ^ 31 by omega) (show p < 2 ^ 31 by omega))]
  · rw [isS_big (by omega), Bool.false_and, Bool.false_and]
theorem lift_num {A B X : Nat} {b : Bool} (h : A + (if b then 0 else 1) = B + X) : nI A - (nI B - (if b then (0 : Int32) else 1)) = nI X := by
  cases b with
  | true =>
    rw [if_pos rfl] at h ⊢
    rw [Int32.sub_zero, nI_subI (by omega)]
    exact congrArg nI (by omega)
  | false =>
    rw [if_neg (by decide)] at h ⊢
    have e : nI A = nI B + nI X - 1 := by
      rw [nI_addI, ← h, nI_succ]
      exact (Int32.add_sub_cancel _ _).symm
    rw [e]
    have hc : ∀ c b : Int32, (c + 1) + b - 1 - ((c + 1) - 1) = b := by
      intro c b
      rw [Int32.add_sub_cancel, Int32.add_assoc, Int32.add_comm 1 b, ← Int32.add_assoc, Int32.add_sub_cancel, Int32.add_comm c b, Int32.add_sub_cancel]
    have := hc (nI B - 1) (nI X)
    rw [Int32.sub_add_cancel] at this
    exact this
theorem k_m_liftOf {K : Kt} (hK : Kok K) {v_courses : Int32} {v_wide : Int32} {v_hands : Int32} {v_fell : Int32} {v_typed : Nat → Int32} {v_texts : Nat → Int32} {v_told : Nat → Int32} {v_moods : Nat → Int32} {v_strongs : Nat → Int32} {v_wall : Nat → Int32} {v_fellOf : Nat → Int32} {p : Nat} (hp : p < 40) (hw : wtx v_typed v_texts (kWb K) (kA K)) (hh : htx v_typed v_texts (kHb K) (kB K)) : wp (f_m_liftOf v_courses v_wide v_hands v_fell v_typed v_texts v_told v_moods v_strongs v_wall v_fellOf (nI p)) (fun r => r.1 = vLift (Sw (SK K)) p ∧ RK K r.2.1 r.2.2.1 r.2.2.2.1 r.2.2.2.2.2.1 r.2.2.2.2.2.2.1 r.2.2.2.2.2.2.2.1) := by
  have hS := (SK_ok hK).1
  have hI := (SK_ok hK).2
  unfold f_m_liftOf
  refine wp_bind (k_m_reads hK hw hh) (fun o ho => ?_)
  obtain ⟨o1, o2, o3, o4, o5⟩ := id ho
  refine wp_gd (inbN (by omega) (by decide)) ?_
  have et : ∀ q, q < 40 → o.2.2.2.1 q = Sw (SK K) q := fun q hq => o4 q (by omega)
  rw [cl (show p < 2 ^ 31 by omega), et p hp]
  unfold vLift
  refine wp_ite (fun g => ?_) (fun g => ?_)
  · rw [if_pos g]; exact wp_some ⟨rfl, ho⟩
  rw [if_neg g]
  have hw1 : isS (Sw (SK K)) p = true := by
    cases hz : isS (Sw (SK K)) p with
    | true => rfl
    | false => exact absurd ((isS_at hp).mp hz) g
  rw [o1, o2]
  refine wp_bind (k_m_loose (S := SK K) hS hI et _ _ _ (-1)) (fun r1 h1 => ?_)
  refine wp_gd (inbN (by omega) (by decide)) ?_
  have hv : r1.2.2.1 p = if borne (isS (Sw (SK K))) p then Sw (SK K) p else -1 := by
    rw [h1.2 p hp, isS_no1]
    show (if borne (isS (Sw (SK K))) p then keep _ _ p else -1) = _
    rw [keep_at, if_neg (nI_ne1 (by omega))]
  have h11 : r1.1 = nI (bct (fun q => isS (Sw (SK K)) q && !borne (isS (Sw (SK K))) q) 40) := by
    rw [h1.1]
    unfold drp
    rw [isS_no1]
  have hc := lift_num (lift_cnt hp (isS_nop hp (Sw (SK K))) hw1)
  have hend : ∀ y0 : Int32, (y0 = if borne (isS (Sw (SK K))) p then (0 : Int32) else 1) → ∀ w0 o0 : Nat → Int32, ∀ f0 : Int32, wp ((f_m_loose (nI (SC (SK K))) (nI (SW (SK K))) f0 o.2.2.2.1 w0 o0 (nI p)).bind (fun o40 => some (o40.1 - (r1.1 - y0), nI (SC (SK K)), nI (SW (SK K)), o.2.2.1, o40.2.1, o.2.2.2.1, o.2.2.2.2.1, o.2.2.2.2.2, o40.2.2.1, o40.2.2.2))) (fun r => r.1 = nI (bct (liX (Sw (SK K)) p) 40) ∧ RK K r.2.1 r.2.2.1 r.2.2.2.1 r.2.2.2.2.2.1 r.2.2.2.2.2.2.1 r.2.2.2.2.2.2.2.1) := by
    intro y0 hy w0 o0 f0
    refine wp_bind (k_m_loose (S := SK K) hS hI et f0 w0 o0 (nI p)) (fun r2 h2 => wp_some ⟨?_, rfl, rfl, o3, o4, o5⟩)
    show r2.1 - (r1.1 - y0) = _
    rw [h2.1, h11, hy]
    exact hc
  rw [hv]
  refine wp_ite (fun g1 => ?_) (fun g1 => ?_)
  · refine hend 1 ?_ _ _ _
    cases hb : borne (isS (Sw (SK K))) p with
    | true => rw [hb, if_pos rfl] at g1; exact absurd g1 g
    | false => rfl
  · refine hend 0 ?_ _ _ _
    cases hb : borne (isS (Sw (SK K))) p with
    | true => rfl
    | false => rw [hb] at g1; exact absurd rfl g1
theorem k_m_lift {K : Kt} (hK : Kok K) {v_courses : Int32} {v_wide : Int32} {v_hands : Int32} {v_fell : Int32} {v_typed : Nat → Int32} {v_texts : Nat → Int32} {v_told : Nat → Int32} {v_moods : Nat → Int32} {v_strongs : Nat → Int32} {v_wall : Nat → Int32} {v_fellOf : Nat → Int32} {a0 : Int32} {a1 : Int32} (hw : wtx v_typed v_texts (kWb K) (kA K)) (hh : htx v_typed v_texts (kHb K) (kB K)) : wp (f_m_lift v_courses v_wide v_hands v_fell v_typed v_texts v_told v_moods v_strongs v_wall v_fellOf a0 a1) (fun r => r.1 = A_lift (SK K) a0 a1) := by
  unfold f_m_lift A_lift
  refine wp_bindE (q_m_isPlace a0 a1) (wp_ite (fun g => ?_) (fun g1 => ?_))
  · rw [if_pos g]; exact wp_some rfl
  rw [if_neg g1]
  obtain ⟨c, k, hc, hk, rfl, rfl⟩ := pl_nat g1
  rw [cl (show c < 2 ^ 31 by omega), cl (show k < 2 ^ 31 by omega), e8n]
  exact wp_bind (k_m_liftOf hK (by omega) hw hh) (fun o ho => wp_some ho.1)
