/-! THE REFERENCE: a frost, a gap, sheep -/
theorem okF_at {n : Nat} (hn : n ≤ 8) {mood strong : Nat → Int32} {w : Wl} {F : Int32} {p h : Nat} (hp : p < 40) (hh : h < 8) (e : w p = nI h) : okF n mood strong w F p = (decide (h < n) && decide (F.toInt ≤ hby n mood strong w h p)) := by
  rw [Bool.eq_iff_iff]
  unfold okF
  rw [anyB_iff, Bool.and_eq_true_iff, decide_eq_true_eq, decide_eq_true_eq]
  have hH : isH w h p = true := by unfold isH; rw [decide_eq_true hp, e, decide_eq_true rfl]; rfl
  constructor
  · rintro ⟨k, hk, e2⟩
    rw [Bool.and_eq_true_iff, decide_eq_true_eq] at e2
    have : h = k := isH_one hh (by omega) hH e2.1
    subst this
    exact ⟨hk, e2.2⟩
  · rintro ⟨h1, h2⟩
    exact ⟨h, h1, by rw [hH, decide_eq_true h2]; rfl⟩
theorem bct_sum {p q r : Nat → Bool} : ∀ {n : Nat}, (∀ k, k < n → b2n (r k) = b2n (p k) + b2n (q k)) → bct r n = bct p n + bct q n
  | 0, _ => rfl
  | n + 1, h => by
    show bct r n + b2n (r n) = (bct p n + b2n (p n)) + (bct q n + b2n (q n))
    rw [bct_sum (fun k hk => h k (by omega)), h n (by omega)]
    omega
theorem isS_okF {n : Nat} (hn : n ≤ 8) {mood strong : Nat → Int32} {w : Wl} {F : Int32} : isS (keep (okF n mood strong w F) w) = okF n mood strong w F := by
  funext p
  rw [isS_keep]
  cases hq : okF n mood strong w F p with
  | false => rw [Bool.and_false]
  | true => rw [okF_S hn hq, Bool.and_true]
/-- two falls, one behind the other, are one -/
theorem dropSt_two {n : Nat} (hn : n ≤ 8) {mood strong : Nat → Int32} {w : Wl} {F f0 f1 f2 : Int32} {o0 o1 o2 w1 w2 : Nat → Int32} (h1 : dropSt w (okF n mood strong w F) f0 o0 40 f1 w1 o1) (h2 : dropSt (keep (okF n mood strong w F) w) (borne (isS (keep (okF n mood strong w F) w))) f1 o1 40 f2 w2 o2) : dropSt w (borne (okF n mood strong w F)) f0 o0 40 f2 w2 o2 := by
  rw [isS_okF hn] at h2
  obtain ⟨a1, a2, a3⟩ := h1
  obtain ⟨b1, b2, b3⟩ := h2
  rw [isS_okF hn] at b1
  refine ⟨?_, fun q hq => ?_, fun k hk => ?_⟩
  · rw [b1, a1, Int32.add_assoc, nI_addI]
    congr 2
    refine (bct_sum (fun k hk => ?_)).symm
    cases hb : borne (okF n mood strong w F) k with
    | true => rw [borne_s hb]; cases isS w k <;> rfl
    | false =>
      cases ho : okF n mood strong w F k with
      | true => rw [okF_S hn ho]; rfl
      | false => cases isS w k <;> rfl
  · rw [b2 q hq]
    unfold mix keep
    rw [if_pos hq, if_pos hq]
    cases hb : borne (okF n mood strong w F) q with
    | true => rw [if_pos rfl, if_pos (borne_s hb), if_pos rfl]
    | false => rfl
  · rw [b3 k hk, a3 k hk, Int32.add_assoc, nI_addI]
    congr 2
    refine (bct_sum (fun j hj => ?_)).symm
    rw [isH_keep _ hk]
    cases hb : borne (okF n mood strong w F) j with
    | true => rw [borne_s hb]; cases isH w k j <;> rfl
    | false =>
      cases ho : okF n mood strong w F j with
      | true => cases isH w k j <;> rfl
      | false => cases isH w k j <;> rfl
theorem s_freezes {C W n : Nat} (hC : C ≤ 5) (hW : W ≤ 8) (hn : n ≤ 8) {mood strong : Nat → Int32} (hs : ∀ h, h < n → 0 ≤ (strong h).toInt ∧ (strong h).toInt ≤ 9) {w wall : Wl} (hw : wok w) (hcw : inCW C W w) (hwall : ∀ q, q < 40 → wall q = w q) (hold0 : Nat → Int32) (f0 : Int32) (o0 : Nat → Int32) {F : Int32} (hF : 1 ≤ F.toInt) : wp (f_m_freezes (nI C) (nI W) (nI n) f0 mood strong wall hold0 o0 F) (fun r => dropSt w (borne (okF n mood strong w F)) f0 o0 40 r.1 r.2.1 r.2.2.2) := by
  have hcwall : inCW C W wall := inCW_sub hcw (fun q hq => Or.inr (hwall q hq))
  have hwwall : wok wall := wok_sub hw (fun q hq => Or.inr (hwall q hq))
  have ehold : ∀ p, p < 40 → hldV n mood strong wall p = hldV n mood strong w p := by
    intro p hp
    unfold hldV hby
    rw [hwall p hp, isH_eq hwall, isS_eq hwall, ofM_eq hwall]
  unfold f_m_freezes
  refine wp_bind (s_holdAll hC hW hn hs hwwall hcwall hold0) (fun hd hhd => ?_)
  refine wl_m_freezes_N6 (fun m a0 a1 a2 a3 x1 x2 => a2 = hd ∧ x1 = F ∧ ∃ p, x2 = nI p ∧ p ≤ 40 ∧ m = 40 - p ∧ dropSt w (okF n mood strong w F) f0 o0 p a0 a1 a3) ?_ 1000 40 _ _ _ _ _ _ (by decide) ⟨rfl, rfl, 0, rfl, by decide, rfl, ?_, fun q hq => ?_, fun k hk => ?_⟩
  · rintro m k6 ih a0 a1 a2 a3 x1 x2 ⟨rfl, rfl, p, rfl, hp, rfl, hdp⟩
    unfold f_m_freezes_N6
    refine wp_ite (fun g => ?_) (fun g => ?_)
    · have g' := (nI_leX (a := 40) (b := p) (by decide) (by omega)).mp g
      have e : p = 40 := by omega
      subst e
      have hw1 : ∀ q, q < 40 → a1 q = keep (okF n mood strong w x1) w q := fun q hq => by
        rw [hdp.2.1 q hq]
        unfold mix
        rw [if_pos hq]
      refine wp_bind (s_settles hC hW (wok_keep hw _) (inCW_sub hcw (fun q hq => ?_)) hw1 a0 a3) (fun r hr => wp_some ?_)
      · rw [← hw1 q hq, hdp.2.1 q hq]; exact mix_sub w _ 40 q
      · exact dropSt_two hn hdp hr
    · have g' : ¬ 40 ≤ p := fun q => g ((nI_leX (a := 40) (b := p) (by decide) (by omega)).mpr q)
      have hp40 : p < 40 := by omega
      have e1 : nI p + 1 = nI (p + 1) := (nI_succ p).symm
      have hin : inb (nI p) 40 = true := inbN hp40 (by decide)
      have hcl : (nI p).toNatClampNeg = p := nI_clamp (by omega)
      have hval := hhd p hp40
      rw [ehold p hp40] at hval
      have hcur : a1 p = w p := by
        rw [hdp.2.1 p hp40]
        unfold mix
        rw [if_neg (Nat.lt_irrefl p)]
      have em : (-1 : Int32).toInt = -1 := by decide
      refine wp_gd hin ?_
      rw [hcl, e1]
      have skip : w p = -1 ∨ okF n mood strong w x1 p = true → wp (k6 a0 a1 a2 a3 x1 (nI (p + 1))) (fun r => dropSt w (borne (okF n mood strong w x1)) f0 o0 40 r.1 r.2.1 r.2.2.2) := fun hk => ih (40 - (p + 1)) _ _ _ _ _ _ (by omega) ⟨rfl, rfl, p + 1, rfl, by omega, rfl, dropSt_skip hdp hp40 hk⟩
      rcases hw p hp40 with e | ⟨h, hh, e⟩
      · have : a2 p = -1 := Int32.toInt_inj.mp (by rw [hval, em]; unfold hldV; rw [if_pos e])
        exact wp_pos this (skip (Or.inl e))
      · have hne : ¬ w p = -1 := by rw [e]; exact nI_ne1 (by omega)
        have hv2 : (a2 p).toInt = if h < n then max 0 (hby n mood strong w h p) else 0 := by
          rw [hval]
          unfold hldV
          rw [if_neg hne, e, nI_clamp (by omega)]
        have hge : 0 ≤ (a2 p).toInt := by rw [hv2]; split <;> omega
        refine wp_neg (fun z => by rw [z, em] at hge; omega) (wp_gd hin ?_)
        refine wp_ite (fun g1 => ?_) (fun g1 => ?_)
        · rw [Int32.le_iff_toInt_le, hv2] at g1
          refine skip (Or.inr ?_)
          rw [okF_at hn hp40 hh e]
          by_cases hlt : h < n
          · rw [if_pos hlt] at g1
            rw [decide_eq_true hlt, decide_eq_true (by omega)]; rfl
          · rw [if_neg hlt] at g1; omega
        · rw [Int32.le_iff_toInt_le, hv2] at g1
          refine wp_bindE (s_drops hp40 hh (hcur.trans e)) ?_
          refine ih (40 - (p + 1)) _ _ _ _ _ _ (by omega) ⟨rfl, rfl, p + 1, rfl, by omega, rfl, dropSt_drop hdp hp40 hh e ?_⟩
          rw [okF_at hn hp40 hh e]
          by_cases hlt : h < n
          · rw [if_pos hlt] at g1
            rw [decide_eq_true hlt, decide_eq_false (by omega)]; rfl
          · rw [decide_eq_false hlt]; rfl
  · show f0 = f0 + nI 0
    rw [nI_0, Int32.add_zero]
  · rw [hwall q hq]; rfl
  · show o0 k = o0 k + nI 0
    rw [nI_0, Int32.add_zero]
theorem fg_eq {w v : Wl} (h : ∀ p, p < 40 → w p = v p) {col : Nat} (hcol : col < 8) (x : Int32) : ∀ m c, c + m ≤ 5 → ∀ p, p < 40 → (fg w col x m c).1 p = (fg v col x m c).1 p
  | 0, _, _, p, hp => h p hp
  | m + 1, c, hc, p, hp => by
    rw [fg_s, fg_s, h (8 * c + col) (by omega)]
    by_cases e : v (8 * c + col) = -1
    · rw [if_pos e, if_pos e]
      show upd w _ x p = upd v _ x p
      rw [upd_at, upd_at, h p hp]
    · rw [if_neg e, if_neg e]
      exact fg_eq h hcol x m (c + 1) (by omega) p hp
theorem s_mends {C W col : Nat} (hC : C ≤ 5) (hW : W ≤ 8) (hcol : col < 8) {w : Wl} (hcw : inCW C W w) (x : Int32) : f_m_mends (nI C) (nI W) w (nI col) x = some (if col < W then (fg w col x C 0).1 else w) := by
  apply wp_get
  unfold f_m_mends
  refine wl_m_mends_N2 (fun k a0 x1 x2 x3 => a0 = w ∧ x1 = nI col ∧ x2 = x ∧ ∃ c, x3 = nI c ∧ c ≤ C ∧ k = C - c ∧ (0 < c → ¬ w (8 * (c - 1) + col) = -1) ∧ fg w col x (C - c) c = fg w col x C 0) ?_ 1000 C _ _ _ _ (by omega) ⟨rfl, rfl, rfl, 0, rfl, by omega, rfl, fun h => absurd h (Nat.lt_irrefl 0), rfl⟩
  rintro k k2 ih a0 x1 x2 x3 ⟨rfl, rfl, rfl, c, rfl, hc, rfl, hlow, hfg⟩
  unfold f_m_mends_N2
  refine wp_ite (fun g => ?_) (fun g => ?_)
  · have g' := (nI_leX (a := C) (b := c) (by omega) (by omega)).mp g
    have e : c = C := by omega
    subst e
    rw [Nat.sub_self] at hfg
    refine wp_some ?_
    rw [← hfg]
    show a0 = if col < W then a0 else a0
    split <;> rfl
  · have g' : ¬ C ≤ c := fun q => g ((nI_leX (a := C) (b := c) (by omega) (by omega)).mpr q)
    refine wp_ite (fun g1 => ?_) (fun g1 => ?_)
    · have g1' := (nI_leX (a := W) (b := col) (by omega) (by omega)).mp g1
      exact wp_some (by rw [if_neg (by omega)])
    · have g1' : ¬ W ≤ col := fun q => g1 ((nI_leX (a := W) (b := col) (by omega) (by omega)).mpr q)
      have e1 : nI c + 1 = nI (c + 1) := (nI_succ c).symm
      have hq : 8 * c + col < 40 := by omega
      have e8 : (8 : Int32) * nI c + nI col = nI (8 * c + col) := by rw [show (8 : Int32) = nI 8 from rfl, nI_mulI, nI_addI]
      have hin : inb (nI (8 * c + col)) 40 = true := inbN hq (by decide)
      have hcl : (nI (8 * c + col)).toNatClampNeg = 8 * c + col := nI_clamp (by omega)
      rw [e8, e1, hcl]
      rw [show C - c = (C - (c + 1)) + 1 by omega, fg_s] at hfg
      refine wp_gd hin (wp_ite (fun g2 => ?_) (fun g2 => ?_))
      · rw [if_pos g2] at hfg
        have hb := s_isBorne hC hW hcw hq
        rw [show (8 * c + col) / 8 = c by omega, show (8 * c + col) % 8 = col by omega] at hb
        have hbor : bor a0 (8 * c + col) = true := by
          unfold bor
          by_cases h8 : 8 * c + col < 8
          · rw [decide_eq_true h8]; rfl
          · have hc0 : 0 < c := by omega
            have : fS (vB a0 (8 * c + col)) = true := by
              unfold vB fS
              rw [if_pos (by omega), show 8 * c + col - 8 = 8 * (c - 1) + col by omega, decide_eq_false (hlow hc0)]
              rfl
            rw [this]; simp
        rw [hbor] at hb
        refine wp_bindE hb (wp_neg (by decide) (wp_gd hin (wp_some ?_)))
        rw [if_pos (show col < W by omega), ← hfg]
      · rw [if_neg g2] at hfg
        exact ih (C - (c + 1)) _ _ _ _ (by omega) ⟨rfl, rfl, rfl, c + 1, rfl, by omega, rfl, fun _ => g2, hfg⟩
theorem col_C {C W : Nat} {w : Wl} (hC : C ≤ 5) (hcw : inCW C W w) {c : Nat} (hc : c < 8) {k : Nat} (hk : C ≤ k) (hk5 : k < 5) : w (8 * k + c) = -1 := by
  refine Classical.byContradiction fun hx => ?_
  have := hcw (8 * k + c) (by omega) hx
  omega
theorem anyB_more {f : Nat → Bool} {a : Nat} : ∀ {d : Nat}, (∀ k, a ≤ k → k < a + d → f k = false) → anyB f (a + d) = anyB f a
  | 0, _ => rfl
  | d + 1, h => by
    show (anyB f (a + d) || f (a + d)) = _
    rw [anyB_more (fun k h1 h2 => h k h1 (by omega)), h (a + d) (by omega) (by omega), Bool.or_false]
theorem s_isThrough {C W n jump c : Nat} (hC : C ≤ 5) (hn : n ≤ 8) (hj : jump ≤ 5) {mood : Nat → Int32} {w : Wl} (hw : wok w) (hcw : inCW C W w) (hc : c < 8) : f_m_isThrough (nI C) (nI n) (nI jump) mood w (nI c) (nI (colCnt (isS w) c)) = some (b2i (thr n mood jump w c)) := by
  have hcn5 : colCnt (isS w) c ≤ 5 := bct_le _ 5
  have five : ∀ m : Int32, anyB (fun k => ofM n mood m w (8 * k + c)) C = colAny (ofM n mood m w) c := by
    intro m
    unfold colAny
    obtain ⟨d, hd⟩ : ∃ d, 5 = C + d := ⟨5 - C, by omega⟩
    rw [hd]
    refine (anyB_more (fun k h1 h2 => ?_)).symm
    rw [ofM_f, col_C hC hcw hc h1 (by omega), fM_m1 hn, Bool.and_false]
  apply wp_get
  unfold f_m_isThrough
  refine wl_m_isThrough_N8 (fun m x1 x2 x3 x4 x5 => x1 = nI c ∧ x2 = nI (colCnt (isS w) c) ∧ ∃ k, x5 = nI k ∧ k ≤ C ∧ m = C - k ∧ x3 = b2i (anyB (fun k => ofM n mood 2 w (8 * k + c)) k) ∧ x4 = b2i (anyB (fun k => ofM n mood 1 w (8 * k + c)) k)) ?_ 1000 C _ _ _ _ _ (by omega) ⟨rfl, rfl, 0, rfl, by omega, rfl, rfl, rfl⟩
  rintro m k8 ih x1 x2 x3 x4 x5 ⟨rfl, rfl, k, rfl, hk, rfl, rfl, rfl⟩
  unfold f_m_isThrough_N8
  refine wp_ite (fun g => ?_) (fun g => ?_)
  · have g' := (nI_leX (a := C) (b := k) (by omega) (by omega)).mp g
    have e : k = C := by omega
    subst e
    rw [five, five]
    unfold thr
    cases ht : colAny (ofM n mood 1 w) c with
    | true => exact wp_neg (by decide) (wp_some rfl)
    | false =>
      refine wp_pos (by decide) (wp_ite (fun g1 => ?_) (fun g1 => ?_))
      · have g1' := (nI_ltX (by omega) (by omega)).mp g1
        refine wp_some ?_
        rw [decide_eq_true (show colCnt (isS w) c < (if colAny (ofM n mood 2 w) c then jump + 1 else jump) by split <;> omega)]
        rfl
      · have g1' : ¬ colCnt (isS w) c < jump := fun q => g1 ((nI_ltX (by omega) (by omega)).mpr q)
        refine wp_ite (fun g2 => ?_) (fun g2 => ?_)
        · have g2' := (nI_eqI (by omega) (by omega)).mp g2
          cases hl : colAny (ofM n mood 2 w) c with
          | false =>
            refine wp_pos (by decide) (wp_some ?_)
            rw [decide_eq_false (show ¬ colCnt (isS w) c < (if false = true then jump + 1 else jump) by rw [if_neg (by decide)]; omega)]
            rfl
          | true =>
            refine wp_neg (by decide) (wp_some ?_)
            rw [decide_eq_true (show colCnt (isS w) c < (if true = true then jump + 1 else jump) by rw [if_pos rfl]; omega)]
            rfl
        · have g2' : ¬ colCnt (isS w) c = jump := fun q => g2 (by rw [q])
          refine wp_some ?_
          rw [decide_eq_false (show ¬ colCnt (isS w) c < (if colAny (ofM n mood 2 w) c then jump + 1 else jump) by split <;> omega)]
          rfl
  · have g' : ¬ C ≤ k := fun q => g ((nI_leX (a := C) (b := k) (by omega) (by omega)).mpr q)
    have e1 : nI k + 1 = nI (k + 1) := (nI_succ k).symm
    have hq : 8 * k + c < 40 := by omega
    have e8 : (8 : Int32) * nI k + nI c = nI (8 * k + c) := by rw [show (8 : Int32) = nI 8 from rfl, nI_mulI, nI_addI]
    have hv : vok (w (8 * k + c)) := hw _ hq
    have go : ∀ L T : Bool, L = anyB (fun k => ofM n mood 2 w (8 * k + c)) (k + 1) → T = anyB (fun k => ofM n mood 1 w (8 * k + c)) (k + 1) → wp (k8 (nI c) (nI (colCnt (isS w) c)) (b2i L) (b2i T) (nI (k + 1))) (fun r => r = b2i (thr n mood jump w c)) := by
      rintro L T rfl rfl
      exact ih (C - (k + 1)) _ _ _ _ _ (by omega) ⟨rfl, rfl, k + 1, rfl, by omega, rfl, rfl, rfl⟩
    have n49 : ∀ L : Bool, L = anyB (fun k => ofM n mood 2 w (8 * k + c)) (k + 1) → wp (f_m_isThrough_N49 (nI C) (nI n) (nI jump) mood w k8 (nI c) (nI (colCnt (isS w) c)) (b2i (anyB (fun k => ofM n mood 1 w (8 * k + c)) k)) (nI k) (w (8 * k + c)) (b2i L)) (fun r => r = b2i (thr n mood jump w c)) := by
      intro L hL
      unfold f_m_isThrough_N49 f_m_isThrough_N81 f_m_isThrough_N85
      rw [e1]
      have hT : anyB (fun k => ofM n mood 1 w (8 * k + c)) (k + 1) = (anyB (fun k => ofM n mood 1 w (8 * k + c)) k || fM n mood 1 (w (8 * k + c))) := by
        show (_ || ofM n mood 1 w (8 * k + c)) = _
        rw [ofM_f, decide_eq_true hq, Bool.true_and]
      cases hA : anyB (fun k => ofM n mood 1 w (8 * k + c)) k with
      | true =>
        refine wp_neg (by decide) (go L true hL ?_)
        rw [hT, hA]; rfl
      | false =>
        rw [hA, Bool.false_or] at hT
        refine wp_pos (by decide) ?_
        rcases hv with e | ⟨h, hh, e⟩
        · rw [e] at hT ⊢
          refine wp_pos rfl (go L false hL ?_)
          rw [hT, fM_m1 hn]
        · rw [e] at hT ⊢
          rw [fM_at hh hn] at hT
          refine wp_neg (nI_ne1 (by omega)) (wp_ite (fun g1 => ?_) (fun g1 => ?_))
          · have g1' := (nI_leX (a := n) (b := h) (by omega) (by omega)).mp g1
            refine go L false hL ?_
            rw [hT, decide_eq_false (by omega)]; rfl
          · have g1' : ¬ n ≤ h := fun q => g1 ((nI_leX (by omega) (by omega)).mpr q)
            refine wp_gd (inbN (by omega) (by decide)) ?_
            rw [nI_clamp (by omega)]
            refine wp_ite (fun g2 => go L true hL ?_) (fun g2 => go L false hL ?_)
            · rw [hT, decide_eq_true (by omega), decide_eq_true g2]; rfl
            · rw [hT, decide_eq_false g2, Bool.and_false]
    rw [e8]
    refine wp_gd (inbN hq (by decide)) ?_
    rw [nI_clamp (show 8 * k + c < 2 ^ 31 by omega)]
    have hL : anyB (fun k => ofM n mood 2 w (8 * k + c)) (k + 1) = (anyB (fun k => ofM n mood 2 w (8 * k + c)) k || fM n mood 2 (w (8 * k + c))) := by
      show (_ || ofM n mood 2 w (8 * k + c)) = _
      rw [ofM_f, decide_eq_true hq, Bool.true_and]
    cases hA : anyB (fun k => ofM n mood 2 w (8 * k + c)) k with
    | true =>
      rw [hA, Bool.true_or] at hL
      refine wp_neg (by decide) ?_
      unfold f_m_isThrough_N44
      exact n49 true hL.symm
    | false =>
      rw [hA, Bool.false_or] at hL
      refine wp_pos (by decide) (wp_bindE (s_isLover hn hv) ?_)
      cases hM : fM n mood 2 (w (8 * k + c)) with
      | false => exact wp_pos (by decide) (n49 false (by rw [hL, hM]))
      | true =>
        refine wp_neg (by decide) ?_
        unfold f_m_isThrough_N44
        exact n49 true (by rw [hL, hM])
