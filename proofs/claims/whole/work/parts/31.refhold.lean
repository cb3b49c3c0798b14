/-! THE REFERENCE: how each stone holds, what falls -/
theorem d8 {p : Nat} (hp : p < 100) : nI p / (8 : Int32) = nI (p / 8) := pk_div (by omega) (by decide) (by decide)
theorem r8 {p : Nat} (hp : p < 100) : nI p - nI p / (8 : Int32) * (8 : Int32) = nI (p % 8) := pk_rem (d := 8) (by omega) (by decide) (by decide)
theorem add_b {x : Int32} (h1 : -100000 ≤ x.toInt) (h2 : x.toInt ≤ 100000) (b : Bool) : (x + b2i b).toInt = x.toInt + (b2n b : Int) := by
  have hb := b2n_le b
  rw [toI_add (by omega) (by omega) (by rw [b2i_toInt]; omega) (by rw [b2i_toInt]; omega), b2i_toInt]
theorem sub_I {a b : Int32} (h1 : -100000 ≤ a.toInt) (h2 : a.toInt ≤ 100000) (h3 : -100000 ≤ b.toInt) (h4 : b.toInt ≤ 100000) : (a - b).toInt = a.toInt - b.toInt := by
  rw [Int32.toInt_sub]
  have e : (2 : Nat) ^ 32 = 4294967296 := by decide
  rw [e]
  unfold Int.bmod
  simp only
  split <;> omega
theorem s_h213 {C W n : Nat} {mood strong : Nat → Int32} {w : Wl} {y0 y1 : Int32} (h1 : -1000 ≤ y0.toInt) (h2 : y0.toInt ≤ 1000) (h3 : 0 ≤ y1.toInt) (h4 : y1.toInt ≤ 1000) : wp (f_m_holds_N213 (nI C) (nI W) (nI n) mood strong w y0 y1) (fun r => r.toInt = max 0 (y0.toInt - y1.toInt)) := by
  have e0 : (0 : Int32).toInt = 0 := by decide
  have es := sub_I (a := y0) (b := y1) (by omega) (by omega) (by omega) (by omega)
  unfold f_m_holds_N213
  refine wp_ite (fun g => ?_) (fun g => ?_)
  · rw [Int32.le_iff_toInt_le, es, e0] at g
    refine wp_some ?_
    rw [e0]; omega
  · rw [Int32.le_iff_toInt_le, es, e0] at g
    refine wp_some ?_
    rw [es]; omega
theorem s_h196 {C W n : Nat} {mood strong : Nat → Int32} {w : Wl} {h p : Nat} (hh : h < 8) (hp : p < 40) {x8 : Int32} (h1 : -1000 ≤ x8.toInt) (h2 : x8.toInt ≤ 1000) : wp (f_m_holds_N196 (nI C) (nI W) (nI n) mood strong w (nI (p / 8)) (nI h) x8) (fun r => r.toInt = max 0 (x8.toInt - (if mood h = 3 then ((p / 8 : Nat) : Int) else 0))) := by
  unfold f_m_holds_N196
  refine wp_gd (inbN (by omega) (by decide)) ?_
  rw [nI_clamp (by omega)]
  have ep : (nI (p / 8)).toInt = ((p / 8 : Nat) : Int) := nI_toInt (by omega)
  by_cases g : mood h = 3
  · refine wp_pos g ?_
    rw [if_pos g]
    refine wp_mono (s_h213 h1 h2 (by rw [ep]; omega) (by rw [ep]; omega)) (fun r hr => ?_)
    rw [hr, ep]
  · refine wp_neg g ?_
    rw [if_neg g]
    exact s_h213 h1 h2 (by decide) (by decide)
theorem s_h143 {C W n : Nat} (hn : n ≤ 8) {mood strong : Nat → Int32} {w : Wl} {h p : Nat} (hh : h < 8) (hp : p < 40) {a b c d : Int32} (ha : vok a) (hb : vok b) (hc : vok c) (hd : vok d) {x8 : Int32} (h1 : -900 ≤ x8.toInt) (h2 : x8.toInt ≤ 900) : wp (f_m_holds_N143 (nI C) (nI W) (nI n) mood strong w (nI (p / 8)) (nI h) a b c d x8) (fun r => r.toInt = max 0 (x8.toInt + (if mood h = 2 then (if 1 ≤ b2n (fL n mood h a) + b2n (fL n mood h b) + b2n (fL n mood h c) + b2n (fL n mood h d) then 2 else 0) else 0) - (if mood h = 3 then ((p / 8 : Nat) : Int) else 0))) := by
  have e2 : (x8 + 2).toInt = x8.toInt + 2 := by
    rw [toI_add (by omega) (by omega) (by decide) (by decide)]
    rfl
  unfold f_m_holds_N143
  refine wp_gd (inbN (by omega) (by decide)) ?_
  rw [nI_clamp (by omega)]
  have no : ∀ z : Int, z = x8.toInt → wp (f_m_holds_N196 (nI C) (nI W) (nI n) mood strong w (nI (p / 8)) (nI h) x8) (fun r => r.toInt = max 0 (z - (if mood h = 3 then ((p / 8 : Nat) : Int) else 0))) := by
    rintro z rfl
    exact s_h196 hh hp (by omega) (by omega)
  have yes : ∀ z : Int, z = x8.toInt + 2 → wp (f_m_holds_N193 (nI C) (nI W) (nI n) mood strong w (nI (p / 8)) (nI h) x8) (fun r => r.toInt = max 0 (z - (if mood h = 3 then ((p / 8 : Nat) : Int) else 0))) := by
    rintro z rfl
    unfold f_m_holds_N193
    rw [← e2]
    exact s_h196 hh hp (by omega) (by omega)
  by_cases g : mood h = 2
  · refine wp_pos g ?_
    rw [if_pos g]
    refine wp_bindE (s_loves hn h ha) ?_
    cases fL n mood h a with
    | true => exact wp_neg (by decide) (yes _ (by rw [if_pos (by show 1 ≤ 1 + _ + _ + _; omega)]))
    | false =>
      refine wp_pos (by decide) (wp_bindE (s_loves hn h hb) ?_)
      cases fL n mood h b with
      | true => exact wp_neg (by decide) (yes _ (by rw [if_pos (by show 1 ≤ 0 + 1 + _ + _; omega)]))
      | false =>
        refine wp_pos (by decide) (wp_bindE (s_loves hn h hc) ?_)
        cases fL n mood h c with
        | true => exact wp_neg (by decide) (yes _ (by rw [if_pos (by show 1 ≤ 0 + 0 + 1 + _; omega)]))
        | false =>
          refine wp_pos (by decide) (wp_bindE (s_loves hn h hd) ?_)
          cases fL n mood h d with
          | true => exact wp_neg (by decide) (yes _ (by rw [if_pos (by decide)]))
          | false => exact wp_pos (by decide) (no _ (by rw [if_neg (by decide)]; omega))
  · refine wp_neg g ?_
    rw [if_neg g]
    exact no _ (by omega)
theorem s_holds {C W n : Nat} (hC : C ≤ 5) (hW : W ≤ 8) (hn : n ≤ 8) {mood strong : Nat → Int32} (hs : ∀ h, h < n → 0 ≤ (strong h).toInt ∧ (strong h).toInt ≤ 9) {w : Wl} (hw : wok w) (hcw : inCW C W w) {p h : Nat} (hp : p < 40) (hh : h < 8) (hwp : w p = nI h) : wp (f_m_holds (nI C) (nI W) (nI n) mood strong w (nI (p / 8)) (nI (p % 8))) (fun r => r.toInt = if h < n then max 0 (hby n mood strong w h p) else 0) := by
  obtain ⟨o1, o2, o3, o4⟩ := v_ok hw hp
  unfold f_m_holds
  refine wp_bindE (hn_0 hC hW hcw hp) ?_
  rw [hwp]
  refine wp_ite (fun g => ?_) (fun g => ?_)
  · have hlt : h < n := (nI_ltX (by omega) (by omega)).mp g
    obtain ⟨s1, s2⟩ := hs h hlt
    rw [if_pos hlt]
    refine wp_bindE (hn_L hC hW hcw hp) (wp_bindE (hn_R hC hW hcw hp) (wp_bindE (hn_B hC hW hcw hp) (wp_bindE (hn_A hC hW hcw hp) ?_)))
    have hin : inb (nI h) 9 = true := inbN (by omega) (by decide)
    refine wp_gd hin (wp_bindE (s_alike _ _) (wp_bindE (s_alike _ _) (wp_bindE (s_alike _ _) (wp_bindE (s_alike _ _) (wp_gd hin ?_)))))
    rw [nI_clamp (show h < 2 ^ 31 by omega)]
    have b1 := b2n_le (fH h (vL w p)); have b2 := b2n_le (fH h (vR w p)); have b3 := b2n_le (fH h (vB w p)); have b4 := b2n_le (fH h (vA w p))
    have q1 := add_b (x := strong h) (by omega) (by omega) (fH h (vL w p))
    have q2 := add_b (x := strong h + b2i (fH h (vL w p))) (by omega) (by omega) (fH h (vR w p))
    have q3 := add_b (x := strong h + b2i (fH h (vL w p)) + b2i (fH h (vR w p))) (by omega) (by omega) (fH h (vB w p))
    have q4 := add_b (x := strong h + b2i (fH h (vL w p)) + b2i (fH h (vR w p)) + b2i (fH h (vB w p))) (by omega) (by omega) (fH h (vA w p))
    generalize hX : strong h + b2i (fH h (vL w p)) + b2i (fH h (vR w p)) + b2i (fH h (vB w p)) + b2i (fH h (vA w p)) = X at *
    have hXv : X.toInt = (strong h).toInt + (nb (isH w h) p : Int) := by
      rw [nb_H hh hp]
      unfold nv
      omega
    have hnb := nb_le (isH w h) p
    unfold hby
    by_cases m1 : mood h = 1
    · refine wp_pos m1 ?_
      refine wp_bindE (s_unlike _ _) (wp_bindE (s_unlike _ _) (wp_bindE (s_unlike _ _) (wp_bindE (s_unlike _ _) ?_)))
      have u1 := b2n_le (fU h (vL w p)); have u2 := b2n_le (fU h (vR w p)); have u3 := b2n_le (fU h (vB w p)); have u4 := b2n_le (fU h (vA w p))
      have t0 := b2i_toInt (fU h (vL w p))
      have t1 := add_b (x := b2i (fU h (vL w p))) (by omega) (by omega) (fU h (vR w p))
      have t2 := add_b (x := b2i (fU h (vL w p)) + b2i (fU h (vR w p))) (by omega) (by omega) (fU h (vB w p))
      have t3 := add_b (x := b2i (fU h (vL w p)) + b2i (fU h (vR w p)) + b2i (fU h (vB w p))) (by omega) (by omega) (fU h (vA w p))
      generalize hY : b2i (fU h (vL w p)) + b2i (fU h (vR w p)) + b2i (fU h (vB w p)) + b2i (fU h (vA w p)) = Y at *
      have hYv : Y.toInt = (nb (fun q => isS w q && !isH w h q) p : Int) := by
        rw [nb_U hp]
        unfold nv
        omega
      have hnu := nb_le (fun q => isS w q && !isH w h q) p
      have es := sub_I (a := X) (b := Y) (by omega) (by omega) (by omega) (by omega)
      refine wp_mono (s_h143 hn hh hp o1 o2 o3 o4 (by omega) (by omega)) (fun r hr => ?_)
      have m2 : ¬ mood h = 2 := by rw [m1]; decide
      have m3 : ¬ mood h = 3 := by rw [m1]; decide
      rw [hr, if_neg m2, if_neg m3, if_pos m1, es]
      congr 1
      omega
    · refine wp_neg m1 ?_
      refine wp_mono (s_h143 hn hh hp o1 o2 o3 o4 (by omega) (by omega)) (fun r hr => ?_)
      rw [hr, if_neg m1]
      have el : nb (fun q => ofM n mood 2 w q && !isH w h q) p = b2n (fL n mood h (vL w p)) + b2n (fL n mood h (vR w p)) + b2n (fL n mood h (vB w p)) + b2n (fL n mood h (vA w p)) := nb_Lv hn hp
      rw [el]
      by_cases m2 : mood h = 2
      · have m3 : ¬ mood h = 3 := by rw [m2]; decide
        rw [if_pos m2, if_pos m2, if_neg m3, hXv]
        congr 1
        omega
      · rw [if_neg m2, if_neg m2, hXv]
        by_cases m3 : mood h = 3
        · rw [if_pos m3, if_pos m3]; congr 1; omega
        · rw [if_neg m3, if_neg m3]; congr 1; omega
  · have hlt : ¬ h < n := fun q => g ((nI_ltX (by omega) (by omega)).mpr q)
    rw [if_neg hlt]
    exact wp_some (by decide)
/-- how a place's stone holds; -1 where none stands -/
def hldV (n : Nat) (mood strong : Nat → Int32) (w : Wl) (p : Nat) : Int := if w p = -1 then -1 else if (w p).toNatClampNeg < n then max 0 (hby n mood strong w (w p).toNatClampNeg p) else 0
theorem s_holdAll {C W n : Nat} (hC : C ≤ 5) (hW : W ≤ 8) (hn : n ≤ 8) {mood strong : Nat → Int32} (hs : ∀ h, h < n → 0 ≤ (strong h).toInt ∧ (strong h).toInt ≤ 9) {w : Wl} (hw : wok w) (hcw : inCW C W w) (hold0 : Nat → Int32) : wp (f_m_holdAll (nI C) (nI W) (nI n) mood strong w hold0) (fun r => ∀ p, p < 40 → (r p).toInt = hldV n mood strong w p) := by
  unfold f_m_holdAll
  refine wl_m_holdAll_N2 (fun m a0 x1 => ∃ p, x1 = nI p ∧ p ≤ 40 ∧ m = 40 - p ∧ ∀ q, q < p → (a0 q).toInt = hldV n mood strong w q) ?_ 1000 40 _ _ (by decide) ⟨0, rfl, by decide, rfl, fun q hq => absurd hq (Nat.not_lt_zero q)⟩
  rintro m k2 ih a0 x1 ⟨p, rfl, hp, rfl, hq⟩
  unfold f_m_holdAll_N2
  refine wp_ite (fun g => ?_) (fun g => ?_)
  · have g' := (nI_leX (a := 40) (b := p) (by decide) (by omega)).mp g
    have e : p = 40 := by omega
    subst e
    exact wp_some hq
  · have g' : ¬ 40 ≤ p := fun q => g ((nI_leX (a := 40) (b := p) (by decide) (by omega)).mpr q)
    have hp40 : p < 40 := by omega
    have e1 : nI p + 1 = nI (p + 1) := (nI_succ p).symm
    have hin : inb (nI p) 40 = true := inbN hp40 (by decide)
    have hcl : (nI p).toNatClampNeg = p := nI_clamp (by omega)
    rw [r8 (show p < 100 by omega), d8 (show p < 100 by omega), e1]
    have fin : ∀ v : Int32, v.toInt = hldV n mood strong w p → wp (k2 (upd a0 p v) (nI (p + 1))) (fun r => ∀ p, p < 40 → (r p).toInt = hldV n mood strong w p) := by
      intro v hv
      refine ih (40 - (p + 1)) _ _ (by omega) ⟨p + 1, rfl, by omega, rfl, fun q hq' => ?_⟩
      rw [upd_at]
      by_cases e : q = p
      · rw [if_pos e, e]; exact hv
      · rw [if_neg e]; exact hq q (by omega)
    refine wp_bindE (hn_0 hC hW hcw hp40) ?_
    refine wp_ite (fun g1 => ?_) (fun g1 => ?_)
    · refine wp_gd hin ?_
      rw [hcl]
      refine fin _ ?_
      unfold hldV
      rw [if_pos g1]
      decide
    · rcases hw p hp40 with e | ⟨h, hh, e⟩
      · exact absurd e g1
      · refine wp_bind (s_holds hC hW hn hs hw hcw hp40 hh e) (fun r hr => ?_)
        refine wp_gd hin ?_
        rw [hcl]
        refine fin _ ?_
        unfold hldV
        rw [if_neg g1, hr, e, nI_clamp (by omega)]
theorem s_drops {fell : Int32} {w fo : Nat → Int32} {p h : Nat} (hp : p < 40) (hh : h < 8) (e : w p = nI h) : f_m_drops fell w fo (nI p) = some (fell + 1, upd w p (-1), upd fo h (fo h + 1)) := by
  have hcl : (nI p).toNatClampNeg = p := nI_clamp (by omega)
  have hch : (nI h).toNatClampNeg = h := nI_clamp (by omega)
  unfold f_m_drops
  rw [inbN hp (by decide), hcl, e, inbN hh (by decide), hch]
  rfl
/-- the wall while it is gone through: places before p as they come out, the others as they were -/
def mix (v w : Wl) (p : Nat) : Wl := fun q => if q < p then v q else w q
theorem isS_S {w : Wl} {p : Nat} (hp : p < 40) : isS w p = fS (w p) := by
  unfold isS fS
  rw [decide_eq_true hp, Bool.true_and]
theorem inCW_sub {C W : Nat} {w v : Wl} (h : inCW C W w) (hv : ∀ p, p < 40 → v p = -1 ∨ v p = w p) : inCW C W v := by
  intro p hp hne
  rcases hv p hp with e | e
  · exact absurd e hne
  · exact h p hp (fun z => hne (e.trans z))
theorem wok_sub {w v : Wl} (h : wok w) (hv : ∀ p, p < 40 → v p = -1 ∨ v p = w p) : wok v := by
  intro p hp
  rcases hv p hp with e | e
  · exact Or.inl e
  · rw [e]; exact h p hp
/-- what falls, one place after the other, by a set s that stays: the state of the three numbers behind p places -/
def dropSt (w : Wl) (s : Nat → Bool) (f0 : Int32) (o0 : Nat → Int32) (p : Nat) (fell : Int32) (wall fo : Nat → Int32) : Prop :=
  fell = f0 + nI (bct (fun q => isS w q && !s q) p) ∧ (∀ q, q < 40 → wall q = mix (keep s w) w p q) ∧ ∀ h, h < 8 → fo h = o0 h + nI (bct (fun q => isH w h q && !s q) p)
theorem mix_sub (w : Wl) (s : Nat → Bool) (p q : Nat) : mix (keep s w) w p q = -1 ∨ mix (keep s w) w p q = w q := by
  unfold mix keep
  by_cases h : q < p
  · rw [if_pos h]
    by_cases hs : s q = true
    · rw [if_pos hs]; exact Or.inr rfl
    · rw [if_neg hs]; exact Or.inl rfl
  · rw [if_neg h]; exact Or.inr rfl
theorem dropSt_skip {w : Wl} {s : Nat → Bool} {f0 : Int32} {o0 : Nat → Int32} {p : Nat} {fell : Int32} {wall fo : Nat → Int32} (h : dropSt w s f0 o0 p fell wall fo) (hp : p < 40) (hk : w p = -1 ∨ s p = true) : dropSt w s f0 o0 (p + 1) fell wall fo := by
  obtain ⟨h1, h2, h3⟩ := h
  have hz : (isS w p && !s p) = false := by
    rcases hk with e | e
    · rw [(isS_at hp).mpr e, Bool.false_and]
    · rw [e, Bool.not_true, Bool.and_false]
  refine ⟨?_, fun q hq => ?_, fun k hk8 => ?_⟩
  · rw [h1]
    show _ = f0 + nI (bct _ p + (if (isS w p && !s p) then 1 else 0))
    rw [hz]; rfl
  · rw [h2 q hq]
    unfold mix
    by_cases e : q = p
    · subst e
      rw [if_neg (Nat.lt_irrefl q), if_pos (Nat.lt_succ_self q)]
      unfold keep
      rcases hk with e | e
      · rw [e]; split <;> rfl
      · rw [if_pos e]
    · by_cases z : q < p
      · rw [if_pos z, if_pos (by omega)]
      · rw [if_neg z, if_neg (by omega)]
  · rw [h3 k hk8]
    show _ = o0 k + nI (bct _ p + (if (isH w k p && !s p) then 1 else 0))
    have : (isH w k p && !s p) = false := by
      cases hq : isH w k p with
      | false => rfl
      | true => rw [isH_S hk8 hq] at hz; exact hz
    rw [this]; rfl
theorem dropSt_drop {w : Wl} {s : Nat → Bool} {f0 : Int32} {o0 : Nat → Int32} {p h : Nat} {fell : Int32} {wall fo : Nat → Int32} (hd : dropSt w s f0 o0 p fell wall fo) (hp : p < 40) (hh : h < 8) (e : w p = nI h) (hs : s p = false) : dropSt w s f0 o0 (p + 1) (fell + 1) (upd wall p (-1)) (upd fo h (fo h + 1)) := by
  obtain ⟨h1, h2, h3⟩ := hd
  have hS : isS w p = true := isH_S hh (by unfold isH; rw [decide_eq_true hp, e, decide_eq_true rfl]; rfl)
  refine ⟨?_, fun q hq => ?_, fun k hk8 => ?_⟩
  · rw [h1]
    show _ = f0 + nI (bct _ p + (if (isS w p && !s p) then 1 else 0))
    rw [hS, hs, Int32.add_assoc]
    congr 1
    exact (nI_succ _).symm
  · rw [upd_at]
    by_cases z : q = p
    · subst z
      rw [if_pos rfl]
      unfold mix keep
      rw [if_pos (Nat.lt_succ_self q), hs]
      rfl
    · rw [if_neg z, h2 q hq]
      unfold mix
      by_cases y : q < p
      · rw [if_pos y, if_pos (by omega)]
      · rw [if_neg y, if_neg (by omega)]
  · rw [upd_at]
    show _ = o0 k + nI (bct _ p + (if (isH w k p && !s p) then 1 else 0))
    by_cases z : k = h
    · subst z
      have : isH w k p = true := by unfold isH; rw [decide_eq_true hp, e, decide_eq_true rfl]; rfl
      rw [if_pos rfl, h3 k hk8, this, hs, Int32.add_assoc]
      congr 1
      exact (nI_succ _).symm
    · have : isH w k p = false := by
        unfold isH
        rw [e, decide_eq_false (fun q => z ((nI_eqI (by omega) (by omega)).mp q).symm), Bool.and_false]
      rw [if_neg z, h3 k hk8, this]
      rfl
theorem bor_mix {w : Wl} {p : Nat} (hp : p < 40) (hS : isS w p = true) {v : Wl} (hv : ∀ q, q < 40 → v q = mix (keep (borne (isS w)) w) w p q) : bor v p = borne (isS w) p := by
  have low : ∀ q, q < p → fS (v q) = borne (isS w) q := by
    intro q hq
    rw [hv q (by omega)]
    unfold mix keep
    rw [if_pos hq]
    cases hb : borne (isS w) q with
    | false => exact fS_m1
    | true =>
      have h1 := borne_s hb
      rw [isS_S (by omega)] at h1
      exact h1
  unfold bor
  by_cases h8 : p < 8
  · rw [decide_eq_true h8]
    unfold borne
    rw [show p / 8 = 0 by omega, show p % 8 = p by omega]
    exact hS.symm
  · rw [decide_eq_false h8, Bool.false_or]
    obtain ⟨c, hc⟩ : ∃ c, p / 8 = c + 1 := ⟨p / 8 - 1, by omega⟩
    have hb : borne (isS w) p = (isS w p && (bo (isS w) c (p % 8) || (decide (1 ≤ p % 8) && bo (isS w) c (p % 8 - 1) && (decide (p % 8 ≤ 6) && bo (isS w) c (p % 8 + 1))))) := by
      unfold borne
      rw [hc]
      show (isS w (8 * (c + 1) + p % 8) && _) = _
      rw [show 8 * (c + 1) + p % 8 = p by omega]
    rw [hb, hS, Bool.true_and]
    have eB : fS (vB v p) = bo (isS w) c (p % 8) := by
      unfold vB
      rw [if_pos (by omega), low _ (by omega)]
      unfold borne
      rw [show (p - 8) / 8 = c by omega, show (p - 8) % 8 = p % 8 by omega]
    have eL : fS (vBL v p) = (decide (1 ≤ p % 8) && bo (isS w) c (p % 8 - 1)) := by
      unfold vBL
      by_cases h : 1 ≤ p % 8
      · rw [if_pos ⟨by omega, h⟩, low _ (by omega), decide_eq_true h, Bool.true_and]
        unfold borne
        rw [show (p - 9) / 8 = c by omega, show (p - 9) % 8 = p % 8 - 1 by omega]
      · rw [if_neg (by omega), decide_eq_false h, fS_m1, Bool.false_and]
    have eR : fS (vBR v p) = (decide (p % 8 ≤ 6) && bo (isS w) c (p % 8 + 1)) := by
      unfold vBR
      by_cases h : p % 8 ≤ 6
      · rw [if_pos ⟨by omega, h⟩, low _ (by omega), decide_eq_true h, Bool.true_and]
        unfold borne
        rw [show (p - 7) / 8 = c by omega, show (p - 7) % 8 = p % 8 + 1 by omega]
      · rw [if_neg (by omega), decide_eq_false h, fS_m1, Bool.false_and]
    rw [eB, eL, eR]
/-- settles: what isn't borne falls -/
theorem s_settles {C W : Nat} (hC : C ≤ 5) (hW : W ≤ 8) {w wall : Wl} (hw : wok w) (hcw : inCW C W w) (hwall : ∀ q, q < 40 → wall q = w q) (f0 : Int32) (o0 : Nat → Int32) : wp (f_m_settles (nI C) (nI W) f0 wall o0) (fun r => dropSt w (borne (isS w)) f0 o0 40 r.1 r.2.1 r.2.2) := by
  have hlow : ∀ q, q < 8 → isS w q = true → borne (isS w) q = true := by
    intro q hq h
    unfold borne
    rw [show q / 8 = 0 by omega, show q % 8 = q by omega]
    exact h
  unfold f_m_settles
  refine wl_m_settles_N3 (fun m a0 a1 a2 x1 => ∃ p, x1 = nI p ∧ 8 ≤ p ∧ p ≤ 40 ∧ m = 40 - p ∧ dropSt w (borne (isS w)) f0 o0 p a0 a1 a2) ?_ 1000 32 _ _ _ _ (by decide) ⟨8, rfl, by decide, by decide, rfl, ?_⟩
  · rintro m k3 ih a0 a1 a2 x1 ⟨p, rfl, hp8, hp, rfl, hd⟩
    unfold f_m_settles_N3
    refine wp_ite (fun g => ?_) (fun g => ?_)
    · have g' := (nI_leX (a := 40) (b := p) (by decide) (by omega)).mp g
      have e : p = 40 := by omega
      subst e
      exact wp_some hd
    · have g' : ¬ 40 ≤ p := fun q => g ((nI_leX (a := 40) (b := p) (by decide) (by omega)).mpr q)
      have hp40 : p < 40 := by omega
      have e1 : nI p + 1 = nI (p + 1) := (nI_succ p).symm
      have hsub : ∀ q, q < 40 → a1 q = -1 ∨ a1 q = w q := fun q hq => by rw [hd.2.1 q hq]; exact mix_sub w _ p q
      have hcw1 := inCW_sub hcw hsub
      have hcur : a1 p = w p := by
        rw [hd.2.1 p hp40]
        unfold mix
        rw [if_neg (Nat.lt_irrefl p)]
      rw [r8 (show p < 100 by omega), d8 (show p < 100 by omega), e1]
      refine wp_bindE (hn_0 hC hW hcw1 hp40) ?_
      rw [hcur]
      refine wp_ite (fun g1 => ?_) (fun g1 => ?_)
      · exact ih (40 - (p + 1)) _ _ _ _ (by omega) ⟨p + 1, rfl, by omega, by omega, rfl, dropSt_skip hd hp40 (Or.inl g1)⟩
      · have hS : isS w p = true := by
          cases hq : isS w p with
          | false => exact absurd ((isS_at hp40).mp hq) g1
          | true => rfl
        refine wp_bindE (s_isBorne hC hW hcw1 hp40) ?_
        rw [bor_mix hp40 hS hd.2.1]
        rcases hw p hp40 with e | ⟨h, hh, e⟩
        · exact absurd e g1
        · cases hb : borne (isS w) p with
          | false =>
            refine wp_pos (by decide) (wp_bindE (s_drops hp40 hh (hcur.trans e)) ?_)
            exact ih (40 - (p + 1)) _ _ _ _ (by omega) ⟨p + 1, rfl, by omega, by omega, rfl, dropSt_drop hd hp40 hh e hb⟩
          | true =>
            refine wp_neg (by decide) ?_
            exact ih (40 - (p + 1)) _ _ _ _ (by omega) ⟨p + 1, rfl, by omega, by omega, rfl, dropSt_skip hd hp40 (Or.inr hb)⟩
  · have hz : ∀ q, q < 8 → (isS w q && !borne (isS w) q) = false := by
      intro q hq
      cases hS : isS w q with
      | false => rfl
      | true => rw [hlow q hq hS]; rfl
    refine ⟨?_, fun q hq => ?_, fun k hk => ?_⟩
    · rw [bct_zero.mpr hz]
      show f0 = f0 + 0
      rw [Int32.add_zero]
    · rw [hwall q hq]
      unfold mix keep
      by_cases h : q < 8
      · rw [if_pos h]
        cases hS : isS w q with
        | false => rw [(isS_at hq).mp hS]; split <;> rfl
        | true => rw [if_pos (hlow q h hS)]
      · rw [if_neg h]
    · have : bct (fun q => isH w k q && !borne (isS w) q) 8 = 0 := bct_zero.mpr (fun q hq => by
        cases hH : isH w k q with
        | false => rfl
        | true => rw [hlow q hq (isH_S hk hH)]; rfl)
      rw [this]
      show o0 k = o0 k + 0
      rw [Int32.add_zero]
