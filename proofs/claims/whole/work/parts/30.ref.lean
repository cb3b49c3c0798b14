/-! THE REFERENCE: whose stone is where, how it holds -/
theorem s_in (v a b : Int32) : f_m_in v a b = some (wi v a b) := s_within v a b
def b2i (b : Bool) : Int32 := if b then 1 else 0
theorem b2i_0 (b : Bool) : b2i b = 0 ↔ b = false := by cases b <;> decide
theorem b2i_toInt (b : Bool) : (b2i b).toInt = (b2n b : Int) := by cases b <;> decide
/-- all stones stand within the courses and columns -/
def inCW (C W : Nat) (w : Wl) : Prop := ∀ p, p < 40 → ¬ w p = -1 → p / 8 < C ∧ p % 8 < W
theorem wi_iff {v a b : Int32} : wi v a b = 0 ↔ ¬ (a.toInt ≤ v.toInt ∧ v.toInt ≤ b.toInt) := by
  constructor
  · intro h hc
    have := wi_in (Int32.le_iff_toInt_le.mpr hc.1) (Int32.le_iff_toInt_le.mpr hc.2)
    rw [this] at h
    exact absurd h (by decide)
  · intro h
    rcases wi_01 v a b with e | e
    · exact e
    · have := wi_yes (v := v) (a := a) (b := b) (by rw [e]; decide)
      exact absurd ⟨Int32.le_iff_toInt_le.mp this.1, Int32.le_iff_toInt_le.mp this.2⟩ h
theorem s_handNow {C W : Nat} (hC : C ≤ 5) (hW : W ≤ 8) {w : Wl} (hcw : inCW C W w) {c j : Int32} {a b : Int} (hc : c.toInt = a) (hj : j.toInt = b) (ha : -1 ≤ a ∧ a ≤ 5) (hb : -1 ≤ b ∧ b ≤ 8) : f_m_handNow (nI C) (nI W) w c j = some (if 0 ≤ a ∧ a < 5 ∧ 0 ≤ b ∧ b < 8 then w (8 * a + b).toNat else -1) := by
  have e0 : (0 : Int32).toInt = 0 := by decide
  have e1 : (1 : Int32).toInt = 1 := by decide
  have hC1 : (nI C - 1).toInt = (C : Int) - 1 := by
    rw [toI_sub (by rw [nI_toInt (by omega)]; omega) (by rw [nI_toInt (by omega)]; omega) (by rw [e1]; omega) (by rw [e1]; omega), nI_toInt (by omega), e1]
  have hW1 : (nI W - 1).toInt = (W : Int) - 1 := by
    rw [toI_sub (by rw [nI_toInt (by omega)]; omega) (by rw [nI_toInt (by omega)]; omega) (by rw [e1]; omega) (by rw [e1]; omega), nI_toInt (by omega), e1]
  apply wp_get
  unfold f_m_handNow
  refine wp_bindE (s_in _ _ _) ?_
  by_cases g1 : wi c 0 (nI C - 1) = 0
  · refine wp_pos g1 (wp_some ?_)
    rw [wi_iff, e0, hC1, hc] at g1
    by_cases q : 0 ≤ a ∧ a < 5 ∧ 0 ≤ b ∧ b < 8
    · rw [if_pos q]
      refine Classical.byContradiction fun hx => ?_
      have := hcw (8 * a + b).toNat (by omega) (fun z => hx z.symm)
      omega
    · rw [if_neg q]
  · refine wp_neg g1 ?_
    have g1' := wi_yes g1
    rw [Int32.le_iff_toInt_le, Int32.le_iff_toInt_le, e0, hC1, hc] at g1'
    refine wp_bindE (s_in _ _ _) ?_
    by_cases g2 : wi j 0 (nI W - 1) = 0
    · refine wp_pos g2 (wp_some ?_)
      rw [wi_iff, e0, hW1, hj] at g2
      by_cases q : 0 ≤ a ∧ a < 5 ∧ 0 ≤ b ∧ b < 8
      · rw [if_pos q]
        refine Classical.byContradiction fun hx => ?_
        have := hcw (8 * a + b).toNat (by omega) (fun z => hx z.symm)
        omega
      · rw [if_neg q]
    · refine wp_neg g2 ?_
      have g2' := wi_yes g2
      rw [Int32.le_iff_toInt_le, Int32.le_iff_toInt_le, e0, hW1, hj] at g2'
      have ec : c = nI a.toNat := Int32.toInt_inj.mp (by rw [nI_toInt (by omega), hc]; omega)
      have ej : j = nI b.toNat := Int32.toInt_inj.mp (by rw [nI_toInt (by omega), hj]; omega)
      have e8 : (8 : Int32) * c + j = nI (8 * a + b).toNat := by
        rw [ec, ej, show (8 : Int32) = nI 8 from rfl, nI_mulI, nI_addI]
        congr 1
        omega
      rw [e8]
      refine wp_gd (inbN (by omega) (by decide)) (wp_some ?_)
      rw [nI_clamp (by omega), if_pos (by omega)]
def vL (w : Wl) (p : Nat) : Int32 := if 1 ≤ p % 8 then w (p - 1) else -1
def vR (w : Wl) (p : Nat) : Int32 := if p % 8 ≤ 6 then w (p + 1) else -1
def vB (w : Wl) (p : Nat) : Int32 := if 8 ≤ p then w (p - 8) else -1
def vA (w : Wl) (p : Nat) : Int32 := if p < 32 then w (p + 8) else -1
def vBL (w : Wl) (p : Nat) : Int32 := if 8 ≤ p ∧ 1 ≤ p % 8 then w (p - 9) else -1
def vBR (w : Wl) (p : Nat) : Int32 := if 8 ≤ p ∧ p % 8 ≤ 6 then w (p - 7) else -1
theorem toI_m1 {k : Nat} (hk : k < 100) : (nI k - 1).toInt = (k : Int) - 1 := by
  rw [toI_sub (by rw [nI_toInt (by omega)]; omega) (by rw [nI_toInt (by omega)]; omega) (by decide) (by decide), nI_toInt (by omega)]
  rfl
theorem toI_p1 {k : Nat} (hk : k < 100) : (nI k + 1).toInt = (k : Int) + 1 := by
  rw [show nI k + 1 = nI (k + 1) from (nI_succ k).symm, nI_toInt (by omega)]
  omega
theorem hn_0 {C W : Nat} (hC : C ≤ 5) (hW : W ≤ 8) {w : Wl} (hcw : inCW C W w) {p : Nat} (hp : p < 40) : f_m_handNow (nI C) (nI W) w (nI (p / 8)) (nI (p % 8)) = some (w p) := by
  rw [s_handNow hC hW hcw (nI_toInt (by omega)) (nI_toInt (by omega)) (by omega) (by omega), if_pos (by omega)]
  congr 2
  omega
theorem hn_L {C W : Nat} (hC : C ≤ 5) (hW : W ≤ 8) {w : Wl} (hcw : inCW C W w) {p : Nat} (hp : p < 40) : f_m_handNow (nI C) (nI W) w (nI (p / 8)) (nI (p % 8) - 1) = some (vL w p) := by
  rw [s_handNow hC hW hcw (nI_toInt (by omega)) (toI_m1 (by omega)) (by omega) (by omega)]
  unfold vL
  by_cases h : 1 ≤ p % 8
  · rw [if_pos (by omega), if_pos h]; congr 2; omega
  · rw [if_neg (by omega), if_neg h]
theorem hn_R {C W : Nat} (hC : C ≤ 5) (hW : W ≤ 8) {w : Wl} (hcw : inCW C W w) {p : Nat} (hp : p < 40) : f_m_handNow (nI C) (nI W) w (nI (p / 8)) (nI (p % 8) + 1) = some (vR w p) := by
  rw [s_handNow hC hW hcw (nI_toInt (by omega)) (toI_p1 (by omega)) (by omega) (by omega)]
  unfold vR
  by_cases h : p % 8 ≤ 6
  · rw [if_pos (by omega), if_pos h]; congr 2; omega
  · rw [if_neg (by omega), if_neg h]
theorem hn_B {C W : Nat} (hC : C ≤ 5) (hW : W ≤ 8) {w : Wl} (hcw : inCW C W w) {p : Nat} (hp : p < 40) : f_m_handNow (nI C) (nI W) w (nI (p / 8) - 1) (nI (p % 8)) = some (vB w p) := by
  rw [s_handNow hC hW hcw (toI_m1 (by omega)) (nI_toInt (by omega)) (by omega) (by omega)]
  unfold vB
  by_cases h : 8 ≤ p
  · rw [if_pos (by omega), if_pos h]; congr 2; omega
  · rw [if_neg (by omega), if_neg h]
theorem hn_A {C W : Nat} (hC : C ≤ 5) (hW : W ≤ 8) {w : Wl} (hcw : inCW C W w) {p : Nat} (hp : p < 40) : f_m_handNow (nI C) (nI W) w (nI (p / 8) + 1) (nI (p % 8)) = some (vA w p) := by
  rw [s_handNow hC hW hcw (toI_p1 (by omega)) (nI_toInt (by omega)) (by omega) (by omega)]
  unfold vA
  by_cases h : p < 32
  · rw [if_pos (by omega), if_pos h]; congr 2; omega
  · rw [if_neg (by omega), if_neg h]
theorem hn_BL {C W : Nat} (hC : C ≤ 5) (hW : W ≤ 8) {w : Wl} (hcw : inCW C W w) {p : Nat} (hp : p < 40) : f_m_handNow (nI C) (nI W) w (nI (p / 8) - 1) (nI (p % 8) - 1) = some (vBL w p) := by
  rw [s_handNow hC hW hcw (toI_m1 (by omega)) (toI_m1 (by omega)) (by omega) (by omega)]
  unfold vBL
  by_cases h : 8 ≤ p ∧ 1 ≤ p % 8
  · rw [if_pos (by omega), if_pos h]; congr 2; omega
  · rw [if_neg (by omega), if_neg h]
theorem hn_BR {C W : Nat} (hC : C ≤ 5) (hW : W ≤ 8) {w : Wl} (hcw : inCW C W w) {p : Nat} (hp : p < 40) : f_m_handNow (nI C) (nI W) w (nI (p / 8) - 1) (nI (p % 8) + 1) = some (vBR w p) := by
  rw [s_handNow hC hW hcw (toI_m1 (by omega)) (toI_p1 (by omega)) (by omega) (by omega)]
  unfold vBR
  by_cases h : 8 ≤ p ∧ p % 8 ≤ 6
  · rw [if_pos (by omega), if_pos h]; congr 2; omega
  · rw [if_neg (by omega), if_neg h]
def fS (x : Int32) : Bool := !decide (x = -1)
/-- is a place borne, by the wall as it stands -/
def bor (w : Wl) (p : Nat) : Bool := decide (p < 8) || (fS (vB w p) || (fS (vBL w p) && fS (vBR w p)))
theorem s_isBorne {C W : Nat} (hC : C ≤ 5) (hW : W ≤ 8) {w : Wl} (hcw : inCW C W w) {p : Nat} (hp : p < 40) : f_m_isBorne (nI C) (nI W) w (nI (p / 8)) (nI (p % 8)) = some (b2i (bor w p)) := by
  have h0 : nI (p / 8) = 0 ↔ p < 8 := by
    rw [show (0 : Int32) = nI 0 from rfl, nI_eqI (by omega) (by decide)]
    omega
  have h51 : ∀ b d : Bool, f_m_isBorne_N51 (nI C) (nI W) w (nI (p / 8)) (b2i b) (b2i d) = some (b2i (decide (p < 8) || (b || d))) := by
    intro b d
    unfold f_m_isBorne_N51
    by_cases q : p < 8
    · rw [if_pos (h0.mpr q), decide_eq_true q]; rfl
    · rw [if_neg (fun z => q (h0.mp z)), decide_eq_false q]
      cases b <;> cases d <;> rfl
  have h17 : ∀ b : Bool, f_m_isBorne_N17 (nI C) (nI W) w (nI (p / 8)) (nI (p % 8)) (b2i b) = some (b2i (decide (p < 8) || (b || (fS (vBL w p) && fS (vBR w p))))) := by
    intro b
    unfold f_m_isBorne_N17 f_m_isBorne_N50
    rw [hn_BL hC hW hcw hp]
    show (if vBL w p = -1 then _ else _) = _
    by_cases q1 : vBL w p = -1
    · rw [if_pos q1]
      refine (h51 b false).trans ?_
      unfold fS
      simp [q1]
    · rw [if_neg q1, hn_BR hC hW hcw hp]
      show (if vBR w p = -1 then _ else _) = _
      by_cases q2 : vBR w p = -1
      · rw [if_pos q2]
        refine (h51 b false).trans ?_
        unfold fS
        simp [q2]
      · rw [if_neg q2]
        refine (h51 b true).trans ?_
        unfold fS
        simp [q1, q2]
  unfold f_m_isBorne
  rw [hn_B hC hW hcw hp]
  show (if vB w p = -1 then _ else _) = _
  unfold bor
  by_cases q : vB w p = -1
  · rw [if_pos q]
    refine (h17 false).trans ?_
    congr 3
    unfold fS
    simp [q]
  · rw [if_neg q]
    refine (h17 true).trans ?_
    congr 3
    have : fS (vB w p) = true := by unfold fS; simp [q]
    rw [this]
/-! neighbours by their values -/
def fH (h : Nat) (x : Int32) : Bool := decide (x = nI h)
def fU (h : Nat) (x : Int32) : Bool := fS x && !fH h x
def fM (n : Nat) (mood : Nat → Int32) (m : Int32) (x : Int32) : Bool := anyB (fun h => decide (mood h = m) && decide (x = nI h)) n
def fL (n : Nat) (mood : Nat → Int32) (h : Nat) (x : Int32) : Bool := fM n mood 2 x && !fH h x
def nv (f : Int32 → Bool) (w : Wl) (p : Nat) : Nat := b2n (f (vL w p)) + b2n (f (vR w p)) + b2n (f (vB w p)) + b2n (f (vA w p))
theorem nb_nv {s : Nat → Bool} {f : Int32 → Bool} {w : Wl} (hs : ∀ q, s q = (decide (q < 40) && f (w q))) (hf : f (-1) = false) {p : Nat} (hp : p < 40) : nb s p = nv f w p := by
  have e1 : nbL s p = f (vL w p) := by
    unfold nbL vL
    by_cases h : 1 ≤ p % 8
    · rw [if_pos h, decide_eq_true h, hs, decide_eq_true (by omega)]; rfl
    · rw [if_neg h, decide_eq_false h, hf]; rfl
  have e2 : nbR s p = f (vR w p) := by
    unfold nbR vR
    by_cases h : p % 8 ≤ 6
    · rw [if_pos h, decide_eq_true h, hs, decide_eq_true (by omega)]; rfl
    · rw [if_neg h, decide_eq_false h, hf]; rfl
  have e3 : nbB s p = f (vB w p) := by
    unfold nbB vB
    by_cases h : 8 ≤ p
    · rw [if_pos h, decide_eq_true h, hs, decide_eq_true (by omega)]; rfl
    · rw [if_neg h, decide_eq_false h, hf]; rfl
  have e4 : nbA s p = f (vA w p) := by
    unfold nbA vA
    rw [hs]
    by_cases h : p < 32
    · rw [if_pos h, decide_eq_true (by omega)]; rfl
    · rw [if_neg h, decide_eq_false (by omega), hf]; rfl
  unfold nb nv
  rw [e1, e2, e3, e4]
theorem fH_m1 {h : Nat} (hh : h < 8) : fH h (-1) = false := decide_eq_false (fun e => nI_ne1 (show h < 2 ^ 31 by omega) e.symm)
theorem fS_m1 : fS (-1) = false := by decide
theorem fM_m1 {n : Nat} (hn : n ≤ 8) (mood : Nat → Int32) (m : Int32) : fM n mood m (-1) = false := by
  cases hq : fM n mood m (-1) with
  | false => rfl
  | true =>
    obtain ⟨k, hk, e⟩ := (anyB_iff _ _).mp hq
    have := (Bool.and_eq_true_iff.mp e).2
    rw [decide_eq_true_eq] at this
    exact absurd this.symm (nI_ne1 (by omega))
theorem ofM_f (n : Nat) (mood : Nat → Int32) (m : Int32) (w : Wl) (q : Nat) : ofM n mood m w q = (decide (q < 40) && fM n mood m (w q)) := by
  unfold ofM fM
  by_cases h : q < 40
  · rw [decide_eq_true h, Bool.true_and]
    exact anyB_cong (fun k _ => by unfold isH; rw [decide_eq_true h, Bool.true_and])
  · rw [decide_eq_false h, Bool.false_and]
    cases hq : anyB (fun h => decide (mood h = m) && isH w h q) n with
    | false => rfl
    | true =>
      obtain ⟨k, hk, e⟩ := (anyB_iff _ _).mp hq
      have := (Bool.and_eq_true_iff.mp e).2
      rw [isH_big (by omega)] at this
      cases this
theorem nb_H {w : Wl} {h p : Nat} (hh : h < 8) (hp : p < 40) : nb (isH w h) p = nv (fH h) w p := nb_nv (fun _ => rfl) (fH_m1 hh) hp
theorem nb_U {w : Wl} {h p : Nat} (hp : p < 40) : nb (fun q => isS w q && !isH w h q) p = nv (fU h) w p := nb_nv (fun q => by
  unfold isS isH fU fS fH
  by_cases hq : q < 40
  · simp [hq]
  · simp [hq]) (by unfold fU; rw [fS_m1, Bool.false_and]) hp
theorem nb_Lv {n : Nat} (hn : n ≤ 8) {mood : Nat → Int32} {w : Wl} {h p : Nat} (hp : p < 40) : nb (fun q => ofM n mood 2 w q && !isH w h q) p = nv (fL n mood h) w p := nb_nv (fun q => by
  unfold isH fL fH
  rw [ofM_f]
  by_cases hq : q < 40
  · simp [hq]
  · simp [hq]) (by unfold fL; rw [fM_m1 hn, Bool.false_and]) hp
def vok (x : Int32) : Prop := x = -1 ∨ ∃ h, h < 8 ∧ x = nI h
theorem v_ok {w : Wl} (hw : wok w) {p : Nat} (hp : p < 40) : vok (vL w p) ∧ vok (vR w p) ∧ vok (vB w p) ∧ vok (vA w p) := by
  refine ⟨?_, ?_, ?_, ?_⟩
  · unfold vL; by_cases h : 1 ≤ p % 8
    · rw [if_pos h]; exact hw _ (by omega)
    · rw [if_neg h]; exact Or.inl rfl
  · unfold vR; by_cases h : p % 8 ≤ 6
    · rw [if_pos h]; exact hw _ (by omega)
    · rw [if_neg h]; exact Or.inl rfl
  · unfold vB; by_cases h : 8 ≤ p
    · rw [if_pos h]; exact hw _ (by omega)
    · rw [if_neg h]; exact Or.inl rfl
  · unfold vA; by_cases h : p < 32
    · rw [if_pos h]; exact hw _ (by omega)
    · rw [if_neg h]; exact Or.inl rfl
theorem s_alike (h : Nat) (x : Int32) : f_m_alike (nI h) x = some (b2i (fH h x)) := by
  unfold f_m_alike fH
  by_cases e : x = nI h
  · rw [if_pos e, decide_eq_true e]; rfl
  · rw [if_neg e, decide_eq_false e]; rfl
theorem s_unlike (h : Nat) (x : Int32) : f_m_unlike (nI h) x = some (b2i (fU h x)) := by
  unfold f_m_unlike fU fS fH
  by_cases e : x = -1
  · rw [if_pos e, decide_eq_true e]; rfl
  · rw [if_neg e, decide_eq_false e]
    by_cases e2 : x = nI h
    · rw [if_pos e2, decide_eq_true e2]; rfl
    · rw [if_neg e2, decide_eq_false e2]; rfl
theorem fM_at {n : Nat} {mood : Nat → Int32} {m : Int32} {k : Nat} (hk : k < 8) (hn : n ≤ 8) : fM n mood m (nI k) = (decide (k < n) && decide (mood k = m)) := by
  rw [Bool.eq_iff_iff]
  unfold fM
  rw [anyB_iff, Bool.and_eq_true_iff, decide_eq_true_eq, decide_eq_true_eq]
  constructor
  · rintro ⟨h, hh, e⟩
    rw [Bool.and_eq_true_iff, decide_eq_true_eq, decide_eq_true_eq] at e
    have : k = h := (nI_eqI (by omega) (by omega)).mp e.2
    subst this
    exact ⟨hh, e.1⟩
  · rintro ⟨h1, h2⟩
    exact ⟨k, h1, by rw [decide_eq_true h2, decide_eq_true rfl]; rfl⟩
theorem s_isLover {n : Nat} (hn : n ≤ 8) {mood : Nat → Int32} {x : Int32} (hx : vok x) : f_m_isLover (nI n) mood x = some (b2i (fM n mood 2 x)) := by
  unfold f_m_isLover
  rcases hx with e | ⟨k, hk, e⟩
  · subst e
    rw [if_pos rfl, fM_m1 hn]
    rfl
  · subst e
    rw [if_neg (nI_ne1 (by omega)), fM_at hk hn]
    by_cases g : nI n ≤ nI k
    · have g' := (nI_leX (a := n) (b := k) (by omega) (by omega)).mp g
      rw [if_pos g, decide_eq_false (by omega)]
      rfl
    · have g' : ¬ n ≤ k := fun q => g ((nI_leX (by omega) (by omega)).mpr q)
      rw [if_neg g, inbN (show k < 9 by omega) (by decide), decide_eq_true (by omega), nI_clamp (by omega)]
      show (if _ then _ else _) = _
      by_cases e : mood k = 2
      · rw [if_pos e, decide_eq_true e]; rfl
      · rw [if_neg e, decide_eq_false e]; rfl
theorem s_loves {n : Nat} (hn : n ≤ 8) {mood : Nat → Int32} (h : Nat) {x : Int32} (hx : vok x) : f_m_loves (nI n) mood (nI h) x = some (b2i (fL n mood h x)) := by
  unfold f_m_loves fL fH
  by_cases e : x = nI h
  · rw [if_pos e, decide_eq_true e, Bool.not_true, Bool.and_false]; rfl
  · rw [if_neg e, decide_eq_false e, s_isLover hn hx]
    cases fM n mood 2 x <;> rfl
