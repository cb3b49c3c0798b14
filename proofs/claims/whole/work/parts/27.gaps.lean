/-! GAPS THAT ARE MENDED; WHERE SHEEP GET THROUGH -/
theorem upd_at (f : Nat → Int32) (i : Nat) (x : Int32) (j : Nat) : upd f i x j = if j = i then x else f j := rfl
def fg (w : Wl) (col : Nat) (v : Int32) : Nat → Nat → Wl × Bool
  | 0, _ => (w, false)
  | m + 1, c => if w (8 * c + col) = -1 then (upd w (8 * c + col) v, true) else fg w col v m (c + 1)
theorem fg_s (w : Wl) (col : Nat) (v : Int32) (m c : Nat) : fg w col v (m + 1) c = if w (8 * c + col) = -1 then (upd w (8 * c + col) v, true) else fg w col v m (c + 1) := rfl
theorem isS_at {w : Wl} {p : Nat} (hp : p < 40) : isS w p = false ↔ w p = -1 := by
  unfold isS
  rw [decide_eq_true hp, Bool.true_and]
  by_cases h : w p = -1
  · simp [h]
  · simp [h]
theorem bl_one {q : Nat} (hq : q < 64) (p : Nat) : bl (lshl (1 : Int64) (nI q)) p = decide (p = q) := by
  rw [bl_shl hq, bl_1, Bool.eq_iff_iff]
  simp only [Bool.and_eq_true_iff, decide_eq_true_eq]
  omega
theorem and_one {x : Int64} {q : Nat} (hq : q < 64) : x &&& (lshl (1 : Int64) (nI q)) = 0 ↔ bl x q = false := by
  rw [bl_eq0]
  constructor
  · intro h
    have := h q hq
    rw [bl_and, bl_one hq, decide_eq_true rfl, Bool.and_true] at this
    exact this
  · intro h i hi
    rw [bl_and, bl_one hq]
    by_cases e : i = q
    · subst e; rw [h, Bool.false_and]
    · rw [decide_eq_false e, Bool.and_false]
theorem isS_upd {w : Wl} {q h : Nat} (hh : h < 8) (hq : q < 40) (p : Nat) : isS (upd w q (nI h)) p = (isS w p || decide (p = q)) := by
  unfold isS
  rw [upd_at]
  by_cases e : p = q
  · subst e
    rw [if_pos rfl, decide_eq_true hq, decide_eq_false (nI_ne1 (show h < 2 ^ 31 by omega))]
    simp
  · rw [if_neg e, decide_eq_false e, Bool.or_false]
theorem isH_upd {w : Wl} {q h k : Nat} (hh : h < 8) (hk : k < 8) (hq : q < 40) (hw : w q = -1) (p : Nat) : isH (upd w q (nI h)) k p = (isH w k p || (decide (p = q) && decide (k = h))) := by
  unfold isH
  rw [upd_at]
  by_cases e : p = q
  · subst e
    have n1 : ¬ (-1 : Int32) = nI k := fun z => nI_ne1 (show k < 2 ^ 31 by omega) z.symm
    rw [if_pos rfl, hw, decide_eq_false n1, decide_eq_true hq, Bool.eq_iff_iff]
    simp only [Bool.and_eq_true_iff, Bool.or_eq_true_iff, decide_eq_true_eq]
    constructor
    · rintro ⟨-, z⟩
      exact Or.inr ⟨trivial, ((nI_eqI (by omega) (by omega)).mp z).symm⟩
    · rintro (⟨-, z⟩ | ⟨-, z⟩)
      · cases z
      · exact ⟨trivial, by rw [z]⟩
  · rw [if_neg e, decide_eq_false e]
    simp
theorem wok_upd {w : Wl} (hw : wok w) {q h : Nat} (hh : h < 8) : wok (upd w q (nI h)) := by
  intro p hp
  rw [upd_at]
  by_cases e : p = q
  · rw [if_pos e]; exact Or.inr ⟨h, hh, rfl⟩
  · rw [if_neg e]; exact hw p hp
theorem wok_fg {w : Wl} (hw : wok w) {col h : Nat} (hh : h < 8) : ∀ m c, wok (fg w col (nI h) m c).1
  | 0, _ => hw
  | m + 1, c => by
    unfold fg
    by_cases e : w (8 * c + col) = -1
    · rw [if_pos e]; exact wok_upd hw hh
    · rw [if_neg e]; exact wok_fg hw hh m (c + 1)
theorem fg_no {w : Wl} {col : Nat} {v : Int32} : ∀ m c, (fg w col v m c).2 = false → (fg w col v m c).1 = w
  | 0, _, _ => rfl
  | m + 1, c, h => by
    unfold fg at h ⊢
    by_cases e : w (8 * c + col) = -1
    · rw [if_pos e] at h; cases h
    · rw [if_neg e] at h ⊢
      exact fg_no m (c + 1) h
theorem s_fillGap {C col h : Nat} (hC : C ≤ 5) (hcol : col < 8) (hh : h < 8) {all : Int64} {now : Nat → Int64} {w : Wl} (hr : rep now w) (ha : repA all w) : wp (f_ys_fillGap all (nI C) now (nI col) (nI h)) (fun r => r.1 = (if (fg w col (nI h) C 0).2 then 1 else 0) ∧ repA r.2.1 (fg w col (nI h) C 0).1 ∧ rep r.2.2 (fg w col (nI h) C 0).1) := by
  unfold f_ys_fillGap
  refine wl_ys_fillGap_N2 (fun k a0 a1 x1 x2 x3 => a0 = all ∧ a1 = now ∧ x1 = nI col ∧ x2 = nI h ∧ ∃ c, x3 = nI c ∧ c ≤ C ∧ k = C - c ∧ fg w col (nI h) (C - c) c = fg w col (nI h) C 0) ?_ 1000 C _ _ _ _ _ (by omega) ⟨rfl, rfl, rfl, rfl, 0, rfl, by omega, rfl, rfl⟩
  rintro k k2 ih a0 a1 x1 x2 x3 ⟨rfl, rfl, rfl, rfl, c, rfl, hc, rfl, hfg⟩
  unfold f_ys_fillGap_N2
  refine wp_ite (fun g => ?_) (fun g => ?_)
  · have g' := (nI_leX (a := C) (b := c) (by omega) (by omega)).mp g
    have e : c = C := by omega
    subst e
    rw [Nat.sub_self] at hfg
    rw [← hfg]
    exact wp_some ⟨rfl, ha, hr⟩
  · have g' : ¬ C ≤ c := fun q => g ((nI_leX (a := C) (b := c) (by omega) (by omega)).mpr q)
    have e1 : nI c + 1 = nI (c + 1) := (nI_succ c).symm
    have e8 : (8 : Int32) * nI c + nI col = nI (8 * c + col) := by rw [show (8 : Int32) = nI 8 from rfl, nI_mulI, nI_addI]
    have hq : 8 * c + col < 40 := by omega
    rw [e8, e1]
    rw [show C - c = (C - (c + 1)) + 1 by omega] at hfg
    rw [fg_s] at hfg
    refine wp_ite (fun g1 => ?_) (fun g1 => ?_)
    · rw [cmp0, and_one (by omega), ha, isS_at hq] at g1
      rw [if_pos g1] at hfg
      rw [← hfg]
      refine wp_gd (inbN hh (by decide)) (wp_gd (inbN hh (by decide)) (wp_some ⟨rfl, fun p => ?_, fun k hk p => ?_⟩))
      · show bl (a0 ||| _) p = isS (upd w _ _) p
        rw [bl_or, bl_one (by omega), ha, isS_upd hh hq]
      · show bl (if k = (nI h).toNatClampNeg then _ else a1 k) p = isH (upd w _ _) k p
        rw [nI_clamp (show h < 2 ^ 31 by omega), isH_upd hh hk hq g1]
        by_cases e : k = h
        · subst e
          rw [if_pos rfl, bl_or, bl_one (by omega), hr k hk, decide_eq_true rfl, Bool.and_true]
        · rw [if_neg e, hr k hk, decide_eq_false e, Bool.and_false, Bool.or_false]
    · rw [cmp0, and_one (by omega), ha] at g1
      have g1' : ¬ w (8 * c + col) = -1 := fun z => g1 ((isS_at hq).mpr z)
      rw [if_neg g1'] at hfg
      exact ih (C - (c + 1)) _ _ _ _ _ (by omega) ⟨rfl, rfl, rfl, rfl, c + 1, rfl, by omega, rfl, hfg⟩
def gps (C W : Nat) (gy gc gh : Nat → Int32) (y : Int32) (t0 : Wl × Bool) : Nat → Wl × Bool
  | 0 => t0
  | k + 1 => if gy k = y ∧ gc k < nI W then ((fg (gps C W gy gc gh y t0 k).1 (gc k).toNatClampNeg (gh k) C 0).1, (gps C W gy gc gh y t0 k).2 || (fg (gps C W gy gc gh y t0 k).1 (gc k).toNatClampNeg (gh k) C 0).2) else gps C W gy gc gh y t0 k
theorem gps_no {C W : Nat} {gy gc gh : Nat → Int32} {y : Int32} {w : Wl} : ∀ k, (gps C W gy gc gh y (w, false) k).2 = false → (gps C W gy gc gh y (w, false) k).1 = w
  | 0, _ => rfl
  | k + 1, h => by
    unfold gps at h ⊢
    by_cases hc : gy k = y ∧ gc k < nI W
    · rw [if_pos hc] at h ⊢
      obtain ⟨h1, h2⟩ := Bool.or_eq_false_iff.mp h
      have e := gps_no k h1
      rw [e] at h2 ⊢
      exact fg_no C 0 h2
    · rw [if_neg hc] at h ⊢
      exact gps_no k h
def gOk (gn : Nat) (gc gh : Nat → Int32) : Prop := ∀ k, k < gn → (∃ c, c < 8 ∧ gc k = nI c) ∧ ∃ h, h < 8 ∧ gh k = nI h
theorem wok_gps {C W : Nat} {gy gc gh : Nat → Int32} {y : Int32} {t0 : Wl × Bool} (hw : wok t0.1) {gn : Nat} (hg : gOk gn gc gh) : ∀ k, k ≤ gn → wok (gps C W gy gc gh y t0 k).1
  | 0, _ => hw
  | k + 1, hk => by
    unfold gps
    by_cases hc : gy k = y ∧ gc k < nI W
    · rw [if_pos hc]
      obtain ⟨-, h, hh, eh⟩ := hg k (by omega)
      rw [eh]
      exact wok_fg (wok_gps hw hg k (by omega)) hh C 0
    · rw [if_neg hc]
      exact wok_gps hw hg k (by omega)
theorem s_fillGaps {C W gn : Nat} (hC : C ≤ 5) (hW : W ≤ 8) (hgn : gn ≤ 7) {gy gc gh : Nat → Int32} (hg : gOk gn gc gh) {y : Int32} {all : Int64} {now : Nat → Int64} {w : Wl} (hr : rep now w) (ha : repA all w) : wp (f_ys_fillGaps all (nI C) (nI W) (nI gn) gy gc gh now y) (fun r => r.1 = (if (gps C W gy gc gh y (w, false) gn).2 then 1 else 0) ∧ repA r.2.1 (gps C W gy gc gh y (w, false) gn).1 ∧ rep r.2.2 (gps C W gy gc gh y (w, false) gn).1) := by
  unfold f_ys_fillGaps
  refine wl_ys_fillGaps_N4 (fun m a0 a1 x1 x2 x3 => x1 = y ∧ ∃ k, x3 = nI k ∧ k ≤ gn ∧ m = gn - k ∧ (x2 = if (gps C W gy gc gh y (w, false) k).2 then 1 else 0) ∧ repA a0 (gps C W gy gc gh y (w, false) k).1 ∧ rep a1 (gps C W gy gc gh y (w, false) k).1) ?_ 1000 gn _ _ _ _ _ (by omega) ⟨rfl, 0, rfl, by omega, rfl, rfl, ha, hr⟩
  rintro m k4 ih a0 a1 x1 x2 x3 ⟨rfl, k, rfl, hk, rfl, h2, hA, hR⟩
  unfold f_ys_fillGaps_N4
  refine wp_ite (fun g => ?_) (fun g => ?_)
  · have g' := (nI_leX (a := gn) (b := k) (by omega) (by omega)).mp g
    have e : k = gn := by omega
    subst e
    refine wp_gd ?_ (wp_some ⟨h2, hA, hR⟩)
    rw [h2]
    cases (gps C W gy gc gh x1 (w, false) k).2 <;> decide
  · have g' : ¬ gn ≤ k := fun q => g ((nI_leX (a := gn) (b := k) (by omega) (by omega)).mpr q)
    have e1 : nI k + 1 = nI (k + 1) := (nI_succ k).symm
    have hin : inb (nI k) 7 = true := inbN (by omega) (by decide)
    obtain ⟨⟨c, hc8, ec⟩, h, hh, eh⟩ := hg k (by omega)
    refine wp_gd hin ?_
    rw [nI_clamp (show k < 2 ^ 31 by omega), e1]
    have hstep : gps C W gy gc gh x1 (w, false) (k + 1) = if gy k = x1 ∧ gc k < nI W then ((fg (gps C W gy gc gh x1 (w, false) k).1 (gc k).toNatClampNeg (gh k) C 0).1, (gps C W gy gc gh x1 (w, false) k).2 || (fg (gps C W gy gc gh x1 (w, false) k).1 (gc k).toNatClampNeg (gh k) C 0).2) else gps C W gy gc gh x1 (w, false) k := rfl
    have hskip : ¬ (gy k = x1 ∧ gc k < nI W) → wp (k4 a0 a1 x1 x2 (nI (k + 1))) _ := fun hc => ih (gn - (k + 1)) _ _ _ _ _ (by omega) ⟨rfl, k + 1, rfl, by omega, rfl, by rw [hstep, if_neg hc]; exact h2, by rw [hstep, if_neg hc]; exact hA, by rw [hstep, if_neg hc]; exact hR⟩
    refine wp_ite (fun g1 => ?_) (fun g1 => hskip (fun hc => g1 hc.1))
    refine wp_gd hin ?_
    refine wp_ite (fun g2 => hskip (fun hc => Int32.not_lt.mpr g2 hc.2)) (fun g2 => ?_)
    refine wp_gd hin (wp_gd hin ?_)
    have hcc : gy k = x1 ∧ gc k < nI W := ⟨g1, Int32.not_le.mp g2⟩
    rw [if_pos hcc] at hstep
    rw [ec, eh, nI_clamp (show c < 2 ^ 31 by omega)] at hstep
    rw [ec, eh]
    refine wp_bind (s_fillGap hC hc8 hh hR hA) (fun r hr3 => ?_)
    refine ih (gn - (k + 1)) _ _ _ _ _ (by omega) ⟨rfl, k + 1, rfl, by omega, rfl, ?_, by rw [hstep]; exact hr3.2.1, by rw [hstep]; exact hr3.2.2⟩
    rw [hstep, h2, hr3.1]
    show (_ ||| _) = if (_ || _) = true then (1 : Int32) else 0
    cases (gps C W gy gc gh x1 (w, false) k).2 <;> cases (fg (gps C W gy gc gh x1 (w, false) k).1 c (nI h) C 0).2 <;> decide
/-! columns -/
def colAny (f : Nat → Bool) (c : Nat) : Bool := anyB (fun k => f (8 * k + c)) 5
def colCnt (f : Nat → Bool) (c : Nat) : Nat := bct (fun k => f (8 * k + c)) 5
theorem bct_one (g : Nat → Bool) (c : Nat) : ∀ n, bct (fun j => g j && decide (j = c)) n = if c < n then (if g c then 1 else 0) else 0
  | 0 => by rw [if_neg (Nat.not_lt_zero c)]; rfl
  | n + 1 => by
    show bct _ n + (if (g n && decide (n = c)) then 1 else 0) = _
    rw [bct_one g c n]
    by_cases e : n = c
    · subst e
      rw [if_neg (Nat.lt_irrefl n), if_pos (Nat.lt_succ_self n)]
      simp
    · rw [decide_eq_false e, Bool.and_false, if_neg (by decide : ¬ false = true), Nat.add_zero]
      by_cases h : c < n
      · rw [if_pos h, if_pos (show c < n + 1 by omega)]
      · rw [if_neg h, if_neg (show ¬ c < n + 1 by omega)]
theorem bct_col (f : Nat → Bool) {c : Nat} (hc : c < 8) : ∀ m, bct (fun p => f p && decide (p % 8 = c)) (8 * m) = bct (fun k => f (8 * k + c)) m
  | 0 => rfl
  | m + 1 => by
    rw [show 8 * (m + 1) = 8 * m + 8 by omega, bct_split, bct_col f hc m]
    show _ = bct _ m + (if f (8 * m + c) then 1 else 0)
    congr 1
    have e : bct (fun k => f (8 * m + k) && decide ((8 * m + k) % 8 = c)) 8 = bct (fun k => f (8 * m + k) && decide (k = c)) 8 := bct_cong (fun k hk => by
      congr 1
      rw [decide_eq_decide]
      omega)
    rw [e, bct_one (fun k => f (8 * m + k)) c 8, if_pos hc]
theorem bl_col {c : Nat} (hc : c < 8) {p : Nat} (hp : p < 40) : bl (lshl (4311810305 : Int64) (nI c)) p = decide (p % 8 = c) := by
  rw [bl_shl (by omega), bl_fc, Bool.eq_iff_iff]
  simp only [Bool.and_eq_true_iff, decide_eq_true_eq]
  omega
theorem col_cnt {x : Int64} {f : Nat → Bool} (hx : ∀ p, bl x p = f p) (hf : ∀ p, 40 ≤ p → f p = false) {c : Nat} (hc : c < 8) : bct (bl (x &&& lshl (4311810305 : Int64) (nI c))) 64 = colCnt f c := by
  unfold colCnt
  rw [← bct_col f hc 5]
  refine bct_ext (n := 40) (m := 64) (by decide) (fun k hk => ?_) (fun k hk _ => ?_)
  · rw [bl_and, hx, bl_col hc hk]
  · rw [bl_and, hx, hf k hk, Bool.false_and]
theorem col_any {x : Int64} {f : Nat → Bool} (hx : ∀ p, bl x p = f p) (hf : ∀ p, 40 ≤ p → f p = false) {c : Nat} (hc : c < 8) : (x &&& lshl (4311810305 : Int64) (nI c)) = 0 ↔ colAny f c = false := by
  rw [bl_eq0]
  constructor
  · intro h
    cases hq : colAny f c with
    | false => rfl
    | true =>
      obtain ⟨k, hk, e⟩ := (anyB_iff _ _).mp hq
      have := h (8 * k + c) (by omega)
      rw [bl_and, hx, e, bl_col hc (by omega), decide_eq_true (by omega)] at this
      cases this
  · intro h i hi
    rw [bl_and, hx]
    by_cases h40 : i < 40
    · rw [bl_col hc h40]
      by_cases e : i % 8 = c
      · cases hq : f i with
        | false => rfl
        | true =>
          have : colAny f c = true := (anyB_iff _ _).mpr ⟨i / 8, by omega, by rw [show 8 * (i / 8) + c = i by omega]; exact hq⟩
          rw [h] at this
          cases this
      · rw [decide_eq_false e, Bool.and_false]
    · rw [hf i (by omega), Bool.false_and]
/-- do sheep get through in a column -/
def thr (n : Nat) (mood : Nat → Int32) (jump : Nat) (w : Wl) (c : Nat) : Bool := !colAny (ofM n mood 1 w) c && decide (colCnt (isS w) c < (if colAny (ofM n mood 2 w) c then jump + 1 else jump))
theorem ofM_big {n : Nat} (hn : n ≤ 8) {mood : Nat → Int32} {m : Int32} {w : Wl} {p : Nat} (hp : 40 ≤ p) : ofM n mood m w p = false := by
  cases hq : ofM n mood m w p with
  | false => rfl
  | true =>
    have := ofM_S hn hq
    rw [isS_big hp] at this
    cases this
theorem s_openColumns {n W jump : Nat} (hn : n ≤ 8) (hW : W ≤ 8) (hj : jump ≤ 5) {mood : Nat → Int32} {all : Int64} {now : Nat → Int64} {w : Wl} (hr : rep now w) (ha : repA all w) : wp (f_ys_openColumns all (nI W) (nI jump) (nI n) mood now) (fun r => ∀ i, i < 32 → bt r i = (decide (i < W) && thr n mood jump w i)) := by
  unfold f_ys_openColumns
  refine wp_bind (s_nowOf hn hr 2) (fun lo hlo => wp_bind (s_nowOf hn hr 1) (fun te hte => ?_))
  refine wl_ys_openColumns_N18 (fun m x1 x3 x5 x6 => x1 = lo ∧ x3 = te ∧ ∃ c, x6 = nI c ∧ c ≤ W ∧ m = W - c ∧ ∀ i, i < 32 → bt x5 i = (decide (i < c) && thr n mood jump w i)) ?_ 1000 W _ _ _ _ (by omega) ⟨rfl, rfl, 0, rfl, by omega, rfl, fun i _ => by rw [b_0, decide_eq_false (Nat.not_lt_zero i), Bool.false_and]⟩
  rintro m k18 ih x1 x3 x5 x6 ⟨rfl, rfl, c, rfl, hc, rfl, h5⟩
  unfold f_ys_openColumns_N18
  refine wp_ite (fun g => ?_) (fun g => ?_)
  · have g' := (nI_leX (a := W) (b := c) (by omega) (by omega)).mp g
    have e : c = W := by omega
    subst e
    exact wp_some h5
  · have g' : ¬ W ≤ c := fun q => g ((nI_leX (a := W) (b := c) (by omega) (by omega)).mpr q)
    have hc8 : c < 8 := by omega
    have e1 : nI c + 1 = nI (c + 1) := (nI_succ c).symm
    have hlov := col_any hlo (fun p hp => ofM_big hn hp) hc8
    have htem := col_any hte (fun p hp => ofM_big hn hp) hc8
    have hcn := col_cnt ha (fun p hp => isS_big hp) hc8
    have hcn5 : colCnt (isS w) c ≤ 5 := bct_le _ 5
    have hlast : ∀ E : Nat, E ≤ 6 → E = (if colAny (ofM n mood 2 w) c then jump + 1 else jump) → wp (f_ys_openColumns_N66 all (nI W) (nI jump) (nI n) mood now k18 x1 x3 x5 (nI c) (lshl (4311810305 : Int64) (nI c)) (nI E)) (fun r => ∀ i, i < 32 → bt r i = (decide (i < W) && thr n mood jump w i)) := by
      intro E hE6 hE
      unfold f_ys_openColumns_N66
      have keepit : thr n mood jump w c = false → wp (k18 x1 x3 x5 (nI c + 1)) (fun r => ∀ i, i < 32 → bt r i = (decide (i < W) && thr n mood jump w i)) := by
        intro ht
        rw [e1]
        refine ih (W - (c + 1)) _ _ _ _ (by omega) ⟨rfl, rfl, c + 1, rfl, by omega, rfl, fun i hi => ?_⟩
        rw [h5 i hi]
        by_cases e : i = c
        · subst e; rw [ht]; simp
        · have : decide (i < c + 1) = decide (i < c) := by rw [decide_eq_decide]; omega
          rw [this]
      refine wp_ite (fun g1 => ?_) (fun g1 => ?_)
      · rw [cmp0, htem] at g1
        refine wp_bindE (s_bitCount _) ?_
        rw [hcn]
        refine wp_ite (fun g2 => ?_) (fun g2 => ?_)
        · have g2' := (nI_leX (a := E) (b := colCnt (isS w) c) (by omega) (by omega)).mp g2
          refine keepit ?_
          unfold thr
          rw [← hE, decide_eq_false (by omega), Bool.and_false]
        · have g2' : ¬ E ≤ colCnt (isS w) c := fun q => g2 ((nI_leX (by omega) (by omega)).mpr q)
          have ht : thr n mood jump w c = true := by
            unfold thr
            rw [← hE, g1, decide_eq_true (by omega)]
            rfl
          rw [e1]
          refine ih (W - (c + 1)) _ _ _ _ (by omega) ⟨rfl, rfl, c + 1, rfl, by omega, rfl, fun i hi => ?_⟩
          rw [bt_or1 (by omega) i hi, h5 i hi]
          by_cases e : i = c
          · subst e; rw [ht]; simp
          · have : decide (i < c + 1) = decide (i < c) := by rw [decide_eq_decide]; omega
            rw [this, decide_eq_false e, Bool.or_false]
      · rw [cmp0, htem] at g1
        refine keepit ?_
        unfold thr
        cases hq : colAny (ofM n mood 1 w) c with
        | false => exact absurd hq g1
        | true => rfl
    refine wp_ite (fun g1 => ?_) (fun g1 => ?_)
    · rw [cmp0, hlov] at g1
      exact hlast jump (by omega) (by rw [g1]; rfl)
    · rw [cmp0, hlov] at g1
      have e2 : nI jump + 1 = nI (jump + 1) := (nI_succ jump).symm
      rw [e2]
      refine hlast (jump + 1) (by omega) ?_
      cases hq : colAny (ofM n mood 2 w) c with
      | false => exact absurd hq g1
      | true => rfl
