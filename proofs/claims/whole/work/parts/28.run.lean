/-! TWENTY YEARS OF THE CLASS -/
-- a situation: hands (how many, moods, strengths); frosts (how many, years, forces, which are not); gaps (how many, years, columns, hands); courses, columns, jump; the wall as it was told
abbrev Sit : Type := (Nat × (Nat → Int32) × (Nat → Int32)) × (Nat × (Nat → Int32) × (Nat → Int32) × Int32) × (Nat × (Nat → Int32) × (Nat → Int32) × (Nat → Int32)) × (Nat × Nat × Nat) × Wl
abbrev Sn (S : Sit) : Nat := S.1.1
abbrev Smd (S : Sit) : Nat → Int32 := S.1.2.1
abbrev Sst (S : Sit) : Nat → Int32 := S.1.2.2
abbrev Sfn (S : Sit) : Nat := S.2.1.1
abbrev Sfy (S : Sit) : Nat → Int32 := S.2.1.2.1
abbrev Sff (S : Sit) : Nat → Int32 := S.2.1.2.2.1
abbrev Sab (S : Sit) : Int32 := S.2.1.2.2.2
abbrev Sgn (S : Sit) : Nat := S.2.2.1.1
abbrev Sgy (S : Sit) : Nat → Int32 := S.2.2.1.2.1
abbrev Sgc (S : Sit) : Nat → Int32 := S.2.2.1.2.2.1
abbrev Sgh (S : Sit) : Nat → Int32 := S.2.2.1.2.2.2
abbrev SC (S : Sit) : Nat := S.2.2.2.1.1
abbrev SW (S : Sit) : Nat := S.2.2.2.1.2.1
abbrev Sj (S : Sit) : Nat := S.2.2.2.1.2.2
abbrev Sw (S : Sit) : Wl := S.2.2.2.2
def Sok (S : Sit) : Prop := Sn S ≤ 8 ∧ (∀ h, h < Sn S → 0 ≤ (Sst S h).toInt ∧ (Sst S h).toInt ≤ 9) ∧ Sfn S ≤ 6 ∧ (∀ k, k < Sfn S → 1 ≤ (Sff S k).toInt ∧ (Sff S k).toInt ≤ 15) ∧ Sgn S ≤ 7 ∧ gOk (Sgn S) (Sgc S) (Sgh S) ∧ SC S ≤ 5 ∧ SW S ≤ 8 ∧ Sj S ≤ 5 ∧ wok (Sw S)
def yrF (S : Sit) (y : Nat) (w : Wl) (fo : Nat → Nat) : Ys := frY (Sn S) (Smd S) (Sst S) (Sfn S) (Sfy S) (Sff S) (Sab S) (nI y) (w, 0, fo, false)
def yrG (S : Sit) (y : Nat) (w : Wl) : Wl × Bool := gps (SC S) (SW S) (Sgy S) (Sgc S) (Sgh S) (nI y) (w, false) (Sgn S)
def rs (S : Sit) : Nat → Wl × (Nat → Nat)
  | 0 => (Sw S, fun _ => 0)
  | y + 1 => ((yrG S y (yrF S y (rs S y).1 (rs S y).2).1).1, (yrF S y (rs S y).1 (rs S y).2).2.2.1)
/-- the wall behind so many years; how many fell in a year -/
def wsY (S : Sit) (y : Nat) : Wl := (rs S y).1
def feY (S : Sit) (y : Nat) : Nat := (yrF S y (rs S y).1 (rs S y).2).2.1
def RunC (S : Sit) (losers : Int32) (stones standing : Nat → Int64) (opn fallen : Nat → Int32) : Prop :=
  (∀ y, y < 20 → rep (fun h => stones (8 * y + h)) (wsY S (y + 1)) ∧ repA (standing y) (wsY S (y + 1)) ∧ (∀ i, i < 32 → bt (opn y) i = (decide (i < SW S) && thr (Sn S) (Smd S) (Sj S) (wsY S (y + 1)) i)) ∧ fallen y = nI (feY S y)) ∧ ∀ i, i < 32 → bt losers i = (decide (i < 8) && decide (0 < (rs S 20).2 i))
theorem isS_eq {w v : Wl} (h : ∀ p, p < 40 → w p = v p) : isS w = isS v := by
  funext p
  unfold isS
  by_cases hp : p < 40
  · rw [h p hp]
  · simp [hp]
theorem isH_eq {w v : Wl} (h : ∀ p, p < 40 → w p = v p) (k : Nat) : isH w k = isH v k := by
  funext p
  unfold isH
  by_cases hp : p < 40
  · rw [h p hp]
  · simp [hp]
theorem ofM_eq {w v : Wl} (h : ∀ p, p < 40 → w p = v p) (n : Nat) (mood : Nat → Int32) (m : Int32) : ofM n mood m w = ofM n mood m v := by
  funext q
  unfold ofM
  exact anyB_cong (fun k _ => by rw [isH_eq h k])
theorem thr_eq {w v : Wl} (h : ∀ p, p < 40 → w p = v p) (n : Nat) (mood : Nat → Int32) (jump c : Nat) : thr n mood jump w c = thr n mood jump v c := by
  unfold thr
  rw [ofM_eq h, ofM_eq h, isS_eq h]
theorem drp_0 {w : Wl} {s : Nat → Bool} (h : drp w s = 0) : ∀ p, p < 40 → keep s w p = w p := by
  intro p hp
  have := bct_zero.mp h p hp
  unfold keep
  cases hs : s p with
  | true => simp
  | false =>
    rw [hs] at this
    simp at this
    rw [(isS_at hp).mp this]
    simp
theorem frs_0 {n : Nat} {mood strong fy ff : Nat → Int32} {ab y : Int32} {t0 : Ys} : ∀ k, (frs n mood strong fy ff ab y t0 k).2.1 = 0 → ∀ p, p < 40 → (frs n mood strong fy ff ab y t0 k).1 p = t0.1 p
  | 0, _, _, _ => rfl
  | k + 1, h, p, hp => by
    unfold frs at h ⊢
    by_cases hc : fy k = y ∧ bt ab k = false
    · rw [if_pos hc] at h ⊢
      have h' : (frs n mood strong fy ff ab y t0 k).2.1 + drp (frs n mood strong fy ff ab y t0 k).1 (borne (okF n mood strong (frs n mood strong fy ff ab y t0 k).1 (ff k))) = 0 := h
      show keep _ _ p = _
      rw [drp_0 (by omega) p hp]
      exact frs_0 k (by omega) p hp
    · rw [if_neg hc] at h ⊢
      exact frs_0 k h p hp
theorem drp_le (w : Wl) (s : Nat → Bool) : drp w s ≤ 40 := bct_le _ 40
theorem frs_le {n : Nat} {mood strong fy ff : Nat → Int32} {ab y : Int32} {t0 : Ys} : ∀ k, (frs n mood strong fy ff ab y t0 k).2.1 ≤ t0.2.1 + 40 * k
  | 0 => Nat.le_refl _
  | k + 1 => by
    have ih := frs_le (n := n) (mood := mood) (strong := strong) (fy := fy) (ff := ff) (ab := ab) (y := y) (t0 := t0) k
    unfold frs
    by_cases hc : fy k = y ∧ bt ab k = false
    · rw [if_pos hc]
      show (frs n mood strong fy ff ab y t0 k).2.1 + drp _ _ ≤ _
      have := drp_le (frs n mood strong fy ff ab y t0 k).1 (borne (okF n mood strong (frs n mood strong fy ff ab y t0 k).1 (ff k)))
      omega
    · rw [if_neg hc]
      omega
theorem frY_le {n : Nat} {mood strong : Nat → Int32} {fn : Nat} {fy ff : Nat → Int32} {ab y : Int32} {t0 : Ys} : (frY n mood strong fn fy ff ab y t0).2.1 ≤ t0.2.1 + 40 * (fn + 1) := by
  have h := frs_le (n := n) (mood := mood) (strong := strong) (fy := fy) (ff := ff) (ab := ab) (y := y) (t0 := t0) fn
  unfold frY
  by_cases hc : (frs n mood strong fy ff ab y t0 fn).2.2.2 = true
  · rw [if_pos hc]; omega
  · rw [if_neg hc]
    show (frs n mood strong fy ff ab y t0 fn).2.1 + drp _ _ ≤ _
    have := drp_le (frs n mood strong fy ff ab y t0 fn).1 (borne (isS (frs n mood strong fy ff ab y t0 fn).1))
    omega
theorem frY_0 {n : Nat} {mood strong : Nat → Int32} {fn : Nat} {fy ff : Nat → Int32} {ab y : Int32} {t0 : Ys} (h : (frY n mood strong fn fy ff ab y t0).2.1 = 0) : ∀ p, p < 40 → (frY n mood strong fn fy ff ab y t0).1 p = t0.1 p := by
  unfold frY at h ⊢
  by_cases hc : (frs n mood strong fy ff ab y t0 fn).2.2.2 = true
  · rw [if_pos hc] at h ⊢
    exact frs_0 fn h
  · rw [if_neg hc] at h ⊢
    intro p hp
    have h' : (frs n mood strong fy ff ab y t0 fn).2.1 + drp (frs n mood strong fy ff ab y t0 fn).1 (borne (isS (frs n mood strong fy ff ab y t0 fn).1)) = 0 := h
    show keep _ _ p = _
    rw [drp_0 (by omega) p hp]
    exact frs_0 fn (by omega) p hp
theorem cpy_at {α : Type} (f g : Nat → α) (sp dp n k : Nat) : va_cpy f g sp dp n k = if dp ≤ k ∧ k < dp + n then f (sp + (k - dp)) else g k := rfl
theorem s_run {S : Sit} (hS : Sok S) {st : Nat → Int64} (hst : rep st (Sw S)) (all0 : Int64) (losers0 : Int32) (now0 stones0 standing0 : Nat → Int64) (open0 fallen0 : Nat → Int32) : wp (f_ys_run all0 losers0 (nI (SC S)) (nI (SW S)) (nI (Sj S)) st (nI (Sn S)) (Smd S) (Sst S) (nI (Sgn S)) (Sgy S) (Sgc S) (Sgh S) now0 stones0 standing0 open0 fallen0 (nI (Sfn S)) (Sfy S) (Sff S) (Sab S)) (fun r => RunC S r.2.1 r.2.2.2.1 r.2.2.2.2.1 r.2.2.2.2.2.1 r.2.2.2.2.2.2) := by
  obtain ⟨hn, hs, hfn, hff, hgn, hg, hC, hW, hj, hw⟩ := hS
  unfold f_ys_run
  refine wp_gd (by decide) ?_
  have c0 : (0 : Int32).toNatClampNeg = 0 := by decide
  have c8 : (8 : Int32).toNatClampNeg = 8 := by decide
  rw [c0, c8]
  have hnow : rep (va_cpy st now0 0 0 8) (Sw S) := by
    intro h hh p
    rw [cpy_at, if_pos (by omega), Nat.zero_add, Nat.sub_zero]
    exact hst h hh p
  refine wp_bindE (s_union _ (by decide) (by decide)) ?_
  refine wl_ys_run_N36 (fun m a0 a1 a2 a3 a4 a5 a6 x2 x3 => x2 = Sab S ∧ ∃ y, x3 = nI y ∧ y ≤ 20 ∧ m = 20 - y ∧ YR a0 a1 a2 (rs S y).1 (rs S y).2 ∧ ∀ z, z < y → rep (fun h => a3 (8 * z + h)) (wsY S (z + 1)) ∧ repA (a4 z) (wsY S (z + 1)) ∧ (∀ i, i < 32 → bt (a5 z) i = (decide (i < SW S) && thr (Sn S) (Smd S) (Sj S) (wsY S (z + 1)) i)) ∧ a6 z = nI (feY S z)) ?_ 1000 20 _ _ _ _ _ _ _ _ _ (by decide) ⟨rfl, 0, rfl, by decide, rfl, ⟨hnow, rep_union hnow hw, hw, fun i hi => by rw [b_0]; simp [rs]⟩, fun z hz => absurd hz (Nat.not_lt_zero z)⟩
  rintro m k36 ih a0 a1 a2 a3 a4 a5 a6 x2 x3 ⟨rfl, y, rfl, hy, rfl, hY, hz⟩
  unfold f_ys_run_N36
  refine wp_ite (fun g => ?_) (fun g => ?_)
  · have g' := (nI_leX (a := 20) (b := y) (by decide) (by omega)).mp g
    have e : y = 20 := by omega
    subst e
    exact wp_some ⟨hz, hY.2.2.2⟩
  · have g' : ¬ 20 ≤ y := fun q => g ((nI_leX (a := 20) (b := y) (by decide) (by omega)).mpr q)
    have e1 : nI y + 1 = nI (y + 1) := (nI_succ y).symm
    have e8 : (8 : Int32) * nI y = nI (8 * y) := nI_mulI 8 y
    have hin : inb (nI y) 20 = true := inbN (by omega) (by decide)
    have hcl : (nI y).toNatClampNeg = y := nI_clamp (by omega)
    have hcl8 : (nI (8 * y)).toNatClampNeg = 8 * y := nI_clamp (by omega)
    refine wp_bind (s_freeze hn hs hfn hff (y := nI y) (ab := Sab S) (fy := Sfy S) hY) (fun r1 hr1 => ?_)
    obtain ⟨hf1, hY1⟩ := hr1
    have hcount : r1.1 = nI (feY S y) := hf1
    have hYf : YR r1.2.1 r1.2.2.1 r1.2.2.2 (yrF S y (rs S y).1 (rs S y).2).1 (yrF S y (rs S y).1 (rs S y).2).2.2.1 := hY1
    refine wp_gd hin ?_
    refine wp_bind (s_fillGaps hC hW hgn hg (y := nI y) (gy := Sgy S) hYf.1 hYf.2.1) (fun r2 hr2 => ?_)
    obtain ⟨hm2, hA2, hR2⟩ := hr2
    have hmend : r2.1 = if (yrG S y (yrF S y (rs S y).1 (rs S y).2).1).2 then 1 else 0 := hm2
    have hA2' : repA r2.2.1 (wsY S (y + 1)) := hA2
    have hR2' : rep r2.2.2 (wsY S (y + 1)) := hR2
    have hwok : wok (wsY S (y + 1)) := wok_gps (t0 := ((yrF S y (rs S y).1 (rs S y).2).1, false)) hYf.2.2.1 hg (Sgn S) (Nat.le_refl _)
    have hYn : YR r2.2.1 r1.2.2.1 r2.2.2 (rs S (y + 1)).1 (rs S (y + 1)).2 := ⟨hR2', hA2', hwok, hYf.2.2.2⟩
    rw [e8]
    refine wp_gd (decide_eq_true ?_) ?_
    · rw [c0, c8, hcl8]
      refine ⟨by decide, Int32.not_lt.mpr ((nI_leX (a := 0) (b := 8 * y) (by decide) (by omega)).mpr (by omega)), by decide, by decide, by omega⟩
    refine wp_gd hin ?_
    rw [c0, c8, hcl8, hcl]
    have hfin : ∀ op : Int32, (∀ i, i < 32 → bt op i = (decide (i < SW S) && thr (Sn S) (Smd S) (Sj S) (wsY S (y + 1)) i)) → ∀ z, z < y + 1 → rep (fun h => va_cpy r2.2.2 a3 0 (8 * y) 8 (8 * z + h)) (wsY S (z + 1)) ∧ repA (vp_updL a4 y r2.2.1 z) (wsY S (z + 1)) ∧ (∀ i, i < 32 → bt (upd a5 y op z) i = (decide (i < SW S) && thr (Sn S) (Smd S) (Sj S) (wsY S (z + 1)) i)) ∧ upd a6 y r1.1 z = nI (feY S z) := by
      intro op hop z hzy
      by_cases e : z = y
      · subst e
        refine ⟨fun h hh p => ?_, ?_, ?_, ?_⟩
        · show bl (va_cpy _ _ _ _ _ _) p = _
          rw [cpy_at, if_pos (by omega), Nat.zero_add, show 8 * z + h - 8 * z = h by omega]
          exact hR2' h hh p
        · show repA (if z = z then _ else _) _
          rw [if_pos rfl]; exact hA2'
        · rw [upd_at, if_pos rfl]; exact hop
        · rw [upd_at, if_pos rfl]; exact hcount
      · obtain ⟨q1, q2, q3, q4⟩ := hz z (by omega)
        refine ⟨fun h hh p => ?_, ?_, ?_, ?_⟩
        · show bl (va_cpy _ _ _ _ _ _) p = _
          rw [cpy_at, if_neg (by omega)]
          exact q1 h hh p
        · show repA (if z = y then _ else _) _
          rw [if_neg e]; exact q2
        · rw [upd_at, if_neg e]; exact q3
        · rw [upd_at, if_neg e]; exact q4
    have hopen : wp (f_ys_run_N112 (nI (SC S)) (nI (SW S)) (nI (Sj S)) st (nI (Sn S)) (Smd S) (Sst S) (nI (Sgn S)) (Sgy S) (Sgc S) (Sgh S) (nI (Sfn S)) (Sfy S) (Sff S) k36 r2.2.1 r1.2.2.1 r2.2.2 (va_cpy r2.2.2 a3 0 (8 * y) 8) (vp_updL a4 y r2.2.1) a5 (upd a6 y r1.1) (Sab S) (nI y)) (fun r => RunC S r.2.1 r.2.2.2.1 r.2.2.2.2.1 r.2.2.2.2.2.1 r.2.2.2.2.2.2) := by
      unfold f_ys_run_N112 f_ys_run_N113
      refine wp_pos rfl ?_
      refine wp_bind (s_openColumns hn hW hj hR2' hA2') (fun op hop => ?_)
      refine wp_gd hin ?_
      rw [hcl, e1]
      exact ih (20 - (y + 1)) _ _ _ _ _ _ _ _ _ (by omega) ⟨rfl, y + 1, rfl, by omega, rfl, hYn, hfin op hop⟩
    refine wp_ite (fun _ => hopen) (fun g1 => ?_)
    have hy0 : 0 < y := by
      rcases Nat.eq_zero_or_pos y with q | q
      · subst q; exact absurd (by decide) g1
      · exact q
    refine wp_gd hin ?_
    refine wp_ite (fun g2 => ?_) (fun _ => hopen)
    refine wp_ite (fun g3 => ?_) (fun _ => hopen)
    rw [upd_at, if_pos rfl, hcount] at g2
    have hle : feY S y ≤ 0 + 40 * (Sfn S + 1) := frY_le
    have hz0 : feY S y = 0 := (nI_eqI (a := feY S y) (b := 0) (by omega) (by decide)).mp g2
    have hno : (yrG S y (yrF S y (rs S y).1 (rs S y).2).1).2 = false := by
      cases hq : (yrG S y (yrF S y (rs S y).1 (rs S y).2).1).2 with
      | false => rfl
      | true => rw [hmend, hq] at g3; exact absurd g3 (by decide)
    have hsame : ∀ p, p < 40 → wsY S (y + 1) p = wsY S y p := by
      intro p hp
      have e2 : wsY S (y + 1) = (yrF S y (rs S y).1 (rs S y).2).1 := gps_no (Sgn S) hno
      rw [e2]
      exact frY_0 hz0 p hp
    unfold f_ys_run_N113
    refine wp_neg (by decide) ?_
    have e3 : nI y - 1 = nI (y - 1) := nI_subI (a := y) (b := 1) (by omega)
    rw [e3]
    refine wp_gd (inbN (by omega) (by decide)) (wp_gd hin ?_)
    rw [hcl, e1, nI_clamp (show y - 1 < 2 ^ 31 by omega)]
    refine ih (20 - (y + 1)) _ _ _ _ _ _ _ _ _ (by omega) ⟨rfl, y + 1, rfl, by omega, rfl, hYn, hfin _ (fun i hi => ?_)⟩
    obtain ⟨-, -, q3, -⟩ := hz (y - 1) (by omega)
    rw [q3 i hi, show y - 1 + 1 = y by omega, thr_eq hsame]
