/-! THE REFERENCE: twenty years -/
theorem s_isIn {x : Int32} {k : Nat} (hk : k < 31) : f_m_isIn x (nI k) = some (b2i (bt x k)) := by
  have e : (x >>> (nI k &&& 31)) &&& (1 : Int32) = b2i (bt x k) := by
    apply b_ext
    intro i hi
    rw [b_and, b_sshr k (by omega) x hi]
    have h1 : bt 1 i = decide (i = 0) := (by decide +kernel : ∀ k, k < 32 → bt 1 k = decide (k = 0)) i hi
    rw [h1]
    by_cases e : i = 0
    · subst e
      rw [if_pos (by omega), Nat.add_zero]
      cases bt x k <;> decide
    · rw [decide_eq_false e, Bool.and_false]
      cases bt x k with
      | false => exact (b_0 i).symm
      | true =>
        show false = bt 1 i
        rw [h1, decide_eq_false e]
  unfold f_m_isIn
  rw [e]
  cases bt x k <;> rfl
theorem inCW_keep {C W : Nat} {w : Wl} (h : inCW C W w) (s : Nat → Bool) : inCW C W (keep s w) := inCW_sub h (fun p _ => by
  unfold keep
  by_cases hs : s p = true
  · rw [if_pos hs]; exact Or.inr rfl
  · rw [if_neg hs]; exact Or.inl rfl)
theorem frs_ok {C W n : Nat} {mood strong fy ff : Nat → Int32} {ab y : Int32} {t0 : Ys} (hw : wok t0.1) (hcw : inCW C W t0.1) : ∀ k, wok (frs n mood strong fy ff ab y t0 k).1 ∧ inCW C W (frs n mood strong fy ff ab y t0 k).1
  | 0 => ⟨hw, hcw⟩
  | k + 1 => by
    have ih := frs_ok (n := n) (mood := mood) (strong := strong) (fy := fy) (ff := ff) (ab := ab) (y := y) hw hcw k
    unfold frs
    by_cases hc : fy k = y ∧ bt ab k = false
    · rw [if_pos hc]; exact ⟨wok_keep ih.1 _, inCW_keep ih.2 _⟩
    · rw [if_neg hc]; exact ih
theorem frY_ok {C W n : Nat} {mood strong : Nat → Int32} {fn : Nat} {fy ff : Nat → Int32} {ab y : Int32} {t0 : Ys} (hw : wok t0.1) (hcw : inCW C W t0.1) : wok (frY n mood strong fn fy ff ab y t0).1 ∧ inCW C W (frY n mood strong fn fy ff ab y t0).1 := by
  have ih := frs_ok (n := n) (mood := mood) (strong := strong) (fy := fy) (ff := ff) (ab := ab) (y := y) hw hcw fn
  unfold frY
  by_cases hc : (frs n mood strong fy ff ab y t0 fn).2.2.2 = true
  · rw [if_pos hc]; exact ih
  · rw [if_neg hc]; exact ⟨wok_keep ih.1 _, inCW_keep ih.2 _⟩
theorem inCW_fg {C W col : Nat} {w : Wl} (hcw : inCW C W w) (hcol : col < W) (hW : W ≤ 8) (x : Int32) : ∀ m c, c + m ≤ C → inCW C W (fg w col x m c).1
  | 0, _, _ => hcw
  | m + 1, c, hc => by
    rw [fg_s]
    by_cases e : w (8 * c + col) = -1
    · rw [if_pos e]
      intro p hp hne
      have hne' : ¬ upd w (8 * c + col) x p = -1 := hne
      rw [upd_at] at hne'
      by_cases z : p = 8 * c + col
      · omega
      · rw [if_neg z] at hne'; exact hcw p hp hne'
    · rw [if_neg e]; exact inCW_fg hcw hcol hW x m (c + 1) (by omega)
theorem inCW_gps {C W : Nat} (hC : C ≤ 5) (hW : W ≤ 8) {gy gc gh : Nat → Int32} {y : Int32} {t0 : Wl × Bool} (hcw : inCW C W t0.1) {gn : Nat} (hg : gOk gn gc gh) : ∀ k, k ≤ gn → inCW C W (gps C W gy gc gh y t0 k).1
  | 0, _ => hcw
  | k + 1, hk => by
    have ih := inCW_gps hC hW (gy := gy) (y := y) hcw hg k (by omega)
    unfold gps
    by_cases hc : gy k = y ∧ gc k < nI W
    · rw [if_pos hc]
      obtain ⟨⟨c, hc8, ec⟩, -⟩ := hg k (by omega)
      have hlt : c < W := by
        have := hc.2
        rw [ec] at this
        exact (nI_ltX (by omega) (by omega)).mp this
      rw [ec, nI_clamp (by omega)]
      exact inCW_fg ih hlt hW _ C 0 (by omega)
    · rw [if_neg hc]; exact ih
def Sin (S : Sit) : Prop := inCW (SC S) (SW S) (Sw S)
theorem rs_ok {S : Sit} (hS : Sok S) (hI : Sin S) : ∀ y, wok (rs S y).1 ∧ inCW (SC S) (SW S) (rs S y).1
  | 0 => ⟨hS.2.2.2.2.2.2.2.2.2, hI⟩
  | y + 1 => by
    have ih := rs_ok hS hI y
    obtain ⟨hn, hs, hfn, hff, hgn, hg, hC, hW, hj, hw⟩ := hS
    have h1 := frY_ok (n := Sn S) (mood := Smd S) (strong := Sst S) (fn := Sfn S) (fy := Sfy S) (ff := Sff S) (ab := Sab S) (y := nI y) (t0 := ((rs S y).1, 0, (rs S y).2, false)) ih.1 ih.2
    exact ⟨wok_gps (t0 := ((yrF S y (rs S y).1 (rs S y).2).1, false)) h1.1 hg (Sgn S) (Nat.le_refl _), inCW_gps hC hW (t0 := ((yrF S y (rs S y).1 (rs S y).2).1, false)) h1.2 hg (Sgn S) (Nat.le_refl _)⟩
/-- do sheep get through anywhere behind a year; the first such year; how many; how many fell in all -/
def anY (S : Sit) (y : Nat) : Bool := anyB (thr (Sn S) (Smd S) (Sj S) (wsY S (y + 1))) (SW S)
def shF (S : Sit) : Nat → Int32
  | 0 => -1
  | y + 1 => if anY S y = true ∧ shF S y = -1 then nI y else shF S y
def shM (S : Sit) (y : Nat) : Nat := bct (anY S) y
def feS (S : Sit) : Nat → Nat
  | 0 => 0
  | y + 1 => feS S y + feY S y
/-- what the reference keeps of the first Y years -/
def KeptM (S : Sit) (Y : Nat) (hA hO fa st hi th : Nat → Int32) : Prop := ∀ y, y < Y → (∀ p, p < 40 → hA (40 * y + p) = wsY S (y + 1) p ∧ (hO (40 * y + p)).toInt = hldV (Sn S) (Smd S) (Sst S) (wsY S (y + 1)) p) ∧ fa y = nI (feY S y) ∧ st y = nI (bct (isS (wsY S (y + 1))) 40) ∧ ∀ c, c < SW S → hi (8 * y + c) = nI (colCnt (isS (wsY S (y + 1))) c) ∧ th (8 * y + c) = b2i (thr (Sn S) (Smd S) (Sj S) (wsY S (y + 1)) c)
abbrev MR : Type := Int32 × Int32 × Int32 × Int32 × (Nat → Int32) × (Nat → Int32) × (Nat → Int32) × (Nat → Int32) × (Nat → Int32) × (Nat → Int32) × (Nat → Int32) × (Nat → Int32) × (Nat → Int32)
/-- the reference's numbers behind Y years: fellAll, sheepFirst, sheepMany, wall, fellOf, and what is kept -/
def RunM (S : Sit) (Y : Nat) (r : MR) : Prop := r.2.1 = nI (feS S Y) ∧ r.2.2.1 = shF S Y ∧ r.2.2.2.1 = nI (shM S Y) ∧ (∀ q, q < 40 → r.2.2.2.2.1 q = wsY S Y q) ∧ (∀ h, h < 8 → r.2.2.2.2.2.2.1 h = nI ((rs S Y).2 h)) ∧ KeptM S Y r.2.2.2.2.2.2.2.1 r.2.2.2.2.2.2.2.2.1 r.2.2.2.2.2.2.2.2.2.1 r.2.2.2.2.2.2.2.2.2.2.1 r.2.2.2.2.2.2.2.2.2.2.2.1 r.2.2.2.2.2.2.2.2.2.2.2.2
theorem hldV_eq {w v : Wl} (h : ∀ p, p < 40 → w p = v p) (n : Nat) (mood strong : Nat → Int32) {p : Nat} (hp : p < 40) : hldV n mood strong w p = hldV n mood strong v p := by
  unfold hldV hby
  rw [h p hp, isH_eq h, isS_eq h, ofM_eq h]
theorem dropSt_fall {w : Wl} {s : Nat → Bool} {t : Ys} (ht : t.1 = w) {f0 f1 : Int32} {o0 o1 w1 : Nat → Int32} (hf : f0 = nI t.2.1) (ho : ∀ h, h < 8 → o0 h = nI (t.2.2.1 h)) (hd : dropSt w s f0 o0 40 f1 w1 o1) : f1 = nI (fall t s).2.1 ∧ (∀ q, q < 40 → w1 q = (fall t s).1 q) ∧ ∀ h, h < 8 → o1 h = nI ((fall t s).2.2.1 h) := by
  subst ht
  obtain ⟨a1, a2, a3⟩ := hd
  refine ⟨?_, fun q hq => ?_, fun h hh => ?_⟩
  · rw [a1, hf, nI_addI]; rfl
  · rw [a2 q hq]
    unfold mix
    rw [if_pos hq]; rfl
  · rw [a3 h hh, ho h hh, nI_addI]; rfl
theorem s_goesBy {S : Sit} (hS : Sok S) (hI : Sin S) {y : Nat} (hy : y < 20) (fell0 : Int32) (hold0 : Nat → Int32) {u0 fA sF sM : Int32} {wl0 u1 fo0 hA hO fa st hi th : Nat → Int32} (h0 : RunM S y (u0, fA, sF, sM, wl0, u1, fo0, hA, hO, fa, st, hi, th)) : wp (f_m_goesBy (nI (SC S)) (nI (SW S)) (nI (Sn S)) (nI (Sj S)) (nI (Sfn S)) (Sab S) (nI (Sgn S)) fell0 fA sF sM (Smd S) (Sst S) (Sgy S) (Sgc S) (Sgh S) wl0 (Sfy S) (Sff S) hold0 fo0 hA hO fa st hi th (nI y)) (RunM S (y + 1)) := by
  obtain ⟨hwok, hcw⟩ := rs_ok hS hI y
  obtain ⟨hwok1, hcw1⟩ := rs_ok hS hI (y + 1)
  obtain ⟨hn, hs, hfn, hff, hgn, hg, hC, hW, hj, hw⟩ := hS
  obtain ⟨e1, e2, e3, e4, e5, e6⟩ := h0
  dsimp only at e1 e2 e3 e4 e5 e6
  have hyin : inb (nI y) 20 = true := inbN hy (by decide)
  have hyc : (nI y).toNatClampNeg = y := nI_clamp (by omega)
  have frok := fun k => frs_ok (C := SC S) (W := SW S) (n := Sn S) (mood := Smd S) (strong := Sst S) (fy := Sfy S) (ff := Sff S) (ab := Sab S) (y := nI y) (t0 := ((rs S y).1, 0, (rs S y).2, false)) hwok hcw k
  have gaps : ∀ (fell : Int32) (wall hold fo : Nat → Int32), fell = nI (feY S y) → (∀ q, q < 40 → wall q = (yrF S y (rs S y).1 (rs S y).2).1 q) → (∀ h, h < 8 → fo h = nI ((yrF S y (rs S y).1 (rs S y).2).2.2.1 h)) → wp (iter (fun _ _ _ _ _ _ _ _ _ _ _ _ _ _ _ => none) (f_m_goesBy_N66 (nI (SC S)) (nI (SW S)) (nI (Sn S)) (nI (Sj S)) (nI (Sfn S)) (Sab S) (nI (Sgn S)) (Smd S) (Sst S) (Sgy S) (Sgc S) (Sgh S) (Sfy S) (Sff S)) 1000 fell fA sF sM wall hold fo hA hO fa st hi th (nI y) (0 : Int32)) (RunM S (y + 1)) := by
    intro fell wall hold fo hfell hwall hfo
    have fyok := frY_ok (n := Sn S) (mood := Smd S) (strong := Sst S) (fn := Sfn S) (fy := Sfy S) (ff := Sff S) (ab := Sab S) (y := nI y) (t0 := ((rs S y).1, 0, (rs S y).2, false)) hwok hcw
    refine wl_m_goesBy_N66 (fun m a0 a1 a2 a3 a4 a5 a6 a7 a8 a9 a10 a11 a12 x1 x3 => a0 = fell ∧ a1 = fA ∧ a2 = sF ∧ a3 = sM ∧ a6 = fo ∧ a7 = hA ∧ a8 = hO ∧ a9 = fa ∧ a10 = st ∧ a11 = hi ∧ a12 = th ∧ x1 = nI y ∧ ∃ k, x3 = nI k ∧ k ≤ Sgn S ∧ m = Sgn S - k ∧ ∀ q, q < 40 → a4 q = (gps (SC S) (SW S) (Sgy S) (Sgc S) (Sgh S) (nI y) ((yrF S y (rs S y).1 (rs S y).2).1, false) k).1 q) ?_ 1000 (Sgn S) _ _ _ _ _ _ _ _ _ _ _ _ _ _ _ (by omega) ⟨rfl, rfl, rfl, rfl, rfl, rfl, rfl, rfl, rfl, rfl, rfl, rfl, 0, rfl, by omega, rfl, hwall⟩
    rintro m k66 ih a0 a1 a2 a3 a4 a5 a6 a7 a8 a9 a10 a11 a12 x1 x3 ⟨rfl, rfl, rfl, rfl, rfl, rfl, rfl, rfl, rfl, rfl, rfl, rfl, k, rfl, hk, rfl, hq4⟩
    have gw := wok_gps (C := SC S) (W := SW S) (gy := Sgy S) (y := nI y) (t0 := ((yrF S y (rs S y).1 (rs S y).2).1, false)) fyok.1 hg k hk
    have gcw := inCW_gps hC hW (gy := Sgy S) (y := nI y) (t0 := ((yrF S y (rs S y).1 (rs S y).2).1, false)) fyok.2 hg k hk
    have a4cw : inCW (SC S) (SW S) a4 := inCW_sub gcw (fun q hq => Or.inr (hq4 q hq))
    have a4ok : wok a4 := wok_sub gw (fun q hq => Or.inr (hq4 q hq))
    unfold f_m_goesBy_N66
    refine wp_ite (fun g => ?_) (fun g => ?_)
    · have g' := (nI_leX (a := Sgn S) (b := k) (by omega) (by omega)).mp g
      have e : k = Sgn S := by omega
      subst e
      have hws : ∀ q, q < 40 → a4 q = wsY S (y + 1) q := hq4
      refine wp_gd hyin (wp_bind (s_keeps hC hW hn hj hs a4ok a4cw hy a2 a3 a5 a7 a8 a10 a11 a12) (fun r hr => wp_some ?_))
      obtain ⟨k1, k2, k3, k4, k5, k6, k7, k8⟩ := hr
      have eth : thr (Sn S) (Smd S) (Sj S) a4 = thr (Sn S) (Smd S) (Sj S) (wsY S (y + 1)) := funext (fun c => thr_eq hws _ _ _ c)
      have eS : isS a4 = isS (wsY S (y + 1)) := isS_eq hws
      rw [eth] at k1 k2 k5
      rw [eS] at k4 k5
      rw [hyc]
      refine ⟨?_, ?_, ?_, hws, hfo, fun z hz => ?_⟩
      · show a1 + a0 = _
        rw [e1, hfell, nI_addI]; rfl
      · show r.1 = _
        rw [k1, e2]; rfl
      · show r.2.1 = nI (bct (anY S) y + (if anY S y then 1 else 0))
        rw [k2, e3]
        show nI (bct (anY S) y) + b2i (anY S y) = _
        cases anY S y <;> exact nI_addI _ _
      · by_cases ez : z = y
        · subst ez
          refine ⟨fun p hp => ⟨(k3 p hp).1.trans (hws p hp), ?_⟩, ?_, k4, k5⟩
          · show (r.2.2.2.2.1 (40 * z + p)).toInt = _
            rw [(k3 p hp).2]
            exact hldV_eq hws _ _ _ hp
          · show upd a9 z a0 z = _
            rw [upd_at, if_pos rfl]; exact hfell
        · obtain ⟨p1, p2, p3, p4⟩ := e6 z (by omega)
          refine ⟨fun p hp => ?_, ?_, ?_, fun c hc => ?_⟩
          · show r.2.2.2.1 _ = _ ∧ (r.2.2.2.2.1 _).toInt = _
            rw [(k6 (40 * z + p) (by omega)).1, (k6 (40 * z + p) (by omega)).2]
            exact p1 p hp
          · show upd a9 y a0 z = _
            rw [upd_at, if_neg ez]; exact p2
          · show r.2.2.2.2.2.1 z = _
            rw [k7 z (by omega)]; exact p3
          · show r.2.2.2.2.2.2.1 _ = _ ∧ r.2.2.2.2.2.2.2 _ = _
            rw [(k8 (8 * z + c) (by omega)).1, (k8 (8 * z + c) (by omega)).2]
            exact p4 c hc
    · have g' : ¬ Sgn S ≤ k := fun q => g ((nI_leX (a := Sgn S) (b := k) (by omega) (by omega)).mpr q)
      have ek : nI k + 1 = nI (k + 1) := (nI_succ k).symm
      have hin : inb (nI k) 7 = true := inbN (by omega) (by decide)
      obtain ⟨⟨c, hc8, ec⟩, h, hh, eh⟩ := hg k (by omega)
      have hstep : gps (SC S) (SW S) (Sgy S) (Sgc S) (Sgh S) (nI y) ((yrF S y (rs S y).1 (rs S y).2).1, false) (k + 1) = if Sgy S k = nI y ∧ Sgc S k < nI (SW S) then ((fg (gps (SC S) (SW S) (Sgy S) (Sgc S) (Sgh S) (nI y) ((yrF S y (rs S y).1 (rs S y).2).1, false) k).1 (Sgc S k).toNatClampNeg (Sgh S k) (SC S) 0).1, (gps (SC S) (SW S) (Sgy S) (Sgc S) (Sgh S) (nI y) ((yrF S y (rs S y).1 (rs S y).2).1, false) k).2 || (fg (gps (SC S) (SW S) (Sgy S) (Sgc S) (Sgh S) (nI y) ((yrF S y (rs S y).1 (rs S y).2).1, false) k).1 (Sgc S k).toNatClampNeg (Sgh S k) (SC S) 0).2) else gps (SC S) (SW S) (Sgy S) (Sgc S) (Sgh S) (nI y) ((yrF S y (rs S y).1 (rs S y).2).1, false) k := rfl
      refine wp_gd hin ?_
      rw [nI_clamp (show k < 2 ^ 31 by omega), ek]
      refine wp_ite (fun g1 => ?_) (fun g1 => ?_)
      · refine wp_gd hin (wp_gd hin ?_)
        rw [ec, eh]
        refine wp_bindE (s_mends hC hW hc8 a4cw (nI h)) ?_
        refine ih (Sgn S - (k + 1)) _ _ _ _ _ _ _ _ _ _ _ _ _ _ _ (by omega) ⟨rfl, rfl, rfl, rfl, rfl, rfl, rfl, rfl, rfl, rfl, rfl, rfl, k + 1, rfl, by omega, rfl, fun q hq => ?_⟩
        by_cases hlt : c < SW S
        · rw [if_pos hlt, hstep, if_pos (show Sgy S k = nI y ∧ Sgc S k < nI (SW S) from ⟨g1, by rw [ec]; exact (nI_ltX (by omega) (by omega)).mpr hlt⟩), ec, eh, nI_clamp (show c < 2 ^ 31 by omega)]
          exact fg_eq hq4 hc8 (nI h) (SC S) 0 (by omega) q hq
        · rw [if_neg hlt, hstep, if_neg (show ¬ (Sgy S k = nI y ∧ Sgc S k < nI (SW S)) from fun z => hlt (by have := z.2; rw [ec] at this; exact (nI_ltX (by omega) (by omega)).mp this))]
          exact hq4 q hq
      · refine ih (Sgn S - (k + 1)) _ _ _ _ _ _ _ _ _ _ _ _ _ _ _ (by omega) ⟨rfl, rfl, rfl, rfl, rfl, rfl, rfl, rfl, rfl, rfl, rfl, rfl, k + 1, rfl, by omega, rfl, fun q hq => ?_⟩
        rw [hstep, if_neg (fun z => g1 z.1)]
        exact hq4 q hq
  unfold f_m_goesBy
  refine wl_m_goesBy_N9 (fun m a0 a1 a2 a3 a4 a5 a6 a7 a8 a9 a10 a11 a12 x1 x2 x3 => a1 = fA ∧ a2 = sF ∧ a3 = sM ∧ a7 = hA ∧ a8 = hO ∧ a9 = fa ∧ a10 = st ∧ a11 = hi ∧ a12 = th ∧ x1 = nI y ∧ ∃ k, x3 = nI k ∧ k ≤ Sfn S ∧ m = Sfn S - k ∧ a0 = nI (frs (Sn S) (Smd S) (Sst S) (Sfy S) (Sff S) (Sab S) (nI y) ((rs S y).1, 0, (rs S y).2, false) k).2.1 ∧ x2 = b2i (frs (Sn S) (Smd S) (Sst S) (Sfy S) (Sff S) (Sab S) (nI y) ((rs S y).1, 0, (rs S y).2, false) k).2.2.2 ∧ (∀ q, q < 40 → a4 q = (frs (Sn S) (Smd S) (Sst S) (Sfy S) (Sff S) (Sab S) (nI y) ((rs S y).1, 0, (rs S y).2, false) k).1 q) ∧ ∀ h, h < 8 → a6 h = nI ((frs (Sn S) (Smd S) (Sst S) (Sfy S) (Sff S) (Sab S) (nI y) ((rs S y).1, 0, (rs S y).2, false) k).2.2.1 h)) ?_ 1000 (Sfn S) _ _ _ _ _ _ _ _ _ _ _ _ _ _ _ _ (by omega) ⟨rfl, rfl, rfl, rfl, rfl, rfl, rfl, rfl, rfl, rfl, 0, rfl, by omega, rfl, rfl, rfl, e4, e5⟩
  rintro m k9 ih a0 a1 a2 a3 a4 a5 a6 a7 a8 a9 a10 a11 a12 x1 x2 x3 ⟨rfl, rfl, rfl, rfl, rfl, rfl, rfl, rfl, rfl, rfl, k, rfl, hk, rfl, rfl, rfl, hq4, hq6⟩
  unfold f_m_goesBy_N9
  obtain ⟨fok, fcw⟩ := frok k
  refine wp_ite (fun g => ?_) (fun g => ?_)
  · have g' := (nI_leX (a := Sfn S) (b := k) (by omega) (by omega)).mp g
    have e : k = Sfn S := by omega
    subst e
    have hY : yrF S y (rs S y).1 (rs S y).2 = if (frs (Sn S) (Smd S) (Sst S) (Sfy S) (Sff S) (Sab S) (nI y) ((rs S y).1, 0, (rs S y).2, false) (Sfn S)).2.2.2 then frs (Sn S) (Smd S) (Sst S) (Sfy S) (Sff S) (Sab S) (nI y) ((rs S y).1, 0, (rs S y).2, false) (Sfn S) else fall (frs (Sn S) (Smd S) (Sst S) (Sfy S) (Sff S) (Sab S) (nI y) ((rs S y).1, 0, (rs S y).2, false) (Sfn S)) (borne (isS (frs (Sn S) (Smd S) (Sst S) (Sfy S) (Sff S) (Sab S) (nI y) ((rs S y).1, 0, (rs S y).2, false) (Sfn S)).1)) := rfl
    have hF : feY S y = (yrF S y (rs S y).1 (rs S y).2).2.1 := rfl
    cases hb : (frs (Sn S) (Smd S) (Sst S) (Sfy S) (Sff S) (Sab S) (nI y) ((rs S y).1, 0, (rs S y).2, false) (Sfn S)).2.2.2 with
    | true =>
      rw [hb, if_pos rfl] at hY
      exact wp_neg (by decide) (gaps _ _ _ _ (by rw [hF, hY]) (by rw [hY]; exact hq4) (by rw [hY]; exact hq6))
    | false =>
      rw [hb, if_neg (by decide)] at hY
      refine wp_pos (by decide) (wp_bind (s_settles hC hW fok fcw hq4 _ a6) (fun r hr => ?_))
      obtain ⟨d1, d2, d3⟩ := dropSt_fall rfl rfl hq6 hr
      exact gaps _ _ _ _ (by rw [hF, hY]; exact d1) (by rw [hY]; exact d2) (by rw [hY]; exact d3)
  · have g' : ¬ Sfn S ≤ k := fun q => g ((nI_leX (a := Sfn S) (b := k) (by omega) (by omega)).mpr q)
    have ek : nI k + 1 = nI (k + 1) := (nI_succ k).symm
    have hin : inb (nI k) 6 = true := inbN (by omega) (by decide)
    have hstep : frs (Sn S) (Smd S) (Sst S) (Sfy S) (Sff S) (Sab S) (nI y) ((rs S y).1, 0, (rs S y).2, false) (k + 1) = if Sfy S k = nI y ∧ bt (Sab S) k = false then fall (frs (Sn S) (Smd S) (Sst S) (Sfy S) (Sff S) (Sab S) (nI y) ((rs S y).1, 0, (rs S y).2, false) k) (borne (okF (Sn S) (Smd S) (Sst S) (frs (Sn S) (Smd S) (Sst S) (Sfy S) (Sff S) (Sab S) (nI y) ((rs S y).1, 0, (rs S y).2, false) k).1 (Sff S k))) else frs (Sn S) (Smd S) (Sst S) (Sfy S) (Sff S) (Sab S) (nI y) ((rs S y).1, 0, (rs S y).2, false) k := rfl
    refine wp_gd hin ?_
    rw [nI_clamp (show k < 2 ^ 31 by omega), ek]
    have skip : ¬ (Sfy S k = nI y ∧ bt (Sab S) k = false) → wp (k9 _ a1 a2 a3 a4 a5 a6 a7 a8 a9 a10 a11 a12 (nI y) _ (nI (k + 1))) (RunM S (y + 1)) := fun hc => ih (Sfn S - (k + 1)) _ _ _ _ _ _ _ _ _ _ _ _ _ _ _ _ (by omega) ⟨rfl, rfl, rfl, rfl, rfl, rfl, rfl, rfl, rfl, rfl, k + 1, rfl, by omega, rfl, by rw [hstep, if_neg hc], by rw [hstep, if_neg hc], by rw [hstep, if_neg hc]; exact hq4, by rw [hstep, if_neg hc]; exact hq6⟩
    refine wp_ite (fun g1 => ?_) (fun g1 => skip (fun hc => g1 hc.1))
    refine wp_bindE (s_isIn (by omega)) ?_
    cases hbt : bt (Sab S) k with
    | true => exact wp_neg (by decide) (skip (fun hc => by rw [hbt] at hc; cases hc.2))
    | false =>
      rw [if_pos ⟨g1, hbt⟩] at hstep
      refine wp_pos (by decide) (wp_gd hin (wp_bind (s_freezes hC hW hn hs fok fcw hq4 a5 _ a6 (hff k (by omega)).1) (fun r hr => ?_)))
      obtain ⟨d1, d2, d3⟩ := dropSt_fall rfl rfl hq6 hr
      exact ih (Sfn S - (k + 1)) _ _ _ _ _ _ _ _ _ _ _ _ _ _ _ _ (by omega) ⟨rfl, rfl, rfl, rfl, rfl, rfl, rfl, rfl, rfl, rfl, k + 1, rfl, by omega, rfl, by rw [hstep]; exact d1, by rw [hstep]; rfl, by rw [hstep]; exact d2, by rw [hstep]; exact d3⟩
theorem s_runs {S : Sit} (hS : Sok S) (hI : Sin S) {told : Nat → Int32} (ht : ∀ q, q < 40 → told q = Sw S q) (fell0 fA0 sF0 sM0 : Int32) (wl0 hold0 fo0 hA0 hO0 fa0 st0 hi0 th0 : Nat → Int32) : wp (f_m_runs (nI (SC S)) (nI (SW S)) (nI (Sn S)) (nI (Sj S)) (nI (Sfn S)) (Sab S) (nI (Sgn S)) fell0 fA0 sF0 sM0 told (Smd S) (Sst S) (Sgy S) (Sgc S) (Sgh S) wl0 (Sfy S) (Sff S) hold0 fo0 hA0 hO0 fa0 st0 hi0 th0) (RunM S 20) := by
  unfold f_m_runs
  refine wl_m_runs_N2 (fun m a0 a1 a2 a3 a4 a5 a6 a7 a8 a9 a10 a11 a12 x1 => ∃ p, x1 = nI p ∧ p ≤ 40 ∧ m = 40 - p ∧ ∀ q, q < p → a4 q = Sw S q) ?_ 1000 40 _ _ _ _ _ _ _ _ _ _ _ _ _ _ (by decide) ⟨0, rfl, by decide, rfl, fun q hq => absurd hq (Nat.not_lt_zero q)⟩
  rintro m k2 ih a0 a1 a2 a3 a4 a5 a6 a7 a8 a9 a10 a11 a12 x1 ⟨p, rfl, hp, rfl, hq⟩
  unfold f_m_runs_N2
  refine wp_ite (fun g => ?_) (fun g => ?_)
  · have g' := (nI_leX (a := 40) (b := p) (by decide) (by omega)).mp g
    have e : p = 40 := by omega
    subst e
    refine wl_m_runs_N28 (fun m b0 b1 b2 b3 b4 b5 b6 b7 b8 b9 b10 b11 b12 x1 => b4 = a4 ∧ ∃ p, x1 = nI p ∧ p ≤ 8 ∧ m = 8 - p ∧ ∀ q, q < p → b6 q = 0) ?_ 1000 8 _ _ _ _ _ _ _ _ _ _ _ _ _ _ (by decide) ⟨rfl, 0, rfl, by decide, rfl, fun q hq => absurd hq (Nat.not_lt_zero q)⟩
    rintro m k28 ih2 b0 b1 b2 b3 b4 b5 b6 b7 b8 b9 b10 b11 b12 x1 ⟨rfl, p, rfl, hp, rfl, hz⟩
    unfold f_m_runs_N28
    refine wp_ite (fun g => ?_) (fun g => ?_)
    · have g' := (nI_leX (a := 8) (b := p) (by decide) (by omega)).mp g
      have e : p = 8 := by omega
      subst e
      refine wl_m_runs_N64 (fun m c0 c1 c2 c3 c4 c5 c6 c7 c8 c9 c10 c11 c12 x1 => ∃ y, x1 = nI y ∧ y ≤ 20 ∧ m = 20 - y ∧ RunM S y (c0, c1, c2, c3, c4, c5, c6, c7, c8, c9, c10, c11, c12)) ?_ 1000 20 _ _ _ _ _ _ _ _ _ _ _ _ _ _ (by decide) ⟨0, rfl, by decide, rfl, rfl, rfl, rfl, hq, fun h hh => hz h hh, fun y hy => absurd hy (Nat.not_lt_zero y)⟩
      rintro m k64 ih3 c0 c1 c2 c3 c4 c5 c6 c7 c8 c9 c10 c11 c12 x1 ⟨y, rfl, hy, rfl, hR⟩
      unfold f_m_runs_N64
      refine wp_ite (fun g => ?_) (fun g => ?_)
      · have g' := (nI_leX (a := 20) (b := y) (by decide) (by omega)).mp g
        have e : y = 20 := by omega
        subst e
        exact wp_some hR
      · have g' : ¬ 20 ≤ y := fun q => g ((nI_leX (a := 20) (b := y) (by decide) (by omega)).mpr q)
        have e1 : nI y + 1 = nI (y + 1) := (nI_succ y).symm
        refine wp_bind (s_goesBy hS hI (by omega) c0 c5 hR) (fun r hr => ?_)
        rw [e1]
        exact ih3 (20 - (y + 1)) _ _ _ _ _ _ _ _ _ _ _ _ _ _ (by omega) ⟨y + 1, rfl, by omega, rfl, hr⟩
    · have g' : ¬ 8 ≤ p := fun q => g ((nI_leX (a := 8) (b := p) (by decide) (by omega)).mpr q)
      have e1 : nI p + 1 = nI (p + 1) := (nI_succ p).symm
      refine wp_gd (inbN (by omega) (by decide)) ?_
      rw [nI_clamp (show p < 2 ^ 31 by omega), e1]
      refine ih2 (8 - (p + 1)) _ _ _ _ _ _ _ _ _ _ _ _ _ _ (by omega) ⟨rfl, p + 1, rfl, by omega, rfl, fun q hq => ?_⟩
      rw [upd_at]
      by_cases e : q = p
      · rw [if_pos e]
      · rw [if_neg e]; exact hz q (by omega)
  · have g' : ¬ 40 ≤ p := fun q => g ((nI_leX (a := 40) (b := p) (by decide) (by omega)).mpr q)
    have e1 : nI p + 1 = nI (p + 1) := (nI_succ p).symm
    refine wp_gd (inbN (by omega) (by decide)) (wp_gd (inbN (by omega) (by decide)) ?_)
    rw [nI_clamp (show p < 2 ^ 31 by omega), e1]
    refine ih (40 - (p + 1)) _ _ _ _ _ _ _ _ _ _ _ _ _ _ (by omega) ⟨p + 1, rfl, by omega, rfl, fun q hq' => ?_⟩
    rw [upd_at]
    by_cases e : q = p
    · rw [if_pos e, e]; exact ht p (by omega)
    · rw [if_neg e]; exact hq q (by omega)
