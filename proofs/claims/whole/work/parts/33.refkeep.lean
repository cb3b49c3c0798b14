/-! THE REFERENCE: what is kept of a year -/
theorem nar_b (b : Bool) : vp_nar .boolean (b2i b) = b2i b := by cases b <;> decide
theorem i40 {y p : Nat} : (40 : Int32) * nI y + nI p = nI (40 * y + p) := by rw [show (40 : Int32) = nI 40 from rfl, nI_mulI, nI_addI]
theorem i8 {y p : Nat} : (8 : Int32) * nI y + nI p = nI (8 * y + p) := by rw [show (8 : Int32) = nI 8 from rfl, nI_mulI, nI_addI]
theorem hldV_ge {n : Nat} {mood strong : Nat → Int32} {w : Wl} {p : Nat} (h : ¬ w p = -1) : 0 ≤ hldV n mood strong w p := by
  unfold hldV
  rw [if_neg h]
  split <;> omega
/-- what keeps leaves of a year y, beside what was kept of earlier years -/
def KeepR (n : Nat) (mood strong : Nat → Int32) (W jump : Nat) (w : Wl) (y : Nat) (sF0 sM0 : Int32) (hA0 hO0 st0 hi0 th0 : Nat → Int32) (r : Int32 × Int32 × (Nat → Int32) × (Nat → Int32) × (Nat → Int32) × (Nat → Int32) × (Nat → Int32) × (Nat → Int32)) : Prop :=
  (r.1 = if anyB (thr n mood jump w) W = true ∧ sF0 = -1 then nI y else sF0) ∧ r.2.1 = sM0 + b2i (anyB (thr n mood jump w) W) ∧
  (∀ p, p < 40 → r.2.2.2.1 (40 * y + p) = w p ∧ (r.2.2.2.2.1 (40 * y + p)).toInt = hldV n mood strong w p) ∧ r.2.2.2.2.2.1 y = nI (bct (isS w) 40) ∧
  (∀ c, c < W → r.2.2.2.2.2.2.1 (8 * y + c) = nI (colCnt (isS w) c) ∧ r.2.2.2.2.2.2.2 (8 * y + c) = b2i (thr n mood jump w c)) ∧
  (∀ q, q < 40 * y → r.2.2.2.1 q = hA0 q ∧ r.2.2.2.2.1 q = hO0 q) ∧ (∀ q, q < y → r.2.2.2.2.2.1 q = st0 q) ∧ ∀ q, q < 8 * y → r.2.2.2.2.2.2.1 q = hi0 q ∧ r.2.2.2.2.2.2.2 q = th0 q
theorem s_keeps {C W n jump : Nat} (hC : C ≤ 5) (hW : W ≤ 8) (hn : n ≤ 8) (hj : jump ≤ 5) {mood strong : Nat → Int32} (hs : ∀ h, h < n → 0 ≤ (strong h).toInt ∧ (strong h).toInt ≤ 9) {w : Wl} (hw : wok w) (hcw : inCW C W w) {y : Nat} (hy : y < 20) (sF0 sM0 : Int32) (hold0 hA0 hO0 st0 hi0 th0 : Nat → Int32) : wp (f_m_keeps (nI C) (nI W) (nI n) (nI jump) sF0 sM0 mood strong w hold0 hA0 hO0 st0 hi0 th0 (nI y)) (KeepR n mood strong W jump w y sF0 sM0 hA0 hO0 st0 hi0 th0) := by
  have hyin : inb (nI y) 20 = true := inbN hy (by decide)
  have hyc : (nI y).toNatClampNeg = y := nI_clamp (by omega)
  have em : (-1 : Int32).toInt = -1 := by decide
  unfold f_m_keeps
  refine wp_bind (s_holdAll hC hW hn hs hw hcw hold0) (fun hd hhd => wp_gd hyin ?_)
  rw [hyc]
  refine wl_m_keeps_N15 (fun m a0 a1 a2 a3 a4 a5 a6 a7 x1 x2 x3 => a0 = sF0 ∧ a1 = sM0 ∧ a2 = hd ∧ a6 = hi0 ∧ a7 = th0 ∧ x1 = nI y ∧ x2 = 0 ∧ ∃ p, x3 = nI p ∧ p ≤ 40 ∧ m = 40 - p ∧ (∀ q, q < p → a3 (40 * y + q) = w q ∧ a4 (40 * y + q) = hd q) ∧ a5 y = nI (bct (isS w) p) ∧ (∀ q, q < 40 * y → a3 q = hA0 q ∧ a4 q = hO0 q) ∧ ∀ q, q < y → a5 q = st0 q) ?_ 1000 40 _ _ _ _ _ _ _ _ _ _ _ (by decide) ⟨rfl, rfl, rfl, rfl, rfl, rfl, rfl, 0, rfl, by decide, rfl, fun q hq => absurd hq (Nat.not_lt_zero q), by rw [upd_at, if_pos rfl]; rfl, fun q _ => ⟨rfl, rfl⟩, fun q hq => by rw [upd_at, if_neg (by omega)]⟩
  rintro m k15 ih a0 a1 a2 a3 a4 a5 a6 a7 x1 x2 x3 ⟨rfl, rfl, rfl, rfl, rfl, rfl, rfl, p, rfl, hp, rfl, h1, h2, h3, h4⟩
  unfold f_m_keeps_N15
  refine wp_ite (fun g => ?_) (fun g => ?_)
  · have g' := (nI_leX (a := 40) (b := p) (by decide) (by omega)).mp g
    have e : p = 40 := by omega
    subst e
    refine wl_m_keeps_N93 (fun m b0 b1 b2 b3 b4 b5 b6 b7 z1 z2 z3 => b0 = a0 ∧ b1 = a1 ∧ b3 = a3 ∧ b4 = a4 ∧ b5 = a5 ∧ z1 = nI y ∧ ∃ c, z3 = nI c ∧ c ≤ W ∧ m = W - c ∧ z2 = b2i (anyB (thr n mood jump w) c) ∧ (∀ j, j < c → b6 (8 * y + j) = nI (colCnt (isS w) j) ∧ b7 (8 * y + j) = b2i (thr n mood jump w j)) ∧ ∀ q, q < 8 * y → b6 q = a6 q ∧ b7 q = a7 q) ?_ 1000 W _ _ _ _ _ _ _ _ _ _ _ (by omega) ⟨rfl, rfl, rfl, rfl, rfl, rfl, 0, rfl, by omega, rfl, rfl, fun j hj => absurd hj (Nat.not_lt_zero j), fun q _ => ⟨rfl, rfl⟩⟩
    rintro m k93 ih2 b0 b1 b2 b3 b4 b5 b6 b7 z1 z2 z3 ⟨rfl, rfl, rfl, rfl, rfl, rfl, c, rfl, hc, rfl, rfl, q1, q2⟩
    unfold f_m_keeps_N93
    refine wp_ite (fun g1 => ?_) (fun g1 => ?_)
    · have g1' := (nI_leX (a := W) (b := c) (by omega) (by omega)).mp g1
      have e : c = W := by omega
      subst e
      have fin : ∀ (v : Int32) (B : Bool), B = anyB (thr n mood jump w) c → (v = if anyB (thr n mood jump w) c = true ∧ b0 = -1 then nI y else b0) → wp (f_m_keeps_N230 (nI C) (nI c) (nI n) (nI jump) mood strong w b0 b1 b2 b3 b4 b5 b6 b7 (b2i B) v) (KeepR n mood strong c jump w y b0 b1 hA0 hO0 st0 a6 a7) := by
        intro v B hB hv
        have rest : ∀ sm : Int32, sm = b1 + b2i B → KeepR n mood strong c jump w y b0 b1 hA0 hO0 st0 a6 a7 (v, sm, b2, b3, b4, b5, b6, b7) := by
          intro sm hsm
          refine ⟨hv, by rw [← hB]; exact hsm, fun p hp => ⟨(h1 p hp).1, ?_⟩, h2, q1, h3, h4, q2⟩
          show (b4 (40 * y + p)).toInt = _
          rw [(h1 p hp).2]
          exact hhd p hp
        unfold f_m_keeps_N230
        cases B with
        | false => exact wp_pos (by decide) (wp_some (rest _ rfl))
        | true => exact wp_neg (by decide) (wp_some (rest _ rfl))
      cases hB : anyB (thr n mood jump w) c with
      | false =>
        refine wp_pos (by decide) ?_
        unfold f_m_keeps_N226
        exact fin b0 false hB.symm (by rw [hB, if_neg (fun z => by cases z.1)])
      | true =>
        refine wp_neg (by decide) (wp_ite (fun g2 => ?_) (fun g2 => ?_))
        · exact fin (nI y) true hB.symm (by rw [if_pos ⟨hB, g2⟩])
        · unfold f_m_keeps_N226
          exact fin b0 true hB.symm (by rw [if_neg (fun z => g2 z.2)])
    · have g1' : ¬ W ≤ c := fun q => g1 ((nI_leX (a := W) (b := c) (by omega) (by omega)).mpr q)
      have hc8 : c < 8 := by omega
      have e1 : nI c + 1 = nI (c + 1) := (nI_succ c).symm
      refine wl_m_keeps_N107 (fun m d0 d1 d2 d3 d4 d5 d6 d7 z1 z2 z3 z4 z5 => d0 = b0 ∧ d1 = b1 ∧ d3 = b3 ∧ d4 = b4 ∧ d5 = b5 ∧ d6 = b6 ∧ d7 = b7 ∧ z1 = nI y ∧ z2 = b2i (anyB (thr n mood jump w) c) ∧ z3 = nI c ∧ ∃ k, z5 = nI k ∧ k ≤ C ∧ m = C - k ∧ z4 = nI (bct (fun k => isS w (8 * k + c)) k)) ?_ 1000 C _ _ _ _ _ _ _ _ _ _ _ _ _ (by omega) ⟨rfl, rfl, rfl, rfl, rfl, rfl, rfl, rfl, rfl, rfl, 0, rfl, by omega, rfl, rfl⟩
      rintro m k107 ih3 d0 d1 d2 d3 d4 d5 d6 d7 z1 z2 z3 z4 z5 ⟨rfl, rfl, rfl, rfl, rfl, rfl, rfl, rfl, rfl, rfl, k, rfl, hk, rfl, rfl⟩
      unfold f_m_keeps_N107
      refine wp_ite (fun g2 => ?_) (fun g2 => ?_)
      · have g2' := (nI_leX (a := C) (b := k) (by omega) (by omega)).mp g2
        have e : k = C := by omega
        subst e
        have hcc : bct (fun j => isS w (8 * j + c)) k = colCnt (isS w) c := (bct_ext (n := k) (m := 5) hC (fun _ _ => rfl) (fun j h1 h2 => (isS_at (by omega)).mpr (col_C hC hcw hc8 h1 h2))).symm
        have hin : inb (nI (8 * y + c)) 160 = true := inbN (by omega) (by decide)
        have hcl : (nI (8 * y + c)).toNatClampNeg = 8 * y + c := nI_clamp (by omega)
        rw [hcc, i8, hcl]
        refine wp_gd hin (wp_bindE (s_isThrough hC hn hj hw hcw hc8) (wp_gd hin ?_))
        rw [nar_b]
        have fin : ∀ B : Bool, B = anyB (thr n mood jump w) (c + 1) → wp (k93 d0 d1 d2 d3 d4 d5 (upd d6 (8 * y + c) (nI (colCnt (isS w) c))) (upd d7 (8 * y + c) (b2i (thr n mood jump w c))) (nI y) (b2i B) (nI (c + 1))) (KeepR n mood strong W jump w y d0 d1 hA0 hO0 st0 a6 a7) := by
          rintro B rfl
          refine ih2 (W - (c + 1)) _ _ _ _ _ _ _ _ _ _ _ (by omega) ⟨rfl, rfl, rfl, rfl, rfl, rfl, c + 1, rfl, by omega, rfl, rfl, fun j hj => ?_, fun q hq => ?_⟩
          · rw [upd_at, upd_at]
            by_cases e : j = c
            · subst e; rw [if_pos rfl, if_pos rfl]; exact ⟨rfl, rfl⟩
            · rw [if_neg (by omega), if_neg (by omega)]; exact q1 j (by omega)
          · rw [upd_at, upd_at, if_neg (by omega), if_neg (by omega)]; exact q2 q hq
        rw [e1]
        have hstep : anyB (thr n mood jump w) (c + 1) = (anyB (thr n mood jump w) c || thr n mood jump w c) := rfl
        cases hB : anyB (thr n mood jump w) c with
        | true =>
          refine wp_neg (by decide) ?_
          unfold f_m_keeps_N197
          rw [e1]
          exact fin true (by rw [hstep, hB]; rfl)
        | false =>
          rw [hB, Bool.false_or] at hstep
          refine wp_pos (by decide) (wp_gd hin ?_)
          rw [upd_at, if_pos rfl]
          cases hT : thr n mood jump w c with
          | false =>
            refine wp_pos (by decide) ?_
            have := fin false (by rw [hstep, hT])
            rw [hT] at this
            exact this
          | true =>
            refine wp_neg (by decide) ?_
            unfold f_m_keeps_N197
            rw [e1]
            have := fin true (by rw [hstep, hT])
            rw [hT] at this
            exact this
      · have g2' : ¬ C ≤ k := fun q => g2 ((nI_leX (a := C) (b := k) (by omega) (by omega)).mpr q)
        have e2 : nI k + 1 = nI (k + 1) := (nI_succ k).symm
        have hq : 8 * k + c < 40 := by omega
        rw [i8]
        refine wp_gd (inbN hq (by decide)) ?_
        rw [nI_clamp (show 8 * k + c < 2 ^ 31 by omega)]
        unfold f_m_keeps_N139
        rw [e2]
        refine wp_ite (fun g3 => ?_) (fun g3 => ?_)
        · refine ih3 (C - (k + 1)) _ _ _ _ _ _ _ _ _ _ _ _ _ (by omega) ⟨rfl, rfl, rfl, rfl, rfl, rfl, rfl, rfl, rfl, rfl, k + 1, rfl, by omega, rfl, ?_⟩
          show nI _ + nI 0 = nI (bct _ k + (if isS w (8 * k + c) then 1 else 0))
          rw [(isS_at hq).mpr g3, nI_addI]; rfl
        · refine ih3 (C - (k + 1)) _ _ _ _ _ _ _ _ _ _ _ _ _ (by omega) ⟨rfl, rfl, rfl, rfl, rfl, rfl, rfl, rfl, rfl, rfl, k + 1, rfl, by omega, rfl, ?_⟩
          have hS : isS w (8 * k + c) = true := by
            cases hz : isS w (8 * k + c) with
            | false => exact absurd ((isS_at hq).mp hz) g3
            | true => rfl
          show nI _ + nI 1 = nI (bct _ k + (if isS w (8 * k + c) then 1 else 0))
          rw [hS, nI_addI]; rfl
  · have g' : ¬ 40 ≤ p := fun q => g ((nI_leX (a := 40) (b := p) (by decide) (by omega)).mpr q)
    have hp40 : p < 40 := by omega
    have e1 : nI p + 1 = nI (p + 1) := (nI_succ p).symm
    have hin : inb (nI p) 40 = true := inbN hp40 (by decide)
    have hin8 : inb (nI (40 * y + p)) 800 = true := inbN (by omega) (by decide)
    have hcl : (nI p).toNatClampNeg = p := nI_clamp (by omega)
    have hcl8 : (nI (40 * y + p)).toNatClampNeg = 40 * y + p := nI_clamp (by omega)
    rw [r8 (show p < 100 by omega), d8 (show p < 100 by omega), i40, hcl, hcl8, hyc]
    refine wp_bindE (hn_0 hC hW hcw hp40) (wp_gd hin8 (wp_gd hin (wp_gd hin8 (wp_gd hyin (wp_gd hin ?_)))))
    have hval := hhd p hp40
    have fin : ∀ B : Bool, isS w p = B → wp (f_m_keeps_N83 (nI C) (nI W) (nI n) (nI jump) mood strong w k15 a0 a1 a2 (upd a3 (40 * y + p) (w p)) (upd a4 (40 * y + p) (a2 p)) a5 a6 a7 (nI y) 0 (nI p) (nI y) (a5 y) (b2i B)) (KeepR n mood strong W jump w y a0 a1 hA0 hO0 st0 a6 a7) := by
      intro B hB
      unfold f_m_keeps_N83
      refine wp_gd hyin ?_
      rw [hyc, e1]
      refine ih (40 - (p + 1)) _ _ _ _ _ _ _ _ _ _ _ (by omega) ⟨rfl, rfl, rfl, rfl, rfl, rfl, rfl, p + 1, rfl, by omega, rfl, fun q hq => ?_, ?_, fun q hq => ?_, fun q hq => ?_⟩
      · rw [upd_at, upd_at]
        by_cases e : q = p
        · subst e; rw [if_pos rfl, if_pos rfl]; exact ⟨rfl, rfl⟩
        · rw [if_neg (by omega), if_neg (by omega)]; exact h1 q (by omega)
      · rw [upd_at, if_pos rfl, h2]
        show _ = nI (bct _ p + (if isS w p then 1 else 0))
        rw [hB]
        cases B <;> exact nI_addI _ _
      · rw [upd_at, upd_at, if_neg (by omega), if_neg (by omega)]; exact h3 q hq
      · rw [upd_at, if_neg (by omega)]; exact h4 q hq
    refine wp_ite (fun g1 => ?_) (fun g1 => ?_)
    · refine fin false ((isS_at hp40).mpr (Classical.byContradiction fun hx => ?_))
      have := hldV_ge (n := n) (mood := mood) (strong := strong) hx
      rw [← hval, g1, em] at this
      omega
    · refine fin true ?_
      cases hz : isS w p with
      | false =>
        refine absurd (Int32.toInt_inj.mp ?_) g1
        rw [hval, em]
        unfold hldV
        rw [if_pos ((isS_at hp40).mp hz)]
      | true => rfl
