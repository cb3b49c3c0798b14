/-! WHAT A RUN STANDS ON: components of the class, of the reference, and the situation that they tell -/
theorem Sok_sq {S T : Sit} (h : SitEq S T) (hT : Sok T) : Sok S := by
  obtain ⟨e1, e2, e3, e4, e5, e6, e7, e8, e9, e10⟩ := h
  obtain ⟨t1, t2, t3, t4, t5, t6, t7, t8, t9, t10⟩ := hT
  refine ⟨by omega, fun k hk => ?_, by omega, fun k hk => ?_, by omega, fun k hk => ?_, by omega, by omega, by omega, by rw [e10]; exact t10⟩
  · rw [(e2 k hk).2]; exact t2 k (by omega)
  · rw [(e4 k hk).2.1]; exact t4 k (by omega)
  · rw [(e6 k hk).2.1, (e6 k hk).2.2]; exact t6 k (by omega)
theorem Sin_sq {S T : Sit} (h : SitEq S T) (hT : Sin T) : Sin S := by
  obtain ⟨e1, e2, e3, e4, e5, e6, e7, e8, e9, e10⟩ := h
  unfold Sin
  rw [e7, e8, e10]
  exact hT
def wAb (S : Sit) (ab : Int32) : Sit := (S.1, (S.2.1.1, S.2.1.2.1, S.2.1.2.2.1, ab), S.2.2)
def wSt (S : Sit) (st : Nat → Int32) : Sit := ((S.1.1, S.1.2.1, st), S.2)
def wMd (S : Sit) (md : Nat → Int32) : Sit := ((S.1.1, md, S.1.2.2), S.2)
def wFr (S : Sit) (fn : Nat) (fy ff : Nat → Int32) : Sit := (S.1, (fn, fy, ff, 0), S.2.2)
def wGp (S : Sit) (gn : Nat) (gy gc gh : Nat → Int32) : Sit := (S.1, S.2.1, (gn, gy, gc, gh), S.2.2.2)
def wWl (S : Sit) (w : Wl) : Sit := (S.1, S.2.1, S.2.2.1, S.2.2.2.1, w)
theorem wAb_ok {S : Sit} (h : Sok S) (ab : Int32) : Sok (wAb S ab) := h
theorem wAb_in {S : Sit} (h : Sin S) (ab : Int32) : Sin (wAb S ab) := h
theorem wAb_id {S : Sit} (h : Sab S = 0) : wAb S 0 = S := by
  show (S.1, (S.2.1.1, S.2.1.2.1, S.2.1.2.2.1, (0 : Int32)), S.2.2) = S
  rw [← h]
theorem wSt_ok {S : Sit} (h : Sok S) {st : Nat → Int32} (hs : ∀ k, k < Sn S → 0 ≤ (st k).toInt ∧ (st k).toInt ≤ 9) : Sok (wSt S st) := ⟨h.1, hs, h.2.2⟩
theorem wMd_ok {S : Sit} (h : Sok S) (md : Nat → Int32) : Sok (wMd S md) := h
theorem wFr_ok {S : Sit} (h : Sok S) {fn : Nat} {fy ff : Nat → Int32} (h1 : fn ≤ 6) (h2 : ∀ k, k < fn → 1 ≤ (ff k).toInt ∧ (ff k).toInt ≤ 15) : Sok (wFr S fn fy ff) := ⟨h.1, h.2.1, h1, h2, h.2.2.2.2⟩
theorem wGp_ok {S : Sit} (h : Sok S) {gn : Nat} {gy gc gh : Nat → Int32} (h1 : gn ≤ 7) (h2 : gOk gn gc gh) : Sok (wGp S gn gy gc gh) := ⟨h.1, h.2.1, h.2.2.1, h.2.2.2.1, h1, h2, h.2.2.2.2.2.2⟩
theorem wWl_ok {S : Sit} (h : Sok S) {w : Wl} (hw : wok w) : Sok (wWl S w) := ⟨h.1, h.2.1, h.2.2.1, h.2.2.2.1, h.2.2.2.2.1, h.2.2.2.2.2.1, h.2.2.2.2.2.2.1, h.2.2.2.2.2.2.2.1, h.2.2.2.2.2.2.2.2.1, hw⟩
/-! the class -/
def CIw (S : Sit) (courses columns jump : Int32) (stones : Nat → Int64) : Prop := courses = nI (SC S) ∧ columns = nI (SW S) ∧ jump = nI (Sj S) ∧ rep stones (Sw S)
def CIh (S : Sit) (n : Int32) (mood strong : Nat → Int32) : Prop := n = nI (Sn S) ∧ ∀ k, k < Sn S → mood k = Smd S k ∧ strong k = Sst S k
def CIf (S : Sit) (n : Int32) (fy ff : Nat → Int32) : Prop := n = nI (Sfn S) ∧ ∀ k, k < Sfn S → fy k = Sfy S k ∧ ff k = Sff S k
def CIg (S : Sit) (n : Int32) (gy gc gh : Nat → Int32) : Prop := n = nI (Sgn S) ∧ ∀ k, k < Sgn S → gy k = Sgy S k ∧ gc k = Sgc S k ∧ gh k = Sgh S k
theorem k_run {S : Sit} (hS : Sok S) {courses columns jump : Int32} {st : Nat → Int64} (hw : CIw S courses columns jump st) {hn : Int32} {mood strong : Nat → Int32} (hh : CIh S hn mood strong) {fn : Int32} {fy ff : Nat → Int32} (hf : CIf S fn fy ff) {gn : Int32} {gy gc gh : Nat → Int32} (hg : CIg S gn gy gc gh) (ab : Int32) (all0 : Int64) (losers0 : Int32) (now0 stones0 standing0 : Nat → Int64) (open0 fallen0 : Nat → Int32) : wp (f_ys_run all0 losers0 courses columns jump st hn mood strong gn gy gc gh now0 stones0 standing0 open0 fallen0 fn fy ff ab) (fun r => RunC (wAb S ab) r.2.1 r.2.2.2.1 r.2.2.2.2.1 r.2.2.2.2.2.1 r.2.2.2.2.2.2) := by
  obtain ⟨rfl, rfl, rfl, hr⟩ := hw
  obtain ⟨rfl, hh⟩ := hh
  obtain ⟨rfl, hf⟩ := hf
  obtain ⟨rfl, hg⟩ := hg
  have hE : SitEq ((Sn S, mood, strong), (Sfn S, fy, ff, ab), (Sgn S, gy, gc, gh), (SC S, SW S, Sj S), Sw S) (wAb S ab) := ⟨rfl, hh, rfl, fun k hk => ⟨(hf k hk).1, (hf k hk).2, rfl⟩, rfl, hg, rfl, rfl, rfl, rfl⟩
  exact wp_mono (s_run (S := ((Sn S, mood, strong), (Sfn S, fy, ff, ab), (Sgn S, gy, gc, gh), (SC S, SW S, Sj S), Sw S)) (Sok_sq hE (wAb_ok hS ab)) hr all0 losers0 now0 stones0 standing0 open0 fallen0) (fun r h => sq_RunC hE h)
/-! the reference -/
def MIw (S : Sit) (courses wide jump : Int32) (told : Nat → Int32) : Prop := courses = nI (SC S) ∧ wide = nI (SW S) ∧ jump = nI (Sj S) ∧ ∀ p, p < 40 → told p = Sw S p
def MIf (S : Sit) (n nt : Int32) (fy ff : Nat → Int32) : Prop := n = nI (Sfn S) ∧ nt = Sab S ∧ ∀ k, k < Sfn S → fy k = Sfy S k ∧ ff k = Sff S k
theorem k_runs {S : Sit} (hS : Sok S) (hI : Sin S) {courses wide jump : Int32} {told : Nat → Int32} (hw : MIw S courses wide jump told) {hn : Int32} {mood strong : Nat → Int32} (hh : CIh S hn mood strong) {fn nt : Int32} {fy ff : Nat → Int32} (hf : MIf S fn nt fy ff) {gn : Int32} {gy gc gh : Nat → Int32} (hg : CIg S gn gy gc gh) (fell0 fA0 sF0 sM0 : Int32) (wl0 hold0 fo0 hA0 hO0 fa0 st0 hi0 th0 : Nat → Int32) : wp (f_m_runs courses wide hn jump fn nt gn fell0 fA0 sF0 sM0 told mood strong gy gc gh wl0 fy ff hold0 fo0 hA0 hO0 fa0 st0 hi0 th0) (RunM S 20) := by
  obtain ⟨rfl, rfl, rfl, hr⟩ := hw
  obtain ⟨rfl, hh⟩ := hh
  obtain ⟨rfl, rfl, hf⟩ := hf
  obtain ⟨rfl, hg⟩ := hg
  have hE : SitEq ((Sn S, mood, strong), (Sfn S, fy, ff, Sab S), (Sgn S, gy, gc, gh), (SC S, SW S, Sj S), Sw S) S := ⟨rfl, hh, rfl, fun k hk => ⟨(hf k hk).1, (hf k hk).2, rfl⟩, rfl, hg, rfl, rfl, rfl, rfl⟩
  exact wp_mono (s_runs (S := ((Sn S, mood, strong), (Sfn S, fy, ff, Sab S), (Sgn S, gy, gc, gh), (SC S, SW S, Sj S), Sw S)) (Sok_sq hE hS) (Sin_sq hE hI) hr fell0 fA0 sF0 sM0 wl0 hold0 fo0 hA0 hO0 fa0 st0 hi0 th0) (fun r h => sq_RunM hE h)
/-! all that is told: texts, jump, frosts, gappings -/
abbrev Kt : Type := (((Nat → Int32) × Nat) × ((Nat → Int32) × Nat)) × Nat × (Nat × (Nat → Int32) × (Nat → Int32)) × (Nat × (Nat → Int32) × (Nat → Int32) × (Nat → Int32))
abbrev kWb (K : Kt) : Nat → Int32 := K.1.1.1
abbrev kA (K : Kt) : Nat := K.1.1.2
abbrev kHb (K : Kt) : Nat → Int32 := K.1.2.1
abbrev kB (K : Kt) : Nat := K.1.2.2
abbrev kJ (K : Kt) : Nat := K.2.1
abbrev kFn (K : Kt) : Nat := K.2.2.1.1
abbrev kFy (K : Kt) : Nat → Int32 := K.2.2.1.2.1
abbrev kFf (K : Kt) : Nat → Int32 := K.2.2.1.2.2
abbrev kGn (K : Kt) : Nat := K.2.2.2.1
abbrev kGy (K : Kt) : Nat → Int32 := K.2.2.2.2.1
abbrev kGc (K : Kt) : Nat → Int32 := K.2.2.2.2.2.1
abbrev kGh (K : Kt) : Nat → Int32 := K.2.2.2.2.2.2
def Kok (K : Kt) : Prop := (kA K ≤ 44 ∧ byt (kWb K) (kA K)) ∧ (kB K ≤ 23 ∧ byt (kHb K) (kB K)) ∧ (1 ≤ kJ K ∧ kJ K ≤ 5) ∧ (kFn K ≤ 6 ∧ ∀ k, k < kFn K → 1 ≤ (kFf K k).toInt ∧ (kFf K k).toInt ≤ 15) ∧ (kGn K ≤ 6 ∧ gOk (kGn K) (kGc K) (kGh K))
def SK (K : Kt) : Sit := Sx (kA K) (kB K) (kFn K) (kGn K) (kJ K) (kWb K) (kHb K) (fun k => pm (kHb K (3 * k))) (fun k => kHb K (3 * k + 1) - 48) (kFy K) (kFf K) 0 (kGy K) (kGc K) (kGh K)
theorem hTold_c (hb : Nat → Int32) (n : Nat) : hTold hb n (fun k => pm (hb (3 * k))) (fun k => hb (3 * k + 1) - 48) := fun _ _ => ⟨rfl, rfl⟩
theorem SK_ok {K : Kt} (h : Kok K) : Sok (SK K) ∧ Sin (SK K) := Sx_ok h.1.1 h.2.1.1 (hTold_c _ _) h.2.2.2.1.1 h.2.2.2.1.2 (by have := h.2.2.2.2.1; omega) h.2.2.2.2.2 h.2.2.1.2
theorem SK_ab (K : Kt) : Sab (SK K) = 0 := rfl
def CT (S : Sit) (stale losers : Int32) (stones standing : Nat → Int64) (opn fallen : Nat → Int32) : Prop := (stale = 0 ∨ stale = 1) ∧ (stale = 0 → RunC S losers stones standing opn fallen)






theorem k_x_asTold {S : Sit} (hS : Sok S) (hA : Sab S = 0) {v_toldIsStale : Int32} {v_wall_courses : Int32} {v_wall_columns : Int32} {v_wall_jump : Int32} {v_wall_stones : Nat → Int64} {v_hands_told : Int32} {v_hands_mood : Nat → Int32} {v_hands_strong : Nat → Int32} {v_frosts_told : Int32} {v_frosts_year : Nat → Int32} {v_frosts_force : Nat → Int32} {v_gappings_told : Int32} {v_gappings_year : Nat → Int32} {v_gappings_column : Nat → Int32} {v_gappings_hand : Nat → Int32} {v_told_all : Int64} {v_told_losers : Int32} {v_told_now : Nat → Int64} {v_told_stones : Nat → Int64} {v_told_standing : Nat → Int64} {v_told_open : Nat → Int32} {v_told_fallen : Nat → Int32} (hw : CIw S v_wall_courses v_wall_columns v_wall_jump v_wall_stones) (hh : CIh S v_hands_told v_hands_mood v_hands_strong) (hf : CIf S v_frosts_told v_frosts_year v_frosts_force) (hg : CIg S v_gappings_told v_gappings_year v_gappings_column v_gappings_hand) (ht : CT S v_toldIsStale v_told_losers v_told_stones v_told_standing v_told_open v_told_fallen) : wp (f_x_asTold v_toldIsStale v_wall_courses v_wall_columns v_wall_jump v_wall_stones v_hands_told v_hands_mood v_hands_strong v_frosts_told v_frosts_year v_frosts_force v_gappings_told v_gappings_year v_gappings_column v_gappings_hand v_told_all v_told_losers v_told_now v_told_stones v_told_standing v_told_open v_told_fallen) (fun r => r.1 = 0 ∧ RunC S r.2.2.1 r.2.2.2.2.1 r.2.2.2.2.2.1 r.2.2.2.2.2.2.1 r.2.2.2.2.2.2.2) := by
  unfold f_x_asTold
  refine wp_ite (fun g => wp_some ⟨g, ht.2 g⟩) (fun g => ?_)
  refine wp_bind (k_run hS hw hh hf hg 0 _ _ _ _ _ _ _) (fun r h => wp_some ⟨rfl, ?_⟩)
  rw [wAb_id hA] at h
  exact h
/-- reference: what is told, kept -/
def MP (K : Kt) (typed texts : Nat → Int32) (jump fn : Int32) (fy ff : Nat → Int32) (gn : Int32) (gy gc gh : Nat → Int32) : Prop := (wtx typed texts (kWb K) (kA K) ∧ htx typed texts (kHb K) (kB K)) ∧ jump = nI (kJ K) ∧ (fn = nI (kFn K) ∧ ∀ k, k < kFn K → fy k = kFy K k ∧ ff k = kFf K k) ∧ (gn = nI (kGn K) ∧ ∀ k, k < kGn K → gy k = kGy K k ∧ gc k = kGc K k ∧ gh k = kGh K k)
def RK (K : Kt) (courses wide hands : Int32) (told moods strongs : Nat → Int32) : Prop := RD (kWb K) (kA K) (kHb K) (kB K) courses wide hands told moods strongs






theorem RK_h {K : Kt} {courses wide hands : Int32} {told moods strongs : Nat → Int32} (h : RK K courses wide hands told moods strongs) : CIh (SK K) hands moods strongs := ⟨h.2.2.1, h.2.2.2.2⟩
theorem RK_w {K : Kt} {courses wide hands jump : Int32} {told moods strongs : Nat → Int32} (h : RK K courses wide hands told moods strongs) (hj : jump = nI (kJ K)) : MIw (SK K) courses wide jump told := ⟨h.1, h.2.1, hj, fun p hp => h.2.2.2.1 p (by omega)⟩
theorem k_m_reads {K : Kt} (hK : Kok K) {v_courses : Int32} {v_wide : Int32} {v_hands : Int32} {v_typed : Nat → Int32} {v_texts : Nat → Int32} {v_told : Nat → Int32} {v_moods : Nat → Int32} {v_strongs : Nat → Int32} (hw : wtx v_typed v_texts (kWb K) (kA K)) (hh : htx v_typed v_texts (kHb K) (kB K)) : wp (f_m_reads v_courses v_wide v_hands v_typed v_texts v_told v_moods v_strongs) (fun r => RK K r.1 r.2.1 r.2.2.1 r.2.2.2.1 r.2.2.2.2.1 r.2.2.2.2.2) := s_reads hK.1.1 hK.2.1.1 hw hh _ _ _ _ _ _
theorem k_m_asTold {K : Kt} (hK : Kok K) {v_courses : Int32} {v_wide : Int32} {v_hands : Int32} {v_frosts : Int32} {v_gaps : Int32} {v_frostsNow : Int32} {v_notFrosts : Int32} {v_gapsNow : Int32} {v_typed : Nat → Int32} {v_texts : Nat → Int32} {v_told : Nat → Int32} {v_moods : Nat → Int32} {v_strongs : Nat → Int32} {v_frostYear : Nat → Int32} {v_frostForce : Nat → Int32} {v_yearNow : Nat → Int32} {v_forceNow : Nat → Int32} {v_jumpTold : Int32} {v_gapYear v_gapColumn v_gapHand : Nat → Int32} (hm : MP K v_typed v_texts v_jumpTold v_frosts v_frostYear v_frostForce v_gaps v_gapYear v_gapColumn v_gapHand) : wp (f_m_asTold v_courses v_wide v_hands v_frosts v_gaps v_frostsNow v_notFrosts v_gapsNow v_typed v_texts v_told v_moods v_strongs v_frostYear v_frostForce v_yearNow v_forceNow) (fun r => RK K r.1 r.2.1 r.2.2.1 r.2.2.2.2.2.2.1 r.2.2.2.2.2.2.2.1 r.2.2.2.2.2.2.2.2.1 ∧ r.2.2.2.1 = nI (kFn K) ∧ r.2.2.2.2.1 = 0 ∧ r.2.2.2.2.2.1 = nI (kGn K) ∧ ∀ k, k < kFn K → r.2.2.2.2.2.2.2.2.2.1 k = kFy K k ∧ r.2.2.2.2.2.2.2.2.2.2 k = kFf K k) := by
  obtain ⟨⟨hw, hh⟩, -, ⟨rfl, hf⟩, rfl, -⟩ := hm
  exact wp_mono (s_asTold hK.1.1 hK.2.1.1 hw hh hK.2.2.2.1.1 (kGn K) _ _ _ _ _ _ _ _ _ _ _ _ _) (fun r h => ⟨h.1, h.2.1, h.2.2.1, h.2.2.2.1, fun k hk => ⟨(h.2.2.2.2 k hk).1.trans (hf k hk).1, (h.2.2.2.2 k hk).2.trans (hf k hk).2⟩⟩)

theorem k_m_runsTold {K : Kt} (hK : Kok K) {v_courses : Int32} {v_wide : Int32} {v_hands : Int32} {v_jumpTold : Int32} {v_frosts : Int32} {v_gaps : Int32} {v_frostsNow : Int32} {v_notFrosts : Int32} {v_gapsNow : Int32} {v_fell : Int32} {v_fellAll : Int32} {v_sheepFirst : Int32} {v_sheepMany : Int32} {v_typed : Nat → Int32} {v_texts : Nat → Int32} {v_told : Nat → Int32} {v_moods : Nat → Int32} {v_strongs : Nat → Int32} {v_frostYear : Nat → Int32} {v_frostForce : Nat → Int32} {v_gapYear : Nat → Int32} {v_gapColumn : Nat → Int32} {v_gapHand : Nat → Int32} {v_wall : Nat → Int32} {v_yearNow : Nat → Int32} {v_forceNow : Nat → Int32} {v_holdNow : Nat → Int32} {v_fellOf : Nat → Int32} {v_handAt : Nat → Int32} {v_holdAt : Nat → Int32} {v_fallsAt : Nat → Int32} {v_standAt : Nat → Int32} {v_highAt : Nat → Int32} {v_throughAt : Nat → Int32} (hm : MP K v_typed v_texts v_jumpTold v_frosts v_frostYear v_frostForce v_gaps v_gapYear v_gapColumn v_gapHand) : wp (f_m_runsTold v_courses v_wide v_hands v_jumpTold v_frosts v_gaps v_frostsNow v_notFrosts v_gapsNow v_fell v_fellAll v_sheepFirst v_sheepMany v_typed v_texts v_told v_moods v_strongs v_frostYear v_frostForce v_gapYear v_gapColumn v_gapHand v_wall v_yearNow v_forceNow v_holdNow v_fellOf v_handAt v_holdAt v_fallsAt v_standAt v_highAt v_throughAt) (fun r => RK K r.1 r.2.1 r.2.2.1 r.2.2.2.2.2.2.2.2.2.2.1 r.2.2.2.2.2.2.2.2.2.2.2.1 r.2.2.2.2.2.2.2.2.2.2.2.2.1 ∧ RunM (SK K) 20 (r.2.2.2.2.2.2.1, r.2.2.2.2.2.2.2.1, r.2.2.2.2.2.2.2.2.1, r.2.2.2.2.2.2.2.2.2.1, r.2.2.2.2.2.2.2.2.2.2.2.2.2.1, r.2.2.2.2.2.2.2.2.2.2.2.2.2.2.2.2.1, r.2.2.2.2.2.2.2.2.2.2.2.2.2.2.2.2.2.1, r.2.2.2.2.2.2.2.2.2.2.2.2.2.2.2.2.2.2.1, r.2.2.2.2.2.2.2.2.2.2.2.2.2.2.2.2.2.2.2.1, r.2.2.2.2.2.2.2.2.2.2.2.2.2.2.2.2.2.2.2.2.1, r.2.2.2.2.2.2.2.2.2.2.2.2.2.2.2.2.2.2.2.2.2.1, r.2.2.2.2.2.2.2.2.2.2.2.2.2.2.2.2.2.2.2.2.2.2.1, r.2.2.2.2.2.2.2.2.2.2.2.2.2.2.2.2.2.2.2.2.2.2.2)) := by
  have hm' := hm
  obtain ⟨-, rfl, ⟨e1, hf⟩, e2, hg⟩ := hm
  unfold f_m_runsTold
  refine wp_bind (k_m_asTold hK hm') (fun r1 h1 => ?_)
  obtain ⟨hR, q1, q2, q3, hF⟩ := h1
  exact wp_bind (k_runs (S := SK K) (SK_ok hK).1 (SK_ok hK).2 (RK_w hR rfl) (RK_h hR) ⟨q1, q2, hF⟩ ⟨q3, hg⟩ _ _ _ _ _ _ _ _ _ _ _ _ _) (fun r2 h2 => wp_some ⟨hR, h2⟩)
