/-! SMALL NUMBERS -/
theorem nI_leX {a b : Nat} (ha : a < 2 ^ 31) (hb : b < 2 ^ 31) : nI a ≤ nI b ↔ a ≤ b := by
  rw [Int32.le_iff_toInt_le, nI_toInt ha, nI_toInt hb]; omega
theorem nI_ltX {a b : Nat} (ha : a < 2 ^ 31) (hb : b < 2 ^ 31) : nI a < nI b ↔ a < b := by
  rw [Int32.lt_iff_toInt_lt, nI_toInt ha, nI_toInt hb]; omega
theorem nI_eqI {a b : Nat} (ha : a < 2 ^ 31) (hb : b < 2 ^ 31) : nI a = nI b ↔ a = b := by
  rw [← Int32.toInt_inj, nI_toInt ha, nI_toInt hb]; omega
theorem nI_addI (a b : Nat) : nI a + nI b = nI (a + b) := (Int32.ofNat_add a b).symm
theorem nI_mulI (a b : Nat) : nI a * nI b = nI (a * b) := (Int32.ofNat_mul a b).symm
theorem nI_subI {a b : Nat} (h : b ≤ a) : nI a - nI b = nI (a - b) := (Int32.ofNat_sub a b h).symm
theorem nI_ne1 {a : Nat} (ha : a < 2 ^ 31) : ¬ nI a = -1 := by
  intro h
  have := congrArg Int32.toInt h
  rw [nI_toInt ha] at this
  have e : (-1 : Int32).toInt = -1 := by decide
  omega
theorem nI_ofX {v : Int32} {m : Nat} (h0 : 0 ≤ v) (h1 : v ≤ nI m) (hm : m < 2 ^ 31) : ∃ i, i ≤ m ∧ v = nI i := by
  rw [Int32.le_iff_toInt_le] at h0 h1
  rw [nI_toInt hm] at h1
  have e : (0 : Int32).toInt = 0 := by decide
  refine ⟨v.toInt.toNat, by omega, ?_⟩
  rw [← Int32.toInt_inj, nI_toInt (by omega)]
  omega
def wi (v a b : Int32) : Int32 := if v < a then 0 else if b < v then 0 else 1
theorem s_within (v a b : Int32) : f_x_within v a b = some (wi v a b) := by
  unfold f_x_within wi
  by_cases h : v < a
  · rw [if_pos h, if_pos h]
  · rw [if_neg h, if_neg h]
    by_cases h2 : b < v
    · rw [if_pos h2, if_pos h2]
    · rw [if_neg h2, if_neg h2]
theorem wi_yes {v a b : Int32} (h : ¬ wi v a b = 0) : a ≤ v ∧ v ≤ b := by
  unfold wi at h
  by_cases h1 : v < a
  · rw [if_pos h1] at h; exact absurd rfl h
  · rw [if_neg h1] at h
    by_cases h2 : b < v
    · rw [if_pos h2] at h; exact absurd rfl h
    · exact ⟨Int32.not_lt.mp h1, Int32.not_lt.mp h2⟩
theorem wi_01 (v a b : Int32) : wi v a b = 0 ∨ wi v a b = 1 := by
  unfold wi
  by_cases h1 : v < a
  · rw [if_pos h1]; exact Or.inl rfl
  · rw [if_neg h1]
    by_cases h2 : b < v
    · rw [if_pos h2]; exact Or.inl rfl
    · rw [if_neg h2]; exact Or.inr rfl
theorem wi_in {v a b : Int32} (h1 : a ≤ v) (h2 : v ≤ b) : wi v a b = 1 := by
  unfold wi
  rw [if_neg (Int32.not_lt.mpr h1), if_neg (Int32.not_lt.mpr h2)]
/-! THE WALL BY ITS PLACES: -1, or the hand's number -/
abbrev Wl : Type := Nat → Int32
def isS (w : Wl) (p : Nat) : Bool := decide (p < 40) && !decide (w p = -1)
def isH (w : Wl) (h p : Nat) : Bool := decide (p < 40) && decide (w p = nI h)
def wok (w : Wl) : Prop := ∀ p, p < 40 → w p = -1 ∨ ∃ h, h < 8 ∧ w p = nI h
def keep (s : Nat → Bool) (w : Wl) : Wl := fun p => if s p then w p else -1
def bo (s : Nat → Bool) : Nat → Nat → Bool
  | 0, j => s j
  | c + 1, j => s (8 * (c + 1) + j) && (bo s c j || (decide (1 ≤ j) && bo s c (j - 1) && (decide (j ≤ 6) && bo s c (j + 1))))
def borne (s : Nat → Bool) (p : Nat) : Bool := bo s (p / 8) (p % 8)
def rep (now : Nat → Int64) (w : Wl) : Prop := ∀ h, h < 8 → ∀ p, bl (now h) p = isH w h p
def repA (a : Int64) (w : Wl) : Prop := ∀ p, bl a p = isS w p
theorem wok_keep {w : Wl} (h : wok w) (s : Nat → Bool) : wok (keep s w) := by
  intro p hp
  unfold keep
  by_cases hs : s p = true
  · rw [if_pos hs]; exact h p hp
  · rw [if_neg hs]; exact Or.inl rfl
theorem isH_S {w : Wl} {h p : Nat} (hh : h < 8) (e : isH w h p = true) : isS w p = true := by
  unfold isH at e
  unfold isS
  simp only [Bool.and_eq_true, decide_eq_true_eq] at e
  rw [e.2]
  simp [e.1, nI_ne1 (show h < 2 ^ 31 by omega)]
theorem isS_H {w : Wl} {p : Nat} (hw : wok w) (e : isS w p = true) : ∃ h, h < 8 ∧ isH w h p = true := by
  unfold isS at e
  simp only [Bool.and_eq_true, decide_eq_true_eq, Bool.not_eq_true', decide_eq_false_iff_not] at e
  rcases hw p e.1 with h | ⟨h, hh, hp⟩
  · exact absurd h e.2
  · exact ⟨h, hh, by unfold isH; simp [e.1, hp]⟩
theorem isH_one {w : Wl} {h k p : Nat} (hh : h < 8) (hk : k < 8) (e : isH w h p = true) (e2 : isH w k p = true) : h = k := by
  unfold isH at e e2
  simp only [Bool.and_eq_true, decide_eq_true_eq] at e e2
  exact (nI_eqI (by omega) (by omega)).mp (e.2.symm.trans e2.2)
/-! BITBOARDS -/
theorem and1_0 {x : Int64} {p : Nat} (hp : p < 64) : (lushr x (nI p)) &&& 1 = 0 ↔ bl x p = false := by
  rw [bl_eq0]
  constructor
  · intro h
    have := h 0 (by decide)
    rw [bl_and, bl_1, bl_ushr hp] at this
    simpa using this
  · intro h i hi
    rw [bl_and, bl_1, bl_ushr hp]
    by_cases e : i = 0
    · subst e; simp [h]
    · simp [e]
theorem s_isAt (x : Int64) {p : Nat} (hp : p < 64) : f_x_isAt x (nI p) = some (if bl x p then 1 else 0) := by
  unfold f_x_isAt
  by_cases h : bl x p = true
  · rw [if_neg (fun e => by rw [cmp0, and1_0 hp, h] at e; exact absurd e (by decide)), if_pos h]
  · have h' : bl x p = false := by simpa using h
    rw [if_pos (by rw [cmp0, and1_0 hp]; exact h'), if_neg h]
def unj (st : Nat → Int64) : Nat → Int64
  | 0 => 0
  | j + 1 => unj st j ||| st j
theorem bl_unj (st : Nat → Int64) (p : Nat) : ∀ j, bl (unj st j) p = true ↔ ∃ h, h < j ∧ bl (st h) p = true
  | 0 => by
    show bl 0 p = true ↔ _
    rw [bl_0]
    exact ⟨fun h => absurd h (by decide), fun ⟨h, hh, _⟩ => absurd hh (Nat.not_lt_zero h)⟩
  | j + 1 => by
    show bl (unj st j ||| st j) p = true ↔ _
    rw [bl_or, Bool.or_eq_true_iff, bl_unj st p j]
    constructor
    · rintro (⟨h, hh, e⟩ | e)
      · exact ⟨h, by omega, e⟩
      · exact ⟨j, by omega, e⟩
    · rintro ⟨h, hh, e⟩
      rcases Nat.lt_or_ge h j with q | q
      · exact Or.inl ⟨h, q, e⟩
      · have : h = j := by omega
        subst this
        exact Or.inr e
theorem s_union (st : Nat → Int64) {n : Nat} (h8 : 8 ≤ n) (hn : n < 2 ^ 31) : f_x_union st n = some (unj st 8) := by
  apply wp_get
  unfold f_x_union
  refine wl_x_union_N4 (fun m x1 x3 => ∃ j, x3 = nI j ∧ j ≤ 8 ∧ m = 8 - j ∧ x1 = unj st j) ?_ 1000 8 _ _ (by decide) ⟨0, rfl, by decide, rfl, rfl⟩
  rintro m k ih x1 x3 ⟨j, rfl, hj, rfl, rfl⟩
  unfold f_x_union_N4
  refine wp_ite (fun h => ?_) (fun h => ?_)
  · have h' := (nI_leX (a := 8) (b := j) (by decide) (by omega)).mp h
    have : j = 8 := by omega
    subst this
    exact wp_some rfl
  · have h' : ¬ 8 ≤ j := fun q => h ((nI_leX (a := 8) (b := j) (by decide) (by omega)).mpr q)
    refine wp_gd (inbN (by omega) hn) ?_
    rw [nI_clamp (by omega)]
    exact ih (8 - (j + 1)) _ _ (by omega) ⟨j + 1, (nI_succ j).symm, by omega, rfl, rfl⟩
theorem rep_union {now : Nat → Int64} {w : Wl} (hr : rep now w) (hw : wok w) : repA (unj now 8) w := by
  intro p
  rw [Bool.eq_iff_iff, bl_unj]
  constructor
  · rintro ⟨h, hh, e⟩
    rw [hr h hh] at e
    exact isH_S hh e
  · intro e
    obtain ⟨h, hh, e⟩ := isS_H hw e
    exact ⟨h, hh, by rw [hr h hh]; exact e⟩
theorem s_borneOf (x : Int64) : wp (f_x_borneOf x) (fun y => ∀ p, bl y p = (decide (p < 40) && borne (bl x) p)) := by
  unfold f_x_borneOf
  refine wl_x_borneOf_N12 (fun m x0 x2 x4 x6 => x0 = x ∧ ∃ c, x6 = nI (c + 1) ∧ c ≤ 4 ∧ m = 4 - c ∧ (∀ j, bl x2 j = (decide (j < 8) && bo (bl x) c j)) ∧ (∀ p, bl x4 p = (decide (p < 8 * (c + 1)) && borne (bl x) p))) ?_ 1000 4 _ _ _ _ (by decide) ⟨rfl, 0, rfl, by decide, rfl, ?_, ?_⟩
  · rintro m k ih x0 x2 x4 x6 ⟨rfl, c, rfl, hc, rfl, h2, h4⟩
    unfold f_x_borneOf_N12
    refine wp_ite (fun h => ?_) (fun h => ?_)
    · have h' := (nI_leX (a := 5) (b := c + 1) (by decide) (by omega)).mp h
      have : c = 4 := by omega
      subst this
      exact wp_some h4
    · have h' : ¬ 5 ≤ c + 1 := fun q => h ((nI_leX (a := 5) (b := c + 1) (by decide) (by omega)).mpr q)
      have e8 : (8 : Int32) * nI (c + 1) = nI (8 * (c + 1)) := nI_mulI 8 (c + 1)
      rw [e8]
      have hx2 : ∀ j, bl (((lushr x0 (nI (8 * (c + 1)))) &&& (255 : Int64)) &&& (x2 ||| ((lshl x2 (1 : Int32)) &&& (lushr x2 (1 : Int32))))) j = (decide (j < 8) && bo (bl x0) (c + 1) j) := by
        intro j
        rw [bl_and, bl_and, bl_or, bl_and, bl_255, bl_ushr (show 8 * (c + 1) < 64 by omega), show (1 : Int32) = nI 1 from rfl, bl_shl (by decide), bl_ushr (by decide), h2, h2, h2]
        show _ = (decide (j < 8) && (bl x0 (8 * (c + 1) + j) && (bo (bl x0) c j || (decide (1 ≤ j) && bo (bl x0) c (j - 1) && (decide (j ≤ 6) && bo (bl x0) c (j + 1))))))
        rw [show 1 + j = j + 1 by omega]
        by_cases hj : j < 8
        · have a1 : j < 64 := by omega
          have a2 : j - 1 < 8 := by omega
          by_cases h6 : j ≤ 6
          · have a3 : j + 1 < 8 := by omega
            simp [hj, a1, a2, a3, h6]
          · have a3 : ¬ j + 1 < 8 := by omega
            simp [hj, a1, a2, a3, h6]
        · simp [hj]
      refine ih (4 - (c + 1)) _ _ _ _ (by omega) ⟨rfl, c + 1, ?_, by omega, rfl, hx2, ?_⟩
      · rw [show (1 : Int32) = nI 1 from rfl, nI_addI]
      · intro p
        rw [bl_or, h4, bl_shl (show 8 * (c + 1) < 64 by omega), hx2]
        unfold borne
        by_cases q1 : p < 8 * (c + 1)
        · have q2 : p < 8 * (c + 1 + 1) := by omega
          have q3 : ¬ 8 * (c + 1) ≤ p := by omega
          simp [q1, q2, q3]
        · by_cases q2 : p < 8 * (c + 1 + 1)
          · have q3 : 8 * (c + 1) ≤ p := by omega
            have q4 : p < 64 := by omega
            have q5 : p - 8 * (c + 1) < 8 := by omega
            have q6 : p / 8 = c + 1 := by omega
            have q7 : p % 8 = p - 8 * (c + 1) := by omega
            simp [q1, q2, q3, q4, q5, q6, q7]
          · have q3 : ¬ p - 8 * (c + 1) < 8 := by omega
            simp [q1, q2, q3]
  · intro j
    rw [bl_and, bl_255]
    show _ = (decide (j < 8) && bl x j)
    rw [Bool.and_comm]
  · intro p
    rw [bl_and, bl_255]
    unfold borne
    by_cases q : p < 8
    · have q2 : p / 8 = 0 := by omega
      have q3 : p % 8 = p := by omega
      rw [q2, q3]
      show _ = (decide (p < 8 * (0 + 1)) && bl x p)
      simp [q]
    · simp [q]
/-! NEIGHBOURS -/
def b2n (b : Bool) : Nat := if b then 1 else 0
def nbL (s : Nat → Bool) (p : Nat) : Bool := decide (1 ≤ p % 8) && s (p - 1)
def nbR (s : Nat → Bool) (p : Nat) : Bool := decide (p % 8 ≤ 6) && s (p + 1)
def nbB (s : Nat → Bool) (p : Nat) : Bool := decide (8 ≤ p) && s (p - 8)
def nbA (s : Nat → Bool) (p : Nat) : Bool := s (p + 8)
def nb (s : Nat → Bool) (p : Nat) : Nat := b2n (nbL s p) + b2n (nbR s p) + b2n (nbB s p) + b2n (nbA s p)
theorem b2n_le (b : Bool) : b2n b ≤ 1 := by cases b <;> decide
theorem nb_le (s : Nat → Bool) (p : Nat) : nb s p ≤ 4 := by
  have h1 := b2n_le (nbL s p); have h2 := b2n_le (nbR s p); have h3 := b2n_le (nbB s p); have h4 := b2n_le (nbA s p)
  unfold nb; omega
theorem bl_nlc (i : Nat) : bl (-551911719041) i = decide (i < 64 ∧ ¬ (i < 40 ∧ i % 8 = 7)) := bl_lit (-551911719041) (fun i => decide (i < 64 ∧ ¬ (i < 40 ∧ i % 8 = 7))) (by decide +kernel) (fun i h => decide_eq_false (by omega)) i
theorem bl_nfc (i : Nat) : bl (-4311810306) i = decide (i < 64 ∧ ¬ (i < 40 ∧ i % 8 = 0)) := bl_lit (-4311810306) (fun i => decide (i < 64 ∧ ¬ (i < 40 ∧ i % 8 = 0))) (by decide +kernel) (fun i h => decide_eq_false (by omega)) i
theorem nb_bits {x : Int64} (hx : ∀ p, 40 ≤ p → bl x p = false) {p : Nat} (hp : p < 40) : bl (lshl (x &&& (-551911719041 : Int64)) (1 : Int32)) p = nbL (bl x) p ∧ bl (lushr (x &&& (-4311810306 : Int64)) (1 : Int32)) p = nbR (bl x) p ∧ bl (lshl x (8 : Int32)) p = nbB (bl x) p ∧ bl (lushr x (8 : Int32)) p = nbA (bl x) p := by
  refine ⟨?_, ?_, ?_, ?_⟩
  · rw [show (1 : Int32) = nI 1 from rfl, bl_shl (by decide), bl_and, bl_nlc]
    unfold nbL
    have a1 : p < 64 := by omega
    by_cases h : 1 ≤ p % 8
    · have a2 : 1 ≤ p := by omega
      have a3 : p - 1 < 64 ∧ ¬ (p - 1 < 40 ∧ (p - 1) % 8 = 7) := by omega
      simp [h, a1, a2, a3]
    · by_cases a2 : 1 ≤ p
      · have a3 : ¬ (p - 1 < 64 ∧ ¬ (p - 1 < 40 ∧ (p - 1) % 8 = 7)) := by omega
        rw [decide_eq_false a3, decide_eq_false h]; simp
      · rw [decide_eq_false a2, decide_eq_false h]; simp
  · rw [show (1 : Int32) = nI 1 from rfl, bl_ushr (by decide), bl_and, bl_nfc, Nat.add_comm 1 p]
    unfold nbR
    by_cases h : p % 8 ≤ 6
    · have a3 : p + 1 < 64 ∧ ¬ (p + 1 < 40 ∧ (p + 1) % 8 = 0) := by omega
      rw [decide_eq_true a3, decide_eq_true h]; simp
    · rw [decide_eq_false h]
      by_cases a3 : p + 1 < 40
      · rw [decide_eq_false (show ¬ (p + 1 < 64 ∧ ¬ (p + 1 < 40 ∧ (p + 1) % 8 = 0)) by omega)]; simp
      · rw [hx (p + 1) (by omega)]; simp
  · rw [show (8 : Int32) = nI 8 from rfl, bl_shl (by decide)]
    unfold nbB
    have a1 : p < 64 := by omega
    simp [a1]
  · rw [show (8 : Int32) = nI 8 from rfl, bl_ushr (by decide), Nat.add_comm 8 p]
    rfl
theorem s_beside {x : Int64} (hx : ∀ p, 40 ≤ p → bl x p = false) (least : Int32) : wp (f_x_besideAtLeast x least) (fun y => ∀ p, p < 40 → bl y p = decide (least.toInt ≤ (nb (bl x) p : Int))) := by
  have e0 : (0 : Int32).toInt = 0 := by decide
  unfold f_x_besideAtLeast
  refine wp_ite (fun h => ?_) (fun h => ?_)
  · rw [Int32.lt_iff_toInt_lt, e0] at h
    refine wp_ite (fun h1 => ?_) (fun h1 => wp_ite (fun h2 => ?_) (fun h2 => wp_ite (fun h3 => ?_) (fun h3 => wp_ite (fun h4 => ?_) (fun h4 => ?_))))
    · subst h1
      refine wp_some (fun p hp => ?_)
      obtain ⟨b1, b2, b3, b4⟩ := nb_bits hx hp
      rw [bl_or, bl_or, bl_or, b1, b2, b3, b4]
      unfold nb
      cases nbL (bl x) p <;> cases nbR (bl x) p <;> cases nbB (bl x) p <;> cases nbA (bl x) p <;> decide
    · subst h2
      refine wp_some (fun p hp => ?_)
      obtain ⟨b1, b2, b3, b4⟩ := nb_bits hx hp
      rw [bl_or, bl_or, bl_and, bl_and, bl_and, bl_or, bl_or, b1, b2, b3, b4]
      unfold nb
      cases nbL (bl x) p <;> cases nbR (bl x) p <;> cases nbB (bl x) p <;> cases nbA (bl x) p <;> decide
    · subst h3
      refine wp_some (fun p hp => ?_)
      obtain ⟨b1, b2, b3, b4⟩ := nb_bits hx hp
      rw [bl_or, bl_and, bl_and, bl_and, bl_and, bl_or, bl_or, b1, b2, b3, b4]
      unfold nb
      cases nbL (bl x) p <;> cases nbR (bl x) p <;> cases nbB (bl x) p <;> cases nbA (bl x) p <;> decide
    · subst h4
      refine wp_some (fun p hp => ?_)
      obtain ⟨b1, b2, b3, b4⟩ := nb_bits hx hp
      rw [bl_and, bl_and, bl_and, b1, b2, b3, b4]
      unfold nb
      cases nbL (bl x) p <;> cases nbR (bl x) p <;> cases nbB (bl x) p <;> cases nbA (bl x) p <;> decide
    · refine wp_some (fun p hp => ?_)
      have hn := nb_le (bl x) p
      have g : ∀ k : Nat, k < 5 → ¬ least = nI k → ¬ least.toInt = (k : Int) := by
        intro k hk hne he
        exact hne (Int32.toInt_inj.mp (by rw [he, nI_toInt (by omega)]))
      have g1 := g 1 (by decide) h1
      have g2 := g 2 (by decide) h2
      have g3 := g 3 (by decide) h3
      have g4 := g 4 (by decide) h4
      rw [bl_0, eq_comm, decide_eq_false_iff_not]
      omega
  · rw [Int32.lt_iff_toInt_lt, e0] at h
    refine wp_some (fun p hp => ?_)
    rw [bl_m1, decide_eq_true (by omega), decide_eq_true (by omega)]
