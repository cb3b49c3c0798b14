/-! BITS OF LONGS: bl x i; the number of bits -/
def bl (x : Int64) (i : Nat) : Bool := x.toBitVec.getLsbD i
theorem bl_ext {x y : Int64} (h : ∀ i, i < 64 → bl x i = bl y i) : x = y := Int64.toBitVec_inj.mp (BitVec.eq_of_getLsbD_eq (fun i hi => h i hi))
theorem bl_or (x y : Int64) (i : Nat) : bl (x ||| y) i = (bl x i || bl y i) := by unfold bl; rw [Int64.toBitVec_or, BitVec.getLsbD_or]
theorem bl_and (x y : Int64) (i : Nat) : bl (x &&& y) i = (bl x i && bl y i) := by unfold bl; rw [Int64.toBitVec_and, BitVec.getLsbD_and]
theorem bl_xor (x y : Int64) (i : Nat) : bl (x ^^^ y) i = (bl x i ^^ bl y i) := by unfold bl; rw [Int64.toBitVec_xor, BitVec.getLsbD_xor]
theorem bl_big {x : Int64} {i : Nat} (h : 64 ≤ i) : bl x i = false := BitVec.getLsbD_of_ge _ _ h
theorem bl_0 (i : Nat) : bl 0 i = false := BitVec.getLsbD_zero
theorem bl_m1 (i : Nat) : bl (-1) i = decide (i < 64) := by
  rcases Nat.lt_or_ge i 64 with h | h
  · rw [decide_eq_true h]
    exact (by decide +kernel : ∀ i, i < 64 → bl (-1) i = true) i h
  · rw [bl_big h, decide_eq_false (by omega)]
theorem bl_lit (x : Int64) (f : Nat → Bool) (h : ∀ i, i < 64 → bl x i = f i) (hb : ∀ i, 64 ≤ i → f i = false) (i : Nat) : bl x i = f i := by
  rcases Nat.lt_or_ge i 64 with h1 | h1
  · exact h i h1
  · rw [bl_big h1, hb i h1]
theorem bl_1 (i : Nat) : bl 1 i = decide (i = 0) := bl_lit 1 (fun i => decide (i = 0)) (by decide +kernel) (fun i h => decide_eq_false (by omega)) i
theorem bl_255 (i : Nat) : bl 255 i = decide (i < 8) := bl_lit 255 (fun i => decide (i < 8)) (by decide +kernel) (fun i h => decide_eq_false (by omega)) i
theorem bl_fc (i : Nat) : bl 4311810305 i = decide (i < 40 ∧ i % 8 = 0) := bl_lit 4311810305 (fun i => decide (i < 40 ∧ i % 8 = 0)) (by decide +kernel) (fun i h => decide_eq_false (by omega)) i
theorem lb_c : ∀ k, k < 64 → ((nI k).toInt64 &&& 63) = lN k := by decide +kernel
theorem lb_cu : ∀ k, k < 64 → ((nI k).toInt64.toUInt64 &&& Int64.toUInt64 63) = UInt64.ofNat k := by decide +kernel
theorem lb_sm : ∀ k, k < 64 → (BitVec.ofNat 64 k).smod 64 = BitVec.ofNat 64 k := by decide +kernel
theorem lb_u : ∀ n, n < 64 → ((UInt64.ofNat n).toBitVec % 64).toNat = n := by decide +kernel
theorem bl_shl {n : Nat} (hn : n < 64) (x : Int64) (i : Nat) : bl (lshl x (nI n)) i = (decide (n ≤ i) && decide (i < 64) && bl x (i - n)) := by
  unfold bl lshl
  rw [lb_c n hn, Int64.toBitVec_shiftLeft]
  show (x.toBitVec <<< (BitVec.ofNat 64 n).smod 64).getLsbD i = _
  rw [lb_sm n hn, BitVec.shiftLeft_eq', BitVec.getLsbD_shiftLeft, BitVec.toNat_ofNat, Nat.mod_eq_of_lt (show n < 2 ^ 64 by omega)]
  rcases Nat.lt_or_ge i n with h | h
  · simp [h, Nat.not_le.mpr h]
  · simp [h, Nat.not_lt.mpr h]
theorem bl_ushr {n : Nat} (hn : n < 64) (x : Int64) (i : Nat) : bl (lushr x (nI n)) i = bl x (n + i) := by
  unfold lushr
  rw [lb_cu n hn]
  show (x.toUInt64 >>> UInt64.ofNat n).toBitVec.getLsbD i = x.toUInt64.toBitVec.getLsbD (n + i)
  rw [UInt64.toBitVec_shiftRight]
  show (x.toUInt64.toBitVec >>> ((UInt64.ofNat n).toBitVec % 64).toNat).getLsbD i = _
  rw [lb_u n hn, BitVec.getLsbD_ushiftRight]
theorem bl_not (x : Int64) (i : Nat) : bl (x ^^^ (-1)) i = (decide (i < 64) && !bl x i) := by
  rw [bl_xor, bl_m1]
  rcases Nat.lt_or_ge i 64 with h | h
  · simp [h]
  · rw [bl_big h]; simp [Nat.not_lt.mpr h]
theorem bl_eq0 {x : Int64} : x = 0 ↔ ∀ i, i < 64 → bl x i = false := by
  constructor
  · rintro rfl i _; exact bl_0 i
  · intro h; exact bl_ext (fun i hi => by rw [h i hi, bl_0])
theorem cmp0 {x : Int64} : lg_cmp x 0 = 0 ↔ x = 0 := by
  unfold lg_cmp
  by_cases h : x > 0
  · rw [if_pos h]
    constructor
    · intro e; exact absurd e (by decide)
    · intro e; subst e; exact absurd h (by decide)
  · rw [if_neg h]
    by_cases h2 : x = 0
    · rw [if_pos h2]; exact ⟨fun _ => h2, fun _ => rfl⟩
    · rw [if_neg h2]; exact ⟨fun e => absurd e (by decide), fun e => absurd e h2⟩
/-! the number of bits, as the JDK counts them -/
def bct (p : Nat → Bool) : Nat → Nat
  | 0 => 0
  | n + 1 => bct p n + (if p n then 1 else 0)
theorem bct_cong {p q : Nat → Bool} : ∀ {n : Nat}, (∀ k, k < n → p k = q k) → bct p n = bct q n
  | 0, _ => rfl
  | n + 1, h => by
    show bct p n + _ = bct q n + _
    rw [bct_cong (fun k hk => h k (by omega)), h n (by omega)]
theorem bct_split (p : Nat → Bool) (m : Nat) : ∀ n, bct p (m + n) = bct p m + bct (fun k => p (m + k)) n
  | 0 => rfl
  | n + 1 => by
    show bct p (m + n) + _ = bct p m + (bct _ n + _)
    rw [bct_split p m n]; exact Nat.add_assoc _ _ _
theorem bct_le (p : Nat → Bool) : ∀ n, bct p n ≤ n
  | 0 => Nat.le_refl _
  | n + 1 => by
    have h := bct_le p n
    show bct p n + _ ≤ n + 1
    split <;> omega
theorem and256 {a a' : Nat} (c c' : Nat) (ha : a < 256) (ha' : a' < 256) : (a + 256 * c) &&& (a' + 256 * c') = (a &&& a') + 256 * (c &&& c') := by
  have hx : a &&& a' < 256 := Nat.lt_of_le_of_lt Nat.and_le_left ha
  apply Nat.eq_of_testBit_eq
  intro j
  have e1 : ∀ u v : Nat, u + 256 * v = 2 ^ 8 * v + u := by intro u v; omega
  rw [Nat.testBit_and, e1, e1, e1, Nat.testBit_two_pow_mul_add _ ha, Nat.testBit_two_pow_mul_add _ ha', Nat.testBit_two_pow_mul_add _ hx]
  by_cases h : j < 8
  · simp only [if_pos h, Nat.testBit_and]
  · simp only [if_neg h, Nat.testBit_and]
def mk5 : Nat → Nat
  | 0 => 0
  | k + 1 => 85 + 256 * mk5 k
def mk3 : Nat → Nat
  | 0 => 0
  | k + 1 => 51 + 256 * mk3 k
def mkf : Nat → Nat
  | 0 => 0
  | k + 1 => 15 + 256 * mkf k
def bz1 (b : Nat) : Nat := b - ((b / 2) &&& 85)
def bz2 (c : Nat) : Nat := (c &&& 51) + ((c / 4) &&& 51)
def bz3 (c : Nat) : Nat := (c + c / 16) &&& 15
def zz1 (k n : Nat) : Nat := n - ((n / 2) &&& mk5 k)
def zz2 (k n : Nat) : Nat := (n &&& mk3 k) + ((n / 4) &&& mk3 k)
def zz3 (k n : Nat) : Nat := (n + n / 16) &&& mkf k
theorem bz_a : ∀ b, b < 256 → ((b / 2 + 128 * 0) &&& 85) = ((b / 2) &&& 85) ∧ ((b / 2 + 128 * 1) &&& 85) = ((b / 2) &&& 85) ∧ ((b / 2) &&& 85) ≤ b ∧ bz1 b < 256 := by decide +kernel
theorem bz_b : ∀ c, c < 256 → ((c / 4 + 64 * 0) &&& 51) = ((c / 4) &&& 51) ∧ ((c / 4 + 64 * 1) &&& 51) = ((c / 4) &&& 51) ∧ ((c / 4 + 64 * 2) &&& 51) = ((c / 4) &&& 51) ∧ ((c / 4 + 64 * 3) &&& 51) = ((c / 4) &&& 51) ∧ bz2 c < 256 := by decide +kernel
theorem bz_c : ∀ c, c < 80 → ∀ d, d < 5 → ((c + c / 16 + 16 * d) &&& 15) = bz3 c ∧ bz3 c < 16 := by decide +kernel
theorem bz_d : ∀ b, b < 256 → bz2 (bz1 b) < 80 ∧ bz2 (bz1 b) % 16 < 5 ∧ bz3 (bz2 (bz1 b)) = bct b.testBit 8 ∧ bct b.testBit 8 < 9 := by decide +kernel
theorem zz1_s (k n : Nat) : zz1 (k + 1) n = bz1 (n % 256) + 256 * zz1 k (n / 256) := by
  unfold zz1
  have hb : n % 256 < 256 := Nat.mod_lt _ (by decide)
  obtain ⟨a0, a1, a2, a3⟩ := bz_a _ hb
  have e : n / 2 = (n % 256 / 2 + 128 * (n / 256 % 2)) + 256 * (n / 256 / 2) := by omega
  have hlt : n % 256 / 2 + 128 * (n / 256 % 2) < 256 := by omega
  have hm : (n / 256 / 2) &&& mk5 k ≤ n / 256 := Nat.le_trans Nat.and_le_left (Nat.div_le_self _ _)
  show n - ((n / 2) &&& (85 + 256 * mk5 k)) = _
  rw [e, and256 _ _ hlt (by decide)]
  have e2 : ((n % 256 / 2 + 128 * (n / 256 % 2)) &&& 85) = ((n % 256 / 2) &&& 85) := by
    rcases Nat.mod_two_eq_zero_or_one (n / 256) with h | h
    · rw [h]; exact a0
    · rw [h]; exact a1
  rw [e2]
  unfold bz1
  generalize (n / 256 / 2) &&& mk5 k = v at *
  generalize (n % 256 / 2) &&& 85 = u at *
  omega
theorem zz2_s (k n : Nat) : zz2 (k + 1) n = bz2 (n % 256) + 256 * zz2 k (n / 256) := by
  unfold zz2
  have hb : n % 256 < 256 := Nat.mod_lt _ (by decide)
  obtain ⟨a0, a1, a2, a3, a4⟩ := bz_b _ hb
  have e0 : n = n % 256 + 256 * (n / 256) := by omega
  have e : n / 4 = (n % 256 / 4 + 64 * (n / 256 % 4)) + 256 * (n / 256 / 4) := by omega
  have hlt : n % 256 / 4 + 64 * (n / 256 % 4) < 256 := by omega
  have h1 : n &&& mk3 (k + 1) = (n % 256 &&& 51) + 256 * (n / 256 &&& mk3 k) := by
    show n &&& (51 + 256 * mk3 k) = _
    rw [← and256 _ _ hb (by decide), ← e0]
  have h2 : (n / 4) &&& mk3 (k + 1) = ((n % 256 / 4) &&& 51) + 256 * ((n / 256 / 4) &&& mk3 k) := by
    show (n / 4) &&& (51 + 256 * mk3 k) = _
    rw [e, and256 _ _ hlt (by decide)]
    have e2 : ((n % 256 / 4 + 64 * (n / 256 % 4)) &&& 51) = ((n % 256 / 4) &&& 51) := by
      have h4 : n / 256 % 4 < 4 := Nat.mod_lt _ (by decide)
      rcases (show n / 256 % 4 = 0 ∨ n / 256 % 4 = 1 ∨ n / 256 % 4 = 2 ∨ n / 256 % 4 = 3 by omega) with h | h | h | h
      · rw [h]; exact a0
      · rw [h]; exact a1
      · rw [h]; exact a2
      · rw [h]; exact a3
    rw [e2]
  rw [h1, h2]
  unfold bz2
  omega
/-- bytes that are small, each in two halves below 5 -/
def nib : Nat → Nat → Prop
  | 0, n => n = 0
  | k + 1, n => n % 256 < 80 ∧ n % 16 < 5 ∧ nib k (n / 256)
theorem zz3_s (k n : Nat) (h : nib (k + 1) n) : zz3 (k + 1) n = bz3 (n % 256) + 256 * zz3 k (n / 256) := by
  obtain ⟨h1, h2, h3⟩ := h
  have hd : n / 256 % 16 < 5 := by
    cases k with
    | zero => rw [show n / 256 = 0 from h3]; decide
    | succ k => exact h3.2.1
  obtain ⟨a0, a1⟩ := bz_c _ h1 _ hd
  unfold zz3
  have e : n + n / 16 = (n % 256 + n % 256 / 16 + 16 * (n / 256 % 16)) + 256 * (n / 256 + n / 256 / 16) := by omega
  have hlt : n % 256 + n % 256 / 16 + 16 * (n / 256 % 16) < 256 := by omega
  show (n + n / 16) &&& (15 + 256 * mkf k) = _
  rw [e, and256 _ _ hlt (by decide), a0]
/-- the sum of the bytes' numbers of bits, apart and together -/
def pbt (m : Nat) : Nat := bct (m % 256).testBit 8
def bsp : Nat → Nat → Nat
  | 0, _ => 0
  | k + 1, n => pbt n + 256 * bsp k (n / 256)
theorem bsp_s (k n : Nat) : bsp (k + 1) n = pbt n + 256 * bsp k (n / 256) := rfl
theorem bsp_0 (n : Nat) : bsp 0 n = 0 := rfl
theorem zz2_nib : ∀ (k n : Nat), n < 256 ^ k → nib k (zz2 k (zz1 k n)) ∧ zz3 k (zz2 k (zz1 k n)) = bsp k n
  | 0, n, h => by
    have : n = 0 := by simpa using h
    subst this
    exact ⟨show zz2 0 (zz1 0 0) = 0 by decide, by decide⟩
  | k + 1, n, h => by
    have hb : n % 256 < 256 := Nat.mod_lt _ (by decide)
    have hm : n / 256 < 256 ^ k := by
      rw [Nat.pow_succ] at h
      exact Nat.div_lt_of_lt_mul (by omega)
    obtain ⟨i1, i2⟩ := zz2_nib k (n / 256) hm
    obtain ⟨a0, a1, a2, a3⟩ := bz_a _ hb
    obtain ⟨d0, d1, d2, d3⟩ := bz_d _ hb
    have e1 := zz1_s k n
    have f1 : zz1 (k + 1) n % 256 = bz1 (n % 256) := by rw [e1]; omega
    have f2 : zz1 (k + 1) n / 256 = zz1 k (n / 256) := by rw [e1]; omega
    have e2 := zz2_s k (zz1 (k + 1) n)
    rw [f1, f2] at e2
    have g1 : zz2 (k + 1) (zz1 (k + 1) n) % 256 = bz2 (bz1 (n % 256)) := by rw [e2]; omega
    have g2 : zz2 (k + 1) (zz1 (k + 1) n) / 256 = zz2 k (zz1 k (n / 256)) := by rw [e2]; omega
    have g3 : zz2 (k + 1) (zz1 (k + 1) n) % 16 = bz2 (bz1 (n % 256)) % 16 := by rw [e2]; omega
    have hn : nib (k + 1) (zz2 (k + 1) (zz1 (k + 1) n)) := ⟨by rw [g1]; exact d0, by rw [g3]; exact d1, by rw [g2]; exact i1⟩
    refine ⟨hn, ?_⟩
    rw [zz3_s k _ hn, g1, g2, i2, d2]
    rfl
theorem bct_bytes : ∀ (k n : Nat), bct n.testBit (8 * (k + 1)) = pbt n + bct (n / 256).testBit (8 * k) := by
  intro k n
  unfold pbt
  have e : 8 * (k + 1) = 8 + 8 * k := by omega
  rw [e, bct_split]
  congr 1
  · apply bct_cong
    intro j hj
    rw [show (256 : Nat) = 2 ^ 8 from rfl, Nat.testBit_mod_two_pow]
    simp [hj]
  · apply bct_cong
    intro j hj
    rw [show (256 : Nat) = 2 ^ 8 from rfl, Nat.testBit_div_two_pow]
    congr 1
    omega
theorem pbt_lt (m : Nat) : pbt m < 9 := (bz_d _ (Nat.mod_lt _ (by decide))).2.2.2
theorem bsp8 (n : Nat) : ∃ p0 p1 p2 p3 p4 p5 p6 p7 : Nat, (p0 < 9 ∧ p1 < 9 ∧ p2 < 9 ∧ p3 < 9 ∧ p4 < 9 ∧ p5 < 9 ∧ p6 < 9 ∧ p7 < 9) ∧ bsp 8 n = p0 + 256 * (p1 + 256 * (p2 + 256 * (p3 + 256 * (p4 + 256 * (p5 + 256 * (p6 + 256 * p7)))))) ∧ bct n.testBit 64 = p0 + p1 + p2 + p3 + p4 + p5 + p6 + p7 := by
  refine ⟨pbt n, pbt (n / 256), pbt (n / 256 / 256), pbt (n / 256 / 256 / 256), pbt (n / 256 / 256 / 256 / 256), pbt (n / 256 / 256 / 256 / 256 / 256), pbt (n / 256 / 256 / 256 / 256 / 256 / 256), pbt (n / 256 / 256 / 256 / 256 / 256 / 256 / 256), ⟨pbt_lt _, pbt_lt _, pbt_lt _, pbt_lt _, pbt_lt _, pbt_lt _, pbt_lt _, pbt_lt _⟩, ?_, ?_⟩
  · rw [bsp_s 7, bsp_s 6, bsp_s 5, bsp_s 4, bsp_s 3, bsp_s 2, bsp_s 1, bsp_s 0, bsp_0, Nat.mul_zero, Nat.add_zero]
  · rw [show (64 : Nat) = 8 * (7 + 1) from rfl, bct_bytes, show 8 * 7 = 8 * (6 + 1) from rfl, bct_bytes, show 8 * 6 = 8 * (5 + 1) from rfl, bct_bytes, show 8 * 5 = 8 * (4 + 1) from rfl, bct_bytes, show 8 * 4 = 8 * (3 + 1) from rfl, bct_bytes, show 8 * 3 = 8 * (2 + 1) from rfl, bct_bytes, show 8 * 2 = 8 * (1 + 1) from rfl, bct_bytes, show 8 * 1 = 8 * (0 + 1) from rfl, bct_bytes, Nat.mul_zero]
    simp only [bct, Nat.add_zero, Nat.add_assoc]
theorem lN_tb (n : Nat) : (lN n).toBitVec = BitVec.ofNat 64 n := rfl
theorem lN_of (x : Int64) : ∃ n, n < 2 ^ 64 ∧ x = lN n := ⟨x.toBitVec.toNat, x.toBitVec.isLt, Int64.toBitVec_inj.mp (by rw [lN_tb]; simp)⟩
theorem lN_bl {n : Nat} (h : n < 2 ^ 64) (i : Nat) (hi : i < 64) : bl (lN n) i = n.testBit i := by
  unfold bl
  rw [lN_tb, BitVec.getLsbD_ofNat]
  simp [hi]
theorem lN_shr {n k : Nat} (hn : n < 2 ^ 64) (hk : k < 64) : lushr (lN n) (nI k) = lN (n / 2 ^ k) := by
  have hd : n / 2 ^ k < 2 ^ 64 := Nat.lt_of_le_of_lt (Nat.div_le_self _ _) hn
  apply bl_ext
  intro i hi
  rw [bl_ushr hk, lN_bl hd i hi, Nat.testBit_div_two_pow]
  rcases Nat.lt_or_ge (k + i) 64 with h | h
  · rw [lN_bl hn _ h]; congr 1; omega
  · rw [bl_big h, Nat.testBit_lt_two_pow (Nat.lt_of_lt_of_le hn (Nat.pow_le_pow_right (by decide) (by omega)))]
theorem lN_and (a b : Nat) : lN a &&& lN b = lN (a &&& b) := by
  apply Int64.toBitVec_inj.1
  show BitVec.ofNat 64 a &&& BitVec.ofNat 64 b = BitVec.ofNat 64 (a &&& b)
  apply BitVec.eq_of_getLsbD_eq
  intro i hi
  simp [hi]
theorem lN_addx (a b : Nat) : lN a + lN b = lN (a + b) := (Int64.ofNat_add a b).symm
theorem lN_subx {a b : Nat} (h : b ≤ a) : lN a - lN b = lN (a - b) := (Int64.ofNat_sub a b h).symm
theorem lN_int (n : Nat) : (lN n).toInt32 = nI n := by
  apply Int32.toBitVec_inj.1
  show (BitVec.ofNat 64 n).signExtend 32 = BitVec.ofNat 32 n
  apply BitVec.eq_of_toNat_eq
  rw [BitVec.signExtend_eq_setWidth_of_le _ (by decide)]
  simp
theorem nI_127 (n : Nat) : nI n &&& 127 = nI (n % 128) := by
  apply Int32.toBitVec_inj.1
  show BitVec.ofNat 32 n &&& BitVec.ofNat 32 127 = BitVec.ofNat 32 (n % 128)
  apply BitVec.eq_of_getLsbD_eq
  intro i hi
  rw [BitVec.getLsbD_and, BitVec.getLsbD_ofNat, BitVec.getLsbD_ofNat, BitVec.getLsbD_ofNat, show (128 : Nat) = 2 ^ 7 from rfl, Nat.testBit_mod_two_pow, show (127 : Nat) = 2 ^ 7 - 1 from rfl, Nat.testBit_two_pow_sub_one]
  simp [hi, Bool.and_comm]
theorem fo_dv {a b c : Nat} (ha : a < c) : (a + c * b) / c = b := by
  rw [Nat.add_mul_div_left _ _ (by omega), Nat.div_eq_of_lt ha, Nat.zero_add]
theorem fo_4 (p0 p1 p2 p3 p4 p5 p6 p7 : Nat) : (p0 + 256 * (p1 + 256 * (p2 + 256 * (p3 + 256 * (p4 + 256 * (p5 + 256 * (p6 + 256 * p7))))))) + (p1 + 256 * (p2 + 256 * (p3 + 256 * (p4 + 256 * (p5 + 256 * (p6 + 256 * p7)))))) = (p0 + p1) + 256 * ((p1 + p2) + 256 * ((p2 + p3) + 256 * ((p3 + p4) + 256 * ((p4 + p5) + 256 * ((p5 + p6) + 256 * ((p6 + p7) + 256 * p7)))))) := by omega
theorem fo_5a (a0 a1 x : Nat) : a0 + 256 * (a1 + 256 * x) = (a0 + 256 * a1) + 65536 * x := by omega
theorem fo_5 (p0 p1 p2 p3 p4 p5 p6 p7 : Nat) : (p0 + 256 * (p1 + 256 * (p2 + 256 * (p3 + 256 * (p4 + 256 * (p5 + 256 * (p6 + 256 * p7))))))) + (p2 + 256 * (p3 + 256 * (p4 + 256 * (p5 + 256 * (p6 + 256 * p7))))) = (p0 + p2) + 256 * ((p1 + p3) + 256 * ((p2 + p4) + 256 * ((p3 + p5) + 256 * ((p4 + p6) + 256 * ((p5 + p7) + 256 * (p6 + 256 * p7)))))) := by omega
theorem fo_6a (a0 a1 a2 a3 x : Nat) : a0 + 256 * (a1 + 256 * (a2 + 256 * (a3 + 256 * x))) = (a0 + 256 * a1 + 65536 * a2 + 16777216 * a3) + 4294967296 * x := by omega
theorem fo_6 (p0 p1 p2 p3 p4 p5 p6 p7 : Nat) : (p0 + 256 * (p1 + 256 * (p2 + 256 * (p3 + 256 * (p4 + 256 * (p5 + 256 * (p6 + 256 * p7))))))) + (p4 + 256 * (p5 + 256 * (p6 + 256 * p7))) = (p0 + p4) + 128 * (2 * ((p1 + p5) + 256 * ((p2 + p6) + 256 * ((p3 + p7) + 256 * (p4 + 256 * (p5 + 256 * (p6 + 256 * p7))))))) := by omega
theorem fo_lt (p0 p1 p2 p3 p4 p5 p6 p7 : Nat) (h0 : p0 < 200) (h1 : p1 < 200) (h2 : p2 < 200) (h3 : p3 < 200) (h4 : p4 < 200) (h5 : p5 < 200) (h6 : p6 < 200) (h7 : p7 < 200) : p0 + 256 * (p1 + 256 * (p2 + 256 * (p3 + 256 * (p4 + 256 * (p5 + 256 * (p6 + 256 * p7)))))) < 2 ^ 64 := by omega
theorem fo_all (p0 p1 p2 p3 p4 p5 p6 p7 : Nat) (q0 : p0 < 9) (q1 : p1 < 9) (q2 : p2 < 9) (q3 : p3 < 9) (q4 : p4 < 9) (q5 : p5 < 9) (q6 : p6 < 9) (q7 : p7 < 9) : ∃ m3 m4 m5 : Nat, m3 = p0 + 256 * (p1 + 256 * (p2 + 256 * (p3 + 256 * (p4 + 256 * (p5 + 256 * (p6 + 256 * p7)))))) ∧ m3 < 2 ^ 64 ∧ m3 + m3 / 256 = m4 ∧ m4 < 2 ^ 64 ∧ m4 + m4 / 65536 = m5 ∧ m5 < 2 ^ 64 ∧ (m5 + m5 / 4294967296) % 128 = p0 + p1 + p2 + p3 + p4 + p5 + p6 + p7 := by
  refine ⟨_, _, _, rfl, fo_lt p0 p1 p2 p3 p4 p5 p6 p7 (by omega) (by omega) (by omega) (by omega) (by omega) (by omega) (by omega) (by omega), ?_, fo_lt (p0 + p1) (p1 + p2) (p2 + p3) (p3 + p4) (p4 + p5) (p5 + p6) (p6 + p7) p7 (by omega) (by omega) (by omega) (by omega) (by omega) (by omega) (by omega) (by omega), ?_, fo_lt (p0 + p1 + (p2 + p3)) (p1 + p2 + (p3 + p4)) (p2 + p3 + (p4 + p5)) (p3 + p4 + (p5 + p6)) (p4 + p5 + (p6 + p7)) (p5 + p6 + p7) (p6 + p7) p7 (by omega) (by omega) (by omega) (by omega) (by omega) (by omega) (by omega) (by omega), ?_⟩
  · rw [fo_dv (show p0 < 256 by omega), fo_4]
  · rw [fo_5a, fo_dv (show p0 + p1 + 256 * (p1 + p2) < 65536 by omega), ← fo_5a, fo_5]
  · rw [fo_6a, fo_dv (show p0 + p1 + (p2 + p3) + 256 * (p1 + p2 + (p3 + p4)) + 65536 * (p2 + p3 + (p4 + p5)) + 16777216 * (p3 + p4 + (p5 + p6)) < 4294967296 by omega), ← fo_6a, fo_6, Nat.add_mul_mod_self_left, Nat.mod_eq_of_lt (show p0 + p1 + (p2 + p3) + (p4 + p5 + (p6 + p7)) < 128 by omega)]
    omega
theorem s_bitCount (x : Int64) : f_jl_bitCount x = some (nI (bct (bl x) 64)) := by
  obtain ⟨n, hn, rfl⟩ := lN_of x
  have h256 : n < 256 ^ 8 := by have : (256 : Nat) ^ 8 = 2 ^ 64 := by decide
                                omega
  have ec : bct (bl (lN n)) 64 = bct n.testBit 64 := bct_cong (fun k hk => lN_bl hn k hk)
  obtain ⟨-, e3⟩ := zz2_nib 8 n h256
  obtain ⟨p0, p1, p2, p3, p4, p5, p6, p7, ⟨q0, q1, q2, q3, q4, q5, q6, q7⟩, eb, es⟩ := bsp8 n
  rw [eb] at e3
  have z1lt : zz1 8 n < 2 ^ 64 := Nat.lt_of_le_of_lt (Nat.sub_le _ _) hn
  have z2lt : zz2 8 (zz1 8 n) < 2 ^ 64 := by
    have h1 : zz1 8 n &&& mk3 8 ≤ mk3 8 := Nat.and_le_right
    have h2 : zz1 8 n / 4 &&& mk3 8 ≤ mk3 8 := Nat.and_le_right
    have h3 : mk3 8 = 3689348814741910323 := by decide
    unfold zz2
    omega
  have s1 : lN n - (lushr (lN n) (1 : Int32) &&& (6148914691236517205 : Int64)) = lN (zz1 8 n) := by
    rw [show (1 : Int32) = nI 1 from rfl, lN_shr hn (by decide), show (6148914691236517205 : Int64) = lN (mk5 8) from by decide +kernel, lN_and, lN_subx (Nat.le_trans Nat.and_le_left (Nat.div_le_self _ _))]
    rfl
  have s2 : (lN (zz1 8 n) &&& (3689348814741910323 : Int64)) + (lushr (lN (zz1 8 n)) (2 : Int32) &&& (3689348814741910323 : Int64)) = lN (zz2 8 (zz1 8 n)) := by
    rw [show (2 : Int32) = nI 2 from rfl, lN_shr z1lt (by decide), show (3689348814741910323 : Int64) = lN (mk3 8) from by decide +kernel, lN_and, lN_and, lN_addx]
    rfl
  have s3 : (lN (zz2 8 (zz1 8 n)) + lushr (lN (zz2 8 (zz1 8 n))) (4 : Int32)) &&& (1085102592571150095 : Int64) = lN (zz3 8 (zz2 8 (zz1 8 n))) := by
    rw [show (4 : Int32) = nI 4 from rfl, lN_shr z2lt (by decide), show (1085102592571150095 : Int64) = lN (mkf 8) from by decide +kernel, lN_addx, lN_and]
    rfl
  have s4 : ∀ m : Nat, m < 2 ^ 64 → lN m + lushr (lN m) (8 : Int32) = lN (m + m / 256) := by
    intro m hm
    rw [show (8 : Int32) = nI 8 from rfl, lN_shr hm (by decide), lN_addx]
  have s5 : ∀ m : Nat, m < 2 ^ 64 → lN m + lushr (lN m) (16 : Int32) = lN (m + m / 65536) := by
    intro m hm
    rw [show (16 : Int32) = nI 16 from rfl, lN_shr hm (by decide), lN_addx]
  have s6 : ∀ m : Nat, m < 2 ^ 64 → lN m + lushr (lN m) (32 : Int32) = lN (m + m / 4294967296) := by
    intro m hm
    rw [show (32 : Int32) = nI 32 from rfl, lN_shr hm (by decide), lN_addx]
  unfold f_jl_bitCount f_jl_bitCount_N10 f_jl_bitCount_N24 f_jl_bitCount_N34 f_jl_bitCount_N41 f_jl_bitCount_N48 f_jl_bitCount_N55
  rw [s1, s2, s3, e3]
  obtain ⟨m3, m4, m5, g3, l3, g4, l4, g5, l5, g6⟩ := fo_all p0 p1 p2 p3 p4 p5 p6 p7 q0 q1 q2 q3 q4 q5 q6 q7
  rw [← g3, s4 m3 l3, g4, s5 m4 l4, g5, s6 m5 l5, lN_int, nI_127, g6, ec, es]
