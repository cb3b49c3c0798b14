/-! FROM THE ENTRY TO THE LOOP (by program: wip/gen/start.py) -/
theorem inX8 : Cond.instantiable RX8 14 ∈ gWs := gIn 90 (by decide +kernel) rfl
theorem inX9 : Cond.instantiable RX9 45 ∈ gWs := gIn 813 (by decide +kernel) rfl
theorem itX8 : Cond.initialized RX8 ∈ gWs := gIn 70 (by decide +kernel) rfl
theorem itX9 : Cond.initialized RX9 ∈ gWs := gIn 79 (by decide +kernel) rfl
theorem clL_7 : Cond.classLink RL 7 RX8 ∈ gWs := gIn 89 (by decide +kernel) rfl
theorem clL_10 : Cond.classLink RL 10 RX9 ∈ gWs := gIn 812 (by decide +kernel) rfl
set_option maxRecDepth 100000 in
theorem cw_X8_init : Cond.code yX8_init cX8_init 2 none ∈ gWs := gIn 93 (rfl) rfl
set_option maxRecDepth 100000 in
theorem cw_X9_init : Cond.code yX9_init cX9_init 1 none ∈ gWs := gIn 816 (rfl) rfl
theorem lkL_9 : gLinkI RL 9 yX8_init cX8_init 2 0 := ⟨gIn 91 (by decide +kernel) rfl, gIn 92 (by decide +kernel) rfl, gIn 70 (by decide +kernel) rfl, cw_X8_init, by unfold gYok; decide +kernel, rfl⟩
theorem lkL_12 : gLinkI RL 12 yX9_init cX9_init 1 0 := ⟨gIn 814 (by decide +kernel) rfl, gIn 815 (by decide +kernel) rfl, gIn 79 (by decide +kernel) rfl, cw_X9_init, by unfold gYok; decide +kernel, rfl⟩
theorem dfX8 : ∀ j, j < 14 → defaultValue (tyX8 j) = vp_V [.null, .null, .null, .null, .null, .null, .null, .null, .null, .null, .null, .null, .int 0, .int 0] j := by decide
theorem dfX9 : ∀ j, j < 45 → defaultValue (tyX9 j) = vp_V [.null, .null, .int 0, .int 0, .null, .int 0, .null, .null, .int 0, .int 0, .null, .null, .int 0, .null, .null, .null, .null, .int 0, .null, .null, .int 0, .int 0, .null, .int 0, .int 0, .null, .null, .null, .null, .null, .null, .null, .int 0, .int 0, .int 0, .null, .null, .null, .null, .null, .null, .null, .null, .null, .int 0] j := by decide +kernel
theorem st_kn {s : State} {args : Array Value} (hts : ∀ w ∈ gWs, w.before args s = true) : ∃ (D : va_G), ∀ (k : Nat) (q : vw_C), vwCl[k]? = some q → u_Kn s q.1 q.2.1 q.2.2 (D.1 k) (D.2 k) := by
  obtain ⟨c0, i0, h0⟩ := u_known (C := RX0) (T := TX0) (N := 3) (n := 3) hts inGX0 (hts _ inX0)
  obtain ⟨c1, i1, h1⟩ := u_known (C := RX1) (T := TX1) (N := 4) (n := 4) hts inGX1 (hts _ inX1)
  obtain ⟨c2, i2, h2⟩ := u_known (C := RX2) (T := TX2) (N := 4) (n := 4) hts inGX2 (hts _ inX2)
  obtain ⟨c3, i3, h3⟩ := u_known (C := RX3) (T := TX3) (N := 3) (n := 3) hts inGX3 (hts _ inX3)
  obtain ⟨c4, i4, h4⟩ := u_known (C := RX4) (T := TX4) (N := 4) (n := 4) hts inGX4 (hts _ inX4)
  obtain ⟨c5, i5, h5⟩ := u_known (C := RX5) (T := TX5) (N := 2) (n := 2) hts inGX5 (hts _ inX5)
  obtain ⟨c6, i6, h6⟩ := u_known (C := RX6) (T := TX6) (N := 5) (n := 5) hts inGX6 (hts _ inX6)
  obtain ⟨c7, i7, h7⟩ := u_known (C := RX7) (T := TX7) (N := 10) (n := 10) hts inGX7 (hts _ inX7)
  obtain ⟨c8, i8, h8⟩ := u_known (C := RX8) (T := TX8) (N := 14) (n := 14) hts inGX8 (hts _ inX8)
  obtain ⟨c9, i9, h9⟩ := u_known (C := RX9) (T := TX9) (N := 45) (n := 45) hts inGX9 (hts _ inX9)
  refine ⟨(fun k => match k with | 0 => c0 | 1 => c1 | 2 => c2 | 3 => c3 | 4 => c4 | 5 => c5 | 6 => c6 | 7 => c7 | 8 => c8 | _ => c9, fun k => match k with | 0 => i0 | 1 => i1 | 2 => i2 | 3 => i3 | 4 => i4 | 5 => i5 | 6 => i6 | 7 => i7 | 8 => i8 | _ => i9), ?_⟩
  intro k q hq
  match k, hq with
  | 0, hq =>
    have e : (RX0, TX0, 3) = q := Option.some.inj hq
    subst e
    exact h0
  | 1, hq =>
    have e : (RX1, TX1, 4) = q := Option.some.inj hq
    subst e
    exact h1
  | 2, hq =>
    have e : (RX2, TX2, 4) = q := Option.some.inj hq
    subst e
    exact h2
  | 3, hq =>
    have e : (RX3, TX3, 3) = q := Option.some.inj hq
    subst e
    exact h3
  | 4, hq =>
    have e : (RX4, TX4, 4) = q := Option.some.inj hq
    subst e
    exact h4
  | 5, hq =>
    have e : (RX5, TX5, 2) = q := Option.some.inj hq
    subst e
    exact h5
  | 6, hq =>
    have e : (RX6, TX6, 5) = q := Option.some.inj hq
    subst e
    exact h6
  | 7, hq =>
    have e : (RX7, TX7, 10) = q := Option.some.inj hq
    subst e
    exact h7
  | 8, hq =>
    have e : (RX8, TX8, 14) = q := Option.some.inj hq
    subst e
    exact h8
  | 9, hq =>
    have e : (RX9, TX9, 45) = q := Option.some.inj hq
    subst e
    exact h9
  | k + 10, hq => exact absurd hq (by simp [vwCl])
theorem st_nest : ∀ q ∈ nestW, Cond.methodLinkNest q.1 q.2.1 q.2.2.1 q.2.2.2 ∈ lw_tbl := by decide +kernel
theorem st_gT {s : State} {cI cJ cZ cL : ClassId} (hI : ArrOfT s cI .int ∧ va_RA s cI .int) (hJ : ArrOfT s cJ .long ∧ va_RA s cJ .long) (hZ : ArrOfT s cZ .boolean ∧ va_RA s cZ .boolean) (hL : ArrOfT s cL (.object "WallHands$Sheet") ∧ va_RA s cL (.object "WallHands$Sheet")) (D : va_G) (k v : Nat) : ∀ (i : Nat) (q : ClassId × FieldType), (gT (D, cI, cJ, cZ, cL, k, v))[i]? = some q → ArrOfT s q.1 q.2 ∧ va_RA s q.1 q.2 := by
  intro i q hq
  match i, hq with
  | 0, hq =>
    have e : (cI, FieldType.int) = q := Option.some.inj hq
    subst e
    exact hI
  | 1, hq =>
    have e : (cJ, FieldType.long) = q := Option.some.inj hq
    subst e
    exact hJ
  | 2, hq =>
    have e : (cZ, FieldType.boolean) = q := Option.some.inj hq
    subst e
    exact hZ
  | 3, hq =>
    have e : (cL, FieldType.object "WallHands$Sheet") = q := Option.some.inj hq
    subst e
    exact hL
  | i + 4, hq => exact absurd hq (by simp [gT])
abbrev stHp (s : State) : Nat → Prop := fun q => s.heap.size ≤ q
abbrev stTm : Term := .string "WallHands$Hands" 38
theorem st_str {s : State} {args : Array Value} (hs : ∀ c ∈ flatC (Jvm.Cond.and given_1 narrow_1), c.before args s = true) (hsr : (Cond.stringRef "WallHands$Hands" 38 "ptls").before args s = true) (hl : (Cond.laysStatic "java/lang/String" "COMPACT_STRINGS" "Z").before args s = true) (hi : (Cond.initialized "java/lang/String").before args s = true) : ∃ k v : Nat, ∀ (D : va_G) (cI cJ cZ cL : ClassId), gStr (D, cI, cJ, cZ, cL, k, v) (stHp s) s s.heap := by
  have hA : ∀ a : Nat, a < s.heap.size → ¬ stHp s a := fun a h => Nat.not_le.mpr h
  obtain ⟨adK, adV, h1, h2⟩ := vk_Sof (args := args) (s := s) (N := 1) (tm := fun _ => stTm) (len := [4]) (byt := [[112, 116, 108, 115]]) (A := stHp s)
    (fun i hi => by
      obtain rfl : i = 0 := by omega
      decide)
    (fun i hi => hs _ (by decide +kernel)) (fun i hi => hs _ (by decide +kernel)) (fun i hi => hs _ (by decide +kernel))
    (fun i hi => by
      obtain rfl : i = 0 := by omega
      exact hs _ (by decide +kernel))
    (fun i hi j hj => by
      obtain rfl : i = 0 := by omega
      have hj4 : j < 4 := hj
      rcases (show j = 0 ∨ j = 1 ∨ j = 2 ∨ j = 3 by omega) with rfl | rfl | rfl | rfl
      · exact hs _ (by decide +kernel)
      · exact hs _ (by decide +kernel)
      · exact hs _ (by decide +kernel)
      · exact hs _ (by decide +kernel))
    (fun i j hi hj hn => absurd (show i = j by omega) hn) hA
  refine ⟨adK 0, adV 0, fun D cI cJ cZ cL => ⟨vk_R.of hsr (h2 0 (by decide)), ⟨fun i hi => ?_, fun i j hi hj _ => by omega⟩, va_Zof hl hi (va_eqt (hs _ (by decide +kernel))) hA⟩⟩
  obtain rfl : i = 0 := by omega
  exact h1.1 0 (by decide)
theorem st_gX {p : Program} {s : State} {m : MethodId} {meth : Method} {c : Code} {b L : Nat} {xs : Nat → Int32} (C0 : lw_At p s m meth c b L xs) : ∃ g : gG, gX p s m #[Value.ref b] meth c code 4 ret RL g (stHp s) ∧ va_AO "WallHands$Sheet" s := by
  obtain ⟨hx, hb, hr, hml, hown, hts, hX, hbl, hlocks, hgv⟩ := C0
  have htg : ∀ w ∈ gWs, w.before #[Value.ref b] s = true := fun w hw => hts w (gWs_tbl hw)
  obtain ⟨D, hD⟩ := st_kn htg
  have hO : (Cond.arrayOver (.object "WallHands$Sheet")).before #[Value.ref b] s = true := hts _ (List.mem_of_getElem? (i := 238) (by decide +kernel))
  obtain ⟨cI, kI, pI, a1, a2, a3⟩ := Cond.arrayClass_spec (htg _ acI)
  obtain ⟨cJ, kJ, pJ, b1, b2, b3⟩ := Cond.arrayClass_spec (htg _ acJ)
  obtain ⟨cZ, kZ, pZ, c1, c2, c3⟩ := Cond.arrayClass_spec (htg _ acZ)
  obtain ⟨pL, cL, kL, d1, d2, d3, d4, d5⟩ := Cond.arrayOver_spec hO
  obtain ⟨sk, sv, hst⟩ := st_str (flat_of_before _ hgv) (hts _ (List.mem_of_getElem? (i := 381) (by decide +kernel))) (hts _ (List.mem_of_getElem? (i := 395) (by decide +kernel))) (hts _ (List.mem_of_getElem? (i := 81) (by decide +kernel)))
  refine ⟨(D, cI, cJ, cZ, cL, sk, sv), ⟨hx, hb, hr, hml, hown, htg, hlocks, ⟨⟨hD, st_gT ⟨?_, a1⟩ ⟨?_, b1⟩ ⟨?_, c1⟩ ⟨?_, ⟨kL, pL, d3, d4, d1, d5⟩⟩ D sk sv⟩, fun q hq => va_Nw.of rfl (hts _ (st_nest q hq)), hst D cI cJ cZ cL⟩, fun q h => h⟩, va_AO.of hO⟩
  · exact fun n z => ⟨fun k h => (by cases h), kI, a2, pI, a3⟩
  · exact fun n z => ⟨fun k h => (by cases h), kJ, b2, pJ, b3⟩
  · exact fun n z => ⟨fun k h => (by cases h), kZ, c2, pZ, c3⟩
  · exact fun n z => ⟨fun k h => (by cases h), kL, d3, pL, d4⟩
set_option maxHeartbeats 4000000 in
set_option maxRecDepth 100000 in
theorem whole_start {p : Program} {e : Env} {s : State} {m : MethodId} {below : List Frame} {meth : Method} {c : Code} (l : Launch) {b L : Nat} {xs : Nat → Int32} (hL : L ≤ 3072) (C0 : lw_At p s m meth c b L xs) : W p l e room_1 s m #[Value.ref b] below meth c s.heap [] 0 0 (lw_Z below #[Value.ref b] s) (entryFrame m ([Value.ref b] : List Value).toArray 4) := by
  obtain ⟨g, C1, hO⟩ := st_gX C0
  obtain ⟨hx, hb, hr, hml, hown, hts, hX, hbl, hlocks, hgv⟩ := C0
  have hbA : ¬ stHp s b := Nat.not_le.mpr hbl
  have hl := lv_entry ([.ref b]) (n := 4) (Nat.le_of_ble_eq_true rfl)
  rw [lg_entry_eq]
  generalize (lg_sl ([.ref b]) ++ List.replicate (4 - (lg_sl ([.ref b])).length) Slot.unset).toArray = ls at hl ⊢
  have hl : lv_has ls 4 [(0, .ref b)] := hl
  have hw : gW g (stHp s) s [] s.heap [] := ⟨fun k q h => by simp at h, ⟨fun i j p q h => by simp at h, fun k q h => by simp at h⟩, va_S.rf⟩
  refine hNew (C := RX8) (T := TX8) (N := 14) (ci := 8) (fs := [.null, .null, .null, .null, .null, .null, .null, .null, .null, .null, .null, .null, .int 0, .int 0]) C1 hw inGX8 tyX8 tyX8_ok clL_7 inX8 itX8 rfl dfX8 (Nat.le_of_ble_eq_true rfl) (Nat.le_of_ble_eq_true rfl) dL_0 (fun q0 H hw => ?_)
  have hw : gW g (stHp s) s [(q0, .inr (8, [.null, .null, .null, .null, .null, .null, .null, .null, .null, .null, .null, .null, .int 0, .int 0]))] H [] := hw
  refine lv_dup hx hb dL_3 rfl ?_
  refine hInitO (As := []) (rest := [.ref q0]) (wr := []) C1 hO hw lkL_9 (ci_X8 l g H.size q0) ⟨rfl, rfl⟩ ⟨Nat.le_of_ble_eq_true rfl, Nat.le_of_ble_eq_true rfl⟩ 0 rfl [] rfl (by decide) (by decide) rfl hl.1 rfl (Nat.le_of_ble_eq_true rfl) dL_4 ⟨Nat.le_of_ble_eq_true rfl, Nat.le_of_ble_eq_true rfl⟩ (fun u H locs hw => ?_)
  have hw : gW g (stHp s) s (W_X g q0 (u 0) (u 1) (u 2) (u 3) (u 4) (u 5) (u 6) (u 7) (u 8) (u 9) (u 10) (u 11) (u 12) (u 13) (u 14) (u 15) (u 16) (u 17) (u 18) (u 19) (u 20) (u 21) (u 22) (u 23) (u 24) (u 25) (u 26) (u 27) (u 28) (u 29) (u 30) (u 31) (u 32) (u 33) (u 34) (u 35) (u 36) (u 37) (u 38) (u 39) (u 40) (u 41) (u 42) (u 43) (u 44) 1 0 0 (fun _ => 0) 0 (fun _ => 0) 0 0 (-1) 2 (fun _ => 0) 0 (-1) (fun _ => 0) (fun _ => 0) 0 (fun _ => 0) (fun _ => 0) 0 (fun _ => 0) (fun _ => 0) 0 (fun _ => 0) (fun _ => 0) (fun _ => 0) 0 (fun _ => 0) (fun _ => 0) (fun _ => 0) (-1) 0 (fun _ => 0) (-1) 0 (fun _ => 0) (-1) 0 (fun _ => 0) (-1) 0 (fun _ => 0) 0 0 (fun _ => 0) (fun _ => 0) (fun _ => 0) (fun _ => 0) (fun _ => 0) 0 0 (fun _ => 0) (fun _ => 0) (fun _ => 0) (fun _ => 0) (fun _ => 0) (fun _ => 0)) H locs := hw
  refine lv_astore_n (lv' := [(1, .ref q0), (0, .ref b)]) hx hb dL_7 rfl hl (by decide) rfl (fun ls hl => ?_)
  refine hNew (C := RX9) (T := TX9) (N := 45) (ci := 9) (fs := [.null, .null, .int 0, .int 0, .null, .int 0, .null, .null, .int 0, .int 0, .null, .null, .int 0, .null, .null, .null, .null, .int 0, .null, .null, .int 0, .int 0, .null, .int 0, .int 0, .null, .null, .null, .null, .null, .null, .null, .int 0, .int 0, .int 0, .null, .null, .null, .null, .null, .null, .null, .null, .null, .int 0]) C1 hw inGX9 tyX9 tyX9_ok clL_10 inX9 itX9 rfl dfX9 (Nat.le_of_ble_eq_true rfl) (Nat.le_of_ble_eq_true rfl) dL_8 (fun q1 H hw => ?_)
  refine lv_dup hx hb dL_11 rfl ?_
  refine hInit (As := []) (rest := [.ref q1]) (wr := (W_X g q0 (u 0) (u 1) (u 2) (u 3) (u 4) (u 5) (u 6) (u 7) (u 8) (u 9) (u 10) (u 11) (u 12) (u 13) (u 14) (u 15) (u 16) (u 17) (u 18) (u 19) (u 20) (u 21) (u 22) (u 23) (u 24) (u 25) (u 26) (u 27) (u 28) (u 29) (u 30) (u 31) (u 32) (u 33) (u 34) (u 35) (u 36) (u 37) (u 38) (u 39) (u 40) (u 41) (u 42) (u 43) (u 44) 1 0 0 (fun _ => 0) 0 (fun _ => 0) 0 0 (-1) 2 (fun _ => 0) 0 (-1) (fun _ => 0) (fun _ => 0) 0 (fun _ => 0) (fun _ => 0) 0 (fun _ => 0) (fun _ => 0) 0 (fun _ => 0) (fun _ => 0) (fun _ => 0) 0 (fun _ => 0) (fun _ => 0) (fun _ => 0) (-1) 0 (fun _ => 0) (-1) 0 (fun _ => 0) (-1) 0 (fun _ => 0) (-1) 0 (fun _ => 0) 0 0 (fun _ => 0) (fun _ => 0) (fun _ => 0) (fun _ => 0) (fun _ => 0) 0 0 (fun _ => 0) (fun _ => 0) (fun _ => 0) (fun _ => 0) (fun _ => 0) (fun _ => 0))) C1 hw lkL_12 (ci_X9 l g H.size q1) ⟨rfl, rfl⟩ ⟨Nat.le_of_ble_eq_true rfl, Nat.le_of_ble_eq_true rfl⟩ 46 rfl [0, 1, 2, 3, 4, 5, 6, 7, 8, 9, 10, 11, 12, 13, 14, 15, 16, 17, 18, 19, 20, 21, 22, 23, 24, 25, 26, 27, 28, 29, 30, 31, 32, 33, 34, 35, 36, 37, 38, 39, 40, 41, 42, 43, 44, 45] rfl (by decide) (by decide) rfl hl.1 rfl (Nat.le_of_ble_eq_true rfl) dL_12 ⟨Nat.le_of_ble_eq_true rfl, Nat.le_of_ble_eq_true rfl⟩ (fun v H locs hw => ?_)
  have hw : gW g (stHp s) s (W_L g q0 (u 0) (u 1) (u 2) (u 3) (u 4) (u 5) (u 6) (u 7) (u 8) (u 9) (u 10) (u 11) (u 12) (u 13) (u 14) (u 15) (u 16) (u 17) (u 18) (u 19) (u 20) (u 21) (u 22) (u 23) (u 24) (u 25) (u 26) (u 27) (u 28) (u 29) (u 30) (u 31) (u 32) (u 33) (u 34) (u 35) (u 36) (u 37) (u 38) (u 39) (u 40) (u 41) (u 42) (u 43) (u 44) q1 (v 0) (v 1) (v 2) (v 3) (v 4) (v 5) (v 6) (v 7) (v 8) (v 9) (v 10) (v 11) (v 12) (v 13) (v 14) (v 15) (v 16) (v 17) (v 18) (v 19) (v 20) (v 21) (v 22) (v 23) (v 24) (v 25) (v 26) (v 27) (v 28) (v 29) 1 0 0 (fun _ => 0) 0 (fun _ => 0) 0 0 (-1) 2 (fun _ => 0) 0 (-1) (fun _ => 0) (fun _ => 0) 0 (fun _ => 0) (fun _ => 0) 0 (fun _ => 0) (fun _ => 0) 0 (fun _ => 0) (fun _ => 0) (fun _ => 0) 0 (fun _ => 0) (fun _ => 0) (fun _ => 0) (-1) 0 (fun _ => 0) (-1) 0 (fun _ => 0) (-1) 0 (fun _ => 0) (-1) 0 (fun _ => 0) 0 0 (fun _ => 0) (fun _ => 0) (fun _ => 0) (fun _ => 0) (fun _ => 0) 0 0 (fun _ => 0) (fun _ => 0) (fun _ => 0) (fun _ => 0) (fun _ => 0) (fun _ => 0) 0 0 0 2 0 0 0 0 0 0 0 0 0 0 0 (fun _ => 0) (fun _ => 0) (fun _ => 0) (fun _ => 0) (fun _ => 0) (fun _ => 0) (fun _ => 0) (fun _ => 0) (fun _ => 0) (fun _ => 0) (fun _ => 0) (fun _ => 0) (fun _ => 0) (fun _ => 0) (fun _ => 0) (fun _ => 0) (fun _ => 0) (fun _ => 0) (fun _ => 0) (fun _ => 0) (fun _ => 0) (fun _ => 0) (fun _ => 0) (fun _ => 0) (fun _ => 0) (fun _ => 0) (fun _ => 0) (fun _ => 0) (fun _ => 0) (fun _ => 0)) H locs := hw
  refine lv_astore_n (lv' := [(2, .ref q1), (1, .ref q0), (0, .ref b)]) hx hb dL_15 rfl hl (by decide) rfl (fun ls hl => ?_)
  refine lv_iconst (v := 0) hx hb dL_16 (by decide) ?_
  refine lv_istore_n (lv' := [(3, .int 0), (2, .ref q1), (1, .ref q0), (0, .ref b)]) hx hb dL_17 rfl hl (by decide) rfl (fun ls hl => ?_)
  exact law_loop C1 hX hbl hbA (fun q h => h) hL ⟨Nat.le_of_ble_eq_true rfl, Nat.le_of_ble_eq_true rfl⟩ (Nat.le_of_ble_eq_true rfl) (Nat.le_of_ble_eq_true rfl) (L + 1) 0 (by omega) (by omega) CR_new MX_new hw (lv_sub hl [3, 2, 1, 0] rfl)
