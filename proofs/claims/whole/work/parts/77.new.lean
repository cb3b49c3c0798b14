/-! A NEW OBJECT (by program: wip/gen/start.py): nothing is told; both sides agree with that -/
def O0 : Om := ((((fun _ => 0, 0), (fun _ => 0, 0)), 2, (0, fun _ => 0, fun _ => 0), (0, fun _ => 0, fun _ => 0, fun _ => 0)), (0, fun _ => 0, fun _ => 0, fun _ => 0), 0, fun _ => (-1, 0, fun _ => 0))
theorem O0_ok : CK O0 := ⟨⟨⟨Nat.zero_le _, fun k hk => absurd hk (Nat.not_lt_zero k)⟩, ⟨Nat.zero_le _, fun k hk => absurd hk (Nat.not_lt_zero k)⟩, ⟨Nat.le_of_ble_eq_true rfl, Nat.le_of_ble_eq_true rfl⟩, ⟨Nat.zero_le _, fun k hk => absurd hk (Nat.not_lt_zero k)⟩, ⟨Nat.zero_le _, fun k hk => absurd hk (Nat.not_lt_zero k)⟩⟩, ⟨Nat.zero_le _, fun k hk => absurd hk (Nat.not_lt_zero k), fun k hk => absurd hk (Nat.not_lt_zero k)⟩, fun s hs => ⟨Nat.zero_le _, Or.inl rfl⟩⟩
theorem O0_wF : wFault (fun _ => 0) 0 = -1 := by decide +kernel
theorem O0_hF : hFault (fun _ => 0) 0 = -1 := by decide +kernel
theorem O0_wC : wC (fun _ => 0) 0 = 0 := by decide +kernel
theorem O0_wW : wW (fun _ => 0) 0 = 0 := by decide +kernel
theorem O0_hN : hN (fun _ => 0) 0 = 0 := by decide +kernel
theorem O0_rep : rep (fun _ => 0) (wTold (fun _ => 0) 0) := by
  intro h hh p
  have e : wTold (fun _ => 0) 0 = fun _ => -1 := by
    unfold wTold
    split <;> rfl
  have q : ¬ (-1 : Int32) = nI h := fun z => nI_ne1 (show h < 2 ^ 31 by omega) z.symm
  rw [e, bl_0]
  unfold isH
  simp [q]
theorem CR_new : CR O0 1 0 0 (fun _ => 0) 0 (fun _ => 0) 0 0 (-1) 2 (fun _ => 0) 0 (-1) (fun _ => 0) (fun _ => 0) 0 (fun _ => 0) (fun _ => 0) 0 (fun _ => 0) (fun _ => 0) (fun _ => 0) 0 (fun _ => 0) (fun _ => 0) (fun _ => 0) (-1) 0 (fun _ => 0) (-1) 0 (fun _ => 0) (-1) 0 (fun _ => 0) (-1) 0 (fun _ => 0) 0 (fun _ => 0) (fun _ => 0) (fun _ => 0) (fun _ => 0) := by
  have hw : CIw (SK O0.1) 0 0 2 (fun _ => 0) := by
    refine ⟨?_, ?_, rfl, O0_rep⟩
    · show (0 : Int32) = nI (wC (fun _ => 0) 0)
      rw [O0_wC]; exact nI_0.symm
    · show (0 : Int32) = nI (wW (fun _ => 0) 0)
      rw [O0_wW]; exact nI_0.symm
  have hn : Sn (SK O0.1) = 0 := O0_hN
  have hh : CIh (SK O0.1) 0 (fun _ => 0) (fun _ => 0) := by
    refine ⟨?_, fun k hk => ?_⟩
    · rw [hn]; exact nI_0.symm
    · rw [hn] at hk; exact absurd hk (Nat.not_lt_zero k)
  exact ⟨O0_ok, hw, hh, ⟨nI_0.symm, fun k hk => absurd hk (Nat.not_lt_zero k)⟩, ⟨nI_0.symm, fun k hk => absurd hk (Nat.not_lt_zero k)⟩, CT_1 _ _ _ _ _ _, ⟨nI_0.symm, rfl, nI_0.symm, rfl, O0_wF.symm, O0_hF.symm⟩, ⟨nI_0.symm, fun k hk => absurd hk (Nat.not_lt_zero k)⟩, rfl, ⟨rfl, nI_0.symm, fun _ _ => rfl⟩, ⟨rfl, nI_0.symm, fun _ _ => rfl⟩, ⟨rfl, nI_0.symm, fun _ _ => rfl⟩, ⟨rfl, nI_0.symm, fun _ _ => rfl⟩⟩
theorem MX_new : MX O0 (fun _ => 0) (fun _ => 0) 2 0 (fun _ => 0) (fun _ => 0) 0 (fun _ => 0) (fun _ => 0) (fun _ => 0) 0 (fun _ => 0) (fun _ => 0) (fun _ => 0) 0 (fun _ => 0) (fun _ => 0) (fun _ => 0) (fun _ => 0) :=
  ⟨O0_ok, ⟨⟨⟨nI_0.symm, fun k hk => absurd hk (Nat.not_lt_zero k)⟩, ⟨nI_0.symm, fun k hk => absurd hk (Nat.not_lt_zero k)⟩⟩, rfl, ⟨nI_0.symm, fun k hk => absurd hk (Nat.not_lt_zero k)⟩, ⟨nI_0.symm, fun k hk => absurd hk (Nat.not_lt_zero k)⟩⟩, ⟨nI_0.symm, fun k hk => absurd hk (Nat.not_lt_zero k)⟩, rfl, fun s hs => ⟨nI_0.symm, fun _ _ => rfl, Or.inl ⟨rfl, rfl⟩⟩⟩
