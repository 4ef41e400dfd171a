/-! the constructors, on the store that grows from nothing -/
def zLtb (n : Nat) : Value → Bool
  | .ref k => Nat.blt k n
  | _ => true
theorem zLtb_of {n : Nat} {v : Value} (h : zLtb n v = true) : zLt n v := by
  cases v with
  | ref k => exact Nat.le_of_ble_eq_true h
  | _ => trivial
theorem zallL {n : Nat} {L : List (Nat × Value)} (h : (L.all fun q => zLtb n q.2) = true) : ∀ q ∈ L, zLt n q.2 := fun q hq => zLtb_of (List.all_eq_true.mp h q hq)
theorem zallS {n : Nat} {S : List Value} (h : S.all (zLtb n) = true) : ∀ v ∈ S, zLt n v := fun v hv => zLtb_of (List.all_eq_true.mp h v hv)
def zEmp : zSt := (0, fun _ => 0, fun _ => 0, fun _ _ => 0, fun _ _ => 0, fun _ _ => none)
theorem zEmp_cl : zCl zEmp := fun _ _ _ h => by cases h
theorem zDf_6 : zDfT 6 4 TX6 := by
  intro ty h j hj
  have e := fun k hk => Option.some.inj ((h k hk).symm.trans (tyX6_ok k hk))
  rw [e j hj]
  match j, hj with
  | 0, _ => rfl
  | 1, _ => rfl
  | 2, _ => rfl
  | 3, _ => rfl
theorem zDf_8 : zDfT 8 2 TX8 := by
  intro ty h j hj
  have e := fun k hk => Option.some.inj ((h k hk).symm.trans (tyX8_ok k hk))
  rw [e j hj]
  match j, hj with
  | 0, _ => rfl
  | 1, _ => rfl
theorem zDf_2 : zDfT 2 4 TX2 := by
  intro ty h j hj
  have e := fun k hk => Option.some.inj ((h k hk).symm.trans (tyX2_ok k hk))
  rw [e j hj]
  match j, hj with
  | 0, _ => rfl
  | 1, _ => rfl
  | 2, _ => rfl
  | 3, _ => rfl

theorem zDf_1 : zDfT 1 11 TX1 := by
  intro ty h j hj
  have e := fun k hk => Option.some.inj ((h k hk).symm.trans (tyX1_ok k hk))
  rw [e j hj]
  have hd : j = 0 ∨ j = 1 ∨ j = 2 ∨ j = 3 ∨ j = 4 ∨ j = 5 ∨ j = 6 ∨ j = 7 ∨ j = 8 ∨ j = 9 ∨ j = 10 := by omega
  rcases hd with rfl | rfl | rfl | rfl | rfl | rfl | rfl | rfl | rfl | rfl | rfl <;> rfl

theorem zDf_11 : zDfT 11 9 TX11 := by
  intro ty h j hj
  have e := fun k hk => Option.some.inj ((h k hk).symm.trans (tyX11_ok k hk))
  rw [e j hj]
  have hd : j = 0 ∨ j = 1 ∨ j = 2 ∨ j = 3 ∨ j = 4 ∨ j = 5 ∨ j = 6 ∨ j = 7 ∨ j = 8 := by omega
  rcases hd with rfl | rfl | rfl | rfl | rfl | rfl | rfl | rfl | rfl <;> rfl

theorem zDf_12 : zDfT 12 33 TX12 := by
  intro ty h j hj
  have e := fun k hk => Option.some.inj ((h k hk).symm.trans (tyX12_ok k hk))
  rw [e j hj]
  have hd : j = 0 ∨ j = 1 ∨ j = 2 ∨ j = 3 ∨ j = 4 ∨ j = 5 ∨ j = 6 ∨ j = 7 ∨ j = 8 ∨ j = 9 ∨ j = 10 ∨ j = 11 ∨ j = 12 ∨ j = 13 ∨ j = 14 ∨ j = 15 ∨ j = 16 ∨ j = 17 ∨ j = 18 ∨ j = 19 ∨ j = 20 ∨ j = 21 ∨ j = 22 ∨ j = 23 ∨ j = 24 ∨ j = 25 ∨ j = 26 ∨ j = 27 ∨ j = 28 ∨ j = 29 ∨ j = 30 ∨ j = 31 ∨ j = 32 := by omega
  rcases hd with rfl | rfl | rfl | rfl | rfl | rfl | rfl | rfl | rfl | rfl | rfl | rfl | rfl | rfl | rfl | rfl | rfl | rfl | rfl | rfl | rfl | rfl | rfl | rfl | rfl | rfl | rfl | rfl | rfl | rfl | rfl | rfl | rfl <;> rfl

def cS0 : zSt := zNew zEmp 11 0
theorem cl0 : zCl cS0 := zEmp_cl.new
def cS1 : zSt := zNew cS0 15 8
theorem cl1 : zCl cS1 := cl0.new
def cS2 : zSt := zuR cS1 0 (va_up (zR cS1 0) 0 (some 1))
theorem cl2 : zCl cS2 := cl1.up (by decide +kernel)
def cS3 : zSt := zNew cS2 6 0
theorem cl3 : zCl cS3 := cl2.new
def cS4 : zSt := zNew cS3 14 160
theorem cl4 : zCl cS4 := cl3.new
def cS5 : zSt := zuR cS4 2 (va_up (zR cS4 2) 0 (some 3))
theorem cl5 : zCl cS5 := cl4.up (by decide +kernel)
def cS6 : zSt := zuX cS5 2 (upd (zX cS5 2) 1 (-1))
theorem cl6 : zCl cS6 := cl5.uX
def cS7 : zSt := zuX cS6 2 (upd (zX cS6 2) 2 (nI 0))
theorem cl7 : zCl cS7 := cl6.uX
def cS8 : zSt := zuX cS7 2 (upd (zX cS7 2) 3 (-1))
theorem cl8 : zCl cS8 := cl7.uX
theorem t_ctor_X6_init_2 : Dt mX6_init [.ref 2] cS3 none cS8 := by
  refine Dt.ofN (by decide) (Nat.le_of_ble_eq_true rfl) fun κ B Rt hn0 => ?_
  show Z κ 0 0 cS3 0 [(0, .ref 2)] []
  refine Z.aload_n B dX6_init_0 (v := .ref 2) rfl rfl ?_
  refine Z.objInit B dX6_init_1 kX6_3 (by decide) (Nat.le_of_ble_eq_true rfl) ?_
  refine Z.aload_n B dX6_init_4 (v := .ref 2) rfl rfl ?_
  refine Z.sipush B dX6_init_5 (v := nI 160) rfl ?_
  refine Z.newL (σ := cS3) B (n := 160) dX6_init_8 (by decide) cl3 (zallL (by decide +kernel)) (zallS (by decide +kernel)) (by rw [hn0]; decide +kernel) (by decide) (by decide) ?_
  show Z κ 1 160 cS4 10 [(0, .ref 2)] [.ref 3, .ref 2]
  refine Z.putFR (σ := cS4) B fX6_9_6 (ty := (.array .long)) ⟨_, _, _, rfl, rfl, by decide +kernel⟩ rfl ⟨_, _, _, rfl, rfl⟩ dX6_init_10 (by decide +kernel) (by decide +kernel) (by decide) (Or.inr ⟨_, rfl⟩) (j := 3) (τ := cS5) rfl ?_
  refine Z.aload_n B dX6_init_13 (v := .ref 2) rfl rfl ?_
  refine Z.iconst B dX6_init_14 (v := (-1)) rfl ?_
  refine Z.putI (σ := cS5) B fX6_15_6 (ty := .int) ⟨_, _, _, rfl, rfl, by decide +kernel⟩ dX6_init_15 (by decide +kernel) (by decide +kernel) (by decide) rfl rfl (τ := cS6) rfl ?_
  refine Z.aload_n B dX6_init_18 (v := .ref 2) rfl rfl ?_
  refine Z.iconst B dX6_init_19 (v := nI 0) rfl ?_
  refine Z.putI (σ := cS6) B fX6_19_6 (ty := .int) ⟨_, _, _, rfl, rfl, by decide +kernel⟩ dX6_init_20 (by decide +kernel) (by decide +kernel) (by decide) rfl rfl (τ := cS7) rfl ?_
  refine Z.aload_n B dX6_init_23 (v := .ref 2) rfl rfl ?_
  refine Z.iconst B dX6_init_24 (v := (-1)) rfl ?_
  refine Z.putI (σ := cS7) B fX6_22_6 (ty := .int) ⟨_, _, _, rfl, rfl, by decide +kernel⟩ dX6_init_25 (by decide +kernel) (by decide +kernel) (by decide) rfl rfl (τ := cS8) rfl ?_
  refine Z.vret B Rt dX6_init_28 rfl (by decide) (by decide) ?_
  exact ⟨rfl, rfl⟩
def cS9 : zSt := zuR cS8 1 (va_up (zR cS8 1) 0 (some 2))
theorem cl9 : zCl cS9 := cl8.up (by decide +kernel)
def cS10 : zSt := zNew cS9 6 0
theorem cl10 : zCl cS10 := cl9.new
def cS11 : zSt := zNew cS10 14 160
theorem cl11 : zCl cS11 := cl10.new
def cS12 : zSt := zuR cS11 4 (va_up (zR cS11 4) 0 (some 5))
theorem cl12 : zCl cS12 := cl11.up (by decide +kernel)
def cS13 : zSt := zuX cS12 4 (upd (zX cS12 4) 1 (-1))
theorem cl13 : zCl cS13 := cl12.uX
def cS14 : zSt := zuX cS13 4 (upd (zX cS13 4) 2 (nI 0))
theorem cl14 : zCl cS14 := cl13.uX
def cS15 : zSt := zuX cS14 4 (upd (zX cS14 4) 3 (-1))
theorem cl15 : zCl cS15 := cl14.uX
theorem t_ctor_X6_init_4 : Dt mX6_init [.ref 4] cS10 none cS15 := by
  refine Dt.ofN (by decide) (Nat.le_of_ble_eq_true rfl) fun κ B Rt hn0 => ?_
  show Z κ 0 0 cS10 0 [(0, .ref 4)] []
  refine Z.aload_n B dX6_init_0 (v := .ref 4) rfl rfl ?_
  refine Z.objInit B dX6_init_1 kX6_3 (by decide) (Nat.le_of_ble_eq_true rfl) ?_
  refine Z.aload_n B dX6_init_4 (v := .ref 4) rfl rfl ?_
  refine Z.sipush B dX6_init_5 (v := nI 160) rfl ?_
  refine Z.newL (σ := cS10) B (n := 160) dX6_init_8 (by decide) cl10 (zallL (by decide +kernel)) (zallS (by decide +kernel)) (by rw [hn0]; decide +kernel) (by decide) (by decide) ?_
  show Z κ 1 160 cS11 10 [(0, .ref 4)] [.ref 5, .ref 4]
  refine Z.putFR (σ := cS11) B fX6_9_6 (ty := (.array .long)) ⟨_, _, _, rfl, rfl, by decide +kernel⟩ rfl ⟨_, _, _, rfl, rfl⟩ dX6_init_10 (by decide +kernel) (by decide +kernel) (by decide) (Or.inr ⟨_, rfl⟩) (j := 5) (τ := cS12) rfl ?_
  refine Z.aload_n B dX6_init_13 (v := .ref 4) rfl rfl ?_
  refine Z.iconst B dX6_init_14 (v := (-1)) rfl ?_
  refine Z.putI (σ := cS12) B fX6_15_6 (ty := .int) ⟨_, _, _, rfl, rfl, by decide +kernel⟩ dX6_init_15 (by decide +kernel) (by decide +kernel) (by decide) rfl rfl (τ := cS13) rfl ?_
  refine Z.aload_n B dX6_init_18 (v := .ref 4) rfl rfl ?_
  refine Z.iconst B dX6_init_19 (v := nI 0) rfl ?_
  refine Z.putI (σ := cS13) B fX6_19_6 (ty := .int) ⟨_, _, _, rfl, rfl, by decide +kernel⟩ dX6_init_20 (by decide +kernel) (by decide +kernel) (by decide) rfl rfl (τ := cS14) rfl ?_
  refine Z.aload_n B dX6_init_23 (v := .ref 4) rfl rfl ?_
  refine Z.iconst B dX6_init_24 (v := (-1)) rfl ?_
  refine Z.putI (σ := cS14) B fX6_22_6 (ty := .int) ⟨_, _, _, rfl, rfl, by decide +kernel⟩ dX6_init_25 (by decide +kernel) (by decide +kernel) (by decide) rfl rfl (τ := cS15) rfl ?_
  refine Z.vret B Rt dX6_init_28 rfl (by decide) (by decide) ?_
  exact ⟨rfl, rfl⟩
def cS16 : zSt := zuR cS15 1 (va_up (zR cS15 1) 1 (some 4))
theorem cl16 : zCl cS16 := cl15.up (by decide +kernel)
def cS17 : zSt := zNew cS16 6 0
theorem cl17 : zCl cS17 := cl16.new
def cS18 : zSt := zNew cS17 14 160
theorem cl18 : zCl cS18 := cl17.new
def cS19 : zSt := zuR cS18 6 (va_up (zR cS18 6) 0 (some 7))
theorem cl19 : zCl cS19 := cl18.up (by decide +kernel)
def cS20 : zSt := zuX cS19 6 (upd (zX cS19 6) 1 (-1))
theorem cl20 : zCl cS20 := cl19.uX
def cS21 : zSt := zuX cS20 6 (upd (zX cS20 6) 2 (nI 0))
theorem cl21 : zCl cS21 := cl20.uX
def cS22 : zSt := zuX cS21 6 (upd (zX cS21 6) 3 (-1))
theorem cl22 : zCl cS22 := cl21.uX
theorem t_ctor_X6_init_6 : Dt mX6_init [.ref 6] cS17 none cS22 := by
  refine Dt.ofN (by decide) (Nat.le_of_ble_eq_true rfl) fun κ B Rt hn0 => ?_
  show Z κ 0 0 cS17 0 [(0, .ref 6)] []
  refine Z.aload_n B dX6_init_0 (v := .ref 6) rfl rfl ?_
  refine Z.objInit B dX6_init_1 kX6_3 (by decide) (Nat.le_of_ble_eq_true rfl) ?_
  refine Z.aload_n B dX6_init_4 (v := .ref 6) rfl rfl ?_
  refine Z.sipush B dX6_init_5 (v := nI 160) rfl ?_
  refine Z.newL (σ := cS17) B (n := 160) dX6_init_8 (by decide) cl17 (zallL (by decide +kernel)) (zallS (by decide +kernel)) (by rw [hn0]; decide +kernel) (by decide) (by decide) ?_
  show Z κ 1 160 cS18 10 [(0, .ref 6)] [.ref 7, .ref 6]
  refine Z.putFR (σ := cS18) B fX6_9_6 (ty := (.array .long)) ⟨_, _, _, rfl, rfl, by decide +kernel⟩ rfl ⟨_, _, _, rfl, rfl⟩ dX6_init_10 (by decide +kernel) (by decide +kernel) (by decide) (Or.inr ⟨_, rfl⟩) (j := 7) (τ := cS19) rfl ?_
  refine Z.aload_n B dX6_init_13 (v := .ref 6) rfl rfl ?_
  refine Z.iconst B dX6_init_14 (v := (-1)) rfl ?_
  refine Z.putI (σ := cS19) B fX6_15_6 (ty := .int) ⟨_, _, _, rfl, rfl, by decide +kernel⟩ dX6_init_15 (by decide +kernel) (by decide +kernel) (by decide) rfl rfl (τ := cS20) rfl ?_
  refine Z.aload_n B dX6_init_18 (v := .ref 6) rfl rfl ?_
  refine Z.iconst B dX6_init_19 (v := nI 0) rfl ?_
  refine Z.putI (σ := cS20) B fX6_19_6 (ty := .int) ⟨_, _, _, rfl, rfl, by decide +kernel⟩ dX6_init_20 (by decide +kernel) (by decide +kernel) (by decide) rfl rfl (τ := cS21) rfl ?_
  refine Z.aload_n B dX6_init_23 (v := .ref 6) rfl rfl ?_
  refine Z.iconst B dX6_init_24 (v := (-1)) rfl ?_
  refine Z.putI (σ := cS21) B fX6_22_6 (ty := .int) ⟨_, _, _, rfl, rfl, by decide +kernel⟩ dX6_init_25 (by decide +kernel) (by decide +kernel) (by decide) rfl rfl (τ := cS22) rfl ?_
  refine Z.vret B Rt dX6_init_28 rfl (by decide) (by decide) ?_
  exact ⟨rfl, rfl⟩
def cS23 : zSt := zuR cS22 1 (va_up (zR cS22 1) 2 (some 6))
theorem cl23 : zCl cS23 := cl22.up (by decide +kernel)
def cS24 : zSt := zNew cS23 6 0
theorem cl24 : zCl cS24 := cl23.new
def cS25 : zSt := zNew cS24 14 160
theorem cl25 : zCl cS25 := cl24.new
def cS26 : zSt := zuR cS25 8 (va_up (zR cS25 8) 0 (some 9))
theorem cl26 : zCl cS26 := cl25.up (by decide +kernel)
def cS27 : zSt := zuX cS26 8 (upd (zX cS26 8) 1 (-1))
theorem cl27 : zCl cS27 := cl26.uX
def cS28 : zSt := zuX cS27 8 (upd (zX cS27 8) 2 (nI 0))
theorem cl28 : zCl cS28 := cl27.uX
def cS29 : zSt := zuX cS28 8 (upd (zX cS28 8) 3 (-1))
theorem cl29 : zCl cS29 := cl28.uX
theorem t_ctor_X6_init_8 : Dt mX6_init [.ref 8] cS24 none cS29 := by
  refine Dt.ofN (by decide) (Nat.le_of_ble_eq_true rfl) fun κ B Rt hn0 => ?_
  show Z κ 0 0 cS24 0 [(0, .ref 8)] []
  refine Z.aload_n B dX6_init_0 (v := .ref 8) rfl rfl ?_
  refine Z.objInit B dX6_init_1 kX6_3 (by decide) (Nat.le_of_ble_eq_true rfl) ?_
  refine Z.aload_n B dX6_init_4 (v := .ref 8) rfl rfl ?_
  refine Z.sipush B dX6_init_5 (v := nI 160) rfl ?_
  refine Z.newL (σ := cS24) B (n := 160) dX6_init_8 (by decide) cl24 (zallL (by decide +kernel)) (zallS (by decide +kernel)) (by rw [hn0]; decide +kernel) (by decide) (by decide) ?_
  show Z κ 1 160 cS25 10 [(0, .ref 8)] [.ref 9, .ref 8]
  refine Z.putFR (σ := cS25) B fX6_9_6 (ty := (.array .long)) ⟨_, _, _, rfl, rfl, by decide +kernel⟩ rfl ⟨_, _, _, rfl, rfl⟩ dX6_init_10 (by decide +kernel) (by decide +kernel) (by decide) (Or.inr ⟨_, rfl⟩) (j := 9) (τ := cS26) rfl ?_
  refine Z.aload_n B dX6_init_13 (v := .ref 8) rfl rfl ?_
  refine Z.iconst B dX6_init_14 (v := (-1)) rfl ?_
  refine Z.putI (σ := cS26) B fX6_15_6 (ty := .int) ⟨_, _, _, rfl, rfl, by decide +kernel⟩ dX6_init_15 (by decide +kernel) (by decide +kernel) (by decide) rfl rfl (τ := cS27) rfl ?_
  refine Z.aload_n B dX6_init_18 (v := .ref 8) rfl rfl ?_
  refine Z.iconst B dX6_init_19 (v := nI 0) rfl ?_
  refine Z.putI (σ := cS27) B fX6_19_6 (ty := .int) ⟨_, _, _, rfl, rfl, by decide +kernel⟩ dX6_init_20 (by decide +kernel) (by decide +kernel) (by decide) rfl rfl (τ := cS28) rfl ?_
  refine Z.aload_n B dX6_init_23 (v := .ref 8) rfl rfl ?_
  refine Z.iconst B dX6_init_24 (v := (-1)) rfl ?_
  refine Z.putI (σ := cS28) B fX6_22_6 (ty := .int) ⟨_, _, _, rfl, rfl, by decide +kernel⟩ dX6_init_25 (by decide +kernel) (by decide +kernel) (by decide) rfl rfl (τ := cS29) rfl ?_
  refine Z.vret B Rt dX6_init_28 rfl (by decide) (by decide) ?_
  exact ⟨rfl, rfl⟩
def cS30 : zSt := zuR cS29 1 (va_up (zR cS29 1) 3 (some 8))
theorem cl30 : zCl cS30 := cl29.up (by decide +kernel)
def cS31 : zSt := zNew cS30 6 0
theorem cl31 : zCl cS31 := cl30.new
def cS32 : zSt := zNew cS31 14 160
theorem cl32 : zCl cS32 := cl31.new
def cS33 : zSt := zuR cS32 10 (va_up (zR cS32 10) 0 (some 11))
theorem cl33 : zCl cS33 := cl32.up (by decide +kernel)
def cS34 : zSt := zuX cS33 10 (upd (zX cS33 10) 1 (-1))
theorem cl34 : zCl cS34 := cl33.uX
def cS35 : zSt := zuX cS34 10 (upd (zX cS34 10) 2 (nI 0))
theorem cl35 : zCl cS35 := cl34.uX
def cS36 : zSt := zuX cS35 10 (upd (zX cS35 10) 3 (-1))
theorem cl36 : zCl cS36 := cl35.uX
theorem t_ctor_X6_init_10 : Dt mX6_init [.ref 10] cS31 none cS36 := by
  refine Dt.ofN (by decide) (Nat.le_of_ble_eq_true rfl) fun κ B Rt hn0 => ?_
  show Z κ 0 0 cS31 0 [(0, .ref 10)] []
  refine Z.aload_n B dX6_init_0 (v := .ref 10) rfl rfl ?_
  refine Z.objInit B dX6_init_1 kX6_3 (by decide) (Nat.le_of_ble_eq_true rfl) ?_
  refine Z.aload_n B dX6_init_4 (v := .ref 10) rfl rfl ?_
  refine Z.sipush B dX6_init_5 (v := nI 160) rfl ?_
  refine Z.newL (σ := cS31) B (n := 160) dX6_init_8 (by decide) cl31 (zallL (by decide +kernel)) (zallS (by decide +kernel)) (by rw [hn0]; decide +kernel) (by decide) (by decide) ?_
  show Z κ 1 160 cS32 10 [(0, .ref 10)] [.ref 11, .ref 10]
  refine Z.putFR (σ := cS32) B fX6_9_6 (ty := (.array .long)) ⟨_, _, _, rfl, rfl, by decide +kernel⟩ rfl ⟨_, _, _, rfl, rfl⟩ dX6_init_10 (by decide +kernel) (by decide +kernel) (by decide) (Or.inr ⟨_, rfl⟩) (j := 11) (τ := cS33) rfl ?_
  refine Z.aload_n B dX6_init_13 (v := .ref 10) rfl rfl ?_
  refine Z.iconst B dX6_init_14 (v := (-1)) rfl ?_
  refine Z.putI (σ := cS33) B fX6_15_6 (ty := .int) ⟨_, _, _, rfl, rfl, by decide +kernel⟩ dX6_init_15 (by decide +kernel) (by decide +kernel) (by decide) rfl rfl (τ := cS34) rfl ?_
  refine Z.aload_n B dX6_init_18 (v := .ref 10) rfl rfl ?_
  refine Z.iconst B dX6_init_19 (v := nI 0) rfl ?_
  refine Z.putI (σ := cS34) B fX6_19_6 (ty := .int) ⟨_, _, _, rfl, rfl, by decide +kernel⟩ dX6_init_20 (by decide +kernel) (by decide +kernel) (by decide) rfl rfl (τ := cS35) rfl ?_
  refine Z.aload_n B dX6_init_23 (v := .ref 10) rfl rfl ?_
  refine Z.iconst B dX6_init_24 (v := (-1)) rfl ?_
  refine Z.putI (σ := cS35) B fX6_22_6 (ty := .int) ⟨_, _, _, rfl, rfl, by decide +kernel⟩ dX6_init_25 (by decide +kernel) (by decide +kernel) (by decide) rfl rfl (τ := cS36) rfl ?_
  refine Z.vret B Rt dX6_init_28 rfl (by decide) (by decide) ?_
  exact ⟨rfl, rfl⟩
def cS37 : zSt := zuR cS36 1 (va_up (zR cS36 1) 4 (some 10))
theorem cl37 : zCl cS37 := cl36.up (by decide +kernel)
def cS38 : zSt := zNew cS37 6 0
theorem cl38 : zCl cS38 := cl37.new
def cS39 : zSt := zNew cS38 14 160
theorem cl39 : zCl cS39 := cl38.new
def cS40 : zSt := zuR cS39 12 (va_up (zR cS39 12) 0 (some 13))
theorem cl40 : zCl cS40 := cl39.up (by decide +kernel)
def cS41 : zSt := zuX cS40 12 (upd (zX cS40 12) 1 (-1))
theorem cl41 : zCl cS41 := cl40.uX
def cS42 : zSt := zuX cS41 12 (upd (zX cS41 12) 2 (nI 0))
theorem cl42 : zCl cS42 := cl41.uX
def cS43 : zSt := zuX cS42 12 (upd (zX cS42 12) 3 (-1))
theorem cl43 : zCl cS43 := cl42.uX
theorem t_ctor_X6_init_12 : Dt mX6_init [.ref 12] cS38 none cS43 := by
  refine Dt.ofN (by decide) (Nat.le_of_ble_eq_true rfl) fun κ B Rt hn0 => ?_
  show Z κ 0 0 cS38 0 [(0, .ref 12)] []
  refine Z.aload_n B dX6_init_0 (v := .ref 12) rfl rfl ?_
  refine Z.objInit B dX6_init_1 kX6_3 (by decide) (Nat.le_of_ble_eq_true rfl) ?_
  refine Z.aload_n B dX6_init_4 (v := .ref 12) rfl rfl ?_
  refine Z.sipush B dX6_init_5 (v := nI 160) rfl ?_
  refine Z.newL (σ := cS38) B (n := 160) dX6_init_8 (by decide) cl38 (zallL (by decide +kernel)) (zallS (by decide +kernel)) (by rw [hn0]; decide +kernel) (by decide) (by decide) ?_
  show Z κ 1 160 cS39 10 [(0, .ref 12)] [.ref 13, .ref 12]
  refine Z.putFR (σ := cS39) B fX6_9_6 (ty := (.array .long)) ⟨_, _, _, rfl, rfl, by decide +kernel⟩ rfl ⟨_, _, _, rfl, rfl⟩ dX6_init_10 (by decide +kernel) (by decide +kernel) (by decide) (Or.inr ⟨_, rfl⟩) (j := 13) (τ := cS40) rfl ?_
  refine Z.aload_n B dX6_init_13 (v := .ref 12) rfl rfl ?_
  refine Z.iconst B dX6_init_14 (v := (-1)) rfl ?_
  refine Z.putI (σ := cS40) B fX6_15_6 (ty := .int) ⟨_, _, _, rfl, rfl, by decide +kernel⟩ dX6_init_15 (by decide +kernel) (by decide +kernel) (by decide) rfl rfl (τ := cS41) rfl ?_
  refine Z.aload_n B dX6_init_18 (v := .ref 12) rfl rfl ?_
  refine Z.iconst B dX6_init_19 (v := nI 0) rfl ?_
  refine Z.putI (σ := cS41) B fX6_19_6 (ty := .int) ⟨_, _, _, rfl, rfl, by decide +kernel⟩ dX6_init_20 (by decide +kernel) (by decide +kernel) (by decide) rfl rfl (τ := cS42) rfl ?_
  refine Z.aload_n B dX6_init_23 (v := .ref 12) rfl rfl ?_
  refine Z.iconst B dX6_init_24 (v := (-1)) rfl ?_
  refine Z.putI (σ := cS42) B fX6_22_6 (ty := .int) ⟨_, _, _, rfl, rfl, by decide +kernel⟩ dX6_init_25 (by decide +kernel) (by decide +kernel) (by decide) rfl rfl (τ := cS43) rfl ?_
  refine Z.vret B Rt dX6_init_28 rfl (by decide) (by decide) ?_
  exact ⟨rfl, rfl⟩
def cS44 : zSt := zuR cS43 1 (va_up (zR cS43 1) 5 (some 12))
theorem cl44 : zCl cS44 := cl43.up (by decide +kernel)
def cS45 : zSt := zNew cS44 6 0
theorem cl45 : zCl cS45 := cl44.new
def cS46 : zSt := zNew cS45 14 160
theorem cl46 : zCl cS46 := cl45.new
def cS47 : zSt := zuR cS46 14 (va_up (zR cS46 14) 0 (some 15))
theorem cl47 : zCl cS47 := cl46.up (by decide +kernel)
def cS48 : zSt := zuX cS47 14 (upd (zX cS47 14) 1 (-1))
theorem cl48 : zCl cS48 := cl47.uX
def cS49 : zSt := zuX cS48 14 (upd (zX cS48 14) 2 (nI 0))
theorem cl49 : zCl cS49 := cl48.uX
def cS50 : zSt := zuX cS49 14 (upd (zX cS49 14) 3 (-1))
theorem cl50 : zCl cS50 := cl49.uX
theorem t_ctor_X6_init_14 : Dt mX6_init [.ref 14] cS45 none cS50 := by
  refine Dt.ofN (by decide) (Nat.le_of_ble_eq_true rfl) fun κ B Rt hn0 => ?_
  show Z κ 0 0 cS45 0 [(0, .ref 14)] []
  refine Z.aload_n B dX6_init_0 (v := .ref 14) rfl rfl ?_
  refine Z.objInit B dX6_init_1 kX6_3 (by decide) (Nat.le_of_ble_eq_true rfl) ?_
  refine Z.aload_n B dX6_init_4 (v := .ref 14) rfl rfl ?_
  refine Z.sipush B dX6_init_5 (v := nI 160) rfl ?_
  refine Z.newL (σ := cS45) B (n := 160) dX6_init_8 (by decide) cl45 (zallL (by decide +kernel)) (zallS (by decide +kernel)) (by rw [hn0]; decide +kernel) (by decide) (by decide) ?_
  show Z κ 1 160 cS46 10 [(0, .ref 14)] [.ref 15, .ref 14]
  refine Z.putFR (σ := cS46) B fX6_9_6 (ty := (.array .long)) ⟨_, _, _, rfl, rfl, by decide +kernel⟩ rfl ⟨_, _, _, rfl, rfl⟩ dX6_init_10 (by decide +kernel) (by decide +kernel) (by decide) (Or.inr ⟨_, rfl⟩) (j := 15) (τ := cS47) rfl ?_
  refine Z.aload_n B dX6_init_13 (v := .ref 14) rfl rfl ?_
  refine Z.iconst B dX6_init_14 (v := (-1)) rfl ?_
  refine Z.putI (σ := cS47) B fX6_15_6 (ty := .int) ⟨_, _, _, rfl, rfl, by decide +kernel⟩ dX6_init_15 (by decide +kernel) (by decide +kernel) (by decide) rfl rfl (τ := cS48) rfl ?_
  refine Z.aload_n B dX6_init_18 (v := .ref 14) rfl rfl ?_
  refine Z.iconst B dX6_init_19 (v := nI 0) rfl ?_
  refine Z.putI (σ := cS48) B fX6_19_6 (ty := .int) ⟨_, _, _, rfl, rfl, by decide +kernel⟩ dX6_init_20 (by decide +kernel) (by decide +kernel) (by decide) rfl rfl (τ := cS49) rfl ?_
  refine Z.aload_n B dX6_init_23 (v := .ref 14) rfl rfl ?_
  refine Z.iconst B dX6_init_24 (v := (-1)) rfl ?_
  refine Z.putI (σ := cS49) B fX6_22_6 (ty := .int) ⟨_, _, _, rfl, rfl, by decide +kernel⟩ dX6_init_25 (by decide +kernel) (by decide +kernel) (by decide) rfl rfl (τ := cS50) rfl ?_
  refine Z.vret B Rt dX6_init_28 rfl (by decide) (by decide) ?_
  exact ⟨rfl, rfl⟩
def cS51 : zSt := zuR cS50 1 (va_up (zR cS50 1) 6 (some 14))
theorem cl51 : zCl cS51 := cl50.up (by decide +kernel)
def cS52 : zSt := zNew cS51 6 0
theorem cl52 : zCl cS52 := cl51.new
def cS53 : zSt := zNew cS52 14 160
theorem cl53 : zCl cS53 := cl52.new
def cS54 : zSt := zuR cS53 16 (va_up (zR cS53 16) 0 (some 17))
theorem cl54 : zCl cS54 := cl53.up (by decide +kernel)
def cS55 : zSt := zuX cS54 16 (upd (zX cS54 16) 1 (-1))
theorem cl55 : zCl cS55 := cl54.uX
def cS56 : zSt := zuX cS55 16 (upd (zX cS55 16) 2 (nI 0))
theorem cl56 : zCl cS56 := cl55.uX
def cS57 : zSt := zuX cS56 16 (upd (zX cS56 16) 3 (-1))
theorem cl57 : zCl cS57 := cl56.uX
theorem t_ctor_X6_init_16 : Dt mX6_init [.ref 16] cS52 none cS57 := by
  refine Dt.ofN (by decide) (Nat.le_of_ble_eq_true rfl) fun κ B Rt hn0 => ?_
  show Z κ 0 0 cS52 0 [(0, .ref 16)] []
  refine Z.aload_n B dX6_init_0 (v := .ref 16) rfl rfl ?_
  refine Z.objInit B dX6_init_1 kX6_3 (by decide) (Nat.le_of_ble_eq_true rfl) ?_
  refine Z.aload_n B dX6_init_4 (v := .ref 16) rfl rfl ?_
  refine Z.sipush B dX6_init_5 (v := nI 160) rfl ?_
  refine Z.newL (σ := cS52) B (n := 160) dX6_init_8 (by decide) cl52 (zallL (by decide +kernel)) (zallS (by decide +kernel)) (by rw [hn0]; decide +kernel) (by decide) (by decide) ?_
  show Z κ 1 160 cS53 10 [(0, .ref 16)] [.ref 17, .ref 16]
  refine Z.putFR (σ := cS53) B fX6_9_6 (ty := (.array .long)) ⟨_, _, _, rfl, rfl, by decide +kernel⟩ rfl ⟨_, _, _, rfl, rfl⟩ dX6_init_10 (by decide +kernel) (by decide +kernel) (by decide) (Or.inr ⟨_, rfl⟩) (j := 17) (τ := cS54) rfl ?_
  refine Z.aload_n B dX6_init_13 (v := .ref 16) rfl rfl ?_
  refine Z.iconst B dX6_init_14 (v := (-1)) rfl ?_
  refine Z.putI (σ := cS54) B fX6_15_6 (ty := .int) ⟨_, _, _, rfl, rfl, by decide +kernel⟩ dX6_init_15 (by decide +kernel) (by decide +kernel) (by decide) rfl rfl (τ := cS55) rfl ?_
  refine Z.aload_n B dX6_init_18 (v := .ref 16) rfl rfl ?_
  refine Z.iconst B dX6_init_19 (v := nI 0) rfl ?_
  refine Z.putI (σ := cS55) B fX6_19_6 (ty := .int) ⟨_, _, _, rfl, rfl, by decide +kernel⟩ dX6_init_20 (by decide +kernel) (by decide +kernel) (by decide) rfl rfl (τ := cS56) rfl ?_
  refine Z.aload_n B dX6_init_23 (v := .ref 16) rfl rfl ?_
  refine Z.iconst B dX6_init_24 (v := (-1)) rfl ?_
  refine Z.putI (σ := cS56) B fX6_22_6 (ty := .int) ⟨_, _, _, rfl, rfl, by decide +kernel⟩ dX6_init_25 (by decide +kernel) (by decide +kernel) (by decide) rfl rfl (τ := cS57) rfl ?_
  refine Z.vret B Rt dX6_init_28 rfl (by decide) (by decide) ?_
  exact ⟨rfl, rfl⟩
def cS58 : zSt := zuR cS57 1 (va_up (zR cS57 1) 7 (some 16))
theorem cl58 : zCl cS58 := cl57.up (by decide +kernel)
def cS59 : zSt := zNew cS58 8 0
theorem cl59 : zCl cS59 := cl58.new
def cS60 : zSt := zNew cS59 13 20
theorem cl60 : zCl cS60 := cl59.new
def cS61 : zSt := zuR cS60 18 (va_up (zR cS60 18) 0 (some 19))
theorem cl61 : zCl cS61 := cl60.up (by decide +kernel)
def cS62 : zSt := zuX cS61 18 (upd (zX cS61 18) 1 (nI 0))
theorem cl62 : zCl cS62 := cl61.uX
theorem t_ctor_X8_init_18 : Dt mX8_init [.ref 18] cS59 none cS62 := by
  refine Dt.ofN (by decide) (Nat.le_of_ble_eq_true rfl) fun κ B Rt hn0 => ?_
  show Z κ 0 0 cS59 0 [(0, .ref 18)] []
  refine Z.aload_n B dX8_init_0 (v := .ref 18) rfl rfl ?_
  refine Z.objInit B dX8_init_1 kX8_3 (by decide) (Nat.le_of_ble_eq_true rfl) ?_
  refine Z.aload_n B dX8_init_4 (v := .ref 18) rfl rfl ?_
  refine Z.bipush B dX8_init_5 (v := nI 20) rfl ?_
  refine Z.newI (σ := cS59) B (n := 20) dX8_init_7 (by decide) cl59 (zallL (by decide +kernel)) (zallS (by decide +kernel)) (by rw [hn0]; decide +kernel) (by decide) (by decide) ?_
  show Z κ 1 20 cS60 9 [(0, .ref 18)] [.ref 19, .ref 18]
  refine Z.putFR (σ := cS60) B fX8_9_8 (ty := (.array .int)) ⟨_, _, _, rfl, rfl, by decide +kernel⟩ rfl ⟨_, _, _, rfl, rfl⟩ dX8_init_9 (by decide +kernel) (by decide +kernel) (by decide) (Or.inr ⟨_, rfl⟩) (j := 19) (τ := cS61) rfl ?_
  refine Z.aload_n B dX8_init_12 (v := .ref 18) rfl rfl ?_
  refine Z.iconst B dX8_init_13 (v := nI 0) rfl ?_
  refine Z.putI (σ := cS61) B fX8_15_8 (ty := .int) ⟨_, _, _, rfl, rfl, by decide +kernel⟩ dX8_init_14 (by decide +kernel) (by decide +kernel) (by decide) rfl rfl (τ := cS62) rfl ?_
  refine Z.vret B Rt dX8_init_17 rfl (by decide) (by decide) ?_
  exact ⟨rfl, rfl⟩
def cS63 : zSt := zuR cS62 0 (va_up (zR cS62 0) 1 (some 18))
theorem cl63 : zCl cS63 := cl62.up (by decide +kernel)
def cS64 : zSt := zNew cS63 1 0
theorem cl64 : zCl cS64 := cl63.new
def cS65 : zSt := zuR cS64 20 (va_up (zR cS64 20) 0 (some 18))
theorem cl65 : zCl cS65 := cl64.up (by decide +kernel)
def cS66 : zSt := zNew cS65 13 48
theorem cl66 : zCl cS66 := cl65.new
def cS67 : zSt := zuR cS66 20 (va_up (zR cS66 20) 1 (some 21))
theorem cl67 : zCl cS67 := cl66.up (by decide +kernel)
def cS68 : zSt := zNew cS67 13 12
theorem cl68 : zCl cS68 := cl67.new
def cS69 : zSt := zuR cS68 20 (va_up (zR cS68 20) 3 (some 22))
theorem cl69 : zCl cS69 := cl68.up (by decide +kernel)
def cS70 : zSt := zNew cS69 13 4
theorem cl70 : zCl cS70 := cl69.new
def cS71 : zSt := zuR cS70 20 (va_up (zR cS70 20) 4 (some 23))
theorem cl71 : zCl cS71 := cl70.up (by decide +kernel)
def cS72 : zSt := zNew cS71 16 8
theorem cl72 : zCl cS72 := cl71.new
def cS73 : zSt := zuR cS72 20 (va_up (zR cS72 20) 6 (some 24))
theorem cl73 : zCl cS73 := cl72.up (by decide +kernel)
def cS74 : zSt := zNew cS73 13 8
theorem cl74 : zCl cS74 := cl73.new
def cS75 : zSt := zuR cS74 20 (va_up (zR cS74 20) 9 (some 25))
theorem cl75 : zCl cS75 := cl74.up (by decide +kernel)
def cS76 : zSt := zNew cS75 13 8
theorem cl76 : zCl cS76 := cl75.new
def cS77 : zSt := zuR cS76 20 (va_up (zR cS76 20) 10 (some 26))
theorem cl77 : zCl cS77 := cl76.up (by decide +kernel)
def cS78 : zSt := zuX cS77 20 (upd (zX cS77 20) 2 (nI 0))
theorem cl78 : zCl cS78 := cl77.uX
def cS79 : zSt := zuX cS78 20 (upd (zX cS78 20) 5 (nI 0))
theorem cl79 : zCl cS79 := cl78.uX
def cS80 : zSt := zuX cS79 20 (upd (zX cS79 20) 7 (nI 0))
theorem cl80 : zCl cS80 := cl79.uX
def cS81 : zSt := zuX cS80 20 (upd (zX cS80 20) 8 (nI 1))
theorem cl81 : zCl cS81 := cl80.uX
theorem t_ctor_X1_init_20 : Dt mX1_init [.ref 20, .ref 18] cS64 none cS81 := by
  refine Dt.ofN (by decide) (Nat.le_of_ble_eq_true rfl) fun κ B Rt hn0 => ?_
  show Z κ 0 0 cS64 0 [(0, .ref 20), (1, .ref 18)] []
  refine Z.aload_n B dX1_init_0 (v := .ref 20) rfl rfl ?_
  refine Z.objInit B dX1_init_1 kX1_3 (by decide) (Nat.le_of_ble_eq_true rfl) ?_
  refine Z.aload_n B dX1_init_4 (v := .ref 20) rfl rfl ?_
  refine Z.aload_n B dX1_init_5 (v := .ref 18) rfl rfl ?_
  refine Z.putFR (σ := cS64) B fX1_9_1 (ty := (.object "FourAskOne$Trace")) ⟨_, _, _, rfl, rfl, by decide +kernel⟩ rfl ⟨_, _, _, rfl, rfl⟩ dX1_init_6 (by decide +kernel) (by decide +kernel) (by decide) (Or.inl ⟨_, rfl⟩) (j := 18) (τ := cS65) rfl ?_
  refine Z.aload_n B dX1_init_9 (v := .ref 20) rfl rfl ?_
  refine Z.bipush B dX1_init_10 (v := nI 48) rfl ?_
  refine Z.newI (σ := cS65) B (n := 48) dX1_init_12 (by decide) cl65 (zallL (by decide +kernel)) (zallS (by decide +kernel)) (by rw [hn0]; decide +kernel) (by decide) (by decide) ?_
  show Z κ 1 48 cS66 14 [(0, .ref 20), (1, .ref 18)] [.ref 21, .ref 20]
  refine Z.putFR (σ := cS66) B fX1_15_1 (ty := (.array .int)) ⟨_, _, _, rfl, rfl, by decide +kernel⟩ rfl ⟨_, _, _, rfl, rfl⟩ dX1_init_14 (by decide +kernel) (by decide +kernel) (by decide) (Or.inr ⟨_, rfl⟩) (j := 21) (τ := cS67) rfl ?_
  refine Z.aload_n B dX1_init_17 (v := .ref 20) rfl rfl ?_
  refine Z.bipush B dX1_init_18 (v := nI 12) rfl ?_
  refine Z.newI (σ := cS67) B (n := 12) dX1_init_20 (by decide) cl67 (zallL (by decide +kernel)) (zallS (by decide +kernel)) (by rw [hn0]; decide +kernel) (by decide) (by decide) ?_
  show Z κ 2 60 cS68 22 [(0, .ref 20), (1, .ref 18)] [.ref 22, .ref 20]
  refine Z.putFR (σ := cS68) B fX1_19_1 (ty := (.array .int)) ⟨_, _, _, rfl, rfl, by decide +kernel⟩ rfl ⟨_, _, _, rfl, rfl⟩ dX1_init_22 (by decide +kernel) (by decide +kernel) (by decide) (Or.inr ⟨_, rfl⟩) (j := 22) (τ := cS69) rfl ?_
  refine Z.aload_n B dX1_init_25 (v := .ref 20) rfl rfl ?_
  refine Z.iconst B dX1_init_26 (v := nI 4) rfl ?_
  refine Z.newI (σ := cS69) B (n := 4) dX1_init_27 (by decide) cl69 (zallL (by decide +kernel)) (zallS (by decide +kernel)) (by rw [hn0]; decide +kernel) (by decide) (by decide) ?_
  show Z κ 3 64 cS70 29 [(0, .ref 20), (1, .ref 18)] [.ref 23, .ref 20]
  refine Z.putFR (σ := cS70) B fX1_22_1 (ty := (.array .int)) ⟨_, _, _, rfl, rfl, by decide +kernel⟩ rfl ⟨_, _, _, rfl, rfl⟩ dX1_init_29 (by decide +kernel) (by decide +kernel) (by decide) (Or.inr ⟨_, rfl⟩) (j := 23) (τ := cS71) rfl ?_
  refine Z.aload_n B dX1_init_32 (v := .ref 20) rfl rfl ?_
  refine Z.bipush B dX1_init_33 (v := nI 8) rfl ?_
  refine Z.newY (σ := cS71) B (n := 8) dX1_init_35 (zT_at 131 (by decide +kernel) rfl) (by decide) cl71 (zallL (by decide +kernel)) (zallS (by decide +kernel)) (by rw [hn0]; decide +kernel) (by decide) (by decide) ?_
  show Z κ 4 72 cS72 38 [(0, .ref 20), (1, .ref 18)] [.ref 24, .ref 20]
  refine Z.putFR (σ := cS72) B fX1_27_1 (ty := (.array (.object "FourAskOne$Way"))) ⟨_, _, _, rfl, rfl, by decide +kernel⟩ rfl ⟨_, _, _, rfl, rfl⟩ dX1_init_38 (by decide +kernel) (by decide +kernel) (by decide) (Or.inr ⟨_, rfl⟩) (j := 24) (τ := cS73) rfl ?_
  refine Z.aload_n B dX1_init_41 (v := .ref 20) rfl rfl ?_
  refine Z.bipush B dX1_init_42 (v := nI 8) rfl ?_
  refine Z.newI (σ := cS73) B (n := 8) dX1_init_44 (by decide) cl73 (zallL (by decide +kernel)) (zallS (by decide +kernel)) (by rw [hn0]; decide +kernel) (by decide) (by decide) ?_
  show Z κ 5 80 cS74 46 [(0, .ref 20), (1, .ref 18)] [.ref 25, .ref 20]
  refine Z.putFR (σ := cS74) B fX1_31_1 (ty := (.array .int)) ⟨_, _, _, rfl, rfl, by decide +kernel⟩ rfl ⟨_, _, _, rfl, rfl⟩ dX1_init_46 (by decide +kernel) (by decide +kernel) (by decide) (Or.inr ⟨_, rfl⟩) (j := 25) (τ := cS75) rfl ?_
  refine Z.aload_n B dX1_init_49 (v := .ref 20) rfl rfl ?_
  refine Z.bipush B dX1_init_50 (v := nI 8) rfl ?_
  refine Z.newI (σ := cS75) B (n := 8) dX1_init_52 (by decide) cl75 (zallL (by decide +kernel)) (zallS (by decide +kernel)) (by rw [hn0]; decide +kernel) (by decide) (by decide) ?_
  show Z κ 6 88 cS76 54 [(0, .ref 20), (1, .ref 18)] [.ref 26, .ref 20]
  refine Z.putFR (σ := cS76) B fX1_34_1 (ty := (.array .int)) ⟨_, _, _, rfl, rfl, by decide +kernel⟩ rfl ⟨_, _, _, rfl, rfl⟩ dX1_init_54 (by decide +kernel) (by decide +kernel) (by decide) (Or.inr ⟨_, rfl⟩) (j := 26) (τ := cS77) rfl ?_
  refine Z.aload_n B dX1_init_57 (v := .ref 20) rfl rfl ?_
  refine Z.iconst B dX1_init_58 (v := nI 0) rfl ?_
  refine Z.putI (σ := cS77) B fX1_37_1 (ty := .int) ⟨_, _, _, rfl, rfl, by decide +kernel⟩ dX1_init_59 (by decide +kernel) (by decide +kernel) (by decide) rfl rfl (τ := cS78) rfl ?_
  refine Z.aload_n B dX1_init_62 (v := .ref 20) rfl rfl ?_
  refine Z.iconst B dX1_init_63 (v := nI 0) rfl ?_
  refine Z.putI (σ := cS78) B fX1_41_1 (ty := .int) ⟨_, _, _, rfl, rfl, by decide +kernel⟩ dX1_init_64 (by decide +kernel) (by decide +kernel) (by decide) rfl rfl (τ := cS79) rfl ?_
  refine Z.aload_n B dX1_init_67 (v := .ref 20) rfl rfl ?_
  refine Z.iconst B dX1_init_68 (v := nI 0) rfl ?_
  refine Z.putI (σ := cS79) B fX1_44_1 (ty := .int) ⟨_, _, _, rfl, rfl, by decide +kernel⟩ dX1_init_69 (by decide +kernel) (by decide +kernel) (by decide) rfl rfl (τ := cS80) rfl ?_
  refine Z.aload_n B dX1_init_72 (v := .ref 20) rfl rfl ?_
  refine Z.iconst B dX1_init_73 (v := nI 1) rfl ?_
  refine Z.putI (σ := cS80) B fX1_47_1 (ty := .int) ⟨_, _, _, rfl, rfl, by decide +kernel⟩ dX1_init_74 (by decide +kernel) (by decide +kernel) (by decide) rfl rfl (τ := cS81) rfl ?_
  refine Z.vret B Rt dX1_init_77 rfl (by decide) (by decide) ?_
  exact ⟨rfl, rfl⟩
def cS82 : zSt := zuR cS81 0 (va_up (zR cS81 0) 2 (some 20))
theorem cl82 : zCl cS82 := cl81.up (by decide +kernel)
def cS83 : zSt := zNew cS82 1 0
theorem cl83 : zCl cS83 := cl82.new
def cS84 : zSt := zuR cS83 27 (va_up (zR cS83 27) 0 (some 18))
theorem cl84 : zCl cS84 := cl83.up (by decide +kernel)
def cS85 : zSt := zNew cS84 13 48
theorem cl85 : zCl cS85 := cl84.new
def cS86 : zSt := zuR cS85 27 (va_up (zR cS85 27) 1 (some 28))
theorem cl86 : zCl cS86 := cl85.up (by decide +kernel)
def cS87 : zSt := zNew cS86 13 12
theorem cl87 : zCl cS87 := cl86.new
def cS88 : zSt := zuR cS87 27 (va_up (zR cS87 27) 3 (some 29))
theorem cl88 : zCl cS88 := cl87.up (by decide +kernel)
def cS89 : zSt := zNew cS88 13 4
theorem cl89 : zCl cS89 := cl88.new
def cS90 : zSt := zuR cS89 27 (va_up (zR cS89 27) 4 (some 30))
theorem cl90 : zCl cS90 := cl89.up (by decide +kernel)
def cS91 : zSt := zNew cS90 16 8
theorem cl91 : zCl cS91 := cl90.new
def cS92 : zSt := zuR cS91 27 (va_up (zR cS91 27) 6 (some 31))
theorem cl92 : zCl cS92 := cl91.up (by decide +kernel)
def cS93 : zSt := zNew cS92 13 8
theorem cl93 : zCl cS93 := cl92.new
def cS94 : zSt := zuR cS93 27 (va_up (zR cS93 27) 9 (some 32))
theorem cl94 : zCl cS94 := cl93.up (by decide +kernel)
def cS95 : zSt := zNew cS94 13 8
theorem cl95 : zCl cS95 := cl94.new
def cS96 : zSt := zuR cS95 27 (va_up (zR cS95 27) 10 (some 33))
theorem cl96 : zCl cS96 := cl95.up (by decide +kernel)
def cS97 : zSt := zuX cS96 27 (upd (zX cS96 27) 2 (nI 0))
theorem cl97 : zCl cS97 := cl96.uX
def cS98 : zSt := zuX cS97 27 (upd (zX cS97 27) 5 (nI 0))
theorem cl98 : zCl cS98 := cl97.uX
def cS99 : zSt := zuX cS98 27 (upd (zX cS98 27) 7 (nI 0))
theorem cl99 : zCl cS99 := cl98.uX
def cS100 : zSt := zuX cS99 27 (upd (zX cS99 27) 8 (nI 1))
theorem cl100 : zCl cS100 := cl99.uX
theorem t_ctor_X1_init_27 : Dt mX1_init [.ref 27, .ref 18] cS83 none cS100 := by
  refine Dt.ofN (by decide) (Nat.le_of_ble_eq_true rfl) fun κ B Rt hn0 => ?_
  show Z κ 0 0 cS83 0 [(0, .ref 27), (1, .ref 18)] []
  refine Z.aload_n B dX1_init_0 (v := .ref 27) rfl rfl ?_
  refine Z.objInit B dX1_init_1 kX1_3 (by decide) (Nat.le_of_ble_eq_true rfl) ?_
  refine Z.aload_n B dX1_init_4 (v := .ref 27) rfl rfl ?_
  refine Z.aload_n B dX1_init_5 (v := .ref 18) rfl rfl ?_
  refine Z.putFR (σ := cS83) B fX1_9_1 (ty := (.object "FourAskOne$Trace")) ⟨_, _, _, rfl, rfl, by decide +kernel⟩ rfl ⟨_, _, _, rfl, rfl⟩ dX1_init_6 (by decide +kernel) (by decide +kernel) (by decide) (Or.inl ⟨_, rfl⟩) (j := 18) (τ := cS84) rfl ?_
  refine Z.aload_n B dX1_init_9 (v := .ref 27) rfl rfl ?_
  refine Z.bipush B dX1_init_10 (v := nI 48) rfl ?_
  refine Z.newI (σ := cS84) B (n := 48) dX1_init_12 (by decide) cl84 (zallL (by decide +kernel)) (zallS (by decide +kernel)) (by rw [hn0]; decide +kernel) (by decide) (by decide) ?_
  show Z κ 1 48 cS85 14 [(0, .ref 27), (1, .ref 18)] [.ref 28, .ref 27]
  refine Z.putFR (σ := cS85) B fX1_15_1 (ty := (.array .int)) ⟨_, _, _, rfl, rfl, by decide +kernel⟩ rfl ⟨_, _, _, rfl, rfl⟩ dX1_init_14 (by decide +kernel) (by decide +kernel) (by decide) (Or.inr ⟨_, rfl⟩) (j := 28) (τ := cS86) rfl ?_
  refine Z.aload_n B dX1_init_17 (v := .ref 27) rfl rfl ?_
  refine Z.bipush B dX1_init_18 (v := nI 12) rfl ?_
  refine Z.newI (σ := cS86) B (n := 12) dX1_init_20 (by decide) cl86 (zallL (by decide +kernel)) (zallS (by decide +kernel)) (by rw [hn0]; decide +kernel) (by decide) (by decide) ?_
  show Z κ 2 60 cS87 22 [(0, .ref 27), (1, .ref 18)] [.ref 29, .ref 27]
  refine Z.putFR (σ := cS87) B fX1_19_1 (ty := (.array .int)) ⟨_, _, _, rfl, rfl, by decide +kernel⟩ rfl ⟨_, _, _, rfl, rfl⟩ dX1_init_22 (by decide +kernel) (by decide +kernel) (by decide) (Or.inr ⟨_, rfl⟩) (j := 29) (τ := cS88) rfl ?_
  refine Z.aload_n B dX1_init_25 (v := .ref 27) rfl rfl ?_
  refine Z.iconst B dX1_init_26 (v := nI 4) rfl ?_
  refine Z.newI (σ := cS88) B (n := 4) dX1_init_27 (by decide) cl88 (zallL (by decide +kernel)) (zallS (by decide +kernel)) (by rw [hn0]; decide +kernel) (by decide) (by decide) ?_
  show Z κ 3 64 cS89 29 [(0, .ref 27), (1, .ref 18)] [.ref 30, .ref 27]
  refine Z.putFR (σ := cS89) B fX1_22_1 (ty := (.array .int)) ⟨_, _, _, rfl, rfl, by decide +kernel⟩ rfl ⟨_, _, _, rfl, rfl⟩ dX1_init_29 (by decide +kernel) (by decide +kernel) (by decide) (Or.inr ⟨_, rfl⟩) (j := 30) (τ := cS90) rfl ?_
  refine Z.aload_n B dX1_init_32 (v := .ref 27) rfl rfl ?_
  refine Z.bipush B dX1_init_33 (v := nI 8) rfl ?_
  refine Z.newY (σ := cS90) B (n := 8) dX1_init_35 (zT_at 131 (by decide +kernel) rfl) (by decide) cl90 (zallL (by decide +kernel)) (zallS (by decide +kernel)) (by rw [hn0]; decide +kernel) (by decide) (by decide) ?_
  show Z κ 4 72 cS91 38 [(0, .ref 27), (1, .ref 18)] [.ref 31, .ref 27]
  refine Z.putFR (σ := cS91) B fX1_27_1 (ty := (.array (.object "FourAskOne$Way"))) ⟨_, _, _, rfl, rfl, by decide +kernel⟩ rfl ⟨_, _, _, rfl, rfl⟩ dX1_init_38 (by decide +kernel) (by decide +kernel) (by decide) (Or.inr ⟨_, rfl⟩) (j := 31) (τ := cS92) rfl ?_
  refine Z.aload_n B dX1_init_41 (v := .ref 27) rfl rfl ?_
  refine Z.bipush B dX1_init_42 (v := nI 8) rfl ?_
  refine Z.newI (σ := cS92) B (n := 8) dX1_init_44 (by decide) cl92 (zallL (by decide +kernel)) (zallS (by decide +kernel)) (by rw [hn0]; decide +kernel) (by decide) (by decide) ?_
  show Z κ 5 80 cS93 46 [(0, .ref 27), (1, .ref 18)] [.ref 32, .ref 27]
  refine Z.putFR (σ := cS93) B fX1_31_1 (ty := (.array .int)) ⟨_, _, _, rfl, rfl, by decide +kernel⟩ rfl ⟨_, _, _, rfl, rfl⟩ dX1_init_46 (by decide +kernel) (by decide +kernel) (by decide) (Or.inr ⟨_, rfl⟩) (j := 32) (τ := cS94) rfl ?_
  refine Z.aload_n B dX1_init_49 (v := .ref 27) rfl rfl ?_
  refine Z.bipush B dX1_init_50 (v := nI 8) rfl ?_
  refine Z.newI (σ := cS94) B (n := 8) dX1_init_52 (by decide) cl94 (zallL (by decide +kernel)) (zallS (by decide +kernel)) (by rw [hn0]; decide +kernel) (by decide) (by decide) ?_
  show Z κ 6 88 cS95 54 [(0, .ref 27), (1, .ref 18)] [.ref 33, .ref 27]
  refine Z.putFR (σ := cS95) B fX1_34_1 (ty := (.array .int)) ⟨_, _, _, rfl, rfl, by decide +kernel⟩ rfl ⟨_, _, _, rfl, rfl⟩ dX1_init_54 (by decide +kernel) (by decide +kernel) (by decide) (Or.inr ⟨_, rfl⟩) (j := 33) (τ := cS96) rfl ?_
  refine Z.aload_n B dX1_init_57 (v := .ref 27) rfl rfl ?_
  refine Z.iconst B dX1_init_58 (v := nI 0) rfl ?_
  refine Z.putI (σ := cS96) B fX1_37_1 (ty := .int) ⟨_, _, _, rfl, rfl, by decide +kernel⟩ dX1_init_59 (by decide +kernel) (by decide +kernel) (by decide) rfl rfl (τ := cS97) rfl ?_
  refine Z.aload_n B dX1_init_62 (v := .ref 27) rfl rfl ?_
  refine Z.iconst B dX1_init_63 (v := nI 0) rfl ?_
  refine Z.putI (σ := cS97) B fX1_41_1 (ty := .int) ⟨_, _, _, rfl, rfl, by decide +kernel⟩ dX1_init_64 (by decide +kernel) (by decide +kernel) (by decide) rfl rfl (τ := cS98) rfl ?_
  refine Z.aload_n B dX1_init_67 (v := .ref 27) rfl rfl ?_
  refine Z.iconst B dX1_init_68 (v := nI 0) rfl ?_
  refine Z.putI (σ := cS98) B fX1_44_1 (ty := .int) ⟨_, _, _, rfl, rfl, by decide +kernel⟩ dX1_init_69 (by decide +kernel) (by decide +kernel) (by decide) rfl rfl (τ := cS99) rfl ?_
  refine Z.aload_n B dX1_init_72 (v := .ref 27) rfl rfl ?_
  refine Z.iconst B dX1_init_73 (v := nI 1) rfl ?_
  refine Z.putI (σ := cS99) B fX1_47_1 (ty := .int) ⟨_, _, _, rfl, rfl, by decide +kernel⟩ dX1_init_74 (by decide +kernel) (by decide +kernel) (by decide) rfl rfl (τ := cS100) rfl ?_
  refine Z.vret B Rt dX1_init_77 rfl (by decide) (by decide) ?_
  exact ⟨rfl, rfl⟩
def cS101 : zSt := zuR cS100 0 (va_up (zR cS100 0) 3 (some 27))
theorem cl101 : zCl cS101 := cl100.up (by decide +kernel)
def cS102 : zSt := zNew cS101 2 0
theorem cl102 : zCl cS102 := cl101.new
def cS103 : zSt := zNew cS102 1 0
theorem cl103 : zCl cS103 := cl102.new
def cS104 : zSt := zuR cS103 35 (va_up (zR cS103 35) 0 (some 18))
theorem cl104 : zCl cS104 := cl103.up (by decide +kernel)
def cS105 : zSt := zNew cS104 13 48
theorem cl105 : zCl cS105 := cl104.new
def cS106 : zSt := zuR cS105 35 (va_up (zR cS105 35) 1 (some 36))
theorem cl106 : zCl cS106 := cl105.up (by decide +kernel)
def cS107 : zSt := zNew cS106 13 12
theorem cl107 : zCl cS107 := cl106.new
def cS108 : zSt := zuR cS107 35 (va_up (zR cS107 35) 3 (some 37))
theorem cl108 : zCl cS108 := cl107.up (by decide +kernel)
def cS109 : zSt := zNew cS108 13 4
theorem cl109 : zCl cS109 := cl108.new
def cS110 : zSt := zuR cS109 35 (va_up (zR cS109 35) 4 (some 38))
theorem cl110 : zCl cS110 := cl109.up (by decide +kernel)
def cS111 : zSt := zNew cS110 16 8
theorem cl111 : zCl cS111 := cl110.new
def cS112 : zSt := zuR cS111 35 (va_up (zR cS111 35) 6 (some 39))
theorem cl112 : zCl cS112 := cl111.up (by decide +kernel)
def cS113 : zSt := zNew cS112 13 8
theorem cl113 : zCl cS113 := cl112.new
def cS114 : zSt := zuR cS113 35 (va_up (zR cS113 35) 9 (some 40))
theorem cl114 : zCl cS114 := cl113.up (by decide +kernel)
def cS115 : zSt := zNew cS114 13 8
theorem cl115 : zCl cS115 := cl114.new
def cS116 : zSt := zuR cS115 35 (va_up (zR cS115 35) 10 (some 41))
theorem cl116 : zCl cS116 := cl115.up (by decide +kernel)
def cS117 : zSt := zuX cS116 35 (upd (zX cS116 35) 2 (nI 0))
theorem cl117 : zCl cS117 := cl116.uX
def cS118 : zSt := zuX cS117 35 (upd (zX cS117 35) 5 (nI 0))
theorem cl118 : zCl cS118 := cl117.uX
def cS119 : zSt := zuX cS118 35 (upd (zX cS118 35) 7 (nI 0))
theorem cl119 : zCl cS119 := cl118.uX
def cS120 : zSt := zuX cS119 35 (upd (zX cS119 35) 8 (nI 1))
theorem cl120 : zCl cS120 := cl119.uX
theorem t_ctor_X1_init_35 : Dt mX1_init [.ref 35, .ref 18] cS103 none cS120 := by
  refine Dt.ofN (by decide) (Nat.le_of_ble_eq_true rfl) fun κ B Rt hn0 => ?_
  show Z κ 0 0 cS103 0 [(0, .ref 35), (1, .ref 18)] []
  refine Z.aload_n B dX1_init_0 (v := .ref 35) rfl rfl ?_
  refine Z.objInit B dX1_init_1 kX1_3 (by decide) (Nat.le_of_ble_eq_true rfl) ?_
  refine Z.aload_n B dX1_init_4 (v := .ref 35) rfl rfl ?_
  refine Z.aload_n B dX1_init_5 (v := .ref 18) rfl rfl ?_
  refine Z.putFR (σ := cS103) B fX1_9_1 (ty := (.object "FourAskOne$Trace")) ⟨_, _, _, rfl, rfl, by decide +kernel⟩ rfl ⟨_, _, _, rfl, rfl⟩ dX1_init_6 (by decide +kernel) (by decide +kernel) (by decide) (Or.inl ⟨_, rfl⟩) (j := 18) (τ := cS104) rfl ?_
  refine Z.aload_n B dX1_init_9 (v := .ref 35) rfl rfl ?_
  refine Z.bipush B dX1_init_10 (v := nI 48) rfl ?_
  refine Z.newI (σ := cS104) B (n := 48) dX1_init_12 (by decide) cl104 (zallL (by decide +kernel)) (zallS (by decide +kernel)) (by rw [hn0]; decide +kernel) (by decide) (by decide) ?_
  show Z κ 1 48 cS105 14 [(0, .ref 35), (1, .ref 18)] [.ref 36, .ref 35]
  refine Z.putFR (σ := cS105) B fX1_15_1 (ty := (.array .int)) ⟨_, _, _, rfl, rfl, by decide +kernel⟩ rfl ⟨_, _, _, rfl, rfl⟩ dX1_init_14 (by decide +kernel) (by decide +kernel) (by decide) (Or.inr ⟨_, rfl⟩) (j := 36) (τ := cS106) rfl ?_
  refine Z.aload_n B dX1_init_17 (v := .ref 35) rfl rfl ?_
  refine Z.bipush B dX1_init_18 (v := nI 12) rfl ?_
  refine Z.newI (σ := cS106) B (n := 12) dX1_init_20 (by decide) cl106 (zallL (by decide +kernel)) (zallS (by decide +kernel)) (by rw [hn0]; decide +kernel) (by decide) (by decide) ?_
  show Z κ 2 60 cS107 22 [(0, .ref 35), (1, .ref 18)] [.ref 37, .ref 35]
  refine Z.putFR (σ := cS107) B fX1_19_1 (ty := (.array .int)) ⟨_, _, _, rfl, rfl, by decide +kernel⟩ rfl ⟨_, _, _, rfl, rfl⟩ dX1_init_22 (by decide +kernel) (by decide +kernel) (by decide) (Or.inr ⟨_, rfl⟩) (j := 37) (τ := cS108) rfl ?_
  refine Z.aload_n B dX1_init_25 (v := .ref 35) rfl rfl ?_
  refine Z.iconst B dX1_init_26 (v := nI 4) rfl ?_
  refine Z.newI (σ := cS108) B (n := 4) dX1_init_27 (by decide) cl108 (zallL (by decide +kernel)) (zallS (by decide +kernel)) (by rw [hn0]; decide +kernel) (by decide) (by decide) ?_
  show Z κ 3 64 cS109 29 [(0, .ref 35), (1, .ref 18)] [.ref 38, .ref 35]
  refine Z.putFR (σ := cS109) B fX1_22_1 (ty := (.array .int)) ⟨_, _, _, rfl, rfl, by decide +kernel⟩ rfl ⟨_, _, _, rfl, rfl⟩ dX1_init_29 (by decide +kernel) (by decide +kernel) (by decide) (Or.inr ⟨_, rfl⟩) (j := 38) (τ := cS110) rfl ?_
  refine Z.aload_n B dX1_init_32 (v := .ref 35) rfl rfl ?_
  refine Z.bipush B dX1_init_33 (v := nI 8) rfl ?_
  refine Z.newY (σ := cS110) B (n := 8) dX1_init_35 (zT_at 131 (by decide +kernel) rfl) (by decide) cl110 (zallL (by decide +kernel)) (zallS (by decide +kernel)) (by rw [hn0]; decide +kernel) (by decide) (by decide) ?_
  show Z κ 4 72 cS111 38 [(0, .ref 35), (1, .ref 18)] [.ref 39, .ref 35]
  refine Z.putFR (σ := cS111) B fX1_27_1 (ty := (.array (.object "FourAskOne$Way"))) ⟨_, _, _, rfl, rfl, by decide +kernel⟩ rfl ⟨_, _, _, rfl, rfl⟩ dX1_init_38 (by decide +kernel) (by decide +kernel) (by decide) (Or.inr ⟨_, rfl⟩) (j := 39) (τ := cS112) rfl ?_
  refine Z.aload_n B dX1_init_41 (v := .ref 35) rfl rfl ?_
  refine Z.bipush B dX1_init_42 (v := nI 8) rfl ?_
  refine Z.newI (σ := cS112) B (n := 8) dX1_init_44 (by decide) cl112 (zallL (by decide +kernel)) (zallS (by decide +kernel)) (by rw [hn0]; decide +kernel) (by decide) (by decide) ?_
  show Z κ 5 80 cS113 46 [(0, .ref 35), (1, .ref 18)] [.ref 40, .ref 35]
  refine Z.putFR (σ := cS113) B fX1_31_1 (ty := (.array .int)) ⟨_, _, _, rfl, rfl, by decide +kernel⟩ rfl ⟨_, _, _, rfl, rfl⟩ dX1_init_46 (by decide +kernel) (by decide +kernel) (by decide) (Or.inr ⟨_, rfl⟩) (j := 40) (τ := cS114) rfl ?_
  refine Z.aload_n B dX1_init_49 (v := .ref 35) rfl rfl ?_
  refine Z.bipush B dX1_init_50 (v := nI 8) rfl ?_
  refine Z.newI (σ := cS114) B (n := 8) dX1_init_52 (by decide) cl114 (zallL (by decide +kernel)) (zallS (by decide +kernel)) (by rw [hn0]; decide +kernel) (by decide) (by decide) ?_
  show Z κ 6 88 cS115 54 [(0, .ref 35), (1, .ref 18)] [.ref 41, .ref 35]
  refine Z.putFR (σ := cS115) B fX1_34_1 (ty := (.array .int)) ⟨_, _, _, rfl, rfl, by decide +kernel⟩ rfl ⟨_, _, _, rfl, rfl⟩ dX1_init_54 (by decide +kernel) (by decide +kernel) (by decide) (Or.inr ⟨_, rfl⟩) (j := 41) (τ := cS116) rfl ?_
  refine Z.aload_n B dX1_init_57 (v := .ref 35) rfl rfl ?_
  refine Z.iconst B dX1_init_58 (v := nI 0) rfl ?_
  refine Z.putI (σ := cS116) B fX1_37_1 (ty := .int) ⟨_, _, _, rfl, rfl, by decide +kernel⟩ dX1_init_59 (by decide +kernel) (by decide +kernel) (by decide) rfl rfl (τ := cS117) rfl ?_
  refine Z.aload_n B dX1_init_62 (v := .ref 35) rfl rfl ?_
  refine Z.iconst B dX1_init_63 (v := nI 0) rfl ?_
  refine Z.putI (σ := cS117) B fX1_41_1 (ty := .int) ⟨_, _, _, rfl, rfl, by decide +kernel⟩ dX1_init_64 (by decide +kernel) (by decide +kernel) (by decide) rfl rfl (τ := cS118) rfl ?_
  refine Z.aload_n B dX1_init_67 (v := .ref 35) rfl rfl ?_
  refine Z.iconst B dX1_init_68 (v := nI 0) rfl ?_
  refine Z.putI (σ := cS118) B fX1_44_1 (ty := .int) ⟨_, _, _, rfl, rfl, by decide +kernel⟩ dX1_init_69 (by decide +kernel) (by decide +kernel) (by decide) rfl rfl (τ := cS119) rfl ?_
  refine Z.aload_n B dX1_init_72 (v := .ref 35) rfl rfl ?_
  refine Z.iconst B dX1_init_73 (v := nI 1) rfl ?_
  refine Z.putI (σ := cS119) B fX1_47_1 (ty := .int) ⟨_, _, _, rfl, rfl, by decide +kernel⟩ dX1_init_74 (by decide +kernel) (by decide +kernel) (by decide) rfl rfl (τ := cS120) rfl ?_
  refine Z.vret B Rt dX1_init_77 rfl (by decide) (by decide) ?_
  exact ⟨rfl, rfl⟩
def cS121 : zSt := zuR cS120 34 (va_up (zR cS120 34) 0 (some 35))
theorem cl121 : zCl cS121 := cl120.up (by decide +kernel)
def cS122 : zSt := zNew cS121 13 6
theorem cl122 : zCl cS122 := cl121.new
def cS123 : zSt := zuR cS122 34 (va_up (zR cS122 34) 1 (some 42))
theorem cl123 : zCl cS123 := cl122.up (by decide +kernel)
def cS124 : zSt := zuX cS123 34 (upd (zX cS123 34) 2 (nI 0))
theorem cl124 : zCl cS124 := cl123.uX
def cS125 : zSt := zuX cS124 34 (upd (zX cS124 34) 3 (-1))
theorem cl125 : zCl cS125 := cl124.uX
theorem t_ctor_X2_init_34 : Dt mX2_init [.ref 34, .ref 35] cS120 none cS125 := by
  refine Dt.ofN (by decide) (Nat.le_of_ble_eq_true rfl) fun κ B Rt hn0 => ?_
  show Z κ 0 0 cS120 0 [(0, .ref 34), (1, .ref 35)] []
  refine Z.aload_n B dX2_init_0 (v := .ref 34) rfl rfl ?_
  refine Z.objInit B dX2_init_1 kX2_3 (by decide) (Nat.le_of_ble_eq_true rfl) ?_
  refine Z.aload_n B dX2_init_4 (v := .ref 34) rfl rfl ?_
  refine Z.aload_n B dX2_init_5 (v := .ref 35) rfl rfl ?_
  refine Z.putFR (σ := cS120) B fX2_9_2 (ty := (.object "FourAskOne$House")) ⟨_, _, _, rfl, rfl, by decide +kernel⟩ rfl ⟨_, _, _, rfl, rfl⟩ dX2_init_6 (by decide +kernel) (by decide +kernel) (by decide) (Or.inl ⟨_, rfl⟩) (j := 35) (τ := cS121) rfl ?_
  refine Z.aload_n B dX2_init_9 (v := .ref 34) rfl rfl ?_
  refine Z.bipush B dX2_init_10 (v := nI 6) rfl ?_
  refine Z.newI (σ := cS121) B (n := 6) dX2_init_12 (by decide) cl121 (zallL (by decide +kernel)) (zallS (by decide +kernel)) (by rw [hn0]; decide +kernel) (by decide) (by decide) ?_
  show Z κ 1 6 cS122 14 [(0, .ref 34), (1, .ref 35)] [.ref 42, .ref 34]
  refine Z.putFR (σ := cS122) B fX2_15_2 (ty := (.array .int)) ⟨_, _, _, rfl, rfl, by decide +kernel⟩ rfl ⟨_, _, _, rfl, rfl⟩ dX2_init_14 (by decide +kernel) (by decide +kernel) (by decide) (Or.inr ⟨_, rfl⟩) (j := 42) (τ := cS123) rfl ?_
  refine Z.aload_n B dX2_init_17 (v := .ref 34) rfl rfl ?_
  refine Z.iconst B dX2_init_18 (v := nI 0) rfl ?_
  refine Z.putI (σ := cS123) B fX2_19_2 (ty := .int) ⟨_, _, _, rfl, rfl, by decide +kernel⟩ dX2_init_19 (by decide +kernel) (by decide +kernel) (by decide) rfl rfl (τ := cS124) rfl ?_
  refine Z.aload_n B dX2_init_22 (v := .ref 34) rfl rfl ?_
  refine Z.iconst B dX2_init_23 (v := (-1)) rfl ?_
  refine Z.putI (σ := cS124) B fX2_23_2 (ty := .int) ⟨_, _, _, rfl, rfl, by decide +kernel⟩ dX2_init_24 (by decide +kernel) (by decide +kernel) (by decide) rfl rfl (τ := cS125) rfl ?_
  refine Z.vret B Rt dX2_init_27 rfl (by decide) (by decide) ?_
  exact ⟨rfl, rfl⟩
def cS126 : zSt := zuR cS125 0 (va_up (zR cS125 0) 4 (some 34))
theorem cl126 : zCl cS126 := cl125.up (by decide +kernel)
def cS127 : zSt := zNew cS126 13 8
theorem cl127 : zCl cS127 := cl126.new
def cS128 : zSt := zuR cS127 0 (va_up (zR cS127 0) 5 (some 43))
theorem cl128 : zCl cS128 := cl127.up (by decide +kernel)
def cS129 : zSt := zNew cS128 13 6
theorem cl129 : zCl cS129 := cl128.new
def cS130 : zSt := zuR cS129 0 (va_up (zR cS129 0) 6 (some 44))
theorem cl130 : zCl cS130 := cl129.up (by decide +kernel)
def cS131 : zSt := zuX cS130 0 (upd (zX cS130 0) 7 (nI 0))
theorem cl131 : zCl cS131 := cl130.uX
def cS132 : zSt := zuX cS131 0 (upd (zX cS131 0) 8 (-1))
theorem cl132 : zCl cS132 := cl131.uX
theorem t_ctor_X11_init_0 : Dt mX11_init [.ref 0] cS0 none cS132 := by
  refine Dt.ofN (by decide) (Nat.le_of_ble_eq_true rfl) fun κ B Rt hn0 => ?_
  show Z κ 0 0 cS0 0 [(0, .ref 0)] []
  refine Z.aload_n B dX11_init_0 (v := .ref 0) rfl rfl ?_
  refine Z.objInit B dX11_init_1 kX11_1 (by decide) (Nat.le_of_ble_eq_true rfl) ?_
  refine Z.aload_n B dX11_init_4 (v := .ref 0) rfl rfl ?_
  refine Z.bipush B dX11_init_5 (v := nI 8) rfl ?_
  refine Z.newS (σ := cS0) B (n := 8) dX11_init_7 (zT_at 90 (by decide +kernel) rfl) (by decide) cl0 (zallL (by decide +kernel)) (zallS (by decide +kernel)) (by rw [hn0]; decide +kernel) (by decide) (by decide) ?_
  show Z κ 1 8 cS1 10 [(0, .ref 0)] [.ref 1, .ref 0]
  refine Z.putFR (σ := cS1) B fX11_11_11 (ty := (.array (.object "FourAskOne$Shelf"))) ⟨_, _, _, rfl, rfl, by decide +kernel⟩ rfl ⟨_, _, _, rfl, rfl⟩ dX11_init_10 (by decide +kernel) (by decide +kernel) (by decide) (Or.inr ⟨_, rfl⟩) (j := 1) (τ := cS2) rfl ?_
  refine Z.iconst B dX11_init_13 (v := nI 0) rfl ?_
  refine Z.istore_n B dX11_init_14 (by decide) (L' := [(0, .ref 0), (1, .int (nI 0))]) rfl ?_
  refine Z.iload_n B dX11_init_15 (x := nI 0) rfl ?_
  refine Z.aload_n B dX11_init_16 (v := .ref 0) rfl rfl ?_
  refine Z.getR (σ := cS2) B fX11_11_11 dX11_init_17 (by decide +kernel) (by decide +kernel) (by decide) (j := 1) (by decide +kernel) ?_
  refine Z.alen (σ := cS2) B dX11_init_20 (by decide +kernel) (t := 2) (by decide +kernel) (by decide) (n := 8) (by decide +kernel) (v := nI 8) rfl ?_
  refine Z.icmp_geN B dX11_init_21 (tgt := 43) rfl (by decide) (by decide) (fun h => absurd h (by decide)) (fun _ => ?_)
  refine Z.aload_n B dX11_init_24 (v := .ref 0) rfl rfl ?_
  refine Z.getR (σ := cS2) B fX11_11_11 dX11_init_25 (by decide +kernel) (by decide +kernel) (by decide) (j := 1) (by decide +kernel) ?_
  refine Z.iload_n B dX11_init_28 (x := nI 0) rfl ?_
  refine Z.new (σ := cS2) B (ci := 6) (N := 4) dX11_init_29 (zT_at 90 (by decide +kernel) rfl) rfl (by decide) rfl (zT_at 92 (by decide +kernel) rfl) (zT_at 63 (by decide +kernel) rfl) zDf_6 cl2 (zallL (by decide +kernel)) (zallS (by decide +kernel)) (by rw [hn0]; decide +kernel) (by decide) (by decide) ?_
  show Z κ 2 12 cS3 32 [(0, .ref 0), (1, .int (nI 0))] [.ref 2, .int (nI 0), .ref 1]
  refine Z.dup B dX11_init_32 rfl ?_
  refine Z.callIA (σ := cS3) B (M' := mX6_init) (as := []) (st := [.ref 2, .int (nI 0), .ref 1]) dX11_init_33 wX6_init iX6_init kX11_15 rfl rfl t_ctor_X6_init_2 rfl rfl (by decide) (Nat.le_of_ble_eq_true rfl) (by decide) (by decide) (by decide) (by rw [hn0]; decide +kernel) (zallL (by decide +kernel)) (zallS (by decide +kernel)) ?_
  show Z κ 3 172 cS8 36 [(0, .ref 0), (1, .int (nI 0))] [.ref 2, .int (nI 0), .ref 1]
  refine Z.astS (σ := cS8) B (n := 8) (q := 2) dX11_init_36 (by decide +kernel) (by decide +kernel) (by decide +kernel) (by decide) (j := 0) rfl (by decide) (by decide +kernel) (by decide +kernel) (τ := cS9) rfl ?_
  refine Z.iincN B dX11_init_37 (by decide) (a := 0) rfl (L' := [(0, .ref 0), (1, .int (nI 1))]) rfl ?_
  refine Z.goto B dX11_init_40 (tgt := 15) rfl ?_
  refine Z.iload_n B dX11_init_15 (x := nI 1) rfl ?_
  refine Z.aload_n B dX11_init_16 (v := .ref 0) rfl rfl ?_
  refine Z.getR (σ := cS9) B fX11_11_11 dX11_init_17 (by decide +kernel) (by decide +kernel) (by decide) (j := 1) (by decide +kernel) ?_
  refine Z.alen (σ := cS9) B dX11_init_20 (by decide +kernel) (t := 2) (by decide +kernel) (by decide) (n := 8) (by decide +kernel) (v := nI 8) rfl ?_
  refine Z.icmp_geN B dX11_init_21 (tgt := 43) rfl (by decide) (by decide) (fun h => absurd h (by decide)) (fun _ => ?_)
  refine Z.aload_n B dX11_init_24 (v := .ref 0) rfl rfl ?_
  refine Z.getR (σ := cS9) B fX11_11_11 dX11_init_25 (by decide +kernel) (by decide +kernel) (by decide) (j := 1) (by decide +kernel) ?_
  refine Z.iload_n B dX11_init_28 (x := nI 1) rfl ?_
  refine Z.new (σ := cS9) B (ci := 6) (N := 4) dX11_init_29 (zT_at 90 (by decide +kernel) rfl) rfl (by decide) rfl (zT_at 92 (by decide +kernel) rfl) (zT_at 63 (by decide +kernel) rfl) zDf_6 cl9 (zallL (by decide +kernel)) (zallS (by decide +kernel)) (by rw [hn0]; decide +kernel) (by decide) (by decide) ?_
  show Z κ 4 176 cS10 32 [(0, .ref 0), (1, .int (nI 1))] [.ref 4, .int (nI 1), .ref 1]
  refine Z.dup B dX11_init_32 rfl ?_
  refine Z.callIA (σ := cS10) B (M' := mX6_init) (as := []) (st := [.ref 4, .int (nI 1), .ref 1]) dX11_init_33 wX6_init iX6_init kX11_15 rfl rfl t_ctor_X6_init_4 rfl rfl (by decide) (Nat.le_of_ble_eq_true rfl) (by decide) (by decide) (by decide) (by rw [hn0]; decide +kernel) (zallL (by decide +kernel)) (zallS (by decide +kernel)) ?_
  show Z κ 5 336 cS15 36 [(0, .ref 0), (1, .int (nI 1))] [.ref 4, .int (nI 1), .ref 1]
  refine Z.astS (σ := cS15) B (n := 8) (q := 4) dX11_init_36 (by decide +kernel) (by decide +kernel) (by decide +kernel) (by decide) (j := 1) rfl (by decide) (by decide +kernel) (by decide +kernel) (τ := cS16) rfl ?_
  refine Z.iincN B dX11_init_37 (by decide) (a := 1) rfl (L' := [(0, .ref 0), (1, .int (nI 2))]) rfl ?_
  refine Z.goto B dX11_init_40 (tgt := 15) rfl ?_
  refine Z.iload_n B dX11_init_15 (x := nI 2) rfl ?_
  refine Z.aload_n B dX11_init_16 (v := .ref 0) rfl rfl ?_
  refine Z.getR (σ := cS16) B fX11_11_11 dX11_init_17 (by decide +kernel) (by decide +kernel) (by decide) (j := 1) (by decide +kernel) ?_
  refine Z.alen (σ := cS16) B dX11_init_20 (by decide +kernel) (t := 2) (by decide +kernel) (by decide) (n := 8) (by decide +kernel) (v := nI 8) rfl ?_
  refine Z.icmp_geN B dX11_init_21 (tgt := 43) rfl (by decide) (by decide) (fun h => absurd h (by decide)) (fun _ => ?_)
  refine Z.aload_n B dX11_init_24 (v := .ref 0) rfl rfl ?_
  refine Z.getR (σ := cS16) B fX11_11_11 dX11_init_25 (by decide +kernel) (by decide +kernel) (by decide) (j := 1) (by decide +kernel) ?_
  refine Z.iload_n B dX11_init_28 (x := nI 2) rfl ?_
  refine Z.new (σ := cS16) B (ci := 6) (N := 4) dX11_init_29 (zT_at 90 (by decide +kernel) rfl) rfl (by decide) rfl (zT_at 92 (by decide +kernel) rfl) (zT_at 63 (by decide +kernel) rfl) zDf_6 cl16 (zallL (by decide +kernel)) (zallS (by decide +kernel)) (by rw [hn0]; decide +kernel) (by decide) (by decide) ?_
  show Z κ 6 340 cS17 32 [(0, .ref 0), (1, .int (nI 2))] [.ref 6, .int (nI 2), .ref 1]
  refine Z.dup B dX11_init_32 rfl ?_
  refine Z.callIA (σ := cS17) B (M' := mX6_init) (as := []) (st := [.ref 6, .int (nI 2), .ref 1]) dX11_init_33 wX6_init iX6_init kX11_15 rfl rfl t_ctor_X6_init_6 rfl rfl (by decide) (Nat.le_of_ble_eq_true rfl) (by decide) (by decide) (by decide) (by rw [hn0]; decide +kernel) (zallL (by decide +kernel)) (zallS (by decide +kernel)) ?_
  show Z κ 7 500 cS22 36 [(0, .ref 0), (1, .int (nI 2))] [.ref 6, .int (nI 2), .ref 1]
  refine Z.astS (σ := cS22) B (n := 8) (q := 6) dX11_init_36 (by decide +kernel) (by decide +kernel) (by decide +kernel) (by decide) (j := 2) rfl (by decide) (by decide +kernel) (by decide +kernel) (τ := cS23) rfl ?_
  refine Z.iincN B dX11_init_37 (by decide) (a := 2) rfl (L' := [(0, .ref 0), (1, .int (nI 3))]) rfl ?_
  refine Z.goto B dX11_init_40 (tgt := 15) rfl ?_
  refine Z.iload_n B dX11_init_15 (x := nI 3) rfl ?_
  refine Z.aload_n B dX11_init_16 (v := .ref 0) rfl rfl ?_
  refine Z.getR (σ := cS23) B fX11_11_11 dX11_init_17 (by decide +kernel) (by decide +kernel) (by decide) (j := 1) (by decide +kernel) ?_
  refine Z.alen (σ := cS23) B dX11_init_20 (by decide +kernel) (t := 2) (by decide +kernel) (by decide) (n := 8) (by decide +kernel) (v := nI 8) rfl ?_
  refine Z.icmp_geN B dX11_init_21 (tgt := 43) rfl (by decide) (by decide) (fun h => absurd h (by decide)) (fun _ => ?_)
  refine Z.aload_n B dX11_init_24 (v := .ref 0) rfl rfl ?_
  refine Z.getR (σ := cS23) B fX11_11_11 dX11_init_25 (by decide +kernel) (by decide +kernel) (by decide) (j := 1) (by decide +kernel) ?_
  refine Z.iload_n B dX11_init_28 (x := nI 3) rfl ?_
  refine Z.new (σ := cS23) B (ci := 6) (N := 4) dX11_init_29 (zT_at 90 (by decide +kernel) rfl) rfl (by decide) rfl (zT_at 92 (by decide +kernel) rfl) (zT_at 63 (by decide +kernel) rfl) zDf_6 cl23 (zallL (by decide +kernel)) (zallS (by decide +kernel)) (by rw [hn0]; decide +kernel) (by decide) (by decide) ?_
  show Z κ 8 504 cS24 32 [(0, .ref 0), (1, .int (nI 3))] [.ref 8, .int (nI 3), .ref 1]
  refine Z.dup B dX11_init_32 rfl ?_
  refine Z.callIA (σ := cS24) B (M' := mX6_init) (as := []) (st := [.ref 8, .int (nI 3), .ref 1]) dX11_init_33 wX6_init iX6_init kX11_15 rfl rfl t_ctor_X6_init_8 rfl rfl (by decide) (Nat.le_of_ble_eq_true rfl) (by decide) (by decide) (by decide) (by rw [hn0]; decide +kernel) (zallL (by decide +kernel)) (zallS (by decide +kernel)) ?_
  show Z κ 9 664 cS29 36 [(0, .ref 0), (1, .int (nI 3))] [.ref 8, .int (nI 3), .ref 1]
  refine Z.astS (σ := cS29) B (n := 8) (q := 8) dX11_init_36 (by decide +kernel) (by decide +kernel) (by decide +kernel) (by decide) (j := 3) rfl (by decide) (by decide +kernel) (by decide +kernel) (τ := cS30) rfl ?_
  refine Z.iincN B dX11_init_37 (by decide) (a := 3) rfl (L' := [(0, .ref 0), (1, .int (nI 4))]) rfl ?_
  refine Z.goto B dX11_init_40 (tgt := 15) rfl ?_
  refine Z.iload_n B dX11_init_15 (x := nI 4) rfl ?_
  refine Z.aload_n B dX11_init_16 (v := .ref 0) rfl rfl ?_
  refine Z.getR (σ := cS30) B fX11_11_11 dX11_init_17 (by decide +kernel) (by decide +kernel) (by decide) (j := 1) (by decide +kernel) ?_
  refine Z.alen (σ := cS30) B dX11_init_20 (by decide +kernel) (t := 2) (by decide +kernel) (by decide) (n := 8) (by decide +kernel) (v := nI 8) rfl ?_
  refine Z.icmp_geN B dX11_init_21 (tgt := 43) rfl (by decide) (by decide) (fun h => absurd h (by decide)) (fun _ => ?_)
  refine Z.aload_n B dX11_init_24 (v := .ref 0) rfl rfl ?_
  refine Z.getR (σ := cS30) B fX11_11_11 dX11_init_25 (by decide +kernel) (by decide +kernel) (by decide) (j := 1) (by decide +kernel) ?_
  refine Z.iload_n B dX11_init_28 (x := nI 4) rfl ?_
  refine Z.new (σ := cS30) B (ci := 6) (N := 4) dX11_init_29 (zT_at 90 (by decide +kernel) rfl) rfl (by decide) rfl (zT_at 92 (by decide +kernel) rfl) (zT_at 63 (by decide +kernel) rfl) zDf_6 cl30 (zallL (by decide +kernel)) (zallS (by decide +kernel)) (by rw [hn0]; decide +kernel) (by decide) (by decide) ?_
  show Z κ 10 668 cS31 32 [(0, .ref 0), (1, .int (nI 4))] [.ref 10, .int (nI 4), .ref 1]
  refine Z.dup B dX11_init_32 rfl ?_
  refine Z.callIA (σ := cS31) B (M' := mX6_init) (as := []) (st := [.ref 10, .int (nI 4), .ref 1]) dX11_init_33 wX6_init iX6_init kX11_15 rfl rfl t_ctor_X6_init_10 rfl rfl (by decide) (Nat.le_of_ble_eq_true rfl) (by decide) (by decide) (by decide) (by rw [hn0]; decide +kernel) (zallL (by decide +kernel)) (zallS (by decide +kernel)) ?_
  show Z κ 11 828 cS36 36 [(0, .ref 0), (1, .int (nI 4))] [.ref 10, .int (nI 4), .ref 1]
  refine Z.astS (σ := cS36) B (n := 8) (q := 10) dX11_init_36 (by decide +kernel) (by decide +kernel) (by decide +kernel) (by decide) (j := 4) rfl (by decide) (by decide +kernel) (by decide +kernel) (τ := cS37) rfl ?_
  refine Z.iincN B dX11_init_37 (by decide) (a := 4) rfl (L' := [(0, .ref 0), (1, .int (nI 5))]) rfl ?_
  refine Z.goto B dX11_init_40 (tgt := 15) rfl ?_
  refine Z.iload_n B dX11_init_15 (x := nI 5) rfl ?_
  refine Z.aload_n B dX11_init_16 (v := .ref 0) rfl rfl ?_
  refine Z.getR (σ := cS37) B fX11_11_11 dX11_init_17 (by decide +kernel) (by decide +kernel) (by decide) (j := 1) (by decide +kernel) ?_
  refine Z.alen (σ := cS37) B dX11_init_20 (by decide +kernel) (t := 2) (by decide +kernel) (by decide) (n := 8) (by decide +kernel) (v := nI 8) rfl ?_
  refine Z.icmp_geN B dX11_init_21 (tgt := 43) rfl (by decide) (by decide) (fun h => absurd h (by decide)) (fun _ => ?_)
  refine Z.aload_n B dX11_init_24 (v := .ref 0) rfl rfl ?_
  refine Z.getR (σ := cS37) B fX11_11_11 dX11_init_25 (by decide +kernel) (by decide +kernel) (by decide) (j := 1) (by decide +kernel) ?_
  refine Z.iload_n B dX11_init_28 (x := nI 5) rfl ?_
  refine Z.new (σ := cS37) B (ci := 6) (N := 4) dX11_init_29 (zT_at 90 (by decide +kernel) rfl) rfl (by decide) rfl (zT_at 92 (by decide +kernel) rfl) (zT_at 63 (by decide +kernel) rfl) zDf_6 cl37 (zallL (by decide +kernel)) (zallS (by decide +kernel)) (by rw [hn0]; decide +kernel) (by decide) (by decide) ?_
  show Z κ 12 832 cS38 32 [(0, .ref 0), (1, .int (nI 5))] [.ref 12, .int (nI 5), .ref 1]
  refine Z.dup B dX11_init_32 rfl ?_
  refine Z.callIA (σ := cS38) B (M' := mX6_init) (as := []) (st := [.ref 12, .int (nI 5), .ref 1]) dX11_init_33 wX6_init iX6_init kX11_15 rfl rfl t_ctor_X6_init_12 rfl rfl (by decide) (Nat.le_of_ble_eq_true rfl) (by decide) (by decide) (by decide) (by rw [hn0]; decide +kernel) (zallL (by decide +kernel)) (zallS (by decide +kernel)) ?_
  show Z κ 13 992 cS43 36 [(0, .ref 0), (1, .int (nI 5))] [.ref 12, .int (nI 5), .ref 1]
  refine Z.astS (σ := cS43) B (n := 8) (q := 12) dX11_init_36 (by decide +kernel) (by decide +kernel) (by decide +kernel) (by decide) (j := 5) rfl (by decide) (by decide +kernel) (by decide +kernel) (τ := cS44) rfl ?_
  refine Z.iincN B dX11_init_37 (by decide) (a := 5) rfl (L' := [(0, .ref 0), (1, .int (nI 6))]) rfl ?_
  refine Z.goto B dX11_init_40 (tgt := 15) rfl ?_
  refine Z.iload_n B dX11_init_15 (x := nI 6) rfl ?_
  refine Z.aload_n B dX11_init_16 (v := .ref 0) rfl rfl ?_
  refine Z.getR (σ := cS44) B fX11_11_11 dX11_init_17 (by decide +kernel) (by decide +kernel) (by decide) (j := 1) (by decide +kernel) ?_
  refine Z.alen (σ := cS44) B dX11_init_20 (by decide +kernel) (t := 2) (by decide +kernel) (by decide) (n := 8) (by decide +kernel) (v := nI 8) rfl ?_
  refine Z.icmp_geN B dX11_init_21 (tgt := 43) rfl (by decide) (by decide) (fun h => absurd h (by decide)) (fun _ => ?_)
  refine Z.aload_n B dX11_init_24 (v := .ref 0) rfl rfl ?_
  refine Z.getR (σ := cS44) B fX11_11_11 dX11_init_25 (by decide +kernel) (by decide +kernel) (by decide) (j := 1) (by decide +kernel) ?_
  refine Z.iload_n B dX11_init_28 (x := nI 6) rfl ?_
  refine Z.new (σ := cS44) B (ci := 6) (N := 4) dX11_init_29 (zT_at 90 (by decide +kernel) rfl) rfl (by decide) rfl (zT_at 92 (by decide +kernel) rfl) (zT_at 63 (by decide +kernel) rfl) zDf_6 cl44 (zallL (by decide +kernel)) (zallS (by decide +kernel)) (by rw [hn0]; decide +kernel) (by decide) (by decide) ?_
  show Z κ 14 996 cS45 32 [(0, .ref 0), (1, .int (nI 6))] [.ref 14, .int (nI 6), .ref 1]
  refine Z.dup B dX11_init_32 rfl ?_
  refine Z.callIA (σ := cS45) B (M' := mX6_init) (as := []) (st := [.ref 14, .int (nI 6), .ref 1]) dX11_init_33 wX6_init iX6_init kX11_15 rfl rfl t_ctor_X6_init_14 rfl rfl (by decide) (Nat.le_of_ble_eq_true rfl) (by decide) (by decide) (by decide) (by rw [hn0]; decide +kernel) (zallL (by decide +kernel)) (zallS (by decide +kernel)) ?_
  show Z κ 15 1156 cS50 36 [(0, .ref 0), (1, .int (nI 6))] [.ref 14, .int (nI 6), .ref 1]
  refine Z.astS (σ := cS50) B (n := 8) (q := 14) dX11_init_36 (by decide +kernel) (by decide +kernel) (by decide +kernel) (by decide) (j := 6) rfl (by decide) (by decide +kernel) (by decide +kernel) (τ := cS51) rfl ?_
  refine Z.iincN B dX11_init_37 (by decide) (a := 6) rfl (L' := [(0, .ref 0), (1, .int (nI 7))]) rfl ?_
  refine Z.goto B dX11_init_40 (tgt := 15) rfl ?_
  refine Z.iload_n B dX11_init_15 (x := nI 7) rfl ?_
  refine Z.aload_n B dX11_init_16 (v := .ref 0) rfl rfl ?_
  refine Z.getR (σ := cS51) B fX11_11_11 dX11_init_17 (by decide +kernel) (by decide +kernel) (by decide) (j := 1) (by decide +kernel) ?_
  refine Z.alen (σ := cS51) B dX11_init_20 (by decide +kernel) (t := 2) (by decide +kernel) (by decide) (n := 8) (by decide +kernel) (v := nI 8) rfl ?_
  refine Z.icmp_geN B dX11_init_21 (tgt := 43) rfl (by decide) (by decide) (fun h => absurd h (by decide)) (fun _ => ?_)
  refine Z.aload_n B dX11_init_24 (v := .ref 0) rfl rfl ?_
  refine Z.getR (σ := cS51) B fX11_11_11 dX11_init_25 (by decide +kernel) (by decide +kernel) (by decide) (j := 1) (by decide +kernel) ?_
  refine Z.iload_n B dX11_init_28 (x := nI 7) rfl ?_
  refine Z.new (σ := cS51) B (ci := 6) (N := 4) dX11_init_29 (zT_at 90 (by decide +kernel) rfl) rfl (by decide) rfl (zT_at 92 (by decide +kernel) rfl) (zT_at 63 (by decide +kernel) rfl) zDf_6 cl51 (zallL (by decide +kernel)) (zallS (by decide +kernel)) (by rw [hn0]; decide +kernel) (by decide) (by decide) ?_
  show Z κ 16 1160 cS52 32 [(0, .ref 0), (1, .int (nI 7))] [.ref 16, .int (nI 7), .ref 1]
  refine Z.dup B dX11_init_32 rfl ?_
  refine Z.callIA (σ := cS52) B (M' := mX6_init) (as := []) (st := [.ref 16, .int (nI 7), .ref 1]) dX11_init_33 wX6_init iX6_init kX11_15 rfl rfl t_ctor_X6_init_16 rfl rfl (by decide) (Nat.le_of_ble_eq_true rfl) (by decide) (by decide) (by decide) (by rw [hn0]; decide +kernel) (zallL (by decide +kernel)) (zallS (by decide +kernel)) ?_
  show Z κ 17 1320 cS57 36 [(0, .ref 0), (1, .int (nI 7))] [.ref 16, .int (nI 7), .ref 1]
  refine Z.astS (σ := cS57) B (n := 8) (q := 16) dX11_init_36 (by decide +kernel) (by decide +kernel) (by decide +kernel) (by decide) (j := 7) rfl (by decide) (by decide +kernel) (by decide +kernel) (τ := cS58) rfl ?_
  refine Z.iincN B dX11_init_37 (by decide) (a := 7) rfl (L' := [(0, .ref 0), (1, .int (nI 8))]) rfl ?_
  refine Z.goto B dX11_init_40 (tgt := 15) rfl ?_
  refine Z.iload_n B dX11_init_15 (x := nI 8) rfl ?_
  refine Z.aload_n B dX11_init_16 (v := .ref 0) rfl rfl ?_
  refine Z.getR (σ := cS58) B fX11_11_11 dX11_init_17 (by decide +kernel) (by decide +kernel) (by decide) (j := 1) (by decide +kernel) ?_
  refine Z.alen (σ := cS58) B dX11_init_20 (by decide +kernel) (t := 2) (by decide +kernel) (by decide) (n := 8) (by decide +kernel) (v := nI 8) rfl ?_
  refine Z.icmp_geN B dX11_init_21 (tgt := 43) rfl (by decide) (by decide) (fun _ => ?_) (fun h => absurd (by decide) h)
  refine Z.aload_n B dX11_init_43 (v := .ref 0) rfl rfl ?_
  refine Z.new (σ := cS58) B (ci := 8) (N := 2) dX11_init_44 (zT_at 111 (by decide +kernel) rfl) rfl (by decide) rfl (zT_at 112 (by decide +kernel) rfl) (zT_at 64 (by decide +kernel) rfl) zDf_8 cl58 (zallL (by decide +kernel)) (zallS (by decide +kernel)) (by rw [hn0]; decide +kernel) (by decide) (by decide) ?_
  show Z κ 18 1322 cS59 47 [(0, .ref 0), (1, .int (nI 8))] [.ref 18, .ref 0]
  refine Z.dup B dX11_init_47 rfl ?_
  refine Z.callIA (σ := cS59) B (M' := mX8_init) (as := []) (st := [.ref 18, .ref 0]) dX11_init_48 wX8_init iX8_init kX11_18 rfl rfl t_ctor_X8_init_18 rfl rfl (by decide) (Nat.le_of_ble_eq_true rfl) (by decide) (by decide) (by decide) (by rw [hn0]; decide +kernel) (zallL (by decide +kernel)) (zallS (by decide +kernel)) ?_
  show Z κ 19 1342 cS62 51 [(0, .ref 0), (1, .int (nI 8))] [.ref 18, .ref 0]
  refine Z.putFR (σ := cS62) B fX11_19_11 (ty := (.object "FourAskOne$Trace")) ⟨_, _, _, rfl, rfl, by decide +kernel⟩ rfl ⟨_, _, _, rfl, rfl⟩ dX11_init_51 (by decide +kernel) (by decide +kernel) (by decide) (Or.inl ⟨_, rfl⟩) (j := 18) (τ := cS63) rfl ?_
  refine Z.aload_n B dX11_init_54 (v := .ref 0) rfl rfl ?_
  refine Z.new (σ := cS63) B (ci := 1) (N := 11) dX11_init_55 (zT_at 125 (by decide +kernel) rfl) rfl (by decide) rfl (zT_at 126 (by decide +kernel) rfl) (zT_at 65 (by decide +kernel) rfl) zDf_1 cl63 (zallL (by decide +kernel)) (zallS (by decide +kernel)) (by rw [hn0]; decide +kernel) (by decide) (by decide) ?_
  show Z κ 20 1353 cS64 58 [(0, .ref 0), (1, .int (nI 8))] [.ref 20, .ref 0]
  refine Z.dup B dX11_init_58 rfl ?_
  refine Z.aload_n B dX11_init_59 (v := .ref 0) rfl rfl ?_
  refine Z.getR (σ := cS64) B fX11_19_11 dX11_init_60 (by decide +kernel) (by decide +kernel) (by decide) (j := 18) (by decide +kernel) ?_
  refine Z.callIA (σ := cS64) B (M' := mX1_init) (as := [.ref 18]) (st := [.ref 20, .ref 0]) dX11_init_63 wX1_init iX1_init kX11_25 rfl rfl t_ctor_X1_init_20 rfl rfl (by decide) (Nat.le_of_ble_eq_true rfl) (by decide) (by decide) (by decide) (by rw [hn0]; decide +kernel) (zallL (by decide +kernel)) (zallS (by decide +kernel)) ?_
  show Z κ 26 1441 cS81 66 [(0, .ref 0), (1, .int (nI 8))] [.ref 20, .ref 0]
  refine Z.putFR (σ := cS81) B fX11_28_11 (ty := (.object "FourAskOne$House")) ⟨_, _, _, rfl, rfl, by decide +kernel⟩ rfl ⟨_, _, _, rfl, rfl⟩ dX11_init_66 (by decide +kernel) (by decide +kernel) (by decide) (Or.inl ⟨_, rfl⟩) (j := 20) (τ := cS82) rfl ?_
  refine Z.aload_n B dX11_init_69 (v := .ref 0) rfl rfl ?_
  refine Z.new (σ := cS82) B (ci := 1) (N := 11) dX11_init_70 (zT_at 125 (by decide +kernel) rfl) rfl (by decide) rfl (zT_at 126 (by decide +kernel) rfl) (zT_at 65 (by decide +kernel) rfl) zDf_1 cl82 (zallL (by decide +kernel)) (zallS (by decide +kernel)) (by rw [hn0]; decide +kernel) (by decide) (by decide) ?_
  show Z κ 27 1452 cS83 73 [(0, .ref 0), (1, .int (nI 8))] [.ref 27, .ref 0]
  refine Z.dup B dX11_init_73 rfl ?_
  refine Z.aload_n B dX11_init_74 (v := .ref 0) rfl rfl ?_
  refine Z.getR (σ := cS83) B fX11_19_11 dX11_init_75 (by decide +kernel) (by decide +kernel) (by decide) (j := 18) (by decide +kernel) ?_
  refine Z.callIA (σ := cS83) B (M' := mX1_init) (as := [.ref 18]) (st := [.ref 27, .ref 0]) dX11_init_78 wX1_init iX1_init kX11_25 rfl rfl t_ctor_X1_init_27 rfl rfl (by decide) (Nat.le_of_ble_eq_true rfl) (by decide) (by decide) (by decide) (by rw [hn0]; decide +kernel) (zallL (by decide +kernel)) (zallS (by decide +kernel)) ?_
  show Z κ 33 1540 cS100 81 [(0, .ref 0), (1, .int (nI 8))] [.ref 27, .ref 0]
  refine Z.putFR (σ := cS100) B fX11_32_11 (ty := (.object "FourAskOne$House")) ⟨_, _, _, rfl, rfl, by decide +kernel⟩ rfl ⟨_, _, _, rfl, rfl⟩ dX11_init_81 (by decide +kernel) (by decide +kernel) (by decide) (Or.inl ⟨_, rfl⟩) (j := 27) (τ := cS101) rfl ?_
  refine Z.aload_n B dX11_init_84 (v := .ref 0) rfl rfl ?_
  refine Z.new (σ := cS101) B (ci := 2) (N := 4) dX11_init_85 (zT_at 167 (by decide +kernel) rfl) rfl (by decide) rfl (zT_at 168 (by decide +kernel) rfl) (zT_at 66 (by decide +kernel) rfl) zDf_2 cl101 (zallL (by decide +kernel)) (zallS (by decide +kernel)) (by rw [hn0]; decide +kernel) (by decide) (by decide) ?_
  show Z κ 34 1544 cS102 88 [(0, .ref 0), (1, .int (nI 8))] [.ref 34, .ref 0]
  refine Z.dup B dX11_init_88 rfl ?_
  refine Z.new (σ := cS102) B (ci := 1) (N := 11) dX11_init_89 (zT_at 125 (by decide +kernel) rfl) rfl (by decide) rfl (zT_at 126 (by decide +kernel) rfl) (zT_at 65 (by decide +kernel) rfl) zDf_1 cl102 (zallL (by decide +kernel)) (zallS (by decide +kernel)) (by rw [hn0]; decide +kernel) (by decide) (by decide) ?_
  show Z κ 35 1555 cS103 92 [(0, .ref 0), (1, .int (nI 8))] [.ref 35, .ref 34, .ref 34, .ref 0]
  refine Z.dup B dX11_init_92 rfl ?_
  refine Z.aload_n B dX11_init_93 (v := .ref 0) rfl rfl ?_
  refine Z.getR (σ := cS103) B fX11_19_11 dX11_init_94 (by decide +kernel) (by decide +kernel) (by decide) (j := 18) (by decide +kernel) ?_
  refine Z.callIA (σ := cS103) B (M' := mX1_init) (as := [.ref 18]) (st := [.ref 35, .ref 34, .ref 34, .ref 0]) dX11_init_97 wX1_init iX1_init kX11_25 rfl rfl t_ctor_X1_init_35 rfl rfl (by decide) (Nat.le_of_ble_eq_true rfl) (by decide) (by decide) (by decide) (by rw [hn0]; decide +kernel) (zallL (by decide +kernel)) (zallS (by decide +kernel)) ?_
  show Z κ 41 1643 cS120 100 [(0, .ref 0), (1, .int (nI 8))] [.ref 35, .ref 34, .ref 34, .ref 0]
  refine Z.callIA (σ := cS120) B (M' := mX2_init) (as := [.ref 35]) (st := [.ref 34, .ref 0]) dX11_init_100 wX2_init iX2_init kX11_37 rfl rfl t_ctor_X2_init_34 rfl rfl (by decide) (Nat.le_of_ble_eq_true rfl) (by decide) (by decide) (by decide) (by rw [hn0]; decide +kernel) (zallL (by decide +kernel)) (zallS (by decide +kernel)) ?_
  show Z κ 42 1649 cS125 103 [(0, .ref 0), (1, .int (nI 8))] [.ref 34, .ref 0]
  refine Z.putFR (σ := cS125) B fX11_40_11 (ty := (.object "FourAskOne$HouseText")) ⟨_, _, _, rfl, rfl, by decide +kernel⟩ rfl ⟨_, _, _, rfl, rfl⟩ dX11_init_103 (by decide +kernel) (by decide +kernel) (by decide) (Or.inl ⟨_, rfl⟩) (j := 34) (τ := cS126) rfl ?_
  refine Z.aload_n B dX11_init_106 (v := .ref 0) rfl rfl ?_
  refine Z.bipush B dX11_init_107 (v := nI 8) rfl ?_
  refine Z.newI (σ := cS126) B (n := 8) dX11_init_109 (by decide) cl126 (zallL (by decide +kernel)) (zallS (by decide +kernel)) (by rw [hn0]; decide +kernel) (by decide) (by decide) ?_
  show Z κ 43 1657 cS127 111 [(0, .ref 0), (1, .int (nI 8))] [.ref 43, .ref 0]
  refine Z.putFR (σ := cS127) B fX11_44_11 (ty := (.array .int)) ⟨_, _, _, rfl, rfl, by decide +kernel⟩ rfl ⟨_, _, _, rfl, rfl⟩ dX11_init_111 (by decide +kernel) (by decide +kernel) (by decide) (Or.inr ⟨_, rfl⟩) (j := 43) (τ := cS128) rfl ?_
  refine Z.aload_n B dX11_init_114 (v := .ref 0) rfl rfl ?_
  refine Z.bipush B dX11_init_115 (v := nI 6) rfl ?_
  refine Z.newI (σ := cS128) B (n := 6) dX11_init_117 (by decide) cl128 (zallL (by decide +kernel)) (zallS (by decide +kernel)) (by rw [hn0]; decide +kernel) (by decide) (by decide) ?_
  show Z κ 44 1663 cS129 119 [(0, .ref 0), (1, .int (nI 8))] [.ref 44, .ref 0]
  refine Z.putFR (σ := cS129) B fX11_48_11 (ty := (.array .int)) ⟨_, _, _, rfl, rfl, by decide +kernel⟩ rfl ⟨_, _, _, rfl, rfl⟩ dX11_init_119 (by decide +kernel) (by decide +kernel) (by decide) (Or.inr ⟨_, rfl⟩) (j := 44) (τ := cS130) rfl ?_
  refine Z.aload_n B dX11_init_122 (v := .ref 0) rfl rfl ?_
  refine Z.iconst B dX11_init_123 (v := nI 0) rfl ?_
  refine Z.putI (σ := cS130) B fX11_51_11 (ty := .boolean) ⟨_, _, _, rfl, rfl, by decide +kernel⟩ dX11_init_124 (by decide +kernel) (by decide +kernel) (by decide) rfl rfl (τ := cS131) rfl ?_
  refine Z.aload_n B dX11_init_127 (v := .ref 0) rfl rfl ?_
  refine Z.iconst B dX11_init_128 (v := (-1)) rfl ?_
  refine Z.putI (σ := cS131) B fX11_55_11 (ty := .int) ⟨_, _, _, rfl, rfl, by decide +kernel⟩ dX11_init_129 (by decide +kernel) (by decide +kernel) (by decide) rfl rfl (τ := cS132) rfl ?_
  refine Z.vret B Rt dX11_init_132 rfl (by decide) (by decide) ?_
  exact ⟨rfl, rfl⟩
abbrev cSF : zSt := cS132
def cS133 : zSt := zNew cS132 12 0
theorem cl133 : zCl cS133 := cl132.new
def cS134 : zSt := zuX cS133 45 (upd (zX cS133 45) 3 (nI 1))
theorem cl134 : zCl cS134 := cl133.uX
def cS135 : zSt := zuX cS134 45 (upd (zX cS134 45) 4 (-1))
theorem cl135 : zCl cS135 := cl134.uX
def cS136 : zSt := zNew cS135 13 8
theorem cl136 : zCl cS136 := cl135.new
def cS137 : zSt := zuR cS136 45 (va_up (zR cS136 45) 5 (some 46))
theorem cl137 : zCl cS137 := cl136.up (by decide +kernel)
def cS138 : zSt := zNew cS137 13 48
theorem cl138 : zCl cS138 := cl137.new
def cS139 : zSt := zuR cS138 45 (va_up (zR cS138 45) 6 (some 47))
theorem cl139 : zCl cS139 := cl138.up (by decide +kernel)
def cS140 : zSt := zNew cS139 13 4
theorem cl140 : zCl cS140 := cl139.new
def cS141 : zSt := zuR cS140 45 (va_up (zR cS140 45) 7 (some 48))
theorem cl141 : zCl cS141 := cl140.up (by decide +kernel)
def cS142 : zSt := zNew cS141 13 4
theorem cl142 : zCl cS142 := cl141.new
def cS143 : zSt := zuR cS142 45 (va_up (zR cS142 45) 8 (some 49))
theorem cl143 : zCl cS143 := cl142.up (by decide +kernel)
def cS144 : zSt := zNew cS143 13 4
theorem cl144 : zCl cS144 := cl143.new
def cS145 : zSt := zuR cS144 45 (va_up (zR cS144 45) 9 (some 50))
theorem cl145 : zCl cS145 := cl144.up (by decide +kernel)
def cS146 : zSt := zNew cS145 13 4
theorem cl146 : zCl cS146 := cl145.new
def cS147 : zSt := zuR cS146 45 (va_up (zR cS146 45) 10 (some 51))
theorem cl147 : zCl cS147 := cl146.up (by decide +kernel)
def cS148 : zSt := zNew cS147 13 8
theorem cl148 : zCl cS148 := cl147.new
def cS149 : zSt := zuR cS148 45 (va_up (zR cS148 45) 11 (some 52))
theorem cl149 : zCl cS149 := cl148.up (by decide +kernel)
def cS150 : zSt := zNew cS149 13 8
theorem cl150 : zCl cS150 := cl149.new
def cS151 : zSt := zuR cS150 45 (va_up (zR cS150 45) 12 (some 53))
theorem cl151 : zCl cS151 := cl150.up (by decide +kernel)
def cS152 : zSt := zNew cS151 13 8
theorem cl152 : zCl cS152 := cl151.new
def cS153 : zSt := zuR cS152 45 (va_up (zR cS152 45) 13 (some 54))
theorem cl153 : zCl cS153 := cl152.up (by decide +kernel)
def cS154 : zSt := zNew cS153 13 8
theorem cl154 : zCl cS154 := cl153.new
def cS155 : zSt := zuR cS154 45 (va_up (zR cS154 45) 14 (some 55))
theorem cl155 : zCl cS155 := cl154.up (by decide +kernel)
def cS156 : zSt := zNew cS155 13 8
theorem cl156 : zCl cS156 := cl155.new
def cS157 : zSt := zuR cS156 45 (va_up (zR cS156 45) 15 (some 56))
theorem cl157 : zCl cS157 := cl156.up (by decide +kernel)
def cS158 : zSt := zNew cS157 13 8
theorem cl158 : zCl cS158 := cl157.new
def cS159 : zSt := zuR cS158 45 (va_up (zR cS158 45) 16 (some 57))
theorem cl159 : zCl cS159 := cl158.up (by decide +kernel)
def cS160 : zSt := zNew cS159 14 1280
theorem cl160 : zCl cS160 := cl159.new
def cS161 : zSt := zuR cS160 45 (va_up (zR cS160 45) 17 (some 58))
theorem cl161 : zCl cS161 := cl160.up (by decide +kernel)
def cS162 : zSt := zNew cS161 14 160
theorem cl162 : zCl cS162 := cl161.new
def cS163 : zSt := zuR cS162 45 (va_up (zR cS162 45) 18 (some 59))
theorem cl163 : zCl cS163 := cl162.up (by decide +kernel)
def cS164 : zSt := zNew cS163 13 26
theorem cl164 : zCl cS164 := cl163.new
def cS165 : zSt := zuX cS164 60 (upd (zX cS164 60) 0 (nI 99))
theorem cl165 : zCl cS165 := cl164.uX
def cS166 : zSt := zuX cS165 60 (upd (zX cS165 60) 1 (nI 111))
theorem cl166 : zCl cS166 := cl165.uX
def cS167 : zSt := zuX cS166 60 (upd (zX cS166 60) 2 (nI 109))
theorem cl167 : zCl cS167 := cl166.uX
def cS168 : zSt := zuX cS167 60 (upd (zX cS167 60) 3 (nI 101))
theorem cl168 : zCl cS168 := cl167.uX
def cS169 : zSt := zuX cS168 60 (upd (zX cS168 60) 4 (nI 114))
theorem cl169 : zCl cS169 := cl168.uX
def cS170 : zSt := zuX cS169 60 (upd (zX cS169 60) 5 (nI 32))
theorem cl170 : zCl cS170 := cl169.uX
def cS171 : zSt := zuX cS170 60 (upd (zX cS170 60) 6 (nI 0))
theorem cl171 : zCl cS171 := cl170.uX
def cS172 : zSt := zuX cS171 60 (upd (zX cS171 60) 7 (nI 97))
theorem cl172 : zCl cS172 := cl171.uX
def cS173 : zSt := zuX cS172 60 (upd (zX cS172 60) 8 (nI 115))
theorem cl173 : zCl cS173 := cl172.uX
def cS174 : zSt := zuX cS173 60 (upd (zX cS173 60) 9 (nI 107))
theorem cl174 : zCl cS174 := cl173.uX
def cS175 : zSt := zuX cS174 60 (upd (zX cS174 60) 10 (nI 101))
theorem cl175 : zCl cS175 := cl174.uX
def cS176 : zSt := zuX cS175 60 (upd (zX cS175 60) 11 (nI 114))
theorem cl176 : zCl cS176 := cl175.uX
def cS177 : zSt := zuX cS176 60 (upd (zX cS176 60) 12 (nI 32))
theorem cl177 : zCl cS177 := cl176.uX
def cS178 : zSt := zuX cS177 60 (upd (zX cS177 60) 13 (nI 0))
theorem cl178 : zCl cS178 := cl177.uX
def cS179 : zSt := zuX cS178 60 (upd (zX cS178 60) 14 (nI 119))
theorem cl179 : zCl cS179 := cl178.uX
def cS180 : zSt := zuX cS179 60 (upd (zX cS179 60) 15 (nI 97))
theorem cl180 : zCl cS180 := cl179.uX
def cS181 : zSt := zuX cS180 60 (upd (zX cS180 60) 16 (nI 121))
theorem cl181 : zCl cS181 := cl180.uX
def cS182 : zSt := zuX cS181 60 (upd (zX cS181 60) 17 (nI 32))
theorem cl182 : zCl cS182 := cl181.uX
def cS183 : zSt := zuX cS182 60 (upd (zX cS182 60) 18 (nI 0))
theorem cl183 : zCl cS183 := cl182.uX
def cS184 : zSt := zuX cS183 60 (upd (zX cS183 60) 19 (nI 99))
theorem cl184 : zCl cS184 := cl183.uX
def cS185 : zSt := zuX cS184 60 (upd (zX cS184 60) 20 (nI 104))
theorem cl185 : zCl cS185 := cl184.uX
def cS186 : zSt := zuX cS185 60 (upd (zX cS185 60) 21 (nI 105))
theorem cl186 : zCl cS186 := cl185.uX
def cS187 : zSt := zuX cS186 60 (upd (zX cS186 60) 22 (nI 101))
theorem cl187 : zCl cS187 := cl186.uX
def cS188 : zSt := zuX cS187 60 (upd (zX cS187 60) 23 (nI 102))
theorem cl188 : zCl cS188 := cl187.uX
def cS189 : zSt := zuX cS188 60 (upd (zX cS188 60) 24 (nI 32))
theorem cl189 : zCl cS189 := cl188.uX
def cS190 : zSt := zuX cS189 60 (upd (zX cS189 60) 25 (nI 0))
theorem cl190 : zCl cS190 := cl189.uX
def cS191 : zSt := zuR cS190 45 (va_up (zR cS190 45) 19 (some 60))
theorem cl191 : zCl cS191 := cl190.up (by decide +kernel)
def cS192 : zSt := zNew cS191 13 6
theorem cl192 : zCl cS192 := cl191.new
def cS193 : zSt := zuR cS192 45 (va_up (zR cS192 45) 20 (some 61))
theorem cl193 : zCl cS193 := cl192.up (by decide +kernel)
def cS194 : zSt := zNew cS193 13 90
theorem cl194 : zCl cS194 := cl193.new
def cS195 : zSt := zuR cS194 45 (va_up (zR cS194 45) 26 (some 62))
theorem cl195 : zCl cS195 := cl194.up (by decide +kernel)
def cS196 : zSt := zNew cS195 13 90
theorem cl196 : zCl cS196 := cl195.new
def cS197 : zSt := zuR cS196 45 (va_up (zR cS196 45) 27 (some 63))
theorem cl197 : zCl cS197 := cl196.up (by decide +kernel)
def cS198 : zSt := zuX cS197 45 (upd (zX cS197 45) 28 (-1))
theorem cl198 : zCl cS198 := cl197.uX
def cS199 : zSt := zNew cS198 13 8
theorem cl199 : zCl cS199 := cl198.new
def cS200 : zSt := zuR cS199 45 (va_up (zR cS199 45) 29 (some 64))
theorem cl200 : zCl cS200 := cl199.up (by decide +kernel)
def cS201 : zSt := zNew cS200 13 20
theorem cl201 : zCl cS201 := cl200.new
def cS202 : zSt := zuR cS201 45 (va_up (zR cS201 45) 30 (some 65))
theorem cl202 : zCl cS202 := cl201.up (by decide +kernel)
theorem t_ctor_X12_init_45 : Dt mX12_init [.ref 45] cS133 none cS202 := by
  refine Dt.ofN (by decide) (Nat.le_of_ble_eq_true rfl) fun κ B Rt hn0 => ?_
  show Z κ 0 0 cS133 0 [(0, .ref 45)] []
  refine Z.aload_n B dX12_init_0 (v := .ref 45) rfl rfl ?_
  refine Z.objInit B dX12_init_1 kX12_1 (by decide) (Nat.le_of_ble_eq_true rfl) ?_
  refine Z.aload_n B dX12_init_4 (v := .ref 45) rfl rfl ?_
  refine Z.iconst B dX12_init_5 (v := nI 1) rfl ?_
  refine Z.putI (σ := cS133) B fX12_7_12 (ty := .int) ⟨_, _, _, rfl, rfl, by decide +kernel⟩ dX12_init_6 (by decide +kernel) (by decide +kernel) (by decide) rfl rfl (τ := cS134) rfl ?_
  refine Z.aload_n B dX12_init_9 (v := .ref 45) rfl rfl ?_
  refine Z.iconst B dX12_init_10 (v := (-1)) rfl ?_
  refine Z.putI (σ := cS134) B fX12_13_12 (ty := .int) ⟨_, _, _, rfl, rfl, by decide +kernel⟩ dX12_init_11 (by decide +kernel) (by decide +kernel) (by decide) rfl rfl (τ := cS135) rfl ?_
  refine Z.aload_n B dX12_init_14 (v := .ref 45) rfl rfl ?_
  refine Z.bipush B dX12_init_15 (v := nI 8) rfl ?_
  refine Z.newI (σ := cS135) B (n := 8) dX12_init_17 (by decide) cl135 (zallL (by decide +kernel)) (zallS (by decide +kernel)) (by rw [hn0]; decide +kernel) (by decide) (by decide) ?_
  show Z κ 1 8 cS136 19 [(0, .ref 45)] [.ref 46, .ref 45]
  refine Z.putFR (σ := cS136) B fX12_16_12 (ty := (.array .int)) ⟨_, _, _, rfl, rfl, by decide +kernel⟩ rfl ⟨_, _, _, rfl, rfl⟩ dX12_init_19 (by decide +kernel) (by decide +kernel) (by decide) (Or.inr ⟨_, rfl⟩) (j := 46) (τ := cS137) rfl ?_
  refine Z.aload_n B dX12_init_22 (v := .ref 45) rfl rfl ?_
  refine Z.bipush B dX12_init_23 (v := nI 48) rfl ?_
  refine Z.newI (σ := cS137) B (n := 48) dX12_init_25 (by decide) cl137 (zallL (by decide +kernel)) (zallS (by decide +kernel)) (by rw [hn0]; decide +kernel) (by decide) (by decide) ?_
  show Z κ 2 56 cS138 27 [(0, .ref 45)] [.ref 47, .ref 45]
  refine Z.putFR (σ := cS138) B fX12_20_12 (ty := (.array .int)) ⟨_, _, _, rfl, rfl, by decide +kernel⟩ rfl ⟨_, _, _, rfl, rfl⟩ dX12_init_27 (by decide +kernel) (by decide +kernel) (by decide) (Or.inr ⟨_, rfl⟩) (j := 47) (τ := cS139) rfl ?_
  refine Z.aload_n B dX12_init_30 (v := .ref 45) rfl rfl ?_
  refine Z.iconst B dX12_init_31 (v := nI 4) rfl ?_
  refine Z.newI (σ := cS139) B (n := 4) dX12_init_32 (by decide) cl139 (zallL (by decide +kernel)) (zallS (by decide +kernel)) (by rw [hn0]; decide +kernel) (by decide) (by decide) ?_
  show Z κ 3 60 cS140 34 [(0, .ref 45)] [.ref 48, .ref 45]
  refine Z.putFR (σ := cS140) B fX12_23_12 (ty := (.array .int)) ⟨_, _, _, rfl, rfl, by decide +kernel⟩ rfl ⟨_, _, _, rfl, rfl⟩ dX12_init_34 (by decide +kernel) (by decide +kernel) (by decide) (Or.inr ⟨_, rfl⟩) (j := 48) (τ := cS141) rfl ?_
  refine Z.aload_n B dX12_init_37 (v := .ref 45) rfl rfl ?_
  refine Z.iconst B dX12_init_38 (v := nI 4) rfl ?_
  refine Z.newI (σ := cS141) B (n := 4) dX12_init_39 (by decide) cl141 (zallL (by decide +kernel)) (zallS (by decide +kernel)) (by rw [hn0]; decide +kernel) (by decide) (by decide) ?_
  show Z κ 4 64 cS142 41 [(0, .ref 45)] [.ref 49, .ref 45]
  refine Z.putFR (σ := cS142) B fX12_26_12 (ty := (.array .int)) ⟨_, _, _, rfl, rfl, by decide +kernel⟩ rfl ⟨_, _, _, rfl, rfl⟩ dX12_init_41 (by decide +kernel) (by decide +kernel) (by decide) (Or.inr ⟨_, rfl⟩) (j := 49) (τ := cS143) rfl ?_
  refine Z.aload_n B dX12_init_44 (v := .ref 45) rfl rfl ?_
  refine Z.iconst B dX12_init_45 (v := nI 4) rfl ?_
  refine Z.newI (σ := cS143) B (n := 4) dX12_init_46 (by decide) cl143 (zallL (by decide +kernel)) (zallS (by decide +kernel)) (by rw [hn0]; decide +kernel) (by decide) (by decide) ?_
  show Z κ 5 68 cS144 48 [(0, .ref 45)] [.ref 50, .ref 45]
  refine Z.putFR (σ := cS144) B fX12_29_12 (ty := (.array .int)) ⟨_, _, _, rfl, rfl, by decide +kernel⟩ rfl ⟨_, _, _, rfl, rfl⟩ dX12_init_48 (by decide +kernel) (by decide +kernel) (by decide) (Or.inr ⟨_, rfl⟩) (j := 50) (τ := cS145) rfl ?_
  refine Z.aload_n B dX12_init_51 (v := .ref 45) rfl rfl ?_
  refine Z.iconst B dX12_init_52 (v := nI 4) rfl ?_
  refine Z.newI (σ := cS145) B (n := 4) dX12_init_53 (by decide) cl145 (zallL (by decide +kernel)) (zallS (by decide +kernel)) (by rw [hn0]; decide +kernel) (by decide) (by decide) ?_
  show Z κ 6 72 cS146 55 [(0, .ref 45)] [.ref 51, .ref 45]
  refine Z.putFR (σ := cS146) B fX12_32_12 (ty := (.array .int)) ⟨_, _, _, rfl, rfl, by decide +kernel⟩ rfl ⟨_, _, _, rfl, rfl⟩ dX12_init_55 (by decide +kernel) (by decide +kernel) (by decide) (Or.inr ⟨_, rfl⟩) (j := 51) (τ := cS147) rfl ?_
  refine Z.aload_n B dX12_init_58 (v := .ref 45) rfl rfl ?_
  refine Z.bipush B dX12_init_59 (v := nI 8) rfl ?_
  refine Z.newI (σ := cS147) B (n := 8) dX12_init_61 (by decide) cl147 (zallL (by decide +kernel)) (zallS (by decide +kernel)) (by rw [hn0]; decide +kernel) (by decide) (by decide) ?_
  show Z κ 7 80 cS148 63 [(0, .ref 45)] [.ref 52, .ref 45]
  refine Z.putFR (σ := cS148) B fX12_35_12 (ty := (.array .int)) ⟨_, _, _, rfl, rfl, by decide +kernel⟩ rfl ⟨_, _, _, rfl, rfl⟩ dX12_init_63 (by decide +kernel) (by decide +kernel) (by decide) (Or.inr ⟨_, rfl⟩) (j := 52) (τ := cS149) rfl ?_
  refine Z.aload_n B dX12_init_66 (v := .ref 45) rfl rfl ?_
  refine Z.bipush B dX12_init_67 (v := nI 8) rfl ?_
  refine Z.newI (σ := cS149) B (n := 8) dX12_init_69 (by decide) cl149 (zallL (by decide +kernel)) (zallS (by decide +kernel)) (by rw [hn0]; decide +kernel) (by decide) (by decide) ?_
  show Z κ 8 88 cS150 71 [(0, .ref 45)] [.ref 53, .ref 45]
  refine Z.putFR (σ := cS150) B fX12_38_12 (ty := (.array .int)) ⟨_, _, _, rfl, rfl, by decide +kernel⟩ rfl ⟨_, _, _, rfl, rfl⟩ dX12_init_71 (by decide +kernel) (by decide +kernel) (by decide) (Or.inr ⟨_, rfl⟩) (j := 53) (τ := cS151) rfl ?_
  refine Z.aload_n B dX12_init_74 (v := .ref 45) rfl rfl ?_
  refine Z.bipush B dX12_init_75 (v := nI 8) rfl ?_
  refine Z.newI (σ := cS151) B (n := 8) dX12_init_77 (by decide) cl151 (zallL (by decide +kernel)) (zallS (by decide +kernel)) (by rw [hn0]; decide +kernel) (by decide) (by decide) ?_
  show Z κ 9 96 cS152 79 [(0, .ref 45)] [.ref 54, .ref 45]
  refine Z.putFR (σ := cS152) B fX12_41_12 (ty := (.array .int)) ⟨_, _, _, rfl, rfl, by decide +kernel⟩ rfl ⟨_, _, _, rfl, rfl⟩ dX12_init_79 (by decide +kernel) (by decide +kernel) (by decide) (Or.inr ⟨_, rfl⟩) (j := 54) (τ := cS153) rfl ?_
  refine Z.aload_n B dX12_init_82 (v := .ref 45) rfl rfl ?_
  refine Z.bipush B dX12_init_83 (v := nI 8) rfl ?_
  refine Z.newI (σ := cS153) B (n := 8) dX12_init_85 (by decide) cl153 (zallL (by decide +kernel)) (zallS (by decide +kernel)) (by rw [hn0]; decide +kernel) (by decide) (by decide) ?_
  show Z κ 10 104 cS154 87 [(0, .ref 45)] [.ref 55, .ref 45]
  refine Z.putFR (σ := cS154) B fX12_44_12 (ty := (.array .int)) ⟨_, _, _, rfl, rfl, by decide +kernel⟩ rfl ⟨_, _, _, rfl, rfl⟩ dX12_init_87 (by decide +kernel) (by decide +kernel) (by decide) (Or.inr ⟨_, rfl⟩) (j := 55) (τ := cS155) rfl ?_
  refine Z.aload_n B dX12_init_90 (v := .ref 45) rfl rfl ?_
  refine Z.bipush B dX12_init_91 (v := nI 8) rfl ?_
  refine Z.newI (σ := cS155) B (n := 8) dX12_init_93 (by decide) cl155 (zallL (by decide +kernel)) (zallS (by decide +kernel)) (by rw [hn0]; decide +kernel) (by decide) (by decide) ?_
  show Z κ 11 112 cS156 95 [(0, .ref 45)] [.ref 56, .ref 45]
  refine Z.putFR (σ := cS156) B fX12_47_12 (ty := (.array .int)) ⟨_, _, _, rfl, rfl, by decide +kernel⟩ rfl ⟨_, _, _, rfl, rfl⟩ dX12_init_95 (by decide +kernel) (by decide +kernel) (by decide) (Or.inr ⟨_, rfl⟩) (j := 56) (τ := cS157) rfl ?_
  refine Z.aload_n B dX12_init_98 (v := .ref 45) rfl rfl ?_
  refine Z.bipush B dX12_init_99 (v := nI 8) rfl ?_
  refine Z.newI (σ := cS157) B (n := 8) dX12_init_101 (by decide) cl157 (zallL (by decide +kernel)) (zallS (by decide +kernel)) (by rw [hn0]; decide +kernel) (by decide) (by decide) ?_
  show Z κ 12 120 cS158 103 [(0, .ref 45)] [.ref 57, .ref 45]
  refine Z.putFR (σ := cS158) B fX12_50_12 (ty := (.array .int)) ⟨_, _, _, rfl, rfl, by decide +kernel⟩ rfl ⟨_, _, _, rfl, rfl⟩ dX12_init_103 (by decide +kernel) (by decide +kernel) (by decide) (Or.inr ⟨_, rfl⟩) (j := 57) (τ := cS159) rfl ?_
  refine Z.aload_n B dX12_init_106 (v := .ref 45) rfl rfl ?_
  refine Z.sipush B dX12_init_107 (v := nI 1280) rfl ?_
  refine Z.newL (σ := cS159) B (n := 1280) dX12_init_110 (by decide) cl159 (zallL (by decide +kernel)) (zallS (by decide +kernel)) (by rw [hn0]; decide +kernel) (by decide) (by decide) ?_
  show Z κ 13 1400 cS160 112 [(0, .ref 45)] [.ref 58, .ref 45]
  refine Z.putFR (σ := cS160) B fX12_53_12 (ty := (.array .long)) ⟨_, _, _, rfl, rfl, by decide +kernel⟩ rfl ⟨_, _, _, rfl, rfl⟩ dX12_init_112 (by decide +kernel) (by decide +kernel) (by decide) (Or.inr ⟨_, rfl⟩) (j := 58) (τ := cS161) rfl ?_
  refine Z.aload_n B dX12_init_115 (v := .ref 45) rfl rfl ?_
  refine Z.sipush B dX12_init_116 (v := nI 160) rfl ?_
  refine Z.newL (σ := cS161) B (n := 160) dX12_init_119 (by decide) cl161 (zallL (by decide +kernel)) (zallS (by decide +kernel)) (by rw [hn0]; decide +kernel) (by decide) (by decide) ?_
  show Z κ 14 1560 cS162 121 [(0, .ref 45)] [.ref 59, .ref 45]
  refine Z.putFR (σ := cS162) B fX12_57_12 (ty := (.array .long)) ⟨_, _, _, rfl, rfl, by decide +kernel⟩ rfl ⟨_, _, _, rfl, rfl⟩ dX12_init_121 (by decide +kernel) (by decide +kernel) (by decide) (Or.inr ⟨_, rfl⟩) (j := 59) (τ := cS163) rfl ?_
  refine Z.aload_n B dX12_init_124 (v := .ref 45) rfl rfl ?_
  refine Z.bipush B dX12_init_125 (v := nI 26) rfl ?_
  refine Z.newI (σ := cS163) B (n := 26) dX12_init_127 (by decide) cl163 (zallL (by decide +kernel)) (zallS (by decide +kernel)) (by rw [hn0]; decide +kernel) (by decide) (by decide) ?_
  show Z κ 15 1586 cS164 129 [(0, .ref 45)] [.ref 60, .ref 45]
  refine Z.dup B dX12_init_129 rfl ?_
  refine Z.iconst B dX12_init_130 (v := nI 0) rfl ?_
  refine Z.bipush B dX12_init_131 (v := nI 99) rfl ?_
  refine Z.iast (σ := cS164) B (n := 26) dX12_init_133 (by decide +kernel) (by decide +kernel) (by decide +kernel) (by decide) (j := 0) rfl (by decide) (τ := cS165) rfl ?_
  refine Z.dup B dX12_init_134 rfl ?_
  refine Z.iconst B dX12_init_135 (v := nI 1) rfl ?_
  refine Z.bipush B dX12_init_136 (v := nI 111) rfl ?_
  refine Z.iast (σ := cS165) B (n := 26) dX12_init_138 (by decide +kernel) (by decide +kernel) (by decide +kernel) (by decide) (j := 1) rfl (by decide) (τ := cS166) rfl ?_
  refine Z.dup B dX12_init_139 rfl ?_
  refine Z.iconst B dX12_init_140 (v := nI 2) rfl ?_
  refine Z.bipush B dX12_init_141 (v := nI 109) rfl ?_
  refine Z.iast (σ := cS166) B (n := 26) dX12_init_143 (by decide +kernel) (by decide +kernel) (by decide +kernel) (by decide) (j := 2) rfl (by decide) (τ := cS167) rfl ?_
  refine Z.dup B dX12_init_144 rfl ?_
  refine Z.iconst B dX12_init_145 (v := nI 3) rfl ?_
  refine Z.bipush B dX12_init_146 (v := nI 101) rfl ?_
  refine Z.iast (σ := cS167) B (n := 26) dX12_init_148 (by decide +kernel) (by decide +kernel) (by decide +kernel) (by decide) (j := 3) rfl (by decide) (τ := cS168) rfl ?_
  refine Z.dup B dX12_init_149 rfl ?_
  refine Z.iconst B dX12_init_150 (v := nI 4) rfl ?_
  refine Z.bipush B dX12_init_151 (v := nI 114) rfl ?_
  refine Z.iast (σ := cS168) B (n := 26) dX12_init_153 (by decide +kernel) (by decide +kernel) (by decide +kernel) (by decide) (j := 4) rfl (by decide) (τ := cS169) rfl ?_
  refine Z.dup B dX12_init_154 rfl ?_
  refine Z.iconst B dX12_init_155 (v := nI 5) rfl ?_
  refine Z.bipush B dX12_init_156 (v := nI 32) rfl ?_
  refine Z.iast (σ := cS169) B (n := 26) dX12_init_158 (by decide +kernel) (by decide +kernel) (by decide +kernel) (by decide) (j := 5) rfl (by decide) (τ := cS170) rfl ?_
  refine Z.dup B dX12_init_159 rfl ?_
  refine Z.bipush B dX12_init_160 (v := nI 6) rfl ?_
  refine Z.iconst B dX12_init_162 (v := nI 0) rfl ?_
  refine Z.iast (σ := cS170) B (n := 26) dX12_init_163 (by decide +kernel) (by decide +kernel) (by decide +kernel) (by decide) (j := 6) rfl (by decide) (τ := cS171) rfl ?_
  refine Z.dup B dX12_init_164 rfl ?_
  refine Z.bipush B dX12_init_165 (v := nI 7) rfl ?_
  refine Z.bipush B dX12_init_167 (v := nI 97) rfl ?_
  refine Z.iast (σ := cS171) B (n := 26) dX12_init_169 (by decide +kernel) (by decide +kernel) (by decide +kernel) (by decide) (j := 7) rfl (by decide) (τ := cS172) rfl ?_
  refine Z.dup B dX12_init_170 rfl ?_
  refine Z.bipush B dX12_init_171 (v := nI 8) rfl ?_
  refine Z.bipush B dX12_init_173 (v := nI 115) rfl ?_
  refine Z.iast (σ := cS172) B (n := 26) dX12_init_175 (by decide +kernel) (by decide +kernel) (by decide +kernel) (by decide) (j := 8) rfl (by decide) (τ := cS173) rfl ?_
  refine Z.dup B dX12_init_176 rfl ?_
  refine Z.bipush B dX12_init_177 (v := nI 9) rfl ?_
  refine Z.bipush B dX12_init_179 (v := nI 107) rfl ?_
  refine Z.iast (σ := cS173) B (n := 26) dX12_init_181 (by decide +kernel) (by decide +kernel) (by decide +kernel) (by decide) (j := 9) rfl (by decide) (τ := cS174) rfl ?_
  refine Z.dup B dX12_init_182 rfl ?_
  refine Z.bipush B dX12_init_183 (v := nI 10) rfl ?_
  refine Z.bipush B dX12_init_185 (v := nI 101) rfl ?_
  refine Z.iast (σ := cS174) B (n := 26) dX12_init_187 (by decide +kernel) (by decide +kernel) (by decide +kernel) (by decide) (j := 10) rfl (by decide) (τ := cS175) rfl ?_
  refine Z.dup B dX12_init_188 rfl ?_
  refine Z.bipush B dX12_init_189 (v := nI 11) rfl ?_
  refine Z.bipush B dX12_init_191 (v := nI 114) rfl ?_
  refine Z.iast (σ := cS175) B (n := 26) dX12_init_193 (by decide +kernel) (by decide +kernel) (by decide +kernel) (by decide) (j := 11) rfl (by decide) (τ := cS176) rfl ?_
  refine Z.dup B dX12_init_194 rfl ?_
  refine Z.bipush B dX12_init_195 (v := nI 12) rfl ?_
  refine Z.bipush B dX12_init_197 (v := nI 32) rfl ?_
  refine Z.iast (σ := cS176) B (n := 26) dX12_init_199 (by decide +kernel) (by decide +kernel) (by decide +kernel) (by decide) (j := 12) rfl (by decide) (τ := cS177) rfl ?_
  refine Z.dup B dX12_init_200 rfl ?_
  refine Z.bipush B dX12_init_201 (v := nI 13) rfl ?_
  refine Z.iconst B dX12_init_203 (v := nI 0) rfl ?_
  refine Z.iast (σ := cS177) B (n := 26) dX12_init_204 (by decide +kernel) (by decide +kernel) (by decide +kernel) (by decide) (j := 13) rfl (by decide) (τ := cS178) rfl ?_
  refine Z.dup B dX12_init_205 rfl ?_
  refine Z.bipush B dX12_init_206 (v := nI 14) rfl ?_
  refine Z.bipush B dX12_init_208 (v := nI 119) rfl ?_
  refine Z.iast (σ := cS178) B (n := 26) dX12_init_210 (by decide +kernel) (by decide +kernel) (by decide +kernel) (by decide) (j := 14) rfl (by decide) (τ := cS179) rfl ?_
  refine Z.dup B dX12_init_211 rfl ?_
  refine Z.bipush B dX12_init_212 (v := nI 15) rfl ?_
  refine Z.bipush B dX12_init_214 (v := nI 97) rfl ?_
  refine Z.iast (σ := cS179) B (n := 26) dX12_init_216 (by decide +kernel) (by decide +kernel) (by decide +kernel) (by decide) (j := 15) rfl (by decide) (τ := cS180) rfl ?_
  refine Z.dup B dX12_init_217 rfl ?_
  refine Z.bipush B dX12_init_218 (v := nI 16) rfl ?_
  refine Z.bipush B dX12_init_220 (v := nI 121) rfl ?_
  refine Z.iast (σ := cS180) B (n := 26) dX12_init_222 (by decide +kernel) (by decide +kernel) (by decide +kernel) (by decide) (j := 16) rfl (by decide) (τ := cS181) rfl ?_
  refine Z.dup B dX12_init_223 rfl ?_
  refine Z.bipush B dX12_init_224 (v := nI 17) rfl ?_
  refine Z.bipush B dX12_init_226 (v := nI 32) rfl ?_
  refine Z.iast (σ := cS181) B (n := 26) dX12_init_228 (by decide +kernel) (by decide +kernel) (by decide +kernel) (by decide) (j := 17) rfl (by decide) (τ := cS182) rfl ?_
  refine Z.dup B dX12_init_229 rfl ?_
  refine Z.bipush B dX12_init_230 (v := nI 18) rfl ?_
  refine Z.iconst B dX12_init_232 (v := nI 0) rfl ?_
  refine Z.iast (σ := cS182) B (n := 26) dX12_init_233 (by decide +kernel) (by decide +kernel) (by decide +kernel) (by decide) (j := 18) rfl (by decide) (τ := cS183) rfl ?_
  refine Z.dup B dX12_init_234 rfl ?_
  refine Z.bipush B dX12_init_235 (v := nI 19) rfl ?_
  refine Z.bipush B dX12_init_237 (v := nI 99) rfl ?_
  refine Z.iast (σ := cS183) B (n := 26) dX12_init_239 (by decide +kernel) (by decide +kernel) (by decide +kernel) (by decide) (j := 19) rfl (by decide) (τ := cS184) rfl ?_
  refine Z.dup B dX12_init_240 rfl ?_
  refine Z.bipush B dX12_init_241 (v := nI 20) rfl ?_
  refine Z.bipush B dX12_init_243 (v := nI 104) rfl ?_
  refine Z.iast (σ := cS184) B (n := 26) dX12_init_245 (by decide +kernel) (by decide +kernel) (by decide +kernel) (by decide) (j := 20) rfl (by decide) (τ := cS185) rfl ?_
  refine Z.dup B dX12_init_246 rfl ?_
  refine Z.bipush B dX12_init_247 (v := nI 21) rfl ?_
  refine Z.bipush B dX12_init_249 (v := nI 105) rfl ?_
  refine Z.iast (σ := cS185) B (n := 26) dX12_init_251 (by decide +kernel) (by decide +kernel) (by decide +kernel) (by decide) (j := 21) rfl (by decide) (τ := cS186) rfl ?_
  refine Z.dup B dX12_init_252 rfl ?_
  refine Z.bipush B dX12_init_253 (v := nI 22) rfl ?_
  refine Z.bipush B dX12_init_255 (v := nI 101) rfl ?_
  refine Z.iast (σ := cS186) B (n := 26) dX12_init_257 (by decide +kernel) (by decide +kernel) (by decide +kernel) (by decide) (j := 22) rfl (by decide) (τ := cS187) rfl ?_
  refine Z.dup B dX12_init_258 rfl ?_
  refine Z.bipush B dX12_init_259 (v := nI 23) rfl ?_
  refine Z.bipush B dX12_init_261 (v := nI 102) rfl ?_
  refine Z.iast (σ := cS187) B (n := 26) dX12_init_263 (by decide +kernel) (by decide +kernel) (by decide +kernel) (by decide) (j := 23) rfl (by decide) (τ := cS188) rfl ?_
  refine Z.dup B dX12_init_264 rfl ?_
  refine Z.bipush B dX12_init_265 (v := nI 24) rfl ?_
  refine Z.bipush B dX12_init_267 (v := nI 32) rfl ?_
  refine Z.iast (σ := cS188) B (n := 26) dX12_init_269 (by decide +kernel) (by decide +kernel) (by decide +kernel) (by decide) (j := 24) rfl (by decide) (τ := cS189) rfl ?_
  refine Z.dup B dX12_init_270 rfl ?_
  refine Z.bipush B dX12_init_271 (v := nI 25) rfl ?_
  refine Z.iconst B dX12_init_273 (v := nI 0) rfl ?_
  refine Z.iast (σ := cS189) B (n := 26) dX12_init_274 (by decide +kernel) (by decide +kernel) (by decide +kernel) (by decide) (j := 25) rfl (by decide) (τ := cS190) rfl ?_
  refine Z.putFR (σ := cS190) B fX12_60_12 (ty := (.array .int)) ⟨_, _, _, rfl, rfl, by decide +kernel⟩ rfl ⟨_, _, _, rfl, rfl⟩ dX12_init_275 (by decide +kernel) (by decide +kernel) (by decide) (Or.inr ⟨_, rfl⟩) (j := 60) (τ := cS191) rfl ?_
  refine Z.aload_n B dX12_init_278 (v := .ref 45) rfl rfl ?_
  refine Z.bipush B dX12_init_279 (v := nI 6) rfl ?_
  refine Z.newI (σ := cS191) B (n := 6) dX12_init_281 (by decide) cl191 (zallL (by decide +kernel)) (zallS (by decide +kernel)) (by rw [hn0]; decide +kernel) (by decide) (by decide) ?_
  show Z κ 16 1592 cS192 283 [(0, .ref 45)] [.ref 61, .ref 45]
  refine Z.putFR (σ := cS192) B fX12_63_12 (ty := (.array .int)) ⟨_, _, _, rfl, rfl, by decide +kernel⟩ rfl ⟨_, _, _, rfl, rfl⟩ dX12_init_283 (by decide +kernel) (by decide +kernel) (by decide) (Or.inr ⟨_, rfl⟩) (j := 61) (τ := cS193) rfl ?_
  refine Z.aload_n B dX12_init_286 (v := .ref 45) rfl rfl ?_
  refine Z.bipush B dX12_init_287 (v := nI 90) rfl ?_
  refine Z.newI (σ := cS193) B (n := 90) dX12_init_289 (by decide) cl193 (zallL (by decide +kernel)) (zallS (by decide +kernel)) (by rw [hn0]; decide +kernel) (by decide) (by decide) ?_
  show Z κ 17 1682 cS194 291 [(0, .ref 45)] [.ref 62, .ref 45]
  refine Z.putFR (σ := cS194) B fX12_66_12 (ty := (.array .int)) ⟨_, _, _, rfl, rfl, by decide +kernel⟩ rfl ⟨_, _, _, rfl, rfl⟩ dX12_init_291 (by decide +kernel) (by decide +kernel) (by decide) (Or.inr ⟨_, rfl⟩) (j := 62) (τ := cS195) rfl ?_
  refine Z.aload_n B dX12_init_294 (v := .ref 45) rfl rfl ?_
  refine Z.bipush B dX12_init_295 (v := nI 90) rfl ?_
  refine Z.newI (σ := cS195) B (n := 90) dX12_init_297 (by decide) cl195 (zallL (by decide +kernel)) (zallS (by decide +kernel)) (by rw [hn0]; decide +kernel) (by decide) (by decide) ?_
  show Z κ 18 1772 cS196 299 [(0, .ref 45)] [.ref 63, .ref 45]
  refine Z.putFR (σ := cS196) B fX12_69_12 (ty := (.array .int)) ⟨_, _, _, rfl, rfl, by decide +kernel⟩ rfl ⟨_, _, _, rfl, rfl⟩ dX12_init_299 (by decide +kernel) (by decide +kernel) (by decide) (Or.inr ⟨_, rfl⟩) (j := 63) (τ := cS197) rfl ?_
  refine Z.aload_n B dX12_init_302 (v := .ref 45) rfl rfl ?_
  refine Z.iconst B dX12_init_303 (v := (-1)) rfl ?_
  refine Z.putI (σ := cS197) B fX12_72_12 (ty := .int) ⟨_, _, _, rfl, rfl, by decide +kernel⟩ dX12_init_304 (by decide +kernel) (by decide +kernel) (by decide) rfl rfl (τ := cS198) rfl ?_
  refine Z.aload_n B dX12_init_307 (v := .ref 45) rfl rfl ?_
  refine Z.bipush B dX12_init_308 (v := nI 8) rfl ?_
  refine Z.newI (σ := cS198) B (n := 8) dX12_init_310 (by decide) cl198 (zallL (by decide +kernel)) (zallS (by decide +kernel)) (by rw [hn0]; decide +kernel) (by decide) (by decide) ?_
  show Z κ 19 1780 cS199 312 [(0, .ref 45)] [.ref 64, .ref 45]
  refine Z.putFR (σ := cS199) B fX12_75_12 (ty := (.array .int)) ⟨_, _, _, rfl, rfl, by decide +kernel⟩ rfl ⟨_, _, _, rfl, rfl⟩ dX12_init_312 (by decide +kernel) (by decide +kernel) (by decide) (Or.inr ⟨_, rfl⟩) (j := 64) (τ := cS200) rfl ?_
  refine Z.aload_n B dX12_init_315 (v := .ref 45) rfl rfl ?_
  refine Z.bipush B dX12_init_316 (v := nI 20) rfl ?_
  refine Z.newI (σ := cS200) B (n := 20) dX12_init_318 (by decide) cl200 (zallL (by decide +kernel)) (zallS (by decide +kernel)) (by rw [hn0]; decide +kernel) (by decide) (by decide) ?_
  show Z κ 20 1800 cS201 320 [(0, .ref 45)] [.ref 65, .ref 45]
  refine Z.putFR (σ := cS201) B fX12_78_12 (ty := (.array .int)) ⟨_, _, _, rfl, rfl, by decide +kernel⟩ rfl ⟨_, _, _, rfl, rfl⟩ dX12_init_320 (by decide +kernel) (by decide +kernel) (by decide) (Or.inr ⟨_, rfl⟩) (j := 65) (τ := cS202) rfl ?_
  refine Z.vret B Rt dX12_init_323 rfl (by decide) (by decide) ?_
  exact ⟨rfl, rfl⟩
abbrev cM0 : zSt := cS133
abbrev cSM : zSt := cS202
theorem cSM_n : zN cSM = 66 := by decide +kernel
theorem cSM_k : ∀ k, k < 66 → zK cSM k = layK k := by decide +kernel
theorem cSM_l : ∀ k, k < 66 → zL cSM k = layL k := by decide +kernel

