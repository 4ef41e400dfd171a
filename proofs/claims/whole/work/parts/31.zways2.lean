/-! ways are made -/
def zr66 : Value → Bool
  | .ref k => Nat.blt k 66
  | _ => true
theorem zall66L {σ : zSt} {L : List (Nat × Value)} (h : (L.all fun q => zr66 q.2) = true) (hl : 66 ≤ zN σ) : ∀ q ∈ L, zLt (zN σ) q.2 := by
  intro q hq
  have h1 := List.all_eq_true.mp h q hq
  cases hv : q.2 with
  | ref k =>
    rw [hv] at h1
    exact Nat.lt_of_lt_of_le (Nat.lt_of_lt_of_le (Nat.le_of_ble_eq_true h1) (Nat.le_refl _)) hl
  | _ => trivial
theorem zall66S {σ : zSt} {S : List Value} (h : S.all zr66 = true) (hl : 66 ≤ zN σ) : ∀ v ∈ S, zLt (zN σ) v := by
  intro v hv
  have h1 := List.all_eq_true.mp h v hv
  cases v with
  | ref k => exact Nat.lt_of_lt_of_le (Nat.lt_of_lt_of_le (Nat.le_of_ble_eq_true h1) (Nat.le_refl _)) hl
  | _ => trivial
/-- behind the making of a way: of class ci, kind kd, number num, part pa -/
def wS (σ : zSt) (ci kd num pa : Nat) : zSt := zuR (zuX (zNew σ ci 0) (zN σ) (upd (upd (upd (zX (zNew σ ci 0) (zN σ)) 0 (nI kd)) 1 (nI num)) 2 (nI pa))) (zN σ) (va_up (zR (zNew σ ci 0) (zN σ)) 3 (some 18))
theorem wS_o {σ : zSt} {ci kd num pa k : Nat} (hk : k ≠ zN σ) : zK (wS σ ci kd num pa) k = zK σ k ∧ zL (wS σ ci kd num pa) k = zL σ k ∧ zX (wS σ ci kd num pa) k = zX σ k ∧ zY (wS σ ci kd num pa) k = zY σ k ∧ zR (wS σ ci kd num pa) k = zR σ k :=
  ⟨zfu_ne hk, zfu_ne hk, (zfu_ne hk).trans (zfu_ne hk), zfu_ne hk, (zfu_ne hk).trans (zfu_ne hk)⟩
theorem wS_n {σ : zSt} {ci kd num pa : Nat} : zN (wS σ ci kd num pa) = zN σ + 1 ∧ zK (wS σ ci kd num pa) (zN σ) = ci ∧ zX (wS σ ci kd num pa) (zN σ) 0 = nI kd ∧ zX (wS σ ci kd num pa) (zN σ) 1 = nI num ∧ zX (wS σ ci kd num pa) (zN σ) 2 = nI pa ∧ zR (wS σ ci kd num pa) (zN σ) 3 = some 18 := by
  have hx : zX (wS σ ci kd num pa) (zN σ) = upd (upd (upd (zX (zNew σ ci 0) (zN σ)) 0 (nI kd)) 1 (nI num)) 2 (nI pa) := zfu_self
  have hr : zR (wS σ ci kd num pa) (zN σ) = va_up (zR (zNew σ ci 0) (zN σ)) 3 (some 18) := zfu_self
  refine ⟨rfl, zfu_self, ?_, ?_, ?_, ?_⟩
  · rw [hx]; rfl
  · rw [hx]; rfl
  · rw [hx]; rfl
  · rw [hr]; rfl
theorem Lay.wS {σ : zSt} {ci kd num pa : Nat} (h : Lay σ) : Lay (wS σ ci kd num pa) := by
  have hne : ∀ k, k < 66 → k ≠ zN σ := fun k hk e => by have := h.1; omega
  exact ⟨Nat.le_succ_of_le h.1, fun k hk => ((wS_o (hne k hk)).1).trans (h.2.1 k hk), fun k hk => ((wS_o (hne k hk)).2.1).trans (h.2.2.1 k hk), fun k f hk hf => by rw [(wS_o (hne k hk)).2.2.2.2]; exact h.2.2.2 k f hk hf⟩
/-- behind addWay of the house at h -/
def aW (σ : zSt) (h kd pa y : Nat) : zSt := zuX (zuR (wS σ (zWk kd) kd y pa) (h + 4) (va_up (zR σ (h + 4)) y (some (zN σ)))) h (upd (zX σ h) 7 (nI (y + 1)))

theorem t_init_X9_init_9 {σ : zSt} (hl : Lay σ) {k kd num pa : Nat} (hk : k < zN σ) (hK : zK σ k = 9) : Dt mX9_init [.ref k, .int (nI kd), .int (nI num), .int (nI pa), .ref 18] σ (none) (zuR (zuX σ k (upd (upd (upd (zX σ k) 0 (nI kd)) 1 (nI num)) 2 (nI pa))) k (va_up (zR σ k) 3 (some 18))) := by
  refine Dt.of (by decide) (Nat.le_of_ble_eq_true rfl) fun κ B Rt => ?_
  show Z κ 0 0 σ 0 [(0, .ref k), (1, .int (nI kd)), (2, .int (nI num)), (3, .int (nI pa)), (4, .ref 18)] []
  refine Z.aload_n B dX9_init_0 (v := .ref k) rfl rfl ?_
  refine Z.objInit B dX9_init_1 kX9_3 (by decide) (Nat.le_of_ble_eq_true rfl) ?_
  refine Z.aload_n B dX9_init_4 (v := .ref k) rfl rfl ?_
  refine Z.iload_n B dX9_init_5 (x := nI kd) rfl ?_
  refine Z.putFI (σ := σ) B fX9_9_9 (ty := .int) ⟨_, _, _, rfl, rfl, by decide +kernel⟩ rfl ⟨_, _, _, rfl, rfl⟩ dX9_init_6 hk hK (by decide) rfl rfl (τ := (zuX σ k (upd (zX σ k) 0 (nI kd)))) rfl ?_
  refine Z.aload_n B dX9_init_9 (v := .ref k) rfl rfl ?_
  refine Z.iload_n B dX9_init_10 (x := nI num) rfl ?_
  refine Z.putFI (σ := (zuX σ k (upd (zX σ k) 0 (nI kd)))) B fX9_15_9 (ty := .int) ⟨_, _, _, rfl, rfl, by decide +kernel⟩ rfl ⟨_, _, _, rfl, rfl⟩ dX9_init_11 hk hK (by decide) rfl rfl (τ := (zuX σ k (upd (upd (zX σ k) 0 (nI kd)) 1 (nI num)))) (by simp only [zX_self, zuX_uX]) ?_
  refine Z.aload_n B dX9_init_14 (v := .ref k) rfl rfl ?_
  refine Z.iload_n B dX9_init_15 (x := nI pa) rfl ?_
  refine Z.putFI (σ := (zuX σ k (upd (upd (zX σ k) 0 (nI kd)) 1 (nI num)))) B fX9_18_9 (ty := .int) ⟨_, _, _, rfl, rfl, by decide +kernel⟩ rfl ⟨_, _, _, rfl, rfl⟩ dX9_init_16 hk hK (by decide) rfl rfl (τ := (zuX σ k (upd (upd (upd (zX σ k) 0 (nI kd)) 1 (nI num)) 2 (nI pa)))) (by simp only [zX_self, zuX_uX]) ?_
  refine Z.aload_n B dX9_init_19 (v := .ref k) rfl rfl ?_
  refine Z.aload B dX9_init_20 (v := .ref 18) rfl rfl ?_
  refine Z.putFR (σ := (zuX σ k (upd (upd (upd (zX σ k) 0 (nI kd)) 1 (nI num)) 2 (nI pa)))) B fX9_21_9 (ty := (.object "FourAskOne$Trace")) ⟨_, _, _, rfl, rfl, by decide +kernel⟩ rfl ⟨_, _, _, rfl, rfl⟩ dX9_init_22 hk hK (by decide) (Or.inl ⟨_, rfl⟩) (j := 18) (τ := (zuR (zuX σ k (upd (upd (upd (zX σ k) 0 (nI kd)) 1 (nI num)) 2 (nI pa))) k (va_up (zR σ k) 3 (some 18)))) rfl ?_
  refine Z.vret B Rt dX9_init_25 rfl (by decide) (by decide) ?_
  exact ⟨rfl, rfl⟩

theorem t_init_X9_init_7 {σ : zSt} (hl : Lay σ) {k kd num pa : Nat} (hk : k < zN σ) (hK : zK σ k = 7) : Dt mX9_init [.ref k, .int (nI kd), .int (nI num), .int (nI pa), .ref 18] σ (none) (zuR (zuX σ k (upd (upd (upd (zX σ k) 0 (nI kd)) 1 (nI num)) 2 (nI pa))) k (va_up (zR σ k) 3 (some 18))) := by
  refine Dt.of (by decide) (Nat.le_of_ble_eq_true rfl) fun κ B Rt => ?_
  show Z κ 0 0 σ 0 [(0, .ref k), (1, .int (nI kd)), (2, .int (nI num)), (3, .int (nI pa)), (4, .ref 18)] []
  refine Z.aload_n B dX9_init_0 (v := .ref k) rfl rfl ?_
  refine Z.objInit B dX9_init_1 kX9_3 (by decide) (Nat.le_of_ble_eq_true rfl) ?_
  refine Z.aload_n B dX9_init_4 (v := .ref k) rfl rfl ?_
  refine Z.iload_n B dX9_init_5 (x := nI kd) rfl ?_
  refine Z.putFI (σ := σ) B fX9_9_7 (ty := .int) ⟨_, _, _, rfl, rfl, by decide +kernel⟩ rfl ⟨_, _, _, rfl, rfl⟩ dX9_init_6 hk hK (by decide) rfl rfl (τ := (zuX σ k (upd (zX σ k) 0 (nI kd)))) rfl ?_
  refine Z.aload_n B dX9_init_9 (v := .ref k) rfl rfl ?_
  refine Z.iload_n B dX9_init_10 (x := nI num) rfl ?_
  refine Z.putFI (σ := (zuX σ k (upd (zX σ k) 0 (nI kd)))) B fX9_15_7 (ty := .int) ⟨_, _, _, rfl, rfl, by decide +kernel⟩ rfl ⟨_, _, _, rfl, rfl⟩ dX9_init_11 hk hK (by decide) rfl rfl (τ := (zuX σ k (upd (upd (zX σ k) 0 (nI kd)) 1 (nI num)))) (by simp only [zX_self, zuX_uX]) ?_
  refine Z.aload_n B dX9_init_14 (v := .ref k) rfl rfl ?_
  refine Z.iload_n B dX9_init_15 (x := nI pa) rfl ?_
  refine Z.putFI (σ := (zuX σ k (upd (upd (zX σ k) 0 (nI kd)) 1 (nI num)))) B fX9_18_7 (ty := .int) ⟨_, _, _, rfl, rfl, by decide +kernel⟩ rfl ⟨_, _, _, rfl, rfl⟩ dX9_init_16 hk hK (by decide) rfl rfl (τ := (zuX σ k (upd (upd (upd (zX σ k) 0 (nI kd)) 1 (nI num)) 2 (nI pa)))) (by simp only [zX_self, zuX_uX]) ?_
  refine Z.aload_n B dX9_init_19 (v := .ref k) rfl rfl ?_
  refine Z.aload B dX9_init_20 (v := .ref 18) rfl rfl ?_
  refine Z.putFR (σ := (zuX σ k (upd (upd (upd (zX σ k) 0 (nI kd)) 1 (nI num)) 2 (nI pa)))) B fX9_21_7 (ty := (.object "FourAskOne$Trace")) ⟨_, _, _, rfl, rfl, by decide +kernel⟩ rfl ⟨_, _, _, rfl, rfl⟩ dX9_init_22 hk hK (by decide) (Or.inl ⟨_, rfl⟩) (j := 18) (τ := (zuR (zuX σ k (upd (upd (upd (zX σ k) 0 (nI kd)) 1 (nI num)) 2 (nI pa))) k (va_up (zR σ k) 3 (some 18)))) rfl ?_
  refine Z.vret B Rt dX9_init_25 rfl (by decide) (by decide) ?_
  exact ⟨rfl, rfl⟩

theorem t_init_X7_init_7 {σ : zSt} (hl : Lay σ) {k kd num pa : Nat} (hk : k < zN σ) (hK : zK σ k = 7) : Dt mX7_init [.ref k, .int (nI kd), .int (nI num), .int (nI pa), .ref 18] σ (none) (zuR (zuX σ k (upd (upd (upd (zX σ k) 0 (nI kd)) 1 (nI num)) 2 (nI pa))) k (va_up (zR σ k) 3 (some 18))) := by
  refine Dt.of (by decide) (Nat.le_of_ble_eq_true rfl) fun κ B Rt => ?_
  show Z κ 0 0 σ 0 [(0, .ref k), (1, .int (nI kd)), (2, .int (nI num)), (3, .int (nI pa)), (4, .ref 18)] []
  refine Z.aload_n B dX7_init_0 (v := .ref k) rfl rfl ?_
  refine Z.iload_n B dX7_init_1 (x := nI kd) rfl ?_
  refine Z.iload_n B dX7_init_2 (x := nI num) rfl ?_
  refine Z.iload_n B dX7_init_3 (x := nI pa) rfl ?_
  refine Z.aload B dX7_init_4 (v := .ref 18) rfl rfl ?_
  refine Z.callIN (σ := σ) B (M' := mX9_init) (as := [.int (nI kd), .int (nI num), .int (nI pa), .ref 18]) (st := []) dX7_init_6 wX9_init iX9_init kX7_3 rfl rfl (t_init_X9_init_7 (σ := σ) hl hk hK) rfl rfl (by decide) (by decide) (Nat.le_of_ble_eq_true rfl) (by decide) (by decide) ?_
  refine Z.eqσ (τ := (zuR (zuX σ k (upd (upd (upd (zX σ k) 0 (nI kd)) 1 (nI num)) 2 (nI pa))) k (va_up (zR σ k) 3 (some 18)))) rfl ?_
  refine Z.vret B Rt dX7_init_9 rfl (by decide) (by decide) ?_
  exact ⟨rfl, rfl⟩

theorem t_init_X9_init_4 {σ : zSt} (hl : Lay σ) {k kd num pa : Nat} (hk : k < zN σ) (hK : zK σ k = 4) : Dt mX9_init [.ref k, .int (nI kd), .int (nI num), .int (nI pa), .ref 18] σ (none) (zuR (zuX σ k (upd (upd (upd (zX σ k) 0 (nI kd)) 1 (nI num)) 2 (nI pa))) k (va_up (zR σ k) 3 (some 18))) := by
  refine Dt.of (by decide) (Nat.le_of_ble_eq_true rfl) fun κ B Rt => ?_
  show Z κ 0 0 σ 0 [(0, .ref k), (1, .int (nI kd)), (2, .int (nI num)), (3, .int (nI pa)), (4, .ref 18)] []
  refine Z.aload_n B dX9_init_0 (v := .ref k) rfl rfl ?_
  refine Z.objInit B dX9_init_1 kX9_3 (by decide) (Nat.le_of_ble_eq_true rfl) ?_
  refine Z.aload_n B dX9_init_4 (v := .ref k) rfl rfl ?_
  refine Z.iload_n B dX9_init_5 (x := nI kd) rfl ?_
  refine Z.putFI (σ := σ) B fX9_9_4 (ty := .int) ⟨_, _, _, rfl, rfl, by decide +kernel⟩ rfl ⟨_, _, _, rfl, rfl⟩ dX9_init_6 hk hK (by decide) rfl rfl (τ := (zuX σ k (upd (zX σ k) 0 (nI kd)))) rfl ?_
  refine Z.aload_n B dX9_init_9 (v := .ref k) rfl rfl ?_
  refine Z.iload_n B dX9_init_10 (x := nI num) rfl ?_
  refine Z.putFI (σ := (zuX σ k (upd (zX σ k) 0 (nI kd)))) B fX9_15_4 (ty := .int) ⟨_, _, _, rfl, rfl, by decide +kernel⟩ rfl ⟨_, _, _, rfl, rfl⟩ dX9_init_11 hk hK (by decide) rfl rfl (τ := (zuX σ k (upd (upd (zX σ k) 0 (nI kd)) 1 (nI num)))) (by simp only [zX_self, zuX_uX]) ?_
  refine Z.aload_n B dX9_init_14 (v := .ref k) rfl rfl ?_
  refine Z.iload_n B dX9_init_15 (x := nI pa) rfl ?_
  refine Z.putFI (σ := (zuX σ k (upd (upd (zX σ k) 0 (nI kd)) 1 (nI num)))) B fX9_18_4 (ty := .int) ⟨_, _, _, rfl, rfl, by decide +kernel⟩ rfl ⟨_, _, _, rfl, rfl⟩ dX9_init_16 hk hK (by decide) rfl rfl (τ := (zuX σ k (upd (upd (upd (zX σ k) 0 (nI kd)) 1 (nI num)) 2 (nI pa)))) (by simp only [zX_self, zuX_uX]) ?_
  refine Z.aload_n B dX9_init_19 (v := .ref k) rfl rfl ?_
  refine Z.aload B dX9_init_20 (v := .ref 18) rfl rfl ?_
  refine Z.putFR (σ := (zuX σ k (upd (upd (upd (zX σ k) 0 (nI kd)) 1 (nI num)) 2 (nI pa)))) B fX9_21_4 (ty := (.object "FourAskOne$Trace")) ⟨_, _, _, rfl, rfl, by decide +kernel⟩ rfl ⟨_, _, _, rfl, rfl⟩ dX9_init_22 hk hK (by decide) (Or.inl ⟨_, rfl⟩) (j := 18) (τ := (zuR (zuX σ k (upd (upd (upd (zX σ k) 0 (nI kd)) 1 (nI num)) 2 (nI pa))) k (va_up (zR σ k) 3 (some 18)))) rfl ?_
  refine Z.vret B Rt dX9_init_25 rfl (by decide) (by decide) ?_
  exact ⟨rfl, rfl⟩

theorem t_init_X7_init_4 {σ : zSt} (hl : Lay σ) {k kd num pa : Nat} (hk : k < zN σ) (hK : zK σ k = 4) : Dt mX7_init [.ref k, .int (nI kd), .int (nI num), .int (nI pa), .ref 18] σ (none) (zuR (zuX σ k (upd (upd (upd (zX σ k) 0 (nI kd)) 1 (nI num)) 2 (nI pa))) k (va_up (zR σ k) 3 (some 18))) := by
  refine Dt.of (by decide) (Nat.le_of_ble_eq_true rfl) fun κ B Rt => ?_
  show Z κ 0 0 σ 0 [(0, .ref k), (1, .int (nI kd)), (2, .int (nI num)), (3, .int (nI pa)), (4, .ref 18)] []
  refine Z.aload_n B dX7_init_0 (v := .ref k) rfl rfl ?_
  refine Z.iload_n B dX7_init_1 (x := nI kd) rfl ?_
  refine Z.iload_n B dX7_init_2 (x := nI num) rfl ?_
  refine Z.iload_n B dX7_init_3 (x := nI pa) rfl ?_
  refine Z.aload B dX7_init_4 (v := .ref 18) rfl rfl ?_
  refine Z.callIN (σ := σ) B (M' := mX9_init) (as := [.int (nI kd), .int (nI num), .int (nI pa), .ref 18]) (st := []) dX7_init_6 wX9_init iX9_init kX7_3 rfl rfl (t_init_X9_init_4 (σ := σ) hl hk hK) rfl rfl (by decide) (by decide) (Nat.le_of_ble_eq_true rfl) (by decide) (by decide) ?_
  refine Z.eqσ (τ := (zuR (zuX σ k (upd (upd (upd (zX σ k) 0 (nI kd)) 1 (nI num)) 2 (nI pa))) k (va_up (zR σ k) 3 (some 18)))) rfl ?_
  refine Z.vret B Rt dX7_init_9 rfl (by decide) (by decide) ?_
  exact ⟨rfl, rfl⟩

theorem t_init_X4_init_4 {σ : zSt} (hl : Lay σ) {k kd num pa : Nat} (hk : k < zN σ) (hK : zK σ k = 4) : Dt mX4_init [.ref k, .int (nI kd), .int (nI num), .int (nI pa), .ref 18] σ (none) (zuR (zuX σ k (upd (upd (upd (zX σ k) 0 (nI kd)) 1 (nI num)) 2 (nI pa))) k (va_up (zR σ k) 3 (some 18))) := by
  refine Dt.of (by decide) (Nat.le_of_ble_eq_true rfl) fun κ B Rt => ?_
  show Z κ 0 0 σ 0 [(0, .ref k), (1, .int (nI kd)), (2, .int (nI num)), (3, .int (nI pa)), (4, .ref 18)] []
  refine Z.aload_n B dX4_init_0 (v := .ref k) rfl rfl ?_
  refine Z.iload_n B dX4_init_1 (x := nI kd) rfl ?_
  refine Z.iload_n B dX4_init_2 (x := nI num) rfl ?_
  refine Z.iload_n B dX4_init_3 (x := nI pa) rfl ?_
  refine Z.aload B dX4_init_4 (v := .ref 18) rfl rfl ?_
  refine Z.callIN (σ := σ) B (M' := mX7_init) (as := [.int (nI kd), .int (nI num), .int (nI pa), .ref 18]) (st := []) dX4_init_6 wX7_init iX7_init kX4_1 rfl rfl (t_init_X7_init_4 (σ := σ) hl hk hK) rfl rfl (by decide) (by decide) (Nat.le_of_ble_eq_true rfl) (by decide) (by decide) ?_
  refine Z.eqσ (τ := (zuR (zuX σ k (upd (upd (upd (zX σ k) 0 (nI kd)) 1 (nI num)) 2 (nI pa))) k (va_up (zR σ k) 3 (some 18)))) rfl ?_
  refine Z.vret B Rt dX4_init_9 rfl (by decide) (by decide) ?_
  exact ⟨rfl, rfl⟩

theorem t_init_X9_init_10 {σ : zSt} (hl : Lay σ) {k kd num pa : Nat} (hk : k < zN σ) (hK : zK σ k = 10) : Dt mX9_init [.ref k, .int (nI kd), .int (nI num), .int (nI pa), .ref 18] σ (none) (zuR (zuX σ k (upd (upd (upd (zX σ k) 0 (nI kd)) 1 (nI num)) 2 (nI pa))) k (va_up (zR σ k) 3 (some 18))) := by
  refine Dt.of (by decide) (Nat.le_of_ble_eq_true rfl) fun κ B Rt => ?_
  show Z κ 0 0 σ 0 [(0, .ref k), (1, .int (nI kd)), (2, .int (nI num)), (3, .int (nI pa)), (4, .ref 18)] []
  refine Z.aload_n B dX9_init_0 (v := .ref k) rfl rfl ?_
  refine Z.objInit B dX9_init_1 kX9_3 (by decide) (Nat.le_of_ble_eq_true rfl) ?_
  refine Z.aload_n B dX9_init_4 (v := .ref k) rfl rfl ?_
  refine Z.iload_n B dX9_init_5 (x := nI kd) rfl ?_
  refine Z.putFI (σ := σ) B fX9_9_10 (ty := .int) ⟨_, _, _, rfl, rfl, by decide +kernel⟩ rfl ⟨_, _, _, rfl, rfl⟩ dX9_init_6 hk hK (by decide) rfl rfl (τ := (zuX σ k (upd (zX σ k) 0 (nI kd)))) rfl ?_
  refine Z.aload_n B dX9_init_9 (v := .ref k) rfl rfl ?_
  refine Z.iload_n B dX9_init_10 (x := nI num) rfl ?_
  refine Z.putFI (σ := (zuX σ k (upd (zX σ k) 0 (nI kd)))) B fX9_15_10 (ty := .int) ⟨_, _, _, rfl, rfl, by decide +kernel⟩ rfl ⟨_, _, _, rfl, rfl⟩ dX9_init_11 hk hK (by decide) rfl rfl (τ := (zuX σ k (upd (upd (zX σ k) 0 (nI kd)) 1 (nI num)))) (by simp only [zX_self, zuX_uX]) ?_
  refine Z.aload_n B dX9_init_14 (v := .ref k) rfl rfl ?_
  refine Z.iload_n B dX9_init_15 (x := nI pa) rfl ?_
  refine Z.putFI (σ := (zuX σ k (upd (upd (zX σ k) 0 (nI kd)) 1 (nI num)))) B fX9_18_10 (ty := .int) ⟨_, _, _, rfl, rfl, by decide +kernel⟩ rfl ⟨_, _, _, rfl, rfl⟩ dX9_init_16 hk hK (by decide) rfl rfl (τ := (zuX σ k (upd (upd (upd (zX σ k) 0 (nI kd)) 1 (nI num)) 2 (nI pa)))) (by simp only [zX_self, zuX_uX]) ?_
  refine Z.aload_n B dX9_init_19 (v := .ref k) rfl rfl ?_
  refine Z.aload B dX9_init_20 (v := .ref 18) rfl rfl ?_
  refine Z.putFR (σ := (zuX σ k (upd (upd (upd (zX σ k) 0 (nI kd)) 1 (nI num)) 2 (nI pa)))) B fX9_21_10 (ty := (.object "FourAskOne$Trace")) ⟨_, _, _, rfl, rfl, by decide +kernel⟩ rfl ⟨_, _, _, rfl, rfl⟩ dX9_init_22 hk hK (by decide) (Or.inl ⟨_, rfl⟩) (j := 18) (τ := (zuR (zuX σ k (upd (upd (upd (zX σ k) 0 (nI kd)) 1 (nI num)) 2 (nI pa))) k (va_up (zR σ k) 3 (some 18)))) rfl ?_
  refine Z.vret B Rt dX9_init_25 rfl (by decide) (by decide) ?_
  exact ⟨rfl, rfl⟩

theorem t_init_X10_init_10 {σ : zSt} (hl : Lay σ) {k kd num pa : Nat} (hk : k < zN σ) (hK : zK σ k = 10) : Dt mX10_init [.ref k, .int (nI kd), .int (nI num), .int (nI pa), .ref 18] σ (none) (zuR (zuX σ k (upd (upd (upd (zX σ k) 0 (nI kd)) 1 (nI num)) 2 (nI pa))) k (va_up (zR σ k) 3 (some 18))) := by
  refine Dt.of (by decide) (Nat.le_of_ble_eq_true rfl) fun κ B Rt => ?_
  show Z κ 0 0 σ 0 [(0, .ref k), (1, .int (nI kd)), (2, .int (nI num)), (3, .int (nI pa)), (4, .ref 18)] []
  refine Z.aload_n B dX10_init_0 (v := .ref k) rfl rfl ?_
  refine Z.iload_n B dX10_init_1 (x := nI kd) rfl ?_
  refine Z.iload_n B dX10_init_2 (x := nI num) rfl ?_
  refine Z.iload_n B dX10_init_3 (x := nI pa) rfl ?_
  refine Z.aload B dX10_init_4 (v := .ref 18) rfl rfl ?_
  refine Z.callIN (σ := σ) B (M' := mX9_init) (as := [.int (nI kd), .int (nI num), .int (nI pa), .ref 18]) (st := []) dX10_init_6 wX9_init iX9_init kX10_3 rfl rfl (t_init_X9_init_10 (σ := σ) hl hk hK) rfl rfl (by decide) (by decide) (Nat.le_of_ble_eq_true rfl) (by decide) (by decide) ?_
  refine Z.eqσ (τ := (zuR (zuX σ k (upd (upd (upd (zX σ k) 0 (nI kd)) 1 (nI num)) 2 (nI pa))) k (va_up (zR σ k) 3 (some 18)))) rfl ?_
  refine Z.vret B Rt dX10_init_9 rfl (by decide) (by decide) ?_
  exact ⟨rfl, rfl⟩

theorem t_init_X9_init_3 {σ : zSt} (hl : Lay σ) {k kd num pa : Nat} (hk : k < zN σ) (hK : zK σ k = 3) : Dt mX9_init [.ref k, .int (nI kd), .int (nI num), .int (nI pa), .ref 18] σ (none) (zuR (zuX σ k (upd (upd (upd (zX σ k) 0 (nI kd)) 1 (nI num)) 2 (nI pa))) k (va_up (zR σ k) 3 (some 18))) := by
  refine Dt.of (by decide) (Nat.le_of_ble_eq_true rfl) fun κ B Rt => ?_
  show Z κ 0 0 σ 0 [(0, .ref k), (1, .int (nI kd)), (2, .int (nI num)), (3, .int (nI pa)), (4, .ref 18)] []
  refine Z.aload_n B dX9_init_0 (v := .ref k) rfl rfl ?_
  refine Z.objInit B dX9_init_1 kX9_3 (by decide) (Nat.le_of_ble_eq_true rfl) ?_
  refine Z.aload_n B dX9_init_4 (v := .ref k) rfl rfl ?_
  refine Z.iload_n B dX9_init_5 (x := nI kd) rfl ?_
  refine Z.putFI (σ := σ) B fX9_9_3 (ty := .int) ⟨_, _, _, rfl, rfl, by decide +kernel⟩ rfl ⟨_, _, _, rfl, rfl⟩ dX9_init_6 hk hK (by decide) rfl rfl (τ := (zuX σ k (upd (zX σ k) 0 (nI kd)))) rfl ?_
  refine Z.aload_n B dX9_init_9 (v := .ref k) rfl rfl ?_
  refine Z.iload_n B dX9_init_10 (x := nI num) rfl ?_
  refine Z.putFI (σ := (zuX σ k (upd (zX σ k) 0 (nI kd)))) B fX9_15_3 (ty := .int) ⟨_, _, _, rfl, rfl, by decide +kernel⟩ rfl ⟨_, _, _, rfl, rfl⟩ dX9_init_11 hk hK (by decide) rfl rfl (τ := (zuX σ k (upd (upd (zX σ k) 0 (nI kd)) 1 (nI num)))) (by simp only [zX_self, zuX_uX]) ?_
  refine Z.aload_n B dX9_init_14 (v := .ref k) rfl rfl ?_
  refine Z.iload_n B dX9_init_15 (x := nI pa) rfl ?_
  refine Z.putFI (σ := (zuX σ k (upd (upd (zX σ k) 0 (nI kd)) 1 (nI num)))) B fX9_18_3 (ty := .int) ⟨_, _, _, rfl, rfl, by decide +kernel⟩ rfl ⟨_, _, _, rfl, rfl⟩ dX9_init_16 hk hK (by decide) rfl rfl (τ := (zuX σ k (upd (upd (upd (zX σ k) 0 (nI kd)) 1 (nI num)) 2 (nI pa)))) (by simp only [zX_self, zuX_uX]) ?_
  refine Z.aload_n B dX9_init_19 (v := .ref k) rfl rfl ?_
  refine Z.aload B dX9_init_20 (v := .ref 18) rfl rfl ?_
  refine Z.putFR (σ := (zuX σ k (upd (upd (upd (zX σ k) 0 (nI kd)) 1 (nI num)) 2 (nI pa)))) B fX9_21_3 (ty := (.object "FourAskOne$Trace")) ⟨_, _, _, rfl, rfl, by decide +kernel⟩ rfl ⟨_, _, _, rfl, rfl⟩ dX9_init_22 hk hK (by decide) (Or.inl ⟨_, rfl⟩) (j := 18) (τ := (zuR (zuX σ k (upd (upd (upd (zX σ k) 0 (nI kd)) 1 (nI num)) 2 (nI pa))) k (va_up (zR σ k) 3 (some 18)))) rfl ?_
  refine Z.vret B Rt dX9_init_25 rfl (by decide) (by decide) ?_
  exact ⟨rfl, rfl⟩

theorem t_init_X3_init_3 {σ : zSt} (hl : Lay σ) {k kd num pa : Nat} (hk : k < zN σ) (hK : zK σ k = 3) : Dt mX3_init [.ref k, .int (nI kd), .int (nI num), .int (nI pa), .ref 18] σ (none) (zuR (zuX σ k (upd (upd (upd (zX σ k) 0 (nI kd)) 1 (nI num)) 2 (nI pa))) k (va_up (zR σ k) 3 (some 18))) := by
  refine Dt.of (by decide) (Nat.le_of_ble_eq_true rfl) fun κ B Rt => ?_
  show Z κ 0 0 σ 0 [(0, .ref k), (1, .int (nI kd)), (2, .int (nI num)), (3, .int (nI pa)), (4, .ref 18)] []
  refine Z.aload_n B dX3_init_0 (v := .ref k) rfl rfl ?_
  refine Z.iload_n B dX3_init_1 (x := nI kd) rfl ?_
  refine Z.iload_n B dX3_init_2 (x := nI num) rfl ?_
  refine Z.iload_n B dX3_init_3 (x := nI pa) rfl ?_
  refine Z.aload B dX3_init_4 (v := .ref 18) rfl rfl ?_
  refine Z.callIN (σ := σ) B (M' := mX9_init) (as := [.int (nI kd), .int (nI num), .int (nI pa), .ref 18]) (st := []) dX3_init_6 wX9_init iX9_init kX3_3 rfl rfl (t_init_X9_init_3 (σ := σ) hl hk hK) rfl rfl (by decide) (by decide) (Nat.le_of_ble_eq_true rfl) (by decide) (by decide) ?_
  refine Z.eqσ (τ := (zuR (zuX σ k (upd (upd (upd (zX σ k) 0 (nI kd)) 1 (nI num)) 2 (nI pa))) k (va_up (zR σ k) 3 (some 18)))) rfl ?_
  refine Z.vret B Rt dX3_init_9 rfl (by decide) (by decide) ?_
  exact ⟨rfl, rfl⟩

theorem t_init_X9_init_5 {σ : zSt} (hl : Lay σ) {k kd num pa : Nat} (hk : k < zN σ) (hK : zK σ k = 5) : Dt mX9_init [.ref k, .int (nI kd), .int (nI num), .int (nI pa), .ref 18] σ (none) (zuR (zuX σ k (upd (upd (upd (zX σ k) 0 (nI kd)) 1 (nI num)) 2 (nI pa))) k (va_up (zR σ k) 3 (some 18))) := by
  refine Dt.of (by decide) (Nat.le_of_ble_eq_true rfl) fun κ B Rt => ?_
  show Z κ 0 0 σ 0 [(0, .ref k), (1, .int (nI kd)), (2, .int (nI num)), (3, .int (nI pa)), (4, .ref 18)] []
  refine Z.aload_n B dX9_init_0 (v := .ref k) rfl rfl ?_
  refine Z.objInit B dX9_init_1 kX9_3 (by decide) (Nat.le_of_ble_eq_true rfl) ?_
  refine Z.aload_n B dX9_init_4 (v := .ref k) rfl rfl ?_
  refine Z.iload_n B dX9_init_5 (x := nI kd) rfl ?_
  refine Z.putFI (σ := σ) B fX9_9_5 (ty := .int) ⟨_, _, _, rfl, rfl, by decide +kernel⟩ rfl ⟨_, _, _, rfl, rfl⟩ dX9_init_6 hk hK (by decide) rfl rfl (τ := (zuX σ k (upd (zX σ k) 0 (nI kd)))) rfl ?_
  refine Z.aload_n B dX9_init_9 (v := .ref k) rfl rfl ?_
  refine Z.iload_n B dX9_init_10 (x := nI num) rfl ?_
  refine Z.putFI (σ := (zuX σ k (upd (zX σ k) 0 (nI kd)))) B fX9_15_5 (ty := .int) ⟨_, _, _, rfl, rfl, by decide +kernel⟩ rfl ⟨_, _, _, rfl, rfl⟩ dX9_init_11 hk hK (by decide) rfl rfl (τ := (zuX σ k (upd (upd (zX σ k) 0 (nI kd)) 1 (nI num)))) (by simp only [zX_self, zuX_uX]) ?_
  refine Z.aload_n B dX9_init_14 (v := .ref k) rfl rfl ?_
  refine Z.iload_n B dX9_init_15 (x := nI pa) rfl ?_
  refine Z.putFI (σ := (zuX σ k (upd (upd (zX σ k) 0 (nI kd)) 1 (nI num)))) B fX9_18_5 (ty := .int) ⟨_, _, _, rfl, rfl, by decide +kernel⟩ rfl ⟨_, _, _, rfl, rfl⟩ dX9_init_16 hk hK (by decide) rfl rfl (τ := (zuX σ k (upd (upd (upd (zX σ k) 0 (nI kd)) 1 (nI num)) 2 (nI pa)))) (by simp only [zX_self, zuX_uX]) ?_
  refine Z.aload_n B dX9_init_19 (v := .ref k) rfl rfl ?_
  refine Z.aload B dX9_init_20 (v := .ref 18) rfl rfl ?_
  refine Z.putFR (σ := (zuX σ k (upd (upd (upd (zX σ k) 0 (nI kd)) 1 (nI num)) 2 (nI pa)))) B fX9_21_5 (ty := (.object "FourAskOne$Trace")) ⟨_, _, _, rfl, rfl, by decide +kernel⟩ rfl ⟨_, _, _, rfl, rfl⟩ dX9_init_22 hk hK (by decide) (Or.inl ⟨_, rfl⟩) (j := 18) (τ := (zuR (zuX σ k (upd (upd (upd (zX σ k) 0 (nI kd)) 1 (nI num)) 2 (nI pa))) k (va_up (zR σ k) 3 (some 18)))) rfl ?_
  refine Z.vret B Rt dX9_init_25 rfl (by decide) (by decide) ?_
  exact ⟨rfl, rfl⟩

theorem t_init_X5_init_5 {σ : zSt} (hl : Lay σ) {k kd num pa : Nat} (hk : k < zN σ) (hK : zK σ k = 5) : Dt mX5_init [.ref k, .int (nI kd), .int (nI num), .int (nI pa), .ref 18] σ (none) (zuR (zuX σ k (upd (upd (upd (zX σ k) 0 (nI kd)) 1 (nI num)) 2 (nI pa))) k (va_up (zR σ k) 3 (some 18))) := by
  refine Dt.of (by decide) (Nat.le_of_ble_eq_true rfl) fun κ B Rt => ?_
  show Z κ 0 0 σ 0 [(0, .ref k), (1, .int (nI kd)), (2, .int (nI num)), (3, .int (nI pa)), (4, .ref 18)] []
  refine Z.aload_n B dX5_init_0 (v := .ref k) rfl rfl ?_
  refine Z.iload_n B dX5_init_1 (x := nI kd) rfl ?_
  refine Z.iload_n B dX5_init_2 (x := nI num) rfl ?_
  refine Z.iload_n B dX5_init_3 (x := nI pa) rfl ?_
  refine Z.aload B dX5_init_4 (v := .ref 18) rfl rfl ?_
  refine Z.callIN (σ := σ) B (M' := mX9_init) (as := [.int (nI kd), .int (nI num), .int (nI pa), .ref 18]) (st := []) dX5_init_6 wX9_init iX9_init kX5_3 rfl rfl (t_init_X9_init_5 (σ := σ) hl hk hK) rfl rfl (by decide) (by decide) (Nat.le_of_ble_eq_true rfl) (by decide) (by decide) ?_
  refine Z.eqσ (τ := (zuR (zuX σ k (upd (upd (upd (zX σ k) 0 (nI kd)) 1 (nI num)) 2 (nI pa))) k (va_up (zR σ k) 3 (some 18)))) rfl ?_
  refine Z.vret B Rt dX5_init_9 rfl (by decide) (by decide) ?_
  exact ⟨rfl, rfl⟩

theorem t_init_X9_init_0 {σ : zSt} (hl : Lay σ) {k kd num pa : Nat} (hk : k < zN σ) (hK : zK σ k = 0) : Dt mX9_init [.ref k, .int (nI kd), .int (nI num), .int (nI pa), .ref 18] σ (none) (zuR (zuX σ k (upd (upd (upd (zX σ k) 0 (nI kd)) 1 (nI num)) 2 (nI pa))) k (va_up (zR σ k) 3 (some 18))) := by
  refine Dt.of (by decide) (Nat.le_of_ble_eq_true rfl) fun κ B Rt => ?_
  show Z κ 0 0 σ 0 [(0, .ref k), (1, .int (nI kd)), (2, .int (nI num)), (3, .int (nI pa)), (4, .ref 18)] []
  refine Z.aload_n B dX9_init_0 (v := .ref k) rfl rfl ?_
  refine Z.objInit B dX9_init_1 kX9_3 (by decide) (Nat.le_of_ble_eq_true rfl) ?_
  refine Z.aload_n B dX9_init_4 (v := .ref k) rfl rfl ?_
  refine Z.iload_n B dX9_init_5 (x := nI kd) rfl ?_
  refine Z.putFI (σ := σ) B fX9_9_0 (ty := .int) ⟨_, _, _, rfl, rfl, by decide +kernel⟩ rfl ⟨_, _, _, rfl, rfl⟩ dX9_init_6 hk hK (by decide) rfl rfl (τ := (zuX σ k (upd (zX σ k) 0 (nI kd)))) rfl ?_
  refine Z.aload_n B dX9_init_9 (v := .ref k) rfl rfl ?_
  refine Z.iload_n B dX9_init_10 (x := nI num) rfl ?_
  refine Z.putFI (σ := (zuX σ k (upd (zX σ k) 0 (nI kd)))) B fX9_15_0 (ty := .int) ⟨_, _, _, rfl, rfl, by decide +kernel⟩ rfl ⟨_, _, _, rfl, rfl⟩ dX9_init_11 hk hK (by decide) rfl rfl (τ := (zuX σ k (upd (upd (zX σ k) 0 (nI kd)) 1 (nI num)))) (by simp only [zX_self, zuX_uX]) ?_
  refine Z.aload_n B dX9_init_14 (v := .ref k) rfl rfl ?_
  refine Z.iload_n B dX9_init_15 (x := nI pa) rfl ?_
  refine Z.putFI (σ := (zuX σ k (upd (upd (zX σ k) 0 (nI kd)) 1 (nI num)))) B fX9_18_0 (ty := .int) ⟨_, _, _, rfl, rfl, by decide +kernel⟩ rfl ⟨_, _, _, rfl, rfl⟩ dX9_init_16 hk hK (by decide) rfl rfl (τ := (zuX σ k (upd (upd (upd (zX σ k) 0 (nI kd)) 1 (nI num)) 2 (nI pa)))) (by simp only [zX_self, zuX_uX]) ?_
  refine Z.aload_n B dX9_init_19 (v := .ref k) rfl rfl ?_
  refine Z.aload B dX9_init_20 (v := .ref 18) rfl rfl ?_
  refine Z.putFR (σ := (zuX σ k (upd (upd (upd (zX σ k) 0 (nI kd)) 1 (nI num)) 2 (nI pa)))) B fX9_21_0 (ty := (.object "FourAskOne$Trace")) ⟨_, _, _, rfl, rfl, by decide +kernel⟩ rfl ⟨_, _, _, rfl, rfl⟩ dX9_init_22 hk hK (by decide) (Or.inl ⟨_, rfl⟩) (j := 18) (τ := (zuR (zuX σ k (upd (upd (upd (zX σ k) 0 (nI kd)) 1 (nI num)) 2 (nI pa))) k (va_up (zR σ k) 3 (some 18)))) rfl ?_
  refine Z.vret B Rt dX9_init_25 rfl (by decide) (by decide) ?_
  exact ⟨rfl, rfl⟩

theorem t_init_X5_init_0 {σ : zSt} (hl : Lay σ) {k kd num pa : Nat} (hk : k < zN σ) (hK : zK σ k = 0) : Dt mX5_init [.ref k, .int (nI kd), .int (nI num), .int (nI pa), .ref 18] σ (none) (zuR (zuX σ k (upd (upd (upd (zX σ k) 0 (nI kd)) 1 (nI num)) 2 (nI pa))) k (va_up (zR σ k) 3 (some 18))) := by
  refine Dt.of (by decide) (Nat.le_of_ble_eq_true rfl) fun κ B Rt => ?_
  show Z κ 0 0 σ 0 [(0, .ref k), (1, .int (nI kd)), (2, .int (nI num)), (3, .int (nI pa)), (4, .ref 18)] []
  refine Z.aload_n B dX5_init_0 (v := .ref k) rfl rfl ?_
  refine Z.iload_n B dX5_init_1 (x := nI kd) rfl ?_
  refine Z.iload_n B dX5_init_2 (x := nI num) rfl ?_
  refine Z.iload_n B dX5_init_3 (x := nI pa) rfl ?_
  refine Z.aload B dX5_init_4 (v := .ref 18) rfl rfl ?_
  refine Z.callIN (σ := σ) B (M' := mX9_init) (as := [.int (nI kd), .int (nI num), .int (nI pa), .ref 18]) (st := []) dX5_init_6 wX9_init iX9_init kX5_3 rfl rfl (t_init_X9_init_0 (σ := σ) hl hk hK) rfl rfl (by decide) (by decide) (Nat.le_of_ble_eq_true rfl) (by decide) (by decide) ?_
  refine Z.eqσ (τ := (zuR (zuX σ k (upd (upd (upd (zX σ k) 0 (nI kd)) 1 (nI num)) 2 (nI pa))) k (va_up (zR σ k) 3 (some 18)))) rfl ?_
  refine Z.vret B Rt dX5_init_9 rfl (by decide) (by decide) ?_
  exact ⟨rfl, rfl⟩

theorem t_init_X0_init_0 {σ : zSt} (hl : Lay σ) {k kd num pa : Nat} (hk : k < zN σ) (hK : zK σ k = 0) : Dt mX0_init [.ref k, .int (nI kd), .int (nI num), .int (nI pa), .ref 18] σ (none) (zuR (zuX σ k (upd (upd (upd (zX σ k) 0 (nI kd)) 1 (nI num)) 2 (nI pa))) k (va_up (zR σ k) 3 (some 18))) := by
  refine Dt.of (by decide) (Nat.le_of_ble_eq_true rfl) fun κ B Rt => ?_
  show Z κ 0 0 σ 0 [(0, .ref k), (1, .int (nI kd)), (2, .int (nI num)), (3, .int (nI pa)), (4, .ref 18)] []
  refine Z.aload_n B dX0_init_0 (v := .ref k) rfl rfl ?_
  refine Z.iload_n B dX0_init_1 (x := nI kd) rfl ?_
  refine Z.iload_n B dX0_init_2 (x := nI num) rfl ?_
  refine Z.iload_n B dX0_init_3 (x := nI pa) rfl ?_
  refine Z.aload B dX0_init_4 (v := .ref 18) rfl rfl ?_
  refine Z.callIN (σ := σ) B (M' := mX5_init) (as := [.int (nI kd), .int (nI num), .int (nI pa), .ref 18]) (st := []) dX0_init_6 wX5_init iX5_init kX0_3 rfl rfl (t_init_X5_init_0 (σ := σ) hl hk hK) rfl rfl (by decide) (by decide) (Nat.le_of_ble_eq_true rfl) (by decide) (by decide) ?_
  refine Z.eqσ (τ := (zuR (zuX σ k (upd (upd (upd (zX σ k) 0 (nI kd)) 1 (nI num)) 2 (nI pa))) k (va_up (zR σ k) 3 (some 18)))) rfl ?_
  refine Z.vret B Rt dX0_init_9 rfl (by decide) (by decide) ?_
  exact ⟨rfl, rfl⟩

theorem t_X1_addWay_0 {σ : zSt} {n a y : Nat} (hl : Lay σ) (hn : zX σ 20 2 = nI n) (hn8 : n ≤ 8) (ha : zX σ 20 5 = nI a) (ha4 : a ≤ 4) (hy : zX σ 20 7 = nI y) (hy8 : y ≤ 8) (hcl : zCl σ) (h8 : y < 8) {pa : Nat} : Dt mX1_addWay [.ref 20, .int (nI 0), .int (nI pa)] σ (some (.int (nI y))) (aW σ 20 0 pa y) := by
  refine Dt.ofN (by decide) (Nat.le_of_ble_eq_true rfl) fun κ B Rt hn0 => ?_
  show Z κ 0 0 σ 0 [(0, .ref 20), (1, .int (nI 0)), (2, .int (nI pa))] []
  refine Z.aload_n B dX1_addWay_0 (v := .ref 20) rfl rfl ?_
  refine Z.getI (σ := σ) B fX1_44_1 dX1_addWay_1 (hl.n (k := 20) (by decide)) (hl.k (k := 20) (by decide)) (by decide) (v := nI y) hy ?_
  refine Z.istore_n B dX1_addWay_4 (by decide) (L' := [(0, .ref 20), (1, .int (nI 0)), (2, .int (nI pa)), (3, .int (nI y))]) rfl ?_
  refine Z.iload_n B dX1_addWay_5 (x := nI y) rfl ?_
  refine Z.bipush B dX1_addWay_6 (v := nI 8) rfl ?_
  refine Z.icmp_ltN B dX1_addWay_8 (tgt := 13) rfl (by omega) (by omega) (fun h8 => ?_) (fun h8 => by exfalso; first | omega | contradiction | simp_all)
  refine Z.iload_n B dX1_addWay_13 (x := nI 0) rfl ?_
  refine Z.tabOut B dX1_addWay_14 (by decide) (tgt := 190) rfl ?_
  refine Z.aload_n B dX1_addWay_190 (v := .ref 20) rfl rfl ?_
  refine Z.getR (σ := σ) B fX1_27_1 dX1_addWay_191 (hl.n (k := 20) (by decide)) (hl.k (k := 20) (by decide)) (by decide) (j := 24) (hl.r (k := 20) (f := 6) (by decide) (by decide)) ?_
  refine Z.iload_n B dX1_addWay_194 (x := nI y) rfl ?_
  refine Z.new (σ := σ) B (ci := 9) (N := 4) dX1_addWay_195 (zT_at 131 (by decide +kernel) rfl) rfl (by decide) rfl (zT_at 575 (by decide +kernel) rfl) (zT_at 71 (by decide +kernel) rfl) zDf_9 hcl (zall66L rfl hl.1) (zall66S rfl hl.1) (by rw [hn0]; exact Nat.le_refl _) (by decide) (by decide) ?_
  have hl2 : Lay (zNew σ 9 0) := hl.new
  refine Z.dup B dX1_addWay_198 rfl ?_
  refine Z.iload_n B dX1_addWay_199 (x := nI 0) rfl ?_
  refine Z.iload_n B dX1_addWay_200 (x := nI y) rfl ?_
  refine Z.iload_n B dX1_addWay_201 (x := nI pa) rfl ?_
  refine Z.aload_n B dX1_addWay_202 (v := .ref 20) rfl rfl ?_
  refine Z.getR (σ := (zNew σ 9 0)) B fX1_9_1 dX1_addWay_203 (hl2.n (k := 20) (by decide)) (hl2.k (k := 20) (by decide)) (by decide) (j := 18) (hl2.r (k := 20) (f := 0) (by decide) (by decide)) ?_
  refine Z.callIN (σ := (zNew σ 9 0)) B (M' := mX9_init) (as := [.int (nI 0), .int (nI y), .int (nI pa), .ref 18]) (st := [.ref (zN σ), .int (nI y), .ref 24]) dX1_addWay_206 wX9_init iX9_init kX1_83 rfl rfl (t_init_X9_init_9 (σ := (zNew σ 9 0)) hl2 (k := zN σ) (kd := 0) (num := y) (pa := pa) (by rw [zNew_n.1]; exact Nat.lt_succ_self _) zNew_n.2.1) rfl rfl (by decide) (by decide) (Nat.le_of_ble_eq_true rfl) (by decide) (by decide) ?_
  refine Z.eqσ (τ := (zuR (zuX (zNew σ 9 0) (zN σ) (upd (upd (upd (zX (zNew σ 9 0) (zN σ)) 0 (nI 0)) 1 (nI y)) 2 (nI pa))) (zN σ) (va_up (zR (zNew σ 9 0) (zN σ)) 3 (some 18)))) rfl ?_
  refine Z.eqσ (τ := (wS σ 9 0 y pa)) rfl ?_
  have hl3 : Lay (wS σ 9 0 y pa) := hl.wS
  have h66 := hl.1
  have hr24 : zR (wS σ 9 0 y pa) 24 = zR σ 24 := (wS_o (by omega)).2.2.2.2
  have hx20 : zX (wS σ 9 0 y pa) 20 = zX σ 20 := (wS_o (by omega)).2.2.1
  refine Z.astY (σ := (wS σ 9 0 y pa)) B (n := 8) (q := zN σ) dX1_addWay_209 (hl3.n (k := 24) (by decide)) (hl3.k (k := 24) (by decide)) (hl3.l (k := 24) (by decide)) (by decide) (j := y) rfl (by omega) (ci := 9) (by rw [wS_n.1]; exact Nat.lt_succ_self _) wS_n.2.1 (by unfold zIsW; decide) (τ := (zuR (wS σ 9 0 y pa) 24 (va_up (zR σ 24) y (some (zN σ))))) (by rw [hr24]) ?_
  refine Z.aload_n B dX1_addWay_210 (v := .ref 20) rfl rfl ?_
  refine Z.dup B dX1_addWay_211 rfl ?_
  refine Z.getI (σ := (zuR (wS σ 9 0 y pa) 24 (va_up (zR σ 24) y (some (zN σ))))) B fX1_44_1 dX1_addWay_212 (hl3.n (k := 20) (by decide)) (hl3.k (k := 20) (by decide)) (by decide) (v := nI y) (by rw [show zX (zuR (wS σ 9 0 y pa) 24 (va_up (zR σ 24) y (some (zN σ)))) 20 = zX σ 20 from hx20]; exact hy) ?_
  refine Z.iconst B dX1_addWay_215 (v := nI 1) rfl ?_
  refine Z.iaddN B dX1_addWay_216 (a := y) (b := 1) ?_
  refine Z.putI (σ := (zuR (wS σ 9 0 y pa) 24 (va_up (zR σ 24) y (some (zN σ))))) B fX1_44_1 (ty := .int) ⟨_, _, _, rfl, rfl, by decide +kernel⟩ dX1_addWay_217 (hl3.n (k := 20) (by decide)) (hl3.k (k := 20) (by decide)) (by decide) rfl rfl (τ := (zuX (zuR (wS σ 9 0 y pa) 24 (va_up (zR σ 24) y (some (zN σ)))) 20 (upd (zX σ 20) 7 (nI (y + 1))))) (by rw [show zX (zuR (wS σ 9 0 y pa) 24 (va_up (zR σ 24) y (some (zN σ)))) 20 = zX σ 20 from hx20]) ?_
  refine Z.iload_n B dX1_addWay_220 (x := nI y) rfl ?_
  refine Z.iret B Rt dX1_addWay_221 (ty := .int) rfl rfl (by decide) (by decide) ?_
  exact ⟨rfl, rfl⟩

theorem t_X1_addWay_1 {σ : zSt} {n a y : Nat} (hl : Lay σ) (hn : zX σ 20 2 = nI n) (hn8 : n ≤ 8) (ha : zX σ 20 5 = nI a) (ha4 : a ≤ 4) (hy : zX σ 20 7 = nI y) (hy8 : y ≤ 8) (hcl : zCl σ) (h8 : y < 8) {pa : Nat} : Dt mX1_addWay [.ref 20, .int (nI 1), .int (nI pa)] σ (some (.int (nI y))) (aW σ 20 1 pa y) := by
  refine Dt.ofN (by decide) (Nat.le_of_ble_eq_true rfl) fun κ B Rt hn0 => ?_
  show Z κ 0 0 σ 0 [(0, .ref 20), (1, .int (nI 1)), (2, .int (nI pa))] []
  refine Z.aload_n B dX1_addWay_0 (v := .ref 20) rfl rfl ?_
  refine Z.getI (σ := σ) B fX1_44_1 dX1_addWay_1 (hl.n (k := 20) (by decide)) (hl.k (k := 20) (by decide)) (by decide) (v := nI y) hy ?_
  refine Z.istore_n B dX1_addWay_4 (by decide) (L' := [(0, .ref 20), (1, .int (nI 1)), (2, .int (nI pa)), (3, .int (nI y))]) rfl ?_
  refine Z.iload_n B dX1_addWay_5 (x := nI y) rfl ?_
  refine Z.bipush B dX1_addWay_6 (v := nI 8) rfl ?_
  refine Z.icmp_ltN B dX1_addWay_8 (tgt := 13) rfl (by omega) (by omega) (fun h8 => ?_) (fun h8 => by exfalso; first | omega | contradiction | simp_all)
  refine Z.iload_n B dX1_addWay_13 (x := nI 1) rfl ?_
  refine Z.tabIn B dX1_addWay_14 (by decide) (by decide) (off := 38) (by decide) (tgt := 52) rfl ?_
  refine Z.aload_n B dX1_addWay_52 (v := .ref 20) rfl rfl ?_
  refine Z.getR (σ := σ) B fX1_27_1 dX1_addWay_53 (hl.n (k := 20) (by decide)) (hl.k (k := 20) (by decide)) (by decide) (j := 24) (hl.r (k := 20) (f := 6) (by decide) (by decide)) ?_
  refine Z.iload_n B dX1_addWay_56 (x := nI y) rfl ?_
  refine Z.new (σ := σ) B (ci := 7) (N := 4) dX1_addWay_57 (zT_at 475 (by decide +kernel) rfl) rfl (by decide) rfl (zT_at 476 (by decide +kernel) rfl) (zT_at 72 (by decide +kernel) rfl) zDf_7 hcl (zall66L rfl hl.1) (zall66S rfl hl.1) (by rw [hn0]; exact Nat.le_refl _) (by decide) (by decide) ?_
  have hl2 : Lay (zNew σ 7 0) := hl.new
  refine Z.dup B dX1_addWay_60 rfl ?_
  refine Z.iload_n B dX1_addWay_61 (x := nI 1) rfl ?_
  refine Z.iload_n B dX1_addWay_62 (x := nI y) rfl ?_
  refine Z.iload_n B dX1_addWay_63 (x := nI pa) rfl ?_
  refine Z.aload_n B dX1_addWay_64 (v := .ref 20) rfl rfl ?_
  refine Z.getR (σ := (zNew σ 7 0)) B fX1_9_1 dX1_addWay_65 (hl2.n (k := 20) (by decide)) (hl2.k (k := 20) (by decide)) (by decide) (j := 18) (hl2.r (k := 20) (f := 0) (by decide) (by decide)) ?_
  refine Z.callIN (σ := (zNew σ 7 0)) B (M' := mX7_init) (as := [.int (nI 1), .int (nI y), .int (nI pa), .ref 18]) (st := [.ref (zN σ), .int (nI y), .ref 24]) dX1_addWay_68 wX7_init iX7_init kX1_65 rfl rfl (t_init_X7_init_7 (σ := (zNew σ 7 0)) hl2 (k := zN σ) (kd := 1) (num := y) (pa := pa) (by rw [zNew_n.1]; exact Nat.lt_succ_self _) zNew_n.2.1) rfl rfl (by decide) (by decide) (Nat.le_of_ble_eq_true rfl) (by decide) (by decide) ?_
  refine Z.eqσ (τ := (zuR (zuX (zNew σ 7 0) (zN σ) (upd (upd (upd (zX (zNew σ 7 0) (zN σ)) 0 (nI 1)) 1 (nI y)) 2 (nI pa))) (zN σ) (va_up (zR (zNew σ 7 0) (zN σ)) 3 (some 18)))) rfl ?_
  refine Z.eqσ (τ := (wS σ 7 1 y pa)) rfl ?_
  have hl3 : Lay (wS σ 7 1 y pa) := hl.wS
  have h66 := hl.1
  have hr24 : zR (wS σ 7 1 y pa) 24 = zR σ 24 := (wS_o (by omega)).2.2.2.2
  have hx20 : zX (wS σ 7 1 y pa) 20 = zX σ 20 := (wS_o (by omega)).2.2.1
  refine Z.astY (σ := (wS σ 7 1 y pa)) B (n := 8) (q := zN σ) dX1_addWay_71 (hl3.n (k := 24) (by decide)) (hl3.k (k := 24) (by decide)) (hl3.l (k := 24) (by decide)) (by decide) (j := y) rfl (by omega) (ci := 7) (by rw [wS_n.1]; exact Nat.lt_succ_self _) wS_n.2.1 (by unfold zIsW; decide) (τ := (zuR (wS σ 7 1 y pa) 24 (va_up (zR σ 24) y (some (zN σ))))) (by rw [hr24]) ?_
  refine Z.goto B dX1_addWay_72 (tgt := 210) rfl ?_
  refine Z.aload_n B dX1_addWay_210 (v := .ref 20) rfl rfl ?_
  refine Z.dup B dX1_addWay_211 rfl ?_
  refine Z.getI (σ := (zuR (wS σ 7 1 y pa) 24 (va_up (zR σ 24) y (some (zN σ))))) B fX1_44_1 dX1_addWay_212 (hl3.n (k := 20) (by decide)) (hl3.k (k := 20) (by decide)) (by decide) (v := nI y) (by rw [show zX (zuR (wS σ 7 1 y pa) 24 (va_up (zR σ 24) y (some (zN σ)))) 20 = zX σ 20 from hx20]; exact hy) ?_
  refine Z.iconst B dX1_addWay_215 (v := nI 1) rfl ?_
  refine Z.iaddN B dX1_addWay_216 (a := y) (b := 1) ?_
  refine Z.putI (σ := (zuR (wS σ 7 1 y pa) 24 (va_up (zR σ 24) y (some (zN σ))))) B fX1_44_1 (ty := .int) ⟨_, _, _, rfl, rfl, by decide +kernel⟩ dX1_addWay_217 (hl3.n (k := 20) (by decide)) (hl3.k (k := 20) (by decide)) (by decide) rfl rfl (τ := (zuX (zuR (wS σ 7 1 y pa) 24 (va_up (zR σ 24) y (some (zN σ)))) 20 (upd (zX σ 20) 7 (nI (y + 1))))) (by rw [show zX (zuR (wS σ 7 1 y pa) 24 (va_up (zR σ 24) y (some (zN σ)))) 20 = zX σ 20 from hx20]) ?_
  refine Z.iload_n B dX1_addWay_220 (x := nI y) rfl ?_
  refine Z.iret B Rt dX1_addWay_221 (ty := .int) rfl rfl (by decide) (by decide) ?_
  exact ⟨rfl, rfl⟩

theorem t_X1_addWay_2 {σ : zSt} {n a y : Nat} (hl : Lay σ) (hn : zX σ 20 2 = nI n) (hn8 : n ≤ 8) (ha : zX σ 20 5 = nI a) (ha4 : a ≤ 4) (hy : zX σ 20 7 = nI y) (hy8 : y ≤ 8) (hcl : zCl σ) (h8 : y < 8) {pa : Nat} : Dt mX1_addWay [.ref 20, .int (nI 2), .int (nI pa)] σ (some (.int (nI y))) (aW σ 20 2 pa y) := by
  refine Dt.ofN (by decide) (Nat.le_of_ble_eq_true rfl) fun κ B Rt hn0 => ?_
  show Z κ 0 0 σ 0 [(0, .ref 20), (1, .int (nI 2)), (2, .int (nI pa))] []
  refine Z.aload_n B dX1_addWay_0 (v := .ref 20) rfl rfl ?_
  refine Z.getI (σ := σ) B fX1_44_1 dX1_addWay_1 (hl.n (k := 20) (by decide)) (hl.k (k := 20) (by decide)) (by decide) (v := nI y) hy ?_
  refine Z.istore_n B dX1_addWay_4 (by decide) (L' := [(0, .ref 20), (1, .int (nI 2)), (2, .int (nI pa)), (3, .int (nI y))]) rfl ?_
  refine Z.iload_n B dX1_addWay_5 (x := nI y) rfl ?_
  refine Z.bipush B dX1_addWay_6 (v := nI 8) rfl ?_
  refine Z.icmp_ltN B dX1_addWay_8 (tgt := 13) rfl (by omega) (by omega) (fun h8 => ?_) (fun h8 => by exfalso; first | omega | contradiction | simp_all)
  refine Z.iload_n B dX1_addWay_13 (x := nI 2) rfl ?_
  refine Z.tabIn B dX1_addWay_14 (by decide) (by decide) (off := 61) (by decide) (tgt := 75) rfl ?_
  refine Z.aload_n B dX1_addWay_75 (v := .ref 20) rfl rfl ?_
  refine Z.getR (σ := σ) B fX1_27_1 dX1_addWay_76 (hl.n (k := 20) (by decide)) (hl.k (k := 20) (by decide)) (by decide) (j := 24) (hl.r (k := 20) (f := 6) (by decide) (by decide)) ?_
  refine Z.iload_n B dX1_addWay_79 (x := nI y) rfl ?_
  refine Z.new (σ := σ) B (ci := 4) (N := 4) dX1_addWay_80 (zT_at 522 (by decide +kernel) rfl) rfl (by decide) rfl (zT_at 523 (by decide +kernel) rfl) (zT_at 73 (by decide +kernel) rfl) zDf_4 hcl (zall66L rfl hl.1) (zall66S rfl hl.1) (by rw [hn0]; exact Nat.le_refl _) (by decide) (by decide) ?_
  have hl2 : Lay (zNew σ 4 0) := hl.new
  refine Z.dup B dX1_addWay_83 rfl ?_
  refine Z.iload_n B dX1_addWay_84 (x := nI 2) rfl ?_
  refine Z.iload_n B dX1_addWay_85 (x := nI y) rfl ?_
  refine Z.iload_n B dX1_addWay_86 (x := nI pa) rfl ?_
  refine Z.aload_n B dX1_addWay_87 (v := .ref 20) rfl rfl ?_
  refine Z.getR (σ := (zNew σ 4 0)) B fX1_9_1 dX1_addWay_88 (hl2.n (k := 20) (by decide)) (hl2.k (k := 20) (by decide)) (by decide) (j := 18) (hl2.r (k := 20) (f := 0) (by decide) (by decide)) ?_
  refine Z.callIN (σ := (zNew σ 4 0)) B (M' := mX4_init) (as := [.int (nI 2), .int (nI y), .int (nI pa), .ref 18]) (st := [.ref (zN σ), .int (nI y), .ref 24]) dX1_addWay_91 wX4_init iX4_init kX1_70 rfl rfl (t_init_X4_init_4 (σ := (zNew σ 4 0)) hl2 (k := zN σ) (kd := 2) (num := y) (pa := pa) (by rw [zNew_n.1]; exact Nat.lt_succ_self _) zNew_n.2.1) rfl rfl (by decide) (by decide) (Nat.le_of_ble_eq_true rfl) (by decide) (by decide) ?_
  refine Z.eqσ (τ := (zuR (zuX (zNew σ 4 0) (zN σ) (upd (upd (upd (zX (zNew σ 4 0) (zN σ)) 0 (nI 2)) 1 (nI y)) 2 (nI pa))) (zN σ) (va_up (zR (zNew σ 4 0) (zN σ)) 3 (some 18)))) rfl ?_
  refine Z.eqσ (τ := (wS σ 4 2 y pa)) rfl ?_
  have hl3 : Lay (wS σ 4 2 y pa) := hl.wS
  have h66 := hl.1
  have hr24 : zR (wS σ 4 2 y pa) 24 = zR σ 24 := (wS_o (by omega)).2.2.2.2
  have hx20 : zX (wS σ 4 2 y pa) 20 = zX σ 20 := (wS_o (by omega)).2.2.1
  refine Z.astY (σ := (wS σ 4 2 y pa)) B (n := 8) (q := zN σ) dX1_addWay_94 (hl3.n (k := 24) (by decide)) (hl3.k (k := 24) (by decide)) (hl3.l (k := 24) (by decide)) (by decide) (j := y) rfl (by omega) (ci := 4) (by rw [wS_n.1]; exact Nat.lt_succ_self _) wS_n.2.1 (by unfold zIsW; decide) (τ := (zuR (wS σ 4 2 y pa) 24 (va_up (zR σ 24) y (some (zN σ))))) (by rw [hr24]) ?_
  refine Z.goto B dX1_addWay_95 (tgt := 210) rfl ?_
  refine Z.aload_n B dX1_addWay_210 (v := .ref 20) rfl rfl ?_
  refine Z.dup B dX1_addWay_211 rfl ?_
  refine Z.getI (σ := (zuR (wS σ 4 2 y pa) 24 (va_up (zR σ 24) y (some (zN σ))))) B fX1_44_1 dX1_addWay_212 (hl3.n (k := 20) (by decide)) (hl3.k (k := 20) (by decide)) (by decide) (v := nI y) (by rw [show zX (zuR (wS σ 4 2 y pa) 24 (va_up (zR σ 24) y (some (zN σ)))) 20 = zX σ 20 from hx20]; exact hy) ?_
  refine Z.iconst B dX1_addWay_215 (v := nI 1) rfl ?_
  refine Z.iaddN B dX1_addWay_216 (a := y) (b := 1) ?_
  refine Z.putI (σ := (zuR (wS σ 4 2 y pa) 24 (va_up (zR σ 24) y (some (zN σ))))) B fX1_44_1 (ty := .int) ⟨_, _, _, rfl, rfl, by decide +kernel⟩ dX1_addWay_217 (hl3.n (k := 20) (by decide)) (hl3.k (k := 20) (by decide)) (by decide) rfl rfl (τ := (zuX (zuR (wS σ 4 2 y pa) 24 (va_up (zR σ 24) y (some (zN σ)))) 20 (upd (zX σ 20) 7 (nI (y + 1))))) (by rw [show zX (zuR (wS σ 4 2 y pa) 24 (va_up (zR σ 24) y (some (zN σ)))) 20 = zX σ 20 from hx20]) ?_
  refine Z.iload_n B dX1_addWay_220 (x := nI y) rfl ?_
  refine Z.iret B Rt dX1_addWay_221 (ty := .int) rfl rfl (by decide) (by decide) ?_
  exact ⟨rfl, rfl⟩

theorem t_X1_addWay_3 {σ : zSt} {n a y : Nat} (hl : Lay σ) (hn : zX σ 20 2 = nI n) (hn8 : n ≤ 8) (ha : zX σ 20 5 = nI a) (ha4 : a ≤ 4) (hy : zX σ 20 7 = nI y) (hy8 : y ≤ 8) (hcl : zCl σ) (h8 : y < 8) {pa : Nat} : Dt mX1_addWay [.ref 20, .int (nI 3), .int (nI pa)] σ (some (.int (nI y))) (aW σ 20 3 pa y) := by
  refine Dt.ofN (by decide) (Nat.le_of_ble_eq_true rfl) fun κ B Rt hn0 => ?_
  show Z κ 0 0 σ 0 [(0, .ref 20), (1, .int (nI 3)), (2, .int (nI pa))] []
  refine Z.aload_n B dX1_addWay_0 (v := .ref 20) rfl rfl ?_
  refine Z.getI (σ := σ) B fX1_44_1 dX1_addWay_1 (hl.n (k := 20) (by decide)) (hl.k (k := 20) (by decide)) (by decide) (v := nI y) hy ?_
  refine Z.istore_n B dX1_addWay_4 (by decide) (L' := [(0, .ref 20), (1, .int (nI 3)), (2, .int (nI pa)), (3, .int (nI y))]) rfl ?_
  refine Z.iload_n B dX1_addWay_5 (x := nI y) rfl ?_
  refine Z.bipush B dX1_addWay_6 (v := nI 8) rfl ?_
  refine Z.icmp_ltN B dX1_addWay_8 (tgt := 13) rfl (by omega) (by omega) (fun h8 => ?_) (fun h8 => by exfalso; first | omega | contradiction | simp_all)
  refine Z.iload_n B dX1_addWay_13 (x := nI 3) rfl ?_
  refine Z.tabIn B dX1_addWay_14 (by decide) (by decide) (off := 84) (by decide) (tgt := 98) rfl ?_
  refine Z.aload_n B dX1_addWay_98 (v := .ref 20) rfl rfl ?_
  refine Z.getR (σ := σ) B fX1_27_1 dX1_addWay_99 (hl.n (k := 20) (by decide)) (hl.k (k := 20) (by decide)) (by decide) (j := 24) (hl.r (k := 20) (f := 6) (by decide) (by decide)) ?_
  refine Z.iload_n B dX1_addWay_102 (x := nI y) rfl ?_
  refine Z.new (σ := σ) B (ci := 10) (N := 4) dX1_addWay_103 (zT_at 532 (by decide +kernel) rfl) rfl (by decide) rfl (zT_at 533 (by decide +kernel) rfl) (zT_at 74 (by decide +kernel) rfl) zDf_10 hcl (zall66L rfl hl.1) (zall66S rfl hl.1) (by rw [hn0]; exact Nat.le_refl _) (by decide) (by decide) ?_
  have hl2 : Lay (zNew σ 10 0) := hl.new
  refine Z.dup B dX1_addWay_106 rfl ?_
  refine Z.iload_n B dX1_addWay_107 (x := nI 3) rfl ?_
  refine Z.iload_n B dX1_addWay_108 (x := nI y) rfl ?_
  refine Z.iload_n B dX1_addWay_109 (x := nI pa) rfl ?_
  refine Z.aload_n B dX1_addWay_110 (v := .ref 20) rfl rfl ?_
  refine Z.getR (σ := (zNew σ 10 0)) B fX1_9_1 dX1_addWay_111 (hl2.n (k := 20) (by decide)) (hl2.k (k := 20) (by decide)) (by decide) (j := 18) (hl2.r (k := 20) (f := 0) (by decide) (by decide)) ?_
  refine Z.callIN (σ := (zNew σ 10 0)) B (M' := mX10_init) (as := [.int (nI 3), .int (nI y), .int (nI pa), .ref 18]) (st := [.ref (zN σ), .int (nI y), .ref 24]) dX1_addWay_114 wX10_init iX10_init kX1_73 rfl rfl (t_init_X10_init_10 (σ := (zNew σ 10 0)) hl2 (k := zN σ) (kd := 3) (num := y) (pa := pa) (by rw [zNew_n.1]; exact Nat.lt_succ_self _) zNew_n.2.1) rfl rfl (by decide) (by decide) (Nat.le_of_ble_eq_true rfl) (by decide) (by decide) ?_
  refine Z.eqσ (τ := (zuR (zuX (zNew σ 10 0) (zN σ) (upd (upd (upd (zX (zNew σ 10 0) (zN σ)) 0 (nI 3)) 1 (nI y)) 2 (nI pa))) (zN σ) (va_up (zR (zNew σ 10 0) (zN σ)) 3 (some 18)))) rfl ?_
  refine Z.eqσ (τ := (wS σ 10 3 y pa)) rfl ?_
  have hl3 : Lay (wS σ 10 3 y pa) := hl.wS
  have h66 := hl.1
  have hr24 : zR (wS σ 10 3 y pa) 24 = zR σ 24 := (wS_o (by omega)).2.2.2.2
  have hx20 : zX (wS σ 10 3 y pa) 20 = zX σ 20 := (wS_o (by omega)).2.2.1
  refine Z.astY (σ := (wS σ 10 3 y pa)) B (n := 8) (q := zN σ) dX1_addWay_117 (hl3.n (k := 24) (by decide)) (hl3.k (k := 24) (by decide)) (hl3.l (k := 24) (by decide)) (by decide) (j := y) rfl (by omega) (ci := 10) (by rw [wS_n.1]; exact Nat.lt_succ_self _) wS_n.2.1 (by unfold zIsW; decide) (τ := (zuR (wS σ 10 3 y pa) 24 (va_up (zR σ 24) y (some (zN σ))))) (by rw [hr24]) ?_
  refine Z.goto B dX1_addWay_118 (tgt := 210) rfl ?_
  refine Z.aload_n B dX1_addWay_210 (v := .ref 20) rfl rfl ?_
  refine Z.dup B dX1_addWay_211 rfl ?_
  refine Z.getI (σ := (zuR (wS σ 10 3 y pa) 24 (va_up (zR σ 24) y (some (zN σ))))) B fX1_44_1 dX1_addWay_212 (hl3.n (k := 20) (by decide)) (hl3.k (k := 20) (by decide)) (by decide) (v := nI y) (by rw [show zX (zuR (wS σ 10 3 y pa) 24 (va_up (zR σ 24) y (some (zN σ)))) 20 = zX σ 20 from hx20]; exact hy) ?_
  refine Z.iconst B dX1_addWay_215 (v := nI 1) rfl ?_
  refine Z.iaddN B dX1_addWay_216 (a := y) (b := 1) ?_
  refine Z.putI (σ := (zuR (wS σ 10 3 y pa) 24 (va_up (zR σ 24) y (some (zN σ))))) B fX1_44_1 (ty := .int) ⟨_, _, _, rfl, rfl, by decide +kernel⟩ dX1_addWay_217 (hl3.n (k := 20) (by decide)) (hl3.k (k := 20) (by decide)) (by decide) rfl rfl (τ := (zuX (zuR (wS σ 10 3 y pa) 24 (va_up (zR σ 24) y (some (zN σ)))) 20 (upd (zX σ 20) 7 (nI (y + 1))))) (by rw [show zX (zuR (wS σ 10 3 y pa) 24 (va_up (zR σ 24) y (some (zN σ)))) 20 = zX σ 20 from hx20]) ?_
  refine Z.iload_n B dX1_addWay_220 (x := nI y) rfl ?_
  refine Z.iret B Rt dX1_addWay_221 (ty := .int) rfl rfl (by decide) (by decide) ?_
  exact ⟨rfl, rfl⟩

theorem t_X1_addWay_4 {σ : zSt} {n a y : Nat} (hl : Lay σ) (hn : zX σ 20 2 = nI n) (hn8 : n ≤ 8) (ha : zX σ 20 5 = nI a) (ha4 : a ≤ 4) (hy : zX σ 20 7 = nI y) (hy8 : y ≤ 8) (hcl : zCl σ) (h8 : y < 8) {pa : Nat} : Dt mX1_addWay [.ref 20, .int (nI 4), .int (nI pa)] σ (some (.int (nI y))) (aW σ 20 4 pa y) := by
  refine Dt.ofN (by decide) (Nat.le_of_ble_eq_true rfl) fun κ B Rt hn0 => ?_
  show Z κ 0 0 σ 0 [(0, .ref 20), (1, .int (nI 4)), (2, .int (nI pa))] []
  refine Z.aload_n B dX1_addWay_0 (v := .ref 20) rfl rfl ?_
  refine Z.getI (σ := σ) B fX1_44_1 dX1_addWay_1 (hl.n (k := 20) (by decide)) (hl.k (k := 20) (by decide)) (by decide) (v := nI y) hy ?_
  refine Z.istore_n B dX1_addWay_4 (by decide) (L' := [(0, .ref 20), (1, .int (nI 4)), (2, .int (nI pa)), (3, .int (nI y))]) rfl ?_
  refine Z.iload_n B dX1_addWay_5 (x := nI y) rfl ?_
  refine Z.bipush B dX1_addWay_6 (v := nI 8) rfl ?_
  refine Z.icmp_ltN B dX1_addWay_8 (tgt := 13) rfl (by omega) (by omega) (fun h8 => ?_) (fun h8 => by exfalso; first | omega | contradiction | simp_all)
  refine Z.iload_n B dX1_addWay_13 (x := nI 4) rfl ?_
  refine Z.tabIn B dX1_addWay_14 (by decide) (by decide) (off := 107) (by decide) (tgt := 121) rfl ?_
  refine Z.aload_n B dX1_addWay_121 (v := .ref 20) rfl rfl ?_
  refine Z.getR (σ := σ) B fX1_27_1 dX1_addWay_122 (hl.n (k := 20) (by decide)) (hl.k (k := 20) (by decide)) (by decide) (j := 24) (hl.r (k := 20) (f := 6) (by decide) (by decide)) ?_
  refine Z.iload_n B dX1_addWay_125 (x := nI y) rfl ?_
  refine Z.new (σ := σ) B (ci := 3) (N := 4) dX1_addWay_126 (zT_at 543 (by decide +kernel) rfl) rfl (by decide) rfl (zT_at 544 (by decide +kernel) rfl) (zT_at 75 (by decide +kernel) rfl) zDf_3 hcl (zall66L rfl hl.1) (zall66S rfl hl.1) (by rw [hn0]; exact Nat.le_refl _) (by decide) (by decide) ?_
  have hl2 : Lay (zNew σ 3 0) := hl.new
  refine Z.dup B dX1_addWay_129 rfl ?_
  refine Z.iload_n B dX1_addWay_130 (x := nI 4) rfl ?_
  refine Z.iload_n B dX1_addWay_131 (x := nI y) rfl ?_
  refine Z.iload_n B dX1_addWay_132 (x := nI pa) rfl ?_
  refine Z.aload_n B dX1_addWay_133 (v := .ref 20) rfl rfl ?_
  refine Z.getR (σ := (zNew σ 3 0)) B fX1_9_1 dX1_addWay_134 (hl2.n (k := 20) (by decide)) (hl2.k (k := 20) (by decide)) (by decide) (j := 18) (hl2.r (k := 20) (f := 0) (by decide) (by decide)) ?_
  refine Z.callIN (σ := (zNew σ 3 0)) B (M' := mX3_init) (as := [.int (nI 4), .int (nI y), .int (nI pa), .ref 18]) (st := [.ref (zN σ), .int (nI y), .ref 24]) dX1_addWay_137 wX3_init iX3_init kX1_76 rfl rfl (t_init_X3_init_3 (σ := (zNew σ 3 0)) hl2 (k := zN σ) (kd := 4) (num := y) (pa := pa) (by rw [zNew_n.1]; exact Nat.lt_succ_self _) zNew_n.2.1) rfl rfl (by decide) (by decide) (Nat.le_of_ble_eq_true rfl) (by decide) (by decide) ?_
  refine Z.eqσ (τ := (zuR (zuX (zNew σ 3 0) (zN σ) (upd (upd (upd (zX (zNew σ 3 0) (zN σ)) 0 (nI 4)) 1 (nI y)) 2 (nI pa))) (zN σ) (va_up (zR (zNew σ 3 0) (zN σ)) 3 (some 18)))) rfl ?_
  refine Z.eqσ (τ := (wS σ 3 4 y pa)) rfl ?_
  have hl3 : Lay (wS σ 3 4 y pa) := hl.wS
  have h66 := hl.1
  have hr24 : zR (wS σ 3 4 y pa) 24 = zR σ 24 := (wS_o (by omega)).2.2.2.2
  have hx20 : zX (wS σ 3 4 y pa) 20 = zX σ 20 := (wS_o (by omega)).2.2.1
  refine Z.astY (σ := (wS σ 3 4 y pa)) B (n := 8) (q := zN σ) dX1_addWay_140 (hl3.n (k := 24) (by decide)) (hl3.k (k := 24) (by decide)) (hl3.l (k := 24) (by decide)) (by decide) (j := y) rfl (by omega) (ci := 3) (by rw [wS_n.1]; exact Nat.lt_succ_self _) wS_n.2.1 (by unfold zIsW; decide) (τ := (zuR (wS σ 3 4 y pa) 24 (va_up (zR σ 24) y (some (zN σ))))) (by rw [hr24]) ?_
  refine Z.goto B dX1_addWay_141 (tgt := 210) rfl ?_
  refine Z.aload_n B dX1_addWay_210 (v := .ref 20) rfl rfl ?_
  refine Z.dup B dX1_addWay_211 rfl ?_
  refine Z.getI (σ := (zuR (wS σ 3 4 y pa) 24 (va_up (zR σ 24) y (some (zN σ))))) B fX1_44_1 dX1_addWay_212 (hl3.n (k := 20) (by decide)) (hl3.k (k := 20) (by decide)) (by decide) (v := nI y) (by rw [show zX (zuR (wS σ 3 4 y pa) 24 (va_up (zR σ 24) y (some (zN σ)))) 20 = zX σ 20 from hx20]; exact hy) ?_
  refine Z.iconst B dX1_addWay_215 (v := nI 1) rfl ?_
  refine Z.iaddN B dX1_addWay_216 (a := y) (b := 1) ?_
  refine Z.putI (σ := (zuR (wS σ 3 4 y pa) 24 (va_up (zR σ 24) y (some (zN σ))))) B fX1_44_1 (ty := .int) ⟨_, _, _, rfl, rfl, by decide +kernel⟩ dX1_addWay_217 (hl3.n (k := 20) (by decide)) (hl3.k (k := 20) (by decide)) (by decide) rfl rfl (τ := (zuX (zuR (wS σ 3 4 y pa) 24 (va_up (zR σ 24) y (some (zN σ)))) 20 (upd (zX σ 20) 7 (nI (y + 1))))) (by rw [show zX (zuR (wS σ 3 4 y pa) 24 (va_up (zR σ 24) y (some (zN σ)))) 20 = zX σ 20 from hx20]) ?_
  refine Z.iload_n B dX1_addWay_220 (x := nI y) rfl ?_
  refine Z.iret B Rt dX1_addWay_221 (ty := .int) rfl rfl (by decide) (by decide) ?_
  exact ⟨rfl, rfl⟩

theorem t_X1_addWay_5 {σ : zSt} {n a y : Nat} (hl : Lay σ) (hn : zX σ 20 2 = nI n) (hn8 : n ≤ 8) (ha : zX σ 20 5 = nI a) (ha4 : a ≤ 4) (hy : zX σ 20 7 = nI y) (hy8 : y ≤ 8) (hcl : zCl σ) (h8 : y < 8) {pa : Nat} : Dt mX1_addWay [.ref 20, .int (nI 5), .int (nI pa)] σ (some (.int (nI y))) (aW σ 20 5 pa y) := by
  refine Dt.ofN (by decide) (Nat.le_of_ble_eq_true rfl) fun κ B Rt hn0 => ?_
  show Z κ 0 0 σ 0 [(0, .ref 20), (1, .int (nI 5)), (2, .int (nI pa))] []
  refine Z.aload_n B dX1_addWay_0 (v := .ref 20) rfl rfl ?_
  refine Z.getI (σ := σ) B fX1_44_1 dX1_addWay_1 (hl.n (k := 20) (by decide)) (hl.k (k := 20) (by decide)) (by decide) (v := nI y) hy ?_
  refine Z.istore_n B dX1_addWay_4 (by decide) (L' := [(0, .ref 20), (1, .int (nI 5)), (2, .int (nI pa)), (3, .int (nI y))]) rfl ?_
  refine Z.iload_n B dX1_addWay_5 (x := nI y) rfl ?_
  refine Z.bipush B dX1_addWay_6 (v := nI 8) rfl ?_
  refine Z.icmp_ltN B dX1_addWay_8 (tgt := 13) rfl (by omega) (by omega) (fun h8 => ?_) (fun h8 => by exfalso; first | omega | contradiction | simp_all)
  refine Z.iload_n B dX1_addWay_13 (x := nI 5) rfl ?_
  refine Z.tabIn B dX1_addWay_14 (by decide) (by decide) (off := 130) (by decide) (tgt := 144) rfl ?_
  refine Z.aload_n B dX1_addWay_144 (v := .ref 20) rfl rfl ?_
  refine Z.getR (σ := σ) B fX1_27_1 dX1_addWay_145 (hl.n (k := 20) (by decide)) (hl.k (k := 20) (by decide)) (by decide) (j := 24) (hl.r (k := 20) (f := 6) (by decide) (by decide)) ?_
  refine Z.iload_n B dX1_addWay_148 (x := nI y) rfl ?_
  refine Z.new (σ := σ) B (ci := 5) (N := 4) dX1_addWay_149 (zT_at 554 (by decide +kernel) rfl) rfl (by decide) rfl (zT_at 555 (by decide +kernel) rfl) (zT_at 76 (by decide +kernel) rfl) zDf_5 hcl (zall66L rfl hl.1) (zall66S rfl hl.1) (by rw [hn0]; exact Nat.le_refl _) (by decide) (by decide) ?_
  have hl2 : Lay (zNew σ 5 0) := hl.new
  refine Z.dup B dX1_addWay_152 rfl ?_
  refine Z.iload_n B dX1_addWay_153 (x := nI 5) rfl ?_
  refine Z.iload_n B dX1_addWay_154 (x := nI y) rfl ?_
  refine Z.iload_n B dX1_addWay_155 (x := nI pa) rfl ?_
  refine Z.aload_n B dX1_addWay_156 (v := .ref 20) rfl rfl ?_
  refine Z.getR (σ := (zNew σ 5 0)) B fX1_9_1 dX1_addWay_157 (hl2.n (k := 20) (by decide)) (hl2.k (k := 20) (by decide)) (by decide) (j := 18) (hl2.r (k := 20) (f := 0) (by decide) (by decide)) ?_
  refine Z.callIN (σ := (zNew σ 5 0)) B (M' := mX5_init) (as := [.int (nI 5), .int (nI y), .int (nI pa), .ref 18]) (st := [.ref (zN σ), .int (nI y), .ref 24]) dX1_addWay_160 wX5_init iX5_init kX1_79 rfl rfl (t_init_X5_init_5 (σ := (zNew σ 5 0)) hl2 (k := zN σ) (kd := 5) (num := y) (pa := pa) (by rw [zNew_n.1]; exact Nat.lt_succ_self _) zNew_n.2.1) rfl rfl (by decide) (by decide) (Nat.le_of_ble_eq_true rfl) (by decide) (by decide) ?_
  refine Z.eqσ (τ := (zuR (zuX (zNew σ 5 0) (zN σ) (upd (upd (upd (zX (zNew σ 5 0) (zN σ)) 0 (nI 5)) 1 (nI y)) 2 (nI pa))) (zN σ) (va_up (zR (zNew σ 5 0) (zN σ)) 3 (some 18)))) rfl ?_
  refine Z.eqσ (τ := (wS σ 5 5 y pa)) rfl ?_
  have hl3 : Lay (wS σ 5 5 y pa) := hl.wS
  have h66 := hl.1
  have hr24 : zR (wS σ 5 5 y pa) 24 = zR σ 24 := (wS_o (by omega)).2.2.2.2
  have hx20 : zX (wS σ 5 5 y pa) 20 = zX σ 20 := (wS_o (by omega)).2.2.1
  refine Z.astY (σ := (wS σ 5 5 y pa)) B (n := 8) (q := zN σ) dX1_addWay_163 (hl3.n (k := 24) (by decide)) (hl3.k (k := 24) (by decide)) (hl3.l (k := 24) (by decide)) (by decide) (j := y) rfl (by omega) (ci := 5) (by rw [wS_n.1]; exact Nat.lt_succ_self _) wS_n.2.1 (by unfold zIsW; decide) (τ := (zuR (wS σ 5 5 y pa) 24 (va_up (zR σ 24) y (some (zN σ))))) (by rw [hr24]) ?_
  refine Z.goto B dX1_addWay_164 (tgt := 210) rfl ?_
  refine Z.aload_n B dX1_addWay_210 (v := .ref 20) rfl rfl ?_
  refine Z.dup B dX1_addWay_211 rfl ?_
  refine Z.getI (σ := (zuR (wS σ 5 5 y pa) 24 (va_up (zR σ 24) y (some (zN σ))))) B fX1_44_1 dX1_addWay_212 (hl3.n (k := 20) (by decide)) (hl3.k (k := 20) (by decide)) (by decide) (v := nI y) (by rw [show zX (zuR (wS σ 5 5 y pa) 24 (va_up (zR σ 24) y (some (zN σ)))) 20 = zX σ 20 from hx20]; exact hy) ?_
  refine Z.iconst B dX1_addWay_215 (v := nI 1) rfl ?_
  refine Z.iaddN B dX1_addWay_216 (a := y) (b := 1) ?_
  refine Z.putI (σ := (zuR (wS σ 5 5 y pa) 24 (va_up (zR σ 24) y (some (zN σ))))) B fX1_44_1 (ty := .int) ⟨_, _, _, rfl, rfl, by decide +kernel⟩ dX1_addWay_217 (hl3.n (k := 20) (by decide)) (hl3.k (k := 20) (by decide)) (by decide) rfl rfl (τ := (zuX (zuR (wS σ 5 5 y pa) 24 (va_up (zR σ 24) y (some (zN σ)))) 20 (upd (zX σ 20) 7 (nI (y + 1))))) (by rw [show zX (zuR (wS σ 5 5 y pa) 24 (va_up (zR σ 24) y (some (zN σ)))) 20 = zX σ 20 from hx20]) ?_
  refine Z.iload_n B dX1_addWay_220 (x := nI y) rfl ?_
  refine Z.iret B Rt dX1_addWay_221 (ty := .int) rfl rfl (by decide) (by decide) ?_
  exact ⟨rfl, rfl⟩

theorem t_X1_addWay_6 {σ : zSt} {n a y : Nat} (hl : Lay σ) (hn : zX σ 20 2 = nI n) (hn8 : n ≤ 8) (ha : zX σ 20 5 = nI a) (ha4 : a ≤ 4) (hy : zX σ 20 7 = nI y) (hy8 : y ≤ 8) (hcl : zCl σ) (h8 : y < 8) {pa : Nat} : Dt mX1_addWay [.ref 20, .int (nI 6), .int (nI pa)] σ (some (.int (nI y))) (aW σ 20 6 pa y) := by
  refine Dt.ofN (by decide) (Nat.le_of_ble_eq_true rfl) fun κ B Rt hn0 => ?_
  show Z κ 0 0 σ 0 [(0, .ref 20), (1, .int (nI 6)), (2, .int (nI pa))] []
  refine Z.aload_n B dX1_addWay_0 (v := .ref 20) rfl rfl ?_
  refine Z.getI (σ := σ) B fX1_44_1 dX1_addWay_1 (hl.n (k := 20) (by decide)) (hl.k (k := 20) (by decide)) (by decide) (v := nI y) hy ?_
  refine Z.istore_n B dX1_addWay_4 (by decide) (L' := [(0, .ref 20), (1, .int (nI 6)), (2, .int (nI pa)), (3, .int (nI y))]) rfl ?_
  refine Z.iload_n B dX1_addWay_5 (x := nI y) rfl ?_
  refine Z.bipush B dX1_addWay_6 (v := nI 8) rfl ?_
  refine Z.icmp_ltN B dX1_addWay_8 (tgt := 13) rfl (by omega) (by omega) (fun h8 => ?_) (fun h8 => by exfalso; first | omega | contradiction | simp_all)
  refine Z.iload_n B dX1_addWay_13 (x := nI 6) rfl ?_
  refine Z.tabIn B dX1_addWay_14 (by decide) (by decide) (off := 153) (by decide) (tgt := 167) rfl ?_
  refine Z.aload_n B dX1_addWay_167 (v := .ref 20) rfl rfl ?_
  refine Z.getR (σ := σ) B fX1_27_1 dX1_addWay_168 (hl.n (k := 20) (by decide)) (hl.k (k := 20) (by decide)) (by decide) (j := 24) (hl.r (k := 20) (f := 6) (by decide) (by decide)) ?_
  refine Z.iload_n B dX1_addWay_171 (x := nI y) rfl ?_
  refine Z.new (σ := σ) B (ci := 0) (N := 4) dX1_addWay_172 (zT_at 565 (by decide +kernel) rfl) rfl (by decide) rfl (zT_at 566 (by decide +kernel) rfl) (zT_at 77 (by decide +kernel) rfl) zDf_0 hcl (zall66L rfl hl.1) (zall66S rfl hl.1) (by rw [hn0]; exact Nat.le_refl _) (by decide) (by decide) ?_
  have hl2 : Lay (zNew σ 0 0) := hl.new
  refine Z.dup B dX1_addWay_175 rfl ?_
  refine Z.iload_n B dX1_addWay_176 (x := nI 6) rfl ?_
  refine Z.iload_n B dX1_addWay_177 (x := nI y) rfl ?_
  refine Z.iload_n B dX1_addWay_178 (x := nI pa) rfl ?_
  refine Z.aload_n B dX1_addWay_179 (v := .ref 20) rfl rfl ?_
  refine Z.getR (σ := (zNew σ 0 0)) B fX1_9_1 dX1_addWay_180 (hl2.n (k := 20) (by decide)) (hl2.k (k := 20) (by decide)) (by decide) (j := 18) (hl2.r (k := 20) (f := 0) (by decide) (by decide)) ?_
  refine Z.callIN (σ := (zNew σ 0 0)) B (M' := mX0_init) (as := [.int (nI 6), .int (nI y), .int (nI pa), .ref 18]) (st := [.ref (zN σ), .int (nI y), .ref 24]) dX1_addWay_183 wX0_init iX0_init kX1_82 rfl rfl (t_init_X0_init_0 (σ := (zNew σ 0 0)) hl2 (k := zN σ) (kd := 6) (num := y) (pa := pa) (by rw [zNew_n.1]; exact Nat.lt_succ_self _) zNew_n.2.1) rfl rfl (by decide) (by decide) (Nat.le_of_ble_eq_true rfl) (by decide) (by decide) ?_
  refine Z.eqσ (τ := (zuR (zuX (zNew σ 0 0) (zN σ) (upd (upd (upd (zX (zNew σ 0 0) (zN σ)) 0 (nI 6)) 1 (nI y)) 2 (nI pa))) (zN σ) (va_up (zR (zNew σ 0 0) (zN σ)) 3 (some 18)))) rfl ?_
  refine Z.eqσ (τ := (wS σ 0 6 y pa)) rfl ?_
  have hl3 : Lay (wS σ 0 6 y pa) := hl.wS
  have h66 := hl.1
  have hr24 : zR (wS σ 0 6 y pa) 24 = zR σ 24 := (wS_o (by omega)).2.2.2.2
  have hx20 : zX (wS σ 0 6 y pa) 20 = zX σ 20 := (wS_o (by omega)).2.2.1
  refine Z.astY (σ := (wS σ 0 6 y pa)) B (n := 8) (q := zN σ) dX1_addWay_186 (hl3.n (k := 24) (by decide)) (hl3.k (k := 24) (by decide)) (hl3.l (k := 24) (by decide)) (by decide) (j := y) rfl (by omega) (ci := 0) (by rw [wS_n.1]; exact Nat.lt_succ_self _) wS_n.2.1 (by unfold zIsW; decide) (τ := (zuR (wS σ 0 6 y pa) 24 (va_up (zR σ 24) y (some (zN σ))))) (by rw [hr24]) ?_
  refine Z.goto B dX1_addWay_187 (tgt := 210) rfl ?_
  refine Z.aload_n B dX1_addWay_210 (v := .ref 20) rfl rfl ?_
  refine Z.dup B dX1_addWay_211 rfl ?_
  refine Z.getI (σ := (zuR (wS σ 0 6 y pa) 24 (va_up (zR σ 24) y (some (zN σ))))) B fX1_44_1 dX1_addWay_212 (hl3.n (k := 20) (by decide)) (hl3.k (k := 20) (by decide)) (by decide) (v := nI y) (by rw [show zX (zuR (wS σ 0 6 y pa) 24 (va_up (zR σ 24) y (some (zN σ)))) 20 = zX σ 20 from hx20]; exact hy) ?_
  refine Z.iconst B dX1_addWay_215 (v := nI 1) rfl ?_
  refine Z.iaddN B dX1_addWay_216 (a := y) (b := 1) ?_
  refine Z.putI (σ := (zuR (wS σ 0 6 y pa) 24 (va_up (zR σ 24) y (some (zN σ))))) B fX1_44_1 (ty := .int) ⟨_, _, _, rfl, rfl, by decide +kernel⟩ dX1_addWay_217 (hl3.n (k := 20) (by decide)) (hl3.k (k := 20) (by decide)) (by decide) rfl rfl (τ := (zuX (zuR (wS σ 0 6 y pa) 24 (va_up (zR σ 24) y (some (zN σ)))) 20 (upd (zX σ 20) 7 (nI (y + 1))))) (by rw [show zX (zuR (wS σ 0 6 y pa) 24 (va_up (zR σ 24) y (some (zN σ)))) 20 = zX σ 20 from hx20]) ?_
  refine Z.iload_n B dX1_addWay_220 (x := nI y) rfl ?_
  refine Z.iret B Rt dX1_addWay_221 (ty := .int) rfl rfl (by decide) (by decide) ?_
  exact ⟨rfl, rfl⟩

theorem t_X1_addWay_d_0 {σ : zSt} {n a y : Nat} (hl : Lay σ) (hn : zX σ 35 2 = nI n) (hn8 : n ≤ 8) (ha : zX σ 35 5 = nI a) (ha4 : a ≤ 4) (hy : zX σ 35 7 = nI y) (hy8 : y ≤ 8) (hcl : zCl σ) (h8 : y < 8) {pa : Nat} : Dt mX1_addWay [.ref 35, .int (nI 0), .int (nI pa)] σ (some (.int (nI y))) (aW σ 35 0 pa y) := by
  refine Dt.ofN (by decide) (Nat.le_of_ble_eq_true rfl) fun κ B Rt hn0 => ?_
  show Z κ 0 0 σ 0 [(0, .ref 35), (1, .int (nI 0)), (2, .int (nI pa))] []
  refine Z.aload_n B dX1_addWay_0 (v := .ref 35) rfl rfl ?_
  refine Z.getI (σ := σ) B fX1_44_1 dX1_addWay_1 (hl.n (k := 35) (by decide)) (hl.k (k := 35) (by decide)) (by decide) (v := nI y) hy ?_
  refine Z.istore_n B dX1_addWay_4 (by decide) (L' := [(0, .ref 35), (1, .int (nI 0)), (2, .int (nI pa)), (3, .int (nI y))]) rfl ?_
  refine Z.iload_n B dX1_addWay_5 (x := nI y) rfl ?_
  refine Z.bipush B dX1_addWay_6 (v := nI 8) rfl ?_
  refine Z.icmp_ltN B dX1_addWay_8 (tgt := 13) rfl (by omega) (by omega) (fun h8 => ?_) (fun h8 => by exfalso; first | omega | contradiction | simp_all)
  refine Z.iload_n B dX1_addWay_13 (x := nI 0) rfl ?_
  refine Z.tabOut B dX1_addWay_14 (by decide) (tgt := 190) rfl ?_
  refine Z.aload_n B dX1_addWay_190 (v := .ref 35) rfl rfl ?_
  refine Z.getR (σ := σ) B fX1_27_1 dX1_addWay_191 (hl.n (k := 35) (by decide)) (hl.k (k := 35) (by decide)) (by decide) (j := 39) (hl.r (k := 35) (f := 6) (by decide) (by decide)) ?_
  refine Z.iload_n B dX1_addWay_194 (x := nI y) rfl ?_
  refine Z.new (σ := σ) B (ci := 9) (N := 4) dX1_addWay_195 (zT_at 131 (by decide +kernel) rfl) rfl (by decide) rfl (zT_at 575 (by decide +kernel) rfl) (zT_at 71 (by decide +kernel) rfl) zDf_9 hcl (zall66L rfl hl.1) (zall66S rfl hl.1) (by rw [hn0]; exact Nat.le_refl _) (by decide) (by decide) ?_
  have hl2 : Lay (zNew σ 9 0) := hl.new
  refine Z.dup B dX1_addWay_198 rfl ?_
  refine Z.iload_n B dX1_addWay_199 (x := nI 0) rfl ?_
  refine Z.iload_n B dX1_addWay_200 (x := nI y) rfl ?_
  refine Z.iload_n B dX1_addWay_201 (x := nI pa) rfl ?_
  refine Z.aload_n B dX1_addWay_202 (v := .ref 35) rfl rfl ?_
  refine Z.getR (σ := (zNew σ 9 0)) B fX1_9_1 dX1_addWay_203 (hl2.n (k := 35) (by decide)) (hl2.k (k := 35) (by decide)) (by decide) (j := 18) (hl2.r (k := 35) (f := 0) (by decide) (by decide)) ?_
  refine Z.callIN (σ := (zNew σ 9 0)) B (M' := mX9_init) (as := [.int (nI 0), .int (nI y), .int (nI pa), .ref 18]) (st := [.ref (zN σ), .int (nI y), .ref 39]) dX1_addWay_206 wX9_init iX9_init kX1_83 rfl rfl (t_init_X9_init_9 (σ := (zNew σ 9 0)) hl2 (k := zN σ) (kd := 0) (num := y) (pa := pa) (by rw [zNew_n.1]; exact Nat.lt_succ_self _) zNew_n.2.1) rfl rfl (by decide) (by decide) (Nat.le_of_ble_eq_true rfl) (by decide) (by decide) ?_
  refine Z.eqσ (τ := (zuR (zuX (zNew σ 9 0) (zN σ) (upd (upd (upd (zX (zNew σ 9 0) (zN σ)) 0 (nI 0)) 1 (nI y)) 2 (nI pa))) (zN σ) (va_up (zR (zNew σ 9 0) (zN σ)) 3 (some 18)))) rfl ?_
  refine Z.eqσ (τ := (wS σ 9 0 y pa)) rfl ?_
  have hl3 : Lay (wS σ 9 0 y pa) := hl.wS
  have h66 := hl.1
  have hr24 : zR (wS σ 9 0 y pa) 39 = zR σ 39 := (wS_o (by omega)).2.2.2.2
  have hx20 : zX (wS σ 9 0 y pa) 35 = zX σ 35 := (wS_o (by omega)).2.2.1
  refine Z.astY (σ := (wS σ 9 0 y pa)) B (n := 8) (q := zN σ) dX1_addWay_209 (hl3.n (k := 39) (by decide)) (hl3.k (k := 39) (by decide)) (hl3.l (k := 39) (by decide)) (by decide) (j := y) rfl (by omega) (ci := 9) (by rw [wS_n.1]; exact Nat.lt_succ_self _) wS_n.2.1 (by unfold zIsW; decide) (τ := (zuR (wS σ 9 0 y pa) 39 (va_up (zR σ 39) y (some (zN σ))))) (by rw [hr24]) ?_
  refine Z.aload_n B dX1_addWay_210 (v := .ref 35) rfl rfl ?_
  refine Z.dup B dX1_addWay_211 rfl ?_
  refine Z.getI (σ := (zuR (wS σ 9 0 y pa) 39 (va_up (zR σ 39) y (some (zN σ))))) B fX1_44_1 dX1_addWay_212 (hl3.n (k := 35) (by decide)) (hl3.k (k := 35) (by decide)) (by decide) (v := nI y) (by rw [show zX (zuR (wS σ 9 0 y pa) 39 (va_up (zR σ 39) y (some (zN σ)))) 35 = zX σ 35 from hx20]; exact hy) ?_
  refine Z.iconst B dX1_addWay_215 (v := nI 1) rfl ?_
  refine Z.iaddN B dX1_addWay_216 (a := y) (b := 1) ?_
  refine Z.putI (σ := (zuR (wS σ 9 0 y pa) 39 (va_up (zR σ 39) y (some (zN σ))))) B fX1_44_1 (ty := .int) ⟨_, _, _, rfl, rfl, by decide +kernel⟩ dX1_addWay_217 (hl3.n (k := 35) (by decide)) (hl3.k (k := 35) (by decide)) (by decide) rfl rfl (τ := (zuX (zuR (wS σ 9 0 y pa) 39 (va_up (zR σ 39) y (some (zN σ)))) 35 (upd (zX σ 35) 7 (nI (y + 1))))) (by rw [show zX (zuR (wS σ 9 0 y pa) 39 (va_up (zR σ 39) y (some (zN σ)))) 35 = zX σ 35 from hx20]) ?_
  refine Z.iload_n B dX1_addWay_220 (x := nI y) rfl ?_
  refine Z.iret B Rt dX1_addWay_221 (ty := .int) rfl rfl (by decide) (by decide) ?_
  exact ⟨rfl, rfl⟩

theorem t_X1_addWay_d_1 {σ : zSt} {n a y : Nat} (hl : Lay σ) (hn : zX σ 35 2 = nI n) (hn8 : n ≤ 8) (ha : zX σ 35 5 = nI a) (ha4 : a ≤ 4) (hy : zX σ 35 7 = nI y) (hy8 : y ≤ 8) (hcl : zCl σ) (h8 : y < 8) {pa : Nat} : Dt mX1_addWay [.ref 35, .int (nI 1), .int (nI pa)] σ (some (.int (nI y))) (aW σ 35 1 pa y) := by
  refine Dt.ofN (by decide) (Nat.le_of_ble_eq_true rfl) fun κ B Rt hn0 => ?_
  show Z κ 0 0 σ 0 [(0, .ref 35), (1, .int (nI 1)), (2, .int (nI pa))] []
  refine Z.aload_n B dX1_addWay_0 (v := .ref 35) rfl rfl ?_
  refine Z.getI (σ := σ) B fX1_44_1 dX1_addWay_1 (hl.n (k := 35) (by decide)) (hl.k (k := 35) (by decide)) (by decide) (v := nI y) hy ?_
  refine Z.istore_n B dX1_addWay_4 (by decide) (L' := [(0, .ref 35), (1, .int (nI 1)), (2, .int (nI pa)), (3, .int (nI y))]) rfl ?_
  refine Z.iload_n B dX1_addWay_5 (x := nI y) rfl ?_
  refine Z.bipush B dX1_addWay_6 (v := nI 8) rfl ?_
  refine Z.icmp_ltN B dX1_addWay_8 (tgt := 13) rfl (by omega) (by omega) (fun h8 => ?_) (fun h8 => by exfalso; first | omega | contradiction | simp_all)
  refine Z.iload_n B dX1_addWay_13 (x := nI 1) rfl ?_
  refine Z.tabIn B dX1_addWay_14 (by decide) (by decide) (off := 38) (by decide) (tgt := 52) rfl ?_
  refine Z.aload_n B dX1_addWay_52 (v := .ref 35) rfl rfl ?_
  refine Z.getR (σ := σ) B fX1_27_1 dX1_addWay_53 (hl.n (k := 35) (by decide)) (hl.k (k := 35) (by decide)) (by decide) (j := 39) (hl.r (k := 35) (f := 6) (by decide) (by decide)) ?_
  refine Z.iload_n B dX1_addWay_56 (x := nI y) rfl ?_
  refine Z.new (σ := σ) B (ci := 7) (N := 4) dX1_addWay_57 (zT_at 475 (by decide +kernel) rfl) rfl (by decide) rfl (zT_at 476 (by decide +kernel) rfl) (zT_at 72 (by decide +kernel) rfl) zDf_7 hcl (zall66L rfl hl.1) (zall66S rfl hl.1) (by rw [hn0]; exact Nat.le_refl _) (by decide) (by decide) ?_
  have hl2 : Lay (zNew σ 7 0) := hl.new
  refine Z.dup B dX1_addWay_60 rfl ?_
  refine Z.iload_n B dX1_addWay_61 (x := nI 1) rfl ?_
  refine Z.iload_n B dX1_addWay_62 (x := nI y) rfl ?_
  refine Z.iload_n B dX1_addWay_63 (x := nI pa) rfl ?_
  refine Z.aload_n B dX1_addWay_64 (v := .ref 35) rfl rfl ?_
  refine Z.getR (σ := (zNew σ 7 0)) B fX1_9_1 dX1_addWay_65 (hl2.n (k := 35) (by decide)) (hl2.k (k := 35) (by decide)) (by decide) (j := 18) (hl2.r (k := 35) (f := 0) (by decide) (by decide)) ?_
  refine Z.callIN (σ := (zNew σ 7 0)) B (M' := mX7_init) (as := [.int (nI 1), .int (nI y), .int (nI pa), .ref 18]) (st := [.ref (zN σ), .int (nI y), .ref 39]) dX1_addWay_68 wX7_init iX7_init kX1_65 rfl rfl (t_init_X7_init_7 (σ := (zNew σ 7 0)) hl2 (k := zN σ) (kd := 1) (num := y) (pa := pa) (by rw [zNew_n.1]; exact Nat.lt_succ_self _) zNew_n.2.1) rfl rfl (by decide) (by decide) (Nat.le_of_ble_eq_true rfl) (by decide) (by decide) ?_
  refine Z.eqσ (τ := (zuR (zuX (zNew σ 7 0) (zN σ) (upd (upd (upd (zX (zNew σ 7 0) (zN σ)) 0 (nI 1)) 1 (nI y)) 2 (nI pa))) (zN σ) (va_up (zR (zNew σ 7 0) (zN σ)) 3 (some 18)))) rfl ?_
  refine Z.eqσ (τ := (wS σ 7 1 y pa)) rfl ?_
  have hl3 : Lay (wS σ 7 1 y pa) := hl.wS
  have h66 := hl.1
  have hr24 : zR (wS σ 7 1 y pa) 39 = zR σ 39 := (wS_o (by omega)).2.2.2.2
  have hx20 : zX (wS σ 7 1 y pa) 35 = zX σ 35 := (wS_o (by omega)).2.2.1
  refine Z.astY (σ := (wS σ 7 1 y pa)) B (n := 8) (q := zN σ) dX1_addWay_71 (hl3.n (k := 39) (by decide)) (hl3.k (k := 39) (by decide)) (hl3.l (k := 39) (by decide)) (by decide) (j := y) rfl (by omega) (ci := 7) (by rw [wS_n.1]; exact Nat.lt_succ_self _) wS_n.2.1 (by unfold zIsW; decide) (τ := (zuR (wS σ 7 1 y pa) 39 (va_up (zR σ 39) y (some (zN σ))))) (by rw [hr24]) ?_
  refine Z.goto B dX1_addWay_72 (tgt := 210) rfl ?_
  refine Z.aload_n B dX1_addWay_210 (v := .ref 35) rfl rfl ?_
  refine Z.dup B dX1_addWay_211 rfl ?_
  refine Z.getI (σ := (zuR (wS σ 7 1 y pa) 39 (va_up (zR σ 39) y (some (zN σ))))) B fX1_44_1 dX1_addWay_212 (hl3.n (k := 35) (by decide)) (hl3.k (k := 35) (by decide)) (by decide) (v := nI y) (by rw [show zX (zuR (wS σ 7 1 y pa) 39 (va_up (zR σ 39) y (some (zN σ)))) 35 = zX σ 35 from hx20]; exact hy) ?_
  refine Z.iconst B dX1_addWay_215 (v := nI 1) rfl ?_
  refine Z.iaddN B dX1_addWay_216 (a := y) (b := 1) ?_
  refine Z.putI (σ := (zuR (wS σ 7 1 y pa) 39 (va_up (zR σ 39) y (some (zN σ))))) B fX1_44_1 (ty := .int) ⟨_, _, _, rfl, rfl, by decide +kernel⟩ dX1_addWay_217 (hl3.n (k := 35) (by decide)) (hl3.k (k := 35) (by decide)) (by decide) rfl rfl (τ := (zuX (zuR (wS σ 7 1 y pa) 39 (va_up (zR σ 39) y (some (zN σ)))) 35 (upd (zX σ 35) 7 (nI (y + 1))))) (by rw [show zX (zuR (wS σ 7 1 y pa) 39 (va_up (zR σ 39) y (some (zN σ)))) 35 = zX σ 35 from hx20]) ?_
  refine Z.iload_n B dX1_addWay_220 (x := nI y) rfl ?_
  refine Z.iret B Rt dX1_addWay_221 (ty := .int) rfl rfl (by decide) (by decide) ?_
  exact ⟨rfl, rfl⟩

theorem t_X1_addWay_d_2 {σ : zSt} {n a y : Nat} (hl : Lay σ) (hn : zX σ 35 2 = nI n) (hn8 : n ≤ 8) (ha : zX σ 35 5 = nI a) (ha4 : a ≤ 4) (hy : zX σ 35 7 = nI y) (hy8 : y ≤ 8) (hcl : zCl σ) (h8 : y < 8) {pa : Nat} : Dt mX1_addWay [.ref 35, .int (nI 2), .int (nI pa)] σ (some (.int (nI y))) (aW σ 35 2 pa y) := by
  refine Dt.ofN (by decide) (Nat.le_of_ble_eq_true rfl) fun κ B Rt hn0 => ?_
  show Z κ 0 0 σ 0 [(0, .ref 35), (1, .int (nI 2)), (2, .int (nI pa))] []
  refine Z.aload_n B dX1_addWay_0 (v := .ref 35) rfl rfl ?_
  refine Z.getI (σ := σ) B fX1_44_1 dX1_addWay_1 (hl.n (k := 35) (by decide)) (hl.k (k := 35) (by decide)) (by decide) (v := nI y) hy ?_
  refine Z.istore_n B dX1_addWay_4 (by decide) (L' := [(0, .ref 35), (1, .int (nI 2)), (2, .int (nI pa)), (3, .int (nI y))]) rfl ?_
  refine Z.iload_n B dX1_addWay_5 (x := nI y) rfl ?_
  refine Z.bipush B dX1_addWay_6 (v := nI 8) rfl ?_
  refine Z.icmp_ltN B dX1_addWay_8 (tgt := 13) rfl (by omega) (by omega) (fun h8 => ?_) (fun h8 => by exfalso; first | omega | contradiction | simp_all)
  refine Z.iload_n B dX1_addWay_13 (x := nI 2) rfl ?_
  refine Z.tabIn B dX1_addWay_14 (by decide) (by decide) (off := 61) (by decide) (tgt := 75) rfl ?_
  refine Z.aload_n B dX1_addWay_75 (v := .ref 35) rfl rfl ?_
  refine Z.getR (σ := σ) B fX1_27_1 dX1_addWay_76 (hl.n (k := 35) (by decide)) (hl.k (k := 35) (by decide)) (by decide) (j := 39) (hl.r (k := 35) (f := 6) (by decide) (by decide)) ?_
  refine Z.iload_n B dX1_addWay_79 (x := nI y) rfl ?_
  refine Z.new (σ := σ) B (ci := 4) (N := 4) dX1_addWay_80 (zT_at 522 (by decide +kernel) rfl) rfl (by decide) rfl (zT_at 523 (by decide +kernel) rfl) (zT_at 73 (by decide +kernel) rfl) zDf_4 hcl (zall66L rfl hl.1) (zall66S rfl hl.1) (by rw [hn0]; exact Nat.le_refl _) (by decide) (by decide) ?_
  have hl2 : Lay (zNew σ 4 0) := hl.new
  refine Z.dup B dX1_addWay_83 rfl ?_
  refine Z.iload_n B dX1_addWay_84 (x := nI 2) rfl ?_
  refine Z.iload_n B dX1_addWay_85 (x := nI y) rfl ?_
  refine Z.iload_n B dX1_addWay_86 (x := nI pa) rfl ?_
  refine Z.aload_n B dX1_addWay_87 (v := .ref 35) rfl rfl ?_
  refine Z.getR (σ := (zNew σ 4 0)) B fX1_9_1 dX1_addWay_88 (hl2.n (k := 35) (by decide)) (hl2.k (k := 35) (by decide)) (by decide) (j := 18) (hl2.r (k := 35) (f := 0) (by decide) (by decide)) ?_
  refine Z.callIN (σ := (zNew σ 4 0)) B (M' := mX4_init) (as := [.int (nI 2), .int (nI y), .int (nI pa), .ref 18]) (st := [.ref (zN σ), .int (nI y), .ref 39]) dX1_addWay_91 wX4_init iX4_init kX1_70 rfl rfl (t_init_X4_init_4 (σ := (zNew σ 4 0)) hl2 (k := zN σ) (kd := 2) (num := y) (pa := pa) (by rw [zNew_n.1]; exact Nat.lt_succ_self _) zNew_n.2.1) rfl rfl (by decide) (by decide) (Nat.le_of_ble_eq_true rfl) (by decide) (by decide) ?_
  refine Z.eqσ (τ := (zuR (zuX (zNew σ 4 0) (zN σ) (upd (upd (upd (zX (zNew σ 4 0) (zN σ)) 0 (nI 2)) 1 (nI y)) 2 (nI pa))) (zN σ) (va_up (zR (zNew σ 4 0) (zN σ)) 3 (some 18)))) rfl ?_
  refine Z.eqσ (τ := (wS σ 4 2 y pa)) rfl ?_
  have hl3 : Lay (wS σ 4 2 y pa) := hl.wS
  have h66 := hl.1
  have hr24 : zR (wS σ 4 2 y pa) 39 = zR σ 39 := (wS_o (by omega)).2.2.2.2
  have hx20 : zX (wS σ 4 2 y pa) 35 = zX σ 35 := (wS_o (by omega)).2.2.1
  refine Z.astY (σ := (wS σ 4 2 y pa)) B (n := 8) (q := zN σ) dX1_addWay_94 (hl3.n (k := 39) (by decide)) (hl3.k (k := 39) (by decide)) (hl3.l (k := 39) (by decide)) (by decide) (j := y) rfl (by omega) (ci := 4) (by rw [wS_n.1]; exact Nat.lt_succ_self _) wS_n.2.1 (by unfold zIsW; decide) (τ := (zuR (wS σ 4 2 y pa) 39 (va_up (zR σ 39) y (some (zN σ))))) (by rw [hr24]) ?_
  refine Z.goto B dX1_addWay_95 (tgt := 210) rfl ?_
  refine Z.aload_n B dX1_addWay_210 (v := .ref 35) rfl rfl ?_
  refine Z.dup B dX1_addWay_211 rfl ?_
  refine Z.getI (σ := (zuR (wS σ 4 2 y pa) 39 (va_up (zR σ 39) y (some (zN σ))))) B fX1_44_1 dX1_addWay_212 (hl3.n (k := 35) (by decide)) (hl3.k (k := 35) (by decide)) (by decide) (v := nI y) (by rw [show zX (zuR (wS σ 4 2 y pa) 39 (va_up (zR σ 39) y (some (zN σ)))) 35 = zX σ 35 from hx20]; exact hy) ?_
  refine Z.iconst B dX1_addWay_215 (v := nI 1) rfl ?_
  refine Z.iaddN B dX1_addWay_216 (a := y) (b := 1) ?_
  refine Z.putI (σ := (zuR (wS σ 4 2 y pa) 39 (va_up (zR σ 39) y (some (zN σ))))) B fX1_44_1 (ty := .int) ⟨_, _, _, rfl, rfl, by decide +kernel⟩ dX1_addWay_217 (hl3.n (k := 35) (by decide)) (hl3.k (k := 35) (by decide)) (by decide) rfl rfl (τ := (zuX (zuR (wS σ 4 2 y pa) 39 (va_up (zR σ 39) y (some (zN σ)))) 35 (upd (zX σ 35) 7 (nI (y + 1))))) (by rw [show zX (zuR (wS σ 4 2 y pa) 39 (va_up (zR σ 39) y (some (zN σ)))) 35 = zX σ 35 from hx20]) ?_
  refine Z.iload_n B dX1_addWay_220 (x := nI y) rfl ?_
  refine Z.iret B Rt dX1_addWay_221 (ty := .int) rfl rfl (by decide) (by decide) ?_
  exact ⟨rfl, rfl⟩

theorem t_X1_addWay_d_3 {σ : zSt} {n a y : Nat} (hl : Lay σ) (hn : zX σ 35 2 = nI n) (hn8 : n ≤ 8) (ha : zX σ 35 5 = nI a) (ha4 : a ≤ 4) (hy : zX σ 35 7 = nI y) (hy8 : y ≤ 8) (hcl : zCl σ) (h8 : y < 8) {pa : Nat} : Dt mX1_addWay [.ref 35, .int (nI 3), .int (nI pa)] σ (some (.int (nI y))) (aW σ 35 3 pa y) := by
  refine Dt.ofN (by decide) (Nat.le_of_ble_eq_true rfl) fun κ B Rt hn0 => ?_
  show Z κ 0 0 σ 0 [(0, .ref 35), (1, .int (nI 3)), (2, .int (nI pa))] []
  refine Z.aload_n B dX1_addWay_0 (v := .ref 35) rfl rfl ?_
  refine Z.getI (σ := σ) B fX1_44_1 dX1_addWay_1 (hl.n (k := 35) (by decide)) (hl.k (k := 35) (by decide)) (by decide) (v := nI y) hy ?_
  refine Z.istore_n B dX1_addWay_4 (by decide) (L' := [(0, .ref 35), (1, .int (nI 3)), (2, .int (nI pa)), (3, .int (nI y))]) rfl ?_
  refine Z.iload_n B dX1_addWay_5 (x := nI y) rfl ?_
  refine Z.bipush B dX1_addWay_6 (v := nI 8) rfl ?_
  refine Z.icmp_ltN B dX1_addWay_8 (tgt := 13) rfl (by omega) (by omega) (fun h8 => ?_) (fun h8 => by exfalso; first | omega | contradiction | simp_all)
  refine Z.iload_n B dX1_addWay_13 (x := nI 3) rfl ?_
  refine Z.tabIn B dX1_addWay_14 (by decide) (by decide) (off := 84) (by decide) (tgt := 98) rfl ?_
  refine Z.aload_n B dX1_addWay_98 (v := .ref 35) rfl rfl ?_
  refine Z.getR (σ := σ) B fX1_27_1 dX1_addWay_99 (hl.n (k := 35) (by decide)) (hl.k (k := 35) (by decide)) (by decide) (j := 39) (hl.r (k := 35) (f := 6) (by decide) (by decide)) ?_
  refine Z.iload_n B dX1_addWay_102 (x := nI y) rfl ?_
  refine Z.new (σ := σ) B (ci := 10) (N := 4) dX1_addWay_103 (zT_at 532 (by decide +kernel) rfl) rfl (by decide) rfl (zT_at 533 (by decide +kernel) rfl) (zT_at 74 (by decide +kernel) rfl) zDf_10 hcl (zall66L rfl hl.1) (zall66S rfl hl.1) (by rw [hn0]; exact Nat.le_refl _) (by decide) (by decide) ?_
  have hl2 : Lay (zNew σ 10 0) := hl.new
  refine Z.dup B dX1_addWay_106 rfl ?_
  refine Z.iload_n B dX1_addWay_107 (x := nI 3) rfl ?_
  refine Z.iload_n B dX1_addWay_108 (x := nI y) rfl ?_
  refine Z.iload_n B dX1_addWay_109 (x := nI pa) rfl ?_
  refine Z.aload_n B dX1_addWay_110 (v := .ref 35) rfl rfl ?_
  refine Z.getR (σ := (zNew σ 10 0)) B fX1_9_1 dX1_addWay_111 (hl2.n (k := 35) (by decide)) (hl2.k (k := 35) (by decide)) (by decide) (j := 18) (hl2.r (k := 35) (f := 0) (by decide) (by decide)) ?_
  refine Z.callIN (σ := (zNew σ 10 0)) B (M' := mX10_init) (as := [.int (nI 3), .int (nI y), .int (nI pa), .ref 18]) (st := [.ref (zN σ), .int (nI y), .ref 39]) dX1_addWay_114 wX10_init iX10_init kX1_73 rfl rfl (t_init_X10_init_10 (σ := (zNew σ 10 0)) hl2 (k := zN σ) (kd := 3) (num := y) (pa := pa) (by rw [zNew_n.1]; exact Nat.lt_succ_self _) zNew_n.2.1) rfl rfl (by decide) (by decide) (Nat.le_of_ble_eq_true rfl) (by decide) (by decide) ?_
  refine Z.eqσ (τ := (zuR (zuX (zNew σ 10 0) (zN σ) (upd (upd (upd (zX (zNew σ 10 0) (zN σ)) 0 (nI 3)) 1 (nI y)) 2 (nI pa))) (zN σ) (va_up (zR (zNew σ 10 0) (zN σ)) 3 (some 18)))) rfl ?_
  refine Z.eqσ (τ := (wS σ 10 3 y pa)) rfl ?_
  have hl3 : Lay (wS σ 10 3 y pa) := hl.wS
  have h66 := hl.1
  have hr24 : zR (wS σ 10 3 y pa) 39 = zR σ 39 := (wS_o (by omega)).2.2.2.2
  have hx20 : zX (wS σ 10 3 y pa) 35 = zX σ 35 := (wS_o (by omega)).2.2.1
  refine Z.astY (σ := (wS σ 10 3 y pa)) B (n := 8) (q := zN σ) dX1_addWay_117 (hl3.n (k := 39) (by decide)) (hl3.k (k := 39) (by decide)) (hl3.l (k := 39) (by decide)) (by decide) (j := y) rfl (by omega) (ci := 10) (by rw [wS_n.1]; exact Nat.lt_succ_self _) wS_n.2.1 (by unfold zIsW; decide) (τ := (zuR (wS σ 10 3 y pa) 39 (va_up (zR σ 39) y (some (zN σ))))) (by rw [hr24]) ?_
  refine Z.goto B dX1_addWay_118 (tgt := 210) rfl ?_
  refine Z.aload_n B dX1_addWay_210 (v := .ref 35) rfl rfl ?_
  refine Z.dup B dX1_addWay_211 rfl ?_
  refine Z.getI (σ := (zuR (wS σ 10 3 y pa) 39 (va_up (zR σ 39) y (some (zN σ))))) B fX1_44_1 dX1_addWay_212 (hl3.n (k := 35) (by decide)) (hl3.k (k := 35) (by decide)) (by decide) (v := nI y) (by rw [show zX (zuR (wS σ 10 3 y pa) 39 (va_up (zR σ 39) y (some (zN σ)))) 35 = zX σ 35 from hx20]; exact hy) ?_
  refine Z.iconst B dX1_addWay_215 (v := nI 1) rfl ?_
  refine Z.iaddN B dX1_addWay_216 (a := y) (b := 1) ?_
  refine Z.putI (σ := (zuR (wS σ 10 3 y pa) 39 (va_up (zR σ 39) y (some (zN σ))))) B fX1_44_1 (ty := .int) ⟨_, _, _, rfl, rfl, by decide +kernel⟩ dX1_addWay_217 (hl3.n (k := 35) (by decide)) (hl3.k (k := 35) (by decide)) (by decide) rfl rfl (τ := (zuX (zuR (wS σ 10 3 y pa) 39 (va_up (zR σ 39) y (some (zN σ)))) 35 (upd (zX σ 35) 7 (nI (y + 1))))) (by rw [show zX (zuR (wS σ 10 3 y pa) 39 (va_up (zR σ 39) y (some (zN σ)))) 35 = zX σ 35 from hx20]) ?_
  refine Z.iload_n B dX1_addWay_220 (x := nI y) rfl ?_
  refine Z.iret B Rt dX1_addWay_221 (ty := .int) rfl rfl (by decide) (by decide) ?_
  exact ⟨rfl, rfl⟩

theorem t_X1_addWay_d_4 {σ : zSt} {n a y : Nat} (hl : Lay σ) (hn : zX σ 35 2 = nI n) (hn8 : n ≤ 8) (ha : zX σ 35 5 = nI a) (ha4 : a ≤ 4) (hy : zX σ 35 7 = nI y) (hy8 : y ≤ 8) (hcl : zCl σ) (h8 : y < 8) {pa : Nat} : Dt mX1_addWay [.ref 35, .int (nI 4), .int (nI pa)] σ (some (.int (nI y))) (aW σ 35 4 pa y) := by
  refine Dt.ofN (by decide) (Nat.le_of_ble_eq_true rfl) fun κ B Rt hn0 => ?_
  show Z κ 0 0 σ 0 [(0, .ref 35), (1, .int (nI 4)), (2, .int (nI pa))] []
  refine Z.aload_n B dX1_addWay_0 (v := .ref 35) rfl rfl ?_
  refine Z.getI (σ := σ) B fX1_44_1 dX1_addWay_1 (hl.n (k := 35) (by decide)) (hl.k (k := 35) (by decide)) (by decide) (v := nI y) hy ?_
  refine Z.istore_n B dX1_addWay_4 (by decide) (L' := [(0, .ref 35), (1, .int (nI 4)), (2, .int (nI pa)), (3, .int (nI y))]) rfl ?_
  refine Z.iload_n B dX1_addWay_5 (x := nI y) rfl ?_
  refine Z.bipush B dX1_addWay_6 (v := nI 8) rfl ?_
  refine Z.icmp_ltN B dX1_addWay_8 (tgt := 13) rfl (by omega) (by omega) (fun h8 => ?_) (fun h8 => by exfalso; first | omega | contradiction | simp_all)
  refine Z.iload_n B dX1_addWay_13 (x := nI 4) rfl ?_
  refine Z.tabIn B dX1_addWay_14 (by decide) (by decide) (off := 107) (by decide) (tgt := 121) rfl ?_
  refine Z.aload_n B dX1_addWay_121 (v := .ref 35) rfl rfl ?_
  refine Z.getR (σ := σ) B fX1_27_1 dX1_addWay_122 (hl.n (k := 35) (by decide)) (hl.k (k := 35) (by decide)) (by decide) (j := 39) (hl.r (k := 35) (f := 6) (by decide) (by decide)) ?_
  refine Z.iload_n B dX1_addWay_125 (x := nI y) rfl ?_
  refine Z.new (σ := σ) B (ci := 3) (N := 4) dX1_addWay_126 (zT_at 543 (by decide +kernel) rfl) rfl (by decide) rfl (zT_at 544 (by decide +kernel) rfl) (zT_at 75 (by decide +kernel) rfl) zDf_3 hcl (zall66L rfl hl.1) (zall66S rfl hl.1) (by rw [hn0]; exact Nat.le_refl _) (by decide) (by decide) ?_
  have hl2 : Lay (zNew σ 3 0) := hl.new
  refine Z.dup B dX1_addWay_129 rfl ?_
  refine Z.iload_n B dX1_addWay_130 (x := nI 4) rfl ?_
  refine Z.iload_n B dX1_addWay_131 (x := nI y) rfl ?_
  refine Z.iload_n B dX1_addWay_132 (x := nI pa) rfl ?_
  refine Z.aload_n B dX1_addWay_133 (v := .ref 35) rfl rfl ?_
  refine Z.getR (σ := (zNew σ 3 0)) B fX1_9_1 dX1_addWay_134 (hl2.n (k := 35) (by decide)) (hl2.k (k := 35) (by decide)) (by decide) (j := 18) (hl2.r (k := 35) (f := 0) (by decide) (by decide)) ?_
  refine Z.callIN (σ := (zNew σ 3 0)) B (M' := mX3_init) (as := [.int (nI 4), .int (nI y), .int (nI pa), .ref 18]) (st := [.ref (zN σ), .int (nI y), .ref 39]) dX1_addWay_137 wX3_init iX3_init kX1_76 rfl rfl (t_init_X3_init_3 (σ := (zNew σ 3 0)) hl2 (k := zN σ) (kd := 4) (num := y) (pa := pa) (by rw [zNew_n.1]; exact Nat.lt_succ_self _) zNew_n.2.1) rfl rfl (by decide) (by decide) (Nat.le_of_ble_eq_true rfl) (by decide) (by decide) ?_
  refine Z.eqσ (τ := (zuR (zuX (zNew σ 3 0) (zN σ) (upd (upd (upd (zX (zNew σ 3 0) (zN σ)) 0 (nI 4)) 1 (nI y)) 2 (nI pa))) (zN σ) (va_up (zR (zNew σ 3 0) (zN σ)) 3 (some 18)))) rfl ?_
  refine Z.eqσ (τ := (wS σ 3 4 y pa)) rfl ?_
  have hl3 : Lay (wS σ 3 4 y pa) := hl.wS
  have h66 := hl.1
  have hr24 : zR (wS σ 3 4 y pa) 39 = zR σ 39 := (wS_o (by omega)).2.2.2.2
  have hx20 : zX (wS σ 3 4 y pa) 35 = zX σ 35 := (wS_o (by omega)).2.2.1
  refine Z.astY (σ := (wS σ 3 4 y pa)) B (n := 8) (q := zN σ) dX1_addWay_140 (hl3.n (k := 39) (by decide)) (hl3.k (k := 39) (by decide)) (hl3.l (k := 39) (by decide)) (by decide) (j := y) rfl (by omega) (ci := 3) (by rw [wS_n.1]; exact Nat.lt_succ_self _) wS_n.2.1 (by unfold zIsW; decide) (τ := (zuR (wS σ 3 4 y pa) 39 (va_up (zR σ 39) y (some (zN σ))))) (by rw [hr24]) ?_
  refine Z.goto B dX1_addWay_141 (tgt := 210) rfl ?_
  refine Z.aload_n B dX1_addWay_210 (v := .ref 35) rfl rfl ?_
  refine Z.dup B dX1_addWay_211 rfl ?_
  refine Z.getI (σ := (zuR (wS σ 3 4 y pa) 39 (va_up (zR σ 39) y (some (zN σ))))) B fX1_44_1 dX1_addWay_212 (hl3.n (k := 35) (by decide)) (hl3.k (k := 35) (by decide)) (by decide) (v := nI y) (by rw [show zX (zuR (wS σ 3 4 y pa) 39 (va_up (zR σ 39) y (some (zN σ)))) 35 = zX σ 35 from hx20]; exact hy) ?_
  refine Z.iconst B dX1_addWay_215 (v := nI 1) rfl ?_
  refine Z.iaddN B dX1_addWay_216 (a := y) (b := 1) ?_
  refine Z.putI (σ := (zuR (wS σ 3 4 y pa) 39 (va_up (zR σ 39) y (some (zN σ))))) B fX1_44_1 (ty := .int) ⟨_, _, _, rfl, rfl, by decide +kernel⟩ dX1_addWay_217 (hl3.n (k := 35) (by decide)) (hl3.k (k := 35) (by decide)) (by decide) rfl rfl (τ := (zuX (zuR (wS σ 3 4 y pa) 39 (va_up (zR σ 39) y (some (zN σ)))) 35 (upd (zX σ 35) 7 (nI (y + 1))))) (by rw [show zX (zuR (wS σ 3 4 y pa) 39 (va_up (zR σ 39) y (some (zN σ)))) 35 = zX σ 35 from hx20]) ?_
  refine Z.iload_n B dX1_addWay_220 (x := nI y) rfl ?_
  refine Z.iret B Rt dX1_addWay_221 (ty := .int) rfl rfl (by decide) (by decide) ?_
  exact ⟨rfl, rfl⟩

theorem t_X1_addWay_d_5 {σ : zSt} {n a y : Nat} (hl : Lay σ) (hn : zX σ 35 2 = nI n) (hn8 : n ≤ 8) (ha : zX σ 35 5 = nI a) (ha4 : a ≤ 4) (hy : zX σ 35 7 = nI y) (hy8 : y ≤ 8) (hcl : zCl σ) (h8 : y < 8) {pa : Nat} : Dt mX1_addWay [.ref 35, .int (nI 5), .int (nI pa)] σ (some (.int (nI y))) (aW σ 35 5 pa y) := by
  refine Dt.ofN (by decide) (Nat.le_of_ble_eq_true rfl) fun κ B Rt hn0 => ?_
  show Z κ 0 0 σ 0 [(0, .ref 35), (1, .int (nI 5)), (2, .int (nI pa))] []
  refine Z.aload_n B dX1_addWay_0 (v := .ref 35) rfl rfl ?_
  refine Z.getI (σ := σ) B fX1_44_1 dX1_addWay_1 (hl.n (k := 35) (by decide)) (hl.k (k := 35) (by decide)) (by decide) (v := nI y) hy ?_
  refine Z.istore_n B dX1_addWay_4 (by decide) (L' := [(0, .ref 35), (1, .int (nI 5)), (2, .int (nI pa)), (3, .int (nI y))]) rfl ?_
  refine Z.iload_n B dX1_addWay_5 (x := nI y) rfl ?_
  refine Z.bipush B dX1_addWay_6 (v := nI 8) rfl ?_
  refine Z.icmp_ltN B dX1_addWay_8 (tgt := 13) rfl (by omega) (by omega) (fun h8 => ?_) (fun h8 => by exfalso; first | omega | contradiction | simp_all)
  refine Z.iload_n B dX1_addWay_13 (x := nI 5) rfl ?_
  refine Z.tabIn B dX1_addWay_14 (by decide) (by decide) (off := 130) (by decide) (tgt := 144) rfl ?_
  refine Z.aload_n B dX1_addWay_144 (v := .ref 35) rfl rfl ?_
  refine Z.getR (σ := σ) B fX1_27_1 dX1_addWay_145 (hl.n (k := 35) (by decide)) (hl.k (k := 35) (by decide)) (by decide) (j := 39) (hl.r (k := 35) (f := 6) (by decide) (by decide)) ?_
  refine Z.iload_n B dX1_addWay_148 (x := nI y) rfl ?_
  refine Z.new (σ := σ) B (ci := 5) (N := 4) dX1_addWay_149 (zT_at 554 (by decide +kernel) rfl) rfl (by decide) rfl (zT_at 555 (by decide +kernel) rfl) (zT_at 76 (by decide +kernel) rfl) zDf_5 hcl (zall66L rfl hl.1) (zall66S rfl hl.1) (by rw [hn0]; exact Nat.le_refl _) (by decide) (by decide) ?_
  have hl2 : Lay (zNew σ 5 0) := hl.new
  refine Z.dup B dX1_addWay_152 rfl ?_
  refine Z.iload_n B dX1_addWay_153 (x := nI 5) rfl ?_
  refine Z.iload_n B dX1_addWay_154 (x := nI y) rfl ?_
  refine Z.iload_n B dX1_addWay_155 (x := nI pa) rfl ?_
  refine Z.aload_n B dX1_addWay_156 (v := .ref 35) rfl rfl ?_
  refine Z.getR (σ := (zNew σ 5 0)) B fX1_9_1 dX1_addWay_157 (hl2.n (k := 35) (by decide)) (hl2.k (k := 35) (by decide)) (by decide) (j := 18) (hl2.r (k := 35) (f := 0) (by decide) (by decide)) ?_
  refine Z.callIN (σ := (zNew σ 5 0)) B (M' := mX5_init) (as := [.int (nI 5), .int (nI y), .int (nI pa), .ref 18]) (st := [.ref (zN σ), .int (nI y), .ref 39]) dX1_addWay_160 wX5_init iX5_init kX1_79 rfl rfl (t_init_X5_init_5 (σ := (zNew σ 5 0)) hl2 (k := zN σ) (kd := 5) (num := y) (pa := pa) (by rw [zNew_n.1]; exact Nat.lt_succ_self _) zNew_n.2.1) rfl rfl (by decide) (by decide) (Nat.le_of_ble_eq_true rfl) (by decide) (by decide) ?_
  refine Z.eqσ (τ := (zuR (zuX (zNew σ 5 0) (zN σ) (upd (upd (upd (zX (zNew σ 5 0) (zN σ)) 0 (nI 5)) 1 (nI y)) 2 (nI pa))) (zN σ) (va_up (zR (zNew σ 5 0) (zN σ)) 3 (some 18)))) rfl ?_
  refine Z.eqσ (τ := (wS σ 5 5 y pa)) rfl ?_
  have hl3 : Lay (wS σ 5 5 y pa) := hl.wS
  have h66 := hl.1
  have hr24 : zR (wS σ 5 5 y pa) 39 = zR σ 39 := (wS_o (by omega)).2.2.2.2
  have hx20 : zX (wS σ 5 5 y pa) 35 = zX σ 35 := (wS_o (by omega)).2.2.1
  refine Z.astY (σ := (wS σ 5 5 y pa)) B (n := 8) (q := zN σ) dX1_addWay_163 (hl3.n (k := 39) (by decide)) (hl3.k (k := 39) (by decide)) (hl3.l (k := 39) (by decide)) (by decide) (j := y) rfl (by omega) (ci := 5) (by rw [wS_n.1]; exact Nat.lt_succ_self _) wS_n.2.1 (by unfold zIsW; decide) (τ := (zuR (wS σ 5 5 y pa) 39 (va_up (zR σ 39) y (some (zN σ))))) (by rw [hr24]) ?_
  refine Z.goto B dX1_addWay_164 (tgt := 210) rfl ?_
  refine Z.aload_n B dX1_addWay_210 (v := .ref 35) rfl rfl ?_
  refine Z.dup B dX1_addWay_211 rfl ?_
  refine Z.getI (σ := (zuR (wS σ 5 5 y pa) 39 (va_up (zR σ 39) y (some (zN σ))))) B fX1_44_1 dX1_addWay_212 (hl3.n (k := 35) (by decide)) (hl3.k (k := 35) (by decide)) (by decide) (v := nI y) (by rw [show zX (zuR (wS σ 5 5 y pa) 39 (va_up (zR σ 39) y (some (zN σ)))) 35 = zX σ 35 from hx20]; exact hy) ?_
  refine Z.iconst B dX1_addWay_215 (v := nI 1) rfl ?_
  refine Z.iaddN B dX1_addWay_216 (a := y) (b := 1) ?_
  refine Z.putI (σ := (zuR (wS σ 5 5 y pa) 39 (va_up (zR σ 39) y (some (zN σ))))) B fX1_44_1 (ty := .int) ⟨_, _, _, rfl, rfl, by decide +kernel⟩ dX1_addWay_217 (hl3.n (k := 35) (by decide)) (hl3.k (k := 35) (by decide)) (by decide) rfl rfl (τ := (zuX (zuR (wS σ 5 5 y pa) 39 (va_up (zR σ 39) y (some (zN σ)))) 35 (upd (zX σ 35) 7 (nI (y + 1))))) (by rw [show zX (zuR (wS σ 5 5 y pa) 39 (va_up (zR σ 39) y (some (zN σ)))) 35 = zX σ 35 from hx20]) ?_
  refine Z.iload_n B dX1_addWay_220 (x := nI y) rfl ?_
  refine Z.iret B Rt dX1_addWay_221 (ty := .int) rfl rfl (by decide) (by decide) ?_
  exact ⟨rfl, rfl⟩

theorem t_X1_addWay_d_6 {σ : zSt} {n a y : Nat} (hl : Lay σ) (hn : zX σ 35 2 = nI n) (hn8 : n ≤ 8) (ha : zX σ 35 5 = nI a) (ha4 : a ≤ 4) (hy : zX σ 35 7 = nI y) (hy8 : y ≤ 8) (hcl : zCl σ) (h8 : y < 8) {pa : Nat} : Dt mX1_addWay [.ref 35, .int (nI 6), .int (nI pa)] σ (some (.int (nI y))) (aW σ 35 6 pa y) := by
  refine Dt.ofN (by decide) (Nat.le_of_ble_eq_true rfl) fun κ B Rt hn0 => ?_
  show Z κ 0 0 σ 0 [(0, .ref 35), (1, .int (nI 6)), (2, .int (nI pa))] []
  refine Z.aload_n B dX1_addWay_0 (v := .ref 35) rfl rfl ?_
  refine Z.getI (σ := σ) B fX1_44_1 dX1_addWay_1 (hl.n (k := 35) (by decide)) (hl.k (k := 35) (by decide)) (by decide) (v := nI y) hy ?_
  refine Z.istore_n B dX1_addWay_4 (by decide) (L' := [(0, .ref 35), (1, .int (nI 6)), (2, .int (nI pa)), (3, .int (nI y))]) rfl ?_
  refine Z.iload_n B dX1_addWay_5 (x := nI y) rfl ?_
  refine Z.bipush B dX1_addWay_6 (v := nI 8) rfl ?_
  refine Z.icmp_ltN B dX1_addWay_8 (tgt := 13) rfl (by omega) (by omega) (fun h8 => ?_) (fun h8 => by exfalso; first | omega | contradiction | simp_all)
  refine Z.iload_n B dX1_addWay_13 (x := nI 6) rfl ?_
  refine Z.tabIn B dX1_addWay_14 (by decide) (by decide) (off := 153) (by decide) (tgt := 167) rfl ?_
  refine Z.aload_n B dX1_addWay_167 (v := .ref 35) rfl rfl ?_
  refine Z.getR (σ := σ) B fX1_27_1 dX1_addWay_168 (hl.n (k := 35) (by decide)) (hl.k (k := 35) (by decide)) (by decide) (j := 39) (hl.r (k := 35) (f := 6) (by decide) (by decide)) ?_
  refine Z.iload_n B dX1_addWay_171 (x := nI y) rfl ?_
  refine Z.new (σ := σ) B (ci := 0) (N := 4) dX1_addWay_172 (zT_at 565 (by decide +kernel) rfl) rfl (by decide) rfl (zT_at 566 (by decide +kernel) rfl) (zT_at 77 (by decide +kernel) rfl) zDf_0 hcl (zall66L rfl hl.1) (zall66S rfl hl.1) (by rw [hn0]; exact Nat.le_refl _) (by decide) (by decide) ?_
  have hl2 : Lay (zNew σ 0 0) := hl.new
  refine Z.dup B dX1_addWay_175 rfl ?_
  refine Z.iload_n B dX1_addWay_176 (x := nI 6) rfl ?_
  refine Z.iload_n B dX1_addWay_177 (x := nI y) rfl ?_
  refine Z.iload_n B dX1_addWay_178 (x := nI pa) rfl ?_
  refine Z.aload_n B dX1_addWay_179 (v := .ref 35) rfl rfl ?_
  refine Z.getR (σ := (zNew σ 0 0)) B fX1_9_1 dX1_addWay_180 (hl2.n (k := 35) (by decide)) (hl2.k (k := 35) (by decide)) (by decide) (j := 18) (hl2.r (k := 35) (f := 0) (by decide) (by decide)) ?_
  refine Z.callIN (σ := (zNew σ 0 0)) B (M' := mX0_init) (as := [.int (nI 6), .int (nI y), .int (nI pa), .ref 18]) (st := [.ref (zN σ), .int (nI y), .ref 39]) dX1_addWay_183 wX0_init iX0_init kX1_82 rfl rfl (t_init_X0_init_0 (σ := (zNew σ 0 0)) hl2 (k := zN σ) (kd := 6) (num := y) (pa := pa) (by rw [zNew_n.1]; exact Nat.lt_succ_self _) zNew_n.2.1) rfl rfl (by decide) (by decide) (Nat.le_of_ble_eq_true rfl) (by decide) (by decide) ?_
  refine Z.eqσ (τ := (zuR (zuX (zNew σ 0 0) (zN σ) (upd (upd (upd (zX (zNew σ 0 0) (zN σ)) 0 (nI 6)) 1 (nI y)) 2 (nI pa))) (zN σ) (va_up (zR (zNew σ 0 0) (zN σ)) 3 (some 18)))) rfl ?_
  refine Z.eqσ (τ := (wS σ 0 6 y pa)) rfl ?_
  have hl3 : Lay (wS σ 0 6 y pa) := hl.wS
  have h66 := hl.1
  have hr24 : zR (wS σ 0 6 y pa) 39 = zR σ 39 := (wS_o (by omega)).2.2.2.2
  have hx20 : zX (wS σ 0 6 y pa) 35 = zX σ 35 := (wS_o (by omega)).2.2.1
  refine Z.astY (σ := (wS σ 0 6 y pa)) B (n := 8) (q := zN σ) dX1_addWay_186 (hl3.n (k := 39) (by decide)) (hl3.k (k := 39) (by decide)) (hl3.l (k := 39) (by decide)) (by decide) (j := y) rfl (by omega) (ci := 0) (by rw [wS_n.1]; exact Nat.lt_succ_self _) wS_n.2.1 (by unfold zIsW; decide) (τ := (zuR (wS σ 0 6 y pa) 39 (va_up (zR σ 39) y (some (zN σ))))) (by rw [hr24]) ?_
  refine Z.goto B dX1_addWay_187 (tgt := 210) rfl ?_
  refine Z.aload_n B dX1_addWay_210 (v := .ref 35) rfl rfl ?_
  refine Z.dup B dX1_addWay_211 rfl ?_
  refine Z.getI (σ := (zuR (wS σ 0 6 y pa) 39 (va_up (zR σ 39) y (some (zN σ))))) B fX1_44_1 dX1_addWay_212 (hl3.n (k := 35) (by decide)) (hl3.k (k := 35) (by decide)) (by decide) (v := nI y) (by rw [show zX (zuR (wS σ 0 6 y pa) 39 (va_up (zR σ 39) y (some (zN σ)))) 35 = zX σ 35 from hx20]; exact hy) ?_
  refine Z.iconst B dX1_addWay_215 (v := nI 1) rfl ?_
  refine Z.iaddN B dX1_addWay_216 (a := y) (b := 1) ?_
  refine Z.putI (σ := (zuR (wS σ 0 6 y pa) 39 (va_up (zR σ 39) y (some (zN σ))))) B fX1_44_1 (ty := .int) ⟨_, _, _, rfl, rfl, by decide +kernel⟩ dX1_addWay_217 (hl3.n (k := 35) (by decide)) (hl3.k (k := 35) (by decide)) (by decide) rfl rfl (τ := (zuX (zuR (wS σ 0 6 y pa) 39 (va_up (zR σ 39) y (some (zN σ)))) 35 (upd (zX σ 35) 7 (nI (y + 1))))) (by rw [show zX (zuR (wS σ 0 6 y pa) 39 (va_up (zR σ 39) y (some (zN σ)))) 35 = zX σ 35 from hx20]) ?_
  refine Z.iload_n B dX1_addWay_220 (x := nI y) rfl ?_
  refine Z.iret B Rt dX1_addWay_221 (ty := .int) rfl rfl (by decide) (by decide) ?_
  exact ⟨rfl, rfl⟩

theorem t_K_way_0_0 {σ : zSt} (hl : Lay σ) {n a y : Nat} (H : zHd σ n a y) (hcl : zCl σ) {v : Nat} (hv : v ≤ 99) (h8 : y < 8) : Dt mX11_way [.ref 0, .int (nI 0), .int (nI v)] σ (some (.int (nI y))) (aW σ 20 0 v y) := by
  obtain ⟨-, hn, hn8, ha, ha4, hy, hy8⟩ := id H
  refine Dt.ofN (by decide) (Nat.le_of_ble_eq_true rfl) fun κ B Rt hn0 => ?_
  show Z κ 0 0 σ 0 [(0, .ref 0), (1, .int (nI 0)), (2, .int (nI v))] []
  refine Z.iload_n B dX11_way_0 (x := nI 0) rfl ?_
  refine Z.gets B (x := 2) zKon2 (zT_at 469 (by decide +kernel) rfl) dX11_way_1 ?_
  refine Z.iconst B dX11_way_4 (v := nI 0) rfl ?_
  refine Z.cld B (j := 0) zKt2 dX11_way_5 (by decide) (by decide) (v := nI 6) rfl ?_
  refine Z.callSI (σ := σ) B (M' := mX11_isUpTo) (as := [.int (nI 0), .int (nI 6)]) (st := []) (v := .int (nI 1)) dX11_way_6 wX11_isUpTo iX11_isUpTo kX11_127 (t_X11_isUpTo_in (σ := σ) (i := 0) (n := 6) (by decide) (by decide)) rfl rfl (by decide) (by decide) (Nat.le_of_ble_eq_true rfl) (by decide) (by decide) ?_
  refine Z.if_neN B dX11_way_9 (tgt := 18) rfl (by omega) (fun h9 => ?_) (fun h9 => by exfalso; first | omega | contradiction | simp_all)
  refine Z.iload_n B dX11_way_18 (x := nI v) rfl ?_
  refine Z.gets B (x := 2) zKon2 (zT_at 469 (by decide +kernel) rfl) dX11_way_19 ?_
  refine Z.iconst B dX11_way_22 (v := nI 1) rfl ?_
  refine Z.cld B (j := 1) zKt2 dX11_way_23 (by decide) (by decide) (v := nI 99) rfl ?_
  refine Z.callSI (σ := σ) B (M' := mX11_isUpTo) (as := [.int (nI v), .int (nI 99)]) (st := []) (v := .int (nI 1)) dX11_way_24 wX11_isUpTo iX11_isUpTo kX11_127 (t_X11_isUpTo_in (σ := σ) hv (by decide)) rfl rfl (by decide) (by decide) (Nat.le_of_ble_eq_true rfl) (by decide) (by decide) ?_
  refine Z.if_neN B dX11_way_27 (tgt := 37) rfl (by omega) (fun h27 => ?_) (fun h27 => by exfalso; first | omega | contradiction | simp_all)
  refine Z.aload_n B dX11_way_37 (v := .ref 0) rfl rfl ?_
  refine Z.getR (σ := σ) B fX11_28_11 dX11_way_38 (hl.n (k := 0) (by decide)) (hl.k (k := 0) (by decide)) (by decide) (j := 20) (hl.r (k := 0) (f := 2) (by decide) (by decide)) ?_
  refine Z.iconst B dX11_way_41 (v := nI 2) rfl ?_
  refine Z.callVI (σ := σ) B (M' := mX1_hasRoomFor) (as := [.int (nI 2)]) (st := []) (v := .int (nI 1)) dX11_way_42 wX1_hasRoomFor iX1_hasRoomFor sX1_hasRoomFor kX11_130 (hl.n (k := 20) (by decide)) (hl.k (k := 20) (by decide)) (by decide) rfl rfl (t_X1_hasRoomFor_2_1 (σ := σ) hl hn hn8 ha ha4 hy hy8 h8) rfl rfl (by decide) (by decide) (Nat.le_of_ble_eq_true rfl) (by decide) (by decide) ?_
  refine Z.if_eqN B dX11_way_45 (tgt := 60) rfl (by omega) (fun h45 => by exfalso; first | omega | contradiction | simp_all) (fun h45 => ?_)
  refine Z.aload_n B dX11_way_48 (v := .ref 0) rfl rfl ?_
  refine Z.getR (σ := σ) B fX11_28_11 dX11_way_49 (hl.n (k := 0) (by decide)) (hl.k (k := 0) (by decide)) (by decide) (j := 20) (hl.r (k := 0) (f := 2) (by decide) (by decide)) ?_
  refine Z.iload_n B dX11_way_52 (x := nI 0) rfl ?_
  refine Z.iload_n B dX11_way_53 (x := nI v) rfl ?_
  refine Z.callVA (σ := σ) B (M' := mX1_addWay) (as := [.int (nI 0), .int (nI v)]) (st := []) dX11_way_54 wX1_addWay iX1_addWay sX1_addWay kX11_148 (hl.n (k := 20) (by decide)) (hl.k (k := 20) (by decide)) (by decide) rfl rfl (t_X1_addWay_0 hl hn hn8 ha ha4 hy hy8 hcl h8) rfl rfl (by decide) (by decide) (by decide) (by decide) (by decide) (by rw [hn0]; exact Nat.le_refl _) (zall66L rfl hl.1) (zall66S rfl hl.1) ?_
  show Z κ (0 + 1) (0 + 4) (aW σ 20 0 v y) 57 [(0, .ref 0), (1, .int (nI 0)), (2, .int (nI v))] [.int (nI y)]
  refine Z.goto B dX11_way_57 (tgt := 66) rfl ?_
  refine Z.iret B Rt dX11_way_66 (ty := .int) rfl rfl (by decide) (by decide) ?_
  exact ⟨rfl, rfl⟩

theorem t_K_way_0_1 {σ : zSt} (hl : Lay σ) {n a y : Nat} (H : zHd σ n a y) (hcl : zCl σ) {v : Nat} (hv : v ≤ 99) (h8 : y < 8) : Dt mX11_way [.ref 0, .int (nI 1), .int (nI v)] σ (some (.int (nI y))) (aW σ 20 1 v y) := by
  obtain ⟨-, hn, hn8, ha, ha4, hy, hy8⟩ := id H
  refine Dt.ofN (by decide) (Nat.le_of_ble_eq_true rfl) fun κ B Rt hn0 => ?_
  show Z κ 0 0 σ 0 [(0, .ref 0), (1, .int (nI 1)), (2, .int (nI v))] []
  refine Z.iload_n B dX11_way_0 (x := nI 1) rfl ?_
  refine Z.gets B (x := 2) zKon2 (zT_at 469 (by decide +kernel) rfl) dX11_way_1 ?_
  refine Z.iconst B dX11_way_4 (v := nI 0) rfl ?_
  refine Z.cld B (j := 0) zKt2 dX11_way_5 (by decide) (by decide) (v := nI 6) rfl ?_
  refine Z.callSI (σ := σ) B (M' := mX11_isUpTo) (as := [.int (nI 1), .int (nI 6)]) (st := []) (v := .int (nI 1)) dX11_way_6 wX11_isUpTo iX11_isUpTo kX11_127 (t_X11_isUpTo_in (σ := σ) (i := 1) (n := 6) (by decide) (by decide)) rfl rfl (by decide) (by decide) (Nat.le_of_ble_eq_true rfl) (by decide) (by decide) ?_
  refine Z.if_neN B dX11_way_9 (tgt := 18) rfl (by omega) (fun h9 => ?_) (fun h9 => by exfalso; first | omega | contradiction | simp_all)
  refine Z.iload_n B dX11_way_18 (x := nI v) rfl ?_
  refine Z.gets B (x := 2) zKon2 (zT_at 469 (by decide +kernel) rfl) dX11_way_19 ?_
  refine Z.iconst B dX11_way_22 (v := nI 1) rfl ?_
  refine Z.cld B (j := 1) zKt2 dX11_way_23 (by decide) (by decide) (v := nI 99) rfl ?_
  refine Z.callSI (σ := σ) B (M' := mX11_isUpTo) (as := [.int (nI v), .int (nI 99)]) (st := []) (v := .int (nI 1)) dX11_way_24 wX11_isUpTo iX11_isUpTo kX11_127 (t_X11_isUpTo_in (σ := σ) hv (by decide)) rfl rfl (by decide) (by decide) (Nat.le_of_ble_eq_true rfl) (by decide) (by decide) ?_
  refine Z.if_neN B dX11_way_27 (tgt := 37) rfl (by omega) (fun h27 => ?_) (fun h27 => by exfalso; first | omega | contradiction | simp_all)
  refine Z.aload_n B dX11_way_37 (v := .ref 0) rfl rfl ?_
  refine Z.getR (σ := σ) B fX11_28_11 dX11_way_38 (hl.n (k := 0) (by decide)) (hl.k (k := 0) (by decide)) (by decide) (j := 20) (hl.r (k := 0) (f := 2) (by decide) (by decide)) ?_
  refine Z.iconst B dX11_way_41 (v := nI 2) rfl ?_
  refine Z.callVI (σ := σ) B (M' := mX1_hasRoomFor) (as := [.int (nI 2)]) (st := []) (v := .int (nI 1)) dX11_way_42 wX1_hasRoomFor iX1_hasRoomFor sX1_hasRoomFor kX11_130 (hl.n (k := 20) (by decide)) (hl.k (k := 20) (by decide)) (by decide) rfl rfl (t_X1_hasRoomFor_2_1 (σ := σ) hl hn hn8 ha ha4 hy hy8 h8) rfl rfl (by decide) (by decide) (Nat.le_of_ble_eq_true rfl) (by decide) (by decide) ?_
  refine Z.if_eqN B dX11_way_45 (tgt := 60) rfl (by omega) (fun h45 => by exfalso; first | omega | contradiction | simp_all) (fun h45 => ?_)
  refine Z.aload_n B dX11_way_48 (v := .ref 0) rfl rfl ?_
  refine Z.getR (σ := σ) B fX11_28_11 dX11_way_49 (hl.n (k := 0) (by decide)) (hl.k (k := 0) (by decide)) (by decide) (j := 20) (hl.r (k := 0) (f := 2) (by decide) (by decide)) ?_
  refine Z.iload_n B dX11_way_52 (x := nI 1) rfl ?_
  refine Z.iload_n B dX11_way_53 (x := nI v) rfl ?_
  refine Z.callVA (σ := σ) B (M' := mX1_addWay) (as := [.int (nI 1), .int (nI v)]) (st := []) dX11_way_54 wX1_addWay iX1_addWay sX1_addWay kX11_148 (hl.n (k := 20) (by decide)) (hl.k (k := 20) (by decide)) (by decide) rfl rfl (t_X1_addWay_1 hl hn hn8 ha ha4 hy hy8 hcl h8) rfl rfl (by decide) (by decide) (by decide) (by decide) (by decide) (by rw [hn0]; exact Nat.le_refl _) (zall66L rfl hl.1) (zall66S rfl hl.1) ?_
  show Z κ (0 + 1) (0 + 4) (aW σ 20 1 v y) 57 [(0, .ref 0), (1, .int (nI 1)), (2, .int (nI v))] [.int (nI y)]
  refine Z.goto B dX11_way_57 (tgt := 66) rfl ?_
  refine Z.iret B Rt dX11_way_66 (ty := .int) rfl rfl (by decide) (by decide) ?_
  exact ⟨rfl, rfl⟩

theorem t_K_way_0_2 {σ : zSt} (hl : Lay σ) {n a y : Nat} (H : zHd σ n a y) (hcl : zCl σ) {v : Nat} (hv : v ≤ 99) (h8 : y < 8) : Dt mX11_way [.ref 0, .int (nI 2), .int (nI v)] σ (some (.int (nI y))) (aW σ 20 2 v y) := by
  obtain ⟨-, hn, hn8, ha, ha4, hy, hy8⟩ := id H
  refine Dt.ofN (by decide) (Nat.le_of_ble_eq_true rfl) fun κ B Rt hn0 => ?_
  show Z κ 0 0 σ 0 [(0, .ref 0), (1, .int (nI 2)), (2, .int (nI v))] []
  refine Z.iload_n B dX11_way_0 (x := nI 2) rfl ?_
  refine Z.gets B (x := 2) zKon2 (zT_at 469 (by decide +kernel) rfl) dX11_way_1 ?_
  refine Z.iconst B dX11_way_4 (v := nI 0) rfl ?_
  refine Z.cld B (j := 0) zKt2 dX11_way_5 (by decide) (by decide) (v := nI 6) rfl ?_
  refine Z.callSI (σ := σ) B (M' := mX11_isUpTo) (as := [.int (nI 2), .int (nI 6)]) (st := []) (v := .int (nI 1)) dX11_way_6 wX11_isUpTo iX11_isUpTo kX11_127 (t_X11_isUpTo_in (σ := σ) (i := 2) (n := 6) (by decide) (by decide)) rfl rfl (by decide) (by decide) (Nat.le_of_ble_eq_true rfl) (by decide) (by decide) ?_
  refine Z.if_neN B dX11_way_9 (tgt := 18) rfl (by omega) (fun h9 => ?_) (fun h9 => by exfalso; first | omega | contradiction | simp_all)
  refine Z.iload_n B dX11_way_18 (x := nI v) rfl ?_
  refine Z.gets B (x := 2) zKon2 (zT_at 469 (by decide +kernel) rfl) dX11_way_19 ?_
  refine Z.iconst B dX11_way_22 (v := nI 1) rfl ?_
  refine Z.cld B (j := 1) zKt2 dX11_way_23 (by decide) (by decide) (v := nI 99) rfl ?_
  refine Z.callSI (σ := σ) B (M' := mX11_isUpTo) (as := [.int (nI v), .int (nI 99)]) (st := []) (v := .int (nI 1)) dX11_way_24 wX11_isUpTo iX11_isUpTo kX11_127 (t_X11_isUpTo_in (σ := σ) hv (by decide)) rfl rfl (by decide) (by decide) (Nat.le_of_ble_eq_true rfl) (by decide) (by decide) ?_
  refine Z.if_neN B dX11_way_27 (tgt := 37) rfl (by omega) (fun h27 => ?_) (fun h27 => by exfalso; first | omega | contradiction | simp_all)
  refine Z.aload_n B dX11_way_37 (v := .ref 0) rfl rfl ?_
  refine Z.getR (σ := σ) B fX11_28_11 dX11_way_38 (hl.n (k := 0) (by decide)) (hl.k (k := 0) (by decide)) (by decide) (j := 20) (hl.r (k := 0) (f := 2) (by decide) (by decide)) ?_
  refine Z.iconst B dX11_way_41 (v := nI 2) rfl ?_
  refine Z.callVI (σ := σ) B (M' := mX1_hasRoomFor) (as := [.int (nI 2)]) (st := []) (v := .int (nI 1)) dX11_way_42 wX1_hasRoomFor iX1_hasRoomFor sX1_hasRoomFor kX11_130 (hl.n (k := 20) (by decide)) (hl.k (k := 20) (by decide)) (by decide) rfl rfl (t_X1_hasRoomFor_2_1 (σ := σ) hl hn hn8 ha ha4 hy hy8 h8) rfl rfl (by decide) (by decide) (Nat.le_of_ble_eq_true rfl) (by decide) (by decide) ?_
  refine Z.if_eqN B dX11_way_45 (tgt := 60) rfl (by omega) (fun h45 => by exfalso; first | omega | contradiction | simp_all) (fun h45 => ?_)
  refine Z.aload_n B dX11_way_48 (v := .ref 0) rfl rfl ?_
  refine Z.getR (σ := σ) B fX11_28_11 dX11_way_49 (hl.n (k := 0) (by decide)) (hl.k (k := 0) (by decide)) (by decide) (j := 20) (hl.r (k := 0) (f := 2) (by decide) (by decide)) ?_
  refine Z.iload_n B dX11_way_52 (x := nI 2) rfl ?_
  refine Z.iload_n B dX11_way_53 (x := nI v) rfl ?_
  refine Z.callVA (σ := σ) B (M' := mX1_addWay) (as := [.int (nI 2), .int (nI v)]) (st := []) dX11_way_54 wX1_addWay iX1_addWay sX1_addWay kX11_148 (hl.n (k := 20) (by decide)) (hl.k (k := 20) (by decide)) (by decide) rfl rfl (t_X1_addWay_2 hl hn hn8 ha ha4 hy hy8 hcl h8) rfl rfl (by decide) (by decide) (by decide) (by decide) (by decide) (by rw [hn0]; exact Nat.le_refl _) (zall66L rfl hl.1) (zall66S rfl hl.1) ?_
  show Z κ (0 + 1) (0 + 4) (aW σ 20 2 v y) 57 [(0, .ref 0), (1, .int (nI 2)), (2, .int (nI v))] [.int (nI y)]
  refine Z.goto B dX11_way_57 (tgt := 66) rfl ?_
  refine Z.iret B Rt dX11_way_66 (ty := .int) rfl rfl (by decide) (by decide) ?_
  exact ⟨rfl, rfl⟩

theorem t_K_way_0_3 {σ : zSt} (hl : Lay σ) {n a y : Nat} (H : zHd σ n a y) (hcl : zCl σ) {v : Nat} (hv : v ≤ 99) (h8 : y < 8) : Dt mX11_way [.ref 0, .int (nI 3), .int (nI v)] σ (some (.int (nI y))) (aW σ 20 3 v y) := by
  obtain ⟨-, hn, hn8, ha, ha4, hy, hy8⟩ := id H
  refine Dt.ofN (by decide) (Nat.le_of_ble_eq_true rfl) fun κ B Rt hn0 => ?_
  show Z κ 0 0 σ 0 [(0, .ref 0), (1, .int (nI 3)), (2, .int (nI v))] []
  refine Z.iload_n B dX11_way_0 (x := nI 3) rfl ?_
  refine Z.gets B (x := 2) zKon2 (zT_at 469 (by decide +kernel) rfl) dX11_way_1 ?_
  refine Z.iconst B dX11_way_4 (v := nI 0) rfl ?_
  refine Z.cld B (j := 0) zKt2 dX11_way_5 (by decide) (by decide) (v := nI 6) rfl ?_
  refine Z.callSI (σ := σ) B (M' := mX11_isUpTo) (as := [.int (nI 3), .int (nI 6)]) (st := []) (v := .int (nI 1)) dX11_way_6 wX11_isUpTo iX11_isUpTo kX11_127 (t_X11_isUpTo_in (σ := σ) (i := 3) (n := 6) (by decide) (by decide)) rfl rfl (by decide) (by decide) (Nat.le_of_ble_eq_true rfl) (by decide) (by decide) ?_
  refine Z.if_neN B dX11_way_9 (tgt := 18) rfl (by omega) (fun h9 => ?_) (fun h9 => by exfalso; first | omega | contradiction | simp_all)
  refine Z.iload_n B dX11_way_18 (x := nI v) rfl ?_
  refine Z.gets B (x := 2) zKon2 (zT_at 469 (by decide +kernel) rfl) dX11_way_19 ?_
  refine Z.iconst B dX11_way_22 (v := nI 1) rfl ?_
  refine Z.cld B (j := 1) zKt2 dX11_way_23 (by decide) (by decide) (v := nI 99) rfl ?_
  refine Z.callSI (σ := σ) B (M' := mX11_isUpTo) (as := [.int (nI v), .int (nI 99)]) (st := []) (v := .int (nI 1)) dX11_way_24 wX11_isUpTo iX11_isUpTo kX11_127 (t_X11_isUpTo_in (σ := σ) hv (by decide)) rfl rfl (by decide) (by decide) (Nat.le_of_ble_eq_true rfl) (by decide) (by decide) ?_
  refine Z.if_neN B dX11_way_27 (tgt := 37) rfl (by omega) (fun h27 => ?_) (fun h27 => by exfalso; first | omega | contradiction | simp_all)
  refine Z.aload_n B dX11_way_37 (v := .ref 0) rfl rfl ?_
  refine Z.getR (σ := σ) B fX11_28_11 dX11_way_38 (hl.n (k := 0) (by decide)) (hl.k (k := 0) (by decide)) (by decide) (j := 20) (hl.r (k := 0) (f := 2) (by decide) (by decide)) ?_
  refine Z.iconst B dX11_way_41 (v := nI 2) rfl ?_
  refine Z.callVI (σ := σ) B (M' := mX1_hasRoomFor) (as := [.int (nI 2)]) (st := []) (v := .int (nI 1)) dX11_way_42 wX1_hasRoomFor iX1_hasRoomFor sX1_hasRoomFor kX11_130 (hl.n (k := 20) (by decide)) (hl.k (k := 20) (by decide)) (by decide) rfl rfl (t_X1_hasRoomFor_2_1 (σ := σ) hl hn hn8 ha ha4 hy hy8 h8) rfl rfl (by decide) (by decide) (Nat.le_of_ble_eq_true rfl) (by decide) (by decide) ?_
  refine Z.if_eqN B dX11_way_45 (tgt := 60) rfl (by omega) (fun h45 => by exfalso; first | omega | contradiction | simp_all) (fun h45 => ?_)
  refine Z.aload_n B dX11_way_48 (v := .ref 0) rfl rfl ?_
  refine Z.getR (σ := σ) B fX11_28_11 dX11_way_49 (hl.n (k := 0) (by decide)) (hl.k (k := 0) (by decide)) (by decide) (j := 20) (hl.r (k := 0) (f := 2) (by decide) (by decide)) ?_
  refine Z.iload_n B dX11_way_52 (x := nI 3) rfl ?_
  refine Z.iload_n B dX11_way_53 (x := nI v) rfl ?_
  refine Z.callVA (σ := σ) B (M' := mX1_addWay) (as := [.int (nI 3), .int (nI v)]) (st := []) dX11_way_54 wX1_addWay iX1_addWay sX1_addWay kX11_148 (hl.n (k := 20) (by decide)) (hl.k (k := 20) (by decide)) (by decide) rfl rfl (t_X1_addWay_3 hl hn hn8 ha ha4 hy hy8 hcl h8) rfl rfl (by decide) (by decide) (by decide) (by decide) (by decide) (by rw [hn0]; exact Nat.le_refl _) (zall66L rfl hl.1) (zall66S rfl hl.1) ?_
  show Z κ (0 + 1) (0 + 4) (aW σ 20 3 v y) 57 [(0, .ref 0), (1, .int (nI 3)), (2, .int (nI v))] [.int (nI y)]
  refine Z.goto B dX11_way_57 (tgt := 66) rfl ?_
  refine Z.iret B Rt dX11_way_66 (ty := .int) rfl rfl (by decide) (by decide) ?_
  exact ⟨rfl, rfl⟩

theorem t_K_way_0_4 {σ : zSt} (hl : Lay σ) {n a y : Nat} (H : zHd σ n a y) (hcl : zCl σ) {v : Nat} (hv : v ≤ 99) (h8 : y < 8) : Dt mX11_way [.ref 0, .int (nI 4), .int (nI v)] σ (some (.int (nI y))) (aW σ 20 4 v y) := by
  obtain ⟨-, hn, hn8, ha, ha4, hy, hy8⟩ := id H
  refine Dt.ofN (by decide) (Nat.le_of_ble_eq_true rfl) fun κ B Rt hn0 => ?_
  show Z κ 0 0 σ 0 [(0, .ref 0), (1, .int (nI 4)), (2, .int (nI v))] []
  refine Z.iload_n B dX11_way_0 (x := nI 4) rfl ?_
  refine Z.gets B (x := 2) zKon2 (zT_at 469 (by decide +kernel) rfl) dX11_way_1 ?_
  refine Z.iconst B dX11_way_4 (v := nI 0) rfl ?_
  refine Z.cld B (j := 0) zKt2 dX11_way_5 (by decide) (by decide) (v := nI 6) rfl ?_
  refine Z.callSI (σ := σ) B (M' := mX11_isUpTo) (as := [.int (nI 4), .int (nI 6)]) (st := []) (v := .int (nI 1)) dX11_way_6 wX11_isUpTo iX11_isUpTo kX11_127 (t_X11_isUpTo_in (σ := σ) (i := 4) (n := 6) (by decide) (by decide)) rfl rfl (by decide) (by decide) (Nat.le_of_ble_eq_true rfl) (by decide) (by decide) ?_
  refine Z.if_neN B dX11_way_9 (tgt := 18) rfl (by omega) (fun h9 => ?_) (fun h9 => by exfalso; first | omega | contradiction | simp_all)
  refine Z.iload_n B dX11_way_18 (x := nI v) rfl ?_
  refine Z.gets B (x := 2) zKon2 (zT_at 469 (by decide +kernel) rfl) dX11_way_19 ?_
  refine Z.iconst B dX11_way_22 (v := nI 1) rfl ?_
  refine Z.cld B (j := 1) zKt2 dX11_way_23 (by decide) (by decide) (v := nI 99) rfl ?_
  refine Z.callSI (σ := σ) B (M' := mX11_isUpTo) (as := [.int (nI v), .int (nI 99)]) (st := []) (v := .int (nI 1)) dX11_way_24 wX11_isUpTo iX11_isUpTo kX11_127 (t_X11_isUpTo_in (σ := σ) hv (by decide)) rfl rfl (by decide) (by decide) (Nat.le_of_ble_eq_true rfl) (by decide) (by decide) ?_
  refine Z.if_neN B dX11_way_27 (tgt := 37) rfl (by omega) (fun h27 => ?_) (fun h27 => by exfalso; first | omega | contradiction | simp_all)
  refine Z.aload_n B dX11_way_37 (v := .ref 0) rfl rfl ?_
  refine Z.getR (σ := σ) B fX11_28_11 dX11_way_38 (hl.n (k := 0) (by decide)) (hl.k (k := 0) (by decide)) (by decide) (j := 20) (hl.r (k := 0) (f := 2) (by decide) (by decide)) ?_
  refine Z.iconst B dX11_way_41 (v := nI 2) rfl ?_
  refine Z.callVI (σ := σ) B (M' := mX1_hasRoomFor) (as := [.int (nI 2)]) (st := []) (v := .int (nI 1)) dX11_way_42 wX1_hasRoomFor iX1_hasRoomFor sX1_hasRoomFor kX11_130 (hl.n (k := 20) (by decide)) (hl.k (k := 20) (by decide)) (by decide) rfl rfl (t_X1_hasRoomFor_2_1 (σ := σ) hl hn hn8 ha ha4 hy hy8 h8) rfl rfl (by decide) (by decide) (Nat.le_of_ble_eq_true rfl) (by decide) (by decide) ?_
  refine Z.if_eqN B dX11_way_45 (tgt := 60) rfl (by omega) (fun h45 => by exfalso; first | omega | contradiction | simp_all) (fun h45 => ?_)
  refine Z.aload_n B dX11_way_48 (v := .ref 0) rfl rfl ?_
  refine Z.getR (σ := σ) B fX11_28_11 dX11_way_49 (hl.n (k := 0) (by decide)) (hl.k (k := 0) (by decide)) (by decide) (j := 20) (hl.r (k := 0) (f := 2) (by decide) (by decide)) ?_
  refine Z.iload_n B dX11_way_52 (x := nI 4) rfl ?_
  refine Z.iload_n B dX11_way_53 (x := nI v) rfl ?_
  refine Z.callVA (σ := σ) B (M' := mX1_addWay) (as := [.int (nI 4), .int (nI v)]) (st := []) dX11_way_54 wX1_addWay iX1_addWay sX1_addWay kX11_148 (hl.n (k := 20) (by decide)) (hl.k (k := 20) (by decide)) (by decide) rfl rfl (t_X1_addWay_4 hl hn hn8 ha ha4 hy hy8 hcl h8) rfl rfl (by decide) (by decide) (by decide) (by decide) (by decide) (by rw [hn0]; exact Nat.le_refl _) (zall66L rfl hl.1) (zall66S rfl hl.1) ?_
  show Z κ (0 + 1) (0 + 4) (aW σ 20 4 v y) 57 [(0, .ref 0), (1, .int (nI 4)), (2, .int (nI v))] [.int (nI y)]
  refine Z.goto B dX11_way_57 (tgt := 66) rfl ?_
  refine Z.iret B Rt dX11_way_66 (ty := .int) rfl rfl (by decide) (by decide) ?_
  exact ⟨rfl, rfl⟩

theorem t_K_way_0_5 {σ : zSt} (hl : Lay σ) {n a y : Nat} (H : zHd σ n a y) (hcl : zCl σ) {v : Nat} (hv : v ≤ 99) (h8 : y < 8) : Dt mX11_way [.ref 0, .int (nI 5), .int (nI v)] σ (some (.int (nI y))) (aW σ 20 5 v y) := by
  obtain ⟨-, hn, hn8, ha, ha4, hy, hy8⟩ := id H
  refine Dt.ofN (by decide) (Nat.le_of_ble_eq_true rfl) fun κ B Rt hn0 => ?_
  show Z κ 0 0 σ 0 [(0, .ref 0), (1, .int (nI 5)), (2, .int (nI v))] []
  refine Z.iload_n B dX11_way_0 (x := nI 5) rfl ?_
  refine Z.gets B (x := 2) zKon2 (zT_at 469 (by decide +kernel) rfl) dX11_way_1 ?_
  refine Z.iconst B dX11_way_4 (v := nI 0) rfl ?_
  refine Z.cld B (j := 0) zKt2 dX11_way_5 (by decide) (by decide) (v := nI 6) rfl ?_
  refine Z.callSI (σ := σ) B (M' := mX11_isUpTo) (as := [.int (nI 5), .int (nI 6)]) (st := []) (v := .int (nI 1)) dX11_way_6 wX11_isUpTo iX11_isUpTo kX11_127 (t_X11_isUpTo_in (σ := σ) (i := 5) (n := 6) (by decide) (by decide)) rfl rfl (by decide) (by decide) (Nat.le_of_ble_eq_true rfl) (by decide) (by decide) ?_
  refine Z.if_neN B dX11_way_9 (tgt := 18) rfl (by omega) (fun h9 => ?_) (fun h9 => by exfalso; first | omega | contradiction | simp_all)
  refine Z.iload_n B dX11_way_18 (x := nI v) rfl ?_
  refine Z.gets B (x := 2) zKon2 (zT_at 469 (by decide +kernel) rfl) dX11_way_19 ?_
  refine Z.iconst B dX11_way_22 (v := nI 1) rfl ?_
  refine Z.cld B (j := 1) zKt2 dX11_way_23 (by decide) (by decide) (v := nI 99) rfl ?_
  refine Z.callSI (σ := σ) B (M' := mX11_isUpTo) (as := [.int (nI v), .int (nI 99)]) (st := []) (v := .int (nI 1)) dX11_way_24 wX11_isUpTo iX11_isUpTo kX11_127 (t_X11_isUpTo_in (σ := σ) hv (by decide)) rfl rfl (by decide) (by decide) (Nat.le_of_ble_eq_true rfl) (by decide) (by decide) ?_
  refine Z.if_neN B dX11_way_27 (tgt := 37) rfl (by omega) (fun h27 => ?_) (fun h27 => by exfalso; first | omega | contradiction | simp_all)
  refine Z.aload_n B dX11_way_37 (v := .ref 0) rfl rfl ?_
  refine Z.getR (σ := σ) B fX11_28_11 dX11_way_38 (hl.n (k := 0) (by decide)) (hl.k (k := 0) (by decide)) (by decide) (j := 20) (hl.r (k := 0) (f := 2) (by decide) (by decide)) ?_
  refine Z.iconst B dX11_way_41 (v := nI 2) rfl ?_
  refine Z.callVI (σ := σ) B (M' := mX1_hasRoomFor) (as := [.int (nI 2)]) (st := []) (v := .int (nI 1)) dX11_way_42 wX1_hasRoomFor iX1_hasRoomFor sX1_hasRoomFor kX11_130 (hl.n (k := 20) (by decide)) (hl.k (k := 20) (by decide)) (by decide) rfl rfl (t_X1_hasRoomFor_2_1 (σ := σ) hl hn hn8 ha ha4 hy hy8 h8) rfl rfl (by decide) (by decide) (Nat.le_of_ble_eq_true rfl) (by decide) (by decide) ?_
  refine Z.if_eqN B dX11_way_45 (tgt := 60) rfl (by omega) (fun h45 => by exfalso; first | omega | contradiction | simp_all) (fun h45 => ?_)
  refine Z.aload_n B dX11_way_48 (v := .ref 0) rfl rfl ?_
  refine Z.getR (σ := σ) B fX11_28_11 dX11_way_49 (hl.n (k := 0) (by decide)) (hl.k (k := 0) (by decide)) (by decide) (j := 20) (hl.r (k := 0) (f := 2) (by decide) (by decide)) ?_
  refine Z.iload_n B dX11_way_52 (x := nI 5) rfl ?_
  refine Z.iload_n B dX11_way_53 (x := nI v) rfl ?_
  refine Z.callVA (σ := σ) B (M' := mX1_addWay) (as := [.int (nI 5), .int (nI v)]) (st := []) dX11_way_54 wX1_addWay iX1_addWay sX1_addWay kX11_148 (hl.n (k := 20) (by decide)) (hl.k (k := 20) (by decide)) (by decide) rfl rfl (t_X1_addWay_5 hl hn hn8 ha ha4 hy hy8 hcl h8) rfl rfl (by decide) (by decide) (by decide) (by decide) (by decide) (by rw [hn0]; exact Nat.le_refl _) (zall66L rfl hl.1) (zall66S rfl hl.1) ?_
  show Z κ (0 + 1) (0 + 4) (aW σ 20 5 v y) 57 [(0, .ref 0), (1, .int (nI 5)), (2, .int (nI v))] [.int (nI y)]
  refine Z.goto B dX11_way_57 (tgt := 66) rfl ?_
  refine Z.iret B Rt dX11_way_66 (ty := .int) rfl rfl (by decide) (by decide) ?_
  exact ⟨rfl, rfl⟩

theorem t_K_way_0_6 {σ : zSt} (hl : Lay σ) {n a y : Nat} (H : zHd σ n a y) (hcl : zCl σ) {v : Nat} (hv : v ≤ 99) (h8 : y < 8) : Dt mX11_way [.ref 0, .int (nI 6), .int (nI v)] σ (some (.int (nI y))) (aW σ 20 6 v y) := by
  obtain ⟨-, hn, hn8, ha, ha4, hy, hy8⟩ := id H
  refine Dt.ofN (by decide) (Nat.le_of_ble_eq_true rfl) fun κ B Rt hn0 => ?_
  show Z κ 0 0 σ 0 [(0, .ref 0), (1, .int (nI 6)), (2, .int (nI v))] []
  refine Z.iload_n B dX11_way_0 (x := nI 6) rfl ?_
  refine Z.gets B (x := 2) zKon2 (zT_at 469 (by decide +kernel) rfl) dX11_way_1 ?_
  refine Z.iconst B dX11_way_4 (v := nI 0) rfl ?_
  refine Z.cld B (j := 0) zKt2 dX11_way_5 (by decide) (by decide) (v := nI 6) rfl ?_
  refine Z.callSI (σ := σ) B (M' := mX11_isUpTo) (as := [.int (nI 6), .int (nI 6)]) (st := []) (v := .int (nI 1)) dX11_way_6 wX11_isUpTo iX11_isUpTo kX11_127 (t_X11_isUpTo_in (σ := σ) (i := 6) (n := 6) (by decide) (by decide)) rfl rfl (by decide) (by decide) (Nat.le_of_ble_eq_true rfl) (by decide) (by decide) ?_
  refine Z.if_neN B dX11_way_9 (tgt := 18) rfl (by omega) (fun h9 => ?_) (fun h9 => by exfalso; first | omega | contradiction | simp_all)
  refine Z.iload_n B dX11_way_18 (x := nI v) rfl ?_
  refine Z.gets B (x := 2) zKon2 (zT_at 469 (by decide +kernel) rfl) dX11_way_19 ?_
  refine Z.iconst B dX11_way_22 (v := nI 1) rfl ?_
  refine Z.cld B (j := 1) zKt2 dX11_way_23 (by decide) (by decide) (v := nI 99) rfl ?_
  refine Z.callSI (σ := σ) B (M' := mX11_isUpTo) (as := [.int (nI v), .int (nI 99)]) (st := []) (v := .int (nI 1)) dX11_way_24 wX11_isUpTo iX11_isUpTo kX11_127 (t_X11_isUpTo_in (σ := σ) hv (by decide)) rfl rfl (by decide) (by decide) (Nat.le_of_ble_eq_true rfl) (by decide) (by decide) ?_
  refine Z.if_neN B dX11_way_27 (tgt := 37) rfl (by omega) (fun h27 => ?_) (fun h27 => by exfalso; first | omega | contradiction | simp_all)
  refine Z.aload_n B dX11_way_37 (v := .ref 0) rfl rfl ?_
  refine Z.getR (σ := σ) B fX11_28_11 dX11_way_38 (hl.n (k := 0) (by decide)) (hl.k (k := 0) (by decide)) (by decide) (j := 20) (hl.r (k := 0) (f := 2) (by decide) (by decide)) ?_
  refine Z.iconst B dX11_way_41 (v := nI 2) rfl ?_
  refine Z.callVI (σ := σ) B (M' := mX1_hasRoomFor) (as := [.int (nI 2)]) (st := []) (v := .int (nI 1)) dX11_way_42 wX1_hasRoomFor iX1_hasRoomFor sX1_hasRoomFor kX11_130 (hl.n (k := 20) (by decide)) (hl.k (k := 20) (by decide)) (by decide) rfl rfl (t_X1_hasRoomFor_2_1 (σ := σ) hl hn hn8 ha ha4 hy hy8 h8) rfl rfl (by decide) (by decide) (Nat.le_of_ble_eq_true rfl) (by decide) (by decide) ?_
  refine Z.if_eqN B dX11_way_45 (tgt := 60) rfl (by omega) (fun h45 => by exfalso; first | omega | contradiction | simp_all) (fun h45 => ?_)
  refine Z.aload_n B dX11_way_48 (v := .ref 0) rfl rfl ?_
  refine Z.getR (σ := σ) B fX11_28_11 dX11_way_49 (hl.n (k := 0) (by decide)) (hl.k (k := 0) (by decide)) (by decide) (j := 20) (hl.r (k := 0) (f := 2) (by decide) (by decide)) ?_
  refine Z.iload_n B dX11_way_52 (x := nI 6) rfl ?_
  refine Z.iload_n B dX11_way_53 (x := nI v) rfl ?_
  refine Z.callVA (σ := σ) B (M' := mX1_addWay) (as := [.int (nI 6), .int (nI v)]) (st := []) dX11_way_54 wX1_addWay iX1_addWay sX1_addWay kX11_148 (hl.n (k := 20) (by decide)) (hl.k (k := 20) (by decide)) (by decide) rfl rfl (t_X1_addWay_6 hl hn hn8 ha ha4 hy hy8 hcl h8) rfl rfl (by decide) (by decide) (by decide) (by decide) (by decide) (by rw [hn0]; exact Nat.le_refl _) (zall66L rfl hl.1) (zall66S rfl hl.1) ?_
  show Z κ (0 + 1) (0 + 4) (aW σ 20 6 v y) 57 [(0, .ref 0), (1, .int (nI 6)), (2, .int (nI v))] [.int (nI y)]
  refine Z.goto B dX11_way_57 (tgt := 66) rfl ?_
  refine Z.iret B Rt dX11_way_66 (ty := .int) rfl rfl (by decide) (by decide) ?_
  exact ⟨rfl, rfl⟩
